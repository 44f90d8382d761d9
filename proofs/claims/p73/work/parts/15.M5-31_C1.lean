section
section
variable {p : Program} {l : Launch} {e : Env} {s : State} {m : MethodId} {args : Array Value} {below : List Frame} {meth : Method} {c : Code} {Q : State → Prop} {D : va_G} {ct : Nat → ClassId} {ad : Nat → Nat} {A : Nat → Prop} {lay : List sn_E}
-- X9_law
abbrev rmX9_law : Room := { frames := 5, cells := 0, slots := 0, locals := 117 }
def BX9_law_44 (σ : sn_S) (x1 : Int32) : Option ((Int32 × sn_S)) :=
  (some (x1, σ))
def BX9_law_37 (σ : sn_S) (x1 : Int32) (x2 : Int32) (t0 : Int32) : Option ((sn_S × Int32 × Int32) ⊕ (sn_S × Int32)) :=
  (sn_lt (x2 + 1) fun y_1 => (some (.inl (σ, t0, y_1))))
def BX9_law_14 (σ : sn_S) (x1 : Int32) (x2 : Int32) : Option ((sn_S × Int32 × Int32) ⊕ (sn_S × Int32)) :=
  (if (4 : Int32) ≤ x2 then
  (some (.inr (σ, x1)))
  else
  ((fX9_byLaw σ x2).bind fun t_2 => ((fX9_byLaw t_2.2 x1).bind fun t_4 => (if t_2.1 ≤ t_4.1 then
  (BX9_law_37 t_4.2 x1 x2 x1)
  else
  (BX9_law_37 t_4.2 x1 x2 x2)))))
def LX9_law_14  (s : sn_S × Int32 × Int32) : Option ((sn_S × Int32 × Int32) ⊕ (sn_S × Int32)) := BX9_law_14 s.1 s.2.1 s.2.2
def fX9_law (σ : sn_S) : Option (Int32 × sn_S) :=
  ((fX9_asksHouse σ).bind fun t_1 => (if t_1.1 = 0 then
  (some ((-2 : Int32), t_1.2))
  else
  ((sn_it (LX9_law_14 ) 5000 (t_1.2, (0 : Int32), (1 : Int32))).bind fun t_4 => (BX9_law_44 t_4.1 t_4.2))))
theorem wX9_law_44 (C : sn_C p s m args meth c RX9 cX9_law 3 (some .int) D ct ad layM A) {σ : sn_S} {x1 : Int32}  {o : (Int32 × sn_S)} (hf : BX9_law_44 σ x1 = some o) (kr : sn_Kr p l e rmX9_law s m args below meth c Q D ct ad layM A cX9_law .ireturn (true) o.2 [.int o.1]) : sn_At p l e rmX9_law s m args below meth c Q D ct ad layM A 3 σ 44 [(1, .int x1)] [] := by
  intro H locs ls hw hl
  have hx := C.1
  have hb := C.2.1
  unfold BX9_law_44 at hf
  refine lv_iload_n hx hb dX9_law_44 rfl (lv_at hl 0 rfl) ?_
  cases hf
  exact kr _ _ _ _ hw rfl dX9_law_45
theorem wX9_law_37 (C : sn_C p s m args meth c RX9 cX9_law 3 (some .int) D ct ad layM A) {σ : sn_S} {x1 : Int32} {x2 : Int32} {t0 : Int32}  {o : (sn_S × Int32 × Int32) ⊕ (sn_S × Int32)} (hf : BX9_law_37 σ x1 x2 t0 = some o) (kc : ∀ v, o = .inl v → sn_At p l e rmX9_law s m args below meth c Q D ct ad layM A 3 v.1 14 [(0, .ref (ad 0)), (1, .int v.2.1), (2, .int v.2.2)] []) (kx : ∀ v, o = .inr v → sn_At p l e rmX9_law s m args below meth c Q D ct ad layM A 3 v.1 44 [(1, .int v.2)] []) : sn_At p l e rmX9_law s m args below meth c Q D ct ad layM A 3 σ 37 [(0, .ref (ad 0)), (1, .int x1), (2, .int x2)] [.int t0] := by
  intro H locs ls hw hl
  have hx := C.1
  have hb := C.2.1
  unfold BX9_law_37 at hf
  refine lv_istore_n (lv' := [(1, .int t0), (0, .ref (ad 0)), (2, .int x2)]) hx hb dX9_law_37 rfl hl (by decide) rfl (fun ls hl => ?_)
  obtain ⟨y_1, e_2, hf⟩ := sn_ltE hf
  refine lv_iinc (v := y_1) (lv' := [(2, .int y_1), (1, .int t0), (0, .ref (ad 0))]) hx hb dX9_law_38 hl (k := 2) rfl (by rw [e_2]; rfl) (by decide) rfl (fun ls hl => ?_)
  refine lv_goto (tgt := 14) hx hb dX9_law_41 (by decide) ?_
  cases hf
  exact kc _ rfl _ _ _ hw (lv_sub hl [2, 1, 0] rfl)
theorem wX9_law_14 (C : sn_C p s m args meth c RX9 cX9_law 3 (some .int) D ct ad layM A) {σ : sn_S} {x1 : Int32} {x2 : Int32}  {o : (sn_S × Int32 × Int32) ⊕ (sn_S × Int32)} (hf : BX9_law_14 σ x1 x2 = some o) (kc : ∀ v, o = .inl v → sn_At p l e rmX9_law s m args below meth c Q D ct ad layM A 3 v.1 14 [(0, .ref (ad 0)), (1, .int v.2.1), (2, .int v.2.2)] []) (kx : ∀ v, o = .inr v → sn_At p l e rmX9_law s m args below meth c Q D ct ad layM A 3 v.1 44 [(1, .int v.2)] []) : sn_At p l e rmX9_law s m args below meth c Q D ct ad layM A 3 σ 14 [(0, .ref (ad 0)), (1, .int x1), (2, .int x2)] [] := by
  intro H locs ls hw hl
  have hx := C.1
  have hb := C.2.1
  unfold BX9_law_14 at hf
  refine lv_iload_n hx hb dX9_law_14 rfl (lv_at hl 2 rfl) ?_
  refine lv_iconst (v := 4) hx hb dX9_law_15 rfl ?_
  refine lv_icmp_ge (tgt := 44) hx hb dX9_law_16 (by decide) (fun c_1 => ?_) (fun c_1 => ?_)
  · have hf := sn_if c_1 hf
    cases hf
    exact kx _ rfl _ _ _ hw (lv_sub hl [1] rfl)
  · have hf := sn_el c_1 hf
    refine lv_aload_n hx hb dX9_law_19 rfl (lv_at hl 0 rfl) ?_
    refine lv_iload_n hx hb dX9_law_20 rfl (lv_at hl 2 rfl) ?_
    obtain ⟨t_2, h_3, hf⟩ := sn_bd hf
    refine sn_callVi (rest := []) C hw (ctX9_byLaw l  h_3) kl_RX9_338 layM_0 rfl rfl rfl rfl (Nat.le_of_ble_eq_true rfl) dX9_law_21 hl.1 (fun H locs hw => ?_)
    refine lv_aload_n hx hb dX9_law_24 rfl (lv_at hl 0 rfl) ?_
    refine lv_iload_n hx hb dX9_law_25 rfl (lv_at hl 1 rfl) ?_
    obtain ⟨t_4, h_5, hf⟩ := sn_bd hf
    refine sn_callVi (rest := [.int t_2.1]) C hw (ctX9_byLaw l  h_5) kl_RX9_338 layM_0 rfl rfl rfl rfl (Nat.le_of_ble_eq_true rfl) dX9_law_26 hl.1 (fun H locs hw => ?_)
    refine lv_icmp_le (tgt := 36) hx hb dX9_law_29 (by decide) (fun c_6 => ?_) (fun c_6 => ?_)
    · have hf := sn_if c_6 hf
      refine lv_iload_n hx hb dX9_law_36 rfl (lv_at hl 1 rfl) ?_
      exact wX9_law_37 C  hf kc kx _ _ _ hw (lv_sub hl [0, 1, 2] rfl)
    · have hf := sn_el c_6 hf
      refine lv_iload_n hx hb dX9_law_32 rfl (lv_at hl 2 rfl) ?_
      refine lv_goto (tgt := 37) hx hb dX9_law_33 (by decide) ?_
      exact wX9_law_37 C  hf kc kx _ _ _ hw (lv_sub hl [0, 1, 2] rfl)
theorem wX9_law_L14 (C : sn_C p s m args meth c RX9 cX9_law 3 (some .int) D ct ad layM A)    {z : sn_S × Int32 × Int32} {t : sn_S × Int32} (h : sn_it (LX9_law_14 ) 5000 z = some t) (kx : ∀ v, t = v → sn_At p l e rmX9_law s m args below meth c Q D ct ad layM A 3 v.1 44 [(1, .int v.2)] []) : sn_At p l e rmX9_law s m args below meth c Q D ct ad layM A 3 z.1 14 [(0, .ref (ad 0)), (1, .int z.2.1), (2, .int z.2.2)] [] :=
  sn_loop (f := LX9_law_14 ) (G := fun z => sn_At p l e rmX9_law s m args below meth c Q D ct ad layM A 3 z.1 14 [(0, .ref (ad 0)), (1, .int z.2.1), (2, .int z.2.2)] []) (E := fun t => (∀ v, t = v → sn_At p l e rmX9_law s m args below meth c Q D ct ad layM A 3 v.1 44 [(1, .int v.2)] []) ∧ True) (fun z o hf k1 k2 => wX9_law_14 C  hf (fun v e => k1 v e) (fun v e => (k2 _ e).1 v rfl)) 5000 z t h ⟨kx, trivial⟩
theorem wX9_law_in (C : sn_C p s m args meth c RX9 cX9_law 3 (some .int) D ct ad layM A) {σ : sn_S}  {o : (Int32 × sn_S)} (hf : fX9_law σ = some o) (kr : sn_Kr p l e rmX9_law s m args below meth c Q D ct ad layM A cX9_law .ireturn (true) o.2 [.int o.1]) : sn_At p l e rmX9_law s m args below meth c Q D ct ad layM A 3 σ 0 [(0, .ref (ad 0))] [] := by
  intro H locs ls hw hl
  have hx := C.1
  have hb := C.2.1
  unfold fX9_law at hf
  refine lv_aload_n hx hb dX9_law_0 rfl (lv_at hl 0 rfl) ?_
  obtain ⟨t_1, h_2, hf⟩ := sn_bd hf
  refine sn_callVi (rest := []) C hw (ctX9_asksHouse l  h_2) kl_RX9_272 layM_0 rfl rfl rfl rfl (Nat.le_of_ble_eq_true rfl) dX9_law_1 hl.1 (fun H locs hw => ?_)
  refine lv_if_ne (tgt := 10) hx hb dX9_law_4 (by decide) (fun c_3 => ?_) (fun c_3 => ?_)
  · have hf := sn_el c_3 hf
    refine lv_iconst (v := 0) hx hb dX9_law_10 rfl ?_
    refine lv_istore_n (lv' := [(1, .int (0 : Int32)), (0, .ref (ad 0))]) hx hb dX9_law_11 rfl hl (by decide) rfl (fun ls hl => ?_)
    refine lv_iconst (v := 1) hx hb dX9_law_12 rfl ?_
    refine lv_istore_n (lv' := [(2, .int (1 : Int32)), (1, .int (0 : Int32)), (0, .ref (ad 0))]) hx hb dX9_law_13 rfl hl (by decide) rfl (fun ls hl => ?_)
    obtain ⟨t_4, h_5, hf⟩ := sn_bd hf
    exact wX9_law_L14 C  h_5 (fun v e => by cases e; exact wX9_law_44 C  hf kr) _ _ _ hw (lv_sub hl [2, 1, 0] rfl)
  · have hf := sn_if c_3 hf
    refine lv_bipush (v := (-2)) hx hb dX9_law_7 (by decide) ?_
    cases hf
    exact kr _ _ _ _ hw rfl dX9_law_9
theorem ctX9_law (l : Launch) {σ : sn_S}  {o : (Int32 × sn_S)} (hf : fX9_law σ = some o) : sn_M l yX9_law cX9_law 3 (some .int) rmX9_law layM (fun ad => [.ref (ad 0)]) σ (some (fun _ => .int o.1)) o.2 :=
  sn_met (by decide) (fun _ => Nat.le_of_ble_eq_true rfl) (fun p e s m args below meth c ls D ct ad A C hw hl => wX9_law_in C  hf (fun H locs ls pc hw ok hd => sn_iret C hw hd) _ _ _ hw hl)
-- X9_takesBy
abbrev rmX9_takesBy : Room := { frames := 3, cells := 0, slots := 0, locals := 75 }
def BX9_takesBy_79 (σ : sn_S) (x4 : Int32) : Option ((Int32 × sn_S)) :=
  (some (x4, σ))
def BX9_takesBy_73 (σ : sn_S) (x1 : Int32) (x2 : Int32) (x3 : Int32) (x4 : Int32) (x5 : Int32) : Option ((sn_S × Int32 × Int32) ⊕ (sn_S × Int32)) :=
  (sn_lt (x5 + 1) fun y_1 => (some (.inl (σ, x4, y_1))))
def BX9_takesBy_48 (σ : sn_S) (x1 : Int32) (x2 : Int32) (x3 : Int32) (x4 : Int32) (x5 : Int32) (t0 : Int32) (t1 : Int32) : Option ((sn_S × Int32 × Int32) ⊕ (sn_S × Int32)) :=
  (sn_lt (t0 - t1) fun y_1 => (if (sn_I σ 0 31) < y_1 then
  (sn_lt (sn_pI σ 0 31 y_1) fun σ_4 => (BX9_takesBy_73 σ_4 x1 x2 x3 x5 x5))
  else
  (BX9_takesBy_73 σ x1 x2 x3 x4 x5)))
def BX9_takesBy_11 (σ : sn_S) (x1 : Int32) (x2 : Int32) (x3 : Int32) (x4 : Int32) (x5 : Int32) : Option ((sn_S × Int32 × Int32) ⊕ (sn_S × Int32)) :=
  (sn_gd (sn_in (8 : Int32) 119) (if (sn_I σ 1 (8 : Int32).toNatClampNeg) ≤ x5 then
  (some (.inr (σ, x4)))
  else
  ((fX9_claimOf σ x5 x1 (0 : Int32)).bind fun t_3 => (if x5 = x2 then
  (BX9_takesBy_48 t_3.2 x1 x2 x3 x4 x5 t_3.1 x3)
  else
  ((fX9_of t_3.2 x5 (4 : Int32)).bind fun t_6 => (BX9_takesBy_48 t_3.2 x1 x2 x3 x4 x5 t_3.1 t_6))))))
def LX9_takesBy_11 (x1 : Int32) (x2 : Int32) (x3 : Int32) (s : sn_S × Int32 × Int32) : Option ((sn_S × Int32 × Int32) ⊕ (sn_S × Int32)) := BX9_takesBy_11 s.1 x1 x2 x3 s.2.1 s.2.2
def fX9_takesBy (σ : sn_S) (x1 : Int32) (x2 : Int32) (x3 : Int32) : Option (Int32 × sn_S) :=
  (sn_lt (sn_pI σ 0 31 (0 : Int32)) fun σ_1 => ((sn_it (LX9_takesBy_11 x1 x2 x3) 5000 (σ_1, (-1 : Int32), (0 : Int32))).bind fun t_3 => (BX9_takesBy_79 t_3.1 t_3.2)))
theorem wX9_takesBy_79 (C : sn_C p s m args meth c RX9 cX9_takesBy 7 (some .int) D ct ad layM A) {σ : sn_S} {x4 : Int32}  {o : (Int32 × sn_S)} (hf : BX9_takesBy_79 σ x4 = some o) (kr : sn_Kr p l e rmX9_takesBy s m args below meth c Q D ct ad layM A cX9_takesBy .ireturn (true) o.2 [.int o.1]) : sn_At p l e rmX9_takesBy s m args below meth c Q D ct ad layM A 7 σ 79 [(4, .int x4)] [] := by
  intro H locs ls hw hl
  have hx := C.1
  have hb := C.2.1
  unfold BX9_takesBy_79 at hf
  refine lv_iload hx hb dX9_takesBy_79 (lv_at hl 0 rfl) ?_
  cases hf
  exact kr _ _ _ _ hw rfl dX9_takesBy_81
theorem wX9_takesBy_73 (C : sn_C p s m args meth c RX9 cX9_takesBy 7 (some .int) D ct ad layM A) {σ : sn_S} {x1 : Int32} {x2 : Int32} {x3 : Int32} {x4 : Int32} {x5 : Int32}  {o : (sn_S × Int32 × Int32) ⊕ (sn_S × Int32)} (hf : BX9_takesBy_73 σ x1 x2 x3 x4 x5 = some o) (kc : ∀ v, o = .inl v → sn_At p l e rmX9_takesBy s m args below meth c Q D ct ad layM A 7 v.1 11 [(0, .ref (ad 0)), (1, .int x1), (2, .int x2), (3, .int x3), (4, .int v.2.1), (5, .int v.2.2)] []) (kx : ∀ v, o = .inr v → sn_At p l e rmX9_takesBy s m args below meth c Q D ct ad layM A 7 v.1 79 [(4, .int v.2)] []) : sn_At p l e rmX9_takesBy s m args below meth c Q D ct ad layM A 7 σ 73 [(0, .ref (ad 0)), (1, .int x1), (2, .int x2), (3, .int x3), (4, .int x4), (5, .int x5)] [] := by
  intro H locs ls hw hl
  have hx := C.1
  have hb := C.2.1
  unfold BX9_takesBy_73 at hf
  obtain ⟨y_1, e_2, hf⟩ := sn_ltE hf
  refine lv_iinc (v := y_1) (lv' := [(5, .int y_1), (0, .ref (ad 0)), (1, .int x1), (2, .int x2), (3, .int x3), (4, .int x4)]) hx hb dX9_takesBy_73 hl (k := 5) rfl (by rw [e_2]; rfl) (by decide) rfl (fun ls hl => ?_)
  refine lv_goto (tgt := 11) hx hb dX9_takesBy_76 (by decide) ?_
  cases hf
  exact kc _ rfl _ _ _ hw (lv_sub hl [1, 2, 3, 4, 5, 0] rfl)
theorem wX9_takesBy_48 (C : sn_C p s m args meth c RX9 cX9_takesBy 7 (some .int) D ct ad layM A) {σ : sn_S} {x1 : Int32} {x2 : Int32} {x3 : Int32} {x4 : Int32} {x5 : Int32} {t0 : Int32} {t1 : Int32}  {o : (sn_S × Int32 × Int32) ⊕ (sn_S × Int32)} (hf : BX9_takesBy_48 σ x1 x2 x3 x4 x5 t0 t1 = some o) (kc : ∀ v, o = .inl v → sn_At p l e rmX9_takesBy s m args below meth c Q D ct ad layM A 7 v.1 11 [(0, .ref (ad 0)), (1, .int x1), (2, .int x2), (3, .int x3), (4, .int v.2.1), (5, .int v.2.2)] []) (kx : ∀ v, o = .inr v → sn_At p l e rmX9_takesBy s m args below meth c Q D ct ad layM A 7 v.1 79 [(4, .int v.2)] []) : sn_At p l e rmX9_takesBy s m args below meth c Q D ct ad layM A 7 σ 48 [(0, .ref (ad 0)), (1, .int x1), (2, .int x2), (3, .int x3), (4, .int x4), (5, .int x5)] [.int t1, .int t0] := by
  intro H locs ls hw hl
  have hx := C.1
  have hb := C.2.1
  unfold BX9_takesBy_48 at hf
  refine lv_isub hx hb dX9_takesBy_48 ?_
  obtain ⟨y_1, e_2, hf⟩ := sn_ltE hf
  refine lv_topi (fun y_1_ e_2_ => ?_)
  obtain rfl : y_1 = y_1_ := e_2.trans e_2_.symm
  refine lv_istore (lv' := [(6, .int y_1), (0, .ref (ad 0)), (1, .int x1), (2, .int x2), (3, .int x3), (4, .int x4), (5, .int x5)]) hx hb dX9_takesBy_49 hl (by decide) rfl (fun ls hl => ?_)
  refine lv_iload hx hb dX9_takesBy_51 (lv_at hl 0 rfl) ?_
  refine lv_aload_n hx hb dX9_takesBy_53 rfl (lv_at hl 1 rfl) ?_
  refine sn_getI C hw fd_RX9_341 layM_0 rfl dX9_takesBy_54 ?_
  refine lv_icmp_gt (tgt := 63) hx hb dX9_takesBy_57 (by decide) (fun c_3 => ?_) (fun c_3 => ?_)
  · have hf := sn_if c_3 hf
    refine lv_aload_n hx hb dX9_takesBy_63 rfl (lv_at hl 1 rfl) ?_
    refine lv_iload hx hb dX9_takesBy_64 (lv_at hl 0 rfl) ?_
    refine sn_putI C hw fp_RX9_341 layM_0 rfl dX9_takesBy_66 (fun H locs hw => ?_)
    obtain ⟨σ_4, e_5, hf⟩ := sn_ltE hf
    rw [← e_5] at hw
    refine lv_iload hx hb dX9_takesBy_69 (lv_at hl 6 rfl) ?_
    refine lv_istore (lv' := [(4, .int x5), (6, .int y_1), (0, .ref (ad 0)), (1, .int x1), (2, .int x2), (3, .int x3), (5, .int x5)]) hx hb dX9_takesBy_71 hl (by decide) rfl (fun ls hl => ?_)
    exact wX9_takesBy_73 C  hf kc kx _ _ _ hw (lv_sub hl [2, 3, 4, 5, 0, 6] rfl)
  · have hf := sn_el c_3 hf
    refine lv_goto (tgt := 73) hx hb dX9_takesBy_60 (by decide) ?_
    exact wX9_takesBy_73 C  hf kc kx _ _ _ hw (lv_sub hl [1, 2, 3, 4, 5, 6] rfl)
theorem wX9_takesBy_11 (C : sn_C p s m args meth c RX9 cX9_takesBy 7 (some .int) D ct ad layM A) {σ : sn_S} {x1 : Int32} {x2 : Int32} {x3 : Int32} {x4 : Int32} {x5 : Int32}  {o : (sn_S × Int32 × Int32) ⊕ (sn_S × Int32)} (hf : BX9_takesBy_11 σ x1 x2 x3 x4 x5 = some o) (kc : ∀ v, o = .inl v → sn_At p l e rmX9_takesBy s m args below meth c Q D ct ad layM A 7 v.1 11 [(0, .ref (ad 0)), (1, .int x1), (2, .int x2), (3, .int x3), (4, .int v.2.1), (5, .int v.2.2)] []) (kx : ∀ v, o = .inr v → sn_At p l e rmX9_takesBy s m args below meth c Q D ct ad layM A 7 v.1 79 [(4, .int v.2)] []) : sn_At p l e rmX9_takesBy s m args below meth c Q D ct ad layM A 7 σ 11 [(0, .ref (ad 0)), (1, .int x1), (2, .int x2), (3, .int x3), (4, .int x4), (5, .int x5)] [] := by
  intro H locs ls hw hl
  have hx := C.1
  have hb := C.2.1
  unfold BX9_takesBy_11 at hf
  refine lv_iload hx hb dX9_takesBy_11 (lv_at hl 5 rfl) ?_
  refine lv_aload_n hx hb dX9_takesBy_13 rfl (lv_at hl 0 rfl) ?_
  refine sn_getC (r := 1) C hw fd_RX9_9 layM_0 rfl dX9_takesBy_14 ?_
  refine lv_bipush (v := 8) hx hb dX9_takesBy_17 (by decide) ?_
  obtain ⟨g_1, hf⟩ := sn_gdE hf
  refine sn_iald C hw layM_1 g_1 dX9_takesBy_19 ?_
  refine lv_icmp_ge (tgt := 79) hx hb dX9_takesBy_20 (by decide) (fun c_2 => ?_) (fun c_2 => ?_)
  · have hf := sn_if c_2 hf
    cases hf
    exact kx _ rfl _ _ _ hw (lv_sub hl [4] rfl)
  · have hf := sn_el c_2 hf
    refine lv_aload_n hx hb dX9_takesBy_23 rfl (lv_at hl 0 rfl) ?_
    refine lv_iload hx hb dX9_takesBy_24 (lv_at hl 5 rfl) ?_
    refine lv_iload_n hx hb dX9_takesBy_26 rfl (lv_at hl 1 rfl) ?_
    refine lv_iconst (v := 0) hx hb dX9_takesBy_27 rfl ?_
    obtain ⟨t_3, h_4, hf⟩ := sn_bd hf
    refine sn_callVi (rest := []) C hw (ctX9_claimOf l  h_4) kl_RX9_313 layM_0 rfl rfl rfl rfl (Nat.le_of_ble_eq_true rfl) dX9_takesBy_28 hl.1 (fun H locs hw => ?_)
    refine lv_iload hx hb dX9_takesBy_31 (lv_at hl 5 rfl) ?_
    refine lv_iload_n hx hb dX9_takesBy_33 rfl (lv_at hl 2 rfl) ?_
    refine lv_icmp_ne (tgt := 41) hx hb dX9_takesBy_34 (by decide) (fun c_5 => ?_) (fun c_5 => ?_)
    · have hf := sn_el c_5 hf
      refine lv_aload_n hx hb dX9_takesBy_41 rfl (lv_at hl 0 rfl) ?_
      refine lv_iload hx hb dX9_takesBy_42 (lv_at hl 5 rfl) ?_
      refine lv_iconst (v := 4) hx hb dX9_takesBy_44 rfl ?_
      obtain ⟨t_6, h_7, hf⟩ := sn_bd hf
      refine sn_callVi (rest := [.int t_3.1]) C hw (ctX9_of l  h_7) kl_RX9_234 layM_0 rfl rfl rfl rfl (Nat.le_of_ble_eq_true rfl) dX9_takesBy_45 hl.1 (fun H locs hw => ?_)
      exact wX9_takesBy_48 C  hf kc kx _ _ _ hw (lv_sub hl [0, 1, 2, 3, 4, 5] rfl)
    · have hf := sn_if c_5 hf
      refine lv_iload_n hx hb dX9_takesBy_37 rfl (lv_at hl 3 rfl) ?_
      refine lv_goto (tgt := 48) hx hb dX9_takesBy_38 (by decide) ?_
      exact wX9_takesBy_48 C  hf kc kx _ _ _ hw (lv_sub hl [0, 1, 2, 3, 4, 5] rfl)
theorem wX9_takesBy_L11 (C : sn_C p s m args meth c RX9 cX9_takesBy 7 (some .int) D ct ad layM A) {x1 : Int32} {x2 : Int32} {x3 : Int32}   {z : sn_S × Int32 × Int32} {t : sn_S × Int32} (h : sn_it (LX9_takesBy_11 x1 x2 x3) 5000 z = some t) (kx : ∀ v, t = v → sn_At p l e rmX9_takesBy s m args below meth c Q D ct ad layM A 7 v.1 79 [(4, .int v.2)] []) : sn_At p l e rmX9_takesBy s m args below meth c Q D ct ad layM A 7 z.1 11 [(0, .ref (ad 0)), (1, .int x1), (2, .int x2), (3, .int x3), (4, .int z.2.1), (5, .int z.2.2)] [] :=
  sn_loop (f := LX9_takesBy_11 x1 x2 x3) (G := fun z => sn_At p l e rmX9_takesBy s m args below meth c Q D ct ad layM A 7 z.1 11 [(0, .ref (ad 0)), (1, .int x1), (2, .int x2), (3, .int x3), (4, .int z.2.1), (5, .int z.2.2)] []) (E := fun t => (∀ v, t = v → sn_At p l e rmX9_takesBy s m args below meth c Q D ct ad layM A 7 v.1 79 [(4, .int v.2)] []) ∧ True) (fun z o hf k1 k2 => wX9_takesBy_11 C  hf (fun v e => k1 v e) (fun v e => (k2 _ e).1 v rfl)) 5000 z t h ⟨kx, trivial⟩
theorem wX9_takesBy_in (C : sn_C p s m args meth c RX9 cX9_takesBy 7 (some .int) D ct ad layM A) {σ : sn_S} {x1 : Int32} {x2 : Int32} {x3 : Int32}  {o : (Int32 × sn_S)} (hf : fX9_takesBy σ x1 x2 x3 = some o) (kr : sn_Kr p l e rmX9_takesBy s m args below meth c Q D ct ad layM A cX9_takesBy .ireturn (true) o.2 [.int o.1]) : sn_At p l e rmX9_takesBy s m args below meth c Q D ct ad layM A 7 σ 0 [(0, .ref (ad 0)), (1, .int x1), (2, .int x2), (3, .int x3)] [] := by
  intro H locs ls hw hl
  have hx := C.1
  have hb := C.2.1
  unfold fX9_takesBy at hf
  refine lv_iconst (v := (-1)) hx hb dX9_takesBy_0 rfl ?_
  refine lv_istore (lv' := [(4, .int (-1 : Int32)), (0, .ref (ad 0)), (1, .int x1), (2, .int x2), (3, .int x3)]) hx hb dX9_takesBy_1 hl (by decide) rfl (fun ls hl => ?_)
  refine lv_aload_n hx hb dX9_takesBy_3 rfl (lv_at hl 1 rfl) ?_
  refine lv_iconst (v := 0) hx hb dX9_takesBy_4 rfl ?_
  refine sn_putI C hw fp_RX9_341 layM_0 rfl dX9_takesBy_5 (fun H locs hw => ?_)
  obtain ⟨σ_1, e_2, hf⟩ := sn_ltE hf
  rw [← e_2] at hw
  refine lv_iconst (v := 0) hx hb dX9_takesBy_8 rfl ?_
  refine lv_istore (lv' := [(5, .int (0 : Int32)), (4, .int (-1 : Int32)), (0, .ref (ad 0)), (1, .int x1), (2, .int x2), (3, .int x3)]) hx hb dX9_takesBy_9 hl (by decide) rfl (fun ls hl => ?_)
  obtain ⟨t_3, h_4, hf⟩ := sn_bd hf
  exact wX9_takesBy_L11 C  h_4 (fun v e => by cases e; exact wX9_takesBy_79 C  hf kr) _ _ _ hw (lv_sub hl [2, 3, 4, 5, 1, 0] rfl)
theorem ctX9_takesBy (l : Launch) {σ : sn_S} {x1 : Int32} {x2 : Int32} {x3 : Int32}  {o : (Int32 × sn_S)} (hf : fX9_takesBy σ x1 x2 x3 = some o) : sn_M l yX9_takesBy cX9_takesBy 7 (some .int) rmX9_takesBy layM (fun ad => [.ref (ad 0), .int x1, .int x2, .int x3]) σ (some (fun _ => .int o.1)) o.2 :=
  sn_met (by decide) (fun _ => Nat.le_of_ble_eq_true rfl) (fun p e s m args below meth c ls D ct ad A C hw hl => wX9_takesBy_in C  hf (fun H locs ls pc hw ok hd => sn_iret C hw hd) _ _ _ hw hl)
-- X9_takes_
abbrev rmX9_takes_ : Room := { frames := 6, cells := 0, slots := 0, locals := 136 }
def fX9_takes_ (σ : sn_S) (x1 : Int32) : Option (Int32 × sn_S) :=
  ((fX9_asksPerson σ x1).bind fun t_1 => (if t_1.1 = 0 then
  (some ((-2 : Int32), t_1.2))
  else
  ((fX9_takesBy t_1.2 x1 (-1 : Int32) (0 : Int32)).bind fun t_4 => (some (t_4.1, t_4.2)))))
theorem wX9_takes__in (C : sn_C p s m args meth c RX9 cX9_takes_ 2 (some .int) D ct ad layM A) {σ : sn_S} {x1 : Int32}  {o : (Int32 × sn_S)} (hf : fX9_takes_ σ x1 = some o) (kr : sn_Kr p l e rmX9_takes_ s m args below meth c Q D ct ad layM A cX9_takes_ .ireturn (true) o.2 [.int o.1]) : sn_At p l e rmX9_takes_ s m args below meth c Q D ct ad layM A 2 σ 0 [(0, .ref (ad 0)), (1, .int x1)] [] := by
  intro H locs ls hw hl
  have hx := C.1
  have hb := C.2.1
  unfold fX9_takes_ at hf
  refine lv_aload_n hx hb dX9_takes__0 rfl (lv_at hl 0 rfl) ?_
  refine lv_iload_n hx hb dX9_takes__1 rfl (lv_at hl 1 rfl) ?_
  obtain ⟨t_1, h_2, hf⟩ := sn_bd hf
  refine sn_callVi (rest := []) C hw (ctX9_asksPerson l  h_2) kl_RX9_284 layM_0 rfl rfl rfl rfl (Nat.le_of_ble_eq_true rfl) dX9_takes__2 hl.1 (fun H locs hw => ?_)
  refine lv_if_eq (tgt := 18) hx hb dX9_takes__5 (by decide) (fun c_3 => ?_) (fun c_3 => ?_)
  · have hf := sn_if c_3 hf
    refine lv_bipush (v := (-2)) hx hb dX9_takes__18 (by decide) ?_
    cases hf
    exact kr _ _ _ _ hw rfl dX9_takes__20
  · have hf := sn_el c_3 hf
    refine lv_aload_n hx hb dX9_takes__8 rfl (lv_at hl 0 rfl) ?_
    refine lv_iload_n hx hb dX9_takes__9 rfl (lv_at hl 1 rfl) ?_
    refine lv_iconst (v := (-1)) hx hb dX9_takes__10 rfl ?_
    refine lv_iconst (v := 0) hx hb dX9_takes__11 rfl ?_
    obtain ⟨t_4, h_5, hf⟩ := sn_bd hf
    refine sn_callVi (rest := []) C hw (ctX9_takesBy l  h_5) kl_RX9_344 layM_0 rfl rfl rfl rfl (Nat.le_of_ble_eq_true rfl) dX9_takes__12 hl.1 (fun H locs hw => ?_)
    refine lv_goto (tgt := 20) hx hb dX9_takes__15 (by decide) ?_
    cases hf
    exact kr _ _ _ _ hw rfl dX9_takes__20
theorem ctX9_takes_ (l : Launch) {σ : sn_S} {x1 : Int32}  {o : (Int32 × sn_S)} (hf : fX9_takes_ σ x1 = some o) : sn_M l yX9_takes_ cX9_takes_ 2 (some .int) rmX9_takes_ layM (fun ad => [.ref (ad 0), .int x1]) σ (some (fun _ => .int o.1)) o.2 :=
  sn_met (by decide) (fun _ => Nat.le_of_ble_eq_true rfl) (fun p e s m args below meth c ls D ct ad A C hw hl => wX9_takes__in C  hf (fun H locs ls pc hw ok hd => sn_iret C hw hd) _ _ _ hw hl)
-- X9_gains
abbrev rmX9_gains : Room := { frames := 6, cells := 0, slots := 0, locals := 136 }
def fX9_gains (σ : sn_S) (x1 : Int32) : Option (Int32 × sn_S) :=
  ((fX9_asksPerson σ x1).bind fun t_1 => (if t_1.1 = 0 then
  (some ((-2 : Int32), t_1.2))
  else
  ((fX9_takesBy t_1.2 x1 (-1 : Int32) (0 : Int32)).bind fun t_4 => (some ((sn_I t_4.2 0 31), t_4.2)))))
theorem wX9_gains_in (C : sn_C p s m args meth c RX9 cX9_gains 2 (some .int) D ct ad layM A) {σ : sn_S} {x1 : Int32}  {o : (Int32 × sn_S)} (hf : fX9_gains σ x1 = some o) (kr : sn_Kr p l e rmX9_gains s m args below meth c Q D ct ad layM A cX9_gains .ireturn (true) o.2 [.int o.1]) : sn_At p l e rmX9_gains s m args below meth c Q D ct ad layM A 2 σ 0 [(0, .ref (ad 0)), (1, .int x1)] [] := by
  intro H locs ls hw hl
  have hx := C.1
  have hb := C.2.1
  unfold fX9_gains at hf
  refine lv_aload_n hx hb dX9_gains_0 rfl (lv_at hl 0 rfl) ?_
  refine lv_iload_n hx hb dX9_gains_1 rfl (lv_at hl 1 rfl) ?_
  obtain ⟨t_1, h_2, hf⟩ := sn_bd hf
  refine sn_callVi (rest := []) C hw (ctX9_asksPerson l  h_2) kl_RX9_284 layM_0 rfl rfl rfl rfl (Nat.le_of_ble_eq_true rfl) dX9_gains_2 hl.1 (fun H locs hw => ?_)
  refine lv_if_ne (tgt := 11) hx hb dX9_gains_5 (by decide) (fun c_3 => ?_) (fun c_3 => ?_)
  · have hf := sn_el c_3 hf
    refine lv_aload_n hx hb dX9_gains_11 rfl (lv_at hl 0 rfl) ?_
    refine lv_iload_n hx hb dX9_gains_12 rfl (lv_at hl 1 rfl) ?_
    refine lv_iconst (v := (-1)) hx hb dX9_gains_13 rfl ?_
    refine lv_iconst (v := 0) hx hb dX9_gains_14 rfl ?_
    obtain ⟨t_4, h_5, hf⟩ := sn_bd hf
    refine sn_callVi (rest := []) C hw (ctX9_takesBy l  h_5) kl_RX9_344 layM_0 rfl rfl rfl rfl (Nat.le_of_ble_eq_true rfl) dX9_gains_15 hl.1 (fun H locs hw => ?_)
    refine lv_pop hx hb dX9_gains_18 rfl ?_
    refine lv_aload_n hx hb dX9_gains_19 rfl (lv_at hl 0 rfl) ?_
    refine sn_getI C hw fd_RX9_341 layM_0 rfl dX9_gains_20 ?_
    cases hf
    exact kr _ _ _ _ hw rfl dX9_gains_23
  · have hf := sn_if c_3 hf
    refine lv_bipush (v := (-2)) hx hb dX9_gains_8 (by decide) ?_
    cases hf
    exact kr _ _ _ _ hw rfl dX9_gains_10
theorem ctX9_gains (l : Launch) {σ : sn_S} {x1 : Int32}  {o : (Int32 × sn_S)} (hf : fX9_gains σ x1 = some o) : sn_M l yX9_gains cX9_gains 2 (some .int) rmX9_gains layM (fun ad => [.ref (ad 0), .int x1]) σ (some (fun _ => .int o.1)) o.2 :=
  sn_met (by decide) (fun _ => Nat.le_of_ble_eq_true rfl) (fun p e s m args below meth c ls D ct ad A C hw hl => wX9_gains_in C  hf (fun H locs ls pc hw ok hd => sn_iret C hw hd) _ _ _ hw hl)
-- X9_isTaken
abbrev rmX9_isTaken : Room := { frames := 4, cells := 0, slots := 0, locals := 101 }
def BX9_isTaken_31 (σ : sn_S) : Option ((Int32 × sn_S)) :=
  (sn_gd (sn_b01 (0 : Int32)) (some ((0 : Int32), σ)))
def BX9_isTaken_2 (σ : sn_S) (x1 : Int32) (x2 : Int32) (x3 : Int32) : Option ((sn_S × Int32) ⊕ ((sn_S) ⊕ (Int32 × sn_S))) :=
  (sn_gd (sn_in (5 : Int32) 119) (if (sn_I σ 1 (5 : Int32).toNatClampNeg) ≤ x3 then
  (some (.inr (.inl (σ))))
  else
  ((fX9_takesBy σ x3 x1 x2).bind fun t_3 => (if t_3.1 = x1 then
  (sn_gd (sn_b01 (1 : Int32)) (some (.inr (.inr ((1 : Int32), t_3.2)))))
  else
  (sn_lt (x3 + 1) fun y_6 => (some (.inl (t_3.2, y_6))))))))
def LX9_isTaken_2 (x1 : Int32) (x2 : Int32) (s : sn_S × Int32) : Option ((sn_S × Int32) ⊕ ((sn_S) ⊕ (Int32 × sn_S))) := BX9_isTaken_2 s.1 x1 x2 s.2
def fX9_isTaken (σ : sn_S) (x1 : Int32) (x2 : Int32) : Option (Int32 × sn_S) :=
  ((sn_it (LX9_isTaken_2 x1 x2) 5000 (σ, (0 : Int32))).bind fun t_1 => Sum.elim (fun v_3 => (BX9_isTaken_31 v_3)) (fun r_4 => (some r_4)) t_1)
theorem wX9_isTaken_31 (C : sn_C p s m args meth c RX9 cX9_isTaken 4 (some .boolean) D ct ad layM A) {σ : sn_S}  {o : (Int32 × sn_S)} (hf : BX9_isTaken_31 σ = some o) (kr : sn_Kr p l e rmX9_isTaken s m args below meth c Q D ct ad layM A cX9_isTaken .ireturn (sn_b01 o.1) o.2 [.int o.1]) : sn_At p l e rmX9_isTaken s m args below meth c Q D ct ad layM A 4 σ 31 [] [] := by
  intro H locs ls hw hl
  have hx := C.1
  have hb := C.2.1
  unfold BX9_isTaken_31 at hf
  refine lv_iconst (v := 0) hx hb dX9_isTaken_31 rfl ?_
  obtain ⟨g_1, hf⟩ := sn_gdE hf
  cases hf
  exact kr _ _ _ _ hw g_1 dX9_isTaken_32
theorem wX9_isTaken_2 (C : sn_C p s m args meth c RX9 cX9_isTaken 4 (some .boolean) D ct ad layM A) {σ : sn_S} {x1 : Int32} {x2 : Int32} {x3 : Int32}  {o : (sn_S × Int32) ⊕ ((sn_S) ⊕ (Int32 × sn_S))} (hf : BX9_isTaken_2 σ x1 x2 x3 = some o) (kc : ∀ v, o = .inl v → sn_At p l e rmX9_isTaken s m args below meth c Q D ct ad layM A 4 v.1 2 [(0, .ref (ad 0)), (1, .int x1), (2, .int x2), (3, .int v.2)] []) (kx : ∀ v, o = .inr (.inl v) → sn_At p l e rmX9_isTaken s m args below meth c Q D ct ad layM A 4 v 31 [] []) (kr : ∀ r, o = .inr (.inr r) → sn_Kr p l e rmX9_isTaken s m args below meth c Q D ct ad layM A cX9_isTaken .ireturn (sn_b01 r.1) r.2 [.int r.1]) : sn_At p l e rmX9_isTaken s m args below meth c Q D ct ad layM A 4 σ 2 [(0, .ref (ad 0)), (1, .int x1), (2, .int x2), (3, .int x3)] [] := by
  intro H locs ls hw hl
  have hx := C.1
  have hb := C.2.1
  unfold BX9_isTaken_2 at hf
  refine lv_iload_n hx hb dX9_isTaken_2 rfl (lv_at hl 3 rfl) ?_
  refine lv_aload_n hx hb dX9_isTaken_3 rfl (lv_at hl 0 rfl) ?_
  refine sn_getC (r := 1) C hw fd_RX9_9 layM_0 rfl dX9_isTaken_4 ?_
  refine lv_iconst (v := 5) hx hb dX9_isTaken_7 rfl ?_
  obtain ⟨g_1, hf⟩ := sn_gdE hf
  refine sn_iald C hw layM_1 g_1 dX9_isTaken_8 ?_
  refine lv_icmp_ge (tgt := 31) hx hb dX9_isTaken_9 (by decide) (fun c_2 => ?_) (fun c_2 => ?_)
  · have hf := sn_if c_2 hf
    cases hf
    exact kx _ rfl _ _ _ hw (lv_sub hl [] rfl)
  · have hf := sn_el c_2 hf
    refine lv_aload_n hx hb dX9_isTaken_12 rfl (lv_at hl 0 rfl) ?_
    refine lv_iload_n hx hb dX9_isTaken_13 rfl (lv_at hl 3 rfl) ?_
    refine lv_iload_n hx hb dX9_isTaken_14 rfl (lv_at hl 1 rfl) ?_
    refine lv_iload_n hx hb dX9_isTaken_15 rfl (lv_at hl 2 rfl) ?_
    obtain ⟨t_3, h_4, hf⟩ := sn_bd hf
    refine sn_callVi (rest := []) C hw (ctX9_takesBy l  h_4) kl_RX9_344 layM_0 rfl rfl rfl rfl (Nat.le_of_ble_eq_true rfl) dX9_isTaken_16 hl.1 (fun H locs hw => ?_)
    refine lv_iload_n hx hb dX9_isTaken_19 rfl (lv_at hl 1 rfl) ?_
    refine lv_icmp_ne (tgt := 25) hx hb dX9_isTaken_20 (by decide) (fun c_5 => ?_) (fun c_5 => ?_)
    · have hf := sn_el c_5 hf
      obtain ⟨y_6, e_7, hf⟩ := sn_ltE hf
      refine lv_iinc (v := y_6) (lv' := [(3, .int y_6), (0, .ref (ad 0)), (1, .int x1), (2, .int x2)]) hx hb dX9_isTaken_25 hl (k := 3) rfl (by rw [e_7]; rfl) (by decide) rfl (fun ls hl => ?_)
      refine lv_goto (tgt := 2) hx hb dX9_isTaken_28 (by decide) ?_
      cases hf
      exact kc _ rfl _ _ _ hw (lv_sub hl [1, 2, 3, 0] rfl)
    · have hf := sn_if c_5 hf
      refine lv_iconst (v := 1) hx hb dX9_isTaken_23 rfl ?_
      obtain ⟨g_8, hf⟩ := sn_gdE hf
      cases hf
      exact kr _ rfl _ _ _ _ hw g_8 dX9_isTaken_24
theorem wX9_isTaken_L2 (C : sn_C p s m args meth c RX9 cX9_isTaken 4 (some .boolean) D ct ad layM A) {x1 : Int32} {x2 : Int32}   {z : sn_S × Int32} {t : (sn_S) ⊕ (Int32 × sn_S)} (h : sn_it (LX9_isTaken_2 x1 x2) 5000 z = some t) (kx : ∀ v, t = .inl v → sn_At p l e rmX9_isTaken s m args below meth c Q D ct ad layM A 4 v 31 [] []) (kr : ∀ r, t = .inr r → sn_Kr p l e rmX9_isTaken s m args below meth c Q D ct ad layM A cX9_isTaken .ireturn (sn_b01 r.1) r.2 [.int r.1]) : sn_At p l e rmX9_isTaken s m args below meth c Q D ct ad layM A 4 z.1 2 [(0, .ref (ad 0)), (1, .int x1), (2, .int x2), (3, .int z.2)] [] :=
  sn_loop (f := LX9_isTaken_2 x1 x2) (G := fun z => sn_At p l e rmX9_isTaken s m args below meth c Q D ct ad layM A 4 z.1 2 [(0, .ref (ad 0)), (1, .int x1), (2, .int x2), (3, .int z.2)] []) (E := fun t => (∀ v, t = .inl v → sn_At p l e rmX9_isTaken s m args below meth c Q D ct ad layM A 4 v 31 [] []) ∧ (∀ r, t = .inr r → sn_Kr p l e rmX9_isTaken s m args below meth c Q D ct ad layM A cX9_isTaken .ireturn (sn_b01 r.1) r.2 [.int r.1])) (fun z o hf k1 k2 => wX9_isTaken_2 C  hf (fun v e => k1 v e) (fun v e => (k2 _ e).1 v rfl) (fun r e => (k2 _ e).2 r rfl)) 5000 z t h ⟨kx, kr⟩
theorem wX9_isTaken_in (C : sn_C p s m args meth c RX9 cX9_isTaken 4 (some .boolean) D ct ad layM A) {σ : sn_S} {x1 : Int32} {x2 : Int32}  {o : (Int32 × sn_S)} (hf : fX9_isTaken σ x1 x2 = some o) (kr : sn_Kr p l e rmX9_isTaken s m args below meth c Q D ct ad layM A cX9_isTaken .ireturn (sn_b01 o.1) o.2 [.int o.1]) : sn_At p l e rmX9_isTaken s m args below meth c Q D ct ad layM A 4 σ 0 [(0, .ref (ad 0)), (1, .int x1), (2, .int x2)] [] := by
  intro H locs ls hw hl
  have hx := C.1
  have hb := C.2.1
  unfold fX9_isTaken at hf
  refine lv_iconst (v := 0) hx hb dX9_isTaken_0 rfl ?_
  refine lv_istore_n (lv' := [(3, .int (0 : Int32)), (0, .ref (ad 0)), (1, .int x1), (2, .int x2)]) hx hb dX9_isTaken_1 rfl hl (by decide) rfl (fun ls hl => ?_)
  obtain ⟨t_1, h_2, hf⟩ := sn_bd hf
  rcases t_1 with v_3 | r_4
  · rw [Sum.elim_inl] at hf
    exact wX9_isTaken_L2 C  h_2 (fun v e => by cases e; exact wX9_isTaken_31 C  hf kr) (fun r e => by cases e) _ _ _ hw (lv_sub hl [1, 2, 3, 0] rfl)
  · rw [Sum.elim_inr] at hf
    cases hf
    exact wX9_isTaken_L2 C  h_2 (fun v e => by cases e) (fun r e => by cases e; exact kr) _ _ _ hw (lv_sub hl [1, 2, 3, 0] rfl)
theorem ctX9_isTaken (l : Launch) {σ : sn_S} {x1 : Int32} {x2 : Int32}  {o : (Int32 × sn_S)} (hf : fX9_isTaken σ x1 x2 = some o) : sn_M l yX9_isTaken cX9_isTaken 4 (some .boolean) rmX9_isTaken layM (fun ad => [.ref (ad 0), .int x1, .int x2]) σ (some (fun _ => .int o.1)) o.2 :=
  sn_met (by decide) (fun _ => Nat.le_of_ble_eq_true rfl) (fun p e s m args below meth c ls D ct ad A C hw hl => wX9_isTaken_in C  hf (fun H locs ls pc hw ok hd => sn_zret C hw ok hd) _ _ _ hw hl)
-- X9_price
abbrev rmX9_price : Room := { frames := 6, cells := 0, slots := 0, locals := 136 }
def BX9_price_28 (σ : sn_S) (x2 : Int32) : Option ((Int32 × sn_S)) :=
  (some (x2, σ))
def BX9_price_13 (σ : sn_S) (x1 : Int32) (x2 : Int32) : Option ((sn_S × Int32) ⊕ (sn_S × Int32)) :=
  ((fX9_isTaken σ x1 x2).bind fun t_1 => (if t_1.1 = 0 then
  (some (.inr (t_1.2, x2)))
  else
  (sn_lt (x2 + 1) fun y_4 => (some (.inl (t_1.2, y_4))))))
def LX9_price_13 (x1 : Int32) (s : sn_S × Int32) : Option ((sn_S × Int32) ⊕ (sn_S × Int32)) := BX9_price_13 s.1 x1 s.2
def fX9_price (σ : sn_S) (x1 : Int32) : Option (Int32 × sn_S) :=
  ((fX9_asksPolicy σ x1).bind fun t_1 => (if t_1.1 = 0 then
  (some ((-2 : Int32), t_1.2))
  else
  ((sn_it (LX9_price_13 x1) 5000 (t_1.2, (0 : Int32))).bind fun t_4 => (BX9_price_28 t_4.1 t_4.2))))
theorem wX9_price_28 (C : sn_C p s m args meth c RX9 cX9_price 3 (some .int) D ct ad layM A) {σ : sn_S} {x2 : Int32}  {o : (Int32 × sn_S)} (hf : BX9_price_28 σ x2 = some o) (kr : sn_Kr p l e rmX9_price s m args below meth c Q D ct ad layM A cX9_price .ireturn (true) o.2 [.int o.1]) : sn_At p l e rmX9_price s m args below meth c Q D ct ad layM A 3 σ 28 [(2, .int x2)] [] := by
  intro H locs ls hw hl
  have hx := C.1
  have hb := C.2.1
  unfold BX9_price_28 at hf
  refine lv_iload_n hx hb dX9_price_28 rfl (lv_at hl 0 rfl) ?_
  cases hf
  exact kr _ _ _ _ hw rfl dX9_price_29
theorem wX9_price_13 (C : sn_C p s m args meth c RX9 cX9_price 3 (some .int) D ct ad layM A) {σ : sn_S} {x1 : Int32} {x2 : Int32}  {o : (sn_S × Int32) ⊕ (sn_S × Int32)} (hf : BX9_price_13 σ x1 x2 = some o) (kc : ∀ v, o = .inl v → sn_At p l e rmX9_price s m args below meth c Q D ct ad layM A 3 v.1 13 [(0, .ref (ad 0)), (1, .int x1), (2, .int v.2)] []) (kx : ∀ v, o = .inr v → sn_At p l e rmX9_price s m args below meth c Q D ct ad layM A 3 v.1 28 [(2, .int v.2)] []) : sn_At p l e rmX9_price s m args below meth c Q D ct ad layM A 3 σ 13 [(0, .ref (ad 0)), (1, .int x1), (2, .int x2)] [] := by
  intro H locs ls hw hl
  have hx := C.1
  have hb := C.2.1
  unfold BX9_price_13 at hf
  refine lv_aload_n hx hb dX9_price_13 rfl (lv_at hl 0 rfl) ?_
  refine lv_iload_n hx hb dX9_price_14 rfl (lv_at hl 1 rfl) ?_
  refine lv_iload_n hx hb dX9_price_15 rfl (lv_at hl 2 rfl) ?_
  obtain ⟨t_1, h_2, hf⟩ := sn_bd hf
  refine sn_callVi (rest := []) C hw (ctX9_isTaken l  h_2) kl_RX9_348 layM_0 rfl rfl rfl rfl (Nat.le_of_ble_eq_true rfl) dX9_price_16 hl.1 (fun H locs hw => ?_)
  refine lv_if_eq (tgt := 28) hx hb dX9_price_19 (by decide) (fun c_3 => ?_) (fun c_3 => ?_)
  · have hf := sn_if c_3 hf
    cases hf
    exact kx _ rfl _ _ _ hw (lv_sub hl [2] rfl)
  · have hf := sn_el c_3 hf
    obtain ⟨y_4, e_5, hf⟩ := sn_ltE hf
    refine lv_iinc (v := y_4) (lv' := [(2, .int y_4), (0, .ref (ad 0)), (1, .int x1)]) hx hb dX9_price_22 hl (k := 2) rfl (by rw [e_5]; rfl) (by decide) rfl (fun ls hl => ?_)
    refine lv_goto (tgt := 13) hx hb dX9_price_25 (by decide) ?_
    cases hf
    exact kc _ rfl _ _ _ hw (lv_sub hl [1, 2, 0] rfl)
theorem wX9_price_L13 (C : sn_C p s m args meth c RX9 cX9_price 3 (some .int) D ct ad layM A) {x1 : Int32}   {z : sn_S × Int32} {t : sn_S × Int32} (h : sn_it (LX9_price_13 x1) 5000 z = some t) (kx : ∀ v, t = v → sn_At p l e rmX9_price s m args below meth c Q D ct ad layM A 3 v.1 28 [(2, .int v.2)] []) : sn_At p l e rmX9_price s m args below meth c Q D ct ad layM A 3 z.1 13 [(0, .ref (ad 0)), (1, .int x1), (2, .int z.2)] [] :=
  sn_loop (f := LX9_price_13 x1) (G := fun z => sn_At p l e rmX9_price s m args below meth c Q D ct ad layM A 3 z.1 13 [(0, .ref (ad 0)), (1, .int x1), (2, .int z.2)] []) (E := fun t => (∀ v, t = v → sn_At p l e rmX9_price s m args below meth c Q D ct ad layM A 3 v.1 28 [(2, .int v.2)] []) ∧ True) (fun z o hf k1 k2 => wX9_price_13 C  hf (fun v e => k1 v e) (fun v e => (k2 _ e).1 v rfl)) 5000 z t h ⟨kx, trivial⟩
theorem wX9_price_in (C : sn_C p s m args meth c RX9 cX9_price 3 (some .int) D ct ad layM A) {σ : sn_S} {x1 : Int32}  {o : (Int32 × sn_S)} (hf : fX9_price σ x1 = some o) (kr : sn_Kr p l e rmX9_price s m args below meth c Q D ct ad layM A cX9_price .ireturn (true) o.2 [.int o.1]) : sn_At p l e rmX9_price s m args below meth c Q D ct ad layM A 3 σ 0 [(0, .ref (ad 0)), (1, .int x1)] [] := by
  intro H locs ls hw hl
  have hx := C.1
  have hb := C.2.1
  unfold fX9_price at hf
  refine lv_aload_n hx hb dX9_price_0 rfl (lv_at hl 0 rfl) ?_
  refine lv_iload_n hx hb dX9_price_1 rfl (lv_at hl 1 rfl) ?_
  obtain ⟨t_1, h_2, hf⟩ := sn_bd hf
  refine sn_callVi (rest := []) C hw (ctX9_asksPolicy l  h_2) kl_RX9_323 layM_0 rfl rfl rfl rfl (Nat.le_of_ble_eq_true rfl) dX9_price_2 hl.1 (fun H locs hw => ?_)
  refine lv_if_ne (tgt := 11) hx hb dX9_price_5 (by decide) (fun c_3 => ?_) (fun c_3 => ?_)
  · have hf := sn_el c_3 hf
    refine lv_iconst (v := 0) hx hb dX9_price_11 rfl ?_
    refine lv_istore_n (lv' := [(2, .int (0 : Int32)), (0, .ref (ad 0)), (1, .int x1)]) hx hb dX9_price_12 rfl hl (by decide) rfl (fun ls hl => ?_)
    obtain ⟨t_4, h_5, hf⟩ := sn_bd hf
    exact wX9_price_L13 C  h_5 (fun v e => by cases e; exact wX9_price_28 C  hf kr) _ _ _ hw (lv_sub hl [1, 2, 0] rfl)
  · have hf := sn_if c_3 hf
    refine lv_bipush (v := (-2)) hx hb dX9_price_8 (by decide) ?_
    cases hf
    exact kr _ _ _ _ hw rfl dX9_price_10
theorem ctX9_price (l : Launch) {σ : sn_S} {x1 : Int32}  {o : (Int32 × sn_S)} (hf : fX9_price σ x1 = some o) : sn_M l yX9_price cX9_price 3 (some .int) rmX9_price layM (fun ad => [.ref (ad 0), .int x1]) σ (some (fun _ => .int o.1)) o.2 :=
  sn_met (by decide) (fun _ => Nat.le_of_ble_eq_true rfl) (fun p e s m args below meth c ls D ct ad A C hw hl => wX9_price_in C  hf (fun H locs ls pc hw ok hd => sn_iret C hw hd) _ _ _ hw hl)
-- X9_tickleSince
abbrev rmX9_tickleSince : Room := { frames := 0, cells := 0, slots := 0, locals := 0 }
def BX9_tickleSince_35 (σ : sn_S) (x4 : Int32) : Option (Int32) :=
  (some x4)
def BX9_tickleSince_6 (σ : sn_S) (x1 : Int32) (x3 : Int32) (x4 : Int32) (x5 : Int32) : Option ((Int32 × Int32) ⊕ (Int32)) :=
  (if x3 < x5 then
  (some (.inr (x4)))
  else
  (sn_gd (sn_in (((6 : Int32) * x5) + x1) 180) (sn_lt (x4 + (sn_I σ 13 (((6 : Int32) * x5) + x1).toNatClampNeg)) fun y_3 => (sn_lt (x5 + 1) fun y_5 => (some (.inl (y_3, y_5)))))))
def LX9_tickleSince_6 (σ : sn_S) (x1 : Int32) (x3 : Int32) (s : Int32 × Int32) : Option ((Int32 × Int32) ⊕ (Int32)) := BX9_tickleSince_6 σ x1 x3 s.1 s.2
def fX9_tickleSince (σ : sn_S) (x1 : Int32) (x2 : Int32) (x3 : Int32) : Option Int32 :=
  ((sn_it (LX9_tickleSince_6 σ x1 x3) 5000 ((0 : Int32), x2)).bind fun t_1 => (BX9_tickleSince_35 σ t_1))
theorem wX9_tickleSince_35 (C : sn_C p s m args meth c RX9 cX9_tickleSince 6 (some .int) D ct ad layM A) {σ : sn_S} {x4 : Int32}  {o : Int32} (hf : BX9_tickleSince_35 σ x4 = some o) (kr : sn_Kr p l e rmX9_tickleSince s m args below meth c Q D ct ad layM A cX9_tickleSince .ireturn (true) σ [.int o]) : sn_At p l e rmX9_tickleSince s m args below meth c Q D ct ad layM A 6 σ 35 [(4, .int x4)] [] := by
  intro H locs ls hw hl
  have hx := C.1
  have hb := C.2.1
  unfold BX9_tickleSince_35 at hf
  refine lv_iload hx hb dX9_tickleSince_35 (lv_at hl 0 rfl) ?_
  cases hf
  exact kr _ _ _ _ hw rfl dX9_tickleSince_37
theorem wX9_tickleSince_6 (C : sn_C p s m args meth c RX9 cX9_tickleSince 6 (some .int) D ct ad layM A) {σ : sn_S} {x1 : Int32} {x3 : Int32} {x4 : Int32} {x5 : Int32}  {o : (Int32 × Int32) ⊕ (Int32)} (hf : BX9_tickleSince_6 σ x1 x3 x4 x5 = some o) (kc : ∀ v, o = .inl v → sn_At p l e rmX9_tickleSince s m args below meth c Q D ct ad layM A 6 σ 6 [(0, .ref (ad 0)), (1, .int x1), (3, .int x3), (4, .int v.1), (5, .int v.2)] []) (kx : ∀ v, o = .inr v → sn_At p l e rmX9_tickleSince s m args below meth c Q D ct ad layM A 6 σ 35 [(4, .int v)] []) : sn_At p l e rmX9_tickleSince s m args below meth c Q D ct ad layM A 6 σ 6 [(0, .ref (ad 0)), (1, .int x1), (3, .int x3), (4, .int x4), (5, .int x5)] [] := by
  intro H locs ls hw hl
  have hx := C.1
  have hb := C.2.1
  unfold BX9_tickleSince_6 at hf
  refine lv_iload hx hb dX9_tickleSince_6 (lv_at hl 4 rfl) ?_
  refine lv_iload_n hx hb dX9_tickleSince_8 rfl (lv_at hl 2 rfl) ?_
  refine lv_icmp_gt (tgt := 35) hx hb dX9_tickleSince_9 (by decide) (fun c_1 => ?_) (fun c_1 => ?_)
  · have hf := sn_if c_1 hf
    cases hf
    exact kx _ rfl _ _ _ hw (lv_sub hl [3] rfl)
  · have hf := sn_el c_1 hf
    refine lv_iload hx hb dX9_tickleSince_12 (lv_at hl 3 rfl) ?_
    refine lv_aload_n hx hb dX9_tickleSince_14 rfl (lv_at hl 0 rfl) ?_
    refine sn_getC (r := 13) C hw fd_RX9_52 layM_0 rfl dX9_tickleSince_15 ?_
    refine lv_bipush (v := 6) hx hb dX9_tickleSince_18 (by decide) ?_
    refine lv_iload hx hb dX9_tickleSince_20 (lv_at hl 4 rfl) ?_
    refine lv_imul hx hb dX9_tickleSince_22 ?_
    refine lv_iload_n hx hb dX9_tickleSince_23 rfl (lv_at hl 1 rfl) ?_
    refine lv_iadd hx hb dX9_tickleSince_24 ?_
    obtain ⟨g_2, hf⟩ := sn_gdE hf
    refine sn_iald C hw layM_13 g_2 dX9_tickleSince_25 ?_
    refine lv_iadd hx hb dX9_tickleSince_26 ?_
    obtain ⟨y_3, e_4, hf⟩ := sn_ltE hf
    refine lv_topi (fun y_3_ e_4_ => ?_)
    obtain rfl : y_3 = y_3_ := e_4.trans e_4_.symm
    refine lv_istore (lv' := [(4, .int y_3), (0, .ref (ad 0)), (1, .int x1), (3, .int x3), (5, .int x5)]) hx hb dX9_tickleSince_27 hl (by decide) rfl (fun ls hl => ?_)
    obtain ⟨y_5, e_6, hf⟩ := sn_ltE hf
    refine lv_iinc (v := y_5) (lv' := [(5, .int y_5), (4, .int y_3), (0, .ref (ad 0)), (1, .int x1), (3, .int x3)]) hx hb dX9_tickleSince_29 hl (k := 4) rfl (by rw [e_6]; rfl) (by decide) rfl (fun ls hl => ?_)
    refine lv_goto (tgt := 6) hx hb dX9_tickleSince_32 (by decide) ?_
    cases hf
    exact kc _ rfl _ _ _ hw (lv_sub hl [2, 3, 4, 1, 0] rfl)
theorem wX9_tickleSince_L6 (C : sn_C p s m args meth c RX9 cX9_tickleSince 6 (some .int) D ct ad layM A) {σ : sn_S} {x1 : Int32} {x3 : Int32}   {z : Int32 × Int32} {t : Int32} (h : sn_it (LX9_tickleSince_6 σ x1 x3) 5000 z = some t) (kx : ∀ v, t = v → sn_At p l e rmX9_tickleSince s m args below meth c Q D ct ad layM A 6 σ 35 [(4, .int v)] []) : sn_At p l e rmX9_tickleSince s m args below meth c Q D ct ad layM A 6 σ 6 [(0, .ref (ad 0)), (1, .int x1), (3, .int x3), (4, .int z.1), (5, .int z.2)] [] :=
  sn_loop (f := LX9_tickleSince_6 σ x1 x3) (G := fun z => sn_At p l e rmX9_tickleSince s m args below meth c Q D ct ad layM A 6 σ 6 [(0, .ref (ad 0)), (1, .int x1), (3, .int x3), (4, .int z.1), (5, .int z.2)] []) (E := fun t => (∀ v, t = v → sn_At p l e rmX9_tickleSince s m args below meth c Q D ct ad layM A 6 σ 35 [(4, .int v)] []) ∧ True) (fun z o hf k1 k2 => wX9_tickleSince_6 C  hf (fun v e => k1 v e) (fun v e => (k2 _ e).1 v rfl)) 5000 z t h ⟨kx, trivial⟩
theorem wX9_tickleSince_in (C : sn_C p s m args meth c RX9 cX9_tickleSince 6 (some .int) D ct ad layM A) {σ : sn_S} {x1 : Int32} {x2 : Int32} {x3 : Int32}  {o : Int32} (hf : fX9_tickleSince σ x1 x2 x3 = some o) (kr : sn_Kr p l e rmX9_tickleSince s m args below meth c Q D ct ad layM A cX9_tickleSince .ireturn (true) σ [.int o]) : sn_At p l e rmX9_tickleSince s m args below meth c Q D ct ad layM A 6 σ 0 [(0, .ref (ad 0)), (1, .int x1), (2, .int x2), (3, .int x3)] [] := by
  intro H locs ls hw hl
  have hx := C.1
  have hb := C.2.1
  unfold fX9_tickleSince at hf
  refine lv_iconst (v := 0) hx hb dX9_tickleSince_0 rfl ?_
  refine lv_istore (lv' := [(4, .int (0 : Int32)), (0, .ref (ad 0)), (1, .int x1), (2, .int x2), (3, .int x3)]) hx hb dX9_tickleSince_1 hl (by decide) rfl (fun ls hl => ?_)
  refine lv_iload_n hx hb dX9_tickleSince_3 rfl (lv_at hl 3 rfl) ?_
  refine lv_istore (lv' := [(5, .int x2), (4, .int (0 : Int32)), (0, .ref (ad 0)), (1, .int x1), (2, .int x2), (3, .int x3)]) hx hb dX9_tickleSince_4 hl (by decide) rfl (fun ls hl => ?_)
  obtain ⟨t_1, h_2, hf⟩ := sn_bd hf
  exact wX9_tickleSince_L6 C  h_2 (fun v e => by cases e; exact wX9_tickleSince_35 C  hf kr) _ _ _ hw (lv_sub hl [2, 3, 5, 1, 0] rfl)
theorem ctX9_tickleSince (l : Launch) {σ : sn_S} {x1 : Int32} {x2 : Int32} {x3 : Int32}  {o : Int32} (hf : fX9_tickleSince σ x1 x2 x3 = some o) : sn_M l yX9_tickleSince cX9_tickleSince 6 (some .int) rmX9_tickleSince layM (fun ad => [.ref (ad 0), .int x1, .int x2, .int x3]) σ (some (fun _ => .int o)) σ :=
  sn_met (by decide) (fun _ => Nat.le_of_ble_eq_true rfl) (fun p e s m args below meth c ls D ct ad A C hw hl => wX9_tickleSince_in C  hf (fun H locs ls pc hw ok hd => sn_iret C hw hd) _ _ _ hw hl)
-- X9_layHold
abbrev rmX9_layHold : Room := { frames := 1, cells := 0, slots := 0, locals := 25 }
def BX9_layHold_185 (σ : sn_S) (x5 : Int32) (x7 : Int32) (t0 : Int32) : Option (sn_S) :=
  (if t0 = 0 then
  (some σ)
  else
  (sn_gd (sn_in x7 961) (sn_gd (sn_in x5 961) (sn_lt (sn_pI σ 17 x5.toNatClampNeg (sn_I σ 17 x7.toNatClampNeg)) fun σ_4 => (sn_gd (sn_in x7 961) (sn_gd (sn_in x5 961) (sn_lt (sn_pI σ_4 18 x5.toNatClampNeg (sn_I σ_4 18 x7.toNatClampNeg)) fun σ_8 => (some σ_8))))))))
def BX9_layHold_184 (σ : sn_S) (x5 : Int32) (x7 : Int32) : Option (sn_S) :=
  (BX9_layHold_185 σ x5 x7 (0 : Int32))
def BX9_layHold_180 (σ : sn_S) (x5 : Int32) (x7 : Int32) : Option (sn_S) :=
  (BX9_layHold_185 σ x5 x7 (1 : Int32))
def fX9_layHold (σ : sn_S) (x1 : Int32) (x2 : Int32) (x3 : Int32) (x4 : Int32) : Option sn_S :=
  (sn_lt (((31 : Int32) * x3) + x4) fun y_1 => (sn_lt (((31 : Int32) * (x3 + (1 : Int32))) + x4) fun y_3 => (sn_gd (sn_in y_3 961) (sn_gd (sn_in y_1 961) (sn_lt (sn_pI σ 17 y_1.toNatClampNeg (sn_I σ 17 y_3.toNatClampNeg)) fun σ_7 => (sn_gd (sn_in y_3 961) (sn_gd (sn_in y_1 961) (sn_lt (sn_pI σ_7 18 y_1.toNatClampNeg (sn_I σ_7 18 y_3.toNatClampNeg)) fun σ_11 => ((fX9_tickleSince σ_11 x1 x4 x3).bind fun t_13 => (sn_gd (sn_in (((11 : Int32) + ((2 : Int32) * x1)) + (1 : Int32)) 119) (if (sn_I σ_11 1 (((11 : Int32) + ((2 : Int32) * x1)) + (1 : Int32)).toNatClampNeg) ≤ t_13 then
  (sn_gd (sn_in y_3 961) (sn_gd (sn_in y_1 961) (sn_lt (sn_pI σ_11 17 y_1.toNatClampNeg ((sn_I σ_11 17 y_3.toNatClampNeg) + (1 : Int32))) fun σ_19 => (sn_gd (sn_in y_3 961) (sn_gd (sn_in y_1 961) (sn_lt (sn_pI σ_19 18 y_1.toNatClampNeg ((sn_I σ_19 18 y_3.toNatClampNeg) ||| ((1 : Int32) <<< (x3 &&& 31)))) fun σ_23 => ((fX9_bit x2 x3).bind fun t_25 => (if t_25 = (1 : Int32) then
  (some σ_23)
  else
  (sn_lt ((((31 : Int32) * (x3 + (1 : Int32))) + x3) + (1 : Int32)) fun y_28 => (sn_gd (sn_in y_28 961) (sn_gd (sn_in y_1 961) (if (sn_I σ_23 17 y_28.toNatClampNeg) < (sn_I σ_23 17 y_1.toNatClampNeg) then
  (BX9_layHold_180 σ_23 y_1 y_28)
  else
  (sn_gd (sn_in y_28 961) (sn_gd (sn_in y_1 961) (if (sn_I σ_23 17 y_28.toNatClampNeg) = (sn_I σ_23 17 y_1.toNatClampNeg) then
  (sn_gd (sn_in y_28 961) (sn_gd (sn_in y_1 961) (if (sn_I σ_23 18 y_1.toNatClampNeg) ≤ (sn_I σ_23 18 y_28.toNatClampNeg) then
  (BX9_layHold_184 σ_23 y_1 y_28)
  else
  (BX9_layHold_180 σ_23 y_1 y_28))))
  else
  (BX9_layHold_184 σ_23 y_1 y_28))))))))))))))))
  else
  (some σ_11))))))))))))
theorem wX9_layHold_185 (C : sn_C p s m args meth c RX9 cX9_layHold 9 none D ct ad layM A) {σ : sn_S} {x5 : Int32} {x7 : Int32} {t0 : Int32}  {o : sn_S} (hf : BX9_layHold_185 σ x5 x7 t0 = some o) (kr : sn_Kr p l e rmX9_layHold s m args below meth c Q D ct ad layM A cX9_layHold .return_ (true) o []) : sn_At p l e rmX9_layHold s m args below meth c Q D ct ad layM A 9 σ 185 [(0, .ref (ad 0)), (5, .int x5), (7, .int x7)] [.int t0] := by
  intro H locs ls hw hl
  have hx := C.1
  have hb := C.2.1
  unfold BX9_layHold_185 at hf
  refine lv_istore (lv' := [(8, .int t0), (0, .ref (ad 0)), (5, .int x5), (7, .int x7)]) hx hb dX9_layHold_185 hl (by decide) rfl (fun ls hl => ?_)
  refine lv_iload hx hb dX9_layHold_187 (lv_at hl 0 rfl) ?_
  refine lv_if_ne (tgt := 193) hx hb dX9_layHold_189 (by decide) (fun c_1 => ?_) (fun c_1 => ?_)
  · have hf := sn_el c_1 hf
    refine lv_aload_n hx hb dX9_layHold_193 rfl (lv_at hl 1 rfl) ?_
    refine sn_getC (r := 17) C hw fd_RX9_64 layM_0 rfl dX9_layHold_194 ?_
    refine lv_iload hx hb dX9_layHold_197 (lv_at hl 2 rfl) ?_
    refine lv_aload_n hx hb dX9_layHold_199 rfl (lv_at hl 1 rfl) ?_
    refine sn_getC (r := 17) C hw fd_RX9_64 layM_0 rfl dX9_layHold_200 ?_
    refine lv_iload hx hb dX9_layHold_203 (lv_at hl 3 rfl) ?_
    obtain ⟨g_2, hf⟩ := sn_gdE hf
    refine sn_iald C hw layM_17 g_2 dX9_layHold_205 ?_
    obtain ⟨g_3, hf⟩ := sn_gdE hf
    refine sn_iast C hw layM_17 g_3 dX9_layHold_206 (fun H locs hw => ?_)
    obtain ⟨σ_4, e_5, hf⟩ := sn_ltE hf
    rw [← e_5] at hw
    refine lv_aload_n hx hb dX9_layHold_207 rfl (lv_at hl 1 rfl) ?_
    refine sn_getC (r := 18) C hw fd_RX9_67 layM_0 rfl dX9_layHold_208 ?_
    refine lv_iload hx hb dX9_layHold_211 (lv_at hl 2 rfl) ?_
    refine lv_aload_n hx hb dX9_layHold_213 rfl (lv_at hl 1 rfl) ?_
    refine sn_getC (r := 18) C hw fd_RX9_67 layM_0 rfl dX9_layHold_214 ?_
    refine lv_iload hx hb dX9_layHold_217 (lv_at hl 3 rfl) ?_
    obtain ⟨g_6, hf⟩ := sn_gdE hf
    refine sn_iald C hw layM_18 g_6 dX9_layHold_219 ?_
    obtain ⟨g_7, hf⟩ := sn_gdE hf
    refine sn_iast C hw layM_18 g_7 dX9_layHold_220 (fun H locs hw => ?_)
    obtain ⟨σ_8, e_9, hf⟩ := sn_ltE hf
    rw [← e_9] at hw
    cases hf
    exact kr _ _ _ _ hw rfl dX9_layHold_221
  · have hf := sn_if c_1 hf
    cases hf
    exact kr _ _ _ _ hw rfl dX9_layHold_192
theorem wX9_layHold_184 (C : sn_C p s m args meth c RX9 cX9_layHold 9 none D ct ad layM A) {σ : sn_S} {x5 : Int32} {x7 : Int32}  {o : sn_S} (hf : BX9_layHold_184 σ x5 x7 = some o) (kr : sn_Kr p l e rmX9_layHold s m args below meth c Q D ct ad layM A cX9_layHold .return_ (true) o []) : sn_At p l e rmX9_layHold s m args below meth c Q D ct ad layM A 9 σ 184 [(0, .ref (ad 0)), (5, .int x5), (7, .int x7)] [] := by
  intro H locs ls hw hl
  have hx := C.1
  have hb := C.2.1
  unfold BX9_layHold_184 at hf
  refine lv_iconst (v := 0) hx hb dX9_layHold_184 rfl ?_
  exact wX9_layHold_185 C  hf kr _ _ _ hw (lv_sub hl [0, 1, 2] rfl)
theorem wX9_layHold_180 (C : sn_C p s m args meth c RX9 cX9_layHold 9 none D ct ad layM A) {σ : sn_S} {x5 : Int32} {x7 : Int32}  {o : sn_S} (hf : BX9_layHold_180 σ x5 x7 = some o) (kr : sn_Kr p l e rmX9_layHold s m args below meth c Q D ct ad layM A cX9_layHold .return_ (true) o []) : sn_At p l e rmX9_layHold s m args below meth c Q D ct ad layM A 9 σ 180 [(0, .ref (ad 0)), (5, .int x5), (7, .int x7)] [] := by
  intro H locs ls hw hl
  have hx := C.1
  have hb := C.2.1
  unfold BX9_layHold_180 at hf
  refine lv_iconst (v := 1) hx hb dX9_layHold_180 rfl ?_
  refine lv_goto (tgt := 185) hx hb dX9_layHold_181 (by decide) ?_
  exact wX9_layHold_185 C  hf kr _ _ _ hw (lv_sub hl [0, 1, 2] rfl)
theorem wX9_layHold_in (C : sn_C p s m args meth c RX9 cX9_layHold 9 none D ct ad layM A) {σ : sn_S} {x1 : Int32} {x2 : Int32} {x3 : Int32} {x4 : Int32}  {o : sn_S} (hf : fX9_layHold σ x1 x2 x3 x4 = some o) (kr : sn_Kr p l e rmX9_layHold s m args below meth c Q D ct ad layM A cX9_layHold .return_ (true) o []) : sn_At p l e rmX9_layHold s m args below meth c Q D ct ad layM A 9 σ 0 [(0, .ref (ad 0)), (1, .int x1), (2, .int x2), (3, .int x3), (4, .int x4)] [] := by
  intro H locs ls hw hl
  have hx := C.1
  have hb := C.2.1
  unfold fX9_layHold at hf
  refine lv_bipush (v := 31) hx hb dX9_layHold_0 (by decide) ?_
  refine lv_iload_n hx hb dX9_layHold_2 rfl (lv_at hl 3 rfl) ?_
  refine lv_imul hx hb dX9_layHold_3 ?_
  refine lv_iload hx hb dX9_layHold_4 (lv_at hl 4 rfl) ?_
  refine lv_iadd hx hb dX9_layHold_6 ?_
  obtain ⟨y_1, e_2, hf⟩ := sn_ltE hf
  refine lv_topi (fun y_1_ e_2_ => ?_)
  obtain rfl : y_1 = y_1_ := e_2.trans e_2_.symm
  refine lv_istore (lv' := [(5, .int y_1), (0, .ref (ad 0)), (1, .int x1), (2, .int x2), (3, .int x3), (4, .int x4)]) hx hb dX9_layHold_7 hl (by decide) rfl (fun ls hl => ?_)
  refine lv_bipush (v := 31) hx hb dX9_layHold_9 (by decide) ?_
  refine lv_iload_n hx hb dX9_layHold_11 rfl (lv_at hl 4 rfl) ?_
  refine lv_iconst (v := 1) hx hb dX9_layHold_12 rfl ?_
  refine lv_iadd hx hb dX9_layHold_13 ?_
  refine lv_imul hx hb dX9_layHold_14 ?_
  refine lv_iload hx hb dX9_layHold_15 (lv_at hl 5 rfl) ?_
  refine lv_iadd hx hb dX9_layHold_17 ?_
  obtain ⟨y_3, e_4, hf⟩ := sn_ltE hf
  refine lv_topi (fun y_3_ e_4_ => ?_)
  obtain rfl : y_3 = y_3_ := e_4.trans e_4_.symm
  refine lv_istore (lv' := [(6, .int y_3), (5, .int y_1), (0, .ref (ad 0)), (1, .int x1), (2, .int x2), (3, .int x3), (4, .int x4)]) hx hb dX9_layHold_18 hl (by decide) rfl (fun ls hl => ?_)
  refine lv_aload_n hx hb dX9_layHold_20 rfl (lv_at hl 2 rfl) ?_
  refine sn_getC (r := 17) C hw fd_RX9_64 layM_0 rfl dX9_layHold_21 ?_
  refine lv_iload hx hb dX9_layHold_24 (lv_at hl 1 rfl) ?_
  refine lv_aload_n hx hb dX9_layHold_26 rfl (lv_at hl 2 rfl) ?_
  refine sn_getC (r := 17) C hw fd_RX9_64 layM_0 rfl dX9_layHold_27 ?_
  refine lv_iload hx hb dX9_layHold_30 (lv_at hl 0 rfl) ?_
  obtain ⟨g_5, hf⟩ := sn_gdE hf
  refine sn_iald C hw layM_17 g_5 dX9_layHold_32 ?_
  obtain ⟨g_6, hf⟩ := sn_gdE hf
  refine sn_iast C hw layM_17 g_6 dX9_layHold_33 (fun H locs hw => ?_)
  obtain ⟨σ_7, e_8, hf⟩ := sn_ltE hf
  rw [← e_8] at hw
  refine lv_aload_n hx hb dX9_layHold_34 rfl (lv_at hl 2 rfl) ?_
  refine sn_getC (r := 18) C hw fd_RX9_67 layM_0 rfl dX9_layHold_35 ?_
  refine lv_iload hx hb dX9_layHold_38 (lv_at hl 1 rfl) ?_
  refine lv_aload_n hx hb dX9_layHold_40 rfl (lv_at hl 2 rfl) ?_
  refine sn_getC (r := 18) C hw fd_RX9_67 layM_0 rfl dX9_layHold_41 ?_
  refine lv_iload hx hb dX9_layHold_44 (lv_at hl 0 rfl) ?_
  obtain ⟨g_9, hf⟩ := sn_gdE hf
  refine sn_iald C hw layM_18 g_9 dX9_layHold_46 ?_
  obtain ⟨g_10, hf⟩ := sn_gdE hf
  refine sn_iast C hw layM_18 g_10 dX9_layHold_47 (fun H locs hw => ?_)
  obtain ⟨σ_11, e_12, hf⟩ := sn_ltE hf
  rw [← e_12] at hw
  refine lv_aload_n hx hb dX9_layHold_48 rfl (lv_at hl 2 rfl) ?_
  refine lv_iload_n hx hb dX9_layHold_49 rfl (lv_at hl 3 rfl) ?_
  refine lv_iload hx hb dX9_layHold_50 (lv_at hl 6 rfl) ?_
  refine lv_iload_n hx hb dX9_layHold_52 rfl (lv_at hl 5 rfl) ?_
  obtain ⟨t_13, h_14, hf⟩ := sn_bd hf
  refine sn_callVi (rest := []) C hw (ctX9_tickleSince l  h_14) kl_RX9_352 layM_0 rfl rfl rfl rfl (Nat.le_of_ble_eq_true rfl) dX9_layHold_53 hl.1 (fun H locs hw => ?_)
  refine lv_aload_n hx hb dX9_layHold_56 rfl (lv_at hl 2 rfl) ?_
  refine sn_getC (r := 1) C hw fd_RX9_9 layM_0 rfl dX9_layHold_57 ?_
  refine lv_bipush (v := 11) hx hb dX9_layHold_60 (by decide) ?_
  refine lv_iconst (v := 2) hx hb dX9_layHold_62 rfl ?_
  refine lv_iload_n hx hb dX9_layHold_63 rfl (lv_at hl 3 rfl) ?_
  refine lv_imul hx hb dX9_layHold_64 ?_
  refine lv_iadd hx hb dX9_layHold_65 ?_
  refine lv_iconst (v := 1) hx hb dX9_layHold_66 rfl ?_
  refine lv_iadd hx hb dX9_layHold_67 ?_
  obtain ⟨g_15, hf⟩ := sn_gdE hf
  refine sn_iald C hw layM_1 g_15 dX9_layHold_68 ?_
  refine lv_icmp_ge (tgt := 73) hx hb dX9_layHold_69 (by decide) (fun c_16 => ?_) (fun c_16 => ?_)
  · have hf := sn_if c_16 hf
    refine lv_aload_n hx hb dX9_layHold_73 rfl (lv_at hl 2 rfl) ?_
    refine sn_getC (r := 17) C hw fd_RX9_64 layM_0 rfl dX9_layHold_74 ?_
    refine lv_iload hx hb dX9_layHold_77 (lv_at hl 1 rfl) ?_
    refine lv_aload_n hx hb dX9_layHold_79 rfl (lv_at hl 2 rfl) ?_
    refine sn_getC (r := 17) C hw fd_RX9_64 layM_0 rfl dX9_layHold_80 ?_
    refine lv_iload hx hb dX9_layHold_83 (lv_at hl 0 rfl) ?_
    obtain ⟨g_17, hf⟩ := sn_gdE hf
    refine sn_iald C hw layM_17 g_17 dX9_layHold_85 ?_
    refine lv_iconst (v := 1) hx hb dX9_layHold_86 rfl ?_
    refine lv_iadd hx hb dX9_layHold_87 ?_
    obtain ⟨g_18, hf⟩ := sn_gdE hf
    refine sn_iast C hw layM_17 g_18 dX9_layHold_88 (fun H locs hw => ?_)
    obtain ⟨σ_19, e_20, hf⟩ := sn_ltE hf
    rw [← e_20] at hw
    refine lv_aload_n hx hb dX9_layHold_89 rfl (lv_at hl 2 rfl) ?_
    refine sn_getC (r := 18) C hw fd_RX9_67 layM_0 rfl dX9_layHold_90 ?_
    refine lv_iload hx hb dX9_layHold_93 (lv_at hl 1 rfl) ?_
    refine lv_aload_n hx hb dX9_layHold_95 rfl (lv_at hl 2 rfl) ?_
    refine sn_getC (r := 18) C hw fd_RX9_67 layM_0 rfl dX9_layHold_96 ?_
    refine lv_iload hx hb dX9_layHold_99 (lv_at hl 0 rfl) ?_
    obtain ⟨g_21, hf⟩ := sn_gdE hf
    refine sn_iald C hw layM_18 g_21 dX9_layHold_101 ?_
    refine lv_iconst (v := 1) hx hb dX9_layHold_102 rfl ?_
    refine lv_iload_n hx hb dX9_layHold_103 rfl (lv_at hl 5 rfl) ?_
    refine lv_ishl hx hb dX9_layHold_104 ?_
    refine lv_ior hx hb dX9_layHold_105 ?_
    obtain ⟨g_22, hf⟩ := sn_gdE hf
    refine sn_iast C hw layM_18 g_22 dX9_layHold_106 (fun H locs hw => ?_)
    obtain ⟨σ_23, e_24, hf⟩ := sn_ltE hf
    rw [← e_24] at hw
    refine lv_iload_n hx hb dX9_layHold_107 rfl (lv_at hl 4 rfl) ?_
    refine lv_iload_n hx hb dX9_layHold_108 rfl (lv_at hl 5 rfl) ?_
    obtain ⟨t_25, h_26, hf⟩ := sn_bd hf
    refine sn_callSi (rest := []) C hw (ctX9_bit l  h_26) kl_RX9_254 rfl rfl rfl (Nat.le_of_ble_eq_true rfl) dX9_layHold_109 hl.1 (fun H locs hw => ?_)
    refine lv_iconst (v := 1) hx hb dX9_layHold_112 rfl ?_
    refine lv_icmp_ne (tgt := 117) hx hb dX9_layHold_113 (by decide) (fun c_27 => ?_) (fun c_27 => ?_)
    · have hf := sn_el c_27 hf
      refine lv_bipush (v := 31) hx hb dX9_layHold_117 (by decide) ?_
      refine lv_iload_n hx hb dX9_layHold_119 rfl (lv_at hl 5 rfl) ?_
      refine lv_iconst (v := 1) hx hb dX9_layHold_120 rfl ?_
      refine lv_iadd hx hb dX9_layHold_121 ?_
      refine lv_imul hx hb dX9_layHold_122 ?_
      refine lv_iload_n hx hb dX9_layHold_123 rfl (lv_at hl 5 rfl) ?_
      refine lv_iadd hx hb dX9_layHold_124 ?_
      refine lv_iconst (v := 1) hx hb dX9_layHold_125 rfl ?_
      refine lv_iadd hx hb dX9_layHold_126 ?_
      obtain ⟨y_28, e_29, hf⟩ := sn_ltE hf
      refine lv_topi (fun y_28_ e_29_ => ?_)
      obtain rfl : y_28 = y_28_ := e_29.trans e_29_.symm
      refine lv_istore (lv' := [(7, .int y_28), (6, .int y_3), (5, .int y_1), (0, .ref (ad 0)), (1, .int x1), (2, .int x2), (3, .int x3), (4, .int x4)]) hx hb dX9_layHold_127 hl (by decide) rfl (fun ls hl => ?_)
      refine lv_aload_n hx hb dX9_layHold_129 rfl (lv_at hl 3 rfl) ?_
      refine sn_getC (r := 17) C hw fd_RX9_64 layM_0 rfl dX9_layHold_130 ?_
      refine lv_iload hx hb dX9_layHold_133 (lv_at hl 0 rfl) ?_
      obtain ⟨g_30, hf⟩ := sn_gdE hf
      refine sn_iald C hw layM_17 g_30 dX9_layHold_135 ?_
      refine lv_aload_n hx hb dX9_layHold_136 rfl (lv_at hl 3 rfl) ?_
      refine sn_getC (r := 17) C hw fd_RX9_64 layM_0 rfl dX9_layHold_137 ?_
      refine lv_iload hx hb dX9_layHold_140 (lv_at hl 2 rfl) ?_
      obtain ⟨g_31, hf⟩ := sn_gdE hf
      refine sn_iald C hw layM_17 g_31 dX9_layHold_142 ?_
      refine lv_icmp_lt (tgt := 180) hx hb dX9_layHold_143 (by decide) (fun c_32 => ?_) (fun c_32 => ?_)
      · have hf := sn_if c_32 hf
        exact wX9_layHold_180 C  hf kr _ _ _ hw (lv_sub hl [3, 2, 0] rfl)
      · have hf := sn_el c_32 hf
        refine lv_aload_n hx hb dX9_layHold_146 rfl (lv_at hl 3 rfl) ?_
        refine sn_getC (r := 17) C hw fd_RX9_64 layM_0 rfl dX9_layHold_147 ?_
        refine lv_iload hx hb dX9_layHold_150 (lv_at hl 0 rfl) ?_
        obtain ⟨g_33, hf⟩ := sn_gdE hf
        refine sn_iald C hw layM_17 g_33 dX9_layHold_152 ?_
        refine lv_aload_n hx hb dX9_layHold_153 rfl (lv_at hl 3 rfl) ?_
        refine sn_getC (r := 17) C hw fd_RX9_64 layM_0 rfl dX9_layHold_154 ?_
        refine lv_iload hx hb dX9_layHold_157 (lv_at hl 2 rfl) ?_
        obtain ⟨g_34, hf⟩ := sn_gdE hf
        refine sn_iald C hw layM_17 g_34 dX9_layHold_159 ?_
        refine lv_icmp_ne (tgt := 184) hx hb dX9_layHold_160 (by decide) (fun c_35 => ?_) (fun c_35 => ?_)
        · have hf := sn_el c_35 hf
          exact wX9_layHold_184 C  hf kr _ _ _ hw (lv_sub hl [3, 2, 0] rfl)
        · have hf := sn_if c_35 hf
          refine lv_aload_n hx hb dX9_layHold_163 rfl (lv_at hl 3 rfl) ?_
          refine sn_getC (r := 18) C hw fd_RX9_67 layM_0 rfl dX9_layHold_164 ?_
          refine lv_iload hx hb dX9_layHold_167 (lv_at hl 0 rfl) ?_
          obtain ⟨g_36, hf⟩ := sn_gdE hf
          refine sn_iald C hw layM_18 g_36 dX9_layHold_169 ?_
          refine lv_aload_n hx hb dX9_layHold_170 rfl (lv_at hl 3 rfl) ?_
          refine sn_getC (r := 18) C hw fd_RX9_67 layM_0 rfl dX9_layHold_171 ?_
          refine lv_iload hx hb dX9_layHold_174 (lv_at hl 2 rfl) ?_
          obtain ⟨g_37, hf⟩ := sn_gdE hf
          refine sn_iald C hw layM_18 g_37 dX9_layHold_176 ?_
          refine lv_icmp_ge (tgt := 184) hx hb dX9_layHold_177 (by decide) (fun c_38 => ?_) (fun c_38 => ?_)
          · have hf := sn_if c_38 hf
            exact wX9_layHold_184 C  hf kr _ _ _ hw (lv_sub hl [3, 2, 0] rfl)
          · have hf := sn_el c_38 hf
            exact wX9_layHold_180 C  hf kr _ _ _ hw (lv_sub hl [3, 2, 0] rfl)
    · have hf := sn_if c_27 hf
      cases hf
      exact kr _ _ _ _ hw rfl dX9_layHold_116
  · have hf := sn_el c_16 hf
    cases hf
    exact kr _ _ _ _ hw rfl dX9_layHold_72
theorem ctX9_layHold (l : Launch) {σ : sn_S} {x1 : Int32} {x2 : Int32} {x3 : Int32} {x4 : Int32}  {o : sn_S} (hf : fX9_layHold σ x1 x2 x3 x4 = some o) : sn_M l yX9_layHold cX9_layHold 9 none rmX9_layHold layM (fun ad => [.ref (ad 0), .int x1, .int x2, .int x3, .int x4]) σ none o :=
  sn_met (by decide) (fun _ => Nat.le_of_ble_eq_true rfl) (fun p e s m args below meth c ls D ct ad A C hw hl => wX9_layHold_in C  hf (fun H locs ls pc hw ok hd => sn_vret C hw hd) _ _ _ hw hl)
-- X9_layHolds
abbrev rmX9_layHolds : Room := { frames := 6, cells := 0, slots := 0, locals := 136 }
def BX9_layHolds_101 (σ : sn_S) : Option ((Int32 × sn_S)) :=
  (sn_gd (sn_b01 (1 : Int32)) (some ((1 : Int32), σ)))
def BX9_layHolds_95 (σ : sn_S) (x1 : Int32) (x2 : Int32) : Option ((sn_S × Int32) ⊕ (sn_S)) :=
  (sn_lt (x2 + (-1)) fun y_1 => (some (.inl (σ, y_1))))
def BX9_layHolds_67 (σ : sn_S) (x1 : Int32) (x2 : Int32) (x3 : Int32) : Option ((sn_S × Int32) ⊕ (sn_S)) :=
  (if x2 < x3 then
  (some (.inr (σ)))
  else
  ((fX9_of σ x1 (0 : Int32)).bind fun t_2 => ((fX9_windowOf σ x1).bind fun t_4 => ((fX9_layHold σ t_2 t_4 x2 x3).bind fun t_6 => (sn_lt (x3 + 1) fun y_8 => (some (.inl (t_6, y_8))))))))
def LX9_layHolds_67 (x1 : Int32) (x2 : Int32) (s : sn_S × Int32) : Option ((sn_S × Int32) ⊕ (sn_S)) := BX9_layHolds_67 s.1 x1 x2 s.2
def BX9_layHolds_61 (σ : sn_S) (x1 : Int32) (x2 : Int32) : Option ((sn_S × Int32) ⊕ (sn_S)) :=
  (if x2 < 0 then
  (some (.inr (σ)))
  else
  ((sn_it (LX9_layHolds_67 x1 x2) 5000 (σ, (0 : Int32))).bind fun t_2 => (BX9_layHolds_95 t_2 x1 x2)))
def LX9_layHolds_61 (x1 : Int32) (s : sn_S × Int32) : Option ((sn_S × Int32) ⊕ (sn_S)) := BX9_layHolds_61 s.1 x1 s.2
def BX9_layHolds_54 (σ : sn_S) (x1 : Int32) : Option ((Int32 × sn_S)) :=
  ((fX9_minutes σ).bind fun t_1 => (sn_lt (t_1 - (1 : Int32)) fun y_3 => ((sn_it (LX9_layHolds_61 x1) 5000 (σ, y_3)).bind fun t_5 => (BX9_layHolds_101 t_5))))
def BX9_layHolds_12 (σ : sn_S) (x1 : Int32) (x2 : Int32) : Option ((sn_S × Int32) ⊕ (sn_S)) :=
  (if (31 : Int32) ≤ x2 then
  (some (.inr (σ)))
  else
  ((fX9_minutes σ).bind fun t_2 => (sn_gd (sn_in (((31 : Int32) * t_2) + x2) 961) (sn_lt (sn_pI σ 17 (((31 : Int32) * t_2) + x2).toNatClampNeg (0 : Int32)) fun σ_5 => ((fX9_minutes σ_5).bind fun t_7 => (sn_gd (sn_in (((31 : Int32) * t_7) + x2) 961) (sn_lt (sn_pI σ_5 18 (((31 : Int32) * t_7) + x2).toNatClampNeg (0 : Int32)) fun σ_10 => (sn_lt (x2 + 1) fun y_12 => (some (.inl (σ_10, y_12)))))))))))
def LX9_layHolds_12 (x1 : Int32) (s : sn_S × Int32) : Option ((sn_S × Int32) ⊕ (sn_S)) := BX9_layHolds_12 s.1 x1 s.2
def fX9_layHolds (σ : sn_S) (x1 : Int32) : Option (Int32 × sn_S) :=
  ((fX9_asksPolicy σ x1).bind fun t_1 => (if t_1.1 = 0 then
  (sn_gd (sn_b01 (0 : Int32)) (some ((0 : Int32), t_1.2)))
  else
  ((sn_it (LX9_layHolds_12 x1) 5000 (t_1.2, (0 : Int32))).bind fun t_4 => (BX9_layHolds_54 t_4 x1))))
theorem wX9_layHolds_101 (C : sn_C p s m args meth c RX9 cX9_layHolds 4 (some .boolean) D ct ad layM A) {σ : sn_S}  {o : (Int32 × sn_S)} (hf : BX9_layHolds_101 σ = some o) (kr : sn_Kr p l e rmX9_layHolds s m args below meth c Q D ct ad layM A cX9_layHolds .ireturn (sn_b01 o.1) o.2 [.int o.1]) : sn_At p l e rmX9_layHolds s m args below meth c Q D ct ad layM A 4 σ 101 [] [] := by
  intro H locs ls hw hl
  have hx := C.1
  have hb := C.2.1
  unfold BX9_layHolds_101 at hf
  refine lv_iconst (v := 1) hx hb dX9_layHolds_101 rfl ?_
  obtain ⟨g_1, hf⟩ := sn_gdE hf
  cases hf
  exact kr _ _ _ _ hw g_1 dX9_layHolds_102
theorem wX9_layHolds_95 (C : sn_C p s m args meth c RX9 cX9_layHolds 4 (some .boolean) D ct ad layM A) {σ : sn_S} {x1 : Int32} {x2 : Int32}  {o : (sn_S × Int32) ⊕ (sn_S)} (hf : BX9_layHolds_95 σ x1 x2 = some o) (kc : ∀ v, o = .inl v → sn_At p l e rmX9_layHolds s m args below meth c Q D ct ad layM A 4 v.1 61 [(0, .ref (ad 0)), (1, .int x1), (2, .int v.2)] []) (kx : ∀ v, o = .inr v → sn_At p l e rmX9_layHolds s m args below meth c Q D ct ad layM A 4 v 101 [] []) : sn_At p l e rmX9_layHolds s m args below meth c Q D ct ad layM A 4 σ 95 [(0, .ref (ad 0)), (1, .int x1), (2, .int x2)] [] := by
  intro H locs ls hw hl
  have hx := C.1
  have hb := C.2.1
  unfold BX9_layHolds_95 at hf
  obtain ⟨y_1, e_2, hf⟩ := sn_ltE hf
  refine lv_iinc (v := y_1) (lv' := [(2, .int y_1), (0, .ref (ad 0)), (1, .int x1)]) hx hb dX9_layHolds_95 hl (k := 2) rfl (by rw [e_2]; rfl) (by decide) rfl (fun ls hl => ?_)
  refine lv_goto (tgt := 61) hx hb dX9_layHolds_98 (by decide) ?_
  cases hf
  exact kc _ rfl _ _ _ hw (lv_sub hl [1, 2, 0] rfl)
theorem wX9_layHolds_67 (C : sn_C p s m args meth c RX9 cX9_layHolds 4 (some .boolean) D ct ad layM A) {σ : sn_S} {x1 : Int32} {x2 : Int32} {x3 : Int32}  {o : (sn_S × Int32) ⊕ (sn_S)} (hf : BX9_layHolds_67 σ x1 x2 x3 = some o) (kc : ∀ v, o = .inl v → sn_At p l e rmX9_layHolds s m args below meth c Q D ct ad layM A 4 v.1 67 [(0, .ref (ad 0)), (1, .int x1), (2, .int x2), (3, .int v.2)] []) (kx : ∀ v, o = .inr v → sn_At p l e rmX9_layHolds s m args below meth c Q D ct ad layM A 4 v 95 [(0, .ref (ad 0)), (1, .int x1), (2, .int x2)] []) : sn_At p l e rmX9_layHolds s m args below meth c Q D ct ad layM A 4 σ 67 [(0, .ref (ad 0)), (1, .int x1), (2, .int x2), (3, .int x3)] [] := by
  intro H locs ls hw hl
  have hx := C.1
  have hb := C.2.1
  unfold BX9_layHolds_67 at hf
  refine lv_iload_n hx hb dX9_layHolds_67 rfl (lv_at hl 3 rfl) ?_
  refine lv_iload_n hx hb dX9_layHolds_68 rfl (lv_at hl 2 rfl) ?_
  refine lv_icmp_gt (tgt := 95) hx hb dX9_layHolds_69 (by decide) (fun c_1 => ?_) (fun c_1 => ?_)
  · have hf := sn_if c_1 hf
    cases hf
    exact kx _ rfl _ _ _ hw (lv_sub hl [0, 1, 2] rfl)
  · have hf := sn_el c_1 hf
    refine lv_aload_n hx hb dX9_layHolds_72 rfl (lv_at hl 0 rfl) ?_
    refine lv_aload_n hx hb dX9_layHolds_73 rfl (lv_at hl 0 rfl) ?_
    refine lv_iload_n hx hb dX9_layHolds_74 rfl (lv_at hl 1 rfl) ?_
    refine lv_iconst (v := 0) hx hb dX9_layHolds_75 rfl ?_
    obtain ⟨t_2, h_3, hf⟩ := sn_bd hf
    refine sn_callVi (rest := [.ref (ad 0)]) C hw (ctX9_of l  h_3) kl_RX9_234 layM_0 rfl rfl rfl rfl (Nat.le_of_ble_eq_true rfl) dX9_layHolds_76 hl.1 (fun H locs hw => ?_)
    refine lv_aload_n hx hb dX9_layHolds_79 rfl (lv_at hl 0 rfl) ?_
    refine lv_iload_n hx hb dX9_layHolds_80 rfl (lv_at hl 1 rfl) ?_
    obtain ⟨t_4, h_5, hf⟩ := sn_bd hf
    refine sn_callVi (rest := [.int t_2, .ref (ad 0)]) C hw (ctX9_windowOf l  h_5) kl_RX9_304 layM_0 rfl rfl rfl rfl (Nat.le_of_ble_eq_true rfl) dX9_layHolds_81 hl.1 (fun H locs hw => ?_)
    refine lv_iload_n hx hb dX9_layHolds_84 rfl (lv_at hl 2 rfl) ?_
    refine lv_iload_n hx hb dX9_layHolds_85 rfl (lv_at hl 3 rfl) ?_
    obtain ⟨t_6, h_7, hf⟩ := sn_bd hf
    refine sn_callVv (rest := []) C hw (ctX9_layHold l  h_7) kl_RX9_355 layM_0 rfl rfl rfl rfl (Nat.le_of_ble_eq_true rfl) dX9_layHolds_86 hl.1 (fun H locs hw => ?_)
    obtain ⟨y_8, e_9, hf⟩ := sn_ltE hf
    refine lv_iinc (v := y_8) (lv' := [(3, .int y_8), (0, .ref (ad 0)), (1, .int x1), (2, .int x2)]) hx hb dX9_layHolds_89 hl (k := 3) rfl (by rw [e_9]; rfl) (by decide) rfl (fun ls hl => ?_)
    refine lv_goto (tgt := 67) hx hb dX9_layHolds_92 (by decide) ?_
    cases hf
    exact kc _ rfl _ _ _ hw (lv_sub hl [1, 2, 3, 0] rfl)
theorem wX9_layHolds_L67 (C : sn_C p s m args meth c RX9 cX9_layHolds 4 (some .boolean) D ct ad layM A) {x1 : Int32} {x2 : Int32}   {z : sn_S × Int32} {t : sn_S} (h : sn_it (LX9_layHolds_67 x1 x2) 5000 z = some t) (kx : ∀ v, t = v → sn_At p l e rmX9_layHolds s m args below meth c Q D ct ad layM A 4 v 95 [(0, .ref (ad 0)), (1, .int x1), (2, .int x2)] []) : sn_At p l e rmX9_layHolds s m args below meth c Q D ct ad layM A 4 z.1 67 [(0, .ref (ad 0)), (1, .int x1), (2, .int x2), (3, .int z.2)] [] :=
  sn_loop (f := LX9_layHolds_67 x1 x2) (G := fun z => sn_At p l e rmX9_layHolds s m args below meth c Q D ct ad layM A 4 z.1 67 [(0, .ref (ad 0)), (1, .int x1), (2, .int x2), (3, .int z.2)] []) (E := fun t => (∀ v, t = v → sn_At p l e rmX9_layHolds s m args below meth c Q D ct ad layM A 4 v 95 [(0, .ref (ad 0)), (1, .int x1), (2, .int x2)] []) ∧ True) (fun z o hf k1 k2 => wX9_layHolds_67 C  hf (fun v e => k1 v e) (fun v e => (k2 _ e).1 v rfl)) 5000 z t h ⟨kx, trivial⟩
theorem wX9_layHolds_61 (C : sn_C p s m args meth c RX9 cX9_layHolds 4 (some .boolean) D ct ad layM A) {σ : sn_S} {x1 : Int32} {x2 : Int32}  {o : (sn_S × Int32) ⊕ (sn_S)} (hf : BX9_layHolds_61 σ x1 x2 = some o) (kc : ∀ v, o = .inl v → sn_At p l e rmX9_layHolds s m args below meth c Q D ct ad layM A 4 v.1 61 [(0, .ref (ad 0)), (1, .int x1), (2, .int v.2)] []) (kx : ∀ v, o = .inr v → sn_At p l e rmX9_layHolds s m args below meth c Q D ct ad layM A 4 v 101 [] []) : sn_At p l e rmX9_layHolds s m args below meth c Q D ct ad layM A 4 σ 61 [(0, .ref (ad 0)), (1, .int x1), (2, .int x2)] [] := by
  intro H locs ls hw hl
  have hx := C.1
  have hb := C.2.1
  unfold BX9_layHolds_61 at hf
  refine lv_iload_n hx hb dX9_layHolds_61 rfl (lv_at hl 2 rfl) ?_
  refine lv_if_lt (tgt := 101) hx hb dX9_layHolds_62 (by decide) (fun c_1 => ?_) (fun c_1 => ?_)
  · have hf := sn_if c_1 hf
    cases hf
    exact kx _ rfl _ _ _ hw (lv_sub hl [] rfl)
  · have hf := sn_el c_1 hf
    refine lv_iconst (v := 0) hx hb dX9_layHolds_65 rfl ?_
    refine lv_istore_n (lv' := [(3, .int (0 : Int32)), (0, .ref (ad 0)), (1, .int x1), (2, .int x2)]) hx hb dX9_layHolds_66 rfl hl (by decide) rfl (fun ls hl => ?_)
    obtain ⟨t_2, h_3, hf⟩ := sn_bd hf
    exact wX9_layHolds_L67 C  h_3 (fun v e => by cases e; exact wX9_layHolds_95 C  hf kc kx) _ _ _ hw (lv_sub hl [1, 2, 3, 0] rfl)
theorem wX9_layHolds_L61 (C : sn_C p s m args meth c RX9 cX9_layHolds 4 (some .boolean) D ct ad layM A) {x1 : Int32}   {z : sn_S × Int32} {t : sn_S} (h : sn_it (LX9_layHolds_61 x1) 5000 z = some t) (kx : ∀ v, t = v → sn_At p l e rmX9_layHolds s m args below meth c Q D ct ad layM A 4 v 101 [] []) : sn_At p l e rmX9_layHolds s m args below meth c Q D ct ad layM A 4 z.1 61 [(0, .ref (ad 0)), (1, .int x1), (2, .int z.2)] [] :=
  sn_loop (f := LX9_layHolds_61 x1) (G := fun z => sn_At p l e rmX9_layHolds s m args below meth c Q D ct ad layM A 4 z.1 61 [(0, .ref (ad 0)), (1, .int x1), (2, .int z.2)] []) (E := fun t => (∀ v, t = v → sn_At p l e rmX9_layHolds s m args below meth c Q D ct ad layM A 4 v 101 [] []) ∧ True) (fun z o hf k1 k2 => wX9_layHolds_61 C  hf (fun v e => k1 v e) (fun v e => (k2 _ e).1 v rfl)) 5000 z t h ⟨kx, trivial⟩
theorem wX9_layHolds_54 (C : sn_C p s m args meth c RX9 cX9_layHolds 4 (some .boolean) D ct ad layM A) {σ : sn_S} {x1 : Int32}  {o : (Int32 × sn_S)} (hf : BX9_layHolds_54 σ x1 = some o) (kr : sn_Kr p l e rmX9_layHolds s m args below meth c Q D ct ad layM A cX9_layHolds .ireturn (sn_b01 o.1) o.2 [.int o.1]) : sn_At p l e rmX9_layHolds s m args below meth c Q D ct ad layM A 4 σ 54 [(0, .ref (ad 0)), (1, .int x1)] [] := by
  intro H locs ls hw hl
  have hx := C.1
  have hb := C.2.1
  unfold BX9_layHolds_54 at hf
  refine lv_aload_n hx hb dX9_layHolds_54 rfl (lv_at hl 0 rfl) ?_
  obtain ⟨t_1, h_2, hf⟩ := sn_bd hf
  refine sn_callVi (rest := []) C hw (ctX9_minutes l  h_2) kl_RX9_249 layM_0 rfl rfl rfl rfl (Nat.le_of_ble_eq_true rfl) dX9_layHolds_55 hl.1 (fun H locs hw => ?_)
  refine lv_iconst (v := 1) hx hb dX9_layHolds_58 rfl ?_
  refine lv_isub hx hb dX9_layHolds_59 ?_
  obtain ⟨y_3, e_4, hf⟩ := sn_ltE hf
  refine lv_topi (fun y_3_ e_4_ => ?_)
  obtain rfl : y_3 = y_3_ := e_4.trans e_4_.symm
  refine lv_istore_n (lv' := [(2, .int y_3), (0, .ref (ad 0)), (1, .int x1)]) hx hb dX9_layHolds_60 rfl hl (by decide) rfl (fun ls hl => ?_)
  obtain ⟨t_5, h_6, hf⟩ := sn_bd hf
  exact wX9_layHolds_L61 C  h_6 (fun v e => by cases e; exact wX9_layHolds_101 C  hf kr) _ _ _ hw (lv_sub hl [1, 2, 0] rfl)
theorem wX9_layHolds_12 (C : sn_C p s m args meth c RX9 cX9_layHolds 4 (some .boolean) D ct ad layM A) {σ : sn_S} {x1 : Int32} {x2 : Int32}  {o : (sn_S × Int32) ⊕ (sn_S)} (hf : BX9_layHolds_12 σ x1 x2 = some o) (kc : ∀ v, o = .inl v → sn_At p l e rmX9_layHolds s m args below meth c Q D ct ad layM A 4 v.1 12 [(0, .ref (ad 0)), (1, .int x1), (2, .int v.2)] []) (kx : ∀ v, o = .inr v → sn_At p l e rmX9_layHolds s m args below meth c Q D ct ad layM A 4 v 54 [(0, .ref (ad 0)), (1, .int x1)] []) : sn_At p l e rmX9_layHolds s m args below meth c Q D ct ad layM A 4 σ 12 [(0, .ref (ad 0)), (1, .int x1), (2, .int x2)] [] := by
  intro H locs ls hw hl
  have hx := C.1
  have hb := C.2.1
  unfold BX9_layHolds_12 at hf
  refine lv_iload_n hx hb dX9_layHolds_12 rfl (lv_at hl 2 rfl) ?_
  refine lv_bipush (v := 31) hx hb dX9_layHolds_13 (by decide) ?_
  refine lv_icmp_ge (tgt := 54) hx hb dX9_layHolds_15 (by decide) (fun c_1 => ?_) (fun c_1 => ?_)
  · have hf := sn_if c_1 hf
    cases hf
    exact kx _ rfl _ _ _ hw (lv_sub hl [0, 1] rfl)
  · have hf := sn_el c_1 hf
    refine lv_aload_n hx hb dX9_layHolds_18 rfl (lv_at hl 0 rfl) ?_
    refine sn_getC (r := 17) C hw fd_RX9_64 layM_0 rfl dX9_layHolds_19 ?_
    refine lv_bipush (v := 31) hx hb dX9_layHolds_22 (by decide) ?_
    refine lv_aload_n hx hb dX9_layHolds_24 rfl (lv_at hl 0 rfl) ?_
    obtain ⟨t_2, h_3, hf⟩ := sn_bd hf
    refine sn_callVi (rest := [.int (31 : Int32), .ref (ad 17)]) C hw (ctX9_minutes l  h_3) kl_RX9_249 layM_0 rfl rfl rfl rfl (Nat.le_of_ble_eq_true rfl) dX9_layHolds_25 hl.1 (fun H locs hw => ?_)
    refine lv_imul hx hb dX9_layHolds_28 ?_
    refine lv_iload_n hx hb dX9_layHolds_29 rfl (lv_at hl 2 rfl) ?_
    refine lv_iadd hx hb dX9_layHolds_30 ?_
    refine lv_iconst (v := 0) hx hb dX9_layHolds_31 rfl ?_
    obtain ⟨g_4, hf⟩ := sn_gdE hf
    refine sn_iast C hw layM_17 g_4 dX9_layHolds_32 (fun H locs hw => ?_)
    obtain ⟨σ_5, e_6, hf⟩ := sn_ltE hf
    rw [← e_6] at hw
    refine lv_aload_n hx hb dX9_layHolds_33 rfl (lv_at hl 0 rfl) ?_
    refine sn_getC (r := 18) C hw fd_RX9_67 layM_0 rfl dX9_layHolds_34 ?_
    refine lv_bipush (v := 31) hx hb dX9_layHolds_37 (by decide) ?_
    refine lv_aload_n hx hb dX9_layHolds_39 rfl (lv_at hl 0 rfl) ?_
    obtain ⟨t_7, h_8, hf⟩ := sn_bd hf
    refine sn_callVi (rest := [.int (31 : Int32), .ref (ad 18)]) C hw (ctX9_minutes l  h_8) kl_RX9_249 layM_0 rfl rfl rfl rfl (Nat.le_of_ble_eq_true rfl) dX9_layHolds_40 hl.1 (fun H locs hw => ?_)
    refine lv_imul hx hb dX9_layHolds_43 ?_
    refine lv_iload_n hx hb dX9_layHolds_44 rfl (lv_at hl 2 rfl) ?_
    refine lv_iadd hx hb dX9_layHolds_45 ?_
    refine lv_iconst (v := 0) hx hb dX9_layHolds_46 rfl ?_
    obtain ⟨g_9, hf⟩ := sn_gdE hf
    refine sn_iast C hw layM_18 g_9 dX9_layHolds_47 (fun H locs hw => ?_)
    obtain ⟨σ_10, e_11, hf⟩ := sn_ltE hf
    rw [← e_11] at hw
    obtain ⟨y_12, e_13, hf⟩ := sn_ltE hf
    refine lv_iinc (v := y_12) (lv' := [(2, .int y_12), (0, .ref (ad 0)), (1, .int x1)]) hx hb dX9_layHolds_48 hl (k := 2) rfl (by rw [e_13]; rfl) (by decide) rfl (fun ls hl => ?_)
    refine lv_goto (tgt := 12) hx hb dX9_layHolds_51 (by decide) ?_
    cases hf
    exact kc _ rfl _ _ _ hw (lv_sub hl [1, 2, 0] rfl)
theorem wX9_layHolds_L12 (C : sn_C p s m args meth c RX9 cX9_layHolds 4 (some .boolean) D ct ad layM A) {x1 : Int32}   {z : sn_S × Int32} {t : sn_S} (h : sn_it (LX9_layHolds_12 x1) 5000 z = some t) (kx : ∀ v, t = v → sn_At p l e rmX9_layHolds s m args below meth c Q D ct ad layM A 4 v 54 [(0, .ref (ad 0)), (1, .int x1)] []) : sn_At p l e rmX9_layHolds s m args below meth c Q D ct ad layM A 4 z.1 12 [(0, .ref (ad 0)), (1, .int x1), (2, .int z.2)] [] :=
  sn_loop (f := LX9_layHolds_12 x1) (G := fun z => sn_At p l e rmX9_layHolds s m args below meth c Q D ct ad layM A 4 z.1 12 [(0, .ref (ad 0)), (1, .int x1), (2, .int z.2)] []) (E := fun t => (∀ v, t = v → sn_At p l e rmX9_layHolds s m args below meth c Q D ct ad layM A 4 v 54 [(0, .ref (ad 0)), (1, .int x1)] []) ∧ True) (fun z o hf k1 k2 => wX9_layHolds_12 C  hf (fun v e => k1 v e) (fun v e => (k2 _ e).1 v rfl)) 5000 z t h ⟨kx, trivial⟩
theorem wX9_layHolds_in (C : sn_C p s m args meth c RX9 cX9_layHolds 4 (some .boolean) D ct ad layM A) {σ : sn_S} {x1 : Int32}  {o : (Int32 × sn_S)} (hf : fX9_layHolds σ x1 = some o) (kr : sn_Kr p l e rmX9_layHolds s m args below meth c Q D ct ad layM A cX9_layHolds .ireturn (sn_b01 o.1) o.2 [.int o.1]) : sn_At p l e rmX9_layHolds s m args below meth c Q D ct ad layM A 4 σ 0 [(0, .ref (ad 0)), (1, .int x1)] [] := by
  intro H locs ls hw hl
  have hx := C.1
  have hb := C.2.1
  unfold fX9_layHolds at hf
  refine lv_aload_n hx hb dX9_layHolds_0 rfl (lv_at hl 0 rfl) ?_
  refine lv_iload_n hx hb dX9_layHolds_1 rfl (lv_at hl 1 rfl) ?_
  obtain ⟨t_1, h_2, hf⟩ := sn_bd hf
  refine sn_callVi (rest := []) C hw (ctX9_asksPolicy l  h_2) kl_RX9_323 layM_0 rfl rfl rfl rfl (Nat.le_of_ble_eq_true rfl) dX9_layHolds_2 hl.1 (fun H locs hw => ?_)
  refine lv_if_ne (tgt := 10) hx hb dX9_layHolds_5 (by decide) (fun c_3 => ?_) (fun c_3 => ?_)
  · have hf := sn_el c_3 hf
    refine lv_iconst (v := 0) hx hb dX9_layHolds_10 rfl ?_
    refine lv_istore_n (lv' := [(2, .int (0 : Int32)), (0, .ref (ad 0)), (1, .int x1)]) hx hb dX9_layHolds_11 rfl hl (by decide) rfl (fun ls hl => ?_)
    obtain ⟨t_4, h_5, hf⟩ := sn_bd hf
    exact wX9_layHolds_L12 C  h_5 (fun v e => by cases e; exact wX9_layHolds_54 C  hf kr) _ _ _ hw (lv_sub hl [1, 2, 0] rfl)
  · have hf := sn_if c_3 hf
    refine lv_iconst (v := 0) hx hb dX9_layHolds_8 rfl ?_
    obtain ⟨g_6, hf⟩ := sn_gdE hf
    cases hf
    exact kr _ _ _ _ hw g_6 dX9_layHolds_9
theorem ctX9_layHolds (l : Launch) {σ : sn_S} {x1 : Int32}  {o : (Int32 × sn_S)} (hf : fX9_layHolds σ x1 = some o) : sn_M l yX9_layHolds cX9_layHolds 4 (some .boolean) rmX9_layHolds layM (fun ad => [.ref (ad 0), .int x1]) σ (some (fun _ => .int o.1)) o.2 :=
  sn_met (by decide) (fun _ => Nat.le_of_ble_eq_true rfl) (fun p e s m args below meth c ls D ct ad A C hw hl => wX9_layHolds_in C  hf (fun H locs ls pc hw ok hd => sn_zret C hw ok hd) _ _ _ hw hl)
-- X9_hold
abbrev rmX9_hold : Room := { frames := 7, cells := 0, slots := 0, locals := 159 }
def fX9_hold (σ : sn_S) (x1 : Int32) : Option (Int32 × sn_S) :=
  ((fX9_layHolds σ x1).bind fun t_1 => (if t_1.1 = 0 then
  (some ((-2 : Int32), t_1.2))
  else
  (sn_gd (sn_in (0 : Int32) 961) (some ((sn_I t_1.2 17 (0 : Int32).toNatClampNeg), t_1.2)))))
theorem wX9_hold_in (C : sn_C p s m args meth c RX9 cX9_hold 2 (some .int) D ct ad layM A) {σ : sn_S} {x1 : Int32}  {o : (Int32 × sn_S)} (hf : fX9_hold σ x1 = some o) (kr : sn_Kr p l e rmX9_hold s m args below meth c Q D ct ad layM A cX9_hold .ireturn (true) o.2 [.int o.1]) : sn_At p l e rmX9_hold s m args below meth c Q D ct ad layM A 2 σ 0 [(0, .ref (ad 0)), (1, .int x1)] [] := by
  intro H locs ls hw hl
  have hx := C.1
  have hb := C.2.1
  unfold fX9_hold at hf
  refine lv_aload_n hx hb dX9_hold_0 rfl (lv_at hl 0 rfl) ?_
  refine lv_iload_n hx hb dX9_hold_1 rfl (lv_at hl 1 rfl) ?_
  obtain ⟨t_1, h_2, hf⟩ := sn_bd hf
  refine sn_callVi (rest := []) C hw (ctX9_layHolds l  h_2) kl_RX9_359 layM_0 rfl rfl rfl rfl (Nat.le_of_ble_eq_true rfl) dX9_hold_2 hl.1 (fun H locs hw => ?_)
  refine lv_if_eq (tgt := 17) hx hb dX9_hold_5 (by decide) (fun c_3 => ?_) (fun c_3 => ?_)
  · have hf := sn_if c_3 hf
    refine lv_bipush (v := (-2)) hx hb dX9_hold_17 (by decide) ?_
    cases hf
    exact kr _ _ _ _ hw rfl dX9_hold_19
  · have hf := sn_el c_3 hf
    refine lv_aload_n hx hb dX9_hold_8 rfl (lv_at hl 0 rfl) ?_
    refine sn_getC (r := 17) C hw fd_RX9_64 layM_0 rfl dX9_hold_9 ?_
    refine lv_iconst (v := 0) hx hb dX9_hold_12 rfl ?_
    obtain ⟨g_4, hf⟩ := sn_gdE hf
    refine sn_iald C hw layM_17 g_4 dX9_hold_13 ?_
    refine lv_goto (tgt := 19) hx hb dX9_hold_14 (by decide) ?_
    cases hf
    exact kr _ _ _ _ hw rfl dX9_hold_19
theorem ctX9_hold (l : Launch) {σ : sn_S} {x1 : Int32}  {o : (Int32 × sn_S)} (hf : fX9_hold σ x1 = some o) : sn_M l yX9_hold cX9_hold 2 (some .int) rmX9_hold layM (fun ad => [.ref (ad 0), .int x1]) σ (some (fun _ => .int o.1)) o.2 :=
  sn_met (by decide) (fun _ => Nat.le_of_ble_eq_true rfl) (fun p e s m args below meth c ls D ct ad A C hw hl => wX9_hold_in C  hf (fun H locs ls pc hw ok hd => sn_iret C hw hd) _ _ _ hw hl)
-- X9_holds
abbrev rmX9_holds : Room := { frames := 7, cells := 0, slots := 0, locals := 159 }
def fX9_holds (σ : sn_S) (x1 : Int32) : Option (Int32 × sn_S) :=
  ((fX9_layHolds σ x1).bind fun t_1 => (if t_1.1 = 0 then
  (some ((-2 : Int32), t_1.2))
  else
  (sn_gd (sn_in (0 : Int32) 961) (some ((sn_I t_1.2 18 (0 : Int32).toNatClampNeg), t_1.2)))))
theorem wX9_holds_in (C : sn_C p s m args meth c RX9 cX9_holds 2 (some .int) D ct ad layM A) {σ : sn_S} {x1 : Int32}  {o : (Int32 × sn_S)} (hf : fX9_holds σ x1 = some o) (kr : sn_Kr p l e rmX9_holds s m args below meth c Q D ct ad layM A cX9_holds .ireturn (true) o.2 [.int o.1]) : sn_At p l e rmX9_holds s m args below meth c Q D ct ad layM A 2 σ 0 [(0, .ref (ad 0)), (1, .int x1)] [] := by
  intro H locs ls hw hl
  have hx := C.1
  have hb := C.2.1
  unfold fX9_holds at hf
  refine lv_aload_n hx hb dX9_holds_0 rfl (lv_at hl 0 rfl) ?_
  refine lv_iload_n hx hb dX9_holds_1 rfl (lv_at hl 1 rfl) ?_
  obtain ⟨t_1, h_2, hf⟩ := sn_bd hf
  refine sn_callVi (rest := []) C hw (ctX9_layHolds l  h_2) kl_RX9_359 layM_0 rfl rfl rfl rfl (Nat.le_of_ble_eq_true rfl) dX9_holds_2 hl.1 (fun H locs hw => ?_)
  refine lv_if_eq (tgt := 17) hx hb dX9_holds_5 (by decide) (fun c_3 => ?_) (fun c_3 => ?_)
  · have hf := sn_if c_3 hf
    refine lv_bipush (v := (-2)) hx hb dX9_holds_17 (by decide) ?_
    cases hf
    exact kr _ _ _ _ hw rfl dX9_holds_19
  · have hf := sn_el c_3 hf
    refine lv_aload_n hx hb dX9_holds_8 rfl (lv_at hl 0 rfl) ?_
    refine sn_getC (r := 18) C hw fd_RX9_67 layM_0 rfl dX9_holds_9 ?_
    refine lv_iconst (v := 0) hx hb dX9_holds_12 rfl ?_
    obtain ⟨g_4, hf⟩ := sn_gdE hf
    refine sn_iald C hw layM_18 g_4 dX9_holds_13 ?_
    refine lv_goto (tgt := 19) hx hb dX9_holds_14 (by decide) ?_
    cases hf
    exact kr _ _ _ _ hw rfl dX9_holds_19
theorem ctX9_holds (l : Launch) {σ : sn_S} {x1 : Int32}  {o : (Int32 × sn_S)} (hf : fX9_holds σ x1 = some o) : sn_M l yX9_holds cX9_holds 2 (some .int) rmX9_holds layM (fun ad => [.ref (ad 0), .int x1]) σ (some (fun _ => .int o.1)) o.2 :=
  sn_met (by decide) (fun _ => Nat.le_of_ble_eq_true rfl) (fun p e s m args below meth c ls D ct ad A C hw hl => wX9_holds_in C  hf (fun H locs ls pc hw ok hd => sn_iret C hw hd) _ _ _ hw hl)
-- X9_fraudsOf
abbrev rmX9_fraudsOf : Room := { frames := 4, cells := 0, slots := 0, locals := 96 }
def BX9_fraudsOf_81 (σ : sn_S) (x5 : Int32) : Option ((Int32 × sn_S)) :=
  (some (x5, σ))
def BX9_fraudsOf_72 (σ : sn_S) (x1 : Int32) (x2 : Int32) (x3 : Int32) (x4 : Int32) (x5 : Int32) (x6 : Int32) (t0 : Int32) (t1 : Int32) : Option ((sn_S × Int32 × Int32) ⊕ (sn_S × Int32)) :=
  (sn_lt (t0 ||| t1) fun y_1 => (sn_lt (x6 + 1) fun y_3 => (some (.inl (σ, y_1, y_3)))))
def BX9_fraudsOf_27 (σ : sn_S) (x1 : Int32) (x2 : Int32) (x3 : Int32) (x4 : Int32) (x5 : Int32) (x6 : Int32) : Option ((sn_S × Int32 × Int32) ⊕ (sn_S × Int32)) :=
  ((fX9_minutes σ).bind fun t_1 => (if t_1 ≤ x6 then
  (some (.inr (σ, x5)))
  else
  (sn_gd (sn_in x2 6) (sn_lt (sn_pI σ 9 x2.toNatClampNeg (x4 ||| ((1 : Int32) <<< (x6 &&& 31)))) fun σ_5 => ((fX9_goAll σ_5).bind fun t_7 => ((fX9_claimOf_ t_7 x1).bind fun t_9 => (if t_9.1 ≤ x3 then
  (BX9_fraudsOf_72 t_9.2 x1 x2 x3 x4 x5 x6 x5 (0 : Int32))
  else
  (BX9_fraudsOf_72 t_9.2 x1 x2 x3 x4 x5 x6 x5 ((1 : Int32) <<< (x6 &&& 31))))))))))
def LX9_fraudsOf_27 (x1 : Int32) (x2 : Int32) (x3 : Int32) (x4 : Int32) (s : sn_S × Int32 × Int32) : Option ((sn_S × Int32 × Int32) ⊕ (sn_S × Int32)) := BX9_fraudsOf_27 s.1 x1 x2 x3 x4 s.2.1 s.2.2
def fX9_fraudsOf (σ : sn_S) (x1 : Int32) : Option (Int32 × sn_S) :=
  ((fX9_of σ x1 (0 : Int32)).bind fun t_1 => ((fX9_claimOf_ σ x1).bind fun t_3 => (sn_gd (sn_in t_1 6) (sn_lt (sn_I t_3.2 9 t_1.toNatClampNeg) fun y_6 => ((sn_it (LX9_fraudsOf_27 x1 t_1 t_3.1 y_6) 5000 (t_3.2, (0 : Int32), (0 : Int32))).bind fun t_8 => (BX9_fraudsOf_81 t_8.1 t_8.2))))))
theorem wX9_fraudsOf_81 (C : sn_C p s m args meth c RX9 cX9_fraudsOf 7 (some .int) D ct ad layM A) {σ : sn_S} {x5 : Int32}  {o : (Int32 × sn_S)} (hf : BX9_fraudsOf_81 σ x5 = some o) (kr : sn_Kr p l e rmX9_fraudsOf s m args below meth c Q D ct ad layM A cX9_fraudsOf .ireturn (true) o.2 [.int o.1]) : sn_At p l e rmX9_fraudsOf s m args below meth c Q D ct ad layM A 7 σ 81 [(5, .int x5)] [] := by
  intro H locs ls hw hl
  have hx := C.1
  have hb := C.2.1
  unfold BX9_fraudsOf_81 at hf
  refine lv_iload hx hb dX9_fraudsOf_81 (lv_at hl 0 rfl) ?_
  cases hf
  exact kr _ _ _ _ hw rfl dX9_fraudsOf_83
theorem wX9_fraudsOf_72 (C : sn_C p s m args meth c RX9 cX9_fraudsOf 7 (some .int) D ct ad layM A) {σ : sn_S} {x1 : Int32} {x2 : Int32} {x3 : Int32} {x4 : Int32} {x5 : Int32} {x6 : Int32} {t0 : Int32} {t1 : Int32}  {o : (sn_S × Int32 × Int32) ⊕ (sn_S × Int32)} (hf : BX9_fraudsOf_72 σ x1 x2 x3 x4 x5 x6 t0 t1 = some o) (kc : ∀ v, o = .inl v → sn_At p l e rmX9_fraudsOf s m args below meth c Q D ct ad layM A 7 v.1 27 [(0, .ref (ad 0)), (1, .int x1), (2, .int x2), (3, .int x3), (4, .int x4), (5, .int v.2.1), (6, .int v.2.2)] []) (kx : ∀ v, o = .inr v → sn_At p l e rmX9_fraudsOf s m args below meth c Q D ct ad layM A 7 v.1 81 [(5, .int v.2)] []) : sn_At p l e rmX9_fraudsOf s m args below meth c Q D ct ad layM A 7 σ 72 [(0, .ref (ad 0)), (1, .int x1), (2, .int x2), (3, .int x3), (4, .int x4), (5, .int x5), (6, .int x6)] [.int t1, .int t0] := by
  intro H locs ls hw hl
  have hx := C.1
  have hb := C.2.1
  unfold BX9_fraudsOf_72 at hf
  refine lv_ior hx hb dX9_fraudsOf_72 ?_
  obtain ⟨y_1, e_2, hf⟩ := sn_ltE hf
  refine lv_topi (fun y_1_ e_2_ => ?_)
  obtain rfl : y_1 = y_1_ := e_2.trans e_2_.symm
  refine lv_istore (lv' := [(5, .int y_1), (0, .ref (ad 0)), (1, .int x1), (2, .int x2), (3, .int x3), (4, .int x4), (6, .int x6)]) hx hb dX9_fraudsOf_73 hl (by decide) rfl (fun ls hl => ?_)
  obtain ⟨y_3, e_4, hf⟩ := sn_ltE hf
  refine lv_iinc (v := y_3) (lv' := [(6, .int y_3), (5, .int y_1), (0, .ref (ad 0)), (1, .int x1), (2, .int x2), (3, .int x3), (4, .int x4)]) hx hb dX9_fraudsOf_75 hl (k := 6) rfl (by rw [e_4]; rfl) (by decide) rfl (fun ls hl => ?_)
  refine lv_goto (tgt := 27) hx hb dX9_fraudsOf_78 (by decide) ?_
  cases hf
  exact kc _ rfl _ _ _ hw (lv_sub hl [2, 3, 4, 5, 6, 1, 0] rfl)
theorem wX9_fraudsOf_27 (C : sn_C p s m args meth c RX9 cX9_fraudsOf 7 (some .int) D ct ad layM A) {σ : sn_S} {x1 : Int32} {x2 : Int32} {x3 : Int32} {x4 : Int32} {x5 : Int32} {x6 : Int32}  {o : (sn_S × Int32 × Int32) ⊕ (sn_S × Int32)} (hf : BX9_fraudsOf_27 σ x1 x2 x3 x4 x5 x6 = some o) (kc : ∀ v, o = .inl v → sn_At p l e rmX9_fraudsOf s m args below meth c Q D ct ad layM A 7 v.1 27 [(0, .ref (ad 0)), (1, .int x1), (2, .int x2), (3, .int x3), (4, .int x4), (5, .int v.2.1), (6, .int v.2.2)] []) (kx : ∀ v, o = .inr v → sn_At p l e rmX9_fraudsOf s m args below meth c Q D ct ad layM A 7 v.1 81 [(5, .int v.2)] []) : sn_At p l e rmX9_fraudsOf s m args below meth c Q D ct ad layM A 7 σ 27 [(0, .ref (ad 0)), (1, .int x1), (2, .int x2), (3, .int x3), (4, .int x4), (5, .int x5), (6, .int x6)] [] := by
  intro H locs ls hw hl
  have hx := C.1
  have hb := C.2.1
  unfold BX9_fraudsOf_27 at hf
  refine lv_iload hx hb dX9_fraudsOf_27 (lv_at hl 6 rfl) ?_
  refine lv_aload_n hx hb dX9_fraudsOf_29 rfl (lv_at hl 0 rfl) ?_
  obtain ⟨t_1, h_2, hf⟩ := sn_bd hf
  refine sn_callVi (rest := [.int x6]) C hw (ctX9_minutes l  h_2) kl_RX9_249 layM_0 rfl rfl rfl rfl (Nat.le_of_ble_eq_true rfl) dX9_fraudsOf_30 hl.1 (fun H locs hw => ?_)
  refine lv_icmp_ge (tgt := 81) hx hb dX9_fraudsOf_33 (by decide) (fun c_3 => ?_) (fun c_3 => ?_)
  · have hf := sn_if c_3 hf
    cases hf
    exact kx _ rfl _ _ _ hw (lv_sub hl [5] rfl)
  · have hf := sn_el c_3 hf
    refine lv_aload_n hx hb dX9_fraudsOf_36 rfl (lv_at hl 0 rfl) ?_
    refine sn_getC (r := 9) C hw fd_RX9_40 layM_0 rfl dX9_fraudsOf_37 ?_
    refine lv_iload_n hx hb dX9_fraudsOf_40 rfl (lv_at hl 2 rfl) ?_
    refine lv_iload hx hb dX9_fraudsOf_41 (lv_at hl 4 rfl) ?_
    refine lv_iconst (v := 1) hx hb dX9_fraudsOf_43 rfl ?_
    refine lv_iload hx hb dX9_fraudsOf_44 (lv_at hl 6 rfl) ?_
    refine lv_ishl hx hb dX9_fraudsOf_46 ?_
    refine lv_ior hx hb dX9_fraudsOf_47 ?_
    obtain ⟨g_4, hf⟩ := sn_gdE hf
    refine sn_iast C hw layM_9 g_4 dX9_fraudsOf_48 (fun H locs hw => ?_)
    obtain ⟨σ_5, e_6, hf⟩ := sn_ltE hf
    rw [← e_6] at hw
    refine lv_aload_n hx hb dX9_fraudsOf_49 rfl (lv_at hl 0 rfl) ?_
    obtain ⟨t_7, h_8, hf⟩ := sn_bd hf
    refine sn_callVv (rest := []) C hw (ctX9_goAll l  h_8) kl_RX9_266 layM_0 rfl rfl rfl rfl (Nat.le_of_ble_eq_true rfl) dX9_fraudsOf_50 hl.1 (fun H locs hw => ?_)
    refine lv_iload hx hb dX9_fraudsOf_53 (lv_at hl 5 rfl) ?_
    refine lv_aload_n hx hb dX9_fraudsOf_55 rfl (lv_at hl 0 rfl) ?_
    refine lv_iload_n hx hb dX9_fraudsOf_56 rfl (lv_at hl 1 rfl) ?_
    obtain ⟨t_9, h_10, hf⟩ := sn_bd hf
    refine sn_callVi (rest := [.int x5]) C hw (ctX9_claimOf_ l  h_10) kl_RX9_326 layM_0 rfl rfl rfl rfl (Nat.le_of_ble_eq_true rfl) dX9_fraudsOf_57 hl.1 (fun H locs hw => ?_)
    refine lv_iload_n hx hb dX9_fraudsOf_60 rfl (lv_at hl 3 rfl) ?_
    refine lv_icmp_le (tgt := 71) hx hb dX9_fraudsOf_61 (by decide) (fun c_11 => ?_) (fun c_11 => ?_)
    · have hf := sn_if c_11 hf
      refine lv_iconst (v := 0) hx hb dX9_fraudsOf_71 rfl ?_
      exact wX9_fraudsOf_72 C  hf kc kx _ _ _ hw (lv_sub hl [0, 1, 2, 3, 4, 5, 6] rfl)
    · have hf := sn_el c_11 hf
      refine lv_iconst (v := 1) hx hb dX9_fraudsOf_64 rfl ?_
      refine lv_iload hx hb dX9_fraudsOf_65 (lv_at hl 6 rfl) ?_
      refine lv_ishl hx hb dX9_fraudsOf_67 ?_
      refine lv_goto (tgt := 72) hx hb dX9_fraudsOf_68 (by decide) ?_
      exact wX9_fraudsOf_72 C  hf kc kx _ _ _ hw (lv_sub hl [0, 1, 2, 3, 4, 5, 6] rfl)
theorem wX9_fraudsOf_L27 (C : sn_C p s m args meth c RX9 cX9_fraudsOf 7 (some .int) D ct ad layM A) {x1 : Int32} {x2 : Int32} {x3 : Int32} {x4 : Int32}   {z : sn_S × Int32 × Int32} {t : sn_S × Int32} (h : sn_it (LX9_fraudsOf_27 x1 x2 x3 x4) 5000 z = some t) (kx : ∀ v, t = v → sn_At p l e rmX9_fraudsOf s m args below meth c Q D ct ad layM A 7 v.1 81 [(5, .int v.2)] []) : sn_At p l e rmX9_fraudsOf s m args below meth c Q D ct ad layM A 7 z.1 27 [(0, .ref (ad 0)), (1, .int x1), (2, .int x2), (3, .int x3), (4, .int x4), (5, .int z.2.1), (6, .int z.2.2)] [] :=
  sn_loop (f := LX9_fraudsOf_27 x1 x2 x3 x4) (G := fun z => sn_At p l e rmX9_fraudsOf s m args below meth c Q D ct ad layM A 7 z.1 27 [(0, .ref (ad 0)), (1, .int x1), (2, .int x2), (3, .int x3), (4, .int x4), (5, .int z.2.1), (6, .int z.2.2)] []) (E := fun t => (∀ v, t = v → sn_At p l e rmX9_fraudsOf s m args below meth c Q D ct ad layM A 7 v.1 81 [(5, .int v.2)] []) ∧ True) (fun z o hf k1 k2 => wX9_fraudsOf_27 C  hf (fun v e => k1 v e) (fun v e => (k2 _ e).1 v rfl)) 5000 z t h ⟨kx, trivial⟩
theorem wX9_fraudsOf_in (C : sn_C p s m args meth c RX9 cX9_fraudsOf 7 (some .int) D ct ad layM A) {σ : sn_S} {x1 : Int32}  {o : (Int32 × sn_S)} (hf : fX9_fraudsOf σ x1 = some o) (kr : sn_Kr p l e rmX9_fraudsOf s m args below meth c Q D ct ad layM A cX9_fraudsOf .ireturn (true) o.2 [.int o.1]) : sn_At p l e rmX9_fraudsOf s m args below meth c Q D ct ad layM A 7 σ 0 [(0, .ref (ad 0)), (1, .int x1)] [] := by
  intro H locs ls hw hl
  have hx := C.1
  have hb := C.2.1
  unfold fX9_fraudsOf at hf
  refine lv_aload_n hx hb dX9_fraudsOf_0 rfl (lv_at hl 0 rfl) ?_
  refine lv_iload_n hx hb dX9_fraudsOf_1 rfl (lv_at hl 1 rfl) ?_
  refine lv_iconst (v := 0) hx hb dX9_fraudsOf_2 rfl ?_
  obtain ⟨t_1, h_2, hf⟩ := sn_bd hf
  refine sn_callVi (rest := []) C hw (ctX9_of l  h_2) kl_RX9_234 layM_0 rfl rfl rfl rfl (Nat.le_of_ble_eq_true rfl) dX9_fraudsOf_3 hl.1 (fun H locs hw => ?_)
  refine lv_istore_n (lv' := [(2, .int t_1), (0, .ref (ad 0)), (1, .int x1)]) hx hb dX9_fraudsOf_6 rfl hl (by decide) rfl (fun ls hl => ?_)
  refine lv_aload_n hx hb dX9_fraudsOf_7 rfl (lv_at hl 1 rfl) ?_
  refine lv_iload_n hx hb dX9_fraudsOf_8 rfl (lv_at hl 2 rfl) ?_
  obtain ⟨t_3, h_4, hf⟩ := sn_bd hf
  refine sn_callVi (rest := []) C hw (ctX9_claimOf_ l  h_4) kl_RX9_326 layM_0 rfl rfl rfl rfl (Nat.le_of_ble_eq_true rfl) dX9_fraudsOf_9 hl.1 (fun H locs hw => ?_)
  refine lv_istore_n (lv' := [(3, .int t_3.1), (2, .int t_1), (0, .ref (ad 0)), (1, .int x1)]) hx hb dX9_fraudsOf_12 rfl hl (by decide) rfl (fun ls hl => ?_)
  refine lv_aload_n hx hb dX9_fraudsOf_13 rfl (lv_at hl 2 rfl) ?_
  refine sn_getC (r := 9) C hw fd_RX9_40 layM_0 rfl dX9_fraudsOf_14 ?_
  refine lv_iload_n hx hb dX9_fraudsOf_17 rfl (lv_at hl 1 rfl) ?_
  obtain ⟨g_5, hf⟩ := sn_gdE hf
  refine sn_iald C hw layM_9 g_5 dX9_fraudsOf_18 ?_
  obtain ⟨y_6, e_7, hf⟩ := sn_ltE hf
  refine lv_topi (fun y_6_ e_7_ => ?_)
  obtain rfl : y_6 = y_6_ := e_7.trans e_7_.symm
  refine lv_istore (lv' := [(4, .int y_6), (3, .int t_3.1), (2, .int t_1), (0, .ref (ad 0)), (1, .int x1)]) hx hb dX9_fraudsOf_19 hl (by decide) rfl (fun ls hl => ?_)
  refine lv_iconst (v := 0) hx hb dX9_fraudsOf_21 rfl ?_
  refine lv_istore (lv' := [(5, .int (0 : Int32)), (4, .int y_6), (3, .int t_3.1), (2, .int t_1), (0, .ref (ad 0)), (1, .int x1)]) hx hb dX9_fraudsOf_22 hl (by decide) rfl (fun ls hl => ?_)
  refine lv_iconst (v := 0) hx hb dX9_fraudsOf_24 rfl ?_
  refine lv_istore (lv' := [(6, .int (0 : Int32)), (5, .int (0 : Int32)), (4, .int y_6), (3, .int t_3.1), (2, .int t_1), (0, .ref (ad 0)), (1, .int x1)]) hx hb dX9_fraudsOf_25 hl (by decide) rfl (fun ls hl => ?_)
  obtain ⟨t_8, h_9, hf⟩ := sn_bd hf
  exact wX9_fraudsOf_L27 C  h_9 (fun v e => by cases e; exact wX9_fraudsOf_81 C  hf kr) _ _ _ hw (lv_sub hl [5, 6, 4, 3, 2, 1, 0] rfl)
theorem ctX9_fraudsOf (l : Launch) {σ : sn_S} {x1 : Int32}  {o : (Int32 × sn_S)} (hf : fX9_fraudsOf σ x1 = some o) : sn_M l yX9_fraudsOf cX9_fraudsOf 7 (some .int) rmX9_fraudsOf layM (fun ad => [.ref (ad 0), .int x1]) σ (some (fun _ => .int o.1)) o.2 :=
  sn_met (by decide) (fun _ => Nat.le_of_ble_eq_true rfl) (fun p e s m args below meth c ls D ct ad A C hw hl => wX9_fraudsOf_in C  hf (fun H locs ls pc hw ok hd => sn_iret C hw hd) _ _ _ hw hl)
-- X9_snuff
abbrev rmX9_snuff : Room := { frames := 6, cells := 0, slots := 0, locals := 136 }
def fX9_snuff (σ : sn_S) (x1 : Int32) : Option (Int32 × sn_S) :=
  ((fX9_asksPolicy σ x1).bind fun t_1 => (if t_1.1 = 0 then
  (some ((-2 : Int32), t_1.2))
  else
  ((fX9_fraudsOf t_1.2 x1).bind fun t_4 => ((fX9_firstOf t_4.1).bind fun t_6 => (some (t_6, t_4.2))))))
theorem wX9_snuff_in (C : sn_C p s m args meth c RX9 cX9_snuff 2 (some .int) D ct ad layM A) {σ : sn_S} {x1 : Int32}  {o : (Int32 × sn_S)} (hf : fX9_snuff σ x1 = some o) (kr : sn_Kr p l e rmX9_snuff s m args below meth c Q D ct ad layM A cX9_snuff .ireturn (true) o.2 [.int o.1]) : sn_At p l e rmX9_snuff s m args below meth c Q D ct ad layM A 2 σ 0 [(0, .ref (ad 0)), (1, .int x1)] [] := by
  intro H locs ls hw hl
  have hx := C.1
  have hb := C.2.1
  unfold fX9_snuff at hf
  refine lv_aload_n hx hb dX9_snuff_0 rfl (lv_at hl 0 rfl) ?_
  refine lv_iload_n hx hb dX9_snuff_1 rfl (lv_at hl 1 rfl) ?_
  obtain ⟨t_1, h_2, hf⟩ := sn_bd hf
  refine sn_callVi (rest := []) C hw (ctX9_asksPolicy l  h_2) kl_RX9_323 layM_0 rfl rfl rfl rfl (Nat.le_of_ble_eq_true rfl) dX9_snuff_2 hl.1 (fun H locs hw => ?_)
  refine lv_if_eq (tgt := 19) hx hb dX9_snuff_5 (by decide) (fun c_3 => ?_) (fun c_3 => ?_)
  · have hf := sn_if c_3 hf
    refine lv_bipush (v := (-2)) hx hb dX9_snuff_19 (by decide) ?_
    cases hf
    exact kr _ _ _ _ hw rfl dX9_snuff_21
  · have hf := sn_el c_3 hf
    refine lv_aload_n hx hb dX9_snuff_8 rfl (lv_at hl 0 rfl) ?_
    refine lv_iload_n hx hb dX9_snuff_9 rfl (lv_at hl 1 rfl) ?_
    obtain ⟨t_4, h_5, hf⟩ := sn_bd hf
    refine sn_callVi (rest := []) C hw (ctX9_fraudsOf l  h_5) kl_RX9_362 layM_0 rfl rfl rfl rfl (Nat.le_of_ble_eq_true rfl) dX9_snuff_10 hl.1 (fun H locs hw => ?_)
    obtain ⟨t_6, h_7, hf⟩ := sn_bd hf
    refine sn_callSi (rest := []) C hw (ctX9_firstOf l  h_7) kl_RX9_287 rfl rfl rfl (Nat.le_of_ble_eq_true rfl) dX9_snuff_13 hl.1 (fun H locs hw => ?_)
    refine lv_goto (tgt := 21) hx hb dX9_snuff_16 (by decide) ?_
    cases hf
    exact kr _ _ _ _ hw rfl dX9_snuff_21
theorem ctX9_snuff (l : Launch) {σ : sn_S} {x1 : Int32}  {o : (Int32 × sn_S)} (hf : fX9_snuff σ x1 = some o) : sn_M l yX9_snuff cX9_snuff 2 (some .int) rmX9_snuff layM (fun ad => [.ref (ad 0), .int x1]) σ (some (fun _ => .int o.1)) o.2 :=
  sn_met (by decide) (fun _ => Nat.le_of_ble_eq_true rfl) (fun p e s m args below meth c ls D ct ad A C hw hl => wX9_snuff_in C  hf (fun H locs ls pc hw ok hd => sn_iret C hw hd) _ _ _ hw hl)
-- X9_frauds
abbrev rmX9_frauds : Room := { frames := 6, cells := 0, slots := 0, locals := 136 }
def fX9_frauds (σ : sn_S) (x1 : Int32) : Option (Int32 × sn_S) :=
  ((fX9_asksPolicy σ x1).bind fun t_1 => (if t_1.1 = 0 then
  (some ((-2 : Int32), t_1.2))
  else
  ((fX9_fraudsOf t_1.2 x1).bind fun t_4 => (some (t_4.1, t_4.2)))))
theorem wX9_frauds_in (C : sn_C p s m args meth c RX9 cX9_frauds 2 (some .int) D ct ad layM A) {σ : sn_S} {x1 : Int32}  {o : (Int32 × sn_S)} (hf : fX9_frauds σ x1 = some o) (kr : sn_Kr p l e rmX9_frauds s m args below meth c Q D ct ad layM A cX9_frauds .ireturn (true) o.2 [.int o.1]) : sn_At p l e rmX9_frauds s m args below meth c Q D ct ad layM A 2 σ 0 [(0, .ref (ad 0)), (1, .int x1)] [] := by
  intro H locs ls hw hl
  have hx := C.1
  have hb := C.2.1
  unfold fX9_frauds at hf
  refine lv_aload_n hx hb dX9_frauds_0 rfl (lv_at hl 0 rfl) ?_
  refine lv_iload_n hx hb dX9_frauds_1 rfl (lv_at hl 1 rfl) ?_
  obtain ⟨t_1, h_2, hf⟩ := sn_bd hf
  refine sn_callVi (rest := []) C hw (ctX9_asksPolicy l  h_2) kl_RX9_323 layM_0 rfl rfl rfl rfl (Nat.le_of_ble_eq_true rfl) dX9_frauds_2 hl.1 (fun H locs hw => ?_)
  refine lv_if_eq (tgt := 16) hx hb dX9_frauds_5 (by decide) (fun c_3 => ?_) (fun c_3 => ?_)
  · have hf := sn_if c_3 hf
    refine lv_bipush (v := (-2)) hx hb dX9_frauds_16 (by decide) ?_
    cases hf
    exact kr _ _ _ _ hw rfl dX9_frauds_18
  · have hf := sn_el c_3 hf
    refine lv_aload_n hx hb dX9_frauds_8 rfl (lv_at hl 0 rfl) ?_
    refine lv_iload_n hx hb dX9_frauds_9 rfl (lv_at hl 1 rfl) ?_
    obtain ⟨t_4, h_5, hf⟩ := sn_bd hf
    refine sn_callVi (rest := []) C hw (ctX9_fraudsOf l  h_5) kl_RX9_362 layM_0 rfl rfl rfl rfl (Nat.le_of_ble_eq_true rfl) dX9_frauds_10 hl.1 (fun H locs hw => ?_)
    refine lv_goto (tgt := 18) hx hb dX9_frauds_13 (by decide) ?_
    cases hf
    exact kr _ _ _ _ hw rfl dX9_frauds_18
theorem ctX9_frauds (l : Launch) {σ : sn_S} {x1 : Int32}  {o : (Int32 × sn_S)} (hf : fX9_frauds σ x1 = some o) : sn_M l yX9_frauds cX9_frauds 2 (some .int) rmX9_frauds layM (fun ad => [.ref (ad 0), .int x1]) σ (some (fun _ => .int o.1)) o.2 :=
  sn_met (by decide) (fun _ => Nat.le_of_ble_eq_true rfl) (fun p e s m args below meth c ls D ct ad A C hw hl => wX9_frauds_in C  hf (fun H locs ls pc hw ok hd => sn_iret C hw hd) _ _ _ hw hl)
-- X9_numberAt
abbrev rmX9_numberAt : Room := { frames := 0, cells := 0, slots := 0, locals := 0 }
def fX9_numberAt (σ : sn_S) (x1 : Int32) (x2 : Int32) : Option Int64 :=
  (sn_gd (sn_in (((60 : Int32) * x1) + x2) 240) (some (sn_L σ 23 (((60 : Int32) * x1) + x2).toNatClampNeg)))
theorem wX9_numberAt_in (C : sn_C p s m args meth c RX9 cX9_numberAt 3 (some .long) D ct ad layM A) {σ : sn_S} {x1 : Int32} {x2 : Int32}  {o : Int64} (hf : fX9_numberAt σ x1 x2 = some o) (kr : sn_Kr p l e rmX9_numberAt s m args below meth c Q D ct ad layM A cX9_numberAt .lreturn (true) σ [.long o]) : sn_At p l e rmX9_numberAt s m args below meth c Q D ct ad layM A 3 σ 0 [(0, .ref (ad 0)), (1, .int x1), (2, .int x2)] [] := by
  intro H locs ls hw hl
  have hx := C.1
  have hb := C.2.1
  unfold fX9_numberAt at hf
  refine lv_aload_n hx hb dX9_numberAt_0 rfl (lv_at hl 0 rfl) ?_
  refine sn_getC (r := 23) C hw fd_RX9_82 layM_0 rfl dX9_numberAt_1 ?_
  refine lv_bipush (v := 60) hx hb dX9_numberAt_4 (by decide) ?_
  refine lv_iload_n hx hb dX9_numberAt_6 rfl (lv_at hl 1 rfl) ?_
  refine lv_imul hx hb dX9_numberAt_7 ?_
  refine lv_iload_n hx hb dX9_numberAt_8 rfl (lv_at hl 2 rfl) ?_
  refine lv_iadd hx hb dX9_numberAt_9 ?_
  obtain ⟨g_1, hf⟩ := sn_gdE hf
  refine sn_lald C hw layM_23 g_1 dX9_numberAt_10 ?_
  cases hf
  exact kr _ _ _ _ hw rfl dX9_numberAt_11
theorem ctX9_numberAt (l : Launch) {σ : sn_S} {x1 : Int32} {x2 : Int32}  {o : Int64} (hf : fX9_numberAt σ x1 x2 = some o) : sn_M l yX9_numberAt cX9_numberAt 3 (some .long) rmX9_numberAt layM (fun ad => [.ref (ad 0), .int x1, .int x2]) σ (some (fun _ => .long o)) σ :=
  sn_met (by decide) (fun _ => Nat.le_of_ble_eq_true rfl) (fun p e s m args below meth c ls D ct ad A C hw hl => wX9_numberAt_in C  hf (fun H locs ls pc hw ok hd => sn_lret C hw hd) _ _ _ hw hl)
-- X9_isSlot
abbrev rmX9_isSlot : Room := { frames := 1, cells := 0, slots := 0, locals := 25 }
def fX9_isSlot (x0 : Int32) : Option Int32 :=
  ((fX9_in x0.toInt64 (0 : Int64) (3 : Int64)).bind fun t_1 => (sn_gd (sn_b01 t_1) (some t_1)))
theorem wX9_isSlot_in (C : sn_C p s m args meth c RX9 cX9_isSlot 1 (some .boolean) D ct ad layM A) {σ : sn_S} {x0 : Int32}  {o : Int32} (hf : fX9_isSlot x0 = some o) (kr : sn_Kr p l e rmX9_isSlot s m args below meth c Q D ct ad layM A cX9_isSlot .ireturn (sn_b01 o) σ [.int o]) : sn_At p l e rmX9_isSlot s m args below meth c Q D ct ad layM A 1 σ 0 [(0, .int x0)] [] := by
  intro H locs ls hw hl
  have hx := C.1
  have hb := C.2.1
  unfold fX9_isSlot at hf
  refine lv_iload_n hx hb dX9_isSlot_0 rfl (lv_at hl 0 rfl) ?_
  refine lv_i2l hx hb dX9_isSlot_1 rfl ?_
  refine lv_lconst (v := 0) hx hb dX9_isSlot_2 rfl ?_
  refine lv_ldc2 hx hb C.2.2.2.1 (C.2.2.2.2.1 _ kk_RX9_98) dX9_isSlot_3 ?_
  obtain ⟨t_1, h_2, hf⟩ := sn_bd hf
  refine sn_callSi (rest := []) C hw (ctX9_in l  h_2) kl_RX9_94 rfl rfl rfl (Nat.le_of_ble_eq_true rfl) dX9_isSlot_6 hl.1 (fun H locs hw => ?_)
  obtain ⟨g_3, hf⟩ := sn_gdE hf
  cases hf
  exact kr _ _ _ _ hw g_3 dX9_isSlot_9
theorem ctX9_isSlot (l : Launch) {σ : sn_S} {x0 : Int32}  {o : Int32} (hf : fX9_isSlot x0 = some o) : sn_M l yX9_isSlot cX9_isSlot 1 (some .boolean) rmX9_isSlot layM (fun ad => [.int x0]) σ (some (fun _ => .int o)) σ :=
  sn_met (by decide) (fun _ => Nat.le_of_ble_eq_true rfl) (fun p e s m args below meth c ls D ct ad A C hw hl => wX9_isSlot_in C  hf (fun H locs ls pc hw ok hd => sn_zret C hw ok hd) _ _ _ hw hl)
-- X9_layPairs
abbrev rmX9_layPairs : Room := { frames := 4, cells := 0, slots := 0, locals := 95 }
def BX9_layPairs_295 (σ : sn_S) : Option ((Int32 × sn_S)) :=
  (some ((0 : Int32), σ))
def BX9_layPairs_289 (σ : sn_S) (x1 : Int32) (x2 : Int32) : Option ((sn_S × Int32) ⊕ (sn_S)) :=
  (sn_lt (x2 + 1) fun y_1 => (some (.inl (σ, y_1))))
def BX9_layPairs_283 (σ : sn_S) (x1 : Int32) (x2 : Int32) (x3 : Int32) : Option ((sn_S × Int32) ⊕ (sn_S)) :=
  (sn_lt (x3 + 1) fun y_1 => (some (.inl (σ, y_1))))
def BX9_layPairs_273 (σ : sn_S) (x1 : Int32) (x2 : Int32) (x3 : Int32) : Option ((sn_S × Int32) ⊕ (sn_S)) :=
  (sn_lt (sn_pI σ 0 36 ((sn_I σ 0 36) + (1 : Int32))) fun σ_1 => (BX9_layPairs_283 σ_1 x1 x2 x3))
def BX9_layPairs_235 (σ : sn_S) (x1 : Int32) (x2 : Int32) (x3 : Int32) (x5 : Int32) : Option ((sn_S × Int32) ⊕ (sn_S)) :=
  (if (6 : Int32) ≤ x5 then
  (some (.inr (σ)))
  else
  (sn_gd (sn_in x5 6) ((fX9_bits (sn_I σ 10 x5.toNatClampNeg)).bind fun t_3 => (sn_gd (sn_in (((6 : Int32) * (sn_I σ 0 36)) + x5) 1620) (sn_lt (sn_pI σ 20 (((6 : Int32) * (sn_I σ 0 36)) + x5).toNatClampNeg t_3) fun σ_6 => (sn_lt (x5 + 1) fun y_8 => (some (.inl (σ_6, y_8)))))))))
def LX9_layPairs_235 (x1 : Int32) (x2 : Int32) (x3 : Int32) (s : sn_S × Int32) : Option ((sn_S × Int32) ⊕ (sn_S)) := BX9_layPairs_235 s.1 x1 x2 x3 s.2
def BX9_layPairs_209 (σ : sn_S) (x1 : Int32) (x2 : Int32) (x3 : Int32) (x4 : Int32) : Option ((sn_S × Int32) ⊕ (sn_S)) :=
  (if x4 = 0 then
  (BX9_layPairs_283 σ x1 x2 x3)
  else
  (sn_gd (sn_in (sn_I σ 0 36) 270) (sn_lt (sn_pI σ 19 (sn_I σ 0 36).toNatClampNeg (((10 : Int32) * x2) + x3)) fun σ_3 => ((sn_it (LX9_layPairs_235 x1 x2 x3) 5000 (σ_3, (0 : Int32))).bind fun t_5 => (BX9_layPairs_273 t_5 x1 x2 x3)))))
def BX9_layPairs_201 (σ : sn_S) (x1 : Int32) (x2 : Int32) (x3 : Int32) (x4 : Int32) (x5 : Int32) (t0 : Int32) : Option ((Int32 × Int32) ⊕ (Int32)) :=
  (sn_lt (x5 + 2) fun y_1 => (some (.inl (t0, y_1))))
def BX9_layPairs_200 (σ : sn_S) (x1 : Int32) (x2 : Int32) (x3 : Int32) (x4 : Int32) (x5 : Int32) : Option ((Int32 × Int32) ⊕ (Int32)) :=
  (BX9_layPairs_201 σ x1 x2 x3 x4 x5 (0 : Int32))
def BX9_layPairs_150 (σ : sn_S) (x1 : Int32) (x2 : Int32) (x3 : Int32) (x4 : Int32) (x5 : Int32) : Option ((Int32 × Int32) ⊕ (Int32)) :=
  (sn_gd (sn_in x1 4) (if (sn_I σ 21 x1.toNatClampNeg) ≤ x5 then
  (some (.inr (x4)))
  else
  (if x4 = 0 then
  (BX9_layPairs_200 σ x1 x2 x3 x4 x5)
  else
  ((fX9_numberAt σ x1 x5).bind fun t_4 => (sn_gd (sn_in t_4.toInt32 6) ((fX9_numberAt σ x1 (x5 + (1 : Int32))).bind fun t_7 => ((fX9_bit (sn_I σ 10 t_4.toInt32.toNatClampNeg) t_7.toInt32).bind fun t_9 => (if t_9 = (1 : Int32) then
  (BX9_layPairs_201 σ x1 x2 x3 x4 x5 (1 : Int32))
  else
  (BX9_layPairs_200 σ x1 x2 x3 x4 x5)))))))))
def LX9_layPairs_150 (σ : sn_S) (x1 : Int32) (x2 : Int32) (x3 : Int32) (s : Int32 × Int32) : Option ((Int32 × Int32) ⊕ (Int32)) := BX9_layPairs_150 σ x1 x2 x3 s.1 s.2
def BX9_layPairs_114 (σ : sn_S) (x1 : Int32) (x2 : Int32) (x3 : Int32) : Option ((sn_S × Int32) ⊕ (sn_S)) :=
  (if (9 : Int32) < x3 then
  (some (.inr (σ)))
  else
  (sn_gd (sn_in x2 30) (sn_gd (sn_in x2 30) (sn_lt (sn_pI σ 7 x2.toNatClampNeg ((sn_I σ 7 x2.toNatClampNeg) + x3)) fun σ_4 => ((fX9_goAll σ_4).bind fun t_6 => (sn_gd (sn_in x2 30) (sn_gd (sn_in x2 30) (sn_lt (sn_pI t_6 7 x2.toNatClampNeg ((sn_I t_6 7 x2.toNatClampNeg) - x3)) fun σ_10 => ((sn_it (LX9_layPairs_150 σ_10 x1 x2 x3) 5000 ((1 : Int32), (0 : Int32))).bind fun t_12 => (BX9_layPairs_209 σ_10 x1 x2 x3 t_12))))))))))
def LX9_layPairs_114 (x1 : Int32) (x2 : Int32) (s : sn_S × Int32) : Option ((sn_S × Int32) ⊕ (sn_S)) := BX9_layPairs_114 s.1 x1 x2 s.2
def BX9_layPairs_104 (σ : sn_S) (x1 : Int32) (x2 : Int32) : Option ((sn_S × Int32) ⊕ (sn_S)) :=
  ((fX9_minutes σ).bind fun t_1 => (if t_1 ≤ x2 then
  (some (.inr (σ)))
  else
  ((sn_it (LX9_layPairs_114 x1 x2) 5000 (σ, (1 : Int32))).bind fun t_4 => (BX9_layPairs_289 t_4 x1 x2))))
def LX9_layPairs_104 (x1 : Int32) (s : sn_S × Int32) : Option ((sn_S × Int32) ⊕ (sn_S)) := BX9_layPairs_104 s.1 x1 s.2
def BX9_layPairs_93 (σ : sn_S) (x1 : Int32) : Option ((Int32 × sn_S)) :=
  ((fX9_asItIs σ).bind fun t_1 => (sn_lt (sn_pI t_1 0 36 (0 : Int32)) fun σ_3 => ((sn_it (LX9_layPairs_104 x1) 5000 (σ_3, (0 : Int32))).bind fun t_5 => (BX9_layPairs_295 t_5))))
def BX9_layPairs_46 (σ : sn_S) (x1 : Int32) (x2 : Int32) : Option ((Int32) ⊕ ((Unit) ⊕ (Int32 × sn_S))) :=
  (sn_gd (sn_in x1 4) (if (sn_I σ 21 x1.toNatClampNeg) ≤ x2 then
  (some (.inr (.inl ())))
  else
  ((fX9_numberAt σ x1 x2).bind fun t_3 => ((fX9_isPerson σ t_3).bind fun t_5 => (if t_5 = 0 then
  (some (.inr (.inr ((-2 : Int32), σ))))
  else
  ((fX9_numberAt σ x1 (x2 + (1 : Int32))).bind fun t_8 => ((fX9_isMinute σ t_8).bind fun t_10 => (if t_10 = 0 then
  (some (.inr (.inr ((-2 : Int32), σ))))
  else
  (sn_lt (x2 + 2) fun y_13 => (some (.inl (y_13))))))))))))
def LX9_layPairs_46 (σ : sn_S) (x1 : Int32) (s : Int32) : Option ((Int32) ⊕ ((Unit) ⊕ (Int32 × sn_S))) := BX9_layPairs_46 σ x1 s
def fX9_layPairs (σ : sn_S) (x1 : Int32) : Option (Int32 × sn_S) :=
  ((fX9_isSlot x1).bind fun t_1 => (if t_1 = 0 then
  (some ((-2 : Int32), σ))
  else
  ((fX9_isHouse σ).bind fun t_4 => (if t_4 = 0 then
  (some ((-2 : Int32), σ))
  else
  (sn_gd (sn_in x1 4) (if (sn_I σ 21 x1.toNatClampNeg) = (-1 : Int32) then
  (some ((-6 : Int32), σ))
  else
  (sn_gd (sn_in x1 4) (if ((sn_I σ 21 x1.toNatClampNeg) - (sn_I σ 21 x1.toNatClampNeg) / (2 : Int32) * (2 : Int32)) = 0 then
  ((sn_it (LX9_layPairs_46 σ x1) 5000 ((0 : Int32))).bind fun t_11 => Sum.elim (fun v_13 => (BX9_layPairs_93 σ x1)) (fun r_14 => (some r_14)) t_11)
  else
  (some ((-2 : Int32), σ))))))))))
theorem wX9_layPairs_295 (C : sn_C p s m args meth c RX9 cX9_layPairs 6 (some .int) D ct ad layM A) {σ : sn_S}  {o : (Int32 × sn_S)} (hf : BX9_layPairs_295 σ = some o) (kr : sn_Kr p l e rmX9_layPairs s m args below meth c Q D ct ad layM A cX9_layPairs .ireturn (true) o.2 [.int o.1]) : sn_At p l e rmX9_layPairs s m args below meth c Q D ct ad layM A 6 σ 295 [] [] := by
  intro H locs ls hw hl
  have hx := C.1
  have hb := C.2.1
  unfold BX9_layPairs_295 at hf
  refine lv_iconst (v := 0) hx hb dX9_layPairs_295 rfl ?_
  cases hf
  exact kr _ _ _ _ hw rfl dX9_layPairs_296
theorem wX9_layPairs_289 (C : sn_C p s m args meth c RX9 cX9_layPairs 6 (some .int) D ct ad layM A) {σ : sn_S} {x1 : Int32} {x2 : Int32}  {o : (sn_S × Int32) ⊕ (sn_S)} (hf : BX9_layPairs_289 σ x1 x2 = some o) (kc : ∀ v, o = .inl v → sn_At p l e rmX9_layPairs s m args below meth c Q D ct ad layM A 6 v.1 104 [(0, .ref (ad 0)), (1, .int x1), (2, .int v.2)] []) (kx : ∀ v, o = .inr v → sn_At p l e rmX9_layPairs s m args below meth c Q D ct ad layM A 6 v 295 [] []) : sn_At p l e rmX9_layPairs s m args below meth c Q D ct ad layM A 6 σ 289 [(0, .ref (ad 0)), (1, .int x1), (2, .int x2)] [] := by
  intro H locs ls hw hl
  have hx := C.1
  have hb := C.2.1
  unfold BX9_layPairs_289 at hf
  obtain ⟨y_1, e_2, hf⟩ := sn_ltE hf
  refine lv_iinc (v := y_1) (lv' := [(2, .int y_1), (0, .ref (ad 0)), (1, .int x1)]) hx hb dX9_layPairs_289 hl (k := 2) rfl (by rw [e_2]; rfl) (by decide) rfl (fun ls hl => ?_)
  refine lv_goto (tgt := 104) hx hb dX9_layPairs_292 (by decide) ?_
  cases hf
  exact kc _ rfl _ _ _ hw (lv_sub hl [1, 2, 0] rfl)
theorem wX9_layPairs_283 (C : sn_C p s m args meth c RX9 cX9_layPairs 6 (some .int) D ct ad layM A) {σ : sn_S} {x1 : Int32} {x2 : Int32} {x3 : Int32}  {o : (sn_S × Int32) ⊕ (sn_S)} (hf : BX9_layPairs_283 σ x1 x2 x3 = some o) (kc : ∀ v, o = .inl v → sn_At p l e rmX9_layPairs s m args below meth c Q D ct ad layM A 6 v.1 114 [(0, .ref (ad 0)), (1, .int x1), (2, .int x2), (3, .int v.2)] []) (kx : ∀ v, o = .inr v → sn_At p l e rmX9_layPairs s m args below meth c Q D ct ad layM A 6 v 289 [(0, .ref (ad 0)), (1, .int x1), (2, .int x2)] []) : sn_At p l e rmX9_layPairs s m args below meth c Q D ct ad layM A 6 σ 283 [(0, .ref (ad 0)), (1, .int x1), (2, .int x2), (3, .int x3)] [] := by
  intro H locs ls hw hl
  have hx := C.1
  have hb := C.2.1
  unfold BX9_layPairs_283 at hf
  obtain ⟨y_1, e_2, hf⟩ := sn_ltE hf
  refine lv_iinc (v := y_1) (lv' := [(3, .int y_1), (0, .ref (ad 0)), (1, .int x1), (2, .int x2)]) hx hb dX9_layPairs_283 hl (k := 3) rfl (by rw [e_2]; rfl) (by decide) rfl (fun ls hl => ?_)
  refine lv_goto (tgt := 114) hx hb dX9_layPairs_286 (by decide) ?_
  cases hf
  exact kc _ rfl _ _ _ hw (lv_sub hl [1, 2, 3, 0] rfl)
theorem wX9_layPairs_273 (C : sn_C p s m args meth c RX9 cX9_layPairs 6 (some .int) D ct ad layM A) {σ : sn_S} {x1 : Int32} {x2 : Int32} {x3 : Int32}  {o : (sn_S × Int32) ⊕ (sn_S)} (hf : BX9_layPairs_273 σ x1 x2 x3 = some o) (kc : ∀ v, o = .inl v → sn_At p l e rmX9_layPairs s m args below meth c Q D ct ad layM A 6 v.1 114 [(0, .ref (ad 0)), (1, .int x1), (2, .int x2), (3, .int v.2)] []) (kx : ∀ v, o = .inr v → sn_At p l e rmX9_layPairs s m args below meth c Q D ct ad layM A 6 v 289 [(0, .ref (ad 0)), (1, .int x1), (2, .int x2)] []) : sn_At p l e rmX9_layPairs s m args below meth c Q D ct ad layM A 6 σ 273 [(0, .ref (ad 0)), (1, .int x1), (2, .int x2), (3, .int x3)] [] := by
  intro H locs ls hw hl
  have hx := C.1
  have hb := C.2.1
  unfold BX9_layPairs_273 at hf
  refine lv_aload_n hx hb dX9_layPairs_273 rfl (lv_at hl 0 rfl) ?_
  refine lv_dup hx hb dX9_layPairs_274 rfl ?_
  refine sn_getI C hw fd_RX9_372 layM_0 rfl dX9_layPairs_275 ?_
  refine lv_iconst (v := 1) hx hb dX9_layPairs_278 rfl ?_
  refine lv_iadd hx hb dX9_layPairs_279 ?_
  refine sn_putI C hw fp_RX9_372 layM_0 rfl dX9_layPairs_280 (fun H locs hw => ?_)
  obtain ⟨σ_1, e_2, hf⟩ := sn_ltE hf
  rw [← e_2] at hw
  exact wX9_layPairs_283 C  hf kc kx _ _ _ hw (lv_sub hl [0, 1, 2, 3] rfl)
theorem wX9_layPairs_235 (C : sn_C p s m args meth c RX9 cX9_layPairs 6 (some .int) D ct ad layM A) {σ : sn_S} {x1 : Int32} {x2 : Int32} {x3 : Int32} {x5 : Int32}  {o : (sn_S × Int32) ⊕ (sn_S)} (hf : BX9_layPairs_235 σ x1 x2 x3 x5 = some o) (kc : ∀ v, o = .inl v → sn_At p l e rmX9_layPairs s m args below meth c Q D ct ad layM A 6 v.1 235 [(0, .ref (ad 0)), (1, .int x1), (2, .int x2), (3, .int x3), (5, .int v.2)] []) (kx : ∀ v, o = .inr v → sn_At p l e rmX9_layPairs s m args below meth c Q D ct ad layM A 6 v 273 [(0, .ref (ad 0)), (1, .int x1), (2, .int x2), (3, .int x3)] []) : sn_At p l e rmX9_layPairs s m args below meth c Q D ct ad layM A 6 σ 235 [(0, .ref (ad 0)), (1, .int x1), (2, .int x2), (3, .int x3), (5, .int x5)] [] := by
  intro H locs ls hw hl
  have hx := C.1
  have hb := C.2.1
  unfold BX9_layPairs_235 at hf
  refine lv_iload hx hb dX9_layPairs_235 (lv_at hl 4 rfl) ?_
  refine lv_bipush (v := 6) hx hb dX9_layPairs_237 (by decide) ?_
  refine lv_icmp_ge (tgt := 273) hx hb dX9_layPairs_239 (by decide) (fun c_1 => ?_) (fun c_1 => ?_)
  · have hf := sn_if c_1 hf
    cases hf
    exact kx _ rfl _ _ _ hw (lv_sub hl [0, 1, 2, 3] rfl)
  · have hf := sn_el c_1 hf
    refine lv_aload_n hx hb dX9_layPairs_242 rfl (lv_at hl 0 rfl) ?_
    refine sn_getC (r := 20) C hw fd_RX9_73 layM_0 rfl dX9_layPairs_243 ?_
    refine lv_bipush (v := 6) hx hb dX9_layPairs_246 (by decide) ?_
    refine lv_aload_n hx hb dX9_layPairs_248 rfl (lv_at hl 0 rfl) ?_
    refine sn_getI C hw fd_RX9_372 layM_0 rfl dX9_layPairs_249 ?_
    refine lv_imul hx hb dX9_layPairs_252 ?_
    refine lv_iload hx hb dX9_layPairs_253 (lv_at hl 4 rfl) ?_
    refine lv_iadd hx hb dX9_layPairs_255 ?_
    refine lv_aload_n hx hb dX9_layPairs_256 rfl (lv_at hl 0 rfl) ?_
    refine sn_getC (r := 10) C hw fd_RX9_43 layM_0 rfl dX9_layPairs_257 ?_
    refine lv_iload hx hb dX9_layPairs_260 (lv_at hl 4 rfl) ?_
    obtain ⟨g_2, hf⟩ := sn_gdE hf
    refine sn_iald C hw layM_10 g_2 dX9_layPairs_262 ?_
    obtain ⟨t_3, h_4, hf⟩ := sn_bd hf
    refine sn_callSi (rest := [.int (((6 : Int32) * (sn_I σ 0 36)) + x5), .ref (ad 20)]) C hw (ctX9_bits l  h_4) kl_RX9_278 rfl rfl rfl (Nat.le_of_ble_eq_true rfl) dX9_layPairs_263 hl.1 (fun H locs hw => ?_)
    obtain ⟨g_5, hf⟩ := sn_gdE hf
    refine sn_iast C hw layM_20 g_5 dX9_layPairs_266 (fun H locs hw => ?_)
    obtain ⟨σ_6, e_7, hf⟩ := sn_ltE hf
    rw [← e_7] at hw
    obtain ⟨y_8, e_9, hf⟩ := sn_ltE hf
    refine lv_iinc (v := y_8) (lv' := [(5, .int y_8), (0, .ref (ad 0)), (1, .int x1), (2, .int x2), (3, .int x3)]) hx hb dX9_layPairs_267 hl (k := 4) rfl (by rw [e_9]; rfl) (by decide) rfl (fun ls hl => ?_)
    refine lv_goto (tgt := 235) hx hb dX9_layPairs_270 (by decide) ?_
    cases hf
    exact kc _ rfl _ _ _ hw (lv_sub hl [1, 2, 3, 4, 0] rfl)
theorem wX9_layPairs_L235 (C : sn_C p s m args meth c RX9 cX9_layPairs 6 (some .int) D ct ad layM A) {x1 : Int32} {x2 : Int32} {x3 : Int32}   {z : sn_S × Int32} {t : sn_S} (h : sn_it (LX9_layPairs_235 x1 x2 x3) 5000 z = some t) (kx : ∀ v, t = v → sn_At p l e rmX9_layPairs s m args below meth c Q D ct ad layM A 6 v 273 [(0, .ref (ad 0)), (1, .int x1), (2, .int x2), (3, .int x3)] []) : sn_At p l e rmX9_layPairs s m args below meth c Q D ct ad layM A 6 z.1 235 [(0, .ref (ad 0)), (1, .int x1), (2, .int x2), (3, .int x3), (5, .int z.2)] [] :=
  sn_loop (f := LX9_layPairs_235 x1 x2 x3) (G := fun z => sn_At p l e rmX9_layPairs s m args below meth c Q D ct ad layM A 6 z.1 235 [(0, .ref (ad 0)), (1, .int x1), (2, .int x2), (3, .int x3), (5, .int z.2)] []) (E := fun t => (∀ v, t = v → sn_At p l e rmX9_layPairs s m args below meth c Q D ct ad layM A 6 v 273 [(0, .ref (ad 0)), (1, .int x1), (2, .int x2), (3, .int x3)] []) ∧ True) (fun z o hf k1 k2 => wX9_layPairs_235 C  hf (fun v e => k1 v e) (fun v e => (k2 _ e).1 v rfl)) 5000 z t h ⟨kx, trivial⟩
theorem wX9_layPairs_209 (C : sn_C p s m args meth c RX9 cX9_layPairs 6 (some .int) D ct ad layM A) {σ : sn_S} {x1 : Int32} {x2 : Int32} {x3 : Int32} {x4 : Int32}  {o : (sn_S × Int32) ⊕ (sn_S)} (hf : BX9_layPairs_209 σ x1 x2 x3 x4 = some o) (kc : ∀ v, o = .inl v → sn_At p l e rmX9_layPairs s m args below meth c Q D ct ad layM A 6 v.1 114 [(0, .ref (ad 0)), (1, .int x1), (2, .int x2), (3, .int v.2)] []) (kx : ∀ v, o = .inr v → sn_At p l e rmX9_layPairs s m args below meth c Q D ct ad layM A 6 v 289 [(0, .ref (ad 0)), (1, .int x1), (2, .int x2)] []) : sn_At p l e rmX9_layPairs s m args below meth c Q D ct ad layM A 6 σ 209 [(0, .ref (ad 0)), (1, .int x1), (2, .int x2), (3, .int x3), (4, .int x4)] [] := by
  intro H locs ls hw hl
  have hx := C.1
  have hb := C.2.1
  unfold BX9_layPairs_209 at hf
  refine lv_iload hx hb dX9_layPairs_209 (lv_at hl 4 rfl) ?_
  refine lv_if_ne (tgt := 217) hx hb dX9_layPairs_211 (by decide) (fun c_1 => ?_) (fun c_1 => ?_)
  · have hf := sn_el c_1 hf
    refine lv_aload_n hx hb dX9_layPairs_217 rfl (lv_at hl 0 rfl) ?_
    refine sn_getC (r := 19) C hw fd_RX9_70 layM_0 rfl dX9_layPairs_218 ?_
    refine lv_aload_n hx hb dX9_layPairs_221 rfl (lv_at hl 0 rfl) ?_
    refine sn_getI C hw fd_RX9_372 layM_0 rfl dX9_layPairs_222 ?_
    refine lv_bipush (v := 10) hx hb dX9_layPairs_225 (by decide) ?_
    refine lv_iload_n hx hb dX9_layPairs_227 rfl (lv_at hl 2 rfl) ?_
    refine lv_imul hx hb dX9_layPairs_228 ?_
    refine lv_iload_n hx hb dX9_layPairs_229 rfl (lv_at hl 3 rfl) ?_
    refine lv_iadd hx hb dX9_layPairs_230 ?_
    obtain ⟨g_2, hf⟩ := sn_gdE hf
    refine sn_iast C hw layM_19 g_2 dX9_layPairs_231 (fun H locs hw => ?_)
    obtain ⟨σ_3, e_4, hf⟩ := sn_ltE hf
    rw [← e_4] at hw
    refine lv_iconst (v := 0) hx hb dX9_layPairs_232 rfl ?_
    refine lv_istore (lv' := [(5, .int (0 : Int32)), (0, .ref (ad 0)), (1, .int x1), (2, .int x2), (3, .int x3), (4, .int x4)]) hx hb dX9_layPairs_233 hl (by decide) rfl (fun ls hl => ?_)
    obtain ⟨t_5, h_6, hf⟩ := sn_bd hf
    exact wX9_layPairs_L235 C  h_6 (fun v e => by cases e; exact wX9_layPairs_273 C  hf kc kx) _ _ _ hw (lv_sub hl [1, 2, 3, 4, 0] rfl)
  · have hf := sn_if c_1 hf
    refine lv_goto (tgt := 283) hx hb dX9_layPairs_214 (by decide) ?_
    exact wX9_layPairs_283 C  hf kc kx _ _ _ hw (lv_sub hl [0, 1, 2, 3] rfl)
theorem wX9_layPairs_201 (C : sn_C p s m args meth c RX9 cX9_layPairs 6 (some .int) D ct ad layM A) {σ : sn_S} {x1 : Int32} {x2 : Int32} {x3 : Int32} {x4 : Int32} {x5 : Int32} {t0 : Int32}  {o : (Int32 × Int32) ⊕ (Int32)} (hf : BX9_layPairs_201 σ x1 x2 x3 x4 x5 t0 = some o) (kc : ∀ v, o = .inl v → sn_At p l e rmX9_layPairs s m args below meth c Q D ct ad layM A 6 σ 150 [(0, .ref (ad 0)), (1, .int x1), (2, .int x2), (3, .int x3), (4, .int v.1), (5, .int v.2)] []) (kx : ∀ v, o = .inr v → sn_At p l e rmX9_layPairs s m args below meth c Q D ct ad layM A 6 σ 209 [(0, .ref (ad 0)), (1, .int x1), (2, .int x2), (3, .int x3), (4, .int v)] []) : sn_At p l e rmX9_layPairs s m args below meth c Q D ct ad layM A 6 σ 201 [(0, .ref (ad 0)), (1, .int x1), (2, .int x2), (3, .int x3), (4, .int x4), (5, .int x5)] [.int t0] := by
  intro H locs ls hw hl
  have hx := C.1
  have hb := C.2.1
  unfold BX9_layPairs_201 at hf
  refine lv_istore (lv' := [(4, .int t0), (0, .ref (ad 0)), (1, .int x1), (2, .int x2), (3, .int x3), (5, .int x5)]) hx hb dX9_layPairs_201 hl (by decide) rfl (fun ls hl => ?_)
  obtain ⟨y_1, e_2, hf⟩ := sn_ltE hf
  refine lv_iinc (v := y_1) (lv' := [(5, .int y_1), (4, .int t0), (0, .ref (ad 0)), (1, .int x1), (2, .int x2), (3, .int x3)]) hx hb dX9_layPairs_203 hl (k := 5) rfl (by rw [e_2]; rfl) (by decide) rfl (fun ls hl => ?_)
  refine lv_goto (tgt := 150) hx hb dX9_layPairs_206 (by decide) ?_
  cases hf
  exact kc _ rfl _ _ _ hw (lv_sub hl [2, 3, 4, 5, 1, 0] rfl)
theorem wX9_layPairs_200 (C : sn_C p s m args meth c RX9 cX9_layPairs 6 (some .int) D ct ad layM A) {σ : sn_S} {x1 : Int32} {x2 : Int32} {x3 : Int32} {x4 : Int32} {x5 : Int32}  {o : (Int32 × Int32) ⊕ (Int32)} (hf : BX9_layPairs_200 σ x1 x2 x3 x4 x5 = some o) (kc : ∀ v, o = .inl v → sn_At p l e rmX9_layPairs s m args below meth c Q D ct ad layM A 6 σ 150 [(0, .ref (ad 0)), (1, .int x1), (2, .int x2), (3, .int x3), (4, .int v.1), (5, .int v.2)] []) (kx : ∀ v, o = .inr v → sn_At p l e rmX9_layPairs s m args below meth c Q D ct ad layM A 6 σ 209 [(0, .ref (ad 0)), (1, .int x1), (2, .int x2), (3, .int x3), (4, .int v)] []) : sn_At p l e rmX9_layPairs s m args below meth c Q D ct ad layM A 6 σ 200 [(0, .ref (ad 0)), (1, .int x1), (2, .int x2), (3, .int x3), (4, .int x4), (5, .int x5)] [] := by
  intro H locs ls hw hl
  have hx := C.1
  have hb := C.2.1
  unfold BX9_layPairs_200 at hf
  refine lv_iconst (v := 0) hx hb dX9_layPairs_200 rfl ?_
  exact wX9_layPairs_201 C  hf kc kx _ _ _ hw (lv_sub hl [0, 1, 2, 3, 4, 5] rfl)
theorem wX9_layPairs_150 (C : sn_C p s m args meth c RX9 cX9_layPairs 6 (some .int) D ct ad layM A) {σ : sn_S} {x1 : Int32} {x2 : Int32} {x3 : Int32} {x4 : Int32} {x5 : Int32}  {o : (Int32 × Int32) ⊕ (Int32)} (hf : BX9_layPairs_150 σ x1 x2 x3 x4 x5 = some o) (kc : ∀ v, o = .inl v → sn_At p l e rmX9_layPairs s m args below meth c Q D ct ad layM A 6 σ 150 [(0, .ref (ad 0)), (1, .int x1), (2, .int x2), (3, .int x3), (4, .int v.1), (5, .int v.2)] []) (kx : ∀ v, o = .inr v → sn_At p l e rmX9_layPairs s m args below meth c Q D ct ad layM A 6 σ 209 [(0, .ref (ad 0)), (1, .int x1), (2, .int x2), (3, .int x3), (4, .int v)] []) : sn_At p l e rmX9_layPairs s m args below meth c Q D ct ad layM A 6 σ 150 [(0, .ref (ad 0)), (1, .int x1), (2, .int x2), (3, .int x3), (4, .int x4), (5, .int x5)] [] := by
  intro H locs ls hw hl
  have hx := C.1
  have hb := C.2.1
  unfold BX9_layPairs_150 at hf
  refine lv_iload hx hb dX9_layPairs_150 (lv_at hl 5 rfl) ?_
  refine lv_aload_n hx hb dX9_layPairs_152 rfl (lv_at hl 0 rfl) ?_
  refine sn_getC (r := 21) C hw fd_RX9_76 layM_0 rfl dX9_layPairs_153 ?_
  refine lv_iload_n hx hb dX9_layPairs_156 rfl (lv_at hl 1 rfl) ?_
  obtain ⟨g_1, hf⟩ := sn_gdE hf
  refine sn_iald C hw layM_21 g_1 dX9_layPairs_157 ?_
  refine lv_icmp_ge (tgt := 209) hx hb dX9_layPairs_158 (by decide) (fun c_2 => ?_) (fun c_2 => ?_)
  · have hf := sn_if c_2 hf
    cases hf
    exact kx _ rfl _ _ _ hw (lv_sub hl [0, 1, 2, 3, 4] rfl)
  · have hf := sn_el c_2 hf
    refine lv_iload hx hb dX9_layPairs_161 (lv_at hl 4 rfl) ?_
    refine lv_if_eq (tgt := 200) hx hb dX9_layPairs_163 (by decide) (fun c_3 => ?_) (fun c_3 => ?_)
    · have hf := sn_if c_3 hf
      exact wX9_layPairs_200 C  hf kc kx _ _ _ hw (lv_sub hl [0, 1, 2, 3, 4, 5] rfl)
    · have hf := sn_el c_3 hf
      refine lv_aload_n hx hb dX9_layPairs_166 rfl (lv_at hl 0 rfl) ?_
      refine sn_getC (r := 10) C hw fd_RX9_43 layM_0 rfl dX9_layPairs_167 ?_
      refine lv_aload_n hx hb dX9_layPairs_170 rfl (lv_at hl 0 rfl) ?_
      refine lv_iload_n hx hb dX9_layPairs_171 rfl (lv_at hl 1 rfl) ?_
      refine lv_iload hx hb dX9_layPairs_172 (lv_at hl 5 rfl) ?_
      obtain ⟨t_4, h_5, hf⟩ := sn_bd hf
      refine sn_callVl (rest := [.ref (ad 10)]) C hw (ctX9_numberAt l  h_5) kl_RX9_368 layM_0 rfl rfl rfl rfl (Nat.le_of_ble_eq_true rfl) dX9_layPairs_174 hl.1 (fun H locs hw => ?_)
      refine lv_l2i hx hb dX9_layPairs_177 rfl ?_
      obtain ⟨g_6, hf⟩ := sn_gdE hf
      refine sn_iald C hw layM_10 g_6 dX9_layPairs_178 ?_
      refine lv_aload_n hx hb dX9_layPairs_179 rfl (lv_at hl 0 rfl) ?_
      refine lv_iload_n hx hb dX9_layPairs_180 rfl (lv_at hl 1 rfl) ?_
      refine lv_iload hx hb dX9_layPairs_181 (lv_at hl 5 rfl) ?_
      refine lv_iconst (v := 1) hx hb dX9_layPairs_183 rfl ?_
      refine lv_iadd hx hb dX9_layPairs_184 ?_
      obtain ⟨t_7, h_8, hf⟩ := sn_bd hf
      refine sn_callVl (rest := [.int (sn_I σ 10 t_4.toInt32.toNatClampNeg)]) C hw (ctX9_numberAt l  h_8) kl_RX9_368 layM_0 rfl rfl rfl rfl (Nat.le_of_ble_eq_true rfl) dX9_layPairs_185 hl.1 (fun H locs hw => ?_)
      refine lv_l2i hx hb dX9_layPairs_188 rfl ?_
      obtain ⟨t_9, h_10, hf⟩ := sn_bd hf
      refine sn_callSi (rest := []) C hw (ctX9_bit l  h_10) kl_RX9_254 rfl rfl rfl (Nat.le_of_ble_eq_true rfl) dX9_layPairs_189 hl.1 (fun H locs hw => ?_)
      refine lv_iconst (v := 1) hx hb dX9_layPairs_192 rfl ?_
      refine lv_icmp_ne (tgt := 200) hx hb dX9_layPairs_193 (by decide) (fun c_11 => ?_) (fun c_11 => ?_)
      · have hf := sn_el c_11 hf
        exact wX9_layPairs_200 C  hf kc kx _ _ _ hw (lv_sub hl [0, 1, 2, 3, 4, 5] rfl)
      · have hf := sn_if c_11 hf
        refine lv_iconst (v := 1) hx hb dX9_layPairs_196 rfl ?_
        refine lv_goto (tgt := 201) hx hb dX9_layPairs_197 (by decide) ?_
        exact wX9_layPairs_201 C  hf kc kx _ _ _ hw (lv_sub hl [0, 1, 2, 3, 4, 5] rfl)
theorem wX9_layPairs_L150 (C : sn_C p s m args meth c RX9 cX9_layPairs 6 (some .int) D ct ad layM A) {σ : sn_S} {x1 : Int32} {x2 : Int32} {x3 : Int32}   {z : Int32 × Int32} {t : Int32} (h : sn_it (LX9_layPairs_150 σ x1 x2 x3) 5000 z = some t) (kx : ∀ v, t = v → sn_At p l e rmX9_layPairs s m args below meth c Q D ct ad layM A 6 σ 209 [(0, .ref (ad 0)), (1, .int x1), (2, .int x2), (3, .int x3), (4, .int v)] []) : sn_At p l e rmX9_layPairs s m args below meth c Q D ct ad layM A 6 σ 150 [(0, .ref (ad 0)), (1, .int x1), (2, .int x2), (3, .int x3), (4, .int z.1), (5, .int z.2)] [] :=
  sn_loop (f := LX9_layPairs_150 σ x1 x2 x3) (G := fun z => sn_At p l e rmX9_layPairs s m args below meth c Q D ct ad layM A 6 σ 150 [(0, .ref (ad 0)), (1, .int x1), (2, .int x2), (3, .int x3), (4, .int z.1), (5, .int z.2)] []) (E := fun t => (∀ v, t = v → sn_At p l e rmX9_layPairs s m args below meth c Q D ct ad layM A 6 σ 209 [(0, .ref (ad 0)), (1, .int x1), (2, .int x2), (3, .int x3), (4, .int v)] []) ∧ True) (fun z o hf k1 k2 => wX9_layPairs_150 C  hf (fun v e => k1 v e) (fun v e => (k2 _ e).1 v rfl)) 5000 z t h ⟨kx, trivial⟩
theorem wX9_layPairs_114 (C : sn_C p s m args meth c RX9 cX9_layPairs 6 (some .int) D ct ad layM A) {σ : sn_S} {x1 : Int32} {x2 : Int32} {x3 : Int32}  {o : (sn_S × Int32) ⊕ (sn_S)} (hf : BX9_layPairs_114 σ x1 x2 x3 = some o) (kc : ∀ v, o = .inl v → sn_At p l e rmX9_layPairs s m args below meth c Q D ct ad layM A 6 v.1 114 [(0, .ref (ad 0)), (1, .int x1), (2, .int x2), (3, .int v.2)] []) (kx : ∀ v, o = .inr v → sn_At p l e rmX9_layPairs s m args below meth c Q D ct ad layM A 6 v 289 [(0, .ref (ad 0)), (1, .int x1), (2, .int x2)] []) : sn_At p l e rmX9_layPairs s m args below meth c Q D ct ad layM A 6 σ 114 [(0, .ref (ad 0)), (1, .int x1), (2, .int x2), (3, .int x3)] [] := by
  intro H locs ls hw hl
  have hx := C.1
  have hb := C.2.1
  unfold BX9_layPairs_114 at hf
  refine lv_iload_n hx hb dX9_layPairs_114 rfl (lv_at hl 3 rfl) ?_
  refine lv_bipush (v := 9) hx hb dX9_layPairs_115 (by decide) ?_
  refine lv_icmp_gt (tgt := 289) hx hb dX9_layPairs_117 (by decide) (fun c_1 => ?_) (fun c_1 => ?_)
  · have hf := sn_if c_1 hf
    cases hf
    exact kx _ rfl _ _ _ hw (lv_sub hl [0, 1, 2] rfl)
  · have hf := sn_el c_1 hf
    refine lv_aload_n hx hb dX9_layPairs_120 rfl (lv_at hl 0 rfl) ?_
    refine sn_getC (r := 7) C hw fd_RX9_34 layM_0 rfl dX9_layPairs_121 ?_
    refine lv_iload_n hx hb dX9_layPairs_124 rfl (lv_at hl 2 rfl) ?_
    refine lv_dup2_11 hx hb dX9_layPairs_125 rfl rfl ?_
    obtain ⟨g_2, hf⟩ := sn_gdE hf
    refine sn_iald C hw layM_7 g_2 dX9_layPairs_126 ?_
    refine lv_iload_n hx hb dX9_layPairs_127 rfl (lv_at hl 3 rfl) ?_
    refine lv_iadd hx hb dX9_layPairs_128 ?_
    obtain ⟨g_3, hf⟩ := sn_gdE hf
    refine sn_iast C hw layM_7 g_3 dX9_layPairs_129 (fun H locs hw => ?_)
    obtain ⟨σ_4, e_5, hf⟩ := sn_ltE hf
    rw [← e_5] at hw
    refine lv_aload_n hx hb dX9_layPairs_130 rfl (lv_at hl 0 rfl) ?_
    obtain ⟨t_6, h_7, hf⟩ := sn_bd hf
    refine sn_callVv (rest := []) C hw (ctX9_goAll l  h_7) kl_RX9_266 layM_0 rfl rfl rfl rfl (Nat.le_of_ble_eq_true rfl) dX9_layPairs_131 hl.1 (fun H locs hw => ?_)
    refine lv_aload_n hx hb dX9_layPairs_134 rfl (lv_at hl 0 rfl) ?_
    refine sn_getC (r := 7) C hw fd_RX9_34 layM_0 rfl dX9_layPairs_135 ?_
    refine lv_iload_n hx hb dX9_layPairs_138 rfl (lv_at hl 2 rfl) ?_
    refine lv_dup2_11 hx hb dX9_layPairs_139 rfl rfl ?_
    obtain ⟨g_8, hf⟩ := sn_gdE hf
    refine sn_iald C hw layM_7 g_8 dX9_layPairs_140 ?_
    refine lv_iload_n hx hb dX9_layPairs_141 rfl (lv_at hl 3 rfl) ?_
    refine lv_isub hx hb dX9_layPairs_142 ?_
    obtain ⟨g_9, hf⟩ := sn_gdE hf
    refine sn_iast C hw layM_7 g_9 dX9_layPairs_143 (fun H locs hw => ?_)
    obtain ⟨σ_10, e_11, hf⟩ := sn_ltE hf
    rw [← e_11] at hw
    refine lv_iconst (v := 1) hx hb dX9_layPairs_144 rfl ?_
    refine lv_istore (lv' := [(4, .int (1 : Int32)), (0, .ref (ad 0)), (1, .int x1), (2, .int x2), (3, .int x3)]) hx hb dX9_layPairs_145 hl (by decide) rfl (fun ls hl => ?_)
    refine lv_iconst (v := 0) hx hb dX9_layPairs_147 rfl ?_
    refine lv_istore (lv' := [(5, .int (0 : Int32)), (4, .int (1 : Int32)), (0, .ref (ad 0)), (1, .int x1), (2, .int x2), (3, .int x3)]) hx hb dX9_layPairs_148 hl (by decide) rfl (fun ls hl => ?_)
    obtain ⟨t_12, h_13, hf⟩ := sn_bd hf
    exact wX9_layPairs_L150 C  h_13 (fun v e => by cases e; exact wX9_layPairs_209 C  hf kc kx) _ _ _ hw (lv_sub hl [2, 3, 4, 5, 1, 0] rfl)
theorem wX9_layPairs_L114 (C : sn_C p s m args meth c RX9 cX9_layPairs 6 (some .int) D ct ad layM A) {x1 : Int32} {x2 : Int32}   {z : sn_S × Int32} {t : sn_S} (h : sn_it (LX9_layPairs_114 x1 x2) 5000 z = some t) (kx : ∀ v, t = v → sn_At p l e rmX9_layPairs s m args below meth c Q D ct ad layM A 6 v 289 [(0, .ref (ad 0)), (1, .int x1), (2, .int x2)] []) : sn_At p l e rmX9_layPairs s m args below meth c Q D ct ad layM A 6 z.1 114 [(0, .ref (ad 0)), (1, .int x1), (2, .int x2), (3, .int z.2)] [] :=
  sn_loop (f := LX9_layPairs_114 x1 x2) (G := fun z => sn_At p l e rmX9_layPairs s m args below meth c Q D ct ad layM A 6 z.1 114 [(0, .ref (ad 0)), (1, .int x1), (2, .int x2), (3, .int z.2)] []) (E := fun t => (∀ v, t = v → sn_At p l e rmX9_layPairs s m args below meth c Q D ct ad layM A 6 v 289 [(0, .ref (ad 0)), (1, .int x1), (2, .int x2)] []) ∧ True) (fun z o hf k1 k2 => wX9_layPairs_114 C  hf (fun v e => k1 v e) (fun v e => (k2 _ e).1 v rfl)) 5000 z t h ⟨kx, trivial⟩
theorem wX9_layPairs_104 (C : sn_C p s m args meth c RX9 cX9_layPairs 6 (some .int) D ct ad layM A) {σ : sn_S} {x1 : Int32} {x2 : Int32}  {o : (sn_S × Int32) ⊕ (sn_S)} (hf : BX9_layPairs_104 σ x1 x2 = some o) (kc : ∀ v, o = .inl v → sn_At p l e rmX9_layPairs s m args below meth c Q D ct ad layM A 6 v.1 104 [(0, .ref (ad 0)), (1, .int x1), (2, .int v.2)] []) (kx : ∀ v, o = .inr v → sn_At p l e rmX9_layPairs s m args below meth c Q D ct ad layM A 6 v 295 [] []) : sn_At p l e rmX9_layPairs s m args below meth c Q D ct ad layM A 6 σ 104 [(0, .ref (ad 0)), (1, .int x1), (2, .int x2)] [] := by
  intro H locs ls hw hl
  have hx := C.1
  have hb := C.2.1
  unfold BX9_layPairs_104 at hf
  refine lv_iload_n hx hb dX9_layPairs_104 rfl (lv_at hl 2 rfl) ?_
  refine lv_aload_n hx hb dX9_layPairs_105 rfl (lv_at hl 0 rfl) ?_
  obtain ⟨t_1, h_2, hf⟩ := sn_bd hf
  refine sn_callVi (rest := [.int x2]) C hw (ctX9_minutes l  h_2) kl_RX9_249 layM_0 rfl rfl rfl rfl (Nat.le_of_ble_eq_true rfl) dX9_layPairs_106 hl.1 (fun H locs hw => ?_)
  refine lv_icmp_ge (tgt := 295) hx hb dX9_layPairs_109 (by decide) (fun c_3 => ?_) (fun c_3 => ?_)
  · have hf := sn_if c_3 hf
    cases hf
    exact kx _ rfl _ _ _ hw (lv_sub hl [] rfl)
  · have hf := sn_el c_3 hf
    refine lv_iconst (v := 1) hx hb dX9_layPairs_112 rfl ?_
    refine lv_istore_n (lv' := [(3, .int (1 : Int32)), (0, .ref (ad 0)), (1, .int x1), (2, .int x2)]) hx hb dX9_layPairs_113 rfl hl (by decide) rfl (fun ls hl => ?_)
    obtain ⟨t_4, h_5, hf⟩ := sn_bd hf
    exact wX9_layPairs_L114 C  h_5 (fun v e => by cases e; exact wX9_layPairs_289 C  hf kc kx) _ _ _ hw (lv_sub hl [1, 2, 3, 0] rfl)
theorem wX9_layPairs_L104 (C : sn_C p s m args meth c RX9 cX9_layPairs 6 (some .int) D ct ad layM A) {x1 : Int32}   {z : sn_S × Int32} {t : sn_S} (h : sn_it (LX9_layPairs_104 x1) 5000 z = some t) (kx : ∀ v, t = v → sn_At p l e rmX9_layPairs s m args below meth c Q D ct ad layM A 6 v 295 [] []) : sn_At p l e rmX9_layPairs s m args below meth c Q D ct ad layM A 6 z.1 104 [(0, .ref (ad 0)), (1, .int x1), (2, .int z.2)] [] :=
  sn_loop (f := LX9_layPairs_104 x1) (G := fun z => sn_At p l e rmX9_layPairs s m args below meth c Q D ct ad layM A 6 z.1 104 [(0, .ref (ad 0)), (1, .int x1), (2, .int z.2)] []) (E := fun t => (∀ v, t = v → sn_At p l e rmX9_layPairs s m args below meth c Q D ct ad layM A 6 v 295 [] []) ∧ True) (fun z o hf k1 k2 => wX9_layPairs_104 C  hf (fun v e => k1 v e) (fun v e => (k2 _ e).1 v rfl)) 5000 z t h ⟨kx, trivial⟩
theorem wX9_layPairs_93 (C : sn_C p s m args meth c RX9 cX9_layPairs 6 (some .int) D ct ad layM A) {σ : sn_S} {x1 : Int32}  {o : (Int32 × sn_S)} (hf : BX9_layPairs_93 σ x1 = some o) (kr : sn_Kr p l e rmX9_layPairs s m args below meth c Q D ct ad layM A cX9_layPairs .ireturn (true) o.2 [.int o.1]) : sn_At p l e rmX9_layPairs s m args below meth c Q D ct ad layM A 6 σ 93 [(0, .ref (ad 0)), (1, .int x1)] [] := by
  intro H locs ls hw hl
  have hx := C.1
  have hb := C.2.1
  unfold BX9_layPairs_93 at hf
  refine lv_aload_n hx hb dX9_layPairs_93 rfl (lv_at hl 0 rfl) ?_
  obtain ⟨t_1, h_2, hf⟩ := sn_bd hf
  refine sn_callVv (rest := []) C hw (ctX9_asItIs l  h_2) kl_RX9_263 layM_0 rfl rfl rfl rfl (Nat.le_of_ble_eq_true rfl) dX9_layPairs_94 hl.1 (fun H locs hw => ?_)
  refine lv_aload_n hx hb dX9_layPairs_97 rfl (lv_at hl 0 rfl) ?_
  refine lv_iconst (v := 0) hx hb dX9_layPairs_98 rfl ?_
  refine sn_putI C hw fp_RX9_372 layM_0 rfl dX9_layPairs_99 (fun H locs hw => ?_)
  obtain ⟨σ_3, e_4, hf⟩ := sn_ltE hf
  rw [← e_4] at hw
  refine lv_iconst (v := 0) hx hb dX9_layPairs_102 rfl ?_
  refine lv_istore_n (lv' := [(2, .int (0 : Int32)), (0, .ref (ad 0)), (1, .int x1)]) hx hb dX9_layPairs_103 rfl hl (by decide) rfl (fun ls hl => ?_)
  obtain ⟨t_5, h_6, hf⟩ := sn_bd hf
  exact wX9_layPairs_L104 C  h_6 (fun v e => by cases e; exact wX9_layPairs_295 C  hf kr) _ _ _ hw (lv_sub hl [1, 2, 0] rfl)
theorem wX9_layPairs_46 (C : sn_C p s m args meth c RX9 cX9_layPairs 6 (some .int) D ct ad layM A) {σ : sn_S} {x1 : Int32} {x2 : Int32}  {o : (Int32) ⊕ ((Unit) ⊕ (Int32 × sn_S))} (hf : BX9_layPairs_46 σ x1 x2 = some o) (kc : ∀ v, o = .inl v → sn_At p l e rmX9_layPairs s m args below meth c Q D ct ad layM A 6 σ 46 [(0, .ref (ad 0)), (1, .int x1), (2, .int v)] []) (kx : ∀ v, o = .inr (.inl v) → sn_At p l e rmX9_layPairs s m args below meth c Q D ct ad layM A 6 σ 93 [(0, .ref (ad 0)), (1, .int x1)] []) (kr : ∀ r, o = .inr (.inr r) → sn_Kr p l e rmX9_layPairs s m args below meth c Q D ct ad layM A cX9_layPairs .ireturn (true) r.2 [.int r.1]) : sn_At p l e rmX9_layPairs s m args below meth c Q D ct ad layM A 6 σ 46 [(0, .ref (ad 0)), (1, .int x1), (2, .int x2)] [] := by
  intro H locs ls hw hl
  have hx := C.1
  have hb := C.2.1
  unfold BX9_layPairs_46 at hf
  refine lv_iload_n hx hb dX9_layPairs_46 rfl (lv_at hl 2 rfl) ?_
  refine lv_aload_n hx hb dX9_layPairs_47 rfl (lv_at hl 0 rfl) ?_
  refine sn_getC (r := 21) C hw fd_RX9_76 layM_0 rfl dX9_layPairs_48 ?_
  refine lv_iload_n hx hb dX9_layPairs_51 rfl (lv_at hl 1 rfl) ?_
  obtain ⟨g_1, hf⟩ := sn_gdE hf
  refine sn_iald C hw layM_21 g_1 dX9_layPairs_52 ?_
  refine lv_icmp_ge (tgt := 93) hx hb dX9_layPairs_53 (by decide) (fun c_2 => ?_) (fun c_2 => ?_)
  · have hf := sn_if c_2 hf
    cases hf
    exact kx _ rfl _ _ _ hw (lv_sub hl [0, 1] rfl)
  · have hf := sn_el c_2 hf
    refine lv_aload_n hx hb dX9_layPairs_56 rfl (lv_at hl 0 rfl) ?_
    refine lv_aload_n hx hb dX9_layPairs_57 rfl (lv_at hl 0 rfl) ?_
    refine lv_iload_n hx hb dX9_layPairs_58 rfl (lv_at hl 1 rfl) ?_
    refine lv_iload_n hx hb dX9_layPairs_59 rfl (lv_at hl 2 rfl) ?_
    obtain ⟨t_3, h_4, hf⟩ := sn_bd hf
    refine sn_callVl (rest := [.ref (ad 0)]) C hw (ctX9_numberAt l  h_4) kl_RX9_368 layM_0 rfl rfl rfl rfl (Nat.le_of_ble_eq_true rfl) dX9_layPairs_60 hl.1 (fun H locs hw => ?_)
    obtain ⟨t_5, h_6, hf⟩ := sn_bd hf
    refine sn_callVi (rest := []) C hw (ctX9_isPerson l  h_6) kl_RX9_224 layM_0 rfl rfl rfl rfl (Nat.le_of_ble_eq_true rfl) dX9_layPairs_63 hl.1 (fun H locs hw => ?_)
    refine lv_if_eq (tgt := 84) hx hb dX9_layPairs_66 (by decide) (fun c_7 => ?_) (fun c_7 => ?_)
    · have hf := sn_if c_7 hf
      refine lv_bipush (v := (-2)) hx hb dX9_layPairs_84 (by decide) ?_
      cases hf
      exact kr _ rfl _ _ _ _ hw rfl dX9_layPairs_86
    · have hf := sn_el c_7 hf
      refine lv_aload_n hx hb dX9_layPairs_69 rfl (lv_at hl 0 rfl) ?_
      refine lv_aload_n hx hb dX9_layPairs_70 rfl (lv_at hl 0 rfl) ?_
      refine lv_iload_n hx hb dX9_layPairs_71 rfl (lv_at hl 1 rfl) ?_
      refine lv_iload_n hx hb dX9_layPairs_72 rfl (lv_at hl 2 rfl) ?_
      refine lv_iconst (v := 1) hx hb dX9_layPairs_73 rfl ?_
      refine lv_iadd hx hb dX9_layPairs_74 ?_
      obtain ⟨t_8, h_9, hf⟩ := sn_bd hf
      refine sn_callVl (rest := [.ref (ad 0)]) C hw (ctX9_numberAt l  h_9) kl_RX9_368 layM_0 rfl rfl rfl rfl (Nat.le_of_ble_eq_true rfl) dX9_layPairs_75 hl.1 (fun H locs hw => ?_)
      obtain ⟨t_10, h_11, hf⟩ := sn_bd hf
      refine sn_callVi (rest := []) C hw (ctX9_isMinute l  h_11) kl_RX9_275 layM_0 rfl rfl rfl rfl (Nat.le_of_ble_eq_true rfl) dX9_layPairs_78 hl.1 (fun H locs hw => ?_)
      refine lv_if_ne (tgt := 87) hx hb dX9_layPairs_81 (by decide) (fun c_12 => ?_) (fun c_12 => ?_)
      · have hf := sn_el c_12 hf
        obtain ⟨y_13, e_14, hf⟩ := sn_ltE hf
        refine lv_iinc (v := y_13) (lv' := [(2, .int y_13), (0, .ref (ad 0)), (1, .int x1)]) hx hb dX9_layPairs_87 hl (k := 2) rfl (by rw [e_14]; rfl) (by decide) rfl (fun ls hl => ?_)
        refine lv_goto (tgt := 46) hx hb dX9_layPairs_90 (by decide) ?_
        cases hf
        exact kc _ rfl _ _ _ hw (lv_sub hl [1, 2, 0] rfl)
      · have hf := sn_if c_12 hf
        refine lv_bipush (v := (-2)) hx hb dX9_layPairs_84 (by decide) ?_
        cases hf
        exact kr _ rfl _ _ _ _ hw rfl dX9_layPairs_86
theorem wX9_layPairs_L46 (C : sn_C p s m args meth c RX9 cX9_layPairs 6 (some .int) D ct ad layM A) {σ : sn_S} {x1 : Int32}   {z : Int32} {t : (Unit) ⊕ (Int32 × sn_S)} (h : sn_it (LX9_layPairs_46 σ x1) 5000 z = some t) (kx : ∀ v, t = .inl v → sn_At p l e rmX9_layPairs s m args below meth c Q D ct ad layM A 6 σ 93 [(0, .ref (ad 0)), (1, .int x1)] []) (kr : ∀ r, t = .inr r → sn_Kr p l e rmX9_layPairs s m args below meth c Q D ct ad layM A cX9_layPairs .ireturn (true) r.2 [.int r.1]) : sn_At p l e rmX9_layPairs s m args below meth c Q D ct ad layM A 6 σ 46 [(0, .ref (ad 0)), (1, .int x1), (2, .int z)] [] :=
  sn_loop (f := LX9_layPairs_46 σ x1) (G := fun z => sn_At p l e rmX9_layPairs s m args below meth c Q D ct ad layM A 6 σ 46 [(0, .ref (ad 0)), (1, .int x1), (2, .int z)] []) (E := fun t => (∀ v, t = .inl v → sn_At p l e rmX9_layPairs s m args below meth c Q D ct ad layM A 6 σ 93 [(0, .ref (ad 0)), (1, .int x1)] []) ∧ (∀ r, t = .inr r → sn_Kr p l e rmX9_layPairs s m args below meth c Q D ct ad layM A cX9_layPairs .ireturn (true) r.2 [.int r.1])) (fun z o hf k1 k2 => wX9_layPairs_46 C  hf (fun v e => k1 v e) (fun v e => (k2 _ e).1 v rfl) (fun r e => (k2 _ e).2 r rfl)) 5000 z t h ⟨kx, kr⟩
theorem wX9_layPairs_in (C : sn_C p s m args meth c RX9 cX9_layPairs 6 (some .int) D ct ad layM A) {σ : sn_S} {x1 : Int32}  {o : (Int32 × sn_S)} (hf : fX9_layPairs σ x1 = some o) (kr : sn_Kr p l e rmX9_layPairs s m args below meth c Q D ct ad layM A cX9_layPairs .ireturn (true) o.2 [.int o.1]) : sn_At p l e rmX9_layPairs s m args below meth c Q D ct ad layM A 6 σ 0 [(0, .ref (ad 0)), (1, .int x1)] [] := by
  intro H locs ls hw hl
  have hx := C.1
  have hb := C.2.1
  unfold fX9_layPairs at hf
  refine lv_iload_n hx hb dX9_layPairs_0 rfl (lv_at hl 1 rfl) ?_
  obtain ⟨t_1, h_2, hf⟩ := sn_bd hf
  refine sn_callSi (rest := []) C hw (ctX9_isSlot l  h_2) kl_RX9_365 rfl rfl rfl (Nat.le_of_ble_eq_true rfl) dX9_layPairs_1 hl.1 (fun H locs hw => ?_)
  refine lv_if_eq (tgt := 14) hx hb dX9_layPairs_4 (by decide) (fun c_3 => ?_) (fun c_3 => ?_)
  · have hf := sn_if c_3 hf
    refine lv_bipush (v := (-2)) hx hb dX9_layPairs_14 (by decide) ?_
    cases hf
    exact kr _ _ _ _ hw rfl dX9_layPairs_16
  · have hf := sn_el c_3 hf
    refine lv_aload_n hx hb dX9_layPairs_7 rfl (lv_at hl 0 rfl) ?_
    obtain ⟨t_4, h_5, hf⟩ := sn_bd hf
    refine sn_callVi (rest := []) C hw (ctX9_isHouse l  h_5) kl_RX9_269 layM_0 rfl rfl rfl rfl (Nat.le_of_ble_eq_true rfl) dX9_layPairs_8 hl.1 (fun H locs hw => ?_)
    refine lv_if_ne (tgt := 17) hx hb dX9_layPairs_11 (by decide) (fun c_6 => ?_) (fun c_6 => ?_)
    · have hf := sn_el c_6 hf
      refine lv_aload_n hx hb dX9_layPairs_17 rfl (lv_at hl 0 rfl) ?_
      refine sn_getC (r := 21) C hw fd_RX9_76 layM_0 rfl dX9_layPairs_18 ?_
      refine lv_iload_n hx hb dX9_layPairs_21 rfl (lv_at hl 1 rfl) ?_
      obtain ⟨g_7, hf⟩ := sn_gdE hf
      refine sn_iald C hw layM_21 g_7 dX9_layPairs_22 ?_
      refine lv_iconst (v := (-1)) hx hb dX9_layPairs_23 rfl ?_
      refine lv_icmp_ne (tgt := 30) hx hb dX9_layPairs_24 (by decide) (fun c_8 => ?_) (fun c_8 => ?_)
      · have hf := sn_el c_8 hf
        refine lv_aload_n hx hb dX9_layPairs_30 rfl (lv_at hl 0 rfl) ?_
        refine sn_getC (r := 21) C hw fd_RX9_76 layM_0 rfl dX9_layPairs_31 ?_
        refine lv_iload_n hx hb dX9_layPairs_34 rfl (lv_at hl 1 rfl) ?_
        obtain ⟨g_9, hf⟩ := sn_gdE hf
        refine sn_iald C hw layM_21 g_9 dX9_layPairs_35 ?_
        refine lv_iconst (v := 2) hx hb dX9_layPairs_36 rfl ?_
        refine lv_irem hx hb dX9_layPairs_37 (by decide) ?_
        refine lv_if_eq (tgt := 44) hx hb dX9_layPairs_38 (by decide) (fun c_10 => ?_) (fun c_10 => ?_)
        · have hf := sn_if c_10 hf
          refine lv_iconst (v := 0) hx hb dX9_layPairs_44 rfl ?_
          refine lv_istore_n (lv' := [(2, .int (0 : Int32)), (0, .ref (ad 0)), (1, .int x1)]) hx hb dX9_layPairs_45 rfl hl (by decide) rfl (fun ls hl => ?_)
          obtain ⟨t_11, h_12, hf⟩ := sn_bd hf
          rcases t_11 with v_13 | r_14
          · rw [Sum.elim_inl] at hf
            exact wX9_layPairs_L46 C  h_12 (fun v e => by cases e; exact wX9_layPairs_93 C  hf kr) (fun r e => by cases e) _ _ _ hw (lv_sub hl [1, 2, 0] rfl)
          · rw [Sum.elim_inr] at hf
            cases hf
            exact wX9_layPairs_L46 C  h_12 (fun v e => by cases e) (fun r e => by cases e; exact kr) _ _ _ hw (lv_sub hl [1, 2, 0] rfl)
        · have hf := sn_el c_10 hf
          refine lv_bipush (v := (-2)) hx hb dX9_layPairs_41 (by decide) ?_
          cases hf
          exact kr _ _ _ _ hw rfl dX9_layPairs_43
      · have hf := sn_if c_8 hf
        refine lv_bipush (v := (-6)) hx hb dX9_layPairs_27 (by decide) ?_
        cases hf
        exact kr _ _ _ _ hw rfl dX9_layPairs_29
    · have hf := sn_if c_6 hf
      refine lv_bipush (v := (-2)) hx hb dX9_layPairs_14 (by decide) ?_
      cases hf
      exact kr _ _ _ _ hw rfl dX9_layPairs_16
theorem ctX9_layPairs (l : Launch) {σ : sn_S} {x1 : Int32}  {o : (Int32 × sn_S)} (hf : fX9_layPairs σ x1 = some o) : sn_M l yX9_layPairs cX9_layPairs 6 (some .int) rmX9_layPairs layM (fun ad => [.ref (ad 0), .int x1]) σ (some (fun _ => .int o.1)) o.2 :=
  sn_met (by decide) (fun _ => Nat.le_of_ble_eq_true rfl) (fun p e s m args below meth c ls D ct ad A C hw hl => wX9_layPairs_in C  hf (fun H locs ls pc hw ok hd => sn_iret C hw hd) _ _ _ hw hl)
end
end
section
section
variable {p : Program} {l : Launch} {e : Env} {s : State} {m : MethodId} {args : Array Value} {below : List Frame} {meth : Method} {c : Code} {Q : State → Prop} {D : va_G} {ct : Nat → ClassId} {ad : Nat → Nat} {A : Nat → Prop} {lay : List sn_E}
-- X9_which
abbrev rmX9_which : Room := { frames := 5, cells := 0, slots := 0, locals := 120 }
def fX9_which (σ : sn_S) (x1 : Int32) : Option (Int32 × sn_S) :=
  ((fX9_layPairs σ x1).bind fun t_1 => (if 0 ≤ t_1.1 then
  (some ((sn_I t_1.2 0 36), t_1.2))
  else
  (some (t_1.1, t_1.2))))
theorem wX9_which_in (C : sn_C p s m args meth c RX9 cX9_which 3 (some .int) D ct ad layM A) {σ : sn_S} {x1 : Int32}  {o : (Int32 × sn_S)} (hf : fX9_which σ x1 = some o) (kr : sn_Kr p l e rmX9_which s m args below meth c Q D ct ad layM A cX9_which .ireturn (true) o.2 [.int o.1]) : sn_At p l e rmX9_which s m args below meth c Q D ct ad layM A 3 σ 0 [(0, .ref (ad 0)), (1, .int x1)] [] := by
  intro H locs ls hw hl
  have hx := C.1
  have hb := C.2.1
  unfold fX9_which at hf
  refine lv_aload_n hx hb dX9_which_0 rfl (lv_at hl 0 rfl) ?_
  refine lv_iload_n hx hb dX9_which_1 rfl (lv_at hl 1 rfl) ?_
  obtain ⟨t_1, h_2, hf⟩ := sn_bd hf
  refine sn_callVi (rest := []) C hw (ctX9_layPairs l  h_2) kl_RX9_375 layM_0 rfl rfl rfl rfl (Nat.le_of_ble_eq_true rfl) dX9_which_2 hl.1 (fun H locs hw => ?_)
  refine lv_istore_n (lv' := [(2, .int t_1.1), (0, .ref (ad 0)), (1, .int x1)]) hx hb dX9_which_5 rfl hl (by decide) rfl (fun ls hl => ?_)
  refine lv_iload_n hx hb dX9_which_6 rfl (lv_at hl 0 rfl) ?_
  refine lv_if_ge (tgt := 14) hx hb dX9_which_7 (by decide) (fun c_3 => ?_) (fun c_3 => ?_)
  · have hf := sn_if c_3 hf
    refine lv_aload_n hx hb dX9_which_14 rfl (lv_at hl 1 rfl) ?_
    refine sn_getI C hw fd_RX9_372 layM_0 rfl dX9_which_15 ?_
    cases hf
    exact kr _ _ _ _ hw rfl dX9_which_18
  · have hf := sn_el c_3 hf
    refine lv_iload_n hx hb dX9_which_10 rfl (lv_at hl 0 rfl) ?_
    refine lv_goto (tgt := 18) hx hb dX9_which_11 (by decide) ?_
    cases hf
    exact kr _ _ _ _ hw rfl dX9_which_18
theorem ctX9_which (l : Launch) {σ : sn_S} {x1 : Int32}  {o : (Int32 × sn_S)} (hf : fX9_which σ x1 = some o) : sn_M l yX9_which cX9_which 3 (some .int) rmX9_which layM (fun ad => [.ref (ad 0), .int x1]) σ (some (fun _ => .int o.1)) o.2 :=
  sn_met (by decide) (fun _ => Nat.le_of_ble_eq_true rfl) (fun p e s m args below meth c ls D ct ad A C hw hl => wX9_which_in C  hf (fun H locs ls pc hw ok hd => sn_iret C hw hd) _ _ _ hw hl)
-- X9_when
abbrev rmX9_when : Room := { frames := 5, cells := 0, slots := 0, locals := 120 }
def BX9_when_47 (σ : sn_S) (x3 : Int32) : Option ((Int32 × sn_S)) :=
  (some (x3, σ))
def BX9_when_17 (σ : sn_S) (x3 : Int32) (x4 : Int32) : Option ((Int32 × Int32) ⊕ (Int32)) :=
  (if (sn_I σ 0 36) ≤ x4 then
  (some (.inr (x3)))
  else
  (sn_gd (sn_in x4 270) (sn_lt (x3 ||| ((1 : Int32) <<< (((sn_I σ 19 x4.toNatClampNeg) / (10 : Int32)) &&& 31))) fun y_3 => (sn_lt (x4 + 1) fun y_5 => (some (.inl (y_3, y_5)))))))
def LX9_when_17 (σ : sn_S) (s : Int32 × Int32) : Option ((Int32 × Int32) ⊕ (Int32)) := BX9_when_17 σ s.1 s.2
def fX9_when (σ : sn_S) (x1 : Int32) : Option (Int32 × sn_S) :=
  ((fX9_layPairs σ x1).bind fun t_1 => (if 0 ≤ t_1.1 then
  ((sn_it (LX9_when_17 t_1.2) 5000 ((0 : Int32), (0 : Int32))).bind fun t_4 => (BX9_when_47 t_1.2 t_4))
  else
  (some (t_1.1, t_1.2))))
theorem wX9_when_47 (C : sn_C p s m args meth c RX9 cX9_when 5 (some .int) D ct ad layM A) {σ : sn_S} {x3 : Int32}  {o : (Int32 × sn_S)} (hf : BX9_when_47 σ x3 = some o) (kr : sn_Kr p l e rmX9_when s m args below meth c Q D ct ad layM A cX9_when .ireturn (true) o.2 [.int o.1]) : sn_At p l e rmX9_when s m args below meth c Q D ct ad layM A 5 σ 47 [(3, .int x3)] [] := by
  intro H locs ls hw hl
  have hx := C.1
  have hb := C.2.1
  unfold BX9_when_47 at hf
  refine lv_iload_n hx hb dX9_when_47 rfl (lv_at hl 0 rfl) ?_
  cases hf
  exact kr _ _ _ _ hw rfl dX9_when_48
theorem wX9_when_17 (C : sn_C p s m args meth c RX9 cX9_when 5 (some .int) D ct ad layM A) {σ : sn_S} {x3 : Int32} {x4 : Int32}  {o : (Int32 × Int32) ⊕ (Int32)} (hf : BX9_when_17 σ x3 x4 = some o) (kc : ∀ v, o = .inl v → sn_At p l e rmX9_when s m args below meth c Q D ct ad layM A 5 σ 17 [(0, .ref (ad 0)), (3, .int v.1), (4, .int v.2)] []) (kx : ∀ v, o = .inr v → sn_At p l e rmX9_when s m args below meth c Q D ct ad layM A 5 σ 47 [(3, .int v)] []) : sn_At p l e rmX9_when s m args below meth c Q D ct ad layM A 5 σ 17 [(0, .ref (ad 0)), (3, .int x3), (4, .int x4)] [] := by
  intro H locs ls hw hl
  have hx := C.1
  have hb := C.2.1
  unfold BX9_when_17 at hf
  refine lv_iload hx hb dX9_when_17 (lv_at hl 2 rfl) ?_
  refine lv_aload_n hx hb dX9_when_19 rfl (lv_at hl 0 rfl) ?_
  refine sn_getI C hw fd_RX9_372 layM_0 rfl dX9_when_20 ?_
  refine lv_icmp_ge (tgt := 47) hx hb dX9_when_23 (by decide) (fun c_1 => ?_) (fun c_1 => ?_)
  · have hf := sn_if c_1 hf
    cases hf
    exact kx _ rfl _ _ _ hw (lv_sub hl [1] rfl)
  · have hf := sn_el c_1 hf
    refine lv_iload_n hx hb dX9_when_26 rfl (lv_at hl 1 rfl) ?_
    refine lv_iconst (v := 1) hx hb dX9_when_27 rfl ?_
    refine lv_aload_n hx hb dX9_when_28 rfl (lv_at hl 0 rfl) ?_
    refine sn_getC (r := 19) C hw fd_RX9_70 layM_0 rfl dX9_when_29 ?_
    refine lv_iload hx hb dX9_when_32 (lv_at hl 2 rfl) ?_
    obtain ⟨g_2, hf⟩ := sn_gdE hf
    refine sn_iald C hw layM_19 g_2 dX9_when_34 ?_
    refine lv_bipush (v := 10) hx hb dX9_when_35 (by decide) ?_
    refine lv_idiv hx hb dX9_when_37 (by decide) ?_
    refine lv_ishl hx hb dX9_when_38 ?_
    refine lv_ior hx hb dX9_when_39 ?_
    obtain ⟨y_3, e_4, hf⟩ := sn_ltE hf
    refine lv_topi (fun y_3_ e_4_ => ?_)
    obtain rfl : y_3 = y_3_ := e_4.trans e_4_.symm
    refine lv_istore_n (lv' := [(3, .int y_3), (0, .ref (ad 0)), (4, .int x4)]) hx hb dX9_when_40 rfl hl (by decide) rfl (fun ls hl => ?_)
    obtain ⟨y_5, e_6, hf⟩ := sn_ltE hf
    refine lv_iinc (v := y_5) (lv' := [(4, .int y_5), (3, .int y_3), (0, .ref (ad 0))]) hx hb dX9_when_41 hl (k := 2) rfl (by rw [e_6]; rfl) (by decide) rfl (fun ls hl => ?_)
    refine lv_goto (tgt := 17) hx hb dX9_when_44 (by decide) ?_
    cases hf
    exact kc _ rfl _ _ _ hw (lv_sub hl [2, 1, 0] rfl)
theorem wX9_when_L17 (C : sn_C p s m args meth c RX9 cX9_when 5 (some .int) D ct ad layM A) {σ : sn_S}   {z : Int32 × Int32} {t : Int32} (h : sn_it (LX9_when_17 σ) 5000 z = some t) (kx : ∀ v, t = v → sn_At p l e rmX9_when s m args below meth c Q D ct ad layM A 5 σ 47 [(3, .int v)] []) : sn_At p l e rmX9_when s m args below meth c Q D ct ad layM A 5 σ 17 [(0, .ref (ad 0)), (3, .int z.1), (4, .int z.2)] [] :=
  sn_loop (f := LX9_when_17 σ) (G := fun z => sn_At p l e rmX9_when s m args below meth c Q D ct ad layM A 5 σ 17 [(0, .ref (ad 0)), (3, .int z.1), (4, .int z.2)] []) (E := fun t => (∀ v, t = v → sn_At p l e rmX9_when s m args below meth c Q D ct ad layM A 5 σ 47 [(3, .int v)] []) ∧ True) (fun z o hf k1 k2 => wX9_when_17 C  hf (fun v e => k1 v e) (fun v e => (k2 _ e).1 v rfl)) 5000 z t h ⟨kx, trivial⟩
theorem wX9_when_in (C : sn_C p s m args meth c RX9 cX9_when 5 (some .int) D ct ad layM A) {σ : sn_S} {x1 : Int32}  {o : (Int32 × sn_S)} (hf : fX9_when σ x1 = some o) (kr : sn_Kr p l e rmX9_when s m args below meth c Q D ct ad layM A cX9_when .ireturn (true) o.2 [.int o.1]) : sn_At p l e rmX9_when s m args below meth c Q D ct ad layM A 5 σ 0 [(0, .ref (ad 0)), (1, .int x1)] [] := by
  intro H locs ls hw hl
  have hx := C.1
  have hb := C.2.1
  unfold fX9_when at hf
  refine lv_aload_n hx hb dX9_when_0 rfl (lv_at hl 0 rfl) ?_
  refine lv_iload_n hx hb dX9_when_1 rfl (lv_at hl 1 rfl) ?_
  obtain ⟨t_1, h_2, hf⟩ := sn_bd hf
  refine sn_callVi (rest := []) C hw (ctX9_layPairs l  h_2) kl_RX9_375 layM_0 rfl rfl rfl rfl (Nat.le_of_ble_eq_true rfl) dX9_when_2 hl.1 (fun H locs hw => ?_)
  refine lv_istore_n (lv' := [(2, .int t_1.1), (0, .ref (ad 0)), (1, .int x1)]) hx hb dX9_when_5 rfl hl (by decide) rfl (fun ls hl => ?_)
  refine lv_iload_n hx hb dX9_when_6 rfl (lv_at hl 0 rfl) ?_
  refine lv_if_ge (tgt := 12) hx hb dX9_when_7 (by decide) (fun c_3 => ?_) (fun c_3 => ?_)
  · have hf := sn_if c_3 hf
    refine lv_iconst (v := 0) hx hb dX9_when_12 rfl ?_
    refine lv_istore_n (lv' := [(3, .int (0 : Int32)), (2, .int t_1.1), (0, .ref (ad 0)), (1, .int x1)]) hx hb dX9_when_13 rfl hl (by decide) rfl (fun ls hl => ?_)
    refine lv_iconst (v := 0) hx hb dX9_when_14 rfl ?_
    refine lv_istore (lv' := [(4, .int (0 : Int32)), (3, .int (0 : Int32)), (2, .int t_1.1), (0, .ref (ad 0)), (1, .int x1)]) hx hb dX9_when_15 hl (by decide) rfl (fun ls hl => ?_)
    obtain ⟨t_4, h_5, hf⟩ := sn_bd hf
    exact wX9_when_L17 C  h_5 (fun v e => by cases e; exact wX9_when_47 C  hf kr) _ _ _ hw (lv_sub hl [3, 1, 0] rfl)
  · have hf := sn_el c_3 hf
    refine lv_iload_n hx hb dX9_when_10 rfl (lv_at hl 0 rfl) ?_
    cases hf
    exact kr _ _ _ _ hw rfl dX9_when_11
theorem ctX9_when (l : Launch) {σ : sn_S} {x1 : Int32}  {o : (Int32 × sn_S)} (hf : fX9_when σ x1 = some o) : sn_M l yX9_when cX9_when 5 (some .int) rmX9_when layM (fun ad => [.ref (ad 0), .int x1]) σ (some (fun _ => .int o.1)) o.2 :=
  sn_met (by decide) (fun _ => Nat.le_of_ble_eq_true rfl) (fun p e s m args below meth c ls D ct ad A C hw hl => wX9_when_in C  hf (fun H locs ls pc hw ok hd => sn_iret C hw hd) _ _ _ hw hl)
-- X9_gust
abbrev rmX9_gust : Room := { frames := 5, cells := 0, slots := 0, locals := 120 }
def fX9_gust (σ : sn_S) (x1 : Int32) : Option (Int32 × sn_S) :=
  ((fX9_layPairs σ x1).bind fun t_1 => (if 0 ≤ t_1.1 then
  (if (sn_I t_1.2 0 36) = 0 then
  (some ((-1 : Int32), t_1.2))
  else
  (sn_gd (sn_in (0 : Int32) 270) (some ((sn_I t_1.2 19 (0 : Int32).toNatClampNeg), t_1.2))))
  else
  (some (t_1.1, t_1.2))))
theorem wX9_gust_in (C : sn_C p s m args meth c RX9 cX9_gust 3 (some .int) D ct ad layM A) {σ : sn_S} {x1 : Int32}  {o : (Int32 × sn_S)} (hf : fX9_gust σ x1 = some o) (kr : sn_Kr p l e rmX9_gust s m args below meth c Q D ct ad layM A cX9_gust .ireturn (true) o.2 [.int o.1]) : sn_At p l e rmX9_gust s m args below meth c Q D ct ad layM A 3 σ 0 [(0, .ref (ad 0)), (1, .int x1)] [] := by
  intro H locs ls hw hl
  have hx := C.1
  have hb := C.2.1
  unfold fX9_gust at hf
  refine lv_aload_n hx hb dX9_gust_0 rfl (lv_at hl 0 rfl) ?_
  refine lv_iload_n hx hb dX9_gust_1 rfl (lv_at hl 1 rfl) ?_
  obtain ⟨t_1, h_2, hf⟩ := sn_bd hf
  refine sn_callVi (rest := []) C hw (ctX9_layPairs l  h_2) kl_RX9_375 layM_0 rfl rfl rfl rfl (Nat.le_of_ble_eq_true rfl) dX9_gust_2 hl.1 (fun H locs hw => ?_)
  refine lv_istore_n (lv' := [(2, .int t_1.1), (0, .ref (ad 0)), (1, .int x1)]) hx hb dX9_gust_5 rfl hl (by decide) rfl (fun ls hl => ?_)
  refine lv_iload_n hx hb dX9_gust_6 rfl (lv_at hl 0 rfl) ?_
  refine lv_if_ge (tgt := 12) hx hb dX9_gust_7 (by decide) (fun c_3 => ?_) (fun c_3 => ?_)
  · have hf := sn_if c_3 hf
    refine lv_aload_n hx hb dX9_gust_12 rfl (lv_at hl 1 rfl) ?_
    refine sn_getI C hw fd_RX9_372 layM_0 rfl dX9_gust_13 ?_
    refine lv_if_ne (tgt := 23) hx hb dX9_gust_16 (by decide) (fun c_4 => ?_) (fun c_4 => ?_)
    · have hf := sn_el c_4 hf
      refine lv_aload_n hx hb dX9_gust_23 rfl (lv_at hl 1 rfl) ?_
      refine sn_getC (r := 19) C hw fd_RX9_70 layM_0 rfl dX9_gust_24 ?_
      refine lv_iconst (v := 0) hx hb dX9_gust_27 rfl ?_
      obtain ⟨g_5, hf⟩ := sn_gdE hf
      refine sn_iald C hw layM_19 g_5 dX9_gust_28 ?_
      cases hf
      exact kr _ _ _ _ hw rfl dX9_gust_29
    · have hf := sn_if c_4 hf
      refine lv_iconst (v := (-1)) hx hb dX9_gust_19 rfl ?_
      refine lv_goto (tgt := 29) hx hb dX9_gust_20 (by decide) ?_
      cases hf
      exact kr _ _ _ _ hw rfl dX9_gust_29
  · have hf := sn_el c_3 hf
    refine lv_iload_n hx hb dX9_gust_10 rfl (lv_at hl 0 rfl) ?_
    cases hf
    exact kr _ _ _ _ hw rfl dX9_gust_11
theorem ctX9_gust (l : Launch) {σ : sn_S} {x1 : Int32}  {o : (Int32 × sn_S)} (hf : fX9_gust σ x1 = some o) : sn_M l yX9_gust cX9_gust 3 (some .int) rmX9_gust layM (fun ad => [.ref (ad 0), .int x1]) σ (some (fun _ => .int o.1)) o.2 :=
  sn_met (by decide) (fun _ => Nat.le_of_ble_eq_true rfl) (fun p e s m args below meth c ls D ct ad A C hw hl => wX9_gust_in C  hf (fun H locs ls pc hw ok hd => sn_iret C hw hd) _ _ _ hw hl)
-- X9_askOf
abbrev rmX9_askOf : Room := { frames := 1, cells := 0, slots := 0, locals := 32 }
def BX9_askOf_119 (σ : sn_S) (x1 : Int32) : Option ((Int32 × sn_S)) :=
  (some (x1, σ))
def BX9_askOf_113 (σ : sn_S) (x1 : Int32) (x2 : Int32) : Option ((sn_S × Int32 × Int32) ⊕ (sn_S × Int32)) :=
  (sn_lt (x2 + 1) fun y_1 => (some (.inl (σ, x1, y_1))))
def BX9_askOf_95 (σ : sn_S) (x1 : Int32) (x2 : Int32) (x3 : Int32) : Option ((sn_S × Int32 × Int32) ⊕ (sn_S × Int32)) :=
  (if x3 < (sn_I σ 0 37) then
  (sn_lt (sn_pI σ 0 37 x3) fun σ_2 => (BX9_askOf_113 σ_2 x2 x2))
  else
  (BX9_askOf_113 σ x1 x2))
def BX9_askOf_82 (σ : sn_S) (x1 : Int32) (x2 : Int32) (x3 : Int32) (x4 : Int32) (x5 : Int32) : Option ((Int32 × Int32) ⊕ (Int32)) :=
  (sn_lt (if x3 < x5 then x5 else x3) fun y_1 => (sn_lt (x4 + 1) fun y_3 => (some (.inl (y_1, y_3)))))
def BX9_askOf_73 (σ : sn_S) (x1 : Int32) (x2 : Int32) (x3 : Int32) (x4 : Int32) (x5 : Int32) (x6 : Int32) (t0 : Int32) (t1 : Int32) : Option ((Int32 × Int32) ⊕ (Int32)) :=
  (sn_lt (t0 + t1) fun y_1 => (sn_lt (x6 + 1) fun y_3 => (some (.inl (y_1, y_3)))))
def BX9_askOf_40 (σ : sn_S) (x1 : Int32) (x2 : Int32) (x3 : Int32) (x4 : Int32) (x5 : Int32) (x6 : Int32) : Option ((Int32 × Int32) ⊕ (Int32)) :=
  (if (sn_I σ 0 36) ≤ x6 then
  (some (.inr (x5)))
  else
  (sn_gd (sn_in (((6 : Int32) * x6) + x2) 1620) (if (sn_I σ 20 (((6 : Int32) * x6) + x2).toNatClampNeg) = x4 then
  (BX9_askOf_73 σ x1 x2 x3 x4 x5 x6 x5 (1 : Int32))
  else
  (BX9_askOf_73 σ x1 x2 x3 x4 x5 x6 x5 (0 : Int32)))))
def LX9_askOf_40 (σ : sn_S) (x1 : Int32) (x2 : Int32) (x3 : Int32) (x4 : Int32) (s : Int32 × Int32) : Option ((Int32 × Int32) ⊕ (Int32)) := BX9_askOf_40 σ x1 x2 x3 x4 s.1 s.2
def BX9_askOf_27 (σ : sn_S) (x1 : Int32) (x2 : Int32) (x3 : Int32) (x4 : Int32) : Option ((Int32 × Int32) ⊕ (Int32)) :=
  (if (30 : Int32) < x4 then
  (some (.inr (x3)))
  else
  ((sn_it (LX9_askOf_40 σ x1 x2 x3 x4) 5000 ((0 : Int32), (0 : Int32))).bind fun t_2 => (BX9_askOf_82 σ x1 x2 x3 x4 t_2)))
def LX9_askOf_27 (σ : sn_S) (x1 : Int32) (x2 : Int32) (s : Int32 × Int32) : Option ((Int32 × Int32) ⊕ (Int32)) := BX9_askOf_27 σ x1 x2 s.1 s.2
def BX9_askOf_12 (σ : sn_S) (x1 : Int32) (x2 : Int32) : Option ((sn_S × Int32 × Int32) ⊕ (sn_S × Int32)) :=
  (sn_gd (sn_in (5 : Int32) 119) (if (sn_I σ 1 (5 : Int32).toNatClampNeg) ≤ x2 then
  (some (.inr (σ, x1)))
  else
  ((sn_it (LX9_askOf_27 σ x1 x2) 5000 ((0 : Int32), (0 : Int32))).bind fun t_3 => (BX9_askOf_95 σ x1 x2 t_3))))
def LX9_askOf_12  (s : sn_S × Int32 × Int32) : Option ((sn_S × Int32 × Int32) ⊕ (sn_S × Int32)) := BX9_askOf_12 s.1 s.2.1 s.2.2
def fX9_askOf (σ : sn_S) : Option (Int32 × sn_S) :=
  (sn_lt (sn_pI σ 0 37 (sn_I σ 0 36)) fun σ_1 => ((sn_it (LX9_askOf_12 ) 5000 (σ_1, (-1 : Int32), (0 : Int32))).bind fun t_3 => (BX9_askOf_119 t_3.1 t_3.2)))
theorem wX9_askOf_119 (C : sn_C p s m args meth c RX9 cX9_askOf 7 (some .int) D ct ad layM A) {σ : sn_S} {x1 : Int32}  {o : (Int32 × sn_S)} (hf : BX9_askOf_119 σ x1 = some o) (kr : sn_Kr p l e rmX9_askOf s m args below meth c Q D ct ad layM A cX9_askOf .ireturn (true) o.2 [.int o.1]) : sn_At p l e rmX9_askOf s m args below meth c Q D ct ad layM A 7 σ 119 [(1, .int x1)] [] := by
  intro H locs ls hw hl
  have hx := C.1
  have hb := C.2.1
  unfold BX9_askOf_119 at hf
  refine lv_iload_n hx hb dX9_askOf_119 rfl (lv_at hl 0 rfl) ?_
  cases hf
  exact kr _ _ _ _ hw rfl dX9_askOf_120
theorem wX9_askOf_113 (C : sn_C p s m args meth c RX9 cX9_askOf 7 (some .int) D ct ad layM A) {σ : sn_S} {x1 : Int32} {x2 : Int32}  {o : (sn_S × Int32 × Int32) ⊕ (sn_S × Int32)} (hf : BX9_askOf_113 σ x1 x2 = some o) (kc : ∀ v, o = .inl v → sn_At p l e rmX9_askOf s m args below meth c Q D ct ad layM A 7 v.1 12 [(0, .ref (ad 0)), (1, .int v.2.1), (2, .int v.2.2)] []) (kx : ∀ v, o = .inr v → sn_At p l e rmX9_askOf s m args below meth c Q D ct ad layM A 7 v.1 119 [(1, .int v.2)] []) : sn_At p l e rmX9_askOf s m args below meth c Q D ct ad layM A 7 σ 113 [(0, .ref (ad 0)), (1, .int x1), (2, .int x2)] [] := by
  intro H locs ls hw hl
  have hx := C.1
  have hb := C.2.1
  unfold BX9_askOf_113 at hf
  obtain ⟨y_1, e_2, hf⟩ := sn_ltE hf
  refine lv_iinc (v := y_1) (lv' := [(2, .int y_1), (0, .ref (ad 0)), (1, .int x1)]) hx hb dX9_askOf_113 hl (k := 2) rfl (by rw [e_2]; rfl) (by decide) rfl (fun ls hl => ?_)
  refine lv_goto (tgt := 12) hx hb dX9_askOf_116 (by decide) ?_
  cases hf
  exact kc _ rfl _ _ _ hw (lv_sub hl [1, 2, 0] rfl)
theorem wX9_askOf_95 (C : sn_C p s m args meth c RX9 cX9_askOf 7 (some .int) D ct ad layM A) {σ : sn_S} {x1 : Int32} {x2 : Int32} {x3 : Int32}  {o : (sn_S × Int32 × Int32) ⊕ (sn_S × Int32)} (hf : BX9_askOf_95 σ x1 x2 x3 = some o) (kc : ∀ v, o = .inl v → sn_At p l e rmX9_askOf s m args below meth c Q D ct ad layM A 7 v.1 12 [(0, .ref (ad 0)), (1, .int v.2.1), (2, .int v.2.2)] []) (kx : ∀ v, o = .inr v → sn_At p l e rmX9_askOf s m args below meth c Q D ct ad layM A 7 v.1 119 [(1, .int v.2)] []) : sn_At p l e rmX9_askOf s m args below meth c Q D ct ad layM A 7 σ 95 [(0, .ref (ad 0)), (1, .int x1), (2, .int x2), (3, .int x3)] [] := by
  intro H locs ls hw hl
  have hx := C.1
  have hb := C.2.1
  unfold BX9_askOf_95 at hf
  refine lv_iload_n hx hb dX9_askOf_95 rfl (lv_at hl 3 rfl) ?_
  refine lv_aload_n hx hb dX9_askOf_96 rfl (lv_at hl 0 rfl) ?_
  refine sn_getI C hw fd_RX9_378 layM_0 rfl dX9_askOf_97 ?_
  refine lv_icmp_lt (tgt := 106) hx hb dX9_askOf_100 (by decide) (fun c_1 => ?_) (fun c_1 => ?_)
  · have hf := sn_if c_1 hf
    refine lv_aload_n hx hb dX9_askOf_106 rfl (lv_at hl 0 rfl) ?_
    refine lv_iload_n hx hb dX9_askOf_107 rfl (lv_at hl 3 rfl) ?_
    refine sn_putI C hw fp_RX9_378 layM_0 rfl dX9_askOf_108 (fun H locs hw => ?_)
    obtain ⟨σ_2, e_3, hf⟩ := sn_ltE hf
    rw [← e_3] at hw
    refine lv_iload_n hx hb dX9_askOf_111 rfl (lv_at hl 2 rfl) ?_
    refine lv_istore_n (lv' := [(1, .int x2), (0, .ref (ad 0)), (2, .int x2), (3, .int x3)]) hx hb dX9_askOf_112 rfl hl (by decide) rfl (fun ls hl => ?_)
    exact wX9_askOf_113 C  hf kc kx _ _ _ hw (lv_sub hl [1, 0, 2] rfl)
  · have hf := sn_el c_1 hf
    refine lv_goto (tgt := 113) hx hb dX9_askOf_103 (by decide) ?_
    exact wX9_askOf_113 C  hf kc kx _ _ _ hw (lv_sub hl [0, 1, 2] rfl)
theorem wX9_askOf_82 (C : sn_C p s m args meth c RX9 cX9_askOf 7 (some .int) D ct ad layM A) {σ : sn_S} {x1 : Int32} {x2 : Int32} {x3 : Int32} {x4 : Int32} {x5 : Int32}  {o : (Int32 × Int32) ⊕ (Int32)} (hf : BX9_askOf_82 σ x1 x2 x3 x4 x5 = some o) (kc : ∀ v, o = .inl v → sn_At p l e rmX9_askOf s m args below meth c Q D ct ad layM A 7 σ 27 [(0, .ref (ad 0)), (1, .int x1), (2, .int x2), (3, .int v.1), (4, .int v.2)] []) (kx : ∀ v, o = .inr v → sn_At p l e rmX9_askOf s m args below meth c Q D ct ad layM A 7 σ 95 [(0, .ref (ad 0)), (1, .int x1), (2, .int x2), (3, .int v)] []) : sn_At p l e rmX9_askOf s m args below meth c Q D ct ad layM A 7 σ 82 [(0, .ref (ad 0)), (1, .int x1), (2, .int x2), (3, .int x3), (4, .int x4), (5, .int x5)] [] := by
  intro H locs ls hw hl
  have hx := C.1
  have hb := C.2.1
  unfold BX9_askOf_82 at hf
  refine lv_iload_n hx hb dX9_askOf_82 rfl (lv_at hl 3 rfl) ?_
  refine lv_iload hx hb dX9_askOf_83 (lv_at hl 5 rfl) ?_
  refine va_mmax hx hb (C.2.2.1.trans hl.1.symm) C.2.2.2.1 (C.2.2.2.2.1 _ km_RX9_293) (C.2.2.2.2.1 _ kst_maxI) (C.2.2.2.2.1 _ ki_Math) (C.2.2.2.2.1 _ kc_maxI) (Nat.le_of_ble_eq_true rfl) (Nat.le_of_ble_eq_true rfl) (Nat.zero_le _) (Nat.zero_le _) dX9_askOf_85 ?_
  obtain ⟨y_1, e_2, hf⟩ := sn_ltE hf
  refine lv_topi (fun y_1_ e_2_ => ?_)
  obtain rfl : y_1 = y_1_ := e_2.trans e_2_.symm
  refine lv_istore_n (lv' := [(3, .int y_1), (0, .ref (ad 0)), (1, .int x1), (2, .int x2), (4, .int x4), (5, .int x5)]) hx hb dX9_askOf_88 rfl hl (by decide) rfl (fun ls hl => ?_)
  obtain ⟨y_3, e_4, hf⟩ := sn_ltE hf
  refine lv_iinc (v := y_3) (lv' := [(4, .int y_3), (3, .int y_1), (0, .ref (ad 0)), (1, .int x1), (2, .int x2), (5, .int x5)]) hx hb dX9_askOf_89 hl (k := 4) rfl (by rw [e_4]; rfl) (by decide) rfl (fun ls hl => ?_)
  refine lv_goto (tgt := 27) hx hb dX9_askOf_92 (by decide) ?_
  cases hf
  exact kc _ rfl _ _ _ hw (lv_sub hl [2, 3, 4, 1, 0] rfl)
theorem wX9_askOf_73 (C : sn_C p s m args meth c RX9 cX9_askOf 7 (some .int) D ct ad layM A) {σ : sn_S} {x1 : Int32} {x2 : Int32} {x3 : Int32} {x4 : Int32} {x5 : Int32} {x6 : Int32} {t0 : Int32} {t1 : Int32}  {o : (Int32 × Int32) ⊕ (Int32)} (hf : BX9_askOf_73 σ x1 x2 x3 x4 x5 x6 t0 t1 = some o) (kc : ∀ v, o = .inl v → sn_At p l e rmX9_askOf s m args below meth c Q D ct ad layM A 7 σ 40 [(0, .ref (ad 0)), (1, .int x1), (2, .int x2), (3, .int x3), (4, .int x4), (5, .int v.1), (6, .int v.2)] []) (kx : ∀ v, o = .inr v → sn_At p l e rmX9_askOf s m args below meth c Q D ct ad layM A 7 σ 82 [(0, .ref (ad 0)), (1, .int x1), (2, .int x2), (3, .int x3), (4, .int x4), (5, .int v)] []) : sn_At p l e rmX9_askOf s m args below meth c Q D ct ad layM A 7 σ 73 [(0, .ref (ad 0)), (1, .int x1), (2, .int x2), (3, .int x3), (4, .int x4), (5, .int x5), (6, .int x6)] [.int t1, .int t0] := by
  intro H locs ls hw hl
  have hx := C.1
  have hb := C.2.1
  unfold BX9_askOf_73 at hf
  refine lv_iadd hx hb dX9_askOf_73 ?_
  obtain ⟨y_1, e_2, hf⟩ := sn_ltE hf
  refine lv_topi (fun y_1_ e_2_ => ?_)
  obtain rfl : y_1 = y_1_ := e_2.trans e_2_.symm
  refine lv_istore (lv' := [(5, .int y_1), (0, .ref (ad 0)), (1, .int x1), (2, .int x2), (3, .int x3), (4, .int x4), (6, .int x6)]) hx hb dX9_askOf_74 hl (by decide) rfl (fun ls hl => ?_)
  obtain ⟨y_3, e_4, hf⟩ := sn_ltE hf
  refine lv_iinc (v := y_3) (lv' := [(6, .int y_3), (5, .int y_1), (0, .ref (ad 0)), (1, .int x1), (2, .int x2), (3, .int x3), (4, .int x4)]) hx hb dX9_askOf_76 hl (k := 6) rfl (by rw [e_4]; rfl) (by decide) rfl (fun ls hl => ?_)
  refine lv_goto (tgt := 40) hx hb dX9_askOf_79 (by decide) ?_
  cases hf
  exact kc _ rfl _ _ _ hw (lv_sub hl [2, 3, 4, 5, 6, 1, 0] rfl)
theorem wX9_askOf_40 (C : sn_C p s m args meth c RX9 cX9_askOf 7 (some .int) D ct ad layM A) {σ : sn_S} {x1 : Int32} {x2 : Int32} {x3 : Int32} {x4 : Int32} {x5 : Int32} {x6 : Int32}  {o : (Int32 × Int32) ⊕ (Int32)} (hf : BX9_askOf_40 σ x1 x2 x3 x4 x5 x6 = some o) (kc : ∀ v, o = .inl v → sn_At p l e rmX9_askOf s m args below meth c Q D ct ad layM A 7 σ 40 [(0, .ref (ad 0)), (1, .int x1), (2, .int x2), (3, .int x3), (4, .int x4), (5, .int v.1), (6, .int v.2)] []) (kx : ∀ v, o = .inr v → sn_At p l e rmX9_askOf s m args below meth c Q D ct ad layM A 7 σ 82 [(0, .ref (ad 0)), (1, .int x1), (2, .int x2), (3, .int x3), (4, .int x4), (5, .int v)] []) : sn_At p l e rmX9_askOf s m args below meth c Q D ct ad layM A 7 σ 40 [(0, .ref (ad 0)), (1, .int x1), (2, .int x2), (3, .int x3), (4, .int x4), (5, .int x5), (6, .int x6)] [] := by
  intro H locs ls hw hl
  have hx := C.1
  have hb := C.2.1
  unfold BX9_askOf_40 at hf
  refine lv_iload hx hb dX9_askOf_40 (lv_at hl 6 rfl) ?_
  refine lv_aload_n hx hb dX9_askOf_42 rfl (lv_at hl 0 rfl) ?_
  refine sn_getI C hw fd_RX9_372 layM_0 rfl dX9_askOf_43 ?_
  refine lv_icmp_ge (tgt := 82) hx hb dX9_askOf_46 (by decide) (fun c_1 => ?_) (fun c_1 => ?_)
  · have hf := sn_if c_1 hf
    cases hf
    exact kx _ rfl _ _ _ hw (lv_sub hl [0, 1, 2, 3, 4, 5] rfl)
  · have hf := sn_el c_1 hf
    refine lv_iload hx hb dX9_askOf_49 (lv_at hl 5 rfl) ?_
    refine lv_aload_n hx hb dX9_askOf_51 rfl (lv_at hl 0 rfl) ?_
    refine sn_getC (r := 20) C hw fd_RX9_73 layM_0 rfl dX9_askOf_52 ?_
    refine lv_bipush (v := 6) hx hb dX9_askOf_55 (by decide) ?_
    refine lv_iload hx hb dX9_askOf_57 (lv_at hl 6 rfl) ?_
    refine lv_imul hx hb dX9_askOf_59 ?_
    refine lv_iload_n hx hb dX9_askOf_60 rfl (lv_at hl 2 rfl) ?_
    refine lv_iadd hx hb dX9_askOf_61 ?_
    obtain ⟨g_2, hf⟩ := sn_gdE hf
    refine sn_iald C hw layM_20 g_2 dX9_askOf_62 ?_
    refine lv_iload hx hb dX9_askOf_63 (lv_at hl 4 rfl) ?_
    refine lv_icmp_ne (tgt := 72) hx hb dX9_askOf_65 (by decide) (fun c_3 => ?_) (fun c_3 => ?_)
    · have hf := sn_el c_3 hf
      refine lv_iconst (v := 0) hx hb dX9_askOf_72 rfl ?_
      exact wX9_askOf_73 C  hf kc kx _ _ _ hw (lv_sub hl [0, 1, 2, 3, 4, 5, 6] rfl)
    · have hf := sn_if c_3 hf
      refine lv_iconst (v := 1) hx hb dX9_askOf_68 rfl ?_
      refine lv_goto (tgt := 73) hx hb dX9_askOf_69 (by decide) ?_
      exact wX9_askOf_73 C  hf kc kx _ _ _ hw (lv_sub hl [0, 1, 2, 3, 4, 5, 6] rfl)
theorem wX9_askOf_L40 (C : sn_C p s m args meth c RX9 cX9_askOf 7 (some .int) D ct ad layM A) {σ : sn_S} {x1 : Int32} {x2 : Int32} {x3 : Int32} {x4 : Int32}   {z : Int32 × Int32} {t : Int32} (h : sn_it (LX9_askOf_40 σ x1 x2 x3 x4) 5000 z = some t) (kx : ∀ v, t = v → sn_At p l e rmX9_askOf s m args below meth c Q D ct ad layM A 7 σ 82 [(0, .ref (ad 0)), (1, .int x1), (2, .int x2), (3, .int x3), (4, .int x4), (5, .int v)] []) : sn_At p l e rmX9_askOf s m args below meth c Q D ct ad layM A 7 σ 40 [(0, .ref (ad 0)), (1, .int x1), (2, .int x2), (3, .int x3), (4, .int x4), (5, .int z.1), (6, .int z.2)] [] :=
  sn_loop (f := LX9_askOf_40 σ x1 x2 x3 x4) (G := fun z => sn_At p l e rmX9_askOf s m args below meth c Q D ct ad layM A 7 σ 40 [(0, .ref (ad 0)), (1, .int x1), (2, .int x2), (3, .int x3), (4, .int x4), (5, .int z.1), (6, .int z.2)] []) (E := fun t => (∀ v, t = v → sn_At p l e rmX9_askOf s m args below meth c Q D ct ad layM A 7 σ 82 [(0, .ref (ad 0)), (1, .int x1), (2, .int x2), (3, .int x3), (4, .int x4), (5, .int v)] []) ∧ True) (fun z o hf k1 k2 => wX9_askOf_40 C  hf (fun v e => k1 v e) (fun v e => (k2 _ e).1 v rfl)) 5000 z t h ⟨kx, trivial⟩
theorem wX9_askOf_27 (C : sn_C p s m args meth c RX9 cX9_askOf 7 (some .int) D ct ad layM A) {σ : sn_S} {x1 : Int32} {x2 : Int32} {x3 : Int32} {x4 : Int32}  {o : (Int32 × Int32) ⊕ (Int32)} (hf : BX9_askOf_27 σ x1 x2 x3 x4 = some o) (kc : ∀ v, o = .inl v → sn_At p l e rmX9_askOf s m args below meth c Q D ct ad layM A 7 σ 27 [(0, .ref (ad 0)), (1, .int x1), (2, .int x2), (3, .int v.1), (4, .int v.2)] []) (kx : ∀ v, o = .inr v → sn_At p l e rmX9_askOf s m args below meth c Q D ct ad layM A 7 σ 95 [(0, .ref (ad 0)), (1, .int x1), (2, .int x2), (3, .int v)] []) : sn_At p l e rmX9_askOf s m args below meth c Q D ct ad layM A 7 σ 27 [(0, .ref (ad 0)), (1, .int x1), (2, .int x2), (3, .int x3), (4, .int x4)] [] := by
  intro H locs ls hw hl
  have hx := C.1
  have hb := C.2.1
  unfold BX9_askOf_27 at hf
  refine lv_iload hx hb dX9_askOf_27 (lv_at hl 4 rfl) ?_
  refine lv_bipush (v := 30) hx hb dX9_askOf_29 (by decide) ?_
  refine lv_icmp_gt (tgt := 95) hx hb dX9_askOf_31 (by decide) (fun c_1 => ?_) (fun c_1 => ?_)
  · have hf := sn_if c_1 hf
    cases hf
    exact kx _ rfl _ _ _ hw (lv_sub hl [0, 1, 2, 3] rfl)
  · have hf := sn_el c_1 hf
    refine lv_iconst (v := 0) hx hb dX9_askOf_34 rfl ?_
    refine lv_istore (lv' := [(5, .int (0 : Int32)), (0, .ref (ad 0)), (1, .int x1), (2, .int x2), (3, .int x3), (4, .int x4)]) hx hb dX9_askOf_35 hl (by decide) rfl (fun ls hl => ?_)
    refine lv_iconst (v := 0) hx hb dX9_askOf_37 rfl ?_
    refine lv_istore (lv' := [(6, .int (0 : Int32)), (5, .int (0 : Int32)), (0, .ref (ad 0)), (1, .int x1), (2, .int x2), (3, .int x3), (4, .int x4)]) hx hb dX9_askOf_38 hl (by decide) rfl (fun ls hl => ?_)
    obtain ⟨t_2, h_3, hf⟩ := sn_bd hf
    exact wX9_askOf_L40 C  h_3 (fun v e => by cases e; exact wX9_askOf_82 C  hf kc kx) _ _ _ hw (lv_sub hl [2, 3, 4, 5, 6, 1, 0] rfl)
theorem wX9_askOf_L27 (C : sn_C p s m args meth c RX9 cX9_askOf 7 (some .int) D ct ad layM A) {σ : sn_S} {x1 : Int32} {x2 : Int32}   {z : Int32 × Int32} {t : Int32} (h : sn_it (LX9_askOf_27 σ x1 x2) 5000 z = some t) (kx : ∀ v, t = v → sn_At p l e rmX9_askOf s m args below meth c Q D ct ad layM A 7 σ 95 [(0, .ref (ad 0)), (1, .int x1), (2, .int x2), (3, .int v)] []) : sn_At p l e rmX9_askOf s m args below meth c Q D ct ad layM A 7 σ 27 [(0, .ref (ad 0)), (1, .int x1), (2, .int x2), (3, .int z.1), (4, .int z.2)] [] :=
  sn_loop (f := LX9_askOf_27 σ x1 x2) (G := fun z => sn_At p l e rmX9_askOf s m args below meth c Q D ct ad layM A 7 σ 27 [(0, .ref (ad 0)), (1, .int x1), (2, .int x2), (3, .int z.1), (4, .int z.2)] []) (E := fun t => (∀ v, t = v → sn_At p l e rmX9_askOf s m args below meth c Q D ct ad layM A 7 σ 95 [(0, .ref (ad 0)), (1, .int x1), (2, .int x2), (3, .int v)] []) ∧ True) (fun z o hf k1 k2 => wX9_askOf_27 C  hf (fun v e => k1 v e) (fun v e => (k2 _ e).1 v rfl)) 5000 z t h ⟨kx, trivial⟩
theorem wX9_askOf_12 (C : sn_C p s m args meth c RX9 cX9_askOf 7 (some .int) D ct ad layM A) {σ : sn_S} {x1 : Int32} {x2 : Int32}  {o : (sn_S × Int32 × Int32) ⊕ (sn_S × Int32)} (hf : BX9_askOf_12 σ x1 x2 = some o) (kc : ∀ v, o = .inl v → sn_At p l e rmX9_askOf s m args below meth c Q D ct ad layM A 7 v.1 12 [(0, .ref (ad 0)), (1, .int v.2.1), (2, .int v.2.2)] []) (kx : ∀ v, o = .inr v → sn_At p l e rmX9_askOf s m args below meth c Q D ct ad layM A 7 v.1 119 [(1, .int v.2)] []) : sn_At p l e rmX9_askOf s m args below meth c Q D ct ad layM A 7 σ 12 [(0, .ref (ad 0)), (1, .int x1), (2, .int x2)] [] := by
  intro H locs ls hw hl
  have hx := C.1
  have hb := C.2.1
  unfold BX9_askOf_12 at hf
  refine lv_iload_n hx hb dX9_askOf_12 rfl (lv_at hl 2 rfl) ?_
  refine lv_aload_n hx hb dX9_askOf_13 rfl (lv_at hl 0 rfl) ?_
  refine sn_getC (r := 1) C hw fd_RX9_9 layM_0 rfl dX9_askOf_14 ?_
  refine lv_iconst (v := 5) hx hb dX9_askOf_17 rfl ?_
  obtain ⟨g_1, hf⟩ := sn_gdE hf
  refine sn_iald C hw layM_1 g_1 dX9_askOf_18 ?_
  refine lv_icmp_ge (tgt := 119) hx hb dX9_askOf_19 (by decide) (fun c_2 => ?_) (fun c_2 => ?_)
  · have hf := sn_if c_2 hf
    cases hf
    exact kx _ rfl _ _ _ hw (lv_sub hl [1] rfl)
  · have hf := sn_el c_2 hf
    refine lv_iconst (v := 0) hx hb dX9_askOf_22 rfl ?_
    refine lv_istore_n (lv' := [(3, .int (0 : Int32)), (0, .ref (ad 0)), (1, .int x1), (2, .int x2)]) hx hb dX9_askOf_23 rfl hl (by decide) rfl (fun ls hl => ?_)
    refine lv_iconst (v := 0) hx hb dX9_askOf_24 rfl ?_
    refine lv_istore (lv' := [(4, .int (0 : Int32)), (3, .int (0 : Int32)), (0, .ref (ad 0)), (1, .int x1), (2, .int x2)]) hx hb dX9_askOf_25 hl (by decide) rfl (fun ls hl => ?_)
    obtain ⟨t_3, h_4, hf⟩ := sn_bd hf
    exact wX9_askOf_L27 C  h_4 (fun v e => by cases e; exact wX9_askOf_95 C  hf kc kx) _ _ _ hw (lv_sub hl [2, 3, 4, 1, 0] rfl)
theorem wX9_askOf_L12 (C : sn_C p s m args meth c RX9 cX9_askOf 7 (some .int) D ct ad layM A)    {z : sn_S × Int32 × Int32} {t : sn_S × Int32} (h : sn_it (LX9_askOf_12 ) 5000 z = some t) (kx : ∀ v, t = v → sn_At p l e rmX9_askOf s m args below meth c Q D ct ad layM A 7 v.1 119 [(1, .int v.2)] []) : sn_At p l e rmX9_askOf s m args below meth c Q D ct ad layM A 7 z.1 12 [(0, .ref (ad 0)), (1, .int z.2.1), (2, .int z.2.2)] [] :=
  sn_loop (f := LX9_askOf_12 ) (G := fun z => sn_At p l e rmX9_askOf s m args below meth c Q D ct ad layM A 7 z.1 12 [(0, .ref (ad 0)), (1, .int z.2.1), (2, .int z.2.2)] []) (E := fun t => (∀ v, t = v → sn_At p l e rmX9_askOf s m args below meth c Q D ct ad layM A 7 v.1 119 [(1, .int v.2)] []) ∧ True) (fun z o hf k1 k2 => wX9_askOf_12 C  hf (fun v e => k1 v e) (fun v e => (k2 _ e).1 v rfl)) 5000 z t h ⟨kx, trivial⟩
theorem wX9_askOf_in (C : sn_C p s m args meth c RX9 cX9_askOf 7 (some .int) D ct ad layM A) {σ : sn_S}  {o : (Int32 × sn_S)} (hf : fX9_askOf σ = some o) (kr : sn_Kr p l e rmX9_askOf s m args below meth c Q D ct ad layM A cX9_askOf .ireturn (true) o.2 [.int o.1]) : sn_At p l e rmX9_askOf s m args below meth c Q D ct ad layM A 7 σ 0 [(0, .ref (ad 0))] [] := by
  intro H locs ls hw hl
  have hx := C.1
  have hb := C.2.1
  unfold fX9_askOf at hf
  refine lv_aload_n hx hb dX9_askOf_0 rfl (lv_at hl 0 rfl) ?_
  refine lv_aload_n hx hb dX9_askOf_1 rfl (lv_at hl 0 rfl) ?_
  refine sn_getI C hw fd_RX9_372 layM_0 rfl dX9_askOf_2 ?_
  refine sn_putI C hw fp_RX9_378 layM_0 rfl dX9_askOf_5 (fun H locs hw => ?_)
  obtain ⟨σ_1, e_2, hf⟩ := sn_ltE hf
  rw [← e_2] at hw
  refine lv_iconst (v := (-1)) hx hb dX9_askOf_8 rfl ?_
  refine lv_istore_n (lv' := [(1, .int (-1 : Int32)), (0, .ref (ad 0))]) hx hb dX9_askOf_9 rfl hl (by decide) rfl (fun ls hl => ?_)
  refine lv_iconst (v := 0) hx hb dX9_askOf_10 rfl ?_
  refine lv_istore_n (lv' := [(2, .int (0 : Int32)), (1, .int (-1 : Int32)), (0, .ref (ad 0))]) hx hb dX9_askOf_11 rfl hl (by decide) rfl (fun ls hl => ?_)
  obtain ⟨t_3, h_4, hf⟩ := sn_bd hf
  exact wX9_askOf_L12 C  h_4 (fun v e => by cases e; exact wX9_askOf_119 C  hf kr) _ _ _ hw (lv_sub hl [2, 1, 0] rfl)
theorem ctX9_askOf (l : Launch) {σ : sn_S}  {o : (Int32 × sn_S)} (hf : fX9_askOf σ = some o) : sn_M l yX9_askOf cX9_askOf 7 (some .int) rmX9_askOf layM (fun ad => [.ref (ad 0)]) σ (some (fun _ => .int o.1)) o.2 :=
  sn_met (by decide) (fun _ => Nat.le_of_ble_eq_true rfl) (fun p e s m args below meth c ls D ct ad A C hw hl => wX9_askOf_in C  hf (fun H locs ls pc hw ok hd => sn_iret C hw hd) _ _ _ hw hl)
-- X9_ask
abbrev rmX9_ask : Room := { frames := 5, cells := 0, slots := 0, locals := 120 }
def fX9_ask (σ : sn_S) (x1 : Int32) : Option (Int32 × sn_S) :=
  ((fX9_layPairs σ x1).bind fun t_1 => (if 0 ≤ t_1.1 then
  ((fX9_askOf t_1.2).bind fun t_4 => (some (t_4.1, t_4.2)))
  else
  (some (t_1.1, t_1.2))))
theorem wX9_ask_in (C : sn_C p s m args meth c RX9 cX9_ask 3 (some .int) D ct ad layM A) {σ : sn_S} {x1 : Int32}  {o : (Int32 × sn_S)} (hf : fX9_ask σ x1 = some o) (kr : sn_Kr p l e rmX9_ask s m args below meth c Q D ct ad layM A cX9_ask .ireturn (true) o.2 [.int o.1]) : sn_At p l e rmX9_ask s m args below meth c Q D ct ad layM A 3 σ 0 [(0, .ref (ad 0)), (1, .int x1)] [] := by
  intro H locs ls hw hl
  have hx := C.1
  have hb := C.2.1
  unfold fX9_ask at hf
  refine lv_aload_n hx hb dX9_ask_0 rfl (lv_at hl 0 rfl) ?_
  refine lv_iload_n hx hb dX9_ask_1 rfl (lv_at hl 1 rfl) ?_
  obtain ⟨t_1, h_2, hf⟩ := sn_bd hf
  refine sn_callVi (rest := []) C hw (ctX9_layPairs l  h_2) kl_RX9_375 layM_0 rfl rfl rfl rfl (Nat.le_of_ble_eq_true rfl) dX9_ask_2 hl.1 (fun H locs hw => ?_)
  refine lv_istore_n (lv' := [(2, .int t_1.1), (0, .ref (ad 0)), (1, .int x1)]) hx hb dX9_ask_5 rfl hl (by decide) rfl (fun ls hl => ?_)
  refine lv_iload_n hx hb dX9_ask_6 rfl (lv_at hl 0 rfl) ?_
  refine lv_if_ge (tgt := 14) hx hb dX9_ask_7 (by decide) (fun c_3 => ?_) (fun c_3 => ?_)
  · have hf := sn_if c_3 hf
    refine lv_aload_n hx hb dX9_ask_14 rfl (lv_at hl 1 rfl) ?_
    obtain ⟨t_4, h_5, hf⟩ := sn_bd hf
    refine sn_callVi (rest := []) C hw (ctX9_askOf l  h_5) kl_RX9_381 layM_0 rfl rfl rfl rfl (Nat.le_of_ble_eq_true rfl) dX9_ask_15 hl.1 (fun H locs hw => ?_)
    cases hf
    exact kr _ _ _ _ hw rfl dX9_ask_18
  · have hf := sn_el c_3 hf
    refine lv_iload_n hx hb dX9_ask_10 rfl (lv_at hl 0 rfl) ?_
    refine lv_goto (tgt := 18) hx hb dX9_ask_11 (by decide) ?_
    cases hf
    exact kr _ _ _ _ hw rfl dX9_ask_18
theorem ctX9_ask (l : Launch) {σ : sn_S} {x1 : Int32}  {o : (Int32 × sn_S)} (hf : fX9_ask σ x1 = some o) : sn_M l yX9_ask cX9_ask 3 (some .int) rmX9_ask layM (fun ad => [.ref (ad 0), .int x1]) σ (some (fun _ => .int o.1)) o.2 :=
  sn_met (by decide) (fun _ => Nat.le_of_ble_eq_true rfl) (fun p e s m args below meth c ls D ct ad A C hw hl => wX9_ask_in C  hf (fun H locs ls pc hw ok hd => sn_iret C hw hd) _ _ _ hw hl)
-- X9_leaves
abbrev rmX9_leaves : Room := { frames := 5, cells := 0, slots := 0, locals := 120 }
def fX9_leaves (σ : sn_S) (x1 : Int32) : Option (Int32 × sn_S) :=
  ((fX9_layPairs σ x1).bind fun t_1 => (if 0 ≤ t_1.1 then
  ((fX9_askOf t_1.2).bind fun t_4 => (some ((sn_I t_4.2 0 37), t_4.2)))
  else
  (some (t_1.1, t_1.2))))
theorem wX9_leaves_in (C : sn_C p s m args meth c RX9 cX9_leaves 3 (some .int) D ct ad layM A) {σ : sn_S} {x1 : Int32}  {o : (Int32 × sn_S)} (hf : fX9_leaves σ x1 = some o) (kr : sn_Kr p l e rmX9_leaves s m args below meth c Q D ct ad layM A cX9_leaves .ireturn (true) o.2 [.int o.1]) : sn_At p l e rmX9_leaves s m args below meth c Q D ct ad layM A 3 σ 0 [(0, .ref (ad 0)), (1, .int x1)] [] := by
  intro H locs ls hw hl
  have hx := C.1
  have hb := C.2.1
  unfold fX9_leaves at hf
  refine lv_aload_n hx hb dX9_leaves_0 rfl (lv_at hl 0 rfl) ?_
  refine lv_iload_n hx hb dX9_leaves_1 rfl (lv_at hl 1 rfl) ?_
  obtain ⟨t_1, h_2, hf⟩ := sn_bd hf
  refine sn_callVi (rest := []) C hw (ctX9_layPairs l  h_2) kl_RX9_375 layM_0 rfl rfl rfl rfl (Nat.le_of_ble_eq_true rfl) dX9_leaves_2 hl.1 (fun H locs hw => ?_)
  refine lv_istore_n (lv' := [(2, .int t_1.1), (0, .ref (ad 0)), (1, .int x1)]) hx hb dX9_leaves_5 rfl hl (by decide) rfl (fun ls hl => ?_)
  refine lv_iload_n hx hb dX9_leaves_6 rfl (lv_at hl 0 rfl) ?_
  refine lv_if_ge (tgt := 12) hx hb dX9_leaves_7 (by decide) (fun c_3 => ?_) (fun c_3 => ?_)
  · have hf := sn_if c_3 hf
    refine lv_aload_n hx hb dX9_leaves_12 rfl (lv_at hl 1 rfl) ?_
    obtain ⟨t_4, h_5, hf⟩ := sn_bd hf
    refine sn_callVi (rest := []) C hw (ctX9_askOf l  h_5) kl_RX9_381 layM_0 rfl rfl rfl rfl (Nat.le_of_ble_eq_true rfl) dX9_leaves_13 hl.1 (fun H locs hw => ?_)
    refine lv_pop hx hb dX9_leaves_16 rfl ?_
    refine lv_aload_n hx hb dX9_leaves_17 rfl (lv_at hl 1 rfl) ?_
    refine sn_getI C hw fd_RX9_378 layM_0 rfl dX9_leaves_18 ?_
    cases hf
    exact kr _ _ _ _ hw rfl dX9_leaves_21
  · have hf := sn_el c_3 hf
    refine lv_iload_n hx hb dX9_leaves_10 rfl (lv_at hl 0 rfl) ?_
    cases hf
    exact kr _ _ _ _ hw rfl dX9_leaves_11
theorem ctX9_leaves (l : Launch) {σ : sn_S} {x1 : Int32}  {o : (Int32 × sn_S)} (hf : fX9_leaves σ x1 = some o) : sn_M l yX9_leaves cX9_leaves 3 (some .int) rmX9_leaves layM (fun ad => [.ref (ad 0), .int x1]) σ (some (fun _ => .int o.1)) o.2 :=
  sn_met (by decide) (fun _ => Nat.le_of_ble_eq_true rfl) (fun p e s m args below meth c ls D ct ad A C hw hl => wX9_leaves_in C  hf (fun H locs ls pc hw ok hd => sn_iret C hw hd) _ _ _ hw hl)
-- X9_losesBy
abbrev rmX9_losesBy : Room := { frames := 4, cells := 0, slots := 0, locals := 95 }
def BX9_losesBy_94 (σ : sn_S) (t0 : Int32) (t1 : Int32) : Option ((Int32 × sn_S)) :=
  (some ((t0 + t1), σ))
def BX9_losesBy_80 (σ : sn_S) (t0 : Int32) (t1 : Int32) : Option ((Int32 × sn_S)) :=
  (if t1 = (1 : Int32) then
  ((fX9_minutes σ).bind fun t_2 => (BX9_losesBy_94 σ t0 (t_2 / (4 : Int32))))
  else
  (BX9_losesBy_94 σ t0 (0 : Int32)))
def BX9_losesBy_55 (σ : sn_S) (x3 : Int32) (x4 : Int32) (x5 : Int32) (t0 : Int32) : Option ((Int32 × sn_S)) :=
  (sn_gd (sn_in t0 6) ((fX9_bits (sn_I σ 10 t0.toNatClampNeg)).bind fun t_2 => (if x5 = 0 then
  (BX9_losesBy_80 σ ((3 : Int32) * t_2) x3)
  else
  (BX9_losesBy_80 σ ((3 : Int32) * t_2) x4))))
def BX9_losesBy_41 (σ : sn_S) (x1 : Int32) (x2 : Int32) (x3 : Int32) (x4 : Int32) (x5 : Int32) : Option ((Int32 × sn_S)) :=
  ((fX9_goAll σ).bind fun t_1 => (if x5 = 0 then
  (BX9_losesBy_55 t_1 x3 x4 x5 x1)
  else
  (BX9_losesBy_55 t_1 x3 x4 x5 x2)))
def BX9_losesBy_27 (σ : sn_S) (x1 : Int32) (x2 : Int32) (x3 : Int32) (x4 : Int32) (x5 : Int32) (x6 : Int32) : Option ((Int32 × sn_S)) :=
  (if x4 = (1 : Int32) then
  (sn_gd (sn_in x2 6) (sn_lt (sn_pI σ 8 x2.toNatClampNeg x6) fun σ_3 => (BX9_losesBy_41 σ_3 x1 x2 x3 x4 x5)))
  else
  (BX9_losesBy_41 σ x1 x2 x3 x4 x5))
def fX9_losesBy (σ : sn_S) (x1 : Int32) (x2 : Int32) (x3 : Int32) (x4 : Int32) (x5 : Int32) : Option (Int32 × sn_S) :=
  ((fX9_asItIs σ).bind fun t_1 => ((fX9_minutes t_1).bind fun t_3 => (sn_lt (((1 : Int32) <<< (t_3 &&& 31)) - (1 : Int32)) fun y_5 => (if x3 = (1 : Int32) then
  (sn_gd (sn_in x1 6) (sn_lt (sn_pI t_1 8 x1.toNatClampNeg y_5) fun σ_9 => (BX9_losesBy_27 σ_9 x1 x2 x3 x4 x5 y_5)))
  else
  (BX9_losesBy_27 t_1 x1 x2 x3 x4 x5 y_5)))))
theorem wX9_losesBy_94 (C : sn_C p s m args meth c RX9 cX9_losesBy 8 (some .int) D ct ad layM A) {σ : sn_S} {t0 : Int32} {t1 : Int32}  {o : (Int32 × sn_S)} (hf : BX9_losesBy_94 σ t0 t1 = some o) (kr : sn_Kr p l e rmX9_losesBy s m args below meth c Q D ct ad layM A cX9_losesBy .ireturn (true) o.2 [.int o.1]) : sn_At p l e rmX9_losesBy s m args below meth c Q D ct ad layM A 8 σ 94 [] [.int t1, .int t0] := by
  intro H locs ls hw hl
  have hx := C.1
  have hb := C.2.1
  unfold BX9_losesBy_94 at hf
  refine lv_iadd hx hb dX9_losesBy_94 ?_
  cases hf
  exact kr _ _ _ _ hw rfl dX9_losesBy_95
theorem wX9_losesBy_80 (C : sn_C p s m args meth c RX9 cX9_losesBy 8 (some .int) D ct ad layM A) {σ : sn_S} {t0 : Int32} {t1 : Int32}  {o : (Int32 × sn_S)} (hf : BX9_losesBy_80 σ t0 t1 = some o) (kr : sn_Kr p l e rmX9_losesBy s m args below meth c Q D ct ad layM A cX9_losesBy .ireturn (true) o.2 [.int o.1]) : sn_At p l e rmX9_losesBy s m args below meth c Q D ct ad layM A 8 σ 80 [(0, .ref (ad 0))] [.int t1, .int t0] := by
  intro H locs ls hw hl
  have hx := C.1
  have hb := C.2.1
  unfold BX9_losesBy_80 at hf
  refine lv_iconst (v := 1) hx hb dX9_losesBy_80 rfl ?_
  refine lv_icmp_ne (tgt := 93) hx hb dX9_losesBy_81 (by decide) (fun c_1 => ?_) (fun c_1 => ?_)
  · have hf := sn_el c_1 hf
    refine lv_iconst (v := 0) hx hb dX9_losesBy_93 rfl ?_
    exact wX9_losesBy_94 C  hf kr _ _ _ hw (lv_sub hl [] rfl)
  · have hf := sn_if c_1 hf
    refine lv_aload_n hx hb dX9_losesBy_84 rfl (lv_at hl 0 rfl) ?_
    obtain ⟨t_2, h_3, hf⟩ := sn_bd hf
    refine sn_callVi (rest := [.int t0]) C hw (ctX9_minutes l  h_3) kl_RX9_249 layM_0 rfl rfl rfl rfl (Nat.le_of_ble_eq_true rfl) dX9_losesBy_85 hl.1 (fun H locs hw => ?_)
    refine lv_iconst (v := 4) hx hb dX9_losesBy_88 rfl ?_
    refine lv_idiv hx hb dX9_losesBy_89 (by decide) ?_
    refine lv_goto (tgt := 94) hx hb dX9_losesBy_90 (by decide) ?_
    exact wX9_losesBy_94 C  hf kr _ _ _ hw (lv_sub hl [] rfl)
theorem wX9_losesBy_55 (C : sn_C p s m args meth c RX9 cX9_losesBy 8 (some .int) D ct ad layM A) {σ : sn_S} {x3 : Int32} {x4 : Int32} {x5 : Int32} {t0 : Int32}  {o : (Int32 × sn_S)} (hf : BX9_losesBy_55 σ x3 x4 x5 t0 = some o) (kr : sn_Kr p l e rmX9_losesBy s m args below meth c Q D ct ad layM A cX9_losesBy .ireturn (true) o.2 [.int o.1]) : sn_At p l e rmX9_losesBy s m args below meth c Q D ct ad layM A 8 σ 55 [(0, .ref (ad 0)), (3, .int x3), (4, .int x4), (5, .int x5)] [.int t0] := by
  intro H locs ls hw hl
  have hx := C.1
  have hb := C.2.1
  unfold BX9_losesBy_55 at hf
  refine lv_istore (lv' := [(7, .int t0), (0, .ref (ad 0)), (3, .int x3), (4, .int x4), (5, .int x5)]) hx hb dX9_losesBy_55 hl (by decide) rfl (fun ls hl => ?_)
  refine lv_iconst (v := 3) hx hb dX9_losesBy_57 rfl ?_
  refine lv_aload_n hx hb dX9_losesBy_58 rfl (lv_at hl 1 rfl) ?_
  refine sn_getC (r := 10) C hw fd_RX9_43 layM_0 rfl dX9_losesBy_59 ?_
  refine lv_iload hx hb dX9_losesBy_62 (lv_at hl 0 rfl) ?_
  obtain ⟨g_1, hf⟩ := sn_gdE hf
  refine sn_iald C hw layM_10 g_1 dX9_losesBy_64 ?_
  obtain ⟨t_2, h_3, hf⟩ := sn_bd hf
  refine sn_callSi (rest := [.int (3 : Int32)]) C hw (ctX9_bits l  h_3) kl_RX9_278 rfl rfl rfl (Nat.le_of_ble_eq_true rfl) dX9_losesBy_65 hl.1 (fun H locs hw => ?_)
  refine lv_imul hx hb dX9_losesBy_68 ?_
  refine lv_iload hx hb dX9_losesBy_69 (lv_at hl 4 rfl) ?_
  refine lv_if_ne (tgt := 78) hx hb dX9_losesBy_71 (by decide) (fun c_4 => ?_) (fun c_4 => ?_)
  · have hf := sn_el c_4 hf
    refine lv_iload hx hb dX9_losesBy_78 (lv_at hl 3 rfl) ?_
    exact wX9_losesBy_80 C  hf kr _ _ _ hw (lv_sub hl [1] rfl)
  · have hf := sn_if c_4 hf
    refine lv_iload_n hx hb dX9_losesBy_74 rfl (lv_at hl 2 rfl) ?_
    refine lv_goto (tgt := 80) hx hb dX9_losesBy_75 (by decide) ?_
    exact wX9_losesBy_80 C  hf kr _ _ _ hw (lv_sub hl [1] rfl)
theorem wX9_losesBy_41 (C : sn_C p s m args meth c RX9 cX9_losesBy 8 (some .int) D ct ad layM A) {σ : sn_S} {x1 : Int32} {x2 : Int32} {x3 : Int32} {x4 : Int32} {x5 : Int32}  {o : (Int32 × sn_S)} (hf : BX9_losesBy_41 σ x1 x2 x3 x4 x5 = some o) (kr : sn_Kr p l e rmX9_losesBy s m args below meth c Q D ct ad layM A cX9_losesBy .ireturn (true) o.2 [.int o.1]) : sn_At p l e rmX9_losesBy s m args below meth c Q D ct ad layM A 8 σ 41 [(0, .ref (ad 0)), (1, .int x1), (2, .int x2), (3, .int x3), (4, .int x4), (5, .int x5)] [] := by
  intro H locs ls hw hl
  have hx := C.1
  have hb := C.2.1
  unfold BX9_losesBy_41 at hf
  refine lv_aload_n hx hb dX9_losesBy_41 rfl (lv_at hl 0 rfl) ?_
  obtain ⟨t_1, h_2, hf⟩ := sn_bd hf
  refine sn_callVv (rest := []) C hw (ctX9_goAll l  h_2) kl_RX9_266 layM_0 rfl rfl rfl rfl (Nat.le_of_ble_eq_true rfl) dX9_losesBy_42 hl.1 (fun H locs hw => ?_)
  refine lv_iload hx hb dX9_losesBy_45 (lv_at hl 5 rfl) ?_
  refine lv_if_ne (tgt := 54) hx hb dX9_losesBy_47 (by decide) (fun c_3 => ?_) (fun c_3 => ?_)
  · have hf := sn_el c_3 hf
    refine lv_iload_n hx hb dX9_losesBy_54 rfl (lv_at hl 2 rfl) ?_
    exact wX9_losesBy_55 C  hf kr _ _ _ hw (lv_sub hl [0, 3, 4, 5] rfl)
  · have hf := sn_if c_3 hf
    refine lv_iload_n hx hb dX9_losesBy_50 rfl (lv_at hl 1 rfl) ?_
    refine lv_goto (tgt := 55) hx hb dX9_losesBy_51 (by decide) ?_
    exact wX9_losesBy_55 C  hf kr _ _ _ hw (lv_sub hl [0, 3, 4, 5] rfl)
theorem wX9_losesBy_27 (C : sn_C p s m args meth c RX9 cX9_losesBy 8 (some .int) D ct ad layM A) {σ : sn_S} {x1 : Int32} {x2 : Int32} {x3 : Int32} {x4 : Int32} {x5 : Int32} {x6 : Int32}  {o : (Int32 × sn_S)} (hf : BX9_losesBy_27 σ x1 x2 x3 x4 x5 x6 = some o) (kr : sn_Kr p l e rmX9_losesBy s m args below meth c Q D ct ad layM A cX9_losesBy .ireturn (true) o.2 [.int o.1]) : sn_At p l e rmX9_losesBy s m args below meth c Q D ct ad layM A 8 σ 27 [(0, .ref (ad 0)), (1, .int x1), (2, .int x2), (3, .int x3), (4, .int x4), (5, .int x5), (6, .int x6)] [] := by
  intro H locs ls hw hl
  have hx := C.1
  have hb := C.2.1
  unfold BX9_losesBy_27 at hf
  refine lv_iload hx hb dX9_losesBy_27 (lv_at hl 4 rfl) ?_
  refine lv_iconst (v := 1) hx hb dX9_losesBy_29 rfl ?_
  refine lv_icmp_ne (tgt := 41) hx hb dX9_losesBy_30 (by decide) (fun c_1 => ?_) (fun c_1 => ?_)
  · have hf := sn_el c_1 hf
    exact wX9_losesBy_41 C  hf kr _ _ _ hw (lv_sub hl [0, 1, 2, 3, 4, 5] rfl)
  · have hf := sn_if c_1 hf
    refine lv_aload_n hx hb dX9_losesBy_33 rfl (lv_at hl 0 rfl) ?_
    refine sn_getC (r := 8) C hw fd_RX9_37 layM_0 rfl dX9_losesBy_34 ?_
    refine lv_iload_n hx hb dX9_losesBy_37 rfl (lv_at hl 2 rfl) ?_
    refine lv_iload hx hb dX9_losesBy_38 (lv_at hl 6 rfl) ?_
    obtain ⟨g_2, hf⟩ := sn_gdE hf
    refine sn_iast C hw layM_8 g_2 dX9_losesBy_40 (fun H locs hw => ?_)
    obtain ⟨σ_3, e_4, hf⟩ := sn_ltE hf
    rw [← e_4] at hw
    exact wX9_losesBy_41 C  hf kr _ _ _ hw (lv_sub hl [0, 1, 2, 3, 4, 5] rfl)
theorem wX9_losesBy_in (C : sn_C p s m args meth c RX9 cX9_losesBy 8 (some .int) D ct ad layM A) {σ : sn_S} {x1 : Int32} {x2 : Int32} {x3 : Int32} {x4 : Int32} {x5 : Int32}  {o : (Int32 × sn_S)} (hf : fX9_losesBy σ x1 x2 x3 x4 x5 = some o) (kr : sn_Kr p l e rmX9_losesBy s m args below meth c Q D ct ad layM A cX9_losesBy .ireturn (true) o.2 [.int o.1]) : sn_At p l e rmX9_losesBy s m args below meth c Q D ct ad layM A 8 σ 0 [(0, .ref (ad 0)), (1, .int x1), (2, .int x2), (3, .int x3), (4, .int x4), (5, .int x5)] [] := by
  intro H locs ls hw hl
  have hx := C.1
  have hb := C.2.1
  unfold fX9_losesBy at hf
  refine lv_aload_n hx hb dX9_losesBy_0 rfl (lv_at hl 0 rfl) ?_
  obtain ⟨t_1, h_2, hf⟩ := sn_bd hf
  refine sn_callVv (rest := []) C hw (ctX9_asItIs l  h_2) kl_RX9_263 layM_0 rfl rfl rfl rfl (Nat.le_of_ble_eq_true rfl) dX9_losesBy_1 hl.1 (fun H locs hw => ?_)
  refine lv_iconst (v := 1) hx hb dX9_losesBy_4 rfl ?_
  refine lv_aload_n hx hb dX9_losesBy_5 rfl (lv_at hl 0 rfl) ?_
  obtain ⟨t_3, h_4, hf⟩ := sn_bd hf
  refine sn_callVi (rest := [.int (1 : Int32)]) C hw (ctX9_minutes l  h_4) kl_RX9_249 layM_0 rfl rfl rfl rfl (Nat.le_of_ble_eq_true rfl) dX9_losesBy_6 hl.1 (fun H locs hw => ?_)
  refine lv_ishl hx hb dX9_losesBy_9 ?_
  refine lv_iconst (v := 1) hx hb dX9_losesBy_10 rfl ?_
  refine lv_isub hx hb dX9_losesBy_11 ?_
  obtain ⟨y_5, e_6, hf⟩ := sn_ltE hf
  refine lv_topi (fun y_5_ e_6_ => ?_)
  obtain rfl : y_5 = y_5_ := e_6.trans e_6_.symm
  refine lv_istore (lv' := [(6, .int y_5), (0, .ref (ad 0)), (1, .int x1), (2, .int x2), (3, .int x3), (4, .int x4), (5, .int x5)]) hx hb dX9_losesBy_12 hl (by decide) rfl (fun ls hl => ?_)
  refine lv_iload_n hx hb dX9_losesBy_14 rfl (lv_at hl 4 rfl) ?_
  refine lv_iconst (v := 1) hx hb dX9_losesBy_15 rfl ?_
  refine lv_icmp_ne (tgt := 27) hx hb dX9_losesBy_16 (by decide) (fun c_7 => ?_) (fun c_7 => ?_)
  · have hf := sn_el c_7 hf
    exact wX9_losesBy_27 C  hf kr _ _ _ hw (lv_sub hl [1, 2, 3, 4, 5, 6, 0] rfl)
  · have hf := sn_if c_7 hf
    refine lv_aload_n hx hb dX9_losesBy_19 rfl (lv_at hl 1 rfl) ?_
    refine sn_getC (r := 8) C hw fd_RX9_37 layM_0 rfl dX9_losesBy_20 ?_
    refine lv_iload_n hx hb dX9_losesBy_23 rfl (lv_at hl 2 rfl) ?_
    refine lv_iload hx hb dX9_losesBy_24 (lv_at hl 0 rfl) ?_
    obtain ⟨g_8, hf⟩ := sn_gdE hf
    refine sn_iast C hw layM_8 g_8 dX9_losesBy_26 (fun H locs hw => ?_)
    obtain ⟨σ_9, e_10, hf⟩ := sn_ltE hf
    rw [← e_10] at hw
    exact wX9_losesBy_27 C  hf kr _ _ _ hw (lv_sub hl [1, 2, 3, 4, 5, 6, 0] rfl)
theorem ctX9_losesBy (l : Launch) {σ : sn_S} {x1 : Int32} {x2 : Int32} {x3 : Int32} {x4 : Int32} {x5 : Int32}  {o : (Int32 × sn_S)} (hf : fX9_losesBy σ x1 x2 x3 x4 x5 = some o) : sn_M l yX9_losesBy cX9_losesBy 8 (some .int) rmX9_losesBy layM (fun ad => [.ref (ad 0), .int x1, .int x2, .int x3, .int x4, .int x5]) σ (some (fun _ => .int o.1)) o.2 :=
  sn_met (by decide) (fun _ => Nat.le_of_ble_eq_true rfl) (fun p e s m args below meth c ls D ct ad A C hw hl => wX9_losesBy_in C  hf (fun H locs ls pc hw ok hd => sn_iret C hw hd) _ _ _ hw hl)
-- X9_areTwo
abbrev rmX9_areTwo : Room := { frames := 2, cells := 0, slots := 0, locals := 47 }
def fX9_areTwo (σ : sn_S) (x1 : Int32) (x2 : Int32) : Option Int32 :=
  ((fX9_isPerson σ x1.toInt64).bind fun t_1 => (if t_1 = 0 then
  (sn_gd (sn_b01 (0 : Int32)) (some (0 : Int32)))
  else
  ((fX9_isPerson σ x2.toInt64).bind fun t_5 => (if t_5 = 0 then
  (sn_gd (sn_b01 (0 : Int32)) (some (0 : Int32)))
  else
  (if x1 = x2 then
  (sn_gd (sn_b01 (0 : Int32)) (some (0 : Int32)))
  else
  (sn_gd (sn_b01 (1 : Int32)) (some (1 : Int32))))))))
theorem wX9_areTwo_in (C : sn_C p s m args meth c RX9 cX9_areTwo 3 (some .boolean) D ct ad layM A) {σ : sn_S} {x1 : Int32} {x2 : Int32}  {o : Int32} (hf : fX9_areTwo σ x1 x2 = some o) (kr : sn_Kr p l e rmX9_areTwo s m args below meth c Q D ct ad layM A cX9_areTwo .ireturn (sn_b01 o) σ [.int o]) : sn_At p l e rmX9_areTwo s m args below meth c Q D ct ad layM A 3 σ 0 [(0, .ref (ad 0)), (1, .int x1), (2, .int x2)] [] := by
  intro H locs ls hw hl
  have hx := C.1
  have hb := C.2.1
  unfold fX9_areTwo at hf
  refine lv_aload_n hx hb dX9_areTwo_0 rfl (lv_at hl 0 rfl) ?_
  refine lv_iload_n hx hb dX9_areTwo_1 rfl (lv_at hl 1 rfl) ?_
  refine lv_i2l hx hb dX9_areTwo_2 rfl ?_
  obtain ⟨t_1, h_2, hf⟩ := sn_bd hf
  refine sn_callVi (rest := []) C hw (ctX9_isPerson l  h_2) kl_RX9_224 layM_0 rfl rfl rfl rfl (Nat.le_of_ble_eq_true rfl) dX9_areTwo_3 hl.1 (fun H locs hw => ?_)
  refine lv_if_eq (tgt := 27) hx hb dX9_areTwo_6 (by decide) (fun c_3 => ?_) (fun c_3 => ?_)
  · have hf := sn_if c_3 hf
    refine lv_iconst (v := 0) hx hb dX9_areTwo_27 rfl ?_
    obtain ⟨g_4, hf⟩ := sn_gdE hf
    cases hf
    exact kr _ _ _ _ hw g_4 dX9_areTwo_28
  · have hf := sn_el c_3 hf
    refine lv_aload_n hx hb dX9_areTwo_9 rfl (lv_at hl 0 rfl) ?_
    refine lv_iload_n hx hb dX9_areTwo_10 rfl (lv_at hl 2 rfl) ?_
    refine lv_i2l hx hb dX9_areTwo_11 rfl ?_
    obtain ⟨t_5, h_6, hf⟩ := sn_bd hf
    refine sn_callVi (rest := []) C hw (ctX9_isPerson l  h_6) kl_RX9_224 layM_0 rfl rfl rfl rfl (Nat.le_of_ble_eq_true rfl) dX9_areTwo_12 hl.1 (fun H locs hw => ?_)
    refine lv_if_eq (tgt := 27) hx hb dX9_areTwo_15 (by decide) (fun c_7 => ?_) (fun c_7 => ?_)
    · have hf := sn_if c_7 hf
      refine lv_iconst (v := 0) hx hb dX9_areTwo_27 rfl ?_
      obtain ⟨g_8, hf⟩ := sn_gdE hf
      cases hf
      exact kr _ _ _ _ hw g_8 dX9_areTwo_28
    · have hf := sn_el c_7 hf
      refine lv_iload_n hx hb dX9_areTwo_18 rfl (lv_at hl 1 rfl) ?_
      refine lv_iload_n hx hb dX9_areTwo_19 rfl (lv_at hl 2 rfl) ?_
      refine lv_icmp_eq (tgt := 27) hx hb dX9_areTwo_20 (by decide) (fun c_9 => ?_) (fun c_9 => ?_)
      · have hf := sn_if c_9 hf
        refine lv_iconst (v := 0) hx hb dX9_areTwo_27 rfl ?_
        obtain ⟨g_10, hf⟩ := sn_gdE hf
        cases hf
        exact kr _ _ _ _ hw g_10 dX9_areTwo_28
      · have hf := sn_el c_9 hf
        refine lv_iconst (v := 1) hx hb dX9_areTwo_23 rfl ?_
        refine lv_goto (tgt := 28) hx hb dX9_areTwo_24 (by decide) ?_
        obtain ⟨g_11, hf⟩ := sn_gdE hf
        cases hf
        exact kr _ _ _ _ hw g_11 dX9_areTwo_28
theorem ctX9_areTwo (l : Launch) {σ : sn_S} {x1 : Int32} {x2 : Int32}  {o : Int32} (hf : fX9_areTwo σ x1 x2 = some o) : sn_M l yX9_areTwo cX9_areTwo 3 (some .boolean) rmX9_areTwo layM (fun ad => [.ref (ad 0), .int x1, .int x2]) σ (some (fun _ => .int o)) σ :=
  sn_met (by decide) (fun _ => Nat.le_of_ble_eq_true rfl) (fun p e s m args below meth c ls D ct ad A C hw hl => wX9_areTwo_in C  hf (fun H locs ls pc hw ok hd => sn_zret C hw ok hd) _ _ _ hw hl)
-- X9_rests
abbrev rmX9_rests : Room := { frames := 5, cells := 0, slots := 0, locals := 122 }
def BX9_rests_118 (σ : sn_S) (x3 : Int32) : Option ((Int32 × sn_S)) :=
  (some (x3, σ))
def BX9_rests_110 (σ : sn_S) (x1 : Int32) (x2 : Int32) (x3 : Int32) (x4 : Int32) (t0 : Int32) (t1 : Int32) : Option ((sn_S × Int32 × Int32) ⊕ (sn_S × Int32)) :=
  (sn_lt (t0 ||| t1) fun y_1 => (sn_lt (x4 + 1) fun y_3 => (some (.inl (σ, y_1, y_3)))))
def BX9_rests_94 (σ : sn_S) (x1 : Int32) (x2 : Int32) (x3 : Int32) (x4 : Int32) (t0 : Int32) : Option ((sn_S × Int32 × Int32) ⊕ (sn_S × Int32)) :=
  (if t0 = 0 then
  (BX9_rests_110 σ x1 x2 x3 x4 x3 (0 : Int32))
  else
  (BX9_rests_110 σ x1 x2 x3 x4 x3 ((1 : Int32) <<< (x4 &&& 31))))
def BX9_rests_93 (σ : sn_S) (x1 : Int32) (x2 : Int32) (x3 : Int32) (x4 : Int32) : Option ((sn_S × Int32 × Int32) ⊕ (sn_S × Int32)) :=
  (BX9_rests_94 σ x1 x2 x3 x4 (0 : Int32))
def BX9_rests_17 (σ : sn_S) (x1 : Int32) (x2 : Int32) (x3 : Int32) (x4 : Int32) : Option ((sn_S × Int32 × Int32) ⊕ (sn_S × Int32)) :=
  (if (4 : Int32) ≤ x4 then
  (some (.inr (σ, x3)))
  else
  (sn_lt (x4 &&& (1 : Int32)) fun y_2 => (sn_lt (x4 >>> ((1 : Int32) &&& 31)) fun y_4 => ((fX9_losesBy σ x1 x2 y_2 y_4 (0 : Int32)).bind fun t_6 => ((fX9_losesBy t_6.2 x1 x2 ((1 : Int32) - y_2) y_4 (0 : Int32)).bind fun t_8 => (if t_8.1 < t_6.1 then
  (BX9_rests_93 t_8.2 x1 x2 x3 x4)
  else
  ((fX9_losesBy t_8.2 x1 x2 y_2 y_4 (1 : Int32)).bind fun t_11 => ((fX9_losesBy t_11.2 x1 x2 y_2 ((1 : Int32) - y_4) (1 : Int32)).bind fun t_13 => (if t_13.1 < t_11.1 then
  (BX9_rests_93 t_13.2 x1 x2 x3 x4)
  else
  (BX9_rests_94 t_13.2 x1 x2 x3 x4 (1 : Int32)))))))))))
def LX9_rests_17 (x1 : Int32) (x2 : Int32) (s : sn_S × Int32 × Int32) : Option ((sn_S × Int32 × Int32) ⊕ (sn_S × Int32)) := BX9_rests_17 s.1 x1 x2 s.2.1 s.2.2
def fX9_rests (σ : sn_S) (x1 : Int32) (x2 : Int32) : Option (Int32 × sn_S) :=
  ((fX9_areTwo σ x1 x2).bind fun t_1 => (if t_1 = 0 then
  (some ((-2 : Int32), σ))
  else
  ((sn_it (LX9_rests_17 x1 x2) 5000 (σ, (0 : Int32), (0 : Int32))).bind fun t_4 => (BX9_rests_118 t_4.1 t_4.2))))
theorem wX9_rests_118 (C : sn_C p s m args meth c RX9 cX9_rests 8 (some .int) D ct ad layM A) {σ : sn_S} {x3 : Int32}  {o : (Int32 × sn_S)} (hf : BX9_rests_118 σ x3 = some o) (kr : sn_Kr p l e rmX9_rests s m args below meth c Q D ct ad layM A cX9_rests .ireturn (true) o.2 [.int o.1]) : sn_At p l e rmX9_rests s m args below meth c Q D ct ad layM A 8 σ 118 [(3, .int x3)] [] := by
  intro H locs ls hw hl
  have hx := C.1
  have hb := C.2.1
  unfold BX9_rests_118 at hf
  refine lv_iload_n hx hb dX9_rests_118 rfl (lv_at hl 0 rfl) ?_
  cases hf
  exact kr _ _ _ _ hw rfl dX9_rests_119
theorem wX9_rests_110 (C : sn_C p s m args meth c RX9 cX9_rests 8 (some .int) D ct ad layM A) {σ : sn_S} {x1 : Int32} {x2 : Int32} {x3 : Int32} {x4 : Int32} {t0 : Int32} {t1 : Int32}  {o : (sn_S × Int32 × Int32) ⊕ (sn_S × Int32)} (hf : BX9_rests_110 σ x1 x2 x3 x4 t0 t1 = some o) (kc : ∀ v, o = .inl v → sn_At p l e rmX9_rests s m args below meth c Q D ct ad layM A 8 v.1 17 [(0, .ref (ad 0)), (1, .int x1), (2, .int x2), (3, .int v.2.1), (4, .int v.2.2)] []) (kx : ∀ v, o = .inr v → sn_At p l e rmX9_rests s m args below meth c Q D ct ad layM A 8 v.1 118 [(3, .int v.2)] []) : sn_At p l e rmX9_rests s m args below meth c Q D ct ad layM A 8 σ 110 [(0, .ref (ad 0)), (1, .int x1), (2, .int x2), (3, .int x3), (4, .int x4)] [.int t1, .int t0] := by
  intro H locs ls hw hl
  have hx := C.1
  have hb := C.2.1
  unfold BX9_rests_110 at hf
  refine lv_ior hx hb dX9_rests_110 ?_
  obtain ⟨y_1, e_2, hf⟩ := sn_ltE hf
  refine lv_topi (fun y_1_ e_2_ => ?_)
  obtain rfl : y_1 = y_1_ := e_2.trans e_2_.symm
  refine lv_istore_n (lv' := [(3, .int y_1), (0, .ref (ad 0)), (1, .int x1), (2, .int x2), (4, .int x4)]) hx hb dX9_rests_111 rfl hl (by decide) rfl (fun ls hl => ?_)
  obtain ⟨y_3, e_4, hf⟩ := sn_ltE hf
  refine lv_iinc (v := y_3) (lv' := [(4, .int y_3), (3, .int y_1), (0, .ref (ad 0)), (1, .int x1), (2, .int x2)]) hx hb dX9_rests_112 hl (k := 4) rfl (by rw [e_4]; rfl) (by decide) rfl (fun ls hl => ?_)
  refine lv_goto (tgt := 17) hx hb dX9_rests_115 (by decide) ?_
  cases hf
  exact kc _ rfl _ _ _ hw (lv_sub hl [2, 3, 4, 1, 0] rfl)
theorem wX9_rests_94 (C : sn_C p s m args meth c RX9 cX9_rests 8 (some .int) D ct ad layM A) {σ : sn_S} {x1 : Int32} {x2 : Int32} {x3 : Int32} {x4 : Int32} {t0 : Int32}  {o : (sn_S × Int32 × Int32) ⊕ (sn_S × Int32)} (hf : BX9_rests_94 σ x1 x2 x3 x4 t0 = some o) (kc : ∀ v, o = .inl v → sn_At p l e rmX9_rests s m args below meth c Q D ct ad layM A 8 v.1 17 [(0, .ref (ad 0)), (1, .int x1), (2, .int x2), (3, .int v.2.1), (4, .int v.2.2)] []) (kx : ∀ v, o = .inr v → sn_At p l e rmX9_rests s m args below meth c Q D ct ad layM A 8 v.1 118 [(3, .int v.2)] []) : sn_At p l e rmX9_rests s m args below meth c Q D ct ad layM A 8 σ 94 [(0, .ref (ad 0)), (1, .int x1), (2, .int x2), (3, .int x3), (4, .int x4)] [.int t0] := by
  intro H locs ls hw hl
  have hx := C.1
  have hb := C.2.1
  unfold BX9_rests_94 at hf
  refine lv_istore (lv' := [(7, .int t0), (0, .ref (ad 0)), (1, .int x1), (2, .int x2), (3, .int x3), (4, .int x4)]) hx hb dX9_rests_94 hl (by decide) rfl (fun ls hl => ?_)
  refine lv_iload_n hx hb dX9_rests_96 rfl (lv_at hl 4 rfl) ?_
  refine lv_iload hx hb dX9_rests_97 (lv_at hl 0 rfl) ?_
  refine lv_if_eq (tgt := 109) hx hb dX9_rests_99 (by decide) (fun c_1 => ?_) (fun c_1 => ?_)
  · have hf := sn_if c_1 hf
    refine lv_iconst (v := 0) hx hb dX9_rests_109 rfl ?_
    exact wX9_rests_110 C  hf kc kx _ _ _ hw (lv_sub hl [1, 2, 3, 4, 5] rfl)
  · have hf := sn_el c_1 hf
    refine lv_iconst (v := 1) hx hb dX9_rests_102 rfl ?_
    refine lv_iload hx hb dX9_rests_103 (lv_at hl 5 rfl) ?_
    refine lv_ishl hx hb dX9_rests_105 ?_
    refine lv_goto (tgt := 110) hx hb dX9_rests_106 (by decide) ?_
    exact wX9_rests_110 C  hf kc kx _ _ _ hw (lv_sub hl [1, 2, 3, 4, 5] rfl)
theorem wX9_rests_93 (C : sn_C p s m args meth c RX9 cX9_rests 8 (some .int) D ct ad layM A) {σ : sn_S} {x1 : Int32} {x2 : Int32} {x3 : Int32} {x4 : Int32}  {o : (sn_S × Int32 × Int32) ⊕ (sn_S × Int32)} (hf : BX9_rests_93 σ x1 x2 x3 x4 = some o) (kc : ∀ v, o = .inl v → sn_At p l e rmX9_rests s m args below meth c Q D ct ad layM A 8 v.1 17 [(0, .ref (ad 0)), (1, .int x1), (2, .int x2), (3, .int v.2.1), (4, .int v.2.2)] []) (kx : ∀ v, o = .inr v → sn_At p l e rmX9_rests s m args below meth c Q D ct ad layM A 8 v.1 118 [(3, .int v.2)] []) : sn_At p l e rmX9_rests s m args below meth c Q D ct ad layM A 8 σ 93 [(0, .ref (ad 0)), (1, .int x1), (2, .int x2), (3, .int x3), (4, .int x4)] [] := by
  intro H locs ls hw hl
  have hx := C.1
  have hb := C.2.1
  unfold BX9_rests_93 at hf
  refine lv_iconst (v := 0) hx hb dX9_rests_93 rfl ?_
  exact wX9_rests_94 C  hf kc kx _ _ _ hw (lv_sub hl [0, 1, 2, 3, 4] rfl)
theorem wX9_rests_17 (C : sn_C p s m args meth c RX9 cX9_rests 8 (some .int) D ct ad layM A) {σ : sn_S} {x1 : Int32} {x2 : Int32} {x3 : Int32} {x4 : Int32}  {o : (sn_S × Int32 × Int32) ⊕ (sn_S × Int32)} (hf : BX9_rests_17 σ x1 x2 x3 x4 = some o) (kc : ∀ v, o = .inl v → sn_At p l e rmX9_rests s m args below meth c Q D ct ad layM A 8 v.1 17 [(0, .ref (ad 0)), (1, .int x1), (2, .int x2), (3, .int v.2.1), (4, .int v.2.2)] []) (kx : ∀ v, o = .inr v → sn_At p l e rmX9_rests s m args below meth c Q D ct ad layM A 8 v.1 118 [(3, .int v.2)] []) : sn_At p l e rmX9_rests s m args below meth c Q D ct ad layM A 8 σ 17 [(0, .ref (ad 0)), (1, .int x1), (2, .int x2), (3, .int x3), (4, .int x4)] [] := by
  intro H locs ls hw hl
  have hx := C.1
  have hb := C.2.1
  unfold BX9_rests_17 at hf
  refine lv_iload hx hb dX9_rests_17 (lv_at hl 4 rfl) ?_
  refine lv_iconst (v := 4) hx hb dX9_rests_19 rfl ?_
  refine lv_icmp_ge (tgt := 118) hx hb dX9_rests_20 (by decide) (fun c_1 => ?_) (fun c_1 => ?_)
  · have hf := sn_if c_1 hf
    cases hf
    exact kx _ rfl _ _ _ hw (lv_sub hl [3] rfl)
  · have hf := sn_el c_1 hf
    refine lv_iload hx hb dX9_rests_23 (lv_at hl 4 rfl) ?_
    refine lv_iconst (v := 1) hx hb dX9_rests_25 rfl ?_
    refine lv_iand hx hb dX9_rests_26 ?_
    obtain ⟨y_2, e_3, hf⟩ := sn_ltE hf
    refine lv_topi (fun y_2_ e_3_ => ?_)
    obtain rfl : y_2 = y_2_ := e_3.trans e_3_.symm
    refine lv_istore (lv' := [(5, .int y_2), (0, .ref (ad 0)), (1, .int x1), (2, .int x2), (3, .int x3), (4, .int x4)]) hx hb dX9_rests_27 hl (by decide) rfl (fun ls hl => ?_)
    refine lv_iload hx hb dX9_rests_29 (lv_at hl 5 rfl) ?_
    refine lv_iconst (v := 1) hx hb dX9_rests_31 rfl ?_
    refine lv_ishr hx hb dX9_rests_32 ?_
    obtain ⟨y_4, e_5, hf⟩ := sn_ltE hf
    refine lv_topi (fun y_4_ e_5_ => ?_)
    obtain rfl : y_4 = y_4_ := e_5.trans e_5_.symm
    refine lv_istore (lv' := [(6, .int y_4), (5, .int y_2), (0, .ref (ad 0)), (1, .int x1), (2, .int x2), (3, .int x3), (4, .int x4)]) hx hb dX9_rests_33 hl (by decide) rfl (fun ls hl => ?_)
    refine lv_aload_n hx hb dX9_rests_35 rfl (lv_at hl 2 rfl) ?_
    refine lv_iload_n hx hb dX9_rests_36 rfl (lv_at hl 3 rfl) ?_
    refine lv_iload_n hx hb dX9_rests_37 rfl (lv_at hl 4 rfl) ?_
    refine lv_iload hx hb dX9_rests_38 (lv_at hl 1 rfl) ?_
    refine lv_iload hx hb dX9_rests_40 (lv_at hl 0 rfl) ?_
    refine lv_iconst (v := 0) hx hb dX9_rests_42 rfl ?_
    obtain ⟨t_6, h_7, hf⟩ := sn_bd hf
    refine sn_callVi (rest := []) C hw (ctX9_losesBy l  h_7) kl_RX9_387 layM_0 rfl rfl rfl rfl (Nat.le_of_ble_eq_true rfl) dX9_rests_43 hl.1 (fun H locs hw => ?_)
    refine lv_aload_n hx hb dX9_rests_46 rfl (lv_at hl 2 rfl) ?_
    refine lv_iload_n hx hb dX9_rests_47 rfl (lv_at hl 3 rfl) ?_
    refine lv_iload_n hx hb dX9_rests_48 rfl (lv_at hl 4 rfl) ?_
    refine lv_iconst (v := 1) hx hb dX9_rests_49 rfl ?_
    refine lv_iload hx hb dX9_rests_50 (lv_at hl 1 rfl) ?_
    refine lv_isub hx hb dX9_rests_52 ?_
    refine lv_iload hx hb dX9_rests_53 (lv_at hl 0 rfl) ?_
    refine lv_iconst (v := 0) hx hb dX9_rests_55 rfl ?_
    obtain ⟨t_8, h_9, hf⟩ := sn_bd hf
    refine sn_callVi (rest := [.int t_6.1]) C hw (ctX9_losesBy l  h_9) kl_RX9_387 layM_0 rfl rfl rfl rfl (Nat.le_of_ble_eq_true rfl) dX9_rests_56 hl.1 (fun H locs hw => ?_)
    refine lv_icmp_gt (tgt := 93) hx hb dX9_rests_59 (by decide) (fun c_10 => ?_) (fun c_10 => ?_)
    · have hf := sn_if c_10 hf
      exact wX9_rests_93 C  hf kc kx _ _ _ hw (lv_sub hl [2, 3, 4, 5, 6] rfl)
    · have hf := sn_el c_10 hf
      refine lv_aload_n hx hb dX9_rests_62 rfl (lv_at hl 2 rfl) ?_
      refine lv_iload_n hx hb dX9_rests_63 rfl (lv_at hl 3 rfl) ?_
      refine lv_iload_n hx hb dX9_rests_64 rfl (lv_at hl 4 rfl) ?_
      refine lv_iload hx hb dX9_rests_65 (lv_at hl 1 rfl) ?_
      refine lv_iload hx hb dX9_rests_67 (lv_at hl 0 rfl) ?_
      refine lv_iconst (v := 1) hx hb dX9_rests_69 rfl ?_
      obtain ⟨t_11, h_12, hf⟩ := sn_bd hf
      refine sn_callVi (rest := []) C hw (ctX9_losesBy l  h_12) kl_RX9_387 layM_0 rfl rfl rfl rfl (Nat.le_of_ble_eq_true rfl) dX9_rests_70 hl.1 (fun H locs hw => ?_)
      refine lv_aload_n hx hb dX9_rests_73 rfl (lv_at hl 2 rfl) ?_
      refine lv_iload_n hx hb dX9_rests_74 rfl (lv_at hl 3 rfl) ?_
      refine lv_iload_n hx hb dX9_rests_75 rfl (lv_at hl 4 rfl) ?_
      refine lv_iload hx hb dX9_rests_76 (lv_at hl 1 rfl) ?_
      refine lv_iconst (v := 1) hx hb dX9_rests_78 rfl ?_
      refine lv_iload hx hb dX9_rests_79 (lv_at hl 0 rfl) ?_
      refine lv_isub hx hb dX9_rests_81 ?_
      refine lv_iconst (v := 1) hx hb dX9_rests_82 rfl ?_
      obtain ⟨t_13, h_14, hf⟩ := sn_bd hf
      refine sn_callVi (rest := [.int t_11.1]) C hw (ctX9_losesBy l  h_14) kl_RX9_387 layM_0 rfl rfl rfl rfl (Nat.le_of_ble_eq_true rfl) dX9_rests_83 hl.1 (fun H locs hw => ?_)
      refine lv_icmp_gt (tgt := 93) hx hb dX9_rests_86 (by decide) (fun c_15 => ?_) (fun c_15 => ?_)
      · have hf := sn_if c_15 hf
        exact wX9_rests_93 C  hf kc kx _ _ _ hw (lv_sub hl [2, 3, 4, 5, 6] rfl)
      · have hf := sn_el c_15 hf
        refine lv_iconst (v := 1) hx hb dX9_rests_89 rfl ?_
        refine lv_goto (tgt := 94) hx hb dX9_rests_90 (by decide) ?_
        exact wX9_rests_94 C  hf kc kx _ _ _ hw (lv_sub hl [2, 3, 4, 5, 6] rfl)
theorem wX9_rests_L17 (C : sn_C p s m args meth c RX9 cX9_rests 8 (some .int) D ct ad layM A) {x1 : Int32} {x2 : Int32}   {z : sn_S × Int32 × Int32} {t : sn_S × Int32} (h : sn_it (LX9_rests_17 x1 x2) 5000 z = some t) (kx : ∀ v, t = v → sn_At p l e rmX9_rests s m args below meth c Q D ct ad layM A 8 v.1 118 [(3, .int v.2)] []) : sn_At p l e rmX9_rests s m args below meth c Q D ct ad layM A 8 z.1 17 [(0, .ref (ad 0)), (1, .int x1), (2, .int x2), (3, .int z.2.1), (4, .int z.2.2)] [] :=
  sn_loop (f := LX9_rests_17 x1 x2) (G := fun z => sn_At p l e rmX9_rests s m args below meth c Q D ct ad layM A 8 z.1 17 [(0, .ref (ad 0)), (1, .int x1), (2, .int x2), (3, .int z.2.1), (4, .int z.2.2)] []) (E := fun t => (∀ v, t = v → sn_At p l e rmX9_rests s m args below meth c Q D ct ad layM A 8 v.1 118 [(3, .int v.2)] []) ∧ True) (fun z o hf k1 k2 => wX9_rests_17 C  hf (fun v e => k1 v e) (fun v e => (k2 _ e).1 v rfl)) 5000 z t h ⟨kx, trivial⟩
theorem wX9_rests_in (C : sn_C p s m args meth c RX9 cX9_rests 8 (some .int) D ct ad layM A) {σ : sn_S} {x1 : Int32} {x2 : Int32}  {o : (Int32 × sn_S)} (hf : fX9_rests σ x1 x2 = some o) (kr : sn_Kr p l e rmX9_rests s m args below meth c Q D ct ad layM A cX9_rests .ireturn (true) o.2 [.int o.1]) : sn_At p l e rmX9_rests s m args below meth c Q D ct ad layM A 8 σ 0 [(0, .ref (ad 0)), (1, .int x1), (2, .int x2)] [] := by
  intro H locs ls hw hl
  have hx := C.1
  have hb := C.2.1
  unfold fX9_rests at hf
  refine lv_aload_n hx hb dX9_rests_0 rfl (lv_at hl 0 rfl) ?_
  refine lv_iload_n hx hb dX9_rests_1 rfl (lv_at hl 1 rfl) ?_
  refine lv_iload_n hx hb dX9_rests_2 rfl (lv_at hl 2 rfl) ?_
  obtain ⟨t_1, h_2, hf⟩ := sn_bd hf
  refine sn_callVi (rest := []) C hw (ctX9_areTwo l  h_2) kl_RX9_384 layM_0 rfl rfl rfl rfl (Nat.le_of_ble_eq_true rfl) dX9_rests_3 hl.1 (fun H locs hw => ?_)
  refine lv_if_ne (tgt := 12) hx hb dX9_rests_6 (by decide) (fun c_3 => ?_) (fun c_3 => ?_)
  · have hf := sn_el c_3 hf
    refine lv_iconst (v := 0) hx hb dX9_rests_12 rfl ?_
    refine lv_istore_n (lv' := [(3, .int (0 : Int32)), (0, .ref (ad 0)), (1, .int x1), (2, .int x2)]) hx hb dX9_rests_13 rfl hl (by decide) rfl (fun ls hl => ?_)
    refine lv_iconst (v := 0) hx hb dX9_rests_14 rfl ?_
    refine lv_istore (lv' := [(4, .int (0 : Int32)), (3, .int (0 : Int32)), (0, .ref (ad 0)), (1, .int x1), (2, .int x2)]) hx hb dX9_rests_15 hl (by decide) rfl (fun ls hl => ?_)
    obtain ⟨t_4, h_5, hf⟩ := sn_bd hf
    exact wX9_rests_L17 C  h_5 (fun v e => by cases e; exact wX9_rests_118 C  hf kr) _ _ _ hw (lv_sub hl [2, 3, 4, 1, 0] rfl)
  · have hf := sn_if c_3 hf
    refine lv_bipush (v := (-2)) hx hb dX9_rests_9 (by decide) ?_
    cases hf
    exact kr _ _ _ _ hw rfl dX9_rests_11
theorem ctX9_rests (l : Launch) {σ : sn_S} {x1 : Int32} {x2 : Int32}  {o : (Int32 × sn_S)} (hf : fX9_rests σ x1 x2 = some o) : sn_M l yX9_rests cX9_rests 8 (some .int) rmX9_rests layM (fun ad => [.ref (ad 0), .int x1, .int x2]) σ (some (fun _ => .int o.1)) o.2 :=
  sn_met (by decide) (fun _ => Nat.le_of_ble_eq_true rfl) (fun p e s m args below meth c ls D ct ad A C hw hl => wX9_rests_in C  hf (fun H locs ls pc hw ok hd => sn_iret C hw hd) _ _ _ hw hl)
-- X9_loses
abbrev rmX9_loses : Room := { frames := 5, cells := 0, slots := 0, locals := 122 }
def fX9_loses (σ : sn_S) (x1 : Int32) (x2 : Int32) (x3 : Int32) (x4 : Int32) : Option (Int32 × sn_S) :=
  ((fX9_areTwo σ x1 x2).bind fun t_1 => (if t_1 = 0 then
  (some ((-2 : Int32), σ))
  else
  ((fX9_in x3.toInt64 (0 : Int64) (1 : Int64)).bind fun t_4 => (if t_4 = 0 then
  (some ((-2 : Int32), σ))
  else
  ((fX9_in x4.toInt64 (0 : Int64) (1 : Int64)).bind fun t_7 => (if t_7 = 0 then
  (some ((-2 : Int32), σ))
  else
  ((fX9_losesBy σ x1 x2 x3 x4 (0 : Int32)).bind fun t_10 => (some (t_10.1, t_10.2)))))))))
theorem wX9_loses_in (C : sn_C p s m args meth c RX9 cX9_loses 5 (some .int) D ct ad layM A) {σ : sn_S} {x1 : Int32} {x2 : Int32} {x3 : Int32} {x4 : Int32}  {o : (Int32 × sn_S)} (hf : fX9_loses σ x1 x2 x3 x4 = some o) (kr : sn_Kr p l e rmX9_loses s m args below meth c Q D ct ad layM A cX9_loses .ireturn (true) o.2 [.int o.1]) : sn_At p l e rmX9_loses s m args below meth c Q D ct ad layM A 5 σ 0 [(0, .ref (ad 0)), (1, .int x1), (2, .int x2), (3, .int x3), (4, .int x4)] [] := by
  intro H locs ls hw hl
  have hx := C.1
  have hb := C.2.1
  unfold fX9_loses at hf
  refine lv_aload_n hx hb dX9_loses_0 rfl (lv_at hl 0 rfl) ?_
  refine lv_iload_n hx hb dX9_loses_1 rfl (lv_at hl 1 rfl) ?_
  refine lv_iload_n hx hb dX9_loses_2 rfl (lv_at hl 2 rfl) ?_
  obtain ⟨t_1, h_2, hf⟩ := sn_bd hf
  refine sn_callVi (rest := []) C hw (ctX9_areTwo l  h_2) kl_RX9_384 layM_0 rfl rfl rfl rfl (Nat.le_of_ble_eq_true rfl) dX9_loses_3 hl.1 (fun H locs hw => ?_)
  refine lv_if_eq (tgt := 43) hx hb dX9_loses_6 (by decide) (fun c_3 => ?_) (fun c_3 => ?_)
  · have hf := sn_if c_3 hf
    refine lv_bipush (v := (-2)) hx hb dX9_loses_43 (by decide) ?_
    cases hf
    exact kr _ _ _ _ hw rfl dX9_loses_45
  · have hf := sn_el c_3 hf
    refine lv_iload_n hx hb dX9_loses_9 rfl (lv_at hl 3 rfl) ?_
    refine lv_i2l hx hb dX9_loses_10 rfl ?_
    refine lv_lconst (v := 0) hx hb dX9_loses_11 rfl ?_
    refine lv_lconst (v := 1) hx hb dX9_loses_12 rfl ?_
    obtain ⟨t_4, h_5, hf⟩ := sn_bd hf
    refine sn_callSi (rest := []) C hw (ctX9_in l  h_5) kl_RX9_94 rfl rfl rfl (Nat.le_of_ble_eq_true rfl) dX9_loses_13 hl.1 (fun H locs hw => ?_)
    refine lv_if_eq (tgt := 43) hx hb dX9_loses_16 (by decide) (fun c_6 => ?_) (fun c_6 => ?_)
    · have hf := sn_if c_6 hf
      refine lv_bipush (v := (-2)) hx hb dX9_loses_43 (by decide) ?_
      cases hf
      exact kr _ _ _ _ hw rfl dX9_loses_45
    · have hf := sn_el c_6 hf
      refine lv_iload hx hb dX9_loses_19 (lv_at hl 4 rfl) ?_
      refine lv_i2l hx hb dX9_loses_21 rfl ?_
      refine lv_lconst (v := 0) hx hb dX9_loses_22 rfl ?_
      refine lv_lconst (v := 1) hx hb dX9_loses_23 rfl ?_
      obtain ⟨t_7, h_8, hf⟩ := sn_bd hf
      refine sn_callSi (rest := []) C hw (ctX9_in l  h_8) kl_RX9_94 rfl rfl rfl (Nat.le_of_ble_eq_true rfl) dX9_loses_24 hl.1 (fun H locs hw => ?_)
      refine lv_if_eq (tgt := 43) hx hb dX9_loses_27 (by decide) (fun c_9 => ?_) (fun c_9 => ?_)
      · have hf := sn_if c_9 hf
        refine lv_bipush (v := (-2)) hx hb dX9_loses_43 (by decide) ?_
        cases hf
        exact kr _ _ _ _ hw rfl dX9_loses_45
      · have hf := sn_el c_9 hf
        refine lv_aload_n hx hb dX9_loses_30 rfl (lv_at hl 0 rfl) ?_
        refine lv_iload_n hx hb dX9_loses_31 rfl (lv_at hl 1 rfl) ?_
        refine lv_iload_n hx hb dX9_loses_32 rfl (lv_at hl 2 rfl) ?_
        refine lv_iload_n hx hb dX9_loses_33 rfl (lv_at hl 3 rfl) ?_
        refine lv_iload hx hb dX9_loses_34 (lv_at hl 4 rfl) ?_
        refine lv_iconst (v := 0) hx hb dX9_loses_36 rfl ?_
        obtain ⟨t_10, h_11, hf⟩ := sn_bd hf
        refine sn_callVi (rest := []) C hw (ctX9_losesBy l  h_11) kl_RX9_387 layM_0 rfl rfl rfl rfl (Nat.le_of_ble_eq_true rfl) dX9_loses_37 hl.1 (fun H locs hw => ?_)
        refine lv_goto (tgt := 45) hx hb dX9_loses_40 (by decide) ?_
        cases hf
        exact kr _ _ _ _ hw rfl dX9_loses_45
theorem ctX9_loses (l : Launch) {σ : sn_S} {x1 : Int32} {x2 : Int32} {x3 : Int32} {x4 : Int32}  {o : (Int32 × sn_S)} (hf : fX9_loses σ x1 x2 x3 x4 = some o) : sn_M l yX9_loses cX9_loses 5 (some .int) rmX9_loses layM (fun ad => [.ref (ad 0), .int x1, .int x2, .int x3, .int x4]) σ (some (fun _ => .int o.1)) o.2 :=
  sn_met (by decide) (fun _ => Nat.le_of_ble_eq_true rfl) (fun p e s m args below meth c ls D ct ad A C hw hl => wX9_loses_in C  hf (fun H locs ls pc hw ok hd => sn_iret C hw hd) _ _ _ hw hl)
-- X9_allWithout
abbrev rmX9_allWithout : Room := { frames := 4, cells := 0, slots := 0, locals := 95 }
def fX9_allWithout (σ : sn_S) (x1 : Int32) : Option (Int32 × sn_S) :=
  (sn_lt (sn_pI σ 0 19 x1) fun σ_1 => ((fX9_goAll σ_1).bind fun t_3 => ((fX9_allSneezes t_3).bind fun t_5 => (some (t_5, t_3)))))
theorem wX9_allWithout_in (C : sn_C p s m args meth c RX9 cX9_allWithout 2 (some .int) D ct ad layM A) {σ : sn_S} {x1 : Int32}  {o : (Int32 × sn_S)} (hf : fX9_allWithout σ x1 = some o) (kr : sn_Kr p l e rmX9_allWithout s m args below meth c Q D ct ad layM A cX9_allWithout .ireturn (true) o.2 [.int o.1]) : sn_At p l e rmX9_allWithout s m args below meth c Q D ct ad layM A 2 σ 0 [(0, .ref (ad 0)), (1, .int x1)] [] := by
  intro H locs ls hw hl
  have hx := C.1
  have hb := C.2.1
  unfold fX9_allWithout at hf
  refine lv_aload_n hx hb dX9_allWithout_0 rfl (lv_at hl 0 rfl) ?_
  refine lv_iload_n hx hb dX9_allWithout_1 rfl (lv_at hl 1 rfl) ?_
  refine sn_putI C hw fp_RX9_240 layM_0 rfl dX9_allWithout_2 (fun H locs hw => ?_)
  obtain ⟨σ_1, e_2, hf⟩ := sn_ltE hf
  rw [← e_2] at hw
  refine lv_aload_n hx hb dX9_allWithout_5 rfl (lv_at hl 0 rfl) ?_
  obtain ⟨t_3, h_4, hf⟩ := sn_bd hf
  refine sn_callVv (rest := []) C hw (ctX9_goAll l  h_4) kl_RX9_266 layM_0 rfl rfl rfl rfl (Nat.le_of_ble_eq_true rfl) dX9_allWithout_6 hl.1 (fun H locs hw => ?_)
  refine lv_aload_n hx hb dX9_allWithout_9 rfl (lv_at hl 0 rfl) ?_
  obtain ⟨t_5, h_6, hf⟩ := sn_bd hf
  refine sn_callVi (rest := []) C hw (ctX9_allSneezes l  h_6) kl_RX9_290 layM_0 rfl rfl rfl rfl (Nat.le_of_ble_eq_true rfl) dX9_allWithout_10 hl.1 (fun H locs hw => ?_)
  cases hf
  exact kr _ _ _ _ hw rfl dX9_allWithout_13
theorem ctX9_allWithout (l : Launch) {σ : sn_S} {x1 : Int32}  {o : (Int32 × sn_S)} (hf : fX9_allWithout σ x1 = some o) : sn_M l yX9_allWithout cX9_allWithout 2 (some .int) rmX9_allWithout layM (fun ad => [.ref (ad 0), .int x1]) σ (some (fun _ => .int o.1)) o.2 :=
  sn_met (by decide) (fun _ => Nat.le_of_ble_eq_true rfl) (fun p e s m args below meth c ls D ct ad A C hw hl => wX9_allWithout_in C  hf (fun H locs ls pc hw ok hd => sn_iret C hw hd) _ _ _ hw hl)
-- X9_cut
abbrev rmX9_cut : Room := { frames := 5, cells := 0, slots := 0, locals := 116 }
def fX9_cut (σ : sn_S) (x1 : Int32) : Option (Int32 × sn_S) :=
  ((fX9_asItIs σ).bind fun t_1 => (sn_gd (sn_in (7 : Int32) 119) ((fX9_in x1.toInt64 (0 : Int64) (((sn_I t_1 1 (7 : Int32).toNatClampNeg) - (1 : Int32)).toInt64)).bind fun t_4 => (if t_4 = 0 then
  (some ((-2 : Int32), t_1))
  else
  ((fX9_allWithout t_1 x1).bind fun t_7 => (some (t_7.1, t_7.2)))))))
theorem wX9_cut_in (C : sn_C p s m args meth c RX9 cX9_cut 2 (some .int) D ct ad layM A) {σ : sn_S} {x1 : Int32}  {o : (Int32 × sn_S)} (hf : fX9_cut σ x1 = some o) (kr : sn_Kr p l e rmX9_cut s m args below meth c Q D ct ad layM A cX9_cut .ireturn (true) o.2 [.int o.1]) : sn_At p l e rmX9_cut s m args below meth c Q D ct ad layM A 2 σ 0 [(0, .ref (ad 0)), (1, .int x1)] [] := by
  intro H locs ls hw hl
  have hx := C.1
  have hb := C.2.1
  unfold fX9_cut at hf
  refine lv_aload_n hx hb dX9_cut_0 rfl (lv_at hl 0 rfl) ?_
  obtain ⟨t_1, h_2, hf⟩ := sn_bd hf
  refine sn_callVv (rest := []) C hw (ctX9_asItIs l  h_2) kl_RX9_263 layM_0 rfl rfl rfl rfl (Nat.le_of_ble_eq_true rfl) dX9_cut_1 hl.1 (fun H locs hw => ?_)
  refine lv_iload_n hx hb dX9_cut_4 rfl (lv_at hl 1 rfl) ?_
  refine lv_i2l hx hb dX9_cut_5 rfl ?_
  refine lv_lconst (v := 0) hx hb dX9_cut_6 rfl ?_
  refine lv_aload_n hx hb dX9_cut_7 rfl (lv_at hl 0 rfl) ?_
  refine sn_getC (r := 1) C hw fd_RX9_9 layM_0 rfl dX9_cut_8 ?_
  refine lv_bipush (v := 7) hx hb dX9_cut_11 (by decide) ?_
  obtain ⟨g_3, hf⟩ := sn_gdE hf
  refine sn_iald C hw layM_1 g_3 dX9_cut_13 ?_
  refine lv_iconst (v := 1) hx hb dX9_cut_14 rfl ?_
  refine lv_isub hx hb dX9_cut_15 ?_
  refine lv_i2l hx hb dX9_cut_16 rfl ?_
  obtain ⟨t_4, h_5, hf⟩ := sn_bd hf
  refine sn_callSi (rest := []) C hw (ctX9_in l  h_5) kl_RX9_94 rfl rfl rfl (Nat.le_of_ble_eq_true rfl) dX9_cut_17 hl.1 (fun H locs hw => ?_)
  refine lv_if_eq (tgt := 31) hx hb dX9_cut_20 (by decide) (fun c_6 => ?_) (fun c_6 => ?_)
  · have hf := sn_if c_6 hf
    refine lv_bipush (v := (-2)) hx hb dX9_cut_31 (by decide) ?_
    cases hf
    exact kr _ _ _ _ hw rfl dX9_cut_33
  · have hf := sn_el c_6 hf
    refine lv_aload_n hx hb dX9_cut_23 rfl (lv_at hl 0 rfl) ?_
    refine lv_iload_n hx hb dX9_cut_24 rfl (lv_at hl 1 rfl) ?_
    obtain ⟨t_7, h_8, hf⟩ := sn_bd hf
    refine sn_callVi (rest := []) C hw (ctX9_allWithout l  h_8) kl_RX9_391 layM_0 rfl rfl rfl rfl (Nat.le_of_ble_eq_true rfl) dX9_cut_25 hl.1 (fun H locs hw => ?_)
    refine lv_goto (tgt := 33) hx hb dX9_cut_28 (by decide) ?_
    cases hf
    exact kr _ _ _ _ hw rfl dX9_cut_33
theorem ctX9_cut (l : Launch) {σ : sn_S} {x1 : Int32}  {o : (Int32 × sn_S)} (hf : fX9_cut σ x1 = some o) : sn_M l yX9_cut cX9_cut 2 (some .int) rmX9_cut layM (fun ad => [.ref (ad 0), .int x1]) σ (some (fun _ => .int o.1)) o.2 :=
  sn_met (by decide) (fun _ => Nat.le_of_ble_eq_true rfl) (fun p e s m args below meth c ls D ct ad A C hw hl => wX9_cut_in C  hf (fun H locs ls pc hw ok hd => sn_iret C hw hd) _ _ _ hw hl)
-- X9_cuts
abbrev rmX9_cuts : Room := { frames := 5, cells := 0, slots := 0, locals := 116 }
def BX9_cuts_57 (σ : sn_S) (x1 : Int32) : Option ((Int32 × sn_S)) :=
  (some (x1, σ))
def BX9_cuts_51 (σ : sn_S) (x1 : Int32) (x2 : Int32) (x3 : Int32) : Option ((sn_S × Int32 × Int32 × Int32) ⊕ (sn_S × Int32)) :=
  (sn_lt (x3 + 1) fun y_1 => (some (.inl (σ, x1, x2, y_1))))
def BX9_cuts_19 (σ : sn_S) (x1 : Int32) (x2 : Int32) (x3 : Int32) : Option ((sn_S × Int32 × Int32 × Int32) ⊕ (sn_S × Int32)) :=
  (sn_gd (sn_in (7 : Int32) 119) (if (sn_I σ 1 (7 : Int32).toNatClampNeg) ≤ x3 then
  (some (.inr (σ, x1)))
  else
  ((fX9_allWithout σ x3).bind fun t_3 => (if t_3.1 < x2 then
  (BX9_cuts_51 t_3.2 x3 t_3.1 x3)
  else
  (BX9_cuts_51 t_3.2 x1 x2 x3)))))
def LX9_cuts_19  (s : sn_S × Int32 × Int32 × Int32) : Option ((sn_S × Int32 × Int32 × Int32) ⊕ (sn_S × Int32)) := BX9_cuts_19 s.1 s.2.1 s.2.2.1 s.2.2.2
def fX9_cuts (σ : sn_S) : Option (Int32 × sn_S) :=
  ((fX9_asksHouse σ).bind fun t_1 => (if t_1.1 = 0 then
  (some ((-2 : Int32), t_1.2))
  else
  ((fX9_allSneezes t_1.2).bind fun t_4 => ((sn_it (LX9_cuts_19 ) 5000 (t_1.2, (-1 : Int32), t_4, (0 : Int32))).bind fun t_6 => (BX9_cuts_57 t_6.1 t_6.2)))))
theorem wX9_cuts_57 (C : sn_C p s m args meth c RX9 cX9_cuts 5 (some .int) D ct ad layM A) {σ : sn_S} {x1 : Int32}  {o : (Int32 × sn_S)} (hf : BX9_cuts_57 σ x1 = some o) (kr : sn_Kr p l e rmX9_cuts s m args below meth c Q D ct ad layM A cX9_cuts .ireturn (true) o.2 [.int o.1]) : sn_At p l e rmX9_cuts s m args below meth c Q D ct ad layM A 5 σ 57 [(1, .int x1)] [] := by
  intro H locs ls hw hl
  have hx := C.1
  have hb := C.2.1
  unfold BX9_cuts_57 at hf
  refine lv_iload_n hx hb dX9_cuts_57 rfl (lv_at hl 0 rfl) ?_
  cases hf
  exact kr _ _ _ _ hw rfl dX9_cuts_58
theorem wX9_cuts_51 (C : sn_C p s m args meth c RX9 cX9_cuts 5 (some .int) D ct ad layM A) {σ : sn_S} {x1 : Int32} {x2 : Int32} {x3 : Int32}  {o : (sn_S × Int32 × Int32 × Int32) ⊕ (sn_S × Int32)} (hf : BX9_cuts_51 σ x1 x2 x3 = some o) (kc : ∀ v, o = .inl v → sn_At p l e rmX9_cuts s m args below meth c Q D ct ad layM A 5 v.1 19 [(0, .ref (ad 0)), (1, .int v.2.1), (2, .int v.2.2.1), (3, .int v.2.2.2)] []) (kx : ∀ v, o = .inr v → sn_At p l e rmX9_cuts s m args below meth c Q D ct ad layM A 5 v.1 57 [(1, .int v.2)] []) : sn_At p l e rmX9_cuts s m args below meth c Q D ct ad layM A 5 σ 51 [(0, .ref (ad 0)), (1, .int x1), (2, .int x2), (3, .int x3)] [] := by
  intro H locs ls hw hl
  have hx := C.1
  have hb := C.2.1
  unfold BX9_cuts_51 at hf
  obtain ⟨y_1, e_2, hf⟩ := sn_ltE hf
  refine lv_iinc (v := y_1) (lv' := [(3, .int y_1), (0, .ref (ad 0)), (1, .int x1), (2, .int x2)]) hx hb dX9_cuts_51 hl (k := 3) rfl (by rw [e_2]; rfl) (by decide) rfl (fun ls hl => ?_)
  refine lv_goto (tgt := 19) hx hb dX9_cuts_54 (by decide) ?_
  cases hf
  exact kc _ rfl _ _ _ hw (lv_sub hl [1, 2, 3, 0] rfl)
theorem wX9_cuts_19 (C : sn_C p s m args meth c RX9 cX9_cuts 5 (some .int) D ct ad layM A) {σ : sn_S} {x1 : Int32} {x2 : Int32} {x3 : Int32}  {o : (sn_S × Int32 × Int32 × Int32) ⊕ (sn_S × Int32)} (hf : BX9_cuts_19 σ x1 x2 x3 = some o) (kc : ∀ v, o = .inl v → sn_At p l e rmX9_cuts s m args below meth c Q D ct ad layM A 5 v.1 19 [(0, .ref (ad 0)), (1, .int v.2.1), (2, .int v.2.2.1), (3, .int v.2.2.2)] []) (kx : ∀ v, o = .inr v → sn_At p l e rmX9_cuts s m args below meth c Q D ct ad layM A 5 v.1 57 [(1, .int v.2)] []) : sn_At p l e rmX9_cuts s m args below meth c Q D ct ad layM A 5 σ 19 [(0, .ref (ad 0)), (1, .int x1), (2, .int x2), (3, .int x3)] [] := by
  intro H locs ls hw hl
  have hx := C.1
  have hb := C.2.1
  unfold BX9_cuts_19 at hf
  refine lv_iload_n hx hb dX9_cuts_19 rfl (lv_at hl 3 rfl) ?_
  refine lv_aload_n hx hb dX9_cuts_20 rfl (lv_at hl 0 rfl) ?_
  refine sn_getC (r := 1) C hw fd_RX9_9 layM_0 rfl dX9_cuts_21 ?_
  refine lv_bipush (v := 7) hx hb dX9_cuts_24 (by decide) ?_
  obtain ⟨g_1, hf⟩ := sn_gdE hf
  refine sn_iald C hw layM_1 g_1 dX9_cuts_26 ?_
  refine lv_icmp_ge (tgt := 57) hx hb dX9_cuts_27 (by decide) (fun c_2 => ?_) (fun c_2 => ?_)
  · have hf := sn_if c_2 hf
    cases hf
    exact kx _ rfl _ _ _ hw (lv_sub hl [1] rfl)
  · have hf := sn_el c_2 hf
    refine lv_aload_n hx hb dX9_cuts_30 rfl (lv_at hl 0 rfl) ?_
    refine lv_iload_n hx hb dX9_cuts_31 rfl (lv_at hl 3 rfl) ?_
    obtain ⟨t_3, h_4, hf⟩ := sn_bd hf
    refine sn_callVi (rest := []) C hw (ctX9_allWithout l  h_4) kl_RX9_391 layM_0 rfl rfl rfl rfl (Nat.le_of_ble_eq_true rfl) dX9_cuts_32 hl.1 (fun H locs hw => ?_)
    refine lv_istore (lv' := [(4, .int t_3.1), (0, .ref (ad 0)), (1, .int x1), (2, .int x2), (3, .int x3)]) hx hb dX9_cuts_35 hl (by decide) rfl (fun ls hl => ?_)
    refine lv_iload hx hb dX9_cuts_37 (lv_at hl 0 rfl) ?_
    refine lv_iload_n hx hb dX9_cuts_39 rfl (lv_at hl 3 rfl) ?_
    refine lv_icmp_lt (tgt := 46) hx hb dX9_cuts_40 (by decide) (fun c_5 => ?_) (fun c_5 => ?_)
    · have hf := sn_if c_5 hf
      refine lv_iload hx hb dX9_cuts_46 (lv_at hl 0 rfl) ?_
      refine lv_istore_n (lv' := [(2, .int t_3.1), (4, .int t_3.1), (0, .ref (ad 0)), (1, .int x1), (3, .int x3)]) hx hb dX9_cuts_48 rfl hl (by decide) rfl (fun ls hl => ?_)
      refine lv_iload_n hx hb dX9_cuts_49 rfl (lv_at hl 4 rfl) ?_
      refine lv_istore_n (lv' := [(1, .int x3), (2, .int t_3.1), (4, .int t_3.1), (0, .ref (ad 0)), (3, .int x3)]) hx hb dX9_cuts_50 rfl hl (by decide) rfl (fun ls hl => ?_)
      exact wX9_cuts_51 C  hf kc kx _ _ _ hw (lv_sub hl [3, 0, 1, 4] rfl)
    · have hf := sn_el c_5 hf
      refine lv_goto (tgt := 51) hx hb dX9_cuts_43 (by decide) ?_
      exact wX9_cuts_51 C  hf kc kx _ _ _ hw (lv_sub hl [1, 2, 3, 4] rfl)
theorem wX9_cuts_L19 (C : sn_C p s m args meth c RX9 cX9_cuts 5 (some .int) D ct ad layM A)    {z : sn_S × Int32 × Int32 × Int32} {t : sn_S × Int32} (h : sn_it (LX9_cuts_19 ) 5000 z = some t) (kx : ∀ v, t = v → sn_At p l e rmX9_cuts s m args below meth c Q D ct ad layM A 5 v.1 57 [(1, .int v.2)] []) : sn_At p l e rmX9_cuts s m args below meth c Q D ct ad layM A 5 z.1 19 [(0, .ref (ad 0)), (1, .int z.2.1), (2, .int z.2.2.1), (3, .int z.2.2.2)] [] :=
  sn_loop (f := LX9_cuts_19 ) (G := fun z => sn_At p l e rmX9_cuts s m args below meth c Q D ct ad layM A 5 z.1 19 [(0, .ref (ad 0)), (1, .int z.2.1), (2, .int z.2.2.1), (3, .int z.2.2.2)] []) (E := fun t => (∀ v, t = v → sn_At p l e rmX9_cuts s m args below meth c Q D ct ad layM A 5 v.1 57 [(1, .int v.2)] []) ∧ True) (fun z o hf k1 k2 => wX9_cuts_19 C  hf (fun v e => k1 v e) (fun v e => (k2 _ e).1 v rfl)) 5000 z t h ⟨kx, trivial⟩
theorem wX9_cuts_in (C : sn_C p s m args meth c RX9 cX9_cuts 5 (some .int) D ct ad layM A) {σ : sn_S}  {o : (Int32 × sn_S)} (hf : fX9_cuts σ = some o) (kr : sn_Kr p l e rmX9_cuts s m args below meth c Q D ct ad layM A cX9_cuts .ireturn (true) o.2 [.int o.1]) : sn_At p l e rmX9_cuts s m args below meth c Q D ct ad layM A 5 σ 0 [(0, .ref (ad 0))] [] := by
  intro H locs ls hw hl
  have hx := C.1
  have hb := C.2.1
  unfold fX9_cuts at hf
  refine lv_aload_n hx hb dX9_cuts_0 rfl (lv_at hl 0 rfl) ?_
  obtain ⟨t_1, h_2, hf⟩ := sn_bd hf
  refine sn_callVi (rest := []) C hw (ctX9_asksHouse l  h_2) kl_RX9_272 layM_0 rfl rfl rfl rfl (Nat.le_of_ble_eq_true rfl) dX9_cuts_1 hl.1 (fun H locs hw => ?_)
  refine lv_if_ne (tgt := 10) hx hb dX9_cuts_4 (by decide) (fun c_3 => ?_) (fun c_3 => ?_)
  · have hf := sn_el c_3 hf
    refine lv_iconst (v := (-1)) hx hb dX9_cuts_10 rfl ?_
    refine lv_istore_n (lv' := [(1, .int (-1 : Int32)), (0, .ref (ad 0))]) hx hb dX9_cuts_11 rfl hl (by decide) rfl (fun ls hl => ?_)
    refine lv_aload_n hx hb dX9_cuts_12 rfl (lv_at hl 1 rfl) ?_
    obtain ⟨t_4, h_5, hf⟩ := sn_bd hf
    refine sn_callVi (rest := []) C hw (ctX9_allSneezes l  h_5) kl_RX9_290 layM_0 rfl rfl rfl rfl (Nat.le_of_ble_eq_true rfl) dX9_cuts_13 hl.1 (fun H locs hw => ?_)
    refine lv_istore_n (lv' := [(2, .int t_4), (1, .int (-1 : Int32)), (0, .ref (ad 0))]) hx hb dX9_cuts_16 rfl hl (by decide) rfl (fun ls hl => ?_)
    refine lv_iconst (v := 0) hx hb dX9_cuts_17 rfl ?_
    refine lv_istore_n (lv' := [(3, .int (0 : Int32)), (2, .int t_4), (1, .int (-1 : Int32)), (0, .ref (ad 0))]) hx hb dX9_cuts_18 rfl hl (by decide) rfl (fun ls hl => ?_)
    obtain ⟨t_6, h_7, hf⟩ := sn_bd hf
    exact wX9_cuts_L19 C  h_7 (fun v e => by cases e; exact wX9_cuts_57 C  hf kr) _ _ _ hw (lv_sub hl [3, 2, 1, 0] rfl)
  · have hf := sn_if c_3 hf
    refine lv_bipush (v := (-2)) hx hb dX9_cuts_7 (by decide) ?_
    cases hf
    exact kr _ _ _ _ hw rfl dX9_cuts_9
theorem ctX9_cuts (l : Launch) {σ : sn_S}  {o : (Int32 × sn_S)} (hf : fX9_cuts σ = some o) : sn_M l yX9_cuts cX9_cuts 5 (some .int) rmX9_cuts layM (fun ad => [.ref (ad 0)]) σ (some (fun _ => .int o.1)) o.2 :=
  sn_met (by decide) (fun _ => Nat.le_of_ble_eq_true rfl) (fun p e s m args below meth c ls D ct ad A C hw hl => wX9_cuts_in C  hf (fun H locs ls pc hw ok hd => sn_iret C hw hd) _ _ _ hw hl)
-- X9_divisor
abbrev rmX9_divisor : Room := { frames := 0, cells := 0, slots := 0, locals := 0 }
def BX9_divisor_31 (x4 : Int64) : Option (Int64) :=
  (some x4)
def BX9_divisor_6 (x4 : Int64) (x6 : Int64) : Option ((Int64 × Int64) ⊕ (Int64)) :=
  (if (lg_cmp x6 (0 : Int64)) = 0 then
  (some (.inr (x4)))
  else
  (sn_gd (x6 != 0) (sn_lt (x4 - x4 / x6 * x6) fun y_3 => (some (.inl (x6, y_3))))))
def LX9_divisor_6  (s : Int64 × Int64) : Option ((Int64 × Int64) ⊕ (Int64)) := BX9_divisor_6 s.1 s.2
def fX9_divisor (x0 : Int64) (x2 : Int64) : Option Int64 :=
  ((sn_it (LX9_divisor_6 ) 5000 (x0, x2)).bind fun t_1 => (BX9_divisor_31 t_1))
theorem wX9_divisor_31 (C : sn_C p s m args meth c RX9 cX9_divisor 10 (some .long) D ct ad layM A) {σ : sn_S} {x4 : Int64}  {o : Int64} (hf : BX9_divisor_31 x4 = some o) (kr : sn_Kr p l e rmX9_divisor s m args below meth c Q D ct ad layM A cX9_divisor .lreturn (true) σ [.long o]) : sn_At p l e rmX9_divisor s m args below meth c Q D ct ad layM A 10 σ 31 [(4, .long x4)] [] := by
  intro H locs ls hw hl
  have hx := C.1
  have hb := C.2.1
  unfold BX9_divisor_31 at hf
  refine lv_lload hx hb dX9_divisor_31 (lv_at hl 0 rfl) ?_
  cases hf
  exact kr _ _ _ _ hw rfl dX9_divisor_33
theorem wX9_divisor_6 (C : sn_C p s m args meth c RX9 cX9_divisor 10 (some .long) D ct ad layM A) {σ : sn_S} {x4 : Int64} {x6 : Int64}  {o : (Int64 × Int64) ⊕ (Int64)} (hf : BX9_divisor_6 x4 x6 = some o) (kc : ∀ v, o = .inl v → sn_At p l e rmX9_divisor s m args below meth c Q D ct ad layM A 10 σ 6 [(4, .long v.1), (6, .long v.2)] []) (kx : ∀ v, o = .inr v → sn_At p l e rmX9_divisor s m args below meth c Q D ct ad layM A 10 σ 31 [(4, .long v)] []) : sn_At p l e rmX9_divisor s m args below meth c Q D ct ad layM A 10 σ 6 [(4, .long x4), (6, .long x6)] [] := by
  intro H locs ls hw hl
  have hx := C.1
  have hb := C.2.1
  unfold BX9_divisor_6 at hf
  refine lv_lload hx hb dX9_divisor_6 (lv_at hl 1 rfl) ?_
  refine lv_lconst (v := 0) hx hb dX9_divisor_8 rfl ?_
  refine W.lcmp hx hb dX9_divisor_9 ?_
  refine lv_if_eq (tgt := 31) hx hb dX9_divisor_10 (by decide) (fun c_1 => ?_) (fun c_1 => ?_)
  · have hf := sn_if c_1 hf
    cases hf
    exact kx _ rfl _ _ _ hw (lv_sub hl [0] rfl)
  · have hf := sn_el c_1 hf
    refine lv_lload hx hb dX9_divisor_13 (lv_at hl 0 rfl) ?_
    refine lv_lload hx hb dX9_divisor_15 (lv_at hl 1 rfl) ?_
    obtain ⟨g_2, hf⟩ := sn_gdE hf
    refine lv_lrem hx hb dX9_divisor_17 (sn_nzL g_2) ?_
    obtain ⟨y_3, e_4, hf⟩ := sn_ltE hf
    refine lv_topl (fun y_3_ e_4_ => ?_)
    obtain rfl : y_3 = y_3_ := e_4.trans e_4_.symm
    refine lv_lstore (lv' := [(8, .long y_3), (4, .long x4), (6, .long x6)]) hx hb dX9_divisor_18 hl (by decide) rfl (fun ls hl => ?_)
    refine lv_lload hx hb dX9_divisor_20 (lv_at hl 2 rfl) ?_
    refine lv_lstore (lv' := [(4, .long x6), (8, .long y_3), (6, .long x6)]) hx hb dX9_divisor_22 hl (by decide) rfl (fun ls hl => ?_)
    refine lv_lload hx hb dX9_divisor_24 (lv_at hl 1 rfl) ?_
    refine lv_lstore (lv' := [(6, .long y_3), (4, .long x6), (8, .long y_3)]) hx hb dX9_divisor_26 hl (by decide) rfl (fun ls hl => ?_)
    refine lv_goto (tgt := 6) hx hb dX9_divisor_28 (by decide) ?_
    cases hf
    exact kc _ rfl _ _ _ hw (lv_sub hl [1, 0] rfl)
theorem wX9_divisor_L6 (C : sn_C p s m args meth c RX9 cX9_divisor 10 (some .long) D ct ad layM A) {σ : sn_S}    {z : Int64 × Int64} {t : Int64} (h : sn_it (LX9_divisor_6 ) 5000 z = some t) (kx : ∀ v, t = v → sn_At p l e rmX9_divisor s m args below meth c Q D ct ad layM A 10 σ 31 [(4, .long v)] []) : sn_At p l e rmX9_divisor s m args below meth c Q D ct ad layM A 10 σ 6 [(4, .long z.1), (6, .long z.2)] [] :=
  sn_loop (f := LX9_divisor_6 ) (G := fun z => sn_At p l e rmX9_divisor s m args below meth c Q D ct ad layM A 10 σ 6 [(4, .long z.1), (6, .long z.2)] []) (E := fun t => (∀ v, t = v → sn_At p l e rmX9_divisor s m args below meth c Q D ct ad layM A 10 σ 31 [(4, .long v)] []) ∧ True) (fun z o hf k1 k2 => wX9_divisor_6 C  hf (fun v e => k1 v e) (fun v e => (k2 _ e).1 v rfl)) 5000 z t h ⟨kx, trivial⟩
theorem wX9_divisor_in (C : sn_C p s m args meth c RX9 cX9_divisor 10 (some .long) D ct ad layM A) {σ : sn_S} {x0 : Int64} {x2 : Int64}  {o : Int64} (hf : fX9_divisor x0 x2 = some o) (kr : sn_Kr p l e rmX9_divisor s m args below meth c Q D ct ad layM A cX9_divisor .lreturn (true) σ [.long o]) : sn_At p l e rmX9_divisor s m args below meth c Q D ct ad layM A 10 σ 0 [(0, .long x0), (2, .long x2)] [] := by
  intro H locs ls hw hl
  have hx := C.1
  have hb := C.2.1
  unfold fX9_divisor at hf
  refine lv_lload_n hx hb dX9_divisor_0 rfl (lv_at hl 0 rfl) ?_
  refine lv_lstore (lv' := [(4, .long x0), (0, .long x0), (2, .long x2)]) hx hb dX9_divisor_1 hl (by decide) rfl (fun ls hl => ?_)
  refine lv_lload_n hx hb dX9_divisor_3 rfl (lv_at hl 2 rfl) ?_
  refine lv_lstore (lv' := [(6, .long x2), (4, .long x0), (0, .long x0), (2, .long x2)]) hx hb dX9_divisor_4 hl (by decide) rfl (fun ls hl => ?_)
  obtain ⟨t_1, h_2, hf⟩ := sn_bd hf
  exact wX9_divisor_L6 C  h_2 (fun v e => by cases e; exact wX9_divisor_31 C  hf kr) _ _ _ hw (lv_sub hl [1, 0] rfl)
theorem ctX9_divisor (l : Launch) {σ : sn_S} {x0 : Int64} {x2 : Int64}  {o : Int64} (hf : fX9_divisor x0 x2 = some o) : sn_M l yX9_divisor cX9_divisor 10 (some .long) rmX9_divisor layM (fun ad => [.long x0, .long x2]) σ (some (fun _ => .long o)) σ :=
  sn_met (by decide) (fun _ => Nat.le_of_ble_eq_true rfl) (fun p e s m args below meth c ls D ct ad A C hw hl => wX9_divisor_in C  hf (fun H locs ls pc hw ok hd => sn_lret C hw hd) _ _ _ hw hl)
-- X9_part
abbrev rmX9_part : Room := { frames := 1, cells := 0, slots := 0, locals := 29 }
def BX9_part_10 (x0 : Int64) (x2 : Int64) (t0 : Int64) : Option (Int64) :=
  ((fX9_divisor x0 x2).bind fun t_1 => (sn_gd (t_1 != 0) (some (t0 / t_1))))
def fX9_part (x0 : Int64) (x2 : Int64) (x4 : Int32) : Option Int64 :=
  (if x4 = 0 then
  (BX9_part_10 x0 x2 x0)
  else
  (BX9_part_10 x0 x2 x2))
theorem wX9_part_10 (C : sn_C p s m args meth c RX9 cX9_part 5 (some .long) D ct ad layM A) {σ : sn_S} {x0 : Int64} {x2 : Int64} {t0 : Int64}  {o : Int64} (hf : BX9_part_10 x0 x2 t0 = some o) (kr : sn_Kr p l e rmX9_part s m args below meth c Q D ct ad layM A cX9_part .lreturn (true) σ [.long o]) : sn_At p l e rmX9_part s m args below meth c Q D ct ad layM A 5 σ 10 [(0, .long x0), (2, .long x2)] [.long t0] := by
  intro H locs ls hw hl
  have hx := C.1
  have hb := C.2.1
  unfold BX9_part_10 at hf
  refine lv_lload_n hx hb dX9_part_10 rfl (lv_at hl 0 rfl) ?_
  refine lv_lload_n hx hb dX9_part_11 rfl (lv_at hl 1 rfl) ?_
  obtain ⟨t_1, h_2, hf⟩ := sn_bd hf
  refine sn_callSl (rest := [.long t0]) C hw (ctX9_divisor l  h_2) kl_RX9_394 rfl rfl rfl (Nat.le_of_ble_eq_true rfl) dX9_part_12 hl.1 (fun H locs hw => ?_)
  obtain ⟨g_3, hf⟩ := sn_gdE hf
  refine lv_ldiv hx hb dX9_part_15 (sn_nzL g_3) ?_
  cases hf
  exact kr _ _ _ _ hw rfl dX9_part_16
theorem wX9_part_in (C : sn_C p s m args meth c RX9 cX9_part 5 (some .long) D ct ad layM A) {σ : sn_S} {x0 : Int64} {x2 : Int64} {x4 : Int32}  {o : Int64} (hf : fX9_part x0 x2 x4 = some o) (kr : sn_Kr p l e rmX9_part s m args below meth c Q D ct ad layM A cX9_part .lreturn (true) σ [.long o]) : sn_At p l e rmX9_part s m args below meth c Q D ct ad layM A 5 σ 0 [(0, .long x0), (2, .long x2), (4, .int x4)] [] := by
  intro H locs ls hw hl
  have hx := C.1
  have hb := C.2.1
  unfold fX9_part at hf
  refine lv_iload hx hb dX9_part_0 (lv_at hl 2 rfl) ?_
  refine lv_if_ne (tgt := 9) hx hb dX9_part_2 (by decide) (fun c_1 => ?_) (fun c_1 => ?_)
  · have hf := sn_el c_1 hf
    refine lv_lload_n hx hb dX9_part_9 rfl (lv_at hl 1 rfl) ?_
    exact wX9_part_10 C  hf kr _ _ _ hw (lv_sub hl [0, 1] rfl)
  · have hf := sn_if c_1 hf
    refine lv_lload_n hx hb dX9_part_5 rfl (lv_at hl 0 rfl) ?_
    refine lv_goto (tgt := 10) hx hb dX9_part_6 (by decide) ?_
    exact wX9_part_10 C  hf kr _ _ _ hw (lv_sub hl [0, 1] rfl)
theorem ctX9_part (l : Launch) {σ : sn_S} {x0 : Int64} {x2 : Int64} {x4 : Int32}  {o : Int64} (hf : fX9_part x0 x2 x4 = some o) : sn_M l yX9_part cX9_part 5 (some .long) rmX9_part layM (fun ad => [.long x0, .long x2, .int x4]) σ (some (fun _ => .long o)) σ :=
  sn_met (by decide) (fun _ => Nat.le_of_ble_eq_true rfl) (fun p e s m args below meth c ls D ct ad A C hw hl => wX9_part_in C  hf (fun H locs ls pc hw ok hd => sn_lret C hw hd) _ _ _ hw hl)
-- X9_layPuffs
abbrev rmX9_layPuffs : Room := { frames := 5, cells := 0, slots := 0, locals := 117 }
def BX9_layPuffs_223 (σ : sn_S) : Option (sn_S) :=
  (some σ)
def BX9_layPuffs_217 (σ : sn_S) (x1 : Int32) (x2 : Int32) (x3 : Int32) (x4 : Int32) : Option ((sn_S × Int32) ⊕ (sn_S)) :=
  (sn_lt (x4 + 1) fun y_1 => (some (.inl (σ, y_1))))
def BX9_layPuffs_213 (σ : sn_S) (x1 : Int32) (x2 : Int32) (x3 : Int32) (x4 : Int32) (t1 : Int64) (t2 : Int64) : Option ((sn_S × Int32) ⊕ (sn_S)) :=
  (sn_lt (sn_pL σ 0 41 (t1 + t2)) fun σ_1 => (BX9_layPuffs_217 σ_1 x1 x2 x3 x4))
def BX9_layPuffs_190 (σ : sn_S) (x1 : Int32) (x2 : Int32) (x3 : Int32) (x4 : Int32) (x5 : Int64) (t1 : Int64) (t2 : Int64) : Option ((sn_S × Int32) ⊕ (sn_S)) :=
  (sn_lt (sn_pL σ 0 40 (t1 + t2)) fun σ_1 => ((fX9_ruinOf σ_1).bind fun t_3 => (if t_3.1 = (-1 : Int32) then
  (BX9_layPuffs_213 t_3.2 x1 x2 x3 x4 (sn_L σ_1 0 41) (0 : Int64))
  else
  (BX9_layPuffs_213 t_3.2 x1 x2 x3 x4 (sn_L σ_1 0 41) x5))))
def BX9_layPuffs_158 (σ : sn_S) (x1 : Int32) (x2 : Int32) (x3 : Int32) (x4 : Int32) (x5 : Int64) (t1 : Int64) (t2 : Int64) : Option ((sn_S × Int32) ⊕ (sn_S)) :=
  (sn_lt (sn_pL σ 0 39 (t1 + t2)) fun σ_1 => (sn_gd (sn_in (8 : Int32) 119) (if (sn_I σ_1 1 (8 : Int32).toNatClampNeg) ≤ 0 then
  (BX9_layPuffs_190 σ_1 x1 x2 x3 x4 x5 (sn_L σ_1 0 40) (0 : Int64))
  else
  ((fX9_claimOf_ σ_1 x3).bind fun t_5 => (BX9_layPuffs_190 t_5.2 x1 x2 x3 x4 x5 (sn_L σ_1 0 40) (x5 * t_5.1.toInt64))))))
def BX9_layPuffs_113 (σ : sn_S) (x1 : Int32) (x2 : Int32) (x3 : Int32) (x4 : Int32) (x5 : Int64) : Option ((sn_S × Int32) ⊕ (sn_S)) :=
  (if (lg_cmp x5 (0 : Int64)) = 0 then
  (BX9_layPuffs_217 σ x1 x2 x3 x4)
  else
  ((fX9_goAll σ).bind fun t_2 => (sn_lt (sn_pL t_2 0 38 ((sn_L t_2 0 38) + x5)) fun σ_4 => (sn_gd (sn_in x2 6) (if (sn_I σ_4 10 x2.toNatClampNeg) = 0 then
  (BX9_layPuffs_158 σ_4 x1 x2 x3 x4 x5 (sn_L σ_4 0 39) (0 : Int64))
  else
  (BX9_layPuffs_158 σ_4 x1 x2 x3 x4 x5 (sn_L σ_4 0 39) x5))))))
def BX9_layPuffs_104 (σ : sn_S) (x1 : Int32) (x2 : Int32) (x3 : Int32) (x4 : Int32) (x5 : Int64) (x7 : Int32) (t0 : Int64) (t1 : Int64) : Option ((sn_S × Int64 × Int32) ⊕ (sn_S × Int64)) :=
  (sn_lt (t0 * t1) fun y_1 => (sn_lt (x7 + 1) fun y_3 => (some (.inl (σ, y_1, y_3)))))
def BX9_layPuffs_46 (σ : sn_S) (x1 : Int32) (x2 : Int32) (x3 : Int32) (x4 : Int32) (x5 : Int64) (x7 : Int32) : Option ((sn_S × Int64 × Int32) ⊕ (sn_S × Int64)) :=
  (if x1 < x7 then
  (some (.inr (σ, x5)))
  else
  (sn_gd (sn_in x7 30) ((fX9_bit x4 x7).bind fun t_3 => (sn_gd (sn_in x7 30) (sn_lt (sn_pI σ 7 x7.toNatClampNeg ((sn_I σ 7 x7.toNatClampNeg) + ((3 : Int32) * t_3))) fun σ_6 => ((fX9_bit x4 x7).bind fun t_8 => (if t_8 = (1 : Int32) then
  (sn_gd (sn_in (4 : Int32) 119) (BX9_layPuffs_104 σ_6 x1 x2 x3 x4 x5 x7 x5 ((sn_I σ_6 1 (4 : Int32).toNatClampNeg).toInt64)))
  else
  (sn_gd (sn_in (4 : Int32) 119) (BX9_layPuffs_104 σ_6 x1 x2 x3 x4 x5 x7 x5 (((10 : Int32) - (sn_I σ_6 1 (4 : Int32).toNatClampNeg)).toInt64))))))))))
def LX9_layPuffs_46 (x1 : Int32) (x2 : Int32) (x3 : Int32) (x4 : Int32) (s : sn_S × Int64 × Int32) : Option ((sn_S × Int64 × Int32) ⊕ (sn_S × Int64)) := BX9_layPuffs_46 s.1 x1 x2 x3 x4 s.2.1 s.2.2
def BX9_layPuffs_23 (σ : sn_S) (x1 : Int32) (x2 : Int32) (x3 : Int32) (x4 : Int32) : Option ((sn_S × Int32) ⊕ (sn_S)) :=
  (if ((2 : Int32) <<< (x1 &&& 31)) ≤ x4 then
  (some (.inr (σ)))
  else
  ((fX9_asItIs σ).bind fun t_2 => (sn_lt (sn_pI t_2 0 22 x1) fun σ_4 => ((sn_it (LX9_layPuffs_46 x1 x2 x3 x4) 5000 (σ_4, (1 : Int64), (0 : Int32))).bind fun t_6 => (BX9_layPuffs_113 t_6.1 x1 x2 x3 x4 t_6.2)))))
def LX9_layPuffs_23 (x1 : Int32) (x2 : Int32) (x3 : Int32) (s : sn_S × Int32) : Option ((sn_S × Int32) ⊕ (sn_S)) := BX9_layPuffs_23 s.1 x1 x2 x3 s.2
def fX9_layPuffs (σ : sn_S) (x1 : Int32) (x2 : Int32) (x3 : Int32) : Option sn_S :=
  (sn_lt (sn_pL σ 0 38 (0 : Int64)) fun σ_1 => (sn_lt (sn_pL σ_1 0 39 (0 : Int64)) fun σ_3 => (sn_lt (sn_pL σ_3 0 40 (0 : Int64)) fun σ_5 => (sn_lt (sn_pL σ_5 0 41 (0 : Int64)) fun σ_7 => ((sn_it (LX9_layPuffs_23 x1 x2 x3) 5000 (σ_7, (0 : Int32))).bind fun t_9 => (BX9_layPuffs_223 t_9))))))
theorem wX9_layPuffs_223 (C : sn_C p s m args meth c RX9 cX9_layPuffs 8 none D ct ad layM A) {σ : sn_S}  {o : sn_S} (hf : BX9_layPuffs_223 σ = some o) (kr : sn_Kr p l e rmX9_layPuffs s m args below meth c Q D ct ad layM A cX9_layPuffs .return_ (true) o []) : sn_At p l e rmX9_layPuffs s m args below meth c Q D ct ad layM A 8 σ 223 [] [] := by
  intro H locs ls hw hl
  have hx := C.1
  have hb := C.2.1
  unfold BX9_layPuffs_223 at hf
  cases hf
  exact kr _ _ _ _ hw rfl dX9_layPuffs_223
theorem wX9_layPuffs_217 (C : sn_C p s m args meth c RX9 cX9_layPuffs 8 none D ct ad layM A) {σ : sn_S} {x1 : Int32} {x2 : Int32} {x3 : Int32} {x4 : Int32}  {o : (sn_S × Int32) ⊕ (sn_S)} (hf : BX9_layPuffs_217 σ x1 x2 x3 x4 = some o) (kc : ∀ v, o = .inl v → sn_At p l e rmX9_layPuffs s m args below meth c Q D ct ad layM A 8 v.1 23 [(0, .ref (ad 0)), (1, .int x1), (2, .int x2), (3, .int x3), (4, .int v.2)] []) (kx : ∀ v, o = .inr v → sn_At p l e rmX9_layPuffs s m args below meth c Q D ct ad layM A 8 v 223 [] []) : sn_At p l e rmX9_layPuffs s m args below meth c Q D ct ad layM A 8 σ 217 [(0, .ref (ad 0)), (1, .int x1), (2, .int x2), (3, .int x3), (4, .int x4)] [] := by
  intro H locs ls hw hl
  have hx := C.1
  have hb := C.2.1
  unfold BX9_layPuffs_217 at hf
  obtain ⟨y_1, e_2, hf⟩ := sn_ltE hf
  refine lv_iinc (v := y_1) (lv' := [(4, .int y_1), (0, .ref (ad 0)), (1, .int x1), (2, .int x2), (3, .int x3)]) hx hb dX9_layPuffs_217 hl (k := 4) rfl (by rw [e_2]; rfl) (by decide) rfl (fun ls hl => ?_)
  refine lv_goto (tgt := 23) hx hb dX9_layPuffs_220 (by decide) ?_
  cases hf
  exact kc _ rfl _ _ _ hw (lv_sub hl [1, 2, 3, 4, 0] rfl)
theorem wX9_layPuffs_213 (C : sn_C p s m args meth c RX9 cX9_layPuffs 8 none D ct ad layM A) {σ : sn_S} {x1 : Int32} {x2 : Int32} {x3 : Int32} {x4 : Int32} {t1 : Int64} {t2 : Int64}  {o : (sn_S × Int32) ⊕ (sn_S)} (hf : BX9_layPuffs_213 σ x1 x2 x3 x4 t1 t2 = some o) (kc : ∀ v, o = .inl v → sn_At p l e rmX9_layPuffs s m args below meth c Q D ct ad layM A 8 v.1 23 [(0, .ref (ad 0)), (1, .int x1), (2, .int x2), (3, .int x3), (4, .int v.2)] []) (kx : ∀ v, o = .inr v → sn_At p l e rmX9_layPuffs s m args below meth c Q D ct ad layM A 8 v 223 [] []) : sn_At p l e rmX9_layPuffs s m args below meth c Q D ct ad layM A 8 σ 213 [(0, .ref (ad 0)), (1, .int x1), (2, .int x2), (3, .int x3), (4, .int x4)] [.long t2, .long t1, .ref (ad 0)] := by
  intro H locs ls hw hl
  have hx := C.1
  have hb := C.2.1
  unfold BX9_layPuffs_213 at hf
  refine lv_ladd hx hb dX9_layPuffs_213 ?_
  refine sn_putL C hw fp_RX9_408 layM_0 rfl dX9_layPuffs_214 (fun H locs hw => ?_)
  obtain ⟨σ_1, e_2, hf⟩ := sn_ltE hf
  rw [← e_2] at hw
  exact wX9_layPuffs_217 C  hf kc kx _ _ _ hw (lv_sub hl [0, 1, 2, 3, 4] rfl)
theorem wX9_layPuffs_190 (C : sn_C p s m args meth c RX9 cX9_layPuffs 8 none D ct ad layM A) {σ : sn_S} {x1 : Int32} {x2 : Int32} {x3 : Int32} {x4 : Int32} {x5 : Int64} {t1 : Int64} {t2 : Int64}  {o : (sn_S × Int32) ⊕ (sn_S)} (hf : BX9_layPuffs_190 σ x1 x2 x3 x4 x5 t1 t2 = some o) (kc : ∀ v, o = .inl v → sn_At p l e rmX9_layPuffs s m args below meth c Q D ct ad layM A 8 v.1 23 [(0, .ref (ad 0)), (1, .int x1), (2, .int x2), (3, .int x3), (4, .int v.2)] []) (kx : ∀ v, o = .inr v → sn_At p l e rmX9_layPuffs s m args below meth c Q D ct ad layM A 8 v 223 [] []) : sn_At p l e rmX9_layPuffs s m args below meth c Q D ct ad layM A 8 σ 190 [(0, .ref (ad 0)), (1, .int x1), (2, .int x2), (3, .int x3), (4, .int x4), (5, .long x5)] [.long t2, .long t1, .ref (ad 0)] := by
  intro H locs ls hw hl
  have hx := C.1
  have hb := C.2.1
  unfold BX9_layPuffs_190 at hf
  refine lv_ladd hx hb dX9_layPuffs_190 ?_
  refine sn_putL C hw fp_RX9_405 layM_0 rfl dX9_layPuffs_191 (fun H locs hw => ?_)
  obtain ⟨σ_1, e_2, hf⟩ := sn_ltE hf
  rw [← e_2] at hw
  refine lv_aload_n hx hb dX9_layPuffs_194 rfl (lv_at hl 0 rfl) ?_
  refine lv_dup hx hb dX9_layPuffs_195 rfl ?_
  refine sn_getL C hw fd_RX9_408 layM_0 rfl dX9_layPuffs_196 ?_
  refine lv_aload_n hx hb dX9_layPuffs_199 rfl (lv_at hl 0 rfl) ?_
  obtain ⟨t_3, h_4, hf⟩ := sn_bd hf
  refine sn_callVi (rest := [.long (sn_L σ_1 0 41), .ref (ad 0)]) C hw (ctX9_ruinOf l  h_4) kl_RX9_329 layM_0 rfl rfl rfl rfl (Nat.le_of_ble_eq_true rfl) dX9_layPuffs_200 hl.1 (fun H locs hw => ?_)
  refine lv_iconst (v := (-1)) hx hb dX9_layPuffs_203 rfl ?_
  refine lv_icmp_eq (tgt := 212) hx hb dX9_layPuffs_204 (by decide) (fun c_5 => ?_) (fun c_5 => ?_)
  · have hf := sn_if c_5 hf
    refine lv_lconst (v := 0) hx hb dX9_layPuffs_212 rfl ?_
    exact wX9_layPuffs_213 C  hf kc kx _ _ _ hw (lv_sub hl [0, 1, 2, 3, 4] rfl)
  · have hf := sn_el c_5 hf
    refine lv_lload hx hb dX9_layPuffs_207 (lv_at hl 5 rfl) ?_
    refine lv_goto (tgt := 213) hx hb dX9_layPuffs_209 (by decide) ?_
    exact wX9_layPuffs_213 C  hf kc kx _ _ _ hw (lv_sub hl [0, 1, 2, 3, 4] rfl)
theorem wX9_layPuffs_158 (C : sn_C p s m args meth c RX9 cX9_layPuffs 8 none D ct ad layM A) {σ : sn_S} {x1 : Int32} {x2 : Int32} {x3 : Int32} {x4 : Int32} {x5 : Int64} {t1 : Int64} {t2 : Int64}  {o : (sn_S × Int32) ⊕ (sn_S)} (hf : BX9_layPuffs_158 σ x1 x2 x3 x4 x5 t1 t2 = some o) (kc : ∀ v, o = .inl v → sn_At p l e rmX9_layPuffs s m args below meth c Q D ct ad layM A 8 v.1 23 [(0, .ref (ad 0)), (1, .int x1), (2, .int x2), (3, .int x3), (4, .int v.2)] []) (kx : ∀ v, o = .inr v → sn_At p l e rmX9_layPuffs s m args below meth c Q D ct ad layM A 8 v 223 [] []) : sn_At p l e rmX9_layPuffs s m args below meth c Q D ct ad layM A 8 σ 158 [(0, .ref (ad 0)), (1, .int x1), (2, .int x2), (3, .int x3), (4, .int x4), (5, .long x5)] [.long t2, .long t1, .ref (ad 0)] := by
  intro H locs ls hw hl
  have hx := C.1
  have hb := C.2.1
  unfold BX9_layPuffs_158 at hf
  refine lv_ladd hx hb dX9_layPuffs_158 ?_
  refine sn_putL C hw fp_RX9_402 layM_0 rfl dX9_layPuffs_159 (fun H locs hw => ?_)
  obtain ⟨σ_1, e_2, hf⟩ := sn_ltE hf
  rw [← e_2] at hw
  refine lv_aload_n hx hb dX9_layPuffs_162 rfl (lv_at hl 0 rfl) ?_
  refine lv_dup hx hb dX9_layPuffs_163 rfl ?_
  refine sn_getL C hw fd_RX9_405 layM_0 rfl dX9_layPuffs_164 ?_
  refine lv_aload_n hx hb dX9_layPuffs_167 rfl (lv_at hl 0 rfl) ?_
  refine sn_getC (r := 1) C hw fd_RX9_9 layM_0 rfl dX9_layPuffs_168 ?_
  refine lv_bipush (v := 8) hx hb dX9_layPuffs_171 (by decide) ?_
  obtain ⟨g_3, hf⟩ := sn_gdE hf
  refine sn_iald C hw layM_1 g_3 dX9_layPuffs_173 ?_
  refine lv_if_le (tgt := 189) hx hb dX9_layPuffs_174 (by decide) (fun c_4 => ?_) (fun c_4 => ?_)
  · have hf := sn_if c_4 hf
    refine lv_lconst (v := 0) hx hb dX9_layPuffs_189 rfl ?_
    exact wX9_layPuffs_190 C  hf kc kx _ _ _ hw (lv_sub hl [0, 1, 2, 3, 4, 5] rfl)
  · have hf := sn_el c_4 hf
    refine lv_lload hx hb dX9_layPuffs_177 (lv_at hl 5 rfl) ?_
    refine lv_aload_n hx hb dX9_layPuffs_179 rfl (lv_at hl 0 rfl) ?_
    refine lv_iload_n hx hb dX9_layPuffs_180 rfl (lv_at hl 3 rfl) ?_
    obtain ⟨t_5, h_6, hf⟩ := sn_bd hf
    refine sn_callVi (rest := [.long x5, .long (sn_L σ_1 0 40), .ref (ad 0)]) C hw (ctX9_claimOf_ l  h_6) kl_RX9_326 layM_0 rfl rfl rfl rfl (Nat.le_of_ble_eq_true rfl) dX9_layPuffs_181 hl.1 (fun H locs hw => ?_)
    refine lv_i2l hx hb dX9_layPuffs_184 rfl ?_
    refine lv_lmul hx hb dX9_layPuffs_185 ?_
    refine lv_goto (tgt := 190) hx hb dX9_layPuffs_186 (by decide) ?_
    exact wX9_layPuffs_190 C  hf kc kx _ _ _ hw (lv_sub hl [0, 1, 2, 3, 4, 5] rfl)
theorem wX9_layPuffs_113 (C : sn_C p s m args meth c RX9 cX9_layPuffs 8 none D ct ad layM A) {σ : sn_S} {x1 : Int32} {x2 : Int32} {x3 : Int32} {x4 : Int32} {x5 : Int64}  {o : (sn_S × Int32) ⊕ (sn_S)} (hf : BX9_layPuffs_113 σ x1 x2 x3 x4 x5 = some o) (kc : ∀ v, o = .inl v → sn_At p l e rmX9_layPuffs s m args below meth c Q D ct ad layM A 8 v.1 23 [(0, .ref (ad 0)), (1, .int x1), (2, .int x2), (3, .int x3), (4, .int v.2)] []) (kx : ∀ v, o = .inr v → sn_At p l e rmX9_layPuffs s m args below meth c Q D ct ad layM A 8 v 223 [] []) : sn_At p l e rmX9_layPuffs s m args below meth c Q D ct ad layM A 8 σ 113 [(0, .ref (ad 0)), (1, .int x1), (2, .int x2), (3, .int x3), (4, .int x4), (5, .long x5)] [] := by
  intro H locs ls hw hl
  have hx := C.1
  have hb := C.2.1
  unfold BX9_layPuffs_113 at hf
  refine lv_lload hx hb dX9_layPuffs_113 (lv_at hl 5 rfl) ?_
  refine lv_lconst (v := 0) hx hb dX9_layPuffs_115 rfl ?_
  refine W.lcmp hx hb dX9_layPuffs_116 ?_
  refine lv_if_ne (tgt := 123) hx hb dX9_layPuffs_117 (by decide) (fun c_1 => ?_) (fun c_1 => ?_)
  · have hf := sn_el c_1 hf
    refine lv_aload_n hx hb dX9_layPuffs_123 rfl (lv_at hl 0 rfl) ?_
    obtain ⟨t_2, h_3, hf⟩ := sn_bd hf
    refine sn_callVv (rest := []) C hw (ctX9_goAll l  h_3) kl_RX9_266 layM_0 rfl rfl rfl rfl (Nat.le_of_ble_eq_true rfl) dX9_layPuffs_124 hl.1 (fun H locs hw => ?_)
    refine lv_aload_n hx hb dX9_layPuffs_127 rfl (lv_at hl 0 rfl) ?_
    refine lv_dup hx hb dX9_layPuffs_128 rfl ?_
    refine sn_getL C hw fd_RX9_398 layM_0 rfl dX9_layPuffs_129 ?_
    refine lv_lload hx hb dX9_layPuffs_132 (lv_at hl 5 rfl) ?_
    refine lv_ladd hx hb dX9_layPuffs_134 ?_
    refine sn_putL C hw fp_RX9_398 layM_0 rfl dX9_layPuffs_135 (fun H locs hw => ?_)
    obtain ⟨σ_4, e_5, hf⟩ := sn_ltE hf
    rw [← e_5] at hw
    refine lv_aload_n hx hb dX9_layPuffs_138 rfl (lv_at hl 0 rfl) ?_
    refine lv_dup hx hb dX9_layPuffs_139 rfl ?_
    refine sn_getL C hw fd_RX9_402 layM_0 rfl dX9_layPuffs_140 ?_
    refine lv_aload_n hx hb dX9_layPuffs_143 rfl (lv_at hl 0 rfl) ?_
    refine sn_getC (r := 10) C hw fd_RX9_43 layM_0 rfl dX9_layPuffs_144 ?_
    refine lv_iload_n hx hb dX9_layPuffs_147 rfl (lv_at hl 2 rfl) ?_
    obtain ⟨g_6, hf⟩ := sn_gdE hf
    refine sn_iald C hw layM_10 g_6 dX9_layPuffs_148 ?_
    refine lv_if_eq (tgt := 157) hx hb dX9_layPuffs_149 (by decide) (fun c_7 => ?_) (fun c_7 => ?_)
    · have hf := sn_if c_7 hf
      refine lv_lconst (v := 0) hx hb dX9_layPuffs_157 rfl ?_
      exact wX9_layPuffs_158 C  hf kc kx _ _ _ hw (lv_sub hl [0, 1, 2, 3, 4, 5] rfl)
    · have hf := sn_el c_7 hf
      refine lv_lload hx hb dX9_layPuffs_152 (lv_at hl 5 rfl) ?_
      refine lv_goto (tgt := 158) hx hb dX9_layPuffs_154 (by decide) ?_
      exact wX9_layPuffs_158 C  hf kc kx _ _ _ hw (lv_sub hl [0, 1, 2, 3, 4, 5] rfl)
  · have hf := sn_if c_1 hf
    refine lv_goto (tgt := 217) hx hb dX9_layPuffs_120 (by decide) ?_
    exact wX9_layPuffs_217 C  hf kc kx _ _ _ hw (lv_sub hl [0, 1, 2, 3, 4] rfl)
theorem wX9_layPuffs_104 (C : sn_C p s m args meth c RX9 cX9_layPuffs 8 none D ct ad layM A) {σ : sn_S} {x1 : Int32} {x2 : Int32} {x3 : Int32} {x4 : Int32} {x5 : Int64} {x7 : Int32} {t0 : Int64} {t1 : Int64}  {o : (sn_S × Int64 × Int32) ⊕ (sn_S × Int64)} (hf : BX9_layPuffs_104 σ x1 x2 x3 x4 x5 x7 t0 t1 = some o) (kc : ∀ v, o = .inl v → sn_At p l e rmX9_layPuffs s m args below meth c Q D ct ad layM A 8 v.1 46 [(0, .ref (ad 0)), (1, .int x1), (2, .int x2), (3, .int x3), (4, .int x4), (5, .long v.2.1), (7, .int v.2.2)] []) (kx : ∀ v, o = .inr v → sn_At p l e rmX9_layPuffs s m args below meth c Q D ct ad layM A 8 v.1 113 [(0, .ref (ad 0)), (1, .int x1), (2, .int x2), (3, .int x3), (4, .int x4), (5, .long v.2)] []) : sn_At p l e rmX9_layPuffs s m args below meth c Q D ct ad layM A 8 σ 104 [(0, .ref (ad 0)), (1, .int x1), (2, .int x2), (3, .int x3), (4, .int x4), (5, .long x5), (7, .int x7)] [.long t1, .long t0] := by
  intro H locs ls hw hl
  have hx := C.1
  have hb := C.2.1
  unfold BX9_layPuffs_104 at hf
  refine lv_lmul hx hb dX9_layPuffs_104 ?_
  obtain ⟨y_1, e_2, hf⟩ := sn_ltE hf
  refine lv_topl (fun y_1_ e_2_ => ?_)
  obtain rfl : y_1 = y_1_ := e_2.trans e_2_.symm
  refine lv_lstore (lv' := [(5, .long y_1), (0, .ref (ad 0)), (1, .int x1), (2, .int x2), (3, .int x3), (4, .int x4), (7, .int x7)]) hx hb dX9_layPuffs_105 hl (by decide) rfl (fun ls hl => ?_)
  obtain ⟨y_3, e_4, hf⟩ := sn_ltE hf
  refine lv_iinc (v := y_3) (lv' := [(7, .int y_3), (5, .long y_1), (0, .ref (ad 0)), (1, .int x1), (2, .int x2), (3, .int x3), (4, .int x4)]) hx hb dX9_layPuffs_107 hl (k := 6) rfl (by rw [e_4]; rfl) (by decide) rfl (fun ls hl => ?_)
  refine lv_goto (tgt := 46) hx hb dX9_layPuffs_110 (by decide) ?_
  cases hf
  exact kc _ rfl _ _ _ hw (lv_sub hl [2, 3, 4, 5, 6, 1, 0] rfl)
theorem wX9_layPuffs_46 (C : sn_C p s m args meth c RX9 cX9_layPuffs 8 none D ct ad layM A) {σ : sn_S} {x1 : Int32} {x2 : Int32} {x3 : Int32} {x4 : Int32} {x5 : Int64} {x7 : Int32}  {o : (sn_S × Int64 × Int32) ⊕ (sn_S × Int64)} (hf : BX9_layPuffs_46 σ x1 x2 x3 x4 x5 x7 = some o) (kc : ∀ v, o = .inl v → sn_At p l e rmX9_layPuffs s m args below meth c Q D ct ad layM A 8 v.1 46 [(0, .ref (ad 0)), (1, .int x1), (2, .int x2), (3, .int x3), (4, .int x4), (5, .long v.2.1), (7, .int v.2.2)] []) (kx : ∀ v, o = .inr v → sn_At p l e rmX9_layPuffs s m args below meth c Q D ct ad layM A 8 v.1 113 [(0, .ref (ad 0)), (1, .int x1), (2, .int x2), (3, .int x3), (4, .int x4), (5, .long v.2)] []) : sn_At p l e rmX9_layPuffs s m args below meth c Q D ct ad layM A 8 σ 46 [(0, .ref (ad 0)), (1, .int x1), (2, .int x2), (3, .int x3), (4, .int x4), (5, .long x5), (7, .int x7)] [] := by
  intro H locs ls hw hl
  have hx := C.1
  have hb := C.2.1
  unfold BX9_layPuffs_46 at hf
  refine lv_iload hx hb dX9_layPuffs_46 (lv_at hl 6 rfl) ?_
  refine lv_iload_n hx hb dX9_layPuffs_48 rfl (lv_at hl 1 rfl) ?_
  refine lv_icmp_gt (tgt := 113) hx hb dX9_layPuffs_49 (by decide) (fun c_1 => ?_) (fun c_1 => ?_)
  · have hf := sn_if c_1 hf
    cases hf
    exact kx _ rfl _ _ _ hw (lv_sub hl [0, 1, 2, 3, 4, 5] rfl)
  · have hf := sn_el c_1 hf
    refine lv_aload_n hx hb dX9_layPuffs_52 rfl (lv_at hl 0 rfl) ?_
    refine sn_getC (r := 7) C hw fd_RX9_34 layM_0 rfl dX9_layPuffs_53 ?_
    refine lv_iload hx hb dX9_layPuffs_56 (lv_at hl 6 rfl) ?_
    refine lv_dup2_11 hx hb dX9_layPuffs_58 rfl rfl ?_
    obtain ⟨g_2, hf⟩ := sn_gdE hf
    refine sn_iald C hw layM_7 g_2 dX9_layPuffs_59 ?_
    refine lv_iconst (v := 3) hx hb dX9_layPuffs_60 rfl ?_
    refine lv_iload hx hb dX9_layPuffs_61 (lv_at hl 4 rfl) ?_
    refine lv_iload hx hb dX9_layPuffs_63 (lv_at hl 6 rfl) ?_
    obtain ⟨t_3, h_4, hf⟩ := sn_bd hf
    refine sn_callSi (rest := [.int (3 : Int32), .int (sn_I σ 7 x7.toNatClampNeg), .int x7, .ref (ad 7)]) C hw (ctX9_bit l  h_4) kl_RX9_254 rfl rfl rfl (Nat.le_of_ble_eq_true rfl) dX9_layPuffs_65 hl.1 (fun H locs hw => ?_)
    refine lv_imul hx hb dX9_layPuffs_68 ?_
    refine lv_iadd hx hb dX9_layPuffs_69 ?_
    obtain ⟨g_5, hf⟩ := sn_gdE hf
    refine sn_iast C hw layM_7 g_5 dX9_layPuffs_70 (fun H locs hw => ?_)
    obtain ⟨σ_6, e_7, hf⟩ := sn_ltE hf
    rw [← e_7] at hw
    refine lv_lload hx hb dX9_layPuffs_71 (lv_at hl 5 rfl) ?_
    refine lv_iload hx hb dX9_layPuffs_73 (lv_at hl 4 rfl) ?_
    refine lv_iload hx hb dX9_layPuffs_75 (lv_at hl 6 rfl) ?_
    obtain ⟨t_8, h_9, hf⟩ := sn_bd hf
    refine sn_callSi (rest := [.long x5]) C hw (ctX9_bit l  h_9) kl_RX9_254 rfl rfl rfl (Nat.le_of_ble_eq_true rfl) dX9_layPuffs_77 hl.1 (fun H locs hw => ?_)
    refine lv_iconst (v := 1) hx hb dX9_layPuffs_80 rfl ?_
    refine lv_icmp_ne (tgt := 94) hx hb dX9_layPuffs_81 (by decide) (fun c_10 => ?_) (fun c_10 => ?_)
    · have hf := sn_el c_10 hf
      refine lv_bipush (v := 10) hx hb dX9_layPuffs_94 (by decide) ?_
      refine lv_aload_n hx hb dX9_layPuffs_96 rfl (lv_at hl 0 rfl) ?_
      refine sn_getC (r := 1) C hw fd_RX9_9 layM_0 rfl dX9_layPuffs_97 ?_
      refine lv_iconst (v := 4) hx hb dX9_layPuffs_100 rfl ?_
      obtain ⟨g_11, hf⟩ := sn_gdE hf
      refine sn_iald C hw layM_1 g_11 dX9_layPuffs_101 ?_
      refine lv_isub hx hb dX9_layPuffs_102 ?_
      refine lv_i2l hx hb dX9_layPuffs_103 rfl ?_
      exact wX9_layPuffs_104 C  hf kc kx _ _ _ hw (lv_sub hl [0, 1, 2, 3, 4, 5, 6] rfl)
    · have hf := sn_if c_10 hf
      refine lv_aload_n hx hb dX9_layPuffs_84 rfl (lv_at hl 0 rfl) ?_
      refine sn_getC (r := 1) C hw fd_RX9_9 layM_0 rfl dX9_layPuffs_85 ?_
      refine lv_iconst (v := 4) hx hb dX9_layPuffs_88 rfl ?_
      obtain ⟨g_12, hf⟩ := sn_gdE hf
      refine sn_iald C hw layM_1 g_12 dX9_layPuffs_89 ?_
      refine lv_i2l hx hb dX9_layPuffs_90 rfl ?_
      refine lv_goto (tgt := 104) hx hb dX9_layPuffs_91 (by decide) ?_
      exact wX9_layPuffs_104 C  hf kc kx _ _ _ hw (lv_sub hl [0, 1, 2, 3, 4, 5, 6] rfl)
theorem wX9_layPuffs_L46 (C : sn_C p s m args meth c RX9 cX9_layPuffs 8 none D ct ad layM A) {x1 : Int32} {x2 : Int32} {x3 : Int32} {x4 : Int32}   {z : sn_S × Int64 × Int32} {t : sn_S × Int64} (h : sn_it (LX9_layPuffs_46 x1 x2 x3 x4) 5000 z = some t) (kx : ∀ v, t = v → sn_At p l e rmX9_layPuffs s m args below meth c Q D ct ad layM A 8 v.1 113 [(0, .ref (ad 0)), (1, .int x1), (2, .int x2), (3, .int x3), (4, .int x4), (5, .long v.2)] []) : sn_At p l e rmX9_layPuffs s m args below meth c Q D ct ad layM A 8 z.1 46 [(0, .ref (ad 0)), (1, .int x1), (2, .int x2), (3, .int x3), (4, .int x4), (5, .long z.2.1), (7, .int z.2.2)] [] :=
  sn_loop (f := LX9_layPuffs_46 x1 x2 x3 x4) (G := fun z => sn_At p l e rmX9_layPuffs s m args below meth c Q D ct ad layM A 8 z.1 46 [(0, .ref (ad 0)), (1, .int x1), (2, .int x2), (3, .int x3), (4, .int x4), (5, .long z.2.1), (7, .int z.2.2)] []) (E := fun t => (∀ v, t = v → sn_At p l e rmX9_layPuffs s m args below meth c Q D ct ad layM A 8 v.1 113 [(0, .ref (ad 0)), (1, .int x1), (2, .int x2), (3, .int x3), (4, .int x4), (5, .long v.2)] []) ∧ True) (fun z o hf k1 k2 => wX9_layPuffs_46 C  hf (fun v e => k1 v e) (fun v e => (k2 _ e).1 v rfl)) 5000 z t h ⟨kx, trivial⟩
theorem wX9_layPuffs_23 (C : sn_C p s m args meth c RX9 cX9_layPuffs 8 none D ct ad layM A) {σ : sn_S} {x1 : Int32} {x2 : Int32} {x3 : Int32} {x4 : Int32}  {o : (sn_S × Int32) ⊕ (sn_S)} (hf : BX9_layPuffs_23 σ x1 x2 x3 x4 = some o) (kc : ∀ v, o = .inl v → sn_At p l e rmX9_layPuffs s m args below meth c Q D ct ad layM A 8 v.1 23 [(0, .ref (ad 0)), (1, .int x1), (2, .int x2), (3, .int x3), (4, .int v.2)] []) (kx : ∀ v, o = .inr v → sn_At p l e rmX9_layPuffs s m args below meth c Q D ct ad layM A 8 v 223 [] []) : sn_At p l e rmX9_layPuffs s m args below meth c Q D ct ad layM A 8 σ 23 [(0, .ref (ad 0)), (1, .int x1), (2, .int x2), (3, .int x3), (4, .int x4)] [] := by
  intro H locs ls hw hl
  have hx := C.1
  have hb := C.2.1
  unfold BX9_layPuffs_23 at hf
  refine lv_iload hx hb dX9_layPuffs_23 (lv_at hl 4 rfl) ?_
  refine lv_iconst (v := 2) hx hb dX9_layPuffs_25 rfl ?_
  refine lv_iload_n hx hb dX9_layPuffs_26 rfl (lv_at hl 1 rfl) ?_
  refine lv_ishl hx hb dX9_layPuffs_27 ?_
  refine lv_icmp_ge (tgt := 223) hx hb dX9_layPuffs_28 (by decide) (fun c_1 => ?_) (fun c_1 => ?_)
  · have hf := sn_if c_1 hf
    cases hf
    exact kx _ rfl _ _ _ hw (lv_sub hl [] rfl)
  · have hf := sn_el c_1 hf
    refine lv_lconst (v := 1) hx hb dX9_layPuffs_31 rfl ?_
    refine lv_lstore (lv' := [(5, .long (1 : Int64)), (0, .ref (ad 0)), (1, .int x1), (2, .int x2), (3, .int x3), (4, .int x4)]) hx hb dX9_layPuffs_32 hl (by decide) rfl (fun ls hl => ?_)
    refine lv_aload_n hx hb dX9_layPuffs_34 rfl (lv_at hl 1 rfl) ?_
    obtain ⟨t_2, h_3, hf⟩ := sn_bd hf
    refine sn_callVv (rest := []) C hw (ctX9_asItIs l  h_3) kl_RX9_263 layM_0 rfl rfl rfl rfl (Nat.le_of_ble_eq_true rfl) dX9_layPuffs_35 hl.1 (fun H locs hw => ?_)
    refine lv_aload_n hx hb dX9_layPuffs_38 rfl (lv_at hl 1 rfl) ?_
    refine lv_iload_n hx hb dX9_layPuffs_39 rfl (lv_at hl 2 rfl) ?_
    refine sn_putI C hw fp_RX9_251 layM_0 rfl dX9_layPuffs_40 (fun H locs hw => ?_)
    obtain ⟨σ_4, e_5, hf⟩ := sn_ltE hf
    rw [← e_5] at hw
    refine lv_iconst (v := 0) hx hb dX9_layPuffs_43 rfl ?_
    refine lv_istore (lv' := [(7, .int (0 : Int32)), (5, .long (1 : Int64)), (0, .ref (ad 0)), (1, .int x1), (2, .int x2), (3, .int x3), (4, .int x4)]) hx hb dX9_layPuffs_44 hl (by decide) rfl (fun ls hl => ?_)
    obtain ⟨t_6, h_7, hf⟩ := sn_bd hf
    exact wX9_layPuffs_L46 C  h_7 (fun v e => by cases e; exact wX9_layPuffs_113 C  hf kc kx) _ _ _ hw (lv_sub hl [2, 3, 4, 5, 6, 1, 0] rfl)
theorem wX9_layPuffs_L23 (C : sn_C p s m args meth c RX9 cX9_layPuffs 8 none D ct ad layM A) {x1 : Int32} {x2 : Int32} {x3 : Int32}   {z : sn_S × Int32} {t : sn_S} (h : sn_it (LX9_layPuffs_23 x1 x2 x3) 5000 z = some t) (kx : ∀ v, t = v → sn_At p l e rmX9_layPuffs s m args below meth c Q D ct ad layM A 8 v 223 [] []) : sn_At p l e rmX9_layPuffs s m args below meth c Q D ct ad layM A 8 z.1 23 [(0, .ref (ad 0)), (1, .int x1), (2, .int x2), (3, .int x3), (4, .int z.2)] [] :=
  sn_loop (f := LX9_layPuffs_23 x1 x2 x3) (G := fun z => sn_At p l e rmX9_layPuffs s m args below meth c Q D ct ad layM A 8 z.1 23 [(0, .ref (ad 0)), (1, .int x1), (2, .int x2), (3, .int x3), (4, .int z.2)] []) (E := fun t => (∀ v, t = v → sn_At p l e rmX9_layPuffs s m args below meth c Q D ct ad layM A 8 v 223 [] []) ∧ True) (fun z o hf k1 k2 => wX9_layPuffs_23 C  hf (fun v e => k1 v e) (fun v e => (k2 _ e).1 v rfl)) 5000 z t h ⟨kx, trivial⟩
theorem wX9_layPuffs_in (C : sn_C p s m args meth c RX9 cX9_layPuffs 8 none D ct ad layM A) {σ : sn_S} {x1 : Int32} {x2 : Int32} {x3 : Int32}  {o : sn_S} (hf : fX9_layPuffs σ x1 x2 x3 = some o) (kr : sn_Kr p l e rmX9_layPuffs s m args below meth c Q D ct ad layM A cX9_layPuffs .return_ (true) o []) : sn_At p l e rmX9_layPuffs s m args below meth c Q D ct ad layM A 8 σ 0 [(0, .ref (ad 0)), (1, .int x1), (2, .int x2), (3, .int x3)] [] := by
  intro H locs ls hw hl
  have hx := C.1
  have hb := C.2.1
  unfold fX9_layPuffs at hf
  refine lv_aload_n hx hb dX9_layPuffs_0 rfl (lv_at hl 0 rfl) ?_
  refine lv_lconst (v := 0) hx hb dX9_layPuffs_1 rfl ?_
  refine sn_putL C hw fp_RX9_398 layM_0 rfl dX9_layPuffs_2 (fun H locs hw => ?_)
  obtain ⟨σ_1, e_2, hf⟩ := sn_ltE hf
  rw [← e_2] at hw
  refine lv_aload_n hx hb dX9_layPuffs_5 rfl (lv_at hl 0 rfl) ?_
  refine lv_lconst (v := 0) hx hb dX9_layPuffs_6 rfl ?_
  refine sn_putL C hw fp_RX9_402 layM_0 rfl dX9_layPuffs_7 (fun H locs hw => ?_)
  obtain ⟨σ_3, e_4, hf⟩ := sn_ltE hf
  rw [← e_4] at hw
  refine lv_aload_n hx hb dX9_layPuffs_10 rfl (lv_at hl 0 rfl) ?_
  refine lv_lconst (v := 0) hx hb dX9_layPuffs_11 rfl ?_
  refine sn_putL C hw fp_RX9_405 layM_0 rfl dX9_layPuffs_12 (fun H locs hw => ?_)
  obtain ⟨σ_5, e_6, hf⟩ := sn_ltE hf
  rw [← e_6] at hw
  refine lv_aload_n hx hb dX9_layPuffs_15 rfl (lv_at hl 0 rfl) ?_
  refine lv_lconst (v := 0) hx hb dX9_layPuffs_16 rfl ?_
  refine sn_putL C hw fp_RX9_408 layM_0 rfl dX9_layPuffs_17 (fun H locs hw => ?_)
  obtain ⟨σ_7, e_8, hf⟩ := sn_ltE hf
  rw [← e_8] at hw
  refine lv_iconst (v := 0) hx hb dX9_layPuffs_20 rfl ?_
  refine lv_istore (lv' := [(4, .int (0 : Int32)), (0, .ref (ad 0)), (1, .int x1), (2, .int x2), (3, .int x3)]) hx hb dX9_layPuffs_21 hl (by decide) rfl (fun ls hl => ?_)
  obtain ⟨t_9, h_10, hf⟩ := sn_bd hf
  exact wX9_layPuffs_L23 C  h_10 (fun v e => by cases e; exact wX9_layPuffs_223 C  hf kr) _ _ _ hw (lv_sub hl [1, 2, 3, 4, 0] rfl)
theorem ctX9_layPuffs (l : Launch) {σ : sn_S} {x1 : Int32} {x2 : Int32} {x3 : Int32}  {o : sn_S} (hf : fX9_layPuffs σ x1 x2 x3 = some o) : sn_M l yX9_layPuffs cX9_layPuffs 8 none rmX9_layPuffs layM (fun ad => [.ref (ad 0), .int x1, .int x2, .int x3]) σ none o :=
  sn_met (by decide) (fun _ => Nat.le_of_ble_eq_true rfl) (fun p e s m args below meth c ls D ct ad A C hw hl => wX9_layPuffs_in C  hf (fun H locs ls pc hw ok hd => sn_vret C hw hd) _ _ _ hw hl)
end
end
section
section
variable {p : Program} {l : Launch} {e : Env} {s : State} {m : MethodId} {args : Array Value} {below : List Frame} {meth : Method} {c : Code} {Q : State → Prop} {D : va_G} {ct : Nat → ClassId} {ad : Nat → Nat} {A : Nat → Prop} {lay : List sn_E}
-- X9_isPuffs
abbrev rmX9_isPuffs : Room := { frames := 2, cells := 0, slots := 0, locals := 47 }
def fX9_isPuffs (σ : sn_S) (x1 : Int32) (x2 : Int32) : Option Int32 :=
  ((fX9_isMinute σ x1.toInt64).bind fun t_1 => (if t_1 = 0 then
  (sn_gd (sn_b01 (0 : Int32)) (some (0 : Int32)))
  else
  ((fX9_in x1.toInt64 (0 : Int64) (7 : Int64)).bind fun t_5 => (if t_5 = 0 then
  (sn_gd (sn_b01 (0 : Int32)) (some (0 : Int32)))
  else
  ((fX9_in x2.toInt64 (0 : Int64) (1 : Int64)).bind fun t_9 => (if t_9 = 0 then
  (sn_gd (sn_b01 (0 : Int32)) (some (0 : Int32)))
  else
  (sn_gd (sn_b01 (1 : Int32)) (some (1 : Int32)))))))))
theorem wX9_isPuffs_in (C : sn_C p s m args meth c RX9 cX9_isPuffs 3 (some .boolean) D ct ad layM A) {σ : sn_S} {x1 : Int32} {x2 : Int32}  {o : Int32} (hf : fX9_isPuffs σ x1 x2 = some o) (kr : sn_Kr p l e rmX9_isPuffs s m args below meth c Q D ct ad layM A cX9_isPuffs .ireturn (sn_b01 o) σ [.int o]) : sn_At p l e rmX9_isPuffs s m args below meth c Q D ct ad layM A 3 σ 0 [(0, .ref (ad 0)), (1, .int x1), (2, .int x2)] [] := by
  intro H locs ls hw hl
  have hx := C.1
  have hb := C.2.1
  unfold fX9_isPuffs at hf
  refine lv_aload_n hx hb dX9_isPuffs_0 rfl (lv_at hl 0 rfl) ?_
  refine lv_iload_n hx hb dX9_isPuffs_1 rfl (lv_at hl 1 rfl) ?_
  refine lv_i2l hx hb dX9_isPuffs_2 rfl ?_
  obtain ⟨t_1, h_2, hf⟩ := sn_bd hf
  refine sn_callVi (rest := []) C hw (ctX9_isMinute l  h_2) kl_RX9_275 layM_0 rfl rfl rfl rfl (Nat.le_of_ble_eq_true rfl) dX9_isPuffs_3 hl.1 (fun H locs hw => ?_)
  refine lv_if_eq (tgt := 35) hx hb dX9_isPuffs_6 (by decide) (fun c_3 => ?_) (fun c_3 => ?_)
  · have hf := sn_if c_3 hf
    refine lv_iconst (v := 0) hx hb dX9_isPuffs_35 rfl ?_
    obtain ⟨g_4, hf⟩ := sn_gdE hf
    cases hf
    exact kr _ _ _ _ hw g_4 dX9_isPuffs_36
  · have hf := sn_el c_3 hf
    refine lv_iload_n hx hb dX9_isPuffs_9 rfl (lv_at hl 1 rfl) ?_
    refine lv_i2l hx hb dX9_isPuffs_10 rfl ?_
    refine lv_lconst (v := 0) hx hb dX9_isPuffs_11 rfl ?_
    refine lv_ldc2 hx hb C.2.2.2.1 (C.2.2.2.2.1 _ kk_RX9_411) dX9_isPuffs_12 ?_
    obtain ⟨t_5, h_6, hf⟩ := sn_bd hf
    refine sn_callSi (rest := []) C hw (ctX9_in l  h_6) kl_RX9_94 rfl rfl rfl (Nat.le_of_ble_eq_true rfl) dX9_isPuffs_15 hl.1 (fun H locs hw => ?_)
    refine lv_if_eq (tgt := 35) hx hb dX9_isPuffs_18 (by decide) (fun c_7 => ?_) (fun c_7 => ?_)
    · have hf := sn_if c_7 hf
      refine lv_iconst (v := 0) hx hb dX9_isPuffs_35 rfl ?_
      obtain ⟨g_8, hf⟩ := sn_gdE hf
      cases hf
      exact kr _ _ _ _ hw g_8 dX9_isPuffs_36
    · have hf := sn_el c_7 hf
      refine lv_iload_n hx hb dX9_isPuffs_21 rfl (lv_at hl 2 rfl) ?_
      refine lv_i2l hx hb dX9_isPuffs_22 rfl ?_
      refine lv_lconst (v := 0) hx hb dX9_isPuffs_23 rfl ?_
      refine lv_lconst (v := 1) hx hb dX9_isPuffs_24 rfl ?_
      obtain ⟨t_9, h_10, hf⟩ := sn_bd hf
      refine sn_callSi (rest := []) C hw (ctX9_in l  h_10) kl_RX9_94 rfl rfl rfl (Nat.le_of_ble_eq_true rfl) dX9_isPuffs_25 hl.1 (fun H locs hw => ?_)
      refine lv_if_eq (tgt := 35) hx hb dX9_isPuffs_28 (by decide) (fun c_11 => ?_) (fun c_11 => ?_)
      · have hf := sn_if c_11 hf
        refine lv_iconst (v := 0) hx hb dX9_isPuffs_35 rfl ?_
        obtain ⟨g_12, hf⟩ := sn_gdE hf
        cases hf
        exact kr _ _ _ _ hw g_12 dX9_isPuffs_36
      · have hf := sn_el c_11 hf
        refine lv_iconst (v := 1) hx hb dX9_isPuffs_31 rfl ?_
        refine lv_goto (tgt := 36) hx hb dX9_isPuffs_32 (by decide) ?_
        obtain ⟨g_13, hf⟩ := sn_gdE hf
        cases hf
        exact kr _ _ _ _ hw g_13 dX9_isPuffs_36
theorem ctX9_isPuffs (l : Launch) {σ : sn_S} {x1 : Int32} {x2 : Int32}  {o : Int32} (hf : fX9_isPuffs σ x1 x2 = some o) : sn_M l yX9_isPuffs cX9_isPuffs 3 (some .boolean) rmX9_isPuffs layM (fun ad => [.ref (ad 0), .int x1, .int x2]) σ (some (fun _ => .int o)) σ :=
  sn_met (by decide) (fun _ => Nat.le_of_ble_eq_true rfl) (fun p e s m args below meth c ls D ct ad A C hw hl => wX9_isPuffs_in C  hf (fun H locs ls pc hw ok hd => sn_zret C hw ok hd) _ _ _ hw hl)
-- X9_chance
abbrev rmX9_chance : Room := { frames := 6, cells := 0, slots := 0, locals := 144 }
def fX9_chance (σ : sn_S) (x1 : Int32) (x2 : Int32) (x3 : Int32) : Option (Int64 × sn_S) :=
  ((fX9_isPerson σ x1.toInt64).bind fun t_1 => (if t_1 = 0 then
  (some ((-2 : Int64), σ))
  else
  ((fX9_isPuffs σ x2 x3).bind fun t_4 => (if t_4 = 0 then
  (some ((-2 : Int64), σ))
  else
  ((fX9_layPuffs σ x2 x1 (0 : Int32)).bind fun t_7 => ((fX9_part (sn_L t_7 0 39) (sn_L t_7 0 38) x3).bind fun t_9 => (some (t_9, t_7))))))))
theorem wX9_chance_in (C : sn_C p s m args meth c RX9 cX9_chance 4 (some .long) D ct ad layM A) {σ : sn_S} {x1 : Int32} {x2 : Int32} {x3 : Int32}  {o : (Int64 × sn_S)} (hf : fX9_chance σ x1 x2 x3 = some o) (kr : sn_Kr p l e rmX9_chance s m args below meth c Q D ct ad layM A cX9_chance .lreturn (true) o.2 [.long o.1]) : sn_At p l e rmX9_chance s m args below meth c Q D ct ad layM A 4 σ 0 [(0, .ref (ad 0)), (1, .int x1), (2, .int x2), (3, .int x3)] [] := by
  intro H locs ls hw hl
  have hx := C.1
  have hb := C.2.1
  unfold fX9_chance at hf
  refine lv_aload_n hx hb dX9_chance_0 rfl (lv_at hl 0 rfl) ?_
  refine lv_iload_n hx hb dX9_chance_1 rfl (lv_at hl 1 rfl) ?_
  refine lv_i2l hx hb dX9_chance_2 rfl ?_
  obtain ⟨t_1, h_2, hf⟩ := sn_bd hf
  refine sn_callVi (rest := []) C hw (ctX9_isPerson l  h_2) kl_RX9_224 layM_0 rfl rfl rfl rfl (Nat.le_of_ble_eq_true rfl) dX9_chance_3 hl.1 (fun H locs hw => ?_)
  refine lv_if_eq (tgt := 18) hx hb dX9_chance_6 (by decide) (fun c_3 => ?_) (fun c_3 => ?_)
  · have hf := sn_if c_3 hf
    refine lv_ldc2 hx hb C.2.2.2.1 (C.2.2.2.2.1 _ kk_RX9_416) dX9_chance_18 ?_
    cases hf
    exact kr _ _ _ _ hw rfl dX9_chance_21
  · have hf := sn_el c_3 hf
    refine lv_aload_n hx hb dX9_chance_9 rfl (lv_at hl 0 rfl) ?_
    refine lv_iload_n hx hb dX9_chance_10 rfl (lv_at hl 2 rfl) ?_
    refine lv_iload_n hx hb dX9_chance_11 rfl (lv_at hl 3 rfl) ?_
    obtain ⟨t_4, h_5, hf⟩ := sn_bd hf
    refine sn_callVi (rest := []) C hw (ctX9_isPuffs l  h_5) kl_RX9_413 layM_0 rfl rfl rfl rfl (Nat.le_of_ble_eq_true rfl) dX9_chance_12 hl.1 (fun H locs hw => ?_)
    refine lv_if_ne (tgt := 22) hx hb dX9_chance_15 (by decide) (fun c_6 => ?_) (fun c_6 => ?_)
    · have hf := sn_el c_6 hf
      refine lv_aload_n hx hb dX9_chance_22 rfl (lv_at hl 0 rfl) ?_
      refine lv_iload_n hx hb dX9_chance_23 rfl (lv_at hl 2 rfl) ?_
      refine lv_iload_n hx hb dX9_chance_24 rfl (lv_at hl 1 rfl) ?_
      refine lv_iconst (v := 0) hx hb dX9_chance_25 rfl ?_
      obtain ⟨t_7, h_8, hf⟩ := sn_bd hf
      refine sn_callVv (rest := []) C hw (ctX9_layPuffs l  h_8) kl_RX9_418 layM_0 rfl rfl rfl rfl (Nat.le_of_ble_eq_true rfl) dX9_chance_26 hl.1 (fun H locs hw => ?_)
      refine lv_aload_n hx hb dX9_chance_29 rfl (lv_at hl 0 rfl) ?_
      refine sn_getL C hw fd_RX9_402 layM_0 rfl dX9_chance_30 ?_
      refine lv_aload_n hx hb dX9_chance_33 rfl (lv_at hl 0 rfl) ?_
      refine sn_getL C hw fd_RX9_398 layM_0 rfl dX9_chance_34 ?_
      refine lv_iload_n hx hb dX9_chance_37 rfl (lv_at hl 3 rfl) ?_
      obtain ⟨t_9, h_10, hf⟩ := sn_bd hf
      refine sn_callSl (rest := []) C hw (ctX9_part l  h_10) kl_RX9_422 rfl rfl rfl (Nat.le_of_ble_eq_true rfl) dX9_chance_38 hl.1 (fun H locs hw => ?_)
      cases hf
      exact kr _ _ _ _ hw rfl dX9_chance_41
    · have hf := sn_if c_6 hf
      refine lv_ldc2 hx hb C.2.2.2.1 (C.2.2.2.2.1 _ kk_RX9_416) dX9_chance_18 ?_
      cases hf
      exact kr _ _ _ _ hw rfl dX9_chance_21
theorem ctX9_chance (l : Launch) {σ : sn_S} {x1 : Int32} {x2 : Int32} {x3 : Int32}  {o : (Int64 × sn_S)} (hf : fX9_chance σ x1 x2 x3 = some o) : sn_M l yX9_chance cX9_chance 4 (some .long) rmX9_chance layM (fun ad => [.ref (ad 0), .int x1, .int x2, .int x3]) σ (some (fun _ => .long o.1)) o.2 :=
  sn_met (by decide) (fun _ => Nat.le_of_ble_eq_true rfl) (fun p e s m args below meth c ls D ct ad A C hw hl => wX9_chance_in C  hf (fun H locs ls pc hw ok hd => sn_lret C hw hd) _ _ _ hw hl)
-- X9_fair
abbrev rmX9_fair : Room := { frames := 6, cells := 0, slots := 0, locals := 144 }
def fX9_fair (σ : sn_S) (x1 : Int32) (x2 : Int32) (x3 : Int32) : Option (Int64 × sn_S) :=
  ((fX9_isPolicy σ x1).bind fun t_1 => (if t_1 = 0 then
  (some ((-2 : Int64), σ))
  else
  ((fX9_isPuffs σ x2 x3).bind fun t_4 => (if t_4 = 0 then
  (some ((-2 : Int64), σ))
  else
  ((fX9_layPuffs σ x2 (0 : Int32) x1).bind fun t_7 => ((fX9_part (sn_L t_7 0 40) (sn_L t_7 0 38) x3).bind fun t_9 => (some (t_9, t_7))))))))
theorem wX9_fair_in (C : sn_C p s m args meth c RX9 cX9_fair 4 (some .long) D ct ad layM A) {σ : sn_S} {x1 : Int32} {x2 : Int32} {x3 : Int32}  {o : (Int64 × sn_S)} (hf : fX9_fair σ x1 x2 x3 = some o) (kr : sn_Kr p l e rmX9_fair s m args below meth c Q D ct ad layM A cX9_fair .lreturn (true) o.2 [.long o.1]) : sn_At p l e rmX9_fair s m args below meth c Q D ct ad layM A 4 σ 0 [(0, .ref (ad 0)), (1, .int x1), (2, .int x2), (3, .int x3)] [] := by
  intro H locs ls hw hl
  have hx := C.1
  have hb := C.2.1
  unfold fX9_fair at hf
  refine lv_aload_n hx hb dX9_fair_0 rfl (lv_at hl 0 rfl) ?_
  refine lv_iload_n hx hb dX9_fair_1 rfl (lv_at hl 1 rfl) ?_
  obtain ⟨t_1, h_2, hf⟩ := sn_bd hf
  refine sn_callVi (rest := []) C hw (ctX9_isPolicy l  h_2) kl_RX9_228 layM_0 rfl rfl rfl rfl (Nat.le_of_ble_eq_true rfl) dX9_fair_2 hl.1 (fun H locs hw => ?_)
  refine lv_if_eq (tgt := 17) hx hb dX9_fair_5 (by decide) (fun c_3 => ?_) (fun c_3 => ?_)
  · have hf := sn_if c_3 hf
    refine lv_ldc2 hx hb C.2.2.2.1 (C.2.2.2.2.1 _ kk_RX9_416) dX9_fair_17 ?_
    cases hf
    exact kr _ _ _ _ hw rfl dX9_fair_20
  · have hf := sn_el c_3 hf
    refine lv_aload_n hx hb dX9_fair_8 rfl (lv_at hl 0 rfl) ?_
    refine lv_iload_n hx hb dX9_fair_9 rfl (lv_at hl 2 rfl) ?_
    refine lv_iload_n hx hb dX9_fair_10 rfl (lv_at hl 3 rfl) ?_
    obtain ⟨t_4, h_5, hf⟩ := sn_bd hf
    refine sn_callVi (rest := []) C hw (ctX9_isPuffs l  h_5) kl_RX9_413 layM_0 rfl rfl rfl rfl (Nat.le_of_ble_eq_true rfl) dX9_fair_11 hl.1 (fun H locs hw => ?_)
    refine lv_if_ne (tgt := 21) hx hb dX9_fair_14 (by decide) (fun c_6 => ?_) (fun c_6 => ?_)
    · have hf := sn_el c_6 hf
      refine lv_aload_n hx hb dX9_fair_21 rfl (lv_at hl 0 rfl) ?_
      refine lv_iload_n hx hb dX9_fair_22 rfl (lv_at hl 2 rfl) ?_
      refine lv_iconst (v := 0) hx hb dX9_fair_23 rfl ?_
      refine lv_iload_n hx hb dX9_fair_24 rfl (lv_at hl 1 rfl) ?_
      obtain ⟨t_7, h_8, hf⟩ := sn_bd hf
      refine sn_callVv (rest := []) C hw (ctX9_layPuffs l  h_8) kl_RX9_418 layM_0 rfl rfl rfl rfl (Nat.le_of_ble_eq_true rfl) dX9_fair_25 hl.1 (fun H locs hw => ?_)
      refine lv_aload_n hx hb dX9_fair_28 rfl (lv_at hl 0 rfl) ?_
      refine sn_getL C hw fd_RX9_405 layM_0 rfl dX9_fair_29 ?_
      refine lv_aload_n hx hb dX9_fair_32 rfl (lv_at hl 0 rfl) ?_
      refine sn_getL C hw fd_RX9_398 layM_0 rfl dX9_fair_33 ?_
      refine lv_iload_n hx hb dX9_fair_36 rfl (lv_at hl 3 rfl) ?_
      obtain ⟨t_9, h_10, hf⟩ := sn_bd hf
      refine sn_callSl (rest := []) C hw (ctX9_part l  h_10) kl_RX9_422 rfl rfl rfl (Nat.le_of_ble_eq_true rfl) dX9_fair_37 hl.1 (fun H locs hw => ?_)
      cases hf
      exact kr _ _ _ _ hw rfl dX9_fair_40
    · have hf := sn_if c_6 hf
      refine lv_ldc2 hx hb C.2.2.2.1 (C.2.2.2.2.1 _ kk_RX9_416) dX9_fair_17 ?_
      cases hf
      exact kr _ _ _ _ hw rfl dX9_fair_20
theorem ctX9_fair (l : Launch) {σ : sn_S} {x1 : Int32} {x2 : Int32} {x3 : Int32}  {o : (Int64 × sn_S)} (hf : fX9_fair σ x1 x2 x3 = some o) : sn_M l yX9_fair cX9_fair 4 (some .long) rmX9_fair layM (fun ad => [.ref (ad 0), .int x1, .int x2, .int x3]) σ (some (fun _ => .long o.1)) o.2 :=
  sn_met (by decide) (fun _ => Nat.le_of_ble_eq_true rfl) (fun p e s m args below meth c ls D ct ad A C hw hl => wX9_fair_in C  hf (fun H locs ls pc hw ok hd => sn_lret C hw hd) _ _ _ hw hl)
-- X9_risk
abbrev rmX9_risk : Room := { frames := 6, cells := 0, slots := 0, locals := 144 }
def fX9_risk (σ : sn_S) (x1 : Int32) (x2 : Int32) : Option (Int64 × sn_S) :=
  ((fX9_isPuffs σ x1 x2).bind fun t_1 => (if t_1 = 0 then
  (some ((-2 : Int64), σ))
  else
  ((fX9_layPuffs σ x1 (0 : Int32) (0 : Int32)).bind fun t_4 => ((fX9_part (sn_L t_4 0 41) (sn_L t_4 0 38) x2).bind fun t_6 => (some (t_6, t_4))))))
theorem wX9_risk_in (C : sn_C p s m args meth c RX9 cX9_risk 3 (some .long) D ct ad layM A) {σ : sn_S} {x1 : Int32} {x2 : Int32}  {o : (Int64 × sn_S)} (hf : fX9_risk σ x1 x2 = some o) (kr : sn_Kr p l e rmX9_risk s m args below meth c Q D ct ad layM A cX9_risk .lreturn (true) o.2 [.long o.1]) : sn_At p l e rmX9_risk s m args below meth c Q D ct ad layM A 3 σ 0 [(0, .ref (ad 0)), (1, .int x1), (2, .int x2)] [] := by
  intro H locs ls hw hl
  have hx := C.1
  have hb := C.2.1
  unfold fX9_risk at hf
  refine lv_aload_n hx hb dX9_risk_0 rfl (lv_at hl 0 rfl) ?_
  refine lv_iload_n hx hb dX9_risk_1 rfl (lv_at hl 1 rfl) ?_
  refine lv_iload_n hx hb dX9_risk_2 rfl (lv_at hl 2 rfl) ?_
  obtain ⟨t_1, h_2, hf⟩ := sn_bd hf
  refine sn_callVi (rest := []) C hw (ctX9_isPuffs l  h_2) kl_RX9_413 layM_0 rfl rfl rfl rfl (Nat.le_of_ble_eq_true rfl) dX9_risk_3 hl.1 (fun H locs hw => ?_)
  refine lv_if_ne (tgt := 13) hx hb dX9_risk_6 (by decide) (fun c_3 => ?_) (fun c_3 => ?_)
  · have hf := sn_el c_3 hf
    refine lv_aload_n hx hb dX9_risk_13 rfl (lv_at hl 0 rfl) ?_
    refine lv_iload_n hx hb dX9_risk_14 rfl (lv_at hl 1 rfl) ?_
    refine lv_iconst (v := 0) hx hb dX9_risk_15 rfl ?_
    refine lv_iconst (v := 0) hx hb dX9_risk_16 rfl ?_
    obtain ⟨t_4, h_5, hf⟩ := sn_bd hf
    refine sn_callVv (rest := []) C hw (ctX9_layPuffs l  h_5) kl_RX9_418 layM_0 rfl rfl rfl rfl (Nat.le_of_ble_eq_true rfl) dX9_risk_17 hl.1 (fun H locs hw => ?_)
    refine lv_aload_n hx hb dX9_risk_20 rfl (lv_at hl 0 rfl) ?_
    refine sn_getL C hw fd_RX9_408 layM_0 rfl dX9_risk_21 ?_
    refine lv_aload_n hx hb dX9_risk_24 rfl (lv_at hl 0 rfl) ?_
    refine sn_getL C hw fd_RX9_398 layM_0 rfl dX9_risk_25 ?_
    refine lv_iload_n hx hb dX9_risk_28 rfl (lv_at hl 2 rfl) ?_
    obtain ⟨t_6, h_7, hf⟩ := sn_bd hf
    refine sn_callSl (rest := []) C hw (ctX9_part l  h_7) kl_RX9_422 rfl rfl rfl (Nat.le_of_ble_eq_true rfl) dX9_risk_29 hl.1 (fun H locs hw => ?_)
    cases hf
    exact kr _ _ _ _ hw rfl dX9_risk_32
  · have hf := sn_if c_3 hf
    refine lv_ldc2 hx hb C.2.2.2.1 (C.2.2.2.2.1 _ kk_RX9_416) dX9_risk_9 ?_
    cases hf
    exact kr _ _ _ _ hw rfl dX9_risk_12
theorem ctX9_risk (l : Launch) {σ : sn_S} {x1 : Int32} {x2 : Int32}  {o : (Int64 × sn_S)} (hf : fX9_risk σ x1 x2 = some o) : sn_M l yX9_risk cX9_risk 3 (some .long) rmX9_risk layM (fun ad => [.ref (ad 0), .int x1, .int x2]) σ (some (fun _ => .long o.1)) o.2 :=
  sn_met (by decide) (fun _ => Nat.le_of_ble_eq_true rfl) (fun p e s m args below meth c ls D ct ad A C hw hl => wX9_risk_in C  hf (fun H locs ls pc hw ok hd => sn_lret C hw hd) _ _ _ hw hl)
-- X9_keepAct
abbrev rmX9_keepAct : Room := { frames := 5, cells := 0, slots := 0, locals := 115 }
def fX9_keepAct (σ : sn_S) (x1 : Int32) : Option (Int32 × sn_S) :=
  (sn_gd (sn_in (9 : Int32) 119) (if (sn_I σ 1 (9 : Int32).toNatClampNeg) = (40 : Int32) then
  (some ((-5 : Int32), σ))
  else
  (sn_gd (sn_in (9 : Int32) 119) (sn_gd (sn_in ((79 : Int32) + (sn_I σ 1 (9 : Int32).toNatClampNeg)) 119) (sn_lt (sn_pI σ 1 ((79 : Int32) + (sn_I σ 1 (9 : Int32).toNatClampNeg)).toNatClampNeg x1) fun σ_5 => (sn_gd (sn_in (9 : Int32) 119) (sn_gd (sn_in (9 : Int32) 119) (sn_lt (sn_pI σ_5 1 (9 : Int32).toNatClampNeg ((sn_I σ_5 1 (9 : Int32).toNatClampNeg) + (1 : Int32))) fun σ_9 => ((fX9_asksHouse σ_9).bind fun t_11 => (some ((0 : Int32), t_11.2)))))))))))
theorem wX9_keepAct_in (C : sn_C p s m args meth c RX9 cX9_keepAct 2 (some .int) D ct ad layM A) {σ : sn_S} {x1 : Int32}  {o : (Int32 × sn_S)} (hf : fX9_keepAct σ x1 = some o) (kr : sn_Kr p l e rmX9_keepAct s m args below meth c Q D ct ad layM A cX9_keepAct .ireturn (true) o.2 [.int o.1]) : sn_At p l e rmX9_keepAct s m args below meth c Q D ct ad layM A 2 σ 0 [(0, .ref (ad 0)), (1, .int x1)] [] := by
  intro H locs ls hw hl
  have hx := C.1
  have hb := C.2.1
  unfold fX9_keepAct at hf
  refine lv_aload_n hx hb dX9_keepAct_0 rfl (lv_at hl 0 rfl) ?_
  refine sn_getC (r := 1) C hw fd_RX9_9 layM_0 rfl dX9_keepAct_1 ?_
  refine lv_bipush (v := 9) hx hb dX9_keepAct_4 (by decide) ?_
  obtain ⟨g_1, hf⟩ := sn_gdE hf
  refine sn_iald C hw layM_1 g_1 dX9_keepAct_6 ?_
  refine lv_bipush (v := 40) hx hb dX9_keepAct_7 (by decide) ?_
  refine lv_icmp_ne (tgt := 15) hx hb dX9_keepAct_9 (by decide) (fun c_2 => ?_) (fun c_2 => ?_)
  · have hf := sn_el c_2 hf
    refine lv_aload_n hx hb dX9_keepAct_15 rfl (lv_at hl 0 rfl) ?_
    refine sn_getC (r := 1) C hw fd_RX9_9 layM_0 rfl dX9_keepAct_16 ?_
    refine lv_bipush (v := 79) hx hb dX9_keepAct_19 (by decide) ?_
    refine lv_aload_n hx hb dX9_keepAct_21 rfl (lv_at hl 0 rfl) ?_
    refine sn_getC (r := 1) C hw fd_RX9_9 layM_0 rfl dX9_keepAct_22 ?_
    refine lv_bipush (v := 9) hx hb dX9_keepAct_25 (by decide) ?_
    obtain ⟨g_3, hf⟩ := sn_gdE hf
    refine sn_iald C hw layM_1 g_3 dX9_keepAct_27 ?_
    refine lv_iadd hx hb dX9_keepAct_28 ?_
    refine lv_iload_n hx hb dX9_keepAct_29 rfl (lv_at hl 1 rfl) ?_
    obtain ⟨g_4, hf⟩ := sn_gdE hf
    refine sn_iast C hw layM_1 g_4 dX9_keepAct_30 (fun H locs hw => ?_)
    obtain ⟨σ_5, e_6, hf⟩ := sn_ltE hf
    rw [← e_6] at hw
    refine lv_aload_n hx hb dX9_keepAct_31 rfl (lv_at hl 0 rfl) ?_
    refine sn_getC (r := 1) C hw fd_RX9_9 layM_0 rfl dX9_keepAct_32 ?_
    refine lv_bipush (v := 9) hx hb dX9_keepAct_35 (by decide) ?_
    refine lv_dup2_11 hx hb dX9_keepAct_37 rfl rfl ?_
    obtain ⟨g_7, hf⟩ := sn_gdE hf
    refine sn_iald C hw layM_1 g_7 dX9_keepAct_38 ?_
    refine lv_iconst (v := 1) hx hb dX9_keepAct_39 rfl ?_
    refine lv_iadd hx hb dX9_keepAct_40 ?_
    obtain ⟨g_8, hf⟩ := sn_gdE hf
    refine sn_iast C hw layM_1 g_8 dX9_keepAct_41 (fun H locs hw => ?_)
    obtain ⟨σ_9, e_10, hf⟩ := sn_ltE hf
    rw [← e_10] at hw
    refine lv_aload_n hx hb dX9_keepAct_42 rfl (lv_at hl 0 rfl) ?_
    obtain ⟨t_11, h_12, hf⟩ := sn_bd hf
    refine sn_callVi (rest := []) C hw (ctX9_asksHouse l  h_12) kl_RX9_272 layM_0 rfl rfl rfl rfl (Nat.le_of_ble_eq_true rfl) dX9_keepAct_43 hl.1 (fun H locs hw => ?_)
    refine lv_pop hx hb dX9_keepAct_46 rfl ?_
    refine lv_iconst (v := 0) hx hb dX9_keepAct_47 rfl ?_
    cases hf
    exact kr _ _ _ _ hw rfl dX9_keepAct_48
  · have hf := sn_if c_2 hf
    refine lv_bipush (v := (-5)) hx hb dX9_keepAct_12 (by decide) ?_
    cases hf
    exact kr _ _ _ _ hw rfl dX9_keepAct_14
theorem ctX9_keepAct (l : Launch) {σ : sn_S} {x1 : Int32}  {o : (Int32 × sn_S)} (hf : fX9_keepAct σ x1 = some o) : sn_M l yX9_keepAct cX9_keepAct 2 (some .int) rmX9_keepAct layM (fun ad => [.ref (ad 0), .int x1]) σ (some (fun _ => .int o.1)) o.2 :=
  sn_met (by decide) (fun _ => Nat.le_of_ble_eq_true rfl) (fun p e s m args below meth c ls D ct ad A C hw hl => wX9_keepAct_in C  hf (fun H locs ls pc hw ok hd => sn_iret C hw hd) _ _ _ hw hl)
-- X9_stifle
abbrev rmX9_stifle : Room := { frames := 6, cells := 0, slots := 0, locals := 136 }
def fX9_stifle (σ : sn_S) (x1 : Int32) (x2 : Int32) : Option (Int32 × sn_S) :=
  ((fX9_isPerson σ x1.toInt64).bind fun t_1 => (if t_1 = 0 then
  (some ((-2 : Int32), σ))
  else
  ((fX9_isMinute σ x2.toInt64).bind fun t_4 => (if t_4 = 0 then
  (some ((-2 : Int32), σ))
  else
  ((fX9_keepAct σ (((200 : Int32) * x1) + ((2 : Int32) * x2))).bind fun t_7 => (if 0 ≤ t_7.1 then
  (sn_gd (sn_in (((6 : Int32) * x2) + x1) 180) (some ((sn_I t_7.2 12 (((6 : Int32) * x2) + x1).toNatClampNeg), t_7.2)))
  else
  (some ((-5 : Int32), t_7.2))))))))
theorem wX9_stifle_in (C : sn_C p s m args meth c RX9 cX9_stifle 3 (some .int) D ct ad layM A) {σ : sn_S} {x1 : Int32} {x2 : Int32}  {o : (Int32 × sn_S)} (hf : fX9_stifle σ x1 x2 = some o) (kr : sn_Kr p l e rmX9_stifle s m args below meth c Q D ct ad layM A cX9_stifle .ireturn (true) o.2 [.int o.1]) : sn_At p l e rmX9_stifle s m args below meth c Q D ct ad layM A 3 σ 0 [(0, .ref (ad 0)), (1, .int x1), (2, .int x2)] [] := by
  intro H locs ls hw hl
  have hx := C.1
  have hb := C.2.1
  unfold fX9_stifle at hf
  refine lv_aload_n hx hb dX9_stifle_0 rfl (lv_at hl 0 rfl) ?_
  refine lv_iload_n hx hb dX9_stifle_1 rfl (lv_at hl 1 rfl) ?_
  refine lv_i2l hx hb dX9_stifle_2 rfl ?_
  obtain ⟨t_1, h_2, hf⟩ := sn_bd hf
  refine sn_callVi (rest := []) C hw (ctX9_isPerson l  h_2) kl_RX9_224 layM_0 rfl rfl rfl rfl (Nat.le_of_ble_eq_true rfl) dX9_stifle_3 hl.1 (fun H locs hw => ?_)
  refine lv_if_eq (tgt := 18) hx hb dX9_stifle_6 (by decide) (fun c_3 => ?_) (fun c_3 => ?_)
  · have hf := sn_if c_3 hf
    refine lv_bipush (v := (-2)) hx hb dX9_stifle_18 (by decide) ?_
    cases hf
    exact kr _ _ _ _ hw rfl dX9_stifle_20
  · have hf := sn_el c_3 hf
    refine lv_aload_n hx hb dX9_stifle_9 rfl (lv_at hl 0 rfl) ?_
    refine lv_iload_n hx hb dX9_stifle_10 rfl (lv_at hl 2 rfl) ?_
    refine lv_i2l hx hb dX9_stifle_11 rfl ?_
    obtain ⟨t_4, h_5, hf⟩ := sn_bd hf
    refine sn_callVi (rest := []) C hw (ctX9_isMinute l  h_5) kl_RX9_275 layM_0 rfl rfl rfl rfl (Nat.le_of_ble_eq_true rfl) dX9_stifle_12 hl.1 (fun H locs hw => ?_)
    refine lv_if_ne (tgt := 21) hx hb dX9_stifle_15 (by decide) (fun c_6 => ?_) (fun c_6 => ?_)
    · have hf := sn_el c_6 hf
      refine lv_aload_n hx hb dX9_stifle_21 rfl (lv_at hl 0 rfl) ?_
      refine lv_sipush (v := 200) hx hb dX9_stifle_22 (by decide) ?_
      refine lv_iload_n hx hb dX9_stifle_25 rfl (lv_at hl 1 rfl) ?_
      refine lv_imul hx hb dX9_stifle_26 ?_
      refine lv_iconst (v := 2) hx hb dX9_stifle_27 rfl ?_
      refine lv_iload_n hx hb dX9_stifle_28 rfl (lv_at hl 2 rfl) ?_
      refine lv_imul hx hb dX9_stifle_29 ?_
      refine lv_iadd hx hb dX9_stifle_30 ?_
      obtain ⟨t_7, h_8, hf⟩ := sn_bd hf
      refine sn_callVi (rest := []) C hw (ctX9_keepAct l  h_8) kl_RX9_426 layM_0 rfl rfl rfl rfl (Nat.le_of_ble_eq_true rfl) dX9_stifle_31 hl.1 (fun H locs hw => ?_)
      refine lv_if_ge (tgt := 42) hx hb dX9_stifle_34 (by decide) (fun c_9 => ?_) (fun c_9 => ?_)
      · have hf := sn_if c_9 hf
        refine lv_aload_n hx hb dX9_stifle_42 rfl (lv_at hl 0 rfl) ?_
        refine sn_getC (r := 12) C hw fd_RX9_49 layM_0 rfl dX9_stifle_43 ?_
        refine lv_bipush (v := 6) hx hb dX9_stifle_46 (by decide) ?_
        refine lv_iload_n hx hb dX9_stifle_48 rfl (lv_at hl 2 rfl) ?_
        refine lv_imul hx hb dX9_stifle_49 ?_
        refine lv_iload_n hx hb dX9_stifle_50 rfl (lv_at hl 1 rfl) ?_
        refine lv_iadd hx hb dX9_stifle_51 ?_
        obtain ⟨g_10, hf⟩ := sn_gdE hf
        refine sn_iald C hw layM_12 g_10 dX9_stifle_52 ?_
        cases hf
        exact kr _ _ _ _ hw rfl dX9_stifle_53
      · have hf := sn_el c_9 hf
        refine lv_bipush (v := (-5)) hx hb dX9_stifle_37 (by decide) ?_
        refine lv_goto (tgt := 53) hx hb dX9_stifle_39 (by decide) ?_
        cases hf
        exact kr _ _ _ _ hw rfl dX9_stifle_53
    · have hf := sn_if c_6 hf
      refine lv_bipush (v := (-2)) hx hb dX9_stifle_18 (by decide) ?_
      cases hf
      exact kr _ _ _ _ hw rfl dX9_stifle_20
theorem ctX9_stifle (l : Launch) {σ : sn_S} {x1 : Int32} {x2 : Int32}  {o : (Int32 × sn_S)} (hf : fX9_stifle σ x1 x2 = some o) : sn_M l yX9_stifle cX9_stifle 3 (some .int) rmX9_stifle layM (fun ad => [.ref (ad 0), .int x1, .int x2]) σ (some (fun _ => .int o.1)) o.2 :=
  sn_met (by decide) (fun _ => Nat.le_of_ble_eq_true rfl) (fun p e s m args below meth c ls D ct ad A C hw hl => wX9_stifle_in C  hf (fun H locs ls pc hw ok hd => sn_iret C hw hd) _ _ _ hw hl)
-- X9_sniff
abbrev rmX9_sniff : Room := { frames := 6, cells := 0, slots := 0, locals := 136 }
def fX9_sniff (σ : sn_S) (x1 : Int32) (x2 : Int32) : Option (Int32 × sn_S) :=
  ((fX9_isPerson σ x1.toInt64).bind fun t_1 => (if t_1 = 0 then
  (some ((-2 : Int32), σ))
  else
  ((fX9_isMinute σ x2.toInt64).bind fun t_4 => (if t_4 = 0 then
  (some ((-2 : Int32), σ))
  else
  ((fX9_keepAct σ ((((200 : Int32) * x1) + ((2 : Int32) * x2)) + (1 : Int32))).bind fun t_7 => (if 0 ≤ t_7.1 then
  (sn_gd (sn_in x1 6) ((fX9_bit (sn_I t_7.2 10 x1.toNatClampNeg) x2).bind fun t_11 => (some (t_11, t_7.2))))
  else
  (some ((-5 : Int32), t_7.2))))))))
theorem wX9_sniff_in (C : sn_C p s m args meth c RX9 cX9_sniff 3 (some .int) D ct ad layM A) {σ : sn_S} {x1 : Int32} {x2 : Int32}  {o : (Int32 × sn_S)} (hf : fX9_sniff σ x1 x2 = some o) (kr : sn_Kr p l e rmX9_sniff s m args below meth c Q D ct ad layM A cX9_sniff .ireturn (true) o.2 [.int o.1]) : sn_At p l e rmX9_sniff s m args below meth c Q D ct ad layM A 3 σ 0 [(0, .ref (ad 0)), (1, .int x1), (2, .int x2)] [] := by
  intro H locs ls hw hl
  have hx := C.1
  have hb := C.2.1
  unfold fX9_sniff at hf
  refine lv_aload_n hx hb dX9_sniff_0 rfl (lv_at hl 0 rfl) ?_
  refine lv_iload_n hx hb dX9_sniff_1 rfl (lv_at hl 1 rfl) ?_
  refine lv_i2l hx hb dX9_sniff_2 rfl ?_
  obtain ⟨t_1, h_2, hf⟩ := sn_bd hf
  refine sn_callVi (rest := []) C hw (ctX9_isPerson l  h_2) kl_RX9_224 layM_0 rfl rfl rfl rfl (Nat.le_of_ble_eq_true rfl) dX9_sniff_3 hl.1 (fun H locs hw => ?_)
  refine lv_if_eq (tgt := 18) hx hb dX9_sniff_6 (by decide) (fun c_3 => ?_) (fun c_3 => ?_)
  · have hf := sn_if c_3 hf
    refine lv_bipush (v := (-2)) hx hb dX9_sniff_18 (by decide) ?_
    cases hf
    exact kr _ _ _ _ hw rfl dX9_sniff_20
  · have hf := sn_el c_3 hf
    refine lv_aload_n hx hb dX9_sniff_9 rfl (lv_at hl 0 rfl) ?_
    refine lv_iload_n hx hb dX9_sniff_10 rfl (lv_at hl 2 rfl) ?_
    refine lv_i2l hx hb dX9_sniff_11 rfl ?_
    obtain ⟨t_4, h_5, hf⟩ := sn_bd hf
    refine sn_callVi (rest := []) C hw (ctX9_isMinute l  h_5) kl_RX9_275 layM_0 rfl rfl rfl rfl (Nat.le_of_ble_eq_true rfl) dX9_sniff_12 hl.1 (fun H locs hw => ?_)
    refine lv_if_ne (tgt := 21) hx hb dX9_sniff_15 (by decide) (fun c_6 => ?_) (fun c_6 => ?_)
    · have hf := sn_el c_6 hf
      refine lv_aload_n hx hb dX9_sniff_21 rfl (lv_at hl 0 rfl) ?_
      refine lv_sipush (v := 200) hx hb dX9_sniff_22 (by decide) ?_
      refine lv_iload_n hx hb dX9_sniff_25 rfl (lv_at hl 1 rfl) ?_
      refine lv_imul hx hb dX9_sniff_26 ?_
      refine lv_iconst (v := 2) hx hb dX9_sniff_27 rfl ?_
      refine lv_iload_n hx hb dX9_sniff_28 rfl (lv_at hl 2 rfl) ?_
      refine lv_imul hx hb dX9_sniff_29 ?_
      refine lv_iadd hx hb dX9_sniff_30 ?_
      refine lv_iconst (v := 1) hx hb dX9_sniff_31 rfl ?_
      refine lv_iadd hx hb dX9_sniff_32 ?_
      obtain ⟨t_7, h_8, hf⟩ := sn_bd hf
      refine sn_callVi (rest := []) C hw (ctX9_keepAct l  h_8) kl_RX9_426 layM_0 rfl rfl rfl rfl (Nat.le_of_ble_eq_true rfl) dX9_sniff_33 hl.1 (fun H locs hw => ?_)
      refine lv_if_ge (tgt := 44) hx hb dX9_sniff_36 (by decide) (fun c_9 => ?_) (fun c_9 => ?_)
      · have hf := sn_if c_9 hf
        refine lv_aload_n hx hb dX9_sniff_44 rfl (lv_at hl 0 rfl) ?_
        refine sn_getC (r := 10) C hw fd_RX9_43 layM_0 rfl dX9_sniff_45 ?_
        refine lv_iload_n hx hb dX9_sniff_48 rfl (lv_at hl 1 rfl) ?_
        obtain ⟨g_10, hf⟩ := sn_gdE hf
        refine sn_iald C hw layM_10 g_10 dX9_sniff_49 ?_
        refine lv_iload_n hx hb dX9_sniff_50 rfl (lv_at hl 2 rfl) ?_
        obtain ⟨t_11, h_12, hf⟩ := sn_bd hf
        refine sn_callSi (rest := []) C hw (ctX9_bit l  h_12) kl_RX9_254 rfl rfl rfl (Nat.le_of_ble_eq_true rfl) dX9_sniff_51 hl.1 (fun H locs hw => ?_)
        cases hf
        exact kr _ _ _ _ hw rfl dX9_sniff_54
      · have hf := sn_el c_9 hf
        refine lv_bipush (v := (-5)) hx hb dX9_sniff_39 (by decide) ?_
        refine lv_goto (tgt := 54) hx hb dX9_sniff_41 (by decide) ?_
        cases hf
        exact kr _ _ _ _ hw rfl dX9_sniff_54
    · have hf := sn_if c_6 hf
      refine lv_bipush (v := (-2)) hx hb dX9_sniff_18 (by decide) ?_
      cases hf
      exact kr _ _ _ _ hw rfl dX9_sniff_20
theorem ctX9_sniff (l : Launch) {σ : sn_S} {x1 : Int32} {x2 : Int32}  {o : (Int32 × sn_S)} (hf : fX9_sniff σ x1 x2 = some o) : sn_M l yX9_sniff cX9_sniff 3 (some .int) rmX9_sniff layM (fun ad => [.ref (ad 0), .int x1, .int x2]) σ (some (fun _ => .int o.1)) o.2 :=
  sn_met (by decide) (fun _ => Nat.le_of_ble_eq_true rfl) (fun p e s m args below meth c ls D ct ad A C hw hl => wX9_sniff_in C  hf (fun H locs ls pc hw ok hd => sn_iret C hw hd) _ _ _ hw hl)
-- X9_undo
abbrev rmX9_undo : Room := { frames := 1, cells := 0, slots := 0, locals := 20 }
def fX9_undo (σ : sn_S) : Option (Int32 × sn_S) :=
  ((fX9_isHouse σ).bind fun t_1 => (if t_1 = 0 then
  (some ((-2 : Int32), σ))
  else
  (sn_gd (sn_in (9 : Int32) 119) (if (sn_I σ 1 (9 : Int32).toNatClampNeg) = 0 then
  (some ((-5 : Int32), σ))
  else
  (sn_gd (sn_in (9 : Int32) 119) (sn_gd (sn_in (9 : Int32) 119) (sn_lt (sn_pI σ 1 (9 : Int32).toNatClampNeg ((sn_I σ 1 (9 : Int32).toNatClampNeg) - (1 : Int32))) fun σ_8 => (sn_gd (sn_in (9 : Int32) 119) (some ((sn_I σ_8 1 (9 : Int32).toNatClampNeg), σ_8))))))))))
theorem wX9_undo_in (C : sn_C p s m args meth c RX9 cX9_undo 1 (some .int) D ct ad layM A) {σ : sn_S}  {o : (Int32 × sn_S)} (hf : fX9_undo σ = some o) (kr : sn_Kr p l e rmX9_undo s m args below meth c Q D ct ad layM A cX9_undo .ireturn (true) o.2 [.int o.1]) : sn_At p l e rmX9_undo s m args below meth c Q D ct ad layM A 1 σ 0 [(0, .ref (ad 0))] [] := by
  intro H locs ls hw hl
  have hx := C.1
  have hb := C.2.1
  unfold fX9_undo at hf
  refine lv_aload_n hx hb dX9_undo_0 rfl (lv_at hl 0 rfl) ?_
  obtain ⟨t_1, h_2, hf⟩ := sn_bd hf
  refine sn_callVi (rest := []) C hw (ctX9_isHouse l  h_2) kl_RX9_269 layM_0 rfl rfl rfl rfl (Nat.le_of_ble_eq_true rfl) dX9_undo_1 hl.1 (fun H locs hw => ?_)
  refine lv_if_ne (tgt := 10) hx hb dX9_undo_4 (by decide) (fun c_3 => ?_) (fun c_3 => ?_)
  · have hf := sn_el c_3 hf
    refine lv_aload_n hx hb dX9_undo_10 rfl (lv_at hl 0 rfl) ?_
    refine sn_getC (r := 1) C hw fd_RX9_9 layM_0 rfl dX9_undo_11 ?_
    refine lv_bipush (v := 9) hx hb dX9_undo_14 (by decide) ?_
    obtain ⟨g_4, hf⟩ := sn_gdE hf
    refine sn_iald C hw layM_1 g_4 dX9_undo_16 ?_
    refine lv_if_ne (tgt := 23) hx hb dX9_undo_17 (by decide) (fun c_5 => ?_) (fun c_5 => ?_)
    · have hf := sn_el c_5 hf
      refine lv_aload_n hx hb dX9_undo_23 rfl (lv_at hl 0 rfl) ?_
      refine sn_getC (r := 1) C hw fd_RX9_9 layM_0 rfl dX9_undo_24 ?_
      refine lv_bipush (v := 9) hx hb dX9_undo_27 (by decide) ?_
      refine lv_dup2_11 hx hb dX9_undo_29 rfl rfl ?_
      obtain ⟨g_6, hf⟩ := sn_gdE hf
      refine sn_iald C hw layM_1 g_6 dX9_undo_30 ?_
      refine lv_iconst (v := 1) hx hb dX9_undo_31 rfl ?_
      refine lv_isub hx hb dX9_undo_32 ?_
      obtain ⟨g_7, hf⟩ := sn_gdE hf
      refine sn_iast C hw layM_1 g_7 dX9_undo_33 (fun H locs hw => ?_)
      obtain ⟨σ_8, e_9, hf⟩ := sn_ltE hf
      rw [← e_9] at hw
      refine lv_aload_n hx hb dX9_undo_34 rfl (lv_at hl 0 rfl) ?_
      refine sn_getC (r := 1) C hw fd_RX9_9 layM_0 rfl dX9_undo_35 ?_
      refine lv_bipush (v := 9) hx hb dX9_undo_38 (by decide) ?_
      obtain ⟨g_10, hf⟩ := sn_gdE hf
      refine sn_iald C hw layM_1 g_10 dX9_undo_40 ?_
      cases hf
      exact kr _ _ _ _ hw rfl dX9_undo_41
    · have hf := sn_if c_5 hf
      refine lv_bipush (v := (-5)) hx hb dX9_undo_20 (by decide) ?_
      cases hf
      exact kr _ _ _ _ hw rfl dX9_undo_22
  · have hf := sn_if c_3 hf
    refine lv_bipush (v := (-2)) hx hb dX9_undo_7 (by decide) ?_
    cases hf
    exact kr _ _ _ _ hw rfl dX9_undo_9
theorem ctX9_undo (l : Launch) {σ : sn_S}  {o : (Int32 × sn_S)} (hf : fX9_undo σ = some o) : sn_M l yX9_undo cX9_undo 1 (some .int) rmX9_undo layM (fun ad => [.ref (ad 0)]) σ (some (fun _ => .int o.1)) o.2 :=
  sn_met (by decide) (fun _ => Nat.le_of_ble_eq_true rfl) (fun p e s m args below meth c ls D ct ad A C hw hl => wX9_undo_in C  hf (fun H locs ls pc hw ok hd => sn_iret C hw hd) _ _ _ hw hl)
-- X9_anew
abbrev rmX9_anew : Room := { frames := 1, cells := 0, slots := 0, locals := 20 }
def fX9_anew (σ : sn_S) : Option (Int32 × sn_S) :=
  ((fX9_isHouse σ).bind fun t_1 => (if t_1 = 0 then
  (some ((-2 : Int32), σ))
  else
  (sn_gd (sn_in (9 : Int32) 119) (sn_lt (sn_I σ 1 (9 : Int32).toNatClampNeg) fun y_5 => (sn_gd (sn_in (9 : Int32) 119) (sn_lt (sn_pI σ 1 (9 : Int32).toNatClampNeg (0 : Int32)) fun σ_8 => (some (y_5, σ_8))))))))
theorem wX9_anew_in (C : sn_C p s m args meth c RX9 cX9_anew 2 (some .int) D ct ad layM A) {σ : sn_S}  {o : (Int32 × sn_S)} (hf : fX9_anew σ = some o) (kr : sn_Kr p l e rmX9_anew s m args below meth c Q D ct ad layM A cX9_anew .ireturn (true) o.2 [.int o.1]) : sn_At p l e rmX9_anew s m args below meth c Q D ct ad layM A 2 σ 0 [(0, .ref (ad 0))] [] := by
  intro H locs ls hw hl
  have hx := C.1
  have hb := C.2.1
  unfold fX9_anew at hf
  refine lv_aload_n hx hb dX9_anew_0 rfl (lv_at hl 0 rfl) ?_
  obtain ⟨t_1, h_2, hf⟩ := sn_bd hf
  refine sn_callVi (rest := []) C hw (ctX9_isHouse l  h_2) kl_RX9_269 layM_0 rfl rfl rfl rfl (Nat.le_of_ble_eq_true rfl) dX9_anew_1 hl.1 (fun H locs hw => ?_)
  refine lv_if_ne (tgt := 10) hx hb dX9_anew_4 (by decide) (fun c_3 => ?_) (fun c_3 => ?_)
  · have hf := sn_el c_3 hf
    refine lv_aload_n hx hb dX9_anew_10 rfl (lv_at hl 0 rfl) ?_
    refine sn_getC (r := 1) C hw fd_RX9_9 layM_0 rfl dX9_anew_11 ?_
    refine lv_bipush (v := 9) hx hb dX9_anew_14 (by decide) ?_
    obtain ⟨g_4, hf⟩ := sn_gdE hf
    refine sn_iald C hw layM_1 g_4 dX9_anew_16 ?_
    obtain ⟨y_5, e_6, hf⟩ := sn_ltE hf
    refine lv_topi (fun y_5_ e_6_ => ?_)
    obtain rfl : y_5 = y_5_ := e_6.trans e_6_.symm
    refine lv_istore_n (lv' := [(1, .int y_5), (0, .ref (ad 0))]) hx hb dX9_anew_17 rfl hl (by decide) rfl (fun ls hl => ?_)
    refine lv_aload_n hx hb dX9_anew_18 rfl (lv_at hl 1 rfl) ?_
    refine sn_getC (r := 1) C hw fd_RX9_9 layM_0 rfl dX9_anew_19 ?_
    refine lv_bipush (v := 9) hx hb dX9_anew_22 (by decide) ?_
    refine lv_iconst (v := 0) hx hb dX9_anew_24 rfl ?_
    obtain ⟨g_7, hf⟩ := sn_gdE hf
    refine sn_iast C hw layM_1 g_7 dX9_anew_25 (fun H locs hw => ?_)
    obtain ⟨σ_8, e_9, hf⟩ := sn_ltE hf
    rw [← e_9] at hw
    refine lv_iload_n hx hb dX9_anew_26 rfl (lv_at hl 0 rfl) ?_
    cases hf
    exact kr _ _ _ _ hw rfl dX9_anew_27
  · have hf := sn_if c_3 hf
    refine lv_bipush (v := (-2)) hx hb dX9_anew_7 (by decide) ?_
    cases hf
    exact kr _ _ _ _ hw rfl dX9_anew_9
theorem ctX9_anew (l : Launch) {σ : sn_S}  {o : (Int32 × sn_S)} (hf : fX9_anew σ = some o) : sn_M l yX9_anew cX9_anew 2 (some .int) rmX9_anew layM (fun ad => [.ref (ad 0)]) σ (some (fun _ => .int o.1)) o.2 :=
  sn_met (by decide) (fun _ => Nat.le_of_ble_eq_true rfl) (fun p e s m args below meth c ls D ct ad A C hw hl => wX9_anew_in C  hf (fun H locs ls pc hw ok hd => sn_iret C hw hd) _ _ _ hw hl)
-- X9_goDrawn
abbrev rmX9_goDrawn : Room := { frames := 4, cells := 0, slots := 0, locals := 95 }
def BX9_goDrawn_84 (σ : sn_S) (x5 : Int32) : Option ((Int32 × sn_S)) :=
  ((fX9_goAll σ).bind fun t_1 => (some (x5, t_1)))
def BX9_goDrawn_78 (σ : sn_S) (x3 : Int64) (x5 : Int32) (x6 : Int32) : Option ((sn_S × Int64 × Int32 × Int32) ⊕ (sn_S × Int32)) :=
  (sn_lt (x6 + 1) fun y_1 => (some (.inl (σ, x3, x5, y_1))))
def BX9_goDrawn_12 (σ : sn_S) (x3 : Int64) (x5 : Int32) (x6 : Int32) : Option ((sn_S × Int64 × Int32 × Int32) ⊕ (sn_S × Int32)) :=
  ((fX9_minutes σ).bind fun t_1 => (if t_1 ≤ x6 then
  (some (.inr (σ, x5)))
  else
  (sn_lt ((((1103515245 : Int64) * x3) + (12345 : Int64)) - (((1103515245 : Int64) * x3) + (12345 : Int64)) / (2147483648 : Int64) * (2147483648 : Int64)) fun y_4 => (sn_gd (sn_in (4 : Int32) 119) (if (lg_cmp ((y_4 / (65536 : Int64)) - (y_4 / (65536 : Int64)) / (10 : Int64) * (10 : Int64)) ((sn_I σ 1 (4 : Int32).toNatClampNeg).toInt64)) < 0 then
  (sn_gd (sn_in x6 30) (sn_gd (sn_in x6 30) (sn_lt (sn_pI σ 7 x6.toNatClampNeg ((sn_I σ 7 x6.toNatClampNeg) + (3 : Int32))) fun σ_10 => (sn_lt (x5 ||| ((1 : Int32) <<< (x6 &&& 31))) fun y_12 => (BX9_goDrawn_78 σ_10 y_4 y_12 x6)))))
  else
  (BX9_goDrawn_78 σ y_4 x5 x6))))))
def LX9_goDrawn_12  (s : sn_S × Int64 × Int32 × Int32) : Option ((sn_S × Int64 × Int32 × Int32) ⊕ (sn_S × Int32)) := BX9_goDrawn_12 s.1 s.2.1 s.2.2.1 s.2.2.2
def fX9_goDrawn (σ : sn_S) (x1 : Int64) : Option (Int32 × sn_S) :=
  ((fX9_asItIs σ).bind fun t_1 => ((sn_it (LX9_goDrawn_12 ) 5000 (t_1, x1, (0 : Int32), (0 : Int32))).bind fun t_3 => (BX9_goDrawn_84 t_3.1 t_3.2)))
theorem wX9_goDrawn_84 (C : sn_C p s m args meth c RX9 cX9_goDrawn 7 (some .int) D ct ad layM A) {σ : sn_S} {x5 : Int32}  {o : (Int32 × sn_S)} (hf : BX9_goDrawn_84 σ x5 = some o) (kr : sn_Kr p l e rmX9_goDrawn s m args below meth c Q D ct ad layM A cX9_goDrawn .ireturn (true) o.2 [.int o.1]) : sn_At p l e rmX9_goDrawn s m args below meth c Q D ct ad layM A 7 σ 84 [(0, .ref (ad 0)), (5, .int x5)] [] := by
  intro H locs ls hw hl
  have hx := C.1
  have hb := C.2.1
  unfold BX9_goDrawn_84 at hf
  refine lv_aload_n hx hb dX9_goDrawn_84 rfl (lv_at hl 0 rfl) ?_
  obtain ⟨t_1, h_2, hf⟩ := sn_bd hf
  refine sn_callVv (rest := []) C hw (ctX9_goAll l  h_2) kl_RX9_266 layM_0 rfl rfl rfl rfl (Nat.le_of_ble_eq_true rfl) dX9_goDrawn_85 hl.1 (fun H locs hw => ?_)
  refine lv_iload hx hb dX9_goDrawn_88 (lv_at hl 1 rfl) ?_
  cases hf
  exact kr _ _ _ _ hw rfl dX9_goDrawn_90
theorem wX9_goDrawn_78 (C : sn_C p s m args meth c RX9 cX9_goDrawn 7 (some .int) D ct ad layM A) {σ : sn_S} {x3 : Int64} {x5 : Int32} {x6 : Int32}  {o : (sn_S × Int64 × Int32 × Int32) ⊕ (sn_S × Int32)} (hf : BX9_goDrawn_78 σ x3 x5 x6 = some o) (kc : ∀ v, o = .inl v → sn_At p l e rmX9_goDrawn s m args below meth c Q D ct ad layM A 7 v.1 12 [(0, .ref (ad 0)), (3, .long v.2.1), (5, .int v.2.2.1), (6, .int v.2.2.2)] []) (kx : ∀ v, o = .inr v → sn_At p l e rmX9_goDrawn s m args below meth c Q D ct ad layM A 7 v.1 84 [(0, .ref (ad 0)), (5, .int v.2)] []) : sn_At p l e rmX9_goDrawn s m args below meth c Q D ct ad layM A 7 σ 78 [(0, .ref (ad 0)), (3, .long x3), (5, .int x5), (6, .int x6)] [] := by
  intro H locs ls hw hl
  have hx := C.1
  have hb := C.2.1
  unfold BX9_goDrawn_78 at hf
  obtain ⟨y_1, e_2, hf⟩ := sn_ltE hf
  refine lv_iinc (v := y_1) (lv' := [(6, .int y_1), (0, .ref (ad 0)), (3, .long x3), (5, .int x5)]) hx hb dX9_goDrawn_78 hl (k := 3) rfl (by rw [e_2]; rfl) (by decide) rfl (fun ls hl => ?_)
  refine lv_goto (tgt := 12) hx hb dX9_goDrawn_81 (by decide) ?_
  cases hf
  exact kc _ rfl _ _ _ hw (lv_sub hl [1, 2, 3, 0] rfl)
theorem wX9_goDrawn_12 (C : sn_C p s m args meth c RX9 cX9_goDrawn 7 (some .int) D ct ad layM A) {σ : sn_S} {x3 : Int64} {x5 : Int32} {x6 : Int32}  {o : (sn_S × Int64 × Int32 × Int32) ⊕ (sn_S × Int32)} (hf : BX9_goDrawn_12 σ x3 x5 x6 = some o) (kc : ∀ v, o = .inl v → sn_At p l e rmX9_goDrawn s m args below meth c Q D ct ad layM A 7 v.1 12 [(0, .ref (ad 0)), (3, .long v.2.1), (5, .int v.2.2.1), (6, .int v.2.2.2)] []) (kx : ∀ v, o = .inr v → sn_At p l e rmX9_goDrawn s m args below meth c Q D ct ad layM A 7 v.1 84 [(0, .ref (ad 0)), (5, .int v.2)] []) : sn_At p l e rmX9_goDrawn s m args below meth c Q D ct ad layM A 7 σ 12 [(0, .ref (ad 0)), (3, .long x3), (5, .int x5), (6, .int x6)] [] := by
  intro H locs ls hw hl
  have hx := C.1
  have hb := C.2.1
  unfold BX9_goDrawn_12 at hf
  refine lv_iload hx hb dX9_goDrawn_12 (lv_at hl 3 rfl) ?_
  refine lv_aload_n hx hb dX9_goDrawn_14 rfl (lv_at hl 0 rfl) ?_
  obtain ⟨t_1, h_2, hf⟩ := sn_bd hf
  refine sn_callVi (rest := [.int x6]) C hw (ctX9_minutes l  h_2) kl_RX9_249 layM_0 rfl rfl rfl rfl (Nat.le_of_ble_eq_true rfl) dX9_goDrawn_15 hl.1 (fun H locs hw => ?_)
  refine lv_icmp_ge (tgt := 84) hx hb dX9_goDrawn_18 (by decide) (fun c_3 => ?_) (fun c_3 => ?_)
  · have hf := sn_if c_3 hf
    cases hf
    exact kx _ rfl _ _ _ hw (lv_sub hl [0, 2] rfl)
  · have hf := sn_el c_3 hf
    refine lv_ldc2 hx hb C.2.2.2.1 (C.2.2.2.2.1 _ kk_RX9_429) dX9_goDrawn_21 ?_
    refine lv_lload_n hx hb dX9_goDrawn_24 rfl (lv_at hl 1 rfl) ?_
    refine lv_lmul hx hb dX9_goDrawn_25 ?_
    refine lv_ldc2 hx hb C.2.2.2.1 (C.2.2.2.2.1 _ kk_RX9_431) dX9_goDrawn_26 ?_
    refine lv_ladd hx hb dX9_goDrawn_29 ?_
    refine lv_ldc2 hx hb C.2.2.2.1 (C.2.2.2.2.1 _ kk_RX9_433) dX9_goDrawn_30 ?_
    refine lv_lrem hx hb dX9_goDrawn_33 (by decide) ?_
    obtain ⟨y_4, e_5, hf⟩ := sn_ltE hf
    refine lv_topl (fun y_4_ e_5_ => ?_)
    obtain rfl : y_4 = y_4_ := e_5.trans e_5_.symm
    refine lv_lstore_n (lv' := [(3, .long y_4), (0, .ref (ad 0)), (5, .int x5), (6, .int x6)]) hx hb dX9_goDrawn_34 rfl hl (by decide) rfl (fun ls hl => ?_)
    refine lv_lload_n hx hb dX9_goDrawn_35 rfl (lv_at hl 0 rfl) ?_
    refine lv_ldc2 hx hb C.2.2.2.1 (C.2.2.2.2.1 _ kk_RX9_435) dX9_goDrawn_36 ?_
    refine lv_ldiv hx hb dX9_goDrawn_39 (by decide) ?_
    refine lv_ldc2 hx hb C.2.2.2.1 (C.2.2.2.2.1 _ kk_RX9_437) dX9_goDrawn_40 ?_
    refine lv_lrem hx hb dX9_goDrawn_43 (by decide) ?_
    refine lv_aload_n hx hb dX9_goDrawn_44 rfl (lv_at hl 1 rfl) ?_
    refine sn_getC (r := 1) C hw fd_RX9_9 layM_0 rfl dX9_goDrawn_45 ?_
    refine lv_iconst (v := 4) hx hb dX9_goDrawn_48 rfl ?_
    obtain ⟨g_6, hf⟩ := sn_gdE hf
    refine sn_iald C hw layM_1 g_6 dX9_goDrawn_49 ?_
    refine lv_i2l hx hb dX9_goDrawn_50 rfl ?_
    refine W.lcmp hx hb dX9_goDrawn_51 ?_
    refine lv_if_lt (tgt := 58) hx hb dX9_goDrawn_52 (by decide) (fun c_7 => ?_) (fun c_7 => ?_)
    · have hf := sn_if c_7 hf
      refine lv_aload_n hx hb dX9_goDrawn_58 rfl (lv_at hl 1 rfl) ?_
      refine sn_getC (r := 7) C hw fd_RX9_34 layM_0 rfl dX9_goDrawn_59 ?_
      refine lv_iload hx hb dX9_goDrawn_62 (lv_at hl 3 rfl) ?_
      refine lv_dup2_11 hx hb dX9_goDrawn_64 rfl rfl ?_
      obtain ⟨g_8, hf⟩ := sn_gdE hf
      refine sn_iald C hw layM_7 g_8 dX9_goDrawn_65 ?_
      refine lv_iconst (v := 3) hx hb dX9_goDrawn_66 rfl ?_
      refine lv_iadd hx hb dX9_goDrawn_67 ?_
      obtain ⟨g_9, hf⟩ := sn_gdE hf
      refine sn_iast C hw layM_7 g_9 dX9_goDrawn_68 (fun H locs hw => ?_)
      obtain ⟨σ_10, e_11, hf⟩ := sn_ltE hf
      rw [← e_11] at hw
      refine lv_iload hx hb dX9_goDrawn_69 (lv_at hl 2 rfl) ?_
      refine lv_iconst (v := 1) hx hb dX9_goDrawn_71 rfl ?_
      refine lv_iload hx hb dX9_goDrawn_72 (lv_at hl 3 rfl) ?_
      refine lv_ishl hx hb dX9_goDrawn_74 ?_
      refine lv_ior hx hb dX9_goDrawn_75 ?_
      obtain ⟨y_12, e_13, hf⟩ := sn_ltE hf
      refine lv_topi (fun y_12_ e_13_ => ?_)
      obtain rfl : y_12 = y_12_ := e_13.trans e_13_.symm
      refine lv_istore (lv' := [(5, .int y_12), (3, .long y_4), (0, .ref (ad 0)), (6, .int x6)]) hx hb dX9_goDrawn_76 hl (by decide) rfl (fun ls hl => ?_)
      exact wX9_goDrawn_78 C  hf kc kx _ _ _ hw (lv_sub hl [2, 1, 0, 3] rfl)
    · have hf := sn_el c_7 hf
      refine lv_goto (tgt := 78) hx hb dX9_goDrawn_55 (by decide) ?_
      exact wX9_goDrawn_78 C  hf kc kx _ _ _ hw (lv_sub hl [1, 0, 2, 3] rfl)
theorem wX9_goDrawn_L12 (C : sn_C p s m args meth c RX9 cX9_goDrawn 7 (some .int) D ct ad layM A)    {z : sn_S × Int64 × Int32 × Int32} {t : sn_S × Int32} (h : sn_it (LX9_goDrawn_12 ) 5000 z = some t) (kx : ∀ v, t = v → sn_At p l e rmX9_goDrawn s m args below meth c Q D ct ad layM A 7 v.1 84 [(0, .ref (ad 0)), (5, .int v.2)] []) : sn_At p l e rmX9_goDrawn s m args below meth c Q D ct ad layM A 7 z.1 12 [(0, .ref (ad 0)), (3, .long z.2.1), (5, .int z.2.2.1), (6, .int z.2.2.2)] [] :=
  sn_loop (f := LX9_goDrawn_12 ) (G := fun z => sn_At p l e rmX9_goDrawn s m args below meth c Q D ct ad layM A 7 z.1 12 [(0, .ref (ad 0)), (3, .long z.2.1), (5, .int z.2.2.1), (6, .int z.2.2.2)] []) (E := fun t => (∀ v, t = v → sn_At p l e rmX9_goDrawn s m args below meth c Q D ct ad layM A 7 v.1 84 [(0, .ref (ad 0)), (5, .int v.2)] []) ∧ True) (fun z o hf k1 k2 => wX9_goDrawn_12 C  hf (fun v e => k1 v e) (fun v e => (k2 _ e).1 v rfl)) 5000 z t h ⟨kx, trivial⟩
theorem wX9_goDrawn_in (C : sn_C p s m args meth c RX9 cX9_goDrawn 7 (some .int) D ct ad layM A) {σ : sn_S} {x1 : Int64}  {o : (Int32 × sn_S)} (hf : fX9_goDrawn σ x1 = some o) (kr : sn_Kr p l e rmX9_goDrawn s m args below meth c Q D ct ad layM A cX9_goDrawn .ireturn (true) o.2 [.int o.1]) : sn_At p l e rmX9_goDrawn s m args below meth c Q D ct ad layM A 7 σ 0 [(0, .ref (ad 0)), (1, .long x1)] [] := by
  intro H locs ls hw hl
  have hx := C.1
  have hb := C.2.1
  unfold fX9_goDrawn at hf
  refine lv_aload_n hx hb dX9_goDrawn_0 rfl (lv_at hl 0 rfl) ?_
  obtain ⟨t_1, h_2, hf⟩ := sn_bd hf
  refine sn_callVv (rest := []) C hw (ctX9_asItIs l  h_2) kl_RX9_263 layM_0 rfl rfl rfl rfl (Nat.le_of_ble_eq_true rfl) dX9_goDrawn_1 hl.1 (fun H locs hw => ?_)
  refine lv_lload_n hx hb dX9_goDrawn_4 rfl (lv_at hl 1 rfl) ?_
  refine lv_lstore_n (lv' := [(3, .long x1), (0, .ref (ad 0)), (1, .long x1)]) hx hb dX9_goDrawn_5 rfl hl (by decide) rfl (fun ls hl => ?_)
  refine lv_iconst (v := 0) hx hb dX9_goDrawn_6 rfl ?_
  refine lv_istore (lv' := [(5, .int (0 : Int32)), (3, .long x1), (0, .ref (ad 0)), (1, .long x1)]) hx hb dX9_goDrawn_7 hl (by decide) rfl (fun ls hl => ?_)
  refine lv_iconst (v := 0) hx hb dX9_goDrawn_9 rfl ?_
  refine lv_istore (lv' := [(6, .int (0 : Int32)), (5, .int (0 : Int32)), (3, .long x1), (0, .ref (ad 0)), (1, .long x1)]) hx hb dX9_goDrawn_10 hl (by decide) rfl (fun ls hl => ?_)
  obtain ⟨t_3, h_4, hf⟩ := sn_bd hf
  exact wX9_goDrawn_L12 C  h_4 (fun v e => by cases e; exact wX9_goDrawn_84 C  hf kr) _ _ _ hw (lv_sub hl [3, 2, 1, 0] rfl)
theorem ctX9_goDrawn (l : Launch) {σ : sn_S} {x1 : Int64}  {o : (Int32 × sn_S)} (hf : fX9_goDrawn σ x1 = some o) : sn_M l yX9_goDrawn cX9_goDrawn 7 (some .int) rmX9_goDrawn layM (fun ad => [.ref (ad 0), .long x1]) σ (some (fun _ => .int o.1)) o.2 :=
  sn_met (by decide) (fun _ => Nat.le_of_ble_eq_true rfl) (fun p e s m args below meth c ls D ct ad A C hw hl => wX9_goDrawn_in C  hf (fun H locs ls pc hw ok hd => sn_iret C hw hd) _ _ _ hw hl)
-- X9_isSeed
abbrev rmX9_isSeed : Room := { frames := 1, cells := 0, slots := 0, locals := 25 }
def fX9_isSeed (x0 : Int32) : Option Int32 :=
  ((fX9_in x0.toInt64 (0 : Int64) (2000000000 : Int64)).bind fun t_1 => (sn_gd (sn_b01 t_1) (some t_1)))
theorem wX9_isSeed_in (C : sn_C p s m args meth c RX9 cX9_isSeed 1 (some .boolean) D ct ad layM A) {σ : sn_S} {x0 : Int32}  {o : Int32} (hf : fX9_isSeed x0 = some o) (kr : sn_Kr p l e rmX9_isSeed s m args below meth c Q D ct ad layM A cX9_isSeed .ireturn (sn_b01 o) σ [.int o]) : sn_At p l e rmX9_isSeed s m args below meth c Q D ct ad layM A 1 σ 0 [(0, .int x0)] [] := by
  intro H locs ls hw hl
  have hx := C.1
  have hb := C.2.1
  unfold fX9_isSeed at hf
  refine lv_iload_n hx hb dX9_isSeed_0 rfl (lv_at hl 0 rfl) ?_
  refine lv_i2l hx hb dX9_isSeed_1 rfl ?_
  refine lv_lconst (v := 0) hx hb dX9_isSeed_2 rfl ?_
  refine lv_ldc2 hx hb C.2.2.2.1 (C.2.2.2.2.1 _ kk_RX9_439) dX9_isSeed_3 ?_
  obtain ⟨t_1, h_2, hf⟩ := sn_bd hf
  refine sn_callSi (rest := []) C hw (ctX9_in l  h_2) kl_RX9_94 rfl rfl rfl (Nat.le_of_ble_eq_true rfl) dX9_isSeed_6 hl.1 (fun H locs hw => ?_)
  obtain ⟨g_3, hf⟩ := sn_gdE hf
  cases hf
  exact kr _ _ _ _ hw g_3 dX9_isSeed_9
theorem ctX9_isSeed (l : Launch) {σ : sn_S} {x0 : Int32}  {o : Int32} (hf : fX9_isSeed x0 = some o) : sn_M l yX9_isSeed cX9_isSeed 1 (some .boolean) rmX9_isSeed layM (fun ad => [.int x0]) σ (some (fun _ => .int o)) σ :=
  sn_met (by decide) (fun _ => Nat.le_of_ble_eq_true rfl) (fun p e s m args below meth c ls D ct ad A C hw hl => wX9_isSeed_in C  hf (fun H locs ls pc hw ok hd => sn_zret C hw ok hd) _ _ _ hw hl)
-- X9_drawn
abbrev rmX9_drawn : Room := { frames := 5, cells := 0, slots := 0, locals := 121 }
def fX9_drawn (σ : sn_S) (x1 : Int32) (x2 : Int32) : Option (Int32 × sn_S) :=
  ((fX9_isHouse σ).bind fun t_1 => (if t_1 = 0 then
  (some ((-2 : Int32), σ))
  else
  ((fX9_isSeed x1).bind fun t_4 => (if t_4 = 0 then
  (some ((-2 : Int32), σ))
  else
  ((fX9_in x2.toInt64 (0 : Int64) (2 : Int64)).bind fun t_7 => (if t_7 = 0 then
  (some ((-2 : Int32), σ))
  else
  ((fX9_goDrawn σ x1.toInt64).bind fun t_10 => (if x2 = 0 then
  (some (t_10.1, t_10.2))
  else
  (if x2 = (1 : Int32) then
  ((fX9_allSneezes t_10.2).bind fun t_16 => (some (t_16, t_10.2)))
  else
  ((fX9_ruinOf t_10.2).bind fun t_14 => (some (t_14.1, t_14.2))))))))))))
theorem wX9_drawn_in (C : sn_C p s m args meth c RX9 cX9_drawn 4 (some .int) D ct ad layM A) {σ : sn_S} {x1 : Int32} {x2 : Int32}  {o : (Int32 × sn_S)} (hf : fX9_drawn σ x1 x2 = some o) (kr : sn_Kr p l e rmX9_drawn s m args below meth c Q D ct ad layM A cX9_drawn .ireturn (true) o.2 [.int o.1]) : sn_At p l e rmX9_drawn s m args below meth c Q D ct ad layM A 4 σ 0 [(0, .ref (ad 0)), (1, .int x1), (2, .int x2)] [] := by
  intro H locs ls hw hl
  have hx := C.1
  have hb := C.2.1
  unfold fX9_drawn at hf
  refine lv_aload_n hx hb dX9_drawn_0 rfl (lv_at hl 0 rfl) ?_
  obtain ⟨t_1, h_2, hf⟩ := sn_bd hf
  refine sn_callVi (rest := []) C hw (ctX9_isHouse l  h_2) kl_RX9_269 layM_0 rfl rfl rfl rfl (Nat.le_of_ble_eq_true rfl) dX9_drawn_1 hl.1 (fun H locs hw => ?_)
  refine lv_if_eq (tgt := 26) hx hb dX9_drawn_4 (by decide) (fun c_3 => ?_) (fun c_3 => ?_)
  · have hf := sn_if c_3 hf
    refine lv_bipush (v := (-2)) hx hb dX9_drawn_26 (by decide) ?_
    cases hf
    exact kr _ _ _ _ hw rfl dX9_drawn_28
  · have hf := sn_el c_3 hf
    refine lv_iload_n hx hb dX9_drawn_7 rfl (lv_at hl 1 rfl) ?_
    obtain ⟨t_4, h_5, hf⟩ := sn_bd hf
    refine sn_callSi (rest := []) C hw (ctX9_isSeed l  h_5) kl_RX9_441 rfl rfl rfl (Nat.le_of_ble_eq_true rfl) dX9_drawn_8 hl.1 (fun H locs hw => ?_)
    refine lv_if_eq (tgt := 26) hx hb dX9_drawn_11 (by decide) (fun c_6 => ?_) (fun c_6 => ?_)
    · have hf := sn_if c_6 hf
      refine lv_bipush (v := (-2)) hx hb dX9_drawn_26 (by decide) ?_
      cases hf
      exact kr _ _ _ _ hw rfl dX9_drawn_28
    · have hf := sn_el c_6 hf
      refine lv_iload_n hx hb dX9_drawn_14 rfl (lv_at hl 2 rfl) ?_
      refine lv_i2l hx hb dX9_drawn_15 rfl ?_
      refine lv_lconst (v := 0) hx hb dX9_drawn_16 rfl ?_
      refine lv_ldc2 hx hb C.2.2.2.1 (C.2.2.2.2.1 _ kk_RX9_92) dX9_drawn_17 ?_
      obtain ⟨t_7, h_8, hf⟩ := sn_bd hf
      refine sn_callSi (rest := []) C hw (ctX9_in l  h_8) kl_RX9_94 rfl rfl rfl (Nat.le_of_ble_eq_true rfl) dX9_drawn_20 hl.1 (fun H locs hw => ?_)
      refine lv_if_ne (tgt := 29) hx hb dX9_drawn_23 (by decide) (fun c_9 => ?_) (fun c_9 => ?_)
      · have hf := sn_el c_9 hf
        refine lv_aload_n hx hb dX9_drawn_29 rfl (lv_at hl 0 rfl) ?_
        refine lv_iload_n hx hb dX9_drawn_30 rfl (lv_at hl 1 rfl) ?_
        refine lv_i2l hx hb dX9_drawn_31 rfl ?_
        obtain ⟨t_10, h_11, hf⟩ := sn_bd hf
        refine sn_callVi (rest := []) C hw (ctX9_goDrawn l  h_11) kl_RX9_444 layM_0 rfl rfl rfl rfl (Nat.le_of_ble_eq_true rfl) dX9_drawn_32 hl.1 (fun H locs hw => ?_)
        refine lv_istore_n (lv' := [(3, .int t_10.1), (0, .ref (ad 0)), (1, .int x1), (2, .int x2)]) hx hb dX9_drawn_35 rfl hl (by decide) rfl (fun ls hl => ?_)
        refine lv_iload_n hx hb dX9_drawn_36 rfl (lv_at hl 3 rfl) ?_
        refine lv_if_ne (tgt := 44) hx hb dX9_drawn_37 (by decide) (fun c_12 => ?_) (fun c_12 => ?_)
        · have hf := sn_el c_12 hf
          refine lv_iload_n hx hb dX9_drawn_44 rfl (lv_at hl 3 rfl) ?_
          refine lv_iconst (v := 1) hx hb dX9_drawn_45 rfl ?_
          refine lv_icmp_ne (tgt := 56) hx hb dX9_drawn_46 (by decide) (fun c_13 => ?_) (fun c_13 => ?_)
          · have hf := sn_el c_13 hf
            refine lv_aload_n hx hb dX9_drawn_56 rfl (lv_at hl 1 rfl) ?_
            obtain ⟨t_14, h_15, hf⟩ := sn_bd hf
            refine sn_callVi (rest := []) C hw (ctX9_ruinOf l  h_15) kl_RX9_329 layM_0 rfl rfl rfl rfl (Nat.le_of_ble_eq_true rfl) dX9_drawn_57 hl.1 (fun H locs hw => ?_)
            cases hf
            exact kr _ _ _ _ hw rfl dX9_drawn_60
          · have hf := sn_if c_13 hf
            refine lv_aload_n hx hb dX9_drawn_49 rfl (lv_at hl 1 rfl) ?_
            obtain ⟨t_16, h_17, hf⟩ := sn_bd hf
            refine sn_callVi (rest := []) C hw (ctX9_allSneezes l  h_17) kl_RX9_290 layM_0 rfl rfl rfl rfl (Nat.le_of_ble_eq_true rfl) dX9_drawn_50 hl.1 (fun H locs hw => ?_)
            refine lv_goto (tgt := 60) hx hb dX9_drawn_53 (by decide) ?_
            cases hf
            exact kr _ _ _ _ hw rfl dX9_drawn_60
        · have hf := sn_if c_12 hf
          refine lv_iload_n hx hb dX9_drawn_40 rfl (lv_at hl 0 rfl) ?_
          refine lv_goto (tgt := 60) hx hb dX9_drawn_41 (by decide) ?_
          cases hf
          exact kr _ _ _ _ hw rfl dX9_drawn_60
      · have hf := sn_if c_9 hf
        refine lv_bipush (v := (-2)) hx hb dX9_drawn_26 (by decide) ?_
        cases hf
        exact kr _ _ _ _ hw rfl dX9_drawn_28
theorem ctX9_drawn (l : Launch) {σ : sn_S} {x1 : Int32} {x2 : Int32}  {o : (Int32 × sn_S)} (hf : fX9_drawn σ x1 x2 = some o) : sn_M l yX9_drawn cX9_drawn 4 (some .int) rmX9_drawn layM (fun ad => [.ref (ad 0), .int x1, .int x2]) σ (some (fun _ => .int o.1)) o.2 :=
  sn_met (by decide) (fun _ => Nat.le_of_ble_eq_true rfl) (fun p e s m args below meth c ls D ct ad A C hw hl => wX9_drawn_in C  hf (fun H locs ls pc hw ok hd => sn_iret C hw hd) _ _ _ hw hl)
-- X9_luck
abbrev rmX9_luck : Room := { frames := 5, cells := 0, slots := 0, locals := 121 }
def BX9_luck_77 (σ : sn_S) (x4 : Int32) : Option ((Int32 × sn_S)) :=
  (some (x4, σ))
def BX9_luck_68 (σ : sn_S) (x1 : Int32) (x2 : Int32) (x3 : Int32) (x4 : Int32) (x5 : Int32) (t0 : Int32) (t1 : Int32) : Option ((sn_S × Int32 × Int32) ⊕ (sn_S × Int32)) :=
  (sn_lt (t0 + t1) fun y_1 => (sn_lt (x5 + 1) fun y_3 => (some (.inl (σ, y_1, y_3)))))
def BX9_luck_36 (σ : sn_S) (x1 : Int32) (x2 : Int32) (x3 : Int32) (x4 : Int32) (x5 : Int32) : Option ((sn_S × Int32 × Int32) ⊕ (sn_S × Int32)) :=
  (if x2 ≤ x5 then
  (some (.inr (σ, x4)))
  else
  ((fX9_goDrawn σ (x1.toInt64 + x5.toInt64)).bind fun t_2 => ((fX9_claimOf_ t_2.2 x3).bind fun t_4 => (if t_4.1 ≤ 0 then
  (BX9_luck_68 t_4.2 x1 x2 x3 x4 x5 x4 (0 : Int32))
  else
  (BX9_luck_68 t_4.2 x1 x2 x3 x4 x5 x4 (1 : Int32))))))
def LX9_luck_36 (x1 : Int32) (x2 : Int32) (x3 : Int32) (s : sn_S × Int32 × Int32) : Option ((sn_S × Int32 × Int32) ⊕ (sn_S × Int32)) := BX9_luck_36 s.1 x1 x2 x3 s.2.1 s.2.2
def fX9_luck (σ : sn_S) (x1 : Int32) (x2 : Int32) (x3 : Int32) : Option (Int32 × sn_S) :=
  ((fX9_isSeed x1).bind fun t_1 => (if t_1 = 0 then
  (some ((-2 : Int32), σ))
  else
  ((fX9_in x2.toInt64 (1 : Int64) (20 : Int64)).bind fun t_4 => (if t_4 = 0 then
  (some ((-2 : Int32), σ))
  else
  ((fX9_isPolicy σ x3).bind fun t_7 => (if t_7 = 0 then
  (some ((-2 : Int32), σ))
  else
  ((sn_it (LX9_luck_36 x1 x2 x3) 5000 (σ, (0 : Int32), (0 : Int32))).bind fun t_10 => (BX9_luck_77 t_10.1 t_10.2))))))))
theorem wX9_luck_77 (C : sn_C p s m args meth c RX9 cX9_luck 6 (some .int) D ct ad layM A) {σ : sn_S} {x4 : Int32}  {o : (Int32 × sn_S)} (hf : BX9_luck_77 σ x4 = some o) (kr : sn_Kr p l e rmX9_luck s m args below meth c Q D ct ad layM A cX9_luck .ireturn (true) o.2 [.int o.1]) : sn_At p l e rmX9_luck s m args below meth c Q D ct ad layM A 6 σ 77 [(4, .int x4)] [] := by
  intro H locs ls hw hl
  have hx := C.1
  have hb := C.2.1
  unfold BX9_luck_77 at hf
  refine lv_iload hx hb dX9_luck_77 (lv_at hl 0 rfl) ?_
  cases hf
  exact kr _ _ _ _ hw rfl dX9_luck_79
theorem wX9_luck_68 (C : sn_C p s m args meth c RX9 cX9_luck 6 (some .int) D ct ad layM A) {σ : sn_S} {x1 : Int32} {x2 : Int32} {x3 : Int32} {x4 : Int32} {x5 : Int32} {t0 : Int32} {t1 : Int32}  {o : (sn_S × Int32 × Int32) ⊕ (sn_S × Int32)} (hf : BX9_luck_68 σ x1 x2 x3 x4 x5 t0 t1 = some o) (kc : ∀ v, o = .inl v → sn_At p l e rmX9_luck s m args below meth c Q D ct ad layM A 6 v.1 36 [(0, .ref (ad 0)), (1, .int x1), (2, .int x2), (3, .int x3), (4, .int v.2.1), (5, .int v.2.2)] []) (kx : ∀ v, o = .inr v → sn_At p l e rmX9_luck s m args below meth c Q D ct ad layM A 6 v.1 77 [(4, .int v.2)] []) : sn_At p l e rmX9_luck s m args below meth c Q D ct ad layM A 6 σ 68 [(0, .ref (ad 0)), (1, .int x1), (2, .int x2), (3, .int x3), (4, .int x4), (5, .int x5)] [.int t1, .int t0] := by
  intro H locs ls hw hl
  have hx := C.1
  have hb := C.2.1
  unfold BX9_luck_68 at hf
  refine lv_iadd hx hb dX9_luck_68 ?_
  obtain ⟨y_1, e_2, hf⟩ := sn_ltE hf
  refine lv_topi (fun y_1_ e_2_ => ?_)
  obtain rfl : y_1 = y_1_ := e_2.trans e_2_.symm
  refine lv_istore (lv' := [(4, .int y_1), (0, .ref (ad 0)), (1, .int x1), (2, .int x2), (3, .int x3), (5, .int x5)]) hx hb dX9_luck_69 hl (by decide) rfl (fun ls hl => ?_)
  obtain ⟨y_3, e_4, hf⟩ := sn_ltE hf
  refine lv_iinc (v := y_3) (lv' := [(5, .int y_3), (4, .int y_1), (0, .ref (ad 0)), (1, .int x1), (2, .int x2), (3, .int x3)]) hx hb dX9_luck_71 hl (k := 5) rfl (by rw [e_4]; rfl) (by decide) rfl (fun ls hl => ?_)
  refine lv_goto (tgt := 36) hx hb dX9_luck_74 (by decide) ?_
  cases hf
  exact kc _ rfl _ _ _ hw (lv_sub hl [2, 3, 4, 5, 1, 0] rfl)
theorem wX9_luck_36 (C : sn_C p s m args meth c RX9 cX9_luck 6 (some .int) D ct ad layM A) {σ : sn_S} {x1 : Int32} {x2 : Int32} {x3 : Int32} {x4 : Int32} {x5 : Int32}  {o : (sn_S × Int32 × Int32) ⊕ (sn_S × Int32)} (hf : BX9_luck_36 σ x1 x2 x3 x4 x5 = some o) (kc : ∀ v, o = .inl v → sn_At p l e rmX9_luck s m args below meth c Q D ct ad layM A 6 v.1 36 [(0, .ref (ad 0)), (1, .int x1), (2, .int x2), (3, .int x3), (4, .int v.2.1), (5, .int v.2.2)] []) (kx : ∀ v, o = .inr v → sn_At p l e rmX9_luck s m args below meth c Q D ct ad layM A 6 v.1 77 [(4, .int v.2)] []) : sn_At p l e rmX9_luck s m args below meth c Q D ct ad layM A 6 σ 36 [(0, .ref (ad 0)), (1, .int x1), (2, .int x2), (3, .int x3), (4, .int x4), (5, .int x5)] [] := by
  intro H locs ls hw hl
  have hx := C.1
  have hb := C.2.1
  unfold BX9_luck_36 at hf
  refine lv_iload hx hb dX9_luck_36 (lv_at hl 5 rfl) ?_
  refine lv_iload_n hx hb dX9_luck_38 rfl (lv_at hl 2 rfl) ?_
  refine lv_icmp_ge (tgt := 77) hx hb dX9_luck_39 (by decide) (fun c_1 => ?_) (fun c_1 => ?_)
  · have hf := sn_if c_1 hf
    cases hf
    exact kx _ rfl _ _ _ hw (lv_sub hl [4] rfl)
  · have hf := sn_el c_1 hf
    refine lv_aload_n hx hb dX9_luck_42 rfl (lv_at hl 0 rfl) ?_
    refine lv_iload_n hx hb dX9_luck_43 rfl (lv_at hl 1 rfl) ?_
    refine lv_i2l hx hb dX9_luck_44 rfl ?_
    refine lv_iload hx hb dX9_luck_45 (lv_at hl 5 rfl) ?_
    refine lv_i2l hx hb dX9_luck_47 rfl ?_
    refine lv_ladd hx hb dX9_luck_48 ?_
    obtain ⟨t_2, h_3, hf⟩ := sn_bd hf
    refine sn_callVi (rest := []) C hw (ctX9_goDrawn l  h_3) kl_RX9_444 layM_0 rfl rfl rfl rfl (Nat.le_of_ble_eq_true rfl) dX9_luck_49 hl.1 (fun H locs hw => ?_)
    refine lv_pop hx hb dX9_luck_52 rfl ?_
    refine lv_iload hx hb dX9_luck_53 (lv_at hl 4 rfl) ?_
    refine lv_aload_n hx hb dX9_luck_55 rfl (lv_at hl 0 rfl) ?_
    refine lv_iload_n hx hb dX9_luck_56 rfl (lv_at hl 3 rfl) ?_
    obtain ⟨t_4, h_5, hf⟩ := sn_bd hf
    refine sn_callVi (rest := [.int x4]) C hw (ctX9_claimOf_ l  h_5) kl_RX9_326 layM_0 rfl rfl rfl rfl (Nat.le_of_ble_eq_true rfl) dX9_luck_57 hl.1 (fun H locs hw => ?_)
    refine lv_if_le (tgt := 67) hx hb dX9_luck_60 (by decide) (fun c_6 => ?_) (fun c_6 => ?_)
    · have hf := sn_if c_6 hf
      refine lv_iconst (v := 0) hx hb dX9_luck_67 rfl ?_
      exact wX9_luck_68 C  hf kc kx _ _ _ hw (lv_sub hl [0, 1, 2, 3, 4, 5] rfl)
    · have hf := sn_el c_6 hf
      refine lv_iconst (v := 1) hx hb dX9_luck_63 rfl ?_
      refine lv_goto (tgt := 68) hx hb dX9_luck_64 (by decide) ?_
      exact wX9_luck_68 C  hf kc kx _ _ _ hw (lv_sub hl [0, 1, 2, 3, 4, 5] rfl)
theorem wX9_luck_L36 (C : sn_C p s m args meth c RX9 cX9_luck 6 (some .int) D ct ad layM A) {x1 : Int32} {x2 : Int32} {x3 : Int32}   {z : sn_S × Int32 × Int32} {t : sn_S × Int32} (h : sn_it (LX9_luck_36 x1 x2 x3) 5000 z = some t) (kx : ∀ v, t = v → sn_At p l e rmX9_luck s m args below meth c Q D ct ad layM A 6 v.1 77 [(4, .int v.2)] []) : sn_At p l e rmX9_luck s m args below meth c Q D ct ad layM A 6 z.1 36 [(0, .ref (ad 0)), (1, .int x1), (2, .int x2), (3, .int x3), (4, .int z.2.1), (5, .int z.2.2)] [] :=
  sn_loop (f := LX9_luck_36 x1 x2 x3) (G := fun z => sn_At p l e rmX9_luck s m args below meth c Q D ct ad layM A 6 z.1 36 [(0, .ref (ad 0)), (1, .int x1), (2, .int x2), (3, .int x3), (4, .int z.2.1), (5, .int z.2.2)] []) (E := fun t => (∀ v, t = v → sn_At p l e rmX9_luck s m args below meth c Q D ct ad layM A 6 v.1 77 [(4, .int v.2)] []) ∧ True) (fun z o hf k1 k2 => wX9_luck_36 C  hf (fun v e => k1 v e) (fun v e => (k2 _ e).1 v rfl)) 5000 z t h ⟨kx, trivial⟩
theorem wX9_luck_in (C : sn_C p s m args meth c RX9 cX9_luck 6 (some .int) D ct ad layM A) {σ : sn_S} {x1 : Int32} {x2 : Int32} {x3 : Int32}  {o : (Int32 × sn_S)} (hf : fX9_luck σ x1 x2 x3 = some o) (kr : sn_Kr p l e rmX9_luck s m args below meth c Q D ct ad layM A cX9_luck .ireturn (true) o.2 [.int o.1]) : sn_At p l e rmX9_luck s m args below meth c Q D ct ad layM A 6 σ 0 [(0, .ref (ad 0)), (1, .int x1), (2, .int x2), (3, .int x3)] [] := by
  intro H locs ls hw hl
  have hx := C.1
  have hb := C.2.1
  unfold fX9_luck at hf
  refine lv_iload_n hx hb dX9_luck_0 rfl (lv_at hl 1 rfl) ?_
  obtain ⟨t_1, h_2, hf⟩ := sn_bd hf
  refine sn_callSi (rest := []) C hw (ctX9_isSeed l  h_2) kl_RX9_441 rfl rfl rfl (Nat.le_of_ble_eq_true rfl) dX9_luck_1 hl.1 (fun H locs hw => ?_)
  refine lv_if_eq (tgt := 27) hx hb dX9_luck_4 (by decide) (fun c_3 => ?_) (fun c_3 => ?_)
  · have hf := sn_if c_3 hf
    refine lv_bipush (v := (-2)) hx hb dX9_luck_27 (by decide) ?_
    cases hf
    exact kr _ _ _ _ hw rfl dX9_luck_29
  · have hf := sn_el c_3 hf
    refine lv_iload_n hx hb dX9_luck_7 rfl (lv_at hl 2 rfl) ?_
    refine lv_i2l hx hb dX9_luck_8 rfl ?_
    refine lv_lconst (v := 1) hx hb dX9_luck_9 rfl ?_
    refine lv_ldc2 hx hb C.2.2.2.1 (C.2.2.2.2.1 _ kk_RX9_448) dX9_luck_10 ?_
    obtain ⟨t_4, h_5, hf⟩ := sn_bd hf
    refine sn_callSi (rest := []) C hw (ctX9_in l  h_5) kl_RX9_94 rfl rfl rfl (Nat.le_of_ble_eq_true rfl) dX9_luck_13 hl.1 (fun H locs hw => ?_)
    refine lv_if_eq (tgt := 27) hx hb dX9_luck_16 (by decide) (fun c_6 => ?_) (fun c_6 => ?_)
    · have hf := sn_if c_6 hf
      refine lv_bipush (v := (-2)) hx hb dX9_luck_27 (by decide) ?_
      cases hf
      exact kr _ _ _ _ hw rfl dX9_luck_29
    · have hf := sn_el c_6 hf
      refine lv_aload_n hx hb dX9_luck_19 rfl (lv_at hl 0 rfl) ?_
      refine lv_iload_n hx hb dX9_luck_20 rfl (lv_at hl 3 rfl) ?_
      obtain ⟨t_7, h_8, hf⟩ := sn_bd hf
      refine sn_callVi (rest := []) C hw (ctX9_isPolicy l  h_8) kl_RX9_228 layM_0 rfl rfl rfl rfl (Nat.le_of_ble_eq_true rfl) dX9_luck_21 hl.1 (fun H locs hw => ?_)
      refine lv_if_ne (tgt := 30) hx hb dX9_luck_24 (by decide) (fun c_9 => ?_) (fun c_9 => ?_)
      · have hf := sn_el c_9 hf
        refine lv_iconst (v := 0) hx hb dX9_luck_30 rfl ?_
        refine lv_istore (lv' := [(4, .int (0 : Int32)), (0, .ref (ad 0)), (1, .int x1), (2, .int x2), (3, .int x3)]) hx hb dX9_luck_31 hl (by decide) rfl (fun ls hl => ?_)
        refine lv_iconst (v := 0) hx hb dX9_luck_33 rfl ?_
        refine lv_istore (lv' := [(5, .int (0 : Int32)), (4, .int (0 : Int32)), (0, .ref (ad 0)), (1, .int x1), (2, .int x2), (3, .int x3)]) hx hb dX9_luck_34 hl (by decide) rfl (fun ls hl => ?_)
        obtain ⟨t_10, h_11, hf⟩ := sn_bd hf
        exact wX9_luck_L36 C  h_11 (fun v e => by cases e; exact wX9_luck_77 C  hf kr) _ _ _ hw (lv_sub hl [2, 3, 4, 5, 1, 0] rfl)
      · have hf := sn_if c_9 hf
        refine lv_bipush (v := (-2)) hx hb dX9_luck_27 (by decide) ?_
        cases hf
        exact kr _ _ _ _ hw rfl dX9_luck_29
theorem ctX9_luck (l : Launch) {σ : sn_S} {x1 : Int32} {x2 : Int32} {x3 : Int32}  {o : (Int32 × sn_S)} (hf : fX9_luck σ x1 x2 x3 = some o) : sn_M l yX9_luck cX9_luck 6 (some .int) rmX9_luck layM (fun ad => [.ref (ad 0), .int x1, .int x2, .int x3]) σ (some (fun _ => .int o.1)) o.2 :=
  sn_met (by decide) (fun _ => Nat.le_of_ble_eq_true rfl) (fun p e s m args below meth c ls D ct ad A C hw hl => wX9_luck_in C  hf (fun H locs ls pc hw ok hd => sn_iret C hw hd) _ _ _ hw hl)
-- X9_rate
abbrev rmX9_rate : Room := { frames := 2, cells := 0, slots := 0, locals := 46 }
def fX9_rate (σ : sn_S) (x1 : Int32) (x2 : Int32) : Option (Int32 × sn_S) :=
  ((fX9_isPolicy σ x1).bind fun t_1 => (if t_1 = 0 then
  (some ((-2 : Int32), σ))
  else
  ((fX9_in x2.toInt64 (0 : Int64) (99 : Int64)).bind fun t_4 => (if t_4 = 0 then
  (some ((-2 : Int32), σ))
  else
  (sn_gd (sn_in (9 : Int32) 119) (if (sn_I σ 1 (9 : Int32).toNatClampNeg) ≤ 0 then
  ((fX9_of σ x1 (4 : Int32)).bind fun t_9 => (sn_gd (sn_in (((49 : Int32) + ((5 : Int32) * x1)) + (4 : Int32)) 119) (sn_lt (sn_pI σ 1 (((49 : Int32) + ((5 : Int32) * x1)) + (4 : Int32)).toNatClampNeg x2) fun σ_12 => (some (t_9, σ_12)))))
  else
  (some ((-5 : Int32), σ))))))))
theorem wX9_rate_in (C : sn_C p s m args meth c RX9 cX9_rate 4 (some .int) D ct ad layM A) {σ : sn_S} {x1 : Int32} {x2 : Int32}  {o : (Int32 × sn_S)} (hf : fX9_rate σ x1 x2 = some o) (kr : sn_Kr p l e rmX9_rate s m args below meth c Q D ct ad layM A cX9_rate .ireturn (true) o.2 [.int o.1]) : sn_At p l e rmX9_rate s m args below meth c Q D ct ad layM A 4 σ 0 [(0, .ref (ad 0)), (1, .int x1), (2, .int x2)] [] := by
  intro H locs ls hw hl
  have hx := C.1
  have hb := C.2.1
  unfold fX9_rate at hf
  refine lv_aload_n hx hb dX9_rate_0 rfl (lv_at hl 0 rfl) ?_
  refine lv_iload_n hx hb dX9_rate_1 rfl (lv_at hl 1 rfl) ?_
  obtain ⟨t_1, h_2, hf⟩ := sn_bd hf
  refine sn_callVi (rest := []) C hw (ctX9_isPolicy l  h_2) kl_RX9_228 layM_0 rfl rfl rfl rfl (Nat.le_of_ble_eq_true rfl) dX9_rate_2 hl.1 (fun H locs hw => ?_)
  refine lv_if_eq (tgt := 20) hx hb dX9_rate_5 (by decide) (fun c_3 => ?_) (fun c_3 => ?_)
  · have hf := sn_if c_3 hf
    refine lv_bipush (v := (-2)) hx hb dX9_rate_20 (by decide) ?_
    cases hf
    exact kr _ _ _ _ hw rfl dX9_rate_22
  · have hf := sn_el c_3 hf
    refine lv_iload_n hx hb dX9_rate_8 rfl (lv_at hl 2 rfl) ?_
    refine lv_i2l hx hb dX9_rate_9 rfl ?_
    refine lv_lconst (v := 0) hx hb dX9_rate_10 rfl ?_
    refine lv_ldc2 hx hb C.2.2.2.1 (C.2.2.2.2.1 _ kk_RX9_450) dX9_rate_11 ?_
    obtain ⟨t_4, h_5, hf⟩ := sn_bd hf
    refine sn_callSi (rest := []) C hw (ctX9_in l  h_5) kl_RX9_94 rfl rfl rfl (Nat.le_of_ble_eq_true rfl) dX9_rate_14 hl.1 (fun H locs hw => ?_)
    refine lv_if_ne (tgt := 23) hx hb dX9_rate_17 (by decide) (fun c_6 => ?_) (fun c_6 => ?_)
    · have hf := sn_el c_6 hf
      refine lv_aload_n hx hb dX9_rate_23 rfl (lv_at hl 0 rfl) ?_
      refine sn_getC (r := 1) C hw fd_RX9_9 layM_0 rfl dX9_rate_24 ?_
      refine lv_bipush (v := 9) hx hb dX9_rate_27 (by decide) ?_
      obtain ⟨g_7, hf⟩ := sn_gdE hf
      refine sn_iald C hw layM_1 g_7 dX9_rate_29 ?_
      refine lv_if_le (tgt := 36) hx hb dX9_rate_30 (by decide) (fun c_8 => ?_) (fun c_8 => ?_)
      · have hf := sn_if c_8 hf
        refine lv_aload_n hx hb dX9_rate_36 rfl (lv_at hl 0 rfl) ?_
        refine lv_iload_n hx hb dX9_rate_37 rfl (lv_at hl 1 rfl) ?_
        refine lv_iconst (v := 4) hx hb dX9_rate_38 rfl ?_
        obtain ⟨t_9, h_10, hf⟩ := sn_bd hf
        refine sn_callVi (rest := []) C hw (ctX9_of l  h_10) kl_RX9_234 layM_0 rfl rfl rfl rfl (Nat.le_of_ble_eq_true rfl) dX9_rate_39 hl.1 (fun H locs hw => ?_)
        refine lv_istore_n (lv' := [(3, .int t_9), (0, .ref (ad 0)), (1, .int x1), (2, .int x2)]) hx hb dX9_rate_42 rfl hl (by decide) rfl (fun ls hl => ?_)
        refine lv_aload_n hx hb dX9_rate_43 rfl (lv_at hl 1 rfl) ?_
        refine sn_getC (r := 1) C hw fd_RX9_9 layM_0 rfl dX9_rate_44 ?_
        refine lv_bipush (v := 49) hx hb dX9_rate_47 (by decide) ?_
        refine lv_iconst (v := 5) hx hb dX9_rate_49 rfl ?_
        refine lv_iload_n hx hb dX9_rate_50 rfl (lv_at hl 2 rfl) ?_
        refine lv_imul hx hb dX9_rate_51 ?_
        refine lv_iadd hx hb dX9_rate_52 ?_
        refine lv_iconst (v := 4) hx hb dX9_rate_53 rfl ?_
        refine lv_iadd hx hb dX9_rate_54 ?_
        refine lv_iload_n hx hb dX9_rate_55 rfl (lv_at hl 3 rfl) ?_
        obtain ⟨g_11, hf⟩ := sn_gdE hf
        refine sn_iast C hw layM_1 g_11 dX9_rate_56 (fun H locs hw => ?_)
        obtain ⟨σ_12, e_13, hf⟩ := sn_ltE hf
        rw [← e_13] at hw
        refine lv_iload_n hx hb dX9_rate_57 rfl (lv_at hl 0 rfl) ?_
        cases hf
        exact kr _ _ _ _ hw rfl dX9_rate_58
      · have hf := sn_el c_8 hf
        refine lv_bipush (v := (-5)) hx hb dX9_rate_33 (by decide) ?_
        cases hf
        exact kr _ _ _ _ hw rfl dX9_rate_35
    · have hf := sn_if c_6 hf
      refine lv_bipush (v := (-2)) hx hb dX9_rate_20 (by decide) ?_
      cases hf
      exact kr _ _ _ _ hw rfl dX9_rate_22
theorem ctX9_rate (l : Launch) {σ : sn_S} {x1 : Int32} {x2 : Int32}  {o : (Int32 × sn_S)} (hf : fX9_rate σ x1 x2 = some o) : sn_M l yX9_rate cX9_rate 4 (some .int) rmX9_rate layM (fun ad => [.ref (ad 0), .int x1, .int x2]) σ (some (fun _ => .int o.1)) o.2 :=
  sn_met (by decide) (fun _ => Nat.le_of_ble_eq_true rfl) (fun p e s m args below meth c ls D ct ad A C hw hl => wX9_rate_in C  hf (fun H locs ls pc hw ok hd => sn_iret C hw hd) _ _ _ hw hl)
-- X9_count
abbrev rmX9_count : Room := { frames := 1, cells := 0, slots := 0, locals := 25 }
def BX9_count_71 (σ : sn_S) (x2 : Int32) : Option (Int32) :=
  (some x2)
def BX9_count_63 (σ : sn_S) (x2 : Int32) (x3 : Int32) (t0 : Int32) (t1 : Int32) : Option ((Int32 × Int32) ⊕ (Int32)) :=
  (sn_lt (t0 + t1) fun y_1 => (sn_lt (x3 + 1) fun y_3 => (some (.inl (y_1, y_3)))))
def BX9_count_42 (σ : sn_S) (x2 : Int32) (x3 : Int32) : Option ((Int32 × Int32) ⊕ (Int32)) :=
  (if (4 : Int32) ≤ x3 then
  (some (.inr (x2)))
  else
  (sn_gd (sn_in x3 4) (if (sn_I σ 21 x3.toNatClampNeg) = (-1 : Int32) then
  (BX9_count_63 σ x2 x3 x2 (0 : Int32))
  else
  (BX9_count_63 σ x2 x3 x2 (1 : Int32)))))
def LX9_count_42 (σ : sn_S) (s : Int32 × Int32) : Option ((Int32 × Int32) ⊕ (Int32)) := BX9_count_42 σ s.1 s.2
def fX9_count (σ : sn_S) (x1 : Int32) : Option Int32 :=
  ((fX9_in x1.toInt64 (0 : Int64) (10 : Int64)).bind fun t_1 => (if t_1 = 0 then
  (if x1 = (11 : Int32) then
  (some (sn_I σ 0 5))
  else
  (if x1 = (12 : Int32) then
  ((sn_it (LX9_count_42 σ) 5000 ((0 : Int32), (0 : Int32))).bind fun t_6 => (BX9_count_71 σ t_6))
  else
  (some (-1 : Int32))))
  else
  (sn_gd (sn_in x1 119) (some (sn_I σ 1 x1.toNatClampNeg)))))
theorem wX9_count_71 (C : sn_C p s m args meth c RX9 cX9_count 4 (some .int) D ct ad layM A) {σ : sn_S} {x2 : Int32}  {o : Int32} (hf : BX9_count_71 σ x2 = some o) (kr : sn_Kr p l e rmX9_count s m args below meth c Q D ct ad layM A cX9_count .ireturn (true) σ [.int o]) : sn_At p l e rmX9_count s m args below meth c Q D ct ad layM A 4 σ 71 [(2, .int x2)] [] := by
  intro H locs ls hw hl
  have hx := C.1
  have hb := C.2.1
  unfold BX9_count_71 at hf
  refine lv_iload_n hx hb dX9_count_71 rfl (lv_at hl 0 rfl) ?_
  cases hf
  exact kr _ _ _ _ hw rfl dX9_count_72
theorem wX9_count_63 (C : sn_C p s m args meth c RX9 cX9_count 4 (some .int) D ct ad layM A) {σ : sn_S} {x2 : Int32} {x3 : Int32} {t0 : Int32} {t1 : Int32}  {o : (Int32 × Int32) ⊕ (Int32)} (hf : BX9_count_63 σ x2 x3 t0 t1 = some o) (kc : ∀ v, o = .inl v → sn_At p l e rmX9_count s m args below meth c Q D ct ad layM A 4 σ 42 [(0, .ref (ad 0)), (2, .int v.1), (3, .int v.2)] []) (kx : ∀ v, o = .inr v → sn_At p l e rmX9_count s m args below meth c Q D ct ad layM A 4 σ 71 [(2, .int v)] []) : sn_At p l e rmX9_count s m args below meth c Q D ct ad layM A 4 σ 63 [(0, .ref (ad 0)), (2, .int x2), (3, .int x3)] [.int t1, .int t0] := by
  intro H locs ls hw hl
  have hx := C.1
  have hb := C.2.1
  unfold BX9_count_63 at hf
  refine lv_iadd hx hb dX9_count_63 ?_
  obtain ⟨y_1, e_2, hf⟩ := sn_ltE hf
  refine lv_topi (fun y_1_ e_2_ => ?_)
  obtain rfl : y_1 = y_1_ := e_2.trans e_2_.symm
  refine lv_istore_n (lv' := [(2, .int y_1), (0, .ref (ad 0)), (3, .int x3)]) hx hb dX9_count_64 rfl hl (by decide) rfl (fun ls hl => ?_)
  obtain ⟨y_3, e_4, hf⟩ := sn_ltE hf
  refine lv_iinc (v := y_3) (lv' := [(3, .int y_3), (2, .int y_1), (0, .ref (ad 0))]) hx hb dX9_count_65 hl (k := 2) rfl (by rw [e_4]; rfl) (by decide) rfl (fun ls hl => ?_)
  refine lv_goto (tgt := 42) hx hb dX9_count_68 (by decide) ?_
  cases hf
  exact kc _ rfl _ _ _ hw (lv_sub hl [2, 1, 0] rfl)
theorem wX9_count_42 (C : sn_C p s m args meth c RX9 cX9_count 4 (some .int) D ct ad layM A) {σ : sn_S} {x2 : Int32} {x3 : Int32}  {o : (Int32 × Int32) ⊕ (Int32)} (hf : BX9_count_42 σ x2 x3 = some o) (kc : ∀ v, o = .inl v → sn_At p l e rmX9_count s m args below meth c Q D ct ad layM A 4 σ 42 [(0, .ref (ad 0)), (2, .int v.1), (3, .int v.2)] []) (kx : ∀ v, o = .inr v → sn_At p l e rmX9_count s m args below meth c Q D ct ad layM A 4 σ 71 [(2, .int v)] []) : sn_At p l e rmX9_count s m args below meth c Q D ct ad layM A 4 σ 42 [(0, .ref (ad 0)), (2, .int x2), (3, .int x3)] [] := by
  intro H locs ls hw hl
  have hx := C.1
  have hb := C.2.1
  unfold BX9_count_42 at hf
  refine lv_iload_n hx hb dX9_count_42 rfl (lv_at hl 2 rfl) ?_
  refine lv_iconst (v := 4) hx hb dX9_count_43 rfl ?_
  refine lv_icmp_ge (tgt := 71) hx hb dX9_count_44 (by decide) (fun c_1 => ?_) (fun c_1 => ?_)
  · have hf := sn_if c_1 hf
    cases hf
    exact kx _ rfl _ _ _ hw (lv_sub hl [1] rfl)
  · have hf := sn_el c_1 hf
    refine lv_iload_n hx hb dX9_count_47 rfl (lv_at hl 1 rfl) ?_
    refine lv_aload_n hx hb dX9_count_48 rfl (lv_at hl 0 rfl) ?_
    refine sn_getC (r := 21) C hw fd_RX9_76 layM_0 rfl dX9_count_49 ?_
    refine lv_iload_n hx hb dX9_count_52 rfl (lv_at hl 2 rfl) ?_
    obtain ⟨g_2, hf⟩ := sn_gdE hf
    refine sn_iald C hw layM_21 g_2 dX9_count_53 ?_
    refine lv_iconst (v := (-1)) hx hb dX9_count_54 rfl ?_
    refine lv_icmp_ne (tgt := 62) hx hb dX9_count_55 (by decide) (fun c_3 => ?_) (fun c_3 => ?_)
    · have hf := sn_el c_3 hf
      refine lv_iconst (v := 1) hx hb dX9_count_62 rfl ?_
      exact wX9_count_63 C  hf kc kx _ _ _ hw (lv_sub hl [0, 1, 2] rfl)
    · have hf := sn_if c_3 hf
      refine lv_iconst (v := 0) hx hb dX9_count_58 rfl ?_
      refine lv_goto (tgt := 63) hx hb dX9_count_59 (by decide) ?_
      exact wX9_count_63 C  hf kc kx _ _ _ hw (lv_sub hl [0, 1, 2] rfl)
theorem wX9_count_L42 (C : sn_C p s m args meth c RX9 cX9_count 4 (some .int) D ct ad layM A) {σ : sn_S}   {z : Int32 × Int32} {t : Int32} (h : sn_it (LX9_count_42 σ) 5000 z = some t) (kx : ∀ v, t = v → sn_At p l e rmX9_count s m args below meth c Q D ct ad layM A 4 σ 71 [(2, .int v)] []) : sn_At p l e rmX9_count s m args below meth c Q D ct ad layM A 4 σ 42 [(0, .ref (ad 0)), (2, .int z.1), (3, .int z.2)] [] :=
  sn_loop (f := LX9_count_42 σ) (G := fun z => sn_At p l e rmX9_count s m args below meth c Q D ct ad layM A 4 σ 42 [(0, .ref (ad 0)), (2, .int z.1), (3, .int z.2)] []) (E := fun t => (∀ v, t = v → sn_At p l e rmX9_count s m args below meth c Q D ct ad layM A 4 σ 71 [(2, .int v)] []) ∧ True) (fun z o hf k1 k2 => wX9_count_42 C  hf (fun v e => k1 v e) (fun v e => (k2 _ e).1 v rfl)) 5000 z t h ⟨kx, trivial⟩
theorem wX9_count_in (C : sn_C p s m args meth c RX9 cX9_count 4 (some .int) D ct ad layM A) {σ : sn_S} {x1 : Int32}  {o : Int32} (hf : fX9_count σ x1 = some o) (kr : sn_Kr p l e rmX9_count s m args below meth c Q D ct ad layM A cX9_count .ireturn (true) σ [.int o]) : sn_At p l e rmX9_count s m args below meth c Q D ct ad layM A 4 σ 0 [(0, .ref (ad 0)), (1, .int x1)] [] := by
  intro H locs ls hw hl
  have hx := C.1
  have hb := C.2.1
  unfold fX9_count at hf
  refine lv_iload_n hx hb dX9_count_0 rfl (lv_at hl 1 rfl) ?_
  refine lv_i2l hx hb dX9_count_1 rfl ?_
  refine lv_lconst (v := 0) hx hb dX9_count_2 rfl ?_
  refine lv_ldc2 hx hb C.2.2.2.1 (C.2.2.2.2.1 _ kk_RX9_437) dX9_count_3 ?_
  obtain ⟨t_1, h_2, hf⟩ := sn_bd hf
  refine sn_callSi (rest := []) C hw (ctX9_in l  h_2) kl_RX9_94 rfl rfl rfl (Nat.le_of_ble_eq_true rfl) dX9_count_6 hl.1 (fun H locs hw => ?_)
  refine lv_if_eq (tgt := 19) hx hb dX9_count_9 (by decide) (fun c_3 => ?_) (fun c_3 => ?_)
  · have hf := sn_if c_3 hf
    refine lv_iload_n hx hb dX9_count_19 rfl (lv_at hl 1 rfl) ?_
    refine lv_bipush (v := 11) hx hb dX9_count_20 (by decide) ?_
    refine lv_icmp_ne (tgt := 30) hx hb dX9_count_22 (by decide) (fun c_4 => ?_) (fun c_4 => ?_)
    · have hf := sn_el c_4 hf
      refine lv_iload_n hx hb dX9_count_30 rfl (lv_at hl 1 rfl) ?_
      refine lv_bipush (v := 12) hx hb dX9_count_31 (by decide) ?_
      refine lv_icmp_eq (tgt := 38) hx hb dX9_count_33 (by decide) (fun c_5 => ?_) (fun c_5 => ?_)
      · have hf := sn_if c_5 hf
        refine lv_iconst (v := 0) hx hb dX9_count_38 rfl ?_
        refine lv_istore_n (lv' := [(2, .int (0 : Int32)), (0, .ref (ad 0)), (1, .int x1)]) hx hb dX9_count_39 rfl hl (by decide) rfl (fun ls hl => ?_)
        refine lv_iconst (v := 0) hx hb dX9_count_40 rfl ?_
        refine lv_istore_n (lv' := [(3, .int (0 : Int32)), (2, .int (0 : Int32)), (0, .ref (ad 0)), (1, .int x1)]) hx hb dX9_count_41 rfl hl (by decide) rfl (fun ls hl => ?_)
        obtain ⟨t_6, h_7, hf⟩ := sn_bd hf
        exact wX9_count_L42 C  h_7 (fun v e => by cases e; exact wX9_count_71 C  hf kr) _ _ _ hw (lv_sub hl [2, 1, 0] rfl)
      · have hf := sn_el c_5 hf
        refine lv_iconst (v := (-1)) hx hb dX9_count_36 rfl ?_
        cases hf
        exact kr _ _ _ _ hw rfl dX9_count_37
    · have hf := sn_if c_4 hf
      refine lv_aload_n hx hb dX9_count_25 rfl (lv_at hl 0 rfl) ?_
      refine sn_getI C hw fd_RX9_100 layM_0 rfl dX9_count_26 ?_
      cases hf
      exact kr _ _ _ _ hw rfl dX9_count_29
  · have hf := sn_el c_3 hf
    refine lv_aload_n hx hb dX9_count_12 rfl (lv_at hl 0 rfl) ?_
    refine sn_getC (r := 1) C hw fd_RX9_9 layM_0 rfl dX9_count_13 ?_
    refine lv_iload_n hx hb dX9_count_16 rfl (lv_at hl 1 rfl) ?_
    obtain ⟨g_8, hf⟩ := sn_gdE hf
    refine sn_iald C hw layM_1 g_8 dX9_count_17 ?_
    cases hf
    exact kr _ _ _ _ hw rfl dX9_count_18
theorem ctX9_count (l : Launch) {σ : sn_S} {x1 : Int32}  {o : Int32} (hf : fX9_count σ x1 = some o) : sn_M l yX9_count cX9_count 4 (some .int) rmX9_count layM (fun ad => [.ref (ad 0), .int x1]) σ (some (fun _ => .int o)) σ :=
  sn_met (by decide) (fun _ => Nat.le_of_ble_eq_true rfl) (fun p e s m args below meth c ls D ct ad A C hw hl => wX9_count_in C  hf (fun H locs ls pc hw ok hd => sn_iret C hw hd) _ _ _ hw hl)
-- X9_cut_
abbrev rmX9_cut_ : Room := { frames := 0, cells := 0, slots := 0, locals := 0 }
def fX9_cut_ (x0 : Int64) (x2 : Int32) : Option Int64 :=
  (sn_lt ((64 : Int32) - ((8 : Int32) <<< (x2 &&& 31))) fun y_1 => (some ((x0 <<< (y_1.toInt64 &&& 63)) >>> (y_1.toInt64 &&& 63))))
theorem wX9_cut__in (C : sn_C p s m args meth c RX9 cX9_cut_ 4 (some .long) D ct ad layM A) {σ : sn_S} {x0 : Int64} {x2 : Int32}  {o : Int64} (hf : fX9_cut_ x0 x2 = some o) (kr : sn_Kr p l e rmX9_cut_ s m args below meth c Q D ct ad layM A cX9_cut_ .lreturn (true) σ [.long o]) : sn_At p l e rmX9_cut_ s m args below meth c Q D ct ad layM A 4 σ 0 [(0, .long x0), (2, .int x2)] [] := by
  intro H locs ls hw hl
  have hx := C.1
  have hb := C.2.1
  unfold fX9_cut_ at hf
  refine lv_bipush (v := 64) hx hb dX9_cut__0 (by decide) ?_
  refine lv_bipush (v := 8) hx hb dX9_cut__2 (by decide) ?_
  refine lv_iload_n hx hb dX9_cut__4 rfl (lv_at hl 1 rfl) ?_
  refine lv_ishl hx hb dX9_cut__5 ?_
  refine lv_isub hx hb dX9_cut__6 ?_
  obtain ⟨y_1, e_2, hf⟩ := sn_ltE hf
  refine lv_topi (fun y_1_ e_2_ => ?_)
  obtain rfl : y_1 = y_1_ := e_2.trans e_2_.symm
  refine lv_istore_n (lv' := [(3, .int y_1), (0, .long x0), (2, .int x2)]) hx hb dX9_cut__7 rfl hl (by decide) rfl (fun ls hl => ?_)
  refine lv_lload_n hx hb dX9_cut__8 rfl (lv_at hl 1 rfl) ?_
  refine lv_iload_n hx hb dX9_cut__9 rfl (lv_at hl 0 rfl) ?_
  refine lv_lshl hx hb dX9_cut__10 rfl ?_
  refine lv_iload_n hx hb dX9_cut__11 rfl (lv_at hl 0 rfl) ?_
  refine lv_lshr hx hb dX9_cut__12 rfl ?_
  cases hf
  exact kr _ _ _ _ hw rfl dX9_cut__13
theorem ctX9_cut_ (l : Launch) {σ : sn_S} {x0 : Int64} {x2 : Int32}  {o : Int64} (hf : fX9_cut_ x0 x2 = some o) : sn_M l yX9_cut_ cX9_cut_ 4 (some .long) rmX9_cut_ layM (fun ad => [.long x0, .int x2]) σ (some (fun _ => .long o)) σ :=
  sn_met (by decide) (fun _ => Nat.le_of_ble_eq_true rfl) (fun p e s m args below meth c ls D ct ad A C hw hl => wX9_cut__in C  hf (fun H locs ls pc hw ok hd => sn_lret C hw hd) _ _ _ hw hl)
-- X9_row
abbrev rmX9_row : Room := { frames := 2, cells := 0, slots := 0, locals := 45 }
def BX9_row_78 (σ : sn_S) : Option ((Int32 × sn_S)) :=
  (some ((0 : Int32), σ))
def BX9_row_52 (σ : sn_S) (x1 : Int32) (x4 : Int32) : Option ((sn_S × Int32) ⊕ (sn_S)) :=
  (if (60 : Int32) ≤ x4 then
  (some (.inr (σ)))
  else
  (sn_gd (sn_in (((60 : Int32) * x1) + x4) 240) (sn_lt (sn_pL σ 23 (((60 : Int32) * x1) + x4).toNatClampNeg (0 : Int64)) fun σ_3 => (sn_lt (x4 + 1) fun y_5 => (some (.inl (σ_3, y_5)))))))
def LX9_row_52 (x1 : Int32) (s : sn_S × Int32) : Option ((sn_S × Int32) ⊕ (sn_S)) := BX9_row_52 s.1 x1 s.2
def fX9_row (σ : sn_S) (x1 : Int32) (x2 : Int32) (x3 : Int32) : Option (Int32 × sn_S) :=
  ((fX9_isSlot x1).bind fun t_1 => (if t_1 = 0 then
  (some ((-2 : Int32), σ))
  else
  ((fX9_in x2.toInt64 (0 : Int64) (3 : Int64)).bind fun t_4 => (if t_4 = 0 then
  (some ((-2 : Int32), σ))
  else
  (if x3 ≤ (60 : Int32) then
  (if 0 ≤ x3 then
  (sn_gd (sn_in x1 4) (sn_lt (sn_pI σ 21 x1.toNatClampNeg x3) fun σ_10 => (sn_gd (sn_in x1 4) (sn_lt (sn_pI σ_10 22 x1.toNatClampNeg x2) fun σ_13 => ((sn_it (LX9_row_52 x1) 5000 (σ_13, (0 : Int32))).bind fun t_15 => (BX9_row_78 t_15))))))
  else
  (some ((-3 : Int32), σ)))
  else
  (some ((-2 : Int32), σ)))))))
theorem wX9_row_78 (C : sn_C p s m args meth c RX9 cX9_row 5 (some .int) D ct ad layM A) {σ : sn_S}  {o : (Int32 × sn_S)} (hf : BX9_row_78 σ = some o) (kr : sn_Kr p l e rmX9_row s m args below meth c Q D ct ad layM A cX9_row .ireturn (true) o.2 [.int o.1]) : sn_At p l e rmX9_row s m args below meth c Q D ct ad layM A 5 σ 78 [] [] := by
  intro H locs ls hw hl
  have hx := C.1
  have hb := C.2.1
  unfold BX9_row_78 at hf
  refine lv_iconst (v := 0) hx hb dX9_row_78 rfl ?_
  cases hf
  exact kr _ _ _ _ hw rfl dX9_row_79
theorem wX9_row_52 (C : sn_C p s m args meth c RX9 cX9_row 5 (some .int) D ct ad layM A) {σ : sn_S} {x1 : Int32} {x4 : Int32}  {o : (sn_S × Int32) ⊕ (sn_S)} (hf : BX9_row_52 σ x1 x4 = some o) (kc : ∀ v, o = .inl v → sn_At p l e rmX9_row s m args below meth c Q D ct ad layM A 5 v.1 52 [(0, .ref (ad 0)), (1, .int x1), (4, .int v.2)] []) (kx : ∀ v, o = .inr v → sn_At p l e rmX9_row s m args below meth c Q D ct ad layM A 5 v 78 [] []) : sn_At p l e rmX9_row s m args below meth c Q D ct ad layM A 5 σ 52 [(0, .ref (ad 0)), (1, .int x1), (4, .int x4)] [] := by
  intro H locs ls hw hl
  have hx := C.1
  have hb := C.2.1
  unfold BX9_row_52 at hf
  refine lv_iload hx hb dX9_row_52 (lv_at hl 2 rfl) ?_
  refine lv_bipush (v := 60) hx hb dX9_row_54 (by decide) ?_
  refine lv_icmp_ge (tgt := 78) hx hb dX9_row_56 (by decide) (fun c_1 => ?_) (fun c_1 => ?_)
  · have hf := sn_if c_1 hf
    cases hf
    exact kx _ rfl _ _ _ hw (lv_sub hl [] rfl)
  · have hf := sn_el c_1 hf
    refine lv_aload_n hx hb dX9_row_59 rfl (lv_at hl 0 rfl) ?_
    refine sn_getC (r := 23) C hw fd_RX9_82 layM_0 rfl dX9_row_60 ?_
    refine lv_bipush (v := 60) hx hb dX9_row_63 (by decide) ?_
    refine lv_iload_n hx hb dX9_row_65 rfl (lv_at hl 1 rfl) ?_
    refine lv_imul hx hb dX9_row_66 ?_
    refine lv_iload hx hb dX9_row_67 (lv_at hl 2 rfl) ?_
    refine lv_iadd hx hb dX9_row_69 ?_
    refine lv_lconst (v := 0) hx hb dX9_row_70 rfl ?_
    obtain ⟨g_2, hf⟩ := sn_gdE hf
    refine sn_last C hw layM_23 g_2 dX9_row_71 (fun H locs hw => ?_)
    obtain ⟨σ_3, e_4, hf⟩ := sn_ltE hf
    rw [← e_4] at hw
    obtain ⟨y_5, e_6, hf⟩ := sn_ltE hf
    refine lv_iinc (v := y_5) (lv' := [(4, .int y_5), (0, .ref (ad 0)), (1, .int x1)]) hx hb dX9_row_72 hl (k := 2) rfl (by rw [e_6]; rfl) (by decide) rfl (fun ls hl => ?_)
    refine lv_goto (tgt := 52) hx hb dX9_row_75 (by decide) ?_
    cases hf
    exact kc _ rfl _ _ _ hw (lv_sub hl [1, 2, 0] rfl)
theorem wX9_row_L52 (C : sn_C p s m args meth c RX9 cX9_row 5 (some .int) D ct ad layM A) {x1 : Int32}   {z : sn_S × Int32} {t : sn_S} (h : sn_it (LX9_row_52 x1) 5000 z = some t) (kx : ∀ v, t = v → sn_At p l e rmX9_row s m args below meth c Q D ct ad layM A 5 v 78 [] []) : sn_At p l e rmX9_row s m args below meth c Q D ct ad layM A 5 z.1 52 [(0, .ref (ad 0)), (1, .int x1), (4, .int z.2)] [] :=
  sn_loop (f := LX9_row_52 x1) (G := fun z => sn_At p l e rmX9_row s m args below meth c Q D ct ad layM A 5 z.1 52 [(0, .ref (ad 0)), (1, .int x1), (4, .int z.2)] []) (E := fun t => (∀ v, t = v → sn_At p l e rmX9_row s m args below meth c Q D ct ad layM A 5 v 78 [] []) ∧ True) (fun z o hf k1 k2 => wX9_row_52 C  hf (fun v e => k1 v e) (fun v e => (k2 _ e).1 v rfl)) 5000 z t h ⟨kx, trivial⟩
theorem wX9_row_in (C : sn_C p s m args meth c RX9 cX9_row 5 (some .int) D ct ad layM A) {σ : sn_S} {x1 : Int32} {x2 : Int32} {x3 : Int32}  {o : (Int32 × sn_S)} (hf : fX9_row σ x1 x2 x3 = some o) (kr : sn_Kr p l e rmX9_row s m args below meth c Q D ct ad layM A cX9_row .ireturn (true) o.2 [.int o.1]) : sn_At p l e rmX9_row s m args below meth c Q D ct ad layM A 5 σ 0 [(0, .ref (ad 0)), (1, .int x1), (2, .int x2), (3, .int x3)] [] := by
  intro H locs ls hw hl
  have hx := C.1
  have hb := C.2.1
  unfold fX9_row at hf
  refine lv_iload_n hx hb dX9_row_0 rfl (lv_at hl 1 rfl) ?_
  obtain ⟨t_1, h_2, hf⟩ := sn_bd hf
  refine sn_callSi (rest := []) C hw (ctX9_isSlot l  h_2) kl_RX9_365 rfl rfl rfl (Nat.le_of_ble_eq_true rfl) dX9_row_1 hl.1 (fun H locs hw => ?_)
  refine lv_if_eq (tgt := 25) hx hb dX9_row_4 (by decide) (fun c_3 => ?_) (fun c_3 => ?_)
  · have hf := sn_if c_3 hf
    refine lv_bipush (v := (-2)) hx hb dX9_row_25 (by decide) ?_
    cases hf
    exact kr _ _ _ _ hw rfl dX9_row_27
  · have hf := sn_el c_3 hf
    refine lv_iload_n hx hb dX9_row_7 rfl (lv_at hl 2 rfl) ?_
    refine lv_i2l hx hb dX9_row_8 rfl ?_
    refine lv_lconst (v := 0) hx hb dX9_row_9 rfl ?_
    refine lv_ldc2 hx hb C.2.2.2.1 (C.2.2.2.2.1 _ kk_RX9_98) dX9_row_10 ?_
    obtain ⟨t_4, h_5, hf⟩ := sn_bd hf
    refine sn_callSi (rest := []) C hw (ctX9_in l  h_5) kl_RX9_94 rfl rfl rfl (Nat.le_of_ble_eq_true rfl) dX9_row_13 hl.1 (fun H locs hw => ?_)
    refine lv_if_eq (tgt := 25) hx hb dX9_row_16 (by decide) (fun c_6 => ?_) (fun c_6 => ?_)
    · have hf := sn_if c_6 hf
      refine lv_bipush (v := (-2)) hx hb dX9_row_25 (by decide) ?_
      cases hf
      exact kr _ _ _ _ hw rfl dX9_row_27
    · have hf := sn_el c_6 hf
      refine lv_iload_n hx hb dX9_row_19 rfl (lv_at hl 3 rfl) ?_
      refine lv_bipush (v := 60) hx hb dX9_row_20 (by decide) ?_
      refine lv_icmp_le (tgt := 28) hx hb dX9_row_22 (by decide) (fun c_7 => ?_) (fun c_7 => ?_)
      · have hf := sn_if c_7 hf
        refine lv_iload_n hx hb dX9_row_28 rfl (lv_at hl 3 rfl) ?_
        refine lv_if_ge (tgt := 35) hx hb dX9_row_29 (by decide) (fun c_8 => ?_) (fun c_8 => ?_)
        · have hf := sn_if c_8 hf
          refine lv_aload_n hx hb dX9_row_35 rfl (lv_at hl 0 rfl) ?_
          refine sn_getC (r := 21) C hw fd_RX9_76 layM_0 rfl dX9_row_36 ?_
          refine lv_iload_n hx hb dX9_row_39 rfl (lv_at hl 1 rfl) ?_
          refine lv_iload_n hx hb dX9_row_40 rfl (lv_at hl 3 rfl) ?_
          obtain ⟨g_9, hf⟩ := sn_gdE hf
          refine sn_iast C hw layM_21 g_9 dX9_row_41 (fun H locs hw => ?_)
          obtain ⟨σ_10, e_11, hf⟩ := sn_ltE hf
          rw [← e_11] at hw
          refine lv_aload_n hx hb dX9_row_42 rfl (lv_at hl 0 rfl) ?_
          refine sn_getC (r := 22) C hw fd_RX9_79 layM_0 rfl dX9_row_43 ?_
          refine lv_iload_n hx hb dX9_row_46 rfl (lv_at hl 1 rfl) ?_
          refine lv_iload_n hx hb dX9_row_47 rfl (lv_at hl 2 rfl) ?_
          obtain ⟨g_12, hf⟩ := sn_gdE hf
          refine sn_iast C hw layM_22 g_12 dX9_row_48 (fun H locs hw => ?_)
          obtain ⟨σ_13, e_14, hf⟩ := sn_ltE hf
          rw [← e_14] at hw
          refine lv_iconst (v := 0) hx hb dX9_row_49 rfl ?_
          refine lv_istore (lv' := [(4, .int (0 : Int32)), (0, .ref (ad 0)), (1, .int x1), (2, .int x2), (3, .int x3)]) hx hb dX9_row_50 hl (by decide) rfl (fun ls hl => ?_)
          obtain ⟨t_15, h_16, hf⟩ := sn_bd hf
          exact wX9_row_L52 C  h_16 (fun v e => by cases e; exact wX9_row_78 C  hf kr) _ _ _ hw (lv_sub hl [1, 2, 0] rfl)
        · have hf := sn_el c_8 hf
          refine lv_bipush (v := (-3)) hx hb dX9_row_32 (by decide) ?_
          cases hf
          exact kr _ _ _ _ hw rfl dX9_row_34
      · have hf := sn_el c_7 hf
        refine lv_bipush (v := (-2)) hx hb dX9_row_25 (by decide) ?_
        cases hf
        exact kr _ _ _ _ hw rfl dX9_row_27
theorem ctX9_row (l : Launch) {σ : sn_S} {x1 : Int32} {x2 : Int32} {x3 : Int32}  {o : (Int32 × sn_S)} (hf : fX9_row σ x1 x2 x3 = some o) : sn_M l yX9_row cX9_row 5 (some .int) rmX9_row layM (fun ad => [.ref (ad 0), .int x1, .int x2, .int x3]) σ (some (fun _ => .int o.1)) o.2 :=
  sn_met (by decide) (fun _ => Nat.le_of_ble_eq_true rfl) (fun p e s m args below meth c ls D ct ad A C hw hl => wX9_row_in C  hf (fun H locs ls pc hw ok hd => sn_iret C hw hd) _ _ _ hw hl)
-- X9_write
abbrev rmX9_write : Room := { frames := 2, cells := 0, slots := 0, locals := 45 }
def fX9_write (σ : sn_S) (x1 : Int32) (x2 : Int32) (x3 : Int64) : Option (Int32 × sn_S) :=
  ((fX9_isSlot x1).bind fun t_1 => (if t_1 = 0 then
  (some ((-2 : Int32), σ))
  else
  (sn_gd (sn_in x1 4) (if (sn_I σ 21 x1.toNatClampNeg) = (-1 : Int32) then
  (some ((-6 : Int32), σ))
  else
  (sn_gd (sn_in x1 4) ((fX9_in x2.toInt64 (0 : Int64) (((sn_I σ 21 x1.toNatClampNeg) - (1 : Int32)).toInt64)).bind fun t_7 => (if t_7 = 0 then
  (some ((-7 : Int32), σ))
  else
  (sn_gd (sn_in x1 4) ((fX9_cut_ x3 (sn_I σ 22 x1.toNatClampNeg)).bind fun t_11 => (sn_gd (sn_in (((60 : Int32) * x1) + x2) 240) (sn_lt (sn_pL σ 23 (((60 : Int32) * x1) + x2).toNatClampNeg t_11) fun σ_14 => (some ((0 : Int32), σ_14)))))))))))))
theorem wX9_write_in (C : sn_C p s m args meth c RX9 cX9_write 5 (some .int) D ct ad layM A) {σ : sn_S} {x1 : Int32} {x2 : Int32} {x3 : Int64}  {o : (Int32 × sn_S)} (hf : fX9_write σ x1 x2 x3 = some o) (kr : sn_Kr p l e rmX9_write s m args below meth c Q D ct ad layM A cX9_write .ireturn (true) o.2 [.int o.1]) : sn_At p l e rmX9_write s m args below meth c Q D ct ad layM A 5 σ 0 [(0, .ref (ad 0)), (1, .int x1), (2, .int x2), (3, .long x3)] [] := by
  intro H locs ls hw hl
  have hx := C.1
  have hb := C.2.1
  unfold fX9_write at hf
  refine lv_iload_n hx hb dX9_write_0 rfl (lv_at hl 1 rfl) ?_
  obtain ⟨t_1, h_2, hf⟩ := sn_bd hf
  refine sn_callSi (rest := []) C hw (ctX9_isSlot l  h_2) kl_RX9_365 rfl rfl rfl (Nat.le_of_ble_eq_true rfl) dX9_write_1 hl.1 (fun H locs hw => ?_)
  refine lv_if_ne (tgt := 10) hx hb dX9_write_4 (by decide) (fun c_3 => ?_) (fun c_3 => ?_)
  · have hf := sn_el c_3 hf
    refine lv_aload_n hx hb dX9_write_10 rfl (lv_at hl 0 rfl) ?_
    refine sn_getC (r := 21) C hw fd_RX9_76 layM_0 rfl dX9_write_11 ?_
    refine lv_iload_n hx hb dX9_write_14 rfl (lv_at hl 1 rfl) ?_
    obtain ⟨g_4, hf⟩ := sn_gdE hf
    refine sn_iald C hw layM_21 g_4 dX9_write_15 ?_
    refine lv_iconst (v := (-1)) hx hb dX9_write_16 rfl ?_
    refine lv_icmp_ne (tgt := 23) hx hb dX9_write_17 (by decide) (fun c_5 => ?_) (fun c_5 => ?_)
    · have hf := sn_el c_5 hf
      refine lv_iload_n hx hb dX9_write_23 rfl (lv_at hl 2 rfl) ?_
      refine lv_i2l hx hb dX9_write_24 rfl ?_
      refine lv_lconst (v := 0) hx hb dX9_write_25 rfl ?_
      refine lv_aload_n hx hb dX9_write_26 rfl (lv_at hl 0 rfl) ?_
      refine sn_getC (r := 21) C hw fd_RX9_76 layM_0 rfl dX9_write_27 ?_
      refine lv_iload_n hx hb dX9_write_30 rfl (lv_at hl 1 rfl) ?_
      obtain ⟨g_6, hf⟩ := sn_gdE hf
      refine sn_iald C hw layM_21 g_6 dX9_write_31 ?_
      refine lv_iconst (v := 1) hx hb dX9_write_32 rfl ?_
      refine lv_isub hx hb dX9_write_33 ?_
      refine lv_i2l hx hb dX9_write_34 rfl ?_
      obtain ⟨t_7, h_8, hf⟩ := sn_bd hf
      refine sn_callSi (rest := []) C hw (ctX9_in l  h_8) kl_RX9_94 rfl rfl rfl (Nat.le_of_ble_eq_true rfl) dX9_write_35 hl.1 (fun H locs hw => ?_)
      refine lv_if_ne (tgt := 44) hx hb dX9_write_38 (by decide) (fun c_9 => ?_) (fun c_9 => ?_)
      · have hf := sn_el c_9 hf
        refine lv_aload_n hx hb dX9_write_44 rfl (lv_at hl 0 rfl) ?_
        refine sn_getC (r := 23) C hw fd_RX9_82 layM_0 rfl dX9_write_45 ?_
        refine lv_bipush (v := 60) hx hb dX9_write_48 (by decide) ?_
        refine lv_iload_n hx hb dX9_write_50 rfl (lv_at hl 1 rfl) ?_
        refine lv_imul hx hb dX9_write_51 ?_
        refine lv_iload_n hx hb dX9_write_52 rfl (lv_at hl 2 rfl) ?_
        refine lv_iadd hx hb dX9_write_53 ?_
        refine lv_lload_n hx hb dX9_write_54 rfl (lv_at hl 3 rfl) ?_
        refine lv_aload_n hx hb dX9_write_55 rfl (lv_at hl 0 rfl) ?_
        refine sn_getC (r := 22) C hw fd_RX9_79 layM_0 rfl dX9_write_56 ?_
        refine lv_iload_n hx hb dX9_write_59 rfl (lv_at hl 1 rfl) ?_
        obtain ⟨g_10, hf⟩ := sn_gdE hf
        refine sn_iald C hw layM_22 g_10 dX9_write_60 ?_
        obtain ⟨t_11, h_12, hf⟩ := sn_bd hf
        refine sn_callSl (rest := [.int (((60 : Int32) * x1) + x2), .ref (ad 23)]) C hw (ctX9_cut_ l  h_12) kl_RX9_452 rfl rfl rfl (Nat.le_of_ble_eq_true rfl) dX9_write_61 hl.1 (fun H locs hw => ?_)
        obtain ⟨g_13, hf⟩ := sn_gdE hf
        refine sn_last C hw layM_23 g_13 dX9_write_64 (fun H locs hw => ?_)
        obtain ⟨σ_14, e_15, hf⟩ := sn_ltE hf
        rw [← e_15] at hw
        refine lv_iconst (v := 0) hx hb dX9_write_65 rfl ?_
        cases hf
        exact kr _ _ _ _ hw rfl dX9_write_66
      · have hf := sn_if c_9 hf
        refine lv_bipush (v := (-7)) hx hb dX9_write_41 (by decide) ?_
        cases hf
        exact kr _ _ _ _ hw rfl dX9_write_43
    · have hf := sn_if c_5 hf
      refine lv_bipush (v := (-6)) hx hb dX9_write_20 (by decide) ?_
      cases hf
      exact kr _ _ _ _ hw rfl dX9_write_22
  · have hf := sn_if c_3 hf
    refine lv_bipush (v := (-2)) hx hb dX9_write_7 (by decide) ?_
    cases hf
    exact kr _ _ _ _ hw rfl dX9_write_9
theorem ctX9_write (l : Launch) {σ : sn_S} {x1 : Int32} {x2 : Int32} {x3 : Int64}  {o : (Int32 × sn_S)} (hf : fX9_write σ x1 x2 x3 = some o) : sn_M l yX9_write cX9_write 5 (some .int) rmX9_write layM (fun ad => [.ref (ad 0), .int x1, .int x2, .long x3]) σ (some (fun _ => .int o.1)) o.2 :=
  sn_met (by decide) (fun _ => Nat.le_of_ble_eq_true rfl) (fun p e s m args below meth c ls D ct ad A C hw hl => wX9_write_in C  hf (fun H locs ls pc hw ok hd => sn_iret C hw hd) _ _ _ hw hl)
-- X9_paste
abbrev rmX9_paste : Room := { frames := 2, cells := 0, slots := 0, locals := 45 }
def BX9_paste_185 (σ : sn_S) : Option ((Int32 × sn_S)) :=
  (some ((0 : Int32), σ))
def BX9_paste_150 (σ : sn_S) (x3 : Int32) (x4 : Int32) (x5 : Int32) (x6 : Int32) : Option ((sn_S × Int32) ⊕ (sn_S)) :=
  (if x5 ≤ x6 then
  (some (.inr (σ)))
  else
  (sn_gd (sn_in x6 60) (sn_gd (sn_in ((((60 : Int32) * x3) + x4) + x6) 240) (sn_lt (sn_pL σ 23 ((((60 : Int32) * x3) + x4) + x6).toNatClampNeg (sn_L σ 24 x6.toNatClampNeg)) fun σ_4 => (sn_lt (x6 + 1) fun y_6 => (some (.inl (σ_4, y_6))))))))
def LX9_paste_150 (x3 : Int32) (x4 : Int32) (x5 : Int32) (s : sn_S × Int32) : Option ((sn_S × Int32) ⊕ (sn_S)) := BX9_paste_150 s.1 x3 x4 x5 s.2
def BX9_paste_147 (σ : sn_S) (x3 : Int32) (x4 : Int32) (x5 : Int32) : Option ((Int32 × sn_S)) :=
  ((sn_it (LX9_paste_150 x3 x4 x5) 5000 (σ, (0 : Int32))).bind fun t_1 => (BX9_paste_185 t_1))
def BX9_paste_113 (σ : sn_S) (x1 : Int32) (x2 : Int32) (x3 : Int32) (x4 : Int32) (x5 : Int32) (x6 : Int32) : Option ((sn_S × Int32) ⊕ (sn_S)) :=
  (if x5 ≤ x6 then
  (some (.inr (σ)))
  else
  (sn_gd (sn_in ((((60 : Int32) * x1) + x2) + x6) 240) (sn_gd (sn_in x6 60) (sn_lt (sn_pL σ 24 x6.toNatClampNeg (sn_L σ 23 ((((60 : Int32) * x1) + x2) + x6).toNatClampNeg)) fun σ_4 => (sn_lt (x6 + 1) fun y_6 => (some (.inl (σ_4, y_6))))))))
def LX9_paste_113 (x1 : Int32) (x2 : Int32) (x3 : Int32) (x4 : Int32) (x5 : Int32) (s : sn_S × Int32) : Option ((sn_S × Int32) ⊕ (sn_S)) := BX9_paste_113 s.1 x1 x2 x3 x4 x5 s.2
def fX9_paste (σ : sn_S) (x1 : Int32) (x2 : Int32) (x3 : Int32) (x4 : Int32) (x5 : Int32) : Option (Int32 × sn_S) :=
  ((fX9_isSlot x1).bind fun t_1 => (if t_1 = 0 then
  (some ((-2 : Int32), σ))
  else
  ((fX9_isSlot x3).bind fun t_4 => (if t_4 = 0 then
  (some ((-2 : Int32), σ))
  else
  (sn_gd (sn_in x1 4) (if (sn_I σ 21 x1.toNatClampNeg) = (-1 : Int32) then
  (some ((-6 : Int32), σ))
  else
  (sn_gd (sn_in x3 4) (if (sn_I σ 21 x3.toNatClampNeg) = (-1 : Int32) then
  (some ((-6 : Int32), σ))
  else
  (sn_gd (sn_in x1 4) (sn_gd (sn_in x3 4) (if (sn_I σ 22 x1.toNatClampNeg) = (sn_I σ 22 x3.toNatClampNeg) then
  (if x2 < 0 then
  (some ((-7 : Int32), σ))
  else
  (if x4 < 0 then
  (some ((-7 : Int32), σ))
  else
  (if x5 < 0 then
  (some ((-7 : Int32), σ))
  else
  (sn_gd (sn_in x1 4) (if 0 < (lg_cmp (x2.toInt64 + x5.toInt64) ((sn_I σ 21 x1.toNatClampNeg).toInt64)) then
  (some ((-7 : Int32), σ))
  else
  (sn_gd (sn_in x3 4) (if (lg_cmp (x4.toInt64 + x5.toInt64) ((sn_I σ 21 x3.toNatClampNeg).toInt64)) ≤ 0 then
  ((sn_it (LX9_paste_113 x1 x2 x3 x4 x5) 5000 (σ, (0 : Int32))).bind fun t_21 => (BX9_paste_147 t_21 x3 x4 x5))
  else
  (some ((-7 : Int32), σ)))))))))
  else
  (some ((-8 : Int32), σ)))))))))))))
theorem wX9_paste_185 (C : sn_C p s m args meth c RX9 cX9_paste 7 (some .int) D ct ad layM A) {σ : sn_S}  {o : (Int32 × sn_S)} (hf : BX9_paste_185 σ = some o) (kr : sn_Kr p l e rmX9_paste s m args below meth c Q D ct ad layM A cX9_paste .ireturn (true) o.2 [.int o.1]) : sn_At p l e rmX9_paste s m args below meth c Q D ct ad layM A 7 σ 185 [] [] := by
  intro H locs ls hw hl
  have hx := C.1
  have hb := C.2.1
  unfold BX9_paste_185 at hf
  refine lv_iconst (v := 0) hx hb dX9_paste_185 rfl ?_
  cases hf
  exact kr _ _ _ _ hw rfl dX9_paste_186
theorem wX9_paste_150 (C : sn_C p s m args meth c RX9 cX9_paste 7 (some .int) D ct ad layM A) {σ : sn_S} {x3 : Int32} {x4 : Int32} {x5 : Int32} {x6 : Int32}  {o : (sn_S × Int32) ⊕ (sn_S)} (hf : BX9_paste_150 σ x3 x4 x5 x6 = some o) (kc : ∀ v, o = .inl v → sn_At p l e rmX9_paste s m args below meth c Q D ct ad layM A 7 v.1 150 [(0, .ref (ad 0)), (3, .int x3), (4, .int x4), (5, .int x5), (6, .int v.2)] []) (kx : ∀ v, o = .inr v → sn_At p l e rmX9_paste s m args below meth c Q D ct ad layM A 7 v 185 [] []) : sn_At p l e rmX9_paste s m args below meth c Q D ct ad layM A 7 σ 150 [(0, .ref (ad 0)), (3, .int x3), (4, .int x4), (5, .int x5), (6, .int x6)] [] := by
  intro H locs ls hw hl
  have hx := C.1
  have hb := C.2.1
  unfold BX9_paste_150 at hf
  refine lv_iload hx hb dX9_paste_150 (lv_at hl 4 rfl) ?_
  refine lv_iload hx hb dX9_paste_152 (lv_at hl 3 rfl) ?_
  refine lv_icmp_ge (tgt := 185) hx hb dX9_paste_154 (by decide) (fun c_1 => ?_) (fun c_1 => ?_)
  · have hf := sn_if c_1 hf
    cases hf
    exact kx _ rfl _ _ _ hw (lv_sub hl [] rfl)
  · have hf := sn_el c_1 hf
    refine lv_aload_n hx hb dX9_paste_157 rfl (lv_at hl 0 rfl) ?_
    refine sn_getC (r := 23) C hw fd_RX9_82 layM_0 rfl dX9_paste_158 ?_
    refine lv_bipush (v := 60) hx hb dX9_paste_161 (by decide) ?_
    refine lv_iload_n hx hb dX9_paste_163 rfl (lv_at hl 1 rfl) ?_
    refine lv_imul hx hb dX9_paste_164 ?_
    refine lv_iload hx hb dX9_paste_165 (lv_at hl 2 rfl) ?_
    refine lv_iadd hx hb dX9_paste_167 ?_
    refine lv_iload hx hb dX9_paste_168 (lv_at hl 4 rfl) ?_
    refine lv_iadd hx hb dX9_paste_170 ?_
    refine lv_aload_n hx hb dX9_paste_171 rfl (lv_at hl 0 rfl) ?_
    refine sn_getC (r := 24) C hw fd_RX9_86 layM_0 rfl dX9_paste_172 ?_
    refine lv_iload hx hb dX9_paste_175 (lv_at hl 4 rfl) ?_
    obtain ⟨g_2, hf⟩ := sn_gdE hf
    refine sn_lald C hw layM_24 g_2 dX9_paste_177 ?_
    obtain ⟨g_3, hf⟩ := sn_gdE hf
    refine sn_last C hw layM_23 g_3 dX9_paste_178 (fun H locs hw => ?_)
    obtain ⟨σ_4, e_5, hf⟩ := sn_ltE hf
    rw [← e_5] at hw
    obtain ⟨y_6, e_7, hf⟩ := sn_ltE hf
    refine lv_iinc (v := y_6) (lv' := [(6, .int y_6), (0, .ref (ad 0)), (3, .int x3), (4, .int x4), (5, .int x5)]) hx hb dX9_paste_179 hl (k := 4) rfl (by rw [e_7]; rfl) (by decide) rfl (fun ls hl => ?_)
    refine lv_goto (tgt := 150) hx hb dX9_paste_182 (by decide) ?_
    cases hf
    exact kc _ rfl _ _ _ hw (lv_sub hl [1, 2, 3, 4, 0] rfl)
theorem wX9_paste_L150 (C : sn_C p s m args meth c RX9 cX9_paste 7 (some .int) D ct ad layM A) {x3 : Int32} {x4 : Int32} {x5 : Int32}   {z : sn_S × Int32} {t : sn_S} (h : sn_it (LX9_paste_150 x3 x4 x5) 5000 z = some t) (kx : ∀ v, t = v → sn_At p l e rmX9_paste s m args below meth c Q D ct ad layM A 7 v 185 [] []) : sn_At p l e rmX9_paste s m args below meth c Q D ct ad layM A 7 z.1 150 [(0, .ref (ad 0)), (3, .int x3), (4, .int x4), (5, .int x5), (6, .int z.2)] [] :=
  sn_loop (f := LX9_paste_150 x3 x4 x5) (G := fun z => sn_At p l e rmX9_paste s m args below meth c Q D ct ad layM A 7 z.1 150 [(0, .ref (ad 0)), (3, .int x3), (4, .int x4), (5, .int x5), (6, .int z.2)] []) (E := fun t => (∀ v, t = v → sn_At p l e rmX9_paste s m args below meth c Q D ct ad layM A 7 v 185 [] []) ∧ True) (fun z o hf k1 k2 => wX9_paste_150 C  hf (fun v e => k1 v e) (fun v e => (k2 _ e).1 v rfl)) 5000 z t h ⟨kx, trivial⟩
theorem wX9_paste_147 (C : sn_C p s m args meth c RX9 cX9_paste 7 (some .int) D ct ad layM A) {σ : sn_S} {x3 : Int32} {x4 : Int32} {x5 : Int32}  {o : (Int32 × sn_S)} (hf : BX9_paste_147 σ x3 x4 x5 = some o) (kr : sn_Kr p l e rmX9_paste s m args below meth c Q D ct ad layM A cX9_paste .ireturn (true) o.2 [.int o.1]) : sn_At p l e rmX9_paste s m args below meth c Q D ct ad layM A 7 σ 147 [(0, .ref (ad 0)), (3, .int x3), (4, .int x4), (5, .int x5)] [] := by
  intro H locs ls hw hl
  have hx := C.1
  have hb := C.2.1
  unfold BX9_paste_147 at hf
  refine lv_iconst (v := 0) hx hb dX9_paste_147 rfl ?_
  refine lv_istore (lv' := [(6, .int (0 : Int32)), (0, .ref (ad 0)), (3, .int x3), (4, .int x4), (5, .int x5)]) hx hb dX9_paste_148 hl (by decide) rfl (fun ls hl => ?_)
  obtain ⟨t_1, h_2, hf⟩ := sn_bd hf
  exact wX9_paste_L150 C  h_2 (fun v e => by cases e; exact wX9_paste_185 C  hf kr) _ _ _ hw (lv_sub hl [1, 2, 3, 4, 0] rfl)
theorem wX9_paste_113 (C : sn_C p s m args meth c RX9 cX9_paste 7 (some .int) D ct ad layM A) {σ : sn_S} {x1 : Int32} {x2 : Int32} {x3 : Int32} {x4 : Int32} {x5 : Int32} {x6 : Int32}  {o : (sn_S × Int32) ⊕ (sn_S)} (hf : BX9_paste_113 σ x1 x2 x3 x4 x5 x6 = some o) (kc : ∀ v, o = .inl v → sn_At p l e rmX9_paste s m args below meth c Q D ct ad layM A 7 v.1 113 [(0, .ref (ad 0)), (1, .int x1), (2, .int x2), (3, .int x3), (4, .int x4), (5, .int x5), (6, .int v.2)] []) (kx : ∀ v, o = .inr v → sn_At p l e rmX9_paste s m args below meth c Q D ct ad layM A 7 v 147 [(0, .ref (ad 0)), (3, .int x3), (4, .int x4), (5, .int x5)] []) : sn_At p l e rmX9_paste s m args below meth c Q D ct ad layM A 7 σ 113 [(0, .ref (ad 0)), (1, .int x1), (2, .int x2), (3, .int x3), (4, .int x4), (5, .int x5), (6, .int x6)] [] := by
  intro H locs ls hw hl
  have hx := C.1
  have hb := C.2.1
  unfold BX9_paste_113 at hf
  refine lv_iload hx hb dX9_paste_113 (lv_at hl 6 rfl) ?_
  refine lv_iload hx hb dX9_paste_115 (lv_at hl 5 rfl) ?_
  refine lv_icmp_ge (tgt := 147) hx hb dX9_paste_117 (by decide) (fun c_1 => ?_) (fun c_1 => ?_)
  · have hf := sn_if c_1 hf
    cases hf
    exact kx _ rfl _ _ _ hw (lv_sub hl [0, 3, 4, 5] rfl)
  · have hf := sn_el c_1 hf
    refine lv_aload_n hx hb dX9_paste_120 rfl (lv_at hl 0 rfl) ?_
    refine sn_getC (r := 24) C hw fd_RX9_86 layM_0 rfl dX9_paste_121 ?_
    refine lv_iload hx hb dX9_paste_124 (lv_at hl 6 rfl) ?_
    refine lv_aload_n hx hb dX9_paste_126 rfl (lv_at hl 0 rfl) ?_
    refine sn_getC (r := 23) C hw fd_RX9_82 layM_0 rfl dX9_paste_127 ?_
    refine lv_bipush (v := 60) hx hb dX9_paste_130 (by decide) ?_
    refine lv_iload_n hx hb dX9_paste_132 rfl (lv_at hl 1 rfl) ?_
    refine lv_imul hx hb dX9_paste_133 ?_
    refine lv_iload_n hx hb dX9_paste_134 rfl (lv_at hl 2 rfl) ?_
    refine lv_iadd hx hb dX9_paste_135 ?_
    refine lv_iload hx hb dX9_paste_136 (lv_at hl 6 rfl) ?_
    refine lv_iadd hx hb dX9_paste_138 ?_
    obtain ⟨g_2, hf⟩ := sn_gdE hf
    refine sn_lald C hw layM_23 g_2 dX9_paste_139 ?_
    obtain ⟨g_3, hf⟩ := sn_gdE hf
    refine sn_last C hw layM_24 g_3 dX9_paste_140 (fun H locs hw => ?_)
    obtain ⟨σ_4, e_5, hf⟩ := sn_ltE hf
    rw [← e_5] at hw
    obtain ⟨y_6, e_7, hf⟩ := sn_ltE hf
    refine lv_iinc (v := y_6) (lv' := [(6, .int y_6), (0, .ref (ad 0)), (1, .int x1), (2, .int x2), (3, .int x3), (4, .int x4), (5, .int x5)]) hx hb dX9_paste_141 hl (k := 6) rfl (by rw [e_7]; rfl) (by decide) rfl (fun ls hl => ?_)
    refine lv_goto (tgt := 113) hx hb dX9_paste_144 (by decide) ?_
    cases hf
    exact kc _ rfl _ _ _ hw (lv_sub hl [1, 2, 3, 4, 5, 6, 0] rfl)
theorem wX9_paste_L113 (C : sn_C p s m args meth c RX9 cX9_paste 7 (some .int) D ct ad layM A) {x1 : Int32} {x2 : Int32} {x3 : Int32} {x4 : Int32} {x5 : Int32}   {z : sn_S × Int32} {t : sn_S} (h : sn_it (LX9_paste_113 x1 x2 x3 x4 x5) 5000 z = some t) (kx : ∀ v, t = v → sn_At p l e rmX9_paste s m args below meth c Q D ct ad layM A 7 v 147 [(0, .ref (ad 0)), (3, .int x3), (4, .int x4), (5, .int x5)] []) : sn_At p l e rmX9_paste s m args below meth c Q D ct ad layM A 7 z.1 113 [(0, .ref (ad 0)), (1, .int x1), (2, .int x2), (3, .int x3), (4, .int x4), (5, .int x5), (6, .int z.2)] [] :=
  sn_loop (f := LX9_paste_113 x1 x2 x3 x4 x5) (G := fun z => sn_At p l e rmX9_paste s m args below meth c Q D ct ad layM A 7 z.1 113 [(0, .ref (ad 0)), (1, .int x1), (2, .int x2), (3, .int x3), (4, .int x4), (5, .int x5), (6, .int z.2)] []) (E := fun t => (∀ v, t = v → sn_At p l e rmX9_paste s m args below meth c Q D ct ad layM A 7 v 147 [(0, .ref (ad 0)), (3, .int x3), (4, .int x4), (5, .int x5)] []) ∧ True) (fun z o hf k1 k2 => wX9_paste_113 C  hf (fun v e => k1 v e) (fun v e => (k2 _ e).1 v rfl)) 5000 z t h ⟨kx, trivial⟩
theorem wX9_paste_in (C : sn_C p s m args meth c RX9 cX9_paste 7 (some .int) D ct ad layM A) {σ : sn_S} {x1 : Int32} {x2 : Int32} {x3 : Int32} {x4 : Int32} {x5 : Int32}  {o : (Int32 × sn_S)} (hf : fX9_paste σ x1 x2 x3 x4 x5 = some o) (kr : sn_Kr p l e rmX9_paste s m args below meth c Q D ct ad layM A cX9_paste .ireturn (true) o.2 [.int o.1]) : sn_At p l e rmX9_paste s m args below meth c Q D ct ad layM A 7 σ 0 [(0, .ref (ad 0)), (1, .int x1), (2, .int x2), (3, .int x3), (4, .int x4), (5, .int x5)] [] := by
  intro H locs ls hw hl
  have hx := C.1
  have hb := C.2.1
  unfold fX9_paste at hf
  refine lv_iload_n hx hb dX9_paste_0 rfl (lv_at hl 1 rfl) ?_
  obtain ⟨t_1, h_2, hf⟩ := sn_bd hf
  refine sn_callSi (rest := []) C hw (ctX9_isSlot l  h_2) kl_RX9_365 rfl rfl rfl (Nat.le_of_ble_eq_true rfl) dX9_paste_1 hl.1 (fun H locs hw => ?_)
  refine lv_if_eq (tgt := 14) hx hb dX9_paste_4 (by decide) (fun c_3 => ?_) (fun c_3 => ?_)
  · have hf := sn_if c_3 hf
    refine lv_bipush (v := (-2)) hx hb dX9_paste_14 (by decide) ?_
    cases hf
    exact kr _ _ _ _ hw rfl dX9_paste_16
  · have hf := sn_el c_3 hf
    refine lv_iload_n hx hb dX9_paste_7 rfl (lv_at hl 3 rfl) ?_
    obtain ⟨t_4, h_5, hf⟩ := sn_bd hf
    refine sn_callSi (rest := []) C hw (ctX9_isSlot l  h_5) kl_RX9_365 rfl rfl rfl (Nat.le_of_ble_eq_true rfl) dX9_paste_8 hl.1 (fun H locs hw => ?_)
    refine lv_if_ne (tgt := 17) hx hb dX9_paste_11 (by decide) (fun c_6 => ?_) (fun c_6 => ?_)
    · have hf := sn_el c_6 hf
      refine lv_aload_n hx hb dX9_paste_17 rfl (lv_at hl 0 rfl) ?_
      refine sn_getC (r := 21) C hw fd_RX9_76 layM_0 rfl dX9_paste_18 ?_
      refine lv_iload_n hx hb dX9_paste_21 rfl (lv_at hl 1 rfl) ?_
      obtain ⟨g_7, hf⟩ := sn_gdE hf
      refine sn_iald C hw layM_21 g_7 dX9_paste_22 ?_
      refine lv_iconst (v := (-1)) hx hb dX9_paste_23 rfl ?_
      refine lv_icmp_eq (tgt := 37) hx hb dX9_paste_24 (by decide) (fun c_8 => ?_) (fun c_8 => ?_)
      · have hf := sn_if c_8 hf
        refine lv_bipush (v := (-6)) hx hb dX9_paste_37 (by decide) ?_
        cases hf
        exact kr _ _ _ _ hw rfl dX9_paste_39
      · have hf := sn_el c_8 hf
        refine lv_aload_n hx hb dX9_paste_27 rfl (lv_at hl 0 rfl) ?_
        refine sn_getC (r := 21) C hw fd_RX9_76 layM_0 rfl dX9_paste_28 ?_
        refine lv_iload_n hx hb dX9_paste_31 rfl (lv_at hl 3 rfl) ?_
        obtain ⟨g_9, hf⟩ := sn_gdE hf
        refine sn_iald C hw layM_21 g_9 dX9_paste_32 ?_
        refine lv_iconst (v := (-1)) hx hb dX9_paste_33 rfl ?_
        refine lv_icmp_ne (tgt := 40) hx hb dX9_paste_34 (by decide) (fun c_10 => ?_) (fun c_10 => ?_)
        · have hf := sn_el c_10 hf
          refine lv_aload_n hx hb dX9_paste_40 rfl (lv_at hl 0 rfl) ?_
          refine sn_getC (r := 22) C hw fd_RX9_79 layM_0 rfl dX9_paste_41 ?_
          refine lv_iload_n hx hb dX9_paste_44 rfl (lv_at hl 1 rfl) ?_
          obtain ⟨g_11, hf⟩ := sn_gdE hf
          refine sn_iald C hw layM_22 g_11 dX9_paste_45 ?_
          refine lv_aload_n hx hb dX9_paste_46 rfl (lv_at hl 0 rfl) ?_
          refine sn_getC (r := 22) C hw fd_RX9_79 layM_0 rfl dX9_paste_47 ?_
          refine lv_iload_n hx hb dX9_paste_50 rfl (lv_at hl 3 rfl) ?_
          obtain ⟨g_12, hf⟩ := sn_gdE hf
          refine sn_iald C hw layM_22 g_12 dX9_paste_51 ?_
          refine lv_icmp_eq (tgt := 58) hx hb dX9_paste_52 (by decide) (fun c_13 => ?_) (fun c_13 => ?_)
          · have hf := sn_if c_13 hf
            refine lv_iload_n hx hb dX9_paste_58 rfl (lv_at hl 2 rfl) ?_
            refine lv_if_lt (tgt := 107) hx hb dX9_paste_59 (by decide) (fun c_14 => ?_) (fun c_14 => ?_)
            · have hf := sn_if c_14 hf
              refine lv_bipush (v := (-7)) hx hb dX9_paste_107 (by decide) ?_
              cases hf
              exact kr _ _ _ _ hw rfl dX9_paste_109
            · have hf := sn_el c_14 hf
              refine lv_iload hx hb dX9_paste_62 (lv_at hl 4 rfl) ?_
              refine lv_if_lt (tgt := 107) hx hb dX9_paste_64 (by decide) (fun c_15 => ?_) (fun c_15 => ?_)
              · have hf := sn_if c_15 hf
                refine lv_bipush (v := (-7)) hx hb dX9_paste_107 (by decide) ?_
                cases hf
                exact kr _ _ _ _ hw rfl dX9_paste_109
              · have hf := sn_el c_15 hf
                refine lv_iload hx hb dX9_paste_67 (lv_at hl 5 rfl) ?_
                refine lv_if_lt (tgt := 107) hx hb dX9_paste_69 (by decide) (fun c_16 => ?_) (fun c_16 => ?_)
                · have hf := sn_if c_16 hf
                  refine lv_bipush (v := (-7)) hx hb dX9_paste_107 (by decide) ?_
                  cases hf
                  exact kr _ _ _ _ hw rfl dX9_paste_109
                · have hf := sn_el c_16 hf
                  refine lv_iload_n hx hb dX9_paste_72 rfl (lv_at hl 2 rfl) ?_
                  refine lv_i2l hx hb dX9_paste_73 rfl ?_
                  refine lv_iload hx hb dX9_paste_74 (lv_at hl 5 rfl) ?_
                  refine lv_i2l hx hb dX9_paste_76 rfl ?_
                  refine lv_ladd hx hb dX9_paste_77 ?_
                  refine lv_aload_n hx hb dX9_paste_78 rfl (lv_at hl 0 rfl) ?_
                  refine sn_getC (r := 21) C hw fd_RX9_76 layM_0 rfl dX9_paste_79 ?_
                  refine lv_iload_n hx hb dX9_paste_82 rfl (lv_at hl 1 rfl) ?_
                  obtain ⟨g_17, hf⟩ := sn_gdE hf
                  refine sn_iald C hw layM_21 g_17 dX9_paste_83 ?_
                  refine lv_i2l hx hb dX9_paste_84 rfl ?_
                  refine W.lcmp hx hb dX9_paste_85 ?_
                  refine lv_if_gt (tgt := 107) hx hb dX9_paste_86 (by decide) (fun c_18 => ?_) (fun c_18 => ?_)
                  · have hf := sn_if c_18 hf
                    refine lv_bipush (v := (-7)) hx hb dX9_paste_107 (by decide) ?_
                    cases hf
                    exact kr _ _ _ _ hw rfl dX9_paste_109
                  · have hf := sn_el c_18 hf
                    refine lv_iload hx hb dX9_paste_89 (lv_at hl 4 rfl) ?_
                    refine lv_i2l hx hb dX9_paste_91 rfl ?_
                    refine lv_iload hx hb dX9_paste_92 (lv_at hl 5 rfl) ?_
                    refine lv_i2l hx hb dX9_paste_94 rfl ?_
                    refine lv_ladd hx hb dX9_paste_95 ?_
                    refine lv_aload_n hx hb dX9_paste_96 rfl (lv_at hl 0 rfl) ?_
                    refine sn_getC (r := 21) C hw fd_RX9_76 layM_0 rfl dX9_paste_97 ?_
                    refine lv_iload_n hx hb dX9_paste_100 rfl (lv_at hl 3 rfl) ?_
                    obtain ⟨g_19, hf⟩ := sn_gdE hf
                    refine sn_iald C hw layM_21 g_19 dX9_paste_101 ?_
                    refine lv_i2l hx hb dX9_paste_102 rfl ?_
                    refine W.lcmp hx hb dX9_paste_103 ?_
                    refine lv_if_le (tgt := 110) hx hb dX9_paste_104 (by decide) (fun c_20 => ?_) (fun c_20 => ?_)
                    · have hf := sn_if c_20 hf
                      refine lv_iconst (v := 0) hx hb dX9_paste_110 rfl ?_
                      refine lv_istore (lv' := [(6, .int (0 : Int32)), (0, .ref (ad 0)), (1, .int x1), (2, .int x2), (3, .int x3), (4, .int x4), (5, .int x5)]) hx hb dX9_paste_111 hl (by decide) rfl (fun ls hl => ?_)
                      obtain ⟨t_21, h_22, hf⟩ := sn_bd hf
                      exact wX9_paste_L113 C  h_22 (fun v e => by cases e; exact wX9_paste_147 C  hf kr) _ _ _ hw (lv_sub hl [1, 2, 3, 4, 5, 6, 0] rfl)
                    · have hf := sn_el c_20 hf
                      refine lv_bipush (v := (-7)) hx hb dX9_paste_107 (by decide) ?_
                      cases hf
                      exact kr _ _ _ _ hw rfl dX9_paste_109
          · have hf := sn_el c_13 hf
            refine lv_bipush (v := (-8)) hx hb dX9_paste_55 (by decide) ?_
            cases hf
            exact kr _ _ _ _ hw rfl dX9_paste_57
        · have hf := sn_if c_10 hf
          refine lv_bipush (v := (-6)) hx hb dX9_paste_37 (by decide) ?_
          cases hf
          exact kr _ _ _ _ hw rfl dX9_paste_39
    · have hf := sn_if c_6 hf
      refine lv_bipush (v := (-2)) hx hb dX9_paste_14 (by decide) ?_
      cases hf
      exact kr _ _ _ _ hw rfl dX9_paste_16
theorem ctX9_paste (l : Launch) {σ : sn_S} {x1 : Int32} {x2 : Int32} {x3 : Int32} {x4 : Int32} {x5 : Int32}  {o : (Int32 × sn_S)} (hf : fX9_paste σ x1 x2 x3 x4 x5 = some o) : sn_M l yX9_paste cX9_paste 7 (some .int) rmX9_paste layM (fun ad => [.ref (ad 0), .int x1, .int x2, .int x3, .int x4, .int x5]) σ (some (fun _ => .int o.1)) o.2 :=
  sn_met (by decide) (fun _ => Nat.le_of_ble_eq_true rfl) (fun p e s m args below meth c ls D ct ad A C hw hl => wX9_paste_in C  hf (fun H locs ls pc hw ok hd => sn_iret C hw hd) _ _ _ hw hl)
end
end
section
section
variable {p : Program} {l : Launch} {e : Env} {s : State} {m : MethodId} {args : Array Value} {below : List Frame} {meth : Method} {c : Code} {Q : State → Prop} {D : va_G} {ct : Nat → ClassId} {ad : Nat → Nat} {A : Nat → Prop} {lay : List sn_E}
-- X2_minutesOfActs
abbrev rmX2_minutesOfActs : Room := { frames := 0, cells := 0, slots := 0, locals := 0 }
def BX2_minutesOfActs_67 (σ : sn_S) (q0 : Nat) (x3 : Int32) : Option (Int32) :=
  (some x3)
def BX2_minutesOfActs_61 (σ : sn_S) (q0 : Nat) (x1 : Int32) (x2 : Int32) (x3 : Int32) (x4 : Int32) : Option ((Int32 × Int32) ⊕ (Int32)) :=
  (sn_lt (x4 + 1) fun y_1 => (some (.inl (x3, y_1))))
def BX2_minutesOfActs_5 (σ : sn_S) (q0 : Nat) (x1 : Int32) (x2 : Int32) (x3 : Int32) (x4 : Int32) : Option ((Int32 × Int32) ⊕ (Int32)) :=
  (sn_gd (sn_in (9 : Int32) 11) (if (sn_I σ (q0 + 1) (9 : Int32).toNatClampNeg) ≤ x4 then
  (some (.inr (x3)))
  else
  (sn_gd (sn_in ((3 : Int32) * x4) 120) (if (sn_I σ (q0 + 6) ((3 : Int32) * x4).toNatClampNeg) = x1 then
  (sn_gd (sn_in (((3 : Int32) * x4) + (1 : Int32)) 120) (if (sn_I σ (q0 + 6) (((3 : Int32) * x4) + (1 : Int32)).toNatClampNeg) = x2 then
  (sn_gd (sn_in (((3 : Int32) * x4) + (2 : Int32)) 120) (sn_lt (x3 ||| ((1 : Int32) <<< ((sn_I σ (q0 + 6) (((3 : Int32) * x4) + (2 : Int32)).toNatClampNeg) &&& 31))) fun y_8 => (BX2_minutesOfActs_61 σ q0 x1 x2 y_8 x4)))
  else
  (BX2_minutesOfActs_61 σ q0 x1 x2 x3 x4)))
  else
  (BX2_minutesOfActs_61 σ q0 x1 x2 x3 x4)))))
def LX2_minutesOfActs_5 (σ : sn_S) (q0 : Nat) (x1 : Int32) (x2 : Int32) (s : Int32 × Int32) : Option ((Int32 × Int32) ⊕ (Int32)) := BX2_minutesOfActs_5 σ q0 x1 x2 s.1 s.2
def fX2_minutesOfActs (σ : sn_S) (q0 : Nat) (x1 : Int32) (x2 : Int32) : Option Int32 :=
  ((sn_it (LX2_minutesOfActs_5 σ q0 x1 x2) 5000 ((0 : Int32), (0 : Int32))).bind fun t_1 => (BX2_minutesOfActs_67 σ q0 t_1))
theorem wX2_minutesOfActs_67 (C : sn_C p s m args meth c RX2 cX2_minutesOfActs 5 (some .int) D ct ad layC A) {σ : sn_S} {q0 : Nat} {x3 : Int32} (h0 : sn_isX2 q0) {o : Int32} (hf : BX2_minutesOfActs_67 σ q0 x3 = some o) (kr : sn_Kr p l e rmX2_minutesOfActs s m args below meth c Q D ct ad layC A cX2_minutesOfActs .ireturn (true) σ [.int o]) : sn_At p l e rmX2_minutesOfActs s m args below meth c Q D ct ad layC A 5 σ 67 [(3, .int x3)] [] := by
  intro H locs ls hw hl
  have hx := C.1
  have hb := C.2.1
  unfold BX2_minutesOfActs_67 at hf
  refine lv_iload_n hx hb dX2_minutesOfActs_67 rfl (lv_at hl 0 rfl) ?_
  cases hf
  exact kr _ _ _ _ hw rfl dX2_minutesOfActs_68
theorem wX2_minutesOfActs_61 (C : sn_C p s m args meth c RX2 cX2_minutesOfActs 5 (some .int) D ct ad layC A) {σ : sn_S} {q0 : Nat} {x1 : Int32} {x2 : Int32} {x3 : Int32} {x4 : Int32} (h0 : sn_isX2 q0) {o : (Int32 × Int32) ⊕ (Int32)} (hf : BX2_minutesOfActs_61 σ q0 x1 x2 x3 x4 = some o) (kc : ∀ v, o = .inl v → sn_At p l e rmX2_minutesOfActs s m args below meth c Q D ct ad layC A 5 σ 5 [(0, .ref (ad q0)), (1, .int x1), (2, .int x2), (3, .int v.1), (4, .int v.2)] []) (kx : ∀ v, o = .inr v → sn_At p l e rmX2_minutesOfActs s m args below meth c Q D ct ad layC A 5 σ 67 [(3, .int v)] []) : sn_At p l e rmX2_minutesOfActs s m args below meth c Q D ct ad layC A 5 σ 61 [(0, .ref (ad q0)), (1, .int x1), (2, .int x2), (3, .int x3), (4, .int x4)] [] := by
  intro H locs ls hw hl
  have hx := C.1
  have hb := C.2.1
  unfold BX2_minutesOfActs_61 at hf
  obtain ⟨y_1, e_2, hf⟩ := sn_ltE hf
  refine lv_iinc (v := y_1) (lv' := [(4, .int y_1), (0, .ref (ad q0)), (1, .int x1), (2, .int x2), (3, .int x3)]) hx hb dX2_minutesOfActs_61 hl (k := 4) rfl (by rw [e_2]; rfl) (by decide) rfl (fun ls hl => ?_)
  refine lv_goto (tgt := 5) hx hb dX2_minutesOfActs_64 (by decide) ?_
  cases hf
  exact kc _ rfl _ _ _ hw (lv_sub hl [1, 2, 3, 4, 0] rfl)
theorem wX2_minutesOfActs_5 (C : sn_C p s m args meth c RX2 cX2_minutesOfActs 5 (some .int) D ct ad layC A) {σ : sn_S} {q0 : Nat} {x1 : Int32} {x2 : Int32} {x3 : Int32} {x4 : Int32} (h0 : sn_isX2 q0) {o : (Int32 × Int32) ⊕ (Int32)} (hf : BX2_minutesOfActs_5 σ q0 x1 x2 x3 x4 = some o) (kc : ∀ v, o = .inl v → sn_At p l e rmX2_minutesOfActs s m args below meth c Q D ct ad layC A 5 σ 5 [(0, .ref (ad q0)), (1, .int x1), (2, .int x2), (3, .int v.1), (4, .int v.2)] []) (kx : ∀ v, o = .inr v → sn_At p l e rmX2_minutesOfActs s m args below meth c Q D ct ad layC A 5 σ 67 [(3, .int v)] []) : sn_At p l e rmX2_minutesOfActs s m args below meth c Q D ct ad layC A 5 σ 5 [(0, .ref (ad q0)), (1, .int x1), (2, .int x2), (3, .int x3), (4, .int x4)] [] := by
  intro H locs ls hw hl
  have hx := C.1
  have hb := C.2.1
  unfold BX2_minutesOfActs_5 at hf
  refine lv_iload hx hb dX2_minutesOfActs_5 (lv_at hl 4 rfl) ?_
  refine lv_aload_n hx hb dX2_minutesOfActs_7 rfl (lv_at hl 0 rfl) ?_
  refine sn_getC (r := (q0 + 1)) C hw fd_RX2_9 (sn_look h0 (k := 0) rfl) rfl dX2_minutesOfActs_8 ?_
  refine lv_bipush (v := 9) hx hb dX2_minutesOfActs_11 (by decide) ?_
  obtain ⟨g_1, hf⟩ := sn_gdE hf
  refine sn_iald C hw (sn_look h0 (k := 1) rfl) g_1 dX2_minutesOfActs_13 ?_
  refine lv_icmp_ge (tgt := 67) hx hb dX2_minutesOfActs_14 (by decide) (fun c_2 => ?_) (fun c_2 => ?_)
  · have hf := sn_if c_2 hf
    cases hf
    exact kx _ rfl _ _ _ hw (lv_sub hl [3] rfl)
  · have hf := sn_el c_2 hf
    refine lv_aload_n hx hb dX2_minutesOfActs_17 rfl (lv_at hl 0 rfl) ?_
    refine sn_getC (r := (q0 + 6)) C hw fd_RX2_27 (sn_look h0 (k := 0) rfl) rfl dX2_minutesOfActs_18 ?_
    refine lv_iconst (v := 3) hx hb dX2_minutesOfActs_21 rfl ?_
    refine lv_iload hx hb dX2_minutesOfActs_22 (lv_at hl 4 rfl) ?_
    refine lv_imul hx hb dX2_minutesOfActs_24 ?_
    obtain ⟨g_3, hf⟩ := sn_gdE hf
    refine sn_iald C hw (sn_look h0 (k := 6) rfl) g_3 dX2_minutesOfActs_25 ?_
    refine lv_iload_n hx hb dX2_minutesOfActs_26 rfl (lv_at hl 1 rfl) ?_
    refine lv_icmp_ne (tgt := 61) hx hb dX2_minutesOfActs_27 (by decide) (fun c_4 => ?_) (fun c_4 => ?_)
    · have hf := sn_el c_4 hf
      exact wX2_minutesOfActs_61 C h0 hf kc kx _ _ _ hw (lv_sub hl [0, 1, 2, 3, 4] rfl)
    · have hf := sn_if c_4 hf
      refine lv_aload_n hx hb dX2_minutesOfActs_30 rfl (lv_at hl 0 rfl) ?_
      refine sn_getC (r := (q0 + 6)) C hw fd_RX2_27 (sn_look h0 (k := 0) rfl) rfl dX2_minutesOfActs_31 ?_
      refine lv_iconst (v := 3) hx hb dX2_minutesOfActs_34 rfl ?_
      refine lv_iload hx hb dX2_minutesOfActs_35 (lv_at hl 4 rfl) ?_
      refine lv_imul hx hb dX2_minutesOfActs_37 ?_
      refine lv_iconst (v := 1) hx hb dX2_minutesOfActs_38 rfl ?_
      refine lv_iadd hx hb dX2_minutesOfActs_39 ?_
      obtain ⟨g_5, hf⟩ := sn_gdE hf
      refine sn_iald C hw (sn_look h0 (k := 6) rfl) g_5 dX2_minutesOfActs_40 ?_
      refine lv_iload_n hx hb dX2_minutesOfActs_41 rfl (lv_at hl 2 rfl) ?_
      refine lv_icmp_ne (tgt := 61) hx hb dX2_minutesOfActs_42 (by decide) (fun c_6 => ?_) (fun c_6 => ?_)
      · have hf := sn_el c_6 hf
        exact wX2_minutesOfActs_61 C h0 hf kc kx _ _ _ hw (lv_sub hl [0, 1, 2, 3, 4] rfl)
      · have hf := sn_if c_6 hf
        refine lv_iload_n hx hb dX2_minutesOfActs_45 rfl (lv_at hl 3 rfl) ?_
        refine lv_iconst (v := 1) hx hb dX2_minutesOfActs_46 rfl ?_
        refine lv_aload_n hx hb dX2_minutesOfActs_47 rfl (lv_at hl 0 rfl) ?_
        refine sn_getC (r := (q0 + 6)) C hw fd_RX2_27 (sn_look h0 (k := 0) rfl) rfl dX2_minutesOfActs_48 ?_
        refine lv_iconst (v := 3) hx hb dX2_minutesOfActs_51 rfl ?_
        refine lv_iload hx hb dX2_minutesOfActs_52 (lv_at hl 4 rfl) ?_
        refine lv_imul hx hb dX2_minutesOfActs_54 ?_
        refine lv_iconst (v := 2) hx hb dX2_minutesOfActs_55 rfl ?_
        refine lv_iadd hx hb dX2_minutesOfActs_56 ?_
        obtain ⟨g_7, hf⟩ := sn_gdE hf
        refine sn_iald C hw (sn_look h0 (k := 6) rfl) g_7 dX2_minutesOfActs_57 ?_
        refine lv_ishl hx hb dX2_minutesOfActs_58 ?_
        refine lv_ior hx hb dX2_minutesOfActs_59 ?_
        obtain ⟨y_8, e_9, hf⟩ := sn_ltE hf
        refine lv_topi (fun y_8_ e_9_ => ?_)
        obtain rfl : y_8 = y_8_ := e_9.trans e_9_.symm
        refine lv_istore_n (lv' := [(3, .int y_8), (0, .ref (ad q0)), (1, .int x1), (2, .int x2), (4, .int x4)]) hx hb dX2_minutesOfActs_60 rfl hl (by decide) rfl (fun ls hl => ?_)
        exact wX2_minutesOfActs_61 C h0 hf kc kx _ _ _ hw (lv_sub hl [1, 2, 3, 0, 4] rfl)
theorem wX2_minutesOfActs_L5 (C : sn_C p s m args meth c RX2 cX2_minutesOfActs 5 (some .int) D ct ad layC A) {σ : sn_S} {q0 : Nat} {x1 : Int32} {x2 : Int32}  (h0 : sn_isX2 q0) {z : Int32 × Int32} {t : Int32} (h : sn_it (LX2_minutesOfActs_5 σ q0 x1 x2) 5000 z = some t) (kx : ∀ v, t = v → sn_At p l e rmX2_minutesOfActs s m args below meth c Q D ct ad layC A 5 σ 67 [(3, .int v)] []) : sn_At p l e rmX2_minutesOfActs s m args below meth c Q D ct ad layC A 5 σ 5 [(0, .ref (ad q0)), (1, .int x1), (2, .int x2), (3, .int z.1), (4, .int z.2)] [] :=
  sn_loop (f := LX2_minutesOfActs_5 σ q0 x1 x2) (G := fun z => sn_At p l e rmX2_minutesOfActs s m args below meth c Q D ct ad layC A 5 σ 5 [(0, .ref (ad q0)), (1, .int x1), (2, .int x2), (3, .int z.1), (4, .int z.2)] []) (E := fun t => (∀ v, t = v → sn_At p l e rmX2_minutesOfActs s m args below meth c Q D ct ad layC A 5 σ 67 [(3, .int v)] []) ∧ True) (fun z o hf k1 k2 => wX2_minutesOfActs_5 C h0 hf (fun v e => k1 v e) (fun v e => (k2 _ e).1 v rfl)) 5000 z t h ⟨kx, trivial⟩
theorem wX2_minutesOfActs_in (C : sn_C p s m args meth c RX2 cX2_minutesOfActs 5 (some .int) D ct ad layC A) {σ : sn_S} {q0 : Nat} {x1 : Int32} {x2 : Int32} (h0 : sn_isX2 q0) {o : Int32} (hf : fX2_minutesOfActs σ q0 x1 x2 = some o) (kr : sn_Kr p l e rmX2_minutesOfActs s m args below meth c Q D ct ad layC A cX2_minutesOfActs .ireturn (true) σ [.int o]) : sn_At p l e rmX2_minutesOfActs s m args below meth c Q D ct ad layC A 5 σ 0 [(0, .ref (ad q0)), (1, .int x1), (2, .int x2)] [] := by
  intro H locs ls hw hl
  have hx := C.1
  have hb := C.2.1
  unfold fX2_minutesOfActs at hf
  refine lv_iconst (v := 0) hx hb dX2_minutesOfActs_0 rfl ?_
  refine lv_istore_n (lv' := [(3, .int (0 : Int32)), (0, .ref (ad q0)), (1, .int x1), (2, .int x2)]) hx hb dX2_minutesOfActs_1 rfl hl (by decide) rfl (fun ls hl => ?_)
  refine lv_iconst (v := 0) hx hb dX2_minutesOfActs_2 rfl ?_
  refine lv_istore (lv' := [(4, .int (0 : Int32)), (3, .int (0 : Int32)), (0, .ref (ad q0)), (1, .int x1), (2, .int x2)]) hx hb dX2_minutesOfActs_3 hl (by decide) rfl (fun ls hl => ?_)
  obtain ⟨t_1, h_2, hf⟩ := sn_bd hf
  exact wX2_minutesOfActs_L5 C h0 h_2 (fun v e => by cases e; exact wX2_minutesOfActs_67 C h0 hf kr) _ _ _ hw (lv_sub hl [2, 3, 4, 1, 0] rfl)
theorem ctX2_minutesOfActs (l : Launch) {σ : sn_S} {q0 : Nat} {x1 : Int32} {x2 : Int32} (h0 : sn_isX2 q0) {o : Int32} (hf : fX2_minutesOfActs σ q0 x1 x2 = some o) : sn_M l yX2_minutesOfActs cX2_minutesOfActs 5 (some .int) rmX2_minutesOfActs layC (fun ad => [.ref (ad q0), .int x1, .int x2]) σ (some (fun _ => .int o)) σ :=
  sn_met (by decide) (fun _ => Nat.le_of_ble_eq_true rfl) (fun p e s m args below meth c ls D ct ad A C hw hl => wX2_minutesOfActs_in C h0 hf (fun H locs ls pc hw ok hd => sn_iret C hw hd) _ _ _ hw hl)
-- J7_fill_53178
abbrev rmJ7_fill_53178 : Room := { frames := 0, cells := 0, slots := 0, locals := 0 }
def BJ7_fill_53178_20 (σ : sn_S) (q0 : Nat) (n0 : Nat) : Option (sn_S) :=
  (some σ)
def BJ7_fill_53178_5 (σ : sn_S) (q0 : Nat) (n0 : Nat) (x1 : Int32) (x2 : Int32) (x3 : Int32) : Option ((sn_S × Int32) ⊕ (sn_S)) :=
  (if x3 ≤ x2 then
  (some (.inr (σ)))
  else
  (sn_gd (sn_in x2 n0) (sn_lt (sn_pI σ q0 x2.toNatClampNeg x1) fun σ_3 => (sn_lt (x2 + 1) fun y_5 => (some (.inl (σ_3, y_5)))))))
def LJ7_fill_53178_5 (q0 : Nat) (n0 : Nat) (x1 : Int32) (x3 : Int32) (s : sn_S × Int32) : Option ((sn_S × Int32) ⊕ (sn_S)) := BJ7_fill_53178_5 s.1 q0 n0 x1 s.2 x3
def fJ7_fill_53178 (σ : sn_S) (q0 : Nat) (n0 : Nat) (x1 : Int32) : Option sn_S :=
  (sn_lt (Int32.ofNat n0) fun y_1 => ((sn_it (LJ7_fill_53178_5 q0 n0 x1 y_1) 5000 (σ, (0 : Int32))).bind fun t_3 => (BJ7_fill_53178_20 t_3 q0 n0)))
theorem wJ7_fill_53178_20 (C : sn_C p s m args meth c RJ7 cJ7_fill_53178 4 none D ct ad lay A) {σ : sn_S} {q0 : Nat} {n0 : Nat} (h0 : lay[q0]? = some (.inl (0, n0, 0, []))) {o : sn_S} (hf : BJ7_fill_53178_20 σ q0 n0 = some o) (kr : sn_Kr p l e rmJ7_fill_53178 s m args below meth c Q D ct ad lay A cJ7_fill_53178 .return_ (true) o []) : sn_At p l e rmJ7_fill_53178 s m args below meth c Q D ct ad lay A 4 σ 20 [] [] := by
  intro H locs ls hw hl
  have hx := C.1
  have hb := C.2.1
  unfold BJ7_fill_53178_20 at hf
  cases hf
  exact kr _ _ _ _ hw rfl dJ7_fill_53178_20
theorem wJ7_fill_53178_5 (C : sn_C p s m args meth c RJ7 cJ7_fill_53178 4 none D ct ad lay A) {σ : sn_S} {q0 : Nat} {n0 : Nat} {x1 : Int32} {x2 : Int32} {x3 : Int32} (h0 : lay[q0]? = some (.inl (0, n0, 0, []))) {o : (sn_S × Int32) ⊕ (sn_S)} (hf : BJ7_fill_53178_5 σ q0 n0 x1 x2 x3 = some o) (kc : ∀ v, o = .inl v → sn_At p l e rmJ7_fill_53178 s m args below meth c Q D ct ad lay A 4 v.1 5 [(0, .ref (ad q0)), (1, .int x1), (2, .int v.2), (3, .int x3)] []) (kx : ∀ v, o = .inr v → sn_At p l e rmJ7_fill_53178 s m args below meth c Q D ct ad lay A 4 v 20 [] []) : sn_At p l e rmJ7_fill_53178 s m args below meth c Q D ct ad lay A 4 σ 5 [(0, .ref (ad q0)), (1, .int x1), (2, .int x2), (3, .int x3)] [] := by
  intro H locs ls hw hl
  have hx := C.1
  have hb := C.2.1
  unfold BJ7_fill_53178_5 at hf
  refine lv_iload_n hx hb dJ7_fill_53178_5 rfl (lv_at hl 2 rfl) ?_
  refine lv_iload_n hx hb dJ7_fill_53178_6 rfl (lv_at hl 3 rfl) ?_
  refine lv_icmp_ge (tgt := 20) hx hb dJ7_fill_53178_7 (by decide) (fun c_1 => ?_) (fun c_1 => ?_)
  · have hf := sn_if c_1 hf
    cases hf
    exact kx _ rfl _ _ _ hw (lv_sub hl [] rfl)
  · have hf := sn_el c_1 hf
    refine lv_aload_n hx hb dJ7_fill_53178_10 rfl (lv_at hl 0 rfl) ?_
    refine lv_iload_n hx hb dJ7_fill_53178_11 rfl (lv_at hl 2 rfl) ?_
    refine lv_iload_n hx hb dJ7_fill_53178_12 rfl (lv_at hl 1 rfl) ?_
    obtain ⟨g_2, hf⟩ := sn_gdE hf
    refine sn_iast C hw h0 g_2 dJ7_fill_53178_13 (fun H locs hw => ?_)
    obtain ⟨σ_3, e_4, hf⟩ := sn_ltE hf
    rw [← e_4] at hw
    obtain ⟨y_5, e_6, hf⟩ := sn_ltE hf
    refine lv_iinc (v := y_5) (lv' := [(2, .int y_5), (0, .ref (ad q0)), (1, .int x1), (3, .int x3)]) hx hb dJ7_fill_53178_14 hl (k := 2) rfl (by rw [e_6]; rfl) (by decide) rfl (fun ls hl => ?_)
    refine lv_goto (tgt := 5) hx hb dJ7_fill_53178_17 (by decide) ?_
    cases hf
    exact kc _ rfl _ _ _ hw (lv_sub hl [1, 2, 0, 3] rfl)
theorem wJ7_fill_53178_L5 (C : sn_C p s m args meth c RJ7 cJ7_fill_53178 4 none D ct ad lay A) {q0 : Nat} {n0 : Nat} {x1 : Int32} {x3 : Int32}  (h0 : lay[q0]? = some (.inl (0, n0, 0, []))) {z : sn_S × Int32} {t : sn_S} (h : sn_it (LJ7_fill_53178_5 q0 n0 x1 x3) 5000 z = some t) (kx : ∀ v, t = v → sn_At p l e rmJ7_fill_53178 s m args below meth c Q D ct ad lay A 4 v 20 [] []) : sn_At p l e rmJ7_fill_53178 s m args below meth c Q D ct ad lay A 4 z.1 5 [(0, .ref (ad q0)), (1, .int x1), (2, .int z.2), (3, .int x3)] [] :=
  sn_loop (f := LJ7_fill_53178_5 q0 n0 x1 x3) (G := fun z => sn_At p l e rmJ7_fill_53178 s m args below meth c Q D ct ad lay A 4 z.1 5 [(0, .ref (ad q0)), (1, .int x1), (2, .int z.2), (3, .int x3)] []) (E := fun t => (∀ v, t = v → sn_At p l e rmJ7_fill_53178 s m args below meth c Q D ct ad lay A 4 v 20 [] []) ∧ True) (fun z o hf k1 k2 => wJ7_fill_53178_5 C h0 hf (fun v e => k1 v e) (fun v e => (k2 _ e).1 v rfl)) 5000 z t h ⟨kx, trivial⟩
theorem wJ7_fill_53178_in (C : sn_C p s m args meth c RJ7 cJ7_fill_53178 4 none D ct ad lay A) {σ : sn_S} {q0 : Nat} {n0 : Nat} {x1 : Int32} (h0 : lay[q0]? = some (.inl (0, n0, 0, []))) {o : sn_S} (hf : fJ7_fill_53178 σ q0 n0 x1 = some o) (kr : sn_Kr p l e rmJ7_fill_53178 s m args below meth c Q D ct ad lay A cJ7_fill_53178 .return_ (true) o []) : sn_At p l e rmJ7_fill_53178 s m args below meth c Q D ct ad lay A 4 σ 0 [(0, .ref (ad q0)), (1, .int x1)] [] := by
  intro H locs ls hw hl
  have hx := C.1
  have hb := C.2.1
  unfold fJ7_fill_53178 at hf
  refine lv_iconst (v := 0) hx hb dJ7_fill_53178_0 rfl ?_
  refine lv_istore_n (lv' := [(2, .int (0 : Int32)), (0, .ref (ad q0)), (1, .int x1)]) hx hb dJ7_fill_53178_1 rfl hl (by decide) rfl (fun ls hl => ?_)
  refine lv_aload_n hx hb dJ7_fill_53178_2 rfl (lv_at hl 1 rfl) ?_
  refine sn_alen C hw h0 rfl rfl dJ7_fill_53178_3 ?_
  obtain ⟨y_1, e_2, hf⟩ := sn_ltE hf
  refine lv_topi (fun y_1_ e_2_ => ?_)
  obtain rfl : y_1 = y_1_ := e_2.trans e_2_.symm
  refine lv_istore_n (lv' := [(3, .int y_1), (2, .int (0 : Int32)), (0, .ref (ad q0)), (1, .int x1)]) hx hb dJ7_fill_53178_4 rfl hl (by decide) rfl (fun ls hl => ?_)
  obtain ⟨t_3, h_4, hf⟩ := sn_bd hf
  exact wJ7_fill_53178_L5 C h0 h_4 (fun v e => by cases e; exact wJ7_fill_53178_20 C h0 hf kr) _ _ _ hw (lv_sub hl [2, 3, 1, 0] rfl)
theorem ctJ7_fill_53178 (l : Launch) {σ : sn_S} {q0 : Nat} {n0 : Nat} {x1 : Int32} (h0 : lay[q0]? = some (.inl (0, n0, 0, []))) {o : sn_S} (hf : fJ7_fill_53178 σ q0 n0 x1 = some o) : sn_M l yJ7_fill_53178 cJ7_fill_53178 4 none rmJ7_fill_53178 lay (fun ad => [.ref (ad q0), .int x1]) σ none o :=
  sn_met (by decide) (fun _ => Nat.le_of_ble_eq_true rfl) (fun p e s m args below meth c ls D ct ad A C hw hl => wJ7_fill_53178_in C h0 hf (fun H locs ls pc hw ok hd => sn_vret C hw hd) _ _ _ hw hl)
-- X0_tellFrom
abbrev rmX0_tellFrom : Room := { frames := 1, cells := 0, slots := 0, locals := 48 }
def BX0_tellFrom_182 (σ : sn_S) (q0 : Nat) (q1 : Nat) : Option (sn_S) :=
  (some σ)
def BX0_tellFrom_139 (σ : sn_S) (q0 : Nat) (q1 : Nat) (x2 : Int32) : Option ((sn_S × Int32) ⊕ (sn_S)) :=
  (sn_gd (sn_in (6 : Int32) 11) (if (sn_I σ (q1 + 1) (6 : Int32).toNatClampNeg) ≤ x2 then
  (some (.inr (σ)))
  else
  (sn_gd (sn_in (((2 : Int32) * x2) + (1 : Int32)) 10) (sn_gd (sn_in (sn_I σ (q1 + 3) (((2 : Int32) * x2) + (1 : Int32)).toNatClampNeg) 30) (sn_gd (sn_in ((2 : Int32) * x2) 10) (sn_gd (sn_in (sn_I σ (q1 + 3) (((2 : Int32) * x2) + (1 : Int32)).toNatClampNeg) 30) (sn_lt (sn_pI σ (q0 + 1) (sn_I σ (q1 + 3) (((2 : Int32) * x2) + (1 : Int32)).toNatClampNeg).toNatClampNeg ((sn_I σ (q0 + 1) (sn_I σ (q1 + 3) (((2 : Int32) * x2) + (1 : Int32)).toNatClampNeg).toNatClampNeg) + (sn_I σ (q1 + 3) ((2 : Int32) * x2).toNatClampNeg))) fun σ_7 => (sn_lt (x2 + 1) fun y_9 => (some (.inl (σ_7, y_9)))))))))))
def LX0_tellFrom_139 (q0 : Nat) (q1 : Nat) (s : sn_S × Int32) : Option ((sn_S × Int32) ⊕ (sn_S)) := BX0_tellFrom_139 s.1 q0 q1 s.2
def BX0_tellFrom_124 (σ : sn_S) (q0 : Nat) (q1 : Nat) : Option (sn_S) :=
  (sn_gd (sn_in (1 : Int32) 11) ((fJ7_fill_53178 σ (q0 + 1) 30 (sn_I σ (q1 + 1) (1 : Int32).toNatClampNeg)).bind fun t_2 => ((sn_it (LX0_tellFrom_139 q0 q1) 5000 (t_2, (0 : Int32))).bind fun t_4 => (BX0_tellFrom_182 t_4 q0 q1))))
def BX0_tellFrom_56 (σ : sn_S) (q0 : Nat) (q1 : Nat) (x2 : Int32) : Option ((sn_S × Int32) ⊕ (sn_S)) :=
  (if (sn_I σ q0 1) ≤ x2 then
  (some (.inr (σ)))
  else
  (sn_gd (sn_in ((2 : Int32) * x2) 12) (sn_gd (sn_in x2 6) (sn_lt (sn_pI σ (q0 + 2) x2.toNatClampNeg (sn_I σ (q1 + 2) ((2 : Int32) * x2).toNatClampNeg)) fun σ_4 => (sn_gd (sn_in (((2 : Int32) * x2) + (1 : Int32)) 12) (sn_gd (sn_in x2 6) (sn_lt (sn_pI σ_4 (q0 + 3) x2.toNatClampNeg (sn_I σ_4 (q1 + 2) (((2 : Int32) * x2) + (1 : Int32)).toNatClampNeg)) fun σ_8 => ((fX2_minutesOfActs σ_8 q1 (0 : Int32) x2).bind fun t_10 => (sn_gd (sn_in x2 6) (sn_lt (sn_pI σ_8 (q0 + 4) x2.toNatClampNeg t_10) fun σ_13 => ((fX2_minutesOfActs σ_13 q1 (1 : Int32) x2).bind fun t_15 => (sn_gd (sn_in x2 6) (sn_lt (sn_pI σ_13 (q0 + 5) x2.toNatClampNeg t_15) fun σ_18 => (sn_lt (x2 + 1) fun y_20 => (some (.inl (σ_18, y_20)))))))))))))))))
def LX0_tellFrom_56 (q0 : Nat) (q1 : Nat) (s : sn_S × Int32) : Option ((sn_S × Int32) ⊕ (sn_S)) := BX0_tellFrom_56 s.1 q0 q1 s.2
def fX0_tellFrom (σ : sn_S) (q0 : Nat) (q1 : Nat) : Option sn_S :=
  (sn_gd (sn_in (0 : Int32) 11) (sn_lt (sn_pI σ q0 0 (sn_I σ (q1 + 1) (0 : Int32).toNatClampNeg)) fun σ_2 => (sn_gd (sn_in (5 : Int32) 11) (sn_lt (sn_pI σ_2 q0 1 (sn_I σ_2 (q1 + 1) (5 : Int32).toNatClampNeg)) fun σ_5 => (sn_gd (sn_in (7 : Int32) 11) (sn_lt (sn_pI σ_5 q0 2 (sn_I σ_5 (q1 + 1) (7 : Int32).toNatClampNeg)) fun σ_8 => (sn_lt (sn_pI σ_8 q0 3 (-1 : Int32)) fun σ_10 => (sn_gd (sn_cpok (0 : Int32) (0 : Int32) (Int32.ofNat 16) 16 16) (sn_lt (sn_wI σ_10 (q0 + 6) (va_cpy (sn_I σ_10 (q1 + 4)) (sn_I σ_10 (q0 + 6)) (0 : Int32).toNatClampNeg (0 : Int32).toNatClampNeg (Int32.ofNat 16).toNatClampNeg)) fun σ_13 => ((sn_it (LX0_tellFrom_56 q0 q1) 5000 (σ_13, (0 : Int32))).bind fun t_15 => (BX0_tellFrom_124 t_15 q0 q1)))))))))))
theorem wX0_tellFrom_182 (C : sn_C p s m args meth c RX0 cX0_tellFrom 3 none D ct ad layC A) {σ : sn_S} {q0 : Nat} {q1 : Nat} (h0 : sn_isX0 q0) (h1 : sn_isX2 q1) {o : sn_S} (hf : BX0_tellFrom_182 σ q0 q1 = some o) (kr : sn_Kr p l e rmX0_tellFrom s m args below meth c Q D ct ad layC A cX0_tellFrom .return_ (true) o []) : sn_At p l e rmX0_tellFrom s m args below meth c Q D ct ad layC A 3 σ 182 [] [] := by
  intro H locs ls hw hl
  have hx := C.1
  have hb := C.2.1
  unfold BX0_tellFrom_182 at hf
  cases hf
  exact kr _ _ _ _ hw rfl dX0_tellFrom_182
theorem wX0_tellFrom_139 (C : sn_C p s m args meth c RX0 cX0_tellFrom 3 none D ct ad layC A) {σ : sn_S} {q0 : Nat} {q1 : Nat} {x2 : Int32} (h0 : sn_isX0 q0) (h1 : sn_isX2 q1) {o : (sn_S × Int32) ⊕ (sn_S)} (hf : BX0_tellFrom_139 σ q0 q1 x2 = some o) (kc : ∀ v, o = .inl v → sn_At p l e rmX0_tellFrom s m args below meth c Q D ct ad layC A 3 v.1 139 [(0, .ref (ad q0)), (1, .ref (ad q1)), (2, .int v.2)] []) (kx : ∀ v, o = .inr v → sn_At p l e rmX0_tellFrom s m args below meth c Q D ct ad layC A 3 v 182 [] []) : sn_At p l e rmX0_tellFrom s m args below meth c Q D ct ad layC A 3 σ 139 [(0, .ref (ad q0)), (1, .ref (ad q1)), (2, .int x2)] [] := by
  intro H locs ls hw hl
  have hx := C.1
  have hb := C.2.1
  unfold BX0_tellFrom_139 at hf
  refine lv_iload_n hx hb dX0_tellFrom_139 rfl (lv_at hl 2 rfl) ?_
  refine lv_aload_n hx hb dX0_tellFrom_140 rfl (lv_at hl 1 rfl) ?_
  refine sn_getC (r := (q1 + 1)) C hw fd_RX0_46 (sn_look h1 (k := 0) rfl) rfl dX0_tellFrom_141 ?_
  refine lv_bipush (v := 6) hx hb dX0_tellFrom_144 (by decide) ?_
  obtain ⟨g_1, hf⟩ := sn_gdE hf
  refine sn_iald C hw (sn_look h1 (k := 1) rfl) g_1 dX0_tellFrom_146 ?_
  refine lv_icmp_ge (tgt := 182) hx hb dX0_tellFrom_147 (by decide) (fun c_2 => ?_) (fun c_2 => ?_)
  · have hf := sn_if c_2 hf
    cases hf
    exact kx _ rfl _ _ _ hw (lv_sub hl [] rfl)
  · have hf := sn_el c_2 hf
    refine lv_aload_n hx hb dX0_tellFrom_150 rfl (lv_at hl 0 rfl) ?_
    refine sn_getC (r := (q0 + 1)) C hw fd_RX0_15 (sn_look h0 (k := 0) rfl) rfl dX0_tellFrom_151 ?_
    refine lv_aload_n hx hb dX0_tellFrom_154 rfl (lv_at hl 1 rfl) ?_
    refine sn_getC (r := (q1 + 3)) C hw fd_RX0_80 (sn_look h1 (k := 0) rfl) rfl dX0_tellFrom_155 ?_
    refine lv_iconst (v := 2) hx hb dX0_tellFrom_158 rfl ?_
    refine lv_iload_n hx hb dX0_tellFrom_159 rfl (lv_at hl 2 rfl) ?_
    refine lv_imul hx hb dX0_tellFrom_160 ?_
    refine lv_iconst (v := 1) hx hb dX0_tellFrom_161 rfl ?_
    refine lv_iadd hx hb dX0_tellFrom_162 ?_
    obtain ⟨g_3, hf⟩ := sn_gdE hf
    refine sn_iald C hw (sn_look h1 (k := 3) rfl) g_3 dX0_tellFrom_163 ?_
    refine lv_dup2_11 hx hb dX0_tellFrom_164 rfl rfl ?_
    obtain ⟨g_4, hf⟩ := sn_gdE hf
    refine sn_iald C hw (sn_look h0 (k := 1) rfl) g_4 dX0_tellFrom_165 ?_
    refine lv_aload_n hx hb dX0_tellFrom_166 rfl (lv_at hl 1 rfl) ?_
    refine sn_getC (r := (q1 + 3)) C hw fd_RX0_80 (sn_look h1 (k := 0) rfl) rfl dX0_tellFrom_167 ?_
    refine lv_iconst (v := 2) hx hb dX0_tellFrom_170 rfl ?_
    refine lv_iload_n hx hb dX0_tellFrom_171 rfl (lv_at hl 2 rfl) ?_
    refine lv_imul hx hb dX0_tellFrom_172 ?_
    obtain ⟨g_5, hf⟩ := sn_gdE hf
    refine sn_iald C hw (sn_look h1 (k := 3) rfl) g_5 dX0_tellFrom_173 ?_
    refine lv_iadd hx hb dX0_tellFrom_174 ?_
    obtain ⟨g_6, hf⟩ := sn_gdE hf
    refine sn_iast C hw (sn_look h0 (k := 1) rfl) g_6 dX0_tellFrom_175 (fun H locs hw => ?_)
    obtain ⟨σ_7, e_8, hf⟩ := sn_ltE hf
    rw [← e_8] at hw
    obtain ⟨y_9, e_10, hf⟩ := sn_ltE hf
    refine lv_iinc (v := y_9) (lv' := [(2, .int y_9), (0, .ref (ad q0)), (1, .ref (ad q1))]) hx hb dX0_tellFrom_176 hl (k := 2) rfl (by rw [e_10]; rfl) (by decide) rfl (fun ls hl => ?_)
    refine lv_goto (tgt := 139) hx hb dX0_tellFrom_179 (by decide) ?_
    cases hf
    exact kc _ rfl _ _ _ hw (lv_sub hl [1, 2, 0] rfl)
theorem wX0_tellFrom_L139 (C : sn_C p s m args meth c RX0 cX0_tellFrom 3 none D ct ad layC A) {q0 : Nat} {q1 : Nat}  (h0 : sn_isX0 q0) (h1 : sn_isX2 q1) {z : sn_S × Int32} {t : sn_S} (h : sn_it (LX0_tellFrom_139 q0 q1) 5000 z = some t) (kx : ∀ v, t = v → sn_At p l e rmX0_tellFrom s m args below meth c Q D ct ad layC A 3 v 182 [] []) : sn_At p l e rmX0_tellFrom s m args below meth c Q D ct ad layC A 3 z.1 139 [(0, .ref (ad q0)), (1, .ref (ad q1)), (2, .int z.2)] [] :=
  sn_loop (f := LX0_tellFrom_139 q0 q1) (G := fun z => sn_At p l e rmX0_tellFrom s m args below meth c Q D ct ad layC A 3 z.1 139 [(0, .ref (ad q0)), (1, .ref (ad q1)), (2, .int z.2)] []) (E := fun t => (∀ v, t = v → sn_At p l e rmX0_tellFrom s m args below meth c Q D ct ad layC A 3 v 182 [] []) ∧ True) (fun z o hf k1 k2 => wX0_tellFrom_139 C h0 h1 hf (fun v e => k1 v e) (fun v e => (k2 _ e).1 v rfl)) 5000 z t h ⟨kx, trivial⟩
theorem wX0_tellFrom_124 (C : sn_C p s m args meth c RX0 cX0_tellFrom 3 none D ct ad layC A) {σ : sn_S} {q0 : Nat} {q1 : Nat} (h0 : sn_isX0 q0) (h1 : sn_isX2 q1) {o : sn_S} (hf : BX0_tellFrom_124 σ q0 q1 = some o) (kr : sn_Kr p l e rmX0_tellFrom s m args below meth c Q D ct ad layC A cX0_tellFrom .return_ (true) o []) : sn_At p l e rmX0_tellFrom s m args below meth c Q D ct ad layC A 3 σ 124 [(0, .ref (ad q0)), (1, .ref (ad q1))] [] := by
  intro H locs ls hw hl
  have hx := C.1
  have hb := C.2.1
  unfold BX0_tellFrom_124 at hf
  refine lv_aload_n hx hb dX0_tellFrom_124 rfl (lv_at hl 0 rfl) ?_
  refine sn_getC (r := (q0 + 1)) C hw fd_RX0_15 (sn_look h0 (k := 0) rfl) rfl dX0_tellFrom_125 ?_
  refine lv_aload_n hx hb dX0_tellFrom_128 rfl (lv_at hl 1 rfl) ?_
  refine sn_getC (r := (q1 + 1)) C hw fd_RX0_46 (sn_look h1 (k := 0) rfl) rfl dX0_tellFrom_129 ?_
  refine lv_iconst (v := 1) hx hb dX0_tellFrom_132 rfl ?_
  obtain ⟨g_1, hf⟩ := sn_gdE hf
  refine sn_iald C hw (sn_look h1 (k := 1) rfl) g_1 dX0_tellFrom_133 ?_
  obtain ⟨t_2, h_3, hf⟩ := sn_bd hf
  refine sn_callSv (rest := []) C hw (ctJ7_fill_53178 l (sn_look h0 (k := 1) rfl) h_3) kl_RX0_74 rfl rfl rfl (Nat.le_of_ble_eq_true rfl) dX0_tellFrom_134 hl.1 (fun H locs hw => ?_)
  refine lv_iconst (v := 0) hx hb dX0_tellFrom_137 rfl ?_
  refine lv_istore_n (lv' := [(2, .int (0 : Int32)), (0, .ref (ad q0)), (1, .ref (ad q1))]) hx hb dX0_tellFrom_138 rfl hl (by decide) rfl (fun ls hl => ?_)
  obtain ⟨t_4, h_5, hf⟩ := sn_bd hf
  exact wX0_tellFrom_L139 C h0 h1 h_5 (fun v e => by cases e; exact wX0_tellFrom_182 C h0 h1 hf kr) _ _ _ hw (lv_sub hl [1, 2, 0] rfl)
theorem wX0_tellFrom_56 (C : sn_C p s m args meth c RX0 cX0_tellFrom 3 none D ct ad layC A) {σ : sn_S} {q0 : Nat} {q1 : Nat} {x2 : Int32} (h0 : sn_isX0 q0) (h1 : sn_isX2 q1) {o : (sn_S × Int32) ⊕ (sn_S)} (hf : BX0_tellFrom_56 σ q0 q1 x2 = some o) (kc : ∀ v, o = .inl v → sn_At p l e rmX0_tellFrom s m args below meth c Q D ct ad layC A 3 v.1 56 [(0, .ref (ad q0)), (1, .ref (ad q1)), (2, .int v.2)] []) (kx : ∀ v, o = .inr v → sn_At p l e rmX0_tellFrom s m args below meth c Q D ct ad layC A 3 v 124 [(0, .ref (ad q0)), (1, .ref (ad q1))] []) : sn_At p l e rmX0_tellFrom s m args below meth c Q D ct ad layC A 3 σ 56 [(0, .ref (ad q0)), (1, .ref (ad q1)), (2, .int x2)] [] := by
  intro H locs ls hw hl
  have hx := C.1
  have hb := C.2.1
  unfold BX0_tellFrom_56 at hf
  refine lv_iload_n hx hb dX0_tellFrom_56 rfl (lv_at hl 2 rfl) ?_
  refine lv_aload_n hx hb dX0_tellFrom_57 rfl (lv_at hl 0 rfl) ?_
  refine sn_getI C hw fd_RX0_54 (sn_look h0 (k := 0) rfl) rfl dX0_tellFrom_58 ?_
  refine lv_icmp_ge (tgt := 124) hx hb dX0_tellFrom_61 (by decide) (fun c_1 => ?_) (fun c_1 => ?_)
  · have hf := sn_if c_1 hf
    cases hf
    exact kx _ rfl _ _ _ hw (lv_sub hl [0, 1] rfl)
  · have hf := sn_el c_1 hf
    refine lv_aload_n hx hb dX0_tellFrom_64 rfl (lv_at hl 0 rfl) ?_
    refine sn_getC (r := (q0 + 2)) C hw fd_RX0_19 (sn_look h0 (k := 0) rfl) rfl dX0_tellFrom_65 ?_
    refine lv_iload_n hx hb dX0_tellFrom_68 rfl (lv_at hl 2 rfl) ?_
    refine lv_aload_n hx hb dX0_tellFrom_69 rfl (lv_at hl 1 rfl) ?_
    refine sn_getC (r := (q1 + 2)) C hw fd_RX0_67 (sn_look h1 (k := 0) rfl) rfl dX0_tellFrom_70 ?_
    refine lv_iconst (v := 2) hx hb dX0_tellFrom_73 rfl ?_
    refine lv_iload_n hx hb dX0_tellFrom_74 rfl (lv_at hl 2 rfl) ?_
    refine lv_imul hx hb dX0_tellFrom_75 ?_
    obtain ⟨g_2, hf⟩ := sn_gdE hf
    refine sn_iald C hw (sn_look h1 (k := 2) rfl) g_2 dX0_tellFrom_76 ?_
    obtain ⟨g_3, hf⟩ := sn_gdE hf
    refine sn_iast C hw (sn_look h0 (k := 2) rfl) g_3 dX0_tellFrom_77 (fun H locs hw => ?_)
    obtain ⟨σ_4, e_5, hf⟩ := sn_ltE hf
    rw [← e_5] at hw
    refine lv_aload_n hx hb dX0_tellFrom_78 rfl (lv_at hl 0 rfl) ?_
    refine sn_getC (r := (q0 + 3)) C hw fd_RX0_22 (sn_look h0 (k := 0) rfl) rfl dX0_tellFrom_79 ?_
    refine lv_iload_n hx hb dX0_tellFrom_82 rfl (lv_at hl 2 rfl) ?_
    refine lv_aload_n hx hb dX0_tellFrom_83 rfl (lv_at hl 1 rfl) ?_
    refine sn_getC (r := (q1 + 2)) C hw fd_RX0_67 (sn_look h1 (k := 0) rfl) rfl dX0_tellFrom_84 ?_
    refine lv_iconst (v := 2) hx hb dX0_tellFrom_87 rfl ?_
    refine lv_iload_n hx hb dX0_tellFrom_88 rfl (lv_at hl 2 rfl) ?_
    refine lv_imul hx hb dX0_tellFrom_89 ?_
    refine lv_iconst (v := 1) hx hb dX0_tellFrom_90 rfl ?_
    refine lv_iadd hx hb dX0_tellFrom_91 ?_
    obtain ⟨g_6, hf⟩ := sn_gdE hf
    refine sn_iald C hw (sn_look h1 (k := 2) rfl) g_6 dX0_tellFrom_92 ?_
    obtain ⟨g_7, hf⟩ := sn_gdE hf
    refine sn_iast C hw (sn_look h0 (k := 3) rfl) g_7 dX0_tellFrom_93 (fun H locs hw => ?_)
    obtain ⟨σ_8, e_9, hf⟩ := sn_ltE hf
    rw [← e_9] at hw
    refine lv_aload_n hx hb dX0_tellFrom_94 rfl (lv_at hl 0 rfl) ?_
    refine sn_getC (r := (q0 + 4)) C hw fd_RX0_25 (sn_look h0 (k := 0) rfl) rfl dX0_tellFrom_95 ?_
    refine lv_iload_n hx hb dX0_tellFrom_98 rfl (lv_at hl 2 rfl) ?_
    refine lv_aload_n hx hb dX0_tellFrom_99 rfl (lv_at hl 1 rfl) ?_
    refine lv_iconst (v := 0) hx hb dX0_tellFrom_100 rfl ?_
    refine lv_iload_n hx hb dX0_tellFrom_101 rfl (lv_at hl 2 rfl) ?_
    obtain ⟨t_10, h_11, hf⟩ := sn_bd hf
    refine sn_callVi (rest := [.int x2, .ref (ad (q0 + 4))]) C hw (ctX2_minutesOfActs l h1 h_11) kl_RX0_70 (sn_look h1 (k := 0) rfl) rfl rfl rfl rfl (Nat.le_of_ble_eq_true rfl) dX0_tellFrom_102 hl.1 (fun H locs hw => ?_)
    obtain ⟨g_12, hf⟩ := sn_gdE hf
    refine sn_iast C hw (sn_look h0 (k := 4) rfl) g_12 dX0_tellFrom_105 (fun H locs hw => ?_)
    obtain ⟨σ_13, e_14, hf⟩ := sn_ltE hf
    rw [← e_14] at hw
    refine lv_aload_n hx hb dX0_tellFrom_106 rfl (lv_at hl 0 rfl) ?_
    refine sn_getC (r := (q0 + 5)) C hw fd_RX0_28 (sn_look h0 (k := 0) rfl) rfl dX0_tellFrom_107 ?_
    refine lv_iload_n hx hb dX0_tellFrom_110 rfl (lv_at hl 2 rfl) ?_
    refine lv_aload_n hx hb dX0_tellFrom_111 rfl (lv_at hl 1 rfl) ?_
    refine lv_iconst (v := 1) hx hb dX0_tellFrom_112 rfl ?_
    refine lv_iload_n hx hb dX0_tellFrom_113 rfl (lv_at hl 2 rfl) ?_
    obtain ⟨t_15, h_16, hf⟩ := sn_bd hf
    refine sn_callVi (rest := [.int x2, .ref (ad (q0 + 5))]) C hw (ctX2_minutesOfActs l h1 h_16) kl_RX0_70 (sn_look h1 (k := 0) rfl) rfl rfl rfl rfl (Nat.le_of_ble_eq_true rfl) dX0_tellFrom_114 hl.1 (fun H locs hw => ?_)
    obtain ⟨g_17, hf⟩ := sn_gdE hf
    refine sn_iast C hw (sn_look h0 (k := 5) rfl) g_17 dX0_tellFrom_117 (fun H locs hw => ?_)
    obtain ⟨σ_18, e_19, hf⟩ := sn_ltE hf
    rw [← e_19] at hw
    obtain ⟨y_20, e_21, hf⟩ := sn_ltE hf
    refine lv_iinc (v := y_20) (lv' := [(2, .int y_20), (0, .ref (ad q0)), (1, .ref (ad q1))]) hx hb dX0_tellFrom_118 hl (k := 2) rfl (by rw [e_21]; rfl) (by decide) rfl (fun ls hl => ?_)
    refine lv_goto (tgt := 56) hx hb dX0_tellFrom_121 (by decide) ?_
    cases hf
    exact kc _ rfl _ _ _ hw (lv_sub hl [1, 2, 0] rfl)
theorem wX0_tellFrom_L56 (C : sn_C p s m args meth c RX0 cX0_tellFrom 3 none D ct ad layC A) {q0 : Nat} {q1 : Nat}  (h0 : sn_isX0 q0) (h1 : sn_isX2 q1) {z : sn_S × Int32} {t : sn_S} (h : sn_it (LX0_tellFrom_56 q0 q1) 5000 z = some t) (kx : ∀ v, t = v → sn_At p l e rmX0_tellFrom s m args below meth c Q D ct ad layC A 3 v 124 [(0, .ref (ad q0)), (1, .ref (ad q1))] []) : sn_At p l e rmX0_tellFrom s m args below meth c Q D ct ad layC A 3 z.1 56 [(0, .ref (ad q0)), (1, .ref (ad q1)), (2, .int z.2)] [] :=
  sn_loop (f := LX0_tellFrom_56 q0 q1) (G := fun z => sn_At p l e rmX0_tellFrom s m args below meth c Q D ct ad layC A 3 z.1 56 [(0, .ref (ad q0)), (1, .ref (ad q1)), (2, .int z.2)] []) (E := fun t => (∀ v, t = v → sn_At p l e rmX0_tellFrom s m args below meth c Q D ct ad layC A 3 v 124 [(0, .ref (ad q0)), (1, .ref (ad q1))] []) ∧ True) (fun z o hf k1 k2 => wX0_tellFrom_56 C h0 h1 hf (fun v e => k1 v e) (fun v e => (k2 _ e).1 v rfl)) 5000 z t h ⟨kx, trivial⟩
theorem wX0_tellFrom_in (C : sn_C p s m args meth c RX0 cX0_tellFrom 3 none D ct ad layC A) {σ : sn_S} {q0 : Nat} {q1 : Nat} (h0 : sn_isX0 q0) (h1 : sn_isX2 q1) {o : sn_S} (hf : fX0_tellFrom σ q0 q1 = some o) (kr : sn_Kr p l e rmX0_tellFrom s m args below meth c Q D ct ad layC A cX0_tellFrom .return_ (true) o []) : sn_At p l e rmX0_tellFrom s m args below meth c Q D ct ad layC A 3 σ 0 [(0, .ref (ad q0)), (1, .ref (ad q1))] [] := by
  intro H locs ls hw hl
  have hx := C.1
  have hb := C.2.1
  unfold fX0_tellFrom at hf
  refine lv_aload_n hx hb dX0_tellFrom_0 rfl (lv_at hl 0 rfl) ?_
  refine lv_aload_n hx hb dX0_tellFrom_1 rfl (lv_at hl 1 rfl) ?_
  refine sn_getC (r := (q1 + 1)) C hw fd_RX0_46 (sn_look h1 (k := 0) rfl) rfl dX0_tellFrom_2 ?_
  refine lv_iconst (v := 0) hx hb dX0_tellFrom_5 rfl ?_
  obtain ⟨g_1, hf⟩ := sn_gdE hf
  refine sn_iald C hw (sn_look h1 (k := 1) rfl) g_1 dX0_tellFrom_6 ?_
  refine sn_putI C hw fp_RX0_51 (sn_look h0 (k := 0) rfl) rfl dX0_tellFrom_7 (fun H locs hw => ?_)
  obtain ⟨σ_2, e_3, hf⟩ := sn_ltE hf
  rw [← e_3] at hw
  refine lv_aload_n hx hb dX0_tellFrom_10 rfl (lv_at hl 0 rfl) ?_
  refine lv_aload_n hx hb dX0_tellFrom_11 rfl (lv_at hl 1 rfl) ?_
  refine sn_getC (r := (q1 + 1)) C hw fd_RX0_46 (sn_look h1 (k := 0) rfl) rfl dX0_tellFrom_12 ?_
  refine lv_iconst (v := 5) hx hb dX0_tellFrom_15 rfl ?_
  obtain ⟨g_4, hf⟩ := sn_gdE hf
  refine sn_iald C hw (sn_look h1 (k := 1) rfl) g_4 dX0_tellFrom_16 ?_
  refine sn_putI C hw fp_RX0_54 (sn_look h0 (k := 0) rfl) rfl dX0_tellFrom_17 (fun H locs hw => ?_)
  obtain ⟨σ_5, e_6, hf⟩ := sn_ltE hf
  rw [← e_6] at hw
  refine lv_aload_n hx hb dX0_tellFrom_20 rfl (lv_at hl 0 rfl) ?_
  refine lv_aload_n hx hb dX0_tellFrom_21 rfl (lv_at hl 1 rfl) ?_
  refine sn_getC (r := (q1 + 1)) C hw fd_RX0_46 (sn_look h1 (k := 0) rfl) rfl dX0_tellFrom_22 ?_
  refine lv_bipush (v := 7) hx hb dX0_tellFrom_25 (by decide) ?_
  obtain ⟨g_7, hf⟩ := sn_gdE hf
  refine sn_iald C hw (sn_look h1 (k := 1) rfl) g_7 dX0_tellFrom_27 ?_
  refine sn_putI C hw fp_RX0_57 (sn_look h0 (k := 0) rfl) rfl dX0_tellFrom_28 (fun H locs hw => ?_)
  obtain ⟨σ_8, e_9, hf⟩ := sn_ltE hf
  rw [← e_9] at hw
  refine lv_aload_n hx hb dX0_tellFrom_31 rfl (lv_at hl 0 rfl) ?_
  refine lv_iconst (v := (-1)) hx hb dX0_tellFrom_32 rfl ?_
  refine sn_putI C hw fp_RX0_9 (sn_look h0 (k := 0) rfl) rfl dX0_tellFrom_33 (fun H locs hw => ?_)
  obtain ⟨σ_10, e_11, hf⟩ := sn_ltE hf
  rw [← e_11] at hw
  refine lv_aload_n hx hb dX0_tellFrom_36 rfl (lv_at hl 1 rfl) ?_
  refine sn_getC (r := (q1 + 4)) C hw fd_RX0_60 (sn_look h1 (k := 0) rfl) rfl dX0_tellFrom_37 ?_
  refine lv_iconst (v := 0) hx hb dX0_tellFrom_40 rfl ?_
  refine lv_aload_n hx hb dX0_tellFrom_41 rfl (lv_at hl 0 rfl) ?_
  refine sn_getC (r := (q0 + 6)) C hw fd_RX0_31 (sn_look h0 (k := 0) rfl) rfl dX0_tellFrom_42 ?_
  refine lv_iconst (v := 0) hx hb dX0_tellFrom_45 rfl ?_
  refine lv_aload_n hx hb dX0_tellFrom_46 rfl (lv_at hl 0 rfl) ?_
  refine sn_getC (r := (q0 + 6)) C hw fd_RX0_31 (sn_look h0 (k := 0) rfl) rfl dX0_tellFrom_47 ?_
  refine sn_alen C hw (sn_look h0 (k := 6) rfl) rfl rfl dX0_tellFrom_50 ?_
  obtain ⟨g_12, hf⟩ := sn_gdE hf
  refine sn_cpyI (rest := []) C hw km_RX0_61 kna_copy kst_copy ki_System (sn_look h1 (k := 4) rfl) (sn_look h0 (k := 6) rfl) g_12 (Nat.le_of_ble_eq_true rfl) (Nat.le_of_ble_eq_true rfl) dX0_tellFrom_51 hl.1 (fun H locs hw => ?_)
  obtain ⟨σ_13, e_14, hf⟩ := sn_ltE hf
  rw [← e_14] at hw
  refine lv_iconst (v := 0) hx hb dX0_tellFrom_54 rfl ?_
  refine lv_istore_n (lv' := [(2, .int (0 : Int32)), (0, .ref (ad q0)), (1, .ref (ad q1))]) hx hb dX0_tellFrom_55 rfl hl (by decide) rfl (fun ls hl => ?_)
  obtain ⟨t_15, h_16, hf⟩ := sn_bd hf
  exact wX0_tellFrom_L56 C h0 h1 h_16 (fun v e => by cases e; exact wX0_tellFrom_124 C h0 h1 hf kr) _ _ _ hw (lv_sub hl [1, 2, 0] rfl)
theorem ctX0_tellFrom (l : Launch) {σ : sn_S} {q0 : Nat} {q1 : Nat} (h0 : sn_isX0 q0) (h1 : sn_isX2 q1) {o : sn_S} (hf : fX0_tellFrom σ q0 q1 = some o) : sn_M l yX0_tellFrom cX0_tellFrom 3 none rmX0_tellFrom layC (fun ad => [.ref (ad q0), .ref (ad q1)]) σ none o :=
  sn_met (by decide) (fun _ => Nat.le_of_ble_eq_true rfl) (fun p e s m args below meth c ls D ct ad A C hw hl => wX0_tellFrom_in C h0 h1 hf (fun H locs ls pc hw ok hd => sn_vret C hw hd) _ _ _ hw hl)
-- X0_copyFrom
abbrev rmX0_copyFrom : Room := { frames := 1, cells := 0, slots := 0, locals := 48 }
def fX0_copyFrom (σ : sn_S) (q0 : Nat) (q1 : Nat) : Option sn_S :=
  (sn_lt (sn_pI σ q0 0 (sn_I σ q1 0)) fun σ_1 => (sn_lt (sn_pI σ_1 q0 1 (sn_I σ_1 q1 1)) fun σ_3 => (sn_lt (sn_pI σ_3 q0 2 (sn_I σ_3 q1 2)) fun σ_5 => (sn_lt (sn_pI σ_5 q0 3 (sn_I σ_5 q1 3)) fun σ_7 => (sn_gd (sn_cpok (0 : Int32) (0 : Int32) (Int32.ofNat 30) 30 30) (sn_lt (sn_wI σ_7 (q0 + 1) (va_cpy (sn_I σ_7 (q1 + 1)) (sn_I σ_7 (q0 + 1)) (0 : Int32).toNatClampNeg (0 : Int32).toNatClampNeg (Int32.ofNat 30).toNatClampNeg)) fun σ_10 => (sn_gd (sn_cpok (0 : Int32) (0 : Int32) (Int32.ofNat 6) 6 6) (sn_lt (sn_wI σ_10 (q0 + 2) (va_cpy (sn_I σ_10 (q1 + 2)) (sn_I σ_10 (q0 + 2)) (0 : Int32).toNatClampNeg (0 : Int32).toNatClampNeg (Int32.ofNat 6).toNatClampNeg)) fun σ_13 => (sn_gd (sn_cpok (0 : Int32) (0 : Int32) (Int32.ofNat 6) 6 6) (sn_lt (sn_wI σ_13 (q0 + 3) (va_cpy (sn_I σ_13 (q1 + 3)) (sn_I σ_13 (q0 + 3)) (0 : Int32).toNatClampNeg (0 : Int32).toNatClampNeg (Int32.ofNat 6).toNatClampNeg)) fun σ_16 => (sn_gd (sn_cpok (0 : Int32) (0 : Int32) (Int32.ofNat 6) 6 6) (sn_lt (sn_wI σ_16 (q0 + 4) (va_cpy (sn_I σ_16 (q1 + 4)) (sn_I σ_16 (q0 + 4)) (0 : Int32).toNatClampNeg (0 : Int32).toNatClampNeg (Int32.ofNat 6).toNatClampNeg)) fun σ_19 => (sn_gd (sn_cpok (0 : Int32) (0 : Int32) (Int32.ofNat 6) 6 6) (sn_lt (sn_wI σ_19 (q0 + 5) (va_cpy (sn_I σ_19 (q1 + 5)) (sn_I σ_19 (q0 + 5)) (0 : Int32).toNatClampNeg (0 : Int32).toNatClampNeg (Int32.ofNat 6).toNatClampNeg)) fun σ_22 => (sn_gd (sn_cpok (0 : Int32) (0 : Int32) (Int32.ofNat 16) 16 16) (sn_lt (sn_wI σ_22 (q0 + 6) (va_cpy (sn_I σ_22 (q1 + 6)) (sn_I σ_22 (q0 + 6)) (0 : Int32).toNatClampNeg (0 : Int32).toNatClampNeg (Int32.ofNat 16).toNatClampNeg)) fun σ_25 => (sn_gd (sn_cpok (0 : Int32) (0 : Int32) (Int32.ofNat 180) 180 180) (sn_lt (sn_wI σ_25 (q0 + 7) (va_cpy (sn_I σ_25 (q1 + 7)) (sn_I σ_25 (q0 + 7)) (0 : Int32).toNatClampNeg (0 : Int32).toNatClampNeg (Int32.ofNat 180).toNatClampNeg)) fun σ_28 => (sn_gd (sn_cpok (0 : Int32) (0 : Int32) (Int32.ofNat 180) 180 180) (sn_lt (sn_wI σ_28 (q0 + 8) (va_cpy (sn_I σ_28 (q1 + 8)) (sn_I σ_28 (q0 + 8)) (0 : Int32).toNatClampNeg (0 : Int32).toNatClampNeg (Int32.ofNat 180).toNatClampNeg)) fun σ_31 => (sn_gd (sn_cpok (0 : Int32) (0 : Int32) (Int32.ofNat 30) 30 30) (sn_lt (sn_wI σ_31 (q0 + 9) (va_cpy (sn_I σ_31 (q1 + 9)) (sn_I σ_31 (q0 + 9)) (0 : Int32).toNatClampNeg (0 : Int32).toNatClampNeg (Int32.ofNat 30).toNatClampNeg)) fun σ_34 => (sn_gd (sn_cpok (0 : Int32) (0 : Int32) (Int32.ofNat 6) 6 6) (sn_lt (sn_wI σ_34 (q0 + 10) (va_cpy (sn_I σ_34 (q1 + 10)) (sn_I σ_34 (q0 + 10)) (0 : Int32).toNatClampNeg (0 : Int32).toNatClampNeg (Int32.ofNat 6).toNatClampNeg)) fun σ_37 => (some σ_37)))))))))))))))))))))))))
theorem wX0_copyFrom_in (C : sn_C p s m args meth c RX0 cX0_copyFrom 2 none D ct ad layC A) {σ : sn_S} {q0 : Nat} {q1 : Nat} (h0 : sn_isX0 q0) (h1 : sn_isX0 q1) {o : sn_S} (hf : fX0_copyFrom σ q0 q1 = some o) (kr : sn_Kr p l e rmX0_copyFrom s m args below meth c Q D ct ad layC A cX0_copyFrom .return_ (true) o []) : sn_At p l e rmX0_copyFrom s m args below meth c Q D ct ad layC A 2 σ 0 [(0, .ref (ad q0)), (1, .ref (ad q1))] [] := by
  intro H locs ls hw hl
  have hx := C.1
  have hb := C.2.1
  unfold fX0_copyFrom at hf
  refine lv_aload_n hx hb dX0_copyFrom_0 rfl (lv_at hl 0 rfl) ?_
  refine lv_aload_n hx hb dX0_copyFrom_1 rfl (lv_at hl 1 rfl) ?_
  refine sn_getI C hw fd_RX0_51 (sn_look h1 (k := 0) rfl) rfl dX0_copyFrom_2 ?_
  refine sn_putI C hw fp_RX0_51 (sn_look h0 (k := 0) rfl) rfl dX0_copyFrom_5 (fun H locs hw => ?_)
  obtain ⟨σ_1, e_2, hf⟩ := sn_ltE hf
  rw [← e_2] at hw
  refine lv_aload_n hx hb dX0_copyFrom_8 rfl (lv_at hl 0 rfl) ?_
  refine lv_aload_n hx hb dX0_copyFrom_9 rfl (lv_at hl 1 rfl) ?_
  refine sn_getI C hw fd_RX0_54 (sn_look h1 (k := 0) rfl) rfl dX0_copyFrom_10 ?_
  refine sn_putI C hw fp_RX0_54 (sn_look h0 (k := 0) rfl) rfl dX0_copyFrom_13 (fun H locs hw => ?_)
  obtain ⟨σ_3, e_4, hf⟩ := sn_ltE hf
  rw [← e_4] at hw
  refine lv_aload_n hx hb dX0_copyFrom_16 rfl (lv_at hl 0 rfl) ?_
  refine lv_aload_n hx hb dX0_copyFrom_17 rfl (lv_at hl 1 rfl) ?_
  refine sn_getI C hw fd_RX0_57 (sn_look h1 (k := 0) rfl) rfl dX0_copyFrom_18 ?_
  refine sn_putI C hw fp_RX0_57 (sn_look h0 (k := 0) rfl) rfl dX0_copyFrom_21 (fun H locs hw => ?_)
  obtain ⟨σ_5, e_6, hf⟩ := sn_ltE hf
  rw [← e_6] at hw
  refine lv_aload_n hx hb dX0_copyFrom_24 rfl (lv_at hl 0 rfl) ?_
  refine lv_aload_n hx hb dX0_copyFrom_25 rfl (lv_at hl 1 rfl) ?_
  refine sn_getI C hw fd_RX0_9 (sn_look h1 (k := 0) rfl) rfl dX0_copyFrom_26 ?_
  refine sn_putI C hw fp_RX0_9 (sn_look h0 (k := 0) rfl) rfl dX0_copyFrom_29 (fun H locs hw => ?_)
  obtain ⟨σ_7, e_8, hf⟩ := sn_ltE hf
  rw [← e_8] at hw
  refine lv_aload_n hx hb dX0_copyFrom_32 rfl (lv_at hl 1 rfl) ?_
  refine sn_getC (r := (q1 + 1)) C hw fd_RX0_15 (sn_look h1 (k := 0) rfl) rfl dX0_copyFrom_33 ?_
  refine lv_iconst (v := 0) hx hb dX0_copyFrom_36 rfl ?_
  refine lv_aload_n hx hb dX0_copyFrom_37 rfl (lv_at hl 0 rfl) ?_
  refine sn_getC (r := (q0 + 1)) C hw fd_RX0_15 (sn_look h0 (k := 0) rfl) rfl dX0_copyFrom_38 ?_
  refine lv_iconst (v := 0) hx hb dX0_copyFrom_41 rfl ?_
  refine lv_aload_n hx hb dX0_copyFrom_42 rfl (lv_at hl 0 rfl) ?_
  refine sn_getC (r := (q0 + 1)) C hw fd_RX0_15 (sn_look h0 (k := 0) rfl) rfl dX0_copyFrom_43 ?_
  refine sn_alen C hw (sn_look h0 (k := 1) rfl) rfl rfl dX0_copyFrom_46 ?_
  obtain ⟨g_9, hf⟩ := sn_gdE hf
  refine sn_cpyI (rest := []) C hw km_RX0_61 kna_copy kst_copy ki_System (sn_look h1 (k := 1) rfl) (sn_look h0 (k := 1) rfl) g_9 (Nat.le_of_ble_eq_true rfl) (Nat.le_of_ble_eq_true rfl) dX0_copyFrom_47 hl.1 (fun H locs hw => ?_)
  obtain ⟨σ_10, e_11, hf⟩ := sn_ltE hf
  rw [← e_11] at hw
  refine lv_aload_n hx hb dX0_copyFrom_50 rfl (lv_at hl 1 rfl) ?_
  refine sn_getC (r := (q1 + 2)) C hw fd_RX0_19 (sn_look h1 (k := 0) rfl) rfl dX0_copyFrom_51 ?_
  refine lv_iconst (v := 0) hx hb dX0_copyFrom_54 rfl ?_
  refine lv_aload_n hx hb dX0_copyFrom_55 rfl (lv_at hl 0 rfl) ?_
  refine sn_getC (r := (q0 + 2)) C hw fd_RX0_19 (sn_look h0 (k := 0) rfl) rfl dX0_copyFrom_56 ?_
  refine lv_iconst (v := 0) hx hb dX0_copyFrom_59 rfl ?_
  refine lv_aload_n hx hb dX0_copyFrom_60 rfl (lv_at hl 0 rfl) ?_
  refine sn_getC (r := (q0 + 2)) C hw fd_RX0_19 (sn_look h0 (k := 0) rfl) rfl dX0_copyFrom_61 ?_
  refine sn_alen C hw (sn_look h0 (k := 2) rfl) rfl rfl dX0_copyFrom_64 ?_
  obtain ⟨g_12, hf⟩ := sn_gdE hf
  refine sn_cpyI (rest := []) C hw km_RX0_61 kna_copy kst_copy ki_System (sn_look h1 (k := 2) rfl) (sn_look h0 (k := 2) rfl) g_12 (Nat.le_of_ble_eq_true rfl) (Nat.le_of_ble_eq_true rfl) dX0_copyFrom_65 hl.1 (fun H locs hw => ?_)
  obtain ⟨σ_13, e_14, hf⟩ := sn_ltE hf
  rw [← e_14] at hw
  refine lv_aload_n hx hb dX0_copyFrom_68 rfl (lv_at hl 1 rfl) ?_
  refine sn_getC (r := (q1 + 3)) C hw fd_RX0_22 (sn_look h1 (k := 0) rfl) rfl dX0_copyFrom_69 ?_
  refine lv_iconst (v := 0) hx hb dX0_copyFrom_72 rfl ?_
  refine lv_aload_n hx hb dX0_copyFrom_73 rfl (lv_at hl 0 rfl) ?_
  refine sn_getC (r := (q0 + 3)) C hw fd_RX0_22 (sn_look h0 (k := 0) rfl) rfl dX0_copyFrom_74 ?_
  refine lv_iconst (v := 0) hx hb dX0_copyFrom_77 rfl ?_
  refine lv_aload_n hx hb dX0_copyFrom_78 rfl (lv_at hl 0 rfl) ?_
  refine sn_getC (r := (q0 + 3)) C hw fd_RX0_22 (sn_look h0 (k := 0) rfl) rfl dX0_copyFrom_79 ?_
  refine sn_alen C hw (sn_look h0 (k := 3) rfl) rfl rfl dX0_copyFrom_82 ?_
  obtain ⟨g_15, hf⟩ := sn_gdE hf
  refine sn_cpyI (rest := []) C hw km_RX0_61 kna_copy kst_copy ki_System (sn_look h1 (k := 3) rfl) (sn_look h0 (k := 3) rfl) g_15 (Nat.le_of_ble_eq_true rfl) (Nat.le_of_ble_eq_true rfl) dX0_copyFrom_83 hl.1 (fun H locs hw => ?_)
  obtain ⟨σ_16, e_17, hf⟩ := sn_ltE hf
  rw [← e_17] at hw
  refine lv_aload_n hx hb dX0_copyFrom_86 rfl (lv_at hl 1 rfl) ?_
  refine sn_getC (r := (q1 + 4)) C hw fd_RX0_25 (sn_look h1 (k := 0) rfl) rfl dX0_copyFrom_87 ?_
  refine lv_iconst (v := 0) hx hb dX0_copyFrom_90 rfl ?_
  refine lv_aload_n hx hb dX0_copyFrom_91 rfl (lv_at hl 0 rfl) ?_
  refine sn_getC (r := (q0 + 4)) C hw fd_RX0_25 (sn_look h0 (k := 0) rfl) rfl dX0_copyFrom_92 ?_
  refine lv_iconst (v := 0) hx hb dX0_copyFrom_95 rfl ?_
  refine lv_aload_n hx hb dX0_copyFrom_96 rfl (lv_at hl 0 rfl) ?_
  refine sn_getC (r := (q0 + 4)) C hw fd_RX0_25 (sn_look h0 (k := 0) rfl) rfl dX0_copyFrom_97 ?_
  refine sn_alen C hw (sn_look h0 (k := 4) rfl) rfl rfl dX0_copyFrom_100 ?_
  obtain ⟨g_18, hf⟩ := sn_gdE hf
  refine sn_cpyI (rest := []) C hw km_RX0_61 kna_copy kst_copy ki_System (sn_look h1 (k := 4) rfl) (sn_look h0 (k := 4) rfl) g_18 (Nat.le_of_ble_eq_true rfl) (Nat.le_of_ble_eq_true rfl) dX0_copyFrom_101 hl.1 (fun H locs hw => ?_)
  obtain ⟨σ_19, e_20, hf⟩ := sn_ltE hf
  rw [← e_20] at hw
  refine lv_aload_n hx hb dX0_copyFrom_104 rfl (lv_at hl 1 rfl) ?_
  refine sn_getC (r := (q1 + 5)) C hw fd_RX0_28 (sn_look h1 (k := 0) rfl) rfl dX0_copyFrom_105 ?_
  refine lv_iconst (v := 0) hx hb dX0_copyFrom_108 rfl ?_
  refine lv_aload_n hx hb dX0_copyFrom_109 rfl (lv_at hl 0 rfl) ?_
  refine sn_getC (r := (q0 + 5)) C hw fd_RX0_28 (sn_look h0 (k := 0) rfl) rfl dX0_copyFrom_110 ?_
  refine lv_iconst (v := 0) hx hb dX0_copyFrom_113 rfl ?_
  refine lv_aload_n hx hb dX0_copyFrom_114 rfl (lv_at hl 0 rfl) ?_
  refine sn_getC (r := (q0 + 5)) C hw fd_RX0_28 (sn_look h0 (k := 0) rfl) rfl dX0_copyFrom_115 ?_
  refine sn_alen C hw (sn_look h0 (k := 5) rfl) rfl rfl dX0_copyFrom_118 ?_
  obtain ⟨g_21, hf⟩ := sn_gdE hf
  refine sn_cpyI (rest := []) C hw km_RX0_61 kna_copy kst_copy ki_System (sn_look h1 (k := 5) rfl) (sn_look h0 (k := 5) rfl) g_21 (Nat.le_of_ble_eq_true rfl) (Nat.le_of_ble_eq_true rfl) dX0_copyFrom_119 hl.1 (fun H locs hw => ?_)
  obtain ⟨σ_22, e_23, hf⟩ := sn_ltE hf
  rw [← e_23] at hw
  refine lv_aload_n hx hb dX0_copyFrom_122 rfl (lv_at hl 1 rfl) ?_
  refine sn_getC (r := (q1 + 6)) C hw fd_RX0_31 (sn_look h1 (k := 0) rfl) rfl dX0_copyFrom_123 ?_
  refine lv_iconst (v := 0) hx hb dX0_copyFrom_126 rfl ?_
  refine lv_aload_n hx hb dX0_copyFrom_127 rfl (lv_at hl 0 rfl) ?_
  refine sn_getC (r := (q0 + 6)) C hw fd_RX0_31 (sn_look h0 (k := 0) rfl) rfl dX0_copyFrom_128 ?_
  refine lv_iconst (v := 0) hx hb dX0_copyFrom_131 rfl ?_
  refine lv_aload_n hx hb dX0_copyFrom_132 rfl (lv_at hl 0 rfl) ?_
  refine sn_getC (r := (q0 + 6)) C hw fd_RX0_31 (sn_look h0 (k := 0) rfl) rfl dX0_copyFrom_133 ?_
  refine sn_alen C hw (sn_look h0 (k := 6) rfl) rfl rfl dX0_copyFrom_136 ?_
  obtain ⟨g_24, hf⟩ := sn_gdE hf
  refine sn_cpyI (rest := []) C hw km_RX0_61 kna_copy kst_copy ki_System (sn_look h1 (k := 6) rfl) (sn_look h0 (k := 6) rfl) g_24 (Nat.le_of_ble_eq_true rfl) (Nat.le_of_ble_eq_true rfl) dX0_copyFrom_137 hl.1 (fun H locs hw => ?_)
  obtain ⟨σ_25, e_26, hf⟩ := sn_ltE hf
  rw [← e_26] at hw
  refine lv_aload_n hx hb dX0_copyFrom_140 rfl (lv_at hl 1 rfl) ?_
  refine sn_getC (r := (q1 + 7)) C hw fd_RX0_34 (sn_look h1 (k := 0) rfl) rfl dX0_copyFrom_141 ?_
  refine lv_iconst (v := 0) hx hb dX0_copyFrom_144 rfl ?_
  refine lv_aload_n hx hb dX0_copyFrom_145 rfl (lv_at hl 0 rfl) ?_
  refine sn_getC (r := (q0 + 7)) C hw fd_RX0_34 (sn_look h0 (k := 0) rfl) rfl dX0_copyFrom_146 ?_
  refine lv_iconst (v := 0) hx hb dX0_copyFrom_149 rfl ?_
  refine lv_aload_n hx hb dX0_copyFrom_150 rfl (lv_at hl 0 rfl) ?_
  refine sn_getC (r := (q0 + 7)) C hw fd_RX0_34 (sn_look h0 (k := 0) rfl) rfl dX0_copyFrom_151 ?_
  refine sn_alen C hw (sn_look h0 (k := 7) rfl) rfl rfl dX0_copyFrom_154 ?_
  obtain ⟨g_27, hf⟩ := sn_gdE hf
  refine sn_cpyI (rest := []) C hw km_RX0_61 kna_copy kst_copy ki_System (sn_look h1 (k := 7) rfl) (sn_look h0 (k := 7) rfl) g_27 (Nat.le_of_ble_eq_true rfl) (Nat.le_of_ble_eq_true rfl) dX0_copyFrom_155 hl.1 (fun H locs hw => ?_)
  obtain ⟨σ_28, e_29, hf⟩ := sn_ltE hf
  rw [← e_29] at hw
  refine lv_aload_n hx hb dX0_copyFrom_158 rfl (lv_at hl 1 rfl) ?_
  refine sn_getC (r := (q1 + 8)) C hw fd_RX0_37 (sn_look h1 (k := 0) rfl) rfl dX0_copyFrom_159 ?_
  refine lv_iconst (v := 0) hx hb dX0_copyFrom_162 rfl ?_
  refine lv_aload_n hx hb dX0_copyFrom_163 rfl (lv_at hl 0 rfl) ?_
  refine sn_getC (r := (q0 + 8)) C hw fd_RX0_37 (sn_look h0 (k := 0) rfl) rfl dX0_copyFrom_164 ?_
  refine lv_iconst (v := 0) hx hb dX0_copyFrom_167 rfl ?_
  refine lv_aload_n hx hb dX0_copyFrom_168 rfl (lv_at hl 0 rfl) ?_
  refine sn_getC (r := (q0 + 8)) C hw fd_RX0_37 (sn_look h0 (k := 0) rfl) rfl dX0_copyFrom_169 ?_
  refine sn_alen C hw (sn_look h0 (k := 8) rfl) rfl rfl dX0_copyFrom_172 ?_
  obtain ⟨g_30, hf⟩ := sn_gdE hf
  refine sn_cpyI (rest := []) C hw km_RX0_61 kna_copy kst_copy ki_System (sn_look h1 (k := 8) rfl) (sn_look h0 (k := 8) rfl) g_30 (Nat.le_of_ble_eq_true rfl) (Nat.le_of_ble_eq_true rfl) dX0_copyFrom_173 hl.1 (fun H locs hw => ?_)
  obtain ⟨σ_31, e_32, hf⟩ := sn_ltE hf
  rw [← e_32] at hw
  refine lv_aload_n hx hb dX0_copyFrom_176 rfl (lv_at hl 1 rfl) ?_
  refine sn_getC (r := (q1 + 9)) C hw fd_RX0_40 (sn_look h1 (k := 0) rfl) rfl dX0_copyFrom_177 ?_
  refine lv_iconst (v := 0) hx hb dX0_copyFrom_180 rfl ?_
  refine lv_aload_n hx hb dX0_copyFrom_181 rfl (lv_at hl 0 rfl) ?_
  refine sn_getC (r := (q0 + 9)) C hw fd_RX0_40 (sn_look h0 (k := 0) rfl) rfl dX0_copyFrom_182 ?_
  refine lv_iconst (v := 0) hx hb dX0_copyFrom_185 rfl ?_
  refine lv_aload_n hx hb dX0_copyFrom_186 rfl (lv_at hl 0 rfl) ?_
  refine sn_getC (r := (q0 + 9)) C hw fd_RX0_40 (sn_look h0 (k := 0) rfl) rfl dX0_copyFrom_187 ?_
  refine sn_alen C hw (sn_look h0 (k := 9) rfl) rfl rfl dX0_copyFrom_190 ?_
  obtain ⟨g_33, hf⟩ := sn_gdE hf
  refine sn_cpyI (rest := []) C hw km_RX0_61 kna_copy kst_copy ki_System (sn_look h1 (k := 9) rfl) (sn_look h0 (k := 9) rfl) g_33 (Nat.le_of_ble_eq_true rfl) (Nat.le_of_ble_eq_true rfl) dX0_copyFrom_191 hl.1 (fun H locs hw => ?_)
  obtain ⟨σ_34, e_35, hf⟩ := sn_ltE hf
  rw [← e_35] at hw
  refine lv_aload_n hx hb dX0_copyFrom_194 rfl (lv_at hl 1 rfl) ?_
  refine sn_getC (r := (q1 + 10)) C hw fd_RX0_43 (sn_look h1 (k := 0) rfl) rfl dX0_copyFrom_195 ?_
  refine lv_iconst (v := 0) hx hb dX0_copyFrom_198 rfl ?_
  refine lv_aload_n hx hb dX0_copyFrom_199 rfl (lv_at hl 0 rfl) ?_
  refine sn_getC (r := (q0 + 10)) C hw fd_RX0_43 (sn_look h0 (k := 0) rfl) rfl dX0_copyFrom_200 ?_
  refine lv_iconst (v := 0) hx hb dX0_copyFrom_203 rfl ?_
  refine lv_aload_n hx hb dX0_copyFrom_204 rfl (lv_at hl 0 rfl) ?_
  refine sn_getC (r := (q0 + 10)) C hw fd_RX0_43 (sn_look h0 (k := 0) rfl) rfl dX0_copyFrom_205 ?_
  refine sn_alen C hw (sn_look h0 (k := 10) rfl) rfl rfl dX0_copyFrom_208 ?_
  obtain ⟨g_36, hf⟩ := sn_gdE hf
  refine sn_cpyI (rest := []) C hw km_RX0_61 kna_copy kst_copy ki_System (sn_look h1 (k := 10) rfl) (sn_look h0 (k := 10) rfl) g_36 (Nat.le_of_ble_eq_true rfl) (Nat.le_of_ble_eq_true rfl) dX0_copyFrom_209 hl.1 (fun H locs hw => ?_)
  obtain ⟨σ_37, e_38, hf⟩ := sn_ltE hf
  rw [← e_38] at hw
  cases hf
  exact kr _ _ _ _ hw rfl dX0_copyFrom_212
theorem ctX0_copyFrom (l : Launch) {σ : sn_S} {q0 : Nat} {q1 : Nat} (h0 : sn_isX0 q0) (h1 : sn_isX0 q1) {o : sn_S} (hf : fX0_copyFrom σ q0 q1 = some o) : sn_M l yX0_copyFrom cX0_copyFrom 2 none rmX0_copyFrom layC (fun ad => [.ref (ad q0), .ref (ad q1)]) σ none o :=
  sn_met (by decide) (fun _ => Nat.le_of_ble_eq_true rfl) (fun p e s m args below meth c ls D ct ad A C hw hl => wX0_copyFrom_in C h0 h1 hf (fun H locs ls pc hw ok hd => sn_vret C hw hd) _ _ _ hw hl)
-- X8_firstMinutes
abbrev rmX8_firstMinutes : Room := { frames := 0, cells := 0, slots := 0, locals := 0 }
def fX8_firstMinutes (x0 : Int32) : Option Int32 :=
  (some (((1 : Int32) <<< (x0 &&& 31)) - (1 : Int32)))
theorem wX8_firstMinutes_in (C : sn_C p s m args meth c RX8 cX8_firstMinutes 1 (some .int) D ct ad layC A) {σ : sn_S} {x0 : Int32}  {o : Int32} (hf : fX8_firstMinutes x0 = some o) (kr : sn_Kr p l e rmX8_firstMinutes s m args below meth c Q D ct ad layC A cX8_firstMinutes .ireturn (true) σ [.int o]) : sn_At p l e rmX8_firstMinutes s m args below meth c Q D ct ad layC A 1 σ 0 [(0, .int x0)] [] := by
  intro H locs ls hw hl
  have hx := C.1
  have hb := C.2.1
  unfold fX8_firstMinutes at hf
  refine lv_iconst (v := 1) hx hb dX8_firstMinutes_0 rfl ?_
  refine lv_iload_n hx hb dX8_firstMinutes_1 rfl (lv_at hl 0 rfl) ?_
  refine lv_ishl hx hb dX8_firstMinutes_2 ?_
  refine lv_iconst (v := 1) hx hb dX8_firstMinutes_3 rfl ?_
  refine lv_isub hx hb dX8_firstMinutes_4 ?_
  cases hf
  exact kr _ _ _ _ hw rfl dX8_firstMinutes_5
theorem ctX8_firstMinutes (l : Launch) {σ : sn_S} {x0 : Int32}  {o : Int32} (hf : fX8_firstMinutes x0 = some o) : sn_M l yX8_firstMinutes cX8_firstMinutes 1 (some .int) rmX8_firstMinutes layC (fun ad => [.int x0]) σ (some (fun _ => .int o)) σ :=
  sn_met (by decide) (fun _ => Nat.le_of_ble_eq_true rfl) (fun p e s m args below meth c ls D ct ad A C hw hl => wX8_firstMinutes_in C  hf (fun H locs ls pc hw ok hd => sn_iret C hw hd) _ _ _ hw hl)
-- X8_hasBit
abbrev rmX8_hasBit : Room := { frames := 0, cells := 0, slots := 0, locals := 0 }
def fX8_hasBit (x0 : Int32) (x1 : Int32) : Option Int32 :=
  (if ((x0 >>> (x1 &&& 31)) &&& (1 : Int32)) = (1 : Int32) then
  (sn_gd (sn_b01 (1 : Int32)) (some (1 : Int32)))
  else
  (sn_gd (sn_b01 (0 : Int32)) (some (0 : Int32))))
theorem wX8_hasBit_in (C : sn_C p s m args meth c RX8 cX8_hasBit 2 (some .boolean) D ct ad layC A) {σ : sn_S} {x0 : Int32} {x1 : Int32}  {o : Int32} (hf : fX8_hasBit x0 x1 = some o) (kr : sn_Kr p l e rmX8_hasBit s m args below meth c Q D ct ad layC A cX8_hasBit .ireturn (sn_b01 o) σ [.int o]) : sn_At p l e rmX8_hasBit s m args below meth c Q D ct ad layC A 2 σ 0 [(0, .int x0), (1, .int x1)] [] := by
  intro H locs ls hw hl
  have hx := C.1
  have hb := C.2.1
  unfold fX8_hasBit at hf
  refine lv_iload_n hx hb dX8_hasBit_0 rfl (lv_at hl 0 rfl) ?_
  refine lv_iload_n hx hb dX8_hasBit_1 rfl (lv_at hl 1 rfl) ?_
  refine lv_ishr hx hb dX8_hasBit_2 ?_
  refine lv_iconst (v := 1) hx hb dX8_hasBit_3 rfl ?_
  refine lv_iand hx hb dX8_hasBit_4 ?_
  refine lv_iconst (v := 1) hx hb dX8_hasBit_5 rfl ?_
  refine lv_icmp_ne (tgt := 13) hx hb dX8_hasBit_6 (by decide) (fun c_1 => ?_) (fun c_1 => ?_)
  · have hf := sn_el c_1 hf
    refine lv_iconst (v := 0) hx hb dX8_hasBit_13 rfl ?_
    obtain ⟨g_2, hf⟩ := sn_gdE hf
    cases hf
    exact kr _ _ _ _ hw g_2 dX8_hasBit_14
  · have hf := sn_if c_1 hf
    refine lv_iconst (v := 1) hx hb dX8_hasBit_9 rfl ?_
    refine lv_goto (tgt := 14) hx hb dX8_hasBit_10 (by decide) ?_
    obtain ⟨g_3, hf⟩ := sn_gdE hf
    cases hf
    exact kr _ _ _ _ hw g_3 dX8_hasBit_14
theorem ctX8_hasBit (l : Launch) {σ : sn_S} {x0 : Int32} {x1 : Int32}  {o : Int32} (hf : fX8_hasBit x0 x1 = some o) : sn_M l yX8_hasBit cX8_hasBit 2 (some .boolean) rmX8_hasBit layC (fun ad => [.int x0, .int x1]) σ (some (fun _ => .int o)) σ :=
  sn_met (by decide) (fun _ => Nat.le_of_ble_eq_true rfl) (fun p e s m args below meth c ls D ct ad A C hw hl => wX8_hasBit_in C  hf (fun H locs ls pc hw ok hd => sn_zret C hw ok hd) _ _ _ hw hl)
-- X0_tickleByNets
abbrev rmX0_tickleByNets : Room := { frames := 1, cells := 0, slots := 0, locals := 21 }
def BX0_tickleByNets_155 (σ : sn_S) (q0 : Nat) : Option (sn_S) :=
  (some σ)
def BX0_tickleByNets_149 (σ : sn_S) (q0 : Nat) (x2 : Int32) (x3 : Int32) (x4 : Int32) : Option ((sn_S × Int32) ⊕ (sn_S)) :=
  (sn_lt (x4 + 1) fun y_1 => (some (.inl (σ, y_1))))
def BX0_tickleByNets_147 (σ : sn_S) (q0 : Nat) (x2 : Int32) (x3 : Int32) (x4 : Int32) (t1 : Int32) (t2 : Int32) (t3 : Int32) : Option ((sn_S × Int32) ⊕ (sn_S)) :=
  (sn_gd (sn_in t1 180) (sn_lt (sn_pI σ (q0 + 8) t1.toNatClampNeg (t2 + t3)) fun σ_2 => (BX0_tickleByNets_149 σ_2 q0 x2 x3 x4)))
def BX0_tickleByNets_121 (σ : sn_S) (q0 : Nat) (x2 : Int32) (x3 : Int32) (x4 : Int32) (x5 : Int32) (x6 : Int32) (t1 : Int32) (t2 : Int32) (t3 : Int32) : Option ((sn_S × Int32) ⊕ (sn_S)) :=
  (sn_gd (sn_in t1 180) (sn_lt (sn_pI σ (q0 + 8) t1.toNatClampNeg (t2 + t3)) fun σ_2 => (sn_gd (sn_in (x2 + x6) 180) ((fX8_hasBit x3 x5).bind fun t_5 => (if t_5 = 0 then
  (BX0_tickleByNets_147 σ_2 q0 x2 x3 x4 (x2 + x6) (sn_I σ_2 (q0 + 8) (x2 + x6).toNatClampNeg) (0 : Int32))
  else
  (BX0_tickleByNets_147 σ_2 q0 x2 x3 x4 (x2 + x6) (sn_I σ_2 (q0 + 8) (x2 + x6).toNatClampNeg) (5 : Int32)))))))
def BX0_tickleByNets_55 (σ : sn_S) (q0 : Nat) (x2 : Int32) (x3 : Int32) (x4 : Int32) : Option ((sn_S × Int32) ⊕ (sn_S)) :=
  (if (sn_I σ q0 2) ≤ x4 then
  (some (.inr (σ)))
  else
  (if x4 = (sn_I σ q0 3) then
  (BX0_tickleByNets_149 σ q0 x2 x3 x4)
  else
  (sn_gd (sn_in ((2 : Int32) * x4) 16) (sn_lt (sn_I σ (q0 + 6) ((2 : Int32) * x4).toNatClampNeg) fun y_4 => (sn_gd (sn_in (((2 : Int32) * x4) + (1 : Int32)) 16) (sn_lt (sn_I σ (q0 + 6) (((2 : Int32) * x4) + (1 : Int32)).toNatClampNeg) fun y_7 => (sn_gd (sn_in (x2 + y_4) 180) ((fX8_hasBit x3 y_7).bind fun t_10 => (if t_10 = 0 then
  (BX0_tickleByNets_121 σ q0 x2 x3 x4 y_4 y_7 (x2 + y_4) (sn_I σ (q0 + 8) (x2 + y_4).toNatClampNeg) (0 : Int32))
  else
  (BX0_tickleByNets_121 σ q0 x2 x3 x4 y_4 y_7 (x2 + y_4) (sn_I σ (q0 + 8) (x2 + y_4).toNatClampNeg) (5 : Int32)))))))))))
def LX0_tickleByNets_55 (q0 : Nat) (x2 : Int32) (x3 : Int32) (s : sn_S × Int32) : Option ((sn_S × Int32) ⊕ (sn_S)) := BX0_tickleByNets_55 s.1 q0 x2 x3 s.2
def BX0_tickleByNets_46 (σ : sn_S) (q0 : Nat) (x2 : Int32) (t0 : Int32) : Option (sn_S) :=
  (if t0 = 0 then
  (some σ)
  else
  ((sn_it (LX0_tickleByNets_55 q0 x2 t0) 5000 (σ, (0 : Int32))).bind fun t_2 => (BX0_tickleByNets_155 t_2 q0)))
def BX0_tickleByNets_30 (σ : sn_S) (q0 : Nat) (x1 : Int32) (x2 : Int32) : Option (sn_S) :=
  (if x1 = 0 then
  (BX0_tickleByNets_46 σ q0 x2 (0 : Int32))
  else
  (sn_gd (sn_in (x1 - (1 : Int32)) 30) (BX0_tickleByNets_46 σ q0 x2 (sn_I σ (q0 + 9) (x1 - (1 : Int32)).toNatClampNeg))))
def BX0_tickleByNets_7 (σ : sn_S) (q0 : Nat) (x1 : Int32) (x2 : Int32) (x3 : Int32) : Option ((sn_S × Int32) ⊕ (sn_S)) :=
  (if (sn_I σ q0 1) ≤ x3 then
  (some (.inr (σ)))
  else
  (sn_gd (sn_in (x2 + x3) 180) (sn_lt (sn_pI σ (q0 + 8) (x2 + x3).toNatClampNeg (0 : Int32)) fun σ_3 => (sn_lt (x3 + 1) fun y_5 => (some (.inl (σ_3, y_5)))))))
def LX0_tickleByNets_7 (q0 : Nat) (x1 : Int32) (x2 : Int32) (s : sn_S × Int32) : Option ((sn_S × Int32) ⊕ (sn_S)) := BX0_tickleByNets_7 s.1 q0 x1 x2 s.2
def fX0_tickleByNets (σ : sn_S) (q0 : Nat) (x1 : Int32) : Option sn_S :=
  (sn_lt ((6 : Int32) * x1) fun y_1 => ((sn_it (LX0_tickleByNets_7 q0 x1 y_1) 5000 (σ, (0 : Int32))).bind fun t_3 => (BX0_tickleByNets_30 t_3 q0 x1 y_1)))
theorem wX0_tickleByNets_155 (C : sn_C p s m args meth c RX0 cX0_tickleByNets 7 none D ct ad layC A) {σ : sn_S} {q0 : Nat} (h0 : sn_isX0 q0) {o : sn_S} (hf : BX0_tickleByNets_155 σ q0 = some o) (kr : sn_Kr p l e rmX0_tickleByNets s m args below meth c Q D ct ad layC A cX0_tickleByNets .return_ (true) o []) : sn_At p l e rmX0_tickleByNets s m args below meth c Q D ct ad layC A 7 σ 155 [] [] := by
  intro H locs ls hw hl
  have hx := C.1
  have hb := C.2.1
  unfold BX0_tickleByNets_155 at hf
  cases hf
  exact kr _ _ _ _ hw rfl dX0_tickleByNets_155
theorem wX0_tickleByNets_149 (C : sn_C p s m args meth c RX0 cX0_tickleByNets 7 none D ct ad layC A) {σ : sn_S} {q0 : Nat} {x2 : Int32} {x3 : Int32} {x4 : Int32} (h0 : sn_isX0 q0) {o : (sn_S × Int32) ⊕ (sn_S)} (hf : BX0_tickleByNets_149 σ q0 x2 x3 x4 = some o) (kc : ∀ v, o = .inl v → sn_At p l e rmX0_tickleByNets s m args below meth c Q D ct ad layC A 7 v.1 55 [(0, .ref (ad q0)), (2, .int x2), (3, .int x3), (4, .int v.2)] []) (kx : ∀ v, o = .inr v → sn_At p l e rmX0_tickleByNets s m args below meth c Q D ct ad layC A 7 v 155 [] []) : sn_At p l e rmX0_tickleByNets s m args below meth c Q D ct ad layC A 7 σ 149 [(0, .ref (ad q0)), (2, .int x2), (3, .int x3), (4, .int x4)] [] := by
  intro H locs ls hw hl
  have hx := C.1
  have hb := C.2.1
  unfold BX0_tickleByNets_149 at hf
  obtain ⟨y_1, e_2, hf⟩ := sn_ltE hf
  refine lv_iinc (v := y_1) (lv' := [(4, .int y_1), (0, .ref (ad q0)), (2, .int x2), (3, .int x3)]) hx hb dX0_tickleByNets_149 hl (k := 3) rfl (by rw [e_2]; rfl) (by decide) rfl (fun ls hl => ?_)
  refine lv_goto (tgt := 55) hx hb dX0_tickleByNets_152 (by decide) ?_
  cases hf
  exact kc _ rfl _ _ _ hw (lv_sub hl [1, 2, 3, 0] rfl)
theorem wX0_tickleByNets_147 (C : sn_C p s m args meth c RX0 cX0_tickleByNets 7 none D ct ad layC A) {σ : sn_S} {q0 : Nat} {x2 : Int32} {x3 : Int32} {x4 : Int32} {t1 : Int32} {t2 : Int32} {t3 : Int32} (h0 : sn_isX0 q0) {o : (sn_S × Int32) ⊕ (sn_S)} (hf : BX0_tickleByNets_147 σ q0 x2 x3 x4 t1 t2 t3 = some o) (kc : ∀ v, o = .inl v → sn_At p l e rmX0_tickleByNets s m args below meth c Q D ct ad layC A 7 v.1 55 [(0, .ref (ad q0)), (2, .int x2), (3, .int x3), (4, .int v.2)] []) (kx : ∀ v, o = .inr v → sn_At p l e rmX0_tickleByNets s m args below meth c Q D ct ad layC A 7 v 155 [] []) : sn_At p l e rmX0_tickleByNets s m args below meth c Q D ct ad layC A 7 σ 147 [(0, .ref (ad q0)), (2, .int x2), (3, .int x3), (4, .int x4)] [.int t3, .int t2, .int t1, .ref (ad (q0 + 8))] := by
  intro H locs ls hw hl
  have hx := C.1
  have hb := C.2.1
  unfold BX0_tickleByNets_147 at hf
  refine lv_iadd hx hb dX0_tickleByNets_147 ?_
  obtain ⟨g_1, hf⟩ := sn_gdE hf
  refine sn_iast C hw (sn_look h0 (k := 8) rfl) g_1 dX0_tickleByNets_148 (fun H locs hw => ?_)
  obtain ⟨σ_2, e_3, hf⟩ := sn_ltE hf
  rw [← e_3] at hw
  exact wX0_tickleByNets_149 C h0 hf kc kx _ _ _ hw (lv_sub hl [0, 1, 2, 3] rfl)
theorem wX0_tickleByNets_121 (C : sn_C p s m args meth c RX0 cX0_tickleByNets 7 none D ct ad layC A) {σ : sn_S} {q0 : Nat} {x2 : Int32} {x3 : Int32} {x4 : Int32} {x5 : Int32} {x6 : Int32} {t1 : Int32} {t2 : Int32} {t3 : Int32} (h0 : sn_isX0 q0) {o : (sn_S × Int32) ⊕ (sn_S)} (hf : BX0_tickleByNets_121 σ q0 x2 x3 x4 x5 x6 t1 t2 t3 = some o) (kc : ∀ v, o = .inl v → sn_At p l e rmX0_tickleByNets s m args below meth c Q D ct ad layC A 7 v.1 55 [(0, .ref (ad q0)), (2, .int x2), (3, .int x3), (4, .int v.2)] []) (kx : ∀ v, o = .inr v → sn_At p l e rmX0_tickleByNets s m args below meth c Q D ct ad layC A 7 v 155 [] []) : sn_At p l e rmX0_tickleByNets s m args below meth c Q D ct ad layC A 7 σ 121 [(0, .ref (ad q0)), (2, .int x2), (3, .int x3), (4, .int x4), (5, .int x5), (6, .int x6)] [.int t3, .int t2, .int t1, .ref (ad (q0 + 8))] := by
  intro H locs ls hw hl
  have hx := C.1
  have hb := C.2.1
  unfold BX0_tickleByNets_121 at hf
  refine lv_iadd hx hb dX0_tickleByNets_121 ?_
  obtain ⟨g_1, hf⟩ := sn_gdE hf
  refine sn_iast C hw (sn_look h0 (k := 8) rfl) g_1 dX0_tickleByNets_122 (fun H locs hw => ?_)
  obtain ⟨σ_2, e_3, hf⟩ := sn_ltE hf
  rw [← e_3] at hw
  refine lv_aload_n hx hb dX0_tickleByNets_123 rfl (lv_at hl 0 rfl) ?_
  refine sn_getC (r := (q0 + 8)) C hw fd_RX0_37 (sn_look h0 (k := 0) rfl) rfl dX0_tickleByNets_124 ?_
  refine lv_iload_n hx hb dX0_tickleByNets_127 rfl (lv_at hl 1 rfl) ?_
  refine lv_iload hx hb dX0_tickleByNets_128 (lv_at hl 5 rfl) ?_
  refine lv_iadd hx hb dX0_tickleByNets_130 ?_
  refine lv_dup2_11 hx hb dX0_tickleByNets_131 rfl rfl ?_
  obtain ⟨g_4, hf⟩ := sn_gdE hf
  refine sn_iald C hw (sn_look h0 (k := 8) rfl) g_4 dX0_tickleByNets_132 ?_
  refine lv_iload_n hx hb dX0_tickleByNets_133 rfl (lv_at hl 2 rfl) ?_
  refine lv_iload hx hb dX0_tickleByNets_134 (lv_at hl 4 rfl) ?_
  obtain ⟨t_5, h_6, hf⟩ := sn_bd hf
  refine sn_callNi (rest := [.int (sn_I σ_2 (q0 + 8) (x2 + x6).toNatClampNeg), .int (x2 + x6), .ref (ad (q0 + 8))]) C hw (ctX8_hasBit l  h_6) kl_RX0_98 rfl rfl rfl (Nat.le_of_ble_eq_true rfl) dX0_tickleByNets_136 hl.1 (fun H locs hw => ?_)
  refine lv_if_eq (tgt := 146) hx hb dX0_tickleByNets_139 (by decide) (fun c_7 => ?_) (fun c_7 => ?_)
  · have hf := sn_if c_7 hf
    refine lv_iconst (v := 0) hx hb dX0_tickleByNets_146 rfl ?_
    exact wX0_tickleByNets_147 C h0 hf kc kx _ _ _ hw (lv_sub hl [0, 1, 2, 3] rfl)
  · have hf := sn_el c_7 hf
    refine lv_iconst (v := 5) hx hb dX0_tickleByNets_142 rfl ?_
    refine lv_goto (tgt := 147) hx hb dX0_tickleByNets_143 (by decide) ?_
    exact wX0_tickleByNets_147 C h0 hf kc kx _ _ _ hw (lv_sub hl [0, 1, 2, 3] rfl)
theorem wX0_tickleByNets_55 (C : sn_C p s m args meth c RX0 cX0_tickleByNets 7 none D ct ad layC A) {σ : sn_S} {q0 : Nat} {x2 : Int32} {x3 : Int32} {x4 : Int32} (h0 : sn_isX0 q0) {o : (sn_S × Int32) ⊕ (sn_S)} (hf : BX0_tickleByNets_55 σ q0 x2 x3 x4 = some o) (kc : ∀ v, o = .inl v → sn_At p l e rmX0_tickleByNets s m args below meth c Q D ct ad layC A 7 v.1 55 [(0, .ref (ad q0)), (2, .int x2), (3, .int x3), (4, .int v.2)] []) (kx : ∀ v, o = .inr v → sn_At p l e rmX0_tickleByNets s m args below meth c Q D ct ad layC A 7 v 155 [] []) : sn_At p l e rmX0_tickleByNets s m args below meth c Q D ct ad layC A 7 σ 55 [(0, .ref (ad q0)), (2, .int x2), (3, .int x3), (4, .int x4)] [] := by
  intro H locs ls hw hl
  have hx := C.1
  have hb := C.2.1
  unfold BX0_tickleByNets_55 at hf
  refine lv_iload hx hb dX0_tickleByNets_55 (lv_at hl 3 rfl) ?_
  refine lv_aload_n hx hb dX0_tickleByNets_57 rfl (lv_at hl 0 rfl) ?_
  refine sn_getI C hw fd_RX0_57 (sn_look h0 (k := 0) rfl) rfl dX0_tickleByNets_58 ?_
  refine lv_icmp_ge (tgt := 155) hx hb dX0_tickleByNets_61 (by decide) (fun c_1 => ?_) (fun c_1 => ?_)
  · have hf := sn_if c_1 hf
    cases hf
    exact kx _ rfl _ _ _ hw (lv_sub hl [] rfl)
  · have hf := sn_el c_1 hf
    refine lv_iload hx hb dX0_tickleByNets_64 (lv_at hl 3 rfl) ?_
    refine lv_aload_n hx hb dX0_tickleByNets_66 rfl (lv_at hl 0 rfl) ?_
    refine sn_getI C hw fd_RX0_9 (sn_look h0 (k := 0) rfl) rfl dX0_tickleByNets_67 ?_
    refine lv_icmp_eq (tgt := 149) hx hb dX0_tickleByNets_70 (by decide) (fun c_2 => ?_) (fun c_2 => ?_)
    · have hf := sn_if c_2 hf
      exact wX0_tickleByNets_149 C h0 hf kc kx _ _ _ hw (lv_sub hl [0, 1, 2, 3] rfl)
    · have hf := sn_el c_2 hf
      refine lv_aload_n hx hb dX0_tickleByNets_73 rfl (lv_at hl 0 rfl) ?_
      refine sn_getC (r := (q0 + 6)) C hw fd_RX0_31 (sn_look h0 (k := 0) rfl) rfl dX0_tickleByNets_74 ?_
      refine lv_iconst (v := 2) hx hb dX0_tickleByNets_77 rfl ?_
      refine lv_iload hx hb dX0_tickleByNets_78 (lv_at hl 3 rfl) ?_
      refine lv_imul hx hb dX0_tickleByNets_80 ?_
      obtain ⟨g_3, hf⟩ := sn_gdE hf
      refine sn_iald C hw (sn_look h0 (k := 6) rfl) g_3 dX0_tickleByNets_81 ?_
      obtain ⟨y_4, e_5, hf⟩ := sn_ltE hf
      refine lv_topi (fun y_4_ e_5_ => ?_)
      obtain rfl : y_4 = y_4_ := e_5.trans e_5_.symm
      refine lv_istore (lv' := [(5, .int y_4), (0, .ref (ad q0)), (2, .int x2), (3, .int x3), (4, .int x4)]) hx hb dX0_tickleByNets_82 hl (by decide) rfl (fun ls hl => ?_)
      refine lv_aload_n hx hb dX0_tickleByNets_84 rfl (lv_at hl 1 rfl) ?_
      refine sn_getC (r := (q0 + 6)) C hw fd_RX0_31 (sn_look h0 (k := 0) rfl) rfl dX0_tickleByNets_85 ?_
      refine lv_iconst (v := 2) hx hb dX0_tickleByNets_88 rfl ?_
      refine lv_iload hx hb dX0_tickleByNets_89 (lv_at hl 4 rfl) ?_
      refine lv_imul hx hb dX0_tickleByNets_91 ?_
      refine lv_iconst (v := 1) hx hb dX0_tickleByNets_92 rfl ?_
      refine lv_iadd hx hb dX0_tickleByNets_93 ?_
      obtain ⟨g_6, hf⟩ := sn_gdE hf
      refine sn_iald C hw (sn_look h0 (k := 6) rfl) g_6 dX0_tickleByNets_94 ?_
      obtain ⟨y_7, e_8, hf⟩ := sn_ltE hf
      refine lv_topi (fun y_7_ e_8_ => ?_)
      obtain rfl : y_7 = y_7_ := e_8.trans e_8_.symm
      refine lv_istore (lv' := [(6, .int y_7), (5, .int y_4), (0, .ref (ad q0)), (2, .int x2), (3, .int x3), (4, .int x4)]) hx hb dX0_tickleByNets_95 hl (by decide) rfl (fun ls hl => ?_)
      refine lv_aload_n hx hb dX0_tickleByNets_97 rfl (lv_at hl 2 rfl) ?_
      refine sn_getC (r := (q0 + 8)) C hw fd_RX0_37 (sn_look h0 (k := 0) rfl) rfl dX0_tickleByNets_98 ?_
      refine lv_iload_n hx hb dX0_tickleByNets_101 rfl (lv_at hl 3 rfl) ?_
      refine lv_iload hx hb dX0_tickleByNets_102 (lv_at hl 1 rfl) ?_
      refine lv_iadd hx hb dX0_tickleByNets_104 ?_
      refine lv_dup2_11 hx hb dX0_tickleByNets_105 rfl rfl ?_
      obtain ⟨g_9, hf⟩ := sn_gdE hf
      refine sn_iald C hw (sn_look h0 (k := 8) rfl) g_9 dX0_tickleByNets_106 ?_
      refine lv_iload_n hx hb dX0_tickleByNets_107 rfl (lv_at hl 4 rfl) ?_
      refine lv_iload hx hb dX0_tickleByNets_108 (lv_at hl 0 rfl) ?_
      obtain ⟨t_10, h_11, hf⟩ := sn_bd hf
      refine sn_callNi (rest := [.int (sn_I σ (q0 + 8) (x2 + y_4).toNatClampNeg), .int (x2 + y_4), .ref (ad (q0 + 8))]) C hw (ctX8_hasBit l  h_11) kl_RX0_98 rfl rfl rfl (Nat.le_of_ble_eq_true rfl) dX0_tickleByNets_110 hl.1 (fun H locs hw => ?_)
      refine lv_if_eq (tgt := 120) hx hb dX0_tickleByNets_113 (by decide) (fun c_12 => ?_) (fun c_12 => ?_)
      · have hf := sn_if c_12 hf
        refine lv_iconst (v := 0) hx hb dX0_tickleByNets_120 rfl ?_
        exact wX0_tickleByNets_121 C h0 hf kc kx _ _ _ hw (lv_sub hl [2, 3, 4, 5, 1, 0] rfl)
      · have hf := sn_el c_12 hf
        refine lv_iconst (v := 5) hx hb dX0_tickleByNets_116 rfl ?_
        refine lv_goto (tgt := 121) hx hb dX0_tickleByNets_117 (by decide) ?_
        exact wX0_tickleByNets_121 C h0 hf kc kx _ _ _ hw (lv_sub hl [2, 3, 4, 5, 1, 0] rfl)
theorem wX0_tickleByNets_L55 (C : sn_C p s m args meth c RX0 cX0_tickleByNets 7 none D ct ad layC A) {q0 : Nat} {x2 : Int32} {x3 : Int32}  (h0 : sn_isX0 q0) {z : sn_S × Int32} {t : sn_S} (h : sn_it (LX0_tickleByNets_55 q0 x2 x3) 5000 z = some t) (kx : ∀ v, t = v → sn_At p l e rmX0_tickleByNets s m args below meth c Q D ct ad layC A 7 v 155 [] []) : sn_At p l e rmX0_tickleByNets s m args below meth c Q D ct ad layC A 7 z.1 55 [(0, .ref (ad q0)), (2, .int x2), (3, .int x3), (4, .int z.2)] [] :=
  sn_loop (f := LX0_tickleByNets_55 q0 x2 x3) (G := fun z => sn_At p l e rmX0_tickleByNets s m args below meth c Q D ct ad layC A 7 z.1 55 [(0, .ref (ad q0)), (2, .int x2), (3, .int x3), (4, .int z.2)] []) (E := fun t => (∀ v, t = v → sn_At p l e rmX0_tickleByNets s m args below meth c Q D ct ad layC A 7 v 155 [] []) ∧ True) (fun z o hf k1 k2 => wX0_tickleByNets_55 C h0 hf (fun v e => k1 v e) (fun v e => (k2 _ e).1 v rfl)) 5000 z t h ⟨kx, trivial⟩
theorem wX0_tickleByNets_46 (C : sn_C p s m args meth c RX0 cX0_tickleByNets 7 none D ct ad layC A) {σ : sn_S} {q0 : Nat} {x2 : Int32} {t0 : Int32} (h0 : sn_isX0 q0) {o : sn_S} (hf : BX0_tickleByNets_46 σ q0 x2 t0 = some o) (kr : sn_Kr p l e rmX0_tickleByNets s m args below meth c Q D ct ad layC A cX0_tickleByNets .return_ (true) o []) : sn_At p l e rmX0_tickleByNets s m args below meth c Q D ct ad layC A 7 σ 46 [(0, .ref (ad q0)), (2, .int x2)] [.int t0] := by
  intro H locs ls hw hl
  have hx := C.1
  have hb := C.2.1
  unfold BX0_tickleByNets_46 at hf
  refine lv_istore_n (lv' := [(3, .int t0), (0, .ref (ad q0)), (2, .int x2)]) hx hb dX0_tickleByNets_46 rfl hl (by decide) rfl (fun ls hl => ?_)
  refine lv_iload_n hx hb dX0_tickleByNets_47 rfl (lv_at hl 0 rfl) ?_
  refine lv_if_ne (tgt := 52) hx hb dX0_tickleByNets_48 (by decide) (fun c_1 => ?_) (fun c_1 => ?_)
  · have hf := sn_el c_1 hf
    refine lv_iconst (v := 0) hx hb dX0_tickleByNets_52 rfl ?_
    refine lv_istore (lv' := [(4, .int (0 : Int32)), (3, .int t0), (0, .ref (ad q0)), (2, .int x2)]) hx hb dX0_tickleByNets_53 hl (by decide) rfl (fun ls hl => ?_)
    obtain ⟨t_2, h_3, hf⟩ := sn_bd hf
    exact wX0_tickleByNets_L55 C h0 h_3 (fun v e => by cases e; exact wX0_tickleByNets_155 C h0 hf kr) _ _ _ hw (lv_sub hl [2, 3, 1, 0] rfl)
  · have hf := sn_if c_1 hf
    cases hf
    exact kr _ _ _ _ hw rfl dX0_tickleByNets_51
theorem wX0_tickleByNets_30 (C : sn_C p s m args meth c RX0 cX0_tickleByNets 7 none D ct ad layC A) {σ : sn_S} {q0 : Nat} {x1 : Int32} {x2 : Int32} (h0 : sn_isX0 q0) {o : sn_S} (hf : BX0_tickleByNets_30 σ q0 x1 x2 = some o) (kr : sn_Kr p l e rmX0_tickleByNets s m args below meth c Q D ct ad layC A cX0_tickleByNets .return_ (true) o []) : sn_At p l e rmX0_tickleByNets s m args below meth c Q D ct ad layC A 7 σ 30 [(0, .ref (ad q0)), (1, .int x1), (2, .int x2)] [] := by
  intro H locs ls hw hl
  have hx := C.1
  have hb := C.2.1
  unfold BX0_tickleByNets_30 at hf
  refine lv_iload_n hx hb dX0_tickleByNets_30 rfl (lv_at hl 1 rfl) ?_
  refine lv_if_ne (tgt := 38) hx hb dX0_tickleByNets_31 (by decide) (fun c_1 => ?_) (fun c_1 => ?_)
  · have hf := sn_el c_1 hf
    refine lv_aload_n hx hb dX0_tickleByNets_38 rfl (lv_at hl 0 rfl) ?_
    refine sn_getC (r := (q0 + 9)) C hw fd_RX0_40 (sn_look h0 (k := 0) rfl) rfl dX0_tickleByNets_39 ?_
    refine lv_iload_n hx hb dX0_tickleByNets_42 rfl (lv_at hl 1 rfl) ?_
    refine lv_iconst (v := 1) hx hb dX0_tickleByNets_43 rfl ?_
    refine lv_isub hx hb dX0_tickleByNets_44 ?_
    obtain ⟨g_2, hf⟩ := sn_gdE hf
    refine sn_iald C hw (sn_look h0 (k := 9) rfl) g_2 dX0_tickleByNets_45 ?_
    exact wX0_tickleByNets_46 C h0 hf kr _ _ _ hw (lv_sub hl [0, 2] rfl)
  · have hf := sn_if c_1 hf
    refine lv_iconst (v := 0) hx hb dX0_tickleByNets_34 rfl ?_
    refine lv_goto (tgt := 46) hx hb dX0_tickleByNets_35 (by decide) ?_
    exact wX0_tickleByNets_46 C h0 hf kr _ _ _ hw (lv_sub hl [0, 2] rfl)
theorem wX0_tickleByNets_7 (C : sn_C p s m args meth c RX0 cX0_tickleByNets 7 none D ct ad layC A) {σ : sn_S} {q0 : Nat} {x1 : Int32} {x2 : Int32} {x3 : Int32} (h0 : sn_isX0 q0) {o : (sn_S × Int32) ⊕ (sn_S)} (hf : BX0_tickleByNets_7 σ q0 x1 x2 x3 = some o) (kc : ∀ v, o = .inl v → sn_At p l e rmX0_tickleByNets s m args below meth c Q D ct ad layC A 7 v.1 7 [(0, .ref (ad q0)), (1, .int x1), (2, .int x2), (3, .int v.2)] []) (kx : ∀ v, o = .inr v → sn_At p l e rmX0_tickleByNets s m args below meth c Q D ct ad layC A 7 v 30 [(0, .ref (ad q0)), (1, .int x1), (2, .int x2)] []) : sn_At p l e rmX0_tickleByNets s m args below meth c Q D ct ad layC A 7 σ 7 [(0, .ref (ad q0)), (1, .int x1), (2, .int x2), (3, .int x3)] [] := by
  intro H locs ls hw hl
  have hx := C.1
  have hb := C.2.1
  unfold BX0_tickleByNets_7 at hf
  refine lv_iload_n hx hb dX0_tickleByNets_7 rfl (lv_at hl 3 rfl) ?_
  refine lv_aload_n hx hb dX0_tickleByNets_8 rfl (lv_at hl 0 rfl) ?_
  refine sn_getI C hw fd_RX0_54 (sn_look h0 (k := 0) rfl) rfl dX0_tickleByNets_9 ?_
  refine lv_icmp_ge (tgt := 30) hx hb dX0_tickleByNets_12 (by decide) (fun c_1 => ?_) (fun c_1 => ?_)
  · have hf := sn_if c_1 hf
    cases hf
    exact kx _ rfl _ _ _ hw (lv_sub hl [0, 1, 2] rfl)
  · have hf := sn_el c_1 hf
    refine lv_aload_n hx hb dX0_tickleByNets_15 rfl (lv_at hl 0 rfl) ?_
    refine sn_getC (r := (q0 + 8)) C hw fd_RX0_37 (sn_look h0 (k := 0) rfl) rfl dX0_tickleByNets_16 ?_
    refine lv_iload_n hx hb dX0_tickleByNets_19 rfl (lv_at hl 2 rfl) ?_
    refine lv_iload_n hx hb dX0_tickleByNets_20 rfl (lv_at hl 3 rfl) ?_
    refine lv_iadd hx hb dX0_tickleByNets_21 ?_
    refine lv_iconst (v := 0) hx hb dX0_tickleByNets_22 rfl ?_
    obtain ⟨g_2, hf⟩ := sn_gdE hf
    refine sn_iast C hw (sn_look h0 (k := 8) rfl) g_2 dX0_tickleByNets_23 (fun H locs hw => ?_)
    obtain ⟨σ_3, e_4, hf⟩ := sn_ltE hf
    rw [← e_4] at hw
    obtain ⟨y_5, e_6, hf⟩ := sn_ltE hf
    refine lv_iinc (v := y_5) (lv' := [(3, .int y_5), (0, .ref (ad q0)), (1, .int x1), (2, .int x2)]) hx hb dX0_tickleByNets_24 hl (k := 3) rfl (by rw [e_6]; rfl) (by decide) rfl (fun ls hl => ?_)
    refine lv_goto (tgt := 7) hx hb dX0_tickleByNets_27 (by decide) ?_
    cases hf
    exact kc _ rfl _ _ _ hw (lv_sub hl [1, 2, 3, 0] rfl)
theorem wX0_tickleByNets_L7 (C : sn_C p s m args meth c RX0 cX0_tickleByNets 7 none D ct ad layC A) {q0 : Nat} {x1 : Int32} {x2 : Int32}  (h0 : sn_isX0 q0) {z : sn_S × Int32} {t : sn_S} (h : sn_it (LX0_tickleByNets_7 q0 x1 x2) 5000 z = some t) (kx : ∀ v, t = v → sn_At p l e rmX0_tickleByNets s m args below meth c Q D ct ad layC A 7 v 30 [(0, .ref (ad q0)), (1, .int x1), (2, .int x2)] []) : sn_At p l e rmX0_tickleByNets s m args below meth c Q D ct ad layC A 7 z.1 7 [(0, .ref (ad q0)), (1, .int x1), (2, .int x2), (3, .int z.2)] [] :=
  sn_loop (f := LX0_tickleByNets_7 q0 x1 x2) (G := fun z => sn_At p l e rmX0_tickleByNets s m args below meth c Q D ct ad layC A 7 z.1 7 [(0, .ref (ad q0)), (1, .int x1), (2, .int x2), (3, .int z.2)] []) (E := fun t => (∀ v, t = v → sn_At p l e rmX0_tickleByNets s m args below meth c Q D ct ad layC A 7 v 30 [(0, .ref (ad q0)), (1, .int x1), (2, .int x2)] []) ∧ True) (fun z o hf k1 k2 => wX0_tickleByNets_7 C h0 hf (fun v e => k1 v e) (fun v e => (k2 _ e).1 v rfl)) 5000 z t h ⟨kx, trivial⟩
theorem wX0_tickleByNets_in (C : sn_C p s m args meth c RX0 cX0_tickleByNets 7 none D ct ad layC A) {σ : sn_S} {q0 : Nat} {x1 : Int32} (h0 : sn_isX0 q0) {o : sn_S} (hf : fX0_tickleByNets σ q0 x1 = some o) (kr : sn_Kr p l e rmX0_tickleByNets s m args below meth c Q D ct ad layC A cX0_tickleByNets .return_ (true) o []) : sn_At p l e rmX0_tickleByNets s m args below meth c Q D ct ad layC A 7 σ 0 [(0, .ref (ad q0)), (1, .int x1)] [] := by
  intro H locs ls hw hl
  have hx := C.1
  have hb := C.2.1
  unfold fX0_tickleByNets at hf
  refine lv_bipush (v := 6) hx hb dX0_tickleByNets_0 (by decide) ?_
  refine lv_iload_n hx hb dX0_tickleByNets_2 rfl (lv_at hl 1 rfl) ?_
  refine lv_imul hx hb dX0_tickleByNets_3 ?_
  obtain ⟨y_1, e_2, hf⟩ := sn_ltE hf
  refine lv_topi (fun y_1_ e_2_ => ?_)
  obtain rfl : y_1 = y_1_ := e_2.trans e_2_.symm
  refine lv_istore_n (lv' := [(2, .int y_1), (0, .ref (ad q0)), (1, .int x1)]) hx hb dX0_tickleByNets_4 rfl hl (by decide) rfl (fun ls hl => ?_)
  refine lv_iconst (v := 0) hx hb dX0_tickleByNets_5 rfl ?_
  refine lv_istore_n (lv' := [(3, .int (0 : Int32)), (2, .int y_1), (0, .ref (ad q0)), (1, .int x1)]) hx hb dX0_tickleByNets_6 rfl hl (by decide) rfl (fun ls hl => ?_)
  obtain ⟨t_3, h_4, hf⟩ := sn_bd hf
  exact wX0_tickleByNets_L7 C h0 h_4 (fun v e => by cases e; exact wX0_tickleByNets_30 C h0 hf kr) _ _ _ hw (lv_sub hl [2, 3, 1, 0] rfl)
theorem ctX0_tickleByNets (l : Launch) {σ : sn_S} {q0 : Nat} {x1 : Int32} (h0 : sn_isX0 q0) {o : sn_S} (hf : fX0_tickleByNets σ q0 x1 = some o) : sn_M l yX0_tickleByNets cX0_tickleByNets 7 none rmX0_tickleByNets layC (fun ad => [.ref (ad q0), .int x1]) σ none o :=
  sn_met (by decide) (fun _ => Nat.le_of_ble_eq_true rfl) (fun p e s m args below meth c ls D ct ad A C hw hl => wX0_tickleByNets_in C h0 hf (fun H locs ls pc hw ok hd => sn_vret C hw hd) _ _ _ hw hl)
-- X0_cameAt
abbrev rmX0_cameAt : Room := { frames := 0, cells := 0, slots := 0, locals := 0 }
def fX0_cameAt (σ : sn_S) (q0 : Nat) (x1 : Int32) (x2 : Int32) : Option Int32 :=
  (sn_gd (sn_in (((6 : Int32) * x2) + x1) 180) (some (sn_I σ (q0 + 8) (((6 : Int32) * x2) + x1).toNatClampNeg)))
theorem wX0_cameAt_in (C : sn_C p s m args meth c RX0 cX0_cameAt 3 (some .int) D ct ad layC A) {σ : sn_S} {q0 : Nat} {x1 : Int32} {x2 : Int32} (h0 : sn_isX0 q0) {o : Int32} (hf : fX0_cameAt σ q0 x1 x2 = some o) (kr : sn_Kr p l e rmX0_cameAt s m args below meth c Q D ct ad layC A cX0_cameAt .ireturn (true) σ [.int o]) : sn_At p l e rmX0_cameAt s m args below meth c Q D ct ad layC A 3 σ 0 [(0, .ref (ad q0)), (1, .int x1), (2, .int x2)] [] := by
  intro H locs ls hw hl
  have hx := C.1
  have hb := C.2.1
  unfold fX0_cameAt at hf
  refine lv_aload_n hx hb dX0_cameAt_0 rfl (lv_at hl 0 rfl) ?_
  refine sn_getC (r := (q0 + 8)) C hw fd_RX0_37 (sn_look h0 (k := 0) rfl) rfl dX0_cameAt_1 ?_
  refine lv_bipush (v := 6) hx hb dX0_cameAt_4 (by decide) ?_
  refine lv_iload_n hx hb dX0_cameAt_6 rfl (lv_at hl 2 rfl) ?_
  refine lv_imul hx hb dX0_cameAt_7 ?_
  refine lv_iload_n hx hb dX0_cameAt_8 rfl (lv_at hl 1 rfl) ?_
  refine lv_iadd hx hb dX0_cameAt_9 ?_
  obtain ⟨g_1, hf⟩ := sn_gdE hf
  refine sn_iald C hw (sn_look h0 (k := 8) rfl) g_1 dX0_cameAt_10 ?_
  cases hf
  exact kr _ _ _ _ hw rfl dX0_cameAt_11
theorem ctX0_cameAt (l : Launch) {σ : sn_S} {q0 : Nat} {x1 : Int32} {x2 : Int32} (h0 : sn_isX0 q0) {o : Int32} (hf : fX0_cameAt σ q0 x1 x2 = some o) : sn_M l yX0_cameAt cX0_cameAt 3 (some .int) rmX0_cameAt layC (fun ad => [.ref (ad q0), .int x1, .int x2]) σ (some (fun _ => .int o)) σ :=
  sn_met (by decide) (fun _ => Nat.le_of_ble_eq_true rfl) (fun p e s m args below meth c ls D ct ad A C hw hl => wX0_cameAt_in C h0 hf (fun H locs ls pc hw ok hd => sn_iret C hw hd) _ _ _ hw hl)
-- X0_comesTo
abbrev rmX0_comesTo : Room := { frames := 1, cells := 0, slots := 0, locals := 22 }
def BX0_comesTo_19 (σ : sn_S) (q0 : Nat) (x1 : Int32) (x2 : Int32) (t0 : Int32) : Option (Int32) :=
  (sn_gd (sn_in x1 6) (sn_gd (sn_in x2 30) ((fX0_cameAt σ q0 x1 x2).bind fun t_3 => (some ((((sn_I σ (q0 + 2) x1.toNatClampNeg) * (sn_I σ (q0 + 1) x2.toNatClampNeg)) + t_3) + t0)))))
def fX0_comesTo (σ : sn_S) (q0 : Nat) (x1 : Int32) (x2 : Int32) : Option Int32 :=
  (sn_gd (sn_in x1 6) ((fX8_hasBit (sn_I σ (q0 + 5) x1.toNatClampNeg) x2).bind fun t_2 => (if t_2 = 0 then
  (BX0_comesTo_19 σ q0 x1 x2 (0 : Int32))
  else
  (BX0_comesTo_19 σ q0 x1 x2 (40 : Int32)))))
theorem wX0_comesTo_19 (C : sn_C p s m args meth c RX0 cX0_comesTo 4 (some .int) D ct ad layC A) {σ : sn_S} {q0 : Nat} {x1 : Int32} {x2 : Int32} {t0 : Int32} (h0 : sn_isX0 q0) {o : Int32} (hf : BX0_comesTo_19 σ q0 x1 x2 t0 = some o) (kr : sn_Kr p l e rmX0_comesTo s m args below meth c Q D ct ad layC A cX0_comesTo .ireturn (true) σ [.int o]) : sn_At p l e rmX0_comesTo s m args below meth c Q D ct ad layC A 4 σ 19 [(0, .ref (ad q0)), (1, .int x1), (2, .int x2)] [.int t0] := by
  intro H locs ls hw hl
  have hx := C.1
  have hb := C.2.1
  unfold BX0_comesTo_19 at hf
  refine lv_istore_n (lv' := [(3, .int t0), (0, .ref (ad q0)), (1, .int x1), (2, .int x2)]) hx hb dX0_comesTo_19 rfl hl (by decide) rfl (fun ls hl => ?_)
  refine lv_aload_n hx hb dX0_comesTo_20 rfl (lv_at hl 1 rfl) ?_
  refine sn_getC (r := (q0 + 2)) C hw fd_RX0_19 (sn_look h0 (k := 0) rfl) rfl dX0_comesTo_21 ?_
  refine lv_iload_n hx hb dX0_comesTo_24 rfl (lv_at hl 2 rfl) ?_
  obtain ⟨g_1, hf⟩ := sn_gdE hf
  refine sn_iald C hw (sn_look h0 (k := 2) rfl) g_1 dX0_comesTo_25 ?_
  refine lv_aload_n hx hb dX0_comesTo_26 rfl (lv_at hl 1 rfl) ?_
  refine sn_getC (r := (q0 + 1)) C hw fd_RX0_15 (sn_look h0 (k := 0) rfl) rfl dX0_comesTo_27 ?_
  refine lv_iload_n hx hb dX0_comesTo_30 rfl (lv_at hl 3 rfl) ?_
  obtain ⟨g_2, hf⟩ := sn_gdE hf
  refine sn_iald C hw (sn_look h0 (k := 1) rfl) g_2 dX0_comesTo_31 ?_
  refine lv_imul hx hb dX0_comesTo_32 ?_
  refine lv_aload_n hx hb dX0_comesTo_33 rfl (lv_at hl 1 rfl) ?_
  refine lv_iload_n hx hb dX0_comesTo_34 rfl (lv_at hl 2 rfl) ?_
  refine lv_iload_n hx hb dX0_comesTo_35 rfl (lv_at hl 3 rfl) ?_
  obtain ⟨t_3, h_4, hf⟩ := sn_bd hf
  refine sn_callVi (rest := [.int ((sn_I σ (q0 + 2) x1.toNatClampNeg) * (sn_I σ (q0 + 1) x2.toNatClampNeg))]) C hw (ctX0_cameAt l h0 h_4) kl_RX0_105 (sn_look h0 (k := 0) rfl) rfl rfl rfl rfl (Nat.le_of_ble_eq_true rfl) dX0_comesTo_36 hl.1 (fun H locs hw => ?_)
  refine lv_iadd hx hb dX0_comesTo_39 ?_
  refine lv_iload_n hx hb dX0_comesTo_40 rfl (lv_at hl 0 rfl) ?_
  refine lv_iadd hx hb dX0_comesTo_41 ?_
  cases hf
  exact kr _ _ _ _ hw rfl dX0_comesTo_42
theorem wX0_comesTo_in (C : sn_C p s m args meth c RX0 cX0_comesTo 4 (some .int) D ct ad layC A) {σ : sn_S} {q0 : Nat} {x1 : Int32} {x2 : Int32} (h0 : sn_isX0 q0) {o : Int32} (hf : fX0_comesTo σ q0 x1 x2 = some o) (kr : sn_Kr p l e rmX0_comesTo s m args below meth c Q D ct ad layC A cX0_comesTo .ireturn (true) σ [.int o]) : sn_At p l e rmX0_comesTo s m args below meth c Q D ct ad layC A 4 σ 0 [(0, .ref (ad q0)), (1, .int x1), (2, .int x2)] [] := by
  intro H locs ls hw hl
  have hx := C.1
  have hb := C.2.1
  unfold fX0_comesTo at hf
  refine lv_aload_n hx hb dX0_comesTo_0 rfl (lv_at hl 0 rfl) ?_
  refine sn_getC (r := (q0 + 5)) C hw fd_RX0_28 (sn_look h0 (k := 0) rfl) rfl dX0_comesTo_1 ?_
  refine lv_iload_n hx hb dX0_comesTo_4 rfl (lv_at hl 1 rfl) ?_
  obtain ⟨g_1, hf⟩ := sn_gdE hf
  refine sn_iald C hw (sn_look h0 (k := 5) rfl) g_1 dX0_comesTo_5 ?_
  refine lv_iload_n hx hb dX0_comesTo_6 rfl (lv_at hl 2 rfl) ?_
  obtain ⟨t_2, h_3, hf⟩ := sn_bd hf
  refine sn_callNi (rest := []) C hw (ctX8_hasBit l  h_3) kl_RX0_98 rfl rfl rfl (Nat.le_of_ble_eq_true rfl) dX0_comesTo_7 hl.1 (fun H locs hw => ?_)
  refine lv_if_eq (tgt := 18) hx hb dX0_comesTo_10 (by decide) (fun c_4 => ?_) (fun c_4 => ?_)
  · have hf := sn_if c_4 hf
    refine lv_iconst (v := 0) hx hb dX0_comesTo_18 rfl ?_
    exact wX0_comesTo_19 C h0 hf kr _ _ _ hw (lv_sub hl [0, 1, 2] rfl)
  · have hf := sn_el c_4 hf
    refine lv_bipush (v := 40) hx hb dX0_comesTo_13 (by decide) ?_
    refine lv_goto (tgt := 19) hx hb dX0_comesTo_15 (by decide) ?_
    exact wX0_comesTo_19 C h0 hf kr _ _ _ hw (lv_sub hl [0, 1, 2] rfl)
theorem ctX0_comesTo (l : Launch) {σ : sn_S} {q0 : Nat} {x1 : Int32} {x2 : Int32} (h0 : sn_isX0 q0) {o : Int32} (hf : fX0_comesTo σ q0 x1 x2 = some o) : sn_M l yX0_comesTo cX0_comesTo 4 (some .int) rmX0_comesTo layC (fun ad => [.ref (ad q0), .int x1, .int x2]) σ (some (fun _ => .int o)) σ :=
  sn_met (by decide) (fun _ => Nat.le_of_ble_eq_true rfl) (fun p e s m args below meth c ls D ct ad A C hw hl => wX0_comesTo_in C h0 hf (fun H locs ls pc hw ok hd => sn_iret C hw hd) _ _ _ hw hl)
-- X0_liveMinute
abbrev rmX0_liveMinute : Room := { frames := 2, cells := 0, slots := 0, locals := 45 }
def BX0_liveMinute_115 (σ : sn_S) (q0 : Nat) (x1 : Int32) (x3 : Int32) : Option (sn_S) :=
  (sn_gd (sn_in x1 30) (sn_lt (sn_pI σ (q0 + 9) x1.toNatClampNeg x3) fun σ_2 => (some σ_2)))
def BX0_liveMinute_98 (σ : sn_S) (q0 : Nat) (x1 : Int32) (x2 : Int32) (x3 : Int32) (x4 : Int32) (x5 : Int32) : Option ((sn_S × Int32 × Int32) ⊕ (sn_S × Int32)) :=
  (sn_gd (sn_in (x2 + x4) 180) (sn_lt (sn_pI σ (q0 + 7) (x2 + x4).toNatClampNeg x5) fun σ_2 => (sn_lt (x4 + 1) fun y_4 => (some (.inl (σ_2, x3, y_4))))))
def BX0_liveMinute_46 (σ : sn_S) (q0 : Nat) (x1 : Int32) (x2 : Int32) (x3 : Int32) (x4 : Int32) (t0 : Int32) (t1 : Int32) : Option ((sn_S × Int32 × Int32) ⊕ (sn_S × Int32)) :=
  (sn_lt (t0 + t1) fun y_1 => (sn_gd (sn_in x4 6) (if y_1 < (sn_I σ (q0 + 3) x4.toNatClampNeg) then
  (BX0_liveMinute_98 σ q0 x1 x2 x3 x4 y_1)
  else
  (sn_gd (sn_in x4 6) ((fX8_hasBit (sn_I σ (q0 + 4) x4.toNatClampNeg) x1).bind fun t_6 => (if t_6 = 0 then
  (sn_lt (x3 ||| ((1 : Int32) <<< (x4 &&& 31))) fun y_9 => (sn_gd (sn_in x4 6) (sn_gd (sn_in x4 6) (sn_lt (sn_pI σ (q0 + 10) x4.toNatClampNeg ((sn_I σ (q0 + 10) x4.toNatClampNeg) ||| ((1 : Int32) <<< (x1 &&& 31)))) fun σ_13 => (BX0_liveMinute_98 σ_13 q0 x1 x2 y_9 x4 (0 : Int32))))))
  else
  (BX0_liveMinute_98 σ q0 x1 x2 x3 x4 y_1)))))))
def BX0_liveMinute_10 (σ : sn_S) (q0 : Nat) (x1 : Int32) (x2 : Int32) (x3 : Int32) (x4 : Int32) : Option ((sn_S × Int32 × Int32) ⊕ (sn_S × Int32)) :=
  (if (sn_I σ q0 1) ≤ x4 then
  (some (.inr (σ, x3)))
  else
  ((fX0_comesTo σ q0 x4 x1).bind fun t_2 => (if x1 = 0 then
  (BX0_liveMinute_46 σ q0 x1 x2 x3 x4 t_2 (0 : Int32))
  else
  (sn_gd (sn_in ((x2 - (6 : Int32)) + x4) 180) (BX0_liveMinute_46 σ q0 x1 x2 x3 x4 t_2 (sn_I σ (q0 + 7) ((x2 - (6 : Int32)) + x4).toNatClampNeg))))))
def LX0_liveMinute_10 (q0 : Nat) (x1 : Int32) (x2 : Int32) (s : sn_S × Int32 × Int32) : Option ((sn_S × Int32 × Int32) ⊕ (sn_S × Int32)) := BX0_liveMinute_10 s.1 q0 x1 x2 s.2.1 s.2.2
def fX0_liveMinute (σ : sn_S) (q0 : Nat) (x1 : Int32) : Option sn_S :=
  (sn_lt ((6 : Int32) * x1) fun y_1 => ((sn_it (LX0_liveMinute_10 q0 x1 y_1) 5000 (σ, (0 : Int32), (0 : Int32))).bind fun t_3 => (BX0_liveMinute_115 t_3.1 q0 x1 t_3.2)))
theorem wX0_liveMinute_115 (C : sn_C p s m args meth c RX0 cX0_liveMinute 6 none D ct ad layC A) {σ : sn_S} {q0 : Nat} {x1 : Int32} {x3 : Int32} (h0 : sn_isX0 q0) {o : sn_S} (hf : BX0_liveMinute_115 σ q0 x1 x3 = some o) (kr : sn_Kr p l e rmX0_liveMinute s m args below meth c Q D ct ad layC A cX0_liveMinute .return_ (true) o []) : sn_At p l e rmX0_liveMinute s m args below meth c Q D ct ad layC A 6 σ 115 [(0, .ref (ad q0)), (1, .int x1), (3, .int x3)] [] := by
  intro H locs ls hw hl
  have hx := C.1
  have hb := C.2.1
  unfold BX0_liveMinute_115 at hf
  refine lv_aload_n hx hb dX0_liveMinute_115 rfl (lv_at hl 0 rfl) ?_
  refine sn_getC (r := (q0 + 9)) C hw fd_RX0_40 (sn_look h0 (k := 0) rfl) rfl dX0_liveMinute_116 ?_
  refine lv_iload_n hx hb dX0_liveMinute_119 rfl (lv_at hl 1 rfl) ?_
  refine lv_iload_n hx hb dX0_liveMinute_120 rfl (lv_at hl 2 rfl) ?_
  obtain ⟨g_1, hf⟩ := sn_gdE hf
  refine sn_iast C hw (sn_look h0 (k := 9) rfl) g_1 dX0_liveMinute_121 (fun H locs hw => ?_)
  obtain ⟨σ_2, e_3, hf⟩ := sn_ltE hf
  rw [← e_3] at hw
  cases hf
  exact kr _ _ _ _ hw rfl dX0_liveMinute_122
theorem wX0_liveMinute_98 (C : sn_C p s m args meth c RX0 cX0_liveMinute 6 none D ct ad layC A) {σ : sn_S} {q0 : Nat} {x1 : Int32} {x2 : Int32} {x3 : Int32} {x4 : Int32} {x5 : Int32} (h0 : sn_isX0 q0) {o : (sn_S × Int32 × Int32) ⊕ (sn_S × Int32)} (hf : BX0_liveMinute_98 σ q0 x1 x2 x3 x4 x5 = some o) (kc : ∀ v, o = .inl v → sn_At p l e rmX0_liveMinute s m args below meth c Q D ct ad layC A 6 v.1 10 [(0, .ref (ad q0)), (1, .int x1), (2, .int x2), (3, .int v.2.1), (4, .int v.2.2)] []) (kx : ∀ v, o = .inr v → sn_At p l e rmX0_liveMinute s m args below meth c Q D ct ad layC A 6 v.1 115 [(0, .ref (ad q0)), (1, .int x1), (3, .int v.2)] []) : sn_At p l e rmX0_liveMinute s m args below meth c Q D ct ad layC A 6 σ 98 [(0, .ref (ad q0)), (1, .int x1), (2, .int x2), (3, .int x3), (4, .int x4), (5, .int x5)] [] := by
  intro H locs ls hw hl
  have hx := C.1
  have hb := C.2.1
  unfold BX0_liveMinute_98 at hf
  refine lv_aload_n hx hb dX0_liveMinute_98 rfl (lv_at hl 0 rfl) ?_
  refine sn_getC (r := (q0 + 7)) C hw fd_RX0_34 (sn_look h0 (k := 0) rfl) rfl dX0_liveMinute_99 ?_
  refine lv_iload_n hx hb dX0_liveMinute_102 rfl (lv_at hl 2 rfl) ?_
  refine lv_iload hx hb dX0_liveMinute_103 (lv_at hl 4 rfl) ?_
  refine lv_iadd hx hb dX0_liveMinute_105 ?_
  refine lv_iload hx hb dX0_liveMinute_106 (lv_at hl 5 rfl) ?_
  obtain ⟨g_1, hf⟩ := sn_gdE hf
  refine sn_iast C hw (sn_look h0 (k := 7) rfl) g_1 dX0_liveMinute_108 (fun H locs hw => ?_)
  obtain ⟨σ_2, e_3, hf⟩ := sn_ltE hf
  rw [← e_3] at hw
  obtain ⟨y_4, e_5, hf⟩ := sn_ltE hf
  refine lv_iinc (v := y_4) (lv' := [(4, .int y_4), (0, .ref (ad q0)), (1, .int x1), (2, .int x2), (3, .int x3), (5, .int x5)]) hx hb dX0_liveMinute_109 hl (k := 4) rfl (by rw [e_5]; rfl) (by decide) rfl (fun ls hl => ?_)
  refine lv_goto (tgt := 10) hx hb dX0_liveMinute_112 (by decide) ?_
  cases hf
  exact kc _ rfl _ _ _ hw (lv_sub hl [1, 2, 3, 4, 0] rfl)
theorem wX0_liveMinute_46 (C : sn_C p s m args meth c RX0 cX0_liveMinute 6 none D ct ad layC A) {σ : sn_S} {q0 : Nat} {x1 : Int32} {x2 : Int32} {x3 : Int32} {x4 : Int32} {t0 : Int32} {t1 : Int32} (h0 : sn_isX0 q0) {o : (sn_S × Int32 × Int32) ⊕ (sn_S × Int32)} (hf : BX0_liveMinute_46 σ q0 x1 x2 x3 x4 t0 t1 = some o) (kc : ∀ v, o = .inl v → sn_At p l e rmX0_liveMinute s m args below meth c Q D ct ad layC A 6 v.1 10 [(0, .ref (ad q0)), (1, .int x1), (2, .int x2), (3, .int v.2.1), (4, .int v.2.2)] []) (kx : ∀ v, o = .inr v → sn_At p l e rmX0_liveMinute s m args below meth c Q D ct ad layC A 6 v.1 115 [(0, .ref (ad q0)), (1, .int x1), (3, .int v.2)] []) : sn_At p l e rmX0_liveMinute s m args below meth c Q D ct ad layC A 6 σ 46 [(0, .ref (ad q0)), (1, .int x1), (2, .int x2), (3, .int x3), (4, .int x4)] [.int t1, .int t0] := by
  intro H locs ls hw hl
  have hx := C.1
  have hb := C.2.1
  unfold BX0_liveMinute_46 at hf
  refine lv_iadd hx hb dX0_liveMinute_46 ?_
  obtain ⟨y_1, e_2, hf⟩ := sn_ltE hf
  refine lv_topi (fun y_1_ e_2_ => ?_)
  obtain rfl : y_1 = y_1_ := e_2.trans e_2_.symm
  refine lv_istore (lv' := [(5, .int y_1), (0, .ref (ad q0)), (1, .int x1), (2, .int x2), (3, .int x3), (4, .int x4)]) hx hb dX0_liveMinute_47 hl (by decide) rfl (fun ls hl => ?_)
  refine lv_iload hx hb dX0_liveMinute_49 (lv_at hl 0 rfl) ?_
  refine lv_aload_n hx hb dX0_liveMinute_51 rfl (lv_at hl 1 rfl) ?_
  refine sn_getC (r := (q0 + 3)) C hw fd_RX0_22 (sn_look h0 (k := 0) rfl) rfl dX0_liveMinute_52 ?_
  refine lv_iload hx hb dX0_liveMinute_55 (lv_at hl 5 rfl) ?_
  obtain ⟨g_3, hf⟩ := sn_gdE hf
  refine sn_iald C hw (sn_look h0 (k := 3) rfl) g_3 dX0_liveMinute_57 ?_
  refine lv_icmp_lt (tgt := 98) hx hb dX0_liveMinute_58 (by decide) (fun c_4 => ?_) (fun c_4 => ?_)
  · have hf := sn_if c_4 hf
    exact wX0_liveMinute_98 C h0 hf kc kx _ _ _ hw (lv_sub hl [1, 2, 3, 4, 5, 0] rfl)
  · have hf := sn_el c_4 hf
    refine lv_aload_n hx hb dX0_liveMinute_61 rfl (lv_at hl 1 rfl) ?_
    refine sn_getC (r := (q0 + 4)) C hw fd_RX0_25 (sn_look h0 (k := 0) rfl) rfl dX0_liveMinute_62 ?_
    refine lv_iload hx hb dX0_liveMinute_65 (lv_at hl 5 rfl) ?_
    obtain ⟨g_5, hf⟩ := sn_gdE hf
    refine sn_iald C hw (sn_look h0 (k := 4) rfl) g_5 dX0_liveMinute_67 ?_
    refine lv_iload_n hx hb dX0_liveMinute_68 rfl (lv_at hl 2 rfl) ?_
    obtain ⟨t_6, h_7, hf⟩ := sn_bd hf
    refine sn_callNi (rest := []) C hw (ctX8_hasBit l  h_7) kl_RX0_98 rfl rfl rfl (Nat.le_of_ble_eq_true rfl) dX0_liveMinute_69 hl.1 (fun H locs hw => ?_)
    refine lv_if_ne (tgt := 98) hx hb dX0_liveMinute_72 (by decide) (fun c_8 => ?_) (fun c_8 => ?_)
    · have hf := sn_el c_8 hf
      exact wX0_liveMinute_98 C h0 hf kc kx _ _ _ hw (lv_sub hl [1, 2, 3, 4, 5, 0] rfl)
    · have hf := sn_if c_8 hf
      refine lv_iload_n hx hb dX0_liveMinute_75 rfl (lv_at hl 4 rfl) ?_
      refine lv_iconst (v := 1) hx hb dX0_liveMinute_76 rfl ?_
      refine lv_iload hx hb dX0_liveMinute_77 (lv_at hl 5 rfl) ?_
      refine lv_ishl hx hb dX0_liveMinute_79 ?_
      refine lv_ior hx hb dX0_liveMinute_80 ?_
      obtain ⟨y_9, e_10, hf⟩ := sn_ltE hf
      refine lv_topi (fun y_9_ e_10_ => ?_)
      obtain rfl : y_9 = y_9_ := e_10.trans e_10_.symm
      refine lv_istore_n (lv' := [(3, .int y_9), (5, .int y_1), (0, .ref (ad q0)), (1, .int x1), (2, .int x2), (4, .int x4)]) hx hb dX0_liveMinute_81 rfl hl (by decide) rfl (fun ls hl => ?_)
      refine lv_aload_n hx hb dX0_liveMinute_82 rfl (lv_at hl 2 rfl) ?_
      refine sn_getC (r := (q0 + 10)) C hw fd_RX0_43 (sn_look h0 (k := 0) rfl) rfl dX0_liveMinute_83 ?_
      refine lv_iload hx hb dX0_liveMinute_86 (lv_at hl 5 rfl) ?_
      refine lv_dup2_11 hx hb dX0_liveMinute_88 rfl rfl ?_
      obtain ⟨g_11, hf⟩ := sn_gdE hf
      refine sn_iald C hw (sn_look h0 (k := 10) rfl) g_11 dX0_liveMinute_89 ?_
      refine lv_iconst (v := 1) hx hb dX0_liveMinute_90 rfl ?_
      refine lv_iload_n hx hb dX0_liveMinute_91 rfl (lv_at hl 3 rfl) ?_
      refine lv_ishl hx hb dX0_liveMinute_92 ?_
      refine lv_ior hx hb dX0_liveMinute_93 ?_
      obtain ⟨g_12, hf⟩ := sn_gdE hf
      refine sn_iast C hw (sn_look h0 (k := 10) rfl) g_12 dX0_liveMinute_94 (fun H locs hw => ?_)
      obtain ⟨σ_13, e_14, hf⟩ := sn_ltE hf
      rw [← e_14] at hw
      refine lv_iconst (v := 0) hx hb dX0_liveMinute_95 rfl ?_
      refine lv_istore (lv' := [(5, .int (0 : Int32)), (3, .int y_9), (0, .ref (ad q0)), (1, .int x1), (2, .int x2), (4, .int x4)]) hx hb dX0_liveMinute_96 hl (by decide) rfl (fun ls hl => ?_)
      exact wX0_liveMinute_98 C h0 hf kc kx _ _ _ hw (lv_sub hl [2, 3, 4, 1, 5, 0] rfl)
theorem wX0_liveMinute_10 (C : sn_C p s m args meth c RX0 cX0_liveMinute 6 none D ct ad layC A) {σ : sn_S} {q0 : Nat} {x1 : Int32} {x2 : Int32} {x3 : Int32} {x4 : Int32} (h0 : sn_isX0 q0) {o : (sn_S × Int32 × Int32) ⊕ (sn_S × Int32)} (hf : BX0_liveMinute_10 σ q0 x1 x2 x3 x4 = some o) (kc : ∀ v, o = .inl v → sn_At p l e rmX0_liveMinute s m args below meth c Q D ct ad layC A 6 v.1 10 [(0, .ref (ad q0)), (1, .int x1), (2, .int x2), (3, .int v.2.1), (4, .int v.2.2)] []) (kx : ∀ v, o = .inr v → sn_At p l e rmX0_liveMinute s m args below meth c Q D ct ad layC A 6 v.1 115 [(0, .ref (ad q0)), (1, .int x1), (3, .int v.2)] []) : sn_At p l e rmX0_liveMinute s m args below meth c Q D ct ad layC A 6 σ 10 [(0, .ref (ad q0)), (1, .int x1), (2, .int x2), (3, .int x3), (4, .int x4)] [] := by
  intro H locs ls hw hl
  have hx := C.1
  have hb := C.2.1
  unfold BX0_liveMinute_10 at hf
  refine lv_iload hx hb dX0_liveMinute_10 (lv_at hl 4 rfl) ?_
  refine lv_aload_n hx hb dX0_liveMinute_12 rfl (lv_at hl 0 rfl) ?_
  refine sn_getI C hw fd_RX0_54 (sn_look h0 (k := 0) rfl) rfl dX0_liveMinute_13 ?_
  refine lv_icmp_ge (tgt := 115) hx hb dX0_liveMinute_16 (by decide) (fun c_1 => ?_) (fun c_1 => ?_)
  · have hf := sn_if c_1 hf
    cases hf
    exact kx _ rfl _ _ _ hw (lv_sub hl [0, 1, 3] rfl)
  · have hf := sn_el c_1 hf
    refine lv_aload_n hx hb dX0_liveMinute_19 rfl (lv_at hl 0 rfl) ?_
    refine lv_iload hx hb dX0_liveMinute_20 (lv_at hl 4 rfl) ?_
    refine lv_iload_n hx hb dX0_liveMinute_22 rfl (lv_at hl 1 rfl) ?_
    obtain ⟨t_2, h_3, hf⟩ := sn_bd hf
    refine sn_callVi (rest := []) C hw (ctX0_comesTo l h0 h_3) kl_RX0_102 (sn_look h0 (k := 0) rfl) rfl rfl rfl rfl (Nat.le_of_ble_eq_true rfl) dX0_liveMinute_23 hl.1 (fun H locs hw => ?_)
    refine lv_iload_n hx hb dX0_liveMinute_26 rfl (lv_at hl 1 rfl) ?_
    refine lv_if_ne (tgt := 34) hx hb dX0_liveMinute_27 (by decide) (fun c_4 => ?_) (fun c_4 => ?_)
    · have hf := sn_el c_4 hf
      refine lv_aload_n hx hb dX0_liveMinute_34 rfl (lv_at hl 0 rfl) ?_
      refine sn_getC (r := (q0 + 7)) C hw fd_RX0_34 (sn_look h0 (k := 0) rfl) rfl dX0_liveMinute_35 ?_
      refine lv_iload_n hx hb dX0_liveMinute_38 rfl (lv_at hl 2 rfl) ?_
      refine lv_bipush (v := 6) hx hb dX0_liveMinute_39 (by decide) ?_
      refine lv_isub hx hb dX0_liveMinute_41 ?_
      refine lv_iload hx hb dX0_liveMinute_42 (lv_at hl 4 rfl) ?_
      refine lv_iadd hx hb dX0_liveMinute_44 ?_
      obtain ⟨g_5, hf⟩ := sn_gdE hf
      refine sn_iald C hw (sn_look h0 (k := 7) rfl) g_5 dX0_liveMinute_45 ?_
      exact wX0_liveMinute_46 C h0 hf kc kx _ _ _ hw (lv_sub hl [0, 1, 2, 3, 4] rfl)
    · have hf := sn_if c_4 hf
      refine lv_iconst (v := 0) hx hb dX0_liveMinute_30 rfl ?_
      refine lv_goto (tgt := 46) hx hb dX0_liveMinute_31 (by decide) ?_
      exact wX0_liveMinute_46 C h0 hf kc kx _ _ _ hw (lv_sub hl [0, 1, 2, 3, 4] rfl)
theorem wX0_liveMinute_L10 (C : sn_C p s m args meth c RX0 cX0_liveMinute 6 none D ct ad layC A) {q0 : Nat} {x1 : Int32} {x2 : Int32}  (h0 : sn_isX0 q0) {z : sn_S × Int32 × Int32} {t : sn_S × Int32} (h : sn_it (LX0_liveMinute_10 q0 x1 x2) 5000 z = some t) (kx : ∀ v, t = v → sn_At p l e rmX0_liveMinute s m args below meth c Q D ct ad layC A 6 v.1 115 [(0, .ref (ad q0)), (1, .int x1), (3, .int v.2)] []) : sn_At p l e rmX0_liveMinute s m args below meth c Q D ct ad layC A 6 z.1 10 [(0, .ref (ad q0)), (1, .int x1), (2, .int x2), (3, .int z.2.1), (4, .int z.2.2)] [] :=
  sn_loop (f := LX0_liveMinute_10 q0 x1 x2) (G := fun z => sn_At p l e rmX0_liveMinute s m args below meth c Q D ct ad layC A 6 z.1 10 [(0, .ref (ad q0)), (1, .int x1), (2, .int x2), (3, .int z.2.1), (4, .int z.2.2)] []) (E := fun t => (∀ v, t = v → sn_At p l e rmX0_liveMinute s m args below meth c Q D ct ad layC A 6 v.1 115 [(0, .ref (ad q0)), (1, .int x1), (3, .int v.2)] []) ∧ True) (fun z o hf k1 k2 => wX0_liveMinute_10 C h0 hf (fun v e => k1 v e) (fun v e => (k2 _ e).1 v rfl)) 5000 z t h ⟨kx, trivial⟩
theorem wX0_liveMinute_in (C : sn_C p s m args meth c RX0 cX0_liveMinute 6 none D ct ad layC A) {σ : sn_S} {q0 : Nat} {x1 : Int32} (h0 : sn_isX0 q0) {o : sn_S} (hf : fX0_liveMinute σ q0 x1 = some o) (kr : sn_Kr p l e rmX0_liveMinute s m args below meth c Q D ct ad layC A cX0_liveMinute .return_ (true) o []) : sn_At p l e rmX0_liveMinute s m args below meth c Q D ct ad layC A 6 σ 0 [(0, .ref (ad q0)), (1, .int x1)] [] := by
  intro H locs ls hw hl
  have hx := C.1
  have hb := C.2.1
  unfold fX0_liveMinute at hf
  refine lv_bipush (v := 6) hx hb dX0_liveMinute_0 (by decide) ?_
  refine lv_iload_n hx hb dX0_liveMinute_2 rfl (lv_at hl 1 rfl) ?_
  refine lv_imul hx hb dX0_liveMinute_3 ?_
  obtain ⟨y_1, e_2, hf⟩ := sn_ltE hf
  refine lv_topi (fun y_1_ e_2_ => ?_)
  obtain rfl : y_1 = y_1_ := e_2.trans e_2_.symm
  refine lv_istore_n (lv' := [(2, .int y_1), (0, .ref (ad q0)), (1, .int x1)]) hx hb dX0_liveMinute_4 rfl hl (by decide) rfl (fun ls hl => ?_)
  refine lv_iconst (v := 0) hx hb dX0_liveMinute_5 rfl ?_
  refine lv_istore_n (lv' := [(3, .int (0 : Int32)), (2, .int y_1), (0, .ref (ad q0)), (1, .int x1)]) hx hb dX0_liveMinute_6 rfl hl (by decide) rfl (fun ls hl => ?_)
  refine lv_iconst (v := 0) hx hb dX0_liveMinute_7 rfl ?_
  refine lv_istore (lv' := [(4, .int (0 : Int32)), (3, .int (0 : Int32)), (2, .int y_1), (0, .ref (ad q0)), (1, .int x1)]) hx hb dX0_liveMinute_8 hl (by decide) rfl (fun ls hl => ?_)
  obtain ⟨t_3, h_4, hf⟩ := sn_bd hf
  exact wX0_liveMinute_L10 C h0 h_4 (fun v e => by cases e; exact wX0_liveMinute_115 C h0 hf kr) _ _ _ hw (lv_sub hl [3, 4, 2, 1, 0] rfl)
theorem ctX0_liveMinute (l : Launch) {σ : sn_S} {q0 : Nat} {x1 : Int32} (h0 : sn_isX0 q0) {o : sn_S} (hf : fX0_liveMinute σ q0 x1 = some o) : sn_M l yX0_liveMinute cX0_liveMinute 6 none rmX0_liveMinute layC (fun ad => [.ref (ad q0), .int x1]) σ none o :=
  sn_met (by decide) (fun _ => Nat.le_of_ble_eq_true rfl) (fun p e s m args below meth c ls D ct ad A C hw hl => wX0_liveMinute_in C h0 hf (fun H locs ls pc hw ok hd => sn_vret C hw hd) _ _ _ hw hl)
-- X0_live
abbrev rmX0_live : Room := { frames := 3, cells := 0, slots := 0, locals := 70 }
def BX0_live_60 (σ : sn_S) (q0 : Nat) : Option (sn_S) :=
  (some σ)
def BX0_live_31 (σ : sn_S) (q0 : Nat) (x2 : Int32) (x3 : Int32) : Option ((sn_S × Int32) ⊕ (sn_S)) :=
  (if x2 ≤ x3 then
  (some (.inr (σ)))
  else
  (if (sn_I σ q0 0) ≤ x3 then
  (some (.inr (σ)))
  else
  ((fX0_tickleByNets σ q0 x3).bind fun t_3 => ((fX0_liveMinute t_3 q0 x3).bind fun t_5 => (sn_lt (x3 + 1) fun y_7 => (some (.inl (t_5, y_7))))))))
def LX0_live_31 (q0 : Nat) (x2 : Int32) (s : sn_S × Int32) : Option ((sn_S × Int32) ⊕ (sn_S)) := BX0_live_31 s.1 q0 x2 s.2
def BX0_live_29 (σ : sn_S) (q0 : Nat) (x1 : Int32) (x2 : Int32) : Option (sn_S) :=
  ((sn_it (LX0_live_31 q0 x2) 5000 (σ, x1)).bind fun t_1 => (BX0_live_60 t_1 q0))
def BX0_live_2 (σ : sn_S) (q0 : Nat) (x1 : Int32) (x2 : Int32) (x3 : Int32) : Option ((sn_S × Int32) ⊕ (sn_S)) :=
  (if (sn_I σ q0 1) ≤ x3 then
  (some (.inr (σ)))
  else
  (sn_gd (sn_in x3 6) ((fX8_firstMinutes x1).bind fun t_3 => (sn_gd (sn_in x3 6) (sn_lt (sn_pI σ (q0 + 10) x3.toNatClampNeg ((sn_I σ (q0 + 10) x3.toNatClampNeg) &&& t_3)) fun σ_6 => (sn_lt (x3 + 1) fun y_8 => (some (.inl (σ_6, y_8)))))))))
def LX0_live_2 (q0 : Nat) (x1 : Int32) (x2 : Int32) (s : sn_S × Int32) : Option ((sn_S × Int32) ⊕ (sn_S)) := BX0_live_2 s.1 q0 x1 x2 s.2
def fX0_live (σ : sn_S) (q0 : Nat) (x1 : Int32) (x2 : Int32) : Option sn_S :=
  ((sn_it (LX0_live_2 q0 x1 x2) 5000 (σ, (0 : Int32))).bind fun t_1 => (BX0_live_29 t_1 q0 x1 x2))
theorem wX0_live_60 (C : sn_C p s m args meth c RX0 cX0_live 4 none D ct ad layC A) {σ : sn_S} {q0 : Nat} (h0 : sn_isX0 q0) {o : sn_S} (hf : BX0_live_60 σ q0 = some o) (kr : sn_Kr p l e rmX0_live s m args below meth c Q D ct ad layC A cX0_live .return_ (true) o []) : sn_At p l e rmX0_live s m args below meth c Q D ct ad layC A 4 σ 60 [] [] := by
  intro H locs ls hw hl
  have hx := C.1
  have hb := C.2.1
  unfold BX0_live_60 at hf
  cases hf
  exact kr _ _ _ _ hw rfl dX0_live_60
theorem wX0_live_31 (C : sn_C p s m args meth c RX0 cX0_live 4 none D ct ad layC A) {σ : sn_S} {q0 : Nat} {x2 : Int32} {x3 : Int32} (h0 : sn_isX0 q0) {o : (sn_S × Int32) ⊕ (sn_S)} (hf : BX0_live_31 σ q0 x2 x3 = some o) (kc : ∀ v, o = .inl v → sn_At p l e rmX0_live s m args below meth c Q D ct ad layC A 4 v.1 31 [(0, .ref (ad q0)), (2, .int x2), (3, .int v.2)] []) (kx : ∀ v, o = .inr v → sn_At p l e rmX0_live s m args below meth c Q D ct ad layC A 4 v 60 [] []) : sn_At p l e rmX0_live s m args below meth c Q D ct ad layC A 4 σ 31 [(0, .ref (ad q0)), (2, .int x2), (3, .int x3)] [] := by
  intro H locs ls hw hl
  have hx := C.1
  have hb := C.2.1
  unfold BX0_live_31 at hf
  refine lv_iload_n hx hb dX0_live_31 rfl (lv_at hl 2 rfl) ?_
  refine lv_iload_n hx hb dX0_live_32 rfl (lv_at hl 1 rfl) ?_
  refine lv_icmp_ge (tgt := 60) hx hb dX0_live_33 (by decide) (fun c_1 => ?_) (fun c_1 => ?_)
  · have hf := sn_if c_1 hf
    cases hf
    exact kx _ rfl _ _ _ hw (lv_sub hl [] rfl)
  · have hf := sn_el c_1 hf
    refine lv_iload_n hx hb dX0_live_36 rfl (lv_at hl 2 rfl) ?_
    refine lv_aload_n hx hb dX0_live_37 rfl (lv_at hl 0 rfl) ?_
    refine sn_getI C hw fd_RX0_51 (sn_look h0 (k := 0) rfl) rfl dX0_live_38 ?_
    refine lv_icmp_ge (tgt := 60) hx hb dX0_live_41 (by decide) (fun c_2 => ?_) (fun c_2 => ?_)
    · have hf := sn_if c_2 hf
      cases hf
      exact kx _ rfl _ _ _ hw (lv_sub hl [] rfl)
    · have hf := sn_el c_2 hf
      refine lv_aload_n hx hb dX0_live_44 rfl (lv_at hl 0 rfl) ?_
      refine lv_iload_n hx hb dX0_live_45 rfl (lv_at hl 2 rfl) ?_
      obtain ⟨t_3, h_4, hf⟩ := sn_bd hf
      refine sn_callVv (rest := []) C hw (ctX0_tickleByNets l h0 h_4) kl_RX0_91 (sn_look h0 (k := 0) rfl) rfl rfl rfl rfl (Nat.le_of_ble_eq_true rfl) dX0_live_46 hl.1 (fun H locs hw => ?_)
      refine lv_aload_n hx hb dX0_live_49 rfl (lv_at hl 0 rfl) ?_
      refine lv_iload_n hx hb dX0_live_50 rfl (lv_at hl 2 rfl) ?_
      obtain ⟨t_5, h_6, hf⟩ := sn_bd hf
      refine sn_callVv (rest := []) C hw (ctX0_liveMinute l h0 h_6) kl_RX0_95 (sn_look h0 (k := 0) rfl) rfl rfl rfl rfl (Nat.le_of_ble_eq_true rfl) dX0_live_51 hl.1 (fun H locs hw => ?_)
      obtain ⟨y_7, e_8, hf⟩ := sn_ltE hf
      refine lv_iinc (v := y_7) (lv' := [(3, .int y_7), (0, .ref (ad q0)), (2, .int x2)]) hx hb dX0_live_54 hl (k := 2) rfl (by rw [e_8]; rfl) (by decide) rfl (fun ls hl => ?_)
      refine lv_goto (tgt := 31) hx hb dX0_live_57 (by decide) ?_
      cases hf
      exact kc _ rfl _ _ _ hw (lv_sub hl [1, 2, 0] rfl)
theorem wX0_live_L31 (C : sn_C p s m args meth c RX0 cX0_live 4 none D ct ad layC A) {q0 : Nat} {x2 : Int32}  (h0 : sn_isX0 q0) {z : sn_S × Int32} {t : sn_S} (h : sn_it (LX0_live_31 q0 x2) 5000 z = some t) (kx : ∀ v, t = v → sn_At p l e rmX0_live s m args below meth c Q D ct ad layC A 4 v 60 [] []) : sn_At p l e rmX0_live s m args below meth c Q D ct ad layC A 4 z.1 31 [(0, .ref (ad q0)), (2, .int x2), (3, .int z.2)] [] :=
  sn_loop (f := LX0_live_31 q0 x2) (G := fun z => sn_At p l e rmX0_live s m args below meth c Q D ct ad layC A 4 z.1 31 [(0, .ref (ad q0)), (2, .int x2), (3, .int z.2)] []) (E := fun t => (∀ v, t = v → sn_At p l e rmX0_live s m args below meth c Q D ct ad layC A 4 v 60 [] []) ∧ True) (fun z o hf k1 k2 => wX0_live_31 C h0 hf (fun v e => k1 v e) (fun v e => (k2 _ e).1 v rfl)) 5000 z t h ⟨kx, trivial⟩
theorem wX0_live_29 (C : sn_C p s m args meth c RX0 cX0_live 4 none D ct ad layC A) {σ : sn_S} {q0 : Nat} {x1 : Int32} {x2 : Int32} (h0 : sn_isX0 q0) {o : sn_S} (hf : BX0_live_29 σ q0 x1 x2 = some o) (kr : sn_Kr p l e rmX0_live s m args below meth c Q D ct ad layC A cX0_live .return_ (true) o []) : sn_At p l e rmX0_live s m args below meth c Q D ct ad layC A 4 σ 29 [(0, .ref (ad q0)), (1, .int x1), (2, .int x2)] [] := by
  intro H locs ls hw hl
  have hx := C.1
  have hb := C.2.1
  unfold BX0_live_29 at hf
  refine lv_iload_n hx hb dX0_live_29 rfl (lv_at hl 1 rfl) ?_
  refine lv_istore_n (lv' := [(3, .int x1), (0, .ref (ad q0)), (1, .int x1), (2, .int x2)]) hx hb dX0_live_30 rfl hl (by decide) rfl (fun ls hl => ?_)
  obtain ⟨t_1, h_2, hf⟩ := sn_bd hf
  exact wX0_live_L31 C h0 h_2 (fun v e => by cases e; exact wX0_live_60 C h0 hf kr) _ _ _ hw (lv_sub hl [1, 3, 0] rfl)
theorem wX0_live_2 (C : sn_C p s m args meth c RX0 cX0_live 4 none D ct ad layC A) {σ : sn_S} {q0 : Nat} {x1 : Int32} {x2 : Int32} {x3 : Int32} (h0 : sn_isX0 q0) {o : (sn_S × Int32) ⊕ (sn_S)} (hf : BX0_live_2 σ q0 x1 x2 x3 = some o) (kc : ∀ v, o = .inl v → sn_At p l e rmX0_live s m args below meth c Q D ct ad layC A 4 v.1 2 [(0, .ref (ad q0)), (1, .int x1), (2, .int x2), (3, .int v.2)] []) (kx : ∀ v, o = .inr v → sn_At p l e rmX0_live s m args below meth c Q D ct ad layC A 4 v 29 [(0, .ref (ad q0)), (1, .int x1), (2, .int x2)] []) : sn_At p l e rmX0_live s m args below meth c Q D ct ad layC A 4 σ 2 [(0, .ref (ad q0)), (1, .int x1), (2, .int x2), (3, .int x3)] [] := by
  intro H locs ls hw hl
  have hx := C.1
  have hb := C.2.1
  unfold BX0_live_2 at hf
  refine lv_iload_n hx hb dX0_live_2 rfl (lv_at hl 3 rfl) ?_
  refine lv_aload_n hx hb dX0_live_3 rfl (lv_at hl 0 rfl) ?_
  refine sn_getI C hw fd_RX0_54 (sn_look h0 (k := 0) rfl) rfl dX0_live_4 ?_
  refine lv_icmp_ge (tgt := 29) hx hb dX0_live_7 (by decide) (fun c_1 => ?_) (fun c_1 => ?_)
  · have hf := sn_if c_1 hf
    cases hf
    exact kx _ rfl _ _ _ hw (lv_sub hl [0, 1, 2] rfl)
  · have hf := sn_el c_1 hf
    refine lv_aload_n hx hb dX0_live_10 rfl (lv_at hl 0 rfl) ?_
    refine sn_getC (r := (q0 + 10)) C hw fd_RX0_43 (sn_look h0 (k := 0) rfl) rfl dX0_live_11 ?_
    refine lv_iload_n hx hb dX0_live_14 rfl (lv_at hl 3 rfl) ?_
    refine lv_dup2_11 hx hb dX0_live_15 rfl rfl ?_
    obtain ⟨g_2, hf⟩ := sn_gdE hf
    refine sn_iald C hw (sn_look h0 (k := 10) rfl) g_2 dX0_live_16 ?_
    refine lv_iload_n hx hb dX0_live_17 rfl (lv_at hl 1 rfl) ?_
    obtain ⟨t_3, h_4, hf⟩ := sn_bd hf
    refine sn_callNi (rest := [.int (sn_I σ (q0 + 10) x3.toNatClampNeg), .int x3, .ref (ad (q0 + 10))]) C hw (ctX8_firstMinutes l  h_4) kl_RX0_87 rfl rfl rfl (Nat.le_of_ble_eq_true rfl) dX0_live_18 hl.1 (fun H locs hw => ?_)
    refine lv_iand hx hb dX0_live_21 ?_
    obtain ⟨g_5, hf⟩ := sn_gdE hf
    refine sn_iast C hw (sn_look h0 (k := 10) rfl) g_5 dX0_live_22 (fun H locs hw => ?_)
    obtain ⟨σ_6, e_7, hf⟩ := sn_ltE hf
    rw [← e_7] at hw
    obtain ⟨y_8, e_9, hf⟩ := sn_ltE hf
    refine lv_iinc (v := y_8) (lv' := [(3, .int y_8), (0, .ref (ad q0)), (1, .int x1), (2, .int x2)]) hx hb dX0_live_23 hl (k := 3) rfl (by rw [e_9]; rfl) (by decide) rfl (fun ls hl => ?_)
    refine lv_goto (tgt := 2) hx hb dX0_live_26 (by decide) ?_
    cases hf
    exact kc _ rfl _ _ _ hw (lv_sub hl [1, 2, 3, 0] rfl)
theorem wX0_live_L2 (C : sn_C p s m args meth c RX0 cX0_live 4 none D ct ad layC A) {q0 : Nat} {x1 : Int32} {x2 : Int32}  (h0 : sn_isX0 q0) {z : sn_S × Int32} {t : sn_S} (h : sn_it (LX0_live_2 q0 x1 x2) 5000 z = some t) (kx : ∀ v, t = v → sn_At p l e rmX0_live s m args below meth c Q D ct ad layC A 4 v 29 [(0, .ref (ad q0)), (1, .int x1), (2, .int x2)] []) : sn_At p l e rmX0_live s m args below meth c Q D ct ad layC A 4 z.1 2 [(0, .ref (ad q0)), (1, .int x1), (2, .int x2), (3, .int z.2)] [] :=
  sn_loop (f := LX0_live_2 q0 x1 x2) (G := fun z => sn_At p l e rmX0_live s m args below meth c Q D ct ad layC A 4 z.1 2 [(0, .ref (ad q0)), (1, .int x1), (2, .int x2), (3, .int z.2)] []) (E := fun t => (∀ v, t = v → sn_At p l e rmX0_live s m args below meth c Q D ct ad layC A 4 v 29 [(0, .ref (ad q0)), (1, .int x1), (2, .int x2)] []) ∧ True) (fun z o hf k1 k2 => wX0_live_2 C h0 hf (fun v e => k1 v e) (fun v e => (k2 _ e).1 v rfl)) 5000 z t h ⟨kx, trivial⟩
theorem wX0_live_in (C : sn_C p s m args meth c RX0 cX0_live 4 none D ct ad layC A) {σ : sn_S} {q0 : Nat} {x1 : Int32} {x2 : Int32} (h0 : sn_isX0 q0) {o : sn_S} (hf : fX0_live σ q0 x1 x2 = some o) (kr : sn_Kr p l e rmX0_live s m args below meth c Q D ct ad layC A cX0_live .return_ (true) o []) : sn_At p l e rmX0_live s m args below meth c Q D ct ad layC A 4 σ 0 [(0, .ref (ad q0)), (1, .int x1), (2, .int x2)] [] := by
  intro H locs ls hw hl
  have hx := C.1
  have hb := C.2.1
  unfold fX0_live at hf
  refine lv_iconst (v := 0) hx hb dX0_live_0 rfl ?_
  refine lv_istore_n (lv' := [(3, .int (0 : Int32)), (0, .ref (ad q0)), (1, .int x1), (2, .int x2)]) hx hb dX0_live_1 rfl hl (by decide) rfl (fun ls hl => ?_)
  obtain ⟨t_1, h_2, hf⟩ := sn_bd hf
  exact wX0_live_L2 C h0 h_2 (fun v e => by cases e; exact wX0_live_29 C h0 hf kr) _ _ _ hw (lv_sub hl [1, 2, 3, 0] rfl)
theorem ctX0_live (l : Launch) {σ : sn_S} {q0 : Nat} {x1 : Int32} {x2 : Int32} (h0 : sn_isX0 q0) {o : sn_S} (hf : fX0_live σ q0 x1 x2 = some o) : sn_M l yX0_live cX0_live 4 none rmX0_live layC (fun ad => [.ref (ad q0), .int x1, .int x2]) σ none o :=
  sn_met (by decide) (fun _ => Nat.le_of_ble_eq_true rfl) (fun p e s m args below meth c ls D ct ad A C hw hl => wX0_live_in C h0 hf (fun H locs ls pc hw ok hd => sn_vret C hw hd) _ _ _ hw hl)
end
end
section
section
variable {p : Program} {l : Launch} {e : Env} {s : State} {m : MethodId} {args : Array Value} {below : List Frame} {meth : Method} {c : Code} {Q : State → Prop} {D : va_G} {ct : Nat → ClassId} {ad : Nat → Nat} {A : Nat → Prop} {lay : List sn_E}
-- X0_liveWhole
abbrev rmX0_liveWhole : Room := { frames := 4, cells := 0, slots := 0, locals := 93 }
def fX0_liveWhole (σ : sn_S) (q0 : Nat) : Option sn_S :=
  ((fX0_live σ q0 (0 : Int32) (sn_I σ q0 0)).bind fun t_1 => (some t_1))
theorem wX0_liveWhole_in (C : sn_C p s m args meth c RX0 cX0_liveWhole 1 none D ct ad layC A) {σ : sn_S} {q0 : Nat} (h0 : sn_isX0 q0) {o : sn_S} (hf : fX0_liveWhole σ q0 = some o) (kr : sn_Kr p l e rmX0_liveWhole s m args below meth c Q D ct ad layC A cX0_liveWhole .return_ (true) o []) : sn_At p l e rmX0_liveWhole s m args below meth c Q D ct ad layC A 1 σ 0 [(0, .ref (ad q0))] [] := by
  intro H locs ls hw hl
  have hx := C.1
  have hb := C.2.1
  unfold fX0_liveWhole at hf
  refine lv_aload_n hx hb dX0_liveWhole_0 rfl (lv_at hl 0 rfl) ?_
  refine lv_iconst (v := 0) hx hb dX0_liveWhole_1 rfl ?_
  refine lv_aload_n hx hb dX0_liveWhole_2 rfl (lv_at hl 0 rfl) ?_
  refine sn_getI C hw fd_RX0_51 (sn_look h0 (k := 0) rfl) rfl dX0_liveWhole_3 ?_
  obtain ⟨t_1, h_2, hf⟩ := sn_bd hf
  refine sn_callVv (rest := []) C hw (ctX0_live l h0 h_2) kl_RX0_83 (sn_look h0 (k := 0) rfl) rfl rfl rfl rfl (Nat.le_of_ble_eq_true rfl) dX0_liveWhole_6 hl.1 (fun H locs hw => ?_)
  cases hf
  exact kr _ _ _ _ hw rfl dX0_liveWhole_9
theorem ctX0_liveWhole (l : Launch) {σ : sn_S} {q0 : Nat} (h0 : sn_isX0 q0) {o : sn_S} (hf : fX0_liveWhole σ q0 = some o) : sn_M l yX0_liveWhole cX0_liveWhole 1 none rmX0_liveWhole layC (fun ad => [.ref (ad q0)]) σ none o :=
  sn_met (by decide) (fun _ => Nat.le_of_ble_eq_true rfl) (fun p e s m args below meth c ls D ct ad A C hw hl => wX0_liveWhole_in C h0 hf (fun H locs ls pc hw ok hd => sn_vret C hw hd) _ _ _ hw hl)
-- X0_tickleAt
abbrev rmX0_tickleAt : Room := { frames := 0, cells := 0, slots := 0, locals := 0 }
def fX0_tickleAt (σ : sn_S) (q0 : Nat) (x1 : Int32) (x2 : Int32) : Option Int32 :=
  (sn_gd (sn_in (((6 : Int32) * x2) + x1) 180) (some (sn_I σ (q0 + 7) (((6 : Int32) * x2) + x1).toNatClampNeg)))
theorem wX0_tickleAt_in (C : sn_C p s m args meth c RX0 cX0_tickleAt 3 (some .int) D ct ad layC A) {σ : sn_S} {q0 : Nat} {x1 : Int32} {x2 : Int32} (h0 : sn_isX0 q0) {o : Int32} (hf : fX0_tickleAt σ q0 x1 x2 = some o) (kr : sn_Kr p l e rmX0_tickleAt s m args below meth c Q D ct ad layC A cX0_tickleAt .ireturn (true) σ [.int o]) : sn_At p l e rmX0_tickleAt s m args below meth c Q D ct ad layC A 3 σ 0 [(0, .ref (ad q0)), (1, .int x1), (2, .int x2)] [] := by
  intro H locs ls hw hl
  have hx := C.1
  have hb := C.2.1
  unfold fX0_tickleAt at hf
  refine lv_aload_n hx hb dX0_tickleAt_0 rfl (lv_at hl 0 rfl) ?_
  refine sn_getC (r := (q0 + 7)) C hw fd_RX0_34 (sn_look h0 (k := 0) rfl) rfl dX0_tickleAt_1 ?_
  refine lv_bipush (v := 6) hx hb dX0_tickleAt_4 (by decide) ?_
  refine lv_iload_n hx hb dX0_tickleAt_6 rfl (lv_at hl 2 rfl) ?_
  refine lv_imul hx hb dX0_tickleAt_7 ?_
  refine lv_iload_n hx hb dX0_tickleAt_8 rfl (lv_at hl 1 rfl) ?_
  refine lv_iadd hx hb dX0_tickleAt_9 ?_
  obtain ⟨g_1, hf⟩ := sn_gdE hf
  refine sn_iald C hw (sn_look h0 (k := 7) rfl) g_1 dX0_tickleAt_10 ?_
  cases hf
  exact kr _ _ _ _ hw rfl dX0_tickleAt_11
theorem ctX0_tickleAt (l : Launch) {σ : sn_S} {q0 : Nat} {x1 : Int32} {x2 : Int32} (h0 : sn_isX0 q0) {o : Int32} (hf : fX0_tickleAt σ q0 x1 x2 = some o) : sn_M l yX0_tickleAt cX0_tickleAt 3 (some .int) rmX0_tickleAt layC (fun ad => [.ref (ad q0), .int x1, .int x2]) σ (some (fun _ => .int o)) σ :=
  sn_met (by decide) (fun _ => Nat.le_of_ble_eq_true rfl) (fun p e s m args below meth c ls D ct ad A C hw hl => wX0_tickleAt_in C h0 hf (fun H locs ls pc hw ok hd => sn_iret C hw hd) _ _ _ hw hl)
-- J6_bitCount_0f7a4
abbrev rmJ6_bitCount_0f7a4 : Room := { frames := 0, cells := 0, slots := 0, locals := 0 }
def fJ6_bitCount_0f7a4 (x0 : Int32) : Option Int32 :=
  (sn_lt (x0 - (((x0.toUInt32 >>> ((1 : Int32).toUInt32 &&& Int32.toUInt32 31)).toInt32) &&& (1431655765 : Int32))) fun y_1 => (sn_lt ((y_1 &&& (858993459 : Int32)) + (((y_1.toUInt32 >>> ((2 : Int32).toUInt32 &&& Int32.toUInt32 31)).toInt32) &&& (858993459 : Int32))) fun y_3 => (sn_lt ((y_3 + ((y_3.toUInt32 >>> ((4 : Int32).toUInt32 &&& Int32.toUInt32 31)).toInt32)) &&& (252645135 : Int32)) fun y_5 => (sn_lt (y_5 + ((y_5.toUInt32 >>> ((8 : Int32).toUInt32 &&& Int32.toUInt32 31)).toInt32)) fun y_7 => (sn_lt (y_7 + ((y_7.toUInt32 >>> ((16 : Int32).toUInt32 &&& Int32.toUInt32 31)).toInt32)) fun y_9 => (some (y_9 &&& (63 : Int32))))))))
theorem wJ6_bitCount_0f7a4_in (C : sn_C p s m args meth c RJ6 cJ6_bitCount_0f7a4 1 (some .int) D ct ad lay A) {σ : sn_S} {x0 : Int32}  {o : Int32} (hf : fJ6_bitCount_0f7a4 x0 = some o) (kr : sn_Kr p l e rmJ6_bitCount_0f7a4 s m args below meth c Q D ct ad lay A cJ6_bitCount_0f7a4 .ireturn (true) σ [.int o]) : sn_At p l e rmJ6_bitCount_0f7a4 s m args below meth c Q D ct ad lay A 1 σ 0 [(0, .int x0)] [] := by
  intro H locs ls hw hl
  have hx := C.1
  have hb := C.2.1
  unfold fJ6_bitCount_0f7a4 at hf
  refine lv_iload_n hx hb dJ6_bitCount_0f7a4_0 rfl (lv_at hl 0 rfl) ?_
  refine lv_iload_n hx hb dJ6_bitCount_0f7a4_1 rfl (lv_at hl 0 rfl) ?_
  refine lv_iconst (v := 1) hx hb dJ6_bitCount_0f7a4_2 rfl ?_
  refine lv_iushr hx hb dJ6_bitCount_0f7a4_3 rfl ?_
  refine lv_ldcw hx hb C.2.2.2.1 (C.2.2.2.2.1 _ kk_RJ6_265) dJ6_bitCount_0f7a4_4 ?_
  refine lv_iand hx hb dJ6_bitCount_0f7a4_7 ?_
  refine lv_isub hx hb dJ6_bitCount_0f7a4_8 ?_
  obtain ⟨y_1, e_2, hf⟩ := sn_ltE hf
  refine lv_topi (fun y_1_ e_2_ => ?_)
  obtain rfl : y_1 = y_1_ := e_2.trans e_2_.symm
  refine lv_istore_n (lv' := [(0, .int y_1)]) hx hb dJ6_bitCount_0f7a4_9 rfl hl (by decide) rfl (fun ls hl => ?_)
  refine lv_iload_n hx hb dJ6_bitCount_0f7a4_10 rfl (lv_at hl 0 rfl) ?_
  refine lv_ldcw hx hb C.2.2.2.1 (C.2.2.2.2.1 _ kk_RJ6_266) dJ6_bitCount_0f7a4_11 ?_
  refine lv_iand hx hb dJ6_bitCount_0f7a4_14 ?_
  refine lv_iload_n hx hb dJ6_bitCount_0f7a4_15 rfl (lv_at hl 0 rfl) ?_
  refine lv_iconst (v := 2) hx hb dJ6_bitCount_0f7a4_16 rfl ?_
  refine lv_iushr hx hb dJ6_bitCount_0f7a4_17 rfl ?_
  refine lv_ldcw hx hb C.2.2.2.1 (C.2.2.2.2.1 _ kk_RJ6_266) dJ6_bitCount_0f7a4_18 ?_
  refine lv_iand hx hb dJ6_bitCount_0f7a4_21 ?_
  refine lv_iadd hx hb dJ6_bitCount_0f7a4_22 ?_
  obtain ⟨y_3, e_4, hf⟩ := sn_ltE hf
  refine lv_topi (fun y_3_ e_4_ => ?_)
  obtain rfl : y_3 = y_3_ := e_4.trans e_4_.symm
  refine lv_istore_n (lv' := [(0, .int y_3)]) hx hb dJ6_bitCount_0f7a4_23 rfl hl (by decide) rfl (fun ls hl => ?_)
  refine lv_iload_n hx hb dJ6_bitCount_0f7a4_24 rfl (lv_at hl 0 rfl) ?_
  refine lv_iload_n hx hb dJ6_bitCount_0f7a4_25 rfl (lv_at hl 0 rfl) ?_
  refine lv_iconst (v := 4) hx hb dJ6_bitCount_0f7a4_26 rfl ?_
  refine lv_iushr hx hb dJ6_bitCount_0f7a4_27 rfl ?_
  refine lv_iadd hx hb dJ6_bitCount_0f7a4_28 ?_
  refine lv_ldcw hx hb C.2.2.2.1 (C.2.2.2.2.1 _ kk_RJ6_267) dJ6_bitCount_0f7a4_29 ?_
  refine lv_iand hx hb dJ6_bitCount_0f7a4_32 ?_
  obtain ⟨y_5, e_6, hf⟩ := sn_ltE hf
  refine lv_topi (fun y_5_ e_6_ => ?_)
  obtain rfl : y_5 = y_5_ := e_6.trans e_6_.symm
  refine lv_istore_n (lv' := [(0, .int y_5)]) hx hb dJ6_bitCount_0f7a4_33 rfl hl (by decide) rfl (fun ls hl => ?_)
  refine lv_iload_n hx hb dJ6_bitCount_0f7a4_34 rfl (lv_at hl 0 rfl) ?_
  refine lv_iload_n hx hb dJ6_bitCount_0f7a4_35 rfl (lv_at hl 0 rfl) ?_
  refine lv_bipush (v := 8) hx hb dJ6_bitCount_0f7a4_36 (by decide) ?_
  refine lv_iushr hx hb dJ6_bitCount_0f7a4_38 rfl ?_
  refine lv_iadd hx hb dJ6_bitCount_0f7a4_39 ?_
  obtain ⟨y_7, e_8, hf⟩ := sn_ltE hf
  refine lv_topi (fun y_7_ e_8_ => ?_)
  obtain rfl : y_7 = y_7_ := e_8.trans e_8_.symm
  refine lv_istore_n (lv' := [(0, .int y_7)]) hx hb dJ6_bitCount_0f7a4_40 rfl hl (by decide) rfl (fun ls hl => ?_)
  refine lv_iload_n hx hb dJ6_bitCount_0f7a4_41 rfl (lv_at hl 0 rfl) ?_
  refine lv_iload_n hx hb dJ6_bitCount_0f7a4_42 rfl (lv_at hl 0 rfl) ?_
  refine lv_bipush (v := 16) hx hb dJ6_bitCount_0f7a4_43 (by decide) ?_
  refine lv_iushr hx hb dJ6_bitCount_0f7a4_45 rfl ?_
  refine lv_iadd hx hb dJ6_bitCount_0f7a4_46 ?_
  obtain ⟨y_9, e_10, hf⟩ := sn_ltE hf
  refine lv_topi (fun y_9_ e_10_ => ?_)
  obtain rfl : y_9 = y_9_ := e_10.trans e_10_.symm
  refine lv_istore_n (lv' := [(0, .int y_9)]) hx hb dJ6_bitCount_0f7a4_47 rfl hl (by decide) rfl (fun ls hl => ?_)
  refine lv_iload_n hx hb dJ6_bitCount_0f7a4_48 rfl (lv_at hl 0 rfl) ?_
  refine lv_bipush (v := 63) hx hb dJ6_bitCount_0f7a4_49 (by decide) ?_
  refine lv_iand hx hb dJ6_bitCount_0f7a4_51 ?_
  cases hf
  exact kr _ _ _ _ hw rfl dJ6_bitCount_0f7a4_52
theorem ctJ6_bitCount_0f7a4 (l : Launch) {σ : sn_S} {x0 : Int32}  {o : Int32} (hf : fJ6_bitCount_0f7a4 x0 = some o) : sn_M l yJ6_bitCount_0f7a4 cJ6_bitCount_0f7a4 1 (some .int) rmJ6_bitCount_0f7a4 lay (fun ad => [.int x0]) σ (some (fun _ => .int o)) σ :=
  sn_met (by decide) (fun _ => Nat.le_of_ble_eq_true rfl) (fun p e s m args below meth c ls D ct ad A C hw hl => wJ6_bitCount_0f7a4_in C  hf (fun H locs ls pc hw ok hd => sn_iret C hw hd) _ _ _ hw hl)
-- X0_total
abbrev rmX0_total : Room := { frames := 1, cells := 0, slots := 0, locals := 20 }
def BX0_total_30 (σ : sn_S) (q0 : Nat) (x1 : Int32) : Option (Int32) :=
  (some x1)
def BX0_total_4 (σ : sn_S) (q0 : Nat) (x1 : Int32) (x2 : Int32) : Option ((Int32 × Int32) ⊕ (Int32)) :=
  (if (sn_I σ q0 1) ≤ x2 then
  (some (.inr (x1)))
  else
  (sn_gd (sn_in x2 6) ((fJ6_bitCount_0f7a4 (sn_I σ (q0 + 10) x2.toNatClampNeg)).bind fun t_3 => (sn_lt (x1 + t_3) fun y_5 => (sn_lt (x2 + 1) fun y_7 => (some (.inl (y_5, y_7))))))))
def LX0_total_4 (σ : sn_S) (q0 : Nat) (s : Int32 × Int32) : Option ((Int32 × Int32) ⊕ (Int32)) := BX0_total_4 σ q0 s.1 s.2
def fX0_total (σ : sn_S) (q0 : Nat) : Option Int32 :=
  ((sn_it (LX0_total_4 σ q0) 5000 ((0 : Int32), (0 : Int32))).bind fun t_1 => (BX0_total_30 σ q0 t_1))
theorem wX0_total_30 (C : sn_C p s m args meth c RX0 cX0_total 3 (some .int) D ct ad layC A) {σ : sn_S} {q0 : Nat} {x1 : Int32} (h0 : sn_isX0 q0) {o : Int32} (hf : BX0_total_30 σ q0 x1 = some o) (kr : sn_Kr p l e rmX0_total s m args below meth c Q D ct ad layC A cX0_total .ireturn (true) σ [.int o]) : sn_At p l e rmX0_total s m args below meth c Q D ct ad layC A 3 σ 30 [(1, .int x1)] [] := by
  intro H locs ls hw hl
  have hx := C.1
  have hb := C.2.1
  unfold BX0_total_30 at hf
  refine lv_iload_n hx hb dX0_total_30 rfl (lv_at hl 0 rfl) ?_
  cases hf
  exact kr _ _ _ _ hw rfl dX0_total_31
theorem wX0_total_4 (C : sn_C p s m args meth c RX0 cX0_total 3 (some .int) D ct ad layC A) {σ : sn_S} {q0 : Nat} {x1 : Int32} {x2 : Int32} (h0 : sn_isX0 q0) {o : (Int32 × Int32) ⊕ (Int32)} (hf : BX0_total_4 σ q0 x1 x2 = some o) (kc : ∀ v, o = .inl v → sn_At p l e rmX0_total s m args below meth c Q D ct ad layC A 3 σ 4 [(0, .ref (ad q0)), (1, .int v.1), (2, .int v.2)] []) (kx : ∀ v, o = .inr v → sn_At p l e rmX0_total s m args below meth c Q D ct ad layC A 3 σ 30 [(1, .int v)] []) : sn_At p l e rmX0_total s m args below meth c Q D ct ad layC A 3 σ 4 [(0, .ref (ad q0)), (1, .int x1), (2, .int x2)] [] := by
  intro H locs ls hw hl
  have hx := C.1
  have hb := C.2.1
  unfold BX0_total_4 at hf
  refine lv_iload_n hx hb dX0_total_4 rfl (lv_at hl 2 rfl) ?_
  refine lv_aload_n hx hb dX0_total_5 rfl (lv_at hl 0 rfl) ?_
  refine sn_getI C hw fd_RX0_54 (sn_look h0 (k := 0) rfl) rfl dX0_total_6 ?_
  refine lv_icmp_ge (tgt := 30) hx hb dX0_total_9 (by decide) (fun c_1 => ?_) (fun c_1 => ?_)
  · have hf := sn_if c_1 hf
    cases hf
    exact kx _ rfl _ _ _ hw (lv_sub hl [1] rfl)
  · have hf := sn_el c_1 hf
    refine lv_iload_n hx hb dX0_total_12 rfl (lv_at hl 1 rfl) ?_
    refine lv_aload_n hx hb dX0_total_13 rfl (lv_at hl 0 rfl) ?_
    refine sn_getC (r := (q0 + 10)) C hw fd_RX0_43 (sn_look h0 (k := 0) rfl) rfl dX0_total_14 ?_
    refine lv_iload_n hx hb dX0_total_17 rfl (lv_at hl 2 rfl) ?_
    obtain ⟨g_2, hf⟩ := sn_gdE hf
    refine sn_iald C hw (sn_look h0 (k := 10) rfl) g_2 dX0_total_18 ?_
    obtain ⟨t_3, h_4, hf⟩ := sn_bd hf
    refine sn_callSi (rest := [.int x1]) C hw (ctJ6_bitCount_0f7a4 l  h_4) kl_RX0_108 rfl rfl rfl (Nat.le_of_ble_eq_true rfl) dX0_total_19 hl.1 (fun H locs hw => ?_)
    refine lv_iadd hx hb dX0_total_22 ?_
    obtain ⟨y_5, e_6, hf⟩ := sn_ltE hf
    refine lv_topi (fun y_5_ e_6_ => ?_)
    obtain rfl : y_5 = y_5_ := e_6.trans e_6_.symm
    refine lv_istore_n (lv' := [(1, .int y_5), (0, .ref (ad q0)), (2, .int x2)]) hx hb dX0_total_23 rfl hl (by decide) rfl (fun ls hl => ?_)
    obtain ⟨y_7, e_8, hf⟩ := sn_ltE hf
    refine lv_iinc (v := y_7) (lv' := [(2, .int y_7), (1, .int y_5), (0, .ref (ad q0))]) hx hb dX0_total_24 hl (k := 2) rfl (by rw [e_8]; rfl) (by decide) rfl (fun ls hl => ?_)
    refine lv_goto (tgt := 4) hx hb dX0_total_27 (by decide) ?_
    cases hf
    exact kc _ rfl _ _ _ hw (lv_sub hl [2, 1, 0] rfl)
theorem wX0_total_L4 (C : sn_C p s m args meth c RX0 cX0_total 3 (some .int) D ct ad layC A) {σ : sn_S} {q0 : Nat}  (h0 : sn_isX0 q0) {z : Int32 × Int32} {t : Int32} (h : sn_it (LX0_total_4 σ q0) 5000 z = some t) (kx : ∀ v, t = v → sn_At p l e rmX0_total s m args below meth c Q D ct ad layC A 3 σ 30 [(1, .int v)] []) : sn_At p l e rmX0_total s m args below meth c Q D ct ad layC A 3 σ 4 [(0, .ref (ad q0)), (1, .int z.1), (2, .int z.2)] [] :=
  sn_loop (f := LX0_total_4 σ q0) (G := fun z => sn_At p l e rmX0_total s m args below meth c Q D ct ad layC A 3 σ 4 [(0, .ref (ad q0)), (1, .int z.1), (2, .int z.2)] []) (E := fun t => (∀ v, t = v → sn_At p l e rmX0_total s m args below meth c Q D ct ad layC A 3 σ 30 [(1, .int v)] []) ∧ True) (fun z o hf k1 k2 => wX0_total_4 C h0 hf (fun v e => k1 v e) (fun v e => (k2 _ e).1 v rfl)) 5000 z t h ⟨kx, trivial⟩
theorem wX0_total_in (C : sn_C p s m args meth c RX0 cX0_total 3 (some .int) D ct ad layC A) {σ : sn_S} {q0 : Nat} (h0 : sn_isX0 q0) {o : Int32} (hf : fX0_total σ q0 = some o) (kr : sn_Kr p l e rmX0_total s m args below meth c Q D ct ad layC A cX0_total .ireturn (true) σ [.int o]) : sn_At p l e rmX0_total s m args below meth c Q D ct ad layC A 3 σ 0 [(0, .ref (ad q0))] [] := by
  intro H locs ls hw hl
  have hx := C.1
  have hb := C.2.1
  unfold fX0_total at hf
  refine lv_iconst (v := 0) hx hb dX0_total_0 rfl ?_
  refine lv_istore_n (lv' := [(1, .int (0 : Int32)), (0, .ref (ad q0))]) hx hb dX0_total_1 rfl hl (by decide) rfl (fun ls hl => ?_)
  refine lv_iconst (v := 0) hx hb dX0_total_2 rfl ?_
  refine lv_istore_n (lv' := [(2, .int (0 : Int32)), (1, .int (0 : Int32)), (0, .ref (ad q0))]) hx hb dX0_total_3 rfl hl (by decide) rfl (fun ls hl => ?_)
  obtain ⟨t_1, h_2, hf⟩ := sn_bd hf
  exact wX0_total_L4 C h0 h_2 (fun v e => by cases e; exact wX0_total_30 C h0 hf kr) _ _ _ hw (lv_sub hl [2, 1, 0] rfl)
theorem ctX0_total (l : Launch) {σ : sn_S} {q0 : Nat} (h0 : sn_isX0 q0) {o : Int32} (hf : fX0_total σ q0 = some o) : sn_M l yX0_total cX0_total 3 (some .int) rmX0_total layC (fun ad => [.ref (ad q0)]) σ (some (fun _ => .int o)) σ :=
  sn_met (by decide) (fun _ => Nat.le_of_ble_eq_true rfl) (fun p e s m args below meth c ls D ct ad A C hw hl => wX0_total_in C h0 hf (fun H locs ls pc hw ok hd => sn_iret C hw hd) _ _ _ hw hl)
-- X2_ofPolicy
abbrev rmX2_ofPolicy : Room := { frames := 0, cells := 0, slots := 0, locals := 0 }
def fX2_ofPolicy (σ : sn_S) (q0 : Nat) (x1 : Int32) (x2 : Int32) : Option Int32 :=
  (sn_gd (sn_in (((5 : Int32) * x1) + x2) 30) (some (sn_I σ (q0 + 5) (((5 : Int32) * x1) + x2).toNatClampNeg)))
theorem wX2_ofPolicy_in (C : sn_C p s m args meth c RX2 cX2_ofPolicy 3 (some .int) D ct ad layC A) {σ : sn_S} {q0 : Nat} {x1 : Int32} {x2 : Int32} (h0 : sn_isX2 q0) {o : Int32} (hf : fX2_ofPolicy σ q0 x1 x2 = some o) (kr : sn_Kr p l e rmX2_ofPolicy s m args below meth c Q D ct ad layC A cX2_ofPolicy .ireturn (true) σ [.int o]) : sn_At p l e rmX2_ofPolicy s m args below meth c Q D ct ad layC A 3 σ 0 [(0, .ref (ad q0)), (1, .int x1), (2, .int x2)] [] := by
  intro H locs ls hw hl
  have hx := C.1
  have hb := C.2.1
  unfold fX2_ofPolicy at hf
  refine lv_aload_n hx hb dX2_ofPolicy_0 rfl (lv_at hl 0 rfl) ?_
  refine sn_getC (r := (q0 + 5)) C hw fd_RX2_24 (sn_look h0 (k := 0) rfl) rfl dX2_ofPolicy_1 ?_
  refine lv_iconst (v := 5) hx hb dX2_ofPolicy_4 rfl ?_
  refine lv_iload_n hx hb dX2_ofPolicy_5 rfl (lv_at hl 1 rfl) ?_
  refine lv_imul hx hb dX2_ofPolicy_6 ?_
  refine lv_iload_n hx hb dX2_ofPolicy_7 rfl (lv_at hl 2 rfl) ?_
  refine lv_iadd hx hb dX2_ofPolicy_8 ?_
  obtain ⟨g_1, hf⟩ := sn_gdE hf
  refine sn_iald C hw (sn_look h0 (k := 5) rfl) g_1 dX2_ofPolicy_9 ?_
  cases hf
  exact kr _ _ _ _ hw rfl dX2_ofPolicy_10
theorem ctX2_ofPolicy (l : Launch) {σ : sn_S} {q0 : Nat} {x1 : Int32} {x2 : Int32} (h0 : sn_isX2 q0) {o : Int32} (hf : fX2_ofPolicy σ q0 x1 x2 = some o) : sn_M l yX2_ofPolicy cX2_ofPolicy 3 (some .int) rmX2_ofPolicy layC (fun ad => [.ref (ad q0), .int x1, .int x2]) σ (some (fun _ => .int o)) σ :=
  sn_met (by decide) (fun _ => Nat.le_of_ble_eq_true rfl) (fun p e s m args below meth c ls D ct ad A C hw hl => wX2_ofPolicy_in C h0 hf (fun H locs ls pc hw ok hd => sn_iret C hw hd) _ _ _ hw hl)
-- J7_fill_d0a16
abbrev rmJ7_fill_d0a16 : Room := { frames := 0, cells := 0, slots := 0, locals := 0 }
def BJ7_fill_d0a16_22 (σ : sn_S) (q0 : Nat) (n0 : Nat) : Option (sn_S) :=
  (some σ)
def BJ7_fill_d0a16_6 (σ : sn_S) (q0 : Nat) (n0 : Nat) (x1 : Int64) (x3 : Int32) (x4 : Int32) : Option ((sn_S × Int32) ⊕ (sn_S)) :=
  (if x4 ≤ x3 then
  (some (.inr (σ)))
  else
  (sn_gd (sn_in x3 n0) (sn_lt (sn_pL σ q0 x3.toNatClampNeg x1) fun σ_3 => (sn_lt (x3 + 1) fun y_5 => (some (.inl (σ_3, y_5)))))))
def LJ7_fill_d0a16_6 (q0 : Nat) (n0 : Nat) (x1 : Int64) (x4 : Int32) (s : sn_S × Int32) : Option ((sn_S × Int32) ⊕ (sn_S)) := BJ7_fill_d0a16_6 s.1 q0 n0 x1 s.2 x4
def fJ7_fill_d0a16 (σ : sn_S) (q0 : Nat) (n0 : Nat) (x1 : Int64) : Option sn_S :=
  (sn_lt (Int32.ofNat n0) fun y_1 => ((sn_it (LJ7_fill_d0a16_6 q0 n0 x1 y_1) 5000 (σ, (0 : Int32))).bind fun t_3 => (BJ7_fill_d0a16_22 t_3 q0 n0)))
theorem wJ7_fill_d0a16_22 (C : sn_C p s m args meth c RJ7 cJ7_fill_d0a16 5 none D ct ad lay A) {σ : sn_S} {q0 : Nat} {n0 : Nat} (h0 : lay[q0]? = some (.inl (3, n0, 1, []))) {o : sn_S} (hf : BJ7_fill_d0a16_22 σ q0 n0 = some o) (kr : sn_Kr p l e rmJ7_fill_d0a16 s m args below meth c Q D ct ad lay A cJ7_fill_d0a16 .return_ (true) o []) : sn_At p l e rmJ7_fill_d0a16 s m args below meth c Q D ct ad lay A 5 σ 22 [] [] := by
  intro H locs ls hw hl
  have hx := C.1
  have hb := C.2.1
  unfold BJ7_fill_d0a16_22 at hf
  cases hf
  exact kr _ _ _ _ hw rfl dJ7_fill_d0a16_22
theorem wJ7_fill_d0a16_6 (C : sn_C p s m args meth c RJ7 cJ7_fill_d0a16 5 none D ct ad lay A) {σ : sn_S} {q0 : Nat} {n0 : Nat} {x1 : Int64} {x3 : Int32} {x4 : Int32} (h0 : lay[q0]? = some (.inl (3, n0, 1, []))) {o : (sn_S × Int32) ⊕ (sn_S)} (hf : BJ7_fill_d0a16_6 σ q0 n0 x1 x3 x4 = some o) (kc : ∀ v, o = .inl v → sn_At p l e rmJ7_fill_d0a16 s m args below meth c Q D ct ad lay A 5 v.1 6 [(0, .ref (ad q0)), (1, .long x1), (3, .int v.2), (4, .int x4)] []) (kx : ∀ v, o = .inr v → sn_At p l e rmJ7_fill_d0a16 s m args below meth c Q D ct ad lay A 5 v 22 [] []) : sn_At p l e rmJ7_fill_d0a16 s m args below meth c Q D ct ad lay A 5 σ 6 [(0, .ref (ad q0)), (1, .long x1), (3, .int x3), (4, .int x4)] [] := by
  intro H locs ls hw hl
  have hx := C.1
  have hb := C.2.1
  unfold BJ7_fill_d0a16_6 at hf
  refine lv_iload_n hx hb dJ7_fill_d0a16_6 rfl (lv_at hl 2 rfl) ?_
  refine lv_iload hx hb dJ7_fill_d0a16_7 (lv_at hl 3 rfl) ?_
  refine lv_icmp_ge (tgt := 22) hx hb dJ7_fill_d0a16_9 (by decide) (fun c_1 => ?_) (fun c_1 => ?_)
  · have hf := sn_if c_1 hf
    cases hf
    exact kx _ rfl _ _ _ hw (lv_sub hl [] rfl)
  · have hf := sn_el c_1 hf
    refine lv_aload_n hx hb dJ7_fill_d0a16_12 rfl (lv_at hl 0 rfl) ?_
    refine lv_iload_n hx hb dJ7_fill_d0a16_13 rfl (lv_at hl 2 rfl) ?_
    refine lv_lload_n hx hb dJ7_fill_d0a16_14 rfl (lv_at hl 1 rfl) ?_
    obtain ⟨g_2, hf⟩ := sn_gdE hf
    refine sn_last C hw h0 g_2 dJ7_fill_d0a16_15 (fun H locs hw => ?_)
    obtain ⟨σ_3, e_4, hf⟩ := sn_ltE hf
    rw [← e_4] at hw
    obtain ⟨y_5, e_6, hf⟩ := sn_ltE hf
    refine lv_iinc (v := y_5) (lv' := [(3, .int y_5), (0, .ref (ad q0)), (1, .long x1), (4, .int x4)]) hx hb dJ7_fill_d0a16_16 hl (k := 2) rfl (by rw [e_6]; rfl) (by decide) rfl (fun ls hl => ?_)
    refine lv_goto (tgt := 6) hx hb dJ7_fill_d0a16_19 (by decide) ?_
    cases hf
    exact kc _ rfl _ _ _ hw (lv_sub hl [1, 2, 0, 3] rfl)
theorem wJ7_fill_d0a16_L6 (C : sn_C p s m args meth c RJ7 cJ7_fill_d0a16 5 none D ct ad lay A) {q0 : Nat} {n0 : Nat} {x1 : Int64} {x4 : Int32}  (h0 : lay[q0]? = some (.inl (3, n0, 1, []))) {z : sn_S × Int32} {t : sn_S} (h : sn_it (LJ7_fill_d0a16_6 q0 n0 x1 x4) 5000 z = some t) (kx : ∀ v, t = v → sn_At p l e rmJ7_fill_d0a16 s m args below meth c Q D ct ad lay A 5 v 22 [] []) : sn_At p l e rmJ7_fill_d0a16 s m args below meth c Q D ct ad lay A 5 z.1 6 [(0, .ref (ad q0)), (1, .long x1), (3, .int z.2), (4, .int x4)] [] :=
  sn_loop (f := LJ7_fill_d0a16_6 q0 n0 x1 x4) (G := fun z => sn_At p l e rmJ7_fill_d0a16 s m args below meth c Q D ct ad lay A 5 z.1 6 [(0, .ref (ad q0)), (1, .long x1), (3, .int z.2), (4, .int x4)] []) (E := fun t => (∀ v, t = v → sn_At p l e rmJ7_fill_d0a16 s m args below meth c Q D ct ad lay A 5 v 22 [] []) ∧ True) (fun z o hf k1 k2 => wJ7_fill_d0a16_6 C h0 hf (fun v e => k1 v e) (fun v e => (k2 _ e).1 v rfl)) 5000 z t h ⟨kx, trivial⟩
theorem wJ7_fill_d0a16_in (C : sn_C p s m args meth c RJ7 cJ7_fill_d0a16 5 none D ct ad lay A) {σ : sn_S} {q0 : Nat} {n0 : Nat} {x1 : Int64} (h0 : lay[q0]? = some (.inl (3, n0, 1, []))) {o : sn_S} (hf : fJ7_fill_d0a16 σ q0 n0 x1 = some o) (kr : sn_Kr p l e rmJ7_fill_d0a16 s m args below meth c Q D ct ad lay A cJ7_fill_d0a16 .return_ (true) o []) : sn_At p l e rmJ7_fill_d0a16 s m args below meth c Q D ct ad lay A 5 σ 0 [(0, .ref (ad q0)), (1, .long x1)] [] := by
  intro H locs ls hw hl
  have hx := C.1
  have hb := C.2.1
  unfold fJ7_fill_d0a16 at hf
  refine lv_iconst (v := 0) hx hb dJ7_fill_d0a16_0 rfl ?_
  refine lv_istore_n (lv' := [(3, .int (0 : Int32)), (0, .ref (ad q0)), (1, .long x1)]) hx hb dJ7_fill_d0a16_1 rfl hl (by decide) rfl (fun ls hl => ?_)
  refine lv_aload_n hx hb dJ7_fill_d0a16_2 rfl (lv_at hl 1 rfl) ?_
  refine sn_alen C hw h0 rfl rfl dJ7_fill_d0a16_3 ?_
  obtain ⟨y_1, e_2, hf⟩ := sn_ltE hf
  refine lv_topi (fun y_1_ e_2_ => ?_)
  obtain rfl : y_1 = y_1_ := e_2.trans e_2_.symm
  refine lv_istore (lv' := [(4, .int y_1), (3, .int (0 : Int32)), (0, .ref (ad q0)), (1, .long x1)]) hx hb dJ7_fill_d0a16_4 hl (by decide) rfl (fun ls hl => ?_)
  obtain ⟨t_3, h_4, hf⟩ := sn_bd hf
  exact wJ7_fill_d0a16_L6 C h0 h_4 (fun v e => by cases e; exact wJ7_fill_d0a16_22 C h0 hf kr) _ _ _ hw (lv_sub hl [2, 3, 1, 0] rfl)
theorem ctJ7_fill_d0a16 (l : Launch) {σ : sn_S} {q0 : Nat} {n0 : Nat} {x1 : Int64} (h0 : lay[q0]? = some (.inl (3, n0, 1, []))) {o : sn_S} (hf : fJ7_fill_d0a16 σ q0 n0 x1 = some o) : sn_M l yJ7_fill_d0a16 cJ7_fill_d0a16 5 none rmJ7_fill_d0a16 lay (fun ad => [.ref (ad q0), .long x1]) σ none o :=
  sn_met (by decide) (fun _ => Nat.le_of_ble_eq_true rfl) (fun p e s m args below meth c ls D ct ad A C hw hl => wJ7_fill_d0a16_in C h0 hf (fun H locs ls pc hw ok hd => sn_vret C hw hd) _ _ _ hw hl)
-- X1_goOn
abbrev rmX1_goOn : Room := { frames := 2, cells := 0, slots := 0, locals := 45 }
def BX1_goOn_93 (σ : sn_S) (q1 : Nat) (x6 : Int64) : Option (sn_S) :=
  (sn_lt (if x6 < (sn_L σ 52 1) then x6 else (sn_L σ 52 1)) fun y_1 => (sn_lt (sn_pL σ 52 1 y_1) fun σ_3 => (some σ_3)))
def BX1_goOn_87 (σ : sn_S) (q1 : Nat) (x2 : Int32) (x4 : Int32) (x5 : Int32) (x6 : Int64) (x8 : Int32) (x9 : Int32) : Option ((sn_S × Int64 × Int32 × Int32) ⊕ (sn_S × Int64)) :=
  (sn_lt (x9 + 1) fun y_1 => (some (.inl (σ, x6, x8, y_1))))
def BX1_goOn_74 (σ : sn_S) (q1 : Nat) (x2 : Int32) (x4 : Int32) (x5 : Int32) (x6 : Int64) (x8 : Int32) (x9 : Int32) : Option ((sn_S × Int64 × Int32 × Int32) ⊕ (sn_S × Int64)) :=
  (sn_lt (x6 + ((1073741824 : Int64) + ((1 : Int64) <<< (x9.toInt64 &&& 63)))) fun y_1 => (BX1_goOn_87 σ q1 x2 x4 x5 y_1 x8 x9))
def BX1_goOn_14 (σ : sn_S) (q1 : Nat) (x2 : Int32) (x4 : Int32) (x5 : Int32) (x6 : Int64) (x8 : Int32) (x9 : Int32) : Option ((sn_S × Int64 × Int32 × Int32) ⊕ (sn_S × Int64)) :=
  (if x5 < x9 then
  (some (.inr (σ, x6)))
  else
  ((fX0_comesTo σ q1 x2 x9).bind fun t_2 => (sn_lt (x8 + t_2) fun y_4 => (sn_gd (sn_in x2 6) (if y_4 < (sn_I σ (q1 + 3) x2.toNatClampNeg) then
  (BX1_goOn_87 σ q1 x2 x4 x5 x6 y_4 x9)
  else
  (if x4 ≤ x9 then
  (BX1_goOn_74 σ q1 x2 x4 x5 x6 y_4 x9)
  else
  (sn_gd (sn_in (x9 + (1 : Int32)) 31) (sn_lt (if x6 < (sn_L σ 53 (x9 + (1 : Int32)).toNatClampNeg) then x6 else (sn_L σ 53 (x9 + (1 : Int32)).toNatClampNeg)) fun y_10 => (sn_gd (sn_in (x9 + (1 : Int32)) 31) (sn_lt (sn_pL σ 53 (x9 + (1 : Int32)).toNatClampNeg y_10) fun σ_13 => (BX1_goOn_74 σ_13 q1 x2 x4 x5 x6 y_4 x9)))))))))))
def LX1_goOn_14 (q1 : Nat) (x2 : Int32) (x4 : Int32) (x5 : Int32) (s : sn_S × Int64 × Int32 × Int32) : Option ((sn_S × Int64 × Int32 × Int32) ⊕ (sn_S × Int64)) := BX1_goOn_14 s.1 q1 x2 x4 x5 s.2.1 s.2.2.1 s.2.2.2
def fX1_goOn (σ : sn_S) (q1 : Nat) (x2 : Int32) (x3 : Int32) (x4 : Int32) (x5 : Int32) : Option sn_S :=
  (sn_gd (sn_in x3 31) (sn_lt (sn_L σ 53 x3.toNatClampNeg) fun y_2 => ((sn_it (LX1_goOn_14 q1 x2 x4 x5) 5000 (σ, y_2, (0 : Int32), x3)).bind fun t_4 => (BX1_goOn_93 t_4.1 q1 t_4.2))))
theorem wX1_goOn_93 (C : sn_C p s m args meth c RX1 cX1_goOn 10 none D ct ad layC A) {σ : sn_S} {q1 : Nat} {x6 : Int64} (h1 : sn_isX0 q1) {o : sn_S} (hf : BX1_goOn_93 σ q1 x6 = some o) (kr : sn_Kr p l e rmX1_goOn s m args below meth c Q D ct ad layC A cX1_goOn .return_ (true) o []) : sn_At p l e rmX1_goOn s m args below meth c Q D ct ad layC A 10 σ 93 [(0, .ref (ad 52)), (6, .long x6)] [] := by
  intro H locs ls hw hl
  have hx := C.1
  have hb := C.2.1
  unfold BX1_goOn_93 at hf
  refine lv_aload_n hx hb dX1_goOn_93 rfl (lv_at hl 0 rfl) ?_
  refine lv_aload_n hx hb dX1_goOn_94 rfl (lv_at hl 0 rfl) ?_
  refine sn_getL C hw fd_RX1_32 layC_52 rfl dX1_goOn_95 ?_
  refine lv_lload hx hb dX1_goOn_98 (lv_at hl 1 rfl) ?_
  refine va_mmin_long hx hb (C.2.2.1.trans hl.1.symm) C.2.2.2.1 (C.2.2.2.2.1 _ km_RX1_55) (C.2.2.2.2.1 _ kst_minL) (C.2.2.2.2.1 _ ki_Math) (C.2.2.2.2.1 _ kc_minL) (Nat.le_of_ble_eq_true rfl) (Nat.le_of_ble_eq_true rfl) (Nat.zero_le _) (Nat.zero_le _) dX1_goOn_100 ?_
  obtain ⟨y_1, e_2, hf⟩ := sn_ltE hf
  refine lv_topl (fun y_1_ e_2_ => ?_)
  obtain rfl : y_1 = y_1_ := e_2.trans e_2_.symm
  refine sn_putL C hw fp_RX1_32 layC_52 rfl dX1_goOn_103 (fun H locs hw => ?_)
  obtain ⟨σ_3, e_4, hf⟩ := sn_ltE hf
  rw [← e_4] at hw
  cases hf
  exact kr _ _ _ _ hw rfl dX1_goOn_106
theorem wX1_goOn_87 (C : sn_C p s m args meth c RX1 cX1_goOn 10 none D ct ad layC A) {σ : sn_S} {q1 : Nat} {x2 : Int32} {x4 : Int32} {x5 : Int32} {x6 : Int64} {x8 : Int32} {x9 : Int32} (h1 : sn_isX0 q1) {o : (sn_S × Int64 × Int32 × Int32) ⊕ (sn_S × Int64)} (hf : BX1_goOn_87 σ q1 x2 x4 x5 x6 x8 x9 = some o) (kc : ∀ v, o = .inl v → sn_At p l e rmX1_goOn s m args below meth c Q D ct ad layC A 10 v.1 14 [(0, .ref (ad 52)), (1, .ref (ad q1)), (2, .int x2), (4, .int x4), (5, .int x5), (6, .long v.2.1), (8, .int v.2.2.1), (9, .int v.2.2.2)] []) (kx : ∀ v, o = .inr v → sn_At p l e rmX1_goOn s m args below meth c Q D ct ad layC A 10 v.1 93 [(0, .ref (ad 52)), (6, .long v.2)] []) : sn_At p l e rmX1_goOn s m args below meth c Q D ct ad layC A 10 σ 87 [(0, .ref (ad 52)), (1, .ref (ad q1)), (2, .int x2), (4, .int x4), (5, .int x5), (6, .long x6), (8, .int x8), (9, .int x9)] [] := by
  intro H locs ls hw hl
  have hx := C.1
  have hb := C.2.1
  unfold BX1_goOn_87 at hf
  obtain ⟨y_1, e_2, hf⟩ := sn_ltE hf
  refine lv_iinc (v := y_1) (lv' := [(9, .int y_1), (0, .ref (ad 52)), (1, .ref (ad q1)), (2, .int x2), (4, .int x4), (5, .int x5), (6, .long x6), (8, .int x8)]) hx hb dX1_goOn_87 hl (k := 7) rfl (by rw [e_2]; rfl) (by decide) rfl (fun ls hl => ?_)
  refine lv_goto (tgt := 14) hx hb dX1_goOn_90 (by decide) ?_
  cases hf
  exact kc _ rfl _ _ _ hw (lv_sub hl [1, 2, 3, 4, 5, 6, 7, 0] rfl)
theorem wX1_goOn_74 (C : sn_C p s m args meth c RX1 cX1_goOn 10 none D ct ad layC A) {σ : sn_S} {q1 : Nat} {x2 : Int32} {x4 : Int32} {x5 : Int32} {x6 : Int64} {x8 : Int32} {x9 : Int32} (h1 : sn_isX0 q1) {o : (sn_S × Int64 × Int32 × Int32) ⊕ (sn_S × Int64)} (hf : BX1_goOn_74 σ q1 x2 x4 x5 x6 x8 x9 = some o) (kc : ∀ v, o = .inl v → sn_At p l e rmX1_goOn s m args below meth c Q D ct ad layC A 10 v.1 14 [(0, .ref (ad 52)), (1, .ref (ad q1)), (2, .int x2), (4, .int x4), (5, .int x5), (6, .long v.2.1), (8, .int v.2.2.1), (9, .int v.2.2.2)] []) (kx : ∀ v, o = .inr v → sn_At p l e rmX1_goOn s m args below meth c Q D ct ad layC A 10 v.1 93 [(0, .ref (ad 52)), (6, .long v.2)] []) : sn_At p l e rmX1_goOn s m args below meth c Q D ct ad layC A 10 σ 74 [(0, .ref (ad 52)), (1, .ref (ad q1)), (2, .int x2), (4, .int x4), (5, .int x5), (6, .long x6), (8, .int x8), (9, .int x9)] [] := by
  intro H locs ls hw hl
  have hx := C.1
  have hb := C.2.1
  unfold BX1_goOn_74 at hf
  refine lv_lload hx hb dX1_goOn_74 (lv_at hl 5 rfl) ?_
  refine lv_ldc2 hx hb C.2.2.2.1 (C.2.2.2.2.1 _ kk_RX1_58) dX1_goOn_76 ?_
  refine lv_lconst (v := 1) hx hb dX1_goOn_79 rfl ?_
  refine lv_iload hx hb dX1_goOn_80 (lv_at hl 7 rfl) ?_
  refine lv_lshl hx hb dX1_goOn_82 rfl ?_
  refine lv_ladd hx hb dX1_goOn_83 ?_
  refine lv_ladd hx hb dX1_goOn_84 ?_
  obtain ⟨y_1, e_2, hf⟩ := sn_ltE hf
  refine lv_topl (fun y_1_ e_2_ => ?_)
  obtain rfl : y_1 = y_1_ := e_2.trans e_2_.symm
  refine lv_lstore (lv' := [(6, .long y_1), (0, .ref (ad 52)), (1, .ref (ad q1)), (2, .int x2), (4, .int x4), (5, .int x5), (8, .int x8), (9, .int x9)]) hx hb dX1_goOn_85 hl (by decide) rfl (fun ls hl => ?_)
  exact wX1_goOn_87 C h1 hf kc kx _ _ _ hw (lv_sub hl [1, 2, 3, 4, 5, 0, 6, 7] rfl)
theorem wX1_goOn_14 (C : sn_C p s m args meth c RX1 cX1_goOn 10 none D ct ad layC A) {σ : sn_S} {q1 : Nat} {x2 : Int32} {x4 : Int32} {x5 : Int32} {x6 : Int64} {x8 : Int32} {x9 : Int32} (h1 : sn_isX0 q1) {o : (sn_S × Int64 × Int32 × Int32) ⊕ (sn_S × Int64)} (hf : BX1_goOn_14 σ q1 x2 x4 x5 x6 x8 x9 = some o) (kc : ∀ v, o = .inl v → sn_At p l e rmX1_goOn s m args below meth c Q D ct ad layC A 10 v.1 14 [(0, .ref (ad 52)), (1, .ref (ad q1)), (2, .int x2), (4, .int x4), (5, .int x5), (6, .long v.2.1), (8, .int v.2.2.1), (9, .int v.2.2.2)] []) (kx : ∀ v, o = .inr v → sn_At p l e rmX1_goOn s m args below meth c Q D ct ad layC A 10 v.1 93 [(0, .ref (ad 52)), (6, .long v.2)] []) : sn_At p l e rmX1_goOn s m args below meth c Q D ct ad layC A 10 σ 14 [(0, .ref (ad 52)), (1, .ref (ad q1)), (2, .int x2), (4, .int x4), (5, .int x5), (6, .long x6), (8, .int x8), (9, .int x9)] [] := by
  intro H locs ls hw hl
  have hx := C.1
  have hb := C.2.1
  unfold BX1_goOn_14 at hf
  refine lv_iload hx hb dX1_goOn_14 (lv_at hl 7 rfl) ?_
  refine lv_iload hx hb dX1_goOn_16 (lv_at hl 4 rfl) ?_
  refine lv_icmp_gt (tgt := 93) hx hb dX1_goOn_18 (by decide) (fun c_1 => ?_) (fun c_1 => ?_)
  · have hf := sn_if c_1 hf
    cases hf
    exact kx _ rfl _ _ _ hw (lv_sub hl [0, 5] rfl)
  · have hf := sn_el c_1 hf
    refine lv_iload hx hb dX1_goOn_21 (lv_at hl 6 rfl) ?_
    refine lv_aload_n hx hb dX1_goOn_23 rfl (lv_at hl 1 rfl) ?_
    refine lv_iload_n hx hb dX1_goOn_24 rfl (lv_at hl 2 rfl) ?_
    refine lv_iload hx hb dX1_goOn_25 (lv_at hl 7 rfl) ?_
    obtain ⟨t_2, h_3, hf⟩ := sn_bd hf
    refine sn_callVi (rest := [.int x8]) C hw (ctX0_comesTo l h1 h_3) kl_RX1_48 (sn_look h1 (k := 0) rfl) rfl rfl rfl rfl (Nat.le_of_ble_eq_true rfl) dX1_goOn_27 hl.1 (fun H locs hw => ?_)
    refine lv_iadd hx hb dX1_goOn_30 ?_
    obtain ⟨y_4, e_5, hf⟩ := sn_ltE hf
    refine lv_topi (fun y_4_ e_5_ => ?_)
    obtain rfl : y_4 = y_4_ := e_5.trans e_5_.symm
    refine lv_istore (lv' := [(8, .int y_4), (0, .ref (ad 52)), (1, .ref (ad q1)), (2, .int x2), (4, .int x4), (5, .int x5), (6, .long x6), (9, .int x9)]) hx hb dX1_goOn_31 hl (by decide) rfl (fun ls hl => ?_)
    refine lv_iload hx hb dX1_goOn_33 (lv_at hl 0 rfl) ?_
    refine lv_aload_n hx hb dX1_goOn_35 rfl (lv_at hl 2 rfl) ?_
    refine sn_getC (r := (q1 + 3)) C hw fd_RX1_51 (sn_look h1 (k := 0) rfl) rfl dX1_goOn_36 ?_
    refine lv_iload_n hx hb dX1_goOn_39 rfl (lv_at hl 3 rfl) ?_
    obtain ⟨g_6, hf⟩ := sn_gdE hf
    refine sn_iald C hw (sn_look h1 (k := 3) rfl) g_6 dX1_goOn_40 ?_
    refine lv_icmp_lt (tgt := 87) hx hb dX1_goOn_41 (by decide) (fun c_7 => ?_) (fun c_7 => ?_)
    · have hf := sn_if c_7 hf
      exact wX1_goOn_87 C h1 hf kc kx _ _ _ hw (lv_sub hl [1, 2, 3, 4, 5, 6, 0, 7] rfl)
    · have hf := sn_el c_7 hf
      refine lv_iload hx hb dX1_goOn_44 (lv_at hl 7 rfl) ?_
      refine lv_iload hx hb dX1_goOn_46 (lv_at hl 4 rfl) ?_
      refine lv_icmp_ge (tgt := 74) hx hb dX1_goOn_48 (by decide) (fun c_8 => ?_) (fun c_8 => ?_)
      · have hf := sn_if c_8 hf
        exact wX1_goOn_74 C h1 hf kc kx _ _ _ hw (lv_sub hl [1, 2, 3, 4, 5, 6, 0, 7] rfl)
      · have hf := sn_el c_8 hf
        refine lv_aload_n hx hb dX1_goOn_51 rfl (lv_at hl 1 rfl) ?_
        refine sn_getC (r := 53) C hw fd_RX1_9 layC_52 rfl dX1_goOn_52 ?_
        refine lv_iload hx hb dX1_goOn_55 (lv_at hl 7 rfl) ?_
        refine lv_iconst (v := 1) hx hb dX1_goOn_57 rfl ?_
        refine lv_iadd hx hb dX1_goOn_58 ?_
        refine lv_aload_n hx hb dX1_goOn_59 rfl (lv_at hl 1 rfl) ?_
        refine sn_getC (r := 53) C hw fd_RX1_9 layC_52 rfl dX1_goOn_60 ?_
        refine lv_iload hx hb dX1_goOn_63 (lv_at hl 7 rfl) ?_
        refine lv_iconst (v := 1) hx hb dX1_goOn_65 rfl ?_
        refine lv_iadd hx hb dX1_goOn_66 ?_
        obtain ⟨g_9, hf⟩ := sn_gdE hf
        refine sn_lald C hw layC_53 g_9 dX1_goOn_67 ?_
        refine lv_lload hx hb dX1_goOn_68 (lv_at hl 6 rfl) ?_
        refine va_mmin_long hx hb (C.2.2.1.trans hl.1.symm) C.2.2.2.1 (C.2.2.2.2.1 _ km_RX1_55) (C.2.2.2.2.1 _ kst_minL) (C.2.2.2.2.1 _ ki_Math) (C.2.2.2.2.1 _ kc_minL) (Nat.le_of_ble_eq_true rfl) (Nat.le_of_ble_eq_true rfl) (Nat.zero_le _) (Nat.zero_le _) dX1_goOn_70 ?_
        obtain ⟨y_10, e_11, hf⟩ := sn_ltE hf
        refine lv_topl (fun y_10_ e_11_ => ?_)
        obtain rfl : y_10 = y_10_ := e_11.trans e_11_.symm
        obtain ⟨g_12, hf⟩ := sn_gdE hf
        refine sn_last C hw layC_53 g_12 dX1_goOn_73 (fun H locs hw => ?_)
        obtain ⟨σ_13, e_14, hf⟩ := sn_ltE hf
        rw [← e_14] at hw
        exact wX1_goOn_74 C h1 hf kc kx _ _ _ hw (lv_sub hl [1, 2, 3, 4, 5, 6, 0, 7] rfl)
theorem wX1_goOn_L14 (C : sn_C p s m args meth c RX1 cX1_goOn 10 none D ct ad layC A) {q1 : Nat} {x2 : Int32} {x4 : Int32} {x5 : Int32}  (h1 : sn_isX0 q1) {z : sn_S × Int64 × Int32 × Int32} {t : sn_S × Int64} (h : sn_it (LX1_goOn_14 q1 x2 x4 x5) 5000 z = some t) (kx : ∀ v, t = v → sn_At p l e rmX1_goOn s m args below meth c Q D ct ad layC A 10 v.1 93 [(0, .ref (ad 52)), (6, .long v.2)] []) : sn_At p l e rmX1_goOn s m args below meth c Q D ct ad layC A 10 z.1 14 [(0, .ref (ad 52)), (1, .ref (ad q1)), (2, .int x2), (4, .int x4), (5, .int x5), (6, .long z.2.1), (8, .int z.2.2.1), (9, .int z.2.2.2)] [] :=
  sn_loop (f := LX1_goOn_14 q1 x2 x4 x5) (G := fun z => sn_At p l e rmX1_goOn s m args below meth c Q D ct ad layC A 10 z.1 14 [(0, .ref (ad 52)), (1, .ref (ad q1)), (2, .int x2), (4, .int x4), (5, .int x5), (6, .long z.2.1), (8, .int z.2.2.1), (9, .int z.2.2.2)] []) (E := fun t => (∀ v, t = v → sn_At p l e rmX1_goOn s m args below meth c Q D ct ad layC A 10 v.1 93 [(0, .ref (ad 52)), (6, .long v.2)] []) ∧ True) (fun z o hf k1 k2 => wX1_goOn_14 C h1 hf (fun v e => k1 v e) (fun v e => (k2 _ e).1 v rfl)) 5000 z t h ⟨kx, trivial⟩
theorem wX1_goOn_in (C : sn_C p s m args meth c RX1 cX1_goOn 10 none D ct ad layC A) {σ : sn_S} {q1 : Nat} {x2 : Int32} {x3 : Int32} {x4 : Int32} {x5 : Int32} (h1 : sn_isX0 q1) {o : sn_S} (hf : fX1_goOn σ q1 x2 x3 x4 x5 = some o) (kr : sn_Kr p l e rmX1_goOn s m args below meth c Q D ct ad layC A cX1_goOn .return_ (true) o []) : sn_At p l e rmX1_goOn s m args below meth c Q D ct ad layC A 10 σ 0 [(0, .ref (ad 52)), (1, .ref (ad q1)), (2, .int x2), (3, .int x3), (4, .int x4), (5, .int x5)] [] := by
  intro H locs ls hw hl
  have hx := C.1
  have hb := C.2.1
  unfold fX1_goOn at hf
  refine lv_aload_n hx hb dX1_goOn_0 rfl (lv_at hl 0 rfl) ?_
  refine sn_getC (r := 53) C hw fd_RX1_9 layC_52 rfl dX1_goOn_1 ?_
  refine lv_iload_n hx hb dX1_goOn_4 rfl (lv_at hl 3 rfl) ?_
  obtain ⟨g_1, hf⟩ := sn_gdE hf
  refine sn_lald C hw layC_53 g_1 dX1_goOn_5 ?_
  obtain ⟨y_2, e_3, hf⟩ := sn_ltE hf
  refine lv_topl (fun y_2_ e_3_ => ?_)
  obtain rfl : y_2 = y_2_ := e_3.trans e_3_.symm
  refine lv_lstore (lv' := [(6, .long y_2), (0, .ref (ad 52)), (1, .ref (ad q1)), (2, .int x2), (3, .int x3), (4, .int x4), (5, .int x5)]) hx hb dX1_goOn_6 hl (by decide) rfl (fun ls hl => ?_)
  refine lv_iconst (v := 0) hx hb dX1_goOn_8 rfl ?_
  refine lv_istore (lv' := [(8, .int (0 : Int32)), (6, .long y_2), (0, .ref (ad 52)), (1, .ref (ad q1)), (2, .int x2), (3, .int x3), (4, .int x4), (5, .int x5)]) hx hb dX1_goOn_9 hl (by decide) rfl (fun ls hl => ?_)
  refine lv_iload_n hx hb dX1_goOn_11 rfl (lv_at hl 5 rfl) ?_
  refine lv_istore (lv' := [(9, .int x3), (8, .int (0 : Int32)), (6, .long y_2), (0, .ref (ad 52)), (1, .ref (ad q1)), (2, .int x2), (3, .int x3), (4, .int x4), (5, .int x5)]) hx hb dX1_goOn_12 hl (by decide) rfl (fun ls hl => ?_)
  obtain ⟨t_4, h_5, hf⟩ := sn_bd hf
  exact wX1_goOn_L14 C h1 h_5 (fun v e => by cases e; exact wX1_goOn_93 C h1 hf kr) _ _ _ hw (lv_sub hl [3, 4, 5, 7, 8, 2, 1, 0] rfl)
theorem ctX1_goOn (l : Launch) {σ : sn_S} {q1 : Nat} {x2 : Int32} {x3 : Int32} {x4 : Int32} {x5 : Int32} (h1 : sn_isX0 q1) {o : sn_S} (hf : fX1_goOn σ q1 x2 x3 x4 x5 = some o) : sn_M l yX1_goOn cX1_goOn 10 none rmX1_goOn layC (fun ad => [.ref (ad 52), .ref (ad q1), .int x2, .int x3, .int x4, .int x5]) σ none o :=
  sn_met (by decide) (fun _ => Nat.le_of_ble_eq_true rfl) (fun p e s m args below meth c ls D ct ad A C hw hl => wX1_goOn_in C h1 hf (fun H locs ls pc hw ok hd => sn_vret C hw hd) _ _ _ hw hl)
-- X1_reckon
abbrev rmX1_reckon : Room := { frames := 3, cells := 0, slots := 0, locals := 74 }
def BX1_reckon_109 (σ : sn_S) (q1 : Nat) (q2 : Nat) : Option (sn_S) :=
  (some σ)
def BX1_reckon_103 (σ : sn_S) (q1 : Nat) (q2 : Nat) (x3 : Int32) (x4 : Int32) (x5 : Int32) (x6 : Int32) : Option ((sn_S × Int32) ⊕ (sn_S)) :=
  (sn_lt (x6 + 1) fun y_1 => (some (.inl (σ, y_1))))
def BX1_reckon_65 (σ : sn_S) (q1 : Nat) (q2 : Nat) (x3 : Int32) (x4 : Int32) (x5 : Int32) (x6 : Int32) : Option ((sn_S × Int32) ⊕ (sn_S)) :=
  (if x4 < x6 then
  (some (.inr (σ)))
  else
  (sn_gd (sn_in x6 31) (if (lg_cmp (sn_L σ 53 x6.toNatClampNeg) (4611686018427387904 : Int64)) = 0 then
  (BX1_reckon_103 σ q1 q2 x3 x4 x5 x6)
  else
  ((fX2_ofPolicy σ q1 x3 (0 : Int32)).bind fun t_4 => ((fX1_goOn σ q2 t_4 x6 x4 x5).bind fun t_6 => (BX1_reckon_103 t_6 q1 q2 x3 x4 x5 x6))))))
def LX1_reckon_65 (q1 : Nat) (q2 : Nat) (x3 : Int32) (x4 : Int32) (x5 : Int32) (s : sn_S × Int32) : Option ((sn_S × Int32) ⊕ (sn_S)) := BX1_reckon_65 s.1 q1 q2 x3 x4 x5 s.2
def fX1_reckon (σ : sn_S) (q1 : Nat) (q2 : Nat) (x3 : Int32) : Option sn_S :=
  ((fX2_ofPolicy σ q1 x3 (1 : Int32)).bind fun t_1 => ((fX2_ofPolicy σ q1 x3 (2 : Int32)).bind fun t_3 => (sn_lt (if ((sn_I σ q2 0) - (1 : Int32)) < t_3 then ((sn_I σ q2 0) - (1 : Int32)) else t_3) fun y_5 => (sn_lt (sn_pL σ 52 1 (0 : Int64)) fun σ_7 => (if t_1 ≤ y_5 then
  (sn_lt (sn_pL σ_7 52 1 (4611686018427387904 : Int64)) fun σ_10 => ((fJ7_fill_d0a16 σ_10 53 31 (4611686018427387904 : Int64)).bind fun t_12 => (sn_gd (sn_in (0 : Int32) 31) (sn_lt (sn_pL t_12 53 (0 : Int32).toNatClampNeg (0 : Int64)) fun σ_15 => ((sn_it (LX1_reckon_65 q1 q2 x3 t_1 y_5) 5000 (σ_15, (0 : Int32))).bind fun t_17 => (BX1_reckon_109 t_17 q1 q2))))))
  else
  (some σ_7))))))
theorem wX1_reckon_109 (C : sn_C p s m args meth c RX1 cX1_reckon 7 none D ct ad layC A) {σ : sn_S} {q1 : Nat} {q2 : Nat} (h1 : sn_isX2 q1) (h2 : sn_isX0 q2) {o : sn_S} (hf : BX1_reckon_109 σ q1 q2 = some o) (kr : sn_Kr p l e rmX1_reckon s m args below meth c Q D ct ad layC A cX1_reckon .return_ (true) o []) : sn_At p l e rmX1_reckon s m args below meth c Q D ct ad layC A 7 σ 109 [] [] := by
  intro H locs ls hw hl
  have hx := C.1
  have hb := C.2.1
  unfold BX1_reckon_109 at hf
  cases hf
  exact kr _ _ _ _ hw rfl dX1_reckon_109
theorem wX1_reckon_103 (C : sn_C p s m args meth c RX1 cX1_reckon 7 none D ct ad layC A) {σ : sn_S} {q1 : Nat} {q2 : Nat} {x3 : Int32} {x4 : Int32} {x5 : Int32} {x6 : Int32} (h1 : sn_isX2 q1) (h2 : sn_isX0 q2) {o : (sn_S × Int32) ⊕ (sn_S)} (hf : BX1_reckon_103 σ q1 q2 x3 x4 x5 x6 = some o) (kc : ∀ v, o = .inl v → sn_At p l e rmX1_reckon s m args below meth c Q D ct ad layC A 7 v.1 65 [(0, .ref (ad 52)), (1, .ref (ad q1)), (2, .ref (ad q2)), (3, .int x3), (4, .int x4), (5, .int x5), (6, .int v.2)] []) (kx : ∀ v, o = .inr v → sn_At p l e rmX1_reckon s m args below meth c Q D ct ad layC A 7 v 109 [] []) : sn_At p l e rmX1_reckon s m args below meth c Q D ct ad layC A 7 σ 103 [(0, .ref (ad 52)), (1, .ref (ad q1)), (2, .ref (ad q2)), (3, .int x3), (4, .int x4), (5, .int x5), (6, .int x6)] [] := by
  intro H locs ls hw hl
  have hx := C.1
  have hb := C.2.1
  unfold BX1_reckon_103 at hf
  obtain ⟨y_1, e_2, hf⟩ := sn_ltE hf
  refine lv_iinc (v := y_1) (lv' := [(6, .int y_1), (0, .ref (ad 52)), (1, .ref (ad q1)), (2, .ref (ad q2)), (3, .int x3), (4, .int x4), (5, .int x5)]) hx hb dX1_reckon_103 hl (k := 6) rfl (by rw [e_2]; rfl) (by decide) rfl (fun ls hl => ?_)
  refine lv_goto (tgt := 65) hx hb dX1_reckon_106 (by decide) ?_
  cases hf
  exact kc _ rfl _ _ _ hw (lv_sub hl [1, 2, 3, 4, 5, 6, 0] rfl)
theorem wX1_reckon_65 (C : sn_C p s m args meth c RX1 cX1_reckon 7 none D ct ad layC A) {σ : sn_S} {q1 : Nat} {q2 : Nat} {x3 : Int32} {x4 : Int32} {x5 : Int32} {x6 : Int32} (h1 : sn_isX2 q1) (h2 : sn_isX0 q2) {o : (sn_S × Int32) ⊕ (sn_S)} (hf : BX1_reckon_65 σ q1 q2 x3 x4 x5 x6 = some o) (kc : ∀ v, o = .inl v → sn_At p l e rmX1_reckon s m args below meth c Q D ct ad layC A 7 v.1 65 [(0, .ref (ad 52)), (1, .ref (ad q1)), (2, .ref (ad q2)), (3, .int x3), (4, .int x4), (5, .int x5), (6, .int v.2)] []) (kx : ∀ v, o = .inr v → sn_At p l e rmX1_reckon s m args below meth c Q D ct ad layC A 7 v 109 [] []) : sn_At p l e rmX1_reckon s m args below meth c Q D ct ad layC A 7 σ 65 [(0, .ref (ad 52)), (1, .ref (ad q1)), (2, .ref (ad q2)), (3, .int x3), (4, .int x4), (5, .int x5), (6, .int x6)] [] := by
  intro H locs ls hw hl
  have hx := C.1
  have hb := C.2.1
  unfold BX1_reckon_65 at hf
  refine lv_iload hx hb dX1_reckon_65 (lv_at hl 6 rfl) ?_
  refine lv_iload hx hb dX1_reckon_67 (lv_at hl 4 rfl) ?_
  refine lv_icmp_gt (tgt := 109) hx hb dX1_reckon_69 (by decide) (fun c_1 => ?_) (fun c_1 => ?_)
  · have hf := sn_if c_1 hf
    cases hf
    exact kx _ rfl _ _ _ hw (lv_sub hl [] rfl)
  · have hf := sn_el c_1 hf
    refine lv_aload_n hx hb dX1_reckon_72 rfl (lv_at hl 0 rfl) ?_
    refine sn_getC (r := 53) C hw fd_RX1_9 layC_52 rfl dX1_reckon_73 ?_
    refine lv_iload hx hb dX1_reckon_76 (lv_at hl 6 rfl) ?_
    obtain ⟨g_2, hf⟩ := sn_gdE hf
    refine sn_lald C hw layC_53 g_2 dX1_reckon_78 ?_
    refine lv_ldc2 hx hb C.2.2.2.1 (C.2.2.2.2.1 _ kk_RX1_36) dX1_reckon_79 ?_
    refine W.lcmp hx hb dX1_reckon_82 ?_
    refine lv_if_eq (tgt := 103) hx hb dX1_reckon_83 (by decide) (fun c_3 => ?_) (fun c_3 => ?_)
    · have hf := sn_if c_3 hf
      exact wX1_reckon_103 C h1 h2 hf kc kx _ _ _ hw (lv_sub hl [0, 1, 2, 3, 4, 5, 6] rfl)
    · have hf := sn_el c_3 hf
      refine lv_aload_n hx hb dX1_reckon_86 rfl (lv_at hl 0 rfl) ?_
      refine lv_aload_n hx hb dX1_reckon_87 rfl (lv_at hl 2 rfl) ?_
      refine lv_aload_n hx hb dX1_reckon_88 rfl (lv_at hl 1 rfl) ?_
      refine lv_iload_n hx hb dX1_reckon_89 rfl (lv_at hl 3 rfl) ?_
      refine lv_iconst (v := 0) hx hb dX1_reckon_90 rfl ?_
      obtain ⟨t_4, h_5, hf⟩ := sn_bd hf
      refine sn_callVi (rest := [.ref (ad q2), .ref (ad 52)]) C hw (ctX2_ofPolicy l h1 h_5) kl_RX1_15 (sn_look h1 (k := 0) rfl) rfl rfl rfl rfl (Nat.le_of_ble_eq_true rfl) dX1_reckon_91 hl.1 (fun H locs hw => ?_)
      refine lv_iload hx hb dX1_reckon_94 (lv_at hl 6 rfl) ?_
      refine lv_iload hx hb dX1_reckon_96 (lv_at hl 4 rfl) ?_
      refine lv_iload hx hb dX1_reckon_98 (lv_at hl 5 rfl) ?_
      obtain ⟨t_6, h_7, hf⟩ := sn_bd hf
      refine sn_callVv (rest := []) C hw (ctX1_goOn l h2 h_7) kl_RX1_44 layC_52 rfl rfl rfl rfl (Nat.le_of_ble_eq_true rfl) dX1_reckon_100 hl.1 (fun H locs hw => ?_)
      exact wX1_reckon_103 C h1 h2 hf kc kx _ _ _ hw (lv_sub hl [0, 1, 2, 3, 4, 5, 6] rfl)
theorem wX1_reckon_L65 (C : sn_C p s m args meth c RX1 cX1_reckon 7 none D ct ad layC A) {q1 : Nat} {q2 : Nat} {x3 : Int32} {x4 : Int32} {x5 : Int32}  (h1 : sn_isX2 q1) (h2 : sn_isX0 q2) {z : sn_S × Int32} {t : sn_S} (h : sn_it (LX1_reckon_65 q1 q2 x3 x4 x5) 5000 z = some t) (kx : ∀ v, t = v → sn_At p l e rmX1_reckon s m args below meth c Q D ct ad layC A 7 v 109 [] []) : sn_At p l e rmX1_reckon s m args below meth c Q D ct ad layC A 7 z.1 65 [(0, .ref (ad 52)), (1, .ref (ad q1)), (2, .ref (ad q2)), (3, .int x3), (4, .int x4), (5, .int x5), (6, .int z.2)] [] :=
  sn_loop (f := LX1_reckon_65 q1 q2 x3 x4 x5) (G := fun z => sn_At p l e rmX1_reckon s m args below meth c Q D ct ad layC A 7 z.1 65 [(0, .ref (ad 52)), (1, .ref (ad q1)), (2, .ref (ad q2)), (3, .int x3), (4, .int x4), (5, .int x5), (6, .int z.2)] []) (E := fun t => (∀ v, t = v → sn_At p l e rmX1_reckon s m args below meth c Q D ct ad layC A 7 v 109 [] []) ∧ True) (fun z o hf k1 k2 => wX1_reckon_65 C h1 h2 hf (fun v e => k1 v e) (fun v e => (k2 _ e).1 v rfl)) 5000 z t h ⟨kx, trivial⟩
theorem wX1_reckon_in (C : sn_C p s m args meth c RX1 cX1_reckon 7 none D ct ad layC A) {σ : sn_S} {q1 : Nat} {q2 : Nat} {x3 : Int32} (h1 : sn_isX2 q1) (h2 : sn_isX0 q2) {o : sn_S} (hf : fX1_reckon σ q1 q2 x3 = some o) (kr : sn_Kr p l e rmX1_reckon s m args below meth c Q D ct ad layC A cX1_reckon .return_ (true) o []) : sn_At p l e rmX1_reckon s m args below meth c Q D ct ad layC A 7 σ 0 [(0, .ref (ad 52)), (1, .ref (ad q1)), (2, .ref (ad q2)), (3, .int x3)] [] := by
  intro H locs ls hw hl
  have hx := C.1
  have hb := C.2.1
  unfold fX1_reckon at hf
  refine lv_aload_n hx hb dX1_reckon_0 rfl (lv_at hl 1 rfl) ?_
  refine lv_iload_n hx hb dX1_reckon_1 rfl (lv_at hl 3 rfl) ?_
  refine lv_iconst (v := 1) hx hb dX1_reckon_2 rfl ?_
  obtain ⟨t_1, h_2, hf⟩ := sn_bd hf
  refine sn_callVi (rest := []) C hw (ctX2_ofPolicy l h1 h_2) kl_RX1_15 (sn_look h1 (k := 0) rfl) rfl rfl rfl rfl (Nat.le_of_ble_eq_true rfl) dX1_reckon_3 hl.1 (fun H locs hw => ?_)
  refine lv_istore (lv' := [(4, .int t_1), (0, .ref (ad 52)), (1, .ref (ad q1)), (2, .ref (ad q2)), (3, .int x3)]) hx hb dX1_reckon_6 hl (by decide) rfl (fun ls hl => ?_)
  refine lv_aload_n hx hb dX1_reckon_8 rfl (lv_at hl 2 rfl) ?_
  refine lv_iload_n hx hb dX1_reckon_9 rfl (lv_at hl 4 rfl) ?_
  refine lv_iconst (v := 2) hx hb dX1_reckon_10 rfl ?_
  obtain ⟨t_3, h_4, hf⟩ := sn_bd hf
  refine sn_callVi (rest := []) C hw (ctX2_ofPolicy l h1 h_4) kl_RX1_15 (sn_look h1 (k := 0) rfl) rfl rfl rfl rfl (Nat.le_of_ble_eq_true rfl) dX1_reckon_11 hl.1 (fun H locs hw => ?_)
  refine lv_aload_n hx hb dX1_reckon_14 rfl (lv_at hl 3 rfl) ?_
  refine sn_getI C hw fd_RX1_21 (sn_look h2 (k := 0) rfl) rfl dX1_reckon_15 ?_
  refine lv_iconst (v := 1) hx hb dX1_reckon_18 rfl ?_
  refine lv_isub hx hb dX1_reckon_19 ?_
  refine va_mmin hx hb (C.2.2.1.trans hl.1.symm) C.2.2.2.1 (C.2.2.2.2.1 _ km_RX1_27) (C.2.2.2.2.1 _ kst_minI) (C.2.2.2.2.1 _ ki_Math) (C.2.2.2.2.1 _ kc_minI) (Nat.le_of_ble_eq_true rfl) (Nat.le_of_ble_eq_true rfl) (Nat.zero_le _) (Nat.zero_le _) dX1_reckon_20 ?_
  obtain ⟨y_5, e_6, hf⟩ := sn_ltE hf
  refine lv_topi (fun y_5_ e_6_ => ?_)
  obtain rfl : y_5 = y_5_ := e_6.trans e_6_.symm
  refine lv_istore (lv' := [(5, .int y_5), (4, .int t_1), (0, .ref (ad 52)), (1, .ref (ad q1)), (2, .ref (ad q2)), (3, .int x3)]) hx hb dX1_reckon_23 hl (by decide) rfl (fun ls hl => ?_)
  refine lv_aload_n hx hb dX1_reckon_25 rfl (lv_at hl 2 rfl) ?_
  refine lv_lconst (v := 0) hx hb dX1_reckon_26 rfl ?_
  refine sn_putL C hw fp_RX1_32 layC_52 rfl dX1_reckon_27 (fun H locs hw => ?_)
  obtain ⟨σ_7, e_8, hf⟩ := sn_ltE hf
  rw [← e_8] at hw
  refine lv_iload hx hb dX1_reckon_30 (lv_at hl 1 rfl) ?_
  refine lv_iload hx hb dX1_reckon_32 (lv_at hl 0 rfl) ?_
  refine lv_icmp_le (tgt := 38) hx hb dX1_reckon_34 (by decide) (fun c_9 => ?_) (fun c_9 => ?_)
  · have hf := sn_if c_9 hf
    refine lv_aload_n hx hb dX1_reckon_38 rfl (lv_at hl 2 rfl) ?_
    refine lv_ldc2 hx hb C.2.2.2.1 (C.2.2.2.2.1 _ kk_RX1_36) dX1_reckon_39 ?_
    refine sn_putL C hw fp_RX1_32 layC_52 rfl dX1_reckon_42 (fun H locs hw => ?_)
    obtain ⟨σ_10, e_11, hf⟩ := sn_ltE hf
    rw [← e_11] at hw
    refine lv_aload_n hx hb dX1_reckon_45 rfl (lv_at hl 2 rfl) ?_
    refine sn_getC (r := 53) C hw fd_RX1_9 layC_52 rfl dX1_reckon_46 ?_
    refine lv_ldc2 hx hb C.2.2.2.1 (C.2.2.2.2.1 _ kk_RX1_36) dX1_reckon_49 ?_
    obtain ⟨t_12, h_13, hf⟩ := sn_bd hf
    refine sn_callSv (rest := []) C hw (ctJ7_fill_d0a16 l layC_53 h_13) kl_RX1_38 rfl rfl rfl (Nat.le_of_ble_eq_true rfl) dX1_reckon_52 hl.1 (fun H locs hw => ?_)
    refine lv_aload_n hx hb dX1_reckon_55 rfl (lv_at hl 2 rfl) ?_
    refine sn_getC (r := 53) C hw fd_RX1_9 layC_52 rfl dX1_reckon_56 ?_
    refine lv_iconst (v := 0) hx hb dX1_reckon_59 rfl ?_
    refine lv_lconst (v := 0) hx hb dX1_reckon_60 rfl ?_
    obtain ⟨g_14, hf⟩ := sn_gdE hf
    refine sn_last C hw layC_53 g_14 dX1_reckon_61 (fun H locs hw => ?_)
    obtain ⟨σ_15, e_16, hf⟩ := sn_ltE hf
    rw [← e_16] at hw
    refine lv_iconst (v := 0) hx hb dX1_reckon_62 rfl ?_
    refine lv_istore (lv' := [(6, .int (0 : Int32)), (5, .int y_5), (4, .int t_1), (0, .ref (ad 52)), (1, .ref (ad q1)), (2, .ref (ad q2)), (3, .int x3)]) hx hb dX1_reckon_63 hl (by decide) rfl (fun ls hl => ?_)
    obtain ⟨t_17, h_18, hf⟩ := sn_bd hf
    exact wX1_reckon_L65 C h1 h2 h_18 (fun v e => by cases e; exact wX1_reckon_109 C h1 h2 hf kr) _ _ _ hw (lv_sub hl [3, 4, 5, 6, 2, 1, 0] rfl)
  · have hf := sn_el c_9 hf
    cases hf
    exact kr _ _ _ _ hw rfl dX1_reckon_37
theorem ctX1_reckon (l : Launch) {σ : sn_S} {q1 : Nat} {q2 : Nat} {x3 : Int32} (h1 : sn_isX2 q1) (h2 : sn_isX0 q2) {o : sn_S} (hf : fX1_reckon σ q1 q2 x3 = some o) : sn_M l yX1_reckon cX1_reckon 7 none rmX1_reckon layC (fun ad => [.ref (ad 52), .ref (ad q1), .ref (ad q2), .int x3]) σ none o :=
  sn_met (by decide) (fun _ => Nat.le_of_ble_eq_true rfl) (fun p e s m args below meth c ls D ct ad A C hw hl => wX1_reckon_in C h1 h2 hf (fun H locs ls pc hw ok hd => sn_vret C hw hd) _ _ _ hw hl)
-- X1_fewest
abbrev rmX1_fewest : Room := { frames := 0, cells := 0, slots := 0, locals := 0 }
def fX1_fewest (σ : sn_S) : Option Int32 :=
  (some (((sn_L σ 52 1) / (1073741824 : Int64)).toInt32))
theorem wX1_fewest_in (C : sn_C p s m args meth c RX1 cX1_fewest 1 (some .int) D ct ad layC A) {σ : sn_S}  {o : Int32} (hf : fX1_fewest σ = some o) (kr : sn_Kr p l e rmX1_fewest s m args below meth c Q D ct ad layC A cX1_fewest .ireturn (true) σ [.int o]) : sn_At p l e rmX1_fewest s m args below meth c Q D ct ad layC A 1 σ 0 [(0, .ref (ad 52))] [] := by
  intro H locs ls hw hl
  have hx := C.1
  have hb := C.2.1
  unfold fX1_fewest at hf
  refine lv_aload_n hx hb dX1_fewest_0 rfl (lv_at hl 0 rfl) ?_
  refine sn_getL C hw fd_RX1_32 layC_52 rfl dX1_fewest_1 ?_
  refine lv_ldc2 hx hb C.2.2.2.1 (C.2.2.2.2.1 _ kk_RX1_58) dX1_fewest_4 ?_
  refine lv_ldiv hx hb dX1_fewest_7 (by decide) ?_
  refine lv_l2i hx hb dX1_fewest_8 rfl ?_
  cases hf
  exact kr _ _ _ _ hw rfl dX1_fewest_9
theorem ctX1_fewest (l : Launch) {σ : sn_S}  {o : Int32} (hf : fX1_fewest σ = some o) : sn_M l yX1_fewest cX1_fewest 1 (some .int) rmX1_fewest layC (fun ad => [.ref (ad 52)]) σ (some (fun _ => .int o)) σ :=
  sn_met (by decide) (fun _ => Nat.le_of_ble_eq_true rfl) (fun p e s m args below meth c ls D ct ad A C hw hl => wX1_fewest_in C  hf (fun H locs ls pc hw ok hd => sn_iret C hw hd) _ _ _ hw hl)
-- X1_minutesHeld
abbrev rmX1_minutesHeld : Room := { frames := 0, cells := 0, slots := 0, locals := 0 }
def fX1_minutesHeld (σ : sn_S) : Option Int32 :=
  (some (((sn_L σ 52 1) - (sn_L σ 52 1) / (1073741824 : Int64) * (1073741824 : Int64)).toInt32))
theorem wX1_minutesHeld_in (C : sn_C p s m args meth c RX1 cX1_minutesHeld 1 (some .int) D ct ad layC A) {σ : sn_S}  {o : Int32} (hf : fX1_minutesHeld σ = some o) (kr : sn_Kr p l e rmX1_minutesHeld s m args below meth c Q D ct ad layC A cX1_minutesHeld .ireturn (true) σ [.int o]) : sn_At p l e rmX1_minutesHeld s m args below meth c Q D ct ad layC A 1 σ 0 [(0, .ref (ad 52))] [] := by
  intro H locs ls hw hl
  have hx := C.1
  have hb := C.2.1
  unfold fX1_minutesHeld at hf
  refine lv_aload_n hx hb dX1_minutesHeld_0 rfl (lv_at hl 0 rfl) ?_
  refine sn_getL C hw fd_RX1_32 layC_52 rfl dX1_minutesHeld_1 ?_
  refine lv_ldc2 hx hb C.2.2.2.1 (C.2.2.2.2.1 _ kk_RX1_58) dX1_minutesHeld_4 ?_
  refine lv_lrem hx hb dX1_minutesHeld_7 (by decide) ?_
  refine lv_l2i hx hb dX1_minutesHeld_8 rfl ?_
  cases hf
  exact kr _ _ _ _ hw rfl dX1_minutesHeld_9
theorem ctX1_minutesHeld (l : Launch) {σ : sn_S}  {o : Int32} (hf : fX1_minutesHeld σ = some o) : sn_M l yX1_minutesHeld cX1_minutesHeld 1 (some .int) rmX1_minutesHeld layC (fun ad => [.ref (ad 52)]) σ (some (fun _ => .int o)) σ :=
  sn_met (by decide) (fun _ => Nat.le_of_ble_eq_true rfl) (fun p e s m args below meth c ls D ct ad A C hw hl => wX1_minutesHeld_in C  hf (fun H locs ls pc hw ok hd => sn_iret C hw hd) _ _ _ hw hl)
-- X2_clear
abbrev rmX2_clear : Room := { frames := 1, cells := 0, slots := 0, locals := 23 }
def fX2_clear (σ : sn_S) (q0 : Nat) : Option sn_S :=
  ((fJ7_fill_53178 σ (q0 + 1) 11 (0 : Int32)).bind fun t_1 => (some t_1))
theorem wX2_clear_in (C : sn_C p s m args meth c RX2 cX2_clear 1 none D ct ad layC A) {σ : sn_S} {q0 : Nat} (h0 : sn_isX2 q0) {o : sn_S} (hf : fX2_clear σ q0 = some o) (kr : sn_Kr p l e rmX2_clear s m args below meth c Q D ct ad layC A cX2_clear .return_ (true) o []) : sn_At p l e rmX2_clear s m args below meth c Q D ct ad layC A 1 σ 0 [(0, .ref (ad q0))] [] := by
  intro H locs ls hw hl
  have hx := C.1
  have hb := C.2.1
  unfold fX2_clear at hf
  refine lv_aload_n hx hb dX2_clear_0 rfl (lv_at hl 0 rfl) ?_
  refine sn_getC (r := (q0 + 1)) C hw fd_RX2_9 (sn_look h0 (k := 0) rfl) rfl dX2_clear_1 ?_
  refine lv_iconst (v := 0) hx hb dX2_clear_4 rfl ?_
  obtain ⟨t_1, h_2, hf⟩ := sn_bd hf
  refine sn_callSv (rest := []) C hw (ctJ7_fill_53178 l (sn_look h0 (k := 1) rfl) h_2) kl_RX2_30 rfl rfl rfl (Nat.le_of_ble_eq_true rfl) dX2_clear_5 hl.1 (fun H locs hw => ?_)
  cases hf
  exact kr _ _ _ _ hw rfl dX2_clear_8
theorem ctX2_clear (l : Launch) {σ : sn_S} {q0 : Nat} (h0 : sn_isX2 q0) {o : sn_S} (hf : fX2_clear σ q0 = some o) : sn_M l yX2_clear cX2_clear 1 none rmX2_clear layC (fun ad => [.ref (ad q0)]) σ none o :=
  sn_met (by decide) (fun _ => Nat.le_of_ble_eq_true rfl) (fun p e s m args below meth c ls D ct ad A C hw hl => wX2_clear_in C h0 hf (fun H locs ls pc hw ok hd => sn_vret C hw hd) _ _ _ hw hl)
-- X2_copyFrom
abbrev rmX2_copyFrom : Room := { frames := 1, cells := 0, slots := 0, locals := 48 }
def fX2_copyFrom (σ : sn_S) (q0 : Nat) (q1 : Nat) : Option sn_S :=
  (sn_gd (sn_cpok (0 : Int32) (0 : Int32) (Int32.ofNat 11) 11 11) (sn_lt (sn_wI σ (q0 + 1) (va_cpy (sn_I σ (q1 + 1)) (sn_I σ (q0 + 1)) (0 : Int32).toNatClampNeg (0 : Int32).toNatClampNeg (Int32.ofNat 11).toNatClampNeg)) fun σ_2 => (sn_gd (sn_cpok (0 : Int32) (0 : Int32) (Int32.ofNat 12) 12 12) (sn_lt (sn_wI σ_2 (q0 + 2) (va_cpy (sn_I σ_2 (q1 + 2)) (sn_I σ_2 (q0 + 2)) (0 : Int32).toNatClampNeg (0 : Int32).toNatClampNeg (Int32.ofNat 12).toNatClampNeg)) fun σ_5 => (sn_gd (sn_cpok (0 : Int32) (0 : Int32) (Int32.ofNat 10) 10 10) (sn_lt (sn_wI σ_5 (q0 + 3) (va_cpy (sn_I σ_5 (q1 + 3)) (sn_I σ_5 (q0 + 3)) (0 : Int32).toNatClampNeg (0 : Int32).toNatClampNeg (Int32.ofNat 10).toNatClampNeg)) fun σ_8 => (sn_gd (sn_cpok (0 : Int32) (0 : Int32) (Int32.ofNat 16) 16 16) (sn_lt (sn_wI σ_8 (q0 + 4) (va_cpy (sn_I σ_8 (q1 + 4)) (sn_I σ_8 (q0 + 4)) (0 : Int32).toNatClampNeg (0 : Int32).toNatClampNeg (Int32.ofNat 16).toNatClampNeg)) fun σ_11 => (sn_gd (sn_cpok (0 : Int32) (0 : Int32) (Int32.ofNat 30) 30 30) (sn_lt (sn_wI σ_11 (q0 + 5) (va_cpy (sn_I σ_11 (q1 + 5)) (sn_I σ_11 (q0 + 5)) (0 : Int32).toNatClampNeg (0 : Int32).toNatClampNeg (Int32.ofNat 30).toNatClampNeg)) fun σ_14 => (sn_gd (sn_cpok (0 : Int32) (0 : Int32) (Int32.ofNat 120) 120 120) (sn_lt (sn_wI σ_14 (q0 + 6) (va_cpy (sn_I σ_14 (q1 + 6)) (sn_I σ_14 (q0 + 6)) (0 : Int32).toNatClampNeg (0 : Int32).toNatClampNeg (Int32.ofNat 120).toNatClampNeg)) fun σ_17 => (some σ_17)))))))))))))
theorem wX2_copyFrom_in (C : sn_C p s m args meth c RX2 cX2_copyFrom 2 none D ct ad layC A) {σ : sn_S} {q0 : Nat} {q1 : Nat} (h0 : sn_isX2 q0) (h1 : sn_isX2 q1) {o : sn_S} (hf : fX2_copyFrom σ q0 q1 = some o) (kr : sn_Kr p l e rmX2_copyFrom s m args below meth c Q D ct ad layC A cX2_copyFrom .return_ (true) o []) : sn_At p l e rmX2_copyFrom s m args below meth c Q D ct ad layC A 2 σ 0 [(0, .ref (ad q0)), (1, .ref (ad q1))] [] := by
  intro H locs ls hw hl
  have hx := C.1
  have hb := C.2.1
  unfold fX2_copyFrom at hf
  refine lv_aload_n hx hb dX2_copyFrom_0 rfl (lv_at hl 1 rfl) ?_
  refine sn_getC (r := (q1 + 1)) C hw fd_RX2_9 (sn_look h1 (k := 0) rfl) rfl dX2_copyFrom_1 ?_
  refine lv_iconst (v := 0) hx hb dX2_copyFrom_4 rfl ?_
  refine lv_aload_n hx hb dX2_copyFrom_5 rfl (lv_at hl 0 rfl) ?_
  refine sn_getC (r := (q0 + 1)) C hw fd_RX2_9 (sn_look h0 (k := 0) rfl) rfl dX2_copyFrom_6 ?_
  refine lv_iconst (v := 0) hx hb dX2_copyFrom_9 rfl ?_
  refine lv_aload_n hx hb dX2_copyFrom_10 rfl (lv_at hl 0 rfl) ?_
  refine sn_getC (r := (q0 + 1)) C hw fd_RX2_9 (sn_look h0 (k := 0) rfl) rfl dX2_copyFrom_11 ?_
  refine sn_alen C hw (sn_look h0 (k := 1) rfl) rfl rfl dX2_copyFrom_14 ?_
  obtain ⟨g_1, hf⟩ := sn_gdE hf
  refine sn_cpyI (rest := []) C hw km_RX2_36 kna_copy kst_copy ki_System (sn_look h1 (k := 1) rfl) (sn_look h0 (k := 1) rfl) g_1 (Nat.le_of_ble_eq_true rfl) (Nat.le_of_ble_eq_true rfl) dX2_copyFrom_15 hl.1 (fun H locs hw => ?_)
  obtain ⟨σ_2, e_3, hf⟩ := sn_ltE hf
  rw [← e_3] at hw
  refine lv_aload_n hx hb dX2_copyFrom_18 rfl (lv_at hl 1 rfl) ?_
  refine sn_getC (r := (q1 + 2)) C hw fd_RX2_15 (sn_look h1 (k := 0) rfl) rfl dX2_copyFrom_19 ?_
  refine lv_iconst (v := 0) hx hb dX2_copyFrom_22 rfl ?_
  refine lv_aload_n hx hb dX2_copyFrom_23 rfl (lv_at hl 0 rfl) ?_
  refine sn_getC (r := (q0 + 2)) C hw fd_RX2_15 (sn_look h0 (k := 0) rfl) rfl dX2_copyFrom_24 ?_
  refine lv_iconst (v := 0) hx hb dX2_copyFrom_27 rfl ?_
  refine lv_aload_n hx hb dX2_copyFrom_28 rfl (lv_at hl 0 rfl) ?_
  refine sn_getC (r := (q0 + 2)) C hw fd_RX2_15 (sn_look h0 (k := 0) rfl) rfl dX2_copyFrom_29 ?_
  refine sn_alen C hw (sn_look h0 (k := 2) rfl) rfl rfl dX2_copyFrom_32 ?_
  obtain ⟨g_4, hf⟩ := sn_gdE hf
  refine sn_cpyI (rest := []) C hw km_RX2_36 kna_copy kst_copy ki_System (sn_look h1 (k := 2) rfl) (sn_look h0 (k := 2) rfl) g_4 (Nat.le_of_ble_eq_true rfl) (Nat.le_of_ble_eq_true rfl) dX2_copyFrom_33 hl.1 (fun H locs hw => ?_)
  obtain ⟨σ_5, e_6, hf⟩ := sn_ltE hf
  rw [← e_6] at hw
  refine lv_aload_n hx hb dX2_copyFrom_36 rfl (lv_at hl 1 rfl) ?_
  refine sn_getC (r := (q1 + 3)) C hw fd_RX2_18 (sn_look h1 (k := 0) rfl) rfl dX2_copyFrom_37 ?_
  refine lv_iconst (v := 0) hx hb dX2_copyFrom_40 rfl ?_
  refine lv_aload_n hx hb dX2_copyFrom_41 rfl (lv_at hl 0 rfl) ?_
  refine sn_getC (r := (q0 + 3)) C hw fd_RX2_18 (sn_look h0 (k := 0) rfl) rfl dX2_copyFrom_42 ?_
  refine lv_iconst (v := 0) hx hb dX2_copyFrom_45 rfl ?_
  refine lv_aload_n hx hb dX2_copyFrom_46 rfl (lv_at hl 0 rfl) ?_
  refine sn_getC (r := (q0 + 3)) C hw fd_RX2_18 (sn_look h0 (k := 0) rfl) rfl dX2_copyFrom_47 ?_
  refine sn_alen C hw (sn_look h0 (k := 3) rfl) rfl rfl dX2_copyFrom_50 ?_
  obtain ⟨g_7, hf⟩ := sn_gdE hf
  refine sn_cpyI (rest := []) C hw km_RX2_36 kna_copy kst_copy ki_System (sn_look h1 (k := 3) rfl) (sn_look h0 (k := 3) rfl) g_7 (Nat.le_of_ble_eq_true rfl) (Nat.le_of_ble_eq_true rfl) dX2_copyFrom_51 hl.1 (fun H locs hw => ?_)
  obtain ⟨σ_8, e_9, hf⟩ := sn_ltE hf
  rw [← e_9] at hw
  refine lv_aload_n hx hb dX2_copyFrom_54 rfl (lv_at hl 1 rfl) ?_
  refine sn_getC (r := (q1 + 4)) C hw fd_RX2_21 (sn_look h1 (k := 0) rfl) rfl dX2_copyFrom_55 ?_
  refine lv_iconst (v := 0) hx hb dX2_copyFrom_58 rfl ?_
  refine lv_aload_n hx hb dX2_copyFrom_59 rfl (lv_at hl 0 rfl) ?_
  refine sn_getC (r := (q0 + 4)) C hw fd_RX2_21 (sn_look h0 (k := 0) rfl) rfl dX2_copyFrom_60 ?_
  refine lv_iconst (v := 0) hx hb dX2_copyFrom_63 rfl ?_
  refine lv_aload_n hx hb dX2_copyFrom_64 rfl (lv_at hl 0 rfl) ?_
  refine sn_getC (r := (q0 + 4)) C hw fd_RX2_21 (sn_look h0 (k := 0) rfl) rfl dX2_copyFrom_65 ?_
  refine sn_alen C hw (sn_look h0 (k := 4) rfl) rfl rfl dX2_copyFrom_68 ?_
  obtain ⟨g_10, hf⟩ := sn_gdE hf
  refine sn_cpyI (rest := []) C hw km_RX2_36 kna_copy kst_copy ki_System (sn_look h1 (k := 4) rfl) (sn_look h0 (k := 4) rfl) g_10 (Nat.le_of_ble_eq_true rfl) (Nat.le_of_ble_eq_true rfl) dX2_copyFrom_69 hl.1 (fun H locs hw => ?_)
  obtain ⟨σ_11, e_12, hf⟩ := sn_ltE hf
  rw [← e_12] at hw
  refine lv_aload_n hx hb dX2_copyFrom_72 rfl (lv_at hl 1 rfl) ?_
  refine sn_getC (r := (q1 + 5)) C hw fd_RX2_24 (sn_look h1 (k := 0) rfl) rfl dX2_copyFrom_73 ?_
  refine lv_iconst (v := 0) hx hb dX2_copyFrom_76 rfl ?_
  refine lv_aload_n hx hb dX2_copyFrom_77 rfl (lv_at hl 0 rfl) ?_
  refine sn_getC (r := (q0 + 5)) C hw fd_RX2_24 (sn_look h0 (k := 0) rfl) rfl dX2_copyFrom_78 ?_
  refine lv_iconst (v := 0) hx hb dX2_copyFrom_81 rfl ?_
  refine lv_aload_n hx hb dX2_copyFrom_82 rfl (lv_at hl 0 rfl) ?_
  refine sn_getC (r := (q0 + 5)) C hw fd_RX2_24 (sn_look h0 (k := 0) rfl) rfl dX2_copyFrom_83 ?_
  refine sn_alen C hw (sn_look h0 (k := 5) rfl) rfl rfl dX2_copyFrom_86 ?_
  obtain ⟨g_13, hf⟩ := sn_gdE hf
  refine sn_cpyI (rest := []) C hw km_RX2_36 kna_copy kst_copy ki_System (sn_look h1 (k := 5) rfl) (sn_look h0 (k := 5) rfl) g_13 (Nat.le_of_ble_eq_true rfl) (Nat.le_of_ble_eq_true rfl) dX2_copyFrom_87 hl.1 (fun H locs hw => ?_)
  obtain ⟨σ_14, e_15, hf⟩ := sn_ltE hf
  rw [← e_15] at hw
  refine lv_aload_n hx hb dX2_copyFrom_90 rfl (lv_at hl 1 rfl) ?_
  refine sn_getC (r := (q1 + 6)) C hw fd_RX2_27 (sn_look h1 (k := 0) rfl) rfl dX2_copyFrom_91 ?_
  refine lv_iconst (v := 0) hx hb dX2_copyFrom_94 rfl ?_
  refine lv_aload_n hx hb dX2_copyFrom_95 rfl (lv_at hl 0 rfl) ?_
  refine sn_getC (r := (q0 + 6)) C hw fd_RX2_27 (sn_look h0 (k := 0) rfl) rfl dX2_copyFrom_96 ?_
  refine lv_iconst (v := 0) hx hb dX2_copyFrom_99 rfl ?_
  refine lv_aload_n hx hb dX2_copyFrom_100 rfl (lv_at hl 0 rfl) ?_
  refine sn_getC (r := (q0 + 6)) C hw fd_RX2_27 (sn_look h0 (k := 0) rfl) rfl dX2_copyFrom_101 ?_
  refine sn_alen C hw (sn_look h0 (k := 6) rfl) rfl rfl dX2_copyFrom_104 ?_
  obtain ⟨g_16, hf⟩ := sn_gdE hf
  refine sn_cpyI (rest := []) C hw km_RX2_36 kna_copy kst_copy ki_System (sn_look h1 (k := 6) rfl) (sn_look h0 (k := 6) rfl) g_16 (Nat.le_of_ble_eq_true rfl) (Nat.le_of_ble_eq_true rfl) dX2_copyFrom_105 hl.1 (fun H locs hw => ?_)
  obtain ⟨σ_17, e_18, hf⟩ := sn_ltE hf
  rw [← e_18] at hw
  cases hf
  exact kr _ _ _ _ hw rfl dX2_copyFrom_108
theorem ctX2_copyFrom (l : Launch) {σ : sn_S} {q0 : Nat} {q1 : Nat} (h0 : sn_isX2 q0) (h1 : sn_isX2 q1) {o : sn_S} (hf : fX2_copyFrom σ q0 q1 = some o) : sn_M l yX2_copyFrom cX2_copyFrom 2 none rmX2_copyFrom layC (fun ad => [.ref (ad q0), .ref (ad q1)]) σ none o :=
  sn_met (by decide) (fun _ => Nat.le_of_ble_eq_true rfl) (fun p e s m args below meth c ls D ct ad A C hw hl => wX2_copyFrom_in C h0 h1 hf (fun H locs ls pc hw ok hd => sn_vret C hw hd) _ _ _ hw hl)
-- X2_window
abbrev rmX2_window : Room := { frames := 0, cells := 0, slots := 0, locals := 0 }
def fX2_window (σ : sn_S) (q0 : Nat) (x1 : Int32) : Option Int32 :=
  (sn_lt ((5 : Int32) * x1) fun y_1 => (sn_gd (sn_in (y_1 + (2 : Int32)) 30) (sn_gd (sn_in (y_1 + (1 : Int32)) 30) (some (((2 : Int32) <<< ((sn_I σ (q0 + 5) (y_1 + (2 : Int32)).toNatClampNeg) &&& 31)) - ((1 : Int32) <<< ((sn_I σ (q0 + 5) (y_1 + (1 : Int32)).toNatClampNeg) &&& 31)))))))
theorem wX2_window_in (C : sn_C p s m args meth c RX2 cX2_window 3 (some .int) D ct ad layC A) {σ : sn_S} {q0 : Nat} {x1 : Int32} (h0 : sn_isX2 q0) {o : Int32} (hf : fX2_window σ q0 x1 = some o) (kr : sn_Kr p l e rmX2_window s m args below meth c Q D ct ad layC A cX2_window .ireturn (true) σ [.int o]) : sn_At p l e rmX2_window s m args below meth c Q D ct ad layC A 3 σ 0 [(0, .ref (ad q0)), (1, .int x1)] [] := by
  intro H locs ls hw hl
  have hx := C.1
  have hb := C.2.1
  unfold fX2_window at hf
  refine lv_iconst (v := 5) hx hb dX2_window_0 rfl ?_
  refine lv_iload_n hx hb dX2_window_1 rfl (lv_at hl 1 rfl) ?_
  refine lv_imul hx hb dX2_window_2 ?_
  obtain ⟨y_1, e_2, hf⟩ := sn_ltE hf
  refine lv_topi (fun y_1_ e_2_ => ?_)
  obtain rfl : y_1 = y_1_ := e_2.trans e_2_.symm
  refine lv_istore_n (lv' := [(2, .int y_1), (0, .ref (ad q0)), (1, .int x1)]) hx hb dX2_window_3 rfl hl (by decide) rfl (fun ls hl => ?_)
  refine lv_iconst (v := 2) hx hb dX2_window_4 rfl ?_
  refine lv_aload_n hx hb dX2_window_5 rfl (lv_at hl 1 rfl) ?_
  refine sn_getC (r := (q0 + 5)) C hw fd_RX2_24 (sn_look h0 (k := 0) rfl) rfl dX2_window_6 ?_
  refine lv_iload_n hx hb dX2_window_9 rfl (lv_at hl 0 rfl) ?_
  refine lv_iconst (v := 2) hx hb dX2_window_10 rfl ?_
  refine lv_iadd hx hb dX2_window_11 ?_
  obtain ⟨g_3, hf⟩ := sn_gdE hf
  refine sn_iald C hw (sn_look h0 (k := 5) rfl) g_3 dX2_window_12 ?_
  refine lv_ishl hx hb dX2_window_13 ?_
  refine lv_iconst (v := 1) hx hb dX2_window_14 rfl ?_
  refine lv_aload_n hx hb dX2_window_15 rfl (lv_at hl 1 rfl) ?_
  refine sn_getC (r := (q0 + 5)) C hw fd_RX2_24 (sn_look h0 (k := 0) rfl) rfl dX2_window_16 ?_
  refine lv_iload_n hx hb dX2_window_19 rfl (lv_at hl 0 rfl) ?_
  refine lv_iconst (v := 1) hx hb dX2_window_20 rfl ?_
  refine lv_iadd hx hb dX2_window_21 ?_
  obtain ⟨g_4, hf⟩ := sn_gdE hf
  refine sn_iald C hw (sn_look h0 (k := 5) rfl) g_4 dX2_window_22 ?_
  refine lv_ishl hx hb dX2_window_23 ?_
  refine lv_isub hx hb dX2_window_24 ?_
  cases hf
  exact kr _ _ _ _ hw rfl dX2_window_25
theorem ctX2_window (l : Launch) {σ : sn_S} {q0 : Nat} {x1 : Int32} (h0 : sn_isX2 q0) {o : Int32} (hf : fX2_window σ q0 x1 = some o) : sn_M l yX2_window cX2_window 3 (some .int) rmX2_window layC (fun ad => [.ref (ad q0), .int x1]) σ (some (fun _ => .int o)) σ :=
  sn_met (by decide) (fun _ => Nat.le_of_ble_eq_true rfl) (fun p e s m args below meth c ls D ct ad A C hw hl => wX2_window_in C h0 hf (fun H locs ls pc hw ok hd => sn_iret C hw hd) _ _ _ hw hl)
-- X2_gustMinutes
abbrev rmX2_gustMinutes : Room := { frames := 0, cells := 0, slots := 0, locals := 0 }
def BX2_gustMinutes_36 (σ : sn_S) (q0 : Nat) (x1 : Int32) : Option (Int32) :=
  (some x1)
def BX2_gustMinutes_4 (σ : sn_S) (q0 : Nat) (x1 : Int32) (x2 : Int32) : Option ((Int32 × Int32) ⊕ (Int32)) :=
  (sn_gd (sn_in (6 : Int32) 11) (if (sn_I σ (q0 + 1) (6 : Int32).toNatClampNeg) ≤ x2 then
  (some (.inr (x1)))
  else
  (sn_gd (sn_in (((2 : Int32) * x2) + (1 : Int32)) 10) (sn_lt (x1 ||| ((1 : Int32) <<< ((sn_I σ (q0 + 3) (((2 : Int32) * x2) + (1 : Int32)).toNatClampNeg) &&& 31))) fun y_4 => (sn_lt (x2 + 1) fun y_6 => (some (.inl (y_4, y_6))))))))
def LX2_gustMinutes_4 (σ : sn_S) (q0 : Nat) (s : Int32 × Int32) : Option ((Int32 × Int32) ⊕ (Int32)) := BX2_gustMinutes_4 σ q0 s.1 s.2
def fX2_gustMinutes (σ : sn_S) (q0 : Nat) : Option Int32 :=
  ((sn_it (LX2_gustMinutes_4 σ q0) 5000 ((0 : Int32), (0 : Int32))).bind fun t_1 => (BX2_gustMinutes_36 σ q0 t_1))
theorem wX2_gustMinutes_36 (C : sn_C p s m args meth c RX2 cX2_gustMinutes 3 (some .int) D ct ad layC A) {σ : sn_S} {q0 : Nat} {x1 : Int32} (h0 : sn_isX2 q0) {o : Int32} (hf : BX2_gustMinutes_36 σ q0 x1 = some o) (kr : sn_Kr p l e rmX2_gustMinutes s m args below meth c Q D ct ad layC A cX2_gustMinutes .ireturn (true) σ [.int o]) : sn_At p l e rmX2_gustMinutes s m args below meth c Q D ct ad layC A 3 σ 36 [(1, .int x1)] [] := by
  intro H locs ls hw hl
  have hx := C.1
  have hb := C.2.1
  unfold BX2_gustMinutes_36 at hf
  refine lv_iload_n hx hb dX2_gustMinutes_36 rfl (lv_at hl 0 rfl) ?_
  cases hf
  exact kr _ _ _ _ hw rfl dX2_gustMinutes_37
theorem wX2_gustMinutes_4 (C : sn_C p s m args meth c RX2 cX2_gustMinutes 3 (some .int) D ct ad layC A) {σ : sn_S} {q0 : Nat} {x1 : Int32} {x2 : Int32} (h0 : sn_isX2 q0) {o : (Int32 × Int32) ⊕ (Int32)} (hf : BX2_gustMinutes_4 σ q0 x1 x2 = some o) (kc : ∀ v, o = .inl v → sn_At p l e rmX2_gustMinutes s m args below meth c Q D ct ad layC A 3 σ 4 [(0, .ref (ad q0)), (1, .int v.1), (2, .int v.2)] []) (kx : ∀ v, o = .inr v → sn_At p l e rmX2_gustMinutes s m args below meth c Q D ct ad layC A 3 σ 36 [(1, .int v)] []) : sn_At p l e rmX2_gustMinutes s m args below meth c Q D ct ad layC A 3 σ 4 [(0, .ref (ad q0)), (1, .int x1), (2, .int x2)] [] := by
  intro H locs ls hw hl
  have hx := C.1
  have hb := C.2.1
  unfold BX2_gustMinutes_4 at hf
  refine lv_iload_n hx hb dX2_gustMinutes_4 rfl (lv_at hl 2 rfl) ?_
  refine lv_aload_n hx hb dX2_gustMinutes_5 rfl (lv_at hl 0 rfl) ?_
  refine sn_getC (r := (q0 + 1)) C hw fd_RX2_9 (sn_look h0 (k := 0) rfl) rfl dX2_gustMinutes_6 ?_
  refine lv_bipush (v := 6) hx hb dX2_gustMinutes_9 (by decide) ?_
  obtain ⟨g_1, hf⟩ := sn_gdE hf
  refine sn_iald C hw (sn_look h0 (k := 1) rfl) g_1 dX2_gustMinutes_11 ?_
  refine lv_icmp_ge (tgt := 36) hx hb dX2_gustMinutes_12 (by decide) (fun c_2 => ?_) (fun c_2 => ?_)
  · have hf := sn_if c_2 hf
    cases hf
    exact kx _ rfl _ _ _ hw (lv_sub hl [1] rfl)
  · have hf := sn_el c_2 hf
    refine lv_iload_n hx hb dX2_gustMinutes_15 rfl (lv_at hl 1 rfl) ?_
    refine lv_iconst (v := 1) hx hb dX2_gustMinutes_16 rfl ?_
    refine lv_aload_n hx hb dX2_gustMinutes_17 rfl (lv_at hl 0 rfl) ?_
    refine sn_getC (r := (q0 + 3)) C hw fd_RX2_18 (sn_look h0 (k := 0) rfl) rfl dX2_gustMinutes_18 ?_
    refine lv_iconst (v := 2) hx hb dX2_gustMinutes_21 rfl ?_
    refine lv_iload_n hx hb dX2_gustMinutes_22 rfl (lv_at hl 2 rfl) ?_
    refine lv_imul hx hb dX2_gustMinutes_23 ?_
    refine lv_iconst (v := 1) hx hb dX2_gustMinutes_24 rfl ?_
    refine lv_iadd hx hb dX2_gustMinutes_25 ?_
    obtain ⟨g_3, hf⟩ := sn_gdE hf
    refine sn_iald C hw (sn_look h0 (k := 3) rfl) g_3 dX2_gustMinutes_26 ?_
    refine lv_ishl hx hb dX2_gustMinutes_27 ?_
    refine lv_ior hx hb dX2_gustMinutes_28 ?_
    obtain ⟨y_4, e_5, hf⟩ := sn_ltE hf
    refine lv_topi (fun y_4_ e_5_ => ?_)
    obtain rfl : y_4 = y_4_ := e_5.trans e_5_.symm
    refine lv_istore_n (lv' := [(1, .int y_4), (0, .ref (ad q0)), (2, .int x2)]) hx hb dX2_gustMinutes_29 rfl hl (by decide) rfl (fun ls hl => ?_)
    obtain ⟨y_6, e_7, hf⟩ := sn_ltE hf
    refine lv_iinc (v := y_6) (lv' := [(2, .int y_6), (1, .int y_4), (0, .ref (ad q0))]) hx hb dX2_gustMinutes_30 hl (k := 2) rfl (by rw [e_7]; rfl) (by decide) rfl (fun ls hl => ?_)
    refine lv_goto (tgt := 4) hx hb dX2_gustMinutes_33 (by decide) ?_
    cases hf
    exact kc _ rfl _ _ _ hw (lv_sub hl [2, 1, 0] rfl)
theorem wX2_gustMinutes_L4 (C : sn_C p s m args meth c RX2 cX2_gustMinutes 3 (some .int) D ct ad layC A) {σ : sn_S} {q0 : Nat}  (h0 : sn_isX2 q0) {z : Int32 × Int32} {t : Int32} (h : sn_it (LX2_gustMinutes_4 σ q0) 5000 z = some t) (kx : ∀ v, t = v → sn_At p l e rmX2_gustMinutes s m args below meth c Q D ct ad layC A 3 σ 36 [(1, .int v)] []) : sn_At p l e rmX2_gustMinutes s m args below meth c Q D ct ad layC A 3 σ 4 [(0, .ref (ad q0)), (1, .int z.1), (2, .int z.2)] [] :=
  sn_loop (f := LX2_gustMinutes_4 σ q0) (G := fun z => sn_At p l e rmX2_gustMinutes s m args below meth c Q D ct ad layC A 3 σ 4 [(0, .ref (ad q0)), (1, .int z.1), (2, .int z.2)] []) (E := fun t => (∀ v, t = v → sn_At p l e rmX2_gustMinutes s m args below meth c Q D ct ad layC A 3 σ 36 [(1, .int v)] []) ∧ True) (fun z o hf k1 k2 => wX2_gustMinutes_4 C h0 hf (fun v e => k1 v e) (fun v e => (k2 _ e).1 v rfl)) 5000 z t h ⟨kx, trivial⟩
theorem wX2_gustMinutes_in (C : sn_C p s m args meth c RX2 cX2_gustMinutes 3 (some .int) D ct ad layC A) {σ : sn_S} {q0 : Nat} (h0 : sn_isX2 q0) {o : Int32} (hf : fX2_gustMinutes σ q0 = some o) (kr : sn_Kr p l e rmX2_gustMinutes s m args below meth c Q D ct ad layC A cX2_gustMinutes .ireturn (true) σ [.int o]) : sn_At p l e rmX2_gustMinutes s m args below meth c Q D ct ad layC A 3 σ 0 [(0, .ref (ad q0))] [] := by
  intro H locs ls hw hl
  have hx := C.1
  have hb := C.2.1
  unfold fX2_gustMinutes at hf
  refine lv_iconst (v := 0) hx hb dX2_gustMinutes_0 rfl ?_
  refine lv_istore_n (lv' := [(1, .int (0 : Int32)), (0, .ref (ad q0))]) hx hb dX2_gustMinutes_1 rfl hl (by decide) rfl (fun ls hl => ?_)
  refine lv_iconst (v := 0) hx hb dX2_gustMinutes_2 rfl ?_
  refine lv_istore_n (lv' := [(2, .int (0 : Int32)), (1, .int (0 : Int32)), (0, .ref (ad q0))]) hx hb dX2_gustMinutes_3 rfl hl (by decide) rfl (fun ls hl => ?_)
  obtain ⟨t_1, h_2, hf⟩ := sn_bd hf
  exact wX2_gustMinutes_L4 C h0 h_2 (fun v e => by cases e; exact wX2_gustMinutes_36 C h0 hf kr) _ _ _ hw (lv_sub hl [2, 1, 0] rfl)
theorem ctX2_gustMinutes (l : Launch) {σ : sn_S} {q0 : Nat} (h0 : sn_isX2 q0) {o : Int32} (hf : fX2_gustMinutes σ q0 = some o) : sn_M l yX2_gustMinutes cX2_gustMinutes 3 (some .int) rmX2_gustMinutes layC (fun ad => [.ref (ad q0)]) σ (some (fun _ => .int o)) σ :=
  sn_met (by decide) (fun _ => Nat.le_of_ble_eq_true rfl) (fun p e s m args below meth c ls D ct ad A C hw hl => wX2_gustMinutes_in C h0 hf (fun H locs ls pc hw ok hd => sn_iret C hw hd) _ _ _ hw hl)
-- X2_neighbours
abbrev rmX2_neighbours : Room := { frames := 0, cells := 0, slots := 0, locals := 0 }
def BX2_neighbours_75 (σ : sn_S) (q0 : Nat) (x2 : Int32) : Option (Int32) :=
  (some x2)
def BX2_neighbours_69 (σ : sn_S) (q0 : Nat) (x1 : Int32) (x2 : Int32) (x3 : Int32) : Option ((Int32 × Int32) ⊕ (Int32)) :=
  (sn_lt (x3 + 1) fun y_1 => (some (.inl (x2, y_1))))
def BX2_neighbours_42 (σ : sn_S) (q0 : Nat) (x1 : Int32) (x2 : Int32) (x3 : Int32) : Option ((Int32 × Int32) ⊕ (Int32)) :=
  (sn_gd (sn_in (((2 : Int32) * x3) + (1 : Int32)) 16) (if (sn_I σ (q0 + 4) (((2 : Int32) * x3) + (1 : Int32)).toNatClampNeg) = x1 then
  (sn_gd (sn_in ((2 : Int32) * x3) 16) (sn_lt (x2 ||| ((1 : Int32) <<< ((sn_I σ (q0 + 4) ((2 : Int32) * x3).toNatClampNeg) &&& 31))) fun y_4 => (BX2_neighbours_69 σ q0 x1 y_4 x3)))
  else
  (BX2_neighbours_69 σ q0 x1 x2 x3)))
def BX2_neighbours_4 (σ : sn_S) (q0 : Nat) (x1 : Int32) (x2 : Int32) (x3 : Int32) : Option ((Int32 × Int32) ⊕ (Int32)) :=
  (sn_gd (sn_in (7 : Int32) 11) (if (sn_I σ (q0 + 1) (7 : Int32).toNatClampNeg) ≤ x3 then
  (some (.inr (x2)))
  else
  (sn_gd (sn_in ((2 : Int32) * x3) 16) (if (sn_I σ (q0 + 4) ((2 : Int32) * x3).toNatClampNeg) = x1 then
  (sn_gd (sn_in (((2 : Int32) * x3) + (1 : Int32)) 16) (sn_lt (x2 ||| ((1 : Int32) <<< ((sn_I σ (q0 + 4) (((2 : Int32) * x3) + (1 : Int32)).toNatClampNeg) &&& 31))) fun y_6 => (BX2_neighbours_42 σ q0 x1 y_6 x3)))
  else
  (BX2_neighbours_42 σ q0 x1 x2 x3)))))
def LX2_neighbours_4 (σ : sn_S) (q0 : Nat) (x1 : Int32) (s : Int32 × Int32) : Option ((Int32 × Int32) ⊕ (Int32)) := BX2_neighbours_4 σ q0 x1 s.1 s.2
def fX2_neighbours (σ : sn_S) (q0 : Nat) (x1 : Int32) : Option Int32 :=
  ((sn_it (LX2_neighbours_4 σ q0 x1) 5000 ((0 : Int32), (0 : Int32))).bind fun t_1 => (BX2_neighbours_75 σ q0 t_1))
theorem wX2_neighbours_75 (C : sn_C p s m args meth c RX2 cX2_neighbours 4 (some .int) D ct ad layC A) {σ : sn_S} {q0 : Nat} {x2 : Int32} (h0 : sn_isX2 q0) {o : Int32} (hf : BX2_neighbours_75 σ q0 x2 = some o) (kr : sn_Kr p l e rmX2_neighbours s m args below meth c Q D ct ad layC A cX2_neighbours .ireturn (true) σ [.int o]) : sn_At p l e rmX2_neighbours s m args below meth c Q D ct ad layC A 4 σ 75 [(2, .int x2)] [] := by
  intro H locs ls hw hl
  have hx := C.1
  have hb := C.2.1
  unfold BX2_neighbours_75 at hf
  refine lv_iload_n hx hb dX2_neighbours_75 rfl (lv_at hl 0 rfl) ?_
  cases hf
  exact kr _ _ _ _ hw rfl dX2_neighbours_76
theorem wX2_neighbours_69 (C : sn_C p s m args meth c RX2 cX2_neighbours 4 (some .int) D ct ad layC A) {σ : sn_S} {q0 : Nat} {x1 : Int32} {x2 : Int32} {x3 : Int32} (h0 : sn_isX2 q0) {o : (Int32 × Int32) ⊕ (Int32)} (hf : BX2_neighbours_69 σ q0 x1 x2 x3 = some o) (kc : ∀ v, o = .inl v → sn_At p l e rmX2_neighbours s m args below meth c Q D ct ad layC A 4 σ 4 [(0, .ref (ad q0)), (1, .int x1), (2, .int v.1), (3, .int v.2)] []) (kx : ∀ v, o = .inr v → sn_At p l e rmX2_neighbours s m args below meth c Q D ct ad layC A 4 σ 75 [(2, .int v)] []) : sn_At p l e rmX2_neighbours s m args below meth c Q D ct ad layC A 4 σ 69 [(0, .ref (ad q0)), (1, .int x1), (2, .int x2), (3, .int x3)] [] := by
  intro H locs ls hw hl
  have hx := C.1
  have hb := C.2.1
  unfold BX2_neighbours_69 at hf
  obtain ⟨y_1, e_2, hf⟩ := sn_ltE hf
  refine lv_iinc (v := y_1) (lv' := [(3, .int y_1), (0, .ref (ad q0)), (1, .int x1), (2, .int x2)]) hx hb dX2_neighbours_69 hl (k := 3) rfl (by rw [e_2]; rfl) (by decide) rfl (fun ls hl => ?_)
  refine lv_goto (tgt := 4) hx hb dX2_neighbours_72 (by decide) ?_
  cases hf
  exact kc _ rfl _ _ _ hw (lv_sub hl [1, 2, 3, 0] rfl)
theorem wX2_neighbours_42 (C : sn_C p s m args meth c RX2 cX2_neighbours 4 (some .int) D ct ad layC A) {σ : sn_S} {q0 : Nat} {x1 : Int32} {x2 : Int32} {x3 : Int32} (h0 : sn_isX2 q0) {o : (Int32 × Int32) ⊕ (Int32)} (hf : BX2_neighbours_42 σ q0 x1 x2 x3 = some o) (kc : ∀ v, o = .inl v → sn_At p l e rmX2_neighbours s m args below meth c Q D ct ad layC A 4 σ 4 [(0, .ref (ad q0)), (1, .int x1), (2, .int v.1), (3, .int v.2)] []) (kx : ∀ v, o = .inr v → sn_At p l e rmX2_neighbours s m args below meth c Q D ct ad layC A 4 σ 75 [(2, .int v)] []) : sn_At p l e rmX2_neighbours s m args below meth c Q D ct ad layC A 4 σ 42 [(0, .ref (ad q0)), (1, .int x1), (2, .int x2), (3, .int x3)] [] := by
  intro H locs ls hw hl
  have hx := C.1
  have hb := C.2.1
  unfold BX2_neighbours_42 at hf
  refine lv_aload_n hx hb dX2_neighbours_42 rfl (lv_at hl 0 rfl) ?_
  refine sn_getC (r := (q0 + 4)) C hw fd_RX2_21 (sn_look h0 (k := 0) rfl) rfl dX2_neighbours_43 ?_
  refine lv_iconst (v := 2) hx hb dX2_neighbours_46 rfl ?_
  refine lv_iload_n hx hb dX2_neighbours_47 rfl (lv_at hl 3 rfl) ?_
  refine lv_imul hx hb dX2_neighbours_48 ?_
  refine lv_iconst (v := 1) hx hb dX2_neighbours_49 rfl ?_
  refine lv_iadd hx hb dX2_neighbours_50 ?_
  obtain ⟨g_1, hf⟩ := sn_gdE hf
  refine sn_iald C hw (sn_look h0 (k := 4) rfl) g_1 dX2_neighbours_51 ?_
  refine lv_iload_n hx hb dX2_neighbours_52 rfl (lv_at hl 1 rfl) ?_
  refine lv_icmp_ne (tgt := 69) hx hb dX2_neighbours_53 (by decide) (fun c_2 => ?_) (fun c_2 => ?_)
  · have hf := sn_el c_2 hf
    exact wX2_neighbours_69 C h0 hf kc kx _ _ _ hw (lv_sub hl [0, 1, 2, 3] rfl)
  · have hf := sn_if c_2 hf
    refine lv_iload_n hx hb dX2_neighbours_56 rfl (lv_at hl 2 rfl) ?_
    refine lv_iconst (v := 1) hx hb dX2_neighbours_57 rfl ?_
    refine lv_aload_n hx hb dX2_neighbours_58 rfl (lv_at hl 0 rfl) ?_
    refine sn_getC (r := (q0 + 4)) C hw fd_RX2_21 (sn_look h0 (k := 0) rfl) rfl dX2_neighbours_59 ?_
    refine lv_iconst (v := 2) hx hb dX2_neighbours_62 rfl ?_
    refine lv_iload_n hx hb dX2_neighbours_63 rfl (lv_at hl 3 rfl) ?_
    refine lv_imul hx hb dX2_neighbours_64 ?_
    obtain ⟨g_3, hf⟩ := sn_gdE hf
    refine sn_iald C hw (sn_look h0 (k := 4) rfl) g_3 dX2_neighbours_65 ?_
    refine lv_ishl hx hb dX2_neighbours_66 ?_
    refine lv_ior hx hb dX2_neighbours_67 ?_
    obtain ⟨y_4, e_5, hf⟩ := sn_ltE hf
    refine lv_topi (fun y_4_ e_5_ => ?_)
    obtain rfl : y_4 = y_4_ := e_5.trans e_5_.symm
    refine lv_istore_n (lv' := [(2, .int y_4), (0, .ref (ad q0)), (1, .int x1), (3, .int x3)]) hx hb dX2_neighbours_68 rfl hl (by decide) rfl (fun ls hl => ?_)
    exact wX2_neighbours_69 C h0 hf kc kx _ _ _ hw (lv_sub hl [1, 2, 0, 3] rfl)
theorem wX2_neighbours_4 (C : sn_C p s m args meth c RX2 cX2_neighbours 4 (some .int) D ct ad layC A) {σ : sn_S} {q0 : Nat} {x1 : Int32} {x2 : Int32} {x3 : Int32} (h0 : sn_isX2 q0) {o : (Int32 × Int32) ⊕ (Int32)} (hf : BX2_neighbours_4 σ q0 x1 x2 x3 = some o) (kc : ∀ v, o = .inl v → sn_At p l e rmX2_neighbours s m args below meth c Q D ct ad layC A 4 σ 4 [(0, .ref (ad q0)), (1, .int x1), (2, .int v.1), (3, .int v.2)] []) (kx : ∀ v, o = .inr v → sn_At p l e rmX2_neighbours s m args below meth c Q D ct ad layC A 4 σ 75 [(2, .int v)] []) : sn_At p l e rmX2_neighbours s m args below meth c Q D ct ad layC A 4 σ 4 [(0, .ref (ad q0)), (1, .int x1), (2, .int x2), (3, .int x3)] [] := by
  intro H locs ls hw hl
  have hx := C.1
  have hb := C.2.1
  unfold BX2_neighbours_4 at hf
  refine lv_iload_n hx hb dX2_neighbours_4 rfl (lv_at hl 3 rfl) ?_
  refine lv_aload_n hx hb dX2_neighbours_5 rfl (lv_at hl 0 rfl) ?_
  refine sn_getC (r := (q0 + 1)) C hw fd_RX2_9 (sn_look h0 (k := 0) rfl) rfl dX2_neighbours_6 ?_
  refine lv_bipush (v := 7) hx hb dX2_neighbours_9 (by decide) ?_
  obtain ⟨g_1, hf⟩ := sn_gdE hf
  refine sn_iald C hw (sn_look h0 (k := 1) rfl) g_1 dX2_neighbours_11 ?_
  refine lv_icmp_ge (tgt := 75) hx hb dX2_neighbours_12 (by decide) (fun c_2 => ?_) (fun c_2 => ?_)
  · have hf := sn_if c_2 hf
    cases hf
    exact kx _ rfl _ _ _ hw (lv_sub hl [2] rfl)
  · have hf := sn_el c_2 hf
    refine lv_aload_n hx hb dX2_neighbours_15 rfl (lv_at hl 0 rfl) ?_
    refine sn_getC (r := (q0 + 4)) C hw fd_RX2_21 (sn_look h0 (k := 0) rfl) rfl dX2_neighbours_16 ?_
    refine lv_iconst (v := 2) hx hb dX2_neighbours_19 rfl ?_
    refine lv_iload_n hx hb dX2_neighbours_20 rfl (lv_at hl 3 rfl) ?_
    refine lv_imul hx hb dX2_neighbours_21 ?_
    obtain ⟨g_3, hf⟩ := sn_gdE hf
    refine sn_iald C hw (sn_look h0 (k := 4) rfl) g_3 dX2_neighbours_22 ?_
    refine lv_iload_n hx hb dX2_neighbours_23 rfl (lv_at hl 1 rfl) ?_
    refine lv_icmp_ne (tgt := 42) hx hb dX2_neighbours_24 (by decide) (fun c_4 => ?_) (fun c_4 => ?_)
    · have hf := sn_el c_4 hf
      exact wX2_neighbours_42 C h0 hf kc kx _ _ _ hw (lv_sub hl [0, 1, 2, 3] rfl)
    · have hf := sn_if c_4 hf
      refine lv_iload_n hx hb dX2_neighbours_27 rfl (lv_at hl 2 rfl) ?_
      refine lv_iconst (v := 1) hx hb dX2_neighbours_28 rfl ?_
      refine lv_aload_n hx hb dX2_neighbours_29 rfl (lv_at hl 0 rfl) ?_
      refine sn_getC (r := (q0 + 4)) C hw fd_RX2_21 (sn_look h0 (k := 0) rfl) rfl dX2_neighbours_30 ?_
      refine lv_iconst (v := 2) hx hb dX2_neighbours_33 rfl ?_
      refine lv_iload_n hx hb dX2_neighbours_34 rfl (lv_at hl 3 rfl) ?_
      refine lv_imul hx hb dX2_neighbours_35 ?_
      refine lv_iconst (v := 1) hx hb dX2_neighbours_36 rfl ?_
      refine lv_iadd hx hb dX2_neighbours_37 ?_
      obtain ⟨g_5, hf⟩ := sn_gdE hf
      refine sn_iald C hw (sn_look h0 (k := 4) rfl) g_5 dX2_neighbours_38 ?_
      refine lv_ishl hx hb dX2_neighbours_39 ?_
      refine lv_ior hx hb dX2_neighbours_40 ?_
      obtain ⟨y_6, e_7, hf⟩ := sn_ltE hf
      refine lv_topi (fun y_6_ e_7_ => ?_)
      obtain rfl : y_6 = y_6_ := e_7.trans e_7_.symm
      refine lv_istore_n (lv' := [(2, .int y_6), (0, .ref (ad q0)), (1, .int x1), (3, .int x3)]) hx hb dX2_neighbours_41 rfl hl (by decide) rfl (fun ls hl => ?_)
      exact wX2_neighbours_42 C h0 hf kc kx _ _ _ hw (lv_sub hl [1, 2, 0, 3] rfl)
theorem wX2_neighbours_L4 (C : sn_C p s m args meth c RX2 cX2_neighbours 4 (some .int) D ct ad layC A) {σ : sn_S} {q0 : Nat} {x1 : Int32}  (h0 : sn_isX2 q0) {z : Int32 × Int32} {t : Int32} (h : sn_it (LX2_neighbours_4 σ q0 x1) 5000 z = some t) (kx : ∀ v, t = v → sn_At p l e rmX2_neighbours s m args below meth c Q D ct ad layC A 4 σ 75 [(2, .int v)] []) : sn_At p l e rmX2_neighbours s m args below meth c Q D ct ad layC A 4 σ 4 [(0, .ref (ad q0)), (1, .int x1), (2, .int z.1), (3, .int z.2)] [] :=
  sn_loop (f := LX2_neighbours_4 σ q0 x1) (G := fun z => sn_At p l e rmX2_neighbours s m args below meth c Q D ct ad layC A 4 σ 4 [(0, .ref (ad q0)), (1, .int x1), (2, .int z.1), (3, .int z.2)] []) (E := fun t => (∀ v, t = v → sn_At p l e rmX2_neighbours s m args below meth c Q D ct ad layC A 4 σ 75 [(2, .int v)] []) ∧ True) (fun z o hf k1 k2 => wX2_neighbours_4 C h0 hf (fun v e => k1 v e) (fun v e => (k2 _ e).1 v rfl)) 5000 z t h ⟨kx, trivial⟩
theorem wX2_neighbours_in (C : sn_C p s m args meth c RX2 cX2_neighbours 4 (some .int) D ct ad layC A) {σ : sn_S} {q0 : Nat} {x1 : Int32} (h0 : sn_isX2 q0) {o : Int32} (hf : fX2_neighbours σ q0 x1 = some o) (kr : sn_Kr p l e rmX2_neighbours s m args below meth c Q D ct ad layC A cX2_neighbours .ireturn (true) σ [.int o]) : sn_At p l e rmX2_neighbours s m args below meth c Q D ct ad layC A 4 σ 0 [(0, .ref (ad q0)), (1, .int x1)] [] := by
  intro H locs ls hw hl
  have hx := C.1
  have hb := C.2.1
  unfold fX2_neighbours at hf
  refine lv_iconst (v := 0) hx hb dX2_neighbours_0 rfl ?_
  refine lv_istore_n (lv' := [(2, .int (0 : Int32)), (0, .ref (ad q0)), (1, .int x1)]) hx hb dX2_neighbours_1 rfl hl (by decide) rfl (fun ls hl => ?_)
  refine lv_iconst (v := 0) hx hb dX2_neighbours_2 rfl ?_
  refine lv_istore_n (lv' := [(3, .int (0 : Int32)), (2, .int (0 : Int32)), (0, .ref (ad q0)), (1, .int x1)]) hx hb dX2_neighbours_3 rfl hl (by decide) rfl (fun ls hl => ?_)
  obtain ⟨t_1, h_2, hf⟩ := sn_bd hf
  exact wX2_neighbours_L4 C h0 h_2 (fun v e => by cases e; exact wX2_neighbours_75 C h0 hf kr) _ _ _ hw (lv_sub hl [2, 3, 1, 0] rfl)
theorem ctX2_neighbours (l : Launch) {σ : sn_S} {q0 : Nat} {x1 : Int32} (h0 : sn_isX2 q0) {o : Int32} (hf : fX2_neighbours σ q0 x1 = some o) : sn_M l yX2_neighbours cX2_neighbours 4 (some .int) rmX2_neighbours layC (fun ad => [.ref (ad q0), .int x1]) σ (some (fun _ => .int o)) σ :=
  sn_met (by decide) (fun _ => Nat.le_of_ble_eq_true rfl) (fun p e s m args below meth c ls D ct ad A C hw hl => wX2_neighbours_in C h0 hf (fun H locs ls pc hw ok hd => sn_iret C hw hd) _ _ _ hw hl)
-- X2_act
abbrev rmX2_act : Room := { frames := 0, cells := 0, slots := 0, locals := 0 }
def fX2_act (σ : sn_S) (q0 : Nat) (x1 : Int32) (x2 : Int32) (x3 : Int32) : Option (Int32 × sn_S) :=
  (sn_gd (sn_in (9 : Int32) 11) (sn_lt (sn_I σ (q0 + 1) (9 : Int32).toNatClampNeg) fun y_2 => (if y_2 < (40 : Int32) then
  (sn_gd (sn_in ((3 : Int32) * y_2) 120) (sn_lt (sn_pI σ (q0 + 6) ((3 : Int32) * y_2).toNatClampNeg x1) fun σ_6 => (sn_gd (sn_in (((3 : Int32) * y_2) + (1 : Int32)) 120) (sn_lt (sn_pI σ_6 (q0 + 6) (((3 : Int32) * y_2) + (1 : Int32)).toNatClampNeg x2) fun σ_9 => (sn_gd (sn_in (((3 : Int32) * y_2) + (2 : Int32)) 120) (sn_lt (sn_pI σ_9 (q0 + 6) (((3 : Int32) * y_2) + (2 : Int32)).toNatClampNeg x3) fun σ_12 => (sn_gd (sn_in (9 : Int32) 11) (sn_lt (sn_pI σ_12 (q0 + 1) (9 : Int32).toNatClampNeg (y_2 + (1 : Int32))) fun σ_15 => (sn_gd (sn_b01 (1 : Int32)) (some ((1 : Int32), σ_15)))))))))))
  else
  (sn_gd (sn_b01 (0 : Int32)) (some ((0 : Int32), σ))))))
theorem wX2_act_in (C : sn_C p s m args meth c RX2 cX2_act 5 (some .boolean) D ct ad layC A) {σ : sn_S} {q0 : Nat} {x1 : Int32} {x2 : Int32} {x3 : Int32} (h0 : sn_isX2 q0) {o : (Int32 × sn_S)} (hf : fX2_act σ q0 x1 x2 x3 = some o) (kr : sn_Kr p l e rmX2_act s m args below meth c Q D ct ad layC A cX2_act .ireturn (sn_b01 o.1) o.2 [.int o.1]) : sn_At p l e rmX2_act s m args below meth c Q D ct ad layC A 5 σ 0 [(0, .ref (ad q0)), (1, .int x1), (2, .int x2), (3, .int x3)] [] := by
  intro H locs ls hw hl
  have hx := C.1
  have hb := C.2.1
  unfold fX2_act at hf
  refine lv_aload_n hx hb dX2_act_0 rfl (lv_at hl 0 rfl) ?_
  refine sn_getC (r := (q0 + 1)) C hw fd_RX2_9 (sn_look h0 (k := 0) rfl) rfl dX2_act_1 ?_
  refine lv_bipush (v := 9) hx hb dX2_act_4 (by decide) ?_
  obtain ⟨g_1, hf⟩ := sn_gdE hf
  refine sn_iald C hw (sn_look h0 (k := 1) rfl) g_1 dX2_act_6 ?_
  obtain ⟨y_2, e_3, hf⟩ := sn_ltE hf
  refine lv_topi (fun y_2_ e_3_ => ?_)
  obtain rfl : y_2 = y_2_ := e_3.trans e_3_.symm
  refine lv_istore (lv' := [(4, .int y_2), (0, .ref (ad q0)), (1, .int x1), (2, .int x2), (3, .int x3)]) hx hb dX2_act_7 hl (by decide) rfl (fun ls hl => ?_)
  refine lv_iload hx hb dX2_act_9 (lv_at hl 0 rfl) ?_
  refine lv_bipush (v := 40) hx hb dX2_act_11 (by decide) ?_
  refine lv_icmp_lt (tgt := 18) hx hb dX2_act_13 (by decide) (fun c_4 => ?_) (fun c_4 => ?_)
  · have hf := sn_if c_4 hf
    refine lv_aload_n hx hb dX2_act_18 rfl (lv_at hl 1 rfl) ?_
    refine sn_getC (r := (q0 + 6)) C hw fd_RX2_27 (sn_look h0 (k := 0) rfl) rfl dX2_act_19 ?_
    refine lv_iconst (v := 3) hx hb dX2_act_22 rfl ?_
    refine lv_iload hx hb dX2_act_23 (lv_at hl 0 rfl) ?_
    refine lv_imul hx hb dX2_act_25 ?_
    refine lv_iload_n hx hb dX2_act_26 rfl (lv_at hl 2 rfl) ?_
    obtain ⟨g_5, hf⟩ := sn_gdE hf
    refine sn_iast C hw (sn_look h0 (k := 6) rfl) g_5 dX2_act_27 (fun H locs hw => ?_)
    obtain ⟨σ_6, e_7, hf⟩ := sn_ltE hf
    rw [← e_7] at hw
    refine lv_aload_n hx hb dX2_act_28 rfl (lv_at hl 1 rfl) ?_
    refine sn_getC (r := (q0 + 6)) C hw fd_RX2_27 (sn_look h0 (k := 0) rfl) rfl dX2_act_29 ?_
    refine lv_iconst (v := 3) hx hb dX2_act_32 rfl ?_
    refine lv_iload hx hb dX2_act_33 (lv_at hl 0 rfl) ?_
    refine lv_imul hx hb dX2_act_35 ?_
    refine lv_iconst (v := 1) hx hb dX2_act_36 rfl ?_
    refine lv_iadd hx hb dX2_act_37 ?_
    refine lv_iload_n hx hb dX2_act_38 rfl (lv_at hl 3 rfl) ?_
    obtain ⟨g_8, hf⟩ := sn_gdE hf
    refine sn_iast C hw (sn_look h0 (k := 6) rfl) g_8 dX2_act_39 (fun H locs hw => ?_)
    obtain ⟨σ_9, e_10, hf⟩ := sn_ltE hf
    rw [← e_10] at hw
    refine lv_aload_n hx hb dX2_act_40 rfl (lv_at hl 1 rfl) ?_
    refine sn_getC (r := (q0 + 6)) C hw fd_RX2_27 (sn_look h0 (k := 0) rfl) rfl dX2_act_41 ?_
    refine lv_iconst (v := 3) hx hb dX2_act_44 rfl ?_
    refine lv_iload hx hb dX2_act_45 (lv_at hl 0 rfl) ?_
    refine lv_imul hx hb dX2_act_47 ?_
    refine lv_iconst (v := 2) hx hb dX2_act_48 rfl ?_
    refine lv_iadd hx hb dX2_act_49 ?_
    refine lv_iload_n hx hb dX2_act_50 rfl (lv_at hl 4 rfl) ?_
    obtain ⟨g_11, hf⟩ := sn_gdE hf
    refine sn_iast C hw (sn_look h0 (k := 6) rfl) g_11 dX2_act_51 (fun H locs hw => ?_)
    obtain ⟨σ_12, e_13, hf⟩ := sn_ltE hf
    rw [← e_13] at hw
    refine lv_aload_n hx hb dX2_act_52 rfl (lv_at hl 1 rfl) ?_
    refine sn_getC (r := (q0 + 1)) C hw fd_RX2_9 (sn_look h0 (k := 0) rfl) rfl dX2_act_53 ?_
    refine lv_bipush (v := 9) hx hb dX2_act_56 (by decide) ?_
    refine lv_iload hx hb dX2_act_58 (lv_at hl 0 rfl) ?_
    refine lv_iconst (v := 1) hx hb dX2_act_60 rfl ?_
    refine lv_iadd hx hb dX2_act_61 ?_
    obtain ⟨g_14, hf⟩ := sn_gdE hf
    refine sn_iast C hw (sn_look h0 (k := 1) rfl) g_14 dX2_act_62 (fun H locs hw => ?_)
    obtain ⟨σ_15, e_16, hf⟩ := sn_ltE hf
    rw [← e_16] at hw
    refine lv_iconst (v := 1) hx hb dX2_act_63 rfl ?_
    obtain ⟨g_17, hf⟩ := sn_gdE hf
    cases hf
    exact kr _ _ _ _ hw g_17 dX2_act_64
  · have hf := sn_el c_4 hf
    refine lv_iconst (v := 0) hx hb dX2_act_16 rfl ?_
    obtain ⟨g_18, hf⟩ := sn_gdE hf
    cases hf
    exact kr _ _ _ _ hw g_18 dX2_act_17
theorem ctX2_act (l : Launch) {σ : sn_S} {q0 : Nat} {x1 : Int32} {x2 : Int32} {x3 : Int32} (h0 : sn_isX2 q0) {o : (Int32 × sn_S)} (hf : fX2_act σ q0 x1 x2 x3 = some o) : sn_M l yX2_act cX2_act 5 (some .boolean) rmX2_act layC (fun ad => [.ref (ad q0), .int x1, .int x2, .int x3]) σ (some (fun _ => .int o.1)) o.2 :=
  sn_met (by decide) (fun _ => Nat.le_of_ble_eq_true rfl) (fun p e s m args below meth c ls D ct ad A C hw hl => wX2_act_in C h0 hf (fun H locs ls pc hw ok hd => sn_zret C hw ok hd) _ _ _ hw hl)
-- X3_counting
abbrev rmX3_counting : Room := { frames := 1, cells := 0, slots := 0, locals := 22 }
def fX3_counting (σ : sn_S) (q0 : Nat) (x1 : Int32) (x2 : Int32) (x3 : Int32) : Option Int32 :=
  ((fX2_window σ q0 x2).bind fun t_1 => (sn_lt (x3 &&& t_1) fun y_3 => (if x1 = (1 : Int32) then
  ((fX2_gustMinutes σ q0).bind fun t_6 => (some (y_3 &&& (t_6 ^^^ (-1 : Int32)))))
  else
  (some y_3))))
theorem wX3_counting_in (C : sn_C p s m args meth c RX3 cX3_counting 5 (some .int) D ct ad layC A) {σ : sn_S} {q0 : Nat} {x1 : Int32} {x2 : Int32} {x3 : Int32} (h0 : sn_isX2 q0) {o : Int32} (hf : fX3_counting σ q0 x1 x2 x3 = some o) (kr : sn_Kr p l e rmX3_counting s m args below meth c Q D ct ad layC A cX3_counting .ireturn (true) σ [.int o]) : sn_At p l e rmX3_counting s m args below meth c Q D ct ad layC A 5 σ 0 [(0, .ref (ad q0)), (1, .int x1), (2, .int x2), (3, .int x3)] [] := by
  intro H locs ls hw hl
  have hx := C.1
  have hb := C.2.1
  unfold fX3_counting at hf
  refine lv_iload_n hx hb dX3_counting_0 rfl (lv_at hl 3 rfl) ?_
  refine lv_aload_n hx hb dX3_counting_1 rfl (lv_at hl 0 rfl) ?_
  refine lv_iload_n hx hb dX3_counting_2 rfl (lv_at hl 2 rfl) ?_
  obtain ⟨t_1, h_2, hf⟩ := sn_bd hf
  refine sn_callVi (rest := [.int x3]) C hw (ctX2_window l h0 h_2) kl_RX3_54 (sn_look h0 (k := 0) rfl) rfl rfl rfl rfl (Nat.le_of_ble_eq_true rfl) dX3_counting_3 hl.1 (fun H locs hw => ?_)
  refine lv_iand hx hb dX3_counting_6 ?_
  obtain ⟨y_3, e_4, hf⟩ := sn_ltE hf
  refine lv_topi (fun y_3_ e_4_ => ?_)
  obtain rfl : y_3 = y_3_ := e_4.trans e_4_.symm
  refine lv_istore (lv' := [(4, .int y_3), (0, .ref (ad q0)), (1, .int x1), (2, .int x2), (3, .int x3)]) hx hb dX3_counting_7 hl (by decide) rfl (fun ls hl => ?_)
  refine lv_iload_n hx hb dX3_counting_9 rfl (lv_at hl 2 rfl) ?_
  refine lv_iconst (v := 1) hx hb dX3_counting_10 rfl ?_
  refine lv_icmp_ne (tgt := 26) hx hb dX3_counting_11 (by decide) (fun c_5 => ?_) (fun c_5 => ?_)
  · have hf := sn_el c_5 hf
    refine lv_iload hx hb dX3_counting_26 (lv_at hl 0 rfl) ?_
    cases hf
    exact kr _ _ _ _ hw rfl dX3_counting_28
  · have hf := sn_if c_5 hf
    refine lv_iload hx hb dX3_counting_14 (lv_at hl 0 rfl) ?_
    refine lv_aload_n hx hb dX3_counting_16 rfl (lv_at hl 1 rfl) ?_
    obtain ⟨t_6, h_7, hf⟩ := sn_bd hf
    refine sn_callVi (rest := [.int y_3]) C hw (ctX2_gustMinutes l h0 h_7) kl_RX3_57 (sn_look h0 (k := 0) rfl) rfl rfl rfl rfl (Nat.le_of_ble_eq_true rfl) dX3_counting_17 hl.1 (fun H locs hw => ?_)
    refine lv_iconst (v := (-1)) hx hb dX3_counting_20 rfl ?_
    refine lv_ixor hx hb dX3_counting_21 ?_
    refine lv_iand hx hb dX3_counting_22 ?_
    refine lv_goto (tgt := 28) hx hb dX3_counting_23 (by decide) ?_
    cases hf
    exact kr _ _ _ _ hw rfl dX3_counting_28
theorem ctX3_counting (l : Launch) {σ : sn_S} {q0 : Nat} {x1 : Int32} {x2 : Int32} {x3 : Int32} (h0 : sn_isX2 q0) {o : Int32} (hf : fX3_counting σ q0 x1 x2 x3 = some o) : sn_M l yX3_counting cX3_counting 5 (some .int) rmX3_counting layC (fun ad => [.ref (ad q0), .int x1, .int x2, .int x3]) σ (some (fun _ => .int o)) σ :=
  sn_met (by decide) (fun _ => Nat.le_of_ble_eq_true rfl) (fun p e s m args below meth c ls D ct ad A C hw hl => wX3_counting_in C h0 hf (fun H locs ls pc hw ok hd => sn_iret C hw hd) _ _ _ hw hl)
-- X8_lowestBit
abbrev rmX8_lowestBit : Room := { frames := 1, cells := 0, slots := 0, locals := 20 }
def fX8_lowestBit (x0 : Int32) : Option Int32 :=
  (if x0 = 0 then
  (some (-1 : Int32))
  else
  ((fJ6_bitCount_0f7a4 ((x0 &&& (-x0)) - (1 : Int32))).bind fun t_2 => (some t_2)))
theorem wX8_lowestBit_in (C : sn_C p s m args meth c RX8 cX8_lowestBit 1 (some .int) D ct ad layC A) {σ : sn_S} {x0 : Int32}  {o : Int32} (hf : fX8_lowestBit x0 = some o) (kr : sn_Kr p l e rmX8_lowestBit s m args below meth c Q D ct ad layC A cX8_lowestBit .ireturn (true) σ [.int o]) : sn_At p l e rmX8_lowestBit s m args below meth c Q D ct ad layC A 1 σ 0 [(0, .int x0)] [] := by
  intro H locs ls hw hl
  have hx := C.1
  have hb := C.2.1
  unfold fX8_lowestBit at hf
  refine lv_iload_n hx hb dX8_lowestBit_0 rfl (lv_at hl 0 rfl) ?_
  refine lv_if_ne (tgt := 8) hx hb dX8_lowestBit_1 (by decide) (fun c_1 => ?_) (fun c_1 => ?_)
  · have hf := sn_el c_1 hf
    refine lv_iload_n hx hb dX8_lowestBit_8 rfl (lv_at hl 0 rfl) ?_
    refine lv_iload_n hx hb dX8_lowestBit_9 rfl (lv_at hl 0 rfl) ?_
    refine lv_ineg hx hb dX8_lowestBit_10 ?_
    refine lv_iand hx hb dX8_lowestBit_11 ?_
    refine lv_iconst (v := 1) hx hb dX8_lowestBit_12 rfl ?_
    refine lv_isub hx hb dX8_lowestBit_13 ?_
    obtain ⟨t_2, h_3, hf⟩ := sn_bd hf
    refine sn_callSi (rest := []) C hw (ctJ6_bitCount_0f7a4 l  h_3) kl_RX8_165 rfl rfl rfl (Nat.le_of_ble_eq_true rfl) dX8_lowestBit_14 hl.1 (fun H locs hw => ?_)
    cases hf
    exact kr _ _ _ _ hw rfl dX8_lowestBit_17
  · have hf := sn_if c_1 hf
    refine lv_iconst (v := (-1)) hx hb dX8_lowestBit_4 rfl ?_
    refine lv_goto (tgt := 17) hx hb dX8_lowestBit_5 (by decide) ?_
    cases hf
    exact kr _ _ _ _ hw rfl dX8_lowestBit_17
theorem ctX8_lowestBit (l : Launch) {σ : sn_S} {x0 : Int32}  {o : Int32} (hf : fX8_lowestBit x0 = some o) : sn_M l yX8_lowestBit cX8_lowestBit 1 (some .int) rmX8_lowestBit layC (fun ad => [.int x0]) σ (some (fun _ => .int o)) σ :=
  sn_met (by decide) (fun _ => Nat.le_of_ble_eq_true rfl) (fun p e s m args below meth c ls D ct ad A C hw hl => wX8_lowestBit_in C  hf (fun H locs ls pc hw ok hd => sn_iret C hw hd) _ _ _ hw hl)
-- X3_claimBy
abbrev rmX3_claimBy : Room := { frames := 2, cells := 0, slots := 0, locals := 46 }
def fX3_claimBy (σ : sn_S) (q0 : Nat) (x1 : Int32) (x2 : Int32) (x3 : Int32) (x4 : Int32) : Option Int32 :=
  ((fX3_counting σ q0 x1 x2 x3).bind fun t_1 => ((fX2_ofPolicy σ q0 x2 (3 : Int32)).bind fun t_3 => (if t_1 = 0 then
  (some (0 : Int32))
  else
  (if x1 = (2 : Int32) then
  ((fJ6_bitCount_0f7a4 t_1).bind fun t_17 => (sn_lt (if t_17 < (3 : Int32) then t_17 else (3 : Int32)) fun y_19 => (some (t_3 * y_19))))
  else
  ((fX8_lowestBit t_1).bind fun t_7 => ((fX8_firstMinutes t_7).bind fun t_9 => ((fX2_window σ q0 x2).bind fun t_11 => (sn_lt (t_9 &&& t_11) fun y_13 => (if x1 = (3 : Int32) then
  (if (x4 &&& y_13) = 0 then
  (some t_3)
  else
  (some (t_3 / (2 : Int32))))
  else
  (some t_3))))))))))
theorem wX3_claimBy_in (C : sn_C p s m args meth c RX3 cX3_claimBy 8 (some .int) D ct ad layC A) {σ : sn_S} {q0 : Nat} {x1 : Int32} {x2 : Int32} {x3 : Int32} {x4 : Int32} (h0 : sn_isX2 q0) {o : Int32} (hf : fX3_claimBy σ q0 x1 x2 x3 x4 = some o) (kr : sn_Kr p l e rmX3_claimBy s m args below meth c Q D ct ad layC A cX3_claimBy .ireturn (true) σ [.int o]) : sn_At p l e rmX3_claimBy s m args below meth c Q D ct ad layC A 8 σ 0 [(0, .ref (ad q0)), (1, .int x1), (2, .int x2), (3, .int x3), (4, .int x4)] [] := by
  intro H locs ls hw hl
  have hx := C.1
  have hb := C.2.1
  unfold fX3_claimBy at hf
  refine lv_aload_n hx hb dX3_claimBy_0 rfl (lv_at hl 0 rfl) ?_
  refine lv_iload_n hx hb dX3_claimBy_1 rfl (lv_at hl 1 rfl) ?_
  refine lv_iload_n hx hb dX3_claimBy_2 rfl (lv_at hl 2 rfl) ?_
  refine lv_iload_n hx hb dX3_claimBy_3 rfl (lv_at hl 3 rfl) ?_
  obtain ⟨t_1, h_2, hf⟩ := sn_bd hf
  refine sn_callSi (rest := []) C hw (ctX3_counting l h0 h_2) kl_RX3_46 rfl rfl rfl (Nat.le_of_ble_eq_true rfl) dX3_claimBy_4 hl.1 (fun H locs hw => ?_)
  refine lv_istore (lv' := [(5, .int t_1), (0, .ref (ad q0)), (1, .int x1), (2, .int x2), (3, .int x3), (4, .int x4)]) hx hb dX3_claimBy_7 hl (by decide) rfl (fun ls hl => ?_)
  refine lv_aload_n hx hb dX3_claimBy_9 rfl (lv_at hl 1 rfl) ?_
  refine lv_iload_n hx hb dX3_claimBy_10 rfl (lv_at hl 3 rfl) ?_
  refine lv_iconst (v := 3) hx hb dX3_claimBy_11 rfl ?_
  obtain ⟨t_3, h_4, hf⟩ := sn_bd hf
  refine sn_callVi (rest := []) C hw (ctX2_ofPolicy l h0 h_4) kl_RX3_30 (sn_look h0 (k := 0) rfl) rfl rfl rfl rfl (Nat.le_of_ble_eq_true rfl) dX3_claimBy_12 hl.1 (fun H locs hw => ?_)
  refine lv_istore (lv' := [(6, .int t_3), (5, .int t_1), (0, .ref (ad q0)), (1, .int x1), (2, .int x2), (3, .int x3), (4, .int x4)]) hx hb dX3_claimBy_15 hl (by decide) rfl (fun ls hl => ?_)
  refine lv_iload hx hb dX3_claimBy_17 (lv_at hl 1 rfl) ?_
  refine lv_if_ne (tgt := 24) hx hb dX3_claimBy_19 (by decide) (fun c_5 => ?_) (fun c_5 => ?_)
  · have hf := sn_el c_5 hf
    refine lv_iload_n hx hb dX3_claimBy_24 rfl (lv_at hl 3 rfl) ?_
    refine lv_iconst (v := 2) hx hb dX3_claimBy_25 rfl ?_
    refine lv_icmp_ne (tgt := 42) hx hb dX3_claimBy_26 (by decide) (fun c_6 => ?_) (fun c_6 => ?_)
    · have hf := sn_el c_6 hf
      refine lv_iload hx hb dX3_claimBy_42 (lv_at hl 1 rfl) ?_
      obtain ⟨t_7, h_8, hf⟩ := sn_bd hf
      refine sn_callNi (rest := []) C hw (ctX8_lowestBit l  h_8) kl_RX3_50 rfl rfl rfl (Nat.le_of_ble_eq_true rfl) dX3_claimBy_44 hl.1 (fun H locs hw => ?_)
      obtain ⟨t_9, h_10, hf⟩ := sn_bd hf
      refine sn_callNi (rest := []) C hw (ctX8_firstMinutes l  h_10) kl_RX3_71 rfl rfl rfl (Nat.le_of_ble_eq_true rfl) dX3_claimBy_47 hl.1 (fun H locs hw => ?_)
      refine lv_aload_n hx hb dX3_claimBy_50 rfl (lv_at hl 2 rfl) ?_
      refine lv_iload_n hx hb dX3_claimBy_51 rfl (lv_at hl 4 rfl) ?_
      obtain ⟨t_11, h_12, hf⟩ := sn_bd hf
      refine sn_callVi (rest := [.int t_9]) C hw (ctX2_window l h0 h_12) kl_RX3_54 (sn_look h0 (k := 0) rfl) rfl rfl rfl rfl (Nat.le_of_ble_eq_true rfl) dX3_claimBy_52 hl.1 (fun H locs hw => ?_)
      refine lv_iand hx hb dX3_claimBy_55 ?_
      obtain ⟨y_13, e_14, hf⟩ := sn_ltE hf
      refine lv_topi (fun y_13_ e_14_ => ?_)
      obtain rfl : y_13 = y_13_ := e_14.trans e_14_.symm
      refine lv_istore (lv' := [(7, .int y_13), (6, .int t_3), (5, .int t_1), (0, .ref (ad q0)), (1, .int x1), (2, .int x2), (3, .int x3), (4, .int x4)]) hx hb dX3_claimBy_56 hl (by decide) rfl (fun ls hl => ?_)
      refine lv_iload_n hx hb dX3_claimBy_58 rfl (lv_at hl 4 rfl) ?_
      refine lv_iconst (v := 3) hx hb dX3_claimBy_59 rfl ?_
      refine lv_icmp_ne (tgt := 78) hx hb dX3_claimBy_60 (by decide) (fun c_15 => ?_) (fun c_15 => ?_)
      · have hf := sn_el c_15 hf
        refine lv_iload hx hb dX3_claimBy_78 (lv_at hl 1 rfl) ?_
        cases hf
        exact kr _ _ _ _ hw rfl dX3_claimBy_80
      · have hf := sn_if c_15 hf
        refine lv_iload hx hb dX3_claimBy_63 (lv_at hl 7 rfl) ?_
        refine lv_iload hx hb dX3_claimBy_65 (lv_at hl 0 rfl) ?_
        refine lv_iand hx hb dX3_claimBy_67 ?_
        refine lv_if_eq (tgt := 78) hx hb dX3_claimBy_68 (by decide) (fun c_16 => ?_) (fun c_16 => ?_)
        · have hf := sn_if c_16 hf
          refine lv_iload hx hb dX3_claimBy_78 (lv_at hl 1 rfl) ?_
          cases hf
          exact kr _ _ _ _ hw rfl dX3_claimBy_80
        · have hf := sn_el c_16 hf
          refine lv_iload hx hb dX3_claimBy_71 (lv_at hl 1 rfl) ?_
          refine lv_iconst (v := 2) hx hb dX3_claimBy_73 rfl ?_
          refine lv_idiv hx hb dX3_claimBy_74 (by decide) ?_
          refine lv_goto (tgt := 80) hx hb dX3_claimBy_75 (by decide) ?_
          cases hf
          exact kr _ _ _ _ hw rfl dX3_claimBy_80
    · have hf := sn_if c_6 hf
      refine lv_iload hx hb dX3_claimBy_29 (lv_at hl 0 rfl) ?_
      refine lv_iconst (v := 3) hx hb dX3_claimBy_31 rfl ?_
      refine lv_iload hx hb dX3_claimBy_32 (lv_at hl 1 rfl) ?_
      obtain ⟨t_17, h_18, hf⟩ := sn_bd hf
      refine sn_callSi (rest := [.int (3 : Int32), .int t_3]) C hw (ctJ6_bitCount_0f7a4 l  h_18) kl_RX3_61 rfl rfl rfl (Nat.le_of_ble_eq_true rfl) dX3_claimBy_34 hl.1 (fun H locs hw => ?_)
      refine va_mmin hx hb (C.2.2.1.trans hl.1.symm) C.2.2.2.1 (C.2.2.2.2.1 _ km_RX3_66) (C.2.2.2.2.1 _ kst_minI) (C.2.2.2.2.1 _ ki_Math) (C.2.2.2.2.1 _ kc_minI) (Nat.le_of_ble_eq_true rfl) (Nat.le_of_ble_eq_true rfl) (Nat.zero_le _) (Nat.zero_le _) dX3_claimBy_37 ?_
      obtain ⟨y_19, e_20, hf⟩ := sn_ltE hf
      refine lv_topi (fun y_19_ e_20_ => ?_)
      obtain rfl : y_19 = y_19_ := e_20.trans e_20_.symm
      refine lv_imul hx hb dX3_claimBy_40 ?_
      cases hf
      exact kr _ _ _ _ hw rfl dX3_claimBy_41
  · have hf := sn_if c_5 hf
    refine lv_iconst (v := 0) hx hb dX3_claimBy_22 rfl ?_
    cases hf
    exact kr _ _ _ _ hw rfl dX3_claimBy_23
theorem ctX3_claimBy (l : Launch) {σ : sn_S} {q0 : Nat} {x1 : Int32} {x2 : Int32} {x3 : Int32} {x4 : Int32} (h0 : sn_isX2 q0) {o : Int32} (hf : fX3_claimBy σ q0 x1 x2 x3 x4 = some o) : sn_M l yX3_claimBy cX3_claimBy 8 (some .int) rmX3_claimBy layC (fun ad => [.ref (ad q0), .int x1, .int x2, .int x3, .int x4]) σ (some (fun _ => .int o)) σ :=
  sn_met (by decide) (fun _ => Nat.le_of_ble_eq_true rfl) (fun p e s m args below meth c ls D ct ad A C hw hl => wX3_claimBy_in C h0 hf (fun H locs ls pc hw ok hd => sn_iret C hw hd) _ _ _ hw hl)
-- X3_reckon
abbrev rmX3_reckon : Room := { frames := 3, cells := 0, slots := 0, locals := 73 }
def BX3_reckon_115 (σ : sn_S) (q0 : Nat) (q1 : Nat) (q2 : Nat) : Option (sn_S) :=
  (some σ)
def BX3_reckon_24 (σ : sn_S) (q0 : Nat) (q1 : Nat) (q2 : Nat) (x3 : Int32) (x4 : Int32) : Option ((sn_S × Int32) ⊕ (sn_S)) :=
  (if (sn_I σ q0 2) ≤ x4 then
  (some (.inr (σ)))
  else
  ((fX2_ofPolicy σ q1 x4 (0 : Int32)).bind fun t_2 => (sn_gd (sn_in t_2 6) (sn_lt (sn_I σ (q2 + 10) t_2.toNatClampNeg) fun y_5 => ((fX2_ofPolicy σ q1 x4 (4 : Int32)).bind fun t_7 => (sn_lt (sn_pI σ q0 3 ((sn_I σ q0 3) + t_7)) fun σ_9 => (sn_gd (sn_in t_2 6) ((fX3_claimBy σ_9 q1 x3 x4 y_5 (sn_I σ_9 (q2 + 4) t_2.toNatClampNeg)).bind fun t_12 => (sn_gd (sn_in x4 6) (sn_lt (sn_pI σ_9 (q0 + 1) x4.toNatClampNeg t_12) fun σ_15 => ((fX3_counting σ_15 q1 x3 x4 y_5).bind fun t_17 => ((fX8_lowestBit t_17).bind fun t_19 => (sn_gd (sn_in x4 6) (sn_lt (sn_pI σ_15 (q0 + 2) x4.toNatClampNeg t_19) fun σ_22 => (sn_lt (x4 + 1) fun y_24 => (some (.inl (σ_22, y_24))))))))))))))))))
def LX3_reckon_24 (q0 : Nat) (q1 : Nat) (q2 : Nat) (x3 : Int32) (s : sn_S × Int32) : Option ((sn_S × Int32) ⊕ (sn_S)) := BX3_reckon_24 s.1 q0 q1 q2 x3 s.2
def fX3_reckon (σ : sn_S) (q0 : Nat) (q1 : Nat) (q2 : Nat) (x3 : Int32) : Option sn_S :=
  (sn_gd (sn_in (8 : Int32) 11) (sn_lt (sn_pI σ q0 2 (sn_I σ (q1 + 1) (8 : Int32).toNatClampNeg)) fun σ_2 => (sn_gd (sn_in (3 : Int32) 11) (sn_lt (sn_pI σ_2 q0 3 (sn_I σ_2 (q1 + 1) (3 : Int32).toNatClampNeg)) fun σ_5 => ((sn_it (LX3_reckon_24 q0 q1 q2 x3) 5000 (σ_5, (0 : Int32))).bind fun t_7 => (BX3_reckon_115 t_7 q0 q1 q2))))))
theorem wX3_reckon_115 (C : sn_C p s m args meth c RX3 cX3_reckon 7 none D ct ad layC A) {σ : sn_S} {q0 : Nat} {q1 : Nat} {q2 : Nat} (h0 : sn_isX3 q0) (h1 : sn_isX2 q1) (h2 : sn_isX0 q2) {o : sn_S} (hf : BX3_reckon_115 σ q0 q1 q2 = some o) (kr : sn_Kr p l e rmX3_reckon s m args below meth c Q D ct ad layC A cX3_reckon .return_ (true) o []) : sn_At p l e rmX3_reckon s m args below meth c Q D ct ad layC A 7 σ 115 [] [] := by
  intro H locs ls hw hl
  have hx := C.1
  have hb := C.2.1
  unfold BX3_reckon_115 at hf
  cases hf
  exact kr _ _ _ _ hw rfl dX3_reckon_115
theorem wX3_reckon_24 (C : sn_C p s m args meth c RX3 cX3_reckon 7 none D ct ad layC A) {σ : sn_S} {q0 : Nat} {q1 : Nat} {q2 : Nat} {x3 : Int32} {x4 : Int32} (h0 : sn_isX3 q0) (h1 : sn_isX2 q1) (h2 : sn_isX0 q2) {o : (sn_S × Int32) ⊕ (sn_S)} (hf : BX3_reckon_24 σ q0 q1 q2 x3 x4 = some o) (kc : ∀ v, o = .inl v → sn_At p l e rmX3_reckon s m args below meth c Q D ct ad layC A 7 v.1 24 [(0, .ref (ad q0)), (1, .ref (ad q1)), (2, .ref (ad q2)), (3, .int x3), (4, .int v.2)] []) (kx : ∀ v, o = .inr v → sn_At p l e rmX3_reckon s m args below meth c Q D ct ad layC A 7 v 115 [] []) : sn_At p l e rmX3_reckon s m args below meth c Q D ct ad layC A 7 σ 24 [(0, .ref (ad q0)), (1, .ref (ad q1)), (2, .ref (ad q2)), (3, .int x3), (4, .int x4)] [] := by
  intro H locs ls hw hl
  have hx := C.1
  have hb := C.2.1
  unfold BX3_reckon_24 at hf
  refine lv_iload hx hb dX3_reckon_24 (lv_at hl 4 rfl) ?_
  refine lv_aload_n hx hb dX3_reckon_26 rfl (lv_at hl 0 rfl) ?_
  refine sn_getI C hw fd_RX3_23 (sn_look h0 (k := 0) rfl) rfl dX3_reckon_27 ?_
  refine lv_icmp_ge (tgt := 115) hx hb dX3_reckon_30 (by decide) (fun c_1 => ?_) (fun c_1 => ?_)
  · have hf := sn_if c_1 hf
    cases hf
    exact kx _ rfl _ _ _ hw (lv_sub hl [] rfl)
  · have hf := sn_el c_1 hf
    refine lv_aload_n hx hb dX3_reckon_33 rfl (lv_at hl 1 rfl) ?_
    refine lv_iload hx hb dX3_reckon_34 (lv_at hl 4 rfl) ?_
    refine lv_iconst (v := 0) hx hb dX3_reckon_36 rfl ?_
    obtain ⟨t_2, h_3, hf⟩ := sn_bd hf
    refine sn_callVi (rest := []) C hw (ctX2_ofPolicy l h1 h_3) kl_RX3_30 (sn_look h1 (k := 0) rfl) rfl rfl rfl rfl (Nat.le_of_ble_eq_true rfl) dX3_reckon_37 hl.1 (fun H locs hw => ?_)
    refine lv_istore (lv' := [(5, .int t_2), (0, .ref (ad q0)), (1, .ref (ad q1)), (2, .ref (ad q2)), (3, .int x3), (4, .int x4)]) hx hb dX3_reckon_40 hl (by decide) rfl (fun ls hl => ?_)
    refine lv_aload_n hx hb dX3_reckon_42 rfl (lv_at hl 3 rfl) ?_
    refine sn_getC (r := (q2 + 10)) C hw fd_RX3_34 (sn_look h2 (k := 0) rfl) rfl dX3_reckon_43 ?_
    refine lv_iload hx hb dX3_reckon_46 (lv_at hl 0 rfl) ?_
    obtain ⟨g_4, hf⟩ := sn_gdE hf
    refine sn_iald C hw (sn_look h2 (k := 10) rfl) g_4 dX3_reckon_48 ?_
    obtain ⟨y_5, e_6, hf⟩ := sn_ltE hf
    refine lv_topi (fun y_5_ e_6_ => ?_)
    obtain rfl : y_5 = y_5_ := e_6.trans e_6_.symm
    refine lv_istore (lv' := [(6, .int y_5), (5, .int t_2), (0, .ref (ad q0)), (1, .ref (ad q1)), (2, .ref (ad q2)), (3, .int x3), (4, .int x4)]) hx hb dX3_reckon_49 hl (by decide) rfl (fun ls hl => ?_)
    refine lv_aload_n hx hb dX3_reckon_51 rfl (lv_at hl 2 rfl) ?_
    refine lv_dup hx hb dX3_reckon_52 rfl ?_
    refine sn_getI C hw fd_RX3_27 (sn_look h0 (k := 0) rfl) rfl dX3_reckon_53 ?_
    refine lv_aload_n hx hb dX3_reckon_56 rfl (lv_at hl 3 rfl) ?_
    refine lv_iload hx hb dX3_reckon_57 (lv_at hl 6 rfl) ?_
    refine lv_iconst (v := 4) hx hb dX3_reckon_59 rfl ?_
    obtain ⟨t_7, h_8, hf⟩ := sn_bd hf
    refine sn_callVi (rest := [.int (sn_I σ q0 3), .ref (ad q0)]) C hw (ctX2_ofPolicy l h1 h_8) kl_RX3_30 (sn_look h1 (k := 0) rfl) rfl rfl rfl rfl (Nat.le_of_ble_eq_true rfl) dX3_reckon_60 hl.1 (fun H locs hw => ?_)
    refine lv_iadd hx hb dX3_reckon_63 ?_
    refine sn_putI C hw fp_RX3_27 (sn_look h0 (k := 0) rfl) rfl dX3_reckon_64 (fun H locs hw => ?_)
    obtain ⟨σ_9, e_10, hf⟩ := sn_ltE hf
    rw [← e_10] at hw
    refine lv_aload_n hx hb dX3_reckon_67 rfl (lv_at hl 2 rfl) ?_
    refine sn_getC (r := (q0 + 1)) C hw fd_RX3_9 (sn_look h0 (k := 0) rfl) rfl dX3_reckon_68 ?_
    refine lv_iload hx hb dX3_reckon_71 (lv_at hl 6 rfl) ?_
    refine lv_aload_n hx hb dX3_reckon_73 rfl (lv_at hl 3 rfl) ?_
    refine lv_iload_n hx hb dX3_reckon_74 rfl (lv_at hl 5 rfl) ?_
    refine lv_iload hx hb dX3_reckon_75 (lv_at hl 6 rfl) ?_
    refine lv_iload hx hb dX3_reckon_77 (lv_at hl 0 rfl) ?_
    refine lv_aload_n hx hb dX3_reckon_79 rfl (lv_at hl 4 rfl) ?_
    refine sn_getC (r := (q2 + 4)) C hw fd_RX3_39 (sn_look h2 (k := 0) rfl) rfl dX3_reckon_80 ?_
    refine lv_iload hx hb dX3_reckon_83 (lv_at hl 1 rfl) ?_
    obtain ⟨g_11, hf⟩ := sn_gdE hf
    refine sn_iald C hw (sn_look h2 (k := 4) rfl) g_11 dX3_reckon_85 ?_
    obtain ⟨t_12, h_13, hf⟩ := sn_bd hf
    refine sn_callSi (rest := [.int x4, .ref (ad (q0 + 1))]) C hw (ctX3_claimBy l h1 h_13) kl_RX3_42 rfl rfl rfl (Nat.le_of_ble_eq_true rfl) dX3_reckon_86 hl.1 (fun H locs hw => ?_)
    obtain ⟨g_14, hf⟩ := sn_gdE hf
    refine sn_iast C hw (sn_look h0 (k := 1) rfl) g_14 dX3_reckon_89 (fun H locs hw => ?_)
    obtain ⟨σ_15, e_16, hf⟩ := sn_ltE hf
    rw [← e_16] at hw
    refine lv_aload_n hx hb dX3_reckon_90 rfl (lv_at hl 2 rfl) ?_
    refine sn_getC (r := (q0 + 2)) C hw fd_RX3_15 (sn_look h0 (k := 0) rfl) rfl dX3_reckon_91 ?_
    refine lv_iload hx hb dX3_reckon_94 (lv_at hl 6 rfl) ?_
    refine lv_aload_n hx hb dX3_reckon_96 rfl (lv_at hl 3 rfl) ?_
    refine lv_iload_n hx hb dX3_reckon_97 rfl (lv_at hl 5 rfl) ?_
    refine lv_iload hx hb dX3_reckon_98 (lv_at hl 6 rfl) ?_
    refine lv_iload hx hb dX3_reckon_100 (lv_at hl 0 rfl) ?_
    obtain ⟨t_17, h_18, hf⟩ := sn_bd hf
    refine sn_callSi (rest := [.int x4, .ref (ad (q0 + 2))]) C hw (ctX3_counting l h1 h_18) kl_RX3_46 rfl rfl rfl (Nat.le_of_ble_eq_true rfl) dX3_reckon_102 hl.1 (fun H locs hw => ?_)
    obtain ⟨t_19, h_20, hf⟩ := sn_bd hf
    refine sn_callNi (rest := [.int x4, .ref (ad (q0 + 2))]) C hw (ctX8_lowestBit l  h_20) kl_RX3_50 rfl rfl rfl (Nat.le_of_ble_eq_true rfl) dX3_reckon_105 hl.1 (fun H locs hw => ?_)
    obtain ⟨g_21, hf⟩ := sn_gdE hf
    refine sn_iast C hw (sn_look h0 (k := 2) rfl) g_21 dX3_reckon_108 (fun H locs hw => ?_)
    obtain ⟨σ_22, e_23, hf⟩ := sn_ltE hf
    rw [← e_23] at hw
    obtain ⟨y_24, e_25, hf⟩ := sn_ltE hf
    refine lv_iinc (v := y_24) (lv' := [(4, .int y_24), (6, .int y_5), (5, .int t_2), (0, .ref (ad q0)), (1, .ref (ad q1)), (2, .ref (ad q2)), (3, .int x3)]) hx hb dX3_reckon_109 hl (k := 6) rfl (by rw [e_25]; rfl) (by decide) rfl (fun ls hl => ?_)
    refine lv_goto (tgt := 24) hx hb dX3_reckon_112 (by decide) ?_
    cases hf
    exact kc _ rfl _ _ _ hw (lv_sub hl [3, 4, 5, 6, 0] rfl)
theorem wX3_reckon_L24 (C : sn_C p s m args meth c RX3 cX3_reckon 7 none D ct ad layC A) {q0 : Nat} {q1 : Nat} {q2 : Nat} {x3 : Int32}  (h0 : sn_isX3 q0) (h1 : sn_isX2 q1) (h2 : sn_isX0 q2) {z : sn_S × Int32} {t : sn_S} (h : sn_it (LX3_reckon_24 q0 q1 q2 x3) 5000 z = some t) (kx : ∀ v, t = v → sn_At p l e rmX3_reckon s m args below meth c Q D ct ad layC A 7 v 115 [] []) : sn_At p l e rmX3_reckon s m args below meth c Q D ct ad layC A 7 z.1 24 [(0, .ref (ad q0)), (1, .ref (ad q1)), (2, .ref (ad q2)), (3, .int x3), (4, .int z.2)] [] :=
  sn_loop (f := LX3_reckon_24 q0 q1 q2 x3) (G := fun z => sn_At p l e rmX3_reckon s m args below meth c Q D ct ad layC A 7 z.1 24 [(0, .ref (ad q0)), (1, .ref (ad q1)), (2, .ref (ad q2)), (3, .int x3), (4, .int z.2)] []) (E := fun t => (∀ v, t = v → sn_At p l e rmX3_reckon s m args below meth c Q D ct ad layC A 7 v 115 [] []) ∧ True) (fun z o hf k1 k2 => wX3_reckon_24 C h0 h1 h2 hf (fun v e => k1 v e) (fun v e => (k2 _ e).1 v rfl)) 5000 z t h ⟨kx, trivial⟩
theorem wX3_reckon_in (C : sn_C p s m args meth c RX3 cX3_reckon 7 none D ct ad layC A) {σ : sn_S} {q0 : Nat} {q1 : Nat} {q2 : Nat} {x3 : Int32} (h0 : sn_isX3 q0) (h1 : sn_isX2 q1) (h2 : sn_isX0 q2) {o : sn_S} (hf : fX3_reckon σ q0 q1 q2 x3 = some o) (kr : sn_Kr p l e rmX3_reckon s m args below meth c Q D ct ad layC A cX3_reckon .return_ (true) o []) : sn_At p l e rmX3_reckon s m args below meth c Q D ct ad layC A 7 σ 0 [(0, .ref (ad q0)), (1, .ref (ad q1)), (2, .ref (ad q2)), (3, .int x3)] [] := by
  intro H locs ls hw hl
  have hx := C.1
  have hb := C.2.1
  unfold fX3_reckon at hf
  refine lv_aload_n hx hb dX3_reckon_0 rfl (lv_at hl 0 rfl) ?_
  refine lv_aload_n hx hb dX3_reckon_1 rfl (lv_at hl 1 rfl) ?_
  refine sn_getC (r := (q1 + 1)) C hw fd_RX3_18 (sn_look h1 (k := 0) rfl) rfl dX3_reckon_2 ?_
  refine lv_bipush (v := 8) hx hb dX3_reckon_5 (by decide) ?_
  obtain ⟨g_1, hf⟩ := sn_gdE hf
  refine sn_iald C hw (sn_look h1 (k := 1) rfl) g_1 dX3_reckon_7 ?_
  refine sn_putI C hw fp_RX3_23 (sn_look h0 (k := 0) rfl) rfl dX3_reckon_8 (fun H locs hw => ?_)
  obtain ⟨σ_2, e_3, hf⟩ := sn_ltE hf
  rw [← e_3] at hw
  refine lv_aload_n hx hb dX3_reckon_11 rfl (lv_at hl 0 rfl) ?_
  refine lv_aload_n hx hb dX3_reckon_12 rfl (lv_at hl 1 rfl) ?_
  refine sn_getC (r := (q1 + 1)) C hw fd_RX3_18 (sn_look h1 (k := 0) rfl) rfl dX3_reckon_13 ?_
  refine lv_iconst (v := 3) hx hb dX3_reckon_16 rfl ?_
  obtain ⟨g_4, hf⟩ := sn_gdE hf
  refine sn_iald C hw (sn_look h1 (k := 1) rfl) g_4 dX3_reckon_17 ?_
  refine sn_putI C hw fp_RX3_27 (sn_look h0 (k := 0) rfl) rfl dX3_reckon_18 (fun H locs hw => ?_)
  obtain ⟨σ_5, e_6, hf⟩ := sn_ltE hf
  rw [← e_6] at hw
  refine lv_iconst (v := 0) hx hb dX3_reckon_21 rfl ?_
  refine lv_istore (lv' := [(4, .int (0 : Int32)), (0, .ref (ad q0)), (1, .ref (ad q1)), (2, .ref (ad q2)), (3, .int x3)]) hx hb dX3_reckon_22 hl (by decide) rfl (fun ls hl => ?_)
  obtain ⟨t_7, h_8, hf⟩ := sn_bd hf
  exact wX3_reckon_L24 C h0 h1 h2 h_8 (fun v e => by cases e; exact wX3_reckon_115 C h0 h1 h2 hf kr) _ _ _ hw (lv_sub hl [1, 2, 3, 4, 0] rfl)
theorem ctX3_reckon (l : Launch) {σ : sn_S} {q0 : Nat} {q1 : Nat} {q2 : Nat} {x3 : Int32} (h0 : sn_isX3 q0) (h1 : sn_isX2 q1) (h2 : sn_isX0 q2) {o : sn_S} (hf : fX3_reckon σ q0 q1 q2 x3 = some o) : sn_M l yX3_reckon cX3_reckon 7 none rmX3_reckon layC (fun ad => [.ref (ad q0), .ref (ad q1), .ref (ad q2), .int x3]) σ none o :=
  sn_met (by decide) (fun _ => Nat.le_of_ble_eq_true rfl) (fun p e s m args below meth c ls D ct ad A C hw hl => wX3_reckon_in C h0 h1 h2 hf (fun H locs ls pc hw ok hd => sn_vret C hw hd) _ _ _ hw hl)
end
end
