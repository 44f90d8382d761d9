section
variable {p : Program} {l : Launch} {e : Env} {s : State} {m : MethodId} {args : Array Value} {below : List Frame} {meth : Method} {c : Code} {Q : State → Prop} {D : va_G} {ct : Nat → ClassId} {ad : Nat → Nat} {A : Nat → Prop} {lay : List sn_E}
-- X9_law
abbrev rmX9_law : Room := { frames := 5, cells := 0, slots := 0, locals := 117 }
def BX9_law_44 (σ : sn_S) (x1 : Int32) : Option ((Int32 × sn_S)) :=
  (some (x1, σ))
def BX9_law_37 (σ : sn_S) (x1 : Int32) (x2 : Int32) (t0 : Int32) : Option ((sn_S × Int32 × Int32) ⊕ (sn_S × Int32)) :=
  (sn_lt (x2 + 1) fun y_1 => (some (.inl (σ, t0, y_1))))
def BX9_law_14 (σ : sn_S) (x1 : Int32) (x2 : Int32) : Option ((sn_S × Int32 × Int32) ⊕ (sn_S × Int32)) :=
  (if (4 : Int32) ≤ x2 then
  (some (.inr (σ, x1)))
  else
  ((fX9_byLaw σ x2).bind fun t_2 => ((fX9_byLaw t_2.2 x1).bind fun t_4 => (if t_2.1 ≤ t_4.1 then
  (BX9_law_37 t_4.2 x1 x2 x1)
  else
  (BX9_law_37 t_4.2 x1 x2 x2)))))
def LX9_law_14  (s : sn_S × Int32 × Int32) : Option ((sn_S × Int32 × Int32) ⊕ (sn_S × Int32)) := BX9_law_14 s.1 s.2.1 s.2.2
def fX9_law (σ : sn_S) : Option (Int32 × sn_S) :=
  ((fX9_asksHouse σ).bind fun t_1 => (if t_1.1 = 0 then
  (some ((-2 : Int32), t_1.2))
  else
  ((sn_it (LX9_law_14 ) 5000 (t_1.2, (0 : Int32), (1 : Int32))).bind fun t_4 => (BX9_law_44 t_4.1 t_4.2))))
theorem wX9_law_44 (C : sn_C p s m args meth c RX9 cX9_law 3 (some .int) D ct ad layM A) {σ : sn_S} {x1 : Int32}  {o : (Int32 × sn_S)} (hf : BX9_law_44 σ x1 = some o) (kr : sn_Kr p l e rmX9_law s m args below meth c Q D ct ad layM A cX9_law .ireturn (true) o.2 [.int o.1]) : sn_At p l e rmX9_law s m args below meth c Q D ct ad layM A 3 σ 44 [(1, .int x1)] [] := by
  intro H locs ls hw hl
  have hx := C.1
  have hb := C.2.1
  unfold BX9_law_44 at hf
  refine lv_iload_n hx hb dX9_law_44 rfl (lv_at hl 0 rfl) ?_
  cases hf
  exact kr _ _ _ _ hw rfl dX9_law_45
theorem wX9_law_37 (C : sn_C p s m args meth c RX9 cX9_law 3 (some .int) D ct ad layM A) {σ : sn_S} {x1 : Int32} {x2 : Int32} {t0 : Int32}  {o : (sn_S × Int32 × Int32) ⊕ (sn_S × Int32)} (hf : BX9_law_37 σ x1 x2 t0 = some o) (kc : ∀ v, o = .inl v → sn_At p l e rmX9_law s m args below meth c Q D ct ad layM A 3 v.1 14 [(0, .ref (ad 0)), (1, .int v.2.1), (2, .int v.2.2)] []) (kx : ∀ v, o = .inr v → sn_At p l e rmX9_law s m args below meth c Q D ct ad layM A 3 v.1 44 [(1, .int v.2)] []) : sn_At p l e rmX9_law s m args below meth c Q D ct ad layM A 3 σ 37 [(0, .ref (ad 0)), (1, .int x1), (2, .int x2)] [.int t0] := by
  intro H locs ls hw hl
  have hx := C.1
  have hb := C.2.1
  unfold BX9_law_37 at hf
  refine lv_istore_n (lv' := [(1, .int t0), (0, .ref (ad 0)), (2, .int x2)]) hx hb dX9_law_37 rfl hl (by decide) rfl (fun ls hl => ?_)
  obtain ⟨y_1, e_2, hf⟩ := sn_ltE hf
  refine lv_iinc (v := y_1) (lv' := [(2, .int y_1), (1, .int t0), (0, .ref (ad 0))]) hx hb dX9_law_38 hl (k := 2) rfl (by rw [e_2]; rfl) (by decide) rfl (fun ls hl => ?_)
  refine lv_goto (tgt := 14) hx hb dX9_law_41 (by decide) ?_
  cases hf
  exact kc _ rfl _ _ _ hw (lv_sub hl [2, 1, 0] rfl)
theorem wX9_law_14 (C : sn_C p s m args meth c RX9 cX9_law 3 (some .int) D ct ad layM A) {σ : sn_S} {x1 : Int32} {x2 : Int32}  {o : (sn_S × Int32 × Int32) ⊕ (sn_S × Int32)} (hf : BX9_law_14 σ x1 x2 = some o) (kc : ∀ v, o = .inl v → sn_At p l e rmX9_law s m args below meth c Q D ct ad layM A 3 v.1 14 [(0, .ref (ad 0)), (1, .int v.2.1), (2, .int v.2.2)] []) (kx : ∀ v, o = .inr v → sn_At p l e rmX9_law s m args below meth c Q D ct ad layM A 3 v.1 44 [(1, .int v.2)] []) : sn_At p l e rmX9_law s m args below meth c Q D ct ad layM A 3 σ 14 [(0, .ref (ad 0)), (1, .int x1), (2, .int x2)] [] := by
  intro H locs ls hw hl
  have hx := C.1
  have hb := C.2.1
  unfold BX9_law_14 at hf
  refine lv_iload_n hx hb dX9_law_14 rfl (lv_at hl 2 rfl) ?_
  refine lv_iconst (v := 4) hx hb dX9_law_15 rfl ?_
  refine lv_icmp_ge (tgt := 44) hx hb dX9_law_16 (by decide) (fun c_1 => ?_) (fun c_1 => ?_)
  · have hf := sn_if c_1 hf
    cases hf
    exact kx _ rfl _ _ _ hw (lv_sub hl [1] rfl)
  · have hf := sn_el c_1 hf
    refine lv_aload_n hx hb dX9_law_19 rfl (lv_at hl 0 rfl) ?_
    refine lv_iload_n hx hb dX9_law_20 rfl (lv_at hl 2 rfl) ?_
    obtain ⟨t_2, h_3, hf⟩ := sn_bd hf
    refine sn_callVi (rest := []) C hw (ctX9_byLaw l  h_3) kl_RX9_338 layM_0 rfl rfl rfl rfl (Nat.le_of_ble_eq_true rfl) dX9_law_21 hl.1 (fun H locs hw => ?_)
    refine lv_aload_n hx hb dX9_law_24 rfl (lv_at hl 0 rfl) ?_
    refine lv_iload_n hx hb dX9_law_25 rfl (lv_at hl 1 rfl) ?_
    obtain ⟨t_4, h_5, hf⟩ := sn_bd hf
    refine sn_callVi (rest := [.int t_2.1]) C hw (ctX9_byLaw l  h_5) kl_RX9_338 layM_0 rfl rfl rfl rfl (Nat.le_of_ble_eq_true rfl) dX9_law_26 hl.1 (fun H locs hw => ?_)
    refine lv_icmp_le (tgt := 36) hx hb dX9_law_29 (by decide) (fun c_6 => ?_) (fun c_6 => ?_)
    · have hf := sn_if c_6 hf
      refine lv_iload_n hx hb dX9_law_36 rfl (lv_at hl 1 rfl) ?_
      exact wX9_law_37 C  hf kc kx _ _ _ hw (lv_sub hl [0, 1, 2] rfl)
    · have hf := sn_el c_6 hf
      refine lv_iload_n hx hb dX9_law_32 rfl (lv_at hl 2 rfl) ?_
      refine lv_goto (tgt := 37) hx hb dX9_law_33 (by decide) ?_
      exact wX9_law_37 C  hf kc kx _ _ _ hw (lv_sub hl [0, 1, 2] rfl)
theorem wX9_law_L14 (C : sn_C p s m args meth c RX9 cX9_law 3 (some .int) D ct ad layM A)    {z : sn_S × Int32 × Int32} {t : sn_S × Int32} (h : sn_it (LX9_law_14 ) 5000 z = some t) (kx : ∀ v, t = v → sn_At p l e rmX9_law s m args below meth c Q D ct ad layM A 3 v.1 44 [(1, .int v.2)] []) : sn_At p l e rmX9_law s m args below meth c Q D ct ad layM A 3 z.1 14 [(0, .ref (ad 0)), (1, .int z.2.1), (2, .int z.2.2)] [] :=
  sn_loop (f := LX9_law_14 ) (G := fun z => sn_At p l e rmX9_law s m args below meth c Q D ct ad layM A 3 z.1 14 [(0, .ref (ad 0)), (1, .int z.2.1), (2, .int z.2.2)] []) (E := fun t => (∀ v, t = v → sn_At p l e rmX9_law s m args below meth c Q D ct ad layM A 3 v.1 44 [(1, .int v.2)] []) ∧ True) (fun z o hf k1 k2 => wX9_law_14 C  hf (fun v e => k1 v e) (fun v e => (k2 _ e).1 v rfl)) 5000 z t h ⟨kx, trivial⟩
theorem wX9_law_in (C : sn_C p s m args meth c RX9 cX9_law 3 (some .int) D ct ad layM A) {σ : sn_S}  {o : (Int32 × sn_S)} (hf : fX9_law σ = some o) (kr : sn_Kr p l e rmX9_law s m args below meth c Q D ct ad layM A cX9_law .ireturn (true) o.2 [.int o.1]) : sn_At p l e rmX9_law s m args below meth c Q D ct ad layM A 3 σ 0 [(0, .ref (ad 0))] [] := by
  intro H locs ls hw hl
  have hx := C.1
  have hb := C.2.1
  unfold fX9_law at hf
  refine lv_aload_n hx hb dX9_law_0 rfl (lv_at hl 0 rfl) ?_
  obtain ⟨t_1, h_2, hf⟩ := sn_bd hf
  refine sn_callVi (rest := []) C hw (ctX9_asksHouse l  h_2) kl_RX9_272 layM_0 rfl rfl rfl rfl (Nat.le_of_ble_eq_true rfl) dX9_law_1 hl.1 (fun H locs hw => ?_)
  refine lv_if_ne (tgt := 10) hx hb dX9_law_4 (by decide) (fun c_3 => ?_) (fun c_3 => ?_)
  · have hf := sn_el c_3 hf
    refine lv_iconst (v := 0) hx hb dX9_law_10 rfl ?_
    refine lv_istore_n (lv' := [(1, .int (0 : Int32)), (0, .ref (ad 0))]) hx hb dX9_law_11 rfl hl (by decide) rfl (fun ls hl => ?_)
    refine lv_iconst (v := 1) hx hb dX9_law_12 rfl ?_
    refine lv_istore_n (lv' := [(2, .int (1 : Int32)), (1, .int (0 : Int32)), (0, .ref (ad 0))]) hx hb dX9_law_13 rfl hl (by decide) rfl (fun ls hl => ?_)
    obtain ⟨t_4, h_5, hf⟩ := sn_bd hf
    exact wX9_law_L14 C  h_5 (fun v e => by cases e; exact wX9_law_44 C  hf kr) _ _ _ hw (lv_sub hl [2, 1, 0] rfl)
  · have hf := sn_if c_3 hf
    refine lv_bipush (v := (-2)) hx hb dX9_law_7 (by decide) ?_
    cases hf
    exact kr _ _ _ _ hw rfl dX9_law_9
theorem ctX9_law (l : Launch) {σ : sn_S}  {o : (Int32 × sn_S)} (hf : fX9_law σ = some o) : sn_M l yX9_law cX9_law 3 (some .int) rmX9_law layM (fun ad => [.ref (ad 0)]) σ (some (fun _ => .int o.1)) o.2 :=
  sn_met (by decide) (fun _ => Nat.le_of_ble_eq_true rfl) (fun p e s m args below meth c ls D ct ad A C hw hl => wX9_law_in C  hf (fun H locs ls pc hw ok hd => sn_iret C hw hd) _ _ _ hw hl)
-- X9_takesBy
abbrev rmX9_takesBy : Room := { frames := 3, cells := 0, slots := 0, locals := 75 }
def BX9_takesBy_79 (σ : sn_S) (x4 : Int32) : Option ((Int32 × sn_S)) :=
  (some (x4, σ))
def BX9_takesBy_73 (σ : sn_S) (x1 : Int32) (x2 : Int32) (x3 : Int32) (x4 : Int32) (x5 : Int32) : Option ((sn_S × Int32 × Int32) ⊕ (sn_S × Int32)) :=
  (sn_lt (x5 + 1) fun y_1 => (some (.inl (σ, x4, y_1))))
def BX9_takesBy_48 (σ : sn_S) (x1 : Int32) (x2 : Int32) (x3 : Int32) (x4 : Int32) (x5 : Int32) (t0 : Int32) (t1 : Int32) : Option ((sn_S × Int32 × Int32) ⊕ (sn_S × Int32)) :=
  (sn_lt (t0 - t1) fun y_1 => (if (sn_I σ 0 31) < y_1 then
  (sn_lt (sn_pI σ 0 31 y_1) fun σ_4 => (BX9_takesBy_73 σ_4 x1 x2 x3 x5 x5))
  else
  (BX9_takesBy_73 σ x1 x2 x3 x4 x5)))
def BX9_takesBy_11 (σ : sn_S) (x1 : Int32) (x2 : Int32) (x3 : Int32) (x4 : Int32) (x5 : Int32) : Option ((sn_S × Int32 × Int32) ⊕ (sn_S × Int32)) :=
  (sn_gd (sn_in (8 : Int32) 119) (if (sn_I σ 1 (8 : Int32).toNatClampNeg) ≤ x5 then
  (some (.inr (σ, x4)))
  else
  ((fX9_claimOf σ x5 x1 (0 : Int32)).bind fun t_3 => (if x5 = x2 then
  (BX9_takesBy_48 t_3.2 x1 x2 x3 x4 x5 t_3.1 x3)
  else
  ((fX9_of t_3.2 x5 (4 : Int32)).bind fun t_6 => (BX9_takesBy_48 t_3.2 x1 x2 x3 x4 x5 t_3.1 t_6))))))
def LX9_takesBy_11 (x1 : Int32) (x2 : Int32) (x3 : Int32) (s : sn_S × Int32 × Int32) : Option ((sn_S × Int32 × Int32) ⊕ (sn_S × Int32)) := BX9_takesBy_11 s.1 x1 x2 x3 s.2.1 s.2.2
def fX9_takesBy (σ : sn_S) (x1 : Int32) (x2 : Int32) (x3 : Int32) : Option (Int32 × sn_S) :=
  (sn_lt (sn_pI σ 0 31 (0 : Int32)) fun σ_1 => ((sn_it (LX9_takesBy_11 x1 x2 x3) 5000 (σ_1, (-1 : Int32), (0 : Int32))).bind fun t_3 => (BX9_takesBy_79 t_3.1 t_3.2)))
theorem wX9_takesBy_79 (C : sn_C p s m args meth c RX9 cX9_takesBy 7 (some .int) D ct ad layM A) {σ : sn_S} {x4 : Int32}  {o : (Int32 × sn_S)} (hf : BX9_takesBy_79 σ x4 = some o) (kr : sn_Kr p l e rmX9_takesBy s m args below meth c Q D ct ad layM A cX9_takesBy .ireturn (true) o.2 [.int o.1]) : sn_At p l e rmX9_takesBy s m args below meth c Q D ct ad layM A 7 σ 79 [(4, .int x4)] [] := by
  intro H locs ls hw hl
  have hx := C.1
  have hb := C.2.1
  unfold BX9_takesBy_79 at hf
  refine lv_iload hx hb dX9_takesBy_79 (lv_at hl 0 rfl) ?_
  cases hf
  exact kr _ _ _ _ hw rfl dX9_takesBy_81
theorem wX9_takesBy_73 (C : sn_C p s m args meth c RX9 cX9_takesBy 7 (some .int) D ct ad layM A) {σ : sn_S} {x1 : Int32} {x2 : Int32} {x3 : Int32} {x4 : Int32} {x5 : Int32}  {o : (sn_S × Int32 × Int32) ⊕ (sn_S × Int32)} (hf : BX9_takesBy_73 σ x1 x2 x3 x4 x5 = some o) (kc : ∀ v, o = .inl v → sn_At p l e rmX9_takesBy s m args below meth c Q D ct ad layM A 7 v.1 11 [(0, .ref (ad 0)), (1, .int x1), (2, .int x2), (3, .int x3), (4, .int v.2.1), (5, .int v.2.2)] []) (kx : ∀ v, o = .inr v → sn_At p l e rmX9_takesBy s m args below meth c Q D ct ad layM A 7 v.1 79 [(4, .int v.2)] []) : sn_At p l e rmX9_takesBy s m args below meth c Q D ct ad layM A 7 σ 73 [(0, .ref (ad 0)), (1, .int x1), (2, .int x2), (3, .int x3), (4, .int x4), (5, .int x5)] [] := by
  intro H locs ls hw hl
  have hx := C.1
  have hb := C.2.1
  unfold BX9_takesBy_73 at hf
  obtain ⟨y_1, e_2, hf⟩ := sn_ltE hf
  refine lv_iinc (v := y_1) (lv' := [(5, .int y_1), (0, .ref (ad 0)), (1, .int x1), (2, .int x2), (3, .int x3), (4, .int x4)]) hx hb dX9_takesBy_73 hl (k := 5) rfl (by rw [e_2]; rfl) (by decide) rfl (fun ls hl => ?_)
  refine lv_goto (tgt := 11) hx hb dX9_takesBy_76 (by decide) ?_
  cases hf
  exact kc _ rfl _ _ _ hw (lv_sub hl [1, 2, 3, 4, 5, 0] rfl)
theorem wX9_takesBy_48 (C : sn_C p s m args meth c RX9 cX9_takesBy 7 (some .int) D ct ad layM A) {σ : sn_S} {x1 : Int32} {x2 : Int32} {x3 : Int32} {x4 : Int32} {x5 : Int32} {t0 : Int32} {t1 : Int32}  {o : (sn_S × Int32 × Int32) ⊕ (sn_S × Int32)} (hf : BX9_takesBy_48 σ x1 x2 x3 x4 x5 t0 t1 = some o) (kc : ∀ v, o = .inl v → sn_At p l e rmX9_takesBy s m args below meth c Q D ct ad layM A 7 v.1 11 [(0, .ref (ad 0)), (1, .int x1), (2, .int x2), (3, .int x3), (4, .int v.2.1), (5, .int v.2.2)] []) (kx : ∀ v, o = .inr v → sn_At p l e rmX9_takesBy s m args below meth c Q D ct ad layM A 7 v.1 79 [(4, .int v.2)] []) : sn_At p l e rmX9_takesBy s m args below meth c Q D ct ad layM A 7 σ 48 [(0, .ref (ad 0)), (1, .int x1), (2, .int x2), (3, .int x3), (4, .int x4), (5, .int x5)] [.int t1, .int t0] := by
  intro H locs ls hw hl
  have hx := C.1
  have hb := C.2.1
  unfold BX9_takesBy_48 at hf
  refine lv_isub hx hb dX9_takesBy_48 ?_
  obtain ⟨y_1, e_2, hf⟩ := sn_ltE hf
  refine lv_topi (fun y_1_ e_2_ => ?_)
  obtain rfl : y_1 = y_1_ := e_2.trans e_2_.symm
  refine lv_istore (lv' := [(6, .int y_1), (0, .ref (ad 0)), (1, .int x1), (2, .int x2), (3, .int x3), (4, .int x4), (5, .int x5)]) hx hb dX9_takesBy_49 hl (by decide) rfl (fun ls hl => ?_)
  refine lv_iload hx hb dX9_takesBy_51 (lv_at hl 0 rfl) ?_
  refine lv_aload_n hx hb dX9_takesBy_53 rfl (lv_at hl 1 rfl) ?_
  refine sn_getI C hw fd_RX9_341 layM_0 rfl dX9_takesBy_54 ?_
  refine lv_icmp_gt (tgt := 63) hx hb dX9_takesBy_57 (by decide) (fun c_3 => ?_) (fun c_3 => ?_)
  · have hf := sn_if c_3 hf
    refine lv_aload_n hx hb dX9_takesBy_63 rfl (lv_at hl 1 rfl) ?_
    refine lv_iload hx hb dX9_takesBy_64 (lv_at hl 0 rfl) ?_
    refine sn_putI C hw fp_RX9_341 layM_0 rfl dX9_takesBy_66 (fun H locs hw => ?_)
    obtain ⟨σ_4, e_5, hf⟩ := sn_ltE hf
    rw [← e_5] at hw
    refine lv_iload hx hb dX9_takesBy_69 (lv_at hl 6 rfl) ?_
    refine lv_istore (lv' := [(4, .int x5), (6, .int y_1), (0, .ref (ad 0)), (1, .int x1), (2, .int x2), (3, .int x3), (5, .int x5)]) hx hb dX9_takesBy_71 hl (by decide) rfl (fun ls hl => ?_)
    exact wX9_takesBy_73 C  hf kc kx _ _ _ hw (lv_sub hl [2, 3, 4, 5, 0, 6] rfl)
  · have hf := sn_el c_3 hf
    refine lv_goto (tgt := 73) hx hb dX9_takesBy_60 (by decide) ?_
    exact wX9_takesBy_73 C  hf kc kx _ _ _ hw (lv_sub hl [1, 2, 3, 4, 5, 6] rfl)
theorem wX9_takesBy_11 (C : sn_C p s m args meth c RX9 cX9_takesBy 7 (some .int) D ct ad layM A) {σ : sn_S} {x1 : Int32} {x2 : Int32} {x3 : Int32} {x4 : Int32} {x5 : Int32}  {o : (sn_S × Int32 × Int32) ⊕ (sn_S × Int32)} (hf : BX9_takesBy_11 σ x1 x2 x3 x4 x5 = some o) (kc : ∀ v, o = .inl v → sn_At p l e rmX9_takesBy s m args below meth c Q D ct ad layM A 7 v.1 11 [(0, .ref (ad 0)), (1, .int x1), (2, .int x2), (3, .int x3), (4, .int v.2.1), (5, .int v.2.2)] []) (kx : ∀ v, o = .inr v → sn_At p l e rmX9_takesBy s m args below meth c Q D ct ad layM A 7 v.1 79 [(4, .int v.2)] []) : sn_At p l e rmX9_takesBy s m args below meth c Q D ct ad layM A 7 σ 11 [(0, .ref (ad 0)), (1, .int x1), (2, .int x2), (3, .int x3), (4, .int x4), (5, .int x5)] [] := by
  intro H locs ls hw hl
  have hx := C.1
  have hb := C.2.1
  unfold BX9_takesBy_11 at hf
  refine lv_iload hx hb dX9_takesBy_11 (lv_at hl 5 rfl) ?_
  refine lv_aload_n hx hb dX9_takesBy_13 rfl (lv_at hl 0 rfl) ?_
  refine sn_getC (r := 1) C hw fd_RX9_9 layM_0 rfl dX9_takesBy_14 ?_
  refine lv_bipush (v := 8) hx hb dX9_takesBy_17 (by decide) ?_
  obtain ⟨g_1, hf⟩ := sn_gdE hf
  refine sn_iald C hw layM_1 g_1 dX9_takesBy_19 ?_
  refine lv_icmp_ge (tgt := 79) hx hb dX9_takesBy_20 (by decide) (fun c_2 => ?_) (fun c_2 => ?_)
  · have hf := sn_if c_2 hf
    cases hf
    exact kx _ rfl _ _ _ hw (lv_sub hl [4] rfl)
  · have hf := sn_el c_2 hf
    refine lv_aload_n hx hb dX9_takesBy_23 rfl (lv_at hl 0 rfl) ?_
    refine lv_iload hx hb dX9_takesBy_24 (lv_at hl 5 rfl) ?_
    refine lv_iload_n hx hb dX9_takesBy_26 rfl (lv_at hl 1 rfl) ?_
    refine lv_iconst (v := 0) hx hb dX9_takesBy_27 rfl ?_
    obtain ⟨t_3, h_4, hf⟩ := sn_bd hf
    refine sn_callVi (rest := []) C hw (ctX9_claimOf l  h_4) kl_RX9_313 layM_0 rfl rfl rfl rfl (Nat.le_of_ble_eq_true rfl) dX9_takesBy_28 hl.1 (fun H locs hw => ?_)
    refine lv_iload hx hb dX9_takesBy_31 (lv_at hl 5 rfl) ?_
    refine lv_iload_n hx hb dX9_takesBy_33 rfl (lv_at hl 2 rfl) ?_
    refine lv_icmp_ne (tgt := 41) hx hb dX9_takesBy_34 (by decide) (fun c_5 => ?_) (fun c_5 => ?_)
    · have hf := sn_el c_5 hf
      refine lv_aload_n hx hb dX9_takesBy_41 rfl (lv_at hl 0 rfl) ?_
      refine lv_iload hx hb dX9_takesBy_42 (lv_at hl 5 rfl) ?_
      refine lv_iconst (v := 4) hx hb dX9_takesBy_44 rfl ?_
      obtain ⟨t_6, h_7, hf⟩ := sn_bd hf
      refine sn_callVi (rest := [.int t_3.1]) C hw (ctX9_of l  h_7) kl_RX9_234 layM_0 rfl rfl rfl rfl (Nat.le_of_ble_eq_true rfl) dX9_takesBy_45 hl.1 (fun H locs hw => ?_)
      exact wX9_takesBy_48 C  hf kc kx _ _ _ hw (lv_sub hl [0, 1, 2, 3, 4, 5] rfl)
    · have hf := sn_if c_5 hf
      refine lv_iload_n hx hb dX9_takesBy_37 rfl (lv_at hl 3 rfl) ?_
      refine lv_goto (tgt := 48) hx hb dX9_takesBy_38 (by decide) ?_
      exact wX9_takesBy_48 C  hf kc kx _ _ _ hw (lv_sub hl [0, 1, 2, 3, 4, 5] rfl)
theorem wX9_takesBy_L11 (C : sn_C p s m args meth c RX9 cX9_takesBy 7 (some .int) D ct ad layM A) {x1 : Int32} {x2 : Int32} {x3 : Int32}   {z : sn_S × Int32 × Int32} {t : sn_S × Int32} (h : sn_it (LX9_takesBy_11 x1 x2 x3) 5000 z = some t) (kx : ∀ v, t = v → sn_At p l e rmX9_takesBy s m args below meth c Q D ct ad layM A 7 v.1 79 [(4, .int v.2)] []) : sn_At p l e rmX9_takesBy s m args below meth c Q D ct ad layM A 7 z.1 11 [(0, .ref (ad 0)), (1, .int x1), (2, .int x2), (3, .int x3), (4, .int z.2.1), (5, .int z.2.2)] [] :=
  sn_loop (f := LX9_takesBy_11 x1 x2 x3) (G := fun z => sn_At p l e rmX9_takesBy s m args below meth c Q D ct ad layM A 7 z.1 11 [(0, .ref (ad 0)), (1, .int x1), (2, .int x2), (3, .int x3), (4, .int z.2.1), (5, .int z.2.2)] []) (E := fun t => (∀ v, t = v → sn_At p l e rmX9_takesBy s m args below meth c Q D ct ad layM A 7 v.1 79 [(4, .int v.2)] []) ∧ True) (fun z o hf k1 k2 => wX9_takesBy_11 C  hf (fun v e => k1 v e) (fun v e => (k2 _ e).1 v rfl)) 5000 z t h ⟨kx, trivial⟩
theorem wX9_takesBy_in (C : sn_C p s m args meth c RX9 cX9_takesBy 7 (some .int) D ct ad layM A) {σ : sn_S} {x1 : Int32} {x2 : Int32} {x3 : Int32}  {o : (Int32 × sn_S)} (hf : fX9_takesBy σ x1 x2 x3 = some o) (kr : sn_Kr p l e rmX9_takesBy s m args below meth c Q D ct ad layM A cX9_takesBy .ireturn (true) o.2 [.int o.1]) : sn_At p l e rmX9_takesBy s m args below meth c Q D ct ad layM A 7 σ 0 [(0, .ref (ad 0)), (1, .int x1), (2, .int x2), (3, .int x3)] [] := by
  intro H locs ls hw hl
  have hx := C.1
  have hb := C.2.1
  unfold fX9_takesBy at hf
  refine lv_iconst (v := (-1)) hx hb dX9_takesBy_0 rfl ?_
  refine lv_istore (lv' := [(4, .int (-1 : Int32)), (0, .ref (ad 0)), (1, .int x1), (2, .int x2), (3, .int x3)]) hx hb dX9_takesBy_1 hl (by decide) rfl (fun ls hl => ?_)
  refine lv_aload_n hx hb dX9_takesBy_3 rfl (lv_at hl 1 rfl) ?_
  refine lv_iconst (v := 0) hx hb dX9_takesBy_4 rfl ?_
  refine sn_putI C hw fp_RX9_341 layM_0 rfl dX9_takesBy_5 (fun H locs hw => ?_)
  obtain ⟨σ_1, e_2, hf⟩ := sn_ltE hf
  rw [← e_2] at hw
  refine lv_iconst (v := 0) hx hb dX9_takesBy_8 rfl ?_
  refine lv_istore (lv' := [(5, .int (0 : Int32)), (4, .int (-1 : Int32)), (0, .ref (ad 0)), (1, .int x1), (2, .int x2), (3, .int x3)]) hx hb dX9_takesBy_9 hl (by decide) rfl (fun ls hl => ?_)
  obtain ⟨t_3, h_4, hf⟩ := sn_bd hf
  exact wX9_takesBy_L11 C  h_4 (fun v e => by cases e; exact wX9_takesBy_79 C  hf kr) _ _ _ hw (lv_sub hl [2, 3, 4, 5, 1, 0] rfl)
theorem ctX9_takesBy (l : Launch) {σ : sn_S} {x1 : Int32} {x2 : Int32} {x3 : Int32}  {o : (Int32 × sn_S)} (hf : fX9_takesBy σ x1 x2 x3 = some o) : sn_M l yX9_takesBy cX9_takesBy 7 (some .int) rmX9_takesBy layM (fun ad => [.ref (ad 0), .int x1, .int x2, .int x3]) σ (some (fun _ => .int o.1)) o.2 :=
  sn_met (by decide) (fun _ => Nat.le_of_ble_eq_true rfl) (fun p e s m args below meth c ls D ct ad A C hw hl => wX9_takesBy_in C  hf (fun H locs ls pc hw ok hd => sn_iret C hw hd) _ _ _ hw hl)
-- X9_takes_
abbrev rmX9_takes_ : Room := { frames := 6, cells := 0, slots := 0, locals := 136 }
def fX9_takes_ (σ : sn_S) (x1 : Int32) : Option (Int32 × sn_S) :=
  ((fX9_asksPerson σ x1).bind fun t_1 => (if t_1.1 = 0 then
  (some ((-2 : Int32), t_1.2))
  else
  ((fX9_takesBy t_1.2 x1 (-1 : Int32) (0 : Int32)).bind fun t_4 => (some (t_4.1, t_4.2)))))
theorem wX9_takes__in (C : sn_C p s m args meth c RX9 cX9_takes_ 2 (some .int) D ct ad layM A) {σ : sn_S} {x1 : Int32}  {o : (Int32 × sn_S)} (hf : fX9_takes_ σ x1 = some o) (kr : sn_Kr p l e rmX9_takes_ s m args below meth c Q D ct ad layM A cX9_takes_ .ireturn (true) o.2 [.int o.1]) : sn_At p l e rmX9_takes_ s m args below meth c Q D ct ad layM A 2 σ 0 [(0, .ref (ad 0)), (1, .int x1)] [] := by
  intro H locs ls hw hl
  have hx := C.1
  have hb := C.2.1
  unfold fX9_takes_ at hf
  refine lv_aload_n hx hb dX9_takes__0 rfl (lv_at hl 0 rfl) ?_
  refine lv_iload_n hx hb dX9_takes__1 rfl (lv_at hl 1 rfl) ?_
  obtain ⟨t_1, h_2, hf⟩ := sn_bd hf
  refine sn_callVi (rest := []) C hw (ctX9_asksPerson l  h_2) kl_RX9_284 layM_0 rfl rfl rfl rfl (Nat.le_of_ble_eq_true rfl) dX9_takes__2 hl.1 (fun H locs hw => ?_)
  refine lv_if_eq (tgt := 18) hx hb dX9_takes__5 (by decide) (fun c_3 => ?_) (fun c_3 => ?_)
  · have hf := sn_if c_3 hf
    refine lv_bipush (v := (-2)) hx hb dX9_takes__18 (by decide) ?_
    cases hf
    exact kr _ _ _ _ hw rfl dX9_takes__20
  · have hf := sn_el c_3 hf
    refine lv_aload_n hx hb dX9_takes__8 rfl (lv_at hl 0 rfl) ?_
    refine lv_iload_n hx hb dX9_takes__9 rfl (lv_at hl 1 rfl) ?_
    refine lv_iconst (v := (-1)) hx hb dX9_takes__10 rfl ?_
    refine lv_iconst (v := 0) hx hb dX9_takes__11 rfl ?_
    obtain ⟨t_4, h_5, hf⟩ := sn_bd hf
    refine sn_callVi (rest := []) C hw (ctX9_takesBy l  h_5) kl_RX9_344 layM_0 rfl rfl rfl rfl (Nat.le_of_ble_eq_true rfl) dX9_takes__12 hl.1 (fun H locs hw => ?_)
    refine lv_goto (tgt := 20) hx hb dX9_takes__15 (by decide) ?_
    cases hf
    exact kr _ _ _ _ hw rfl dX9_takes__20
theorem ctX9_takes_ (l : Launch) {σ : sn_S} {x1 : Int32}  {o : (Int32 × sn_S)} (hf : fX9_takes_ σ x1 = some o) : sn_M l yX9_takes_ cX9_takes_ 2 (some .int) rmX9_takes_ layM (fun ad => [.ref (ad 0), .int x1]) σ (some (fun _ => .int o.1)) o.2 :=
  sn_met (by decide) (fun _ => Nat.le_of_ble_eq_true rfl) (fun p e s m args below meth c ls D ct ad A C hw hl => wX9_takes__in C  hf (fun H locs ls pc hw ok hd => sn_iret C hw hd) _ _ _ hw hl)
-- X9_gains
abbrev rmX9_gains : Room := { frames := 6, cells := 0, slots := 0, locals := 136 }
def fX9_gains (σ : sn_S) (x1 : Int32) : Option (Int32 × sn_S) :=
  ((fX9_asksPerson σ x1).bind fun t_1 => (if t_1.1 = 0 then
  (some ((-2 : Int32), t_1.2))
  else
  ((fX9_takesBy t_1.2 x1 (-1 : Int32) (0 : Int32)).bind fun t_4 => (some ((sn_I t_4.2 0 31), t_4.2)))))
theorem wX9_gains_in (C : sn_C p s m args meth c RX9 cX9_gains 2 (some .int) D ct ad layM A) {σ : sn_S} {x1 : Int32}  {o : (Int32 × sn_S)} (hf : fX9_gains σ x1 = some o) (kr : sn_Kr p l e rmX9_gains s m args below meth c Q D ct ad layM A cX9_gains .ireturn (true) o.2 [.int o.1]) : sn_At p l e rmX9_gains s m args below meth c Q D ct ad layM A 2 σ 0 [(0, .ref (ad 0)), (1, .int x1)] [] := by
  intro H locs ls hw hl
  have hx := C.1
  have hb := C.2.1
  unfold fX9_gains at hf
  refine lv_aload_n hx hb dX9_gains_0 rfl (lv_at hl 0 rfl) ?_
  refine lv_iload_n hx hb dX9_gains_1 rfl (lv_at hl 1 rfl) ?_
  obtain ⟨t_1, h_2, hf⟩ := sn_bd hf
  refine sn_callVi (rest := []) C hw (ctX9_asksPerson l  h_2) kl_RX9_284 layM_0 rfl rfl rfl rfl (Nat.le_of_ble_eq_true rfl) dX9_gains_2 hl.1 (fun H locs hw => ?_)
  refine lv_if_ne (tgt := 11) hx hb dX9_gains_5 (by decide) (fun c_3 => ?_) (fun c_3 => ?_)
  · have hf := sn_el c_3 hf
    refine lv_aload_n hx hb dX9_gains_11 rfl (lv_at hl 0 rfl) ?_
    refine lv_iload_n hx hb dX9_gains_12 rfl (lv_at hl 1 rfl) ?_
    refine lv_iconst (v := (-1)) hx hb dX9_gains_13 rfl ?_
    refine lv_iconst (v := 0) hx hb dX9_gains_14 rfl ?_
    obtain ⟨t_4, h_5, hf⟩ := sn_bd hf
    refine sn_callVi (rest := []) C hw (ctX9_takesBy l  h_5) kl_RX9_344 layM_0 rfl rfl rfl rfl (Nat.le_of_ble_eq_true rfl) dX9_gains_15 hl.1 (fun H locs hw => ?_)
    refine lv_pop hx hb dX9_gains_18 rfl ?_
    refine lv_aload_n hx hb dX9_gains_19 rfl (lv_at hl 0 rfl) ?_
    refine sn_getI C hw fd_RX9_341 layM_0 rfl dX9_gains_20 ?_
    cases hf
    exact kr _ _ _ _ hw rfl dX9_gains_23
  · have hf := sn_if c_3 hf
    refine lv_bipush (v := (-2)) hx hb dX9_gains_8 (by decide) ?_
    cases hf
    exact kr _ _ _ _ hw rfl dX9_gains_10
theorem ctX9_gains (l : Launch) {σ : sn_S} {x1 : Int32}  {o : (Int32 × sn_S)} (hf : fX9_gains σ x1 = some o) : sn_M l yX9_gains cX9_gains 2 (some .int) rmX9_gains layM (fun ad => [.ref (ad 0), .int x1]) σ (some (fun _ => .int o.1)) o.2 :=
  sn_met (by decide) (fun _ => Nat.le_of_ble_eq_true rfl) (fun p e s m args below meth c ls D ct ad A C hw hl => wX9_gains_in C  hf (fun H locs ls pc hw ok hd => sn_iret C hw hd) _ _ _ hw hl)
-- X9_isTaken
abbrev rmX9_isTaken : Room := { frames := 4, cells := 0, slots := 0, locals := 101 }
def BX9_isTaken_31 (σ : sn_S) : Option ((Int32 × sn_S)) :=
  (sn_gd (sn_b01 (0 : Int32)) (some ((0 : Int32), σ)))
def BX9_isTaken_2 (σ : sn_S) (x1 : Int32) (x2 : Int32) (x3 : Int32) : Option ((sn_S × Int32) ⊕ ((sn_S) ⊕ (Int32 × sn_S))) :=
  (sn_gd (sn_in (5 : Int32) 119) (if (sn_I σ 1 (5 : Int32).toNatClampNeg) ≤ x3 then
  (some (.inr (.inl (σ))))
  else
  ((fX9_takesBy σ x3 x1 x2).bind fun t_3 => (if t_3.1 = x1 then
  (sn_gd (sn_b01 (1 : Int32)) (some (.inr (.inr ((1 : Int32), t_3.2)))))
  else
  (sn_lt (x3 + 1) fun y_6 => (some (.inl (t_3.2, y_6))))))))
def LX9_isTaken_2 (x1 : Int32) (x2 : Int32) (s : sn_S × Int32) : Option ((sn_S × Int32) ⊕ ((sn_S) ⊕ (Int32 × sn_S))) := BX9_isTaken_2 s.1 x1 x2 s.2
def fX9_isTaken (σ : sn_S) (x1 : Int32) (x2 : Int32) : Option (Int32 × sn_S) :=
  ((sn_it (LX9_isTaken_2 x1 x2) 5000 (σ, (0 : Int32))).bind fun t_1 => Sum.elim (fun v_3 => (BX9_isTaken_31 v_3)) (fun r_4 => (some r_4)) t_1)
theorem wX9_isTaken_31 (C : sn_C p s m args meth c RX9 cX9_isTaken 4 (some .boolean) D ct ad layM A) {σ : sn_S}  {o : (Int32 × sn_S)} (hf : BX9_isTaken_31 σ = some o) (kr : sn_Kr p l e rmX9_isTaken s m args below meth c Q D ct ad layM A cX9_isTaken .ireturn (sn_b01 o.1) o.2 [.int o.1]) : sn_At p l e rmX9_isTaken s m args below meth c Q D ct ad layM A 4 σ 31 [] [] := by
  intro H locs ls hw hl
  have hx := C.1
  have hb := C.2.1
  unfold BX9_isTaken_31 at hf
  refine lv_iconst (v := 0) hx hb dX9_isTaken_31 rfl ?_
  obtain ⟨g_1, hf⟩ := sn_gdE hf
  cases hf
  exact kr _ _ _ _ hw g_1 dX9_isTaken_32
theorem wX9_isTaken_2 (C : sn_C p s m args meth c RX9 cX9_isTaken 4 (some .boolean) D ct ad layM A) {σ : sn_S} {x1 : Int32} {x2 : Int32} {x3 : Int32}  {o : (sn_S × Int32) ⊕ ((sn_S) ⊕ (Int32 × sn_S))} (hf : BX9_isTaken_2 σ x1 x2 x3 = some o) (kc : ∀ v, o = .inl v → sn_At p l e rmX9_isTaken s m args below meth c Q D ct ad layM A 4 v.1 2 [(0, .ref (ad 0)), (1, .int x1), (2, .int x2), (3, .int v.2)] []) (kx : ∀ v, o = .inr (.inl v) → sn_At p l e rmX9_isTaken s m args below meth c Q D ct ad layM A 4 v 31 [] []) (kr : ∀ r, o = .inr (.inr r) → sn_Kr p l e rmX9_isTaken s m args below meth c Q D ct ad layM A cX9_isTaken .ireturn (sn_b01 r.1) r.2 [.int r.1]) : sn_At p l e rmX9_isTaken s m args below meth c Q D ct ad layM A 4 σ 2 [(0, .ref (ad 0)), (1, .int x1), (2, .int x2), (3, .int x3)] [] := by
  intro H locs ls hw hl
  have hx := C.1
  have hb := C.2.1
  unfold BX9_isTaken_2 at hf
  refine lv_iload_n hx hb dX9_isTaken_2 rfl (lv_at hl 3 rfl) ?_
  refine lv_aload_n hx hb dX9_isTaken_3 rfl (lv_at hl 0 rfl) ?_
  refine sn_getC (r := 1) C hw fd_RX9_9 layM_0 rfl dX9_isTaken_4 ?_
  refine lv_iconst (v := 5) hx hb dX9_isTaken_7 rfl ?_
  obtain ⟨g_1, hf⟩ := sn_gdE hf
  refine sn_iald C hw layM_1 g_1 dX9_isTaken_8 ?_
  refine lv_icmp_ge (tgt := 31) hx hb dX9_isTaken_9 (by decide) (fun c_2 => ?_) (fun c_2 => ?_)
  · have hf := sn_if c_2 hf
    cases hf
    exact kx _ rfl _ _ _ hw (lv_sub hl [] rfl)
  · have hf := sn_el c_2 hf
    refine lv_aload_n hx hb dX9_isTaken_12 rfl (lv_at hl 0 rfl) ?_
    refine lv_iload_n hx hb dX9_isTaken_13 rfl (lv_at hl 3 rfl) ?_
    refine lv_iload_n hx hb dX9_isTaken_14 rfl (lv_at hl 1 rfl) ?_
    refine lv_iload_n hx hb dX9_isTaken_15 rfl (lv_at hl 2 rfl) ?_
    obtain ⟨t_3, h_4, hf⟩ := sn_bd hf
    refine sn_callVi (rest := []) C hw (ctX9_takesBy l  h_4) kl_RX9_344 layM_0 rfl rfl rfl rfl (Nat.le_of_ble_eq_true rfl) dX9_isTaken_16 hl.1 (fun H locs hw => ?_)
    refine lv_iload_n hx hb dX9_isTaken_19 rfl (lv_at hl 1 rfl) ?_
    refine lv_icmp_ne (tgt := 25) hx hb dX9_isTaken_20 (by decide) (fun c_5 => ?_) (fun c_5 => ?_)
    · have hf := sn_el c_5 hf
      obtain ⟨y_6, e_7, hf⟩ := sn_ltE hf
      refine lv_iinc (v := y_6) (lv' := [(3, .int y_6), (0, .ref (ad 0)), (1, .int x1), (2, .int x2)]) hx hb dX9_isTaken_25 hl (k := 3) rfl (by rw [e_7]; rfl) (by decide) rfl (fun ls hl => ?_)
      refine lv_goto (tgt := 2) hx hb dX9_isTaken_28 (by decide) ?_
      cases hf
      exact kc _ rfl _ _ _ hw (lv_sub hl [1, 2, 3, 0] rfl)
    · have hf := sn_if c_5 hf
      refine lv_iconst (v := 1) hx hb dX9_isTaken_23 rfl ?_
      obtain ⟨g_8, hf⟩ := sn_gdE hf
      cases hf
      exact kr _ rfl _ _ _ _ hw g_8 dX9_isTaken_24
theorem wX9_isTaken_L2 (C : sn_C p s m args meth c RX9 cX9_isTaken 4 (some .boolean) D ct ad layM A) {x1 : Int32} {x2 : Int32}   {z : sn_S × Int32} {t : (sn_S) ⊕ (Int32 × sn_S)} (h : sn_it (LX9_isTaken_2 x1 x2) 5000 z = some t) (kx : ∀ v, t = .inl v → sn_At p l e rmX9_isTaken s m args below meth c Q D ct ad layM A 4 v 31 [] []) (kr : ∀ r, t = .inr r → sn_Kr p l e rmX9_isTaken s m args below meth c Q D ct ad layM A cX9_isTaken .ireturn (sn_b01 r.1) r.2 [.int r.1]) : sn_At p l e rmX9_isTaken s m args below meth c Q D ct ad layM A 4 z.1 2 [(0, .ref (ad 0)), (1, .int x1), (2, .int x2), (3, .int z.2)] [] :=
  sn_loop (f := LX9_isTaken_2 x1 x2) (G := fun z => sn_At p l e rmX9_isTaken s m args below meth c Q D ct ad layM A 4 z.1 2 [(0, .ref (ad 0)), (1, .int x1), (2, .int x2), (3, .int z.2)] []) (E := fun t => (∀ v, t = .inl v → sn_At p l e rmX9_isTaken s m args below meth c Q D ct ad layM A 4 v 31 [] []) ∧ (∀ r, t = .inr r → sn_Kr p l e rmX9_isTaken s m args below meth c Q D ct ad layM A cX9_isTaken .ireturn (sn_b01 r.1) r.2 [.int r.1])) (fun z o hf k1 k2 => wX9_isTaken_2 C  hf (fun v e => k1 v e) (fun v e => (k2 _ e).1 v rfl) (fun r e => (k2 _ e).2 r rfl)) 5000 z t h ⟨kx, kr⟩
theorem wX9_isTaken_in (C : sn_C p s m args meth c RX9 cX9_isTaken 4 (some .boolean) D ct ad layM A) {σ : sn_S} {x1 : Int32} {x2 : Int32}  {o : (Int32 × sn_S)} (hf : fX9_isTaken σ x1 x2 = some o) (kr : sn_Kr p l e rmX9_isTaken s m args below meth c Q D ct ad layM A cX9_isTaken .ireturn (sn_b01 o.1) o.2 [.int o.1]) : sn_At p l e rmX9_isTaken s m args below meth c Q D ct ad layM A 4 σ 0 [(0, .ref (ad 0)), (1, .int x1), (2, .int x2)] [] := by
  intro H locs ls hw hl
  have hx := C.1
  have hb := C.2.1
  unfold fX9_isTaken at hf
  refine lv_iconst (v := 0) hx hb dX9_isTaken_0 rfl ?_
  refine lv_istore_n (lv' := [(3, .int (0 : Int32)), (0, .ref (ad 0)), (1, .int x1), (2, .int x2)]) hx hb dX9_isTaken_1 rfl hl (by decide) rfl (fun ls hl => ?_)
  obtain ⟨t_1, h_2, hf⟩ := sn_bd hf
  rcases t_1 with v_3 | r_4
  · rw [Sum.elim_inl] at hf
    exact wX9_isTaken_L2 C  h_2 (fun v e => by cases e; exact wX9_isTaken_31 C  hf kr) (fun r e => by cases e) _ _ _ hw (lv_sub hl [1, 2, 3, 0] rfl)
  · rw [Sum.elim_inr] at hf
    cases hf
    exact wX9_isTaken_L2 C  h_2 (fun v e => by cases e) (fun r e => by cases e; exact kr) _ _ _ hw (lv_sub hl [1, 2, 3, 0] rfl)
theorem ctX9_isTaken (l : Launch) {σ : sn_S} {x1 : Int32} {x2 : Int32}  {o : (Int32 × sn_S)} (hf : fX9_isTaken σ x1 x2 = some o) : sn_M l yX9_isTaken cX9_isTaken 4 (some .boolean) rmX9_isTaken layM (fun ad => [.ref (ad 0), .int x1, .int x2]) σ (some (fun _ => .int o.1)) o.2 :=
  sn_met (by decide) (fun _ => Nat.le_of_ble_eq_true rfl) (fun p e s m args below meth c ls D ct ad A C hw hl => wX9_isTaken_in C  hf (fun H locs ls pc hw ok hd => sn_zret C hw ok hd) _ _ _ hw hl)
-- X9_price
abbrev rmX9_price : Room := { frames := 6, cells := 0, slots := 0, locals := 136 }
def BX9_price_28 (σ : sn_S) (x2 : Int32) : Option ((Int32 × sn_S)) :=
  (some (x2, σ))
def BX9_price_13 (σ : sn_S) (x1 : Int32) (x2 : Int32) : Option ((sn_S × Int32) ⊕ (sn_S × Int32)) :=
  ((fX9_isTaken σ x1 x2).bind fun t_1 => (if t_1.1 = 0 then
  (some (.inr (t_1.2, x2)))
  else
  (sn_lt (x2 + 1) fun y_4 => (some (.inl (t_1.2, y_4))))))
def LX9_price_13 (x1 : Int32) (s : sn_S × Int32) : Option ((sn_S × Int32) ⊕ (sn_S × Int32)) := BX9_price_13 s.1 x1 s.2
def fX9_price (σ : sn_S) (x1 : Int32) : Option (Int32 × sn_S) :=
  ((fX9_asksPolicy σ x1).bind fun t_1 => (if t_1.1 = 0 then
  (some ((-2 : Int32), t_1.2))
  else
  ((sn_it (LX9_price_13 x1) 5000 (t_1.2, (0 : Int32))).bind fun t_4 => (BX9_price_28 t_4.1 t_4.2))))
theorem wX9_price_28 (C : sn_C p s m args meth c RX9 cX9_price 3 (some .int) D ct ad layM A) {σ : sn_S} {x2 : Int32}  {o : (Int32 × sn_S)} (hf : BX9_price_28 σ x2 = some o) (kr : sn_Kr p l e rmX9_price s m args below meth c Q D ct ad layM A cX9_price .ireturn (true) o.2 [.int o.1]) : sn_At p l e rmX9_price s m args below meth c Q D ct ad layM A 3 σ 28 [(2, .int x2)] [] := by
  intro H locs ls hw hl
  have hx := C.1
  have hb := C.2.1
  unfold BX9_price_28 at hf
  refine lv_iload_n hx hb dX9_price_28 rfl (lv_at hl 0 rfl) ?_
  cases hf
  exact kr _ _ _ _ hw rfl dX9_price_29
theorem wX9_price_13 (C : sn_C p s m args meth c RX9 cX9_price 3 (some .int) D ct ad layM A) {σ : sn_S} {x1 : Int32} {x2 : Int32}  {o : (sn_S × Int32) ⊕ (sn_S × Int32)} (hf : BX9_price_13 σ x1 x2 = some o) (kc : ∀ v, o = .inl v → sn_At p l e rmX9_price s m args below meth c Q D ct ad layM A 3 v.1 13 [(0, .ref (ad 0)), (1, .int x1), (2, .int v.2)] []) (kx : ∀ v, o = .inr v → sn_At p l e rmX9_price s m args below meth c Q D ct ad layM A 3 v.1 28 [(2, .int v.2)] []) : sn_At p l e rmX9_price s m args below meth c Q D ct ad layM A 3 σ 13 [(0, .ref (ad 0)), (1, .int x1), (2, .int x2)] [] := by
  intro H locs ls hw hl
  have hx := C.1
  have hb := C.2.1
  unfold BX9_price_13 at hf
  refine lv_aload_n hx hb dX9_price_13 rfl (lv_at hl 0 rfl) ?_
  refine lv_iload_n hx hb dX9_price_14 rfl (lv_at hl 1 rfl) ?_
  refine lv_iload_n hx hb dX9_price_15 rfl (lv_at hl 2 rfl) ?_
  obtain ⟨t_1, h_2, hf⟩ := sn_bd hf
  refine sn_callVi (rest := []) C hw (ctX9_isTaken l  h_2) kl_RX9_348 layM_0 rfl rfl rfl rfl (Nat.le_of_ble_eq_true rfl) dX9_price_16 hl.1 (fun H locs hw => ?_)
  refine lv_if_eq (tgt := 28) hx hb dX9_price_19 (by decide) (fun c_3 => ?_) (fun c_3 => ?_)
  · have hf := sn_if c_3 hf
    cases hf
    exact kx _ rfl _ _ _ hw (lv_sub hl [2] rfl)
  · have hf := sn_el c_3 hf
    obtain ⟨y_4, e_5, hf⟩ := sn_ltE hf
    refine lv_iinc (v := y_4) (lv' := [(2, .int y_4), (0, .ref (ad 0)), (1, .int x1)]) hx hb dX9_price_22 hl (k := 2) rfl (by rw [e_5]; rfl) (by decide) rfl (fun ls hl => ?_)
    refine lv_goto (tgt := 13) hx hb dX9_price_25 (by decide) ?_
    cases hf
    exact kc _ rfl _ _ _ hw (lv_sub hl [1, 2, 0] rfl)
theorem wX9_price_L13 (C : sn_C p s m args meth c RX9 cX9_price 3 (some .int) D ct ad layM A) {x1 : Int32}   {z : sn_S × Int32} {t : sn_S × Int32} (h : sn_it (LX9_price_13 x1) 5000 z = some t) (kx : ∀ v, t = v → sn_At p l e rmX9_price s m args below meth c Q D ct ad layM A 3 v.1 28 [(2, .int v.2)] []) : sn_At p l e rmX9_price s m args below meth c Q D ct ad layM A 3 z.1 13 [(0, .ref (ad 0)), (1, .int x1), (2, .int z.2)] [] :=
  sn_loop (f := LX9_price_13 x1) (G := fun z => sn_At p l e rmX9_price s m args below meth c Q D ct ad layM A 3 z.1 13 [(0, .ref (ad 0)), (1, .int x1), (2, .int z.2)] []) (E := fun t => (∀ v, t = v → sn_At p l e rmX9_price s m args below meth c Q D ct ad layM A 3 v.1 28 [(2, .int v.2)] []) ∧ True) (fun z o hf k1 k2 => wX9_price_13 C  hf (fun v e => k1 v e) (fun v e => (k2 _ e).1 v rfl)) 5000 z t h ⟨kx, trivial⟩
theorem wX9_price_in (C : sn_C p s m args meth c RX9 cX9_price 3 (some .int) D ct ad layM A) {σ : sn_S} {x1 : Int32}  {o : (Int32 × sn_S)} (hf : fX9_price σ x1 = some o) (kr : sn_Kr p l e rmX9_price s m args below meth c Q D ct ad layM A cX9_price .ireturn (true) o.2 [.int o.1]) : sn_At p l e rmX9_price s m args below meth c Q D ct ad layM A 3 σ 0 [(0, .ref (ad 0)), (1, .int x1)] [] := by
  intro H locs ls hw hl
  have hx := C.1
  have hb := C.2.1
  unfold fX9_price at hf
  refine lv_aload_n hx hb dX9_price_0 rfl (lv_at hl 0 rfl) ?_
  refine lv_iload_n hx hb dX9_price_1 rfl (lv_at hl 1 rfl) ?_
  obtain ⟨t_1, h_2, hf⟩ := sn_bd hf
  refine sn_callVi (rest := []) C hw (ctX9_asksPolicy l  h_2) kl_RX9_323 layM_0 rfl rfl rfl rfl (Nat.le_of_ble_eq_true rfl) dX9_price_2 hl.1 (fun H locs hw => ?_)
  refine lv_if_ne (tgt := 11) hx hb dX9_price_5 (by decide) (fun c_3 => ?_) (fun c_3 => ?_)
  · have hf := sn_el c_3 hf
    refine lv_iconst (v := 0) hx hb dX9_price_11 rfl ?_
    refine lv_istore_n (lv' := [(2, .int (0 : Int32)), (0, .ref (ad 0)), (1, .int x1)]) hx hb dX9_price_12 rfl hl (by decide) rfl (fun ls hl => ?_)
    obtain ⟨t_4, h_5, hf⟩ := sn_bd hf
    exact wX9_price_L13 C  h_5 (fun v e => by cases e; exact wX9_price_28 C  hf kr) _ _ _ hw (lv_sub hl [1, 2, 0] rfl)
  · have hf := sn_if c_3 hf
    refine lv_bipush (v := (-2)) hx hb dX9_price_8 (by decide) ?_
    cases hf
    exact kr _ _ _ _ hw rfl dX9_price_10
theorem ctX9_price (l : Launch) {σ : sn_S} {x1 : Int32}  {o : (Int32 × sn_S)} (hf : fX9_price σ x1 = some o) : sn_M l yX9_price cX9_price 3 (some .int) rmX9_price layM (fun ad => [.ref (ad 0), .int x1]) σ (some (fun _ => .int o.1)) o.2 :=
  sn_met (by decide) (fun _ => Nat.le_of_ble_eq_true rfl) (fun p e s m args below meth c ls D ct ad A C hw hl => wX9_price_in C  hf (fun H locs ls pc hw ok hd => sn_iret C hw hd) _ _ _ hw hl)
-- X9_tickleSince
abbrev rmX9_tickleSince : Room := { frames := 0, cells := 0, slots := 0, locals := 0 }
def BX9_tickleSince_35 (σ : sn_S) (x4 : Int32) : Option (Int32) :=
  (some x4)
def BX9_tickleSince_6 (σ : sn_S) (x1 : Int32) (x3 : Int32) (x4 : Int32) (x5 : Int32) : Option ((Int32 × Int32) ⊕ (Int32)) :=
  (if x3 < x5 then
  (some (.inr (x4)))
  else
  (sn_gd (sn_in (((6 : Int32) * x5) + x1) 180) (sn_lt (x4 + (sn_I σ 13 (((6 : Int32) * x5) + x1).toNatClampNeg)) fun y_3 => (sn_lt (x5 + 1) fun y_5 => (some (.inl (y_3, y_5)))))))
def LX9_tickleSince_6 (σ : sn_S) (x1 : Int32) (x3 : Int32) (s : Int32 × Int32) : Option ((Int32 × Int32) ⊕ (Int32)) := BX9_tickleSince_6 σ x1 x3 s.1 s.2
def fX9_tickleSince (σ : sn_S) (x1 : Int32) (x2 : Int32) (x3 : Int32) : Option Int32 :=
  ((sn_it (LX9_tickleSince_6 σ x1 x3) 5000 ((0 : Int32), x2)).bind fun t_1 => (BX9_tickleSince_35 σ t_1))
theorem wX9_tickleSince_35 (C : sn_C p s m args meth c RX9 cX9_tickleSince 6 (some .int) D ct ad layM A) {σ : sn_S} {x4 : Int32}  {o : Int32} (hf : BX9_tickleSince_35 σ x4 = some o) (kr : sn_Kr p l e rmX9_tickleSince s m args below meth c Q D ct ad layM A cX9_tickleSince .ireturn (true) σ [.int o]) : sn_At p l e rmX9_tickleSince s m args below meth c Q D ct ad layM A 6 σ 35 [(4, .int x4)] [] := by
  intro H locs ls hw hl
  have hx := C.1
  have hb := C.2.1
  unfold BX9_tickleSince_35 at hf
  refine lv_iload hx hb dX9_tickleSince_35 (lv_at hl 0 rfl) ?_
  cases hf
  exact kr _ _ _ _ hw rfl dX9_tickleSince_37
theorem wX9_tickleSince_6 (C : sn_C p s m args meth c RX9 cX9_tickleSince 6 (some .int) D ct ad layM A) {σ : sn_S} {x1 : Int32} {x3 : Int32} {x4 : Int32} {x5 : Int32}  {o : (Int32 × Int32) ⊕ (Int32)} (hf : BX9_tickleSince_6 σ x1 x3 x4 x5 = some o) (kc : ∀ v, o = .inl v → sn_At p l e rmX9_tickleSince s m args below meth c Q D ct ad layM A 6 σ 6 [(0, .ref (ad 0)), (1, .int x1), (3, .int x3), (4, .int v.1), (5, .int v.2)] []) (kx : ∀ v, o = .inr v → sn_At p l e rmX9_tickleSince s m args below meth c Q D ct ad layM A 6 σ 35 [(4, .int v)] []) : sn_At p l e rmX9_tickleSince s m args below meth c Q D ct ad layM A 6 σ 6 [(0, .ref (ad 0)), (1, .int x1), (3, .int x3), (4, .int x4), (5, .int x5)] [] := by
  intro H locs ls hw hl
  have hx := C.1
  have hb := C.2.1
  unfold BX9_tickleSince_6 at hf
  refine lv_iload hx hb dX9_tickleSince_6 (lv_at hl 4 rfl) ?_
  refine lv_iload_n hx hb dX9_tickleSince_8 rfl (lv_at hl 2 rfl) ?_
  refine lv_icmp_gt (tgt := 35) hx hb dX9_tickleSince_9 (by decide) (fun c_1 => ?_) (fun c_1 => ?_)
  · have hf := sn_if c_1 hf
    cases hf
    exact kx _ rfl _ _ _ hw (lv_sub hl [3] rfl)
  · have hf := sn_el c_1 hf
    refine lv_iload hx hb dX9_tickleSince_12 (lv_at hl 3 rfl) ?_
    refine lv_aload_n hx hb dX9_tickleSince_14 rfl (lv_at hl 0 rfl) ?_
    refine sn_getC (r := 13) C hw fd_RX9_52 layM_0 rfl dX9_tickleSince_15 ?_
    refine lv_bipush (v := 6) hx hb dX9_tickleSince_18 (by decide) ?_
    refine lv_iload hx hb dX9_tickleSince_20 (lv_at hl 4 rfl) ?_
    refine lv_imul hx hb dX9_tickleSince_22 ?_
    refine lv_iload_n hx hb dX9_tickleSince_23 rfl (lv_at hl 1 rfl) ?_
    refine lv_iadd hx hb dX9_tickleSince_24 ?_
    obtain ⟨g_2, hf⟩ := sn_gdE hf
    refine sn_iald C hw layM_13 g_2 dX9_tickleSince_25 ?_
    refine lv_iadd hx hb dX9_tickleSince_26 ?_
    obtain ⟨y_3, e_4, hf⟩ := sn_ltE hf
    refine lv_topi (fun y_3_ e_4_ => ?_)
    obtain rfl : y_3 = y_3_ := e_4.trans e_4_.symm
    refine lv_istore (lv' := [(4, .int y_3), (0, .ref (ad 0)), (1, .int x1), (3, .int x3), (5, .int x5)]) hx hb dX9_tickleSince_27 hl (by decide) rfl (fun ls hl => ?_)
    obtain ⟨y_5, e_6, hf⟩ := sn_ltE hf
    refine lv_iinc (v := y_5) (lv' := [(5, .int y_5), (4, .int y_3), (0, .ref (ad 0)), (1, .int x1), (3, .int x3)]) hx hb dX9_tickleSince_29 hl (k := 4) rfl (by rw [e_6]; rfl) (by decide) rfl (fun ls hl => ?_)
    refine lv_goto (tgt := 6) hx hb dX9_tickleSince_32 (by decide) ?_
    cases hf
    exact kc _ rfl _ _ _ hw (lv_sub hl [2, 3, 4, 1, 0] rfl)
theorem wX9_tickleSince_L6 (C : sn_C p s m args meth c RX9 cX9_tickleSince 6 (some .int) D ct ad layM A) {σ : sn_S} {x1 : Int32} {x3 : Int32}   {z : Int32 × Int32} {t : Int32} (h : sn_it (LX9_tickleSince_6 σ x1 x3) 5000 z = some t) (kx : ∀ v, t = v → sn_At p l e rmX9_tickleSince s m args below meth c Q D ct ad layM A 6 σ 35 [(4, .int v)] []) : sn_At p l e rmX9_tickleSince s m args below meth c Q D ct ad layM A 6 σ 6 [(0, .ref (ad 0)), (1, .int x1), (3, .int x3), (4, .int z.1), (5, .int z.2)] [] :=
  sn_loop (f := LX9_tickleSince_6 σ x1 x3) (G := fun z => sn_At p l e rmX9_tickleSince s m args below meth c Q D ct ad layM A 6 σ 6 [(0, .ref (ad 0)), (1, .int x1), (3, .int x3), (4, .int z.1), (5, .int z.2)] []) (E := fun t => (∀ v, t = v → sn_At p l e rmX9_tickleSince s m args below meth c Q D ct ad layM A 6 σ 35 [(4, .int v)] []) ∧ True) (fun z o hf k1 k2 => wX9_tickleSince_6 C  hf (fun v e => k1 v e) (fun v e => (k2 _ e).1 v rfl)) 5000 z t h ⟨kx, trivial⟩
theorem wX9_tickleSince_in (C : sn_C p s m args meth c RX9 cX9_tickleSince 6 (some .int) D ct ad layM A) {σ : sn_S} {x1 : Int32} {x2 : Int32} {x3 : Int32}  {o : Int32} (hf : fX9_tickleSince σ x1 x2 x3 = some o) (kr : sn_Kr p l e rmX9_tickleSince s m args below meth c Q D ct ad layM A cX9_tickleSince .ireturn (true) σ [.int o]) : sn_At p l e rmX9_tickleSince s m args below meth c Q D ct ad layM A 6 σ 0 [(0, .ref (ad 0)), (1, .int x1), (2, .int x2), (3, .int x3)] [] := by
  intro H locs ls hw hl
  have hx := C.1
  have hb := C.2.1
  unfold fX9_tickleSince at hf
  refine lv_iconst (v := 0) hx hb dX9_tickleSince_0 rfl ?_
  refine lv_istore (lv' := [(4, .int (0 : Int32)), (0, .ref (ad 0)), (1, .int x1), (2, .int x2), (3, .int x3)]) hx hb dX9_tickleSince_1 hl (by decide) rfl (fun ls hl => ?_)
  refine lv_iload_n hx hb dX9_tickleSince_3 rfl (lv_at hl 3 rfl) ?_
  refine lv_istore (lv' := [(5, .int x2), (4, .int (0 : Int32)), (0, .ref (ad 0)), (1, .int x1), (2, .int x2), (3, .int x3)]) hx hb dX9_tickleSince_4 hl (by decide) rfl (fun ls hl => ?_)
  obtain ⟨t_1, h_2, hf⟩ := sn_bd hf
  exact wX9_tickleSince_L6 C  h_2 (fun v e => by cases e; exact wX9_tickleSince_35 C  hf kr) _ _ _ hw (lv_sub hl [2, 3, 5, 1, 0] rfl)
theorem ctX9_tickleSince (l : Launch) {σ : sn_S} {x1 : Int32} {x2 : Int32} {x3 : Int32}  {o : Int32} (hf : fX9_tickleSince σ x1 x2 x3 = some o) : sn_M l yX9_tickleSince cX9_tickleSince 6 (some .int) rmX9_tickleSince layM (fun ad => [.ref (ad 0), .int x1, .int x2, .int x3]) σ (some (fun _ => .int o)) σ :=
  sn_met (by decide) (fun _ => Nat.le_of_ble_eq_true rfl) (fun p e s m args below meth c ls D ct ad A C hw hl => wX9_tickleSince_in C  hf (fun H locs ls pc hw ok hd => sn_iret C hw hd) _ _ _ hw hl)
-- X9_layHold
abbrev rmX9_layHold : Room := { frames := 1, cells := 0, slots := 0, locals := 25 }
def BX9_layHold_185 (σ : sn_S) (x5 : Int32) (x7 : Int32) (t0 : Int32) : Option (sn_S) :=
  (if t0 = 0 then
  (some σ)
  else
  (sn_gd (sn_in x7 961) (sn_gd (sn_in x5 961) (sn_lt (sn_pI σ 17 x5.toNatClampNeg (sn_I σ 17 x7.toNatClampNeg)) fun σ_4 => (sn_gd (sn_in x7 961) (sn_gd (sn_in x5 961) (sn_lt (sn_pI σ_4 18 x5.toNatClampNeg (sn_I σ_4 18 x7.toNatClampNeg)) fun σ_8 => (some σ_8))))))))
def BX9_layHold_184 (σ : sn_S) (x5 : Int32) (x7 : Int32) : Option (sn_S) :=
  (BX9_layHold_185 σ x5 x7 (0 : Int32))
def BX9_layHold_180 (σ : sn_S) (x5 : Int32) (x7 : Int32) : Option (sn_S) :=
  (BX9_layHold_185 σ x5 x7 (1 : Int32))
def fX9_layHold (σ : sn_S) (x1 : Int32) (x2 : Int32) (x3 : Int32) (x4 : Int32) : Option sn_S :=
  (sn_lt (((31 : Int32) * x3) + x4) fun y_1 => (sn_lt (((31 : Int32) * (x3 + (1 : Int32))) + x4) fun y_3 => (sn_gd (sn_in y_3 961) (sn_gd (sn_in y_1 961) (sn_lt (sn_pI σ 17 y_1.toNatClampNeg (sn_I σ 17 y_3.toNatClampNeg)) fun σ_7 => (sn_gd (sn_in y_3 961) (sn_gd (sn_in y_1 961) (sn_lt (sn_pI σ_7 18 y_1.toNatClampNeg (sn_I σ_7 18 y_3.toNatClampNeg)) fun σ_11 => ((fX9_tickleSince σ_11 x1 x4 x3).bind fun t_13 => (sn_gd (sn_in (((11 : Int32) + ((2 : Int32) * x1)) + (1 : Int32)) 119) (if (sn_I σ_11 1 (((11 : Int32) + ((2 : Int32) * x1)) + (1 : Int32)).toNatClampNeg) ≤ t_13 then
  (sn_gd (sn_in y_3 961) (sn_gd (sn_in y_1 961) (sn_lt (sn_pI σ_11 17 y_1.toNatClampNeg ((sn_I σ_11 17 y_3.toNatClampNeg) + (1 : Int32))) fun σ_19 => (sn_gd (sn_in y_3 961) (sn_gd (sn_in y_1 961) (sn_lt (sn_pI σ_19 18 y_1.toNatClampNeg ((sn_I σ_19 18 y_3.toNatClampNeg) ||| ((1 : Int32) <<< (x3 &&& 31)))) fun σ_23 => ((fX9_bit x2 x3).bind fun t_25 => (if t_25 = (1 : Int32) then
  (some σ_23)
  else
  (sn_lt ((((31 : Int32) * (x3 + (1 : Int32))) + x3) + (1 : Int32)) fun y_28 => (sn_gd (sn_in y_28 961) (sn_gd (sn_in y_1 961) (if (sn_I σ_23 17 y_28.toNatClampNeg) < (sn_I σ_23 17 y_1.toNatClampNeg) then
  (BX9_layHold_180 σ_23 y_1 y_28)
  else
  (sn_gd (sn_in y_28 961) (sn_gd (sn_in y_1 961) (if (sn_I σ_23 17 y_28.toNatClampNeg) = (sn_I σ_23 17 y_1.toNatClampNeg) then
  (sn_gd (sn_in y_28 961) (sn_gd (sn_in y_1 961) (if (sn_I σ_23 18 y_1.toNatClampNeg) ≤ (sn_I σ_23 18 y_28.toNatClampNeg) then
  (BX9_layHold_184 σ_23 y_1 y_28)
  else
  (BX9_layHold_180 σ_23 y_1 y_28))))
  else
  (BX9_layHold_184 σ_23 y_1 y_28))))))))))))))))
  else
  (some σ_11))))))))))))
theorem wX9_layHold_185 (C : sn_C p s m args meth c RX9 cX9_layHold 9 none D ct ad layM A) {σ : sn_S} {x5 : Int32} {x7 : Int32} {t0 : Int32}  {o : sn_S} (hf : BX9_layHold_185 σ x5 x7 t0 = some o) (kr : sn_Kr p l e rmX9_layHold s m args below meth c Q D ct ad layM A cX9_layHold .return_ (true) o []) : sn_At p l e rmX9_layHold s m args below meth c Q D ct ad layM A 9 σ 185 [(0, .ref (ad 0)), (5, .int x5), (7, .int x7)] [.int t0] := by
  intro H locs ls hw hl
  have hx := C.1
  have hb := C.2.1
  unfold BX9_layHold_185 at hf
  refine lv_istore (lv' := [(8, .int t0), (0, .ref (ad 0)), (5, .int x5), (7, .int x7)]) hx hb dX9_layHold_185 hl (by decide) rfl (fun ls hl => ?_)
  refine lv_iload hx hb dX9_layHold_187 (lv_at hl 0 rfl) ?_
  refine lv_if_ne (tgt := 193) hx hb dX9_layHold_189 (by decide) (fun c_1 => ?_) (fun c_1 => ?_)
  · have hf := sn_el c_1 hf
    refine lv_aload_n hx hb dX9_layHold_193 rfl (lv_at hl 1 rfl) ?_
    refine sn_getC (r := 17) C hw fd_RX9_64 layM_0 rfl dX9_layHold_194 ?_
    refine lv_iload hx hb dX9_layHold_197 (lv_at hl 2 rfl) ?_
    refine lv_aload_n hx hb dX9_layHold_199 rfl (lv_at hl 1 rfl) ?_
    refine sn_getC (r := 17) C hw fd_RX9_64 layM_0 rfl dX9_layHold_200 ?_
    refine lv_iload hx hb dX9_layHold_203 (lv_at hl 3 rfl) ?_
    obtain ⟨g_2, hf⟩ := sn_gdE hf
    refine sn_iald C hw layM_17 g_2 dX9_layHold_205 ?_
    obtain ⟨g_3, hf⟩ := sn_gdE hf
    refine sn_iast C hw layM_17 g_3 dX9_layHold_206 (fun H locs hw => ?_)
    obtain ⟨σ_4, e_5, hf⟩ := sn_ltE hf
    rw [← e_5] at hw
    refine lv_aload_n hx hb dX9_layHold_207 rfl (lv_at hl 1 rfl) ?_
    refine sn_getC (r := 18) C hw fd_RX9_67 layM_0 rfl dX9_layHold_208 ?_
    refine lv_iload hx hb dX9_layHold_211 (lv_at hl 2 rfl) ?_
    refine lv_aload_n hx hb dX9_layHold_213 rfl (lv_at hl 1 rfl) ?_
    refine sn_getC (r := 18) C hw fd_RX9_67 layM_0 rfl dX9_layHold_214 ?_
    refine lv_iload hx hb dX9_layHold_217 (lv_at hl 3 rfl) ?_
    obtain ⟨g_6, hf⟩ := sn_gdE hf
    refine sn_iald C hw layM_18 g_6 dX9_layHold_219 ?_
    obtain ⟨g_7, hf⟩ := sn_gdE hf
    refine sn_iast C hw layM_18 g_7 dX9_layHold_220 (fun H locs hw => ?_)
    obtain ⟨σ_8, e_9, hf⟩ := sn_ltE hf
    rw [← e_9] at hw
    cases hf
    exact kr _ _ _ _ hw rfl dX9_layHold_221
  · have hf := sn_if c_1 hf
    cases hf
    exact kr _ _ _ _ hw rfl dX9_layHold_192
theorem wX9_layHold_184 (C : sn_C p s m args meth c RX9 cX9_layHold 9 none D ct ad layM A) {σ : sn_S} {x5 : Int32} {x7 : Int32}  {o : sn_S} (hf : BX9_layHold_184 σ x5 x7 = some o) (kr : sn_Kr p l e rmX9_layHold s m args below meth c Q D ct ad layM A cX9_layHold .return_ (true) o []) : sn_At p l e rmX9_layHold s m args below meth c Q D ct ad layM A 9 σ 184 [(0, .ref (ad 0)), (5, .int x5), (7, .int x7)] [] := by
  intro H locs ls hw hl
  have hx := C.1
  have hb := C.2.1
  unfold BX9_layHold_184 at hf
  refine lv_iconst (v := 0) hx hb dX9_layHold_184 rfl ?_
  exact wX9_layHold_185 C  hf kr _ _ _ hw (lv_sub hl [0, 1, 2] rfl)
theorem wX9_layHold_180 (C : sn_C p s m args meth c RX9 cX9_layHold 9 none D ct ad layM A) {σ : sn_S} {x5 : Int32} {x7 : Int32}  {o : sn_S} (hf : BX9_layHold_180 σ x5 x7 = some o) (kr : sn_Kr p l e rmX9_layHold s m args below meth c Q D ct ad layM A cX9_layHold .return_ (true) o []) : sn_At p l e rmX9_layHold s m args below meth c Q D ct ad layM A 9 σ 180 [(0, .ref (ad 0)), (5, .int x5), (7, .int x7)] [] := by
  intro H locs ls hw hl
  have hx := C.1
  have hb := C.2.1
  unfold BX9_layHold_180 at hf
  refine lv_iconst (v := 1) hx hb dX9_layHold_180 rfl ?_
  refine lv_goto (tgt := 185) hx hb dX9_layHold_181 (by decide) ?_
  exact wX9_layHold_185 C  hf kr _ _ _ hw (lv_sub hl [0, 1, 2] rfl)
theorem wX9_layHold_in (C : sn_C p s m args meth c RX9 cX9_layHold 9 none D ct ad layM A) {σ : sn_S} {x1 : Int32} {x2 : Int32} {x3 : Int32} {x4 : Int32}  {o : sn_S} (hf : fX9_layHold σ x1 x2 x3 x4 = some o) (kr : sn_Kr p l e rmX9_layHold s m args below meth c Q D ct ad layM A cX9_layHold .return_ (true) o []) : sn_At p l e rmX9_layHold s m args below meth c Q D ct ad layM A 9 σ 0 [(0, .ref (ad 0)), (1, .int x1), (2, .int x2), (3, .int x3), (4, .int x4)] [] := by
  intro H locs ls hw hl
  have hx := C.1
  have hb := C.2.1
  unfold fX9_layHold at hf
  refine lv_bipush (v := 31) hx hb dX9_layHold_0 (by decide) ?_
  refine lv_iload_n hx hb dX9_layHold_2 rfl (lv_at hl 3 rfl) ?_
  refine lv_imul hx hb dX9_layHold_3 ?_
  refine lv_iload hx hb dX9_layHold_4 (lv_at hl 4 rfl) ?_
  refine lv_iadd hx hb dX9_layHold_6 ?_
  obtain ⟨y_1, e_2, hf⟩ := sn_ltE hf
  refine lv_topi (fun y_1_ e_2_ => ?_)
  obtain rfl : y_1 = y_1_ := e_2.trans e_2_.symm
  refine lv_istore (lv' := [(5, .int y_1), (0, .ref (ad 0)), (1, .int x1), (2, .int x2), (3, .int x3), (4, .int x4)]) hx hb dX9_layHold_7 hl (by decide) rfl (fun ls hl => ?_)
  refine lv_bipush (v := 31) hx hb dX9_layHold_9 (by decide) ?_
  refine lv_iload_n hx hb dX9_layHold_11 rfl (lv_at hl 4 rfl) ?_
  refine lv_iconst (v := 1) hx hb dX9_layHold_12 rfl ?_
  refine lv_iadd hx hb dX9_layHold_13 ?_
  refine lv_imul hx hb dX9_layHold_14 ?_
  refine lv_iload hx hb dX9_layHold_15 (lv_at hl 5 rfl) ?_
  refine lv_iadd hx hb dX9_layHold_17 ?_
  obtain ⟨y_3, e_4, hf⟩ := sn_ltE hf
  refine lv_topi (fun y_3_ e_4_ => ?_)
  obtain rfl : y_3 = y_3_ := e_4.trans e_4_.symm
  refine lv_istore (lv' := [(6, .int y_3), (5, .int y_1), (0, .ref (ad 0)), (1, .int x1), (2, .int x2), (3, .int x3), (4, .int x4)]) hx hb dX9_layHold_18 hl (by decide) rfl (fun ls hl => ?_)
  refine lv_aload_n hx hb dX9_layHold_20 rfl (lv_at hl 2 rfl) ?_
  refine sn_getC (r := 17) C hw fd_RX9_64 layM_0 rfl dX9_layHold_21 ?_
  refine lv_iload hx hb dX9_layHold_24 (lv_at hl 1 rfl) ?_
  refine lv_aload_n hx hb dX9_layHold_26 rfl (lv_at hl 2 rfl) ?_
  refine sn_getC (r := 17) C hw fd_RX9_64 layM_0 rfl dX9_layHold_27 ?_
  refine lv_iload hx hb dX9_layHold_30 (lv_at hl 0 rfl) ?_
  obtain ⟨g_5, hf⟩ := sn_gdE hf
  refine sn_iald C hw layM_17 g_5 dX9_layHold_32 ?_
  obtain ⟨g_6, hf⟩ := sn_gdE hf
  refine sn_iast C hw layM_17 g_6 dX9_layHold_33 (fun H locs hw => ?_)
  obtain ⟨σ_7, e_8, hf⟩ := sn_ltE hf
  rw [← e_8] at hw
  refine lv_aload_n hx hb dX9_layHold_34 rfl (lv_at hl 2 rfl) ?_
  refine sn_getC (r := 18) C hw fd_RX9_67 layM_0 rfl dX9_layHold_35 ?_
  refine lv_iload hx hb dX9_layHold_38 (lv_at hl 1 rfl) ?_
  refine lv_aload_n hx hb dX9_layHold_40 rfl (lv_at hl 2 rfl) ?_
  refine sn_getC (r := 18) C hw fd_RX9_67 layM_0 rfl dX9_layHold_41 ?_
  refine lv_iload hx hb dX9_layHold_44 (lv_at hl 0 rfl) ?_
  obtain ⟨g_9, hf⟩ := sn_gdE hf
  refine sn_iald C hw layM_18 g_9 dX9_layHold_46 ?_
  obtain ⟨g_10, hf⟩ := sn_gdE hf
  refine sn_iast C hw layM_18 g_10 dX9_layHold_47 (fun H locs hw => ?_)
  obtain ⟨σ_11, e_12, hf⟩ := sn_ltE hf
  rw [← e_12] at hw
  refine lv_aload_n hx hb dX9_layHold_48 rfl (lv_at hl 2 rfl) ?_
  refine lv_iload_n hx hb dX9_layHold_49 rfl (lv_at hl 3 rfl) ?_
  refine lv_iload hx hb dX9_layHold_50 (lv_at hl 6 rfl) ?_
  refine lv_iload_n hx hb dX9_layHold_52 rfl (lv_at hl 5 rfl) ?_
  obtain ⟨t_13, h_14, hf⟩ := sn_bd hf
  refine sn_callVi (rest := []) C hw (ctX9_tickleSince l  h_14) kl_RX9_352 layM_0 rfl rfl rfl rfl (Nat.le_of_ble_eq_true rfl) dX9_layHold_53 hl.1 (fun H locs hw => ?_)
  refine lv_aload_n hx hb dX9_layHold_56 rfl (lv_at hl 2 rfl) ?_
  refine sn_getC (r := 1) C hw fd_RX9_9 layM_0 rfl dX9_layHold_57 ?_
  refine lv_bipush (v := 11) hx hb dX9_layHold_60 (by decide) ?_
  refine lv_iconst (v := 2) hx hb dX9_layHold_62 rfl ?_
  refine lv_iload_n hx hb dX9_layHold_63 rfl (lv_at hl 3 rfl) ?_
  refine lv_imul hx hb dX9_layHold_64 ?_
  refine lv_iadd hx hb dX9_layHold_65 ?_
  refine lv_iconst (v := 1) hx hb dX9_layHold_66 rfl ?_
  refine lv_iadd hx hb dX9_layHold_67 ?_
  obtain ⟨g_15, hf⟩ := sn_gdE hf
  refine sn_iald C hw layM_1 g_15 dX9_layHold_68 ?_
  refine lv_icmp_ge (tgt := 73) hx hb dX9_layHold_69 (by decide) (fun c_16 => ?_) (fun c_16 => ?_)
  · have hf := sn_if c_16 hf
    refine lv_aload_n hx hb dX9_layHold_73 rfl (lv_at hl 2 rfl) ?_
    refine sn_getC (r := 17) C hw fd_RX9_64 layM_0 rfl dX9_layHold_74 ?_
    refine lv_iload hx hb dX9_layHold_77 (lv_at hl 1 rfl) ?_
    refine lv_aload_n hx hb dX9_layHold_79 rfl (lv_at hl 2 rfl) ?_
    refine sn_getC (r := 17) C hw fd_RX9_64 layM_0 rfl dX9_layHold_80 ?_
    refine lv_iload hx hb dX9_layHold_83 (lv_at hl 0 rfl) ?_
    obtain ⟨g_17, hf⟩ := sn_gdE hf
    refine sn_iald C hw layM_17 g_17 dX9_layHold_85 ?_
    refine lv_iconst (v := 1) hx hb dX9_layHold_86 rfl ?_
    refine lv_iadd hx hb dX9_layHold_87 ?_
    obtain ⟨g_18, hf⟩ := sn_gdE hf
    refine sn_iast C hw layM_17 g_18 dX9_layHold_88 (fun H locs hw => ?_)
    obtain ⟨σ_19, e_20, hf⟩ := sn_ltE hf
    rw [← e_20] at hw
    refine lv_aload_n hx hb dX9_layHold_89 rfl (lv_at hl 2 rfl) ?_
    refine sn_getC (r := 18) C hw fd_RX9_67 layM_0 rfl dX9_layHold_90 ?_
    refine lv_iload hx hb dX9_layHold_93 (lv_at hl 1 rfl) ?_
    refine lv_aload_n hx hb dX9_layHold_95 rfl (lv_at hl 2 rfl) ?_
    refine sn_getC (r := 18) C hw fd_RX9_67 layM_0 rfl dX9_layHold_96 ?_
    refine lv_iload hx hb dX9_layHold_99 (lv_at hl 0 rfl) ?_
    obtain ⟨g_21, hf⟩ := sn_gdE hf
    refine sn_iald C hw layM_18 g_21 dX9_layHold_101 ?_
    refine lv_iconst (v := 1) hx hb dX9_layHold_102 rfl ?_
    refine lv_iload_n hx hb dX9_layHold_103 rfl (lv_at hl 5 rfl) ?_
    refine lv_ishl hx hb dX9_layHold_104 ?_
    refine lv_ior hx hb dX9_layHold_105 ?_
    obtain ⟨g_22, hf⟩ := sn_gdE hf
    refine sn_iast C hw layM_18 g_22 dX9_layHold_106 (fun H locs hw => ?_)
    obtain ⟨σ_23, e_24, hf⟩ := sn_ltE hf
    rw [← e_24] at hw
    refine lv_iload_n hx hb dX9_layHold_107 rfl (lv_at hl 4 rfl) ?_
    refine lv_iload_n hx hb dX9_layHold_108 rfl (lv_at hl 5 rfl) ?_
    obtain ⟨t_25, h_26, hf⟩ := sn_bd hf
    refine sn_callSi (rest := []) C hw (ctX9_bit l  h_26) kl_RX9_254 rfl rfl rfl (Nat.le_of_ble_eq_true rfl) dX9_layHold_109 hl.1 (fun H locs hw => ?_)
    refine lv_iconst (v := 1) hx hb dX9_layHold_112 rfl ?_
    refine lv_icmp_ne (tgt := 117) hx hb dX9_layHold_113 (by decide) (fun c_27 => ?_) (fun c_27 => ?_)
    · have hf := sn_el c_27 hf
      refine lv_bipush (v := 31) hx hb dX9_layHold_117 (by decide) ?_
      refine lv_iload_n hx hb dX9_layHold_119 rfl (lv_at hl 5 rfl) ?_
      refine lv_iconst (v := 1) hx hb dX9_layHold_120 rfl ?_
      refine lv_iadd hx hb dX9_layHold_121 ?_
      refine lv_imul hx hb dX9_layHold_122 ?_
      refine lv_iload_n hx hb dX9_layHold_123 rfl (lv_at hl 5 rfl) ?_
      refine lv_iadd hx hb dX9_layHold_124 ?_
      refine lv_iconst (v := 1) hx hb dX9_layHold_125 rfl ?_
      refine lv_iadd hx hb dX9_layHold_126 ?_
      obtain ⟨y_28, e_29, hf⟩ := sn_ltE hf
      refine lv_topi (fun y_28_ e_29_ => ?_)
      obtain rfl : y_28 = y_28_ := e_29.trans e_29_.symm
      refine lv_istore (lv' := [(7, .int y_28), (6, .int y_3), (5, .int y_1), (0, .ref (ad 0)), (1, .int x1), (2, .int x2), (3, .int x3), (4, .int x4)]) hx hb dX9_layHold_127 hl (by decide) rfl (fun ls hl => ?_)
      refine lv_aload_n hx hb dX9_layHold_129 rfl (lv_at hl 3 rfl) ?_
      refine sn_getC (r := 17) C hw fd_RX9_64 layM_0 rfl dX9_layHold_130 ?_
      refine lv_iload hx hb dX9_layHold_133 (lv_at hl 0 rfl) ?_
      obtain ⟨g_30, hf⟩ := sn_gdE hf
      refine sn_iald C hw layM_17 g_30 dX9_layHold_135 ?_
      refine lv_aload_n hx hb dX9_layHold_136 rfl (lv_at hl 3 rfl) ?_
      refine sn_getC (r := 17) C hw fd_RX9_64 layM_0 rfl dX9_layHold_137 ?_
      refine lv_iload hx hb dX9_layHold_140 (lv_at hl 2 rfl) ?_
      obtain ⟨g_31, hf⟩ := sn_gdE hf
      refine sn_iald C hw layM_17 g_31 dX9_layHold_142 ?_
      refine lv_icmp_lt (tgt := 180) hx hb dX9_layHold_143 (by decide) (fun c_32 => ?_) (fun c_32 => ?_)
      · have hf := sn_if c_32 hf
        exact wX9_layHold_180 C  hf kr _ _ _ hw (lv_sub hl [3, 2, 0] rfl)
      · have hf := sn_el c_32 hf
        refine lv_aload_n hx hb dX9_layHold_146 rfl (lv_at hl 3 rfl) ?_
        refine sn_getC (r := 17) C hw fd_RX9_64 layM_0 rfl dX9_layHold_147 ?_
        refine lv_iload hx hb dX9_layHold_150 (lv_at hl 0 rfl) ?_
        obtain ⟨g_33, hf⟩ := sn_gdE hf
        refine sn_iald C hw layM_17 g_33 dX9_layHold_152 ?_
        refine lv_aload_n hx hb dX9_layHold_153 rfl (lv_at hl 3 rfl) ?_
        refine sn_getC (r := 17) C hw fd_RX9_64 layM_0 rfl dX9_layHold_154 ?_
        refine lv_iload hx hb dX9_layHold_157 (lv_at hl 2 rfl) ?_
        obtain ⟨g_34, hf⟩ := sn_gdE hf
        refine sn_iald C hw layM_17 g_34 dX9_layHold_159 ?_
        refine lv_icmp_ne (tgt := 184) hx hb dX9_layHold_160 (by decide) (fun c_35 => ?_) (fun c_35 => ?_)
        · have hf := sn_el c_35 hf
          exact wX9_layHold_184 C  hf kr _ _ _ hw (lv_sub hl [3, 2, 0] rfl)
        · have hf := sn_if c_35 hf
          refine lv_aload_n hx hb dX9_layHold_163 rfl (lv_at hl 3 rfl) ?_
          refine sn_getC (r := 18) C hw fd_RX9_67 layM_0 rfl dX9_layHold_164 ?_
          refine lv_iload hx hb dX9_layHold_167 (lv_at hl 0 rfl) ?_
          obtain ⟨g_36, hf⟩ := sn_gdE hf
          refine sn_iald C hw layM_18 g_36 dX9_layHold_169 ?_
          refine lv_aload_n hx hb dX9_layHold_170 rfl (lv_at hl 3 rfl) ?_
          refine sn_getC (r := 18) C hw fd_RX9_67 layM_0 rfl dX9_layHold_171 ?_
          refine lv_iload hx hb dX9_layHold_174 (lv_at hl 2 rfl) ?_
          obtain ⟨g_37, hf⟩ := sn_gdE hf
          refine sn_iald C hw layM_18 g_37 dX9_layHold_176 ?_
          refine lv_icmp_ge (tgt := 184) hx hb dX9_layHold_177 (by decide) (fun c_38 => ?_) (fun c_38 => ?_)
          · have hf := sn_if c_38 hf
            exact wX9_layHold_184 C  hf kr _ _ _ hw (lv_sub hl [3, 2, 0] rfl)
          · have hf := sn_el c_38 hf
            exact wX9_layHold_180 C  hf kr _ _ _ hw (lv_sub hl [3, 2, 0] rfl)
    · have hf := sn_if c_27 hf
      cases hf
      exact kr _ _ _ _ hw rfl dX9_layHold_116
  · have hf := sn_el c_16 hf
    cases hf
    exact kr _ _ _ _ hw rfl dX9_layHold_72
theorem ctX9_layHold (l : Launch) {σ : sn_S} {x1 : Int32} {x2 : Int32} {x3 : Int32} {x4 : Int32}  {o : sn_S} (hf : fX9_layHold σ x1 x2 x3 x4 = some o) : sn_M l yX9_layHold cX9_layHold 9 none rmX9_layHold layM (fun ad => [.ref (ad 0), .int x1, .int x2, .int x3, .int x4]) σ none o :=
  sn_met (by decide) (fun _ => Nat.le_of_ble_eq_true rfl) (fun p e s m args below meth c ls D ct ad A C hw hl => wX9_layHold_in C  hf (fun H locs ls pc hw ok hd => sn_vret C hw hd) _ _ _ hw hl)
-- X9_layHolds
abbrev rmX9_layHolds : Room := { frames := 6, cells := 0, slots := 0, locals := 136 }
def BX9_layHolds_101 (σ : sn_S) : Option ((Int32 × sn_S)) :=
  (sn_gd (sn_b01 (1 : Int32)) (some ((1 : Int32), σ)))
def BX9_layHolds_95 (σ : sn_S) (x1 : Int32) (x2 : Int32) : Option ((sn_S × Int32) ⊕ (sn_S)) :=
  (sn_lt (x2 + (-1)) fun y_1 => (some (.inl (σ, y_1))))
def BX9_layHolds_67 (σ : sn_S) (x1 : Int32) (x2 : Int32) (x3 : Int32) : Option ((sn_S × Int32) ⊕ (sn_S)) :=
  (if x2 < x3 then
  (some (.inr (σ)))
  else
  ((fX9_of σ x1 (0 : Int32)).bind fun t_2 => ((fX9_windowOf σ x1).bind fun t_4 => ((fX9_layHold σ t_2 t_4 x2 x3).bind fun t_6 => (sn_lt (x3 + 1) fun y_8 => (some (.inl (t_6, y_8))))))))
def LX9_layHolds_67 (x1 : Int32) (x2 : Int32) (s : sn_S × Int32) : Option ((sn_S × Int32) ⊕ (sn_S)) := BX9_layHolds_67 s.1 x1 x2 s.2
def BX9_layHolds_61 (σ : sn_S) (x1 : Int32) (x2 : Int32) : Option ((sn_S × Int32) ⊕ (sn_S)) :=
  (if x2 < 0 then
  (some (.inr (σ)))
  else
  ((sn_it (LX9_layHolds_67 x1 x2) 5000 (σ, (0 : Int32))).bind fun t_2 => (BX9_layHolds_95 t_2 x1 x2)))
def LX9_layHolds_61 (x1 : Int32) (s : sn_S × Int32) : Option ((sn_S × Int32) ⊕ (sn_S)) := BX9_layHolds_61 s.1 x1 s.2
def BX9_layHolds_54 (σ : sn_S) (x1 : Int32) : Option ((Int32 × sn_S)) :=
  ((fX9_minutes σ).bind fun t_1 => (sn_lt (t_1 - (1 : Int32)) fun y_3 => ((sn_it (LX9_layHolds_61 x1) 5000 (σ, y_3)).bind fun t_5 => (BX9_layHolds_101 t_5))))
def BX9_layHolds_12 (σ : sn_S) (x1 : Int32) (x2 : Int32) : Option ((sn_S × Int32) ⊕ (sn_S)) :=
  (if (31 : Int32) ≤ x2 then
  (some (.inr (σ)))
  else
  ((fX9_minutes σ).bind fun t_2 => (sn_gd (sn_in (((31 : Int32) * t_2) + x2) 961) (sn_lt (sn_pI σ 17 (((31 : Int32) * t_2) + x2).toNatClampNeg (0 : Int32)) fun σ_5 => ((fX9_minutes σ_5).bind fun t_7 => (sn_gd (sn_in (((31 : Int32) * t_7) + x2) 961) (sn_lt (sn_pI σ_5 18 (((31 : Int32) * t_7) + x2).toNatClampNeg (0 : Int32)) fun σ_10 => (sn_lt (x2 + 1) fun y_12 => (some (.inl (σ_10, y_12)))))))))))
def LX9_layHolds_12 (x1 : Int32) (s : sn_S × Int32) : Option ((sn_S × Int32) ⊕ (sn_S)) := BX9_layHolds_12 s.1 x1 s.2
def fX9_layHolds (σ : sn_S) (x1 : Int32) : Option (Int32 × sn_S) :=
  ((fX9_asksPolicy σ x1).bind fun t_1 => (if t_1.1 = 0 then
  (sn_gd (sn_b01 (0 : Int32)) (some ((0 : Int32), t_1.2)))
  else
  ((sn_it (LX9_layHolds_12 x1) 5000 (t_1.2, (0 : Int32))).bind fun t_4 => (BX9_layHolds_54 t_4 x1))))
theorem wX9_layHolds_101 (C : sn_C p s m args meth c RX9 cX9_layHolds 4 (some .boolean) D ct ad layM A) {σ : sn_S}  {o : (Int32 × sn_S)} (hf : BX9_layHolds_101 σ = some o) (kr : sn_Kr p l e rmX9_layHolds s m args below meth c Q D ct ad layM A cX9_layHolds .ireturn (sn_b01 o.1) o.2 [.int o.1]) : sn_At p l e rmX9_layHolds s m args below meth c Q D ct ad layM A 4 σ 101 [] [] := by
  intro H locs ls hw hl
  have hx := C.1
  have hb := C.2.1
  unfold BX9_layHolds_101 at hf
  refine lv_iconst (v := 1) hx hb dX9_layHolds_101 rfl ?_
  obtain ⟨g_1, hf⟩ := sn_gdE hf
  cases hf
  exact kr _ _ _ _ hw g_1 dX9_layHolds_102
theorem wX9_layHolds_95 (C : sn_C p s m args meth c RX9 cX9_layHolds 4 (some .boolean) D ct ad layM A) {σ : sn_S} {x1 : Int32} {x2 : Int32}  {o : (sn_S × Int32) ⊕ (sn_S)} (hf : BX9_layHolds_95 σ x1 x2 = some o) (kc : ∀ v, o = .inl v → sn_At p l e rmX9_layHolds s m args below meth c Q D ct ad layM A 4 v.1 61 [(0, .ref (ad 0)), (1, .int x1), (2, .int v.2)] []) (kx : ∀ v, o = .inr v → sn_At p l e rmX9_layHolds s m args below meth c Q D ct ad layM A 4 v 101 [] []) : sn_At p l e rmX9_layHolds s m args below meth c Q D ct ad layM A 4 σ 95 [(0, .ref (ad 0)), (1, .int x1), (2, .int x2)] [] := by
  intro H locs ls hw hl
  have hx := C.1
  have hb := C.2.1
  unfold BX9_layHolds_95 at hf
  obtain ⟨y_1, e_2, hf⟩ := sn_ltE hf
  refine lv_iinc (v := y_1) (lv' := [(2, .int y_1), (0, .ref (ad 0)), (1, .int x1)]) hx hb dX9_layHolds_95 hl (k := 2) rfl (by rw [e_2]; rfl) (by decide) rfl (fun ls hl => ?_)
  refine lv_goto (tgt := 61) hx hb dX9_layHolds_98 (by decide) ?_
  cases hf
  exact kc _ rfl _ _ _ hw (lv_sub hl [1, 2, 0] rfl)
theorem wX9_layHolds_67 (C : sn_C p s m args meth c RX9 cX9_layHolds 4 (some .boolean) D ct ad layM A) {σ : sn_S} {x1 : Int32} {x2 : Int32} {x3 : Int32}  {o : (sn_S × Int32) ⊕ (sn_S)} (hf : BX9_layHolds_67 σ x1 x2 x3 = some o) (kc : ∀ v, o = .inl v → sn_At p l e rmX9_layHolds s m args below meth c Q D ct ad layM A 4 v.1 67 [(0, .ref (ad 0)), (1, .int x1), (2, .int x2), (3, .int v.2)] []) (kx : ∀ v, o = .inr v → sn_At p l e rmX9_layHolds s m args below meth c Q D ct ad layM A 4 v 95 [(0, .ref (ad 0)), (1, .int x1), (2, .int x2)] []) : sn_At p l e rmX9_layHolds s m args below meth c Q D ct ad layM A 4 σ 67 [(0, .ref (ad 0)), (1, .int x1), (2, .int x2), (3, .int x3)] [] := by
  intro H locs ls hw hl
  have hx := C.1
  have hb := C.2.1
  unfold BX9_layHolds_67 at hf
  refine lv_iload_n hx hb dX9_layHolds_67 rfl (lv_at hl 3 rfl) ?_
  refine lv_iload_n hx hb dX9_layHolds_68 rfl (lv_at hl 2 rfl) ?_
  refine lv_icmp_gt (tgt := 95) hx hb dX9_layHolds_69 (by decide) (fun c_1 => ?_) (fun c_1 => ?_)
  · have hf := sn_if c_1 hf
    cases hf
    exact kx _ rfl _ _ _ hw (lv_sub hl [0, 1, 2] rfl)
  · have hf := sn_el c_1 hf
    refine lv_aload_n hx hb dX9_layHolds_72 rfl (lv_at hl 0 rfl) ?_
    refine lv_aload_n hx hb dX9_layHolds_73 rfl (lv_at hl 0 rfl) ?_
    refine lv_iload_n hx hb dX9_layHolds_74 rfl (lv_at hl 1 rfl) ?_
    refine lv_iconst (v := 0) hx hb dX9_layHolds_75 rfl ?_
    obtain ⟨t_2, h_3, hf⟩ := sn_bd hf
    refine sn_callVi (rest := [.ref (ad 0)]) C hw (ctX9_of l  h_3) kl_RX9_234 layM_0 rfl rfl rfl rfl (Nat.le_of_ble_eq_true rfl) dX9_layHolds_76 hl.1 (fun H locs hw => ?_)
    refine lv_aload_n hx hb dX9_layHolds_79 rfl (lv_at hl 0 rfl) ?_
    refine lv_iload_n hx hb dX9_layHolds_80 rfl (lv_at hl 1 rfl) ?_
    obtain ⟨t_4, h_5, hf⟩ := sn_bd hf
    refine sn_callVi (rest := [.int t_2, .ref (ad 0)]) C hw (ctX9_windowOf l  h_5) kl_RX9_304 layM_0 rfl rfl rfl rfl (Nat.le_of_ble_eq_true rfl) dX9_layHolds_81 hl.1 (fun H locs hw => ?_)
    refine lv_iload_n hx hb dX9_layHolds_84 rfl (lv_at hl 2 rfl) ?_
    refine lv_iload_n hx hb dX9_layHolds_85 rfl (lv_at hl 3 rfl) ?_
    obtain ⟨t_6, h_7, hf⟩ := sn_bd hf
    refine sn_callVv (rest := []) C hw (ctX9_layHold l  h_7) kl_RX9_355 layM_0 rfl rfl rfl rfl (Nat.le_of_ble_eq_true rfl) dX9_layHolds_86 hl.1 (fun H locs hw => ?_)
    obtain ⟨y_8, e_9, hf⟩ := sn_ltE hf
    refine lv_iinc (v := y_8) (lv' := [(3, .int y_8), (0, .ref (ad 0)), (1, .int x1), (2, .int x2)]) hx hb dX9_layHolds_89 hl (k := 3) rfl (by rw [e_9]; rfl) (by decide) rfl (fun ls hl => ?_)
    refine lv_goto (tgt := 67) hx hb dX9_layHolds_92 (by decide) ?_
    cases hf
    exact kc _ rfl _ _ _ hw (lv_sub hl [1, 2, 3, 0] rfl)
theorem wX9_layHolds_L67 (C : sn_C p s m args meth c RX9 cX9_layHolds 4 (some .boolean) D ct ad layM A) {x1 : Int32} {x2 : Int32}   {z : sn_S × Int32} {t : sn_S} (h : sn_it (LX9_layHolds_67 x1 x2) 5000 z = some t) (kx : ∀ v, t = v → sn_At p l e rmX9_layHolds s m args below meth c Q D ct ad layM A 4 v 95 [(0, .ref (ad 0)), (1, .int x1), (2, .int x2)] []) : sn_At p l e rmX9_layHolds s m args below meth c Q D ct ad layM A 4 z.1 67 [(0, .ref (ad 0)), (1, .int x1), (2, .int x2), (3, .int z.2)] [] :=
  sn_loop (f := LX9_layHolds_67 x1 x2) (G := fun z => sn_At p l e rmX9_layHolds s m args below meth c Q D ct ad layM A 4 z.1 67 [(0, .ref (ad 0)), (1, .int x1), (2, .int x2), (3, .int z.2)] []) (E := fun t => (∀ v, t = v → sn_At p l e rmX9_layHolds s m args below meth c Q D ct ad layM A 4 v 95 [(0, .ref (ad 0)), (1, .int x1), (2, .int x2)] []) ∧ True) (fun z o hf k1 k2 => wX9_layHolds_67 C  hf (fun v e => k1 v e) (fun v e => (k2 _ e).1 v rfl)) 5000 z t h ⟨kx, trivial⟩
theorem wX9_layHolds_61 (C : sn_C p s m args meth c RX9 cX9_layHolds 4 (some .boolean) D ct ad layM A) {σ : sn_S} {x1 : Int32} {x2 : Int32}  {o : (sn_S × Int32) ⊕ (sn_S)} (hf : BX9_layHolds_61 σ x1 x2 = some o) (kc : ∀ v, o = .inl v → sn_At p l e rmX9_layHolds s m args below meth c Q D ct ad layM A 4 v.1 61 [(0, .ref (ad 0)), (1, .int x1), (2, .int v.2)] []) (kx : ∀ v, o = .inr v → sn_At p l e rmX9_layHolds s m args below meth c Q D ct ad layM A 4 v 101 [] []) : sn_At p l e rmX9_layHolds s m args below meth c Q D ct ad layM A 4 σ 61 [(0, .ref (ad 0)), (1, .int x1), (2, .int x2)] [] := by
  intro H locs ls hw hl
  have hx := C.1
  have hb := C.2.1
  unfold BX9_layHolds_61 at hf
  refine lv_iload_n hx hb dX9_layHolds_61 rfl (lv_at hl 2 rfl) ?_
  refine lv_if_lt (tgt := 101) hx hb dX9_layHolds_62 (by decide) (fun c_1 => ?_) (fun c_1 => ?_)
  · have hf := sn_if c_1 hf
    cases hf
    exact kx _ rfl _ _ _ hw (lv_sub hl [] rfl)
  · have hf := sn_el c_1 hf
    refine lv_iconst (v := 0) hx hb dX9_layHolds_65 rfl ?_
    refine lv_istore_n (lv' := [(3, .int (0 : Int32)), (0, .ref (ad 0)), (1, .int x1), (2, .int x2)]) hx hb dX9_layHolds_66 rfl hl (by decide) rfl (fun ls hl => ?_)
    obtain ⟨t_2, h_3, hf⟩ := sn_bd hf
    exact wX9_layHolds_L67 C  h_3 (fun v e => by cases e; exact wX9_layHolds_95 C  hf kc kx) _ _ _ hw (lv_sub hl [1, 2, 3, 0] rfl)
theorem wX9_layHolds_L61 (C : sn_C p s m args meth c RX9 cX9_layHolds 4 (some .boolean) D ct ad layM A) {x1 : Int32}   {z : sn_S × Int32} {t : sn_S} (h : sn_it (LX9_layHolds_61 x1) 5000 z = some t) (kx : ∀ v, t = v → sn_At p l e rmX9_layHolds s m args below meth c Q D ct ad layM A 4 v 101 [] []) : sn_At p l e rmX9_layHolds s m args below meth c Q D ct ad layM A 4 z.1 61 [(0, .ref (ad 0)), (1, .int x1), (2, .int z.2)] [] :=
  sn_loop (f := LX9_layHolds_61 x1) (G := fun z => sn_At p l e rmX9_layHolds s m args below meth c Q D ct ad layM A 4 z.1 61 [(0, .ref (ad 0)), (1, .int x1), (2, .int z.2)] []) (E := fun t => (∀ v, t = v → sn_At p l e rmX9_layHolds s m args below meth c Q D ct ad layM A 4 v 101 [] []) ∧ True) (fun z o hf k1 k2 => wX9_layHolds_61 C  hf (fun v e => k1 v e) (fun v e => (k2 _ e).1 v rfl)) 5000 z t h ⟨kx, trivial⟩
theorem wX9_layHolds_54 (C : sn_C p s m args meth c RX9 cX9_layHolds 4 (some .boolean) D ct ad layM A) {σ : sn_S} {x1 : Int32}  {o : (Int32 × sn_S)} (hf : BX9_layHolds_54 σ x1 = some o) (kr : sn_Kr p l e rmX9_layHolds s m args below meth c Q D ct ad layM A cX9_layHolds .ireturn (sn_b01 o.1) o.2 [.int o.1]) : sn_At p l e rmX9_layHolds s m args below meth c Q D ct ad layM A 4 σ 54 [(0, .ref (ad 0)), (1, .int x1)] [] := by
  intro H locs ls hw hl
  have hx := C.1
  have hb := C.2.1
  unfold BX9_layHolds_54 at hf
  refine lv_aload_n hx hb dX9_layHolds_54 rfl (lv_at hl 0 rfl) ?_
  obtain ⟨t_1, h_2, hf⟩ := sn_bd hf
  refine sn_callVi (rest := []) C hw (ctX9_minutes l  h_2) kl_RX9_249 layM_0 rfl rfl rfl rfl (Nat.le_of_ble_eq_true rfl) dX9_layHolds_55 hl.1 (fun H locs hw => ?_)
  refine lv_iconst (v := 1) hx hb dX9_layHolds_58 rfl ?_
  refine lv_isub hx hb dX9_layHolds_59 ?_
  obtain ⟨y_3, e_4, hf⟩ := sn_ltE hf
  refine lv_topi (fun y_3_ e_4_ => ?_)
  obtain rfl : y_3 = y_3_ := e_4.trans e_4_.symm
  refine lv_istore_n (lv' := [(2, .int y_3), (0, .ref (ad 0)), (1, .int x1)]) hx hb dX9_layHolds_60 rfl hl (by decide) rfl (fun ls hl => ?_)
  obtain ⟨t_5, h_6, hf⟩ := sn_bd hf
  exact wX9_layHolds_L61 C  h_6 (fun v e => by cases e; exact wX9_layHolds_101 C  hf kr) _ _ _ hw (lv_sub hl [1, 2, 0] rfl)
theorem wX9_layHolds_12 (C : sn_C p s m args meth c RX9 cX9_layHolds 4 (some .boolean) D ct ad layM A) {σ : sn_S} {x1 : Int32} {x2 : Int32}  {o : (sn_S × Int32) ⊕ (sn_S)} (hf : BX9_layHolds_12 σ x1 x2 = some o) (kc : ∀ v, o = .inl v → sn_At p l e rmX9_layHolds s m args below meth c Q D ct ad layM A 4 v.1 12 [(0, .ref (ad 0)), (1, .int x1), (2, .int v.2)] []) (kx : ∀ v, o = .inr v → sn_At p l e rmX9_layHolds s m args below meth c Q D ct ad layM A 4 v 54 [(0, .ref (ad 0)), (1, .int x1)] []) : sn_At p l e rmX9_layHolds s m args below meth c Q D ct ad layM A 4 σ 12 [(0, .ref (ad 0)), (1, .int x1), (2, .int x2)] [] := by
  intro H locs ls hw hl
  have hx := C.1
  have hb := C.2.1
  unfold BX9_layHolds_12 at hf
  refine lv_iload_n hx hb dX9_layHolds_12 rfl (lv_at hl 2 rfl) ?_
  refine lv_bipush (v := 31) hx hb dX9_layHolds_13 (by decide) ?_
  refine lv_icmp_ge (tgt := 54) hx hb dX9_layHolds_15 (by decide) (fun c_1 => ?_) (fun c_1 => ?_)
  · have hf := sn_if c_1 hf
    cases hf
    exact kx _ rfl _ _ _ hw (lv_sub hl [0, 1] rfl)
  · have hf := sn_el c_1 hf
    refine lv_aload_n hx hb dX9_layHolds_18 rfl (lv_at hl 0 rfl) ?_
    refine sn_getC (r := 17) C hw fd_RX9_64 layM_0 rfl dX9_layHolds_19 ?_
    refine lv_bipush (v := 31) hx hb dX9_layHolds_22 (by decide) ?_
    refine lv_aload_n hx hb dX9_layHolds_24 rfl (lv_at hl 0 rfl) ?_
    obtain ⟨t_2, h_3, hf⟩ := sn_bd hf
    refine sn_callVi (rest := [.int (31 : Int32), .ref (ad 17)]) C hw (ctX9_minutes l  h_3) kl_RX9_249 layM_0 rfl rfl rfl rfl (Nat.le_of_ble_eq_true rfl) dX9_layHolds_25 hl.1 (fun H locs hw => ?_)
    refine lv_imul hx hb dX9_layHolds_28 ?_
    refine lv_iload_n hx hb dX9_layHolds_29 rfl (lv_at hl 2 rfl) ?_
    refine lv_iadd hx hb dX9_layHolds_30 ?_
    refine lv_iconst (v := 0) hx hb dX9_layHolds_31 rfl ?_
    obtain ⟨g_4, hf⟩ := sn_gdE hf
    refine sn_iast C hw layM_17 g_4 dX9_layHolds_32 (fun H locs hw => ?_)
    obtain ⟨σ_5, e_6, hf⟩ := sn_ltE hf
    rw [← e_6] at hw
    refine lv_aload_n hx hb dX9_layHolds_33 rfl (lv_at hl 0 rfl) ?_
    refine sn_getC (r := 18) C hw fd_RX9_67 layM_0 rfl dX9_layHolds_34 ?_
    refine lv_bipush (v := 31) hx hb dX9_layHolds_37 (by decide) ?_
    refine lv_aload_n hx hb dX9_layHolds_39 rfl (lv_at hl 0 rfl) ?_
    obtain ⟨t_7, h_8, hf⟩ := sn_bd hf
    refine sn_callVi (rest := [.int (31 : Int32), .ref (ad 18)]) C hw (ctX9_minutes l  h_8) kl_RX9_249 layM_0 rfl rfl rfl rfl (Nat.le_of_ble_eq_true rfl) dX9_layHolds_40 hl.1 (fun H locs hw => ?_)
    refine lv_imul hx hb dX9_layHolds_43 ?_
    refine lv_iload_n hx hb dX9_layHolds_44 rfl (lv_at hl 2 rfl) ?_
    refine lv_iadd hx hb dX9_layHolds_45 ?_
    refine lv_iconst (v := 0) hx hb dX9_layHolds_46 rfl ?_
    obtain ⟨g_9, hf⟩ := sn_gdE hf
    refine sn_iast C hw layM_18 g_9 dX9_layHolds_47 (fun H locs hw => ?_)
    obtain ⟨σ_10, e_11, hf⟩ := sn_ltE hf
    rw [← e_11] at hw
    obtain ⟨y_12, e_13, hf⟩ := sn_ltE hf
    refine lv_iinc (v := y_12) (lv' := [(2, .int y_12), (0, .ref (ad 0)), (1, .int x1)]) hx hb dX9_layHolds_48 hl (k := 2) rfl (by rw [e_13]; rfl) (by decide) rfl (fun ls hl => ?_)
    refine lv_goto (tgt := 12) hx hb dX9_layHolds_51 (by decide) ?_
    cases hf
    exact kc _ rfl _ _ _ hw (lv_sub hl [1, 2, 0] rfl)
theorem wX9_layHolds_L12 (C : sn_C p s m args meth c RX9 cX9_layHolds 4 (some .boolean) D ct ad layM A) {x1 : Int32}   {z : sn_S × Int32} {t : sn_S} (h : sn_it (LX9_layHolds_12 x1) 5000 z = some t) (kx : ∀ v, t = v → sn_At p l e rmX9_layHolds s m args below meth c Q D ct ad layM A 4 v 54 [(0, .ref (ad 0)), (1, .int x1)] []) : sn_At p l e rmX9_layHolds s m args below meth c Q D ct ad layM A 4 z.1 12 [(0, .ref (ad 0)), (1, .int x1), (2, .int z.2)] [] :=
  sn_loop (f := LX9_layHolds_12 x1) (G := fun z => sn_At p l e rmX9_layHolds s m args below meth c Q D ct ad layM A 4 z.1 12 [(0, .ref (ad 0)), (1, .int x1), (2, .int z.2)] []) (E := fun t => (∀ v, t = v → sn_At p l e rmX9_layHolds s m args below meth c Q D ct ad layM A 4 v 54 [(0, .ref (ad 0)), (1, .int x1)] []) ∧ True) (fun z o hf k1 k2 => wX9_layHolds_12 C  hf (fun v e => k1 v e) (fun v e => (k2 _ e).1 v rfl)) 5000 z t h ⟨kx, trivial⟩
theorem wX9_layHolds_in (C : sn_C p s m args meth c RX9 cX9_layHolds 4 (some .boolean) D ct ad layM A) {σ : sn_S} {x1 : Int32}  {o : (Int32 × sn_S)} (hf : fX9_layHolds σ x1 = some o) (kr : sn_Kr p l e rmX9_layHolds s m args below meth c Q D ct ad layM A cX9_layHolds .ireturn (sn_b01 o.1) o.2 [.int o.1]) : sn_At p l e rmX9_layHolds s m args below meth c Q D ct ad layM A 4 σ 0 [(0, .ref (ad 0)), (1, .int x1)] [] := by
  intro H locs ls hw hl
  have hx := C.1
  have hb := C.2.1
  unfold fX9_layHolds at hf
  refine lv_aload_n hx hb dX9_layHolds_0 rfl (lv_at hl 0 rfl) ?_
  refine lv_iload_n hx hb dX9_layHolds_1 rfl (lv_at hl 1 rfl) ?_
  obtain ⟨t_1, h_2, hf⟩ := sn_bd hf
  refine sn_callVi (rest := []) C hw (ctX9_asksPolicy l  h_2) kl_RX9_323 layM_0 rfl rfl rfl rfl (Nat.le_of_ble_eq_true rfl) dX9_layHolds_2 hl.1 (fun H locs hw => ?_)
  refine lv_if_ne (tgt := 10) hx hb dX9_layHolds_5 (by decide) (fun c_3 => ?_) (fun c_3 => ?_)
  · have hf := sn_el c_3 hf
    refine lv_iconst (v := 0) hx hb dX9_layHolds_10 rfl ?_
    refine lv_istore_n (lv' := [(2, .int (0 : Int32)), (0, .ref (ad 0)), (1, .int x1)]) hx hb dX9_layHolds_11 rfl hl (by decide) rfl (fun ls hl => ?_)
    obtain ⟨t_4, h_5, hf⟩ := sn_bd hf
    exact wX9_layHolds_L12 C  h_5 (fun v e => by cases e; exact wX9_layHolds_54 C  hf kr) _ _ _ hw (lv_sub hl [1, 2, 0] rfl)
  · have hf := sn_if c_3 hf
    refine lv_iconst (v := 0) hx hb dX9_layHolds_8 rfl ?_
    obtain ⟨g_6, hf⟩ := sn_gdE hf
    cases hf
    exact kr _ _ _ _ hw g_6 dX9_layHolds_9
theorem ctX9_layHolds (l : Launch) {σ : sn_S} {x1 : Int32}  {o : (Int32 × sn_S)} (hf : fX9_layHolds σ x1 = some o) : sn_M l yX9_layHolds cX9_layHolds 4 (some .boolean) rmX9_layHolds layM (fun ad => [.ref (ad 0), .int x1]) σ (some (fun _ => .int o.1)) o.2 :=
  sn_met (by decide) (fun _ => Nat.le_of_ble_eq_true rfl) (fun p e s m args below meth c ls D ct ad A C hw hl => wX9_layHolds_in C  hf (fun H locs ls pc hw ok hd => sn_zret C hw ok hd) _ _ _ hw hl)
-- X9_hold
abbrev rmX9_hold : Room := { frames := 7, cells := 0, slots := 0, locals := 159 }
def fX9_hold (σ : sn_S) (x1 : Int32) : Option (Int32 × sn_S) :=
  ((fX9_layHolds σ x1).bind fun t_1 => (if t_1.1 = 0 then
  (some ((-2 : Int32), t_1.2))
  else
  (sn_gd (sn_in (0 : Int32) 961) (some ((sn_I t_1.2 17 (0 : Int32).toNatClampNeg), t_1.2)))))
theorem wX9_hold_in (C : sn_C p s m args meth c RX9 cX9_hold 2 (some .int) D ct ad layM A) {σ : sn_S} {x1 : Int32}  {o : (Int32 × sn_S)} (hf : fX9_hold σ x1 = some o) (kr : sn_Kr p l e rmX9_hold s m args below meth c Q D ct ad layM A cX9_hold .ireturn (true) o.2 [.int o.1]) : sn_At p l e rmX9_hold s m args below meth c Q D ct ad layM A 2 σ 0 [(0, .ref (ad 0)), (1, .int x1)] [] := by
  intro H locs ls hw hl
  have hx := C.1
  have hb := C.2.1
  unfold fX9_hold at hf
  refine lv_aload_n hx hb dX9_hold_0 rfl (lv_at hl 0 rfl) ?_
  refine lv_iload_n hx hb dX9_hold_1 rfl (lv_at hl 1 rfl) ?_
  obtain ⟨t_1, h_2, hf⟩ := sn_bd hf
  refine sn_callVi (rest := []) C hw (ctX9_layHolds l  h_2) kl_RX9_359 layM_0 rfl rfl rfl rfl (Nat.le_of_ble_eq_true rfl) dX9_hold_2 hl.1 (fun H locs hw => ?_)
  refine lv_if_eq (tgt := 17) hx hb dX9_hold_5 (by decide) (fun c_3 => ?_) (fun c_3 => ?_)
  · have hf := sn_if c_3 hf
    refine lv_bipush (v := (-2)) hx hb dX9_hold_17 (by decide) ?_
    cases hf
    exact kr _ _ _ _ hw rfl dX9_hold_19
  · have hf := sn_el c_3 hf
    refine lv_aload_n hx hb dX9_hold_8 rfl (lv_at hl 0 rfl) ?_
    refine sn_getC (r := 17) C hw fd_RX9_64 layM_0 rfl dX9_hold_9 ?_
    refine lv_iconst (v := 0) hx hb dX9_hold_12 rfl ?_
    obtain ⟨g_4, hf⟩ := sn_gdE hf
    refine sn_iald C hw layM_17 g_4 dX9_hold_13 ?_
    refine lv_goto (tgt := 19) hx hb dX9_hold_14 (by decide) ?_
    cases hf
    exact kr _ _ _ _ hw rfl dX9_hold_19
theorem ctX9_hold (l : Launch) {σ : sn_S} {x1 : Int32}  {o : (Int32 × sn_S)} (hf : fX9_hold σ x1 = some o) : sn_M l yX9_hold cX9_hold 2 (some .int) rmX9_hold layM (fun ad => [.ref (ad 0), .int x1]) σ (some (fun _ => .int o.1)) o.2 :=
  sn_met (by decide) (fun _ => Nat.le_of_ble_eq_true rfl) (fun p e s m args below meth c ls D ct ad A C hw hl => wX9_hold_in C  hf (fun H locs ls pc hw ok hd => sn_iret C hw hd) _ _ _ hw hl)
-- X9_holds
abbrev rmX9_holds : Room := { frames := 7, cells := 0, slots := 0, locals := 159 }
def fX9_holds (σ : sn_S) (x1 : Int32) : Option (Int32 × sn_S) :=
  ((fX9_layHolds σ x1).bind fun t_1 => (if t_1.1 = 0 then
  (some ((-2 : Int32), t_1.2))
  else
  (sn_gd (sn_in (0 : Int32) 961) (some ((sn_I t_1.2 18 (0 : Int32).toNatClampNeg), t_1.2)))))
theorem wX9_holds_in (C : sn_C p s m args meth c RX9 cX9_holds 2 (some .int) D ct ad layM A) {σ : sn_S} {x1 : Int32}  {o : (Int32 × sn_S)} (hf : fX9_holds σ x1 = some o) (kr : sn_Kr p l e rmX9_holds s m args below meth c Q D ct ad layM A cX9_holds .ireturn (true) o.2 [.int o.1]) : sn_At p l e rmX9_holds s m args below meth c Q D ct ad layM A 2 σ 0 [(0, .ref (ad 0)), (1, .int x1)] [] := by
  intro H locs ls hw hl
  have hx := C.1
  have hb := C.2.1
  unfold fX9_holds at hf
  refine lv_aload_n hx hb dX9_holds_0 rfl (lv_at hl 0 rfl) ?_
  refine lv_iload_n hx hb dX9_holds_1 rfl (lv_at hl 1 rfl) ?_
  obtain ⟨t_1, h_2, hf⟩ := sn_bd hf
  refine sn_callVi (rest := []) C hw (ctX9_layHolds l  h_2) kl_RX9_359 layM_0 rfl rfl rfl rfl (Nat.le_of_ble_eq_true rfl) dX9_holds_2 hl.1 (fun H locs hw => ?_)
  refine lv_if_eq (tgt := 17) hx hb dX9_holds_5 (by decide) (fun c_3 => ?_) (fun c_3 => ?_)
  · have hf := sn_if c_3 hf
    refine lv_bipush (v := (-2)) hx hb dX9_holds_17 (by decide) ?_
    cases hf
    exact kr _ _ _ _ hw rfl dX9_holds_19
  · have hf := sn_el c_3 hf
    refine lv_aload_n hx hb dX9_holds_8 rfl (lv_at hl 0 rfl) ?_
    refine sn_getC (r := 18) C hw fd_RX9_67 layM_0 rfl dX9_holds_9 ?_
    refine lv_iconst (v := 0) hx hb dX9_holds_12 rfl ?_
    obtain ⟨g_4, hf⟩ := sn_gdE hf
    refine sn_iald C hw layM_18 g_4 dX9_holds_13 ?_
    refine lv_goto (tgt := 19) hx hb dX9_holds_14 (by decide) ?_
    cases hf
    exact kr _ _ _ _ hw rfl dX9_holds_19
theorem ctX9_holds (l : Launch) {σ : sn_S} {x1 : Int32}  {o : (Int32 × sn_S)} (hf : fX9_holds σ x1 = some o) : sn_M l yX9_holds cX9_holds 2 (some .int) rmX9_holds layM (fun ad => [.ref (ad 0), .int x1]) σ (some (fun _ => .int o.1)) o.2 :=
  sn_met (by decide) (fun _ => Nat.le_of_ble_eq_true rfl) (fun p e s m args below meth c ls D ct ad A C hw hl => wX9_holds_in C  hf (fun H locs ls pc hw ok hd => sn_iret C hw hd) _ _ _ hw hl)
-- X9_fraudsOf
abbrev rmX9_fraudsOf : Room := { frames := 4, cells := 0, slots := 0, locals := 96 }
def BX9_fraudsOf_81 (σ : sn_S) (x5 : Int32) : Option ((Int32 × sn_S)) :=
  (some (x5, σ))
def BX9_fraudsOf_72 (σ : sn_S) (x1 : Int32) (x2 : Int32) (x3 : Int32) (x4 : Int32) (x5 : Int32) (x6 : Int32) (t0 : Int32) (t1 : Int32) : Option ((sn_S × Int32 × Int32) ⊕ (sn_S × Int32)) :=
  (sn_lt (t0 ||| t1) fun y_1 => (sn_lt (x6 + 1) fun y_3 => (some (.inl (σ, y_1, y_3)))))
def BX9_fraudsOf_27 (σ : sn_S) (x1 : Int32) (x2 : Int32) (x3 : Int32) (x4 : Int32) (x5 : Int32) (x6 : Int32) : Option ((sn_S × Int32 × Int32) ⊕ (sn_S × Int32)) :=
  ((fX9_minutes σ).bind fun t_1 => (if t_1 ≤ x6 then
  (some (.inr (σ, x5)))
  else
  (sn_gd (sn_in x2 6) (sn_lt (sn_pI σ 9 x2.toNatClampNeg (x4 ||| ((1 : Int32) <<< (x6 &&& 31)))) fun σ_5 => ((fX9_goAll σ_5).bind fun t_7 => ((fX9_claimOf_ t_7 x1).bind fun t_9 => (if t_9.1 ≤ x3 then
  (BX9_fraudsOf_72 t_9.2 x1 x2 x3 x4 x5 x6 x5 (0 : Int32))
  else
  (BX9_fraudsOf_72 t_9.2 x1 x2 x3 x4 x5 x6 x5 ((1 : Int32) <<< (x6 &&& 31))))))))))
def LX9_fraudsOf_27 (x1 : Int32) (x2 : Int32) (x3 : Int32) (x4 : Int32) (s : sn_S × Int32 × Int32) : Option ((sn_S × Int32 × Int32) ⊕ (sn_S × Int32)) := BX9_fraudsOf_27 s.1 x1 x2 x3 x4 s.2.1 s.2.2
def fX9_fraudsOf (σ : sn_S) (x1 : Int32) : Option (Int32 × sn_S) :=
  ((fX9_of σ x1 (0 : Int32)).bind fun t_1 => ((fX9_claimOf_ σ x1).bind fun t_3 => (sn_gd (sn_in t_1 6) (sn_lt (sn_I t_3.2 9 t_1.toNatClampNeg) fun y_6 => ((sn_it (LX9_fraudsOf_27 x1 t_1 t_3.1 y_6) 5000 (t_3.2, (0 : Int32), (0 : Int32))).bind fun t_8 => (BX9_fraudsOf_81 t_8.1 t_8.2))))))
theorem wX9_fraudsOf_81 (C : sn_C p s m args meth c RX9 cX9_fraudsOf 7 (some .int) D ct ad layM A) {σ : sn_S} {x5 : Int32}  {o : (Int32 × sn_S)} (hf : BX9_fraudsOf_81 σ x5 = some o) (kr : sn_Kr p l e rmX9_fraudsOf s m args below meth c Q D ct ad layM A cX9_fraudsOf .ireturn (true) o.2 [.int o.1]) : sn_At p l e rmX9_fraudsOf s m args below meth c Q D ct ad layM A 7 σ 81 [(5, .int x5)] [] := by
  intro H locs ls hw hl
  have hx := C.1
  have hb := C.2.1
  unfold BX9_fraudsOf_81 at hf
  refine lv_iload hx hb dX9_fraudsOf_81 (lv_at hl 0 rfl) ?_
  cases hf
  exact kr _ _ _ _ hw rfl dX9_fraudsOf_83
theorem wX9_fraudsOf_72 (C : sn_C p s m args meth c RX9 cX9_fraudsOf 7 (some .int) D ct ad layM A) {σ : sn_S} {x1 : Int32} {x2 : Int32} {x3 : Int32} {x4 : Int32} {x5 : Int32} {x6 : Int32} {t0 : Int32} {t1 : Int32}  {o : (sn_S × Int32 × Int32) ⊕ (sn_S × Int32)} (hf : BX9_fraudsOf_72 σ x1 x2 x3 x4 x5 x6 t0 t1 = some o) (kc : ∀ v, o = .inl v → sn_At p l e rmX9_fraudsOf s m args below meth c Q D ct ad layM A 7 v.1 27 [(0, .ref (ad 0)), (1, .int x1), (2, .int x2), (3, .int x3), (4, .int x4), (5, .int v.2.1), (6, .int v.2.2)] []) (kx : ∀ v, o = .inr v → sn_At p l e rmX9_fraudsOf s m args below meth c Q D ct ad layM A 7 v.1 81 [(5, .int v.2)] []) : sn_At p l e rmX9_fraudsOf s m args below meth c Q D ct ad layM A 7 σ 72 [(0, .ref (ad 0)), (1, .int x1), (2, .int x2), (3, .int x3), (4, .int x4), (5, .int x5), (6, .int x6)] [.int t1, .int t0] := by
  intro H locs ls hw hl
  have hx := C.1
  have hb := C.2.1
  unfold BX9_fraudsOf_72 at hf
  refine lv_ior hx hb dX9_fraudsOf_72 ?_
  obtain ⟨y_1, e_2, hf⟩ := sn_ltE hf
  refine lv_topi (fun y_1_ e_2_ => ?_)
  obtain rfl : y_1 = y_1_ := e_2.trans e_2_.symm
  refine lv_istore (lv' := [(5, .int y_1), (0, .ref (ad 0)), (1, .int x1), (2, .int x2), (3, .int x3), (4, .int x4), (6, .int x6)]) hx hb dX9_fraudsOf_73 hl (by decide) rfl (fun ls hl => ?_)
  obtain ⟨y_3, e_4, hf⟩ := sn_ltE hf
  refine lv_iinc (v := y_3) (lv' := [(6, .int y_3), (5, .int y_1), (0, .ref (ad 0)), (1, .int x1), (2, .int x2), (3, .int x3), (4, .int x4)]) hx hb dX9_fraudsOf_75 hl (k := 6) rfl (by rw [e_4]; rfl) (by decide) rfl (fun ls hl => ?_)
  refine lv_goto (tgt := 27) hx hb dX9_fraudsOf_78 (by decide) ?_
  cases hf
  exact kc _ rfl _ _ _ hw (lv_sub hl [2, 3, 4, 5, 6, 1, 0] rfl)
theorem wX9_fraudsOf_27 (C : sn_C p s m args meth c RX9 cX9_fraudsOf 7 (some .int) D ct ad layM A) {σ : sn_S} {x1 : Int32} {x2 : Int32} {x3 : Int32} {x4 : Int32} {x5 : Int32} {x6 : Int32}  {o : (sn_S × Int32 × Int32) ⊕ (sn_S × Int32)} (hf : BX9_fraudsOf_27 σ x1 x2 x3 x4 x5 x6 = some o) (kc : ∀ v, o = .inl v → sn_At p l e rmX9_fraudsOf s m args below meth c Q D ct ad layM A 7 v.1 27 [(0, .ref (ad 0)), (1, .int x1), (2, .int x2), (3, .int x3), (4, .int x4), (5, .int v.2.1), (6, .int v.2.2)] []) (kx : ∀ v, o = .inr v → sn_At p l e rmX9_fraudsOf s m args below meth c Q D ct ad layM A 7 v.1 81 [(5, .int v.2)] []) : sn_At p l e rmX9_fraudsOf s m args below meth c Q D ct ad layM A 7 σ 27 [(0, .ref (ad 0)), (1, .int x1), (2, .int x2), (3, .int x3), (4, .int x4), (5, .int x5), (6, .int x6)] [] := by
  intro H locs ls hw hl
  have hx := C.1
  have hb := C.2.1
  unfold BX9_fraudsOf_27 at hf
  refine lv_iload hx hb dX9_fraudsOf_27 (lv_at hl 6 rfl) ?_
  refine lv_aload_n hx hb dX9_fraudsOf_29 rfl (lv_at hl 0 rfl) ?_
  obtain ⟨t_1, h_2, hf⟩ := sn_bd hf
  refine sn_callVi (rest := [.int x6]) C hw (ctX9_minutes l  h_2) kl_RX9_249 layM_0 rfl rfl rfl rfl (Nat.le_of_ble_eq_true rfl) dX9_fraudsOf_30 hl.1 (fun H locs hw => ?_)
  refine lv_icmp_ge (tgt := 81) hx hb dX9_fraudsOf_33 (by decide) (fun c_3 => ?_) (fun c_3 => ?_)
  · have hf := sn_if c_3 hf
    cases hf
    exact kx _ rfl _ _ _ hw (lv_sub hl [5] rfl)
  · have hf := sn_el c_3 hf
    refine lv_aload_n hx hb dX9_fraudsOf_36 rfl (lv_at hl 0 rfl) ?_
    refine sn_getC (r := 9) C hw fd_RX9_40 layM_0 rfl dX9_fraudsOf_37 ?_
    refine lv_iload_n hx hb dX9_fraudsOf_40 rfl (lv_at hl 2 rfl) ?_
    refine lv_iload hx hb dX9_fraudsOf_41 (lv_at hl 4 rfl) ?_
    refine lv_iconst (v := 1) hx hb dX9_fraudsOf_43 rfl ?_
    refine lv_iload hx hb dX9_fraudsOf_44 (lv_at hl 6 rfl) ?_
    refine lv_ishl hx hb dX9_fraudsOf_46 ?_
    refine lv_ior hx hb dX9_fraudsOf_47 ?_
    obtain ⟨g_4, hf⟩ := sn_gdE hf
    refine sn_iast C hw layM_9 g_4 dX9_fraudsOf_48 (fun H locs hw => ?_)
    obtain ⟨σ_5, e_6, hf⟩ := sn_ltE hf
    rw [← e_6] at hw
    refine lv_aload_n hx hb dX9_fraudsOf_49 rfl (lv_at hl 0 rfl) ?_
    obtain ⟨t_7, h_8, hf⟩ := sn_bd hf
    refine sn_callVv (rest := []) C hw (ctX9_goAll l  h_8) kl_RX9_266 layM_0 rfl rfl rfl rfl (Nat.le_of_ble_eq_true rfl) dX9_fraudsOf_50 hl.1 (fun H locs hw => ?_)
    refine lv_iload hx hb dX9_fraudsOf_53 (lv_at hl 5 rfl) ?_
    refine lv_aload_n hx hb dX9_fraudsOf_55 rfl (lv_at hl 0 rfl) ?_
    refine lv_iload_n hx hb dX9_fraudsOf_56 rfl (lv_at hl 1 rfl) ?_
    obtain ⟨t_9, h_10, hf⟩ := sn_bd hf
    refine sn_callVi (rest := [.int x5]) C hw (ctX9_claimOf_ l  h_10) kl_RX9_326 layM_0 rfl rfl rfl rfl (Nat.le_of_ble_eq_true rfl) dX9_fraudsOf_57 hl.1 (fun H locs hw => ?_)
    refine lv_iload_n hx hb dX9_fraudsOf_60 rfl (lv_at hl 3 rfl) ?_
    refine lv_icmp_le (tgt := 71) hx hb dX9_fraudsOf_61 (by decide) (fun c_11 => ?_) (fun c_11 => ?_)
    · have hf := sn_if c_11 hf
      refine lv_iconst (v := 0) hx hb dX9_fraudsOf_71 rfl ?_
      exact wX9_fraudsOf_72 C  hf kc kx _ _ _ hw (lv_sub hl [0, 1, 2, 3, 4, 5, 6] rfl)
    · have hf := sn_el c_11 hf
      refine lv_iconst (v := 1) hx hb dX9_fraudsOf_64 rfl ?_
      refine lv_iload hx hb dX9_fraudsOf_65 (lv_at hl 6 rfl) ?_
      refine lv_ishl hx hb dX9_fraudsOf_67 ?_
      refine lv_goto (tgt := 72) hx hb dX9_fraudsOf_68 (by decide) ?_
      exact wX9_fraudsOf_72 C  hf kc kx _ _ _ hw (lv_sub hl [0, 1, 2, 3, 4, 5, 6] rfl)
theorem wX9_fraudsOf_L27 (C : sn_C p s m args meth c RX9 cX9_fraudsOf 7 (some .int) D ct ad layM A) {x1 : Int32} {x2 : Int32} {x3 : Int32} {x4 : Int32}   {z : sn_S × Int32 × Int32} {t : sn_S × Int32} (h : sn_it (LX9_fraudsOf_27 x1 x2 x3 x4) 5000 z = some t) (kx : ∀ v, t = v → sn_At p l e rmX9_fraudsOf s m args below meth c Q D ct ad layM A 7 v.1 81 [(5, .int v.2)] []) : sn_At p l e rmX9_fraudsOf s m args below meth c Q D ct ad layM A 7 z.1 27 [(0, .ref (ad 0)), (1, .int x1), (2, .int x2), (3, .int x3), (4, .int x4), (5, .int z.2.1), (6, .int z.2.2)] [] :=
  sn_loop (f := LX9_fraudsOf_27 x1 x2 x3 x4) (G := fun z => sn_At p l e rmX9_fraudsOf s m args below meth c Q D ct ad layM A 7 z.1 27 [(0, .ref (ad 0)), (1, .int x1), (2, .int x2), (3, .int x3), (4, .int x4), (5, .int z.2.1), (6, .int z.2.2)] []) (E := fun t => (∀ v, t = v → sn_At p l e rmX9_fraudsOf s m args below meth c Q D ct ad layM A 7 v.1 81 [(5, .int v.2)] []) ∧ True) (fun z o hf k1 k2 => wX9_fraudsOf_27 C  hf (fun v e => k1 v e) (fun v e => (k2 _ e).1 v rfl)) 5000 z t h ⟨kx, trivial⟩
theorem wX9_fraudsOf_in (C : sn_C p s m args meth c RX9 cX9_fraudsOf 7 (some .int) D ct ad layM A) {σ : sn_S} {x1 : Int32}  {o : (Int32 × sn_S)} (hf : fX9_fraudsOf σ x1 = some o) (kr : sn_Kr p l e rmX9_fraudsOf s m args below meth c Q D ct ad layM A cX9_fraudsOf .ireturn (true) o.2 [.int o.1]) : sn_At p l e rmX9_fraudsOf s m args below meth c Q D ct ad layM A 7 σ 0 [(0, .ref (ad 0)), (1, .int x1)] [] := by
  intro H locs ls hw hl
  have hx := C.1
  have hb := C.2.1
  unfold fX9_fraudsOf at hf
  refine lv_aload_n hx hb dX9_fraudsOf_0 rfl (lv_at hl 0 rfl) ?_
  refine lv_iload_n hx hb dX9_fraudsOf_1 rfl (lv_at hl 1 rfl) ?_
  refine lv_iconst (v := 0) hx hb dX9_fraudsOf_2 rfl ?_
  obtain ⟨t_1, h_2, hf⟩ := sn_bd hf
  refine sn_callVi (rest := []) C hw (ctX9_of l  h_2) kl_RX9_234 layM_0 rfl rfl rfl rfl (Nat.le_of_ble_eq_true rfl) dX9_fraudsOf_3 hl.1 (fun H locs hw => ?_)
  refine lv_istore_n (lv' := [(2, .int t_1), (0, .ref (ad 0)), (1, .int x1)]) hx hb dX9_fraudsOf_6 rfl hl (by decide) rfl (fun ls hl => ?_)
  refine lv_aload_n hx hb dX9_fraudsOf_7 rfl (lv_at hl 1 rfl) ?_
  refine lv_iload_n hx hb dX9_fraudsOf_8 rfl (lv_at hl 2 rfl) ?_
  obtain ⟨t_3, h_4, hf⟩ := sn_bd hf
  refine sn_callVi (rest := []) C hw (ctX9_claimOf_ l  h_4) kl_RX9_326 layM_0 rfl rfl rfl rfl (Nat.le_of_ble_eq_true rfl) dX9_fraudsOf_9 hl.1 (fun H locs hw => ?_)
  refine lv_istore_n (lv' := [(3, .int t_3.1), (2, .int t_1), (0, .ref (ad 0)), (1, .int x1)]) hx hb dX9_fraudsOf_12 rfl hl (by decide) rfl (fun ls hl => ?_)
  refine lv_aload_n hx hb dX9_fraudsOf_13 rfl (lv_at hl 2 rfl) ?_
  refine sn_getC (r := 9) C hw fd_RX9_40 layM_0 rfl dX9_fraudsOf_14 ?_
  refine lv_iload_n hx hb dX9_fraudsOf_17 rfl (lv_at hl 1 rfl) ?_
  obtain ⟨g_5, hf⟩ := sn_gdE hf
  refine sn_iald C hw layM_9 g_5 dX9_fraudsOf_18 ?_
  obtain ⟨y_6, e_7, hf⟩ := sn_ltE hf
  refine lv_topi (fun y_6_ e_7_ => ?_)
  obtain rfl : y_6 = y_6_ := e_7.trans e_7_.symm
  refine lv_istore (lv' := [(4, .int y_6), (3, .int t_3.1), (2, .int t_1), (0, .ref (ad 0)), (1, .int x1)]) hx hb dX9_fraudsOf_19 hl (by decide) rfl (fun ls hl => ?_)
  refine lv_iconst (v := 0) hx hb dX9_fraudsOf_21 rfl ?_
  refine lv_istore (lv' := [(5, .int (0 : Int32)), (4, .int y_6), (3, .int t_3.1), (2, .int t_1), (0, .ref (ad 0)), (1, .int x1)]) hx hb dX9_fraudsOf_22 hl (by decide) rfl (fun ls hl => ?_)
  refine lv_iconst (v := 0) hx hb dX9_fraudsOf_24 rfl ?_
  refine lv_istore (lv' := [(6, .int (0 : Int32)), (5, .int (0 : Int32)), (4, .int y_6), (3, .int t_3.1), (2, .int t_1), (0, .ref (ad 0)), (1, .int x1)]) hx hb dX9_fraudsOf_25 hl (by decide) rfl (fun ls hl => ?_)
  obtain ⟨t_8, h_9, hf⟩ := sn_bd hf
  exact wX9_fraudsOf_L27 C  h_9 (fun v e => by cases e; exact wX9_fraudsOf_81 C  hf kr) _ _ _ hw (lv_sub hl [5, 6, 4, 3, 2, 1, 0] rfl)
theorem ctX9_fraudsOf (l : Launch) {σ : sn_S} {x1 : Int32}  {o : (Int32 × sn_S)} (hf : fX9_fraudsOf σ x1 = some o) : sn_M l yX9_fraudsOf cX9_fraudsOf 7 (some .int) rmX9_fraudsOf layM (fun ad => [.ref (ad 0), .int x1]) σ (some (fun _ => .int o.1)) o.2 :=
  sn_met (by decide) (fun _ => Nat.le_of_ble_eq_true rfl) (fun p e s m args below meth c ls D ct ad A C hw hl => wX9_fraudsOf_in C  hf (fun H locs ls pc hw ok hd => sn_iret C hw hd) _ _ _ hw hl)
-- X9_snuff
abbrev rmX9_snuff : Room := { frames := 6, cells := 0, slots := 0, locals := 136 }
def fX9_snuff (σ : sn_S) (x1 : Int32) : Option (Int32 × sn_S) :=
  ((fX9_asksPolicy σ x1).bind fun t_1 => (if t_1.1 = 0 then
  (some ((-2 : Int32), t_1.2))
  else
  ((fX9_fraudsOf t_1.2 x1).bind fun t_4 => ((fX9_firstOf t_4.1).bind fun t_6 => (some (t_6, t_4.2))))))
theorem wX9_snuff_in (C : sn_C p s m args meth c RX9 cX9_snuff 2 (some .int) D ct ad layM A) {σ : sn_S} {x1 : Int32}  {o : (Int32 × sn_S)} (hf : fX9_snuff σ x1 = some o) (kr : sn_Kr p l e rmX9_snuff s m args below meth c Q D ct ad layM A cX9_snuff .ireturn (true) o.2 [.int o.1]) : sn_At p l e rmX9_snuff s m args below meth c Q D ct ad layM A 2 σ 0 [(0, .ref (ad 0)), (1, .int x1)] [] := by
  intro H locs ls hw hl
  have hx := C.1
  have hb := C.2.1
  unfold fX9_snuff at hf
  refine lv_aload_n hx hb dX9_snuff_0 rfl (lv_at hl 0 rfl) ?_
  refine lv_iload_n hx hb dX9_snuff_1 rfl (lv_at hl 1 rfl) ?_
  obtain ⟨t_1, h_2, hf⟩ := sn_bd hf
  refine sn_callVi (rest := []) C hw (ctX9_asksPolicy l  h_2) kl_RX9_323 layM_0 rfl rfl rfl rfl (Nat.le_of_ble_eq_true rfl) dX9_snuff_2 hl.1 (fun H locs hw => ?_)
  refine lv_if_eq (tgt := 19) hx hb dX9_snuff_5 (by decide) (fun c_3 => ?_) (fun c_3 => ?_)
  · have hf := sn_if c_3 hf
    refine lv_bipush (v := (-2)) hx hb dX9_snuff_19 (by decide) ?_
    cases hf
    exact kr _ _ _ _ hw rfl dX9_snuff_21
  · have hf := sn_el c_3 hf
    refine lv_aload_n hx hb dX9_snuff_8 rfl (lv_at hl 0 rfl) ?_
    refine lv_iload_n hx hb dX9_snuff_9 rfl (lv_at hl 1 rfl) ?_
    obtain ⟨t_4, h_5, hf⟩ := sn_bd hf
    refine sn_callVi (rest := []) C hw (ctX9_fraudsOf l  h_5) kl_RX9_362 layM_0 rfl rfl rfl rfl (Nat.le_of_ble_eq_true rfl) dX9_snuff_10 hl.1 (fun H locs hw => ?_)
    obtain ⟨t_6, h_7, hf⟩ := sn_bd hf
    refine sn_callSi (rest := []) C hw (ctX9_firstOf l  h_7) kl_RX9_287 rfl rfl rfl (Nat.le_of_ble_eq_true rfl) dX9_snuff_13 hl.1 (fun H locs hw => ?_)
    refine lv_goto (tgt := 21) hx hb dX9_snuff_16 (by decide) ?_
    cases hf
    exact kr _ _ _ _ hw rfl dX9_snuff_21
theorem ctX9_snuff (l : Launch) {σ : sn_S} {x1 : Int32}  {o : (Int32 × sn_S)} (hf : fX9_snuff σ x1 = some o) : sn_M l yX9_snuff cX9_snuff 2 (some .int) rmX9_snuff layM (fun ad => [.ref (ad 0), .int x1]) σ (some (fun _ => .int o.1)) o.2 :=
  sn_met (by decide) (fun _ => Nat.le_of_ble_eq_true rfl) (fun p e s m args below meth c ls D ct ad A C hw hl => wX9_snuff_in C  hf (fun H locs ls pc hw ok hd => sn_iret C hw hd) _ _ _ hw hl)
-- X9_frauds
abbrev rmX9_frauds : Room := { frames := 6, cells := 0, slots := 0, locals := 136 }
def fX9_frauds (σ : sn_S) (x1 : Int32) : Option (Int32 × sn_S) :=
  ((fX9_asksPolicy σ x1).bind fun t_1 => (if t_1.1 = 0 then
  (some ((-2 : Int32), t_1.2))
  else
  ((fX9_fraudsOf t_1.2 x1).bind fun t_4 => (some (t_4.1, t_4.2)))))
theorem wX9_frauds_in (C : sn_C p s m args meth c RX9 cX9_frauds 2 (some .int) D ct ad layM A) {σ : sn_S} {x1 : Int32}  {o : (Int32 × sn_S)} (hf : fX9_frauds σ x1 = some o) (kr : sn_Kr p l e rmX9_frauds s m args below meth c Q D ct ad layM A cX9_frauds .ireturn (true) o.2 [.int o.1]) : sn_At p l e rmX9_frauds s m args below meth c Q D ct ad layM A 2 σ 0 [(0, .ref (ad 0)), (1, .int x1)] [] := by
  intro H locs ls hw hl
  have hx := C.1
  have hb := C.2.1
  unfold fX9_frauds at hf
  refine lv_aload_n hx hb dX9_frauds_0 rfl (lv_at hl 0 rfl) ?_
  refine lv_iload_n hx hb dX9_frauds_1 rfl (lv_at hl 1 rfl) ?_
  obtain ⟨t_1, h_2, hf⟩ := sn_bd hf
  refine sn_callVi (rest := []) C hw (ctX9_asksPolicy l  h_2) kl_RX9_323 layM_0 rfl rfl rfl rfl (Nat.le_of_ble_eq_true rfl) dX9_frauds_2 hl.1 (fun H locs hw => ?_)
  refine lv_if_eq (tgt := 16) hx hb dX9_frauds_5 (by decide) (fun c_3 => ?_) (fun c_3 => ?_)
  · have hf := sn_if c_3 hf
    refine lv_bipush (v := (-2)) hx hb dX9_frauds_16 (by decide) ?_
    cases hf
    exact kr _ _ _ _ hw rfl dX9_frauds_18
  · have hf := sn_el c_3 hf
    refine lv_aload_n hx hb dX9_frauds_8 rfl (lv_at hl 0 rfl) ?_
    refine lv_iload_n hx hb dX9_frauds_9 rfl (lv_at hl 1 rfl) ?_
    obtain ⟨t_4, h_5, hf⟩ := sn_bd hf
    refine sn_callVi (rest := []) C hw (ctX9_fraudsOf l  h_5) kl_RX9_362 layM_0 rfl rfl rfl rfl (Nat.le_of_ble_eq_true rfl) dX9_frauds_10 hl.1 (fun H locs hw => ?_)
    refine lv_goto (tgt := 18) hx hb dX9_frauds_13 (by decide) ?_
    cases hf
    exact kr _ _ _ _ hw rfl dX9_frauds_18
theorem ctX9_frauds (l : Launch) {σ : sn_S} {x1 : Int32}  {o : (Int32 × sn_S)} (hf : fX9_frauds σ x1 = some o) : sn_M l yX9_frauds cX9_frauds 2 (some .int) rmX9_frauds layM (fun ad => [.ref (ad 0), .int x1]) σ (some (fun _ => .int o.1)) o.2 :=
  sn_met (by decide) (fun _ => Nat.le_of_ble_eq_true rfl) (fun p e s m args below meth c ls D ct ad A C hw hl => wX9_frauds_in C  hf (fun H locs ls pc hw ok hd => sn_iret C hw hd) _ _ _ hw hl)
-- X9_numberAt
abbrev rmX9_numberAt : Room := { frames := 0, cells := 0, slots := 0, locals := 0 }
def fX9_numberAt (σ : sn_S) (x1 : Int32) (x2 : Int32) : Option Int64 :=
  (sn_gd (sn_in (((60 : Int32) * x1) + x2) 240) (some (sn_L σ 23 (((60 : Int32) * x1) + x2).toNatClampNeg)))
theorem wX9_numberAt_in (C : sn_C p s m args meth c RX9 cX9_numberAt 3 (some .long) D ct ad layM A) {σ : sn_S} {x1 : Int32} {x2 : Int32}  {o : Int64} (hf : fX9_numberAt σ x1 x2 = some o) (kr : sn_Kr p l e rmX9_numberAt s m args below meth c Q D ct ad layM A cX9_numberAt .lreturn (true) σ [.long o]) : sn_At p l e rmX9_numberAt s m args below meth c Q D ct ad layM A 3 σ 0 [(0, .ref (ad 0)), (1, .int x1), (2, .int x2)] [] := by
  intro H locs ls hw hl
  have hx := C.1
  have hb := C.2.1
  unfold fX9_numberAt at hf
  refine lv_aload_n hx hb dX9_numberAt_0 rfl (lv_at hl 0 rfl) ?_
  refine sn_getC (r := 23) C hw fd_RX9_82 layM_0 rfl dX9_numberAt_1 ?_
  refine lv_bipush (v := 60) hx hb dX9_numberAt_4 (by decide) ?_
  refine lv_iload_n hx hb dX9_numberAt_6 rfl (lv_at hl 1 rfl) ?_
  refine lv_imul hx hb dX9_numberAt_7 ?_
  refine lv_iload_n hx hb dX9_numberAt_8 rfl (lv_at hl 2 rfl) ?_
  refine lv_iadd hx hb dX9_numberAt_9 ?_
  obtain ⟨g_1, hf⟩ := sn_gdE hf
  refine sn_lald C hw layM_23 g_1 dX9_numberAt_10 ?_
  cases hf
  exact kr _ _ _ _ hw rfl dX9_numberAt_11
theorem ctX9_numberAt (l : Launch) {σ : sn_S} {x1 : Int32} {x2 : Int32}  {o : Int64} (hf : fX9_numberAt σ x1 x2 = some o) : sn_M l yX9_numberAt cX9_numberAt 3 (some .long) rmX9_numberAt layM (fun ad => [.ref (ad 0), .int x1, .int x2]) σ (some (fun _ => .long o)) σ :=
  sn_met (by decide) (fun _ => Nat.le_of_ble_eq_true rfl) (fun p e s m args below meth c ls D ct ad A C hw hl => wX9_numberAt_in C  hf (fun H locs ls pc hw ok hd => sn_lret C hw hd) _ _ _ hw hl)
-- X9_isSlot
abbrev rmX9_isSlot : Room := { frames := 1, cells := 0, slots := 0, locals := 25 }
def fX9_isSlot (x0 : Int32) : Option Int32 :=
  ((fX9_in x0.toInt64 (0 : Int64) (3 : Int64)).bind fun t_1 => (sn_gd (sn_b01 t_1) (some t_1)))
theorem wX9_isSlot_in (C : sn_C p s m args meth c RX9 cX9_isSlot 1 (some .boolean) D ct ad layM A) {σ : sn_S} {x0 : Int32}  {o : Int32} (hf : fX9_isSlot x0 = some o) (kr : sn_Kr p l e rmX9_isSlot s m args below meth c Q D ct ad layM A cX9_isSlot .ireturn (sn_b01 o) σ [.int o]) : sn_At p l e rmX9_isSlot s m args below meth c Q D ct ad layM A 1 σ 0 [(0, .int x0)] [] := by
  intro H locs ls hw hl
  have hx := C.1
  have hb := C.2.1
  unfold fX9_isSlot at hf
  refine lv_iload_n hx hb dX9_isSlot_0 rfl (lv_at hl 0 rfl) ?_
  refine lv_i2l hx hb dX9_isSlot_1 rfl ?_
  refine lv_lconst (v := 0) hx hb dX9_isSlot_2 rfl ?_
  refine lv_ldc2 hx hb C.2.2.2.1 (C.2.2.2.2.1 _ kk_RX9_98) dX9_isSlot_3 ?_
  obtain ⟨t_1, h_2, hf⟩ := sn_bd hf
  refine sn_callSi (rest := []) C hw (ctX9_in l  h_2) kl_RX9_94 rfl rfl rfl (Nat.le_of_ble_eq_true rfl) dX9_isSlot_6 hl.1 (fun H locs hw => ?_)
  obtain ⟨g_3, hf⟩ := sn_gdE hf
  cases hf
  exact kr _ _ _ _ hw g_3 dX9_isSlot_9
theorem ctX9_isSlot (l : Launch) {σ : sn_S} {x0 : Int32}  {o : Int32} (hf : fX9_isSlot x0 = some o) : sn_M l yX9_isSlot cX9_isSlot 1 (some .boolean) rmX9_isSlot layM (fun ad => [.int x0]) σ (some (fun _ => .int o)) σ :=
  sn_met (by decide) (fun _ => Nat.le_of_ble_eq_true rfl) (fun p e s m args below meth c ls D ct ad A C hw hl => wX9_isSlot_in C  hf (fun H locs ls pc hw ok hd => sn_zret C hw ok hd) _ _ _ hw hl)
-- X9_layPairs
abbrev rmX9_layPairs : Room := { frames := 4, cells := 0, slots := 0, locals := 95 }
def BX9_layPairs_295 (σ : sn_S) : Option ((Int32 × sn_S)) :=
  (some ((0 : Int32), σ))
def BX9_layPairs_289 (σ : sn_S) (x1 : Int32) (x2 : Int32) : Option ((sn_S × Int32) ⊕ (sn_S)) :=
  (sn_lt (x2 + 1) fun y_1 => (some (.inl (σ, y_1))))
def BX9_layPairs_283 (σ : sn_S) (x1 : Int32) (x2 : Int32) (x3 : Int32) : Option ((sn_S × Int32) ⊕ (sn_S)) :=
  (sn_lt (x3 + 1) fun y_1 => (some (.inl (σ, y_1))))
def BX9_layPairs_273 (σ : sn_S) (x1 : Int32) (x2 : Int32) (x3 : Int32) : Option ((sn_S × Int32) ⊕ (sn_S)) :=
  (sn_lt (sn_pI σ 0 36 ((sn_I σ 0 36) + (1 : Int32))) fun σ_1 => (BX9_layPairs_283 σ_1 x1 x2 x3))
def BX9_layPairs_235 (σ : sn_S) (x1 : Int32) (x2 : Int32) (x3 : Int32) (x5 : Int32) : Option ((sn_S × Int32) ⊕ (sn_S)) :=
  (if (6 : Int32) ≤ x5 then
  (some (.inr (σ)))
  else
  (sn_gd (sn_in x5 6) ((fX9_bits (sn_I σ 10 x5.toNatClampNeg)).bind fun t_3 => (sn_gd (sn_in (((6 : Int32) * (sn_I σ 0 36)) + x5) 1620) (sn_lt (sn_pI σ 20 (((6 : Int32) * (sn_I σ 0 36)) + x5).toNatClampNeg t_3) fun σ_6 => (sn_lt (x5 + 1) fun y_8 => (some (.inl (σ_6, y_8)))))))))
def LX9_layPairs_235 (x1 : Int32) (x2 : Int32) (x3 : Int32) (s : sn_S × Int32) : Option ((sn_S × Int32) ⊕ (sn_S)) := BX9_layPairs_235 s.1 x1 x2 x3 s.2
def BX9_layPairs_209 (σ : sn_S) (x1 : Int32) (x2 : Int32) (x3 : Int32) (x4 : Int32) : Option ((sn_S × Int32) ⊕ (sn_S)) :=
  (if x4 = 0 then
  (BX9_layPairs_283 σ x1 x2 x3)
  else
  (sn_gd (sn_in (sn_I σ 0 36) 270) (sn_lt (sn_pI σ 19 (sn_I σ 0 36).toNatClampNeg (((10 : Int32) * x2) + x3)) fun σ_3 => ((sn_it (LX9_layPairs_235 x1 x2 x3) 5000 (σ_3, (0 : Int32))).bind fun t_5 => (BX9_layPairs_273 t_5 x1 x2 x3)))))
def BX9_layPairs_201 (σ : sn_S) (x1 : Int32) (x2 : Int32) (x3 : Int32) (x4 : Int32) (x5 : Int32) (t0 : Int32) : Option ((Int32 × Int32) ⊕ (Int32)) :=
  (sn_lt (x5 + 2) fun y_1 => (some (.inl (t0, y_1))))
def BX9_layPairs_200 (σ : sn_S) (x1 : Int32) (x2 : Int32) (x3 : Int32) (x4 : Int32) (x5 : Int32) : Option ((Int32 × Int32) ⊕ (Int32)) :=
  (BX9_layPairs_201 σ x1 x2 x3 x4 x5 (0 : Int32))
def BX9_layPairs_150 (σ : sn_S) (x1 : Int32) (x2 : Int32) (x3 : Int32) (x4 : Int32) (x5 : Int32) : Option ((Int32 × Int32) ⊕ (Int32)) :=
  (sn_gd (sn_in x1 4) (if (sn_I σ 21 x1.toNatClampNeg) ≤ x5 then
  (some (.inr (x4)))
  else
  (if x4 = 0 then
  (BX9_layPairs_200 σ x1 x2 x3 x4 x5)
  else
  ((fX9_numberAt σ x1 x5).bind fun t_4 => (sn_gd (sn_in t_4.toInt32 6) ((fX9_numberAt σ x1 (x5 + (1 : Int32))).bind fun t_7 => ((fX9_bit (sn_I σ 10 t_4.toInt32.toNatClampNeg) t_7.toInt32).bind fun t_9 => (if t_9 = (1 : Int32) then
  (BX9_layPairs_201 σ x1 x2 x3 x4 x5 (1 : Int32))
  else
  (BX9_layPairs_200 σ x1 x2 x3 x4 x5)))))))))
def LX9_layPairs_150 (σ : sn_S) (x1 : Int32) (x2 : Int32) (x3 : Int32) (s : Int32 × Int32) : Option ((Int32 × Int32) ⊕ (Int32)) := BX9_layPairs_150 σ x1 x2 x3 s.1 s.2
def BX9_layPairs_114 (σ : sn_S) (x1 : Int32) (x2 : Int32) (x3 : Int32) : Option ((sn_S × Int32) ⊕ (sn_S)) :=
  (if (9 : Int32) < x3 then
  (some (.inr (σ)))
  else
  (sn_gd (sn_in x2 30) (sn_gd (sn_in x2 30) (sn_lt (sn_pI σ 7 x2.toNatClampNeg ((sn_I σ 7 x2.toNatClampNeg) + x3)) fun σ_4 => ((fX9_goAll σ_4).bind fun t_6 => (sn_gd (sn_in x2 30) (sn_gd (sn_in x2 30) (sn_lt (sn_pI t_6 7 x2.toNatClampNeg ((sn_I t_6 7 x2.toNatClampNeg) - x3)) fun σ_10 => ((sn_it (LX9_layPairs_150 σ_10 x1 x2 x3) 5000 ((1 : Int32), (0 : Int32))).bind fun t_12 => (BX9_layPairs_209 σ_10 x1 x2 x3 t_12))))))))))
def LX9_layPairs_114 (x1 : Int32) (x2 : Int32) (s : sn_S × Int32) : Option ((sn_S × Int32) ⊕ (sn_S)) := BX9_layPairs_114 s.1 x1 x2 s.2
def BX9_layPairs_104 (σ : sn_S) (x1 : Int32) (x2 : Int32) : Option ((sn_S × Int32) ⊕ (sn_S)) :=
  ((fX9_minutes σ).bind fun t_1 => (if t_1 ≤ x2 then
  (some (.inr (σ)))
  else
  ((sn_it (LX9_layPairs_114 x1 x2) 5000 (σ, (1 : Int32))).bind fun t_4 => (BX9_layPairs_289 t_4 x1 x2))))
def LX9_layPairs_104 (x1 : Int32) (s : sn_S × Int32) : Option ((sn_S × Int32) ⊕ (sn_S)) := BX9_layPairs_104 s.1 x1 s.2
def BX9_layPairs_93 (σ : sn_S) (x1 : Int32) : Option ((Int32 × sn_S)) :=
  ((fX9_asItIs σ).bind fun t_1 => (sn_lt (sn_pI t_1 0 36 (0 : Int32)) fun σ_3 => ((sn_it (LX9_layPairs_104 x1) 5000 (σ_3, (0 : Int32))).bind fun t_5 => (BX9_layPairs_295 t_5))))
def BX9_layPairs_46 (σ : sn_S) (x1 : Int32) (x2 : Int32) : Option ((Int32) ⊕ ((Unit) ⊕ (Int32 × sn_S))) :=
  (sn_gd (sn_in x1 4) (if (sn_I σ 21 x1.toNatClampNeg) ≤ x2 then
  (some (.inr (.inl ())))
  else
  ((fX9_numberAt σ x1 x2).bind fun t_3 => ((fX9_isPerson σ t_3).bind fun t_5 => (if t_5 = 0 then
  (some (.inr (.inr ((-2 : Int32), σ))))
  else
  ((fX9_numberAt σ x1 (x2 + (1 : Int32))).bind fun t_8 => ((fX9_isMinute σ t_8).bind fun t_10 => (if t_10 = 0 then
  (some (.inr (.inr ((-2 : Int32), σ))))
  else
  (sn_lt (x2 + 2) fun y_13 => (some (.inl (y_13))))))))))))
def LX9_layPairs_46 (σ : sn_S) (x1 : Int32) (s : Int32) : Option ((Int32) ⊕ ((Unit) ⊕ (Int32 × sn_S))) := BX9_layPairs_46 σ x1 s
def fX9_layPairs (σ : sn_S) (x1 : Int32) : Option (Int32 × sn_S) :=
  ((fX9_isSlot x1).bind fun t_1 => (if t_1 = 0 then
  (some ((-2 : Int32), σ))
  else
  ((fX9_isHouse σ).bind fun t_4 => (if t_4 = 0 then
  (some ((-2 : Int32), σ))
  else
  (sn_gd (sn_in x1 4) (if (sn_I σ 21 x1.toNatClampNeg) = (-1 : Int32) then
  (some ((-6 : Int32), σ))
  else
  (sn_gd (sn_in x1 4) (if ((sn_I σ 21 x1.toNatClampNeg) - (sn_I σ 21 x1.toNatClampNeg) / (2 : Int32) * (2 : Int32)) = 0 then
  ((sn_it (LX9_layPairs_46 σ x1) 5000 ((0 : Int32))).bind fun t_11 => Sum.elim (fun v_13 => (BX9_layPairs_93 σ x1)) (fun r_14 => (some r_14)) t_11)
  else
  (some ((-2 : Int32), σ))))))))))
theorem wX9_layPairs_295 (C : sn_C p s m args meth c RX9 cX9_layPairs 6 (some .int) D ct ad layM A) {σ : sn_S}  {o : (Int32 × sn_S)} (hf : BX9_layPairs_295 σ = some o) (kr : sn_Kr p l e rmX9_layPairs s m args below meth c Q D ct ad layM A cX9_layPairs .ireturn (true) o.2 [.int o.1]) : sn_At p l e rmX9_layPairs s m args below meth c Q D ct ad layM A 6 σ 295 [] [] := by
  intro H locs ls hw hl
  have hx := C.1
  have hb := C.2.1
  unfold BX9_layPairs_295 at hf
  refine lv_iconst (v := 0) hx hb dX9_layPairs_295 rfl ?_
  cases hf
  exact kr _ _ _ _ hw rfl dX9_layPairs_296
theorem wX9_layPairs_289 (C : sn_C p s m args meth c RX9 cX9_layPairs 6 (some .int) D ct ad layM A) {σ : sn_S} {x1 : Int32} {x2 : Int32}  {o : (sn_S × Int32) ⊕ (sn_S)} (hf : BX9_layPairs_289 σ x1 x2 = some o) (kc : ∀ v, o = .inl v → sn_At p l e rmX9_layPairs s m args below meth c Q D ct ad layM A 6 v.1 104 [(0, .ref (ad 0)), (1, .int x1), (2, .int v.2)] []) (kx : ∀ v, o = .inr v → sn_At p l e rmX9_layPairs s m args below meth c Q D ct ad layM A 6 v 295 [] []) : sn_At p l e rmX9_layPairs s m args below meth c Q D ct ad layM A 6 σ 289 [(0, .ref (ad 0)), (1, .int x1), (2, .int x2)] [] := by
  intro H locs ls hw hl
  have hx := C.1
  have hb := C.2.1
  unfold BX9_layPairs_289 at hf
  obtain ⟨y_1, e_2, hf⟩ := sn_ltE hf
  refine lv_iinc (v := y_1) (lv' := [(2, .int y_1), (0, .ref (ad 0)), (1, .int x1)]) hx hb dX9_layPairs_289 hl (k := 2) rfl (by rw [e_2]; rfl) (by decide) rfl (fun ls hl => ?_)
  refine lv_goto (tgt := 104) hx hb dX9_layPairs_292 (by decide) ?_
  cases hf
  exact kc _ rfl _ _ _ hw (lv_sub hl [1, 2, 0] rfl)
theorem wX9_layPairs_283 (C : sn_C p s m args meth c RX9 cX9_layPairs 6 (some .int) D ct ad layM A) {σ : sn_S} {x1 : Int32} {x2 : Int32} {x3 : Int32}  {o : (sn_S × Int32) ⊕ (sn_S)} (hf : BX9_layPairs_283 σ x1 x2 x3 = some o) (kc : ∀ v, o = .inl v → sn_At p l e rmX9_layPairs s m args below meth c Q D ct ad layM A 6 v.1 114 [(0, .ref (ad 0)), (1, .int x1), (2, .int x2), (3, .int v.2)] []) (kx : ∀ v, o = .inr v → sn_At p l e rmX9_layPairs s m args below meth c Q D ct ad layM A 6 v 289 [(0, .ref (ad 0)), (1, .int x1), (2, .int x2)] []) : sn_At p l e rmX9_layPairs s m args below meth c Q D ct ad layM A 6 σ 283 [(0, .ref (ad 0)), (1, .int x1), (2, .int x2), (3, .int x3)] [] := by
  intro H locs ls hw hl
  have hx := C.1
  have hb := C.2.1
  unfold BX9_layPairs_283 at hf
  obtain ⟨y_1, e_2, hf⟩ := sn_ltE hf
  refine lv_iinc (v := y_1) (lv' := [(3, .int y_1), (0, .ref (ad 0)), (1, .int x1), (2, .int x2)]) hx hb dX9_layPairs_283 hl (k := 3) rfl (by rw [e_2]; rfl) (by decide) rfl (fun ls hl => ?_)
  refine lv_goto (tgt := 114) hx hb dX9_layPairs_286 (by decide) ?_
  cases hf
  exact kc _ rfl _ _ _ hw (lv_sub hl [1, 2, 3, 0] rfl)
theorem wX9_layPairs_273 (C : sn_C p s m args meth c RX9 cX9_layPairs 6 (some .int) D ct ad layM A) {σ : sn_S} {x1 : Int32} {x2 : Int32} {x3 : Int32}  {o : (sn_S × Int32) ⊕ (sn_S)} (hf : BX9_layPairs_273 σ x1 x2 x3 = some o) (kc : ∀ v, o = .inl v → sn_At p l e rmX9_layPairs s m args below meth c Q D ct ad layM A 6 v.1 114 [(0, .ref (ad 0)), (1, .int x1), (2, .int x2), (3, .int v.2)] []) (kx : ∀ v, o = .inr v → sn_At p l e rmX9_layPairs s m args below meth c Q D ct ad layM A 6 v 289 [(0, .ref (ad 0)), (1, .int x1), (2, .int x2)] []) : sn_At p l e rmX9_layPairs s m args below meth c Q D ct ad layM A 6 σ 273 [(0, .ref (ad 0)), (1, .int x1), (2, .int x2), (3, .int x3)] [] := by
  intro H locs ls hw hl
  have hx := C.1
  have hb := C.2.1
  unfold BX9_layPairs_273 at hf
  refine lv_aload_n hx hb dX9_layPairs_273 rfl (lv_at hl 0 rfl) ?_
  refine lv_dup hx hb dX9_layPairs_274 rfl ?_
  refine sn_getI C hw fd_RX9_372 layM_0 rfl dX9_layPairs_275 ?_
  refine lv_iconst (v := 1) hx hb dX9_layPairs_278 rfl ?_
  refine lv_iadd hx hb dX9_layPairs_279 ?_
  refine sn_putI C hw fp_RX9_372 layM_0 rfl dX9_layPairs_280 (fun H locs hw => ?_)
  obtain ⟨σ_1, e_2, hf⟩ := sn_ltE hf
  rw [← e_2] at hw
  exact wX9_layPairs_283 C  hf kc kx _ _ _ hw (lv_sub hl [0, 1, 2, 3] rfl)
theorem wX9_layPairs_235 (C : sn_C p s m args meth c RX9 cX9_layPairs 6 (some .int) D ct ad layM A) {σ : sn_S} {x1 : Int32} {x2 : Int32} {x3 : Int32} {x5 : Int32}  {o : (sn_S × Int32) ⊕ (sn_S)} (hf : BX9_layPairs_235 σ x1 x2 x3 x5 = some o) (kc : ∀ v, o = .inl v → sn_At p l e rmX9_layPairs s m args below meth c Q D ct ad layM A 6 v.1 235 [(0, .ref (ad 0)), (1, .int x1), (2, .int x2), (3, .int x3), (5, .int v.2)] []) (kx : ∀ v, o = .inr v → sn_At p l e rmX9_layPairs s m args below meth c Q D ct ad layM A 6 v 273 [(0, .ref (ad 0)), (1, .int x1), (2, .int x2), (3, .int x3)] []) : sn_At p l e rmX9_layPairs s m args below meth c Q D ct ad layM A 6 σ 235 [(0, .ref (ad 0)), (1, .int x1), (2, .int x2), (3, .int x3), (5, .int x5)] [] := by
  intro H locs ls hw hl
  have hx := C.1
  have hb := C.2.1
  unfold BX9_layPairs_235 at hf
  refine lv_iload hx hb dX9_layPairs_235 (lv_at hl 4 rfl) ?_
  refine lv_bipush (v := 6) hx hb dX9_layPairs_237 (by decide) ?_
  refine lv_icmp_ge (tgt := 273) hx hb dX9_layPairs_239 (by decide) (fun c_1 => ?_) (fun c_1 => ?_)
  · have hf := sn_if c_1 hf
    cases hf
    exact kx _ rfl _ _ _ hw (lv_sub hl [0, 1, 2, 3] rfl)
  · have hf := sn_el c_1 hf
    refine lv_aload_n hx hb dX9_layPairs_242 rfl (lv_at hl 0 rfl) ?_
    refine sn_getC (r := 20) C hw fd_RX9_73 layM_0 rfl dX9_layPairs_243 ?_
    refine lv_bipush (v := 6) hx hb dX9_layPairs_246 (by decide) ?_
    refine lv_aload_n hx hb dX9_layPairs_248 rfl (lv_at hl 0 rfl) ?_
    refine sn_getI C hw fd_RX9_372 layM_0 rfl dX9_layPairs_249 ?_
    refine lv_imul hx hb dX9_layPairs_252 ?_
    refine lv_iload hx hb dX9_layPairs_253 (lv_at hl 4 rfl) ?_
    refine lv_iadd hx hb dX9_layPairs_255 ?_
    refine lv_aload_n hx hb dX9_layPairs_256 rfl (lv_at hl 0 rfl) ?_
    refine sn_getC (r := 10) C hw fd_RX9_43 layM_0 rfl dX9_layPairs_257 ?_
    refine lv_iload hx hb dX9_layPairs_260 (lv_at hl 4 rfl) ?_
    obtain ⟨g_2, hf⟩ := sn_gdE hf
    refine sn_iald C hw layM_10 g_2 dX9_layPairs_262 ?_
    obtain ⟨t_3, h_4, hf⟩ := sn_bd hf
    refine sn_callSi (rest := [.int (((6 : Int32) * (sn_I σ 0 36)) + x5), .ref (ad 20)]) C hw (ctX9_bits l  h_4) kl_RX9_278 rfl rfl rfl (Nat.le_of_ble_eq_true rfl) dX9_layPairs_263 hl.1 (fun H locs hw => ?_)
    obtain ⟨g_5, hf⟩ := sn_gdE hf
    refine sn_iast C hw layM_20 g_5 dX9_layPairs_266 (fun H locs hw => ?_)
    obtain ⟨σ_6, e_7, hf⟩ := sn_ltE hf
    rw [← e_7] at hw
    obtain ⟨y_8, e_9, hf⟩ := sn_ltE hf
    refine lv_iinc (v := y_8) (lv' := [(5, .int y_8), (0, .ref (ad 0)), (1, .int x1), (2, .int x2), (3, .int x3)]) hx hb dX9_layPairs_267 hl (k := 4) rfl (by rw [e_9]; rfl) (by decide) rfl (fun ls hl => ?_)
    refine lv_goto (tgt := 235) hx hb dX9_layPairs_270 (by decide) ?_
    cases hf
    exact kc _ rfl _ _ _ hw (lv_sub hl [1, 2, 3, 4, 0] rfl)
theorem wX9_layPairs_L235 (C : sn_C p s m args meth c RX9 cX9_layPairs 6 (some .int) D ct ad layM A) {x1 : Int32} {x2 : Int32} {x3 : Int32}   {z : sn_S × Int32} {t : sn_S} (h : sn_it (LX9_layPairs_235 x1 x2 x3) 5000 z = some t) (kx : ∀ v, t = v → sn_At p l e rmX9_layPairs s m args below meth c Q D ct ad layM A 6 v 273 [(0, .ref (ad 0)), (1, .int x1), (2, .int x2), (3, .int x3)] []) : sn_At p l e rmX9_layPairs s m args below meth c Q D ct ad layM A 6 z.1 235 [(0, .ref (ad 0)), (1, .int x1), (2, .int x2), (3, .int x3), (5, .int z.2)] [] :=
  sn_loop (f := LX9_layPairs_235 x1 x2 x3) (G := fun z => sn_At p l e rmX9_layPairs s m args below meth c Q D ct ad layM A 6 z.1 235 [(0, .ref (ad 0)), (1, .int x1), (2, .int x2), (3, .int x3), (5, .int z.2)] []) (E := fun t => (∀ v, t = v → sn_At p l e rmX9_layPairs s m args below meth c Q D ct ad layM A 6 v 273 [(0, .ref (ad 0)), (1, .int x1), (2, .int x2), (3, .int x3)] []) ∧ True) (fun z o hf k1 k2 => wX9_layPairs_235 C  hf (fun v e => k1 v e) (fun v e => (k2 _ e).1 v rfl)) 5000 z t h ⟨kx, trivial⟩
theorem wX9_layPairs_209 (C : sn_C p s m args meth c RX9 cX9_layPairs 6 (some .int) D ct ad layM A) {σ : sn_S} {x1 : Int32} {x2 : Int32} {x3 : Int32} {x4 : Int32}  {o : (sn_S × Int32) ⊕ (sn_S)} (hf : BX9_layPairs_209 σ x1 x2 x3 x4 = some o) (kc : ∀ v, o = .inl v → sn_At p l e rmX9_layPairs s m args below meth c Q D ct ad layM A 6 v.1 114 [(0, .ref (ad 0)), (1, .int x1), (2, .int x2), (3, .int v.2)] []) (kx : ∀ v, o = .inr v → sn_At p l e rmX9_layPairs s m args below meth c Q D ct ad layM A 6 v 289 [(0, .ref (ad 0)), (1, .int x1), (2, .int x2)] []) : sn_At p l e rmX9_layPairs s m args below meth c Q D ct ad layM A 6 σ 209 [(0, .ref (ad 0)), (1, .int x1), (2, .int x2), (3, .int x3), (4, .int x4)] [] := by
  intro H locs ls hw hl
  have hx := C.1
  have hb := C.2.1
  unfold BX9_layPairs_209 at hf
  refine lv_iload hx hb dX9_layPairs_209 (lv_at hl 4 rfl) ?_
  refine lv_if_ne (tgt := 217) hx hb dX9_layPairs_211 (by decide) (fun c_1 => ?_) (fun c_1 => ?_)
  · have hf := sn_el c_1 hf
    refine lv_aload_n hx hb dX9_layPairs_217 rfl (lv_at hl 0 rfl) ?_
    refine sn_getC (r := 19) C hw fd_RX9_70 layM_0 rfl dX9_layPairs_218 ?_
    refine lv_aload_n hx hb dX9_layPairs_221 rfl (lv_at hl 0 rfl) ?_
    refine sn_getI C hw fd_RX9_372 layM_0 rfl dX9_layPairs_222 ?_
    refine lv_bipush (v := 10) hx hb dX9_layPairs_225 (by decide) ?_
    refine lv_iload_n hx hb dX9_layPairs_227 rfl (lv_at hl 2 rfl) ?_
    refine lv_imul hx hb dX9_layPairs_228 ?_
    refine lv_iload_n hx hb dX9_layPairs_229 rfl (lv_at hl 3 rfl) ?_
    refine lv_iadd hx hb dX9_layPairs_230 ?_
    obtain ⟨g_2, hf⟩ := sn_gdE hf
    refine sn_iast C hw layM_19 g_2 dX9_layPairs_231 (fun H locs hw => ?_)
    obtain ⟨σ_3, e_4, hf⟩ := sn_ltE hf
    rw [← e_4] at hw
    refine lv_iconst (v := 0) hx hb dX9_layPairs_232 rfl ?_
    refine lv_istore (lv' := [(5, .int (0 : Int32)), (0, .ref (ad 0)), (1, .int x1), (2, .int x2), (3, .int x3), (4, .int x4)]) hx hb dX9_layPairs_233 hl (by decide) rfl (fun ls hl => ?_)
    obtain ⟨t_5, h_6, hf⟩ := sn_bd hf
    exact wX9_layPairs_L235 C  h_6 (fun v e => by cases e; exact wX9_layPairs_273 C  hf kc kx) _ _ _ hw (lv_sub hl [1, 2, 3, 4, 0] rfl)
  · have hf := sn_if c_1 hf
    refine lv_goto (tgt := 283) hx hb dX9_layPairs_214 (by decide) ?_
    exact wX9_layPairs_283 C  hf kc kx _ _ _ hw (lv_sub hl [0, 1, 2, 3] rfl)
theorem wX9_layPairs_201 (C : sn_C p s m args meth c RX9 cX9_layPairs 6 (some .int) D ct ad layM A) {σ : sn_S} {x1 : Int32} {x2 : Int32} {x3 : Int32} {x4 : Int32} {x5 : Int32} {t0 : Int32}  {o : (Int32 × Int32) ⊕ (Int32)} (hf : BX9_layPairs_201 σ x1 x2 x3 x4 x5 t0 = some o) (kc : ∀ v, o = .inl v → sn_At p l e rmX9_layPairs s m args below meth c Q D ct ad layM A 6 σ 150 [(0, .ref (ad 0)), (1, .int x1), (2, .int x2), (3, .int x3), (4, .int v.1), (5, .int v.2)] []) (kx : ∀ v, o = .inr v → sn_At p l e rmX9_layPairs s m args below meth c Q D ct ad layM A 6 σ 209 [(0, .ref (ad 0)), (1, .int x1), (2, .int x2), (3, .int x3), (4, .int v)] []) : sn_At p l e rmX9_layPairs s m args below meth c Q D ct ad layM A 6 σ 201 [(0, .ref (ad 0)), (1, .int x1), (2, .int x2), (3, .int x3), (4, .int x4), (5, .int x5)] [.int t0] := by
  intro H locs ls hw hl
  have hx := C.1
  have hb := C.2.1
  unfold BX9_layPairs_201 at hf
  refine lv_istore (lv' := [(4, .int t0), (0, .ref (ad 0)), (1, .int x1), (2, .int x2), (3, .int x3), (5, .int x5)]) hx hb dX9_layPairs_201 hl (by decide) rfl (fun ls hl => ?_)
  obtain ⟨y_1, e_2, hf⟩ := sn_ltE hf
  refine lv_iinc (v := y_1) (lv' := [(5, .int y_1), (4, .int t0), (0, .ref (ad 0)), (1, .int x1), (2, .int x2), (3, .int x3)]) hx hb dX9_layPairs_203 hl (k := 5) rfl (by rw [e_2]; rfl) (by decide) rfl (fun ls hl => ?_)
  refine lv_goto (tgt := 150) hx hb dX9_layPairs_206 (by decide) ?_
  cases hf
  exact kc _ rfl _ _ _ hw (lv_sub hl [2, 3, 4, 5, 1, 0] rfl)
theorem wX9_layPairs_200 (C : sn_C p s m args meth c RX9 cX9_layPairs 6 (some .int) D ct ad layM A) {σ : sn_S} {x1 : Int32} {x2 : Int32} {x3 : Int32} {x4 : Int32} {x5 : Int32}  {o : (Int32 × Int32) ⊕ (Int32)} (hf : BX9_layPairs_200 σ x1 x2 x3 x4 x5 = some o) (kc : ∀ v, o = .inl v → sn_At p l e rmX9_layPairs s m args below meth c Q D ct ad layM A 6 σ 150 [(0, .ref (ad 0)), (1, .int x1), (2, .int x2), (3, .int x3), (4, .int v.1), (5, .int v.2)] []) (kx : ∀ v, o = .inr v → sn_At p l e rmX9_layPairs s m args below meth c Q D ct ad layM A 6 σ 209 [(0, .ref (ad 0)), (1, .int x1), (2, .int x2), (3, .int x3), (4, .int v)] []) : sn_At p l e rmX9_layPairs s m args below meth c Q D ct ad layM A 6 σ 200 [(0, .ref (ad 0)), (1, .int x1), (2, .int x2), (3, .int x3), (4, .int x4), (5, .int x5)] [] := by
  intro H locs ls hw hl
  have hx := C.1
  have hb := C.2.1
  unfold BX9_layPairs_200 at hf
  refine lv_iconst (v := 0) hx hb dX9_layPairs_200 rfl ?_
  exact wX9_layPairs_201 C  hf kc kx _ _ _ hw (lv_sub hl [0, 1, 2, 3, 4, 5] rfl)
theorem wX9_layPairs_150 (C : sn_C p s m args meth c RX9 cX9_layPairs 6 (some .int) D ct ad layM A) {σ : sn_S} {x1 : Int32} {x2 : Int32} {x3 : Int32} {x4 : Int32} {x5 : Int32}  {o : (Int32 × Int32) ⊕ (Int32)} (hf : BX9_layPairs_150 σ x1 x2 x3 x4 x5 = some o) (kc : ∀ v, o = .inl v → sn_At p l e rmX9_layPairs s m args below meth c Q D ct ad layM A 6 σ 150 [(0, .ref (ad 0)), (1, .int x1), (2, .int x2), (3, .int x3), (4, .int v.1), (5, .int v.2)] []) (kx : ∀ v, o = .inr v → sn_At p l e rmX9_layPairs s m args below meth c Q D ct ad layM A 6 σ 209 [(0, .ref (ad 0)), (1, .int x1), (2, .int x2), (3, .int x3), (4, .int v)] []) : sn_At p l e rmX9_layPairs s m args below meth c Q D ct ad layM A 6 σ 150 [(0, .ref (ad 0)), (1, .int x1), (2, .int x2), (3, .int x3), (4, .int x4), (5, .int x5)] [] := by
  intro H locs ls hw hl
  have hx := C.1
  have hb := C.2.1
  unfold BX9_layPairs_150 at hf
  refine lv_iload hx hb dX9_layPairs_150 (lv_at hl 5 rfl) ?_
  refine lv_aload_n hx hb dX9_layPairs_152 rfl (lv_at hl 0 rfl) ?_
  refine sn_getC (r := 21) C hw fd_RX9_76 layM_0 rfl dX9_layPairs_153 ?_
  refine lv_iload_n hx hb dX9_layPairs_156 rfl (lv_at hl 1 rfl) ?_
  obtain ⟨g_1, hf⟩ := sn_gdE hf
  refine sn_iald C hw layM_21 g_1 dX9_layPairs_157 ?_
  refine lv_icmp_ge (tgt := 209) hx hb dX9_layPairs_158 (by decide) (fun c_2 => ?_) (fun c_2 => ?_)
  · have hf := sn_if c_2 hf
    cases hf
    exact kx _ rfl _ _ _ hw (lv_sub hl [0, 1, 2, 3, 4] rfl)
  · have hf := sn_el c_2 hf
    refine lv_iload hx hb dX9_layPairs_161 (lv_at hl 4 rfl) ?_
    refine lv_if_eq (tgt := 200) hx hb dX9_layPairs_163 (by decide) (fun c_3 => ?_) (fun c_3 => ?_)
    · have hf := sn_if c_3 hf
      exact wX9_layPairs_200 C  hf kc kx _ _ _ hw (lv_sub hl [0, 1, 2, 3, 4, 5] rfl)
    · have hf := sn_el c_3 hf
      refine lv_aload_n hx hb dX9_layPairs_166 rfl (lv_at hl 0 rfl) ?_
      refine sn_getC (r := 10) C hw fd_RX9_43 layM_0 rfl dX9_layPairs_167 ?_
      refine lv_aload_n hx hb dX9_layPairs_170 rfl (lv_at hl 0 rfl) ?_
      refine lv_iload_n hx hb dX9_layPairs_171 rfl (lv_at hl 1 rfl) ?_
      refine lv_iload hx hb dX9_layPairs_172 (lv_at hl 5 rfl) ?_
      obtain ⟨t_4, h_5, hf⟩ := sn_bd hf
      refine sn_callVl (rest := [.ref (ad 10)]) C hw (ctX9_numberAt l  h_5) kl_RX9_368 layM_0 rfl rfl rfl rfl (Nat.le_of_ble_eq_true rfl) dX9_layPairs_174 hl.1 (fun H locs hw => ?_)
      refine lv_l2i hx hb dX9_layPairs_177 rfl ?_
      obtain ⟨g_6, hf⟩ := sn_gdE hf
      refine sn_iald C hw layM_10 g_6 dX9_layPairs_178 ?_
      refine lv_aload_n hx hb dX9_layPairs_179 rfl (lv_at hl 0 rfl) ?_
      refine lv_iload_n hx hb dX9_layPairs_180 rfl (lv_at hl 1 rfl) ?_
      refine lv_iload hx hb dX9_layPairs_181 (lv_at hl 5 rfl) ?_
      refine lv_iconst (v := 1) hx hb dX9_layPairs_183 rfl ?_
      refine lv_iadd hx hb dX9_layPairs_184 ?_
      obtain ⟨t_7, h_8, hf⟩ := sn_bd hf
      refine sn_callVl (rest := [.int (sn_I σ 10 t_4.toInt32.toNatClampNeg)]) C hw (ctX9_numberAt l  h_8) kl_RX9_368 layM_0 rfl rfl rfl rfl (Nat.le_of_ble_eq_true rfl) dX9_layPairs_185 hl.1 (fun H locs hw => ?_)
      refine lv_l2i hx hb dX9_layPairs_188 rfl ?_
      obtain ⟨t_9, h_10, hf⟩ := sn_bd hf
      refine sn_callSi (rest := []) C hw (ctX9_bit l  h_10) kl_RX9_254 rfl rfl rfl (Nat.le_of_ble_eq_true rfl) dX9_layPairs_189 hl.1 (fun H locs hw => ?_)
      refine lv_iconst (v := 1) hx hb dX9_layPairs_192 rfl ?_
      refine lv_icmp_ne (tgt := 200) hx hb dX9_layPairs_193 (by decide) (fun c_11 => ?_) (fun c_11 => ?_)
      · have hf := sn_el c_11 hf
        exact wX9_layPairs_200 C  hf kc kx _ _ _ hw (lv_sub hl [0, 1, 2, 3, 4, 5] rfl)
      · have hf := sn_if c_11 hf
        refine lv_iconst (v := 1) hx hb dX9_layPairs_196 rfl ?_
        refine lv_goto (tgt := 201) hx hb dX9_layPairs_197 (by decide) ?_
        exact wX9_layPairs_201 C  hf kc kx _ _ _ hw (lv_sub hl [0, 1, 2, 3, 4, 5] rfl)
theorem wX9_layPairs_L150 (C : sn_C p s m args meth c RX9 cX9_layPairs 6 (some .int) D ct ad layM A) {σ : sn_S} {x1 : Int32} {x2 : Int32} {x3 : Int32}   {z : Int32 × Int32} {t : Int32} (h : sn_it (LX9_layPairs_150 σ x1 x2 x3) 5000 z = some t) (kx : ∀ v, t = v → sn_At p l e rmX9_layPairs s m args below meth c Q D ct ad layM A 6 σ 209 [(0, .ref (ad 0)), (1, .int x1), (2, .int x2), (3, .int x3), (4, .int v)] []) : sn_At p l e rmX9_layPairs s m args below meth c Q D ct ad layM A 6 σ 150 [(0, .ref (ad 0)), (1, .int x1), (2, .int x2), (3, .int x3), (4, .int z.1), (5, .int z.2)] [] :=
  sn_loop (f := LX9_layPairs_150 σ x1 x2 x3) (G := fun z => sn_At p l e rmX9_layPairs s m args below meth c Q D ct ad layM A 6 σ 150 [(0, .ref (ad 0)), (1, .int x1), (2, .int x2), (3, .int x3), (4, .int z.1), (5, .int z.2)] []) (E := fun t => (∀ v, t = v → sn_At p l e rmX9_layPairs s m args below meth c Q D ct ad layM A 6 σ 209 [(0, .ref (ad 0)), (1, .int x1), (2, .int x2), (3, .int x3), (4, .int v)] []) ∧ True) (fun z o hf k1 k2 => wX9_layPairs_150 C  hf (fun v e => k1 v e) (fun v e => (k2 _ e).1 v rfl)) 5000 z t h ⟨kx, trivial⟩
theorem wX9_layPairs_114 (C : sn_C p s m args meth c RX9 cX9_layPairs 6 (some .int) D ct ad layM A) {σ : sn_S} {x1 : Int32} {x2 : Int32} {x3 : Int32}  {o : (sn_S × Int32) ⊕ (sn_S)} (hf : BX9_layPairs_114 σ x1 x2 x3 = some o) (kc : ∀ v, o = .inl v → sn_At p l e rmX9_layPairs s m args below meth c Q D ct ad layM A 6 v.1 114 [(0, .ref (ad 0)), (1, .int x1), (2, .int x2), (3, .int v.2)] []) (kx : ∀ v, o = .inr v → sn_At p l e rmX9_layPairs s m args below meth c Q D ct ad layM A 6 v 289 [(0, .ref (ad 0)), (1, .int x1), (2, .int x2)] []) : sn_At p l e rmX9_layPairs s m args below meth c Q D ct ad layM A 6 σ 114 [(0, .ref (ad 0)), (1, .int x1), (2, .int x2), (3, .int x3)] [] := by
  intro H locs ls hw hl
  have hx := C.1
  have hb := C.2.1
  unfold BX9_layPairs_114 at hf
  refine lv_iload_n hx hb dX9_layPairs_114 rfl (lv_at hl 3 rfl) ?_
  refine lv_bipush (v := 9) hx hb dX9_layPairs_115 (by decide) ?_
  refine lv_icmp_gt (tgt := 289) hx hb dX9_layPairs_117 (by decide) (fun c_1 => ?_) (fun c_1 => ?_)
  · have hf := sn_if c_1 hf
    cases hf
    exact kx _ rfl _ _ _ hw (lv_sub hl [0, 1, 2] rfl)
  · have hf := sn_el c_1 hf
    refine lv_aload_n hx hb dX9_layPairs_120 rfl (lv_at hl 0 rfl) ?_
    refine sn_getC (r := 7) C hw fd_RX9_34 layM_0 rfl dX9_layPairs_121 ?_
    refine lv_iload_n hx hb dX9_layPairs_124 rfl (lv_at hl 2 rfl) ?_
    refine lv_dup2_11 hx hb dX9_layPairs_125 rfl rfl ?_
    obtain ⟨g_2, hf⟩ := sn_gdE hf
    refine sn_iald C hw layM_7 g_2 dX9_layPairs_126 ?_
    refine lv_iload_n hx hb dX9_layPairs_127 rfl (lv_at hl 3 rfl) ?_
    refine lv_iadd hx hb dX9_layPairs_128 ?_
    obtain ⟨g_3, hf⟩ := sn_gdE hf
    refine sn_iast C hw layM_7 g_3 dX9_layPairs_129 (fun H locs hw => ?_)
    obtain ⟨σ_4, e_5, hf⟩ := sn_ltE hf
    rw [← e_5] at hw
    refine lv_aload_n hx hb dX9_layPairs_130 rfl (lv_at hl 0 rfl) ?_
    obtain ⟨t_6, h_7, hf⟩ := sn_bd hf
    refine sn_callVv (rest := []) C hw (ctX9_goAll l  h_7) kl_RX9_266 layM_0 rfl rfl rfl rfl (Nat.le_of_ble_eq_true rfl) dX9_layPairs_131 hl.1 (fun H locs hw => ?_)
    refine lv_aload_n hx hb dX9_layPairs_134 rfl (lv_at hl 0 rfl) ?_
    refine sn_getC (r := 7) C hw fd_RX9_34 layM_0 rfl dX9_layPairs_135 ?_
    refine lv_iload_n hx hb dX9_layPairs_138 rfl (lv_at hl 2 rfl) ?_
    refine lv_dup2_11 hx hb dX9_layPairs_139 rfl rfl ?_
    obtain ⟨g_8, hf⟩ := sn_gdE hf
    refine sn_iald C hw layM_7 g_8 dX9_layPairs_140 ?_
    refine lv_iload_n hx hb dX9_layPairs_141 rfl (lv_at hl 3 rfl) ?_
    refine lv_isub hx hb dX9_layPairs_142 ?_
    obtain ⟨g_9, hf⟩ := sn_gdE hf
    refine sn_iast C hw layM_7 g_9 dX9_layPairs_143 (fun H locs hw => ?_)
    obtain ⟨σ_10, e_11, hf⟩ := sn_ltE hf
    rw [← e_11] at hw
    refine lv_iconst (v := 1) hx hb dX9_layPairs_144 rfl ?_
    refine lv_istore (lv' := [(4, .int (1 : Int32)), (0, .ref (ad 0)), (1, .int x1), (2, .int x2), (3, .int x3)]) hx hb dX9_layPairs_145 hl (by decide) rfl (fun ls hl => ?_)
    refine lv_iconst (v := 0) hx hb dX9_layPairs_147 rfl ?_
    refine lv_istore (lv' := [(5, .int (0 : Int32)), (4, .int (1 : Int32)), (0, .ref (ad 0)), (1, .int x1), (2, .int x2), (3, .int x3)]) hx hb dX9_layPairs_148 hl (by decide) rfl (fun ls hl => ?_)
    obtain ⟨t_12, h_13, hf⟩ := sn_bd hf
    exact wX9_layPairs_L150 C  h_13 (fun v e => by cases e; exact wX9_layPairs_209 C  hf kc kx) _ _ _ hw (lv_sub hl [2, 3, 4, 5, 1, 0] rfl)
theorem wX9_layPairs_L114 (C : sn_C p s m args meth c RX9 cX9_layPairs 6 (some .int) D ct ad layM A) {x1 : Int32} {x2 : Int32}   {z : sn_S × Int32} {t : sn_S} (h : sn_it (LX9_layPairs_114 x1 x2) 5000 z = some t) (kx : ∀ v, t = v → sn_At p l e rmX9_layPairs s m args below meth c Q D ct ad layM A 6 v 289 [(0, .ref (ad 0)), (1, .int x1), (2, .int x2)] []) : sn_At p l e rmX9_layPairs s m args below meth c Q D ct ad layM A 6 z.1 114 [(0, .ref (ad 0)), (1, .int x1), (2, .int x2), (3, .int z.2)] [] :=
  sn_loop (f := LX9_layPairs_114 x1 x2) (G := fun z => sn_At p l e rmX9_layPairs s m args below meth c Q D ct ad layM A 6 z.1 114 [(0, .ref (ad 0)), (1, .int x1), (2, .int x2), (3, .int z.2)] []) (E := fun t => (∀ v, t = v → sn_At p l e rmX9_layPairs s m args below meth c Q D ct ad layM A 6 v 289 [(0, .ref (ad 0)), (1, .int x1), (2, .int x2)] []) ∧ True) (fun z o hf k1 k2 => wX9_layPairs_114 C  hf (fun v e => k1 v e) (fun v e => (k2 _ e).1 v rfl)) 5000 z t h ⟨kx, trivial⟩
theorem wX9_layPairs_104 (C : sn_C p s m args meth c RX9 cX9_layPairs 6 (some .int) D ct ad layM A) {σ : sn_S} {x1 : Int32} {x2 : Int32}  {o : (sn_S × Int32) ⊕ (sn_S)} (hf : BX9_layPairs_104 σ x1 x2 = some o) (kc : ∀ v, o = .inl v → sn_At p l e rmX9_layPairs s m args below meth c Q D ct ad layM A 6 v.1 104 [(0, .ref (ad 0)), (1, .int x1), (2, .int v.2)] []) (kx : ∀ v, o = .inr v → sn_At p l e rmX9_layPairs s m args below meth c Q D ct ad layM A 6 v 295 [] []) : sn_At p l e rmX9_layPairs s m args below meth c Q D ct ad layM A 6 σ 104 [(0, .ref (ad 0)), (1, .int x1), (2, .int x2)] [] := by
  intro H locs ls hw hl
  have hx := C.1
  have hb := C.2.1
  unfold BX9_layPairs_104 at hf
  refine lv_iload_n hx hb dX9_layPairs_104 rfl (lv_at hl 2 rfl) ?_
  refine lv_aload_n hx hb dX9_layPairs_105 rfl (lv_at hl 0 rfl) ?_
  obtain ⟨t_1, h_2, hf⟩ := sn_bd hf
  refine sn_callVi (rest := [.int x2]) C hw (ctX9_minutes l  h_2) kl_RX9_249 layM_0 rfl rfl rfl rfl (Nat.le_of_ble_eq_true rfl) dX9_layPairs_106 hl.1 (fun H locs hw => ?_)
  refine lv_icmp_ge (tgt := 295) hx hb dX9_layPairs_109 (by decide) (fun c_3 => ?_) (fun c_3 => ?_)
  · have hf := sn_if c_3 hf
    cases hf
    exact kx _ rfl _ _ _ hw (lv_sub hl [] rfl)
  · have hf := sn_el c_3 hf
    refine lv_iconst (v := 1) hx hb dX9_layPairs_112 rfl ?_
    refine lv_istore_n (lv' := [(3, .int (1 : Int32)), (0, .ref (ad 0)), (1, .int x1), (2, .int x2)]) hx hb dX9_layPairs_113 rfl hl (by decide) rfl (fun ls hl => ?_)
    obtain ⟨t_4, h_5, hf⟩ := sn_bd hf
    exact wX9_layPairs_L114 C  h_5 (fun v e => by cases e; exact wX9_layPairs_289 C  hf kc kx) _ _ _ hw (lv_sub hl [1, 2, 3, 0] rfl)
theorem wX9_layPairs_L104 (C : sn_C p s m args meth c RX9 cX9_layPairs 6 (some .int) D ct ad layM A) {x1 : Int32}   {z : sn_S × Int32} {t : sn_S} (h : sn_it (LX9_layPairs_104 x1) 5000 z = some t) (kx : ∀ v, t = v → sn_At p l e rmX9_layPairs s m args below meth c Q D ct ad layM A 6 v 295 [] []) : sn_At p l e rmX9_layPairs s m args below meth c Q D ct ad layM A 6 z.1 104 [(0, .ref (ad 0)), (1, .int x1), (2, .int z.2)] [] :=
  sn_loop (f := LX9_layPairs_104 x1) (G := fun z => sn_At p l e rmX9_layPairs s m args below meth c Q D ct ad layM A 6 z.1 104 [(0, .ref (ad 0)), (1, .int x1), (2, .int z.2)] []) (E := fun t => (∀ v, t = v → sn_At p l e rmX9_layPairs s m args below meth c Q D ct ad layM A 6 v 295 [] []) ∧ True) (fun z o hf k1 k2 => wX9_layPairs_104 C  hf (fun v e => k1 v e) (fun v e => (k2 _ e).1 v rfl)) 5000 z t h ⟨kx, trivial⟩
theorem wX9_layPairs_93 (C : sn_C p s m args meth c RX9 cX9_layPairs 6 (some .int) D ct ad layM A) {σ : sn_S} {x1 : Int32}  {o : (Int32 × sn_S)} (hf : BX9_layPairs_93 σ x1 = some o) (kr : sn_Kr p l e rmX9_layPairs s m args below meth c Q D ct ad layM A cX9_layPairs .ireturn (true) o.2 [.int o.1]) : sn_At p l e rmX9_layPairs s m args below meth c Q D ct ad layM A 6 σ 93 [(0, .ref (ad 0)), (1, .int x1)] [] := by
  intro H locs ls hw hl
  have hx := C.1
  have hb := C.2.1
  unfold BX9_layPairs_93 at hf
  refine lv_aload_n hx hb dX9_layPairs_93 rfl (lv_at hl 0 rfl) ?_
  obtain ⟨t_1, h_2, hf⟩ := sn_bd hf
  refine sn_callVv (rest := []) C hw (ctX9_asItIs l  h_2) kl_RX9_263 layM_0 rfl rfl rfl rfl (Nat.le_of_ble_eq_true rfl) dX9_layPairs_94 hl.1 (fun H locs hw => ?_)
  refine lv_aload_n hx hb dX9_layPairs_97 rfl (lv_at hl 0 rfl) ?_
  refine lv_iconst (v := 0) hx hb dX9_layPairs_98 rfl ?_
  refine sn_putI C hw fp_RX9_372 layM_0 rfl dX9_layPairs_99 (fun H locs hw => ?_)
  obtain ⟨σ_3, e_4, hf⟩ := sn_ltE hf
  rw [← e_4] at hw
  refine lv_iconst (v := 0) hx hb dX9_layPairs_102 rfl ?_
  refine lv_istore_n (lv' := [(2, .int (0 : Int32)), (0, .ref (ad 0)), (1, .int x1)]) hx hb dX9_layPairs_103 rfl hl (by decide) rfl (fun ls hl => ?_)
  obtain ⟨t_5, h_6, hf⟩ := sn_bd hf
  exact wX9_layPairs_L104 C  h_6 (fun v e => by cases e; exact wX9_layPairs_295 C  hf kr) _ _ _ hw (lv_sub hl [1, 2, 0] rfl)
theorem wX9_layPairs_46 (C : sn_C p s m args meth c RX9 cX9_layPairs 6 (some .int) D ct ad layM A) {σ : sn_S} {x1 : Int32} {x2 : Int32}  {o : (Int32) ⊕ ((Unit) ⊕ (Int32 × sn_S))} (hf : BX9_layPairs_46 σ x1 x2 = some o) (kc : ∀ v, o = .inl v → sn_At p l e rmX9_layPairs s m args below meth c Q D ct ad layM A 6 σ 46 [(0, .ref (ad 0)), (1, .int x1), (2, .int v)] []) (kx : ∀ v, o = .inr (.inl v) → sn_At p l e rmX9_layPairs s m args below meth c Q D ct ad layM A 6 σ 93 [(0, .ref (ad 0)), (1, .int x1)] []) (kr : ∀ r, o = .inr (.inr r) → sn_Kr p l e rmX9_layPairs s m args below meth c Q D ct ad layM A cX9_layPairs .ireturn (true) r.2 [.int r.1]) : sn_At p l e rmX9_layPairs s m args below meth c Q D ct ad layM A 6 σ 46 [(0, .ref (ad 0)), (1, .int x1), (2, .int x2)] [] := by
  intro H locs ls hw hl
  have hx := C.1
  have hb := C.2.1
  unfold BX9_layPairs_46 at hf
  refine lv_iload_n hx hb dX9_layPairs_46 rfl (lv_at hl 2 rfl) ?_
  refine lv_aload_n hx hb dX9_layPairs_47 rfl (lv_at hl 0 rfl) ?_
  refine sn_getC (r := 21) C hw fd_RX9_76 layM_0 rfl dX9_layPairs_48 ?_
  refine lv_iload_n hx hb dX9_layPairs_51 rfl (lv_at hl 1 rfl) ?_
  obtain ⟨g_1, hf⟩ := sn_gdE hf
  refine sn_iald C hw layM_21 g_1 dX9_layPairs_52 ?_
  refine lv_icmp_ge (tgt := 93) hx hb dX9_layPairs_53 (by decide) (fun c_2 => ?_) (fun c_2 => ?_)
  · have hf := sn_if c_2 hf
    cases hf
    exact kx _ rfl _ _ _ hw (lv_sub hl [0, 1] rfl)
  · have hf := sn_el c_2 hf
    refine lv_aload_n hx hb dX9_layPairs_56 rfl (lv_at hl 0 rfl) ?_
    refine lv_aload_n hx hb dX9_layPairs_57 rfl (lv_at hl 0 rfl) ?_
    refine lv_iload_n hx hb dX9_layPairs_58 rfl (lv_at hl 1 rfl) ?_
    refine lv_iload_n hx hb dX9_layPairs_59 rfl (lv_at hl 2 rfl) ?_
    obtain ⟨t_3, h_4, hf⟩ := sn_bd hf
    refine sn_callVl (rest := [.ref (ad 0)]) C hw (ctX9_numberAt l  h_4) kl_RX9_368 layM_0 rfl rfl rfl rfl (Nat.le_of_ble_eq_true rfl) dX9_layPairs_60 hl.1 (fun H locs hw => ?_)
    obtain ⟨t_5, h_6, hf⟩ := sn_bd hf
    refine sn_callVi (rest := []) C hw (ctX9_isPerson l  h_6) kl_RX9_224 layM_0 rfl rfl rfl rfl (Nat.le_of_ble_eq_true rfl) dX9_layPairs_63 hl.1 (fun H locs hw => ?_)
    refine lv_if_eq (tgt := 84) hx hb dX9_layPairs_66 (by decide) (fun c_7 => ?_) (fun c_7 => ?_)
    · have hf := sn_if c_7 hf
      refine lv_bipush (v := (-2)) hx hb dX9_layPairs_84 (by decide) ?_
      cases hf
      exact kr _ rfl _ _ _ _ hw rfl dX9_layPairs_86
    · have hf := sn_el c_7 hf
      refine lv_aload_n hx hb dX9_layPairs_69 rfl (lv_at hl 0 rfl) ?_
      refine lv_aload_n hx hb dX9_layPairs_70 rfl (lv_at hl 0 rfl) ?_
      refine lv_iload_n hx hb dX9_layPairs_71 rfl (lv_at hl 1 rfl) ?_
      refine lv_iload_n hx hb dX9_layPairs_72 rfl (lv_at hl 2 rfl) ?_
      refine lv_iconst (v := 1) hx hb dX9_layPairs_73 rfl ?_
      refine lv_iadd hx hb dX9_layPairs_74 ?_
      obtain ⟨t_8, h_9, hf⟩ := sn_bd hf
      refine sn_callVl (rest := [.ref (ad 0)]) C hw (ctX9_numberAt l  h_9) kl_RX9_368 layM_0 rfl rfl rfl rfl (Nat.le_of_ble_eq_true rfl) dX9_layPairs_75 hl.1 (fun H locs hw => ?_)
      obtain ⟨t_10, h_11, hf⟩ := sn_bd hf
      refine sn_callVi (rest := []) C hw (ctX9_isMinute l  h_11) kl_RX9_275 layM_0 rfl rfl rfl rfl (Nat.le_of_ble_eq_true rfl) dX9_layPairs_78 hl.1 (fun H locs hw => ?_)
      refine lv_if_ne (tgt := 87) hx hb dX9_layPairs_81 (by decide) (fun c_12 => ?_) (fun c_12 => ?_)
      · have hf := sn_el c_12 hf
        obtain ⟨y_13, e_14, hf⟩ := sn_ltE hf
        refine lv_iinc (v := y_13) (lv' := [(2, .int y_13), (0, .ref (ad 0)), (1, .int x1)]) hx hb dX9_layPairs_87 hl (k := 2) rfl (by rw [e_14]; rfl) (by decide) rfl (fun ls hl => ?_)
        refine lv_goto (tgt := 46) hx hb dX9_layPairs_90 (by decide) ?_
        cases hf
        exact kc _ rfl _ _ _ hw (lv_sub hl [1, 2, 0] rfl)
      · have hf := sn_if c_12 hf
        refine lv_bipush (v := (-2)) hx hb dX9_layPairs_84 (by decide) ?_
        cases hf
        exact kr _ rfl _ _ _ _ hw rfl dX9_layPairs_86
theorem wX9_layPairs_L46 (C : sn_C p s m args meth c RX9 cX9_layPairs 6 (some .int) D ct ad layM A) {σ : sn_S} {x1 : Int32}   {z : Int32} {t : (Unit) ⊕ (Int32 × sn_S)} (h : sn_it (LX9_layPairs_46 σ x1) 5000 z = some t) (kx : ∀ v, t = .inl v → sn_At p l e rmX9_layPairs s m args below meth c Q D ct ad layM A 6 σ 93 [(0, .ref (ad 0)), (1, .int x1)] []) (kr : ∀ r, t = .inr r → sn_Kr p l e rmX9_layPairs s m args below meth c Q D ct ad layM A cX9_layPairs .ireturn (true) r.2 [.int r.1]) : sn_At p l e rmX9_layPairs s m args below meth c Q D ct ad layM A 6 σ 46 [(0, .ref (ad 0)), (1, .int x1), (2, .int z)] [] :=
  sn_loop (f := LX9_layPairs_46 σ x1) (G := fun z => sn_At p l e rmX9_layPairs s m args below meth c Q D ct ad layM A 6 σ 46 [(0, .ref (ad 0)), (1, .int x1), (2, .int z)] []) (E := fun t => (∀ v, t = .inl v → sn_At p l e rmX9_layPairs s m args below meth c Q D ct ad layM A 6 σ 93 [(0, .ref (ad 0)), (1, .int x1)] []) ∧ (∀ r, t = .inr r → sn_Kr p l e rmX9_layPairs s m args below meth c Q D ct ad layM A cX9_layPairs .ireturn (true) r.2 [.int r.1])) (fun z o hf k1 k2 => wX9_layPairs_46 C  hf (fun v e => k1 v e) (fun v e => (k2 _ e).1 v rfl) (fun r e => (k2 _ e).2 r rfl)) 5000 z t h ⟨kx, kr⟩
theorem wX9_layPairs_in (C : sn_C p s m args meth c RX9 cX9_layPairs 6 (some .int) D ct ad layM A) {σ : sn_S} {x1 : Int32}  {o : (Int32 × sn_S)} (hf : fX9_layPairs σ x1 = some o) (kr : sn_Kr p l e rmX9_layPairs s m args below meth c Q D ct ad layM A cX9_layPairs .ireturn (true) o.2 [.int o.1]) : sn_At p l e rmX9_layPairs s m args below meth c Q D ct ad layM A 6 σ 0 [(0, .ref (ad 0)), (1, .int x1)] [] := by
  intro H locs ls hw hl
  have hx := C.1
  have hb := C.2.1
  unfold fX9_layPairs at hf
  refine lv_iload_n hx hb dX9_layPairs_0 rfl (lv_at hl 1 rfl) ?_
  obtain ⟨t_1, h_2, hf⟩ := sn_bd hf
  refine sn_callSi (rest := []) C hw (ctX9_isSlot l  h_2) kl_RX9_365 rfl rfl rfl (Nat.le_of_ble_eq_true rfl) dX9_layPairs_1 hl.1 (fun H locs hw => ?_)
  refine lv_if_eq (tgt := 14) hx hb dX9_layPairs_4 (by decide) (fun c_3 => ?_) (fun c_3 => ?_)
  · have hf := sn_if c_3 hf
    refine lv_bipush (v := (-2)) hx hb dX9_layPairs_14 (by decide) ?_
    cases hf
    exact kr _ _ _ _ hw rfl dX9_layPairs_16
  · have hf := sn_el c_3 hf
    refine lv_aload_n hx hb dX9_layPairs_7 rfl (lv_at hl 0 rfl) ?_
    obtain ⟨t_4, h_5, hf⟩ := sn_bd hf
    refine sn_callVi (rest := []) C hw (ctX9_isHouse l  h_5) kl_RX9_269 layM_0 rfl rfl rfl rfl (Nat.le_of_ble_eq_true rfl) dX9_layPairs_8 hl.1 (fun H locs hw => ?_)
    refine lv_if_ne (tgt := 17) hx hb dX9_layPairs_11 (by decide) (fun c_6 => ?_) (fun c_6 => ?_)
    · have hf := sn_el c_6 hf
      refine lv_aload_n hx hb dX9_layPairs_17 rfl (lv_at hl 0 rfl) ?_
      refine sn_getC (r := 21) C hw fd_RX9_76 layM_0 rfl dX9_layPairs_18 ?_
      refine lv_iload_n hx hb dX9_layPairs_21 rfl (lv_at hl 1 rfl) ?_
      obtain ⟨g_7, hf⟩ := sn_gdE hf
      refine sn_iald C hw layM_21 g_7 dX9_layPairs_22 ?_
      refine lv_iconst (v := (-1)) hx hb dX9_layPairs_23 rfl ?_
      refine lv_icmp_ne (tgt := 30) hx hb dX9_layPairs_24 (by decide) (fun c_8 => ?_) (fun c_8 => ?_)
      · have hf := sn_el c_8 hf
        refine lv_aload_n hx hb dX9_layPairs_30 rfl (lv_at hl 0 rfl) ?_
        refine sn_getC (r := 21) C hw fd_RX9_76 layM_0 rfl dX9_layPairs_31 ?_
        refine lv_iload_n hx hb dX9_layPairs_34 rfl (lv_at hl 1 rfl) ?_
        obtain ⟨g_9, hf⟩ := sn_gdE hf
        refine sn_iald C hw layM_21 g_9 dX9_layPairs_35 ?_
        refine lv_iconst (v := 2) hx hb dX9_layPairs_36 rfl ?_
        refine lv_irem hx hb dX9_layPairs_37 (by decide) ?_
        refine lv_if_eq (tgt := 44) hx hb dX9_layPairs_38 (by decide) (fun c_10 => ?_) (fun c_10 => ?_)
        · have hf := sn_if c_10 hf
          refine lv_iconst (v := 0) hx hb dX9_layPairs_44 rfl ?_
          refine lv_istore_n (lv' := [(2, .int (0 : Int32)), (0, .ref (ad 0)), (1, .int x1)]) hx hb dX9_layPairs_45 rfl hl (by decide) rfl (fun ls hl => ?_)
          obtain ⟨t_11, h_12, hf⟩ := sn_bd hf
          rcases t_11 with v_13 | r_14
          · rw [Sum.elim_inl] at hf
            exact wX9_layPairs_L46 C  h_12 (fun v e => by cases e; exact wX9_layPairs_93 C  hf kr) (fun r e => by cases e) _ _ _ hw (lv_sub hl [1, 2, 0] rfl)
          · rw [Sum.elim_inr] at hf
            cases hf
            exact wX9_layPairs_L46 C  h_12 (fun v e => by cases e) (fun r e => by cases e; exact kr) _ _ _ hw (lv_sub hl [1, 2, 0] rfl)
        · have hf := sn_el c_10 hf
          refine lv_bipush (v := (-2)) hx hb dX9_layPairs_41 (by decide) ?_
          cases hf
          exact kr _ _ _ _ hw rfl dX9_layPairs_43
      · have hf := sn_if c_8 hf
        refine lv_bipush (v := (-6)) hx hb dX9_layPairs_27 (by decide) ?_
        cases hf
        exact kr _ _ _ _ hw rfl dX9_layPairs_29
    · have hf := sn_if c_6 hf
      refine lv_bipush (v := (-2)) hx hb dX9_layPairs_14 (by decide) ?_
      cases hf
      exact kr _ _ _ _ hw rfl dX9_layPairs_16
theorem ctX9_layPairs (l : Launch) {σ : sn_S} {x1 : Int32}  {o : (Int32 × sn_S)} (hf : fX9_layPairs σ x1 = some o) : sn_M l yX9_layPairs cX9_layPairs 6 (some .int) rmX9_layPairs layM (fun ad => [.ref (ad 0), .int x1]) σ (some (fun _ => .int o.1)) o.2 :=
  sn_met (by decide) (fun _ => Nat.le_of_ble_eq_true rfl) (fun p e s m args below meth c ls D ct ad A C hw hl => wX9_layPairs_in C  hf (fun H locs ls pc hw ok hd => sn_iret C hw hd) _ _ _ hw hl)
end
