section
variable {p : Program} {l : Launch} {e : Env} {s : State} {m : MethodId} {args : Array Value} {below : List Frame} {meth : Method} {c : Code} {Q : State → Prop} {D : va_G} {ct : Nat → ClassId} {ad : Nat → Nat} {A : Nat → Prop} {lay : List sn_E}
-- X8_clean
abbrev rmX8_clean : Room := { frames := 5, cells := 0, slots := 0, locals := 113 }
def BX8_clean_102 (σ : sn_S) : Option ((Int32 × sn_S)) :=
  (some ((-1 : Int32), σ))
def BX8_clean_77 (σ : sn_S) (x1 : Int32) : Option ((sn_S × Int32) ⊕ ((sn_S) ⊕ (Int32 × sn_S))) :=
  ((fX0_liveWhole σ 38).bind fun t_1 => ((fX0_total t_1 38).bind fun t_3 => (if t_3 = 0 then
  (some (.inr (.inr (x1, t_1))))
  else
  (sn_lt (x1 + (-1)) fun y_6 => (some (.inl (t_1, y_6)))))))
def BX8_clean_30 (σ : sn_S) (x1 : Int32) (x2 : Int32) : Option ((sn_S × Int32) ⊕ (sn_S)) :=
  (if (sn_I σ 27 0) ≤ x2 then
  (some (.inr (σ)))
  else
  (sn_gd (sn_in x2 30) (sn_gd (sn_in (1 : Int32) 11) (sn_gd (sn_in x2 30) (sn_lt (sn_pI σ (38 + 1) x2.toNatClampNeg (((sn_I σ (27 + 1) x2.toNatClampNeg) - (sn_I σ (1 + 1) (1 : Int32).toNatClampNeg)) + x1)) fun σ_5 => (sn_lt (x2 + 1) fun y_7 => (some (.inl (σ_5, y_7)))))))))
def LX8_clean_30 (x1 : Int32) (s : sn_S × Int32) : Option ((sn_S × Int32) ⊕ (sn_S)) := BX8_clean_30 s.1 x1 s.2
def BX8_clean_24 (σ : sn_S) (x1 : Int32) : Option ((sn_S × Int32) ⊕ ((sn_S) ⊕ (Int32 × sn_S))) :=
  (if x1 < 0 then
  (some (.inr (.inl (σ))))
  else
  ((sn_it (LX8_clean_30 x1) 5000 (σ, (0 : Int32))).bind fun t_2 => (BX8_clean_77 t_2 x1)))
def LX8_clean_24  (s : sn_S × Int32) : Option ((sn_S × Int32) ⊕ ((sn_S) ⊕ (Int32 × sn_S))) := BX8_clean_24 s.1 s.2
def fX8_clean (σ : sn_S) : Option (Int32 × sn_S) :=
  ((fX8_isHouse σ).bind fun t_1 => (if t_1 = 0 then
  (some ((-2 : Int32), σ))
  else
  ((fX0_copyFrom σ 38 27).bind fun t_4 => ((sn_it (LX8_clean_24 ) 5000 (t_4, (9 : Int32))).bind fun t_6 => Sum.elim (fun v_8 => (BX8_clean_102 v_8)) (fun r_9 => (some r_9)) t_6))))
theorem wX8_clean_102 (C : sn_C p s m args meth c RX8 cX8_clean 3 (some .int) D ct ad layC A) {σ : sn_S}  {o : (Int32 × sn_S)} (hf : BX8_clean_102 σ = some o) (kr : sn_Kr p l e rmX8_clean s m args below meth c Q D ct ad layC A cX8_clean .ireturn (true) o.2 [.int o.1]) : sn_At p l e rmX8_clean s m args below meth c Q D ct ad layC A 3 σ 102 [] [] := by
  intro H locs ls hw hl
  have hx := C.1
  have hb := C.2.1
  unfold BX8_clean_102 at hf
  refine lv_iconst (v := (-1)) hx hb dX8_clean_102 rfl ?_
  cases hf
  exact kr _ _ _ _ hw rfl dX8_clean_103
theorem wX8_clean_77 (C : sn_C p s m args meth c RX8 cX8_clean 3 (some .int) D ct ad layC A) {σ : sn_S} {x1 : Int32}  {o : (sn_S × Int32) ⊕ ((sn_S) ⊕ (Int32 × sn_S))} (hf : BX8_clean_77 σ x1 = some o) (kc : ∀ v, o = .inl v → sn_At p l e rmX8_clean s m args below meth c Q D ct ad layC A 3 v.1 24 [(0, .ref (ad 0)), (1, .int v.2)] []) (kx : ∀ v, o = .inr (.inl v) → sn_At p l e rmX8_clean s m args below meth c Q D ct ad layC A 3 v 102 [] []) (kr : ∀ r, o = .inr (.inr r) → sn_Kr p l e rmX8_clean s m args below meth c Q D ct ad layC A cX8_clean .ireturn (true) r.2 [.int r.1]) : sn_At p l e rmX8_clean s m args below meth c Q D ct ad layC A 3 σ 77 [(0, .ref (ad 0)), (1, .int x1)] [] := by
  intro H locs ls hw hl
  have hx := C.1
  have hb := C.2.1
  unfold BX8_clean_77 at hf
  refine lv_aload_n hx hb dX8_clean_77 rfl (lv_at hl 0 rfl) ?_
  refine sn_getC (r := 38) C hw fd_RX8_48 layC_0 rfl dX8_clean_78 ?_
  obtain ⟨t_1, h_2, hf⟩ := sn_bd hf
  refine sn_callVv (rest := []) C hw (ctX0_liveWhole l sn_isX0_38 h_2) kl_RX8_189 (sn_look sn_isX0_38 (k := 0) rfl) rfl rfl rfl rfl (Nat.le_of_ble_eq_true rfl) dX8_clean_81 hl.1 (fun H locs hw => ?_)
  refine lv_aload_n hx hb dX8_clean_84 rfl (lv_at hl 0 rfl) ?_
  refine sn_getC (r := 38) C hw fd_RX8_48 layC_0 rfl dX8_clean_85 ?_
  obtain ⟨t_3, h_4, hf⟩ := sn_bd hf
  refine sn_callVi (rest := []) C hw (ctX0_total l sn_isX0_38 h_4) kl_RX8_141 (sn_look sn_isX0_38 (k := 0) rfl) rfl rfl rfl rfl (Nat.le_of_ble_eq_true rfl) dX8_clean_88 hl.1 (fun H locs hw => ?_)
  refine lv_if_ne (tgt := 96) hx hb dX8_clean_91 (by decide) (fun c_5 => ?_) (fun c_5 => ?_)
  · have hf := sn_el c_5 hf
    obtain ⟨y_6, e_7, hf⟩ := sn_ltE hf
    refine lv_iinc (v := y_6) (lv' := [(1, .int y_6), (0, .ref (ad 0))]) hx hb dX8_clean_96 hl (k := 1) rfl (by rw [e_7]; rfl) (by decide) rfl (fun ls hl => ?_)
    refine lv_goto (tgt := 24) hx hb dX8_clean_99 (by decide) ?_
    cases hf
    exact kc _ rfl _ _ _ hw (lv_sub hl [1, 0] rfl)
  · have hf := sn_if c_5 hf
    refine lv_iload_n hx hb dX8_clean_94 rfl (lv_at hl 1 rfl) ?_
    cases hf
    exact kr _ rfl _ _ _ _ hw rfl dX8_clean_95
theorem wX8_clean_30 (C : sn_C p s m args meth c RX8 cX8_clean 3 (some .int) D ct ad layC A) {σ : sn_S} {x1 : Int32} {x2 : Int32}  {o : (sn_S × Int32) ⊕ (sn_S)} (hf : BX8_clean_30 σ x1 x2 = some o) (kc : ∀ v, o = .inl v → sn_At p l e rmX8_clean s m args below meth c Q D ct ad layC A 3 v.1 30 [(0, .ref (ad 0)), (1, .int x1), (2, .int v.2)] []) (kx : ∀ v, o = .inr v → sn_At p l e rmX8_clean s m args below meth c Q D ct ad layC A 3 v 77 [(0, .ref (ad 0)), (1, .int x1)] []) : sn_At p l e rmX8_clean s m args below meth c Q D ct ad layC A 3 σ 30 [(0, .ref (ad 0)), (1, .int x1), (2, .int x2)] [] := by
  intro H locs ls hw hl
  have hx := C.1
  have hb := C.2.1
  unfold BX8_clean_30 at hf
  refine lv_iload_n hx hb dX8_clean_30 rfl (lv_at hl 2 rfl) ?_
  refine lv_aload_n hx hb dX8_clean_31 rfl (lv_at hl 0 rfl) ?_
  refine sn_getC (r := 27) C hw fd_RX8_44 layC_0 rfl dX8_clean_32 ?_
  refine sn_getI C hw fd_RX8_151 (sn_look sn_isX0_27 (k := 0) rfl) rfl dX8_clean_35 ?_
  refine lv_icmp_ge (tgt := 77) hx hb dX8_clean_38 (by decide) (fun c_1 => ?_) (fun c_1 => ?_)
  · have hf := sn_if c_1 hf
    cases hf
    exact kx _ rfl _ _ _ hw (lv_sub hl [0, 1] rfl)
  · have hf := sn_el c_1 hf
    refine lv_aload_n hx hb dX8_clean_41 rfl (lv_at hl 0 rfl) ?_
    refine sn_getC (r := 38) C hw fd_RX8_48 layC_0 rfl dX8_clean_42 ?_
    refine sn_getC (r := (38 + 1)) C hw fd_RX8_128 (sn_look sn_isX0_38 (k := 0) rfl) rfl dX8_clean_45 ?_
    refine lv_iload_n hx hb dX8_clean_48 rfl (lv_at hl 2 rfl) ?_
    refine lv_aload_n hx hb dX8_clean_49 rfl (lv_at hl 0 rfl) ?_
    refine sn_getC (r := 27) C hw fd_RX8_44 layC_0 rfl dX8_clean_50 ?_
    refine sn_getC (r := (27 + 1)) C hw fd_RX8_128 (sn_look sn_isX0_27 (k := 0) rfl) rfl dX8_clean_53 ?_
    refine lv_iload_n hx hb dX8_clean_56 rfl (lv_at hl 2 rfl) ?_
    obtain ⟨g_2, hf⟩ := sn_gdE hf
    refine sn_iald C hw (sn_look sn_isX0_27 (k := 1) rfl) g_2 dX8_clean_57 ?_
    refine lv_aload_n hx hb dX8_clean_58 rfl (lv_at hl 0 rfl) ?_
    refine sn_getC (r := 1) C hw fd_RX8_10 layC_0 rfl dX8_clean_59 ?_
    refine sn_getC (r := (1 + 1)) C hw fd_RX8_100 (sn_look sn_isX2_1 (k := 0) rfl) rfl dX8_clean_62 ?_
    refine lv_iconst (v := 1) hx hb dX8_clean_65 rfl ?_
    obtain ⟨g_3, hf⟩ := sn_gdE hf
    refine sn_iald C hw (sn_look sn_isX2_1 (k := 1) rfl) g_3 dX8_clean_66 ?_
    refine lv_isub hx hb dX8_clean_67 ?_
    refine lv_iload_n hx hb dX8_clean_68 rfl (lv_at hl 1 rfl) ?_
    refine lv_iadd hx hb dX8_clean_69 ?_
    obtain ⟨g_4, hf⟩ := sn_gdE hf
    refine sn_iast C hw (sn_look sn_isX0_38 (k := 1) rfl) g_4 dX8_clean_70 (fun H locs hw => ?_)
    obtain ⟨σ_5, e_6, hf⟩ := sn_ltE hf
    rw [← e_6] at hw
    obtain ⟨y_7, e_8, hf⟩ := sn_ltE hf
    refine lv_iinc (v := y_7) (lv' := [(2, .int y_7), (0, .ref (ad 0)), (1, .int x1)]) hx hb dX8_clean_71 hl (k := 2) rfl (by rw [e_8]; rfl) (by decide) rfl (fun ls hl => ?_)
    refine lv_goto (tgt := 30) hx hb dX8_clean_74 (by decide) ?_
    cases hf
    exact kc _ rfl _ _ _ hw (lv_sub hl [1, 2, 0] rfl)
theorem wX8_clean_L30 (C : sn_C p s m args meth c RX8 cX8_clean 3 (some .int) D ct ad layC A) {x1 : Int32}   {z : sn_S × Int32} {t : sn_S} (h : sn_it (LX8_clean_30 x1) 5000 z = some t) (kx : ∀ v, t = v → sn_At p l e rmX8_clean s m args below meth c Q D ct ad layC A 3 v 77 [(0, .ref (ad 0)), (1, .int x1)] []) : sn_At p l e rmX8_clean s m args below meth c Q D ct ad layC A 3 z.1 30 [(0, .ref (ad 0)), (1, .int x1), (2, .int z.2)] [] :=
  sn_loop (f := LX8_clean_30 x1) (G := fun z => sn_At p l e rmX8_clean s m args below meth c Q D ct ad layC A 3 z.1 30 [(0, .ref (ad 0)), (1, .int x1), (2, .int z.2)] []) (E := fun t => (∀ v, t = v → sn_At p l e rmX8_clean s m args below meth c Q D ct ad layC A 3 v 77 [(0, .ref (ad 0)), (1, .int x1)] []) ∧ True) (fun z o hf k1 k2 => wX8_clean_30 C  hf (fun v e => k1 v e) (fun v e => (k2 _ e).1 v rfl)) 5000 z t h ⟨kx, trivial⟩
theorem wX8_clean_24 (C : sn_C p s m args meth c RX8 cX8_clean 3 (some .int) D ct ad layC A) {σ : sn_S} {x1 : Int32}  {o : (sn_S × Int32) ⊕ ((sn_S) ⊕ (Int32 × sn_S))} (hf : BX8_clean_24 σ x1 = some o) (kc : ∀ v, o = .inl v → sn_At p l e rmX8_clean s m args below meth c Q D ct ad layC A 3 v.1 24 [(0, .ref (ad 0)), (1, .int v.2)] []) (kx : ∀ v, o = .inr (.inl v) → sn_At p l e rmX8_clean s m args below meth c Q D ct ad layC A 3 v 102 [] []) (kr : ∀ r, o = .inr (.inr r) → sn_Kr p l e rmX8_clean s m args below meth c Q D ct ad layC A cX8_clean .ireturn (true) r.2 [.int r.1]) : sn_At p l e rmX8_clean s m args below meth c Q D ct ad layC A 3 σ 24 [(0, .ref (ad 0)), (1, .int x1)] [] := by
  intro H locs ls hw hl
  have hx := C.1
  have hb := C.2.1
  unfold BX8_clean_24 at hf
  refine lv_iload_n hx hb dX8_clean_24 rfl (lv_at hl 1 rfl) ?_
  refine lv_if_lt (tgt := 102) hx hb dX8_clean_25 (by decide) (fun c_1 => ?_) (fun c_1 => ?_)
  · have hf := sn_if c_1 hf
    cases hf
    exact kx _ rfl _ _ _ hw (lv_sub hl [] rfl)
  · have hf := sn_el c_1 hf
    refine lv_iconst (v := 0) hx hb dX8_clean_28 rfl ?_
    refine lv_istore_n (lv' := [(2, .int (0 : Int32)), (0, .ref (ad 0)), (1, .int x1)]) hx hb dX8_clean_29 rfl hl (by decide) rfl (fun ls hl => ?_)
    obtain ⟨t_2, h_3, hf⟩ := sn_bd hf
    exact wX8_clean_L30 C  h_3 (fun v e => by cases e; exact wX8_clean_77 C  hf kc kx kr) _ _ _ hw (lv_sub hl [1, 2, 0] rfl)
theorem wX8_clean_L24 (C : sn_C p s m args meth c RX8 cX8_clean 3 (some .int) D ct ad layC A)    {z : sn_S × Int32} {t : (sn_S) ⊕ (Int32 × sn_S)} (h : sn_it (LX8_clean_24 ) 5000 z = some t) (kx : ∀ v, t = .inl v → sn_At p l e rmX8_clean s m args below meth c Q D ct ad layC A 3 v 102 [] []) (kr : ∀ r, t = .inr r → sn_Kr p l e rmX8_clean s m args below meth c Q D ct ad layC A cX8_clean .ireturn (true) r.2 [.int r.1]) : sn_At p l e rmX8_clean s m args below meth c Q D ct ad layC A 3 z.1 24 [(0, .ref (ad 0)), (1, .int z.2)] [] :=
  sn_loop (f := LX8_clean_24 ) (G := fun z => sn_At p l e rmX8_clean s m args below meth c Q D ct ad layC A 3 z.1 24 [(0, .ref (ad 0)), (1, .int z.2)] []) (E := fun t => (∀ v, t = .inl v → sn_At p l e rmX8_clean s m args below meth c Q D ct ad layC A 3 v 102 [] []) ∧ (∀ r, t = .inr r → sn_Kr p l e rmX8_clean s m args below meth c Q D ct ad layC A cX8_clean .ireturn (true) r.2 [.int r.1])) (fun z o hf k1 k2 => wX8_clean_24 C  hf (fun v e => k1 v e) (fun v e => (k2 _ e).1 v rfl) (fun r e => (k2 _ e).2 r rfl)) 5000 z t h ⟨kx, kr⟩
theorem wX8_clean_in (C : sn_C p s m args meth c RX8 cX8_clean 3 (some .int) D ct ad layC A) {σ : sn_S}  {o : (Int32 × sn_S)} (hf : fX8_clean σ = some o) (kr : sn_Kr p l e rmX8_clean s m args below meth c Q D ct ad layC A cX8_clean .ireturn (true) o.2 [.int o.1]) : sn_At p l e rmX8_clean s m args below meth c Q D ct ad layC A 3 σ 0 [(0, .ref (ad 0))] [] := by
  intro H locs ls hw hl
  have hx := C.1
  have hb := C.2.1
  unfold fX8_clean at hf
  refine lv_aload_n hx hb dX8_clean_0 rfl (lv_at hl 0 rfl) ?_
  obtain ⟨t_1, h_2, hf⟩ := sn_bd hf
  refine sn_callVi (rest := []) C hw (ctX8_isHouse l  h_2) kl_RX8_137 layC_0 rfl rfl rfl rfl (Nat.le_of_ble_eq_true rfl) dX8_clean_1 hl.1 (fun H locs hw => ?_)
  refine lv_if_ne (tgt := 10) hx hb dX8_clean_4 (by decide) (fun c_3 => ?_) (fun c_3 => ?_)
  · have hf := sn_el c_3 hf
    refine lv_aload_n hx hb dX8_clean_10 rfl (lv_at hl 0 rfl) ?_
    refine sn_getC (r := 38) C hw fd_RX8_48 layC_0 rfl dX8_clean_11 ?_
    refine lv_aload_n hx hb dX8_clean_14 rfl (lv_at hl 0 rfl) ?_
    refine sn_getC (r := 27) C hw fd_RX8_44 layC_0 rfl dX8_clean_15 ?_
    obtain ⟨t_4, h_5, hf⟩ := sn_bd hf
    refine sn_callVv (rest := []) C hw (ctX0_copyFrom l sn_isX0_38 sn_isX0_27 h_5) kl_RX8_183 (sn_look sn_isX0_38 (k := 0) rfl) rfl rfl rfl rfl (Nat.le_of_ble_eq_true rfl) dX8_clean_18 hl.1 (fun H locs hw => ?_)
    refine lv_bipush (v := 9) hx hb dX8_clean_21 (by decide) ?_
    refine lv_istore_n (lv' := [(1, .int (9 : Int32)), (0, .ref (ad 0))]) hx hb dX8_clean_23 rfl hl (by decide) rfl (fun ls hl => ?_)
    obtain ⟨t_6, h_7, hf⟩ := sn_bd hf
    rcases t_6 with v_8 | r_9
    · rw [Sum.elim_inl] at hf
      exact wX8_clean_L24 C  h_7 (fun v e => by cases e; exact wX8_clean_102 C  hf kr) (fun r e => by cases e) _ _ _ hw (lv_sub hl [1, 0] rfl)
    · rw [Sum.elim_inr] at hf
      cases hf
      exact wX8_clean_L24 C  h_7 (fun v e => by cases e) (fun r e => by cases e; exact kr) _ _ _ hw (lv_sub hl [1, 0] rfl)
  · have hf := sn_if c_3 hf
    refine lv_bipush (v := (-2)) hx hb dX8_clean_7 (by decide) ?_
    cases hf
    exact kr _ _ _ _ hw rfl dX8_clean_9
theorem ctX8_clean (l : Launch) {σ : sn_S}  {o : (Int32 × sn_S)} (hf : fX8_clean σ = some o) : sn_M l yX8_clean cX8_clean 3 (some .int) rmX8_clean layC (fun ad => [.ref (ad 0)]) σ (some (fun _ => .int o.1)) o.2 :=
  sn_met (by decide) (fun _ => Nat.le_of_ble_eq_true rfl) (fun p e s m args below meth c ls D ct ad A C hw hl => wX8_clean_in C  hf (fun H locs ls pc hw ok hd => sn_iret C hw hd) _ _ _ hw hl)
-- X8_spreads
abbrev rmX8_spreads : Room := { frames := 5, cells := 0, slots := 0, locals := 113 }
def BX8_spreads_107 (σ : sn_S) (x2 : Int32) : Option ((Int32 × sn_S)) :=
  (some (x2, σ))
def BX8_spreads_101 (σ : sn_S) (x1 : Int32) (x2 : Int32) (x3 : Int32) : Option ((Int32 × Int32) ⊕ (Int32)) :=
  (sn_lt (x3 + 1) fun y_1 => (some (.inl (x2, y_1))))
def BX8_spreads_52 (σ : sn_S) (x1 : Int32) (x2 : Int32) (x3 : Int32) : Option ((Int32 × Int32) ⊕ (Int32)) :=
  (if (sn_I σ 27 1) ≤ x3 then
  (some (.inr (x2)))
  else
  (if x3 = x1 then
  (BX8_spreads_101 σ x1 x2 x3)
  else
  (sn_gd (sn_in x3 6) ((fJ6_bitCount_0f7a4 (sn_I σ (38 + 10) x3.toNatClampNeg)).bind fun t_4 => (sn_gd (sn_in x3 6) ((fJ6_bitCount_0f7a4 (sn_I σ (27 + 10) x3.toNatClampNeg)).bind fun t_7 => (if t_7 ≤ t_4 then
  (BX8_spreads_101 σ x1 x2 x3)
  else
  (sn_lt (x2 ||| ((1 : Int32) <<< (x3 &&& 31))) fun y_10 => (BX8_spreads_101 σ x1 y_10 x3)))))))))
def LX8_spreads_52 (σ : sn_S) (x1 : Int32) (s : Int32 × Int32) : Option ((Int32 × Int32) ⊕ (Int32)) := BX8_spreads_52 σ x1 s.1 s.2
def fX8_spreads (σ : sn_S) (x1 : Int32) : Option (Int32 × sn_S) :=
  ((fX8_isPerson σ x1).bind fun t_1 => (if t_1 = 0 then
  (some ((-2 : Int32), σ))
  else
  ((fX0_copyFrom σ 38 27).bind fun t_4 => ((fX8_firstMinutes (sn_I t_4 27 0)).bind fun t_6 => (sn_gd (sn_in x1 6) (sn_lt (sn_pI t_4 (38 + 4) x1.toNatClampNeg t_6) fun σ_9 => ((fX0_liveWhole σ_9 38).bind fun t_11 => ((sn_it (LX8_spreads_52 t_11 x1) 5000 ((0 : Int32), (0 : Int32))).bind fun t_13 => (BX8_spreads_107 t_11 t_13)))))))))
theorem wX8_spreads_107 (C : sn_C p s m args meth c RX8 cX8_spreads 4 (some .int) D ct ad layC A) {σ : sn_S} {x2 : Int32}  {o : (Int32 × sn_S)} (hf : BX8_spreads_107 σ x2 = some o) (kr : sn_Kr p l e rmX8_spreads s m args below meth c Q D ct ad layC A cX8_spreads .ireturn (true) o.2 [.int o.1]) : sn_At p l e rmX8_spreads s m args below meth c Q D ct ad layC A 4 σ 107 [(2, .int x2)] [] := by
  intro H locs ls hw hl
  have hx := C.1
  have hb := C.2.1
  unfold BX8_spreads_107 at hf
  refine lv_iload_n hx hb dX8_spreads_107 rfl (lv_at hl 0 rfl) ?_
  cases hf
  exact kr _ _ _ _ hw rfl dX8_spreads_108
theorem wX8_spreads_101 (C : sn_C p s m args meth c RX8 cX8_spreads 4 (some .int) D ct ad layC A) {σ : sn_S} {x1 : Int32} {x2 : Int32} {x3 : Int32}  {o : (Int32 × Int32) ⊕ (Int32)} (hf : BX8_spreads_101 σ x1 x2 x3 = some o) (kc : ∀ v, o = .inl v → sn_At p l e rmX8_spreads s m args below meth c Q D ct ad layC A 4 σ 52 [(0, .ref (ad 0)), (1, .int x1), (2, .int v.1), (3, .int v.2)] []) (kx : ∀ v, o = .inr v → sn_At p l e rmX8_spreads s m args below meth c Q D ct ad layC A 4 σ 107 [(2, .int v)] []) : sn_At p l e rmX8_spreads s m args below meth c Q D ct ad layC A 4 σ 101 [(0, .ref (ad 0)), (1, .int x1), (2, .int x2), (3, .int x3)] [] := by
  intro H locs ls hw hl
  have hx := C.1
  have hb := C.2.1
  unfold BX8_spreads_101 at hf
  obtain ⟨y_1, e_2, hf⟩ := sn_ltE hf
  refine lv_iinc (v := y_1) (lv' := [(3, .int y_1), (0, .ref (ad 0)), (1, .int x1), (2, .int x2)]) hx hb dX8_spreads_101 hl (k := 3) rfl (by rw [e_2]; rfl) (by decide) rfl (fun ls hl => ?_)
  refine lv_goto (tgt := 52) hx hb dX8_spreads_104 (by decide) ?_
  cases hf
  exact kc _ rfl _ _ _ hw (lv_sub hl [1, 2, 3, 0] rfl)
theorem wX8_spreads_52 (C : sn_C p s m args meth c RX8 cX8_spreads 4 (some .int) D ct ad layC A) {σ : sn_S} {x1 : Int32} {x2 : Int32} {x3 : Int32}  {o : (Int32 × Int32) ⊕ (Int32)} (hf : BX8_spreads_52 σ x1 x2 x3 = some o) (kc : ∀ v, o = .inl v → sn_At p l e rmX8_spreads s m args below meth c Q D ct ad layC A 4 σ 52 [(0, .ref (ad 0)), (1, .int x1), (2, .int v.1), (3, .int v.2)] []) (kx : ∀ v, o = .inr v → sn_At p l e rmX8_spreads s m args below meth c Q D ct ad layC A 4 σ 107 [(2, .int v)] []) : sn_At p l e rmX8_spreads s m args below meth c Q D ct ad layC A 4 σ 52 [(0, .ref (ad 0)), (1, .int x1), (2, .int x2), (3, .int x3)] [] := by
  intro H locs ls hw hl
  have hx := C.1
  have hb := C.2.1
  unfold BX8_spreads_52 at hf
  refine lv_iload_n hx hb dX8_spreads_52 rfl (lv_at hl 3 rfl) ?_
  refine lv_aload_n hx hb dX8_spreads_53 rfl (lv_at hl 0 rfl) ?_
  refine sn_getC (r := 27) C hw fd_RX8_44 layC_0 rfl dX8_spreads_54 ?_
  refine sn_getI C hw fd_RX8_162 (sn_look sn_isX0_27 (k := 0) rfl) rfl dX8_spreads_57 ?_
  refine lv_icmp_ge (tgt := 107) hx hb dX8_spreads_60 (by decide) (fun c_1 => ?_) (fun c_1 => ?_)
  · have hf := sn_if c_1 hf
    cases hf
    exact kx _ rfl _ _ _ hw (lv_sub hl [2] rfl)
  · have hf := sn_el c_1 hf
    refine lv_iload_n hx hb dX8_spreads_63 rfl (lv_at hl 3 rfl) ?_
    refine lv_iload_n hx hb dX8_spreads_64 rfl (lv_at hl 1 rfl) ?_
    refine lv_icmp_eq (tgt := 101) hx hb dX8_spreads_65 (by decide) (fun c_2 => ?_) (fun c_2 => ?_)
    · have hf := sn_if c_2 hf
      exact wX8_spreads_101 C  hf kc kx _ _ _ hw (lv_sub hl [0, 1, 2, 3] rfl)
    · have hf := sn_el c_2 hf
      refine lv_aload_n hx hb dX8_spreads_68 rfl (lv_at hl 0 rfl) ?_
      refine sn_getC (r := 38) C hw fd_RX8_48 layC_0 rfl dX8_spreads_69 ?_
      refine sn_getC (r := (38 + 10)) C hw fd_RX8_131 (sn_look sn_isX0_38 (k := 0) rfl) rfl dX8_spreads_72 ?_
      refine lv_iload_n hx hb dX8_spreads_75 rfl (lv_at hl 3 rfl) ?_
      obtain ⟨g_3, hf⟩ := sn_gdE hf
      refine sn_iald C hw (sn_look sn_isX0_38 (k := 10) rfl) g_3 dX8_spreads_76 ?_
      obtain ⟨t_4, h_5, hf⟩ := sn_bd hf
      refine sn_callSi (rest := []) C hw (ctJ6_bitCount_0f7a4 l  h_5) kl_RX8_165 rfl rfl rfl (Nat.le_of_ble_eq_true rfl) dX8_spreads_77 hl.1 (fun H locs hw => ?_)
      refine lv_aload_n hx hb dX8_spreads_80 rfl (lv_at hl 0 rfl) ?_
      refine sn_getC (r := 27) C hw fd_RX8_44 layC_0 rfl dX8_spreads_81 ?_
      refine sn_getC (r := (27 + 10)) C hw fd_RX8_131 (sn_look sn_isX0_27 (k := 0) rfl) rfl dX8_spreads_84 ?_
      refine lv_iload_n hx hb dX8_spreads_87 rfl (lv_at hl 3 rfl) ?_
      obtain ⟨g_6, hf⟩ := sn_gdE hf
      refine sn_iald C hw (sn_look sn_isX0_27 (k := 10) rfl) g_6 dX8_spreads_88 ?_
      obtain ⟨t_7, h_8, hf⟩ := sn_bd hf
      refine sn_callSi (rest := [.int t_4]) C hw (ctJ6_bitCount_0f7a4 l  h_8) kl_RX8_165 rfl rfl rfl (Nat.le_of_ble_eq_true rfl) dX8_spreads_89 hl.1 (fun H locs hw => ?_)
      refine lv_icmp_ge (tgt := 101) hx hb dX8_spreads_92 (by decide) (fun c_9 => ?_) (fun c_9 => ?_)
      · have hf := sn_if c_9 hf
        exact wX8_spreads_101 C  hf kc kx _ _ _ hw (lv_sub hl [0, 1, 2, 3] rfl)
      · have hf := sn_el c_9 hf
        refine lv_iload_n hx hb dX8_spreads_95 rfl (lv_at hl 2 rfl) ?_
        refine lv_iconst (v := 1) hx hb dX8_spreads_96 rfl ?_
        refine lv_iload_n hx hb dX8_spreads_97 rfl (lv_at hl 3 rfl) ?_
        refine lv_ishl hx hb dX8_spreads_98 ?_
        refine lv_ior hx hb dX8_spreads_99 ?_
        obtain ⟨y_10, e_11, hf⟩ := sn_ltE hf
        refine lv_topi (fun y_10_ e_11_ => ?_)
        obtain rfl : y_10 = y_10_ := e_11.trans e_11_.symm
        refine lv_istore_n (lv' := [(2, .int y_10), (0, .ref (ad 0)), (1, .int x1), (3, .int x3)]) hx hb dX8_spreads_100 rfl hl (by decide) rfl (fun ls hl => ?_)
        exact wX8_spreads_101 C  hf kc kx _ _ _ hw (lv_sub hl [1, 2, 0, 3] rfl)
theorem wX8_spreads_L52 (C : sn_C p s m args meth c RX8 cX8_spreads 4 (some .int) D ct ad layC A) {σ : sn_S} {x1 : Int32}   {z : Int32 × Int32} {t : Int32} (h : sn_it (LX8_spreads_52 σ x1) 5000 z = some t) (kx : ∀ v, t = v → sn_At p l e rmX8_spreads s m args below meth c Q D ct ad layC A 4 σ 107 [(2, .int v)] []) : sn_At p l e rmX8_spreads s m args below meth c Q D ct ad layC A 4 σ 52 [(0, .ref (ad 0)), (1, .int x1), (2, .int z.1), (3, .int z.2)] [] :=
  sn_loop (f := LX8_spreads_52 σ x1) (G := fun z => sn_At p l e rmX8_spreads s m args below meth c Q D ct ad layC A 4 σ 52 [(0, .ref (ad 0)), (1, .int x1), (2, .int z.1), (3, .int z.2)] []) (E := fun t => (∀ v, t = v → sn_At p l e rmX8_spreads s m args below meth c Q D ct ad layC A 4 σ 107 [(2, .int v)] []) ∧ True) (fun z o hf k1 k2 => wX8_spreads_52 C  hf (fun v e => k1 v e) (fun v e => (k2 _ e).1 v rfl)) 5000 z t h ⟨kx, trivial⟩
theorem wX8_spreads_in (C : sn_C p s m args meth c RX8 cX8_spreads 4 (some .int) D ct ad layC A) {σ : sn_S} {x1 : Int32}  {o : (Int32 × sn_S)} (hf : fX8_spreads σ x1 = some o) (kr : sn_Kr p l e rmX8_spreads s m args below meth c Q D ct ad layC A cX8_spreads .ireturn (true) o.2 [.int o.1]) : sn_At p l e rmX8_spreads s m args below meth c Q D ct ad layC A 4 σ 0 [(0, .ref (ad 0)), (1, .int x1)] [] := by
  intro H locs ls hw hl
  have hx := C.1
  have hb := C.2.1
  unfold fX8_spreads at hf
  refine lv_aload_n hx hb dX8_spreads_0 rfl (lv_at hl 0 rfl) ?_
  refine lv_iload_n hx hb dX8_spreads_1 rfl (lv_at hl 1 rfl) ?_
  obtain ⟨t_1, h_2, hf⟩ := sn_bd hf
  refine sn_callVi (rest := []) C hw (ctX8_isPerson l  h_2) kl_RX8_107 layC_0 rfl rfl rfl rfl (Nat.le_of_ble_eq_true rfl) dX8_spreads_2 hl.1 (fun H locs hw => ?_)
  refine lv_if_ne (tgt := 11) hx hb dX8_spreads_5 (by decide) (fun c_3 => ?_) (fun c_3 => ?_)
  · have hf := sn_el c_3 hf
    refine lv_aload_n hx hb dX8_spreads_11 rfl (lv_at hl 0 rfl) ?_
    refine sn_getC (r := 38) C hw fd_RX8_48 layC_0 rfl dX8_spreads_12 ?_
    refine lv_aload_n hx hb dX8_spreads_15 rfl (lv_at hl 0 rfl) ?_
    refine sn_getC (r := 27) C hw fd_RX8_44 layC_0 rfl dX8_spreads_16 ?_
    obtain ⟨t_4, h_5, hf⟩ := sn_bd hf
    refine sn_callVv (rest := []) C hw (ctX0_copyFrom l sn_isX0_38 sn_isX0_27 h_5) kl_RX8_183 (sn_look sn_isX0_38 (k := 0) rfl) rfl rfl rfl rfl (Nat.le_of_ble_eq_true rfl) dX8_spreads_19 hl.1 (fun H locs hw => ?_)
    refine lv_aload_n hx hb dX8_spreads_22 rfl (lv_at hl 0 rfl) ?_
    refine sn_getC (r := 38) C hw fd_RX8_48 layC_0 rfl dX8_spreads_23 ?_
    refine sn_getC (r := (38 + 4)) C hw fd_RX8_196 (sn_look sn_isX0_38 (k := 0) rfl) rfl dX8_spreads_26 ?_
    refine lv_iload_n hx hb dX8_spreads_29 rfl (lv_at hl 1 rfl) ?_
    refine lv_aload_n hx hb dX8_spreads_30 rfl (lv_at hl 0 rfl) ?_
    refine sn_getC (r := 27) C hw fd_RX8_44 layC_0 rfl dX8_spreads_31 ?_
    refine sn_getI C hw fd_RX8_151 (sn_look sn_isX0_27 (k := 0) rfl) rfl dX8_spreads_34 ?_
    obtain ⟨t_6, h_7, hf⟩ := sn_bd hf
    refine sn_callSi (rest := [.int x1, .ref (ad (38 + 4))]) C hw (ctX8_firstMinutes l  h_7) kl_RX8_174 rfl rfl rfl (Nat.le_of_ble_eq_true rfl) dX8_spreads_37 hl.1 (fun H locs hw => ?_)
    obtain ⟨g_8, hf⟩ := sn_gdE hf
    refine sn_iast C hw (sn_look sn_isX0_38 (k := 4) rfl) g_8 dX8_spreads_40 (fun H locs hw => ?_)
    obtain ⟨σ_9, e_10, hf⟩ := sn_ltE hf
    rw [← e_10] at hw
    refine lv_aload_n hx hb dX8_spreads_41 rfl (lv_at hl 0 rfl) ?_
    refine sn_getC (r := 38) C hw fd_RX8_48 layC_0 rfl dX8_spreads_42 ?_
    obtain ⟨t_11, h_12, hf⟩ := sn_bd hf
    refine sn_callVv (rest := []) C hw (ctX0_liveWhole l sn_isX0_38 h_12) kl_RX8_189 (sn_look sn_isX0_38 (k := 0) rfl) rfl rfl rfl rfl (Nat.le_of_ble_eq_true rfl) dX8_spreads_45 hl.1 (fun H locs hw => ?_)
    refine lv_iconst (v := 0) hx hb dX8_spreads_48 rfl ?_
    refine lv_istore_n (lv' := [(2, .int (0 : Int32)), (0, .ref (ad 0)), (1, .int x1)]) hx hb dX8_spreads_49 rfl hl (by decide) rfl (fun ls hl => ?_)
    refine lv_iconst (v := 0) hx hb dX8_spreads_50 rfl ?_
    refine lv_istore_n (lv' := [(3, .int (0 : Int32)), (2, .int (0 : Int32)), (0, .ref (ad 0)), (1, .int x1)]) hx hb dX8_spreads_51 rfl hl (by decide) rfl (fun ls hl => ?_)
    obtain ⟨t_13, h_14, hf⟩ := sn_bd hf
    exact wX8_spreads_L52 C  h_14 (fun v e => by cases e; exact wX8_spreads_107 C  hf kr) _ _ _ hw (lv_sub hl [2, 3, 1, 0] rfl)
  · have hf := sn_if c_3 hf
    refine lv_bipush (v := (-2)) hx hb dX8_spreads_8 (by decide) ?_
    cases hf
    exact kr _ _ _ _ hw rfl dX8_spreads_10
theorem ctX8_spreads (l : Launch) {σ : sn_S} {x1 : Int32}  {o : (Int32 × sn_S)} (hf : fX8_spreads σ x1 = some o) : sn_M l yX8_spreads cX8_spreads 4 (some .int) rmX8_spreads layC (fun ad => [.ref (ad 0), .int x1]) σ (some (fun _ => .int o.1)) o.2 :=
  sn_met (by decide) (fun _ => Nat.le_of_ble_eq_true rfl) (fun p e s m args below meth c ls D ct ad A C hw hl => wX8_spreads_in C  hf (fun H locs ls pc hw ok hd => sn_iret C hw hd) _ _ _ hw hl)
-- X8_web
abbrev rmX8_web : Room := { frames := 1, cells := 0, slots := 0, locals := 23 }
def BX8_web_79 (σ : sn_S) (x2 : Int32) : Option (Int32) :=
  (some x2)
def BX8_web_70 (σ : sn_S) (x2 : Int32) (x3 : Int32) (x4 : Int32) : Option ((Int32 × Int32) ⊕ (Int32)) :=
  (sn_lt (x3 + 1) fun y_1 => (some (.inl (x4, y_1))))
def BX8_web_64 (σ : sn_S) (x2 : Int32) (x3 : Int32) (x4 : Int32) (x5 : Int32) : Option ((Int32 × Int32) ⊕ (Int32)) :=
  (sn_lt (x5 + 1) fun y_1 => (some (.inl (x4, y_1))))
def BX8_web_29 (σ : sn_S) (x2 : Int32) (x3 : Int32) (x4 : Int32) (x5 : Int32) : Option ((Int32 × Int32) ⊕ (Int32)) :=
  (if (sn_I σ 27 1) ≤ x5 then
  (some (.inr (x4)))
  else
  ((fX8_hasBit x2 x5).bind fun t_2 => (if t_2 = 0 then
  (BX8_web_64 σ x2 x3 x4 x5)
  else
  ((fX2_neighbours σ 1 x5).bind fun t_5 => (sn_lt (x4 ||| t_5) fun y_7 => (BX8_web_64 σ x2 x3 y_7 x5))))))
def LX8_web_29 (σ : sn_S) (x2 : Int32) (x3 : Int32) (s : Int32 × Int32) : Option ((Int32 × Int32) ⊕ (Int32)) := BX8_web_29 σ x2 x3 s.1 s.2
def BX8_web_17 (σ : sn_S) (x2 : Int32) (x3 : Int32) : Option ((Int32 × Int32) ⊕ (Int32)) :=
  (if (6 : Int32) ≤ x3 then
  (some (.inr (x2)))
  else
  ((sn_it (LX8_web_29 σ x2 x3) 5000 (x2, (0 : Int32))).bind fun t_2 => (BX8_web_70 σ x2 x3 t_2)))
def LX8_web_17 (σ : sn_S) (s : Int32 × Int32) : Option ((Int32 × Int32) ⊕ (Int32)) := BX8_web_17 σ s.1 s.2
def fX8_web (σ : sn_S) (x1 : Int32) : Option Int32 :=
  ((fX8_isPerson σ x1).bind fun t_1 => (if t_1 = 0 then
  (some (-2 : Int32))
  else
  (sn_lt ((1 : Int32) <<< (x1 &&& 31)) fun y_4 => ((sn_it (LX8_web_17 σ) 5000 (y_4, (1 : Int32))).bind fun t_6 => (BX8_web_79 σ t_6)))))
theorem wX8_web_79 (C : sn_C p s m args meth c RX8 cX8_web 6 (some .int) D ct ad layC A) {σ : sn_S} {x2 : Int32}  {o : Int32} (hf : BX8_web_79 σ x2 = some o) (kr : sn_Kr p l e rmX8_web s m args below meth c Q D ct ad layC A cX8_web .ireturn (true) σ [.int o]) : sn_At p l e rmX8_web s m args below meth c Q D ct ad layC A 6 σ 79 [(2, .int x2)] [] := by
  intro H locs ls hw hl
  have hx := C.1
  have hb := C.2.1
  unfold BX8_web_79 at hf
  refine lv_iload_n hx hb dX8_web_79 rfl (lv_at hl 0 rfl) ?_
  cases hf
  exact kr _ _ _ _ hw rfl dX8_web_80
theorem wX8_web_70 (C : sn_C p s m args meth c RX8 cX8_web 6 (some .int) D ct ad layC A) {σ : sn_S} {x2 : Int32} {x3 : Int32} {x4 : Int32}  {o : (Int32 × Int32) ⊕ (Int32)} (hf : BX8_web_70 σ x2 x3 x4 = some o) (kc : ∀ v, o = .inl v → sn_At p l e rmX8_web s m args below meth c Q D ct ad layC A 6 σ 17 [(0, .ref (ad 0)), (2, .int v.1), (3, .int v.2)] []) (kx : ∀ v, o = .inr v → sn_At p l e rmX8_web s m args below meth c Q D ct ad layC A 6 σ 79 [(2, .int v)] []) : sn_At p l e rmX8_web s m args below meth c Q D ct ad layC A 6 σ 70 [(0, .ref (ad 0)), (2, .int x2), (3, .int x3), (4, .int x4)] [] := by
  intro H locs ls hw hl
  have hx := C.1
  have hb := C.2.1
  unfold BX8_web_70 at hf
  refine lv_iload hx hb dX8_web_70 (lv_at hl 3 rfl) ?_
  refine lv_istore_n (lv' := [(2, .int x4), (0, .ref (ad 0)), (3, .int x3), (4, .int x4)]) hx hb dX8_web_72 rfl hl (by decide) rfl (fun ls hl => ?_)
  obtain ⟨y_1, e_2, hf⟩ := sn_ltE hf
  refine lv_iinc (v := y_1) (lv' := [(3, .int y_1), (2, .int x4), (0, .ref (ad 0)), (4, .int x4)]) hx hb dX8_web_73 hl (k := 2) rfl (by rw [e_2]; rfl) (by decide) rfl (fun ls hl => ?_)
  refine lv_goto (tgt := 17) hx hb dX8_web_76 (by decide) ?_
  cases hf
  exact kc _ rfl _ _ _ hw (lv_sub hl [2, 1, 0] rfl)
theorem wX8_web_64 (C : sn_C p s m args meth c RX8 cX8_web 6 (some .int) D ct ad layC A) {σ : sn_S} {x2 : Int32} {x3 : Int32} {x4 : Int32} {x5 : Int32}  {o : (Int32 × Int32) ⊕ (Int32)} (hf : BX8_web_64 σ x2 x3 x4 x5 = some o) (kc : ∀ v, o = .inl v → sn_At p l e rmX8_web s m args below meth c Q D ct ad layC A 6 σ 29 [(0, .ref (ad 0)), (2, .int x2), (3, .int x3), (4, .int v.1), (5, .int v.2)] []) (kx : ∀ v, o = .inr v → sn_At p l e rmX8_web s m args below meth c Q D ct ad layC A 6 σ 70 [(0, .ref (ad 0)), (2, .int x2), (3, .int x3), (4, .int v)] []) : sn_At p l e rmX8_web s m args below meth c Q D ct ad layC A 6 σ 64 [(0, .ref (ad 0)), (2, .int x2), (3, .int x3), (4, .int x4), (5, .int x5)] [] := by
  intro H locs ls hw hl
  have hx := C.1
  have hb := C.2.1
  unfold BX8_web_64 at hf
  obtain ⟨y_1, e_2, hf⟩ := sn_ltE hf
  refine lv_iinc (v := y_1) (lv' := [(5, .int y_1), (0, .ref (ad 0)), (2, .int x2), (3, .int x3), (4, .int x4)]) hx hb dX8_web_64 hl (k := 4) rfl (by rw [e_2]; rfl) (by decide) rfl (fun ls hl => ?_)
  refine lv_goto (tgt := 29) hx hb dX8_web_67 (by decide) ?_
  cases hf
  exact kc _ rfl _ _ _ hw (lv_sub hl [1, 2, 3, 4, 0] rfl)
theorem wX8_web_29 (C : sn_C p s m args meth c RX8 cX8_web 6 (some .int) D ct ad layC A) {σ : sn_S} {x2 : Int32} {x3 : Int32} {x4 : Int32} {x5 : Int32}  {o : (Int32 × Int32) ⊕ (Int32)} (hf : BX8_web_29 σ x2 x3 x4 x5 = some o) (kc : ∀ v, o = .inl v → sn_At p l e rmX8_web s m args below meth c Q D ct ad layC A 6 σ 29 [(0, .ref (ad 0)), (2, .int x2), (3, .int x3), (4, .int v.1), (5, .int v.2)] []) (kx : ∀ v, o = .inr v → sn_At p l e rmX8_web s m args below meth c Q D ct ad layC A 6 σ 70 [(0, .ref (ad 0)), (2, .int x2), (3, .int x3), (4, .int v)] []) : sn_At p l e rmX8_web s m args below meth c Q D ct ad layC A 6 σ 29 [(0, .ref (ad 0)), (2, .int x2), (3, .int x3), (4, .int x4), (5, .int x5)] [] := by
  intro H locs ls hw hl
  have hx := C.1
  have hb := C.2.1
  unfold BX8_web_29 at hf
  refine lv_iload hx hb dX8_web_29 (lv_at hl 4 rfl) ?_
  refine lv_aload_n hx hb dX8_web_31 rfl (lv_at hl 0 rfl) ?_
  refine sn_getC (r := 27) C hw fd_RX8_44 layC_0 rfl dX8_web_32 ?_
  refine sn_getI C hw fd_RX8_162 (sn_look sn_isX0_27 (k := 0) rfl) rfl dX8_web_35 ?_
  refine lv_icmp_ge (tgt := 70) hx hb dX8_web_38 (by decide) (fun c_1 => ?_) (fun c_1 => ?_)
  · have hf := sn_if c_1 hf
    cases hf
    exact kx _ rfl _ _ _ hw (lv_sub hl [0, 1, 2, 3] rfl)
  · have hf := sn_el c_1 hf
    refine lv_iload_n hx hb dX8_web_41 rfl (lv_at hl 1 rfl) ?_
    refine lv_iload hx hb dX8_web_42 (lv_at hl 4 rfl) ?_
    obtain ⟨t_2, h_3, hf⟩ := sn_bd hf
    refine sn_callSi (rest := []) C hw (ctX8_hasBit l  h_3) kl_RX8_170 rfl rfl rfl (Nat.le_of_ble_eq_true rfl) dX8_web_44 hl.1 (fun H locs hw => ?_)
    refine lv_if_eq (tgt := 64) hx hb dX8_web_47 (by decide) (fun c_4 => ?_) (fun c_4 => ?_)
    · have hf := sn_if c_4 hf
      exact wX8_web_64 C  hf kc kx _ _ _ hw (lv_sub hl [0, 1, 2, 3, 4] rfl)
    · have hf := sn_el c_4 hf
      refine lv_iload hx hb dX8_web_50 (lv_at hl 3 rfl) ?_
      refine lv_aload_n hx hb dX8_web_52 rfl (lv_at hl 0 rfl) ?_
      refine sn_getC (r := 1) C hw fd_RX8_10 layC_0 rfl dX8_web_53 ?_
      refine lv_iload hx hb dX8_web_56 (lv_at hl 4 rfl) ?_
      obtain ⟨t_5, h_6, hf⟩ := sn_bd hf
      refine sn_callVi (rest := [.int x4]) C hw (ctX2_neighbours l sn_isX2_1 h_6) kl_RX8_121 (sn_look sn_isX2_1 (k := 0) rfl) rfl rfl rfl rfl (Nat.le_of_ble_eq_true rfl) dX8_web_58 hl.1 (fun H locs hw => ?_)
      refine lv_ior hx hb dX8_web_61 ?_
      obtain ⟨y_7, e_8, hf⟩ := sn_ltE hf
      refine lv_topi (fun y_7_ e_8_ => ?_)
      obtain rfl : y_7 = y_7_ := e_8.trans e_8_.symm
      refine lv_istore (lv' := [(4, .int y_7), (0, .ref (ad 0)), (2, .int x2), (3, .int x3), (5, .int x5)]) hx hb dX8_web_62 hl (by decide) rfl (fun ls hl => ?_)
      exact wX8_web_64 C  hf kc kx _ _ _ hw (lv_sub hl [1, 2, 3, 0, 4] rfl)
theorem wX8_web_L29 (C : sn_C p s m args meth c RX8 cX8_web 6 (some .int) D ct ad layC A) {σ : sn_S} {x2 : Int32} {x3 : Int32}   {z : Int32 × Int32} {t : Int32} (h : sn_it (LX8_web_29 σ x2 x3) 5000 z = some t) (kx : ∀ v, t = v → sn_At p l e rmX8_web s m args below meth c Q D ct ad layC A 6 σ 70 [(0, .ref (ad 0)), (2, .int x2), (3, .int x3), (4, .int v)] []) : sn_At p l e rmX8_web s m args below meth c Q D ct ad layC A 6 σ 29 [(0, .ref (ad 0)), (2, .int x2), (3, .int x3), (4, .int z.1), (5, .int z.2)] [] :=
  sn_loop (f := LX8_web_29 σ x2 x3) (G := fun z => sn_At p l e rmX8_web s m args below meth c Q D ct ad layC A 6 σ 29 [(0, .ref (ad 0)), (2, .int x2), (3, .int x3), (4, .int z.1), (5, .int z.2)] []) (E := fun t => (∀ v, t = v → sn_At p l e rmX8_web s m args below meth c Q D ct ad layC A 6 σ 70 [(0, .ref (ad 0)), (2, .int x2), (3, .int x3), (4, .int v)] []) ∧ True) (fun z o hf k1 k2 => wX8_web_29 C  hf (fun v e => k1 v e) (fun v e => (k2 _ e).1 v rfl)) 5000 z t h ⟨kx, trivial⟩
theorem wX8_web_17 (C : sn_C p s m args meth c RX8 cX8_web 6 (some .int) D ct ad layC A) {σ : sn_S} {x2 : Int32} {x3 : Int32}  {o : (Int32 × Int32) ⊕ (Int32)} (hf : BX8_web_17 σ x2 x3 = some o) (kc : ∀ v, o = .inl v → sn_At p l e rmX8_web s m args below meth c Q D ct ad layC A 6 σ 17 [(0, .ref (ad 0)), (2, .int v.1), (3, .int v.2)] []) (kx : ∀ v, o = .inr v → sn_At p l e rmX8_web s m args below meth c Q D ct ad layC A 6 σ 79 [(2, .int v)] []) : sn_At p l e rmX8_web s m args below meth c Q D ct ad layC A 6 σ 17 [(0, .ref (ad 0)), (2, .int x2), (3, .int x3)] [] := by
  intro H locs ls hw hl
  have hx := C.1
  have hb := C.2.1
  unfold BX8_web_17 at hf
  refine lv_iload_n hx hb dX8_web_17 rfl (lv_at hl 2 rfl) ?_
  refine lv_bipush (v := 6) hx hb dX8_web_18 (by decide) ?_
  refine lv_icmp_ge (tgt := 79) hx hb dX8_web_20 (by decide) (fun c_1 => ?_) (fun c_1 => ?_)
  · have hf := sn_if c_1 hf
    cases hf
    exact kx _ rfl _ _ _ hw (lv_sub hl [1] rfl)
  · have hf := sn_el c_1 hf
    refine lv_iload_n hx hb dX8_web_23 rfl (lv_at hl 1 rfl) ?_
    refine lv_istore (lv' := [(4, .int x2), (0, .ref (ad 0)), (2, .int x2), (3, .int x3)]) hx hb dX8_web_24 hl (by decide) rfl (fun ls hl => ?_)
    refine lv_iconst (v := 0) hx hb dX8_web_26 rfl ?_
    refine lv_istore (lv' := [(5, .int (0 : Int32)), (4, .int x2), (0, .ref (ad 0)), (2, .int x2), (3, .int x3)]) hx hb dX8_web_27 hl (by decide) rfl (fun ls hl => ?_)
    obtain ⟨t_2, h_3, hf⟩ := sn_bd hf
    exact wX8_web_L29 C  h_3 (fun v e => by cases e; exact wX8_web_70 C  hf kc kx) _ _ _ hw (lv_sub hl [2, 3, 4, 1, 0] rfl)
theorem wX8_web_L17 (C : sn_C p s m args meth c RX8 cX8_web 6 (some .int) D ct ad layC A) {σ : sn_S}   {z : Int32 × Int32} {t : Int32} (h : sn_it (LX8_web_17 σ) 5000 z = some t) (kx : ∀ v, t = v → sn_At p l e rmX8_web s m args below meth c Q D ct ad layC A 6 σ 79 [(2, .int v)] []) : sn_At p l e rmX8_web s m args below meth c Q D ct ad layC A 6 σ 17 [(0, .ref (ad 0)), (2, .int z.1), (3, .int z.2)] [] :=
  sn_loop (f := LX8_web_17 σ) (G := fun z => sn_At p l e rmX8_web s m args below meth c Q D ct ad layC A 6 σ 17 [(0, .ref (ad 0)), (2, .int z.1), (3, .int z.2)] []) (E := fun t => (∀ v, t = v → sn_At p l e rmX8_web s m args below meth c Q D ct ad layC A 6 σ 79 [(2, .int v)] []) ∧ True) (fun z o hf k1 k2 => wX8_web_17 C  hf (fun v e => k1 v e) (fun v e => (k2 _ e).1 v rfl)) 5000 z t h ⟨kx, trivial⟩
theorem wX8_web_in (C : sn_C p s m args meth c RX8 cX8_web 6 (some .int) D ct ad layC A) {σ : sn_S} {x1 : Int32}  {o : Int32} (hf : fX8_web σ x1 = some o) (kr : sn_Kr p l e rmX8_web s m args below meth c Q D ct ad layC A cX8_web .ireturn (true) σ [.int o]) : sn_At p l e rmX8_web s m args below meth c Q D ct ad layC A 6 σ 0 [(0, .ref (ad 0)), (1, .int x1)] [] := by
  intro H locs ls hw hl
  have hx := C.1
  have hb := C.2.1
  unfold fX8_web at hf
  refine lv_aload_n hx hb dX8_web_0 rfl (lv_at hl 0 rfl) ?_
  refine lv_iload_n hx hb dX8_web_1 rfl (lv_at hl 1 rfl) ?_
  obtain ⟨t_1, h_2, hf⟩ := sn_bd hf
  refine sn_callVi (rest := []) C hw (ctX8_isPerson l  h_2) kl_RX8_107 layC_0 rfl rfl rfl rfl (Nat.le_of_ble_eq_true rfl) dX8_web_2 hl.1 (fun H locs hw => ?_)
  refine lv_if_ne (tgt := 11) hx hb dX8_web_5 (by decide) (fun c_3 => ?_) (fun c_3 => ?_)
  · have hf := sn_el c_3 hf
    refine lv_iconst (v := 1) hx hb dX8_web_11 rfl ?_
    refine lv_iload_n hx hb dX8_web_12 rfl (lv_at hl 1 rfl) ?_
    refine lv_ishl hx hb dX8_web_13 ?_
    obtain ⟨y_4, e_5, hf⟩ := sn_ltE hf
    refine lv_topi (fun y_4_ e_5_ => ?_)
    obtain rfl : y_4 = y_4_ := e_5.trans e_5_.symm
    refine lv_istore_n (lv' := [(2, .int y_4), (0, .ref (ad 0)), (1, .int x1)]) hx hb dX8_web_14 rfl hl (by decide) rfl (fun ls hl => ?_)
    refine lv_iconst (v := 1) hx hb dX8_web_15 rfl ?_
    refine lv_istore_n (lv' := [(3, .int (1 : Int32)), (2, .int y_4), (0, .ref (ad 0)), (1, .int x1)]) hx hb dX8_web_16 rfl hl (by decide) rfl (fun ls hl => ?_)
    obtain ⟨t_6, h_7, hf⟩ := sn_bd hf
    exact wX8_web_L17 C  h_7 (fun v e => by cases e; exact wX8_web_79 C  hf kr) _ _ _ hw (lv_sub hl [2, 1, 0] rfl)
  · have hf := sn_if c_3 hf
    refine lv_bipush (v := (-2)) hx hb dX8_web_8 (by decide) ?_
    cases hf
    exact kr _ _ _ _ hw rfl dX8_web_10
theorem ctX8_web (l : Launch) {σ : sn_S} {x1 : Int32}  {o : Int32} (hf : fX8_web σ x1 = some o) : sn_M l yX8_web cX8_web 6 (some .int) rmX8_web layC (fun ad => [.ref (ad 0), .int x1]) σ (some (fun _ => .int o)) σ :=
  sn_met (by decide) (fun _ => Nat.le_of_ble_eq_true rfl) (fun p e s m args below meth c ls D ct ad A C hw hl => wX8_web_in C  hf (fun H locs ls pc hw ok hd => sn_iret C hw hd) _ _ _ hw hl)
-- X8_isNet
abbrev rmX8_isNet : Room := { frames := 0, cells := 0, slots := 0, locals := 0 }
def fX8_isNet (σ : sn_S) (x1 : Int32) : Option Int32 :=
  (if x1 < 0 then
  (sn_gd (sn_b01 (0 : Int32)) (some (0 : Int32)))
  else
  (sn_gd (sn_in (7 : Int32) 11) (if (sn_I σ (1 + 1) (7 : Int32).toNatClampNeg) ≤ x1 then
  (sn_gd (sn_b01 (0 : Int32)) (some (0 : Int32)))
  else
  (sn_gd (sn_b01 (1 : Int32)) (some (1 : Int32))))))
theorem wX8_isNet_in (C : sn_C p s m args meth c RX8 cX8_isNet 2 (some .boolean) D ct ad layC A) {σ : sn_S} {x1 : Int32}  {o : Int32} (hf : fX8_isNet σ x1 = some o) (kr : sn_Kr p l e rmX8_isNet s m args below meth c Q D ct ad layC A cX8_isNet .ireturn (sn_b01 o) σ [.int o]) : sn_At p l e rmX8_isNet s m args below meth c Q D ct ad layC A 2 σ 0 [(0, .ref (ad 0)), (1, .int x1)] [] := by
  intro H locs ls hw hl
  have hx := C.1
  have hb := C.2.1
  unfold fX8_isNet at hf
  refine lv_iload_n hx hb dX8_isNet_0 rfl (lv_at hl 1 rfl) ?_
  refine lv_if_lt (tgt := 22) hx hb dX8_isNet_1 (by decide) (fun c_1 => ?_) (fun c_1 => ?_)
  · have hf := sn_if c_1 hf
    refine lv_iconst (v := 0) hx hb dX8_isNet_22 rfl ?_
    obtain ⟨g_2, hf⟩ := sn_gdE hf
    cases hf
    exact kr _ _ _ _ hw g_2 dX8_isNet_23
  · have hf := sn_el c_1 hf
    refine lv_iload_n hx hb dX8_isNet_4 rfl (lv_at hl 1 rfl) ?_
    refine lv_aload_n hx hb dX8_isNet_5 rfl (lv_at hl 0 rfl) ?_
    refine sn_getC (r := 1) C hw fd_RX8_10 layC_0 rfl dX8_isNet_6 ?_
    refine sn_getC (r := (1 + 1)) C hw fd_RX8_100 (sn_look sn_isX2_1 (k := 0) rfl) rfl dX8_isNet_9 ?_
    refine lv_bipush (v := 7) hx hb dX8_isNet_12 (by decide) ?_
    obtain ⟨g_3, hf⟩ := sn_gdE hf
    refine sn_iald C hw (sn_look sn_isX2_1 (k := 1) rfl) g_3 dX8_isNet_14 ?_
    refine lv_icmp_ge (tgt := 22) hx hb dX8_isNet_15 (by decide) (fun c_4 => ?_) (fun c_4 => ?_)
    · have hf := sn_if c_4 hf
      refine lv_iconst (v := 0) hx hb dX8_isNet_22 rfl ?_
      obtain ⟨g_5, hf⟩ := sn_gdE hf
      cases hf
      exact kr _ _ _ _ hw g_5 dX8_isNet_23
    · have hf := sn_el c_4 hf
      refine lv_iconst (v := 1) hx hb dX8_isNet_18 rfl ?_
      refine lv_goto (tgt := 23) hx hb dX8_isNet_19 (by decide) ?_
      obtain ⟨g_6, hf⟩ := sn_gdE hf
      cases hf
      exact kr _ _ _ _ hw g_6 dX8_isNet_23
theorem ctX8_isNet (l : Launch) {σ : sn_S} {x1 : Int32}  {o : Int32} (hf : fX8_isNet σ x1 = some o) : sn_M l yX8_isNet cX8_isNet 2 (some .boolean) rmX8_isNet layC (fun ad => [.ref (ad 0), .int x1]) σ (some (fun _ => .int o)) σ :=
  sn_met (by decide) (fun _ => Nat.le_of_ble_eq_true rfl) (fun p e s m args below meth c ls D ct ad A C hw hl => wX8_isNet_in C  hf (fun H locs ls pc hw ok hd => sn_zret C hw ok hd) _ _ _ hw hl)
-- X8_totalWithout
abbrev rmX8_totalWithout : Room := { frames := 5, cells := 0, slots := 0, locals := 113 }
def fX8_totalWithout (σ : sn_S) (x1 : Int32) : Option (Int32 × sn_S) :=
  ((fX0_copyFrom σ 38 27).bind fun t_1 => (sn_lt (sn_pI t_1 38 3 x1) fun σ_3 => ((fX0_liveWhole σ_3 38).bind fun t_5 => ((fX0_total t_5 38).bind fun t_7 => (some (t_7, t_5))))))
theorem wX8_totalWithout_in (C : sn_C p s m args meth c RX8 cX8_totalWithout 2 (some .int) D ct ad layC A) {σ : sn_S} {x1 : Int32}  {o : (Int32 × sn_S)} (hf : fX8_totalWithout σ x1 = some o) (kr : sn_Kr p l e rmX8_totalWithout s m args below meth c Q D ct ad layC A cX8_totalWithout .ireturn (true) o.2 [.int o.1]) : sn_At p l e rmX8_totalWithout s m args below meth c Q D ct ad layC A 2 σ 0 [(0, .ref (ad 0)), (1, .int x1)] [] := by
  intro H locs ls hw hl
  have hx := C.1
  have hb := C.2.1
  unfold fX8_totalWithout at hf
  refine lv_aload_n hx hb dX8_totalWithout_0 rfl (lv_at hl 0 rfl) ?_
  refine sn_getC (r := 38) C hw fd_RX8_48 layC_0 rfl dX8_totalWithout_1 ?_
  refine lv_aload_n hx hb dX8_totalWithout_4 rfl (lv_at hl 0 rfl) ?_
  refine sn_getC (r := 27) C hw fd_RX8_44 layC_0 rfl dX8_totalWithout_5 ?_
  obtain ⟨t_1, h_2, hf⟩ := sn_bd hf
  refine sn_callVv (rest := []) C hw (ctX0_copyFrom l sn_isX0_38 sn_isX0_27 h_2) kl_RX8_183 (sn_look sn_isX0_38 (k := 0) rfl) rfl rfl rfl rfl (Nat.le_of_ble_eq_true rfl) dX8_totalWithout_8 hl.1 (fun H locs hw => ?_)
  refine lv_aload_n hx hb dX8_totalWithout_11 rfl (lv_at hl 0 rfl) ?_
  refine sn_getC (r := 38) C hw fd_RX8_48 layC_0 rfl dX8_totalWithout_12 ?_
  refine lv_iload_n hx hb dX8_totalWithout_15 rfl (lv_at hl 1 rfl) ?_
  refine sn_putI C hw fp_RX8_205 (sn_look sn_isX0_38 (k := 0) rfl) rfl dX8_totalWithout_16 (fun H locs hw => ?_)
  obtain ⟨σ_3, e_4, hf⟩ := sn_ltE hf
  rw [← e_4] at hw
  refine lv_aload_n hx hb dX8_totalWithout_19 rfl (lv_at hl 0 rfl) ?_
  refine sn_getC (r := 38) C hw fd_RX8_48 layC_0 rfl dX8_totalWithout_20 ?_
  obtain ⟨t_5, h_6, hf⟩ := sn_bd hf
  refine sn_callVv (rest := []) C hw (ctX0_liveWhole l sn_isX0_38 h_6) kl_RX8_189 (sn_look sn_isX0_38 (k := 0) rfl) rfl rfl rfl rfl (Nat.le_of_ble_eq_true rfl) dX8_totalWithout_23 hl.1 (fun H locs hw => ?_)
  refine lv_aload_n hx hb dX8_totalWithout_26 rfl (lv_at hl 0 rfl) ?_
  refine sn_getC (r := 38) C hw fd_RX8_48 layC_0 rfl dX8_totalWithout_27 ?_
  obtain ⟨t_7, h_8, hf⟩ := sn_bd hf
  refine sn_callVi (rest := []) C hw (ctX0_total l sn_isX0_38 h_8) kl_RX8_141 (sn_look sn_isX0_38 (k := 0) rfl) rfl rfl rfl rfl (Nat.le_of_ble_eq_true rfl) dX8_totalWithout_30 hl.1 (fun H locs hw => ?_)
  cases hf
  exact kr _ _ _ _ hw rfl dX8_totalWithout_33
theorem ctX8_totalWithout (l : Launch) {σ : sn_S} {x1 : Int32}  {o : (Int32 × sn_S)} (hf : fX8_totalWithout σ x1 = some o) : sn_M l yX8_totalWithout cX8_totalWithout 2 (some .int) rmX8_totalWithout layC (fun ad => [.ref (ad 0), .int x1]) σ (some (fun _ => .int o.1)) o.2 :=
  sn_met (by decide) (fun _ => Nat.le_of_ble_eq_true rfl) (fun p e s m args below meth c ls D ct ad A C hw hl => wX8_totalWithout_in C  hf (fun H locs ls pc hw ok hd => sn_iret C hw hd) _ _ _ hw hl)
-- X8_cut
abbrev rmX8_cut : Room := { frames := 6, cells := 0, slots := 0, locals := 134 }
def fX8_cut (σ : sn_S) (x1 : Int32) : Option (Int32 × sn_S) :=
  ((fX8_isNet σ x1).bind fun t_1 => (if t_1 = 0 then
  (some ((-2 : Int32), σ))
  else
  ((fX8_totalWithout σ x1).bind fun t_4 => (some (t_4.1, t_4.2)))))
theorem wX8_cut_in (C : sn_C p s m args meth c RX8 cX8_cut 2 (some .int) D ct ad layC A) {σ : sn_S} {x1 : Int32}  {o : (Int32 × sn_S)} (hf : fX8_cut σ x1 = some o) (kr : sn_Kr p l e rmX8_cut s m args below meth c Q D ct ad layC A cX8_cut .ireturn (true) o.2 [.int o.1]) : sn_At p l e rmX8_cut s m args below meth c Q D ct ad layC A 2 σ 0 [(0, .ref (ad 0)), (1, .int x1)] [] := by
  intro H locs ls hw hl
  have hx := C.1
  have hb := C.2.1
  unfold fX8_cut at hf
  refine lv_aload_n hx hb dX8_cut_0 rfl (lv_at hl 0 rfl) ?_
  refine lv_iload_n hx hb dX8_cut_1 rfl (lv_at hl 1 rfl) ?_
  obtain ⟨t_1, h_2, hf⟩ := sn_bd hf
  refine sn_callVi (rest := []) C hw (ctX8_isNet l  h_2) kl_RX8_199 layC_0 rfl rfl rfl rfl (Nat.le_of_ble_eq_true rfl) dX8_cut_2 hl.1 (fun H locs hw => ?_)
  refine lv_if_eq (tgt := 16) hx hb dX8_cut_5 (by decide) (fun c_3 => ?_) (fun c_3 => ?_)
  · have hf := sn_if c_3 hf
    refine lv_bipush (v := (-2)) hx hb dX8_cut_16 (by decide) ?_
    cases hf
    exact kr _ _ _ _ hw rfl dX8_cut_18
  · have hf := sn_el c_3 hf
    refine lv_aload_n hx hb dX8_cut_8 rfl (lv_at hl 0 rfl) ?_
    refine lv_iload_n hx hb dX8_cut_9 rfl (lv_at hl 1 rfl) ?_
    obtain ⟨t_4, h_5, hf⟩ := sn_bd hf
    refine sn_callVi (rest := []) C hw (ctX8_totalWithout l  h_5) kl_RX8_202 layC_0 rfl rfl rfl rfl (Nat.le_of_ble_eq_true rfl) dX8_cut_10 hl.1 (fun H locs hw => ?_)
    refine lv_goto (tgt := 18) hx hb dX8_cut_13 (by decide) ?_
    cases hf
    exact kr _ _ _ _ hw rfl dX8_cut_18
theorem ctX8_cut (l : Launch) {σ : sn_S} {x1 : Int32}  {o : (Int32 × sn_S)} (hf : fX8_cut σ x1 = some o) : sn_M l yX8_cut cX8_cut 2 (some .int) rmX8_cut layC (fun ad => [.ref (ad 0), .int x1]) σ (some (fun _ => .int o.1)) o.2 :=
  sn_met (by decide) (fun _ => Nat.le_of_ble_eq_true rfl) (fun p e s m args below meth c ls D ct ad A C hw hl => wX8_cut_in C  hf (fun H locs ls pc hw ok hd => sn_iret C hw hd) _ _ _ hw hl)
-- X8_cuts
abbrev rmX8_cuts : Room := { frames := 6, cells := 0, slots := 0, locals := 134 }
def BX8_cuts_60 (σ : sn_S) (x1 : Int32) : Option ((Int32 × sn_S)) :=
  (some (x1, σ))
def BX8_cuts_54 (σ : sn_S) (x1 : Int32) (x2 : Int32) (x3 : Int32) : Option ((sn_S × Int32 × Int32 × Int32) ⊕ (sn_S × Int32)) :=
  (sn_lt (x3 + 1) fun y_1 => (some (.inl (σ, x1, x2, y_1))))
def BX8_cuts_22 (σ : sn_S) (x1 : Int32) (x2 : Int32) (x3 : Int32) : Option ((sn_S × Int32 × Int32 × Int32) ⊕ (sn_S × Int32)) :=
  (sn_gd (sn_in (7 : Int32) 11) (if (sn_I σ (1 + 1) (7 : Int32).toNatClampNeg) ≤ x3 then
  (some (.inr (σ, x1)))
  else
  ((fX8_totalWithout σ x3).bind fun t_3 => (if x2 ≤ t_3.1 then
  (BX8_cuts_54 t_3.2 x1 x2 x3)
  else
  (BX8_cuts_54 t_3.2 x3 t_3.1 x3)))))
def LX8_cuts_22  (s : sn_S × Int32 × Int32 × Int32) : Option ((sn_S × Int32 × Int32 × Int32) ⊕ (sn_S × Int32)) := BX8_cuts_22 s.1 s.2.1 s.2.2.1 s.2.2.2
def fX8_cuts (σ : sn_S) : Option (Int32 × sn_S) :=
  ((fX8_isHouse σ).bind fun t_1 => (if t_1 = 0 then
  (some ((-2 : Int32), σ))
  else
  ((fX0_total σ 27).bind fun t_4 => ((sn_it (LX8_cuts_22 ) 5000 (σ, (-1 : Int32), t_4, (0 : Int32))).bind fun t_6 => (BX8_cuts_60 t_6.1 t_6.2)))))
theorem wX8_cuts_60 (C : sn_C p s m args meth c RX8 cX8_cuts 5 (some .int) D ct ad layC A) {σ : sn_S} {x1 : Int32}  {o : (Int32 × sn_S)} (hf : BX8_cuts_60 σ x1 = some o) (kr : sn_Kr p l e rmX8_cuts s m args below meth c Q D ct ad layC A cX8_cuts .ireturn (true) o.2 [.int o.1]) : sn_At p l e rmX8_cuts s m args below meth c Q D ct ad layC A 5 σ 60 [(1, .int x1)] [] := by
  intro H locs ls hw hl
  have hx := C.1
  have hb := C.2.1
  unfold BX8_cuts_60 at hf
  refine lv_iload_n hx hb dX8_cuts_60 rfl (lv_at hl 0 rfl) ?_
  cases hf
  exact kr _ _ _ _ hw rfl dX8_cuts_61
theorem wX8_cuts_54 (C : sn_C p s m args meth c RX8 cX8_cuts 5 (some .int) D ct ad layC A) {σ : sn_S} {x1 : Int32} {x2 : Int32} {x3 : Int32}  {o : (sn_S × Int32 × Int32 × Int32) ⊕ (sn_S × Int32)} (hf : BX8_cuts_54 σ x1 x2 x3 = some o) (kc : ∀ v, o = .inl v → sn_At p l e rmX8_cuts s m args below meth c Q D ct ad layC A 5 v.1 22 [(0, .ref (ad 0)), (1, .int v.2.1), (2, .int v.2.2.1), (3, .int v.2.2.2)] []) (kx : ∀ v, o = .inr v → sn_At p l e rmX8_cuts s m args below meth c Q D ct ad layC A 5 v.1 60 [(1, .int v.2)] []) : sn_At p l e rmX8_cuts s m args below meth c Q D ct ad layC A 5 σ 54 [(0, .ref (ad 0)), (1, .int x1), (2, .int x2), (3, .int x3)] [] := by
  intro H locs ls hw hl
  have hx := C.1
  have hb := C.2.1
  unfold BX8_cuts_54 at hf
  obtain ⟨y_1, e_2, hf⟩ := sn_ltE hf
  refine lv_iinc (v := y_1) (lv' := [(3, .int y_1), (0, .ref (ad 0)), (1, .int x1), (2, .int x2)]) hx hb dX8_cuts_54 hl (k := 3) rfl (by rw [e_2]; rfl) (by decide) rfl (fun ls hl => ?_)
  refine lv_goto (tgt := 22) hx hb dX8_cuts_57 (by decide) ?_
  cases hf
  exact kc _ rfl _ _ _ hw (lv_sub hl [1, 2, 3, 0] rfl)
theorem wX8_cuts_22 (C : sn_C p s m args meth c RX8 cX8_cuts 5 (some .int) D ct ad layC A) {σ : sn_S} {x1 : Int32} {x2 : Int32} {x3 : Int32}  {o : (sn_S × Int32 × Int32 × Int32) ⊕ (sn_S × Int32)} (hf : BX8_cuts_22 σ x1 x2 x3 = some o) (kc : ∀ v, o = .inl v → sn_At p l e rmX8_cuts s m args below meth c Q D ct ad layC A 5 v.1 22 [(0, .ref (ad 0)), (1, .int v.2.1), (2, .int v.2.2.1), (3, .int v.2.2.2)] []) (kx : ∀ v, o = .inr v → sn_At p l e rmX8_cuts s m args below meth c Q D ct ad layC A 5 v.1 60 [(1, .int v.2)] []) : sn_At p l e rmX8_cuts s m args below meth c Q D ct ad layC A 5 σ 22 [(0, .ref (ad 0)), (1, .int x1), (2, .int x2), (3, .int x3)] [] := by
  intro H locs ls hw hl
  have hx := C.1
  have hb := C.2.1
  unfold BX8_cuts_22 at hf
  refine lv_iload_n hx hb dX8_cuts_22 rfl (lv_at hl 3 rfl) ?_
  refine lv_aload_n hx hb dX8_cuts_23 rfl (lv_at hl 0 rfl) ?_
  refine sn_getC (r := 1) C hw fd_RX8_10 layC_0 rfl dX8_cuts_24 ?_
  refine sn_getC (r := (1 + 1)) C hw fd_RX8_100 (sn_look sn_isX2_1 (k := 0) rfl) rfl dX8_cuts_27 ?_
  refine lv_bipush (v := 7) hx hb dX8_cuts_30 (by decide) ?_
  obtain ⟨g_1, hf⟩ := sn_gdE hf
  refine sn_iald C hw (sn_look sn_isX2_1 (k := 1) rfl) g_1 dX8_cuts_32 ?_
  refine lv_icmp_ge (tgt := 60) hx hb dX8_cuts_33 (by decide) (fun c_2 => ?_) (fun c_2 => ?_)
  · have hf := sn_if c_2 hf
    cases hf
    exact kx _ rfl _ _ _ hw (lv_sub hl [1] rfl)
  · have hf := sn_el c_2 hf
    refine lv_aload_n hx hb dX8_cuts_36 rfl (lv_at hl 0 rfl) ?_
    refine lv_iload_n hx hb dX8_cuts_37 rfl (lv_at hl 3 rfl) ?_
    obtain ⟨t_3, h_4, hf⟩ := sn_bd hf
    refine sn_callVi (rest := []) C hw (ctX8_totalWithout l  h_4) kl_RX8_202 layC_0 rfl rfl rfl rfl (Nat.le_of_ble_eq_true rfl) dX8_cuts_38 hl.1 (fun H locs hw => ?_)
    refine lv_istore (lv' := [(4, .int t_3.1), (0, .ref (ad 0)), (1, .int x1), (2, .int x2), (3, .int x3)]) hx hb dX8_cuts_41 hl (by decide) rfl (fun ls hl => ?_)
    refine lv_iload hx hb dX8_cuts_43 (lv_at hl 0 rfl) ?_
    refine lv_iload_n hx hb dX8_cuts_45 rfl (lv_at hl 3 rfl) ?_
    refine lv_icmp_ge (tgt := 54) hx hb dX8_cuts_46 (by decide) (fun c_5 => ?_) (fun c_5 => ?_)
    · have hf := sn_if c_5 hf
      exact wX8_cuts_54 C  hf kc kx _ _ _ hw (lv_sub hl [1, 2, 3, 4] rfl)
    · have hf := sn_el c_5 hf
      refine lv_iload hx hb dX8_cuts_49 (lv_at hl 0 rfl) ?_
      refine lv_istore_n (lv' := [(2, .int t_3.1), (4, .int t_3.1), (0, .ref (ad 0)), (1, .int x1), (3, .int x3)]) hx hb dX8_cuts_51 rfl hl (by decide) rfl (fun ls hl => ?_)
      refine lv_iload_n hx hb dX8_cuts_52 rfl (lv_at hl 4 rfl) ?_
      refine lv_istore_n (lv' := [(1, .int x3), (2, .int t_3.1), (4, .int t_3.1), (0, .ref (ad 0)), (3, .int x3)]) hx hb dX8_cuts_53 rfl hl (by decide) rfl (fun ls hl => ?_)
      exact wX8_cuts_54 C  hf kc kx _ _ _ hw (lv_sub hl [3, 0, 1, 4] rfl)
theorem wX8_cuts_L22 (C : sn_C p s m args meth c RX8 cX8_cuts 5 (some .int) D ct ad layC A)    {z : sn_S × Int32 × Int32 × Int32} {t : sn_S × Int32} (h : sn_it (LX8_cuts_22 ) 5000 z = some t) (kx : ∀ v, t = v → sn_At p l e rmX8_cuts s m args below meth c Q D ct ad layC A 5 v.1 60 [(1, .int v.2)] []) : sn_At p l e rmX8_cuts s m args below meth c Q D ct ad layC A 5 z.1 22 [(0, .ref (ad 0)), (1, .int z.2.1), (2, .int z.2.2.1), (3, .int z.2.2.2)] [] :=
  sn_loop (f := LX8_cuts_22 ) (G := fun z => sn_At p l e rmX8_cuts s m args below meth c Q D ct ad layC A 5 z.1 22 [(0, .ref (ad 0)), (1, .int z.2.1), (2, .int z.2.2.1), (3, .int z.2.2.2)] []) (E := fun t => (∀ v, t = v → sn_At p l e rmX8_cuts s m args below meth c Q D ct ad layC A 5 v.1 60 [(1, .int v.2)] []) ∧ True) (fun z o hf k1 k2 => wX8_cuts_22 C  hf (fun v e => k1 v e) (fun v e => (k2 _ e).1 v rfl)) 5000 z t h ⟨kx, trivial⟩
theorem wX8_cuts_in (C : sn_C p s m args meth c RX8 cX8_cuts 5 (some .int) D ct ad layC A) {σ : sn_S}  {o : (Int32 × sn_S)} (hf : fX8_cuts σ = some o) (kr : sn_Kr p l e rmX8_cuts s m args below meth c Q D ct ad layC A cX8_cuts .ireturn (true) o.2 [.int o.1]) : sn_At p l e rmX8_cuts s m args below meth c Q D ct ad layC A 5 σ 0 [(0, .ref (ad 0))] [] := by
  intro H locs ls hw hl
  have hx := C.1
  have hb := C.2.1
  unfold fX8_cuts at hf
  refine lv_aload_n hx hb dX8_cuts_0 rfl (lv_at hl 0 rfl) ?_
  obtain ⟨t_1, h_2, hf⟩ := sn_bd hf
  refine sn_callVi (rest := []) C hw (ctX8_isHouse l  h_2) kl_RX8_137 layC_0 rfl rfl rfl rfl (Nat.le_of_ble_eq_true rfl) dX8_cuts_1 hl.1 (fun H locs hw => ?_)
  refine lv_if_ne (tgt := 10) hx hb dX8_cuts_4 (by decide) (fun c_3 => ?_) (fun c_3 => ?_)
  · have hf := sn_el c_3 hf
    refine lv_iconst (v := (-1)) hx hb dX8_cuts_10 rfl ?_
    refine lv_istore_n (lv' := [(1, .int (-1 : Int32)), (0, .ref (ad 0))]) hx hb dX8_cuts_11 rfl hl (by decide) rfl (fun ls hl => ?_)
    refine lv_aload_n hx hb dX8_cuts_12 rfl (lv_at hl 1 rfl) ?_
    refine sn_getC (r := 27) C hw fd_RX8_44 layC_0 rfl dX8_cuts_13 ?_
    obtain ⟨t_4, h_5, hf⟩ := sn_bd hf
    refine sn_callVi (rest := []) C hw (ctX0_total l sn_isX0_27 h_5) kl_RX8_141 (sn_look sn_isX0_27 (k := 0) rfl) rfl rfl rfl rfl (Nat.le_of_ble_eq_true rfl) dX8_cuts_16 hl.1 (fun H locs hw => ?_)
    refine lv_istore_n (lv' := [(2, .int t_4), (1, .int (-1 : Int32)), (0, .ref (ad 0))]) hx hb dX8_cuts_19 rfl hl (by decide) rfl (fun ls hl => ?_)
    refine lv_iconst (v := 0) hx hb dX8_cuts_20 rfl ?_
    refine lv_istore_n (lv' := [(3, .int (0 : Int32)), (2, .int t_4), (1, .int (-1 : Int32)), (0, .ref (ad 0))]) hx hb dX8_cuts_21 rfl hl (by decide) rfl (fun ls hl => ?_)
    obtain ⟨t_6, h_7, hf⟩ := sn_bd hf
    exact wX8_cuts_L22 C  h_7 (fun v e => by cases e; exact wX8_cuts_60 C  hf kr) _ _ _ hw (lv_sub hl [3, 2, 1, 0] rfl)
  · have hf := sn_if c_3 hf
    refine lv_bipush (v := (-2)) hx hb dX8_cuts_7 (by decide) ?_
    cases hf
    exact kr _ _ _ _ hw rfl dX8_cuts_9
theorem ctX8_cuts (l : Launch) {σ : sn_S}  {o : (Int32 × sn_S)} (hf : fX8_cuts σ = some o) : sn_M l yX8_cuts cX8_cuts 5 (some .int) rmX8_cuts layC (fun ad => [.ref (ad 0)]) σ (some (fun _ => .int o.1)) o.2 :=
  sn_met (by decide) (fun _ => Nat.le_of_ble_eq_true rfl) (fun p e s m args below meth c ls D ct ad A C hw hl => wX8_cuts_in C  hf (fun H locs ls pc hw ok hd => sn_iret C hw hd) _ _ _ hw hl)
-- X8_ledgerNow
abbrev rmX8_ledgerNow : Room := { frames := 4, cells := 0, slots := 0, locals := 99 }
def fX8_ledgerNow (σ : sn_S) : Option sn_S :=
  (sn_gd (sn_in (2 : Int32) 11) ((fX3_reckon σ 49 1 27 (sn_I σ (1 + 1) (2 : Int32).toNatClampNeg)).bind fun t_2 => (some t_2)))
theorem wX8_ledgerNow_in (C : sn_C p s m args meth c RX8 cX8_ledgerNow 1 (some (.object "PepperPolicy$Ledger")) D ct ad layC A) {σ : sn_S}  {o : sn_S} (hf : fX8_ledgerNow σ = some o) (kr : sn_Kr p l e rmX8_ledgerNow s m args below meth c Q D ct ad layC A cX8_ledgerNow .areturn (true) o [.ref (ad 49)]) : sn_At p l e rmX8_ledgerNow s m args below meth c Q D ct ad layC A 1 σ 0 [(0, .ref (ad 0))] [] := by
  intro H locs ls hw hl
  have hx := C.1
  have hb := C.2.1
  unfold fX8_ledgerNow at hf
  refine lv_aload_n hx hb dX8_ledgerNow_0 rfl (lv_at hl 0 rfl) ?_
  refine sn_getC (r := 49) C hw fd_RX8_54 layC_0 rfl dX8_ledgerNow_1 ?_
  refine lv_aload_n hx hb dX8_ledgerNow_4 rfl (lv_at hl 0 rfl) ?_
  refine sn_getC (r := 1) C hw fd_RX8_10 layC_0 rfl dX8_ledgerNow_5 ?_
  refine lv_aload_n hx hb dX8_ledgerNow_8 rfl (lv_at hl 0 rfl) ?_
  refine sn_getC (r := 27) C hw fd_RX8_44 layC_0 rfl dX8_ledgerNow_9 ?_
  refine lv_aload_n hx hb dX8_ledgerNow_12 rfl (lv_at hl 0 rfl) ?_
  refine sn_getC (r := 1) C hw fd_RX8_10 layC_0 rfl dX8_ledgerNow_13 ?_
  refine sn_getC (r := (1 + 1)) C hw fd_RX8_100 (sn_look sn_isX2_1 (k := 0) rfl) rfl dX8_ledgerNow_16 ?_
  refine lv_iconst (v := 2) hx hb dX8_ledgerNow_19 rfl ?_
  obtain ⟨g_1, hf⟩ := sn_gdE hf
  refine sn_iald C hw (sn_look sn_isX2_1 (k := 1) rfl) g_1 dX8_ledgerNow_20 ?_
  obtain ⟨t_2, h_3, hf⟩ := sn_bd hf
  refine sn_callVv (rest := []) C hw (ctX3_reckon l sn_isX3_49 sn_isX2_1 sn_isX0_27 h_3) kl_RX8_234 (sn_look sn_isX3_49 (k := 0) rfl) rfl rfl rfl rfl (Nat.le_of_ble_eq_true rfl) dX8_ledgerNow_21 hl.1 (fun H locs hw => ?_)
  refine lv_aload_n hx hb dX8_ledgerNow_24 rfl (lv_at hl 0 rfl) ?_
  refine sn_getC (r := 49) C hw fd_RX8_54 layC_0 rfl dX8_ledgerNow_25 ?_
  cases hf
  exact kr _ _ _ _ hw rfl dX8_ledgerNow_28
theorem ctX8_ledgerNow (l : Launch) {σ : sn_S}  {o : sn_S} (hf : fX8_ledgerNow σ = some o) : sn_M l yX8_ledgerNow cX8_ledgerNow 1 (some (.object "PepperPolicy$Ledger")) rmX8_ledgerNow layC (fun ad => [.ref (ad 0)]) σ (some (fun ad => .ref (ad 49))) o :=
  sn_met (by decide) (fun _ => Nat.le_of_ble_eq_true rfl) (fun p e s m args below meth c ls D ct ad A C hw hl => wX8_ledgerNow_in C  hf (fun H locs ls pc hw ok hd => sn_aret C hw hd) _ _ _ hw hl)
-- X8_claim
abbrev rmX8_claim : Room := { frames := 5, cells := 0, slots := 0, locals := 119 }
def fX8_claim (σ : sn_S) (x1 : Int32) : Option (Int32 × sn_S) :=
  ((fX8_isPolicy σ x1).bind fun t_1 => (if t_1 = 0 then
  (some ((-2 : Int32), σ))
  else
  ((fX8_ledgerNow σ).bind fun t_4 => (sn_gd (sn_in x1 6) (some ((sn_I t_4 (49 + 1) x1.toNatClampNeg), t_4))))))
theorem wX8_claim_in (C : sn_C p s m args meth c RX8 cX8_claim 2 (some .int) D ct ad layC A) {σ : sn_S} {x1 : Int32}  {o : (Int32 × sn_S)} (hf : fX8_claim σ x1 = some o) (kr : sn_Kr p l e rmX8_claim s m args below meth c Q D ct ad layC A cX8_claim .ireturn (true) o.2 [.int o.1]) : sn_At p l e rmX8_claim s m args below meth c Q D ct ad layC A 2 σ 0 [(0, .ref (ad 0)), (1, .int x1)] [] := by
  intro H locs ls hw hl
  have hx := C.1
  have hb := C.2.1
  unfold fX8_claim at hf
  refine lv_aload_n hx hb dX8_claim_0 rfl (lv_at hl 0 rfl) ?_
  refine lv_iload_n hx hb dX8_claim_1 rfl (lv_at hl 1 rfl) ?_
  obtain ⟨t_1, h_2, hf⟩ := sn_bd hf
  refine sn_callVi (rest := []) C hw (ctX8_isPolicy l  h_2) kl_RX8_114 layC_0 rfl rfl rfl rfl (Nat.le_of_ble_eq_true rfl) dX8_claim_2 hl.1 (fun H locs hw => ?_)
  refine lv_if_eq (tgt := 20) hx hb dX8_claim_5 (by decide) (fun c_3 => ?_) (fun c_3 => ?_)
  · have hf := sn_if c_3 hf
    refine lv_bipush (v := (-2)) hx hb dX8_claim_20 (by decide) ?_
    cases hf
    exact kr _ _ _ _ hw rfl dX8_claim_22
  · have hf := sn_el c_3 hf
    refine lv_aload_n hx hb dX8_claim_8 rfl (lv_at hl 0 rfl) ?_
    obtain ⟨t_4, h_5, hf⟩ := sn_bd hf
    refine sn_callVr (rest := []) C hw (ctX8_ledgerNow l  h_5) kl_RX8_208 layC_0 rfl rfl rfl rfl (Nat.le_of_ble_eq_true rfl) dX8_claim_9 hl.1 (fun H locs hw => ?_)
    refine sn_getC (r := (49 + 1)) C hw fd_RX8_212 (sn_look sn_isX3_49 (k := 0) rfl) rfl dX8_claim_12 ?_
    refine lv_iload_n hx hb dX8_claim_15 rfl (lv_at hl 1 rfl) ?_
    obtain ⟨g_6, hf⟩ := sn_gdE hf
    refine sn_iald C hw (sn_look sn_isX3_49 (k := 1) rfl) g_6 dX8_claim_16 ?_
    refine lv_goto (tgt := 22) hx hb dX8_claim_17 (by decide) ?_
    cases hf
    exact kr _ _ _ _ hw rfl dX8_claim_22
theorem ctX8_claim (l : Launch) {σ : sn_S} {x1 : Int32}  {o : (Int32 × sn_S)} (hf : fX8_claim σ x1 = some o) : sn_M l yX8_claim cX8_claim 2 (some .int) rmX8_claim layC (fun ad => [.ref (ad 0), .int x1]) σ (some (fun _ => .int o.1)) o.2 :=
  sn_met (by decide) (fun _ => Nat.le_of_ble_eq_true rfl) (fun p e s m args below meth c ls D ct ad A C hw hl => wX8_claim_in C  hf (fun H locs ls pc hw ok hd => sn_iret C hw hd) _ _ _ hw hl)
-- X8_paid
abbrev rmX8_paid : Room := { frames := 5, cells := 0, slots := 0, locals := 119 }
def fX8_paid (σ : sn_S) (x1 : Int32) : Option (Int32 × sn_S) :=
  ((fX8_isPolicy σ x1).bind fun t_1 => (if t_1 = 0 then
  (some ((-2 : Int32), σ))
  else
  ((fX8_ledgerNow σ).bind fun t_4 => (sn_gd (sn_in x1 6) (some ((sn_I t_4 (49 + 2) x1.toNatClampNeg), t_4))))))
theorem wX8_paid_in (C : sn_C p s m args meth c RX8 cX8_paid 2 (some .int) D ct ad layC A) {σ : sn_S} {x1 : Int32}  {o : (Int32 × sn_S)} (hf : fX8_paid σ x1 = some o) (kr : sn_Kr p l e rmX8_paid s m args below meth c Q D ct ad layC A cX8_paid .ireturn (true) o.2 [.int o.1]) : sn_At p l e rmX8_paid s m args below meth c Q D ct ad layC A 2 σ 0 [(0, .ref (ad 0)), (1, .int x1)] [] := by
  intro H locs ls hw hl
  have hx := C.1
  have hb := C.2.1
  unfold fX8_paid at hf
  refine lv_aload_n hx hb dX8_paid_0 rfl (lv_at hl 0 rfl) ?_
  refine lv_iload_n hx hb dX8_paid_1 rfl (lv_at hl 1 rfl) ?_
  obtain ⟨t_1, h_2, hf⟩ := sn_bd hf
  refine sn_callVi (rest := []) C hw (ctX8_isPolicy l  h_2) kl_RX8_114 layC_0 rfl rfl rfl rfl (Nat.le_of_ble_eq_true rfl) dX8_paid_2 hl.1 (fun H locs hw => ?_)
  refine lv_if_eq (tgt := 20) hx hb dX8_paid_5 (by decide) (fun c_3 => ?_) (fun c_3 => ?_)
  · have hf := sn_if c_3 hf
    refine lv_bipush (v := (-2)) hx hb dX8_paid_20 (by decide) ?_
    cases hf
    exact kr _ _ _ _ hw rfl dX8_paid_22
  · have hf := sn_el c_3 hf
    refine lv_aload_n hx hb dX8_paid_8 rfl (lv_at hl 0 rfl) ?_
    obtain ⟨t_4, h_5, hf⟩ := sn_bd hf
    refine sn_callVr (rest := []) C hw (ctX8_ledgerNow l  h_5) kl_RX8_208 layC_0 rfl rfl rfl rfl (Nat.le_of_ble_eq_true rfl) dX8_paid_9 hl.1 (fun H locs hw => ?_)
    refine sn_getC (r := (49 + 2)) C hw fd_RX8_215 (sn_look sn_isX3_49 (k := 0) rfl) rfl dX8_paid_12 ?_
    refine lv_iload_n hx hb dX8_paid_15 rfl (lv_at hl 1 rfl) ?_
    obtain ⟨g_6, hf⟩ := sn_gdE hf
    refine sn_iald C hw (sn_look sn_isX3_49 (k := 2) rfl) g_6 dX8_paid_16 ?_
    refine lv_goto (tgt := 22) hx hb dX8_paid_17 (by decide) ?_
    cases hf
    exact kr _ _ _ _ hw rfl dX8_paid_22
theorem ctX8_paid (l : Launch) {σ : sn_S} {x1 : Int32}  {o : (Int32 × sn_S)} (hf : fX8_paid σ x1 = some o) : sn_M l yX8_paid cX8_paid 2 (some .int) rmX8_paid layC (fun ad => [.ref (ad 0), .int x1]) σ (some (fun _ => .int o.1)) o.2 :=
  sn_met (by decide) (fun _ => Nat.le_of_ble_eq_true rfl) (fun p e s m args below meth c ls D ct ad A C hw hl => wX8_paid_in C  hf (fun H locs ls pc hw ok hd => sn_iret C hw hd) _ _ _ hw hl)
-- X8_claims
abbrev rmX8_claims : Room := { frames := 5, cells := 0, slots := 0, locals := 119 }
def BX8_claims_48 (σ : sn_S) (x2 : Int32) : Option ((Int32 × sn_S)) :=
  (some (x2, σ))
def BX8_claims_42 (σ : sn_S) (x2 : Int32) (x3 : Int32) : Option ((Int32 × Int32) ⊕ (Int32)) :=
  (sn_lt (x3 + 1) fun y_1 => (some (.inl (x2, y_1))))
def BX8_claims_19 (σ : sn_S) (x2 : Int32) (x3 : Int32) : Option ((Int32 × Int32) ⊕ (Int32)) :=
  (if (sn_I σ 49 2) ≤ x3 then
  (some (.inr (x2)))
  else
  (sn_gd (sn_in x3 6) (if (sn_I σ (49 + 1) x3.toNatClampNeg) ≤ 0 then
  (BX8_claims_42 σ x2 x3)
  else
  (sn_lt (x2 ||| ((1 : Int32) <<< (x3 &&& 31))) fun y_4 => (BX8_claims_42 σ y_4 x3)))))
def LX8_claims_19 (σ : sn_S) (s : Int32 × Int32) : Option ((Int32 × Int32) ⊕ (Int32)) := BX8_claims_19 σ s.1 s.2
def fX8_claims (σ : sn_S) : Option (Int32 × sn_S) :=
  ((fX8_isHouse σ).bind fun t_1 => (if t_1 = 0 then
  (some ((-2 : Int32), σ))
  else
  ((fX8_ledgerNow σ).bind fun t_4 => ((sn_it (LX8_claims_19 t_4) 5000 ((0 : Int32), (0 : Int32))).bind fun t_6 => (BX8_claims_48 t_4 t_6)))))
theorem wX8_claims_48 (C : sn_C p s m args meth c RX8 cX8_claims 4 (some .int) D ct ad layC A) {σ : sn_S} {x2 : Int32}  {o : (Int32 × sn_S)} (hf : BX8_claims_48 σ x2 = some o) (kr : sn_Kr p l e rmX8_claims s m args below meth c Q D ct ad layC A cX8_claims .ireturn (true) o.2 [.int o.1]) : sn_At p l e rmX8_claims s m args below meth c Q D ct ad layC A 4 σ 48 [(2, .int x2)] [] := by
  intro H locs ls hw hl
  have hx := C.1
  have hb := C.2.1
  unfold BX8_claims_48 at hf
  refine lv_iload_n hx hb dX8_claims_48 rfl (lv_at hl 0 rfl) ?_
  cases hf
  exact kr _ _ _ _ hw rfl dX8_claims_49
theorem wX8_claims_42 (C : sn_C p s m args meth c RX8 cX8_claims 4 (some .int) D ct ad layC A) {σ : sn_S} {x2 : Int32} {x3 : Int32}  {o : (Int32 × Int32) ⊕ (Int32)} (hf : BX8_claims_42 σ x2 x3 = some o) (kc : ∀ v, o = .inl v → sn_At p l e rmX8_claims s m args below meth c Q D ct ad layC A 4 σ 19 [(1, .ref (ad 49)), (2, .int v.1), (3, .int v.2)] []) (kx : ∀ v, o = .inr v → sn_At p l e rmX8_claims s m args below meth c Q D ct ad layC A 4 σ 48 [(2, .int v)] []) : sn_At p l e rmX8_claims s m args below meth c Q D ct ad layC A 4 σ 42 [(1, .ref (ad 49)), (2, .int x2), (3, .int x3)] [] := by
  intro H locs ls hw hl
  have hx := C.1
  have hb := C.2.1
  unfold BX8_claims_42 at hf
  obtain ⟨y_1, e_2, hf⟩ := sn_ltE hf
  refine lv_iinc (v := y_1) (lv' := [(3, .int y_1), (1, .ref (ad 49)), (2, .int x2)]) hx hb dX8_claims_42 hl (k := 2) rfl (by rw [e_2]; rfl) (by decide) rfl (fun ls hl => ?_)
  refine lv_goto (tgt := 19) hx hb dX8_claims_45 (by decide) ?_
  cases hf
  exact kc _ rfl _ _ _ hw (lv_sub hl [1, 2, 0] rfl)
theorem wX8_claims_19 (C : sn_C p s m args meth c RX8 cX8_claims 4 (some .int) D ct ad layC A) {σ : sn_S} {x2 : Int32} {x3 : Int32}  {o : (Int32 × Int32) ⊕ (Int32)} (hf : BX8_claims_19 σ x2 x3 = some o) (kc : ∀ v, o = .inl v → sn_At p l e rmX8_claims s m args below meth c Q D ct ad layC A 4 σ 19 [(1, .ref (ad 49)), (2, .int v.1), (3, .int v.2)] []) (kx : ∀ v, o = .inr v → sn_At p l e rmX8_claims s m args below meth c Q D ct ad layC A 4 σ 48 [(2, .int v)] []) : sn_At p l e rmX8_claims s m args below meth c Q D ct ad layC A 4 σ 19 [(1, .ref (ad 49)), (2, .int x2), (3, .int x3)] [] := by
  intro H locs ls hw hl
  have hx := C.1
  have hb := C.2.1
  unfold BX8_claims_19 at hf
  refine lv_iload_n hx hb dX8_claims_19 rfl (lv_at hl 2 rfl) ?_
  refine lv_aload_n hx hb dX8_claims_20 rfl (lv_at hl 0 rfl) ?_
  refine sn_getI C hw fd_RX8_218 (sn_look sn_isX3_49 (k := 0) rfl) rfl dX8_claims_21 ?_
  refine lv_icmp_ge (tgt := 48) hx hb dX8_claims_24 (by decide) (fun c_1 => ?_) (fun c_1 => ?_)
  · have hf := sn_if c_1 hf
    cases hf
    exact kx _ rfl _ _ _ hw (lv_sub hl [1] rfl)
  · have hf := sn_el c_1 hf
    refine lv_aload_n hx hb dX8_claims_27 rfl (lv_at hl 0 rfl) ?_
    refine sn_getC (r := (49 + 1)) C hw fd_RX8_212 (sn_look sn_isX3_49 (k := 0) rfl) rfl dX8_claims_28 ?_
    refine lv_iload_n hx hb dX8_claims_31 rfl (lv_at hl 2 rfl) ?_
    obtain ⟨g_2, hf⟩ := sn_gdE hf
    refine sn_iald C hw (sn_look sn_isX3_49 (k := 1) rfl) g_2 dX8_claims_32 ?_
    refine lv_if_le (tgt := 42) hx hb dX8_claims_33 (by decide) (fun c_3 => ?_) (fun c_3 => ?_)
    · have hf := sn_if c_3 hf
      exact wX8_claims_42 C  hf kc kx _ _ _ hw (lv_sub hl [0, 1, 2] rfl)
    · have hf := sn_el c_3 hf
      refine lv_iload_n hx hb dX8_claims_36 rfl (lv_at hl 1 rfl) ?_
      refine lv_iconst (v := 1) hx hb dX8_claims_37 rfl ?_
      refine lv_iload_n hx hb dX8_claims_38 rfl (lv_at hl 2 rfl) ?_
      refine lv_ishl hx hb dX8_claims_39 ?_
      refine lv_ior hx hb dX8_claims_40 ?_
      obtain ⟨y_4, e_5, hf⟩ := sn_ltE hf
      refine lv_topi (fun y_4_ e_5_ => ?_)
      obtain rfl : y_4 = y_4_ := e_5.trans e_5_.symm
      refine lv_istore_n (lv' := [(2, .int y_4), (1, .ref (ad 49)), (3, .int x3)]) hx hb dX8_claims_41 rfl hl (by decide) rfl (fun ls hl => ?_)
      exact wX8_claims_42 C  hf kc kx _ _ _ hw (lv_sub hl [1, 0, 2] rfl)
theorem wX8_claims_L19 (C : sn_C p s m args meth c RX8 cX8_claims 4 (some .int) D ct ad layC A) {σ : sn_S}   {z : Int32 × Int32} {t : Int32} (h : sn_it (LX8_claims_19 σ) 5000 z = some t) (kx : ∀ v, t = v → sn_At p l e rmX8_claims s m args below meth c Q D ct ad layC A 4 σ 48 [(2, .int v)] []) : sn_At p l e rmX8_claims s m args below meth c Q D ct ad layC A 4 σ 19 [(1, .ref (ad 49)), (2, .int z.1), (3, .int z.2)] [] :=
  sn_loop (f := LX8_claims_19 σ) (G := fun z => sn_At p l e rmX8_claims s m args below meth c Q D ct ad layC A 4 σ 19 [(1, .ref (ad 49)), (2, .int z.1), (3, .int z.2)] []) (E := fun t => (∀ v, t = v → sn_At p l e rmX8_claims s m args below meth c Q D ct ad layC A 4 σ 48 [(2, .int v)] []) ∧ True) (fun z o hf k1 k2 => wX8_claims_19 C  hf (fun v e => k1 v e) (fun v e => (k2 _ e).1 v rfl)) 5000 z t h ⟨kx, trivial⟩
theorem wX8_claims_in (C : sn_C p s m args meth c RX8 cX8_claims 4 (some .int) D ct ad layC A) {σ : sn_S}  {o : (Int32 × sn_S)} (hf : fX8_claims σ = some o) (kr : sn_Kr p l e rmX8_claims s m args below meth c Q D ct ad layC A cX8_claims .ireturn (true) o.2 [.int o.1]) : sn_At p l e rmX8_claims s m args below meth c Q D ct ad layC A 4 σ 0 [(0, .ref (ad 0))] [] := by
  intro H locs ls hw hl
  have hx := C.1
  have hb := C.2.1
  unfold fX8_claims at hf
  refine lv_aload_n hx hb dX8_claims_0 rfl (lv_at hl 0 rfl) ?_
  obtain ⟨t_1, h_2, hf⟩ := sn_bd hf
  refine sn_callVi (rest := []) C hw (ctX8_isHouse l  h_2) kl_RX8_137 layC_0 rfl rfl rfl rfl (Nat.le_of_ble_eq_true rfl) dX8_claims_1 hl.1 (fun H locs hw => ?_)
  refine lv_if_ne (tgt := 10) hx hb dX8_claims_4 (by decide) (fun c_3 => ?_) (fun c_3 => ?_)
  · have hf := sn_el c_3 hf
    refine lv_aload_n hx hb dX8_claims_10 rfl (lv_at hl 0 rfl) ?_
    obtain ⟨t_4, h_5, hf⟩ := sn_bd hf
    refine sn_callVr (rest := []) C hw (ctX8_ledgerNow l  h_5) kl_RX8_208 layC_0 rfl rfl rfl rfl (Nat.le_of_ble_eq_true rfl) dX8_claims_11 hl.1 (fun H locs hw => ?_)
    refine lv_astore_n (lv' := [(1, .ref (ad 49)), (0, .ref (ad 0))]) hx hb dX8_claims_14 rfl hl (by decide) rfl (fun ls hl => ?_)
    refine lv_iconst (v := 0) hx hb dX8_claims_15 rfl ?_
    refine lv_istore_n (lv' := [(2, .int (0 : Int32)), (1, .ref (ad 49)), (0, .ref (ad 0))]) hx hb dX8_claims_16 rfl hl (by decide) rfl (fun ls hl => ?_)
    refine lv_iconst (v := 0) hx hb dX8_claims_17 rfl ?_
    refine lv_istore_n (lv' := [(3, .int (0 : Int32)), (2, .int (0 : Int32)), (1, .ref (ad 49)), (0, .ref (ad 0))]) hx hb dX8_claims_18 rfl hl (by decide) rfl (fun ls hl => ?_)
    obtain ⟨t_6, h_7, hf⟩ := sn_bd hf
    exact wX8_claims_L19 C  h_7 (fun v e => by cases e; exact wX8_claims_48 C  hf kr) _ _ _ hw (lv_sub hl [2, 1, 0] rfl)
  · have hf := sn_if c_3 hf
    refine lv_bipush (v := (-2)) hx hb dX8_claims_7 (by decide) ?_
    cases hf
    exact kr _ _ _ _ hw rfl dX8_claims_9
theorem ctX8_claims (l : Launch) {σ : sn_S}  {o : (Int32 × sn_S)} (hf : fX8_claims σ = some o) : sn_M l yX8_claims cX8_claims 4 (some .int) rmX8_claims layC (fun ad => [.ref (ad 0)]) σ (some (fun _ => .int o.1)) o.2 :=
  sn_met (by decide) (fun _ => Nat.le_of_ble_eq_true rfl) (fun p e s m args below meth c ls D ct ad A C hw hl => wX8_claims_in C  hf (fun H locs ls pc hw ok hd => sn_iret C hw hd) _ _ _ hw hl)
-- X8_profit
abbrev rmX8_profit : Room := { frames := 5, cells := 0, slots := 0, locals := 119 }
def fX8_profit (σ : sn_S) (x1 : Int32) : Option (Int32 × sn_S) :=
  ((fX8_isPolicy σ x1).bind fun t_1 => (if t_1 = 0 then
  (some ((-100000 : Int32), σ))
  else
  ((fX2_ofPolicy σ 1 x1 (4 : Int32)).bind fun t_4 => ((fX8_ledgerNow σ).bind fun t_6 => (sn_gd (sn_in x1 6) (some ((t_4 - (sn_I t_6 (49 + 1) x1.toNatClampNeg)), t_6)))))))
theorem wX8_profit_in (C : sn_C p s m args meth c RX8 cX8_profit 2 (some .int) D ct ad layC A) {σ : sn_S} {x1 : Int32}  {o : (Int32 × sn_S)} (hf : fX8_profit σ x1 = some o) (kr : sn_Kr p l e rmX8_profit s m args below meth c Q D ct ad layC A cX8_profit .ireturn (true) o.2 [.int o.1]) : sn_At p l e rmX8_profit s m args below meth c Q D ct ad layC A 2 σ 0 [(0, .ref (ad 0)), (1, .int x1)] [] := by
  intro H locs ls hw hl
  have hx := C.1
  have hb := C.2.1
  unfold fX8_profit at hf
  refine lv_aload_n hx hb dX8_profit_0 rfl (lv_at hl 0 rfl) ?_
  refine lv_iload_n hx hb dX8_profit_1 rfl (lv_at hl 1 rfl) ?_
  obtain ⟨t_1, h_2, hf⟩ := sn_bd hf
  refine sn_callVi (rest := []) C hw (ctX8_isPolicy l  h_2) kl_RX8_114 layC_0 rfl rfl rfl rfl (Nat.le_of_ble_eq_true rfl) dX8_profit_2 hl.1 (fun H locs hw => ?_)
  refine lv_if_ne (tgt := 11) hx hb dX8_profit_5 (by decide) (fun c_3 => ?_) (fun c_3 => ?_)
  · have hf := sn_el c_3 hf
    refine lv_aload_n hx hb dX8_profit_11 rfl (lv_at hl 0 rfl) ?_
    refine sn_getC (r := 1) C hw fd_RX8_10 layC_0 rfl dX8_profit_12 ?_
    refine lv_iload_n hx hb dX8_profit_15 rfl (lv_at hl 1 rfl) ?_
    refine lv_iconst (v := 4) hx hb dX8_profit_16 rfl ?_
    obtain ⟨t_4, h_5, hf⟩ := sn_bd hf
    refine sn_callVi (rest := []) C hw (ctX2_ofPolicy l sn_isX2_1 h_5) kl_RX8_117 (sn_look sn_isX2_1 (k := 0) rfl) rfl rfl rfl rfl (Nat.le_of_ble_eq_true rfl) dX8_profit_17 hl.1 (fun H locs hw => ?_)
    refine lv_aload_n hx hb dX8_profit_20 rfl (lv_at hl 0 rfl) ?_
    obtain ⟨t_6, h_7, hf⟩ := sn_bd hf
    refine sn_callVr (rest := [.int t_4]) C hw (ctX8_ledgerNow l  h_7) kl_RX8_208 layC_0 rfl rfl rfl rfl (Nat.le_of_ble_eq_true rfl) dX8_profit_21 hl.1 (fun H locs hw => ?_)
    refine sn_getC (r := (49 + 1)) C hw fd_RX8_212 (sn_look sn_isX3_49 (k := 0) rfl) rfl dX8_profit_24 ?_
    refine lv_iload_n hx hb dX8_profit_27 rfl (lv_at hl 1 rfl) ?_
    obtain ⟨g_8, hf⟩ := sn_gdE hf
    refine sn_iald C hw (sn_look sn_isX3_49 (k := 1) rfl) g_8 dX8_profit_28 ?_
    refine lv_isub hx hb dX8_profit_29 ?_
    cases hf
    exact kr _ _ _ _ hw rfl dX8_profit_30
  · have hf := sn_if c_3 hf
    refine lv_ldc hx hb C.2.2.2.1 (C.2.2.2.2.1 _ kk_RX8_221) dX8_profit_8 ?_
    cases hf
    exact kr _ _ _ _ hw rfl dX8_profit_10
theorem ctX8_profit (l : Launch) {σ : sn_S} {x1 : Int32}  {o : (Int32 × sn_S)} (hf : fX8_profit σ x1 = some o) : sn_M l yX8_profit cX8_profit 2 (some .int) rmX8_profit layC (fun ad => [.ref (ad 0), .int x1]) σ (some (fun _ => .int o.1)) o.2 :=
  sn_met (by decide) (fun _ => Nat.le_of_ble_eq_true rfl) (fun p e s m args below meth c ls D ct ad A C hw hl => wX8_profit_in C  hf (fun H locs ls pc hw ok hd => sn_iret C hw hd) _ _ _ hw hl)
-- X8_money
abbrev rmX8_money : Room := { frames := 5, cells := 0, slots := 0, locals := 119 }
def fX8_money (σ : sn_S) (x1 : Int32) : Option (Int32 × sn_S) :=
  ((fX8_isMinute σ x1).bind fun t_1 => (if t_1 = 0 then
  (some ((-100000 : Int32), σ))
  else
  ((fX8_ledgerNow σ).bind fun t_4 => ((fX3_moneyAt t_4 49 x1).bind fun t_6 => (some (t_6, t_4))))))
theorem wX8_money_in (C : sn_C p s m args meth c RX8 cX8_money 2 (some .int) D ct ad layC A) {σ : sn_S} {x1 : Int32}  {o : (Int32 × sn_S)} (hf : fX8_money σ x1 = some o) (kr : sn_Kr p l e rmX8_money s m args below meth c Q D ct ad layC A cX8_money .ireturn (true) o.2 [.int o.1]) : sn_At p l e rmX8_money s m args below meth c Q D ct ad layC A 2 σ 0 [(0, .ref (ad 0)), (1, .int x1)] [] := by
  intro H locs ls hw hl
  have hx := C.1
  have hb := C.2.1
  unfold fX8_money at hf
  refine lv_aload_n hx hb dX8_money_0 rfl (lv_at hl 0 rfl) ?_
  refine lv_iload_n hx hb dX8_money_1 rfl (lv_at hl 1 rfl) ?_
  obtain ⟨t_1, h_2, hf⟩ := sn_bd hf
  refine sn_callVi (rest := []) C hw (ctX8_isMinute l  h_2) kl_RX8_125 layC_0 rfl rfl rfl rfl (Nat.le_of_ble_eq_true rfl) dX8_money_2 hl.1 (fun H locs hw => ?_)
  refine lv_if_eq (tgt := 19) hx hb dX8_money_5 (by decide) (fun c_3 => ?_) (fun c_3 => ?_)
  · have hf := sn_if c_3 hf
    refine lv_ldc hx hb C.2.2.2.1 (C.2.2.2.2.1 _ kk_RX8_221) dX8_money_19 ?_
    cases hf
    exact kr _ _ _ _ hw rfl dX8_money_21
  · have hf := sn_el c_3 hf
    refine lv_aload_n hx hb dX8_money_8 rfl (lv_at hl 0 rfl) ?_
    obtain ⟨t_4, h_5, hf⟩ := sn_bd hf
    refine sn_callVr (rest := []) C hw (ctX8_ledgerNow l  h_5) kl_RX8_208 layC_0 rfl rfl rfl rfl (Nat.le_of_ble_eq_true rfl) dX8_money_9 hl.1 (fun H locs hw => ?_)
    refine lv_iload_n hx hb dX8_money_12 rfl (lv_at hl 1 rfl) ?_
    obtain ⟨t_6, h_7, hf⟩ := sn_bd hf
    refine sn_callVi (rest := []) C hw (ctX3_moneyAt l sn_isX3_49 h_7) kl_RX8_222 (sn_look sn_isX3_49 (k := 0) rfl) rfl rfl rfl rfl (Nat.le_of_ble_eq_true rfl) dX8_money_13 hl.1 (fun H locs hw => ?_)
    refine lv_goto (tgt := 21) hx hb dX8_money_16 (by decide) ?_
    cases hf
    exact kr _ _ _ _ hw rfl dX8_money_21
theorem ctX8_money (l : Launch) {σ : sn_S} {x1 : Int32}  {o : (Int32 × sn_S)} (hf : fX8_money σ x1 = some o) : sn_M l yX8_money cX8_money 2 (some .int) rmX8_money layC (fun ad => [.ref (ad 0), .int x1]) σ (some (fun _ => .int o.1)) o.2 :=
  sn_met (by decide) (fun _ => Nat.le_of_ble_eq_true rfl) (fun p e s m args below meth c ls D ct ad A C hw hl => wX8_money_in C  hf (fun H locs ls pc hw ok hd => sn_iret C hw hd) _ _ _ hw hl)
-- X8_lowest
abbrev rmX8_lowest : Room := { frames := 5, cells := 0, slots := 0, locals := 119 }
def fX8_lowest (σ : sn_S) : Option (Int32 × sn_S) :=
  ((fX8_isHouse σ).bind fun t_1 => (if t_1 = 0 then
  (some ((-2 : Int32), σ))
  else
  ((fX8_ledgerNow σ).bind fun t_4 => ((fX3_poorestMinute t_4 49 (sn_I t_4 27 0)).bind fun t_6 => (some (t_6, t_4))))))
theorem wX8_lowest_in (C : sn_C p s m args meth c RX8 cX8_lowest 1 (some .int) D ct ad layC A) {σ : sn_S}  {o : (Int32 × sn_S)} (hf : fX8_lowest σ = some o) (kr : sn_Kr p l e rmX8_lowest s m args below meth c Q D ct ad layC A cX8_lowest .ireturn (true) o.2 [.int o.1]) : sn_At p l e rmX8_lowest s m args below meth c Q D ct ad layC A 1 σ 0 [(0, .ref (ad 0))] [] := by
  intro H locs ls hw hl
  have hx := C.1
  have hb := C.2.1
  unfold fX8_lowest at hf
  refine lv_aload_n hx hb dX8_lowest_0 rfl (lv_at hl 0 rfl) ?_
  obtain ⟨t_1, h_2, hf⟩ := sn_bd hf
  refine sn_callVi (rest := []) C hw (ctX8_isHouse l  h_2) kl_RX8_137 layC_0 rfl rfl rfl rfl (Nat.le_of_ble_eq_true rfl) dX8_lowest_1 hl.1 (fun H locs hw => ?_)
  refine lv_if_eq (tgt := 24) hx hb dX8_lowest_4 (by decide) (fun c_3 => ?_) (fun c_3 => ?_)
  · have hf := sn_if c_3 hf
    refine lv_bipush (v := (-2)) hx hb dX8_lowest_24 (by decide) ?_
    cases hf
    exact kr _ _ _ _ hw rfl dX8_lowest_26
  · have hf := sn_el c_3 hf
    refine lv_aload_n hx hb dX8_lowest_7 rfl (lv_at hl 0 rfl) ?_
    obtain ⟨t_4, h_5, hf⟩ := sn_bd hf
    refine sn_callVr (rest := []) C hw (ctX8_ledgerNow l  h_5) kl_RX8_208 layC_0 rfl rfl rfl rfl (Nat.le_of_ble_eq_true rfl) dX8_lowest_8 hl.1 (fun H locs hw => ?_)
    refine lv_aload_n hx hb dX8_lowest_11 rfl (lv_at hl 0 rfl) ?_
    refine sn_getC (r := 27) C hw fd_RX8_44 layC_0 rfl dX8_lowest_12 ?_
    refine sn_getI C hw fd_RX8_151 (sn_look sn_isX0_27 (k := 0) rfl) rfl dX8_lowest_15 ?_
    obtain ⟨t_6, h_7, hf⟩ := sn_bd hf
    refine sn_callVi (rest := []) C hw (ctX3_poorestMinute l sn_isX3_49 h_7) kl_RX8_225 (sn_look sn_isX3_49 (k := 0) rfl) rfl rfl rfl rfl (Nat.le_of_ble_eq_true rfl) dX8_lowest_18 hl.1 (fun H locs hw => ?_)
    refine lv_goto (tgt := 26) hx hb dX8_lowest_21 (by decide) ?_
    cases hf
    exact kr _ _ _ _ hw rfl dX8_lowest_26
theorem ctX8_lowest (l : Launch) {σ : sn_S}  {o : (Int32 × sn_S)} (hf : fX8_lowest σ = some o) : sn_M l yX8_lowest cX8_lowest 1 (some .int) rmX8_lowest layC (fun ad => [.ref (ad 0)]) σ (some (fun _ => .int o.1)) o.2 :=
  sn_met (by decide) (fun _ => Nat.le_of_ble_eq_true rfl) (fun p e s m args below meth c ls D ct ad A C hw hl => wX8_lowest_in C  hf (fun H locs ls pc hw ok hd => sn_iret C hw hd) _ _ _ hw hl)
-- X8_ruin
abbrev rmX8_ruin : Room := { frames := 5, cells := 0, slots := 0, locals := 119 }
def fX8_ruin (σ : sn_S) : Option (Int32 × sn_S) :=
  ((fX8_isHouse σ).bind fun t_1 => (if t_1 = 0 then
  (some ((-2 : Int32), σ))
  else
  ((fX8_ledgerNow σ).bind fun t_4 => ((fX3_firstBelow t_4 49 (sn_I t_4 27 0)).bind fun t_6 => (some (t_6, t_4))))))
theorem wX8_ruin_in (C : sn_C p s m args meth c RX8 cX8_ruin 1 (some .int) D ct ad layC A) {σ : sn_S}  {o : (Int32 × sn_S)} (hf : fX8_ruin σ = some o) (kr : sn_Kr p l e rmX8_ruin s m args below meth c Q D ct ad layC A cX8_ruin .ireturn (true) o.2 [.int o.1]) : sn_At p l e rmX8_ruin s m args below meth c Q D ct ad layC A 1 σ 0 [(0, .ref (ad 0))] [] := by
  intro H locs ls hw hl
  have hx := C.1
  have hb := C.2.1
  unfold fX8_ruin at hf
  refine lv_aload_n hx hb dX8_ruin_0 rfl (lv_at hl 0 rfl) ?_
  obtain ⟨t_1, h_2, hf⟩ := sn_bd hf
  refine sn_callVi (rest := []) C hw (ctX8_isHouse l  h_2) kl_RX8_137 layC_0 rfl rfl rfl rfl (Nat.le_of_ble_eq_true rfl) dX8_ruin_1 hl.1 (fun H locs hw => ?_)
  refine lv_if_eq (tgt := 24) hx hb dX8_ruin_4 (by decide) (fun c_3 => ?_) (fun c_3 => ?_)
  · have hf := sn_if c_3 hf
    refine lv_bipush (v := (-2)) hx hb dX8_ruin_24 (by decide) ?_
    cases hf
    exact kr _ _ _ _ hw rfl dX8_ruin_26
  · have hf := sn_el c_3 hf
    refine lv_aload_n hx hb dX8_ruin_7 rfl (lv_at hl 0 rfl) ?_
    obtain ⟨t_4, h_5, hf⟩ := sn_bd hf
    refine sn_callVr (rest := []) C hw (ctX8_ledgerNow l  h_5) kl_RX8_208 layC_0 rfl rfl rfl rfl (Nat.le_of_ble_eq_true rfl) dX8_ruin_8 hl.1 (fun H locs hw => ?_)
    refine lv_aload_n hx hb dX8_ruin_11 rfl (lv_at hl 0 rfl) ?_
    refine sn_getC (r := 27) C hw fd_RX8_44 layC_0 rfl dX8_ruin_12 ?_
    refine sn_getI C hw fd_RX8_151 (sn_look sn_isX0_27 (k := 0) rfl) rfl dX8_ruin_15 ?_
    obtain ⟨t_6, h_7, hf⟩ := sn_bd hf
    refine sn_callVi (rest := []) C hw (ctX3_firstBelow l sn_isX3_49 h_7) kl_RX8_228 (sn_look sn_isX3_49 (k := 0) rfl) rfl rfl rfl rfl (Nat.le_of_ble_eq_true rfl) dX8_ruin_18 hl.1 (fun H locs hw => ?_)
    refine lv_goto (tgt := 26) hx hb dX8_ruin_21 (by decide) ?_
    cases hf
    exact kr _ _ _ _ hw rfl dX8_ruin_26
theorem ctX8_ruin (l : Launch) {σ : sn_S}  {o : (Int32 × sn_S)} (hf : fX8_ruin σ = some o) : sn_M l yX8_ruin cX8_ruin 1 (some .int) rmX8_ruin layC (fun ad => [.ref (ad 0)]) σ (some (fun _ => .int o.1)) o.2 :=
  sn_met (by decide) (fun _ => Nat.le_of_ble_eq_true rfl) (fun p e s m args below meth c ls D ct ad A C hw hl => wX8_ruin_in C  hf (fun H locs ls pc hw ok hd => sn_iret C hw hd) _ _ _ hw hl)
-- X8_dear
abbrev rmX8_dear : Room := { frames := 5, cells := 0, slots := 0, locals := 119 }
def BX8_dear_69 (σ : sn_S) (x2 : Int32) : Option ((Int32 × sn_S)) :=
  (some (x2, σ))
def BX8_dear_63 (σ : sn_S) (x2 : Int32) (x3 : Int32) (x4 : Int32) : Option ((Int32 × Int32 × Int32) ⊕ (Int32)) :=
  (sn_lt (x4 + 1) fun y_1 => (some (.inl (x2, x3, y_1))))
def BX8_dear_22 (σ : sn_S) (x2 : Int32) (x3 : Int32) (x4 : Int32) : Option ((Int32 × Int32 × Int32) ⊕ (Int32)) :=
  (if (sn_I σ 49 2) ≤ x4 then
  (some (.inr (x2)))
  else
  (sn_gd (sn_in x4 6) ((fX2_ofPolicy σ 1 x4 (4 : Int32)).bind fun t_3 => (sn_lt ((sn_I σ (49 + 1) x4.toNatClampNeg) - t_3) fun y_5 => (if y_5 ≤ x3 then
  (BX8_dear_63 σ x2 x3 x4)
  else
  (BX8_dear_63 σ x4 y_5 x4))))))
def LX8_dear_22 (σ : sn_S) (s : Int32 × Int32 × Int32) : Option ((Int32 × Int32 × Int32) ⊕ (Int32)) := BX8_dear_22 σ s.1 s.2.1 s.2.2
def fX8_dear (σ : sn_S) : Option (Int32 × sn_S) :=
  ((fX8_isHouse σ).bind fun t_1 => (if t_1 = 0 then
  (some ((-2 : Int32), σ))
  else
  ((fX8_ledgerNow σ).bind fun t_4 => ((sn_it (LX8_dear_22 t_4) 5000 ((-1 : Int32), (0 : Int32), (0 : Int32))).bind fun t_6 => (BX8_dear_69 t_4 t_6)))))
theorem wX8_dear_69 (C : sn_C p s m args meth c RX8 cX8_dear 6 (some .int) D ct ad layC A) {σ : sn_S} {x2 : Int32}  {o : (Int32 × sn_S)} (hf : BX8_dear_69 σ x2 = some o) (kr : sn_Kr p l e rmX8_dear s m args below meth c Q D ct ad layC A cX8_dear .ireturn (true) o.2 [.int o.1]) : sn_At p l e rmX8_dear s m args below meth c Q D ct ad layC A 6 σ 69 [(2, .int x2)] [] := by
  intro H locs ls hw hl
  have hx := C.1
  have hb := C.2.1
  unfold BX8_dear_69 at hf
  refine lv_iload_n hx hb dX8_dear_69 rfl (lv_at hl 0 rfl) ?_
  cases hf
  exact kr _ _ _ _ hw rfl dX8_dear_70
theorem wX8_dear_63 (C : sn_C p s m args meth c RX8 cX8_dear 6 (some .int) D ct ad layC A) {σ : sn_S} {x2 : Int32} {x3 : Int32} {x4 : Int32}  {o : (Int32 × Int32 × Int32) ⊕ (Int32)} (hf : BX8_dear_63 σ x2 x3 x4 = some o) (kc : ∀ v, o = .inl v → sn_At p l e rmX8_dear s m args below meth c Q D ct ad layC A 6 σ 22 [(0, .ref (ad 0)), (1, .ref (ad 49)), (2, .int v.1), (3, .int v.2.1), (4, .int v.2.2)] []) (kx : ∀ v, o = .inr v → sn_At p l e rmX8_dear s m args below meth c Q D ct ad layC A 6 σ 69 [(2, .int v)] []) : sn_At p l e rmX8_dear s m args below meth c Q D ct ad layC A 6 σ 63 [(0, .ref (ad 0)), (1, .ref (ad 49)), (2, .int x2), (3, .int x3), (4, .int x4)] [] := by
  intro H locs ls hw hl
  have hx := C.1
  have hb := C.2.1
  unfold BX8_dear_63 at hf
  obtain ⟨y_1, e_2, hf⟩ := sn_ltE hf
  refine lv_iinc (v := y_1) (lv' := [(4, .int y_1), (0, .ref (ad 0)), (1, .ref (ad 49)), (2, .int x2), (3, .int x3)]) hx hb dX8_dear_63 hl (k := 4) rfl (by rw [e_2]; rfl) (by decide) rfl (fun ls hl => ?_)
  refine lv_goto (tgt := 22) hx hb dX8_dear_66 (by decide) ?_
  cases hf
  exact kc _ rfl _ _ _ hw (lv_sub hl [1, 2, 3, 4, 0] rfl)
theorem wX8_dear_22 (C : sn_C p s m args meth c RX8 cX8_dear 6 (some .int) D ct ad layC A) {σ : sn_S} {x2 : Int32} {x3 : Int32} {x4 : Int32}  {o : (Int32 × Int32 × Int32) ⊕ (Int32)} (hf : BX8_dear_22 σ x2 x3 x4 = some o) (kc : ∀ v, o = .inl v → sn_At p l e rmX8_dear s m args below meth c Q D ct ad layC A 6 σ 22 [(0, .ref (ad 0)), (1, .ref (ad 49)), (2, .int v.1), (3, .int v.2.1), (4, .int v.2.2)] []) (kx : ∀ v, o = .inr v → sn_At p l e rmX8_dear s m args below meth c Q D ct ad layC A 6 σ 69 [(2, .int v)] []) : sn_At p l e rmX8_dear s m args below meth c Q D ct ad layC A 6 σ 22 [(0, .ref (ad 0)), (1, .ref (ad 49)), (2, .int x2), (3, .int x3), (4, .int x4)] [] := by
  intro H locs ls hw hl
  have hx := C.1
  have hb := C.2.1
  unfold BX8_dear_22 at hf
  refine lv_iload hx hb dX8_dear_22 (lv_at hl 4 rfl) ?_
  refine lv_aload_n hx hb dX8_dear_24 rfl (lv_at hl 1 rfl) ?_
  refine sn_getI C hw fd_RX8_218 (sn_look sn_isX3_49 (k := 0) rfl) rfl dX8_dear_25 ?_
  refine lv_icmp_ge (tgt := 69) hx hb dX8_dear_28 (by decide) (fun c_1 => ?_) (fun c_1 => ?_)
  · have hf := sn_if c_1 hf
    cases hf
    exact kx _ rfl _ _ _ hw (lv_sub hl [2] rfl)
  · have hf := sn_el c_1 hf
    refine lv_aload_n hx hb dX8_dear_31 rfl (lv_at hl 1 rfl) ?_
    refine sn_getC (r := (49 + 1)) C hw fd_RX8_212 (sn_look sn_isX3_49 (k := 0) rfl) rfl dX8_dear_32 ?_
    refine lv_iload hx hb dX8_dear_35 (lv_at hl 4 rfl) ?_
    obtain ⟨g_2, hf⟩ := sn_gdE hf
    refine sn_iald C hw (sn_look sn_isX3_49 (k := 1) rfl) g_2 dX8_dear_37 ?_
    refine lv_aload_n hx hb dX8_dear_38 rfl (lv_at hl 0 rfl) ?_
    refine sn_getC (r := 1) C hw fd_RX8_10 layC_0 rfl dX8_dear_39 ?_
    refine lv_iload hx hb dX8_dear_42 (lv_at hl 4 rfl) ?_
    refine lv_iconst (v := 4) hx hb dX8_dear_44 rfl ?_
    obtain ⟨t_3, h_4, hf⟩ := sn_bd hf
    refine sn_callVi (rest := [.int (sn_I σ (49 + 1) x4.toNatClampNeg)]) C hw (ctX2_ofPolicy l sn_isX2_1 h_4) kl_RX8_117 (sn_look sn_isX2_1 (k := 0) rfl) rfl rfl rfl rfl (Nat.le_of_ble_eq_true rfl) dX8_dear_45 hl.1 (fun H locs hw => ?_)
    refine lv_isub hx hb dX8_dear_48 ?_
    obtain ⟨y_5, e_6, hf⟩ := sn_ltE hf
    refine lv_topi (fun y_5_ e_6_ => ?_)
    obtain rfl : y_5 = y_5_ := e_6.trans e_6_.symm
    refine lv_istore (lv' := [(5, .int y_5), (0, .ref (ad 0)), (1, .ref (ad 49)), (2, .int x2), (3, .int x3), (4, .int x4)]) hx hb dX8_dear_49 hl (by decide) rfl (fun ls hl => ?_)
    refine lv_iload hx hb dX8_dear_51 (lv_at hl 0 rfl) ?_
    refine lv_iload_n hx hb dX8_dear_53 rfl (lv_at hl 4 rfl) ?_
    refine lv_icmp_le (tgt := 63) hx hb dX8_dear_54 (by decide) (fun c_7 => ?_) (fun c_7 => ?_)
    · have hf := sn_if c_7 hf
      exact wX8_dear_63 C  hf kc kx _ _ _ hw (lv_sub hl [1, 2, 3, 4, 5] rfl)
    · have hf := sn_el c_7 hf
      refine lv_iload hx hb dX8_dear_57 (lv_at hl 0 rfl) ?_
      refine lv_istore_n (lv' := [(3, .int y_5), (5, .int y_5), (0, .ref (ad 0)), (1, .ref (ad 49)), (2, .int x2), (4, .int x4)]) hx hb dX8_dear_59 rfl hl (by decide) rfl (fun ls hl => ?_)
      refine lv_iload hx hb dX8_dear_60 (lv_at hl 5 rfl) ?_
      refine lv_istore_n (lv' := [(2, .int x4), (3, .int y_5), (5, .int y_5), (0, .ref (ad 0)), (1, .ref (ad 49)), (4, .int x4)]) hx hb dX8_dear_62 rfl hl (by decide) rfl (fun ls hl => ?_)
      exact wX8_dear_63 C  hf kc kx _ _ _ hw (lv_sub hl [3, 4, 0, 1, 5] rfl)
theorem wX8_dear_L22 (C : sn_C p s m args meth c RX8 cX8_dear 6 (some .int) D ct ad layC A) {σ : sn_S}   {z : Int32 × Int32 × Int32} {t : Int32} (h : sn_it (LX8_dear_22 σ) 5000 z = some t) (kx : ∀ v, t = v → sn_At p l e rmX8_dear s m args below meth c Q D ct ad layC A 6 σ 69 [(2, .int v)] []) : sn_At p l e rmX8_dear s m args below meth c Q D ct ad layC A 6 σ 22 [(0, .ref (ad 0)), (1, .ref (ad 49)), (2, .int z.1), (3, .int z.2.1), (4, .int z.2.2)] [] :=
  sn_loop (f := LX8_dear_22 σ) (G := fun z => sn_At p l e rmX8_dear s m args below meth c Q D ct ad layC A 6 σ 22 [(0, .ref (ad 0)), (1, .ref (ad 49)), (2, .int z.1), (3, .int z.2.1), (4, .int z.2.2)] []) (E := fun t => (∀ v, t = v → sn_At p l e rmX8_dear s m args below meth c Q D ct ad layC A 6 σ 69 [(2, .int v)] []) ∧ True) (fun z o hf k1 k2 => wX8_dear_22 C  hf (fun v e => k1 v e) (fun v e => (k2 _ e).1 v rfl)) 5000 z t h ⟨kx, trivial⟩
theorem wX8_dear_in (C : sn_C p s m args meth c RX8 cX8_dear 6 (some .int) D ct ad layC A) {σ : sn_S}  {o : (Int32 × sn_S)} (hf : fX8_dear σ = some o) (kr : sn_Kr p l e rmX8_dear s m args below meth c Q D ct ad layC A cX8_dear .ireturn (true) o.2 [.int o.1]) : sn_At p l e rmX8_dear s m args below meth c Q D ct ad layC A 6 σ 0 [(0, .ref (ad 0))] [] := by
  intro H locs ls hw hl
  have hx := C.1
  have hb := C.2.1
  unfold fX8_dear at hf
  refine lv_aload_n hx hb dX8_dear_0 rfl (lv_at hl 0 rfl) ?_
  obtain ⟨t_1, h_2, hf⟩ := sn_bd hf
  refine sn_callVi (rest := []) C hw (ctX8_isHouse l  h_2) kl_RX8_137 layC_0 rfl rfl rfl rfl (Nat.le_of_ble_eq_true rfl) dX8_dear_1 hl.1 (fun H locs hw => ?_)
  refine lv_if_ne (tgt := 10) hx hb dX8_dear_4 (by decide) (fun c_3 => ?_) (fun c_3 => ?_)
  · have hf := sn_el c_3 hf
    refine lv_aload_n hx hb dX8_dear_10 rfl (lv_at hl 0 rfl) ?_
    obtain ⟨t_4, h_5, hf⟩ := sn_bd hf
    refine sn_callVr (rest := []) C hw (ctX8_ledgerNow l  h_5) kl_RX8_208 layC_0 rfl rfl rfl rfl (Nat.le_of_ble_eq_true rfl) dX8_dear_11 hl.1 (fun H locs hw => ?_)
    refine lv_astore_n (lv' := [(1, .ref (ad 49)), (0, .ref (ad 0))]) hx hb dX8_dear_14 rfl hl (by decide) rfl (fun ls hl => ?_)
    refine lv_iconst (v := (-1)) hx hb dX8_dear_15 rfl ?_
    refine lv_istore_n (lv' := [(2, .int (-1 : Int32)), (1, .ref (ad 49)), (0, .ref (ad 0))]) hx hb dX8_dear_16 rfl hl (by decide) rfl (fun ls hl => ?_)
    refine lv_iconst (v := 0) hx hb dX8_dear_17 rfl ?_
    refine lv_istore_n (lv' := [(3, .int (0 : Int32)), (2, .int (-1 : Int32)), (1, .ref (ad 49)), (0, .ref (ad 0))]) hx hb dX8_dear_18 rfl hl (by decide) rfl (fun ls hl => ?_)
    refine lv_iconst (v := 0) hx hb dX8_dear_19 rfl ?_
    refine lv_istore (lv' := [(4, .int (0 : Int32)), (3, .int (0 : Int32)), (2, .int (-1 : Int32)), (1, .ref (ad 49)), (0, .ref (ad 0))]) hx hb dX8_dear_20 hl (by decide) rfl (fun ls hl => ?_)
    obtain ⟨t_6, h_7, hf⟩ := sn_bd hf
    exact wX8_dear_L22 C  h_7 (fun v e => by cases e; exact wX8_dear_69 C  hf kr) _ _ _ hw (lv_sub hl [4, 3, 2, 1, 0] rfl)
  · have hf := sn_if c_3 hf
    refine lv_bipush (v := (-2)) hx hb dX8_dear_7 (by decide) ?_
    cases hf
    exact kr _ _ _ _ hw rfl dX8_dear_9
theorem ctX8_dear (l : Launch) {σ : sn_S}  {o : (Int32 × sn_S)} (hf : fX8_dear σ = some o) : sn_M l yX8_dear cX8_dear 6 (some .int) rmX8_dear layC (fun ad => [.ref (ad 0)]) σ (some (fun _ => .int o.1)) o.2 :=
  sn_met (by decide) (fun _ => Nat.le_of_ble_eq_true rfl) (fun p e s m args below meth c ls D ct ad A C hw hl => wX8_dear_in C  hf (fun H locs ls pc hw ok hd => sn_iret C hw hd) _ _ _ hw hl)
-- X8_reserve
abbrev rmX8_reserve : Room := { frames := 5, cells := 0, slots := 0, locals := 119 }
def fX8_reserve (σ : sn_S) : Option (Int32 × sn_S) :=
  ((fX8_isHouse σ).bind fun t_1 => (if t_1 = 0 then
  (some ((-2 : Int32), σ))
  else
  (sn_gd (sn_in (3 : Int32) 11) ((fX8_ledgerNow σ).bind fun t_5 => ((fX3_moneyAt t_5 49 ((sn_I t_5 27 0) - (1 : Int32))).bind fun t_7 => (sn_lt ((sn_I σ (1 + 1) (3 : Int32).toNatClampNeg) - t_7) fun y_9 => (sn_lt (if (0 : Int32) < y_9 then y_9 else (0 : Int32)) fun y_11 => (if y_11 ≤ (999 : Int32) then
  (some (y_11, t_5))
  else
  (some ((-1 : Int32), t_5))))))))))
theorem wX8_reserve_in (C : sn_C p s m args meth c RX8 cX8_reserve 3 (some .int) D ct ad layC A) {σ : sn_S}  {o : (Int32 × sn_S)} (hf : fX8_reserve σ = some o) (kr : sn_Kr p l e rmX8_reserve s m args below meth c Q D ct ad layC A cX8_reserve .ireturn (true) o.2 [.int o.1]) : sn_At p l e rmX8_reserve s m args below meth c Q D ct ad layC A 3 σ 0 [(0, .ref (ad 0))] [] := by
  intro H locs ls hw hl
  have hx := C.1
  have hb := C.2.1
  unfold fX8_reserve at hf
  refine lv_aload_n hx hb dX8_reserve_0 rfl (lv_at hl 0 rfl) ?_
  obtain ⟨t_1, h_2, hf⟩ := sn_bd hf
  refine sn_callVi (rest := []) C hw (ctX8_isHouse l  h_2) kl_RX8_137 layC_0 rfl rfl rfl rfl (Nat.le_of_ble_eq_true rfl) dX8_reserve_1 hl.1 (fun H locs hw => ?_)
  refine lv_if_ne (tgt := 10) hx hb dX8_reserve_4 (by decide) (fun c_3 => ?_) (fun c_3 => ?_)
  · have hf := sn_el c_3 hf
    refine lv_aload_n hx hb dX8_reserve_10 rfl (lv_at hl 0 rfl) ?_
    refine sn_getC (r := 1) C hw fd_RX8_10 layC_0 rfl dX8_reserve_11 ?_
    refine sn_getC (r := (1 + 1)) C hw fd_RX8_100 (sn_look sn_isX2_1 (k := 0) rfl) rfl dX8_reserve_14 ?_
    refine lv_iconst (v := 3) hx hb dX8_reserve_17 rfl ?_
    obtain ⟨g_4, hf⟩ := sn_gdE hf
    refine sn_iald C hw (sn_look sn_isX2_1 (k := 1) rfl) g_4 dX8_reserve_18 ?_
    refine lv_aload_n hx hb dX8_reserve_19 rfl (lv_at hl 0 rfl) ?_
    obtain ⟨t_5, h_6, hf⟩ := sn_bd hf
    refine sn_callVr (rest := [.int (sn_I σ (1 + 1) (3 : Int32).toNatClampNeg)]) C hw (ctX8_ledgerNow l  h_6) kl_RX8_208 layC_0 rfl rfl rfl rfl (Nat.le_of_ble_eq_true rfl) dX8_reserve_20 hl.1 (fun H locs hw => ?_)
    refine lv_aload_n hx hb dX8_reserve_23 rfl (lv_at hl 0 rfl) ?_
    refine sn_getC (r := 27) C hw fd_RX8_44 layC_0 rfl dX8_reserve_24 ?_
    refine sn_getI C hw fd_RX8_151 (sn_look sn_isX0_27 (k := 0) rfl) rfl dX8_reserve_27 ?_
    refine lv_iconst (v := 1) hx hb dX8_reserve_30 rfl ?_
    refine lv_isub hx hb dX8_reserve_31 ?_
    obtain ⟨t_7, h_8, hf⟩ := sn_bd hf
    refine sn_callVi (rest := [.int (sn_I σ (1 + 1) (3 : Int32).toNatClampNeg)]) C hw (ctX3_moneyAt l sn_isX3_49 h_8) kl_RX8_222 (sn_look sn_isX3_49 (k := 0) rfl) rfl rfl rfl rfl (Nat.le_of_ble_eq_true rfl) dX8_reserve_32 hl.1 (fun H locs hw => ?_)
    refine lv_isub hx hb dX8_reserve_35 ?_
    obtain ⟨y_9, e_10, hf⟩ := sn_ltE hf
    refine lv_topi (fun y_9_ e_10_ => ?_)
    obtain rfl : y_9 = y_9_ := e_10.trans e_10_.symm
    refine lv_istore_n (lv' := [(1, .int y_9), (0, .ref (ad 0))]) hx hb dX8_reserve_36 rfl hl (by decide) rfl (fun ls hl => ?_)
    refine lv_iconst (v := 0) hx hb dX8_reserve_37 rfl ?_
    refine lv_iload_n hx hb dX8_reserve_38 rfl (lv_at hl 0 rfl) ?_
    refine va_mmax hx hb (C.2.2.1.trans hl.1.symm) C.2.2.2.1 (C.2.2.2.2.1 _ km_RX8_154) (C.2.2.2.2.1 _ kst_maxI) (C.2.2.2.2.1 _ ki_Math) (C.2.2.2.2.1 _ kc_maxI) (Nat.le_of_ble_eq_true rfl) (Nat.le_of_ble_eq_true rfl) (Nat.zero_le _) (Nat.zero_le _) dX8_reserve_39 ?_
    obtain ⟨y_11, e_12, hf⟩ := sn_ltE hf
    refine lv_topi (fun y_11_ e_12_ => ?_)
    obtain rfl : y_11 = y_11_ := e_12.trans e_12_.symm
    refine lv_istore_n (lv' := [(2, .int y_11), (1, .int y_9), (0, .ref (ad 0))]) hx hb dX8_reserve_42 rfl hl (by decide) rfl (fun ls hl => ?_)
    refine lv_iload_n hx hb dX8_reserve_43 rfl (lv_at hl 0 rfl) ?_
    refine lv_sipush (v := 999) hx hb dX8_reserve_44 (by decide) ?_
    refine lv_icmp_le (tgt := 54) hx hb dX8_reserve_47 (by decide) (fun c_13 => ?_) (fun c_13 => ?_)
    · have hf := sn_if c_13 hf
      refine lv_iload_n hx hb dX8_reserve_54 rfl (lv_at hl 0 rfl) ?_
      cases hf
      exact kr _ _ _ _ hw rfl dX8_reserve_55
    · have hf := sn_el c_13 hf
      refine lv_iconst (v := (-1)) hx hb dX8_reserve_50 rfl ?_
      refine lv_goto (tgt := 55) hx hb dX8_reserve_51 (by decide) ?_
      cases hf
      exact kr _ _ _ _ hw rfl dX8_reserve_55
  · have hf := sn_if c_3 hf
    refine lv_bipush (v := (-2)) hx hb dX8_reserve_7 (by decide) ?_
    cases hf
    exact kr _ _ _ _ hw rfl dX8_reserve_9
theorem ctX8_reserve (l : Launch) {σ : sn_S}  {o : (Int32 × sn_S)} (hf : fX8_reserve σ = some o) : sn_M l yX8_reserve cX8_reserve 3 (some .int) rmX8_reserve layC (fun ad => [.ref (ad 0)]) σ (some (fun _ => .int o.1)) o.2 :=
  sn_met (by decide) (fun _ => Nat.le_of_ble_eq_true rfl) (fun p e s m args below meth c ls D ct ad A C hw hl => wX8_reserve_in C  hf (fun H locs ls pc hw ok hd => sn_iret C hw hd) _ _ _ hw hl)
-- X8_moneyInTheEnd
abbrev rmX8_moneyInTheEnd : Room := { frames := 4, cells := 0, slots := 0, locals := 99 }
def fX8_moneyInTheEnd (σ : sn_S) (x1 : Int32) : Option (Int32 × sn_S) :=
  ((fX3_reckon σ 49 1 27 x1).bind fun t_1 => ((fX3_moneyAt t_1 49 ((sn_I t_1 27 0) - (1 : Int32))).bind fun t_3 => (some (t_3, t_1))))
theorem wX8_moneyInTheEnd_in (C : sn_C p s m args meth c RX8 cX8_moneyInTheEnd 2 (some .int) D ct ad layC A) {σ : sn_S} {x1 : Int32}  {o : (Int32 × sn_S)} (hf : fX8_moneyInTheEnd σ x1 = some o) (kr : sn_Kr p l e rmX8_moneyInTheEnd s m args below meth c Q D ct ad layC A cX8_moneyInTheEnd .ireturn (true) o.2 [.int o.1]) : sn_At p l e rmX8_moneyInTheEnd s m args below meth c Q D ct ad layC A 2 σ 0 [(0, .ref (ad 0)), (1, .int x1)] [] := by
  intro H locs ls hw hl
  have hx := C.1
  have hb := C.2.1
  unfold fX8_moneyInTheEnd at hf
  refine lv_aload_n hx hb dX8_moneyInTheEnd_0 rfl (lv_at hl 0 rfl) ?_
  refine sn_getC (r := 49) C hw fd_RX8_54 layC_0 rfl dX8_moneyInTheEnd_1 ?_
  refine lv_aload_n hx hb dX8_moneyInTheEnd_4 rfl (lv_at hl 0 rfl) ?_
  refine sn_getC (r := 1) C hw fd_RX8_10 layC_0 rfl dX8_moneyInTheEnd_5 ?_
  refine lv_aload_n hx hb dX8_moneyInTheEnd_8 rfl (lv_at hl 0 rfl) ?_
  refine sn_getC (r := 27) C hw fd_RX8_44 layC_0 rfl dX8_moneyInTheEnd_9 ?_
  refine lv_iload_n hx hb dX8_moneyInTheEnd_12 rfl (lv_at hl 1 rfl) ?_
  obtain ⟨t_1, h_2, hf⟩ := sn_bd hf
  refine sn_callVv (rest := []) C hw (ctX3_reckon l sn_isX3_49 sn_isX2_1 sn_isX0_27 h_2) kl_RX8_234 (sn_look sn_isX3_49 (k := 0) rfl) rfl rfl rfl rfl (Nat.le_of_ble_eq_true rfl) dX8_moneyInTheEnd_13 hl.1 (fun H locs hw => ?_)
  refine lv_aload_n hx hb dX8_moneyInTheEnd_16 rfl (lv_at hl 0 rfl) ?_
  refine sn_getC (r := 49) C hw fd_RX8_54 layC_0 rfl dX8_moneyInTheEnd_17 ?_
  refine lv_aload_n hx hb dX8_moneyInTheEnd_20 rfl (lv_at hl 0 rfl) ?_
  refine sn_getC (r := 27) C hw fd_RX8_44 layC_0 rfl dX8_moneyInTheEnd_21 ?_
  refine sn_getI C hw fd_RX8_151 (sn_look sn_isX0_27 (k := 0) rfl) rfl dX8_moneyInTheEnd_24 ?_
  refine lv_iconst (v := 1) hx hb dX8_moneyInTheEnd_27 rfl ?_
  refine lv_isub hx hb dX8_moneyInTheEnd_28 ?_
  obtain ⟨t_3, h_4, hf⟩ := sn_bd hf
  refine sn_callVi (rest := []) C hw (ctX3_moneyAt l sn_isX3_49 h_4) kl_RX8_222 (sn_look sn_isX3_49 (k := 0) rfl) rfl rfl rfl rfl (Nat.le_of_ble_eq_true rfl) dX8_moneyInTheEnd_29 hl.1 (fun H locs hw => ?_)
  cases hf
  exact kr _ _ _ _ hw rfl dX8_moneyInTheEnd_32
theorem ctX8_moneyInTheEnd (l : Launch) {σ : sn_S} {x1 : Int32}  {o : (Int32 × sn_S)} (hf : fX8_moneyInTheEnd σ x1 = some o) : sn_M l yX8_moneyInTheEnd cX8_moneyInTheEnd 2 (some .int) rmX8_moneyInTheEnd layC (fun ad => [.ref (ad 0), .int x1]) σ (some (fun _ => .int o.1)) o.2 :=
  sn_met (by decide) (fun _ => Nat.le_of_ble_eq_true rfl) (fun p e s m args below meth c ls D ct ad A C hw hl => wX8_moneyInTheEnd_in C  hf (fun H locs ls pc hw ok hd => sn_iret C hw hd) _ _ _ hw hl)
-- X8_by
abbrev rmX8_by : Room := { frames := 5, cells := 0, slots := 0, locals := 120 }
def BX8_by_16 (σ : sn_S) : Option ((Int32 × sn_S)) :=
  (some ((-100000 : Int32), σ))
def fX8_by (σ : sn_S) (x1 : Int32) : Option (Int32 × sn_S) :=
  ((fX8_isHouse σ).bind fun t_1 => (if t_1 = 0 then
  (BX8_by_16 σ)
  else
  (if x1 < 0 then
  (BX8_by_16 σ)
  else
  (if x1 < (4 : Int32) then
  ((fX8_moneyInTheEnd σ x1).bind fun t_6 => (some (t_6.1, t_6.2)))
  else
  (BX8_by_16 σ)))))
theorem wX8_by_16 (C : sn_C p s m args meth c RX8 cX8_by 2 (some .int) D ct ad layC A) {σ : sn_S}  {o : (Int32 × sn_S)} (hf : BX8_by_16 σ = some o) (kr : sn_Kr p l e rmX8_by s m args below meth c Q D ct ad layC A cX8_by .ireturn (true) o.2 [.int o.1]) : sn_At p l e rmX8_by s m args below meth c Q D ct ad layC A 2 σ 16 [] [] := by
  intro H locs ls hw hl
  have hx := C.1
  have hb := C.2.1
  unfold BX8_by_16 at hf
  refine lv_ldc hx hb C.2.2.2.1 (C.2.2.2.2.1 _ kk_RX8_221) dX8_by_16 ?_
  cases hf
  exact kr _ _ _ _ hw rfl dX8_by_18
theorem wX8_by_in (C : sn_C p s m args meth c RX8 cX8_by 2 (some .int) D ct ad layC A) {σ : sn_S} {x1 : Int32}  {o : (Int32 × sn_S)} (hf : fX8_by σ x1 = some o) (kr : sn_Kr p l e rmX8_by s m args below meth c Q D ct ad layC A cX8_by .ireturn (true) o.2 [.int o.1]) : sn_At p l e rmX8_by s m args below meth c Q D ct ad layC A 2 σ 0 [(0, .ref (ad 0)), (1, .int x1)] [] := by
  intro H locs ls hw hl
  have hx := C.1
  have hb := C.2.1
  unfold fX8_by at hf
  refine lv_aload_n hx hb dX8_by_0 rfl (lv_at hl 0 rfl) ?_
  obtain ⟨t_1, h_2, hf⟩ := sn_bd hf
  refine sn_callVi (rest := []) C hw (ctX8_isHouse l  h_2) kl_RX8_137 layC_0 rfl rfl rfl rfl (Nat.le_of_ble_eq_true rfl) dX8_by_1 hl.1 (fun H locs hw => ?_)
  refine lv_if_eq (tgt := 16) hx hb dX8_by_4 (by decide) (fun c_3 => ?_) (fun c_3 => ?_)
  · have hf := sn_if c_3 hf
    exact wX8_by_16 C  hf kr _ _ _ hw (lv_sub hl [] rfl)
  · have hf := sn_el c_3 hf
    refine lv_iload_n hx hb dX8_by_7 rfl (lv_at hl 1 rfl) ?_
    refine lv_if_lt (tgt := 16) hx hb dX8_by_8 (by decide) (fun c_4 => ?_) (fun c_4 => ?_)
    · have hf := sn_if c_4 hf
      exact wX8_by_16 C  hf kr _ _ _ hw (lv_sub hl [] rfl)
    · have hf := sn_el c_4 hf
      refine lv_iload_n hx hb dX8_by_11 rfl (lv_at hl 1 rfl) ?_
      refine lv_iconst (v := 4) hx hb dX8_by_12 rfl ?_
      refine lv_icmp_lt (tgt := 19) hx hb dX8_by_13 (by decide) (fun c_5 => ?_) (fun c_5 => ?_)
      · have hf := sn_if c_5 hf
        refine lv_aload_n hx hb dX8_by_19 rfl (lv_at hl 0 rfl) ?_
        refine lv_iload_n hx hb dX8_by_20 rfl (lv_at hl 1 rfl) ?_
        obtain ⟨t_6, h_7, hf⟩ := sn_bd hf
        refine sn_callVi (rest := []) C hw (ctX8_moneyInTheEnd l  h_7) kl_RX8_231 layC_0 rfl rfl rfl rfl (Nat.le_of_ble_eq_true rfl) dX8_by_21 hl.1 (fun H locs hw => ?_)
        cases hf
        exact kr _ _ _ _ hw rfl dX8_by_24
      · have hf := sn_el c_5 hf
        exact wX8_by_16 C  hf kr _ _ _ hw (lv_sub hl [] rfl)
theorem ctX8_by (l : Launch) {σ : sn_S} {x1 : Int32}  {o : (Int32 × sn_S)} (hf : fX8_by σ x1 = some o) : sn_M l yX8_by cX8_by 2 (some .int) rmX8_by layC (fun ad => [.ref (ad 0), .int x1]) σ (some (fun _ => .int o.1)) o.2 :=
  sn_met (by decide) (fun _ => Nat.le_of_ble_eq_true rfl) (fun p e s m args below meth c ls D ct ad A C hw hl => wX8_by_in C  hf (fun H locs ls pc hw ok hd => sn_iret C hw hd) _ _ _ hw hl)
-- X8_law
abbrev rmX8_law : Room := { frames := 5, cells := 0, slots := 0, locals := 120 }
def BX8_law_49 (σ : sn_S) (x1 : Int32) : Option ((Int32 × sn_S)) :=
  (some (x1, σ))
def BX8_law_43 (σ : sn_S) (x1 : Int32) (x2 : Int32) (x3 : Int32) : Option ((sn_S × Int32 × Int32 × Int32) ⊕ (sn_S × Int32)) :=
  (sn_lt (x3 + 1) fun y_1 => (some (.inl (σ, x1, x2, y_1))))
def BX8_law_20 (σ : sn_S) (x1 : Int32) (x2 : Int32) (x3 : Int32) : Option ((sn_S × Int32 × Int32 × Int32) ⊕ (sn_S × Int32)) :=
  (if (4 : Int32) ≤ x3 then
  (some (.inr (σ, x1)))
  else
  ((fX8_moneyInTheEnd σ x3).bind fun t_2 => (if t_2.1 ≤ x2 then
  (BX8_law_43 t_2.2 x1 x2 x3)
  else
  (BX8_law_43 t_2.2 x3 t_2.1 x3))))
def LX8_law_20  (s : sn_S × Int32 × Int32 × Int32) : Option ((sn_S × Int32 × Int32 × Int32) ⊕ (sn_S × Int32)) := BX8_law_20 s.1 s.2.1 s.2.2.1 s.2.2.2
def fX8_law (σ : sn_S) : Option (Int32 × sn_S) :=
  ((fX8_isHouse σ).bind fun t_1 => (if t_1 = 0 then
  (some ((-2 : Int32), σ))
  else
  ((fX8_moneyInTheEnd σ (0 : Int32)).bind fun t_4 => ((sn_it (LX8_law_20 ) 5000 (t_4.2, (0 : Int32), t_4.1, (1 : Int32))).bind fun t_6 => (BX8_law_49 t_6.1 t_6.2)))))
theorem wX8_law_49 (C : sn_C p s m args meth c RX8 cX8_law 5 (some .int) D ct ad layC A) {σ : sn_S} {x1 : Int32}  {o : (Int32 × sn_S)} (hf : BX8_law_49 σ x1 = some o) (kr : sn_Kr p l e rmX8_law s m args below meth c Q D ct ad layC A cX8_law .ireturn (true) o.2 [.int o.1]) : sn_At p l e rmX8_law s m args below meth c Q D ct ad layC A 5 σ 49 [(1, .int x1)] [] := by
  intro H locs ls hw hl
  have hx := C.1
  have hb := C.2.1
  unfold BX8_law_49 at hf
  refine lv_iload_n hx hb dX8_law_49 rfl (lv_at hl 0 rfl) ?_
  cases hf
  exact kr _ _ _ _ hw rfl dX8_law_50
theorem wX8_law_43 (C : sn_C p s m args meth c RX8 cX8_law 5 (some .int) D ct ad layC A) {σ : sn_S} {x1 : Int32} {x2 : Int32} {x3 : Int32}  {o : (sn_S × Int32 × Int32 × Int32) ⊕ (sn_S × Int32)} (hf : BX8_law_43 σ x1 x2 x3 = some o) (kc : ∀ v, o = .inl v → sn_At p l e rmX8_law s m args below meth c Q D ct ad layC A 5 v.1 20 [(0, .ref (ad 0)), (1, .int v.2.1), (2, .int v.2.2.1), (3, .int v.2.2.2)] []) (kx : ∀ v, o = .inr v → sn_At p l e rmX8_law s m args below meth c Q D ct ad layC A 5 v.1 49 [(1, .int v.2)] []) : sn_At p l e rmX8_law s m args below meth c Q D ct ad layC A 5 σ 43 [(0, .ref (ad 0)), (1, .int x1), (2, .int x2), (3, .int x3)] [] := by
  intro H locs ls hw hl
  have hx := C.1
  have hb := C.2.1
  unfold BX8_law_43 at hf
  obtain ⟨y_1, e_2, hf⟩ := sn_ltE hf
  refine lv_iinc (v := y_1) (lv' := [(3, .int y_1), (0, .ref (ad 0)), (1, .int x1), (2, .int x2)]) hx hb dX8_law_43 hl (k := 3) rfl (by rw [e_2]; rfl) (by decide) rfl (fun ls hl => ?_)
  refine lv_goto (tgt := 20) hx hb dX8_law_46 (by decide) ?_
  cases hf
  exact kc _ rfl _ _ _ hw (lv_sub hl [1, 2, 3, 0] rfl)
theorem wX8_law_20 (C : sn_C p s m args meth c RX8 cX8_law 5 (some .int) D ct ad layC A) {σ : sn_S} {x1 : Int32} {x2 : Int32} {x3 : Int32}  {o : (sn_S × Int32 × Int32 × Int32) ⊕ (sn_S × Int32)} (hf : BX8_law_20 σ x1 x2 x3 = some o) (kc : ∀ v, o = .inl v → sn_At p l e rmX8_law s m args below meth c Q D ct ad layC A 5 v.1 20 [(0, .ref (ad 0)), (1, .int v.2.1), (2, .int v.2.2.1), (3, .int v.2.2.2)] []) (kx : ∀ v, o = .inr v → sn_At p l e rmX8_law s m args below meth c Q D ct ad layC A 5 v.1 49 [(1, .int v.2)] []) : sn_At p l e rmX8_law s m args below meth c Q D ct ad layC A 5 σ 20 [(0, .ref (ad 0)), (1, .int x1), (2, .int x2), (3, .int x3)] [] := by
  intro H locs ls hw hl
  have hx := C.1
  have hb := C.2.1
  unfold BX8_law_20 at hf
  refine lv_iload_n hx hb dX8_law_20 rfl (lv_at hl 3 rfl) ?_
  refine lv_iconst (v := 4) hx hb dX8_law_21 rfl ?_
  refine lv_icmp_ge (tgt := 49) hx hb dX8_law_22 (by decide) (fun c_1 => ?_) (fun c_1 => ?_)
  · have hf := sn_if c_1 hf
    cases hf
    exact kx _ rfl _ _ _ hw (lv_sub hl [1] rfl)
  · have hf := sn_el c_1 hf
    refine lv_aload_n hx hb dX8_law_25 rfl (lv_at hl 0 rfl) ?_
    refine lv_iload_n hx hb dX8_law_26 rfl (lv_at hl 3 rfl) ?_
    obtain ⟨t_2, h_3, hf⟩ := sn_bd hf
    refine sn_callVi (rest := []) C hw (ctX8_moneyInTheEnd l  h_3) kl_RX8_231 layC_0 rfl rfl rfl rfl (Nat.le_of_ble_eq_true rfl) dX8_law_27 hl.1 (fun H locs hw => ?_)
    refine lv_istore (lv' := [(4, .int t_2.1), (0, .ref (ad 0)), (1, .int x1), (2, .int x2), (3, .int x3)]) hx hb dX8_law_30 hl (by decide) rfl (fun ls hl => ?_)
    refine lv_iload hx hb dX8_law_32 (lv_at hl 0 rfl) ?_
    refine lv_iload_n hx hb dX8_law_34 rfl (lv_at hl 3 rfl) ?_
    refine lv_icmp_le (tgt := 43) hx hb dX8_law_35 (by decide) (fun c_4 => ?_) (fun c_4 => ?_)
    · have hf := sn_if c_4 hf
      exact wX8_law_43 C  hf kc kx _ _ _ hw (lv_sub hl [1, 2, 3, 4] rfl)
    · have hf := sn_el c_4 hf
      refine lv_iload hx hb dX8_law_38 (lv_at hl 0 rfl) ?_
      refine lv_istore_n (lv' := [(2, .int t_2.1), (4, .int t_2.1), (0, .ref (ad 0)), (1, .int x1), (3, .int x3)]) hx hb dX8_law_40 rfl hl (by decide) rfl (fun ls hl => ?_)
      refine lv_iload_n hx hb dX8_law_41 rfl (lv_at hl 4 rfl) ?_
      refine lv_istore_n (lv' := [(1, .int x3), (2, .int t_2.1), (4, .int t_2.1), (0, .ref (ad 0)), (3, .int x3)]) hx hb dX8_law_42 rfl hl (by decide) rfl (fun ls hl => ?_)
      exact wX8_law_43 C  hf kc kx _ _ _ hw (lv_sub hl [3, 0, 1, 4] rfl)
theorem wX8_law_L20 (C : sn_C p s m args meth c RX8 cX8_law 5 (some .int) D ct ad layC A)    {z : sn_S × Int32 × Int32 × Int32} {t : sn_S × Int32} (h : sn_it (LX8_law_20 ) 5000 z = some t) (kx : ∀ v, t = v → sn_At p l e rmX8_law s m args below meth c Q D ct ad layC A 5 v.1 49 [(1, .int v.2)] []) : sn_At p l e rmX8_law s m args below meth c Q D ct ad layC A 5 z.1 20 [(0, .ref (ad 0)), (1, .int z.2.1), (2, .int z.2.2.1), (3, .int z.2.2.2)] [] :=
  sn_loop (f := LX8_law_20 ) (G := fun z => sn_At p l e rmX8_law s m args below meth c Q D ct ad layC A 5 z.1 20 [(0, .ref (ad 0)), (1, .int z.2.1), (2, .int z.2.2.1), (3, .int z.2.2.2)] []) (E := fun t => (∀ v, t = v → sn_At p l e rmX8_law s m args below meth c Q D ct ad layC A 5 v.1 49 [(1, .int v.2)] []) ∧ True) (fun z o hf k1 k2 => wX8_law_20 C  hf (fun v e => k1 v e) (fun v e => (k2 _ e).1 v rfl)) 5000 z t h ⟨kx, trivial⟩
theorem wX8_law_in (C : sn_C p s m args meth c RX8 cX8_law 5 (some .int) D ct ad layC A) {σ : sn_S}  {o : (Int32 × sn_S)} (hf : fX8_law σ = some o) (kr : sn_Kr p l e rmX8_law s m args below meth c Q D ct ad layC A cX8_law .ireturn (true) o.2 [.int o.1]) : sn_At p l e rmX8_law s m args below meth c Q D ct ad layC A 5 σ 0 [(0, .ref (ad 0))] [] := by
  intro H locs ls hw hl
  have hx := C.1
  have hb := C.2.1
  unfold fX8_law at hf
  refine lv_aload_n hx hb dX8_law_0 rfl (lv_at hl 0 rfl) ?_
  obtain ⟨t_1, h_2, hf⟩ := sn_bd hf
  refine sn_callVi (rest := []) C hw (ctX8_isHouse l  h_2) kl_RX8_137 layC_0 rfl rfl rfl rfl (Nat.le_of_ble_eq_true rfl) dX8_law_1 hl.1 (fun H locs hw => ?_)
  refine lv_if_ne (tgt := 10) hx hb dX8_law_4 (by decide) (fun c_3 => ?_) (fun c_3 => ?_)
  · have hf := sn_el c_3 hf
    refine lv_iconst (v := 0) hx hb dX8_law_10 rfl ?_
    refine lv_istore_n (lv' := [(1, .int (0 : Int32)), (0, .ref (ad 0))]) hx hb dX8_law_11 rfl hl (by decide) rfl (fun ls hl => ?_)
    refine lv_aload_n hx hb dX8_law_12 rfl (lv_at hl 1 rfl) ?_
    refine lv_iconst (v := 0) hx hb dX8_law_13 rfl ?_
    obtain ⟨t_4, h_5, hf⟩ := sn_bd hf
    refine sn_callVi (rest := []) C hw (ctX8_moneyInTheEnd l  h_5) kl_RX8_231 layC_0 rfl rfl rfl rfl (Nat.le_of_ble_eq_true rfl) dX8_law_14 hl.1 (fun H locs hw => ?_)
    refine lv_istore_n (lv' := [(2, .int t_4.1), (1, .int (0 : Int32)), (0, .ref (ad 0))]) hx hb dX8_law_17 rfl hl (by decide) rfl (fun ls hl => ?_)
    refine lv_iconst (v := 1) hx hb dX8_law_18 rfl ?_
    refine lv_istore_n (lv' := [(3, .int (1 : Int32)), (2, .int t_4.1), (1, .int (0 : Int32)), (0, .ref (ad 0))]) hx hb dX8_law_19 rfl hl (by decide) rfl (fun ls hl => ?_)
    obtain ⟨t_6, h_7, hf⟩ := sn_bd hf
    exact wX8_law_L20 C  h_7 (fun v e => by cases e; exact wX8_law_49 C  hf kr) _ _ _ hw (lv_sub hl [3, 2, 1, 0] rfl)
  · have hf := sn_if c_3 hf
    refine lv_bipush (v := (-2)) hx hb dX8_law_7 (by decide) ?_
    cases hf
    exact kr _ _ _ _ hw rfl dX8_law_9
theorem ctX8_law (l : Launch) {σ : sn_S}  {o : (Int32 × sn_S)} (hf : fX8_law σ = some o) : sn_M l yX8_law cX8_law 5 (some .int) rmX8_law layC (fun ad => [.ref (ad 0)]) σ (some (fun _ => .int o.1)) o.2 :=
  sn_met (by decide) (fun _ => Nat.le_of_ble_eq_true rfl) (fun p e s m args below meth c ls D ct ad A C hw hl => wX8_law_in C  hf (fun H locs ls pc hw ok hd => sn_iret C hw hd) _ _ _ hw hl)
end
