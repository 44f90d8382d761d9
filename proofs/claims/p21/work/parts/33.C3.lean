section
variable {p : Program} {l : Launch} {e : Env} {s : State} {m : MethodId} {args : Array Value} {below : List Frame} {meth : Method} {c : Code} {Q : State → Prop} {D : va_G} {ct : Nat → ClassId} {ad : Nat → Nat} {A : Nat → Prop} {lay : List sn_E}
-- X5_isWord
abbrev rmX5_isWord : Room := { frames := 4, cells := 0, slots := 0, locals := 85 }
def BX5_isWord_66 (σ : sn_S) (k1 : Nat) : Option (Int32) :=
  (sn_gd (sn_b01 (1 : Int32)) (some (1 : Int32)))
def BX5_isWord_31 (σ : sn_S) (k1 : Nat) (x2 : Int32) : Option ((Int32) ⊕ ((Unit) ⊕ Int32)) :=
  (if (sn_I σ 17 5) ≤ x2 then
  (some (.inr (.inl ())))
  else
  (sn_gd (sn_in x2 900) ((sn_sat k1 (x2 - (sn_I σ 17 4))).bind fun t_3 => (if (sn_I σ 18 x2.toNatClampNeg) = t_3 then
  (sn_lt (x2 + 1) fun y_6 => (some (.inl (y_6))))
  else
  (sn_gd (sn_b01 (0 : Int32)) (some (.inr (.inr (0 : Int32)))))))))
def LX5_isWord_31 (σ : sn_S) (k1 : Nat) (s : Int32) : Option ((Int32) ⊕ ((Unit) ⊕ Int32)) := BX5_isWord_31 σ k1 s
def fX5_isWord (σ : sn_S) (k1 : Nat) : Option Int32 :=
  (if (sn_I σ 17 6) = (1 : Int32) then
  ((sn_slen k1).bind fun t_3 => (if ((sn_I σ 17 5) - (sn_I σ 17 4)) = t_3 then
  (sn_lt (sn_I σ 17 4) fun y_6 => ((sn_it (LX5_isWord_31 σ k1) 5000 (y_6)).bind fun t_8 => Sum.elim (fun v_10 => (BX5_isWord_66 σ k1)) (fun r_11 => (some r_11)) t_8))
  else
  (sn_gd (sn_b01 (0 : Int32)) (some (0 : Int32)))))
  else
  (sn_gd (sn_b01 (0 : Int32)) (some (0 : Int32))))
theorem wX5_isWord_66 (C : sn_C p s m args meth c RX5 cX5_isWord 3 (some .boolean) D ct ad layC A) {σ : sn_S} {k1 : Nat}  {o : Int32} (hf : BX5_isWord_66 σ k1 = some o) (kr : sn_Kr p l e rmX5_isWord s m args below meth c Q D ct ad layC A cX5_isWord .ireturn (sn_b01 o) σ [.int o]) : sn_At p l e rmX5_isWord s m args below meth c Q D ct ad layC A 3 σ 66 [] [] := by
  intro H locs ls hw hl
  have hx := C.1
  have hb := C.2.1
  unfold BX5_isWord_66 at hf
  refine lv_iconst (v := 1) hx hb dX5_isWord_66 rfl ?_
  obtain ⟨g_1, hf⟩ := sn_gdE hf
  cases hf
  exact kr _ _ _ _ hw g_1 dX5_isWord_67
theorem wX5_isWord_31 (C : sn_C p s m args meth c RX5 cX5_isWord 3 (some .boolean) D ct ad layC A) {σ : sn_S} {k1 : Nat} {x2 : Int32}  {o : (Int32) ⊕ ((Unit) ⊕ Int32)} (hf : BX5_isWord_31 σ k1 x2 = some o) (kc : ∀ v, o = .inl v → sn_At p l e rmX5_isWord s m args below meth c Q D ct ad layC A 3 σ 31 [(0, .ref (ad 17)), (1, .ref (ad (1000 + k1))), (2, .int v)] []) (kx : ∀ v, o = .inr (.inl v) → sn_At p l e rmX5_isWord s m args below meth c Q D ct ad layC A 3 σ 66 [] []) (kr : ∀ r, o = .inr (.inr r) → sn_Kr p l e rmX5_isWord s m args below meth c Q D ct ad layC A cX5_isWord .ireturn (sn_b01 r) σ [.int r]) : sn_At p l e rmX5_isWord s m args below meth c Q D ct ad layC A 3 σ 31 [(0, .ref (ad 17)), (1, .ref (ad (1000 + k1))), (2, .int x2)] [] := by
  intro H locs ls hw hl
  have hx := C.1
  have hb := C.2.1
  unfold BX5_isWord_31 at hf
  refine lv_iload_n hx hb dX5_isWord_31 rfl (lv_at hl 2 rfl) ?_
  refine lv_aload_n hx hb dX5_isWord_32 rfl (lv_at hl 0 rfl) ?_
  refine sn_getI C hw fd_RX5_34 layC_17 rfl dX5_isWord_33 ?_
  refine lv_icmp_ge (tgt := 66) hx hb dX5_isWord_36 (by decide) (fun c_1 => ?_) (fun c_1 => ?_)
  · have hf := sn_if c_1 hf
    cases hf
    exact kx _ rfl _ _ _ hw (lv_sub hl [] rfl)
  · have hf := sn_el c_1 hf
    refine lv_aload_n hx hb dX5_isWord_39 rfl (lv_at hl 0 rfl) ?_
    refine sn_getC (r := 18) C hw fd_RX5_9 layC_17 rfl dX5_isWord_40 ?_
    refine lv_iload_n hx hb dX5_isWord_43 rfl (lv_at hl 2 rfl) ?_
    obtain ⟨g_2, hf⟩ := sn_gdE hf
    refine sn_iald C hw layC_18 g_2 dX5_isWord_44 ?_
    refine lv_aload_n hx hb dX5_isWord_45 rfl (lv_at hl 1 rfl) ?_
    refine lv_iload_n hx hb dX5_isWord_46 rfl (lv_at hl 2 rfl) ?_
    refine lv_aload_n hx hb dX5_isWord_47 rfl (lv_at hl 0 rfl) ?_
    refine sn_getI C hw fd_RX5_131 layC_17 rfl dX5_isWord_48 ?_
    refine lv_isub hx hb dX5_isWord_51 ?_
    obtain ⟨t_3, h_4, hf⟩ := sn_bd hf
    refine sn_strat (rest := [.int (sn_I σ 18 x2.toNatClampNeg)]) C hw h_4 kl_RX5_144 rfl (Nat.le_of_ble_eq_true rfl) dX5_isWord_52 hl.1 (fun H locs hw => ?_)
    refine lv_icmp_eq (tgt := 60) hx hb dX5_isWord_55 (by decide) (fun c_5 => ?_) (fun c_5 => ?_)
    · have hf := sn_if c_5 hf
      obtain ⟨y_6, e_7, hf⟩ := sn_ltE hf
      refine lv_iinc (v := y_6) (lv' := [(2, .int y_6), (0, .ref (ad 17)), (1, .ref (ad (1000 + k1)))]) hx hb dX5_isWord_60 hl (k := 2) rfl (by rw [e_7]; rfl) (by decide) rfl (fun ls hl => ?_)
      refine lv_goto (tgt := 31) hx hb dX5_isWord_63 (by decide) ?_
      cases hf
      exact kc _ rfl _ _ _ hw (lv_sub hl [1, 2, 0] rfl)
    · have hf := sn_el c_5 hf
      refine lv_iconst (v := 0) hx hb dX5_isWord_58 rfl ?_
      obtain ⟨g_8, hf⟩ := sn_gdE hf
      cases hf
      exact kr _ rfl _ _ _ _ hw g_8 dX5_isWord_59
theorem wX5_isWord_L31 (C : sn_C p s m args meth c RX5 cX5_isWord 3 (some .boolean) D ct ad layC A) {σ : sn_S} {k1 : Nat}   {z : Int32} {t : (Unit) ⊕ Int32} (h : sn_it (LX5_isWord_31 σ k1) 5000 z = some t) (kx : ∀ v, t = .inl v → sn_At p l e rmX5_isWord s m args below meth c Q D ct ad layC A 3 σ 66 [] []) (kr : ∀ r, t = .inr r → sn_Kr p l e rmX5_isWord s m args below meth c Q D ct ad layC A cX5_isWord .ireturn (sn_b01 r) σ [.int r]) : sn_At p l e rmX5_isWord s m args below meth c Q D ct ad layC A 3 σ 31 [(0, .ref (ad 17)), (1, .ref (ad (1000 + k1))), (2, .int z)] [] :=
  sn_loop (f := LX5_isWord_31 σ k1) (G := fun z => sn_At p l e rmX5_isWord s m args below meth c Q D ct ad layC A 3 σ 31 [(0, .ref (ad 17)), (1, .ref (ad (1000 + k1))), (2, .int z)] []) (E := fun t => (∀ v, t = .inl v → sn_At p l e rmX5_isWord s m args below meth c Q D ct ad layC A 3 σ 66 [] []) ∧ (∀ r, t = .inr r → sn_Kr p l e rmX5_isWord s m args below meth c Q D ct ad layC A cX5_isWord .ireturn (sn_b01 r) σ [.int r])) (fun z o hf k1 k2 => wX5_isWord_31 C  hf (fun v e => k1 v e) (fun v e => (k2 _ e).1 v rfl) (fun r e => (k2 _ e).2 r rfl)) 5000 z t h ⟨kx, kr⟩
theorem wX5_isWord_in (C : sn_C p s m args meth c RX5 cX5_isWord 3 (some .boolean) D ct ad layC A) {σ : sn_S} {k1 : Nat}  {o : Int32} (hf : fX5_isWord σ k1 = some o) (kr : sn_Kr p l e rmX5_isWord s m args below meth c Q D ct ad layC A cX5_isWord .ireturn (sn_b01 o) σ [.int o]) : sn_At p l e rmX5_isWord s m args below meth c Q D ct ad layC A 3 σ 0 [(0, .ref (ad 17)), (1, .ref (ad (1000 + k1)))] [] := by
  intro H locs ls hw hl
  have hx := C.1
  have hb := C.2.1
  unfold fX5_isWord at hf
  refine lv_aload_n hx hb dX5_isWord_0 rfl (lv_at hl 0 rfl) ?_
  refine sn_getI C hw fd_RX5_40 layC_17 rfl dX5_isWord_1 ?_
  refine lv_iconst (v := 1) hx hb dX5_isWord_4 rfl ?_
  refine lv_icmp_ne (tgt := 24) hx hb dX5_isWord_5 (by decide) (fun c_1 => ?_) (fun c_1 => ?_)
  · have hf := sn_el c_1 hf
    refine lv_iconst (v := 0) hx hb dX5_isWord_24 rfl ?_
    obtain ⟨g_2, hf⟩ := sn_gdE hf
    cases hf
    exact kr _ _ _ _ hw g_2 dX5_isWord_25
  · have hf := sn_if c_1 hf
    refine lv_aload_n hx hb dX5_isWord_8 rfl (lv_at hl 0 rfl) ?_
    refine sn_getI C hw fd_RX5_34 layC_17 rfl dX5_isWord_9 ?_
    refine lv_aload_n hx hb dX5_isWord_12 rfl (lv_at hl 0 rfl) ?_
    refine sn_getI C hw fd_RX5_131 layC_17 rfl dX5_isWord_13 ?_
    refine lv_isub hx hb dX5_isWord_16 ?_
    refine lv_aload_n hx hb dX5_isWord_17 rfl (lv_at hl 1 rfl) ?_
    obtain ⟨t_3, h_4, hf⟩ := sn_bd hf
    refine sn_strlen (rest := [.int ((sn_I σ 17 5) - (sn_I σ 17 4))]) C hw h_4 kl_RX5_140 rfl (Nat.le_of_ble_eq_true rfl) dX5_isWord_18 hl.1 (fun H locs hw => ?_)
    refine lv_icmp_eq (tgt := 26) hx hb dX5_isWord_21 (by decide) (fun c_5 => ?_) (fun c_5 => ?_)
    · have hf := sn_if c_5 hf
      refine lv_aload_n hx hb dX5_isWord_26 rfl (lv_at hl 0 rfl) ?_
      refine sn_getI C hw fd_RX5_131 layC_17 rfl dX5_isWord_27 ?_
      obtain ⟨y_6, e_7, hf⟩ := sn_ltE hf
      refine lv_topi (fun y_6_ e_7_ => ?_)
      obtain rfl : y_6 = y_6_ := e_7.trans e_7_.symm
      refine lv_istore_n (lv' := [(2, .int y_6), (0, .ref (ad 17)), (1, .ref (ad (1000 + k1)))]) hx hb dX5_isWord_30 rfl hl (by decide) rfl (fun ls hl => ?_)
      obtain ⟨t_8, h_9, hf⟩ := sn_bd hf
      rcases t_8 with v_10 | r_11
      · rw [Sum.elim_inl] at hf
        exact wX5_isWord_L31 C  h_9 (fun v e => by cases e; exact wX5_isWord_66 C  hf kr) (fun r e => by cases e) _ _ _ hw (lv_sub hl [1, 2, 0] rfl)
      · rw [Sum.elim_inr] at hf
        cases hf
        exact wX5_isWord_L31 C  h_9 (fun v e => by cases e) (fun r e => by cases e; exact kr) _ _ _ hw (lv_sub hl [1, 2, 0] rfl)
    · have hf := sn_el c_5 hf
      refine lv_iconst (v := 0) hx hb dX5_isWord_24 rfl ?_
      obtain ⟨g_12, hf⟩ := sn_gdE hf
      cases hf
      exact kr _ _ _ _ hw g_12 dX5_isWord_25
theorem ctX5_isWord (l : Launch) {σ : sn_S} {k1 : Nat}  {o : Int32} (hf : fX5_isWord σ k1 = some o) : sn_M l yX5_isWord cX5_isWord 3 (some .boolean) rmX5_isWord layC (fun ad => [.ref (ad 17), .ref (ad (1000 + k1))]) σ (some (fun _ => .int o)) σ :=
  sn_met (by decide) (fun _ => Nat.le_of_ble_eq_true rfl) (fun p e s m args below meth c ls D ct ad A C hw hl => wX5_isWord_in C  hf (fun H locs ls pc hw ok hd => sn_zret C hw ok hd) _ _ _ hw hl)
-- X5_blame
abbrev rmX5_blame : Room := { frames := 0, cells := 0, slots := 0, locals := 0 }
def fX5_blame (σ : sn_S) (x1 : Int32) : Option sn_S :=
  (if (sn_I σ 17 2) = 0 then
  (sn_lt (sn_pI σ 17 2 x1) fun σ_2 => (sn_lt (sn_pI σ_2 17 3 (sn_I σ_2 17 4)) fun σ_4 => (some σ_4)))
  else
  (some σ))
theorem wX5_blame_in (C : sn_C p s m args meth c RX5 cX5_blame 2 none D ct ad layC A) {σ : sn_S} {x1 : Int32}  {o : sn_S} (hf : fX5_blame σ x1 = some o) (kr : sn_Kr p l e rmX5_blame s m args below meth c Q D ct ad layC A cX5_blame .return_ (true) o []) : sn_At p l e rmX5_blame s m args below meth c Q D ct ad layC A 2 σ 0 [(0, .ref (ad 17)), (1, .int x1)] [] := by
  intro H locs ls hw hl
  have hx := C.1
  have hb := C.2.1
  unfold fX5_blame at hf
  refine lv_aload_n hx hb dX5_blame_0 rfl (lv_at hl 0 rfl) ?_
  refine sn_getI C hw fd_RX5_31 layC_17 rfl dX5_blame_1 ?_
  refine lv_if_ne (tgt := 20) hx hb dX5_blame_4 (by decide) (fun c_1 => ?_) (fun c_1 => ?_)
  · have hf := sn_el c_1 hf
    cases hf
    exact kr _ _ _ _ hw rfl dX5_blame_20
  · have hf := sn_if c_1 hf
    refine lv_aload_n hx hb dX5_blame_7 rfl (lv_at hl 0 rfl) ?_
    refine lv_iload_n hx hb dX5_blame_8 rfl (lv_at hl 1 rfl) ?_
    refine sn_putI C hw fp_RX5_31 layC_17 rfl dX5_blame_9 (fun H locs hw => ?_)
    obtain ⟨σ_2, e_3, hf⟩ := sn_ltE hf
    rw [← e_3] at hw
    refine lv_aload_n hx hb dX5_blame_12 rfl (lv_at hl 0 rfl) ?_
    refine lv_aload_n hx hb dX5_blame_13 rfl (lv_at hl 0 rfl) ?_
    refine sn_getI C hw fd_RX5_131 layC_17 rfl dX5_blame_14 ?_
    refine sn_putI C hw fp_RX5_15 layC_17 rfl dX5_blame_17 (fun H locs hw => ?_)
    obtain ⟨σ_4, e_5, hf⟩ := sn_ltE hf
    rw [← e_5] at hw
    cases hf
    exact kr _ _ _ _ hw rfl dX5_blame_20
theorem ctX5_blame (l : Launch) {σ : sn_S} {x1 : Int32}  {o : sn_S} (hf : fX5_blame σ x1 = some o) : sn_M l yX5_blame cX5_blame 2 none rmX5_blame layC (fun ad => [.ref (ad 17), .int x1]) σ none o :=
  sn_met (by decide) (fun _ => Nat.le_of_ble_eq_true rfl) (fun p e s m args below meth c ls D ct ad A C hw hl => wX5_blame_in C  hf (fun H locs ls pc hw ok hd => sn_vret C hw hd) _ _ _ hw hl)
-- X5_word
abbrev rmX5_word : Room := { frames := 5, cells := 0, slots := 0, locals := 107 }
def fX5_word (σ : sn_S) (k1 : Nat) : Option sn_S :=
  ((fX5_isWord σ k1).bind fun t_1 => (if t_1 = 0 then
  ((fX5_blame σ (1 : Int32)).bind fun t_4 => (some t_4))
  else
  ((fX5_step σ).bind fun t_6 => (some t_6))))
theorem wX5_word_in (C : sn_C p s m args meth c RX5 cX5_word 2 none D ct ad layC A) {σ : sn_S} {k1 : Nat}  {o : sn_S} (hf : fX5_word σ k1 = some o) (kr : sn_Kr p l e rmX5_word s m args below meth c Q D ct ad layC A cX5_word .return_ (true) o []) : sn_At p l e rmX5_word s m args below meth c Q D ct ad layC A 2 σ 0 [(0, .ref (ad 17)), (1, .ref (ad (1000 + k1)))] [] := by
  intro H locs ls hw hl
  have hx := C.1
  have hb := C.2.1
  unfold fX5_word at hf
  refine lv_aload_n hx hb dX5_word_0 rfl (lv_at hl 0 rfl) ?_
  refine lv_aload_n hx hb dX5_word_1 rfl (lv_at hl 1 rfl) ?_
  obtain ⟨t_1, h_2, hf⟩ := sn_bd hf
  refine sn_callVi (rest := []) C hw (ctX5_isWord l  h_2) kl_RX5_77 layC_17 rfl rfl rfl rfl (Nat.le_of_ble_eq_true rfl) dX5_word_2 hl.1 (fun H locs hw => ?_)
  refine lv_if_eq (tgt := 15) hx hb dX5_word_5 (by decide) (fun c_3 => ?_) (fun c_3 => ?_)
  · have hf := sn_if c_3 hf
    refine lv_aload_n hx hb dX5_word_15 rfl (lv_at hl 0 rfl) ?_
    refine lv_iconst (v := 1) hx hb dX5_word_16 rfl ?_
    obtain ⟨t_4, h_5, hf⟩ := sn_bd hf
    refine sn_callVv (rest := []) C hw (ctX5_blame l  h_5) kl_RX5_100 layC_17 rfl rfl rfl rfl (Nat.le_of_ble_eq_true rfl) dX5_word_17 hl.1 (fun H locs hw => ?_)
    cases hf
    exact kr _ _ _ _ hw rfl dX5_word_20
  · have hf := sn_el c_3 hf
    refine lv_aload_n hx hb dX5_word_8 rfl (lv_at hl 0 rfl) ?_
    obtain ⟨t_6, h_7, hf⟩ := sn_bd hf
    refine sn_callVv (rest := []) C hw (ctX5_step l  h_7) kl_RX5_37 layC_17 rfl rfl rfl rfl (Nat.le_of_ble_eq_true rfl) dX5_word_9 hl.1 (fun H locs hw => ?_)
    refine lv_goto (tgt := 20) hx hb dX5_word_12 (by decide) ?_
    cases hf
    exact kr _ _ _ _ hw rfl dX5_word_20
theorem ctX5_word (l : Launch) {σ : sn_S} {k1 : Nat}  {o : sn_S} (hf : fX5_word σ k1 = some o) : sn_M l yX5_word cX5_word 2 none rmX5_word layC (fun ad => [.ref (ad 17), .ref (ad (1000 + k1))]) σ none o :=
  sn_met (by decide) (fun _ => Nat.le_of_ble_eq_true rfl) (fun p e s m args below meth c ls D ct ad A C hw hl => wX5_word_in C  hf (fun H locs ls pc hw ok hd => sn_vret C hw hd) _ _ _ hw hl)
-- X5_value
abbrev rmX5_value : Room := { frames := 1, cells := 0, slots := 0, locals := 32 }
def BX5_value_41 (σ : sn_S) (x1 : Int32) : Option (Int32) :=
  (some x1)
def BX5_value_7 (σ : sn_S) (x1 : Int32) (x2 : Int32) : Option ((Int32 × Int32) ⊕ (Int32)) :=
  (if (sn_I σ 17 5) ≤ x2 then
  (some (.inr (x1)))
  else
  (sn_gd (sn_in x2 900) (sn_lt (if ((((10 : Int32) * x1) + (sn_I σ 18 x2.toNatClampNeg)) - (48 : Int32)) < (1000000 : Int32) then ((((10 : Int32) * x1) + (sn_I σ 18 x2.toNatClampNeg)) - (48 : Int32)) else (1000000 : Int32)) fun y_3 => (sn_lt (x2 + 1) fun y_5 => (some (.inl (y_3, y_5)))))))
def LX5_value_7 (σ : sn_S) (s : Int32 × Int32) : Option ((Int32 × Int32) ⊕ (Int32)) := BX5_value_7 σ s.1 s.2
def fX5_value (σ : sn_S) : Option Int32 :=
  (sn_lt (sn_I σ 17 4) fun y_1 => ((sn_it (LX5_value_7 σ) 5000 ((0 : Int32), y_1)).bind fun t_3 => (BX5_value_41 σ t_3)))
theorem wX5_value_41 (C : sn_C p s m args meth c RX5 cX5_value 3 (some .int) D ct ad layC A) {σ : sn_S} {x1 : Int32}  {o : Int32} (hf : BX5_value_41 σ x1 = some o) (kr : sn_Kr p l e rmX5_value s m args below meth c Q D ct ad layC A cX5_value .ireturn (true) σ [.int o]) : sn_At p l e rmX5_value s m args below meth c Q D ct ad layC A 3 σ 41 [(1, .int x1)] [] := by
  intro H locs ls hw hl
  have hx := C.1
  have hb := C.2.1
  unfold BX5_value_41 at hf
  refine lv_iload_n hx hb dX5_value_41 rfl (lv_at hl 0 rfl) ?_
  cases hf
  exact kr _ _ _ _ hw rfl dX5_value_42
theorem wX5_value_7 (C : sn_C p s m args meth c RX5 cX5_value 3 (some .int) D ct ad layC A) {σ : sn_S} {x1 : Int32} {x2 : Int32}  {o : (Int32 × Int32) ⊕ (Int32)} (hf : BX5_value_7 σ x1 x2 = some o) (kc : ∀ v, o = .inl v → sn_At p l e rmX5_value s m args below meth c Q D ct ad layC A 3 σ 7 [(0, .ref (ad 17)), (1, .int v.1), (2, .int v.2)] []) (kx : ∀ v, o = .inr v → sn_At p l e rmX5_value s m args below meth c Q D ct ad layC A 3 σ 41 [(1, .int v)] []) : sn_At p l e rmX5_value s m args below meth c Q D ct ad layC A 3 σ 7 [(0, .ref (ad 17)), (1, .int x1), (2, .int x2)] [] := by
  intro H locs ls hw hl
  have hx := C.1
  have hb := C.2.1
  unfold BX5_value_7 at hf
  refine lv_iload_n hx hb dX5_value_7 rfl (lv_at hl 2 rfl) ?_
  refine lv_aload_n hx hb dX5_value_8 rfl (lv_at hl 0 rfl) ?_
  refine sn_getI C hw fd_RX5_34 layC_17 rfl dX5_value_9 ?_
  refine lv_icmp_ge (tgt := 41) hx hb dX5_value_12 (by decide) (fun c_1 => ?_) (fun c_1 => ?_)
  · have hf := sn_if c_1 hf
    cases hf
    exact kx _ rfl _ _ _ hw (lv_sub hl [1] rfl)
  · have hf := sn_el c_1 hf
    refine lv_ldc hx hb C.2.2.2.1 (C.2.2.2.2.1 _ kk_RX5_133) dX5_value_15 ?_
    refine lv_bipush (v := 10) hx hb dX5_value_17 (by decide) ?_
    refine lv_iload_n hx hb dX5_value_19 rfl (lv_at hl 1 rfl) ?_
    refine lv_imul hx hb dX5_value_20 ?_
    refine lv_aload_n hx hb dX5_value_21 rfl (lv_at hl 0 rfl) ?_
    refine sn_getC (r := 18) C hw fd_RX5_9 layC_17 rfl dX5_value_22 ?_
    refine lv_iload_n hx hb dX5_value_25 rfl (lv_at hl 2 rfl) ?_
    obtain ⟨g_2, hf⟩ := sn_gdE hf
    refine sn_iald C hw layC_18 g_2 dX5_value_26 ?_
    refine lv_iadd hx hb dX5_value_27 ?_
    refine lv_bipush (v := 48) hx hb dX5_value_28 (by decide) ?_
    refine lv_isub hx hb dX5_value_30 ?_
    refine va_mmin hx hb (C.2.2.1.trans hl.1.symm) C.2.2.2.1 (C.2.2.2.2.1 _ km_RX5_134) (C.2.2.2.2.1 _ kst_minI) (C.2.2.2.2.1 _ ki_Math) (C.2.2.2.2.1 _ kc_minI) (Nat.le_of_ble_eq_true rfl) (Nat.le_of_ble_eq_true rfl) (Nat.zero_le _) (Nat.zero_le _) dX5_value_31 ?_
    obtain ⟨y_3, e_4, hf⟩ := sn_ltE hf
    refine lv_topi (fun y_3_ e_4_ => ?_)
    obtain rfl : y_3 = y_3_ := e_4.trans e_4_.symm
    refine lv_istore_n (lv' := [(1, .int y_3), (0, .ref (ad 17)), (2, .int x2)]) hx hb dX5_value_34 rfl hl (by decide) rfl (fun ls hl => ?_)
    obtain ⟨y_5, e_6, hf⟩ := sn_ltE hf
    refine lv_iinc (v := y_5) (lv' := [(2, .int y_5), (1, .int y_3), (0, .ref (ad 17))]) hx hb dX5_value_35 hl (k := 2) rfl (by rw [e_6]; rfl) (by decide) rfl (fun ls hl => ?_)
    refine lv_goto (tgt := 7) hx hb dX5_value_38 (by decide) ?_
    cases hf
    exact kc _ rfl _ _ _ hw (lv_sub hl [2, 1, 0] rfl)
theorem wX5_value_L7 (C : sn_C p s m args meth c RX5 cX5_value 3 (some .int) D ct ad layC A) {σ : sn_S}   {z : Int32 × Int32} {t : Int32} (h : sn_it (LX5_value_7 σ) 5000 z = some t) (kx : ∀ v, t = v → sn_At p l e rmX5_value s m args below meth c Q D ct ad layC A 3 σ 41 [(1, .int v)] []) : sn_At p l e rmX5_value s m args below meth c Q D ct ad layC A 3 σ 7 [(0, .ref (ad 17)), (1, .int z.1), (2, .int z.2)] [] :=
  sn_loop (f := LX5_value_7 σ) (G := fun z => sn_At p l e rmX5_value s m args below meth c Q D ct ad layC A 3 σ 7 [(0, .ref (ad 17)), (1, .int z.1), (2, .int z.2)] []) (E := fun t => (∀ v, t = v → sn_At p l e rmX5_value s m args below meth c Q D ct ad layC A 3 σ 41 [(1, .int v)] []) ∧ True) (fun z o hf k1 k2 => wX5_value_7 C  hf (fun v e => k1 v e) (fun v e => (k2 _ e).1 v rfl)) 5000 z t h ⟨kx, trivial⟩
theorem wX5_value_in (C : sn_C p s m args meth c RX5 cX5_value 3 (some .int) D ct ad layC A) {σ : sn_S}  {o : Int32} (hf : fX5_value σ = some o) (kr : sn_Kr p l e rmX5_value s m args below meth c Q D ct ad layC A cX5_value .ireturn (true) σ [.int o]) : sn_At p l e rmX5_value s m args below meth c Q D ct ad layC A 3 σ 0 [(0, .ref (ad 17))] [] := by
  intro H locs ls hw hl
  have hx := C.1
  have hb := C.2.1
  unfold fX5_value at hf
  refine lv_iconst (v := 0) hx hb dX5_value_0 rfl ?_
  refine lv_istore_n (lv' := [(1, .int (0 : Int32)), (0, .ref (ad 17))]) hx hb dX5_value_1 rfl hl (by decide) rfl (fun ls hl => ?_)
  refine lv_aload_n hx hb dX5_value_2 rfl (lv_at hl 1 rfl) ?_
  refine sn_getI C hw fd_RX5_131 layC_17 rfl dX5_value_3 ?_
  obtain ⟨y_1, e_2, hf⟩ := sn_ltE hf
  refine lv_topi (fun y_1_ e_2_ => ?_)
  obtain rfl : y_1 = y_1_ := e_2.trans e_2_.symm
  refine lv_istore_n (lv' := [(2, .int y_1), (1, .int (0 : Int32)), (0, .ref (ad 17))]) hx hb dX5_value_6 rfl hl (by decide) rfl (fun ls hl => ?_)
  obtain ⟨t_3, h_4, hf⟩ := sn_bd hf
  exact wX5_value_L7 C  h_4 (fun v e => by cases e; exact wX5_value_41 C  hf kr) _ _ _ hw (lv_sub hl [2, 1, 0] rfl)
theorem ctX5_value (l : Launch) {σ : sn_S}  {o : Int32} (hf : fX5_value σ = some o) : sn_M l yX5_value cX5_value 3 (some .int) rmX5_value layC (fun ad => [.ref (ad 17)]) σ (some (fun _ => .int o)) σ :=
  sn_met (by decide) (fun _ => Nat.le_of_ble_eq_true rfl) (fun p e s m args below meth c ls D ct ad A C hw hl => wX5_value_in C  hf (fun H locs ls pc hw ok hd => sn_iret C hw hd) _ _ _ hw hl)
-- X5_number
abbrev rmX5_number : Room := { frames := 2, cells := 0, slots := 0, locals := 54 }
def BX5_number_44 (σ : sn_S) (x4 : Int32) : Option ((Int32 × sn_S)) :=
  ((fX5_step σ).bind fun t_1 => (some (x4, t_1)))
def BX5_number_39 (σ : sn_S) (x4 : Int32) : Option ((Int32 × sn_S)) :=
  ((fX5_blame σ (2 : Int32)).bind fun t_1 => (BX5_number_44 t_1 x4))
def fX5_number (σ : sn_S) (x1 : Int32) (x2 : Int32) (x3 : Int32) : Option (Int32 × sn_S) :=
  (if (sn_I σ 17 6) = (2 : Int32) then
  ((fX5_value σ).bind fun t_2 => (if t_2 < x1 then
  (BX5_number_39 σ t_2)
  else
  (if x2 < t_2 then
  (BX5_number_39 σ t_2)
  else
  (if t_2 = x3 then
  (BX5_number_39 σ t_2)
  else
  (BX5_number_44 σ t_2)))))
  else
  ((fX5_blame σ (1 : Int32)).bind fun t_7 => (some ((0 : Int32), t_7))))
theorem wX5_number_44 (C : sn_C p s m args meth c RX5 cX5_number 5 (some .int) D ct ad layC A) {σ : sn_S} {x4 : Int32}  {o : (Int32 × sn_S)} (hf : BX5_number_44 σ x4 = some o) (kr : sn_Kr p l e rmX5_number s m args below meth c Q D ct ad layC A cX5_number .ireturn (true) o.2 [.int o.1]) : sn_At p l e rmX5_number s m args below meth c Q D ct ad layC A 5 σ 44 [(0, .ref (ad 17)), (4, .int x4)] [] := by
  intro H locs ls hw hl
  have hx := C.1
  have hb := C.2.1
  unfold BX5_number_44 at hf
  refine lv_aload_n hx hb dX5_number_44 rfl (lv_at hl 0 rfl) ?_
  obtain ⟨t_1, h_2, hf⟩ := sn_bd hf
  refine sn_callVv (rest := []) C hw (ctX5_step l  h_2) kl_RX5_37 layC_17 rfl rfl rfl rfl (Nat.le_of_ble_eq_true rfl) dX5_number_45 hl.1 (fun H locs hw => ?_)
  refine lv_iload hx hb dX5_number_48 (lv_at hl 1 rfl) ?_
  cases hf
  exact kr _ _ _ _ hw rfl dX5_number_50
theorem wX5_number_39 (C : sn_C p s m args meth c RX5 cX5_number 5 (some .int) D ct ad layC A) {σ : sn_S} {x4 : Int32}  {o : (Int32 × sn_S)} (hf : BX5_number_39 σ x4 = some o) (kr : sn_Kr p l e rmX5_number s m args below meth c Q D ct ad layC A cX5_number .ireturn (true) o.2 [.int o.1]) : sn_At p l e rmX5_number s m args below meth c Q D ct ad layC A 5 σ 39 [(0, .ref (ad 17)), (4, .int x4)] [] := by
  intro H locs ls hw hl
  have hx := C.1
  have hb := C.2.1
  unfold BX5_number_39 at hf
  refine lv_aload_n hx hb dX5_number_39 rfl (lv_at hl 0 rfl) ?_
  refine lv_iconst (v := 2) hx hb dX5_number_40 rfl ?_
  obtain ⟨t_1, h_2, hf⟩ := sn_bd hf
  refine sn_callVv (rest := []) C hw (ctX5_blame l  h_2) kl_RX5_100 layC_17 rfl rfl rfl rfl (Nat.le_of_ble_eq_true rfl) dX5_number_41 hl.1 (fun H locs hw => ?_)
  exact wX5_number_44 C  hf kr _ _ _ hw (lv_sub hl [0, 1] rfl)
theorem wX5_number_in (C : sn_C p s m args meth c RX5 cX5_number 5 (some .int) D ct ad layC A) {σ : sn_S} {x1 : Int32} {x2 : Int32} {x3 : Int32}  {o : (Int32 × sn_S)} (hf : fX5_number σ x1 x2 x3 = some o) (kr : sn_Kr p l e rmX5_number s m args below meth c Q D ct ad layC A cX5_number .ireturn (true) o.2 [.int o.1]) : sn_At p l e rmX5_number s m args below meth c Q D ct ad layC A 5 σ 0 [(0, .ref (ad 17)), (1, .int x1), (2, .int x2), (3, .int x3)] [] := by
  intro H locs ls hw hl
  have hx := C.1
  have hb := C.2.1
  unfold fX5_number at hf
  refine lv_aload_n hx hb dX5_number_0 rfl (lv_at hl 0 rfl) ?_
  refine sn_getI C hw fd_RX5_40 layC_17 rfl dX5_number_1 ?_
  refine lv_iconst (v := 2) hx hb dX5_number_4 rfl ?_
  refine lv_icmp_eq (tgt := 15) hx hb dX5_number_5 (by decide) (fun c_1 => ?_) (fun c_1 => ?_)
  · have hf := sn_if c_1 hf
    refine lv_aload_n hx hb dX5_number_15 rfl (lv_at hl 0 rfl) ?_
    obtain ⟨t_2, h_3, hf⟩ := sn_bd hf
    refine sn_callVi (rest := []) C hw (ctX5_value l  h_3) kl_RX5_127 layC_17 rfl rfl rfl rfl (Nat.le_of_ble_eq_true rfl) dX5_number_16 hl.1 (fun H locs hw => ?_)
    refine lv_istore (lv' := [(4, .int t_2), (0, .ref (ad 17)), (1, .int x1), (2, .int x2), (3, .int x3)]) hx hb dX5_number_19 hl (by decide) rfl (fun ls hl => ?_)
    refine lv_iload hx hb dX5_number_21 (lv_at hl 0 rfl) ?_
    refine lv_iload_n hx hb dX5_number_23 rfl (lv_at hl 2 rfl) ?_
    refine lv_icmp_lt (tgt := 39) hx hb dX5_number_24 (by decide) (fun c_4 => ?_) (fun c_4 => ?_)
    · have hf := sn_if c_4 hf
      exact wX5_number_39 C  hf kr _ _ _ hw (lv_sub hl [1, 0] rfl)
    · have hf := sn_el c_4 hf
      refine lv_iload hx hb dX5_number_27 (lv_at hl 0 rfl) ?_
      refine lv_iload_n hx hb dX5_number_29 rfl (lv_at hl 3 rfl) ?_
      refine lv_icmp_gt (tgt := 39) hx hb dX5_number_30 (by decide) (fun c_5 => ?_) (fun c_5 => ?_)
      · have hf := sn_if c_5 hf
        exact wX5_number_39 C  hf kr _ _ _ hw (lv_sub hl [1, 0] rfl)
      · have hf := sn_el c_5 hf
        refine lv_iload hx hb dX5_number_33 (lv_at hl 0 rfl) ?_
        refine lv_iload_n hx hb dX5_number_35 rfl (lv_at hl 4 rfl) ?_
        refine lv_icmp_ne (tgt := 44) hx hb dX5_number_36 (by decide) (fun c_6 => ?_) (fun c_6 => ?_)
        · have hf := sn_el c_6 hf
          exact wX5_number_44 C  hf kr _ _ _ hw (lv_sub hl [1, 0] rfl)
        · have hf := sn_if c_6 hf
          exact wX5_number_39 C  hf kr _ _ _ hw (lv_sub hl [1, 0] rfl)
  · have hf := sn_el c_1 hf
    refine lv_aload_n hx hb dX5_number_8 rfl (lv_at hl 0 rfl) ?_
    refine lv_iconst (v := 1) hx hb dX5_number_9 rfl ?_
    obtain ⟨t_7, h_8, hf⟩ := sn_bd hf
    refine sn_callVv (rest := []) C hw (ctX5_blame l  h_8) kl_RX5_100 layC_17 rfl rfl rfl rfl (Nat.le_of_ble_eq_true rfl) dX5_number_10 hl.1 (fun H locs hw => ?_)
    refine lv_iconst (v := 0) hx hb dX5_number_13 rfl ?_
    cases hf
    exact kr _ _ _ _ hw rfl dX5_number_14
theorem ctX5_number (l : Launch) {σ : sn_S} {x1 : Int32} {x2 : Int32} {x3 : Int32}  {o : (Int32 × sn_S)} (hf : fX5_number σ x1 x2 x3 = some o) : sn_M l yX5_number cX5_number 5 (some .int) rmX5_number layC (fun ad => [.ref (ad 17), .int x1, .int x2, .int x3]) σ (some (fun _ => .int o.1)) o.2 :=
  sn_met (by decide) (fun _ => Nat.le_of_ble_eq_true rfl) (fun p e s m args below meth c ls D ct ad A C hw hl => wX5_number_in C  hf (fun H locs ls pc hw ok hd => sn_iret C hw hd) _ _ _ hw hl)
-- X5_sign
abbrev rmX5_sign : Room := { frames := 2, cells := 0, slots := 0, locals := 52 }
def fX5_sign (σ : sn_S) : Option sn_S :=
  (if (sn_I σ 17 6) = (3 : Int32) then
  ((fX5_step σ).bind fun t_4 => (some t_4))
  else
  ((fX5_blame σ (1 : Int32)).bind fun t_2 => (some t_2)))
theorem wX5_sign_in (C : sn_C p s m args meth c RX5 cX5_sign 1 none D ct ad layC A) {σ : sn_S}  {o : sn_S} (hf : fX5_sign σ = some o) (kr : sn_Kr p l e rmX5_sign s m args below meth c Q D ct ad layC A cX5_sign .return_ (true) o []) : sn_At p l e rmX5_sign s m args below meth c Q D ct ad layC A 1 σ 0 [(0, .ref (ad 17))] [] := by
  intro H locs ls hw hl
  have hx := C.1
  have hb := C.2.1
  unfold fX5_sign at hf
  refine lv_aload_n hx hb dX5_sign_0 rfl (lv_at hl 0 rfl) ?_
  refine sn_getI C hw fd_RX5_40 layC_17 rfl dX5_sign_1 ?_
  refine lv_iconst (v := 3) hx hb dX5_sign_4 rfl ?_
  refine lv_icmp_ne (tgt := 15) hx hb dX5_sign_5 (by decide) (fun c_1 => ?_) (fun c_1 => ?_)
  · have hf := sn_el c_1 hf
    refine lv_aload_n hx hb dX5_sign_15 rfl (lv_at hl 0 rfl) ?_
    refine lv_iconst (v := 1) hx hb dX5_sign_16 rfl ?_
    obtain ⟨t_2, h_3, hf⟩ := sn_bd hf
    refine sn_callVv (rest := []) C hw (ctX5_blame l  h_3) kl_RX5_100 layC_17 rfl rfl rfl rfl (Nat.le_of_ble_eq_true rfl) dX5_sign_17 hl.1 (fun H locs hw => ?_)
    cases hf
    exact kr _ _ _ _ hw rfl dX5_sign_20
  · have hf := sn_if c_1 hf
    refine lv_aload_n hx hb dX5_sign_8 rfl (lv_at hl 0 rfl) ?_
    obtain ⟨t_4, h_5, hf⟩ := sn_bd hf
    refine sn_callVv (rest := []) C hw (ctX5_step l  h_5) kl_RX5_37 layC_17 rfl rfl rfl rfl (Nat.le_of_ble_eq_true rfl) dX5_sign_9 hl.1 (fun H locs hw => ?_)
    refine lv_goto (tgt := 20) hx hb dX5_sign_12 (by decide) ?_
    cases hf
    exact kr _ _ _ _ hw rfl dX5_sign_20
theorem ctX5_sign (l : Launch) {σ : sn_S}  {o : sn_S} (hf : fX5_sign σ = some o) : sn_M l yX5_sign cX5_sign 1 none rmX5_sign layC (fun ad => [.ref (ad 17)]) σ none o :=
  sn_met (by decide) (fun _ => Nat.le_of_ble_eq_true rfl) (fun p e s m args below meth c ls D ct ad A C hw hl => wX5_sign_in C  hf (fun H locs ls pc hw ok hd => sn_vret C hw hd) _ _ _ hw hl)
-- X5_readHouse
abbrev rmX5_readHouse : Room := { frames := 6, cells := 0, slots := 0, locals := 128 }
def fX5_readHouse (σ : sn_S) : Option sn_S :=
  ((fX5_word σ 0).bind fun t_1 => ((fX5_word t_1 1).bind fun t_3 => (sn_gd (sn_R t_3 17 7 == some 8) ((fX5_number t_3 (1 : Int32) (30 : Int32) (-1 : Int32)).bind fun t_6 => (sn_gd (sn_in (0 : Int32) 11) (sn_lt (sn_pI t_6.2 (8 + 1) (0 : Int32).toNatClampNeg t_6.1) fun σ_9 => ((fX5_word σ_9 2).bind fun t_11 => (sn_gd (sn_R t_11 17 7 == some 8) ((fX5_number t_11 (0 : Int32) (9 : Int32) (-1 : Int32)).bind fun t_14 => (sn_gd (sn_in (1 : Int32) 11) (sn_lt (sn_pI t_14.2 (8 + 1) (1 : Int32).toNatClampNeg t_14.1) fun σ_17 => ((fX5_word σ_17 3).bind fun t_19 => (sn_gd (sn_R t_19 17 7 == some 8) ((fX5_number t_19 (0 : Int32) (3 : Int32) (-1 : Int32)).bind fun t_22 => (sn_gd (sn_in (2 : Int32) 11) (sn_lt (sn_pI t_22.2 (8 + 1) (2 : Int32).toNatClampNeg t_22.1) fun σ_25 => ((fX5_word σ_25 4).bind fun t_27 => (sn_gd (sn_R t_27 17 7 == some 8) ((fX5_number t_27 (0 : Int32) (999 : Int32) (-1 : Int32)).bind fun t_30 => (sn_gd (sn_in (3 : Int32) 11) (sn_lt (sn_pI t_30.2 (8 + 1) (3 : Int32).toNatClampNeg t_30.1) fun σ_33 => ((fX5_word σ_33 5).bind fun t_35 => (sn_gd (sn_R t_35 17 7 == some 8) ((fX5_number t_35 (0 : Int32) (10 : Int32) (-1 : Int32)).bind fun t_38 => (sn_gd (sn_in (4 : Int32) 11) (sn_lt (sn_pI t_38.2 (8 + 1) (4 : Int32).toNatClampNeg t_38.1) fun σ_41 => ((fX5_sign σ_41).bind fun t_43 => (some t_43))))))))))))))))))))))))))))
theorem wX5_readHouse_in (C : sn_C p s m args meth c RX5 cX5_readHouse 1 none D ct ad layC A) {σ : sn_S}  {o : sn_S} (hf : fX5_readHouse σ = some o) (kr : sn_Kr p l e rmX5_readHouse s m args below meth c Q D ct ad layC A cX5_readHouse .return_ (true) o []) : sn_At p l e rmX5_readHouse s m args below meth c Q D ct ad layC A 1 σ 0 [(0, .ref (ad 17))] [] := by
  intro H locs ls hw hl
  have hx := C.1
  have hb := C.2.1
  unfold fX5_readHouse at hf
  refine lv_aload_n hx hb dX5_readHouse_0 rfl (lv_at hl 0 rfl) ?_
  refine va_ldcS (tx := "house") (q := ad (1000 + 0)) hx hb C.2.2.2.1 (sn_sr_0 C.2.2.2.2.2.2.2.2.2) dX5_readHouse_1 ?_
  obtain ⟨t_1, h_2, hf⟩ := sn_bd hf
  refine sn_callVv (rest := []) C hw (ctX5_word l  h_2) kl_RX5_54 layC_17 rfl rfl rfl rfl (Nat.le_of_ble_eq_true rfl) dX5_readHouse_3 hl.1 (fun H locs hw => ?_)
  refine lv_aload_n hx hb dX5_readHouse_6 rfl (lv_at hl 0 rfl) ?_
  refine va_ldcS (tx := "minutes") (q := ad (1000 + 1)) hx hb C.2.2.2.1 (sn_sr_1 C.2.2.2.2.2.2.2.2.2) dX5_readHouse_7 ?_
  obtain ⟨t_3, h_4, hf⟩ := sn_bd hf
  refine sn_callVv (rest := []) C hw (ctX5_word l  h_4) kl_RX5_54 layC_17 rfl rfl rfl rfl (Nat.le_of_ble_eq_true rfl) dX5_readHouse_9 hl.1 (fun H locs hw => ?_)
  refine lv_aload_n hx hb dX5_readHouse_12 rfl (lv_at hl 0 rfl) ?_
  obtain ⟨g_5, hf⟩ := sn_gdE hf
  refine sn_getR (r := 8) C hw fd_RX5_22 layC_17 rfl (by simpa using g_5) dX5_readHouse_13 ?_
  refine sn_getC (r := (8 + 1)) C hw fd_RX5_49 (sn_look sn_isX2_8 (k := 0) rfl) rfl dX5_readHouse_16 ?_
  refine lv_iconst (v := 0) hx hb dX5_readHouse_19 rfl ?_
  refine lv_aload_n hx hb dX5_readHouse_20 rfl (lv_at hl 0 rfl) ?_
  refine lv_iconst (v := 1) hx hb dX5_readHouse_21 rfl ?_
  refine lv_bipush (v := 30) hx hb dX5_readHouse_22 (by decide) ?_
  refine lv_iconst (v := (-1)) hx hb dX5_readHouse_24 rfl ?_
  obtain ⟨t_6, h_7, hf⟩ := sn_bd hf
  refine sn_callVi (rest := [.int (0 : Int32), .ref (ad (8 + 1))]) C hw (ctX5_number l  h_7) kl_RX5_60 layC_17 rfl rfl rfl rfl (Nat.le_of_ble_eq_true rfl) dX5_readHouse_25 hl.1 (fun H locs hw => ?_)
  obtain ⟨g_8, hf⟩ := sn_gdE hf
  refine sn_iast C hw (sn_look sn_isX2_8 (k := 1) rfl) g_8 dX5_readHouse_28 (fun H locs hw => ?_)
  obtain ⟨σ_9, e_10, hf⟩ := sn_ltE hf
  rw [← e_10] at hw
  refine lv_aload_n hx hb dX5_readHouse_29 rfl (lv_at hl 0 rfl) ?_
  refine va_ldcS (tx := "dust") (q := ad (1000 + 2)) hx hb C.2.2.2.1 (sn_sr_2 C.2.2.2.2.2.2.2.2.2) dX5_readHouse_30 ?_
  obtain ⟨t_11, h_12, hf⟩ := sn_bd hf
  refine sn_callVv (rest := []) C hw (ctX5_word l  h_12) kl_RX5_54 layC_17 rfl rfl rfl rfl (Nat.le_of_ble_eq_true rfl) dX5_readHouse_32 hl.1 (fun H locs hw => ?_)
  refine lv_aload_n hx hb dX5_readHouse_35 rfl (lv_at hl 0 rfl) ?_
  obtain ⟨g_13, hf⟩ := sn_gdE hf
  refine sn_getR (r := 8) C hw fd_RX5_22 layC_17 rfl (by simpa using g_13) dX5_readHouse_36 ?_
  refine sn_getC (r := (8 + 1)) C hw fd_RX5_49 (sn_look sn_isX2_8 (k := 0) rfl) rfl dX5_readHouse_39 ?_
  refine lv_iconst (v := 1) hx hb dX5_readHouse_42 rfl ?_
  refine lv_aload_n hx hb dX5_readHouse_43 rfl (lv_at hl 0 rfl) ?_
  refine lv_iconst (v := 0) hx hb dX5_readHouse_44 rfl ?_
  refine lv_bipush (v := 9) hx hb dX5_readHouse_45 (by decide) ?_
  refine lv_iconst (v := (-1)) hx hb dX5_readHouse_47 rfl ?_
  obtain ⟨t_14, h_15, hf⟩ := sn_bd hf
  refine sn_callVi (rest := [.int (1 : Int32), .ref (ad (8 + 1))]) C hw (ctX5_number l  h_15) kl_RX5_60 layC_17 rfl rfl rfl rfl (Nat.le_of_ble_eq_true rfl) dX5_readHouse_48 hl.1 (fun H locs hw => ?_)
  obtain ⟨g_16, hf⟩ := sn_gdE hf
  refine sn_iast C hw (sn_look sn_isX2_8 (k := 1) rfl) g_16 dX5_readHouse_51 (fun H locs hw => ?_)
  obtain ⟨σ_17, e_18, hf⟩ := sn_ltE hf
  rw [← e_18] at hw
  refine lv_aload_n hx hb dX5_readHouse_52 rfl (lv_at hl 0 rfl) ?_
  refine va_ldcS (tx := "law") (q := ad (1000 + 3)) hx hb C.2.2.2.1 (sn_sr_3 C.2.2.2.2.2.2.2.2.2) dX5_readHouse_53 ?_
  obtain ⟨t_19, h_20, hf⟩ := sn_bd hf
  refine sn_callVv (rest := []) C hw (ctX5_word l  h_20) kl_RX5_54 layC_17 rfl rfl rfl rfl (Nat.le_of_ble_eq_true rfl) dX5_readHouse_55 hl.1 (fun H locs hw => ?_)
  refine lv_aload_n hx hb dX5_readHouse_58 rfl (lv_at hl 0 rfl) ?_
  obtain ⟨g_21, hf⟩ := sn_gdE hf
  refine sn_getR (r := 8) C hw fd_RX5_22 layC_17 rfl (by simpa using g_21) dX5_readHouse_59 ?_
  refine sn_getC (r := (8 + 1)) C hw fd_RX5_49 (sn_look sn_isX2_8 (k := 0) rfl) rfl dX5_readHouse_62 ?_
  refine lv_iconst (v := 2) hx hb dX5_readHouse_65 rfl ?_
  refine lv_aload_n hx hb dX5_readHouse_66 rfl (lv_at hl 0 rfl) ?_
  refine lv_iconst (v := 0) hx hb dX5_readHouse_67 rfl ?_
  refine lv_iconst (v := 3) hx hb dX5_readHouse_68 rfl ?_
  refine lv_iconst (v := (-1)) hx hb dX5_readHouse_69 rfl ?_
  obtain ⟨t_22, h_23, hf⟩ := sn_bd hf
  refine sn_callVi (rest := [.int (2 : Int32), .ref (ad (8 + 1))]) C hw (ctX5_number l  h_23) kl_RX5_60 layC_17 rfl rfl rfl rfl (Nat.le_of_ble_eq_true rfl) dX5_readHouse_70 hl.1 (fun H locs hw => ?_)
  obtain ⟨g_24, hf⟩ := sn_gdE hf
  refine sn_iast C hw (sn_look sn_isX2_8 (k := 1) rfl) g_24 dX5_readHouse_73 (fun H locs hw => ?_)
  obtain ⟨σ_25, e_26, hf⟩ := sn_ltE hf
  rw [← e_26] at hw
  refine lv_aload_n hx hb dX5_readHouse_74 rfl (lv_at hl 0 rfl) ?_
  refine va_ldcS (tx := "money") (q := ad (1000 + 4)) hx hb C.2.2.2.1 (sn_sr_4 C.2.2.2.2.2.2.2.2.2) dX5_readHouse_75 ?_
  obtain ⟨t_27, h_28, hf⟩ := sn_bd hf
  refine sn_callVv (rest := []) C hw (ctX5_word l  h_28) kl_RX5_54 layC_17 rfl rfl rfl rfl (Nat.le_of_ble_eq_true rfl) dX5_readHouse_77 hl.1 (fun H locs hw => ?_)
  refine lv_aload_n hx hb dX5_readHouse_80 rfl (lv_at hl 0 rfl) ?_
  obtain ⟨g_29, hf⟩ := sn_gdE hf
  refine sn_getR (r := 8) C hw fd_RX5_22 layC_17 rfl (by simpa using g_29) dX5_readHouse_81 ?_
  refine sn_getC (r := (8 + 1)) C hw fd_RX5_49 (sn_look sn_isX2_8 (k := 0) rfl) rfl dX5_readHouse_84 ?_
  refine lv_iconst (v := 3) hx hb dX5_readHouse_87 rfl ?_
  refine lv_aload_n hx hb dX5_readHouse_88 rfl (lv_at hl 0 rfl) ?_
  refine lv_iconst (v := 0) hx hb dX5_readHouse_89 rfl ?_
  refine lv_sipush (v := 999) hx hb dX5_readHouse_90 (by decide) ?_
  refine lv_iconst (v := (-1)) hx hb dX5_readHouse_93 rfl ?_
  obtain ⟨t_30, h_31, hf⟩ := sn_bd hf
  refine sn_callVi (rest := [.int (3 : Int32), .ref (ad (8 + 1))]) C hw (ctX5_number l  h_31) kl_RX5_60 layC_17 rfl rfl rfl rfl (Nat.le_of_ble_eq_true rfl) dX5_readHouse_94 hl.1 (fun H locs hw => ?_)
  obtain ⟨g_32, hf⟩ := sn_gdE hf
  refine sn_iast C hw (sn_look sn_isX2_8 (k := 1) rfl) g_32 dX5_readHouse_97 (fun H locs hw => ?_)
  obtain ⟨σ_33, e_34, hf⟩ := sn_ltE hf
  rw [← e_34] at hw
  refine lv_aload_n hx hb dX5_readHouse_98 rfl (lv_at hl 0 rfl) ?_
  refine va_ldcS (tx := "odds") (q := ad (1000 + 5)) hx hb C.2.2.2.1 (sn_sr_5 C.2.2.2.2.2.2.2.2.2) dX5_readHouse_99 ?_
  obtain ⟨t_35, h_36, hf⟩ := sn_bd hf
  refine sn_callVv (rest := []) C hw (ctX5_word l  h_36) kl_RX5_54 layC_17 rfl rfl rfl rfl (Nat.le_of_ble_eq_true rfl) dX5_readHouse_101 hl.1 (fun H locs hw => ?_)
  refine lv_aload_n hx hb dX5_readHouse_104 rfl (lv_at hl 0 rfl) ?_
  obtain ⟨g_37, hf⟩ := sn_gdE hf
  refine sn_getR (r := 8) C hw fd_RX5_22 layC_17 rfl (by simpa using g_37) dX5_readHouse_105 ?_
  refine sn_getC (r := (8 + 1)) C hw fd_RX5_49 (sn_look sn_isX2_8 (k := 0) rfl) rfl dX5_readHouse_108 ?_
  refine lv_iconst (v := 4) hx hb dX5_readHouse_111 rfl ?_
  refine lv_aload_n hx hb dX5_readHouse_112 rfl (lv_at hl 0 rfl) ?_
  refine lv_iconst (v := 0) hx hb dX5_readHouse_113 rfl ?_
  refine lv_bipush (v := 10) hx hb dX5_readHouse_114 (by decide) ?_
  refine lv_iconst (v := (-1)) hx hb dX5_readHouse_116 rfl ?_
  obtain ⟨t_38, h_39, hf⟩ := sn_bd hf
  refine sn_callVi (rest := [.int (4 : Int32), .ref (ad (8 + 1))]) C hw (ctX5_number l  h_39) kl_RX5_60 layC_17 rfl rfl rfl rfl (Nat.le_of_ble_eq_true rfl) dX5_readHouse_117 hl.1 (fun H locs hw => ?_)
  obtain ⟨g_40, hf⟩ := sn_gdE hf
  refine sn_iast C hw (sn_look sn_isX2_8 (k := 1) rfl) g_40 dX5_readHouse_120 (fun H locs hw => ?_)
  obtain ⟨σ_41, e_42, hf⟩ := sn_ltE hf
  rw [← e_42] at hw
  refine lv_aload_n hx hb dX5_readHouse_121 rfl (lv_at hl 0 rfl) ?_
  obtain ⟨t_43, h_44, hf⟩ := sn_bd hf
  refine sn_callVv (rest := []) C hw (ctX5_sign l  h_44) kl_RX5_72 layC_17 rfl rfl rfl rfl (Nat.le_of_ble_eq_true rfl) dX5_readHouse_122 hl.1 (fun H locs hw => ?_)
  cases hf
  exact kr _ _ _ _ hw rfl dX5_readHouse_125
theorem ctX5_readHouse (l : Launch) {σ : sn_S}  {o : sn_S} (hf : fX5_readHouse σ = some o) : sn_M l yX5_readHouse cX5_readHouse 1 none rmX5_readHouse layC (fun ad => [.ref (ad 17)]) σ none o :=
  sn_met (by decide) (fun _ => Nat.le_of_ble_eq_true rfl) (fun p e s m args below meth c ls D ct ad A C hw hl => wX5_readHouse_in C  hf (fun H locs ls pc hw ok hd => sn_vret C hw hd) _ _ _ hw hl)
-- X5_readNose
abbrev rmX5_readNose : Room := { frames := 6, cells := 0, slots := 0, locals := 128 }
def fX5_readNose (σ : sn_S) (x1 : Int32) : Option sn_S :=
  (if x1 < (6 : Int32) then
  ((fX5_word σ 6).bind fun t_2 => (sn_gd (sn_R t_2 17 7 == some 8) ((fX5_number t_2 (0 : Int32) (9 : Int32) (-1 : Int32)).bind fun t_5 => (sn_gd (sn_in ((2 : Int32) * x1) 12) (sn_lt (sn_pI t_5.2 (8 + 2) ((2 : Int32) * x1).toNatClampNeg t_5.1) fun σ_8 => ((fX5_word σ_8 10).bind fun t_10 => (sn_gd (sn_R t_10 17 7 == some 8) ((fX5_number t_10 (1 : Int32) (99 : Int32) (-1 : Int32)).bind fun t_13 => (sn_gd (sn_in (((2 : Int32) * x1) + (1 : Int32)) 12) (sn_lt (sn_pI t_13.2 (8 + 2) (((2 : Int32) * x1) + (1 : Int32)).toNatClampNeg t_13.1) fun σ_16 => ((fX5_sign σ_16).bind fun t_18 => (sn_gd (sn_R t_18 17 7 == some 8) (sn_gd (sn_in (5 : Int32) 11) (sn_lt (sn_pI t_18 (8 + 1) (5 : Int32).toNatClampNeg (x1 + (1 : Int32))) fun σ_22 => (some σ_22)))))))))))))))
  else
  ((fX5_blame σ (3 : Int32)).bind fun t_24 => (some t_24)))
theorem wX5_readNose_in (C : sn_C p s m args meth c RX5 cX5_readNose 2 none D ct ad layC A) {σ : sn_S} {x1 : Int32}  {o : sn_S} (hf : fX5_readNose σ x1 = some o) (kr : sn_Kr p l e rmX5_readNose s m args below meth c Q D ct ad layC A cX5_readNose .return_ (true) o []) : sn_At p l e rmX5_readNose s m args below meth c Q D ct ad layC A 2 σ 0 [(0, .ref (ad 17)), (1, .int x1)] [] := by
  intro H locs ls hw hl
  have hx := C.1
  have hb := C.2.1
  unfold fX5_readNose at hf
  refine lv_iload_n hx hb dX5_readNose_0 rfl (lv_at hl 1 rfl) ?_
  refine lv_bipush (v := 6) hx hb dX5_readNose_1 (by decide) ?_
  refine lv_icmp_lt (tgt := 12) hx hb dX5_readNose_3 (by decide) (fun c_1 => ?_) (fun c_1 => ?_)
  · have hf := sn_if c_1 hf
    refine lv_aload_n hx hb dX5_readNose_12 rfl (lv_at hl 0 rfl) ?_
    refine va_ldcS (tx := "nose") (q := ad (1000 + 6)) hx hb C.2.2.2.1 (sn_sr_6 C.2.2.2.2.2.2.2.2.2) dX5_readNose_13 ?_
    obtain ⟨t_2, h_3, hf⟩ := sn_bd hf
    refine sn_callVv (rest := []) C hw (ctX5_word l  h_3) kl_RX5_54 layC_17 rfl rfl rfl rfl (Nat.le_of_ble_eq_true rfl) dX5_readNose_15 hl.1 (fun H locs hw => ?_)
    refine lv_aload_n hx hb dX5_readNose_18 rfl (lv_at hl 0 rfl) ?_
    obtain ⟨g_4, hf⟩ := sn_gdE hf
    refine sn_getR (r := 8) C hw fd_RX5_22 layC_17 rfl (by simpa using g_4) dX5_readNose_19 ?_
    refine sn_getC (r := (8 + 2)) C hw fd_RX5_103 (sn_look sn_isX2_8 (k := 0) rfl) rfl dX5_readNose_22 ?_
    refine lv_iconst (v := 2) hx hb dX5_readNose_25 rfl ?_
    refine lv_iload_n hx hb dX5_readNose_26 rfl (lv_at hl 1 rfl) ?_
    refine lv_imul hx hb dX5_readNose_27 ?_
    refine lv_aload_n hx hb dX5_readNose_28 rfl (lv_at hl 0 rfl) ?_
    refine lv_iconst (v := 0) hx hb dX5_readNose_29 rfl ?_
    refine lv_bipush (v := 9) hx hb dX5_readNose_30 (by decide) ?_
    refine lv_iconst (v := (-1)) hx hb dX5_readNose_32 rfl ?_
    obtain ⟨t_5, h_6, hf⟩ := sn_bd hf
    refine sn_callVi (rest := [.int ((2 : Int32) * x1), .ref (ad (8 + 2))]) C hw (ctX5_number l  h_6) kl_RX5_60 layC_17 rfl rfl rfl rfl (Nat.le_of_ble_eq_true rfl) dX5_readNose_33 hl.1 (fun H locs hw => ?_)
    obtain ⟨g_7, hf⟩ := sn_gdE hf
    refine sn_iast C hw (sn_look sn_isX2_8 (k := 2) rfl) g_7 dX5_readNose_36 (fun H locs hw => ?_)
    obtain ⟨σ_8, e_9, hf⟩ := sn_ltE hf
    rw [← e_9] at hw
    refine lv_aload_n hx hb dX5_readNose_37 rfl (lv_at hl 0 rfl) ?_
    refine va_ldcS (tx := "holds") (q := ad (1000 + 10)) hx hb C.2.2.2.1 (sn_sr_10 C.2.2.2.2.2.2.2.2.2) dX5_readNose_38 ?_
    obtain ⟨t_10, h_11, hf⟩ := sn_bd hf
    refine sn_callVv (rest := []) C hw (ctX5_word l  h_11) kl_RX5_54 layC_17 rfl rfl rfl rfl (Nat.le_of_ble_eq_true rfl) dX5_readNose_40 hl.1 (fun H locs hw => ?_)
    refine lv_aload_n hx hb dX5_readNose_43 rfl (lv_at hl 0 rfl) ?_
    obtain ⟨g_12, hf⟩ := sn_gdE hf
    refine sn_getR (r := 8) C hw fd_RX5_22 layC_17 rfl (by simpa using g_12) dX5_readNose_44 ?_
    refine sn_getC (r := (8 + 2)) C hw fd_RX5_103 (sn_look sn_isX2_8 (k := 0) rfl) rfl dX5_readNose_47 ?_
    refine lv_iconst (v := 2) hx hb dX5_readNose_50 rfl ?_
    refine lv_iload_n hx hb dX5_readNose_51 rfl (lv_at hl 1 rfl) ?_
    refine lv_imul hx hb dX5_readNose_52 ?_
    refine lv_iconst (v := 1) hx hb dX5_readNose_53 rfl ?_
    refine lv_iadd hx hb dX5_readNose_54 ?_
    refine lv_aload_n hx hb dX5_readNose_55 rfl (lv_at hl 0 rfl) ?_
    refine lv_iconst (v := 1) hx hb dX5_readNose_56 rfl ?_
    refine lv_bipush (v := 99) hx hb dX5_readNose_57 (by decide) ?_
    refine lv_iconst (v := (-1)) hx hb dX5_readNose_59 rfl ?_
    obtain ⟨t_13, h_14, hf⟩ := sn_bd hf
    refine sn_callVi (rest := [.int (((2 : Int32) * x1) + (1 : Int32)), .ref (ad (8 + 2))]) C hw (ctX5_number l  h_14) kl_RX5_60 layC_17 rfl rfl rfl rfl (Nat.le_of_ble_eq_true rfl) dX5_readNose_60 hl.1 (fun H locs hw => ?_)
    obtain ⟨g_15, hf⟩ := sn_gdE hf
    refine sn_iast C hw (sn_look sn_isX2_8 (k := 2) rfl) g_15 dX5_readNose_63 (fun H locs hw => ?_)
    obtain ⟨σ_16, e_17, hf⟩ := sn_ltE hf
    rw [← e_17] at hw
    refine lv_aload_n hx hb dX5_readNose_64 rfl (lv_at hl 0 rfl) ?_
    obtain ⟨t_18, h_19, hf⟩ := sn_bd hf
    refine sn_callVv (rest := []) C hw (ctX5_sign l  h_19) kl_RX5_72 layC_17 rfl rfl rfl rfl (Nat.le_of_ble_eq_true rfl) dX5_readNose_65 hl.1 (fun H locs hw => ?_)
    refine lv_aload_n hx hb dX5_readNose_68 rfl (lv_at hl 0 rfl) ?_
    obtain ⟨g_20, hf⟩ := sn_gdE hf
    refine sn_getR (r := 8) C hw fd_RX5_22 layC_17 rfl (by simpa using g_20) dX5_readNose_69 ?_
    refine sn_getC (r := (8 + 1)) C hw fd_RX5_49 (sn_look sn_isX2_8 (k := 0) rfl) rfl dX5_readNose_72 ?_
    refine lv_iconst (v := 5) hx hb dX5_readNose_75 rfl ?_
    refine lv_iload_n hx hb dX5_readNose_76 rfl (lv_at hl 1 rfl) ?_
    refine lv_iconst (v := 1) hx hb dX5_readNose_77 rfl ?_
    refine lv_iadd hx hb dX5_readNose_78 ?_
    obtain ⟨g_21, hf⟩ := sn_gdE hf
    refine sn_iast C hw (sn_look sn_isX2_8 (k := 1) rfl) g_21 dX5_readNose_79 (fun H locs hw => ?_)
    obtain ⟨σ_22, e_23, hf⟩ := sn_ltE hf
    rw [← e_23] at hw
    cases hf
    exact kr _ _ _ _ hw rfl dX5_readNose_80
  · have hf := sn_el c_1 hf
    refine lv_aload_n hx hb dX5_readNose_6 rfl (lv_at hl 0 rfl) ?_
    refine lv_iconst (v := 3) hx hb dX5_readNose_7 rfl ?_
    obtain ⟨t_24, h_25, hf⟩ := sn_bd hf
    refine sn_callVv (rest := []) C hw (ctX5_blame l  h_25) kl_RX5_100 layC_17 rfl rfl rfl rfl (Nat.le_of_ble_eq_true rfl) dX5_readNose_8 hl.1 (fun H locs hw => ?_)
    cases hf
    exact kr _ _ _ _ hw rfl dX5_readNose_11
theorem ctX5_readNose (l : Launch) {σ : sn_S} {x1 : Int32}  {o : sn_S} (hf : fX5_readNose σ x1 = some o) : sn_M l yX5_readNose cX5_readNose 2 none rmX5_readNose layC (fun ad => [.ref (ad 17), .int x1]) σ none o :=
  sn_met (by decide) (fun _ => Nat.le_of_ble_eq_true rfl) (fun p e s m args below meth c ls D ct ad A C hw hl => wX5_readNose_in C  hf (fun H locs ls pc hw ok hd => sn_vret C hw hd) _ _ _ hw hl)
-- X5_readGust
abbrev rmX5_readGust : Room := { frames := 6, cells := 0, slots := 0, locals := 128 }
def fX5_readGust (σ : sn_S) (x1 : Int32) : Option sn_S :=
  (if x1 < (5 : Int32) then
  ((fX5_word σ 7).bind fun t_2 => (sn_gd (sn_R t_2 17 7 == some 8) ((fX5_number t_2 (1 : Int32) (9 : Int32) (-1 : Int32)).bind fun t_5 => (sn_gd (sn_in ((2 : Int32) * x1) 10) (sn_lt (sn_pI t_5.2 (8 + 3) ((2 : Int32) * x1).toNatClampNeg t_5.1) fun σ_8 => ((fX5_word σ_8 11).bind fun t_10 => (sn_gd (sn_R t_10 17 7 == some 8) ((fX5_number t_10 (0 : Int32) (29 : Int32) (-1 : Int32)).bind fun t_13 => (sn_gd (sn_in (((2 : Int32) * x1) + (1 : Int32)) 10) (sn_lt (sn_pI t_13.2 (8 + 3) (((2 : Int32) * x1) + (1 : Int32)).toNatClampNeg t_13.1) fun σ_16 => ((fX5_sign σ_16).bind fun t_18 => (sn_gd (sn_R t_18 17 7 == some 8) (sn_gd (sn_in (6 : Int32) 11) (sn_lt (sn_pI t_18 (8 + 1) (6 : Int32).toNatClampNeg (x1 + (1 : Int32))) fun σ_22 => (some σ_22)))))))))))))))
  else
  ((fX5_blame σ (3 : Int32)).bind fun t_24 => (some t_24)))
theorem wX5_readGust_in (C : sn_C p s m args meth c RX5 cX5_readGust 2 none D ct ad layC A) {σ : sn_S} {x1 : Int32}  {o : sn_S} (hf : fX5_readGust σ x1 = some o) (kr : sn_Kr p l e rmX5_readGust s m args below meth c Q D ct ad layC A cX5_readGust .return_ (true) o []) : sn_At p l e rmX5_readGust s m args below meth c Q D ct ad layC A 2 σ 0 [(0, .ref (ad 17)), (1, .int x1)] [] := by
  intro H locs ls hw hl
  have hx := C.1
  have hb := C.2.1
  unfold fX5_readGust at hf
  refine lv_iload_n hx hb dX5_readGust_0 rfl (lv_at hl 1 rfl) ?_
  refine lv_iconst (v := 5) hx hb dX5_readGust_1 rfl ?_
  refine lv_icmp_lt (tgt := 11) hx hb dX5_readGust_2 (by decide) (fun c_1 => ?_) (fun c_1 => ?_)
  · have hf := sn_if c_1 hf
    refine lv_aload_n hx hb dX5_readGust_11 rfl (lv_at hl 0 rfl) ?_
    refine va_ldcS (tx := "gust") (q := ad (1000 + 7)) hx hb C.2.2.2.1 (sn_sr_7 C.2.2.2.2.2.2.2.2.2) dX5_readGust_12 ?_
    obtain ⟨t_2, h_3, hf⟩ := sn_bd hf
    refine sn_callVv (rest := []) C hw (ctX5_word l  h_3) kl_RX5_54 layC_17 rfl rfl rfl rfl (Nat.le_of_ble_eq_true rfl) dX5_readGust_14 hl.1 (fun H locs hw => ?_)
    refine lv_aload_n hx hb dX5_readGust_17 rfl (lv_at hl 0 rfl) ?_
    obtain ⟨g_4, hf⟩ := sn_gdE hf
    refine sn_getR (r := 8) C hw fd_RX5_22 layC_17 rfl (by simpa using g_4) dX5_readGust_18 ?_
    refine sn_getC (r := (8 + 3)) C hw fd_RX5_108 (sn_look sn_isX2_8 (k := 0) rfl) rfl dX5_readGust_21 ?_
    refine lv_iconst (v := 2) hx hb dX5_readGust_24 rfl ?_
    refine lv_iload_n hx hb dX5_readGust_25 rfl (lv_at hl 1 rfl) ?_
    refine lv_imul hx hb dX5_readGust_26 ?_
    refine lv_aload_n hx hb dX5_readGust_27 rfl (lv_at hl 0 rfl) ?_
    refine lv_iconst (v := 1) hx hb dX5_readGust_28 rfl ?_
    refine lv_bipush (v := 9) hx hb dX5_readGust_29 (by decide) ?_
    refine lv_iconst (v := (-1)) hx hb dX5_readGust_31 rfl ?_
    obtain ⟨t_5, h_6, hf⟩ := sn_bd hf
    refine sn_callVi (rest := [.int ((2 : Int32) * x1), .ref (ad (8 + 3))]) C hw (ctX5_number l  h_6) kl_RX5_60 layC_17 rfl rfl rfl rfl (Nat.le_of_ble_eq_true rfl) dX5_readGust_32 hl.1 (fun H locs hw => ?_)
    obtain ⟨g_7, hf⟩ := sn_gdE hf
    refine sn_iast C hw (sn_look sn_isX2_8 (k := 3) rfl) g_7 dX5_readGust_35 (fun H locs hw => ?_)
    obtain ⟨σ_8, e_9, hf⟩ := sn_ltE hf
    rw [← e_9] at hw
    refine lv_aload_n hx hb dX5_readGust_36 rfl (lv_at hl 0 rfl) ?_
    refine va_ldcS (tx := "at") (q := ad (1000 + 11)) hx hb C.2.2.2.1 (sn_sr_11 C.2.2.2.2.2.2.2.2.2) dX5_readGust_37 ?_
    obtain ⟨t_10, h_11, hf⟩ := sn_bd hf
    refine sn_callVv (rest := []) C hw (ctX5_word l  h_11) kl_RX5_54 layC_17 rfl rfl rfl rfl (Nat.le_of_ble_eq_true rfl) dX5_readGust_39 hl.1 (fun H locs hw => ?_)
    refine lv_aload_n hx hb dX5_readGust_42 rfl (lv_at hl 0 rfl) ?_
    obtain ⟨g_12, hf⟩ := sn_gdE hf
    refine sn_getR (r := 8) C hw fd_RX5_22 layC_17 rfl (by simpa using g_12) dX5_readGust_43 ?_
    refine sn_getC (r := (8 + 3)) C hw fd_RX5_108 (sn_look sn_isX2_8 (k := 0) rfl) rfl dX5_readGust_46 ?_
    refine lv_iconst (v := 2) hx hb dX5_readGust_49 rfl ?_
    refine lv_iload_n hx hb dX5_readGust_50 rfl (lv_at hl 1 rfl) ?_
    refine lv_imul hx hb dX5_readGust_51 ?_
    refine lv_iconst (v := 1) hx hb dX5_readGust_52 rfl ?_
    refine lv_iadd hx hb dX5_readGust_53 ?_
    refine lv_aload_n hx hb dX5_readGust_54 rfl (lv_at hl 0 rfl) ?_
    refine lv_iconst (v := 0) hx hb dX5_readGust_55 rfl ?_
    refine lv_bipush (v := 29) hx hb dX5_readGust_56 (by decide) ?_
    refine lv_iconst (v := (-1)) hx hb dX5_readGust_58 rfl ?_
    obtain ⟨t_13, h_14, hf⟩ := sn_bd hf
    refine sn_callVi (rest := [.int (((2 : Int32) * x1) + (1 : Int32)), .ref (ad (8 + 3))]) C hw (ctX5_number l  h_14) kl_RX5_60 layC_17 rfl rfl rfl rfl (Nat.le_of_ble_eq_true rfl) dX5_readGust_59 hl.1 (fun H locs hw => ?_)
    obtain ⟨g_15, hf⟩ := sn_gdE hf
    refine sn_iast C hw (sn_look sn_isX2_8 (k := 3) rfl) g_15 dX5_readGust_62 (fun H locs hw => ?_)
    obtain ⟨σ_16, e_17, hf⟩ := sn_ltE hf
    rw [← e_17] at hw
    refine lv_aload_n hx hb dX5_readGust_63 rfl (lv_at hl 0 rfl) ?_
    obtain ⟨t_18, h_19, hf⟩ := sn_bd hf
    refine sn_callVv (rest := []) C hw (ctX5_sign l  h_19) kl_RX5_72 layC_17 rfl rfl rfl rfl (Nat.le_of_ble_eq_true rfl) dX5_readGust_64 hl.1 (fun H locs hw => ?_)
    refine lv_aload_n hx hb dX5_readGust_67 rfl (lv_at hl 0 rfl) ?_
    obtain ⟨g_20, hf⟩ := sn_gdE hf
    refine sn_getR (r := 8) C hw fd_RX5_22 layC_17 rfl (by simpa using g_20) dX5_readGust_68 ?_
    refine sn_getC (r := (8 + 1)) C hw fd_RX5_49 (sn_look sn_isX2_8 (k := 0) rfl) rfl dX5_readGust_71 ?_
    refine lv_bipush (v := 6) hx hb dX5_readGust_74 (by decide) ?_
    refine lv_iload_n hx hb dX5_readGust_76 rfl (lv_at hl 1 rfl) ?_
    refine lv_iconst (v := 1) hx hb dX5_readGust_77 rfl ?_
    refine lv_iadd hx hb dX5_readGust_78 ?_
    obtain ⟨g_21, hf⟩ := sn_gdE hf
    refine sn_iast C hw (sn_look sn_isX2_8 (k := 1) rfl) g_21 dX5_readGust_79 (fun H locs hw => ?_)
    obtain ⟨σ_22, e_23, hf⟩ := sn_ltE hf
    rw [← e_23] at hw
    cases hf
    exact kr _ _ _ _ hw rfl dX5_readGust_80
  · have hf := sn_el c_1 hf
    refine lv_aload_n hx hb dX5_readGust_5 rfl (lv_at hl 0 rfl) ?_
    refine lv_iconst (v := 3) hx hb dX5_readGust_6 rfl ?_
    obtain ⟨t_24, h_25, hf⟩ := sn_bd hf
    refine sn_callVv (rest := []) C hw (ctX5_blame l  h_25) kl_RX5_100 layC_17 rfl rfl rfl rfl (Nat.le_of_ble_eq_true rfl) dX5_readGust_7 hl.1 (fun H locs hw => ?_)
    cases hf
    exact kr _ _ _ _ hw rfl dX5_readGust_10
theorem ctX5_readGust (l : Launch) {σ : sn_S} {x1 : Int32}  {o : sn_S} (hf : fX5_readGust σ x1 = some o) : sn_M l yX5_readGust cX5_readGust 2 none rmX5_readGust layC (fun ad => [.ref (ad 17), .int x1]) σ none o :=
  sn_met (by decide) (fun _ => Nat.le_of_ble_eq_true rfl) (fun p e s m args below meth c ls D ct ad A C hw hl => wX5_readGust_in C  hf (fun H locs ls pc hw ok hd => sn_vret C hw hd) _ _ _ hw hl)
-- X5_readNet
abbrev rmX5_readNet : Room := { frames := 6, cells := 0, slots := 0, locals := 128 }
def fX5_readNet (σ : sn_S) (x1 : Int32) : Option sn_S :=
  (if x1 < (8 : Int32) then
  ((fX5_word σ 8).bind fun t_2 => (sn_gd (sn_R t_2 17 7 == some 8) (sn_gd (sn_in (5 : Int32) 11) ((fX5_number t_2 (0 : Int32) ((sn_I t_2 (8 + 1) (5 : Int32).toNatClampNeg) - (1 : Int32)) (-1 : Int32)).bind fun t_6 => (sn_gd (sn_R t_6.2 17 7 == some 8) (sn_gd (sn_in ((2 : Int32) * x1) 16) (sn_lt (sn_pI t_6.2 (8 + 4) ((2 : Int32) * x1).toNatClampNeg t_6.1) fun σ_10 => (sn_gd (sn_R σ_10 17 7 == some 8) (sn_gd (sn_R σ_10 17 7 == some 8) (sn_gd (sn_in (5 : Int32) 11) ((fX5_number σ_10 (0 : Int32) ((sn_I σ_10 (8 + 1) (5 : Int32).toNatClampNeg) - (1 : Int32)) t_6.1).bind fun t_15 => (sn_gd (sn_in (((2 : Int32) * x1) + (1 : Int32)) 16) (sn_lt (sn_pI t_15.2 (8 + 4) (((2 : Int32) * x1) + (1 : Int32)).toNatClampNeg t_15.1) fun σ_18 => ((fX5_sign σ_18).bind fun t_20 => (sn_gd (sn_R t_20 17 7 == some 8) (sn_gd (sn_in (7 : Int32) 11) (sn_lt (sn_pI t_20 (8 + 1) (7 : Int32).toNatClampNeg (x1 + (1 : Int32))) fun σ_24 => (some σ_24))))))))))))))))))
  else
  ((fX5_blame σ (3 : Int32)).bind fun t_26 => (some t_26)))
theorem wX5_readNet_in (C : sn_C p s m args meth c RX5 cX5_readNet 3 none D ct ad layC A) {σ : sn_S} {x1 : Int32}  {o : sn_S} (hf : fX5_readNet σ x1 = some o) (kr : sn_Kr p l e rmX5_readNet s m args below meth c Q D ct ad layC A cX5_readNet .return_ (true) o []) : sn_At p l e rmX5_readNet s m args below meth c Q D ct ad layC A 3 σ 0 [(0, .ref (ad 17)), (1, .int x1)] [] := by
  intro H locs ls hw hl
  have hx := C.1
  have hb := C.2.1
  unfold fX5_readNet at hf
  refine lv_iload_n hx hb dX5_readNet_0 rfl (lv_at hl 1 rfl) ?_
  refine lv_bipush (v := 8) hx hb dX5_readNet_1 (by decide) ?_
  refine lv_icmp_lt (tgt := 12) hx hb dX5_readNet_3 (by decide) (fun c_1 => ?_) (fun c_1 => ?_)
  · have hf := sn_if c_1 hf
    refine lv_aload_n hx hb dX5_readNet_12 rfl (lv_at hl 0 rfl) ?_
    refine va_ldcS (tx := "net") (q := ad (1000 + 8)) hx hb C.2.2.2.1 (sn_sr_8 C.2.2.2.2.2.2.2.2.2) dX5_readNet_13 ?_
    obtain ⟨t_2, h_3, hf⟩ := sn_bd hf
    refine sn_callVv (rest := []) C hw (ctX5_word l  h_3) kl_RX5_54 layC_17 rfl rfl rfl rfl (Nat.le_of_ble_eq_true rfl) dX5_readNet_15 hl.1 (fun H locs hw => ?_)
    refine lv_aload_n hx hb dX5_readNet_18 rfl (lv_at hl 0 rfl) ?_
    refine lv_iconst (v := 0) hx hb dX5_readNet_19 rfl ?_
    refine lv_aload_n hx hb dX5_readNet_20 rfl (lv_at hl 0 rfl) ?_
    obtain ⟨g_4, hf⟩ := sn_gdE hf
    refine sn_getR (r := 8) C hw fd_RX5_22 layC_17 rfl (by simpa using g_4) dX5_readNet_21 ?_
    refine sn_getC (r := (8 + 1)) C hw fd_RX5_49 (sn_look sn_isX2_8 (k := 0) rfl) rfl dX5_readNet_24 ?_
    refine lv_iconst (v := 5) hx hb dX5_readNet_27 rfl ?_
    obtain ⟨g_5, hf⟩ := sn_gdE hf
    refine sn_iald C hw (sn_look sn_isX2_8 (k := 1) rfl) g_5 dX5_readNet_28 ?_
    refine lv_iconst (v := 1) hx hb dX5_readNet_29 rfl ?_
    refine lv_isub hx hb dX5_readNet_30 ?_
    refine lv_iconst (v := (-1)) hx hb dX5_readNet_31 rfl ?_
    obtain ⟨t_6, h_7, hf⟩ := sn_bd hf
    refine sn_callVi (rest := []) C hw (ctX5_number l  h_7) kl_RX5_60 layC_17 rfl rfl rfl rfl (Nat.le_of_ble_eq_true rfl) dX5_readNet_32 hl.1 (fun H locs hw => ?_)
    refine lv_istore_n (lv' := [(2, .int t_6.1), (0, .ref (ad 17)), (1, .int x1)]) hx hb dX5_readNet_35 rfl hl (by decide) rfl (fun ls hl => ?_)
    refine lv_aload_n hx hb dX5_readNet_36 rfl (lv_at hl 1 rfl) ?_
    obtain ⟨g_8, hf⟩ := sn_gdE hf
    refine sn_getR (r := 8) C hw fd_RX5_22 layC_17 rfl (by simpa using g_8) dX5_readNet_37 ?_
    refine sn_getC (r := (8 + 4)) C hw fd_RX5_113 (sn_look sn_isX2_8 (k := 0) rfl) rfl dX5_readNet_40 ?_
    refine lv_iconst (v := 2) hx hb dX5_readNet_43 rfl ?_
    refine lv_iload_n hx hb dX5_readNet_44 rfl (lv_at hl 2 rfl) ?_
    refine lv_imul hx hb dX5_readNet_45 ?_
    refine lv_iload_n hx hb dX5_readNet_46 rfl (lv_at hl 0 rfl) ?_
    obtain ⟨g_9, hf⟩ := sn_gdE hf
    refine sn_iast C hw (sn_look sn_isX2_8 (k := 4) rfl) g_9 dX5_readNet_47 (fun H locs hw => ?_)
    obtain ⟨σ_10, e_11, hf⟩ := sn_ltE hf
    rw [← e_11] at hw
    refine lv_aload_n hx hb dX5_readNet_48 rfl (lv_at hl 1 rfl) ?_
    obtain ⟨g_12, hf⟩ := sn_gdE hf
    refine sn_getR (r := 8) C hw fd_RX5_22 layC_17 rfl (by simpa using g_12) dX5_readNet_49 ?_
    refine sn_getC (r := (8 + 4)) C hw fd_RX5_113 (sn_look sn_isX2_8 (k := 0) rfl) rfl dX5_readNet_52 ?_
    refine lv_iconst (v := 2) hx hb dX5_readNet_55 rfl ?_
    refine lv_iload_n hx hb dX5_readNet_56 rfl (lv_at hl 2 rfl) ?_
    refine lv_imul hx hb dX5_readNet_57 ?_
    refine lv_iconst (v := 1) hx hb dX5_readNet_58 rfl ?_
    refine lv_iadd hx hb dX5_readNet_59 ?_
    refine lv_aload_n hx hb dX5_readNet_60 rfl (lv_at hl 1 rfl) ?_
    refine lv_iconst (v := 0) hx hb dX5_readNet_61 rfl ?_
    refine lv_aload_n hx hb dX5_readNet_62 rfl (lv_at hl 1 rfl) ?_
    obtain ⟨g_13, hf⟩ := sn_gdE hf
    refine sn_getR (r := 8) C hw fd_RX5_22 layC_17 rfl (by simpa using g_13) dX5_readNet_63 ?_
    refine sn_getC (r := (8 + 1)) C hw fd_RX5_49 (sn_look sn_isX2_8 (k := 0) rfl) rfl dX5_readNet_66 ?_
    refine lv_iconst (v := 5) hx hb dX5_readNet_69 rfl ?_
    obtain ⟨g_14, hf⟩ := sn_gdE hf
    refine sn_iald C hw (sn_look sn_isX2_8 (k := 1) rfl) g_14 dX5_readNet_70 ?_
    refine lv_iconst (v := 1) hx hb dX5_readNet_71 rfl ?_
    refine lv_isub hx hb dX5_readNet_72 ?_
    refine lv_iload_n hx hb dX5_readNet_73 rfl (lv_at hl 0 rfl) ?_
    obtain ⟨t_15, h_16, hf⟩ := sn_bd hf
    refine sn_callVi (rest := [.int (((2 : Int32) * x1) + (1 : Int32)), .ref (ad (8 + 4))]) C hw (ctX5_number l  h_16) kl_RX5_60 layC_17 rfl rfl rfl rfl (Nat.le_of_ble_eq_true rfl) dX5_readNet_74 hl.1 (fun H locs hw => ?_)
    obtain ⟨g_17, hf⟩ := sn_gdE hf
    refine sn_iast C hw (sn_look sn_isX2_8 (k := 4) rfl) g_17 dX5_readNet_77 (fun H locs hw => ?_)
    obtain ⟨σ_18, e_19, hf⟩ := sn_ltE hf
    rw [← e_19] at hw
    refine lv_aload_n hx hb dX5_readNet_78 rfl (lv_at hl 1 rfl) ?_
    obtain ⟨t_20, h_21, hf⟩ := sn_bd hf
    refine sn_callVv (rest := []) C hw (ctX5_sign l  h_21) kl_RX5_72 layC_17 rfl rfl rfl rfl (Nat.le_of_ble_eq_true rfl) dX5_readNet_79 hl.1 (fun H locs hw => ?_)
    refine lv_aload_n hx hb dX5_readNet_82 rfl (lv_at hl 1 rfl) ?_
    obtain ⟨g_22, hf⟩ := sn_gdE hf
    refine sn_getR (r := 8) C hw fd_RX5_22 layC_17 rfl (by simpa using g_22) dX5_readNet_83 ?_
    refine sn_getC (r := (8 + 1)) C hw fd_RX5_49 (sn_look sn_isX2_8 (k := 0) rfl) rfl dX5_readNet_86 ?_
    refine lv_bipush (v := 7) hx hb dX5_readNet_89 (by decide) ?_
    refine lv_iload_n hx hb dX5_readNet_91 rfl (lv_at hl 2 rfl) ?_
    refine lv_iconst (v := 1) hx hb dX5_readNet_92 rfl ?_
    refine lv_iadd hx hb dX5_readNet_93 ?_
    obtain ⟨g_23, hf⟩ := sn_gdE hf
    refine sn_iast C hw (sn_look sn_isX2_8 (k := 1) rfl) g_23 dX5_readNet_94 (fun H locs hw => ?_)
    obtain ⟨σ_24, e_25, hf⟩ := sn_ltE hf
    rw [← e_25] at hw
    cases hf
    exact kr _ _ _ _ hw rfl dX5_readNet_95
  · have hf := sn_el c_1 hf
    refine lv_aload_n hx hb dX5_readNet_6 rfl (lv_at hl 0 rfl) ?_
    refine lv_iconst (v := 3) hx hb dX5_readNet_7 rfl ?_
    obtain ⟨t_26, h_27, hf⟩ := sn_bd hf
    refine sn_callVv (rest := []) C hw (ctX5_blame l  h_27) kl_RX5_100 layC_17 rfl rfl rfl rfl (Nat.le_of_ble_eq_true rfl) dX5_readNet_8 hl.1 (fun H locs hw => ?_)
    cases hf
    exact kr _ _ _ _ hw rfl dX5_readNet_11
theorem ctX5_readNet (l : Launch) {σ : sn_S} {x1 : Int32}  {o : sn_S} (hf : fX5_readNet σ x1 = some o) : sn_M l yX5_readNet cX5_readNet 3 none rmX5_readNet layC (fun ad => [.ref (ad 17), .int x1]) σ none o :=
  sn_met (by decide) (fun _ => Nat.le_of_ble_eq_true rfl) (fun p e s m args below meth c ls D ct ad A C hw hl => wX5_readNet_in C  hf (fun H locs ls pc hw ok hd => sn_vret C hw hd) _ _ _ hw hl)
-- X5_readPolicy
abbrev rmX5_readPolicy : Room := { frames := 6, cells := 0, slots := 0, locals := 128 }
def fX5_readPolicy (σ : sn_S) (x1 : Int32) : Option sn_S :=
  (if x1 < (6 : Int32) then
  (sn_lt ((5 : Int32) * x1) fun y_2 => ((fX5_word σ 9).bind fun t_4 => (sn_gd (sn_R t_4 17 7 == some 8) (sn_gd (sn_R t_4 17 7 == some 8) (sn_gd (sn_in (5 : Int32) 11) ((fX5_number t_4 (0 : Int32) ((sn_I t_4 (8 + 1) (5 : Int32).toNatClampNeg) - (1 : Int32)) (-1 : Int32)).bind fun t_9 => (sn_gd (sn_in (y_2 + (0 : Int32)) 30) (sn_lt (sn_pI t_9.2 (8 + 5) (y_2 + (0 : Int32)).toNatClampNeg t_9.1) fun σ_12 => ((fX5_word σ_12 12).bind fun t_14 => ((fX5_number t_14 (0 : Int32) (29 : Int32) (-1 : Int32)).bind fun t_16 => (sn_gd (sn_R t_16.2 17 7 == some 8) (sn_gd (sn_in (y_2 + (1 : Int32)) 30) (sn_lt (sn_pI t_16.2 (8 + 5) (y_2 + (1 : Int32)).toNatClampNeg t_16.1) fun σ_20 => ((fX5_word σ_20 13).bind fun t_22 => (sn_gd (sn_R t_22 17 7 == some 8) ((fX5_number t_22 t_16.1 (29 : Int32) (-1 : Int32)).bind fun t_25 => (sn_gd (sn_in (y_2 + (2 : Int32)) 30) (sn_lt (sn_pI t_25.2 (8 + 5) (y_2 + (2 : Int32)).toNatClampNeg t_25.1) fun σ_28 => ((fX5_word σ_28 14).bind fun t_30 => (sn_gd (sn_R t_30 17 7 == some 8) ((fX5_number t_30 (1 : Int32) (99 : Int32) (-1 : Int32)).bind fun t_33 => (sn_gd (sn_in (y_2 + (3 : Int32)) 30) (sn_lt (sn_pI t_33.2 (8 + 5) (y_2 + (3 : Int32)).toNatClampNeg t_33.1) fun σ_36 => ((fX5_word σ_36 15).bind fun t_38 => (sn_gd (sn_R t_38 17 7 == some 8) ((fX5_number t_38 (0 : Int32) (99 : Int32) (-1 : Int32)).bind fun t_41 => (sn_gd (sn_in (y_2 + (4 : Int32)) 30) (sn_lt (sn_pI t_41.2 (8 + 5) (y_2 + (4 : Int32)).toNatClampNeg t_41.1) fun σ_44 => ((fX5_sign σ_44).bind fun t_46 => (sn_gd (sn_R t_46 17 7 == some 8) (sn_gd (sn_in (8 : Int32) 11) (sn_lt (sn_pI t_46 (8 + 1) (8 : Int32).toNatClampNeg (x1 + (1 : Int32))) fun σ_50 => (some σ_50)))))))))))))))))))))))))))))))))
  else
  ((fX5_blame σ (3 : Int32)).bind fun t_52 => (some t_52)))
theorem wX5_readPolicy_in (C : sn_C p s m args meth c RX5 cX5_readPolicy 4 none D ct ad layC A) {σ : sn_S} {x1 : Int32}  {o : sn_S} (hf : fX5_readPolicy σ x1 = some o) (kr : sn_Kr p l e rmX5_readPolicy s m args below meth c Q D ct ad layC A cX5_readPolicy .return_ (true) o []) : sn_At p l e rmX5_readPolicy s m args below meth c Q D ct ad layC A 4 σ 0 [(0, .ref (ad 17)), (1, .int x1)] [] := by
  intro H locs ls hw hl
  have hx := C.1
  have hb := C.2.1
  unfold fX5_readPolicy at hf
  refine lv_iload_n hx hb dX5_readPolicy_0 rfl (lv_at hl 1 rfl) ?_
  refine lv_bipush (v := 6) hx hb dX5_readPolicy_1 (by decide) ?_
  refine lv_icmp_lt (tgt := 12) hx hb dX5_readPolicy_3 (by decide) (fun c_1 => ?_) (fun c_1 => ?_)
  · have hf := sn_if c_1 hf
    refine lv_iconst (v := 5) hx hb dX5_readPolicy_12 rfl ?_
    refine lv_iload_n hx hb dX5_readPolicy_13 rfl (lv_at hl 1 rfl) ?_
    refine lv_imul hx hb dX5_readPolicy_14 ?_
    obtain ⟨y_2, e_3, hf⟩ := sn_ltE hf
    refine lv_topi (fun y_2_ e_3_ => ?_)
    obtain rfl : y_2 = y_2_ := e_3.trans e_3_.symm
    refine lv_istore_n (lv' := [(2, .int y_2), (0, .ref (ad 17)), (1, .int x1)]) hx hb dX5_readPolicy_15 rfl hl (by decide) rfl (fun ls hl => ?_)
    refine lv_aload_n hx hb dX5_readPolicy_16 rfl (lv_at hl 1 rfl) ?_
    refine va_ldcS (tx := "policy") (q := ad (1000 + 9)) hx hb C.2.2.2.1 (sn_sr_9 C.2.2.2.2.2.2.2.2.2) dX5_readPolicy_17 ?_
    obtain ⟨t_4, h_5, hf⟩ := sn_bd hf
    refine sn_callVv (rest := []) C hw (ctX5_word l  h_5) kl_RX5_54 layC_17 rfl rfl rfl rfl (Nat.le_of_ble_eq_true rfl) dX5_readPolicy_19 hl.1 (fun H locs hw => ?_)
    refine lv_aload_n hx hb dX5_readPolicy_22 rfl (lv_at hl 1 rfl) ?_
    obtain ⟨g_6, hf⟩ := sn_gdE hf
    refine sn_getR (r := 8) C hw fd_RX5_22 layC_17 rfl (by simpa using g_6) dX5_readPolicy_23 ?_
    refine sn_getC (r := (8 + 5)) C hw fd_RX5_116 (sn_look sn_isX2_8 (k := 0) rfl) rfl dX5_readPolicy_26 ?_
    refine lv_iload_n hx hb dX5_readPolicy_29 rfl (lv_at hl 0 rfl) ?_
    refine lv_iconst (v := 0) hx hb dX5_readPolicy_30 rfl ?_
    refine lv_iadd hx hb dX5_readPolicy_31 ?_
    refine lv_aload_n hx hb dX5_readPolicy_32 rfl (lv_at hl 1 rfl) ?_
    refine lv_iconst (v := 0) hx hb dX5_readPolicy_33 rfl ?_
    refine lv_aload_n hx hb dX5_readPolicy_34 rfl (lv_at hl 1 rfl) ?_
    obtain ⟨g_7, hf⟩ := sn_gdE hf
    refine sn_getR (r := 8) C hw fd_RX5_22 layC_17 rfl (by simpa using g_7) dX5_readPolicy_35 ?_
    refine sn_getC (r := (8 + 1)) C hw fd_RX5_49 (sn_look sn_isX2_8 (k := 0) rfl) rfl dX5_readPolicy_38 ?_
    refine lv_iconst (v := 5) hx hb dX5_readPolicy_41 rfl ?_
    obtain ⟨g_8, hf⟩ := sn_gdE hf
    refine sn_iald C hw (sn_look sn_isX2_8 (k := 1) rfl) g_8 dX5_readPolicy_42 ?_
    refine lv_iconst (v := 1) hx hb dX5_readPolicy_43 rfl ?_
    refine lv_isub hx hb dX5_readPolicy_44 ?_
    refine lv_iconst (v := (-1)) hx hb dX5_readPolicy_45 rfl ?_
    obtain ⟨t_9, h_10, hf⟩ := sn_bd hf
    refine sn_callVi (rest := [.int (y_2 + (0 : Int32)), .ref (ad (8 + 5))]) C hw (ctX5_number l  h_10) kl_RX5_60 layC_17 rfl rfl rfl rfl (Nat.le_of_ble_eq_true rfl) dX5_readPolicy_46 hl.1 (fun H locs hw => ?_)
    obtain ⟨g_11, hf⟩ := sn_gdE hf
    refine sn_iast C hw (sn_look sn_isX2_8 (k := 5) rfl) g_11 dX5_readPolicy_49 (fun H locs hw => ?_)
    obtain ⟨σ_12, e_13, hf⟩ := sn_ltE hf
    rw [← e_13] at hw
    refine lv_aload_n hx hb dX5_readPolicy_50 rfl (lv_at hl 1 rfl) ?_
    refine va_ldcS (tx := "from") (q := ad (1000 + 12)) hx hb C.2.2.2.1 (sn_sr_12 C.2.2.2.2.2.2.2.2.2) dX5_readPolicy_51 ?_
    obtain ⟨t_14, h_15, hf⟩ := sn_bd hf
    refine sn_callVv (rest := []) C hw (ctX5_word l  h_15) kl_RX5_54 layC_17 rfl rfl rfl rfl (Nat.le_of_ble_eq_true rfl) dX5_readPolicy_53 hl.1 (fun H locs hw => ?_)
    refine lv_aload_n hx hb dX5_readPolicy_56 rfl (lv_at hl 1 rfl) ?_
    refine lv_iconst (v := 0) hx hb dX5_readPolicy_57 rfl ?_
    refine lv_bipush (v := 29) hx hb dX5_readPolicy_58 (by decide) ?_
    refine lv_iconst (v := (-1)) hx hb dX5_readPolicy_60 rfl ?_
    obtain ⟨t_16, h_17, hf⟩ := sn_bd hf
    refine sn_callVi (rest := []) C hw (ctX5_number l  h_17) kl_RX5_60 layC_17 rfl rfl rfl rfl (Nat.le_of_ble_eq_true rfl) dX5_readPolicy_61 hl.1 (fun H locs hw => ?_)
    refine lv_istore_n (lv' := [(3, .int t_16.1), (2, .int y_2), (0, .ref (ad 17)), (1, .int x1)]) hx hb dX5_readPolicy_64 rfl hl (by decide) rfl (fun ls hl => ?_)
    refine lv_aload_n hx hb dX5_readPolicy_65 rfl (lv_at hl 2 rfl) ?_
    obtain ⟨g_18, hf⟩ := sn_gdE hf
    refine sn_getR (r := 8) C hw fd_RX5_22 layC_17 rfl (by simpa using g_18) dX5_readPolicy_66 ?_
    refine sn_getC (r := (8 + 5)) C hw fd_RX5_116 (sn_look sn_isX2_8 (k := 0) rfl) rfl dX5_readPolicy_69 ?_
    refine lv_iload_n hx hb dX5_readPolicy_72 rfl (lv_at hl 1 rfl) ?_
    refine lv_iconst (v := 1) hx hb dX5_readPolicy_73 rfl ?_
    refine lv_iadd hx hb dX5_readPolicy_74 ?_
    refine lv_iload_n hx hb dX5_readPolicy_75 rfl (lv_at hl 0 rfl) ?_
    obtain ⟨g_19, hf⟩ := sn_gdE hf
    refine sn_iast C hw (sn_look sn_isX2_8 (k := 5) rfl) g_19 dX5_readPolicy_76 (fun H locs hw => ?_)
    obtain ⟨σ_20, e_21, hf⟩ := sn_ltE hf
    rw [← e_21] at hw
    refine lv_aload_n hx hb dX5_readPolicy_77 rfl (lv_at hl 2 rfl) ?_
    refine va_ldcS (tx := "to") (q := ad (1000 + 13)) hx hb C.2.2.2.1 (sn_sr_13 C.2.2.2.2.2.2.2.2.2) dX5_readPolicy_78 ?_
    obtain ⟨t_22, h_23, hf⟩ := sn_bd hf
    refine sn_callVv (rest := []) C hw (ctX5_word l  h_23) kl_RX5_54 layC_17 rfl rfl rfl rfl (Nat.le_of_ble_eq_true rfl) dX5_readPolicy_80 hl.1 (fun H locs hw => ?_)
    refine lv_aload_n hx hb dX5_readPolicy_83 rfl (lv_at hl 2 rfl) ?_
    obtain ⟨g_24, hf⟩ := sn_gdE hf
    refine sn_getR (r := 8) C hw fd_RX5_22 layC_17 rfl (by simpa using g_24) dX5_readPolicy_84 ?_
    refine sn_getC (r := (8 + 5)) C hw fd_RX5_116 (sn_look sn_isX2_8 (k := 0) rfl) rfl dX5_readPolicy_87 ?_
    refine lv_iload_n hx hb dX5_readPolicy_90 rfl (lv_at hl 1 rfl) ?_
    refine lv_iconst (v := 2) hx hb dX5_readPolicy_91 rfl ?_
    refine lv_iadd hx hb dX5_readPolicy_92 ?_
    refine lv_aload_n hx hb dX5_readPolicy_93 rfl (lv_at hl 2 rfl) ?_
    refine lv_iload_n hx hb dX5_readPolicy_94 rfl (lv_at hl 0 rfl) ?_
    refine lv_bipush (v := 29) hx hb dX5_readPolicy_95 (by decide) ?_
    refine lv_iconst (v := (-1)) hx hb dX5_readPolicy_97 rfl ?_
    obtain ⟨t_25, h_26, hf⟩ := sn_bd hf
    refine sn_callVi (rest := [.int (y_2 + (2 : Int32)), .ref (ad (8 + 5))]) C hw (ctX5_number l  h_26) kl_RX5_60 layC_17 rfl rfl rfl rfl (Nat.le_of_ble_eq_true rfl) dX5_readPolicy_98 hl.1 (fun H locs hw => ?_)
    obtain ⟨g_27, hf⟩ := sn_gdE hf
    refine sn_iast C hw (sn_look sn_isX2_8 (k := 5) rfl) g_27 dX5_readPolicy_101 (fun H locs hw => ?_)
    obtain ⟨σ_28, e_29, hf⟩ := sn_ltE hf
    rw [← e_29] at hw
    refine lv_aload_n hx hb dX5_readPolicy_102 rfl (lv_at hl 2 rfl) ?_
    refine va_ldcS (tx := "sum") (q := ad (1000 + 14)) hx hb C.2.2.2.1 (sn_sr_14 C.2.2.2.2.2.2.2.2.2) dX5_readPolicy_103 ?_
    obtain ⟨t_30, h_31, hf⟩ := sn_bd hf
    refine sn_callVv (rest := []) C hw (ctX5_word l  h_31) kl_RX5_54 layC_17 rfl rfl rfl rfl (Nat.le_of_ble_eq_true rfl) dX5_readPolicy_105 hl.1 (fun H locs hw => ?_)
    refine lv_aload_n hx hb dX5_readPolicy_108 rfl (lv_at hl 2 rfl) ?_
    obtain ⟨g_32, hf⟩ := sn_gdE hf
    refine sn_getR (r := 8) C hw fd_RX5_22 layC_17 rfl (by simpa using g_32) dX5_readPolicy_109 ?_
    refine sn_getC (r := (8 + 5)) C hw fd_RX5_116 (sn_look sn_isX2_8 (k := 0) rfl) rfl dX5_readPolicy_112 ?_
    refine lv_iload_n hx hb dX5_readPolicy_115 rfl (lv_at hl 1 rfl) ?_
    refine lv_iconst (v := 3) hx hb dX5_readPolicy_116 rfl ?_
    refine lv_iadd hx hb dX5_readPolicy_117 ?_
    refine lv_aload_n hx hb dX5_readPolicy_118 rfl (lv_at hl 2 rfl) ?_
    refine lv_iconst (v := 1) hx hb dX5_readPolicy_119 rfl ?_
    refine lv_bipush (v := 99) hx hb dX5_readPolicy_120 (by decide) ?_
    refine lv_iconst (v := (-1)) hx hb dX5_readPolicy_122 rfl ?_
    obtain ⟨t_33, h_34, hf⟩ := sn_bd hf
    refine sn_callVi (rest := [.int (y_2 + (3 : Int32)), .ref (ad (8 + 5))]) C hw (ctX5_number l  h_34) kl_RX5_60 layC_17 rfl rfl rfl rfl (Nat.le_of_ble_eq_true rfl) dX5_readPolicy_123 hl.1 (fun H locs hw => ?_)
    obtain ⟨g_35, hf⟩ := sn_gdE hf
    refine sn_iast C hw (sn_look sn_isX2_8 (k := 5) rfl) g_35 dX5_readPolicy_126 (fun H locs hw => ?_)
    obtain ⟨σ_36, e_37, hf⟩ := sn_ltE hf
    rw [← e_37] at hw
    refine lv_aload_n hx hb dX5_readPolicy_127 rfl (lv_at hl 2 rfl) ?_
    refine va_ldcS (tx := "pays") (q := ad (1000 + 15)) hx hb C.2.2.2.1 (sn_sr_15 C.2.2.2.2.2.2.2.2.2) dX5_readPolicy_128 ?_
    obtain ⟨t_38, h_39, hf⟩ := sn_bd hf
    refine sn_callVv (rest := []) C hw (ctX5_word l  h_39) kl_RX5_54 layC_17 rfl rfl rfl rfl (Nat.le_of_ble_eq_true rfl) dX5_readPolicy_130 hl.1 (fun H locs hw => ?_)
    refine lv_aload_n hx hb dX5_readPolicy_133 rfl (lv_at hl 2 rfl) ?_
    obtain ⟨g_40, hf⟩ := sn_gdE hf
    refine sn_getR (r := 8) C hw fd_RX5_22 layC_17 rfl (by simpa using g_40) dX5_readPolicy_134 ?_
    refine sn_getC (r := (8 + 5)) C hw fd_RX5_116 (sn_look sn_isX2_8 (k := 0) rfl) rfl dX5_readPolicy_137 ?_
    refine lv_iload_n hx hb dX5_readPolicy_140 rfl (lv_at hl 1 rfl) ?_
    refine lv_iconst (v := 4) hx hb dX5_readPolicy_141 rfl ?_
    refine lv_iadd hx hb dX5_readPolicy_142 ?_
    refine lv_aload_n hx hb dX5_readPolicy_143 rfl (lv_at hl 2 rfl) ?_
    refine lv_iconst (v := 0) hx hb dX5_readPolicy_144 rfl ?_
    refine lv_bipush (v := 99) hx hb dX5_readPolicy_145 (by decide) ?_
    refine lv_iconst (v := (-1)) hx hb dX5_readPolicy_147 rfl ?_
    obtain ⟨t_41, h_42, hf⟩ := sn_bd hf
    refine sn_callVi (rest := [.int (y_2 + (4 : Int32)), .ref (ad (8 + 5))]) C hw (ctX5_number l  h_42) kl_RX5_60 layC_17 rfl rfl rfl rfl (Nat.le_of_ble_eq_true rfl) dX5_readPolicy_148 hl.1 (fun H locs hw => ?_)
    obtain ⟨g_43, hf⟩ := sn_gdE hf
    refine sn_iast C hw (sn_look sn_isX2_8 (k := 5) rfl) g_43 dX5_readPolicy_151 (fun H locs hw => ?_)
    obtain ⟨σ_44, e_45, hf⟩ := sn_ltE hf
    rw [← e_45] at hw
    refine lv_aload_n hx hb dX5_readPolicy_152 rfl (lv_at hl 2 rfl) ?_
    obtain ⟨t_46, h_47, hf⟩ := sn_bd hf
    refine sn_callVv (rest := []) C hw (ctX5_sign l  h_47) kl_RX5_72 layC_17 rfl rfl rfl rfl (Nat.le_of_ble_eq_true rfl) dX5_readPolicy_153 hl.1 (fun H locs hw => ?_)
    refine lv_aload_n hx hb dX5_readPolicy_156 rfl (lv_at hl 2 rfl) ?_
    obtain ⟨g_48, hf⟩ := sn_gdE hf
    refine sn_getR (r := 8) C hw fd_RX5_22 layC_17 rfl (by simpa using g_48) dX5_readPolicy_157 ?_
    refine sn_getC (r := (8 + 1)) C hw fd_RX5_49 (sn_look sn_isX2_8 (k := 0) rfl) rfl dX5_readPolicy_160 ?_
    refine lv_bipush (v := 8) hx hb dX5_readPolicy_163 (by decide) ?_
    refine lv_iload_n hx hb dX5_readPolicy_165 rfl (lv_at hl 3 rfl) ?_
    refine lv_iconst (v := 1) hx hb dX5_readPolicy_166 rfl ?_
    refine lv_iadd hx hb dX5_readPolicy_167 ?_
    obtain ⟨g_49, hf⟩ := sn_gdE hf
    refine sn_iast C hw (sn_look sn_isX2_8 (k := 1) rfl) g_49 dX5_readPolicy_168 (fun H locs hw => ?_)
    obtain ⟨σ_50, e_51, hf⟩ := sn_ltE hf
    rw [← e_51] at hw
    cases hf
    exact kr _ _ _ _ hw rfl dX5_readPolicy_169
  · have hf := sn_el c_1 hf
    refine lv_aload_n hx hb dX5_readPolicy_6 rfl (lv_at hl 0 rfl) ?_
    refine lv_iconst (v := 3) hx hb dX5_readPolicy_7 rfl ?_
    obtain ⟨t_52, h_53, hf⟩ := sn_bd hf
    refine sn_callVv (rest := []) C hw (ctX5_blame l  h_53) kl_RX5_100 layC_17 rfl rfl rfl rfl (Nat.le_of_ble_eq_true rfl) dX5_readPolicy_8 hl.1 (fun H locs hw => ?_)
    cases hf
    exact kr _ _ _ _ hw rfl dX5_readPolicy_11
theorem ctX5_readPolicy (l : Launch) {σ : sn_S} {x1 : Int32}  {o : sn_S} (hf : fX5_readPolicy σ x1 = some o) : sn_M l yX5_readPolicy cX5_readPolicy 4 none rmX5_readPolicy layC (fun ad => [.ref (ad 17), .int x1]) σ none o :=
  sn_met (by decide) (fun _ => Nat.le_of_ble_eq_true rfl) (fun p e s m args below meth c ls D ct ad A C hw hl => wX5_readPolicy_in C  hf (fun H locs ls pc hw ok hd => sn_vret C hw hd) _ _ _ hw hl)
-- X5_readLine
abbrev rmX5_readLine : Room := { frames := 7, cells := 0, slots := 0, locals := 151 }
def fX5_readLine (σ : sn_S) : Option sn_S :=
  ((fX5_isWord σ 6).bind fun t_1 => (if t_1 = 0 then
  ((fX5_isWord σ 7).bind fun t_4 => (if t_4 = 0 then
  ((fX5_isWord σ 8).bind fun t_7 => (if t_7 = 0 then
  ((fX5_isWord σ 9).bind fun t_10 => (if t_10 = 0 then
  ((fX5_blame σ (1 : Int32)).bind fun t_13 => (some t_13))
  else
  (sn_gd (sn_R σ 17 7 == some 8) (sn_gd (sn_in (8 : Int32) 11) ((fX5_readPolicy σ (sn_I σ (8 + 1) (8 : Int32).toNatClampNeg)).bind fun t_17 => (some t_17))))))
  else
  (sn_gd (sn_R σ 17 7 == some 8) (sn_gd (sn_in (7 : Int32) 11) ((fX5_readNet σ (sn_I σ (8 + 1) (7 : Int32).toNatClampNeg)).bind fun t_21 => (some t_21))))))
  else
  (sn_gd (sn_R σ 17 7 == some 8) (sn_gd (sn_in (6 : Int32) 11) ((fX5_readGust σ (sn_I σ (8 + 1) (6 : Int32).toNatClampNeg)).bind fun t_25 => (some t_25))))))
  else
  (sn_gd (sn_R σ 17 7 == some 8) (sn_gd (sn_in (5 : Int32) 11) ((fX5_readNose σ (sn_I σ (8 + 1) (5 : Int32).toNatClampNeg)).bind fun t_29 => (some t_29))))))
theorem wX5_readLine_in (C : sn_C p s m args meth c RX5 cX5_readLine 1 none D ct ad layC A) {σ : sn_S}  {o : sn_S} (hf : fX5_readLine σ = some o) (kr : sn_Kr p l e rmX5_readLine s m args below meth c Q D ct ad layC A cX5_readLine .return_ (true) o []) : sn_At p l e rmX5_readLine s m args below meth c Q D ct ad layC A 1 σ 0 [(0, .ref (ad 17))] [] := by
  intro H locs ls hw hl
  have hx := C.1
  have hb := C.2.1
  unfold fX5_readLine at hf
  refine lv_aload_n hx hb dX5_readLine_0 rfl (lv_at hl 0 rfl) ?_
  refine va_ldcS (tx := "nose") (q := ad (1000 + 6)) hx hb C.2.2.2.1 (sn_sr_6 C.2.2.2.2.2.2.2.2.2) dX5_readLine_1 ?_
  obtain ⟨t_1, h_2, hf⟩ := sn_bd hf
  refine sn_callVi (rest := []) C hw (ctX5_isWord l  h_2) kl_RX5_77 layC_17 rfl rfl rfl rfl (Nat.le_of_ble_eq_true rfl) dX5_readLine_3 hl.1 (fun H locs hw => ?_)
  refine lv_if_eq (tgt := 25) hx hb dX5_readLine_6 (by decide) (fun c_3 => ?_) (fun c_3 => ?_)
  · have hf := sn_if c_3 hf
    refine lv_aload_n hx hb dX5_readLine_25 rfl (lv_at hl 0 rfl) ?_
    refine va_ldcS (tx := "gust") (q := ad (1000 + 7)) hx hb C.2.2.2.1 (sn_sr_7 C.2.2.2.2.2.2.2.2.2) dX5_readLine_26 ?_
    obtain ⟨t_4, h_5, hf⟩ := sn_bd hf
    refine sn_callVi (rest := []) C hw (ctX5_isWord l  h_5) kl_RX5_77 layC_17 rfl rfl rfl rfl (Nat.le_of_ble_eq_true rfl) dX5_readLine_28 hl.1 (fun H locs hw => ?_)
    refine lv_if_eq (tgt := 51) hx hb dX5_readLine_31 (by decide) (fun c_6 => ?_) (fun c_6 => ?_)
    · have hf := sn_if c_6 hf
      refine lv_aload_n hx hb dX5_readLine_51 rfl (lv_at hl 0 rfl) ?_
      refine va_ldcS (tx := "net") (q := ad (1000 + 8)) hx hb C.2.2.2.1 (sn_sr_8 C.2.2.2.2.2.2.2.2.2) dX5_readLine_52 ?_
      obtain ⟨t_7, h_8, hf⟩ := sn_bd hf
      refine sn_callVi (rest := []) C hw (ctX5_isWord l  h_8) kl_RX5_77 layC_17 rfl rfl rfl rfl (Nat.le_of_ble_eq_true rfl) dX5_readLine_54 hl.1 (fun H locs hw => ?_)
      refine lv_if_eq (tgt := 77) hx hb dX5_readLine_57 (by decide) (fun c_9 => ?_) (fun c_9 => ?_)
      · have hf := sn_if c_9 hf
        refine lv_aload_n hx hb dX5_readLine_77 rfl (lv_at hl 0 rfl) ?_
        refine va_ldcS (tx := "policy") (q := ad (1000 + 9)) hx hb C.2.2.2.1 (sn_sr_9 C.2.2.2.2.2.2.2.2.2) dX5_readLine_78 ?_
        obtain ⟨t_10, h_11, hf⟩ := sn_bd hf
        refine sn_callVi (rest := []) C hw (ctX5_isWord l  h_11) kl_RX5_77 layC_17 rfl rfl rfl rfl (Nat.le_of_ble_eq_true rfl) dX5_readLine_80 hl.1 (fun H locs hw => ?_)
        refine lv_if_eq (tgt := 103) hx hb dX5_readLine_83 (by decide) (fun c_12 => ?_) (fun c_12 => ?_)
        · have hf := sn_if c_12 hf
          refine lv_aload_n hx hb dX5_readLine_103 rfl (lv_at hl 0 rfl) ?_
          refine lv_iconst (v := 1) hx hb dX5_readLine_104 rfl ?_
          obtain ⟨t_13, h_14, hf⟩ := sn_bd hf
          refine sn_callVv (rest := []) C hw (ctX5_blame l  h_14) kl_RX5_100 layC_17 rfl rfl rfl rfl (Nat.le_of_ble_eq_true rfl) dX5_readLine_105 hl.1 (fun H locs hw => ?_)
          cases hf
          exact kr _ _ _ _ hw rfl dX5_readLine_108
        · have hf := sn_el c_12 hf
          refine lv_aload_n hx hb dX5_readLine_86 rfl (lv_at hl 0 rfl) ?_
          refine lv_aload_n hx hb dX5_readLine_87 rfl (lv_at hl 0 rfl) ?_
          obtain ⟨g_15, hf⟩ := sn_gdE hf
          refine sn_getR (r := 8) C hw fd_RX5_22 layC_17 rfl (by simpa using g_15) dX5_readLine_88 ?_
          refine sn_getC (r := (8 + 1)) C hw fd_RX5_49 (sn_look sn_isX2_8 (k := 0) rfl) rfl dX5_readLine_91 ?_
          refine lv_bipush (v := 8) hx hb dX5_readLine_94 (by decide) ?_
          obtain ⟨g_16, hf⟩ := sn_gdE hf
          refine sn_iald C hw (sn_look sn_isX2_8 (k := 1) rfl) g_16 dX5_readLine_96 ?_
          obtain ⟨t_17, h_18, hf⟩ := sn_bd hf
          refine sn_callVv (rest := []) C hw (ctX5_readPolicy l  h_18) kl_RX5_97 layC_17 rfl rfl rfl rfl (Nat.le_of_ble_eq_true rfl) dX5_readLine_97 hl.1 (fun H locs hw => ?_)
          refine lv_goto (tgt := 108) hx hb dX5_readLine_100 (by decide) ?_
          cases hf
          exact kr _ _ _ _ hw rfl dX5_readLine_108
      · have hf := sn_el c_9 hf
        refine lv_aload_n hx hb dX5_readLine_60 rfl (lv_at hl 0 rfl) ?_
        refine lv_aload_n hx hb dX5_readLine_61 rfl (lv_at hl 0 rfl) ?_
        obtain ⟨g_19, hf⟩ := sn_gdE hf
        refine sn_getR (r := 8) C hw fd_RX5_22 layC_17 rfl (by simpa using g_19) dX5_readLine_62 ?_
        refine sn_getC (r := (8 + 1)) C hw fd_RX5_49 (sn_look sn_isX2_8 (k := 0) rfl) rfl dX5_readLine_65 ?_
        refine lv_bipush (v := 7) hx hb dX5_readLine_68 (by decide) ?_
        obtain ⟨g_20, hf⟩ := sn_gdE hf
        refine sn_iald C hw (sn_look sn_isX2_8 (k := 1) rfl) g_20 dX5_readLine_70 ?_
        obtain ⟨t_21, h_22, hf⟩ := sn_bd hf
        refine sn_callVv (rest := []) C hw (ctX5_readNet l  h_22) kl_RX5_92 layC_17 rfl rfl rfl rfl (Nat.le_of_ble_eq_true rfl) dX5_readLine_71 hl.1 (fun H locs hw => ?_)
        refine lv_goto (tgt := 108) hx hb dX5_readLine_74 (by decide) ?_
        cases hf
        exact kr _ _ _ _ hw rfl dX5_readLine_108
    · have hf := sn_el c_6 hf
      refine lv_aload_n hx hb dX5_readLine_34 rfl (lv_at hl 0 rfl) ?_
      refine lv_aload_n hx hb dX5_readLine_35 rfl (lv_at hl 0 rfl) ?_
      obtain ⟨g_23, hf⟩ := sn_gdE hf
      refine sn_getR (r := 8) C hw fd_RX5_22 layC_17 rfl (by simpa using g_23) dX5_readLine_36 ?_
      refine sn_getC (r := (8 + 1)) C hw fd_RX5_49 (sn_look sn_isX2_8 (k := 0) rfl) rfl dX5_readLine_39 ?_
      refine lv_bipush (v := 6) hx hb dX5_readLine_42 (by decide) ?_
      obtain ⟨g_24, hf⟩ := sn_gdE hf
      refine sn_iald C hw (sn_look sn_isX2_8 (k := 1) rfl) g_24 dX5_readLine_44 ?_
      obtain ⟨t_25, h_26, hf⟩ := sn_bd hf
      refine sn_callVv (rest := []) C hw (ctX5_readGust l  h_26) kl_RX5_87 layC_17 rfl rfl rfl rfl (Nat.le_of_ble_eq_true rfl) dX5_readLine_45 hl.1 (fun H locs hw => ?_)
      refine lv_goto (tgt := 108) hx hb dX5_readLine_48 (by decide) ?_
      cases hf
      exact kr _ _ _ _ hw rfl dX5_readLine_108
  · have hf := sn_el c_3 hf
    refine lv_aload_n hx hb dX5_readLine_9 rfl (lv_at hl 0 rfl) ?_
    refine lv_aload_n hx hb dX5_readLine_10 rfl (lv_at hl 0 rfl) ?_
    obtain ⟨g_27, hf⟩ := sn_gdE hf
    refine sn_getR (r := 8) C hw fd_RX5_22 layC_17 rfl (by simpa using g_27) dX5_readLine_11 ?_
    refine sn_getC (r := (8 + 1)) C hw fd_RX5_49 (sn_look sn_isX2_8 (k := 0) rfl) rfl dX5_readLine_14 ?_
    refine lv_iconst (v := 5) hx hb dX5_readLine_17 rfl ?_
    obtain ⟨g_28, hf⟩ := sn_gdE hf
    refine sn_iald C hw (sn_look sn_isX2_8 (k := 1) rfl) g_28 dX5_readLine_18 ?_
    obtain ⟨t_29, h_30, hf⟩ := sn_bd hf
    refine sn_callVv (rest := []) C hw (ctX5_readNose l  h_30) kl_RX5_81 layC_17 rfl rfl rfl rfl (Nat.le_of_ble_eq_true rfl) dX5_readLine_19 hl.1 (fun H locs hw => ?_)
    refine lv_goto (tgt := 108) hx hb dX5_readLine_22 (by decide) ?_
    cases hf
    exact kr _ _ _ _ hw rfl dX5_readLine_108
theorem ctX5_readLine (l : Launch) {σ : sn_S}  {o : sn_S} (hf : fX5_readLine σ = some o) : sn_M l yX5_readLine cX5_readLine 1 none rmX5_readLine layC (fun ad => [.ref (ad 17)]) σ none o :=
  sn_met (by decide) (fun _ => Nat.le_of_ble_eq_true rfl) (fun p e s m args below meth c ls D ct ad A C hw hl => wX5_readLine_in C  hf (fun H locs ls pc hw ok hd => sn_vret C hw hd) _ _ _ hw hl)
-- X5_read
abbrev rmX5_read : Room := { frames := 8, cells := 0, slots := 0, locals := 171 }
def BX5_read_88 (σ : sn_S) (q1 : Nat) : Option (sn_S) :=
  (some σ)
def BX5_read_69 (σ : sn_S) (q1 : Nat) (x2 : Int32) : Option ((sn_S × Int32) ⊕ (sn_S)) :=
  (sn_gd (sn_R σ 17 7 == some 8) (sn_gd (sn_in (10 : Int32) 11) (sn_lt (sn_pI σ (8 + 1) (10 : Int32).toNatClampNeg (x2 + (1 : Int32))) fun σ_3 => (sn_lt (x2 + 1) fun y_5 => (some (.inl (σ_3, y_5)))))))
def BX5_read_33 (σ : sn_S) (q1 : Nat) (x2 : Int32) : Option ((sn_S × Int32) ⊕ (sn_S)) :=
  (if (900 : Int32) ≤ x2 then
  (some (.inr (σ)))
  else
  (if (sn_I σ 17 2) = 0 then
  (if (sn_I σ 17 6) = 0 then
  (some (.inr (σ)))
  else
  (if x2 = 0 then
  ((fX5_readHouse σ).bind fun t_7 => (BX5_read_69 t_7 q1 x2))
  else
  ((fX5_readLine σ).bind fun t_5 => (BX5_read_69 t_5 q1 x2))))
  else
  (some (.inr (σ)))))
def LX5_read_33 (q1 : Nat) (s : sn_S × Int32) : Option ((sn_S × Int32) ⊕ (sn_S)) := BX5_read_33 s.1 q1 s.2
def fX5_read (σ : sn_S) (q1 : Nat) : Option sn_S :=
  (sn_lt (sn_pR σ 17 7 (some q1)) fun σ_1 => (sn_gd (sn_R σ_1 17 7 == some 8) ((fX2_clear σ_1 8).bind fun t_4 => (sn_lt (sn_pI t_4 17 2 (0 : Int32)) fun σ_6 => (sn_lt (sn_pI σ_6 17 3 (-1 : Int32)) fun σ_8 => (sn_lt (sn_pI σ_8 17 5 (0 : Int32)) fun σ_10 => ((fX5_step σ_10).bind fun t_12 => ((sn_it (LX5_read_33 q1) 5000 (t_12, (0 : Int32))).bind fun t_14 => (BX5_read_88 t_14 q1)))))))))
theorem wX5_read_88 (C : sn_C p s m args meth c RX5 cX5_read 3 none D ct ad layC A) {σ : sn_S} {q1 : Nat} (h1 : sn_isX2 q1) {o : sn_S} (hf : BX5_read_88 σ q1 = some o) (kr : sn_Kr p l e rmX5_read s m args below meth c Q D ct ad layC A cX5_read .return_ (true) o []) : sn_At p l e rmX5_read s m args below meth c Q D ct ad layC A 3 σ 88 [] [] := by
  intro H locs ls hw hl
  have hx := C.1
  have hb := C.2.1
  unfold BX5_read_88 at hf
  cases hf
  exact kr _ _ _ _ hw rfl dX5_read_88
theorem wX5_read_69 (C : sn_C p s m args meth c RX5 cX5_read 3 none D ct ad layC A) {σ : sn_S} {q1 : Nat} {x2 : Int32} (h1 : sn_isX2 q1) {o : (sn_S × Int32) ⊕ (sn_S)} (hf : BX5_read_69 σ q1 x2 = some o) (kc : ∀ v, o = .inl v → sn_At p l e rmX5_read s m args below meth c Q D ct ad layC A 3 v.1 33 [(0, .ref (ad 17)), (2, .int v.2)] []) (kx : ∀ v, o = .inr v → sn_At p l e rmX5_read s m args below meth c Q D ct ad layC A 3 v 88 [] []) : sn_At p l e rmX5_read s m args below meth c Q D ct ad layC A 3 σ 69 [(0, .ref (ad 17)), (2, .int x2)] [] := by
  intro H locs ls hw hl
  have hx := C.1
  have hb := C.2.1
  unfold BX5_read_69 at hf
  refine lv_aload_n hx hb dX5_read_69 rfl (lv_at hl 0 rfl) ?_
  obtain ⟨g_1, hf⟩ := sn_gdE hf
  refine sn_getR (r := 8) C hw fd_RX5_22 layC_17 rfl (by simpa using g_1) dX5_read_70 ?_
  refine sn_getC (r := (8 + 1)) C hw fd_RX5_49 (sn_look sn_isX2_8 (k := 0) rfl) rfl dX5_read_73 ?_
  refine lv_bipush (v := 10) hx hb dX5_read_76 (by decide) ?_
  refine lv_iload_n hx hb dX5_read_78 rfl (lv_at hl 1 rfl) ?_
  refine lv_iconst (v := 1) hx hb dX5_read_79 rfl ?_
  refine lv_iadd hx hb dX5_read_80 ?_
  obtain ⟨g_2, hf⟩ := sn_gdE hf
  refine sn_iast C hw (sn_look sn_isX2_8 (k := 1) rfl) g_2 dX5_read_81 (fun H locs hw => ?_)
  obtain ⟨σ_3, e_4, hf⟩ := sn_ltE hf
  rw [← e_4] at hw
  obtain ⟨y_5, e_6, hf⟩ := sn_ltE hf
  refine lv_iinc (v := y_5) (lv' := [(2, .int y_5), (0, .ref (ad 17))]) hx hb dX5_read_82 hl (k := 1) rfl (by rw [e_6]; rfl) (by decide) rfl (fun ls hl => ?_)
  refine lv_goto (tgt := 33) hx hb dX5_read_85 (by decide) ?_
  cases hf
  exact kc _ rfl _ _ _ hw (lv_sub hl [1, 0] rfl)
theorem wX5_read_33 (C : sn_C p s m args meth c RX5 cX5_read 3 none D ct ad layC A) {σ : sn_S} {q1 : Nat} {x2 : Int32} (h1 : sn_isX2 q1) {o : (sn_S × Int32) ⊕ (sn_S)} (hf : BX5_read_33 σ q1 x2 = some o) (kc : ∀ v, o = .inl v → sn_At p l e rmX5_read s m args below meth c Q D ct ad layC A 3 v.1 33 [(0, .ref (ad 17)), (2, .int v.2)] []) (kx : ∀ v, o = .inr v → sn_At p l e rmX5_read s m args below meth c Q D ct ad layC A 3 v 88 [] []) : sn_At p l e rmX5_read s m args below meth c Q D ct ad layC A 3 σ 33 [(0, .ref (ad 17)), (2, .int x2)] [] := by
  intro H locs ls hw hl
  have hx := C.1
  have hb := C.2.1
  unfold BX5_read_33 at hf
  refine lv_iload_n hx hb dX5_read_33 rfl (lv_at hl 1 rfl) ?_
  refine lv_sipush (v := 900) hx hb dX5_read_34 (by decide) ?_
  refine lv_icmp_ge (tgt := 88) hx hb dX5_read_37 (by decide) (fun c_1 => ?_) (fun c_1 => ?_)
  · have hf := sn_if c_1 hf
    cases hf
    exact kx _ rfl _ _ _ hw (lv_sub hl [] rfl)
  · have hf := sn_el c_1 hf
    refine lv_aload_n hx hb dX5_read_40 rfl (lv_at hl 0 rfl) ?_
    refine sn_getI C hw fd_RX5_31 layC_17 rfl dX5_read_41 ?_
    refine lv_if_ne (tgt := 88) hx hb dX5_read_44 (by decide) (fun c_2 => ?_) (fun c_2 => ?_)
    · have hf := sn_el c_2 hf
      cases hf
      exact kx _ rfl _ _ _ hw (lv_sub hl [] rfl)
    · have hf := sn_if c_2 hf
      refine lv_aload_n hx hb dX5_read_47 rfl (lv_at hl 0 rfl) ?_
      refine sn_getI C hw fd_RX5_40 layC_17 rfl dX5_read_48 ?_
      refine lv_if_eq (tgt := 88) hx hb dX5_read_51 (by decide) (fun c_3 => ?_) (fun c_3 => ?_)
      · have hf := sn_if c_3 hf
        cases hf
        exact kx _ rfl _ _ _ hw (lv_sub hl [] rfl)
      · have hf := sn_el c_3 hf
        refine lv_iload_n hx hb dX5_read_54 rfl (lv_at hl 1 rfl) ?_
        refine lv_if_ne (tgt := 65) hx hb dX5_read_55 (by decide) (fun c_4 => ?_) (fun c_4 => ?_)
        · have hf := sn_el c_4 hf
          refine lv_aload_n hx hb dX5_read_65 rfl (lv_at hl 0 rfl) ?_
          obtain ⟨t_5, h_6, hf⟩ := sn_bd hf
          refine sn_callVv (rest := []) C hw (ctX5_readLine l  h_6) kl_RX5_46 layC_17 rfl rfl rfl rfl (Nat.le_of_ble_eq_true rfl) dX5_read_66 hl.1 (fun H locs hw => ?_)
          exact wX5_read_69 C h1 hf kc kx _ _ _ hw (lv_sub hl [0, 1] rfl)
        · have hf := sn_if c_4 hf
          refine lv_aload_n hx hb dX5_read_58 rfl (lv_at hl 0 rfl) ?_
          obtain ⟨t_7, h_8, hf⟩ := sn_bd hf
          refine sn_callVv (rest := []) C hw (ctX5_readHouse l  h_8) kl_RX5_43 layC_17 rfl rfl rfl rfl (Nat.le_of_ble_eq_true rfl) dX5_read_59 hl.1 (fun H locs hw => ?_)
          refine lv_goto (tgt := 69) hx hb dX5_read_62 (by decide) ?_
          exact wX5_read_69 C h1 hf kc kx _ _ _ hw (lv_sub hl [0, 1] rfl)
theorem wX5_read_L33 (C : sn_C p s m args meth c RX5 cX5_read 3 none D ct ad layC A) {q1 : Nat}  (h1 : sn_isX2 q1) {z : sn_S × Int32} {t : sn_S} (h : sn_it (LX5_read_33 q1) 5000 z = some t) (kx : ∀ v, t = v → sn_At p l e rmX5_read s m args below meth c Q D ct ad layC A 3 v 88 [] []) : sn_At p l e rmX5_read s m args below meth c Q D ct ad layC A 3 z.1 33 [(0, .ref (ad 17)), (2, .int z.2)] [] :=
  sn_loop (f := LX5_read_33 q1) (G := fun z => sn_At p l e rmX5_read s m args below meth c Q D ct ad layC A 3 z.1 33 [(0, .ref (ad 17)), (2, .int z.2)] []) (E := fun t => (∀ v, t = v → sn_At p l e rmX5_read s m args below meth c Q D ct ad layC A 3 v 88 [] []) ∧ True) (fun z o hf k1 k2 => wX5_read_33 C h1 hf (fun v e => k1 v e) (fun v e => (k2 _ e).1 v rfl)) 5000 z t h ⟨kx, trivial⟩
theorem wX5_read_in (C : sn_C p s m args meth c RX5 cX5_read 3 none D ct ad layC A) {σ : sn_S} {q1 : Nat} (h1 : sn_isX2 q1) {o : sn_S} (hf : fX5_read σ q1 = some o) (kr : sn_Kr p l e rmX5_read s m args below meth c Q D ct ad layC A cX5_read .return_ (true) o []) : sn_At p l e rmX5_read s m args below meth c Q D ct ad layC A 3 σ 0 [(0, .ref (ad 17)), (1, .ref (ad q1))] [] := by
  intro H locs ls hw hl
  have hx := C.1
  have hb := C.2.1
  unfold fX5_read at hf
  refine lv_aload_n hx hb dX5_read_0 rfl (lv_at hl 0 rfl) ?_
  refine lv_aload_n hx hb dX5_read_1 rfl (lv_at hl 1 rfl) ?_
  refine sn_putR C hw fp_RX5_22 layC_17 rfl dX5_read_2 (fun H locs hw => ?_)
  obtain ⟨σ_1, e_2, hf⟩ := sn_ltE hf
  rw [← e_2] at hw
  refine lv_aload_n hx hb dX5_read_5 rfl (lv_at hl 0 rfl) ?_
  obtain ⟨g_3, hf⟩ := sn_gdE hf
  refine sn_getR (r := 8) C hw fd_RX5_22 layC_17 rfl (by simpa using g_3) dX5_read_6 ?_
  obtain ⟨t_4, h_5, hf⟩ := sn_bd hf
  refine sn_callVv (rest := []) C hw (ctX2_clear l sn_isX2_8 h_5) kl_RX5_26 (sn_look sn_isX2_8 (k := 0) rfl) rfl rfl rfl rfl (Nat.le_of_ble_eq_true rfl) dX5_read_9 hl.1 (fun H locs hw => ?_)
  refine lv_aload_n hx hb dX5_read_12 rfl (lv_at hl 0 rfl) ?_
  refine lv_iconst (v := 0) hx hb dX5_read_13 rfl ?_
  refine sn_putI C hw fp_RX5_31 layC_17 rfl dX5_read_14 (fun H locs hw => ?_)
  obtain ⟨σ_6, e_7, hf⟩ := sn_ltE hf
  rw [← e_7] at hw
  refine lv_aload_n hx hb dX5_read_17 rfl (lv_at hl 0 rfl) ?_
  refine lv_iconst (v := (-1)) hx hb dX5_read_18 rfl ?_
  refine sn_putI C hw fp_RX5_15 layC_17 rfl dX5_read_19 (fun H locs hw => ?_)
  obtain ⟨σ_8, e_9, hf⟩ := sn_ltE hf
  rw [← e_9] at hw
  refine lv_aload_n hx hb dX5_read_22 rfl (lv_at hl 0 rfl) ?_
  refine lv_iconst (v := 0) hx hb dX5_read_23 rfl ?_
  refine sn_putI C hw fp_RX5_34 layC_17 rfl dX5_read_24 (fun H locs hw => ?_)
  obtain ⟨σ_10, e_11, hf⟩ := sn_ltE hf
  rw [← e_11] at hw
  refine lv_aload_n hx hb dX5_read_27 rfl (lv_at hl 0 rfl) ?_
  obtain ⟨t_12, h_13, hf⟩ := sn_bd hf
  refine sn_callVv (rest := []) C hw (ctX5_step l  h_13) kl_RX5_37 layC_17 rfl rfl rfl rfl (Nat.le_of_ble_eq_true rfl) dX5_read_28 hl.1 (fun H locs hw => ?_)
  refine lv_iconst (v := 0) hx hb dX5_read_31 rfl ?_
  refine lv_istore_n (lv' := [(2, .int (0 : Int32)), (0, .ref (ad 17)), (1, .ref (ad q1))]) hx hb dX5_read_32 rfl hl (by decide) rfl (fun ls hl => ?_)
  obtain ⟨t_14, h_15, hf⟩ := sn_bd hf
  exact wX5_read_L33 C h1 h_15 (fun v e => by cases e; exact wX5_read_88 C h1 hf kr) _ _ _ hw (lv_sub hl [1, 0] rfl)
theorem ctX5_read (l : Launch) {σ : sn_S} {q1 : Nat} (h1 : sn_isX2 q1) {o : sn_S} (hf : fX5_read σ q1 = some o) : sn_M l yX5_read cX5_read 3 none rmX5_read layC (fun ad => [.ref (ad 17), .ref (ad q1)]) σ none o :=
  sn_met (by decide) (fun _ => Nat.le_of_ble_eq_true rfl) (fun p e s m args below meth c ls D ct ad A C hw hl => wX5_read_in C h1 hf (fun H locs ls pc hw ok hd => sn_vret C hw hd) _ _ _ hw hl)
-- X6_isSlot
abbrev rmX6_isSlot : Room := { frames := 0, cells := 0, slots := 0, locals := 0 }
def fX6_isSlot (x0 : Int32) : Option Int32 :=
  (if x0 < 0 then
  (sn_gd (sn_b01 (0 : Int32)) (some (0 : Int32)))
  else
  (if (4 : Int32) ≤ x0 then
  (sn_gd (sn_b01 (0 : Int32)) (some (0 : Int32)))
  else
  (sn_gd (sn_b01 (1 : Int32)) (some (1 : Int32)))))
theorem wX6_isSlot_in (C : sn_C p s m args meth c RX6 cX6_isSlot 1 (some .boolean) D ct ad layC A) {σ : sn_S} {x0 : Int32}  {o : Int32} (hf : fX6_isSlot x0 = some o) (kr : sn_Kr p l e rmX6_isSlot s m args below meth c Q D ct ad layC A cX6_isSlot .ireturn (sn_b01 o) σ [.int o]) : sn_At p l e rmX6_isSlot s m args below meth c Q D ct ad layC A 1 σ 0 [(0, .int x0)] [] := by
  intro H locs ls hw hl
  have hx := C.1
  have hb := C.2.1
  unfold fX6_isSlot at hf
  refine lv_iload_n hx hb dX6_isSlot_0 rfl (lv_at hl 0 rfl) ?_
  refine lv_if_lt (tgt := 13) hx hb dX6_isSlot_1 (by decide) (fun c_1 => ?_) (fun c_1 => ?_)
  · have hf := sn_if c_1 hf
    refine lv_iconst (v := 0) hx hb dX6_isSlot_13 rfl ?_
    obtain ⟨g_2, hf⟩ := sn_gdE hf
    cases hf
    exact kr _ _ _ _ hw g_2 dX6_isSlot_14
  · have hf := sn_el c_1 hf
    refine lv_iload_n hx hb dX6_isSlot_4 rfl (lv_at hl 0 rfl) ?_
    refine lv_iconst (v := 4) hx hb dX6_isSlot_5 rfl ?_
    refine lv_icmp_ge (tgt := 13) hx hb dX6_isSlot_6 (by decide) (fun c_3 => ?_) (fun c_3 => ?_)
    · have hf := sn_if c_3 hf
      refine lv_iconst (v := 0) hx hb dX6_isSlot_13 rfl ?_
      obtain ⟨g_4, hf⟩ := sn_gdE hf
      cases hf
      exact kr _ _ _ _ hw g_4 dX6_isSlot_14
    · have hf := sn_el c_3 hf
      refine lv_iconst (v := 1) hx hb dX6_isSlot_9 rfl ?_
      refine lv_goto (tgt := 14) hx hb dX6_isSlot_10 (by decide) ?_
      obtain ⟨g_5, hf⟩ := sn_gdE hf
      cases hf
      exact kr _ _ _ _ hw g_5 dX6_isSlot_14
theorem ctX6_isSlot (l : Launch) {σ : sn_S} {x0 : Int32}  {o : Int32} (hf : fX6_isSlot x0 = some o) : sn_M l yX6_isSlot cX6_isSlot 1 (some .boolean) rmX6_isSlot layC (fun ad => [.int x0]) σ (some (fun _ => .int o)) σ :=
  sn_met (by decide) (fun _ => Nat.le_of_ble_eq_true rfl) (fun p e s m args below meth c ls D ct ad A C hw hl => wX6_isSlot_in C  hf (fun H locs ls pc hw ok hd => sn_zret C hw ok hd) _ _ _ hw hl)
-- X6_has
abbrev rmX6_has : Room := { frames := 0, cells := 0, slots := 0, locals := 0 }
def fX6_has (σ : sn_S) (x1 : Int32) : Option Int32 :=
  (sn_gd (sn_in x1 4) (if (sn_I σ 26 x1.toNatClampNeg) = (-1 : Int32) then
  (sn_gd (sn_b01 (0 : Int32)) (some (0 : Int32)))
  else
  (sn_gd (sn_b01 (1 : Int32)) (some (1 : Int32)))))
theorem wX6_has_in (C : sn_C p s m args meth c RX6 cX6_has 2 (some .boolean) D ct ad layC A) {σ : sn_S} {x1 : Int32}  {o : Int32} (hf : fX6_has σ x1 = some o) (kr : sn_Kr p l e rmX6_has s m args below meth c Q D ct ad layC A cX6_has .ireturn (sn_b01 o) σ [.int o]) : sn_At p l e rmX6_has s m args below meth c Q D ct ad layC A 2 σ 0 [(0, .ref (ad 19)), (1, .int x1)] [] := by
  intro H locs ls hw hl
  have hx := C.1
  have hb := C.2.1
  unfold fX6_has at hf
  refine lv_aload_n hx hb dX6_has_0 rfl (lv_at hl 0 rfl) ?_
  refine sn_getC (r := 26) C hw fd_RX6_20 layC_19 rfl dX6_has_1 ?_
  refine lv_iload_n hx hb dX6_has_4 rfl (lv_at hl 1 rfl) ?_
  obtain ⟨g_1, hf⟩ := sn_gdE hf
  refine sn_iald C hw layC_26 g_1 dX6_has_5 ?_
  refine lv_iconst (v := (-1)) hx hb dX6_has_6 rfl ?_
  refine lv_icmp_eq (tgt := 14) hx hb dX6_has_7 (by decide) (fun c_2 => ?_) (fun c_2 => ?_)
  · have hf := sn_if c_2 hf
    refine lv_iconst (v := 0) hx hb dX6_has_14 rfl ?_
    obtain ⟨g_3, hf⟩ := sn_gdE hf
    cases hf
    exact kr _ _ _ _ hw g_3 dX6_has_15
  · have hf := sn_el c_2 hf
    refine lv_iconst (v := 1) hx hb dX6_has_10 rfl ?_
    refine lv_goto (tgt := 15) hx hb dX6_has_11 (by decide) ?_
    obtain ⟨g_4, hf⟩ := sn_gdE hf
    cases hf
    exact kr _ _ _ _ hw g_4 dX6_has_15
theorem ctX6_has (l : Launch) {σ : sn_S} {x1 : Int32}  {o : Int32} (hf : fX6_has σ x1 = some o) : sn_M l yX6_has cX6_has 2 (some .boolean) rmX6_has layC (fun ad => [.ref (ad 19), .int x1]) σ (some (fun _ => .int o)) σ :=
  sn_met (by decide) (fun _ => Nat.le_of_ble_eq_true rfl) (fun p e s m args below meth c ls D ct ad A C hw hl => wX6_has_in C  hf (fun H locs ls pc hw ok hd => sn_zret C hw ok hd) _ _ _ hw hl)
-- X6_howMany
abbrev rmX6_howMany : Room := { frames := 1, cells := 0, slots := 0, locals := 21 }
def BX6_howMany_31 (σ : sn_S) (x1 : Int32) : Option (Int32) :=
  (some x1)
def BX6_howMany_23 (σ : sn_S) (x1 : Int32) (x2 : Int32) (t0 : Int32) (t1 : Int32) : Option ((Int32 × Int32) ⊕ (Int32)) :=
  (sn_lt (t0 + t1) fun y_1 => (sn_lt (x2 + 1) fun y_3 => (some (.inl (y_1, y_3)))))
def BX6_howMany_4 (σ : sn_S) (x1 : Int32) (x2 : Int32) : Option ((Int32 × Int32) ⊕ (Int32)) :=
  (if (4 : Int32) ≤ x2 then
  (some (.inr (x1)))
  else
  ((fX6_has σ x2).bind fun t_2 => (if t_2 = 0 then
  (BX6_howMany_23 σ x1 x2 x1 (0 : Int32))
  else
  (BX6_howMany_23 σ x1 x2 x1 (1 : Int32)))))
def LX6_howMany_4 (σ : sn_S) (s : Int32 × Int32) : Option ((Int32 × Int32) ⊕ (Int32)) := BX6_howMany_4 σ s.1 s.2
def fX6_howMany (σ : sn_S) : Option Int32 :=
  ((sn_it (LX6_howMany_4 σ) 5000 ((0 : Int32), (0 : Int32))).bind fun t_1 => (BX6_howMany_31 σ t_1))
theorem wX6_howMany_31 (C : sn_C p s m args meth c RX6 cX6_howMany 3 (some .int) D ct ad layC A) {σ : sn_S} {x1 : Int32}  {o : Int32} (hf : BX6_howMany_31 σ x1 = some o) (kr : sn_Kr p l e rmX6_howMany s m args below meth c Q D ct ad layC A cX6_howMany .ireturn (true) σ [.int o]) : sn_At p l e rmX6_howMany s m args below meth c Q D ct ad layC A 3 σ 31 [(1, .int x1)] [] := by
  intro H locs ls hw hl
  have hx := C.1
  have hb := C.2.1
  unfold BX6_howMany_31 at hf
  refine lv_iload_n hx hb dX6_howMany_31 rfl (lv_at hl 0 rfl) ?_
  cases hf
  exact kr _ _ _ _ hw rfl dX6_howMany_32
theorem wX6_howMany_23 (C : sn_C p s m args meth c RX6 cX6_howMany 3 (some .int) D ct ad layC A) {σ : sn_S} {x1 : Int32} {x2 : Int32} {t0 : Int32} {t1 : Int32}  {o : (Int32 × Int32) ⊕ (Int32)} (hf : BX6_howMany_23 σ x1 x2 t0 t1 = some o) (kc : ∀ v, o = .inl v → sn_At p l e rmX6_howMany s m args below meth c Q D ct ad layC A 3 σ 4 [(0, .ref (ad 19)), (1, .int v.1), (2, .int v.2)] []) (kx : ∀ v, o = .inr v → sn_At p l e rmX6_howMany s m args below meth c Q D ct ad layC A 3 σ 31 [(1, .int v)] []) : sn_At p l e rmX6_howMany s m args below meth c Q D ct ad layC A 3 σ 23 [(0, .ref (ad 19)), (1, .int x1), (2, .int x2)] [.int t1, .int t0] := by
  intro H locs ls hw hl
  have hx := C.1
  have hb := C.2.1
  unfold BX6_howMany_23 at hf
  refine lv_iadd hx hb dX6_howMany_23 ?_
  obtain ⟨y_1, e_2, hf⟩ := sn_ltE hf
  refine lv_topi (fun y_1_ e_2_ => ?_)
  obtain rfl : y_1 = y_1_ := e_2.trans e_2_.symm
  refine lv_istore_n (lv' := [(1, .int y_1), (0, .ref (ad 19)), (2, .int x2)]) hx hb dX6_howMany_24 rfl hl (by decide) rfl (fun ls hl => ?_)
  obtain ⟨y_3, e_4, hf⟩ := sn_ltE hf
  refine lv_iinc (v := y_3) (lv' := [(2, .int y_3), (1, .int y_1), (0, .ref (ad 19))]) hx hb dX6_howMany_25 hl (k := 2) rfl (by rw [e_4]; rfl) (by decide) rfl (fun ls hl => ?_)
  refine lv_goto (tgt := 4) hx hb dX6_howMany_28 (by decide) ?_
  cases hf
  exact kc _ rfl _ _ _ hw (lv_sub hl [2, 1, 0] rfl)
theorem wX6_howMany_4 (C : sn_C p s m args meth c RX6 cX6_howMany 3 (some .int) D ct ad layC A) {σ : sn_S} {x1 : Int32} {x2 : Int32}  {o : (Int32 × Int32) ⊕ (Int32)} (hf : BX6_howMany_4 σ x1 x2 = some o) (kc : ∀ v, o = .inl v → sn_At p l e rmX6_howMany s m args below meth c Q D ct ad layC A 3 σ 4 [(0, .ref (ad 19)), (1, .int v.1), (2, .int v.2)] []) (kx : ∀ v, o = .inr v → sn_At p l e rmX6_howMany s m args below meth c Q D ct ad layC A 3 σ 31 [(1, .int v)] []) : sn_At p l e rmX6_howMany s m args below meth c Q D ct ad layC A 3 σ 4 [(0, .ref (ad 19)), (1, .int x1), (2, .int x2)] [] := by
  intro H locs ls hw hl
  have hx := C.1
  have hb := C.2.1
  unfold BX6_howMany_4 at hf
  refine lv_iload_n hx hb dX6_howMany_4 rfl (lv_at hl 2 rfl) ?_
  refine lv_iconst (v := 4) hx hb dX6_howMany_5 rfl ?_
  refine lv_icmp_ge (tgt := 31) hx hb dX6_howMany_6 (by decide) (fun c_1 => ?_) (fun c_1 => ?_)
  · have hf := sn_if c_1 hf
    cases hf
    exact kx _ rfl _ _ _ hw (lv_sub hl [1] rfl)
  · have hf := sn_el c_1 hf
    refine lv_iload_n hx hb dX6_howMany_9 rfl (lv_at hl 1 rfl) ?_
    refine lv_aload_n hx hb dX6_howMany_10 rfl (lv_at hl 0 rfl) ?_
    refine lv_iload_n hx hb dX6_howMany_11 rfl (lv_at hl 2 rfl) ?_
    obtain ⟨t_2, h_3, hf⟩ := sn_bd hf
    refine sn_callVi (rest := [.int x1]) C hw (ctX6_has l  h_3) kl_RX6_29 layC_19 rfl rfl rfl rfl (Nat.le_of_ble_eq_true rfl) dX6_howMany_12 hl.1 (fun H locs hw => ?_)
    refine lv_if_eq (tgt := 22) hx hb dX6_howMany_15 (by decide) (fun c_4 => ?_) (fun c_4 => ?_)
    · have hf := sn_if c_4 hf
      refine lv_iconst (v := 0) hx hb dX6_howMany_22 rfl ?_
      exact wX6_howMany_23 C  hf kc kx _ _ _ hw (lv_sub hl [0, 1, 2] rfl)
    · have hf := sn_el c_4 hf
      refine lv_iconst (v := 1) hx hb dX6_howMany_18 rfl ?_
      refine lv_goto (tgt := 23) hx hb dX6_howMany_19 (by decide) ?_
      exact wX6_howMany_23 C  hf kc kx _ _ _ hw (lv_sub hl [0, 1, 2] rfl)
theorem wX6_howMany_L4 (C : sn_C p s m args meth c RX6 cX6_howMany 3 (some .int) D ct ad layC A) {σ : sn_S}   {z : Int32 × Int32} {t : Int32} (h : sn_it (LX6_howMany_4 σ) 5000 z = some t) (kx : ∀ v, t = v → sn_At p l e rmX6_howMany s m args below meth c Q D ct ad layC A 3 σ 31 [(1, .int v)] []) : sn_At p l e rmX6_howMany s m args below meth c Q D ct ad layC A 3 σ 4 [(0, .ref (ad 19)), (1, .int z.1), (2, .int z.2)] [] :=
  sn_loop (f := LX6_howMany_4 σ) (G := fun z => sn_At p l e rmX6_howMany s m args below meth c Q D ct ad layC A 3 σ 4 [(0, .ref (ad 19)), (1, .int z.1), (2, .int z.2)] []) (E := fun t => (∀ v, t = v → sn_At p l e rmX6_howMany s m args below meth c Q D ct ad layC A 3 σ 31 [(1, .int v)] []) ∧ True) (fun z o hf k1 k2 => wX6_howMany_4 C  hf (fun v e => k1 v e) (fun v e => (k2 _ e).1 v rfl)) 5000 z t h ⟨kx, trivial⟩
theorem wX6_howMany_in (C : sn_C p s m args meth c RX6 cX6_howMany 3 (some .int) D ct ad layC A) {σ : sn_S}  {o : Int32} (hf : fX6_howMany σ = some o) (kr : sn_Kr p l e rmX6_howMany s m args below meth c Q D ct ad layC A cX6_howMany .ireturn (true) σ [.int o]) : sn_At p l e rmX6_howMany s m args below meth c Q D ct ad layC A 3 σ 0 [(0, .ref (ad 19))] [] := by
  intro H locs ls hw hl
  have hx := C.1
  have hb := C.2.1
  unfold fX6_howMany at hf
  refine lv_iconst (v := 0) hx hb dX6_howMany_0 rfl ?_
  refine lv_istore_n (lv' := [(1, .int (0 : Int32)), (0, .ref (ad 19))]) hx hb dX6_howMany_1 rfl hl (by decide) rfl (fun ls hl => ?_)
  refine lv_iconst (v := 0) hx hb dX6_howMany_2 rfl ?_
  refine lv_istore_n (lv' := [(2, .int (0 : Int32)), (1, .int (0 : Int32)), (0, .ref (ad 19))]) hx hb dX6_howMany_3 rfl hl (by decide) rfl (fun ls hl => ?_)
  obtain ⟨t_1, h_2, hf⟩ := sn_bd hf
  exact wX6_howMany_L4 C  h_2 (fun v e => by cases e; exact wX6_howMany_31 C  hf kr) _ _ _ hw (lv_sub hl [2, 1, 0] rfl)
theorem ctX6_howMany (l : Launch) {σ : sn_S}  {o : Int32} (hf : fX6_howMany σ = some o) : sn_M l yX6_howMany cX6_howMany 3 (some .int) rmX6_howMany layC (fun ad => [.ref (ad 19)]) σ (some (fun _ => .int o)) σ :=
  sn_met (by decide) (fun _ => Nat.le_of_ble_eq_true rfl) (fun p e s m args below meth c ls D ct ad A C hw hl => wX6_howMany_in C  hf (fun H locs ls pc hw ok hd => sn_iret C hw hd) _ _ _ hw hl)
-- X6_make
abbrev rmX6_make : Room := { frames := 1, cells := 0, slots := 0, locals := 24 }
def fX6_make (σ : sn_S) (x1 : Int32) (x2 : Int32) (x3 : Int32) : Option sn_S :=
  (sn_gd (sn_in x1 4) (sn_lt (sn_pI σ 25 x1.toNatClampNeg x2) fun σ_2 => (sn_gd (sn_in x1 4) (sn_lt (sn_pI σ_2 26 x1.toNatClampNeg x3) fun σ_5 => (sn_gd (sn_in x1 4) ((fJ7_fill_d0a16 σ_5 (sn_at sn_rs20 x1) 60 (0 : Int64)).bind fun t_8 => (some t_8)))))))
theorem wX6_make_in (C : sn_C p s m args meth c RX6 cX6_make 4 none D ct ad layC A) {σ : sn_S} {x1 : Int32} {x2 : Int32} {x3 : Int32}  {o : sn_S} (hf : fX6_make σ x1 x2 x3 = some o) (kr : sn_Kr p l e rmX6_make s m args below meth c Q D ct ad layC A cX6_make .return_ (true) o []) : sn_At p l e rmX6_make s m args below meth c Q D ct ad layC A 4 σ 0 [(0, .ref (ad 19)), (1, .int x1), (2, .int x2), (3, .int x3)] [] := by
  intro H locs ls hw hl
  have hx := C.1
  have hb := C.2.1
  unfold fX6_make at hf
  refine lv_aload_n hx hb dX6_make_0 rfl (lv_at hl 0 rfl) ?_
  refine sn_getC (r := 25) C hw fd_RX6_16 layC_19 rfl dX6_make_1 ?_
  refine lv_iload_n hx hb dX6_make_4 rfl (lv_at hl 1 rfl) ?_
  refine lv_iload_n hx hb dX6_make_5 rfl (lv_at hl 2 rfl) ?_
  obtain ⟨g_1, hf⟩ := sn_gdE hf
  refine sn_iast C hw layC_25 g_1 dX6_make_6 (fun H locs hw => ?_)
  obtain ⟨σ_2, e_3, hf⟩ := sn_ltE hf
  rw [← e_3] at hw
  refine lv_aload_n hx hb dX6_make_7 rfl (lv_at hl 0 rfl) ?_
  refine sn_getC (r := 26) C hw fd_RX6_20 layC_19 rfl dX6_make_8 ?_
  refine lv_iload_n hx hb dX6_make_11 rfl (lv_at hl 1 rfl) ?_
  refine lv_iload_n hx hb dX6_make_12 rfl (lv_at hl 3 rfl) ?_
  obtain ⟨g_4, hf⟩ := sn_gdE hf
  refine sn_iast C hw layC_26 g_4 dX6_make_13 (fun H locs hw => ?_)
  obtain ⟨σ_5, e_6, hf⟩ := sn_ltE hf
  rw [← e_6] at hw
  refine lv_aload_n hx hb dX6_make_14 rfl (lv_at hl 0 rfl) ?_
  refine sn_getC (r := 20) C hw fd_RX6_11 layC_19 rfl dX6_make_15 ?_
  refine lv_iload_n hx hb dX6_make_18 rfl (lv_at hl 1 rfl) ?_
  obtain ⟨g_7, hf⟩ := sn_gdE hf
  refine sn_aldA C hw layC_20 rfl g_7 dX6_make_19 ?_
  refine lv_lconst (v := 0) hx hb dX6_make_20 rfl ?_
  obtain ⟨t_8, h_9, hf⟩ := sn_bd hf
  refine sn_callSv (rest := []) C hw (ctJ7_fill_d0a16 l (sn_rs_row g_7) h_9) kl_RX6_33 rfl rfl rfl (Nat.le_of_ble_eq_true rfl) dX6_make_21 hl.1 (fun H locs hw => ?_)
  cases hf
  exact kr _ _ _ _ hw rfl dX6_make_24
theorem ctX6_make (l : Launch) {σ : sn_S} {x1 : Int32} {x2 : Int32} {x3 : Int32}  {o : sn_S} (hf : fX6_make σ x1 x2 x3 = some o) : sn_M l yX6_make cX6_make 4 none rmX6_make layC (fun ad => [.ref (ad 19), .int x1, .int x2, .int x3]) σ none o :=
  sn_met (by decide) (fun _ => Nat.le_of_ble_eq_true rfl) (fun p e s m args below meth c ls D ct ad A C hw hl => wX6_make_in C  hf (fun H locs ls pc hw ok hd => sn_vret C hw hd) _ _ _ hw hl)
end
