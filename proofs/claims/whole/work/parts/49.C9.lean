section
variable {p : Program} {l : Launch} {e : Env} {s : State} {m : MethodId} {args : Array Value} {below : List Frame} {meth : Method} {c : Code} {Q : State → Prop} {D : va_G} {ct : Nat → ClassId} {ad : Nat → Nat}
-- X8_moneyInTheEnd
abbrev rmX8_moneyInTheEnd : Room := { frames := 5, cells := 0, slots := 0, locals := 120 }
def fX8_moneyInTheEnd (σ : sn_S) (x1 : Int32) : Option (Int32 × sn_S) :=
  ((fX3_reckon σ 3 48 x1).bind fun t_1 => ((fX3_moneyAt t_1 ((sn_I t_1 48 0) - (1 : Int32))).bind fun t_3 => (some (t_3, t_1))))
theorem wX8_moneyInTheEnd_in (C : sn_C p s m args meth c RX8 cX8_moneyInTheEnd 2 (some .int) D ct ad layC) {σ : sn_S} {x1 : Int32}  {o : (Int32 × sn_S)} (hf : fX8_moneyInTheEnd σ x1 = some o) (kr : sn_Kr p l e rmX8_moneyInTheEnd s m args below meth c Q D ct ad layC cX8_moneyInTheEnd .ireturn (true) o.2 [.int o.1]) : sn_At p l e rmX8_moneyInTheEnd s m args below meth c Q D ct ad layC 2 σ 0 [(0, .ref (ad 0)), (1, .int x1)] [] := by
  intro H locs ls hw hl
  have hx := C.1
  have hb := C.2.1
  unfold fX8_moneyInTheEnd at hf
  refine lv_aload_n hx hb dX8_moneyInTheEnd_0 rfl (lv_at hl 0 rfl) ?_
  refine sn_getC (r := 70) C hw fd_RX8_54 layC_0 rfl dX8_moneyInTheEnd_1 ?_
  refine lv_aload_n hx hb dX8_moneyInTheEnd_4 rfl (lv_at hl 0 rfl) ?_
  refine sn_getC (r := 3) C hw fd_RX8_10 layC_0 rfl dX8_moneyInTheEnd_5 ?_
  refine lv_aload_n hx hb dX8_moneyInTheEnd_8 rfl (lv_at hl 0 rfl) ?_
  refine sn_getC (r := 48) C hw fd_RX8_44 layC_0 rfl dX8_moneyInTheEnd_9 ?_
  refine lv_iload_n hx hb dX8_moneyInTheEnd_12 rfl (lv_at hl 1 rfl) ?_
  obtain ⟨t_1, h_2, hf⟩ := sn_bd hf
  refine sn_callVv (rest := []) C hw (ctX3_reckon l sn_isX2_3 sn_isX0_48 h_2) kl_RX8_236 layC_70 rfl rfl rfl rfl (Nat.le_of_ble_eq_true rfl) dX8_moneyInTheEnd_13 hl.1 (fun H locs hw => ?_)
  refine lv_aload_n hx hb dX8_moneyInTheEnd_16 rfl (lv_at hl 0 rfl) ?_
  refine sn_getC (r := 70) C hw fd_RX8_54 layC_0 rfl dX8_moneyInTheEnd_17 ?_
  refine lv_aload_n hx hb dX8_moneyInTheEnd_20 rfl (lv_at hl 0 rfl) ?_
  refine sn_getC (r := 48) C hw fd_RX8_44 layC_0 rfl dX8_moneyInTheEnd_21 ?_
  refine sn_getI C hw fd_RX8_153 (sn_look sn_isX0_48 (k := 0) rfl) rfl dX8_moneyInTheEnd_24 ?_
  refine lv_iconst (v := 1) hx hb dX8_moneyInTheEnd_27 rfl ?_
  refine lv_isub hx hb dX8_moneyInTheEnd_28 ?_
  obtain ⟨t_3, h_4, hf⟩ := sn_bd hf
  refine sn_callVi (rest := []) C hw (ctX3_moneyAt l  h_4) kl_RX8_224 layC_70 rfl rfl rfl rfl (Nat.le_of_ble_eq_true rfl) dX8_moneyInTheEnd_29 hl.1 (fun H locs hw => ?_)
  cases hf
  exact kr _ _ _ _ hw rfl dX8_moneyInTheEnd_32
theorem ctX8_moneyInTheEnd (l : Launch) {σ : sn_S} {x1 : Int32}  {o : (Int32 × sn_S)} (hf : fX8_moneyInTheEnd σ x1 = some o) : sn_M l yX8_moneyInTheEnd cX8_moneyInTheEnd 2 (some .int) rmX8_moneyInTheEnd layC (fun ad => [.ref (ad 0), .int x1]) σ (some (fun _ => .int o.1)) o.2 :=
  sn_met (by decide) (fun _ => Nat.le_of_ble_eq_true rfl) (fun p e s m args below meth c ls D ct ad C hw hl => wX8_moneyInTheEnd_in C  hf (fun H locs ls pc hw ok hd => sn_iret C hw hd) _ _ _ hw hl)
-- X8_by
abbrev rmX8_by : Room := { frames := 6, cells := 0, slots := 0, locals := 141 }
def BX8_by_16 (σ : sn_S) : Option ((Int32 × sn_S)) :=
  (some ((-100000 : Int32), σ))
def fX8_by (σ : sn_S) (x1 : Int32) : Option (Int32 × sn_S) :=
  ((fX8_isHouse σ).bind fun t_1 => (if t_1 = 0 then
  (BX8_by_16 σ)
  else
  (if x1 < 0 then
  (BX8_by_16 σ)
  else
  (if x1 < (4 : Int32) then
  ((fX8_moneyInTheEnd σ x1).bind fun t_6 => (some (t_6.1, t_6.2)))
  else
  (BX8_by_16 σ)))))
theorem wX8_by_16 (C : sn_C p s m args meth c RX8 cX8_by 2 (some .int) D ct ad layC) {σ : sn_S}  {o : (Int32 × sn_S)} (hf : BX8_by_16 σ = some o) (kr : sn_Kr p l e rmX8_by s m args below meth c Q D ct ad layC cX8_by .ireturn (true) o.2 [.int o.1]) : sn_At p l e rmX8_by s m args below meth c Q D ct ad layC 2 σ 16 [] [] := by
  intro H locs ls hw hl
  have hx := C.1
  have hb := C.2.1
  unfold BX8_by_16 at hf
  refine lv_ldc hx hb C.2.2.2.1 (C.2.2.2.2.1 _ kk_RX8_223) dX8_by_16 ?_
  cases hf
  exact kr _ _ _ _ hw rfl dX8_by_18
theorem wX8_by_in (C : sn_C p s m args meth c RX8 cX8_by 2 (some .int) D ct ad layC) {σ : sn_S} {x1 : Int32}  {o : (Int32 × sn_S)} (hf : fX8_by σ x1 = some o) (kr : sn_Kr p l e rmX8_by s m args below meth c Q D ct ad layC cX8_by .ireturn (true) o.2 [.int o.1]) : sn_At p l e rmX8_by s m args below meth c Q D ct ad layC 2 σ 0 [(0, .ref (ad 0)), (1, .int x1)] [] := by
  intro H locs ls hw hl
  have hx := C.1
  have hb := C.2.1
  unfold fX8_by at hf
  refine lv_aload_n hx hb dX8_by_0 rfl (lv_at hl 0 rfl) ?_
  obtain ⟨t_1, h_2, hf⟩ := sn_bd hf
  refine sn_callVi (rest := []) C hw (ctX8_isHouse l  h_2) kl_RX8_139 layC_0 rfl rfl rfl rfl (Nat.le_of_ble_eq_true rfl) dX8_by_1 hl.1 (fun H locs hw => ?_)
  refine lv_if_eq (tgt := 16) hx hb dX8_by_4 (by decide) (fun c_3 => ?_) (fun c_3 => ?_)
  · have hf := sn_if c_3 hf
    exact wX8_by_16 C  hf kr _ _ _ hw (lv_sub hl [] rfl)
  · have hf := sn_el c_3 hf
    refine lv_iload_n hx hb dX8_by_7 rfl (lv_at hl 1 rfl) ?_
    refine lv_if_lt (tgt := 16) hx hb dX8_by_8 (by decide) (fun c_4 => ?_) (fun c_4 => ?_)
    · have hf := sn_if c_4 hf
      exact wX8_by_16 C  hf kr _ _ _ hw (lv_sub hl [] rfl)
    · have hf := sn_el c_4 hf
      refine lv_iload_n hx hb dX8_by_11 rfl (lv_at hl 1 rfl) ?_
      refine lv_iconst (v := 4) hx hb dX8_by_12 rfl ?_
      refine lv_icmp_lt (tgt := 19) hx hb dX8_by_13 (by decide) (fun c_5 => ?_) (fun c_5 => ?_)
      · have hf := sn_if c_5 hf
        refine lv_aload_n hx hb dX8_by_19 rfl (lv_at hl 0 rfl) ?_
        refine lv_iload_n hx hb dX8_by_20 rfl (lv_at hl 1 rfl) ?_
        obtain ⟨t_6, h_7, hf⟩ := sn_bd hf
        refine sn_callVi (rest := []) C hw (ctX8_moneyInTheEnd l  h_7) kl_RX8_233 layC_0 rfl rfl rfl rfl (Nat.le_of_ble_eq_true rfl) dX8_by_21 hl.1 (fun H locs hw => ?_)
        cases hf
        exact kr _ _ _ _ hw rfl dX8_by_24
      · have hf := sn_el c_5 hf
        exact wX8_by_16 C  hf kr _ _ _ hw (lv_sub hl [] rfl)
theorem ctX8_by (l : Launch) {σ : sn_S} {x1 : Int32}  {o : (Int32 × sn_S)} (hf : fX8_by σ x1 = some o) : sn_M l yX8_by cX8_by 2 (some .int) rmX8_by layC (fun ad => [.ref (ad 0), .int x1]) σ (some (fun _ => .int o.1)) o.2 :=
  sn_met (by decide) (fun _ => Nat.le_of_ble_eq_true rfl) (fun p e s m args below meth c ls D ct ad C hw hl => wX8_by_in C  hf (fun H locs ls pc hw ok hd => sn_iret C hw hd) _ _ _ hw hl)
-- X8_law
abbrev rmX8_law : Room := { frames := 6, cells := 0, slots := 0, locals := 141 }
def BX8_law_49 (σ : sn_S) (x1 : Int32) : Option ((Int32 × sn_S)) :=
  (some (x1, σ))
def BX8_law_43 (σ : sn_S) (x1 : Int32) (x2 : Int32) (x3 : Int32) : Option ((sn_S × Int32 × Int32 × Int32) ⊕ (sn_S × Int32)) :=
  (sn_lt (x3 + 1) fun y_1 => (some (.inl (σ, x1, x2, y_1))))
def BX8_law_20 (σ : sn_S) (x1 : Int32) (x2 : Int32) (x3 : Int32) : Option ((sn_S × Int32 × Int32 × Int32) ⊕ (sn_S × Int32)) :=
  (if (4 : Int32) ≤ x3 then
  (some (.inr (σ, x1)))
  else
  ((fX8_moneyInTheEnd σ x3).bind fun t_2 => (if t_2.1 ≤ x2 then
  (BX8_law_43 t_2.2 x1 x2 x3)
  else
  (BX8_law_43 t_2.2 x3 t_2.1 x3))))
def LX8_law_20  (s : sn_S × Int32 × Int32 × Int32) : Option ((sn_S × Int32 × Int32 × Int32) ⊕ (sn_S × Int32)) := BX8_law_20 s.1 s.2.1 s.2.2.1 s.2.2.2
def fX8_law (σ : sn_S) : Option (Int32 × sn_S) :=
  ((fX8_isHouse σ).bind fun t_1 => (if t_1 = 0 then
  (some ((-2 : Int32), σ))
  else
  ((fX8_moneyInTheEnd σ (0 : Int32)).bind fun t_4 => ((sn_it (LX8_law_20 ) 5000 (t_4.2, (0 : Int32), t_4.1, (1 : Int32))).bind fun t_6 => (BX8_law_49 t_6.1 t_6.2)))))
theorem wX8_law_49 (C : sn_C p s m args meth c RX8 cX8_law 5 (some .int) D ct ad layC) {σ : sn_S} {x1 : Int32}  {o : (Int32 × sn_S)} (hf : BX8_law_49 σ x1 = some o) (kr : sn_Kr p l e rmX8_law s m args below meth c Q D ct ad layC cX8_law .ireturn (true) o.2 [.int o.1]) : sn_At p l e rmX8_law s m args below meth c Q D ct ad layC 5 σ 49 [(1, .int x1)] [] := by
  intro H locs ls hw hl
  have hx := C.1
  have hb := C.2.1
  unfold BX8_law_49 at hf
  refine lv_iload_n hx hb dX8_law_49 rfl (lv_at hl 0 rfl) ?_
  cases hf
  exact kr _ _ _ _ hw rfl dX8_law_50
theorem wX8_law_43 (C : sn_C p s m args meth c RX8 cX8_law 5 (some .int) D ct ad layC) {σ : sn_S} {x1 : Int32} {x2 : Int32} {x3 : Int32}  {o : (sn_S × Int32 × Int32 × Int32) ⊕ (sn_S × Int32)} (hf : BX8_law_43 σ x1 x2 x3 = some o) (kc : ∀ v, o = .inl v → sn_At p l e rmX8_law s m args below meth c Q D ct ad layC 5 v.1 20 [(0, .ref (ad 0)), (1, .int v.2.1), (2, .int v.2.2.1), (3, .int v.2.2.2)] []) (kx : ∀ v, o = .inr v → sn_At p l e rmX8_law s m args below meth c Q D ct ad layC 5 v.1 49 [(1, .int v.2)] []) : sn_At p l e rmX8_law s m args below meth c Q D ct ad layC 5 σ 43 [(0, .ref (ad 0)), (1, .int x1), (2, .int x2), (3, .int x3)] [] := by
  intro H locs ls hw hl
  have hx := C.1
  have hb := C.2.1
  unfold BX8_law_43 at hf
  obtain ⟨y_1, e_2, hf⟩ := sn_ltE hf
  refine lv_iinc (v := y_1) (lv' := [(3, .int y_1), (0, .ref (ad 0)), (1, .int x1), (2, .int x2)]) hx hb dX8_law_43 hl (k := 3) rfl (by rw [e_2]; rfl) (by decide) rfl (fun ls hl => ?_)
  refine lv_goto (tgt := 20) hx hb dX8_law_46 (by decide) ?_
  cases hf
  exact kc _ rfl _ _ _ hw (lv_sub hl [1, 2, 3, 0] rfl)
theorem wX8_law_20 (C : sn_C p s m args meth c RX8 cX8_law 5 (some .int) D ct ad layC) {σ : sn_S} {x1 : Int32} {x2 : Int32} {x3 : Int32}  {o : (sn_S × Int32 × Int32 × Int32) ⊕ (sn_S × Int32)} (hf : BX8_law_20 σ x1 x2 x3 = some o) (kc : ∀ v, o = .inl v → sn_At p l e rmX8_law s m args below meth c Q D ct ad layC 5 v.1 20 [(0, .ref (ad 0)), (1, .int v.2.1), (2, .int v.2.2.1), (3, .int v.2.2.2)] []) (kx : ∀ v, o = .inr v → sn_At p l e rmX8_law s m args below meth c Q D ct ad layC 5 v.1 49 [(1, .int v.2)] []) : sn_At p l e rmX8_law s m args below meth c Q D ct ad layC 5 σ 20 [(0, .ref (ad 0)), (1, .int x1), (2, .int x2), (3, .int x3)] [] := by
  intro H locs ls hw hl
  have hx := C.1
  have hb := C.2.1
  unfold BX8_law_20 at hf
  refine lv_iload_n hx hb dX8_law_20 rfl (lv_at hl 3 rfl) ?_
  refine lv_iconst (v := 4) hx hb dX8_law_21 rfl ?_
  refine lv_icmp_ge (tgt := 49) hx hb dX8_law_22 (by decide) (fun c_1 => ?_) (fun c_1 => ?_)
  · have hf := sn_if c_1 hf
    cases hf
    exact kx _ rfl _ _ _ hw (lv_sub hl [1] rfl)
  · have hf := sn_el c_1 hf
    refine lv_aload_n hx hb dX8_law_25 rfl (lv_at hl 0 rfl) ?_
    refine lv_iload_n hx hb dX8_law_26 rfl (lv_at hl 3 rfl) ?_
    obtain ⟨t_2, h_3, hf⟩ := sn_bd hf
    refine sn_callVi (rest := []) C hw (ctX8_moneyInTheEnd l  h_3) kl_RX8_233 layC_0 rfl rfl rfl rfl (Nat.le_of_ble_eq_true rfl) dX8_law_27 hl.1 (fun H locs hw => ?_)
    refine lv_istore (lv' := [(4, .int t_2.1), (0, .ref (ad 0)), (1, .int x1), (2, .int x2), (3, .int x3)]) hx hb dX8_law_30 hl (by decide) rfl (fun ls hl => ?_)
    refine lv_iload hx hb dX8_law_32 (lv_at hl 0 rfl) ?_
    refine lv_iload_n hx hb dX8_law_34 rfl (lv_at hl 3 rfl) ?_
    refine lv_icmp_le (tgt := 43) hx hb dX8_law_35 (by decide) (fun c_4 => ?_) (fun c_4 => ?_)
    · have hf := sn_if c_4 hf
      exact wX8_law_43 C  hf kc kx _ _ _ hw (lv_sub hl [1, 2, 3, 4] rfl)
    · have hf := sn_el c_4 hf
      refine lv_iload hx hb dX8_law_38 (lv_at hl 0 rfl) ?_
      refine lv_istore_n (lv' := [(2, .int t_2.1), (4, .int t_2.1), (0, .ref (ad 0)), (1, .int x1), (3, .int x3)]) hx hb dX8_law_40 rfl hl (by decide) rfl (fun ls hl => ?_)
      refine lv_iload_n hx hb dX8_law_41 rfl (lv_at hl 4 rfl) ?_
      refine lv_istore_n (lv' := [(1, .int x3), (2, .int t_2.1), (4, .int t_2.1), (0, .ref (ad 0)), (3, .int x3)]) hx hb dX8_law_42 rfl hl (by decide) rfl (fun ls hl => ?_)
      exact wX8_law_43 C  hf kc kx _ _ _ hw (lv_sub hl [3, 0, 1, 4] rfl)
theorem wX8_law_L20 (C : sn_C p s m args meth c RX8 cX8_law 5 (some .int) D ct ad layC)    {z : sn_S × Int32 × Int32 × Int32} {t : sn_S × Int32} (h : sn_it (LX8_law_20 ) 5000 z = some t) (kx : ∀ v, t = v → sn_At p l e rmX8_law s m args below meth c Q D ct ad layC 5 v.1 49 [(1, .int v.2)] []) : sn_At p l e rmX8_law s m args below meth c Q D ct ad layC 5 z.1 20 [(0, .ref (ad 0)), (1, .int z.2.1), (2, .int z.2.2.1), (3, .int z.2.2.2)] [] :=
  sn_loop (f := LX8_law_20 ) (G := fun z => sn_At p l e rmX8_law s m args below meth c Q D ct ad layC 5 z.1 20 [(0, .ref (ad 0)), (1, .int z.2.1), (2, .int z.2.2.1), (3, .int z.2.2.2)] []) (E := fun t => (∀ v, t = v → sn_At p l e rmX8_law s m args below meth c Q D ct ad layC 5 v.1 49 [(1, .int v.2)] []) ∧ True) (fun z o hf k1 k2 => wX8_law_20 C  hf (fun v e => k1 v e) (fun v e => (k2 _ e).1 v rfl)) 5000 z t h ⟨kx, trivial⟩
theorem wX8_law_in (C : sn_C p s m args meth c RX8 cX8_law 5 (some .int) D ct ad layC) {σ : sn_S}  {o : (Int32 × sn_S)} (hf : fX8_law σ = some o) (kr : sn_Kr p l e rmX8_law s m args below meth c Q D ct ad layC cX8_law .ireturn (true) o.2 [.int o.1]) : sn_At p l e rmX8_law s m args below meth c Q D ct ad layC 5 σ 0 [(0, .ref (ad 0))] [] := by
  intro H locs ls hw hl
  have hx := C.1
  have hb := C.2.1
  unfold fX8_law at hf
  refine lv_aload_n hx hb dX8_law_0 rfl (lv_at hl 0 rfl) ?_
  obtain ⟨t_1, h_2, hf⟩ := sn_bd hf
  refine sn_callVi (rest := []) C hw (ctX8_isHouse l  h_2) kl_RX8_139 layC_0 rfl rfl rfl rfl (Nat.le_of_ble_eq_true rfl) dX8_law_1 hl.1 (fun H locs hw => ?_)
  refine lv_if_ne (tgt := 10) hx hb dX8_law_4 (by decide) (fun c_3 => ?_) (fun c_3 => ?_)
  · have hf := sn_el c_3 hf
    refine lv_iconst (v := 0) hx hb dX8_law_10 rfl ?_
    refine lv_istore_n (lv' := [(1, .int (0 : Int32)), (0, .ref (ad 0))]) hx hb dX8_law_11 rfl hl (by decide) rfl (fun ls hl => ?_)
    refine lv_aload_n hx hb dX8_law_12 rfl (lv_at hl 1 rfl) ?_
    refine lv_iconst (v := 0) hx hb dX8_law_13 rfl ?_
    obtain ⟨t_4, h_5, hf⟩ := sn_bd hf
    refine sn_callVi (rest := []) C hw (ctX8_moneyInTheEnd l  h_5) kl_RX8_233 layC_0 rfl rfl rfl rfl (Nat.le_of_ble_eq_true rfl) dX8_law_14 hl.1 (fun H locs hw => ?_)
    refine lv_istore_n (lv' := [(2, .int t_4.1), (1, .int (0 : Int32)), (0, .ref (ad 0))]) hx hb dX8_law_17 rfl hl (by decide) rfl (fun ls hl => ?_)
    refine lv_iconst (v := 1) hx hb dX8_law_18 rfl ?_
    refine lv_istore_n (lv' := [(3, .int (1 : Int32)), (2, .int t_4.1), (1, .int (0 : Int32)), (0, .ref (ad 0))]) hx hb dX8_law_19 rfl hl (by decide) rfl (fun ls hl => ?_)
    obtain ⟨t_6, h_7, hf⟩ := sn_bd hf
    exact wX8_law_L20 C  h_7 (fun v e => by cases e; exact wX8_law_49 C  hf kr) _ _ _ hw (lv_sub hl [3, 2, 1, 0] rfl)
  · have hf := sn_if c_3 hf
    refine lv_bipush (v := (-2)) hx hb dX8_law_7 (by decide) ?_
    cases hf
    exact kr _ _ _ _ hw rfl dX8_law_9
theorem ctX8_law (l : Launch) {σ : sn_S}  {o : (Int32 × sn_S)} (hf : fX8_law σ = some o) : sn_M l yX8_law cX8_law 5 (some .int) rmX8_law layC (fun ad => [.ref (ad 0)]) σ (some (fun _ => .int o.1)) o.2 :=
  sn_met (by decide) (fun _ => Nat.le_of_ble_eq_true rfl) (fun p e s m args below meth c ls D ct ad C hw hl => wX8_law_in C  hf (fun H locs ls pc hw ok hd => sn_iret C hw hd) _ _ _ hw hl)
-- X8_claimAsIfOf
abbrev rmX8_claimAsIfOf : Room := { frames := 4, cells := 0, slots := 0, locals := 94 }
def fX8_claimAsIfOf (σ : sn_S) (x1 : Int32) (x2 : Int32) : Option Int32 :=
  (sn_gd (sn_in (2 : Int32) 11) (sn_gd (sn_in x1 6) (sn_gd (sn_in x1 6) ((fX3_claimBy σ 3 (sn_I σ (3 + 1) (2 : Int32).toNatClampNeg) x2 (sn_I σ (48 + 10) x1.toNatClampNeg) (sn_I σ (48 + 4) x1.toNatClampNeg)).bind fun t_4 => (some t_4)))))
theorem wX8_claimAsIfOf_in (C : sn_C p s m args meth c RX8 cX8_claimAsIfOf 3 (some .int) D ct ad layC) {σ : sn_S} {x1 : Int32} {x2 : Int32}  {o : Int32} (hf : fX8_claimAsIfOf σ x1 x2 = some o) (kr : sn_Kr p l e rmX8_claimAsIfOf s m args below meth c Q D ct ad layC cX8_claimAsIfOf .ireturn (true) σ [.int o]) : sn_At p l e rmX8_claimAsIfOf s m args below meth c Q D ct ad layC 3 σ 0 [(0, .ref (ad 0)), (1, .int x1), (2, .int x2)] [] := by
  intro H locs ls hw hl
  have hx := C.1
  have hb := C.2.1
  unfold fX8_claimAsIfOf at hf
  refine lv_aload_n hx hb dX8_claimAsIfOf_0 rfl (lv_at hl 0 rfl) ?_
  refine sn_getC (r := 3) C hw fd_RX8_10 layC_0 rfl dX8_claimAsIfOf_1 ?_
  refine lv_aload_n hx hb dX8_claimAsIfOf_4 rfl (lv_at hl 0 rfl) ?_
  refine sn_getC (r := 3) C hw fd_RX8_10 layC_0 rfl dX8_claimAsIfOf_5 ?_
  refine sn_getC (r := (3 + 1)) C hw fd_RX8_102 (sn_look sn_isX2_3 (k := 0) rfl) rfl dX8_claimAsIfOf_8 ?_
  refine lv_iconst (v := 2) hx hb dX8_claimAsIfOf_11 rfl ?_
  obtain ⟨g_1, hf⟩ := sn_gdE hf
  refine sn_iald C hw (sn_look sn_isX2_3 (k := 1) rfl) g_1 dX8_claimAsIfOf_12 ?_
  refine lv_iload_n hx hb dX8_claimAsIfOf_13 rfl (lv_at hl 2 rfl) ?_
  refine lv_aload_n hx hb dX8_claimAsIfOf_14 rfl (lv_at hl 0 rfl) ?_
  refine sn_getC (r := 48) C hw fd_RX8_44 layC_0 rfl dX8_claimAsIfOf_15 ?_
  refine sn_getC (r := (48 + 10)) C hw fd_RX8_133 (sn_look sn_isX0_48 (k := 0) rfl) rfl dX8_claimAsIfOf_18 ?_
  refine lv_iload_n hx hb dX8_claimAsIfOf_21 rfl (lv_at hl 1 rfl) ?_
  obtain ⟨g_2, hf⟩ := sn_gdE hf
  refine sn_iald C hw (sn_look sn_isX0_48 (k := 10) rfl) g_2 dX8_claimAsIfOf_22 ?_
  refine lv_aload_n hx hb dX8_claimAsIfOf_23 rfl (lv_at hl 0 rfl) ?_
  refine sn_getC (r := 48) C hw fd_RX8_44 layC_0 rfl dX8_claimAsIfOf_24 ?_
  refine sn_getC (r := (48 + 4)) C hw fd_RX8_198 (sn_look sn_isX0_48 (k := 0) rfl) rfl dX8_claimAsIfOf_27 ?_
  refine lv_iload_n hx hb dX8_claimAsIfOf_30 rfl (lv_at hl 1 rfl) ?_
  obtain ⟨g_3, hf⟩ := sn_gdE hf
  refine sn_iald C hw (sn_look sn_isX0_48 (k := 4) rfl) g_3 dX8_claimAsIfOf_31 ?_
  obtain ⟨t_4, h_5, hf⟩ := sn_bd hf
  refine sn_callSi (rest := []) C hw (ctX3_claimBy l sn_isX2_3 h_5) kl_RX8_252 rfl rfl rfl (Nat.le_of_ble_eq_true rfl) dX8_claimAsIfOf_32 hl.1 (fun H locs hw => ?_)
  cases hf
  exact kr _ _ _ _ hw rfl dX8_claimAsIfOf_35
theorem ctX8_claimAsIfOf (l : Launch) {σ : sn_S} {x1 : Int32} {x2 : Int32}  {o : Int32} (hf : fX8_claimAsIfOf σ x1 x2 = some o) : sn_M l yX8_claimAsIfOf cX8_claimAsIfOf 3 (some .int) rmX8_claimAsIfOf layC (fun ad => [.ref (ad 0), .int x1, .int x2]) σ (some (fun _ => .int o)) σ :=
  sn_met (by decide) (fun _ => Nat.le_of_ble_eq_true rfl) (fun p e s m args below meth c ls D ct ad C hw hl => wX8_claimAsIfOf_in C  hf (fun H locs ls pc hw ok hd => sn_iret C hw hd) _ _ _ hw hl)
-- X8_gainBy
abbrev rmX8_gainBy : Room := { frames := 5, cells := 0, slots := 0, locals := 116 }
def fX8_gainBy (σ : sn_S) (x1 : Int32) (x2 : Int32) : Option Int32 :=
  ((fX8_claimAsIfOf σ x1 x2).bind fun t_1 => ((fX2_ofPolicy σ 3 x2 (4 : Int32)).bind fun t_3 => (some (t_1 - t_3))))
theorem wX8_gainBy_in (C : sn_C p s m args meth c RX8 cX8_gainBy 3 (some .int) D ct ad layC) {σ : sn_S} {x1 : Int32} {x2 : Int32}  {o : Int32} (hf : fX8_gainBy σ x1 x2 = some o) (kr : sn_Kr p l e rmX8_gainBy s m args below meth c Q D ct ad layC cX8_gainBy .ireturn (true) σ [.int o]) : sn_At p l e rmX8_gainBy s m args below meth c Q D ct ad layC 3 σ 0 [(0, .ref (ad 0)), (1, .int x1), (2, .int x2)] [] := by
  intro H locs ls hw hl
  have hx := C.1
  have hb := C.2.1
  unfold fX8_gainBy at hf
  refine lv_aload_n hx hb dX8_gainBy_0 rfl (lv_at hl 0 rfl) ?_
  refine lv_iload_n hx hb dX8_gainBy_1 rfl (lv_at hl 1 rfl) ?_
  refine lv_iload_n hx hb dX8_gainBy_2 rfl (lv_at hl 2 rfl) ?_
  obtain ⟨t_1, h_2, hf⟩ := sn_bd hf
  refine sn_callVi (rest := []) C hw (ctX8_claimAsIfOf l  h_2) kl_RX8_249 layC_0 rfl rfl rfl rfl (Nat.le_of_ble_eq_true rfl) dX8_gainBy_3 hl.1 (fun H locs hw => ?_)
  refine lv_aload_n hx hb dX8_gainBy_6 rfl (lv_at hl 0 rfl) ?_
  refine sn_getC (r := 3) C hw fd_RX8_10 layC_0 rfl dX8_gainBy_7 ?_
  refine lv_iload_n hx hb dX8_gainBy_10 rfl (lv_at hl 2 rfl) ?_
  refine lv_iconst (v := 4) hx hb dX8_gainBy_11 rfl ?_
  obtain ⟨t_3, h_4, hf⟩ := sn_bd hf
  refine sn_callVi (rest := [.int t_1]) C hw (ctX2_ofPolicy l sn_isX2_3 h_4) kl_RX8_119 (sn_look sn_isX2_3 (k := 0) rfl) rfl rfl rfl rfl (Nat.le_of_ble_eq_true rfl) dX8_gainBy_12 hl.1 (fun H locs hw => ?_)
  refine lv_isub hx hb dX8_gainBy_15 ?_
  cases hf
  exact kr _ _ _ _ hw rfl dX8_gainBy_16
theorem ctX8_gainBy (l : Launch) {σ : sn_S} {x1 : Int32} {x2 : Int32}  {o : Int32} (hf : fX8_gainBy σ x1 x2 = some o) : sn_M l yX8_gainBy cX8_gainBy 3 (some .int) rmX8_gainBy layC (fun ad => [.ref (ad 0), .int x1, .int x2]) σ (some (fun _ => .int o)) σ :=
  sn_met (by decide) (fun _ => Nat.le_of_ble_eq_true rfl) (fun p e s m args below meth c ls D ct ad C hw hl => wX8_gainBy_in C  hf (fun H locs ls pc hw ok hd => sn_iret C hw hd) _ _ _ hw hl)
-- X8_bestOfMenu
abbrev rmX8_bestOfMenu : Room := { frames := 6, cells := 0, slots := 0, locals := 138 }
def BX8_bestOfMenu_49 (σ : sn_S) (x2 : Int32) : Option (Int32) :=
  (some x2)
def BX8_bestOfMenu_43 (σ : sn_S) (x1 : Int32) (x2 : Int32) (x3 : Int32) (x4 : Int32) : Option ((Int32 × Int32 × Int32) ⊕ (Int32)) :=
  (sn_lt (x4 + 1) fun y_1 => (some (.inl (x2, x3, y_1))))
def BX8_bestOfMenu_7 (σ : sn_S) (x1 : Int32) (x2 : Int32) (x3 : Int32) (x4 : Int32) : Option ((Int32 × Int32 × Int32) ⊕ (Int32)) :=
  (sn_gd (sn_in (8 : Int32) 11) (if (sn_I σ (3 + 1) (8 : Int32).toNatClampNeg) ≤ x4 then
  (some (.inr (x2)))
  else
  ((fX8_gainBy σ x1 x4).bind fun t_3 => (if t_3 ≤ x3 then
  (BX8_bestOfMenu_43 σ x1 x2 x3 x4)
  else
  (BX8_bestOfMenu_43 σ x1 x4 t_3 x4)))))
def LX8_bestOfMenu_7 (σ : sn_S) (x1 : Int32) (s : Int32 × Int32 × Int32) : Option ((Int32 × Int32 × Int32) ⊕ (Int32)) := BX8_bestOfMenu_7 σ x1 s.1 s.2.1 s.2.2
def fX8_bestOfMenu (σ : sn_S) (x1 : Int32) : Option Int32 :=
  ((sn_it (LX8_bestOfMenu_7 σ x1) 5000 ((-1 : Int32), (0 : Int32), (0 : Int32))).bind fun t_1 => (BX8_bestOfMenu_49 σ t_1))
theorem wX8_bestOfMenu_49 (C : sn_C p s m args meth c RX8 cX8_bestOfMenu 6 (some .int) D ct ad layC) {σ : sn_S} {x2 : Int32}  {o : Int32} (hf : BX8_bestOfMenu_49 σ x2 = some o) (kr : sn_Kr p l e rmX8_bestOfMenu s m args below meth c Q D ct ad layC cX8_bestOfMenu .ireturn (true) σ [.int o]) : sn_At p l e rmX8_bestOfMenu s m args below meth c Q D ct ad layC 6 σ 49 [(2, .int x2)] [] := by
  intro H locs ls hw hl
  have hx := C.1
  have hb := C.2.1
  unfold BX8_bestOfMenu_49 at hf
  refine lv_iload_n hx hb dX8_bestOfMenu_49 rfl (lv_at hl 0 rfl) ?_
  cases hf
  exact kr _ _ _ _ hw rfl dX8_bestOfMenu_50
theorem wX8_bestOfMenu_43 (C : sn_C p s m args meth c RX8 cX8_bestOfMenu 6 (some .int) D ct ad layC) {σ : sn_S} {x1 : Int32} {x2 : Int32} {x3 : Int32} {x4 : Int32}  {o : (Int32 × Int32 × Int32) ⊕ (Int32)} (hf : BX8_bestOfMenu_43 σ x1 x2 x3 x4 = some o) (kc : ∀ v, o = .inl v → sn_At p l e rmX8_bestOfMenu s m args below meth c Q D ct ad layC 6 σ 7 [(0, .ref (ad 0)), (1, .int x1), (2, .int v.1), (3, .int v.2.1), (4, .int v.2.2)] []) (kx : ∀ v, o = .inr v → sn_At p l e rmX8_bestOfMenu s m args below meth c Q D ct ad layC 6 σ 49 [(2, .int v)] []) : sn_At p l e rmX8_bestOfMenu s m args below meth c Q D ct ad layC 6 σ 43 [(0, .ref (ad 0)), (1, .int x1), (2, .int x2), (3, .int x3), (4, .int x4)] [] := by
  intro H locs ls hw hl
  have hx := C.1
  have hb := C.2.1
  unfold BX8_bestOfMenu_43 at hf
  obtain ⟨y_1, e_2, hf⟩ := sn_ltE hf
  refine lv_iinc (v := y_1) (lv' := [(4, .int y_1), (0, .ref (ad 0)), (1, .int x1), (2, .int x2), (3, .int x3)]) hx hb dX8_bestOfMenu_43 hl (k := 4) rfl (by rw [e_2]; rfl) (by decide) rfl (fun ls hl => ?_)
  refine lv_goto (tgt := 7) hx hb dX8_bestOfMenu_46 (by decide) ?_
  cases hf
  exact kc _ rfl _ _ _ hw (lv_sub hl [1, 2, 3, 4, 0] rfl)
theorem wX8_bestOfMenu_7 (C : sn_C p s m args meth c RX8 cX8_bestOfMenu 6 (some .int) D ct ad layC) {σ : sn_S} {x1 : Int32} {x2 : Int32} {x3 : Int32} {x4 : Int32}  {o : (Int32 × Int32 × Int32) ⊕ (Int32)} (hf : BX8_bestOfMenu_7 σ x1 x2 x3 x4 = some o) (kc : ∀ v, o = .inl v → sn_At p l e rmX8_bestOfMenu s m args below meth c Q D ct ad layC 6 σ 7 [(0, .ref (ad 0)), (1, .int x1), (2, .int v.1), (3, .int v.2.1), (4, .int v.2.2)] []) (kx : ∀ v, o = .inr v → sn_At p l e rmX8_bestOfMenu s m args below meth c Q D ct ad layC 6 σ 49 [(2, .int v)] []) : sn_At p l e rmX8_bestOfMenu s m args below meth c Q D ct ad layC 6 σ 7 [(0, .ref (ad 0)), (1, .int x1), (2, .int x2), (3, .int x3), (4, .int x4)] [] := by
  intro H locs ls hw hl
  have hx := C.1
  have hb := C.2.1
  unfold BX8_bestOfMenu_7 at hf
  refine lv_iload hx hb dX8_bestOfMenu_7 (lv_at hl 4 rfl) ?_
  refine lv_aload_n hx hb dX8_bestOfMenu_9 rfl (lv_at hl 0 rfl) ?_
  refine sn_getC (r := 3) C hw fd_RX8_10 layC_0 rfl dX8_bestOfMenu_10 ?_
  refine sn_getC (r := (3 + 1)) C hw fd_RX8_102 (sn_look sn_isX2_3 (k := 0) rfl) rfl dX8_bestOfMenu_13 ?_
  refine lv_bipush (v := 8) hx hb dX8_bestOfMenu_16 (by decide) ?_
  obtain ⟨g_1, hf⟩ := sn_gdE hf
  refine sn_iald C hw (sn_look sn_isX2_3 (k := 1) rfl) g_1 dX8_bestOfMenu_18 ?_
  refine lv_icmp_ge (tgt := 49) hx hb dX8_bestOfMenu_19 (by decide) (fun c_2 => ?_) (fun c_2 => ?_)
  · have hf := sn_if c_2 hf
    cases hf
    exact kx _ rfl _ _ _ hw (lv_sub hl [2] rfl)
  · have hf := sn_el c_2 hf
    refine lv_aload_n hx hb dX8_bestOfMenu_22 rfl (lv_at hl 0 rfl) ?_
    refine lv_iload_n hx hb dX8_bestOfMenu_23 rfl (lv_at hl 1 rfl) ?_
    refine lv_iload hx hb dX8_bestOfMenu_24 (lv_at hl 4 rfl) ?_
    obtain ⟨t_3, h_4, hf⟩ := sn_bd hf
    refine sn_callVi (rest := []) C hw (ctX8_gainBy l  h_4) kl_RX8_243 layC_0 rfl rfl rfl rfl (Nat.le_of_ble_eq_true rfl) dX8_bestOfMenu_26 hl.1 (fun H locs hw => ?_)
    refine lv_istore (lv' := [(5, .int t_3), (0, .ref (ad 0)), (1, .int x1), (2, .int x2), (3, .int x3), (4, .int x4)]) hx hb dX8_bestOfMenu_29 hl (by decide) rfl (fun ls hl => ?_)
    refine lv_iload hx hb dX8_bestOfMenu_31 (lv_at hl 0 rfl) ?_
    refine lv_iload_n hx hb dX8_bestOfMenu_33 rfl (lv_at hl 4 rfl) ?_
    refine lv_icmp_le (tgt := 43) hx hb dX8_bestOfMenu_34 (by decide) (fun c_5 => ?_) (fun c_5 => ?_)
    · have hf := sn_if c_5 hf
      exact wX8_bestOfMenu_43 C  hf kc kx _ _ _ hw (lv_sub hl [1, 2, 3, 4, 5] rfl)
    · have hf := sn_el c_5 hf
      refine lv_iload hx hb dX8_bestOfMenu_37 (lv_at hl 0 rfl) ?_
      refine lv_istore_n (lv' := [(3, .int t_3), (5, .int t_3), (0, .ref (ad 0)), (1, .int x1), (2, .int x2), (4, .int x4)]) hx hb dX8_bestOfMenu_39 rfl hl (by decide) rfl (fun ls hl => ?_)
      refine lv_iload hx hb dX8_bestOfMenu_40 (lv_at hl 5 rfl) ?_
      refine lv_istore_n (lv' := [(2, .int x4), (3, .int t_3), (5, .int t_3), (0, .ref (ad 0)), (1, .int x1), (4, .int x4)]) hx hb dX8_bestOfMenu_42 rfl hl (by decide) rfl (fun ls hl => ?_)
      exact wX8_bestOfMenu_43 C  hf kc kx _ _ _ hw (lv_sub hl [3, 4, 0, 1, 5] rfl)
theorem wX8_bestOfMenu_L7 (C : sn_C p s m args meth c RX8 cX8_bestOfMenu 6 (some .int) D ct ad layC) {σ : sn_S} {x1 : Int32}   {z : Int32 × Int32 × Int32} {t : Int32} (h : sn_it (LX8_bestOfMenu_7 σ x1) 5000 z = some t) (kx : ∀ v, t = v → sn_At p l e rmX8_bestOfMenu s m args below meth c Q D ct ad layC 6 σ 49 [(2, .int v)] []) : sn_At p l e rmX8_bestOfMenu s m args below meth c Q D ct ad layC 6 σ 7 [(0, .ref (ad 0)), (1, .int x1), (2, .int z.1), (3, .int z.2.1), (4, .int z.2.2)] [] :=
  sn_loop (f := LX8_bestOfMenu_7 σ x1) (G := fun z => sn_At p l e rmX8_bestOfMenu s m args below meth c Q D ct ad layC 6 σ 7 [(0, .ref (ad 0)), (1, .int x1), (2, .int z.1), (3, .int z.2.1), (4, .int z.2.2)] []) (E := fun t => (∀ v, t = v → sn_At p l e rmX8_bestOfMenu s m args below meth c Q D ct ad layC 6 σ 49 [(2, .int v)] []) ∧ True) (fun z o hf k1 k2 => wX8_bestOfMenu_7 C  hf (fun v e => k1 v e) (fun v e => (k2 _ e).1 v rfl)) 5000 z t h ⟨kx, trivial⟩
theorem wX8_bestOfMenu_in (C : sn_C p s m args meth c RX8 cX8_bestOfMenu 6 (some .int) D ct ad layC) {σ : sn_S} {x1 : Int32}  {o : Int32} (hf : fX8_bestOfMenu σ x1 = some o) (kr : sn_Kr p l e rmX8_bestOfMenu s m args below meth c Q D ct ad layC cX8_bestOfMenu .ireturn (true) σ [.int o]) : sn_At p l e rmX8_bestOfMenu s m args below meth c Q D ct ad layC 6 σ 0 [(0, .ref (ad 0)), (1, .int x1)] [] := by
  intro H locs ls hw hl
  have hx := C.1
  have hb := C.2.1
  unfold fX8_bestOfMenu at hf
  refine lv_iconst (v := (-1)) hx hb dX8_bestOfMenu_0 rfl ?_
  refine lv_istore_n (lv' := [(2, .int (-1 : Int32)), (0, .ref (ad 0)), (1, .int x1)]) hx hb dX8_bestOfMenu_1 rfl hl (by decide) rfl (fun ls hl => ?_)
  refine lv_iconst (v := 0) hx hb dX8_bestOfMenu_2 rfl ?_
  refine lv_istore_n (lv' := [(3, .int (0 : Int32)), (2, .int (-1 : Int32)), (0, .ref (ad 0)), (1, .int x1)]) hx hb dX8_bestOfMenu_3 rfl hl (by decide) rfl (fun ls hl => ?_)
  refine lv_iconst (v := 0) hx hb dX8_bestOfMenu_4 rfl ?_
  refine lv_istore (lv' := [(4, .int (0 : Int32)), (3, .int (0 : Int32)), (2, .int (-1 : Int32)), (0, .ref (ad 0)), (1, .int x1)]) hx hb dX8_bestOfMenu_5 hl (by decide) rfl (fun ls hl => ?_)
  obtain ⟨t_1, h_2, hf⟩ := sn_bd hf
  exact wX8_bestOfMenu_L7 C  h_2 (fun v e => by cases e; exact wX8_bestOfMenu_49 C  hf kr) _ _ _ hw (lv_sub hl [3, 4, 2, 1, 0] rfl)
theorem ctX8_bestOfMenu (l : Launch) {σ : sn_S} {x1 : Int32}  {o : Int32} (hf : fX8_bestOfMenu σ x1 = some o) : sn_M l yX8_bestOfMenu cX8_bestOfMenu 6 (some .int) rmX8_bestOfMenu layC (fun ad => [.ref (ad 0), .int x1]) σ (some (fun _ => .int o)) σ :=
  sn_met (by decide) (fun _ => Nat.le_of_ble_eq_true rfl) (fun p e s m args below meth c ls D ct ad C hw hl => wX8_bestOfMenu_in C  hf (fun H locs ls pc hw ok hd => sn_iret C hw hd) _ _ _ hw hl)
-- X8_takes
abbrev rmX8_takes : Room := { frames := 7, cells := 0, slots := 0, locals := 163 }
def fX8_takes (σ : sn_S) (x1 : Int32) : Option Int32 :=
  ((fX8_isPerson σ x1).bind fun t_1 => (if t_1 = 0 then
  (some (-2 : Int32))
  else
  ((fX8_bestOfMenu σ x1).bind fun t_4 => (some t_4))))
theorem wX8_takes_in (C : sn_C p s m args meth c RX8 cX8_takes 2 (some .int) D ct ad layC) {σ : sn_S} {x1 : Int32}  {o : Int32} (hf : fX8_takes σ x1 = some o) (kr : sn_Kr p l e rmX8_takes s m args below meth c Q D ct ad layC cX8_takes .ireturn (true) σ [.int o]) : sn_At p l e rmX8_takes s m args below meth c Q D ct ad layC 2 σ 0 [(0, .ref (ad 0)), (1, .int x1)] [] := by
  intro H locs ls hw hl
  have hx := C.1
  have hb := C.2.1
  unfold fX8_takes at hf
  refine lv_aload_n hx hb dX8_takes_0 rfl (lv_at hl 0 rfl) ?_
  refine lv_iload_n hx hb dX8_takes_1 rfl (lv_at hl 1 rfl) ?_
  obtain ⟨t_1, h_2, hf⟩ := sn_bd hf
  refine sn_callVi (rest := []) C hw (ctX8_isPerson l  h_2) kl_RX8_109 layC_0 rfl rfl rfl rfl (Nat.le_of_ble_eq_true rfl) dX8_takes_2 hl.1 (fun H locs hw => ?_)
  refine lv_if_eq (tgt := 16) hx hb dX8_takes_5 (by decide) (fun c_3 => ?_) (fun c_3 => ?_)
  · have hf := sn_if c_3 hf
    refine lv_bipush (v := (-2)) hx hb dX8_takes_16 (by decide) ?_
    cases hf
    exact kr _ _ _ _ hw rfl dX8_takes_18
  · have hf := sn_el c_3 hf
    refine lv_aload_n hx hb dX8_takes_8 rfl (lv_at hl 0 rfl) ?_
    refine lv_iload_n hx hb dX8_takes_9 rfl (lv_at hl 1 rfl) ?_
    obtain ⟨t_4, h_5, hf⟩ := sn_bd hf
    refine sn_callVi (rest := []) C hw (ctX8_bestOfMenu l  h_5) kl_RX8_240 layC_0 rfl rfl rfl rfl (Nat.le_of_ble_eq_true rfl) dX8_takes_10 hl.1 (fun H locs hw => ?_)
    refine lv_goto (tgt := 18) hx hb dX8_takes_13 (by decide) ?_
    cases hf
    exact kr _ _ _ _ hw rfl dX8_takes_18
theorem ctX8_takes (l : Launch) {σ : sn_S} {x1 : Int32}  {o : Int32} (hf : fX8_takes σ x1 = some o) : sn_M l yX8_takes cX8_takes 2 (some .int) rmX8_takes layC (fun ad => [.ref (ad 0), .int x1]) σ (some (fun _ => .int o)) σ :=
  sn_met (by decide) (fun _ => Nat.le_of_ble_eq_true rfl) (fun p e s m args below meth c ls D ct ad C hw hl => wX8_takes_in C  hf (fun H locs ls pc hw ok hd => sn_iret C hw hd) _ _ _ hw hl)
-- X8_gains
abbrev rmX8_gains : Room := { frames := 7, cells := 0, slots := 0, locals := 163 }
def fX8_gains (σ : sn_S) (x1 : Int32) : Option Int32 :=
  ((fX8_isPerson σ x1).bind fun t_1 => (if t_1 = 0 then
  (some (-2 : Int32))
  else
  ((fX8_bestOfMenu σ x1).bind fun t_4 => (if t_4 = (-1 : Int32) then
  (some (0 : Int32))
  else
  ((fX8_gainBy σ x1 t_4).bind fun t_7 => (some t_7))))))
theorem wX8_gains_in (C : sn_C p s m args meth c RX8 cX8_gains 3 (some .int) D ct ad layC) {σ : sn_S} {x1 : Int32}  {o : Int32} (hf : fX8_gains σ x1 = some o) (kr : sn_Kr p l e rmX8_gains s m args below meth c Q D ct ad layC cX8_gains .ireturn (true) σ [.int o]) : sn_At p l e rmX8_gains s m args below meth c Q D ct ad layC 3 σ 0 [(0, .ref (ad 0)), (1, .int x1)] [] := by
  intro H locs ls hw hl
  have hx := C.1
  have hb := C.2.1
  unfold fX8_gains at hf
  refine lv_aload_n hx hb dX8_gains_0 rfl (lv_at hl 0 rfl) ?_
  refine lv_iload_n hx hb dX8_gains_1 rfl (lv_at hl 1 rfl) ?_
  obtain ⟨t_1, h_2, hf⟩ := sn_bd hf
  refine sn_callVi (rest := []) C hw (ctX8_isPerson l  h_2) kl_RX8_109 layC_0 rfl rfl rfl rfl (Nat.le_of_ble_eq_true rfl) dX8_gains_2 hl.1 (fun H locs hw => ?_)
  refine lv_if_ne (tgt := 11) hx hb dX8_gains_5 (by decide) (fun c_3 => ?_) (fun c_3 => ?_)
  · have hf := sn_el c_3 hf
    refine lv_aload_n hx hb dX8_gains_11 rfl (lv_at hl 0 rfl) ?_
    refine lv_iload_n hx hb dX8_gains_12 rfl (lv_at hl 1 rfl) ?_
    obtain ⟨t_4, h_5, hf⟩ := sn_bd hf
    refine sn_callVi (rest := []) C hw (ctX8_bestOfMenu l  h_5) kl_RX8_240 layC_0 rfl rfl rfl rfl (Nat.le_of_ble_eq_true rfl) dX8_gains_13 hl.1 (fun H locs hw => ?_)
    refine lv_istore_n (lv' := [(2, .int t_4), (0, .ref (ad 0)), (1, .int x1)]) hx hb dX8_gains_16 rfl hl (by decide) rfl (fun ls hl => ?_)
    refine lv_iload_n hx hb dX8_gains_17 rfl (lv_at hl 0 rfl) ?_
    refine lv_iconst (v := (-1)) hx hb dX8_gains_18 rfl ?_
    refine lv_icmp_ne (tgt := 26) hx hb dX8_gains_19 (by decide) (fun c_6 => ?_) (fun c_6 => ?_)
    · have hf := sn_el c_6 hf
      refine lv_aload_n hx hb dX8_gains_26 rfl (lv_at hl 1 rfl) ?_
      refine lv_iload_n hx hb dX8_gains_27 rfl (lv_at hl 2 rfl) ?_
      refine lv_iload_n hx hb dX8_gains_28 rfl (lv_at hl 0 rfl) ?_
      obtain ⟨t_7, h_8, hf⟩ := sn_bd hf
      refine sn_callVi (rest := []) C hw (ctX8_gainBy l  h_8) kl_RX8_243 layC_0 rfl rfl rfl rfl (Nat.le_of_ble_eq_true rfl) dX8_gains_29 hl.1 (fun H locs hw => ?_)
      cases hf
      exact kr _ _ _ _ hw rfl dX8_gains_32
    · have hf := sn_if c_6 hf
      refine lv_iconst (v := 0) hx hb dX8_gains_22 rfl ?_
      refine lv_goto (tgt := 32) hx hb dX8_gains_23 (by decide) ?_
      cases hf
      exact kr _ _ _ _ hw rfl dX8_gains_32
  · have hf := sn_if c_3 hf
    refine lv_bipush (v := (-2)) hx hb dX8_gains_8 (by decide) ?_
    cases hf
    exact kr _ _ _ _ hw rfl dX8_gains_10
theorem ctX8_gains (l : Launch) {σ : sn_S} {x1 : Int32}  {o : Int32} (hf : fX8_gains σ x1 = some o) : sn_M l yX8_gains cX8_gains 3 (some .int) rmX8_gains layC (fun ad => [.ref (ad 0), .int x1]) σ (some (fun _ => .int o)) σ :=
  sn_met (by decide) (fun _ => Nat.le_of_ble_eq_true rfl) (fun p e s m args below meth c ls D ct ad C hw hl => wX8_gains_in C  hf (fun H locs ls pc hw ok hd => sn_iret C hw hd) _ _ _ hw hl)
-- X8_priceFor
abbrev rmX8_priceFor : Room := { frames := 6, cells := 0, slots := 0, locals := 138 }
def BX8_priceFor_66 (σ : sn_S) (x1 : Int32) (x2 : Int32) (x3 : Int32) : Option (Int32) :=
  ((fX8_claimAsIfOf σ x1 x2).bind fun t_1 => (sn_lt (if (0 : Int32) < (t_1 - x3) then (t_1 - x3) else (0 : Int32)) fun y_3 => (some y_3)))
def BX8_priceFor_60 (σ : sn_S) (x1 : Int32) (x2 : Int32) (x3 : Int32) (x4 : Int32) : Option ((Int32 × Int32) ⊕ (Int32)) :=
  (sn_lt (x4 + 1) fun y_1 => (some (.inl (x3, y_1))))
def BX8_priceFor_5 (σ : sn_S) (x1 : Int32) (x2 : Int32) (x3 : Int32) (x4 : Int32) : Option ((Int32 × Int32) ⊕ (Int32)) :=
  (sn_gd (sn_in (8 : Int32) 11) (if (sn_I σ (3 + 1) (8 : Int32).toNatClampNeg) ≤ x4 then
  (some (.inr (x3)))
  else
  ((fX8_gainBy σ x1 x4).bind fun t_3 => (if x2 ≤ x4 then
  (if x4 ≤ x2 then
  (BX8_priceFor_60 σ x1 x2 x3 x4)
  else
  (sn_lt (if x3 < (t_3 - (1 : Int32)) then (t_3 - (1 : Int32)) else x3) fun y_7 => (BX8_priceFor_60 σ x1 x2 y_7 x4)))
  else
  (sn_lt (if x3 < t_3 then t_3 else x3) fun y_9 => (BX8_priceFor_60 σ x1 x2 y_9 x4))))))
def LX8_priceFor_5 (σ : sn_S) (x1 : Int32) (x2 : Int32) (s : Int32 × Int32) : Option ((Int32 × Int32) ⊕ (Int32)) := BX8_priceFor_5 σ x1 x2 s.1 s.2
def fX8_priceFor (σ : sn_S) (x1 : Int32) (x2 : Int32) : Option Int32 :=
  ((sn_it (LX8_priceFor_5 σ x1 x2) 5000 ((0 : Int32), (0 : Int32))).bind fun t_1 => (BX8_priceFor_66 σ x1 x2 t_1))
theorem wX8_priceFor_66 (C : sn_C p s m args meth c RX8 cX8_priceFor 6 (some .int) D ct ad layC) {σ : sn_S} {x1 : Int32} {x2 : Int32} {x3 : Int32}  {o : Int32} (hf : BX8_priceFor_66 σ x1 x2 x3 = some o) (kr : sn_Kr p l e rmX8_priceFor s m args below meth c Q D ct ad layC cX8_priceFor .ireturn (true) σ [.int o]) : sn_At p l e rmX8_priceFor s m args below meth c Q D ct ad layC 6 σ 66 [(0, .ref (ad 0)), (1, .int x1), (2, .int x2), (3, .int x3)] [] := by
  intro H locs ls hw hl
  have hx := C.1
  have hb := C.2.1
  unfold BX8_priceFor_66 at hf
  refine lv_iconst (v := 0) hx hb dX8_priceFor_66 rfl ?_
  refine lv_aload_n hx hb dX8_priceFor_67 rfl (lv_at hl 0 rfl) ?_
  refine lv_iload_n hx hb dX8_priceFor_68 rfl (lv_at hl 1 rfl) ?_
  refine lv_iload_n hx hb dX8_priceFor_69 rfl (lv_at hl 2 rfl) ?_
  obtain ⟨t_1, h_2, hf⟩ := sn_bd hf
  refine sn_callVi (rest := [.int (0 : Int32)]) C hw (ctX8_claimAsIfOf l  h_2) kl_RX8_249 layC_0 rfl rfl rfl rfl (Nat.le_of_ble_eq_true rfl) dX8_priceFor_70 hl.1 (fun H locs hw => ?_)
  refine lv_iload_n hx hb dX8_priceFor_73 rfl (lv_at hl 3 rfl) ?_
  refine lv_isub hx hb dX8_priceFor_74 ?_
  refine va_mmax hx hb (C.2.2.1.trans hl.1.symm) C.2.2.2.1 (C.2.2.2.2.1 _ km_RX8_156) (C.2.2.2.2.1 _ kst_maxI) (C.2.2.2.2.1 _ ki_Math) (C.2.2.2.2.1 _ kc_maxI) (Nat.le_of_ble_eq_true rfl) (Nat.le_of_ble_eq_true rfl) (Nat.zero_le _) (Nat.zero_le _) dX8_priceFor_75 ?_
  obtain ⟨y_3, e_4, hf⟩ := sn_ltE hf
  refine lv_topi (fun y_3_ e_4_ => ?_)
  obtain rfl : y_3 = y_3_ := e_4.trans e_4_.symm
  cases hf
  exact kr _ _ _ _ hw rfl dX8_priceFor_78
theorem wX8_priceFor_60 (C : sn_C p s m args meth c RX8 cX8_priceFor 6 (some .int) D ct ad layC) {σ : sn_S} {x1 : Int32} {x2 : Int32} {x3 : Int32} {x4 : Int32}  {o : (Int32 × Int32) ⊕ (Int32)} (hf : BX8_priceFor_60 σ x1 x2 x3 x4 = some o) (kc : ∀ v, o = .inl v → sn_At p l e rmX8_priceFor s m args below meth c Q D ct ad layC 6 σ 5 [(0, .ref (ad 0)), (1, .int x1), (2, .int x2), (3, .int v.1), (4, .int v.2)] []) (kx : ∀ v, o = .inr v → sn_At p l e rmX8_priceFor s m args below meth c Q D ct ad layC 6 σ 66 [(0, .ref (ad 0)), (1, .int x1), (2, .int x2), (3, .int v)] []) : sn_At p l e rmX8_priceFor s m args below meth c Q D ct ad layC 6 σ 60 [(0, .ref (ad 0)), (1, .int x1), (2, .int x2), (3, .int x3), (4, .int x4)] [] := by
  intro H locs ls hw hl
  have hx := C.1
  have hb := C.2.1
  unfold BX8_priceFor_60 at hf
  obtain ⟨y_1, e_2, hf⟩ := sn_ltE hf
  refine lv_iinc (v := y_1) (lv' := [(4, .int y_1), (0, .ref (ad 0)), (1, .int x1), (2, .int x2), (3, .int x3)]) hx hb dX8_priceFor_60 hl (k := 4) rfl (by rw [e_2]; rfl) (by decide) rfl (fun ls hl => ?_)
  refine lv_goto (tgt := 5) hx hb dX8_priceFor_63 (by decide) ?_
  cases hf
  exact kc _ rfl _ _ _ hw (lv_sub hl [1, 2, 3, 4, 0] rfl)
theorem wX8_priceFor_5 (C : sn_C p s m args meth c RX8 cX8_priceFor 6 (some .int) D ct ad layC) {σ : sn_S} {x1 : Int32} {x2 : Int32} {x3 : Int32} {x4 : Int32}  {o : (Int32 × Int32) ⊕ (Int32)} (hf : BX8_priceFor_5 σ x1 x2 x3 x4 = some o) (kc : ∀ v, o = .inl v → sn_At p l e rmX8_priceFor s m args below meth c Q D ct ad layC 6 σ 5 [(0, .ref (ad 0)), (1, .int x1), (2, .int x2), (3, .int v.1), (4, .int v.2)] []) (kx : ∀ v, o = .inr v → sn_At p l e rmX8_priceFor s m args below meth c Q D ct ad layC 6 σ 66 [(0, .ref (ad 0)), (1, .int x1), (2, .int x2), (3, .int v)] []) : sn_At p l e rmX8_priceFor s m args below meth c Q D ct ad layC 6 σ 5 [(0, .ref (ad 0)), (1, .int x1), (2, .int x2), (3, .int x3), (4, .int x4)] [] := by
  intro H locs ls hw hl
  have hx := C.1
  have hb := C.2.1
  unfold BX8_priceFor_5 at hf
  refine lv_iload hx hb dX8_priceFor_5 (lv_at hl 4 rfl) ?_
  refine lv_aload_n hx hb dX8_priceFor_7 rfl (lv_at hl 0 rfl) ?_
  refine sn_getC (r := 3) C hw fd_RX8_10 layC_0 rfl dX8_priceFor_8 ?_
  refine sn_getC (r := (3 + 1)) C hw fd_RX8_102 (sn_look sn_isX2_3 (k := 0) rfl) rfl dX8_priceFor_11 ?_
  refine lv_bipush (v := 8) hx hb dX8_priceFor_14 (by decide) ?_
  obtain ⟨g_1, hf⟩ := sn_gdE hf
  refine sn_iald C hw (sn_look sn_isX2_3 (k := 1) rfl) g_1 dX8_priceFor_16 ?_
  refine lv_icmp_ge (tgt := 66) hx hb dX8_priceFor_17 (by decide) (fun c_2 => ?_) (fun c_2 => ?_)
  · have hf := sn_if c_2 hf
    cases hf
    exact kx _ rfl _ _ _ hw (lv_sub hl [0, 1, 2, 3] rfl)
  · have hf := sn_el c_2 hf
    refine lv_aload_n hx hb dX8_priceFor_20 rfl (lv_at hl 0 rfl) ?_
    refine lv_iload_n hx hb dX8_priceFor_21 rfl (lv_at hl 1 rfl) ?_
    refine lv_iload hx hb dX8_priceFor_22 (lv_at hl 4 rfl) ?_
    obtain ⟨t_3, h_4, hf⟩ := sn_bd hf
    refine sn_callVi (rest := []) C hw (ctX8_gainBy l  h_4) kl_RX8_243 layC_0 rfl rfl rfl rfl (Nat.le_of_ble_eq_true rfl) dX8_priceFor_24 hl.1 (fun H locs hw => ?_)
    refine lv_istore (lv' := [(5, .int t_3), (0, .ref (ad 0)), (1, .int x1), (2, .int x2), (3, .int x3), (4, .int x4)]) hx hb dX8_priceFor_27 hl (by decide) rfl (fun ls hl => ?_)
    refine lv_iload hx hb dX8_priceFor_29 (lv_at hl 5 rfl) ?_
    refine lv_iload_n hx hb dX8_priceFor_31 rfl (lv_at hl 3 rfl) ?_
    refine lv_icmp_ge (tgt := 45) hx hb dX8_priceFor_32 (by decide) (fun c_5 => ?_) (fun c_5 => ?_)
    · have hf := sn_if c_5 hf
      refine lv_iload hx hb dX8_priceFor_45 (lv_at hl 5 rfl) ?_
      refine lv_iload_n hx hb dX8_priceFor_47 rfl (lv_at hl 3 rfl) ?_
      refine lv_icmp_le (tgt := 60) hx hb dX8_priceFor_48 (by decide) (fun c_6 => ?_) (fun c_6 => ?_)
      · have hf := sn_if c_6 hf
        exact wX8_priceFor_60 C  hf kc kx _ _ _ hw (lv_sub hl [1, 2, 3, 4, 5] rfl)
      · have hf := sn_el c_6 hf
        refine lv_iload_n hx hb dX8_priceFor_51 rfl (lv_at hl 4 rfl) ?_
        refine lv_iload hx hb dX8_priceFor_52 (lv_at hl 0 rfl) ?_
        refine lv_iconst (v := 1) hx hb dX8_priceFor_54 rfl ?_
        refine lv_isub hx hb dX8_priceFor_55 ?_
        refine va_mmax hx hb (C.2.2.1.trans hl.1.symm) C.2.2.2.1 (C.2.2.2.2.1 _ km_RX8_156) (C.2.2.2.2.1 _ kst_maxI) (C.2.2.2.2.1 _ ki_Math) (C.2.2.2.2.1 _ kc_maxI) (Nat.le_of_ble_eq_true rfl) (Nat.le_of_ble_eq_true rfl) (Nat.zero_le _) (Nat.zero_le _) dX8_priceFor_56 ?_
        obtain ⟨y_7, e_8, hf⟩ := sn_ltE hf
        refine lv_topi (fun y_7_ e_8_ => ?_)
        obtain rfl : y_7 = y_7_ := e_8.trans e_8_.symm
        refine lv_istore_n (lv' := [(3, .int y_7), (5, .int t_3), (0, .ref (ad 0)), (1, .int x1), (2, .int x2), (4, .int x4)]) hx hb dX8_priceFor_59 rfl hl (by decide) rfl (fun ls hl => ?_)
        exact wX8_priceFor_60 C  hf kc kx _ _ _ hw (lv_sub hl [2, 3, 4, 0, 5] rfl)
    · have hf := sn_el c_5 hf
      refine lv_iload_n hx hb dX8_priceFor_35 rfl (lv_at hl 4 rfl) ?_
      refine lv_iload hx hb dX8_priceFor_36 (lv_at hl 0 rfl) ?_
      refine va_mmax hx hb (C.2.2.1.trans hl.1.symm) C.2.2.2.1 (C.2.2.2.2.1 _ km_RX8_156) (C.2.2.2.2.1 _ kst_maxI) (C.2.2.2.2.1 _ ki_Math) (C.2.2.2.2.1 _ kc_maxI) (Nat.le_of_ble_eq_true rfl) (Nat.le_of_ble_eq_true rfl) (Nat.zero_le _) (Nat.zero_le _) dX8_priceFor_38 ?_
      obtain ⟨y_9, e_10, hf⟩ := sn_ltE hf
      refine lv_topi (fun y_9_ e_10_ => ?_)
      obtain rfl : y_9 = y_9_ := e_10.trans e_10_.symm
      refine lv_istore_n (lv' := [(3, .int y_9), (5, .int t_3), (0, .ref (ad 0)), (1, .int x1), (2, .int x2), (4, .int x4)]) hx hb dX8_priceFor_41 rfl hl (by decide) rfl (fun ls hl => ?_)
      refine lv_goto (tgt := 60) hx hb dX8_priceFor_42 (by decide) ?_
      exact wX8_priceFor_60 C  hf kc kx _ _ _ hw (lv_sub hl [2, 3, 4, 0, 5] rfl)
theorem wX8_priceFor_L5 (C : sn_C p s m args meth c RX8 cX8_priceFor 6 (some .int) D ct ad layC) {σ : sn_S} {x1 : Int32} {x2 : Int32}   {z : Int32 × Int32} {t : Int32} (h : sn_it (LX8_priceFor_5 σ x1 x2) 5000 z = some t) (kx : ∀ v, t = v → sn_At p l e rmX8_priceFor s m args below meth c Q D ct ad layC 6 σ 66 [(0, .ref (ad 0)), (1, .int x1), (2, .int x2), (3, .int v)] []) : sn_At p l e rmX8_priceFor s m args below meth c Q D ct ad layC 6 σ 5 [(0, .ref (ad 0)), (1, .int x1), (2, .int x2), (3, .int z.1), (4, .int z.2)] [] :=
  sn_loop (f := LX8_priceFor_5 σ x1 x2) (G := fun z => sn_At p l e rmX8_priceFor s m args below meth c Q D ct ad layC 6 σ 5 [(0, .ref (ad 0)), (1, .int x1), (2, .int x2), (3, .int z.1), (4, .int z.2)] []) (E := fun t => (∀ v, t = v → sn_At p l e rmX8_priceFor s m args below meth c Q D ct ad layC 6 σ 66 [(0, .ref (ad 0)), (1, .int x1), (2, .int x2), (3, .int v)] []) ∧ True) (fun z o hf k1 k2 => wX8_priceFor_5 C  hf (fun v e => k1 v e) (fun v e => (k2 _ e).1 v rfl)) 5000 z t h ⟨kx, trivial⟩
theorem wX8_priceFor_in (C : sn_C p s m args meth c RX8 cX8_priceFor 6 (some .int) D ct ad layC) {σ : sn_S} {x1 : Int32} {x2 : Int32}  {o : Int32} (hf : fX8_priceFor σ x1 x2 = some o) (kr : sn_Kr p l e rmX8_priceFor s m args below meth c Q D ct ad layC cX8_priceFor .ireturn (true) σ [.int o]) : sn_At p l e rmX8_priceFor s m args below meth c Q D ct ad layC 6 σ 0 [(0, .ref (ad 0)), (1, .int x1), (2, .int x2)] [] := by
  intro H locs ls hw hl
  have hx := C.1
  have hb := C.2.1
  unfold fX8_priceFor at hf
  refine lv_iconst (v := 0) hx hb dX8_priceFor_0 rfl ?_
  refine lv_istore_n (lv' := [(3, .int (0 : Int32)), (0, .ref (ad 0)), (1, .int x1), (2, .int x2)]) hx hb dX8_priceFor_1 rfl hl (by decide) rfl (fun ls hl => ?_)
  refine lv_iconst (v := 0) hx hb dX8_priceFor_2 rfl ?_
  refine lv_istore (lv' := [(4, .int (0 : Int32)), (3, .int (0 : Int32)), (0, .ref (ad 0)), (1, .int x1), (2, .int x2)]) hx hb dX8_priceFor_3 hl (by decide) rfl (fun ls hl => ?_)
  obtain ⟨t_1, h_2, hf⟩ := sn_bd hf
  exact wX8_priceFor_L5 C  h_2 (fun v e => by cases e; exact wX8_priceFor_66 C  hf kr) _ _ _ hw (lv_sub hl [2, 3, 4, 1, 0] rfl)
theorem ctX8_priceFor (l : Launch) {σ : sn_S} {x1 : Int32} {x2 : Int32}  {o : Int32} (hf : fX8_priceFor σ x1 x2 = some o) : sn_M l yX8_priceFor cX8_priceFor 6 (some .int) rmX8_priceFor layC (fun ad => [.ref (ad 0), .int x1, .int x2]) σ (some (fun _ => .int o)) σ :=
  sn_met (by decide) (fun _ => Nat.le_of_ble_eq_true rfl) (fun p e s m args below meth c ls D ct ad C hw hl => wX8_priceFor_in C  hf (fun H locs ls pc hw ok hd => sn_iret C hw hd) _ _ _ hw hl)
-- X8_price
abbrev rmX8_price : Room := { frames := 7, cells := 0, slots := 0, locals := 163 }
def BX8_price_43 (σ : sn_S) (x2 : Int32) : Option (Int32) :=
  (some x2)
def BX8_price_15 (σ : sn_S) (x1 : Int32) (x2 : Int32) (x3 : Int32) : Option ((Int32 × Int32) ⊕ (Int32)) :=
  (if (sn_I σ 48 1) ≤ x3 then
  (some (.inr (x2)))
  else
  ((fX8_priceFor σ x3 x1).bind fun t_2 => (sn_lt (if x2 < t_2 then t_2 else x2) fun y_4 => (sn_lt (x3 + 1) fun y_6 => (some (.inl (y_4, y_6)))))))
def LX8_price_15 (σ : sn_S) (x1 : Int32) (s : Int32 × Int32) : Option ((Int32 × Int32) ⊕ (Int32)) := BX8_price_15 σ x1 s.1 s.2
def fX8_price (σ : sn_S) (x1 : Int32) : Option Int32 :=
  ((fX8_isPolicy σ x1).bind fun t_1 => (if t_1 = 0 then
  (some (-2 : Int32))
  else
  ((sn_it (LX8_price_15 σ x1) 5000 ((0 : Int32), (0 : Int32))).bind fun t_4 => (BX8_price_43 σ t_4))))
theorem wX8_price_43 (C : sn_C p s m args meth c RX8 cX8_price 4 (some .int) D ct ad layC) {σ : sn_S} {x2 : Int32}  {o : Int32} (hf : BX8_price_43 σ x2 = some o) (kr : sn_Kr p l e rmX8_price s m args below meth c Q D ct ad layC cX8_price .ireturn (true) σ [.int o]) : sn_At p l e rmX8_price s m args below meth c Q D ct ad layC 4 σ 43 [(2, .int x2)] [] := by
  intro H locs ls hw hl
  have hx := C.1
  have hb := C.2.1
  unfold BX8_price_43 at hf
  refine lv_iload_n hx hb dX8_price_43 rfl (lv_at hl 0 rfl) ?_
  cases hf
  exact kr _ _ _ _ hw rfl dX8_price_44
theorem wX8_price_15 (C : sn_C p s m args meth c RX8 cX8_price 4 (some .int) D ct ad layC) {σ : sn_S} {x1 : Int32} {x2 : Int32} {x3 : Int32}  {o : (Int32 × Int32) ⊕ (Int32)} (hf : BX8_price_15 σ x1 x2 x3 = some o) (kc : ∀ v, o = .inl v → sn_At p l e rmX8_price s m args below meth c Q D ct ad layC 4 σ 15 [(0, .ref (ad 0)), (1, .int x1), (2, .int v.1), (3, .int v.2)] []) (kx : ∀ v, o = .inr v → sn_At p l e rmX8_price s m args below meth c Q D ct ad layC 4 σ 43 [(2, .int v)] []) : sn_At p l e rmX8_price s m args below meth c Q D ct ad layC 4 σ 15 [(0, .ref (ad 0)), (1, .int x1), (2, .int x2), (3, .int x3)] [] := by
  intro H locs ls hw hl
  have hx := C.1
  have hb := C.2.1
  unfold BX8_price_15 at hf
  refine lv_iload_n hx hb dX8_price_15 rfl (lv_at hl 3 rfl) ?_
  refine lv_aload_n hx hb dX8_price_16 rfl (lv_at hl 0 rfl) ?_
  refine sn_getC (r := 48) C hw fd_RX8_44 layC_0 rfl dX8_price_17 ?_
  refine sn_getI C hw fd_RX8_164 (sn_look sn_isX0_48 (k := 0) rfl) rfl dX8_price_20 ?_
  refine lv_icmp_ge (tgt := 43) hx hb dX8_price_23 (by decide) (fun c_1 => ?_) (fun c_1 => ?_)
  · have hf := sn_if c_1 hf
    cases hf
    exact kx _ rfl _ _ _ hw (lv_sub hl [2] rfl)
  · have hf := sn_el c_1 hf
    refine lv_iload_n hx hb dX8_price_26 rfl (lv_at hl 2 rfl) ?_
    refine lv_aload_n hx hb dX8_price_27 rfl (lv_at hl 0 rfl) ?_
    refine lv_iload_n hx hb dX8_price_28 rfl (lv_at hl 3 rfl) ?_
    refine lv_iload_n hx hb dX8_price_29 rfl (lv_at hl 1 rfl) ?_
    obtain ⟨t_2, h_3, hf⟩ := sn_bd hf
    refine sn_callVi (rest := [.int x2]) C hw (ctX8_priceFor l  h_3) kl_RX8_246 layC_0 rfl rfl rfl rfl (Nat.le_of_ble_eq_true rfl) dX8_price_30 hl.1 (fun H locs hw => ?_)
    refine va_mmax hx hb (C.2.2.1.trans hl.1.symm) C.2.2.2.1 (C.2.2.2.2.1 _ km_RX8_156) (C.2.2.2.2.1 _ kst_maxI) (C.2.2.2.2.1 _ ki_Math) (C.2.2.2.2.1 _ kc_maxI) (Nat.le_of_ble_eq_true rfl) (Nat.le_of_ble_eq_true rfl) (Nat.zero_le _) (Nat.zero_le _) dX8_price_33 ?_
    obtain ⟨y_4, e_5, hf⟩ := sn_ltE hf
    refine lv_topi (fun y_4_ e_5_ => ?_)
    obtain rfl : y_4 = y_4_ := e_5.trans e_5_.symm
    refine lv_istore_n (lv' := [(2, .int y_4), (0, .ref (ad 0)), (1, .int x1), (3, .int x3)]) hx hb dX8_price_36 rfl hl (by decide) rfl (fun ls hl => ?_)
    obtain ⟨y_6, e_7, hf⟩ := sn_ltE hf
    refine lv_iinc (v := y_6) (lv' := [(3, .int y_6), (2, .int y_4), (0, .ref (ad 0)), (1, .int x1)]) hx hb dX8_price_37 hl (k := 3) rfl (by rw [e_7]; rfl) (by decide) rfl (fun ls hl => ?_)
    refine lv_goto (tgt := 15) hx hb dX8_price_40 (by decide) ?_
    cases hf
    exact kc _ rfl _ _ _ hw (lv_sub hl [2, 3, 1, 0] rfl)
theorem wX8_price_L15 (C : sn_C p s m args meth c RX8 cX8_price 4 (some .int) D ct ad layC) {σ : sn_S} {x1 : Int32}   {z : Int32 × Int32} {t : Int32} (h : sn_it (LX8_price_15 σ x1) 5000 z = some t) (kx : ∀ v, t = v → sn_At p l e rmX8_price s m args below meth c Q D ct ad layC 4 σ 43 [(2, .int v)] []) : sn_At p l e rmX8_price s m args below meth c Q D ct ad layC 4 σ 15 [(0, .ref (ad 0)), (1, .int x1), (2, .int z.1), (3, .int z.2)] [] :=
  sn_loop (f := LX8_price_15 σ x1) (G := fun z => sn_At p l e rmX8_price s m args below meth c Q D ct ad layC 4 σ 15 [(0, .ref (ad 0)), (1, .int x1), (2, .int z.1), (3, .int z.2)] []) (E := fun t => (∀ v, t = v → sn_At p l e rmX8_price s m args below meth c Q D ct ad layC 4 σ 43 [(2, .int v)] []) ∧ True) (fun z o hf k1 k2 => wX8_price_15 C  hf (fun v e => k1 v e) (fun v e => (k2 _ e).1 v rfl)) 5000 z t h ⟨kx, trivial⟩
theorem wX8_price_in (C : sn_C p s m args meth c RX8 cX8_price 4 (some .int) D ct ad layC) {σ : sn_S} {x1 : Int32}  {o : Int32} (hf : fX8_price σ x1 = some o) (kr : sn_Kr p l e rmX8_price s m args below meth c Q D ct ad layC cX8_price .ireturn (true) σ [.int o]) : sn_At p l e rmX8_price s m args below meth c Q D ct ad layC 4 σ 0 [(0, .ref (ad 0)), (1, .int x1)] [] := by
  intro H locs ls hw hl
  have hx := C.1
  have hb := C.2.1
  unfold fX8_price at hf
  refine lv_aload_n hx hb dX8_price_0 rfl (lv_at hl 0 rfl) ?_
  refine lv_iload_n hx hb dX8_price_1 rfl (lv_at hl 1 rfl) ?_
  obtain ⟨t_1, h_2, hf⟩ := sn_bd hf
  refine sn_callVi (rest := []) C hw (ctX8_isPolicy l  h_2) kl_RX8_116 layC_0 rfl rfl rfl rfl (Nat.le_of_ble_eq_true rfl) dX8_price_2 hl.1 (fun H locs hw => ?_)
  refine lv_if_ne (tgt := 11) hx hb dX8_price_5 (by decide) (fun c_3 => ?_) (fun c_3 => ?_)
  · have hf := sn_el c_3 hf
    refine lv_iconst (v := 0) hx hb dX8_price_11 rfl ?_
    refine lv_istore_n (lv' := [(2, .int (0 : Int32)), (0, .ref (ad 0)), (1, .int x1)]) hx hb dX8_price_12 rfl hl (by decide) rfl (fun ls hl => ?_)
    refine lv_iconst (v := 0) hx hb dX8_price_13 rfl ?_
    refine lv_istore_n (lv' := [(3, .int (0 : Int32)), (2, .int (0 : Int32)), (0, .ref (ad 0)), (1, .int x1)]) hx hb dX8_price_14 rfl hl (by decide) rfl (fun ls hl => ?_)
    obtain ⟨t_4, h_5, hf⟩ := sn_bd hf
    exact wX8_price_L15 C  h_5 (fun v e => by cases e; exact wX8_price_43 C  hf kr) _ _ _ hw (lv_sub hl [2, 3, 1, 0] rfl)
  · have hf := sn_if c_3 hf
    refine lv_bipush (v := (-2)) hx hb dX8_price_8 (by decide) ?_
    cases hf
    exact kr _ _ _ _ hw rfl dX8_price_10
theorem ctX8_price (l : Launch) {σ : sn_S} {x1 : Int32}  {o : Int32} (hf : fX8_price σ x1 = some o) : sn_M l yX8_price cX8_price 4 (some .int) rmX8_price layC (fun ad => [.ref (ad 0), .int x1]) σ (some (fun _ => .int o)) σ :=
  sn_met (by decide) (fun _ => Nat.le_of_ble_eq_true rfl) (fun p e s m args below meth c ls D ct ad C hw hl => wX8_price_in C  hf (fun H locs ls pc hw ok hd => sn_iret C hw hd) _ _ _ hw hl)
-- X8_hold
abbrev rmX8_hold : Room := { frames := 4, cells := 0, slots := 0, locals := 100 }
def fX8_hold (σ : sn_S) (x1 : Int32) : Option (Int32 × sn_S) :=
  ((fX8_isPolicy σ x1).bind fun t_1 => (if t_1 = 0 then
  (some ((-2 : Int32), σ))
  else
  ((fX1_reckon σ 3 48 x1).bind fun t_4 => ((fX1_fewest t_4).bind fun t_6 => (some (t_6, t_4))))))
theorem wX8_hold_in (C : sn_C p s m args meth c RX8 cX8_hold 2 (some .int) D ct ad layC) {σ : sn_S} {x1 : Int32}  {o : (Int32 × sn_S)} (hf : fX8_hold σ x1 = some o) (kr : sn_Kr p l e rmX8_hold s m args below meth c Q D ct ad layC cX8_hold .ireturn (true) o.2 [.int o.1]) : sn_At p l e rmX8_hold s m args below meth c Q D ct ad layC 2 σ 0 [(0, .ref (ad 0)), (1, .int x1)] [] := by
  intro H locs ls hw hl
  have hx := C.1
  have hb := C.2.1
  unfold fX8_hold at hf
  refine lv_aload_n hx hb dX8_hold_0 rfl (lv_at hl 0 rfl) ?_
  refine lv_iload_n hx hb dX8_hold_1 rfl (lv_at hl 1 rfl) ?_
  obtain ⟨t_1, h_2, hf⟩ := sn_bd hf
  refine sn_callVi (rest := []) C hw (ctX8_isPolicy l  h_2) kl_RX8_116 layC_0 rfl rfl rfl rfl (Nat.le_of_ble_eq_true rfl) dX8_hold_2 hl.1 (fun H locs hw => ?_)
  refine lv_if_ne (tgt := 11) hx hb dX8_hold_5 (by decide) (fun c_3 => ?_) (fun c_3 => ?_)
  · have hf := sn_el c_3 hf
    refine lv_aload_n hx hb dX8_hold_11 rfl (lv_at hl 0 rfl) ?_
    refine sn_getC (r := 73) C hw fd_RX8_61 layC_0 rfl dX8_hold_12 ?_
    refine lv_aload_n hx hb dX8_hold_15 rfl (lv_at hl 0 rfl) ?_
    refine sn_getC (r := 3) C hw fd_RX8_10 layC_0 rfl dX8_hold_16 ?_
    refine lv_aload_n hx hb dX8_hold_19 rfl (lv_at hl 0 rfl) ?_
    refine sn_getC (r := 48) C hw fd_RX8_44 layC_0 rfl dX8_hold_20 ?_
    refine lv_iload_n hx hb dX8_hold_23 rfl (lv_at hl 1 rfl) ?_
    obtain ⟨t_4, h_5, hf⟩ := sn_bd hf
    refine sn_callVv (rest := []) C hw (ctX1_reckon l sn_isX2_3 sn_isX0_48 h_5) kl_RX8_256 layC_73 rfl rfl rfl rfl (Nat.le_of_ble_eq_true rfl) dX8_hold_24 hl.1 (fun H locs hw => ?_)
    refine lv_aload_n hx hb dX8_hold_27 rfl (lv_at hl 0 rfl) ?_
    refine sn_getC (r := 73) C hw fd_RX8_61 layC_0 rfl dX8_hold_28 ?_
    obtain ⟨t_6, h_7, hf⟩ := sn_bd hf
    refine sn_callVi (rest := []) C hw (ctX1_fewest l  h_7) kl_RX8_257 layC_73 rfl rfl rfl rfl (Nat.le_of_ble_eq_true rfl) dX8_hold_31 hl.1 (fun H locs hw => ?_)
    cases hf
    exact kr _ _ _ _ hw rfl dX8_hold_34
  · have hf := sn_if c_3 hf
    refine lv_bipush (v := (-2)) hx hb dX8_hold_8 (by decide) ?_
    cases hf
    exact kr _ _ _ _ hw rfl dX8_hold_10
theorem ctX8_hold (l : Launch) {σ : sn_S} {x1 : Int32}  {o : (Int32 × sn_S)} (hf : fX8_hold σ x1 = some o) : sn_M l yX8_hold cX8_hold 2 (some .int) rmX8_hold layC (fun ad => [.ref (ad 0), .int x1]) σ (some (fun _ => .int o.1)) o.2 :=
  sn_met (by decide) (fun _ => Nat.le_of_ble_eq_true rfl) (fun p e s m args below meth c ls D ct ad C hw hl => wX8_hold_in C  hf (fun H locs ls pc hw ok hd => sn_iret C hw hd) _ _ _ hw hl)
-- X8_holds
abbrev rmX8_holds : Room := { frames := 4, cells := 0, slots := 0, locals := 100 }
def fX8_holds (σ : sn_S) (x1 : Int32) : Option (Int32 × sn_S) :=
  ((fX8_isPolicy σ x1).bind fun t_1 => (if t_1 = 0 then
  (some ((-2 : Int32), σ))
  else
  ((fX1_reckon σ 3 48 x1).bind fun t_4 => ((fX1_minutesHeld t_4).bind fun t_6 => (some (t_6, t_4))))))
theorem wX8_holds_in (C : sn_C p s m args meth c RX8 cX8_holds 2 (some .int) D ct ad layC) {σ : sn_S} {x1 : Int32}  {o : (Int32 × sn_S)} (hf : fX8_holds σ x1 = some o) (kr : sn_Kr p l e rmX8_holds s m args below meth c Q D ct ad layC cX8_holds .ireturn (true) o.2 [.int o.1]) : sn_At p l e rmX8_holds s m args below meth c Q D ct ad layC 2 σ 0 [(0, .ref (ad 0)), (1, .int x1)] [] := by
  intro H locs ls hw hl
  have hx := C.1
  have hb := C.2.1
  unfold fX8_holds at hf
  refine lv_aload_n hx hb dX8_holds_0 rfl (lv_at hl 0 rfl) ?_
  refine lv_iload_n hx hb dX8_holds_1 rfl (lv_at hl 1 rfl) ?_
  obtain ⟨t_1, h_2, hf⟩ := sn_bd hf
  refine sn_callVi (rest := []) C hw (ctX8_isPolicy l  h_2) kl_RX8_116 layC_0 rfl rfl rfl rfl (Nat.le_of_ble_eq_true rfl) dX8_holds_2 hl.1 (fun H locs hw => ?_)
  refine lv_if_ne (tgt := 11) hx hb dX8_holds_5 (by decide) (fun c_3 => ?_) (fun c_3 => ?_)
  · have hf := sn_el c_3 hf
    refine lv_aload_n hx hb dX8_holds_11 rfl (lv_at hl 0 rfl) ?_
    refine sn_getC (r := 73) C hw fd_RX8_61 layC_0 rfl dX8_holds_12 ?_
    refine lv_aload_n hx hb dX8_holds_15 rfl (lv_at hl 0 rfl) ?_
    refine sn_getC (r := 3) C hw fd_RX8_10 layC_0 rfl dX8_holds_16 ?_
    refine lv_aload_n hx hb dX8_holds_19 rfl (lv_at hl 0 rfl) ?_
    refine sn_getC (r := 48) C hw fd_RX8_44 layC_0 rfl dX8_holds_20 ?_
    refine lv_iload_n hx hb dX8_holds_23 rfl (lv_at hl 1 rfl) ?_
    obtain ⟨t_4, h_5, hf⟩ := sn_bd hf
    refine sn_callVv (rest := []) C hw (ctX1_reckon l sn_isX2_3 sn_isX0_48 h_5) kl_RX8_256 layC_73 rfl rfl rfl rfl (Nat.le_of_ble_eq_true rfl) dX8_holds_24 hl.1 (fun H locs hw => ?_)
    refine lv_aload_n hx hb dX8_holds_27 rfl (lv_at hl 0 rfl) ?_
    refine sn_getC (r := 73) C hw fd_RX8_61 layC_0 rfl dX8_holds_28 ?_
    obtain ⟨t_6, h_7, hf⟩ := sn_bd hf
    refine sn_callVi (rest := []) C hw (ctX1_minutesHeld l  h_7) kl_RX8_260 layC_73 rfl rfl rfl rfl (Nat.le_of_ble_eq_true rfl) dX8_holds_31 hl.1 (fun H locs hw => ?_)
    cases hf
    exact kr _ _ _ _ hw rfl dX8_holds_34
  · have hf := sn_if c_3 hf
    refine lv_bipush (v := (-2)) hx hb dX8_holds_8 (by decide) ?_
    cases hf
    exact kr _ _ _ _ hw rfl dX8_holds_10
theorem ctX8_holds (l : Launch) {σ : sn_S} {x1 : Int32}  {o : (Int32 × sn_S)} (hf : fX8_holds σ x1 = some o) : sn_M l yX8_holds cX8_holds 2 (some .int) rmX8_holds layC (fun ad => [.ref (ad 0), .int x1]) σ (some (fun _ => .int o.1)) o.2 :=
  sn_met (by decide) (fun _ => Nat.le_of_ble_eq_true rfl) (fun p e s m args below meth c ls D ct ad C hw hl => wX8_holds_in C  hf (fun H locs ls pc hw ok hd => sn_iret C hw hd) _ _ _ hw hl)
-- X8_minutesOfFraud
abbrev rmX8_minutesOfFraud : Room := { frames := 5, cells := 0, slots := 0, locals := 116 }
def BX8_minutesOfFraud_170 (σ : sn_S) (x4 : Int32) : Option ((Int32 × sn_S)) :=
  (some (x4, σ))
def BX8_minutesOfFraud_133 (σ : sn_S) (x1 : Int32) (x2 : Int32) (x3 : Int32) (x4 : Int32) (x5 : Int32) : Option ((sn_S × Int32 × Int32) ⊕ (sn_S × Int32)) :=
  (sn_gd (sn_in x2 6) (sn_gd (sn_in x2 6) (sn_lt (sn_pI σ (59 + 5) x2.toNatClampNeg (sn_I σ (48 + 5) x2.toNatClampNeg)) fun σ_3 => ((fX0_live σ_3 59 x5 (x5 + (1 : Int32))).bind fun t_5 => (sn_lt (x5 + 1) fun y_7 => (some (.inl (t_5, x4, y_7))))))))
def BX8_minutesOfFraud_34 (σ : sn_S) (x1 : Int32) (x2 : Int32) (x3 : Int32) (x4 : Int32) (x5 : Int32) : Option ((sn_S × Int32 × Int32) ⊕ (sn_S × Int32)) :=
  (if (sn_I σ 48 0) ≤ x5 then
  (some (.inr (σ, x4)))
  else
  (sn_gd (sn_in x2 6) (sn_gd (sn_in x2 6) (sn_lt (sn_pI σ (59 + 5) x2.toNatClampNeg ((sn_I σ (48 + 5) x2.toNatClampNeg) ||| ((1 : Int32) <<< (x5 &&& 31)))) fun σ_4 => ((fX0_live σ_4 59 x5 (sn_I σ_4 48 0)).bind fun t_6 => (sn_gd (sn_in (2 : Int32) 11) (sn_gd (sn_in x2 6) (sn_gd (sn_in x2 6) ((fX3_claimBy t_6 3 (sn_I t_6 (3 + 1) (2 : Int32).toNatClampNeg) x1 (sn_I t_6 (59 + 10) x2.toNatClampNeg) (sn_I t_6 (59 + 4) x2.toNatClampNeg)).bind fun t_11 => (if t_11 ≤ x3 then
  (BX8_minutesOfFraud_133 t_6 x1 x2 x3 x4 x5)
  else
  (sn_lt (x4 ||| ((1 : Int32) <<< (x5 &&& 31))) fun y_14 => (BX8_minutesOfFraud_133 t_6 x1 x2 x3 y_14 x5))))))))))))
def LX8_minutesOfFraud_34 (x1 : Int32) (x2 : Int32) (x3 : Int32) (s : sn_S × Int32 × Int32) : Option ((sn_S × Int32 × Int32) ⊕ (sn_S × Int32)) := BX8_minutesOfFraud_34 s.1 x1 x2 x3 s.2.1 s.2.2
def fX8_minutesOfFraud (σ : sn_S) (x1 : Int32) : Option (Int32 × sn_S) :=
  ((fX2_ofPolicy σ 3 x1 (0 : Int32)).bind fun t_1 => ((fX8_claimAsIfOf σ t_1 x1).bind fun t_3 => ((fX0_copyFrom σ 59 48).bind fun t_5 => ((sn_it (LX8_minutesOfFraud_34 x1 t_1 t_3) 5000 (t_5, (0 : Int32), (0 : Int32))).bind fun t_7 => (BX8_minutesOfFraud_170 t_7.1 t_7.2)))))
theorem wX8_minutesOfFraud_170 (C : sn_C p s m args meth c RX8 cX8_minutesOfFraud 6 (some .int) D ct ad layC) {σ : sn_S} {x4 : Int32}  {o : (Int32 × sn_S)} (hf : BX8_minutesOfFraud_170 σ x4 = some o) (kr : sn_Kr p l e rmX8_minutesOfFraud s m args below meth c Q D ct ad layC cX8_minutesOfFraud .ireturn (true) o.2 [.int o.1]) : sn_At p l e rmX8_minutesOfFraud s m args below meth c Q D ct ad layC 6 σ 170 [(4, .int x4)] [] := by
  intro H locs ls hw hl
  have hx := C.1
  have hb := C.2.1
  unfold BX8_minutesOfFraud_170 at hf
  refine lv_iload hx hb dX8_minutesOfFraud_170 (lv_at hl 0 rfl) ?_
  cases hf
  exact kr _ _ _ _ hw rfl dX8_minutesOfFraud_172
theorem wX8_minutesOfFraud_133 (C : sn_C p s m args meth c RX8 cX8_minutesOfFraud 6 (some .int) D ct ad layC) {σ : sn_S} {x1 : Int32} {x2 : Int32} {x3 : Int32} {x4 : Int32} {x5 : Int32}  {o : (sn_S × Int32 × Int32) ⊕ (sn_S × Int32)} (hf : BX8_minutesOfFraud_133 σ x1 x2 x3 x4 x5 = some o) (kc : ∀ v, o = .inl v → sn_At p l e rmX8_minutesOfFraud s m args below meth c Q D ct ad layC 6 v.1 34 [(0, .ref (ad 0)), (1, .int x1), (2, .int x2), (3, .int x3), (4, .int v.2.1), (5, .int v.2.2)] []) (kx : ∀ v, o = .inr v → sn_At p l e rmX8_minutesOfFraud s m args below meth c Q D ct ad layC 6 v.1 170 [(4, .int v.2)] []) : sn_At p l e rmX8_minutesOfFraud s m args below meth c Q D ct ad layC 6 σ 133 [(0, .ref (ad 0)), (1, .int x1), (2, .int x2), (3, .int x3), (4, .int x4), (5, .int x5)] [] := by
  intro H locs ls hw hl
  have hx := C.1
  have hb := C.2.1
  unfold BX8_minutesOfFraud_133 at hf
  refine lv_aload_n hx hb dX8_minutesOfFraud_133 rfl (lv_at hl 0 rfl) ?_
  refine sn_getC (r := 59) C hw fd_RX8_48 layC_0 rfl dX8_minutesOfFraud_134 ?_
  refine sn_getC (r := (59 + 5)) C hw fd_RX8_266 (sn_look sn_isX0_59 (k := 0) rfl) rfl dX8_minutesOfFraud_137 ?_
  refine lv_iload_n hx hb dX8_minutesOfFraud_140 rfl (lv_at hl 2 rfl) ?_
  refine lv_aload_n hx hb dX8_minutesOfFraud_141 rfl (lv_at hl 0 rfl) ?_
  refine sn_getC (r := 48) C hw fd_RX8_44 layC_0 rfl dX8_minutesOfFraud_142 ?_
  refine sn_getC (r := (48 + 5)) C hw fd_RX8_266 (sn_look sn_isX0_48 (k := 0) rfl) rfl dX8_minutesOfFraud_145 ?_
  refine lv_iload_n hx hb dX8_minutesOfFraud_148 rfl (lv_at hl 2 rfl) ?_
  obtain ⟨g_1, hf⟩ := sn_gdE hf
  refine sn_iald C hw (sn_look sn_isX0_48 (k := 5) rfl) g_1 dX8_minutesOfFraud_149 ?_
  obtain ⟨g_2, hf⟩ := sn_gdE hf
  refine sn_iast C hw (sn_look sn_isX0_59 (k := 5) rfl) g_2 dX8_minutesOfFraud_150 (fun H locs hw => ?_)
  obtain ⟨σ_3, e_4, hf⟩ := sn_ltE hf
  rw [← e_4] at hw
  refine lv_aload_n hx hb dX8_minutesOfFraud_151 rfl (lv_at hl 0 rfl) ?_
  refine sn_getC (r := 59) C hw fd_RX8_48 layC_0 rfl dX8_minutesOfFraud_152 ?_
  refine lv_iload hx hb dX8_minutesOfFraud_155 (lv_at hl 5 rfl) ?_
  refine lv_iload hx hb dX8_minutesOfFraud_157 (lv_at hl 5 rfl) ?_
  refine lv_iconst (v := 1) hx hb dX8_minutesOfFraud_159 rfl ?_
  refine lv_iadd hx hb dX8_minutesOfFraud_160 ?_
  obtain ⟨t_5, h_6, hf⟩ := sn_bd hf
  refine sn_callVv (rest := []) C hw (ctX0_live l sn_isX0_59 h_6) kl_RX8_269 (sn_look sn_isX0_59 (k := 0) rfl) rfl rfl rfl rfl (Nat.le_of_ble_eq_true rfl) dX8_minutesOfFraud_161 hl.1 (fun H locs hw => ?_)
  obtain ⟨y_7, e_8, hf⟩ := sn_ltE hf
  refine lv_iinc (v := y_7) (lv' := [(5, .int y_7), (0, .ref (ad 0)), (1, .int x1), (2, .int x2), (3, .int x3), (4, .int x4)]) hx hb dX8_minutesOfFraud_164 hl (k := 5) rfl (by rw [e_8]; rfl) (by decide) rfl (fun ls hl => ?_)
  refine lv_goto (tgt := 34) hx hb dX8_minutesOfFraud_167 (by decide) ?_
  cases hf
  exact kc _ rfl _ _ _ hw (lv_sub hl [1, 2, 3, 4, 5, 0] rfl)
theorem wX8_minutesOfFraud_34 (C : sn_C p s m args meth c RX8 cX8_minutesOfFraud 6 (some .int) D ct ad layC) {σ : sn_S} {x1 : Int32} {x2 : Int32} {x3 : Int32} {x4 : Int32} {x5 : Int32}  {o : (sn_S × Int32 × Int32) ⊕ (sn_S × Int32)} (hf : BX8_minutesOfFraud_34 σ x1 x2 x3 x4 x5 = some o) (kc : ∀ v, o = .inl v → sn_At p l e rmX8_minutesOfFraud s m args below meth c Q D ct ad layC 6 v.1 34 [(0, .ref (ad 0)), (1, .int x1), (2, .int x2), (3, .int x3), (4, .int v.2.1), (5, .int v.2.2)] []) (kx : ∀ v, o = .inr v → sn_At p l e rmX8_minutesOfFraud s m args below meth c Q D ct ad layC 6 v.1 170 [(4, .int v.2)] []) : sn_At p l e rmX8_minutesOfFraud s m args below meth c Q D ct ad layC 6 σ 34 [(0, .ref (ad 0)), (1, .int x1), (2, .int x2), (3, .int x3), (4, .int x4), (5, .int x5)] [] := by
  intro H locs ls hw hl
  have hx := C.1
  have hb := C.2.1
  unfold BX8_minutesOfFraud_34 at hf
  refine lv_iload hx hb dX8_minutesOfFraud_34 (lv_at hl 5 rfl) ?_
  refine lv_aload_n hx hb dX8_minutesOfFraud_36 rfl (lv_at hl 0 rfl) ?_
  refine sn_getC (r := 48) C hw fd_RX8_44 layC_0 rfl dX8_minutesOfFraud_37 ?_
  refine sn_getI C hw fd_RX8_153 (sn_look sn_isX0_48 (k := 0) rfl) rfl dX8_minutesOfFraud_40 ?_
  refine lv_icmp_ge (tgt := 170) hx hb dX8_minutesOfFraud_43 (by decide) (fun c_1 => ?_) (fun c_1 => ?_)
  · have hf := sn_if c_1 hf
    cases hf
    exact kx _ rfl _ _ _ hw (lv_sub hl [4] rfl)
  · have hf := sn_el c_1 hf
    refine lv_aload_n hx hb dX8_minutesOfFraud_46 rfl (lv_at hl 0 rfl) ?_
    refine sn_getC (r := 59) C hw fd_RX8_48 layC_0 rfl dX8_minutesOfFraud_47 ?_
    refine sn_getC (r := (59 + 5)) C hw fd_RX8_266 (sn_look sn_isX0_59 (k := 0) rfl) rfl dX8_minutesOfFraud_50 ?_
    refine lv_iload_n hx hb dX8_minutesOfFraud_53 rfl (lv_at hl 2 rfl) ?_
    refine lv_aload_n hx hb dX8_minutesOfFraud_54 rfl (lv_at hl 0 rfl) ?_
    refine sn_getC (r := 48) C hw fd_RX8_44 layC_0 rfl dX8_minutesOfFraud_55 ?_
    refine sn_getC (r := (48 + 5)) C hw fd_RX8_266 (sn_look sn_isX0_48 (k := 0) rfl) rfl dX8_minutesOfFraud_58 ?_
    refine lv_iload_n hx hb dX8_minutesOfFraud_61 rfl (lv_at hl 2 rfl) ?_
    obtain ⟨g_2, hf⟩ := sn_gdE hf
    refine sn_iald C hw (sn_look sn_isX0_48 (k := 5) rfl) g_2 dX8_minutesOfFraud_62 ?_
    refine lv_iconst (v := 1) hx hb dX8_minutesOfFraud_63 rfl ?_
    refine lv_iload hx hb dX8_minutesOfFraud_64 (lv_at hl 5 rfl) ?_
    refine lv_ishl hx hb dX8_minutesOfFraud_66 ?_
    refine lv_ior hx hb dX8_minutesOfFraud_67 ?_
    obtain ⟨g_3, hf⟩ := sn_gdE hf
    refine sn_iast C hw (sn_look sn_isX0_59 (k := 5) rfl) g_3 dX8_minutesOfFraud_68 (fun H locs hw => ?_)
    obtain ⟨σ_4, e_5, hf⟩ := sn_ltE hf
    rw [← e_5] at hw
    refine lv_aload_n hx hb dX8_minutesOfFraud_69 rfl (lv_at hl 0 rfl) ?_
    refine sn_getC (r := 59) C hw fd_RX8_48 layC_0 rfl dX8_minutesOfFraud_70 ?_
    refine lv_iload hx hb dX8_minutesOfFraud_73 (lv_at hl 5 rfl) ?_
    refine lv_aload_n hx hb dX8_minutesOfFraud_75 rfl (lv_at hl 0 rfl) ?_
    refine sn_getC (r := 48) C hw fd_RX8_44 layC_0 rfl dX8_minutesOfFraud_76 ?_
    refine sn_getI C hw fd_RX8_153 (sn_look sn_isX0_48 (k := 0) rfl) rfl dX8_minutesOfFraud_79 ?_
    obtain ⟨t_6, h_7, hf⟩ := sn_bd hf
    refine sn_callVv (rest := []) C hw (ctX0_live l sn_isX0_59 h_7) kl_RX8_269 (sn_look sn_isX0_59 (k := 0) rfl) rfl rfl rfl rfl (Nat.le_of_ble_eq_true rfl) dX8_minutesOfFraud_82 hl.1 (fun H locs hw => ?_)
    refine lv_aload_n hx hb dX8_minutesOfFraud_85 rfl (lv_at hl 0 rfl) ?_
    refine sn_getC (r := 3) C hw fd_RX8_10 layC_0 rfl dX8_minutesOfFraud_86 ?_
    refine lv_aload_n hx hb dX8_minutesOfFraud_89 rfl (lv_at hl 0 rfl) ?_
    refine sn_getC (r := 3) C hw fd_RX8_10 layC_0 rfl dX8_minutesOfFraud_90 ?_
    refine sn_getC (r := (3 + 1)) C hw fd_RX8_102 (sn_look sn_isX2_3 (k := 0) rfl) rfl dX8_minutesOfFraud_93 ?_
    refine lv_iconst (v := 2) hx hb dX8_minutesOfFraud_96 rfl ?_
    obtain ⟨g_8, hf⟩ := sn_gdE hf
    refine sn_iald C hw (sn_look sn_isX2_3 (k := 1) rfl) g_8 dX8_minutesOfFraud_97 ?_
    refine lv_iload_n hx hb dX8_minutesOfFraud_98 rfl (lv_at hl 1 rfl) ?_
    refine lv_aload_n hx hb dX8_minutesOfFraud_99 rfl (lv_at hl 0 rfl) ?_
    refine sn_getC (r := 59) C hw fd_RX8_48 layC_0 rfl dX8_minutesOfFraud_100 ?_
    refine sn_getC (r := (59 + 10)) C hw fd_RX8_133 (sn_look sn_isX0_59 (k := 0) rfl) rfl dX8_minutesOfFraud_103 ?_
    refine lv_iload_n hx hb dX8_minutesOfFraud_106 rfl (lv_at hl 2 rfl) ?_
    obtain ⟨g_9, hf⟩ := sn_gdE hf
    refine sn_iald C hw (sn_look sn_isX0_59 (k := 10) rfl) g_9 dX8_minutesOfFraud_107 ?_
    refine lv_aload_n hx hb dX8_minutesOfFraud_108 rfl (lv_at hl 0 rfl) ?_
    refine sn_getC (r := 59) C hw fd_RX8_48 layC_0 rfl dX8_minutesOfFraud_109 ?_
    refine sn_getC (r := (59 + 4)) C hw fd_RX8_198 (sn_look sn_isX0_59 (k := 0) rfl) rfl dX8_minutesOfFraud_112 ?_
    refine lv_iload_n hx hb dX8_minutesOfFraud_115 rfl (lv_at hl 2 rfl) ?_
    obtain ⟨g_10, hf⟩ := sn_gdE hf
    refine sn_iald C hw (sn_look sn_isX0_59 (k := 4) rfl) g_10 dX8_minutesOfFraud_116 ?_
    obtain ⟨t_11, h_12, hf⟩ := sn_bd hf
    refine sn_callSi (rest := []) C hw (ctX3_claimBy l sn_isX2_3 h_12) kl_RX8_252 rfl rfl rfl (Nat.le_of_ble_eq_true rfl) dX8_minutesOfFraud_117 hl.1 (fun H locs hw => ?_)
    refine lv_iload_n hx hb dX8_minutesOfFraud_120 rfl (lv_at hl 3 rfl) ?_
    refine lv_icmp_le (tgt := 133) hx hb dX8_minutesOfFraud_121 (by decide) (fun c_13 => ?_) (fun c_13 => ?_)
    · have hf := sn_if c_13 hf
      exact wX8_minutesOfFraud_133 C  hf kc kx _ _ _ hw (lv_sub hl [0, 1, 2, 3, 4, 5] rfl)
    · have hf := sn_el c_13 hf
      refine lv_iload hx hb dX8_minutesOfFraud_124 (lv_at hl 4 rfl) ?_
      refine lv_iconst (v := 1) hx hb dX8_minutesOfFraud_126 rfl ?_
      refine lv_iload hx hb dX8_minutesOfFraud_127 (lv_at hl 5 rfl) ?_
      refine lv_ishl hx hb dX8_minutesOfFraud_129 ?_
      refine lv_ior hx hb dX8_minutesOfFraud_130 ?_
      obtain ⟨y_14, e_15, hf⟩ := sn_ltE hf
      refine lv_topi (fun y_14_ e_15_ => ?_)
      obtain rfl : y_14 = y_14_ := e_15.trans e_15_.symm
      refine lv_istore (lv' := [(4, .int y_14), (0, .ref (ad 0)), (1, .int x1), (2, .int x2), (3, .int x3), (5, .int x5)]) hx hb dX8_minutesOfFraud_131 hl (by decide) rfl (fun ls hl => ?_)
      exact wX8_minutesOfFraud_133 C  hf kc kx _ _ _ hw (lv_sub hl [1, 2, 3, 4, 0, 5] rfl)
theorem wX8_minutesOfFraud_L34 (C : sn_C p s m args meth c RX8 cX8_minutesOfFraud 6 (some .int) D ct ad layC) {x1 : Int32} {x2 : Int32} {x3 : Int32}   {z : sn_S × Int32 × Int32} {t : sn_S × Int32} (h : sn_it (LX8_minutesOfFraud_34 x1 x2 x3) 5000 z = some t) (kx : ∀ v, t = v → sn_At p l e rmX8_minutesOfFraud s m args below meth c Q D ct ad layC 6 v.1 170 [(4, .int v.2)] []) : sn_At p l e rmX8_minutesOfFraud s m args below meth c Q D ct ad layC 6 z.1 34 [(0, .ref (ad 0)), (1, .int x1), (2, .int x2), (3, .int x3), (4, .int z.2.1), (5, .int z.2.2)] [] :=
  sn_loop (f := LX8_minutesOfFraud_34 x1 x2 x3) (G := fun z => sn_At p l e rmX8_minutesOfFraud s m args below meth c Q D ct ad layC 6 z.1 34 [(0, .ref (ad 0)), (1, .int x1), (2, .int x2), (3, .int x3), (4, .int z.2.1), (5, .int z.2.2)] []) (E := fun t => (∀ v, t = v → sn_At p l e rmX8_minutesOfFraud s m args below meth c Q D ct ad layC 6 v.1 170 [(4, .int v.2)] []) ∧ True) (fun z o hf k1 k2 => wX8_minutesOfFraud_34 C  hf (fun v e => k1 v e) (fun v e => (k2 _ e).1 v rfl)) 5000 z t h ⟨kx, trivial⟩
theorem wX8_minutesOfFraud_in (C : sn_C p s m args meth c RX8 cX8_minutesOfFraud 6 (some .int) D ct ad layC) {σ : sn_S} {x1 : Int32}  {o : (Int32 × sn_S)} (hf : fX8_minutesOfFraud σ x1 = some o) (kr : sn_Kr p l e rmX8_minutesOfFraud s m args below meth c Q D ct ad layC cX8_minutesOfFraud .ireturn (true) o.2 [.int o.1]) : sn_At p l e rmX8_minutesOfFraud s m args below meth c Q D ct ad layC 6 σ 0 [(0, .ref (ad 0)), (1, .int x1)] [] := by
  intro H locs ls hw hl
  have hx := C.1
  have hb := C.2.1
  unfold fX8_minutesOfFraud at hf
  refine lv_aload_n hx hb dX8_minutesOfFraud_0 rfl (lv_at hl 0 rfl) ?_
  refine sn_getC (r := 3) C hw fd_RX8_10 layC_0 rfl dX8_minutesOfFraud_1 ?_
  refine lv_iload_n hx hb dX8_minutesOfFraud_4 rfl (lv_at hl 1 rfl) ?_
  refine lv_iconst (v := 0) hx hb dX8_minutesOfFraud_5 rfl ?_
  obtain ⟨t_1, h_2, hf⟩ := sn_bd hf
  refine sn_callVi (rest := []) C hw (ctX2_ofPolicy l sn_isX2_3 h_2) kl_RX8_119 (sn_look sn_isX2_3 (k := 0) rfl) rfl rfl rfl rfl (Nat.le_of_ble_eq_true rfl) dX8_minutesOfFraud_6 hl.1 (fun H locs hw => ?_)
  refine lv_istore_n (lv' := [(2, .int t_1), (0, .ref (ad 0)), (1, .int x1)]) hx hb dX8_minutesOfFraud_9 rfl hl (by decide) rfl (fun ls hl => ?_)
  refine lv_aload_n hx hb dX8_minutesOfFraud_10 rfl (lv_at hl 1 rfl) ?_
  refine lv_iload_n hx hb dX8_minutesOfFraud_11 rfl (lv_at hl 0 rfl) ?_
  refine lv_iload_n hx hb dX8_minutesOfFraud_12 rfl (lv_at hl 2 rfl) ?_
  obtain ⟨t_3, h_4, hf⟩ := sn_bd hf
  refine sn_callVi (rest := []) C hw (ctX8_claimAsIfOf l  h_4) kl_RX8_249 layC_0 rfl rfl rfl rfl (Nat.le_of_ble_eq_true rfl) dX8_minutesOfFraud_13 hl.1 (fun H locs hw => ?_)
  refine lv_istore_n (lv' := [(3, .int t_3), (2, .int t_1), (0, .ref (ad 0)), (1, .int x1)]) hx hb dX8_minutesOfFraud_16 rfl hl (by decide) rfl (fun ls hl => ?_)
  refine lv_iconst (v := 0) hx hb dX8_minutesOfFraud_17 rfl ?_
  refine lv_istore (lv' := [(4, .int (0 : Int32)), (3, .int t_3), (2, .int t_1), (0, .ref (ad 0)), (1, .int x1)]) hx hb dX8_minutesOfFraud_18 hl (by decide) rfl (fun ls hl => ?_)
  refine lv_aload_n hx hb dX8_minutesOfFraud_20 rfl (lv_at hl 3 rfl) ?_
  refine sn_getC (r := 59) C hw fd_RX8_48 layC_0 rfl dX8_minutesOfFraud_21 ?_
  refine lv_aload_n hx hb dX8_minutesOfFraud_24 rfl (lv_at hl 3 rfl) ?_
  refine sn_getC (r := 48) C hw fd_RX8_44 layC_0 rfl dX8_minutesOfFraud_25 ?_
  obtain ⟨t_5, h_6, hf⟩ := sn_bd hf
  refine sn_callVv (rest := []) C hw (ctX0_copyFrom l sn_isX0_59 sn_isX0_48 h_6) kl_RX8_185 (sn_look sn_isX0_59 (k := 0) rfl) rfl rfl rfl rfl (Nat.le_of_ble_eq_true rfl) dX8_minutesOfFraud_28 hl.1 (fun H locs hw => ?_)
  refine lv_iconst (v := 0) hx hb dX8_minutesOfFraud_31 rfl ?_
  refine lv_istore (lv' := [(5, .int (0 : Int32)), (4, .int (0 : Int32)), (3, .int t_3), (2, .int t_1), (0, .ref (ad 0)), (1, .int x1)]) hx hb dX8_minutesOfFraud_32 hl (by decide) rfl (fun ls hl => ?_)
  obtain ⟨t_7, h_8, hf⟩ := sn_bd hf
  exact wX8_minutesOfFraud_L34 C  h_8 (fun v e => by cases e; exact wX8_minutesOfFraud_170 C  hf kr) _ _ _ hw (lv_sub hl [4, 5, 3, 2, 1, 0] rfl)
theorem ctX8_minutesOfFraud (l : Launch) {σ : sn_S} {x1 : Int32}  {o : (Int32 × sn_S)} (hf : fX8_minutesOfFraud σ x1 = some o) : sn_M l yX8_minutesOfFraud cX8_minutesOfFraud 6 (some .int) rmX8_minutesOfFraud layC (fun ad => [.ref (ad 0), .int x1]) σ (some (fun _ => .int o.1)) o.2 :=
  sn_met (by decide) (fun _ => Nat.le_of_ble_eq_true rfl) (fun p e s m args below meth c ls D ct ad C hw hl => wX8_minutesOfFraud_in C  hf (fun H locs ls pc hw ok hd => sn_iret C hw hd) _ _ _ hw hl)
end
