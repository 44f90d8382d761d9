section
variable {p : Program} {l : Launch} {e : Env} {s : State} {m : MethodId} {args : Array Value} {below : List Frame} {meth : Method} {c : Code} {Q : State → Prop} {D : va_G} {ct : Nat → ClassId} {ad : Nat → Nat} {A : Nat → Prop} {lay : List sn_E}
-- X9_claimOf_
abbrev rmX9_claimOf_ : Room := { frames := 3, cells := 0, slots := 0, locals := 75 }
def fX9_claimOf_ (σ : sn_S) (x1 : Int32) : Option (Int32 × sn_S) :=
  ((fX9_of σ x1 (0 : Int32)).bind fun t_1 => ((fX9_claimOf σ x1 t_1 (0 : Int32)).bind fun t_3 => (some (t_3.1, t_3.2))))
theorem wX9_claimOf__in (C : sn_C p s m args meth c RX9 cX9_claimOf_ 2 (some .int) D ct ad layM A) {σ : sn_S} {x1 : Int32}  {o : (Int32 × sn_S)} (hf : fX9_claimOf_ σ x1 = some o) (kr : sn_Kr p l e rmX9_claimOf_ s m args below meth c Q D ct ad layM A cX9_claimOf_ .ireturn (true) o.2 [.int o.1]) : sn_At p l e rmX9_claimOf_ s m args below meth c Q D ct ad layM A 2 σ 0 [(0, .ref (ad 0)), (1, .int x1)] [] := by
  intro H locs ls hw hl
  have hx := C.1
  have hb := C.2.1
  unfold fX9_claimOf_ at hf
  refine lv_aload_n hx hb dX9_claimOf__0 rfl (lv_at hl 0 rfl) ?_
  refine lv_iload_n hx hb dX9_claimOf__1 rfl (lv_at hl 1 rfl) ?_
  refine lv_aload_n hx hb dX9_claimOf__2 rfl (lv_at hl 0 rfl) ?_
  refine lv_iload_n hx hb dX9_claimOf__3 rfl (lv_at hl 1 rfl) ?_
  refine lv_iconst (v := 0) hx hb dX9_claimOf__4 rfl ?_
  obtain ⟨t_1, h_2, hf⟩ := sn_bd hf
  refine sn_callVi (rest := [.int x1, .ref (ad 0)]) C hw (ctX9_of l  h_2) kl_RX9_234 layM_0 rfl rfl rfl rfl (Nat.le_of_ble_eq_true rfl) dX9_claimOf__5 hl.1 (fun H locs hw => ?_)
  refine lv_iconst (v := 0) hx hb dX9_claimOf__8 rfl ?_
  obtain ⟨t_3, h_4, hf⟩ := sn_bd hf
  refine sn_callVi (rest := []) C hw (ctX9_claimOf l  h_4) kl_RX9_313 layM_0 rfl rfl rfl rfl (Nat.le_of_ble_eq_true rfl) dX9_claimOf__9 hl.1 (fun H locs hw => ?_)
  cases hf
  exact kr _ _ _ _ hw rfl dX9_claimOf__12
theorem ctX9_claimOf_ (l : Launch) {σ : sn_S} {x1 : Int32}  {o : (Int32 × sn_S)} (hf : fX9_claimOf_ σ x1 = some o) : sn_M l yX9_claimOf_ cX9_claimOf_ 2 (some .int) rmX9_claimOf_ layM (fun ad => [.ref (ad 0), .int x1]) σ (some (fun _ => .int o.1)) o.2 :=
  sn_met (by decide) (fun _ => Nat.le_of_ble_eq_true rfl) (fun p e s m args below meth c ls D ct ad A C hw hl => wX9_claimOf__in C  hf (fun H locs ls pc hw ok hd => sn_iret C hw hd) _ _ _ hw hl)
-- X9_layPaid
abbrev rmX9_layPaid : Room := { frames := 3, cells := 0, slots := 0, locals := 75 }
def BX9_layPaid_53 (σ : sn_S) : Option (sn_S) :=
  (some σ)
def BX9_layPaid_23 (σ : sn_S) (x1 : Int32) : Option ((sn_S × Int32) ⊕ (sn_S)) :=
  (sn_gd (sn_in (8 : Int32) 119) (if (sn_I σ 1 (8 : Int32).toNatClampNeg) ≤ x1 then
  (some (.inr (σ)))
  else
  ((fX9_of σ x1 (0 : Int32)).bind fun t_3 => ((fX9_claimOf σ x1 t_3 (1 : Int32)).bind fun t_5 => (sn_lt (x1 + 1) fun y_7 => (some (.inl (t_5.2, y_7))))))))
def LX9_layPaid_23  (s : sn_S × Int32) : Option ((sn_S × Int32) ⊕ (sn_S)) := BX9_layPaid_23 s.1 s.2
def BX9_layPaid_21 (σ : sn_S) : Option (sn_S) :=
  ((sn_it (LX9_layPaid_23 ) 5000 (σ, (0 : Int32))).bind fun t_1 => (BX9_layPaid_53 t_1))
def BX9_layPaid_2 (σ : sn_S) (x1 : Int32) : Option ((sn_S × Int32) ⊕ (sn_S)) :=
  (if (30 : Int32) ≤ x1 then
  (some (.inr (σ)))
  else
  (sn_gd (sn_in x1 30) (sn_lt (sn_pI σ 16 x1.toNatClampNeg (0 : Int32)) fun σ_3 => (sn_lt (x1 + 1) fun y_5 => (some (.inl (σ_3, y_5)))))))
def LX9_layPaid_2  (s : sn_S × Int32) : Option ((sn_S × Int32) ⊕ (sn_S)) := BX9_layPaid_2 s.1 s.2
def fX9_layPaid (σ : sn_S) : Option sn_S :=
  ((sn_it (LX9_layPaid_2 ) 5000 (σ, (0 : Int32))).bind fun t_1 => (BX9_layPaid_21 t_1))
theorem wX9_layPaid_53 (C : sn_C p s m args meth c RX9 cX9_layPaid 2 none D ct ad layM A) {σ : sn_S}  {o : sn_S} (hf : BX9_layPaid_53 σ = some o) (kr : sn_Kr p l e rmX9_layPaid s m args below meth c Q D ct ad layM A cX9_layPaid .return_ (true) o []) : sn_At p l e rmX9_layPaid s m args below meth c Q D ct ad layM A 2 σ 53 [] [] := by
  intro H locs ls hw hl
  have hx := C.1
  have hb := C.2.1
  unfold BX9_layPaid_53 at hf
  cases hf
  exact kr _ _ _ _ hw rfl dX9_layPaid_53
theorem wX9_layPaid_23 (C : sn_C p s m args meth c RX9 cX9_layPaid 2 none D ct ad layM A) {σ : sn_S} {x1 : Int32}  {o : (sn_S × Int32) ⊕ (sn_S)} (hf : BX9_layPaid_23 σ x1 = some o) (kc : ∀ v, o = .inl v → sn_At p l e rmX9_layPaid s m args below meth c Q D ct ad layM A 2 v.1 23 [(0, .ref (ad 0)), (1, .int v.2)] []) (kx : ∀ v, o = .inr v → sn_At p l e rmX9_layPaid s m args below meth c Q D ct ad layM A 2 v 53 [] []) : sn_At p l e rmX9_layPaid s m args below meth c Q D ct ad layM A 2 σ 23 [(0, .ref (ad 0)), (1, .int x1)] [] := by
  intro H locs ls hw hl
  have hx := C.1
  have hb := C.2.1
  unfold BX9_layPaid_23 at hf
  refine lv_iload_n hx hb dX9_layPaid_23 rfl (lv_at hl 1 rfl) ?_
  refine lv_aload_n hx hb dX9_layPaid_24 rfl (lv_at hl 0 rfl) ?_
  refine sn_getC (r := 1) C hw fd_RX9_9 layM_0 rfl dX9_layPaid_25 ?_
  refine lv_bipush (v := 8) hx hb dX9_layPaid_28 (by decide) ?_
  obtain ⟨g_1, hf⟩ := sn_gdE hf
  refine sn_iald C hw layM_1 g_1 dX9_layPaid_30 ?_
  refine lv_icmp_ge (tgt := 53) hx hb dX9_layPaid_31 (by decide) (fun c_2 => ?_) (fun c_2 => ?_)
  · have hf := sn_if c_2 hf
    cases hf
    exact kx _ rfl _ _ _ hw (lv_sub hl [] rfl)
  · have hf := sn_el c_2 hf
    refine lv_aload_n hx hb dX9_layPaid_34 rfl (lv_at hl 0 rfl) ?_
    refine lv_iload_n hx hb dX9_layPaid_35 rfl (lv_at hl 1 rfl) ?_
    refine lv_aload_n hx hb dX9_layPaid_36 rfl (lv_at hl 0 rfl) ?_
    refine lv_iload_n hx hb dX9_layPaid_37 rfl (lv_at hl 1 rfl) ?_
    refine lv_iconst (v := 0) hx hb dX9_layPaid_38 rfl ?_
    obtain ⟨t_3, h_4, hf⟩ := sn_bd hf
    refine sn_callVi (rest := [.int x1, .ref (ad 0)]) C hw (ctX9_of l  h_4) kl_RX9_234 layM_0 rfl rfl rfl rfl (Nat.le_of_ble_eq_true rfl) dX9_layPaid_39 hl.1 (fun H locs hw => ?_)
    refine lv_iconst (v := 1) hx hb dX9_layPaid_42 rfl ?_
    obtain ⟨t_5, h_6, hf⟩ := sn_bd hf
    refine sn_callVi (rest := []) C hw (ctX9_claimOf l  h_6) kl_RX9_313 layM_0 rfl rfl rfl rfl (Nat.le_of_ble_eq_true rfl) dX9_layPaid_43 hl.1 (fun H locs hw => ?_)
    refine lv_pop hx hb dX9_layPaid_46 rfl ?_
    obtain ⟨y_7, e_8, hf⟩ := sn_ltE hf
    refine lv_iinc (v := y_7) (lv' := [(1, .int y_7), (0, .ref (ad 0))]) hx hb dX9_layPaid_47 hl (k := 1) rfl (by rw [e_8]; rfl) (by decide) rfl (fun ls hl => ?_)
    refine lv_goto (tgt := 23) hx hb dX9_layPaid_50 (by decide) ?_
    cases hf
    exact kc _ rfl _ _ _ hw (lv_sub hl [1, 0] rfl)
theorem wX9_layPaid_L23 (C : sn_C p s m args meth c RX9 cX9_layPaid 2 none D ct ad layM A)    {z : sn_S × Int32} {t : sn_S} (h : sn_it (LX9_layPaid_23 ) 5000 z = some t) (kx : ∀ v, t = v → sn_At p l e rmX9_layPaid s m args below meth c Q D ct ad layM A 2 v 53 [] []) : sn_At p l e rmX9_layPaid s m args below meth c Q D ct ad layM A 2 z.1 23 [(0, .ref (ad 0)), (1, .int z.2)] [] :=
  sn_loop (f := LX9_layPaid_23 ) (G := fun z => sn_At p l e rmX9_layPaid s m args below meth c Q D ct ad layM A 2 z.1 23 [(0, .ref (ad 0)), (1, .int z.2)] []) (E := fun t => (∀ v, t = v → sn_At p l e rmX9_layPaid s m args below meth c Q D ct ad layM A 2 v 53 [] []) ∧ True) (fun z o hf k1 k2 => wX9_layPaid_23 C  hf (fun v e => k1 v e) (fun v e => (k2 _ e).1 v rfl)) 5000 z t h ⟨kx, trivial⟩
theorem wX9_layPaid_21 (C : sn_C p s m args meth c RX9 cX9_layPaid 2 none D ct ad layM A) {σ : sn_S}  {o : sn_S} (hf : BX9_layPaid_21 σ = some o) (kr : sn_Kr p l e rmX9_layPaid s m args below meth c Q D ct ad layM A cX9_layPaid .return_ (true) o []) : sn_At p l e rmX9_layPaid s m args below meth c Q D ct ad layM A 2 σ 21 [(0, .ref (ad 0))] [] := by
  intro H locs ls hw hl
  have hx := C.1
  have hb := C.2.1
  unfold BX9_layPaid_21 at hf
  refine lv_iconst (v := 0) hx hb dX9_layPaid_21 rfl ?_
  refine lv_istore_n (lv' := [(1, .int (0 : Int32)), (0, .ref (ad 0))]) hx hb dX9_layPaid_22 rfl hl (by decide) rfl (fun ls hl => ?_)
  obtain ⟨t_1, h_2, hf⟩ := sn_bd hf
  exact wX9_layPaid_L23 C  h_2 (fun v e => by cases e; exact wX9_layPaid_53 C  hf kr) _ _ _ hw (lv_sub hl [1, 0] rfl)
theorem wX9_layPaid_2 (C : sn_C p s m args meth c RX9 cX9_layPaid 2 none D ct ad layM A) {σ : sn_S} {x1 : Int32}  {o : (sn_S × Int32) ⊕ (sn_S)} (hf : BX9_layPaid_2 σ x1 = some o) (kc : ∀ v, o = .inl v → sn_At p l e rmX9_layPaid s m args below meth c Q D ct ad layM A 2 v.1 2 [(0, .ref (ad 0)), (1, .int v.2)] []) (kx : ∀ v, o = .inr v → sn_At p l e rmX9_layPaid s m args below meth c Q D ct ad layM A 2 v 21 [(0, .ref (ad 0))] []) : sn_At p l e rmX9_layPaid s m args below meth c Q D ct ad layM A 2 σ 2 [(0, .ref (ad 0)), (1, .int x1)] [] := by
  intro H locs ls hw hl
  have hx := C.1
  have hb := C.2.1
  unfold BX9_layPaid_2 at hf
  refine lv_iload_n hx hb dX9_layPaid_2 rfl (lv_at hl 1 rfl) ?_
  refine lv_bipush (v := 30) hx hb dX9_layPaid_3 (by decide) ?_
  refine lv_icmp_ge (tgt := 21) hx hb dX9_layPaid_5 (by decide) (fun c_1 => ?_) (fun c_1 => ?_)
  · have hf := sn_if c_1 hf
    cases hf
    exact kx _ rfl _ _ _ hw (lv_sub hl [0] rfl)
  · have hf := sn_el c_1 hf
    refine lv_aload_n hx hb dX9_layPaid_8 rfl (lv_at hl 0 rfl) ?_
    refine sn_getC (r := 16) C hw fd_RX9_61 layM_0 rfl dX9_layPaid_9 ?_
    refine lv_iload_n hx hb dX9_layPaid_12 rfl (lv_at hl 1 rfl) ?_
    refine lv_iconst (v := 0) hx hb dX9_layPaid_13 rfl ?_
    obtain ⟨g_2, hf⟩ := sn_gdE hf
    refine sn_iast C hw layM_16 g_2 dX9_layPaid_14 (fun H locs hw => ?_)
    obtain ⟨σ_3, e_4, hf⟩ := sn_ltE hf
    rw [← e_4] at hw
    obtain ⟨y_5, e_6, hf⟩ := sn_ltE hf
    refine lv_iinc (v := y_5) (lv' := [(1, .int y_5), (0, .ref (ad 0))]) hx hb dX9_layPaid_15 hl (k := 1) rfl (by rw [e_6]; rfl) (by decide) rfl (fun ls hl => ?_)
    refine lv_goto (tgt := 2) hx hb dX9_layPaid_18 (by decide) ?_
    cases hf
    exact kc _ rfl _ _ _ hw (lv_sub hl [1, 0] rfl)
theorem wX9_layPaid_L2 (C : sn_C p s m args meth c RX9 cX9_layPaid 2 none D ct ad layM A)    {z : sn_S × Int32} {t : sn_S} (h : sn_it (LX9_layPaid_2 ) 5000 z = some t) (kx : ∀ v, t = v → sn_At p l e rmX9_layPaid s m args below meth c Q D ct ad layM A 2 v 21 [(0, .ref (ad 0))] []) : sn_At p l e rmX9_layPaid s m args below meth c Q D ct ad layM A 2 z.1 2 [(0, .ref (ad 0)), (1, .int z.2)] [] :=
  sn_loop (f := LX9_layPaid_2 ) (G := fun z => sn_At p l e rmX9_layPaid s m args below meth c Q D ct ad layM A 2 z.1 2 [(0, .ref (ad 0)), (1, .int z.2)] []) (E := fun t => (∀ v, t = v → sn_At p l e rmX9_layPaid s m args below meth c Q D ct ad layM A 2 v 21 [(0, .ref (ad 0))] []) ∧ True) (fun z o hf k1 k2 => wX9_layPaid_2 C  hf (fun v e => k1 v e) (fun v e => (k2 _ e).1 v rfl)) 5000 z t h ⟨kx, trivial⟩
theorem wX9_layPaid_in (C : sn_C p s m args meth c RX9 cX9_layPaid 2 none D ct ad layM A) {σ : sn_S}  {o : sn_S} (hf : fX9_layPaid σ = some o) (kr : sn_Kr p l e rmX9_layPaid s m args below meth c Q D ct ad layM A cX9_layPaid .return_ (true) o []) : sn_At p l e rmX9_layPaid s m args below meth c Q D ct ad layM A 2 σ 0 [(0, .ref (ad 0))] [] := by
  intro H locs ls hw hl
  have hx := C.1
  have hb := C.2.1
  unfold fX9_layPaid at hf
  refine lv_iconst (v := 0) hx hb dX9_layPaid_0 rfl ?_
  refine lv_istore_n (lv' := [(1, .int (0 : Int32)), (0, .ref (ad 0))]) hx hb dX9_layPaid_1 rfl hl (by decide) rfl (fun ls hl => ?_)
  obtain ⟨t_1, h_2, hf⟩ := sn_bd hf
  exact wX9_layPaid_L2 C  h_2 (fun v e => by cases e; exact wX9_layPaid_21 C  hf kr) _ _ _ hw (lv_sub hl [1, 0] rfl)
theorem ctX9_layPaid (l : Launch) {σ : sn_S}  {o : sn_S} (hf : fX9_layPaid σ = some o) : sn_M l yX9_layPaid cX9_layPaid 2 none rmX9_layPaid layM (fun ad => [.ref (ad 0)]) σ none o :=
  sn_met (by decide) (fun _ => Nat.le_of_ble_eq_true rfl) (fun p e s m args below meth c ls D ct ad A C hw hl => wX9_layPaid_in C  hf (fun H locs ls pc hw ok hd => sn_vret C hw hd) _ _ _ hw hl)
-- X9_moneyAt
abbrev rmX9_moneyAt : Room := { frames := 1, cells := 0, slots := 0, locals := 22 }
def BX9_moneyAt_55 (σ : sn_S) (x2 : Int32) : Option (Int32) :=
  (some x2)
def BX9_moneyAt_35 (σ : sn_S) (x1 : Int32) (x2 : Int32) (x3 : Int32) : Option ((Int32 × Int32) ⊕ (Int32)) :=
  (if x1 < x3 then
  (some (.inr (x2)))
  else
  (sn_gd (sn_in x3 30) (sn_lt (x2 - (sn_I σ 16 x3.toNatClampNeg)) fun y_3 => (sn_lt (x3 + 1) fun y_5 => (some (.inl (y_3, y_5)))))))
def LX9_moneyAt_35 (σ : sn_S) (x1 : Int32) (s : Int32 × Int32) : Option ((Int32 × Int32) ⊕ (Int32)) := BX9_moneyAt_35 σ x1 s.1 s.2
def BX9_moneyAt_33 (σ : sn_S) (x1 : Int32) (x2 : Int32) : Option (Int32) :=
  ((sn_it (LX9_moneyAt_35 σ x1) 5000 (x2, (0 : Int32))).bind fun t_1 => (BX9_moneyAt_55 σ t_1))
def BX9_moneyAt_7 (σ : sn_S) (x1 : Int32) (x2 : Int32) (x3 : Int32) : Option ((Int32 × Int32) ⊕ (Int32)) :=
  (sn_gd (sn_in (8 : Int32) 119) (if (sn_I σ 1 (8 : Int32).toNatClampNeg) ≤ x3 then
  (some (.inr (x2)))
  else
  ((fX9_of σ x3 (4 : Int32)).bind fun t_3 => (sn_lt (x2 + t_3) fun y_5 => (sn_lt (x3 + 1) fun y_7 => (some (.inl (y_5, y_7))))))))
def LX9_moneyAt_7 (σ : sn_S) (x1 : Int32) (s : Int32 × Int32) : Option ((Int32 × Int32) ⊕ (Int32)) := BX9_moneyAt_7 σ x1 s.1 s.2
def fX9_moneyAt (σ : sn_S) (x1 : Int32) : Option Int32 :=
  (sn_lt (sn_I σ 0 21) fun y_1 => ((sn_it (LX9_moneyAt_7 σ x1) 5000 (y_1, (0 : Int32))).bind fun t_3 => (BX9_moneyAt_33 σ x1 t_3)))
theorem wX9_moneyAt_55 (C : sn_C p s m args meth c RX9 cX9_moneyAt 4 (some .int) D ct ad layM A) {σ : sn_S} {x2 : Int32}  {o : Int32} (hf : BX9_moneyAt_55 σ x2 = some o) (kr : sn_Kr p l e rmX9_moneyAt s m args below meth c Q D ct ad layM A cX9_moneyAt .ireturn (true) σ [.int o]) : sn_At p l e rmX9_moneyAt s m args below meth c Q D ct ad layM A 4 σ 55 [(2, .int x2)] [] := by
  intro H locs ls hw hl
  have hx := C.1
  have hb := C.2.1
  unfold BX9_moneyAt_55 at hf
  refine lv_iload_n hx hb dX9_moneyAt_55 rfl (lv_at hl 0 rfl) ?_
  cases hf
  exact kr _ _ _ _ hw rfl dX9_moneyAt_56
theorem wX9_moneyAt_35 (C : sn_C p s m args meth c RX9 cX9_moneyAt 4 (some .int) D ct ad layM A) {σ : sn_S} {x1 : Int32} {x2 : Int32} {x3 : Int32}  {o : (Int32 × Int32) ⊕ (Int32)} (hf : BX9_moneyAt_35 σ x1 x2 x3 = some o) (kc : ∀ v, o = .inl v → sn_At p l e rmX9_moneyAt s m args below meth c Q D ct ad layM A 4 σ 35 [(0, .ref (ad 0)), (1, .int x1), (2, .int v.1), (3, .int v.2)] []) (kx : ∀ v, o = .inr v → sn_At p l e rmX9_moneyAt s m args below meth c Q D ct ad layM A 4 σ 55 [(2, .int v)] []) : sn_At p l e rmX9_moneyAt s m args below meth c Q D ct ad layM A 4 σ 35 [(0, .ref (ad 0)), (1, .int x1), (2, .int x2), (3, .int x3)] [] := by
  intro H locs ls hw hl
  have hx := C.1
  have hb := C.2.1
  unfold BX9_moneyAt_35 at hf
  refine lv_iload_n hx hb dX9_moneyAt_35 rfl (lv_at hl 3 rfl) ?_
  refine lv_iload_n hx hb dX9_moneyAt_36 rfl (lv_at hl 1 rfl) ?_
  refine lv_icmp_gt (tgt := 55) hx hb dX9_moneyAt_37 (by decide) (fun c_1 => ?_) (fun c_1 => ?_)
  · have hf := sn_if c_1 hf
    cases hf
    exact kx _ rfl _ _ _ hw (lv_sub hl [2] rfl)
  · have hf := sn_el c_1 hf
    refine lv_iload_n hx hb dX9_moneyAt_40 rfl (lv_at hl 2 rfl) ?_
    refine lv_aload_n hx hb dX9_moneyAt_41 rfl (lv_at hl 0 rfl) ?_
    refine sn_getC (r := 16) C hw fd_RX9_61 layM_0 rfl dX9_moneyAt_42 ?_
    refine lv_iload_n hx hb dX9_moneyAt_45 rfl (lv_at hl 3 rfl) ?_
    obtain ⟨g_2, hf⟩ := sn_gdE hf
    refine sn_iald C hw layM_16 g_2 dX9_moneyAt_46 ?_
    refine lv_isub hx hb dX9_moneyAt_47 ?_
    obtain ⟨y_3, e_4, hf⟩ := sn_ltE hf
    refine lv_topi (fun y_3_ e_4_ => ?_)
    obtain rfl : y_3 = y_3_ := e_4.trans e_4_.symm
    refine lv_istore_n (lv' := [(2, .int y_3), (0, .ref (ad 0)), (1, .int x1), (3, .int x3)]) hx hb dX9_moneyAt_48 rfl hl (by decide) rfl (fun ls hl => ?_)
    obtain ⟨y_5, e_6, hf⟩ := sn_ltE hf
    refine lv_iinc (v := y_5) (lv' := [(3, .int y_5), (2, .int y_3), (0, .ref (ad 0)), (1, .int x1)]) hx hb dX9_moneyAt_49 hl (k := 3) rfl (by rw [e_6]; rfl) (by decide) rfl (fun ls hl => ?_)
    refine lv_goto (tgt := 35) hx hb dX9_moneyAt_52 (by decide) ?_
    cases hf
    exact kc _ rfl _ _ _ hw (lv_sub hl [2, 3, 1, 0] rfl)
theorem wX9_moneyAt_L35 (C : sn_C p s m args meth c RX9 cX9_moneyAt 4 (some .int) D ct ad layM A) {σ : sn_S} {x1 : Int32}   {z : Int32 × Int32} {t : Int32} (h : sn_it (LX9_moneyAt_35 σ x1) 5000 z = some t) (kx : ∀ v, t = v → sn_At p l e rmX9_moneyAt s m args below meth c Q D ct ad layM A 4 σ 55 [(2, .int v)] []) : sn_At p l e rmX9_moneyAt s m args below meth c Q D ct ad layM A 4 σ 35 [(0, .ref (ad 0)), (1, .int x1), (2, .int z.1), (3, .int z.2)] [] :=
  sn_loop (f := LX9_moneyAt_35 σ x1) (G := fun z => sn_At p l e rmX9_moneyAt s m args below meth c Q D ct ad layM A 4 σ 35 [(0, .ref (ad 0)), (1, .int x1), (2, .int z.1), (3, .int z.2)] []) (E := fun t => (∀ v, t = v → sn_At p l e rmX9_moneyAt s m args below meth c Q D ct ad layM A 4 σ 55 [(2, .int v)] []) ∧ True) (fun z o hf k1 k2 => wX9_moneyAt_35 C  hf (fun v e => k1 v e) (fun v e => (k2 _ e).1 v rfl)) 5000 z t h ⟨kx, trivial⟩
theorem wX9_moneyAt_33 (C : sn_C p s m args meth c RX9 cX9_moneyAt 4 (some .int) D ct ad layM A) {σ : sn_S} {x1 : Int32} {x2 : Int32}  {o : Int32} (hf : BX9_moneyAt_33 σ x1 x2 = some o) (kr : sn_Kr p l e rmX9_moneyAt s m args below meth c Q D ct ad layM A cX9_moneyAt .ireturn (true) σ [.int o]) : sn_At p l e rmX9_moneyAt s m args below meth c Q D ct ad layM A 4 σ 33 [(0, .ref (ad 0)), (1, .int x1), (2, .int x2)] [] := by
  intro H locs ls hw hl
  have hx := C.1
  have hb := C.2.1
  unfold BX9_moneyAt_33 at hf
  refine lv_iconst (v := 0) hx hb dX9_moneyAt_33 rfl ?_
  refine lv_istore_n (lv' := [(3, .int (0 : Int32)), (0, .ref (ad 0)), (1, .int x1), (2, .int x2)]) hx hb dX9_moneyAt_34 rfl hl (by decide) rfl (fun ls hl => ?_)
  obtain ⟨t_1, h_2, hf⟩ := sn_bd hf
  exact wX9_moneyAt_L35 C  h_2 (fun v e => by cases e; exact wX9_moneyAt_55 C  hf kr) _ _ _ hw (lv_sub hl [1, 2, 3, 0] rfl)
theorem wX9_moneyAt_7 (C : sn_C p s m args meth c RX9 cX9_moneyAt 4 (some .int) D ct ad layM A) {σ : sn_S} {x1 : Int32} {x2 : Int32} {x3 : Int32}  {o : (Int32 × Int32) ⊕ (Int32)} (hf : BX9_moneyAt_7 σ x1 x2 x3 = some o) (kc : ∀ v, o = .inl v → sn_At p l e rmX9_moneyAt s m args below meth c Q D ct ad layM A 4 σ 7 [(0, .ref (ad 0)), (1, .int x1), (2, .int v.1), (3, .int v.2)] []) (kx : ∀ v, o = .inr v → sn_At p l e rmX9_moneyAt s m args below meth c Q D ct ad layM A 4 σ 33 [(0, .ref (ad 0)), (1, .int x1), (2, .int v)] []) : sn_At p l e rmX9_moneyAt s m args below meth c Q D ct ad layM A 4 σ 7 [(0, .ref (ad 0)), (1, .int x1), (2, .int x2), (3, .int x3)] [] := by
  intro H locs ls hw hl
  have hx := C.1
  have hb := C.2.1
  unfold BX9_moneyAt_7 at hf
  refine lv_iload_n hx hb dX9_moneyAt_7 rfl (lv_at hl 3 rfl) ?_
  refine lv_aload_n hx hb dX9_moneyAt_8 rfl (lv_at hl 0 rfl) ?_
  refine sn_getC (r := 1) C hw fd_RX9_9 layM_0 rfl dX9_moneyAt_9 ?_
  refine lv_bipush (v := 8) hx hb dX9_moneyAt_12 (by decide) ?_
  obtain ⟨g_1, hf⟩ := sn_gdE hf
  refine sn_iald C hw layM_1 g_1 dX9_moneyAt_14 ?_
  refine lv_icmp_ge (tgt := 33) hx hb dX9_moneyAt_15 (by decide) (fun c_2 => ?_) (fun c_2 => ?_)
  · have hf := sn_if c_2 hf
    cases hf
    exact kx _ rfl _ _ _ hw (lv_sub hl [0, 1, 2] rfl)
  · have hf := sn_el c_2 hf
    refine lv_iload_n hx hb dX9_moneyAt_18 rfl (lv_at hl 2 rfl) ?_
    refine lv_aload_n hx hb dX9_moneyAt_19 rfl (lv_at hl 0 rfl) ?_
    refine lv_iload_n hx hb dX9_moneyAt_20 rfl (lv_at hl 3 rfl) ?_
    refine lv_iconst (v := 4) hx hb dX9_moneyAt_21 rfl ?_
    obtain ⟨t_3, h_4, hf⟩ := sn_bd hf
    refine sn_callVi (rest := [.int x2]) C hw (ctX9_of l  h_4) kl_RX9_234 layM_0 rfl rfl rfl rfl (Nat.le_of_ble_eq_true rfl) dX9_moneyAt_22 hl.1 (fun H locs hw => ?_)
    refine lv_iadd hx hb dX9_moneyAt_25 ?_
    obtain ⟨y_5, e_6, hf⟩ := sn_ltE hf
    refine lv_topi (fun y_5_ e_6_ => ?_)
    obtain rfl : y_5 = y_5_ := e_6.trans e_6_.symm
    refine lv_istore_n (lv' := [(2, .int y_5), (0, .ref (ad 0)), (1, .int x1), (3, .int x3)]) hx hb dX9_moneyAt_26 rfl hl (by decide) rfl (fun ls hl => ?_)
    obtain ⟨y_7, e_8, hf⟩ := sn_ltE hf
    refine lv_iinc (v := y_7) (lv' := [(3, .int y_7), (2, .int y_5), (0, .ref (ad 0)), (1, .int x1)]) hx hb dX9_moneyAt_27 hl (k := 3) rfl (by rw [e_8]; rfl) (by decide) rfl (fun ls hl => ?_)
    refine lv_goto (tgt := 7) hx hb dX9_moneyAt_30 (by decide) ?_
    cases hf
    exact kc _ rfl _ _ _ hw (lv_sub hl [2, 3, 1, 0] rfl)
theorem wX9_moneyAt_L7 (C : sn_C p s m args meth c RX9 cX9_moneyAt 4 (some .int) D ct ad layM A) {σ : sn_S} {x1 : Int32}   {z : Int32 × Int32} {t : Int32} (h : sn_it (LX9_moneyAt_7 σ x1) 5000 z = some t) (kx : ∀ v, t = v → sn_At p l e rmX9_moneyAt s m args below meth c Q D ct ad layM A 4 σ 33 [(0, .ref (ad 0)), (1, .int x1), (2, .int v)] []) : sn_At p l e rmX9_moneyAt s m args below meth c Q D ct ad layM A 4 σ 7 [(0, .ref (ad 0)), (1, .int x1), (2, .int z.1), (3, .int z.2)] [] :=
  sn_loop (f := LX9_moneyAt_7 σ x1) (G := fun z => sn_At p l e rmX9_moneyAt s m args below meth c Q D ct ad layM A 4 σ 7 [(0, .ref (ad 0)), (1, .int x1), (2, .int z.1), (3, .int z.2)] []) (E := fun t => (∀ v, t = v → sn_At p l e rmX9_moneyAt s m args below meth c Q D ct ad layM A 4 σ 33 [(0, .ref (ad 0)), (1, .int x1), (2, .int v)] []) ∧ True) (fun z o hf k1 k2 => wX9_moneyAt_7 C  hf (fun v e => k1 v e) (fun v e => (k2 _ e).1 v rfl)) 5000 z t h ⟨kx, trivial⟩
theorem wX9_moneyAt_in (C : sn_C p s m args meth c RX9 cX9_moneyAt 4 (some .int) D ct ad layM A) {σ : sn_S} {x1 : Int32}  {o : Int32} (hf : fX9_moneyAt σ x1 = some o) (kr : sn_Kr p l e rmX9_moneyAt s m args below meth c Q D ct ad layM A cX9_moneyAt .ireturn (true) σ [.int o]) : sn_At p l e rmX9_moneyAt s m args below meth c Q D ct ad layM A 4 σ 0 [(0, .ref (ad 0)), (1, .int x1)] [] := by
  intro H locs ls hw hl
  have hx := C.1
  have hb := C.2.1
  unfold fX9_moneyAt at hf
  refine lv_aload_n hx hb dX9_moneyAt_0 rfl (lv_at hl 0 rfl) ?_
  refine sn_getI C hw fd_RX9_246 layM_0 rfl dX9_moneyAt_1 ?_
  obtain ⟨y_1, e_2, hf⟩ := sn_ltE hf
  refine lv_topi (fun y_1_ e_2_ => ?_)
  obtain rfl : y_1 = y_1_ := e_2.trans e_2_.symm
  refine lv_istore_n (lv' := [(2, .int y_1), (0, .ref (ad 0)), (1, .int x1)]) hx hb dX9_moneyAt_4 rfl hl (by decide) rfl (fun ls hl => ?_)
  refine lv_iconst (v := 0) hx hb dX9_moneyAt_5 rfl ?_
  refine lv_istore_n (lv' := [(3, .int (0 : Int32)), (2, .int y_1), (0, .ref (ad 0)), (1, .int x1)]) hx hb dX9_moneyAt_6 rfl hl (by decide) rfl (fun ls hl => ?_)
  obtain ⟨t_3, h_4, hf⟩ := sn_bd hf
  exact wX9_moneyAt_L7 C  h_4 (fun v e => by cases e; exact wX9_moneyAt_33 C  hf kr) _ _ _ hw (lv_sub hl [2, 3, 1, 0] rfl)
theorem ctX9_moneyAt (l : Launch) {σ : sn_S} {x1 : Int32}  {o : Int32} (hf : fX9_moneyAt σ x1 = some o) : sn_M l yX9_moneyAt cX9_moneyAt 4 (some .int) rmX9_moneyAt layM (fun ad => [.ref (ad 0), .int x1]) σ (some (fun _ => .int o)) σ :=
  sn_met (by decide) (fun _ => Nat.le_of_ble_eq_true rfl) (fun p e s m args below meth c ls D ct ad A C hw hl => wX9_moneyAt_in C  hf (fun H locs ls pc hw ok hd => sn_iret C hw hd) _ _ _ hw hl)
-- X9_ruinOf
abbrev rmX9_ruinOf : Room := { frames := 4, cells := 0, slots := 0, locals := 96 }
def BX9_ruinOf_30 (σ : sn_S) : Option ((Int32 × sn_S)) :=
  (some ((-1 : Int32), σ))
def BX9_ruinOf_6 (σ : sn_S) (x1 : Int32) : Option ((Int32) ⊕ ((Unit) ⊕ (Int32 × sn_S))) :=
  (if (sn_I σ 0 22) < x1 then
  (some (.inr (.inl ())))
  else
  ((fX9_moneyAt σ x1).bind fun t_2 => (if 0 ≤ t_2 then
  (sn_lt (x1 + 1) fun y_5 => (some (.inl (y_5))))
  else
  (some (.inr (.inr (x1, σ)))))))
def LX9_ruinOf_6 (σ : sn_S) (s : Int32) : Option ((Int32) ⊕ ((Unit) ⊕ (Int32 × sn_S))) := BX9_ruinOf_6 σ s
def fX9_ruinOf (σ : sn_S) : Option (Int32 × sn_S) :=
  ((fX9_layPaid σ).bind fun t_1 => ((sn_it (LX9_ruinOf_6 t_1) 5000 ((0 : Int32))).bind fun t_3 => Sum.elim (fun v_5 => (BX9_ruinOf_30 t_1)) (fun r_6 => (some r_6)) t_3))
theorem wX9_ruinOf_30 (C : sn_C p s m args meth c RX9 cX9_ruinOf 2 (some .int) D ct ad layM A) {σ : sn_S}  {o : (Int32 × sn_S)} (hf : BX9_ruinOf_30 σ = some o) (kr : sn_Kr p l e rmX9_ruinOf s m args below meth c Q D ct ad layM A cX9_ruinOf .ireturn (true) o.2 [.int o.1]) : sn_At p l e rmX9_ruinOf s m args below meth c Q D ct ad layM A 2 σ 30 [] [] := by
  intro H locs ls hw hl
  have hx := C.1
  have hb := C.2.1
  unfold BX9_ruinOf_30 at hf
  refine lv_iconst (v := (-1)) hx hb dX9_ruinOf_30 rfl ?_
  cases hf
  exact kr _ _ _ _ hw rfl dX9_ruinOf_31
theorem wX9_ruinOf_6 (C : sn_C p s m args meth c RX9 cX9_ruinOf 2 (some .int) D ct ad layM A) {σ : sn_S} {x1 : Int32}  {o : (Int32) ⊕ ((Unit) ⊕ (Int32 × sn_S))} (hf : BX9_ruinOf_6 σ x1 = some o) (kc : ∀ v, o = .inl v → sn_At p l e rmX9_ruinOf s m args below meth c Q D ct ad layM A 2 σ 6 [(0, .ref (ad 0)), (1, .int v)] []) (kx : ∀ v, o = .inr (.inl v) → sn_At p l e rmX9_ruinOf s m args below meth c Q D ct ad layM A 2 σ 30 [] []) (kr : ∀ r, o = .inr (.inr r) → sn_Kr p l e rmX9_ruinOf s m args below meth c Q D ct ad layM A cX9_ruinOf .ireturn (true) r.2 [.int r.1]) : sn_At p l e rmX9_ruinOf s m args below meth c Q D ct ad layM A 2 σ 6 [(0, .ref (ad 0)), (1, .int x1)] [] := by
  intro H locs ls hw hl
  have hx := C.1
  have hb := C.2.1
  unfold BX9_ruinOf_6 at hf
  refine lv_iload_n hx hb dX9_ruinOf_6 rfl (lv_at hl 1 rfl) ?_
  refine lv_aload_n hx hb dX9_ruinOf_7 rfl (lv_at hl 0 rfl) ?_
  refine sn_getI C hw fd_RX9_251 layM_0 rfl dX9_ruinOf_8 ?_
  refine lv_icmp_gt (tgt := 30) hx hb dX9_ruinOf_11 (by decide) (fun c_1 => ?_) (fun c_1 => ?_)
  · have hf := sn_if c_1 hf
    cases hf
    exact kx _ rfl _ _ _ hw (lv_sub hl [] rfl)
  · have hf := sn_el c_1 hf
    refine lv_aload_n hx hb dX9_ruinOf_14 rfl (lv_at hl 0 rfl) ?_
    refine lv_iload_n hx hb dX9_ruinOf_15 rfl (lv_at hl 1 rfl) ?_
    obtain ⟨t_2, h_3, hf⟩ := sn_bd hf
    refine sn_callVi (rest := []) C hw (ctX9_moneyAt l  h_3) kl_RX9_320 layM_0 rfl rfl rfl rfl (Nat.le_of_ble_eq_true rfl) dX9_ruinOf_16 hl.1 (fun H locs hw => ?_)
    refine lv_if_ge (tgt := 24) hx hb dX9_ruinOf_19 (by decide) (fun c_4 => ?_) (fun c_4 => ?_)
    · have hf := sn_if c_4 hf
      obtain ⟨y_5, e_6, hf⟩ := sn_ltE hf
      refine lv_iinc (v := y_5) (lv' := [(1, .int y_5), (0, .ref (ad 0))]) hx hb dX9_ruinOf_24 hl (k := 1) rfl (by rw [e_6]; rfl) (by decide) rfl (fun ls hl => ?_)
      refine lv_goto (tgt := 6) hx hb dX9_ruinOf_27 (by decide) ?_
      cases hf
      exact kc _ rfl _ _ _ hw (lv_sub hl [1, 0] rfl)
    · have hf := sn_el c_4 hf
      refine lv_iload_n hx hb dX9_ruinOf_22 rfl (lv_at hl 1 rfl) ?_
      cases hf
      exact kr _ rfl _ _ _ _ hw rfl dX9_ruinOf_23
theorem wX9_ruinOf_L6 (C : sn_C p s m args meth c RX9 cX9_ruinOf 2 (some .int) D ct ad layM A) {σ : sn_S}   {z : Int32} {t : (Unit) ⊕ (Int32 × sn_S)} (h : sn_it (LX9_ruinOf_6 σ) 5000 z = some t) (kx : ∀ v, t = .inl v → sn_At p l e rmX9_ruinOf s m args below meth c Q D ct ad layM A 2 σ 30 [] []) (kr : ∀ r, t = .inr r → sn_Kr p l e rmX9_ruinOf s m args below meth c Q D ct ad layM A cX9_ruinOf .ireturn (true) r.2 [.int r.1]) : sn_At p l e rmX9_ruinOf s m args below meth c Q D ct ad layM A 2 σ 6 [(0, .ref (ad 0)), (1, .int z)] [] :=
  sn_loop (f := LX9_ruinOf_6 σ) (G := fun z => sn_At p l e rmX9_ruinOf s m args below meth c Q D ct ad layM A 2 σ 6 [(0, .ref (ad 0)), (1, .int z)] []) (E := fun t => (∀ v, t = .inl v → sn_At p l e rmX9_ruinOf s m args below meth c Q D ct ad layM A 2 σ 30 [] []) ∧ (∀ r, t = .inr r → sn_Kr p l e rmX9_ruinOf s m args below meth c Q D ct ad layM A cX9_ruinOf .ireturn (true) r.2 [.int r.1])) (fun z o hf k1 k2 => wX9_ruinOf_6 C  hf (fun v e => k1 v e) (fun v e => (k2 _ e).1 v rfl) (fun r e => (k2 _ e).2 r rfl)) 5000 z t h ⟨kx, kr⟩
theorem wX9_ruinOf_in (C : sn_C p s m args meth c RX9 cX9_ruinOf 2 (some .int) D ct ad layM A) {σ : sn_S}  {o : (Int32 × sn_S)} (hf : fX9_ruinOf σ = some o) (kr : sn_Kr p l e rmX9_ruinOf s m args below meth c Q D ct ad layM A cX9_ruinOf .ireturn (true) o.2 [.int o.1]) : sn_At p l e rmX9_ruinOf s m args below meth c Q D ct ad layM A 2 σ 0 [(0, .ref (ad 0))] [] := by
  intro H locs ls hw hl
  have hx := C.1
  have hb := C.2.1
  unfold fX9_ruinOf at hf
  refine lv_aload_n hx hb dX9_ruinOf_0 rfl (lv_at hl 0 rfl) ?_
  obtain ⟨t_1, h_2, hf⟩ := sn_bd hf
  refine sn_callVv (rest := []) C hw (ctX9_layPaid l  h_2) kl_RX9_317 layM_0 rfl rfl rfl rfl (Nat.le_of_ble_eq_true rfl) dX9_ruinOf_1 hl.1 (fun H locs hw => ?_)
  refine lv_iconst (v := 0) hx hb dX9_ruinOf_4 rfl ?_
  refine lv_istore_n (lv' := [(1, .int (0 : Int32)), (0, .ref (ad 0))]) hx hb dX9_ruinOf_5 rfl hl (by decide) rfl (fun ls hl => ?_)
  obtain ⟨t_3, h_4, hf⟩ := sn_bd hf
  rcases t_3 with v_5 | r_6
  · rw [Sum.elim_inl] at hf
    exact wX9_ruinOf_L6 C  h_4 (fun v e => by cases e; exact wX9_ruinOf_30 C  hf kr) (fun r e => by cases e) _ _ _ hw (lv_sub hl [1, 0] rfl)
  · rw [Sum.elim_inr] at hf
    cases hf
    exact wX9_ruinOf_L6 C  h_4 (fun v e => by cases e) (fun r e => by cases e; exact kr) _ _ _ hw (lv_sub hl [1, 0] rfl)
theorem ctX9_ruinOf (l : Launch) {σ : sn_S}  {o : (Int32 × sn_S)} (hf : fX9_ruinOf σ = some o) : sn_M l yX9_ruinOf cX9_ruinOf 2 (some .int) rmX9_ruinOf layM (fun ad => [.ref (ad 0)]) σ (some (fun _ => .int o.1)) o.2 :=
  sn_met (by decide) (fun _ => Nat.le_of_ble_eq_true rfl) (fun p e s m args below meth c ls D ct ad A C hw hl => wX9_ruinOf_in C  hf (fun H locs ls pc hw ok hd => sn_iret C hw hd) _ _ _ hw hl)
-- X9_asksPolicy
abbrev rmX9_asksPolicy : Room := { frames := 5, cells := 0, slots := 0, locals := 115 }
def fX9_asksPolicy (σ : sn_S) (x1 : Int32) : Option (Int32 × sn_S) :=
  ((fX9_asksHouse σ).bind fun t_1 => ((fX9_isPolicy t_1.2 x1).bind fun t_3 => (sn_gd (sn_b01 t_3) (some (t_3, t_1.2)))))
theorem wX9_asksPolicy_in (C : sn_C p s m args meth c RX9 cX9_asksPolicy 2 (some .boolean) D ct ad layM A) {σ : sn_S} {x1 : Int32}  {o : (Int32 × sn_S)} (hf : fX9_asksPolicy σ x1 = some o) (kr : sn_Kr p l e rmX9_asksPolicy s m args below meth c Q D ct ad layM A cX9_asksPolicy .ireturn (sn_b01 o.1) o.2 [.int o.1]) : sn_At p l e rmX9_asksPolicy s m args below meth c Q D ct ad layM A 2 σ 0 [(0, .ref (ad 0)), (1, .int x1)] [] := by
  intro H locs ls hw hl
  have hx := C.1
  have hb := C.2.1
  unfold fX9_asksPolicy at hf
  refine lv_aload_n hx hb dX9_asksPolicy_0 rfl (lv_at hl 0 rfl) ?_
  obtain ⟨t_1, h_2, hf⟩ := sn_bd hf
  refine sn_callVi (rest := []) C hw (ctX9_asksHouse l  h_2) kl_RX9_272 layM_0 rfl rfl rfl rfl (Nat.le_of_ble_eq_true rfl) dX9_asksPolicy_1 hl.1 (fun H locs hw => ?_)
  refine lv_pop hx hb dX9_asksPolicy_4 rfl ?_
  refine lv_aload_n hx hb dX9_asksPolicy_5 rfl (lv_at hl 0 rfl) ?_
  refine lv_iload_n hx hb dX9_asksPolicy_6 rfl (lv_at hl 1 rfl) ?_
  obtain ⟨t_3, h_4, hf⟩ := sn_bd hf
  refine sn_callVi (rest := []) C hw (ctX9_isPolicy l  h_4) kl_RX9_228 layM_0 rfl rfl rfl rfl (Nat.le_of_ble_eq_true rfl) dX9_asksPolicy_7 hl.1 (fun H locs hw => ?_)
  obtain ⟨g_5, hf⟩ := sn_gdE hf
  cases hf
  exact kr _ _ _ _ hw g_5 dX9_asksPolicy_10
theorem ctX9_asksPolicy (l : Launch) {σ : sn_S} {x1 : Int32}  {o : (Int32 × sn_S)} (hf : fX9_asksPolicy σ x1 = some o) : sn_M l yX9_asksPolicy cX9_asksPolicy 2 (some .boolean) rmX9_asksPolicy layM (fun ad => [.ref (ad 0), .int x1]) σ (some (fun _ => .int o.1)) o.2 :=
  sn_met (by decide) (fun _ => Nat.le_of_ble_eq_true rfl) (fun p e s m args below meth c ls D ct ad A C hw hl => wX9_asksPolicy_in C  hf (fun H locs ls pc hw ok hd => sn_zret C hw ok hd) _ _ _ hw hl)
-- X9_claim
abbrev rmX9_claim : Room := { frames := 6, cells := 0, slots := 0, locals := 136 }
def fX9_claim (σ : sn_S) (x1 : Int32) : Option (Int32 × sn_S) :=
  ((fX9_asksPolicy σ x1).bind fun t_1 => (if t_1.1 = 0 then
  (some ((-2 : Int32), t_1.2))
  else
  ((fX9_claimOf_ t_1.2 x1).bind fun t_4 => (some (t_4.1, t_4.2)))))
theorem wX9_claim_in (C : sn_C p s m args meth c RX9 cX9_claim 2 (some .int) D ct ad layM A) {σ : sn_S} {x1 : Int32}  {o : (Int32 × sn_S)} (hf : fX9_claim σ x1 = some o) (kr : sn_Kr p l e rmX9_claim s m args below meth c Q D ct ad layM A cX9_claim .ireturn (true) o.2 [.int o.1]) : sn_At p l e rmX9_claim s m args below meth c Q D ct ad layM A 2 σ 0 [(0, .ref (ad 0)), (1, .int x1)] [] := by
  intro H locs ls hw hl
  have hx := C.1
  have hb := C.2.1
  unfold fX9_claim at hf
  refine lv_aload_n hx hb dX9_claim_0 rfl (lv_at hl 0 rfl) ?_
  refine lv_iload_n hx hb dX9_claim_1 rfl (lv_at hl 1 rfl) ?_
  obtain ⟨t_1, h_2, hf⟩ := sn_bd hf
  refine sn_callVi (rest := []) C hw (ctX9_asksPolicy l  h_2) kl_RX9_323 layM_0 rfl rfl rfl rfl (Nat.le_of_ble_eq_true rfl) dX9_claim_2 hl.1 (fun H locs hw => ?_)
  refine lv_if_eq (tgt := 16) hx hb dX9_claim_5 (by decide) (fun c_3 => ?_) (fun c_3 => ?_)
  · have hf := sn_if c_3 hf
    refine lv_bipush (v := (-2)) hx hb dX9_claim_16 (by decide) ?_
    cases hf
    exact kr _ _ _ _ hw rfl dX9_claim_18
  · have hf := sn_el c_3 hf
    refine lv_aload_n hx hb dX9_claim_8 rfl (lv_at hl 0 rfl) ?_
    refine lv_iload_n hx hb dX9_claim_9 rfl (lv_at hl 1 rfl) ?_
    obtain ⟨t_4, h_5, hf⟩ := sn_bd hf
    refine sn_callVi (rest := []) C hw (ctX9_claimOf_ l  h_5) kl_RX9_326 layM_0 rfl rfl rfl rfl (Nat.le_of_ble_eq_true rfl) dX9_claim_10 hl.1 (fun H locs hw => ?_)
    refine lv_goto (tgt := 18) hx hb dX9_claim_13 (by decide) ?_
    cases hf
    exact kr _ _ _ _ hw rfl dX9_claim_18
theorem ctX9_claim (l : Launch) {σ : sn_S} {x1 : Int32}  {o : (Int32 × sn_S)} (hf : fX9_claim σ x1 = some o) : sn_M l yX9_claim cX9_claim 2 (some .int) rmX9_claim layM (fun ad => [.ref (ad 0), .int x1]) σ (some (fun _ => .int o.1)) o.2 :=
  sn_met (by decide) (fun _ => Nat.le_of_ble_eq_true rfl) (fun p e s m args below meth c ls D ct ad A C hw hl => wX9_claim_in C  hf (fun H locs ls pc hw ok hd => sn_iret C hw hd) _ _ _ hw hl)
-- X9_paid
abbrev rmX9_paid : Room := { frames := 6, cells := 0, slots := 0, locals := 136 }
def fX9_paid (σ : sn_S) (x1 : Int32) : Option (Int32 × sn_S) :=
  ((fX9_asksPolicy σ x1).bind fun t_1 => (if t_1.1 = 0 then
  (some ((-2 : Int32), t_1.2))
  else
  ((fX9_claimOf_ t_1.2 x1).bind fun t_4 => (some ((sn_I t_4.2 0 30), t_4.2)))))
theorem wX9_paid_in (C : sn_C p s m args meth c RX9 cX9_paid 2 (some .int) D ct ad layM A) {σ : sn_S} {x1 : Int32}  {o : (Int32 × sn_S)} (hf : fX9_paid σ x1 = some o) (kr : sn_Kr p l e rmX9_paid s m args below meth c Q D ct ad layM A cX9_paid .ireturn (true) o.2 [.int o.1]) : sn_At p l e rmX9_paid s m args below meth c Q D ct ad layM A 2 σ 0 [(0, .ref (ad 0)), (1, .int x1)] [] := by
  intro H locs ls hw hl
  have hx := C.1
  have hb := C.2.1
  unfold fX9_paid at hf
  refine lv_aload_n hx hb dX9_paid_0 rfl (lv_at hl 0 rfl) ?_
  refine lv_iload_n hx hb dX9_paid_1 rfl (lv_at hl 1 rfl) ?_
  obtain ⟨t_1, h_2, hf⟩ := sn_bd hf
  refine sn_callVi (rest := []) C hw (ctX9_asksPolicy l  h_2) kl_RX9_323 layM_0 rfl rfl rfl rfl (Nat.le_of_ble_eq_true rfl) dX9_paid_2 hl.1 (fun H locs hw => ?_)
  refine lv_if_ne (tgt := 11) hx hb dX9_paid_5 (by decide) (fun c_3 => ?_) (fun c_3 => ?_)
  · have hf := sn_el c_3 hf
    refine lv_aload_n hx hb dX9_paid_11 rfl (lv_at hl 0 rfl) ?_
    refine lv_iload_n hx hb dX9_paid_12 rfl (lv_at hl 1 rfl) ?_
    obtain ⟨t_4, h_5, hf⟩ := sn_bd hf
    refine sn_callVi (rest := []) C hw (ctX9_claimOf_ l  h_5) kl_RX9_326 layM_0 rfl rfl rfl rfl (Nat.le_of_ble_eq_true rfl) dX9_paid_13 hl.1 (fun H locs hw => ?_)
    refine lv_pop hx hb dX9_paid_16 rfl ?_
    refine lv_aload_n hx hb dX9_paid_17 rfl (lv_at hl 0 rfl) ?_
    refine sn_getI C hw fd_RX9_307 layM_0 rfl dX9_paid_18 ?_
    cases hf
    exact kr _ _ _ _ hw rfl dX9_paid_21
  · have hf := sn_if c_3 hf
    refine lv_bipush (v := (-2)) hx hb dX9_paid_8 (by decide) ?_
    cases hf
    exact kr _ _ _ _ hw rfl dX9_paid_10
theorem ctX9_paid (l : Launch) {σ : sn_S} {x1 : Int32}  {o : (Int32 × sn_S)} (hf : fX9_paid σ x1 = some o) : sn_M l yX9_paid cX9_paid 2 (some .int) rmX9_paid layM (fun ad => [.ref (ad 0), .int x1]) σ (some (fun _ => .int o.1)) o.2 :=
  sn_met (by decide) (fun _ => Nat.le_of_ble_eq_true rfl) (fun p e s m args below meth c ls D ct ad A C hw hl => wX9_paid_in C  hf (fun H locs ls pc hw ok hd => sn_iret C hw hd) _ _ _ hw hl)
-- X9_claims
abbrev rmX9_claims : Room := { frames := 5, cells := 0, slots := 0, locals := 115 }
def BX9_claims_49 (σ : sn_S) (x1 : Int32) : Option ((Int32 × sn_S)) :=
  (some (x1, σ))
def BX9_claims_41 (σ : sn_S) (x1 : Int32) (x2 : Int32) (t0 : Int32) (t1 : Int32) : Option ((sn_S × Int32 × Int32) ⊕ (sn_S × Int32)) :=
  (sn_lt (t0 ||| t1) fun y_1 => (sn_lt (x2 + 1) fun y_3 => (some (.inl (σ, y_1, y_3)))))
def BX9_claims_14 (σ : sn_S) (x1 : Int32) (x2 : Int32) : Option ((sn_S × Int32 × Int32) ⊕ (sn_S × Int32)) :=
  (sn_gd (sn_in (8 : Int32) 119) (if (sn_I σ 1 (8 : Int32).toNatClampNeg) ≤ x2 then
  (some (.inr (σ, x1)))
  else
  ((fX9_claimOf_ σ x2).bind fun t_3 => (if t_3.1 ≤ 0 then
  (BX9_claims_41 t_3.2 x1 x2 x1 (0 : Int32))
  else
  (BX9_claims_41 t_3.2 x1 x2 x1 ((1 : Int32) <<< (x2 &&& 31)))))))
def LX9_claims_14  (s : sn_S × Int32 × Int32) : Option ((sn_S × Int32 × Int32) ⊕ (sn_S × Int32)) := BX9_claims_14 s.1 s.2.1 s.2.2
def fX9_claims (σ : sn_S) : Option (Int32 × sn_S) :=
  ((fX9_asksHouse σ).bind fun t_1 => (if t_1.1 = 0 then
  (some ((-2 : Int32), t_1.2))
  else
  ((sn_it (LX9_claims_14 ) 5000 (t_1.2, (0 : Int32), (0 : Int32))).bind fun t_4 => (BX9_claims_49 t_4.1 t_4.2))))
theorem wX9_claims_49 (C : sn_C p s m args meth c RX9 cX9_claims 3 (some .int) D ct ad layM A) {σ : sn_S} {x1 : Int32}  {o : (Int32 × sn_S)} (hf : BX9_claims_49 σ x1 = some o) (kr : sn_Kr p l e rmX9_claims s m args below meth c Q D ct ad layM A cX9_claims .ireturn (true) o.2 [.int o.1]) : sn_At p l e rmX9_claims s m args below meth c Q D ct ad layM A 3 σ 49 [(1, .int x1)] [] := by
  intro H locs ls hw hl
  have hx := C.1
  have hb := C.2.1
  unfold BX9_claims_49 at hf
  refine lv_iload_n hx hb dX9_claims_49 rfl (lv_at hl 0 rfl) ?_
  cases hf
  exact kr _ _ _ _ hw rfl dX9_claims_50
theorem wX9_claims_41 (C : sn_C p s m args meth c RX9 cX9_claims 3 (some .int) D ct ad layM A) {σ : sn_S} {x1 : Int32} {x2 : Int32} {t0 : Int32} {t1 : Int32}  {o : (sn_S × Int32 × Int32) ⊕ (sn_S × Int32)} (hf : BX9_claims_41 σ x1 x2 t0 t1 = some o) (kc : ∀ v, o = .inl v → sn_At p l e rmX9_claims s m args below meth c Q D ct ad layM A 3 v.1 14 [(0, .ref (ad 0)), (1, .int v.2.1), (2, .int v.2.2)] []) (kx : ∀ v, o = .inr v → sn_At p l e rmX9_claims s m args below meth c Q D ct ad layM A 3 v.1 49 [(1, .int v.2)] []) : sn_At p l e rmX9_claims s m args below meth c Q D ct ad layM A 3 σ 41 [(0, .ref (ad 0)), (1, .int x1), (2, .int x2)] [.int t1, .int t0] := by
  intro H locs ls hw hl
  have hx := C.1
  have hb := C.2.1
  unfold BX9_claims_41 at hf
  refine lv_ior hx hb dX9_claims_41 ?_
  obtain ⟨y_1, e_2, hf⟩ := sn_ltE hf
  refine lv_topi (fun y_1_ e_2_ => ?_)
  obtain rfl : y_1 = y_1_ := e_2.trans e_2_.symm
  refine lv_istore_n (lv' := [(1, .int y_1), (0, .ref (ad 0)), (2, .int x2)]) hx hb dX9_claims_42 rfl hl (by decide) rfl (fun ls hl => ?_)
  obtain ⟨y_3, e_4, hf⟩ := sn_ltE hf
  refine lv_iinc (v := y_3) (lv' := [(2, .int y_3), (1, .int y_1), (0, .ref (ad 0))]) hx hb dX9_claims_43 hl (k := 2) rfl (by rw [e_4]; rfl) (by decide) rfl (fun ls hl => ?_)
  refine lv_goto (tgt := 14) hx hb dX9_claims_46 (by decide) ?_
  cases hf
  exact kc _ rfl _ _ _ hw (lv_sub hl [2, 1, 0] rfl)
theorem wX9_claims_14 (C : sn_C p s m args meth c RX9 cX9_claims 3 (some .int) D ct ad layM A) {σ : sn_S} {x1 : Int32} {x2 : Int32}  {o : (sn_S × Int32 × Int32) ⊕ (sn_S × Int32)} (hf : BX9_claims_14 σ x1 x2 = some o) (kc : ∀ v, o = .inl v → sn_At p l e rmX9_claims s m args below meth c Q D ct ad layM A 3 v.1 14 [(0, .ref (ad 0)), (1, .int v.2.1), (2, .int v.2.2)] []) (kx : ∀ v, o = .inr v → sn_At p l e rmX9_claims s m args below meth c Q D ct ad layM A 3 v.1 49 [(1, .int v.2)] []) : sn_At p l e rmX9_claims s m args below meth c Q D ct ad layM A 3 σ 14 [(0, .ref (ad 0)), (1, .int x1), (2, .int x2)] [] := by
  intro H locs ls hw hl
  have hx := C.1
  have hb := C.2.1
  unfold BX9_claims_14 at hf
  refine lv_iload_n hx hb dX9_claims_14 rfl (lv_at hl 2 rfl) ?_
  refine lv_aload_n hx hb dX9_claims_15 rfl (lv_at hl 0 rfl) ?_
  refine sn_getC (r := 1) C hw fd_RX9_9 layM_0 rfl dX9_claims_16 ?_
  refine lv_bipush (v := 8) hx hb dX9_claims_19 (by decide) ?_
  obtain ⟨g_1, hf⟩ := sn_gdE hf
  refine sn_iald C hw layM_1 g_1 dX9_claims_21 ?_
  refine lv_icmp_ge (tgt := 49) hx hb dX9_claims_22 (by decide) (fun c_2 => ?_) (fun c_2 => ?_)
  · have hf := sn_if c_2 hf
    cases hf
    exact kx _ rfl _ _ _ hw (lv_sub hl [1] rfl)
  · have hf := sn_el c_2 hf
    refine lv_iload_n hx hb dX9_claims_25 rfl (lv_at hl 1 rfl) ?_
    refine lv_aload_n hx hb dX9_claims_26 rfl (lv_at hl 0 rfl) ?_
    refine lv_iload_n hx hb dX9_claims_27 rfl (lv_at hl 2 rfl) ?_
    obtain ⟨t_3, h_4, hf⟩ := sn_bd hf
    refine sn_callVi (rest := [.int x1]) C hw (ctX9_claimOf_ l  h_4) kl_RX9_326 layM_0 rfl rfl rfl rfl (Nat.le_of_ble_eq_true rfl) dX9_claims_28 hl.1 (fun H locs hw => ?_)
    refine lv_if_le (tgt := 40) hx hb dX9_claims_31 (by decide) (fun c_5 => ?_) (fun c_5 => ?_)
    · have hf := sn_if c_5 hf
      refine lv_iconst (v := 0) hx hb dX9_claims_40 rfl ?_
      exact wX9_claims_41 C  hf kc kx _ _ _ hw (lv_sub hl [0, 1, 2] rfl)
    · have hf := sn_el c_5 hf
      refine lv_iconst (v := 1) hx hb dX9_claims_34 rfl ?_
      refine lv_iload_n hx hb dX9_claims_35 rfl (lv_at hl 2 rfl) ?_
      refine lv_ishl hx hb dX9_claims_36 ?_
      refine lv_goto (tgt := 41) hx hb dX9_claims_37 (by decide) ?_
      exact wX9_claims_41 C  hf kc kx _ _ _ hw (lv_sub hl [0, 1, 2] rfl)
theorem wX9_claims_L14 (C : sn_C p s m args meth c RX9 cX9_claims 3 (some .int) D ct ad layM A)    {z : sn_S × Int32 × Int32} {t : sn_S × Int32} (h : sn_it (LX9_claims_14 ) 5000 z = some t) (kx : ∀ v, t = v → sn_At p l e rmX9_claims s m args below meth c Q D ct ad layM A 3 v.1 49 [(1, .int v.2)] []) : sn_At p l e rmX9_claims s m args below meth c Q D ct ad layM A 3 z.1 14 [(0, .ref (ad 0)), (1, .int z.2.1), (2, .int z.2.2)] [] :=
  sn_loop (f := LX9_claims_14 ) (G := fun z => sn_At p l e rmX9_claims s m args below meth c Q D ct ad layM A 3 z.1 14 [(0, .ref (ad 0)), (1, .int z.2.1), (2, .int z.2.2)] []) (E := fun t => (∀ v, t = v → sn_At p l e rmX9_claims s m args below meth c Q D ct ad layM A 3 v.1 49 [(1, .int v.2)] []) ∧ True) (fun z o hf k1 k2 => wX9_claims_14 C  hf (fun v e => k1 v e) (fun v e => (k2 _ e).1 v rfl)) 5000 z t h ⟨kx, trivial⟩
theorem wX9_claims_in (C : sn_C p s m args meth c RX9 cX9_claims 3 (some .int) D ct ad layM A) {σ : sn_S}  {o : (Int32 × sn_S)} (hf : fX9_claims σ = some o) (kr : sn_Kr p l e rmX9_claims s m args below meth c Q D ct ad layM A cX9_claims .ireturn (true) o.2 [.int o.1]) : sn_At p l e rmX9_claims s m args below meth c Q D ct ad layM A 3 σ 0 [(0, .ref (ad 0))] [] := by
  intro H locs ls hw hl
  have hx := C.1
  have hb := C.2.1
  unfold fX9_claims at hf
  refine lv_aload_n hx hb dX9_claims_0 rfl (lv_at hl 0 rfl) ?_
  obtain ⟨t_1, h_2, hf⟩ := sn_bd hf
  refine sn_callVi (rest := []) C hw (ctX9_asksHouse l  h_2) kl_RX9_272 layM_0 rfl rfl rfl rfl (Nat.le_of_ble_eq_true rfl) dX9_claims_1 hl.1 (fun H locs hw => ?_)
  refine lv_if_ne (tgt := 10) hx hb dX9_claims_4 (by decide) (fun c_3 => ?_) (fun c_3 => ?_)
  · have hf := sn_el c_3 hf
    refine lv_iconst (v := 0) hx hb dX9_claims_10 rfl ?_
    refine lv_istore_n (lv' := [(1, .int (0 : Int32)), (0, .ref (ad 0))]) hx hb dX9_claims_11 rfl hl (by decide) rfl (fun ls hl => ?_)
    refine lv_iconst (v := 0) hx hb dX9_claims_12 rfl ?_
    refine lv_istore_n (lv' := [(2, .int (0 : Int32)), (1, .int (0 : Int32)), (0, .ref (ad 0))]) hx hb dX9_claims_13 rfl hl (by decide) rfl (fun ls hl => ?_)
    obtain ⟨t_4, h_5, hf⟩ := sn_bd hf
    exact wX9_claims_L14 C  h_5 (fun v e => by cases e; exact wX9_claims_49 C  hf kr) _ _ _ hw (lv_sub hl [2, 1, 0] rfl)
  · have hf := sn_if c_3 hf
    refine lv_bipush (v := (-2)) hx hb dX9_claims_7 (by decide) ?_
    cases hf
    exact kr _ _ _ _ hw rfl dX9_claims_9
theorem ctX9_claims (l : Launch) {σ : sn_S}  {o : (Int32 × sn_S)} (hf : fX9_claims σ = some o) : sn_M l yX9_claims cX9_claims 3 (some .int) rmX9_claims layM (fun ad => [.ref (ad 0)]) σ (some (fun _ => .int o.1)) o.2 :=
  sn_met (by decide) (fun _ => Nat.le_of_ble_eq_true rfl) (fun p e s m args below meth c ls D ct ad A C hw hl => wX9_claims_in C  hf (fun H locs ls pc hw ok hd => sn_iret C hw hd) _ _ _ hw hl)
-- X9_money
abbrev rmX9_money : Room := { frames := 6, cells := 0, slots := 0, locals := 136 }
def fX9_money (σ : sn_S) (x1 : Int32) : Option (Int32 × sn_S) :=
  ((fX9_asksMinute σ x1).bind fun t_1 => (if t_1.1 = 0 then
  (some ((-100000 : Int32), t_1.2))
  else
  ((fX9_layPaid t_1.2).bind fun t_4 => ((fX9_moneyAt t_4 x1).bind fun t_6 => (some (t_6, t_4))))))
theorem wX9_money_in (C : sn_C p s m args meth c RX9 cX9_money 2 (some .int) D ct ad layM A) {σ : sn_S} {x1 : Int32}  {o : (Int32 × sn_S)} (hf : fX9_money σ x1 = some o) (kr : sn_Kr p l e rmX9_money s m args below meth c Q D ct ad layM A cX9_money .ireturn (true) o.2 [.int o.1]) : sn_At p l e rmX9_money s m args below meth c Q D ct ad layM A 2 σ 0 [(0, .ref (ad 0)), (1, .int x1)] [] := by
  intro H locs ls hw hl
  have hx := C.1
  have hb := C.2.1
  unfold fX9_money at hf
  refine lv_aload_n hx hb dX9_money_0 rfl (lv_at hl 0 rfl) ?_
  refine lv_iload_n hx hb dX9_money_1 rfl (lv_at hl 1 rfl) ?_
  obtain ⟨t_1, h_2, hf⟩ := sn_bd hf
  refine sn_callVi (rest := []) C hw (ctX9_asksMinute l  h_2) kl_RX9_281 layM_0 rfl rfl rfl rfl (Nat.le_of_ble_eq_true rfl) dX9_money_2 hl.1 (fun H locs hw => ?_)
  refine lv_if_ne (tgt := 12) hx hb dX9_money_5 (by decide) (fun c_3 => ?_) (fun c_3 => ?_)
  · have hf := sn_el c_3 hf
    refine lv_aload_n hx hb dX9_money_12 rfl (lv_at hl 0 rfl) ?_
    obtain ⟨t_4, h_5, hf⟩ := sn_bd hf
    refine sn_callVv (rest := []) C hw (ctX9_layPaid l  h_5) kl_RX9_317 layM_0 rfl rfl rfl rfl (Nat.le_of_ble_eq_true rfl) dX9_money_13 hl.1 (fun H locs hw => ?_)
    refine lv_aload_n hx hb dX9_money_16 rfl (lv_at hl 0 rfl) ?_
    refine lv_iload_n hx hb dX9_money_17 rfl (lv_at hl 1 rfl) ?_
    obtain ⟨t_6, h_7, hf⟩ := sn_bd hf
    refine sn_callVi (rest := []) C hw (ctX9_moneyAt l  h_7) kl_RX9_320 layM_0 rfl rfl rfl rfl (Nat.le_of_ble_eq_true rfl) dX9_money_18 hl.1 (fun H locs hw => ?_)
    cases hf
    exact kr _ _ _ _ hw rfl dX9_money_21
  · have hf := sn_if c_3 hf
    refine lv_ldcw hx hb C.2.2.2.1 (C.2.2.2.2.1 _ kk_RX9_328) dX9_money_8 ?_
    cases hf
    exact kr _ _ _ _ hw rfl dX9_money_11
theorem ctX9_money (l : Launch) {σ : sn_S} {x1 : Int32}  {o : (Int32 × sn_S)} (hf : fX9_money σ x1 = some o) : sn_M l yX9_money cX9_money 2 (some .int) rmX9_money layM (fun ad => [.ref (ad 0), .int x1]) σ (some (fun _ => .int o.1)) o.2 :=
  sn_met (by decide) (fun _ => Nat.le_of_ble_eq_true rfl) (fun p e s m args below meth c ls D ct ad A C hw hl => wX9_money_in C  hf (fun H locs ls pc hw ok hd => sn_iret C hw hd) _ _ _ hw hl)
-- X9_ruin
abbrev rmX9_ruin : Room := { frames := 5, cells := 0, slots := 0, locals := 117 }
def fX9_ruin (σ : sn_S) : Option (Int32 × sn_S) :=
  ((fX9_asksHouse σ).bind fun t_1 => (if t_1.1 = 0 then
  (some ((-2 : Int32), t_1.2))
  else
  ((fX9_ruinOf t_1.2).bind fun t_4 => (some (t_4.1, t_4.2)))))
theorem wX9_ruin_in (C : sn_C p s m args meth c RX9 cX9_ruin 1 (some .int) D ct ad layM A) {σ : sn_S}  {o : (Int32 × sn_S)} (hf : fX9_ruin σ = some o) (kr : sn_Kr p l e rmX9_ruin s m args below meth c Q D ct ad layM A cX9_ruin .ireturn (true) o.2 [.int o.1]) : sn_At p l e rmX9_ruin s m args below meth c Q D ct ad layM A 1 σ 0 [(0, .ref (ad 0))] [] := by
  intro H locs ls hw hl
  have hx := C.1
  have hb := C.2.1
  unfold fX9_ruin at hf
  refine lv_aload_n hx hb dX9_ruin_0 rfl (lv_at hl 0 rfl) ?_
  obtain ⟨t_1, h_2, hf⟩ := sn_bd hf
  refine sn_callVi (rest := []) C hw (ctX9_asksHouse l  h_2) kl_RX9_272 layM_0 rfl rfl rfl rfl (Nat.le_of_ble_eq_true rfl) dX9_ruin_1 hl.1 (fun H locs hw => ?_)
  refine lv_if_eq (tgt := 14) hx hb dX9_ruin_4 (by decide) (fun c_3 => ?_) (fun c_3 => ?_)
  · have hf := sn_if c_3 hf
    refine lv_bipush (v := (-2)) hx hb dX9_ruin_14 (by decide) ?_
    cases hf
    exact kr _ _ _ _ hw rfl dX9_ruin_16
  · have hf := sn_el c_3 hf
    refine lv_aload_n hx hb dX9_ruin_7 rfl (lv_at hl 0 rfl) ?_
    obtain ⟨t_4, h_5, hf⟩ := sn_bd hf
    refine sn_callVi (rest := []) C hw (ctX9_ruinOf l  h_5) kl_RX9_329 layM_0 rfl rfl rfl rfl (Nat.le_of_ble_eq_true rfl) dX9_ruin_8 hl.1 (fun H locs hw => ?_)
    refine lv_goto (tgt := 16) hx hb dX9_ruin_11 (by decide) ?_
    cases hf
    exact kr _ _ _ _ hw rfl dX9_ruin_16
theorem ctX9_ruin (l : Launch) {σ : sn_S}  {o : (Int32 × sn_S)} (hf : fX9_ruin σ = some o) : sn_M l yX9_ruin cX9_ruin 1 (some .int) rmX9_ruin layM (fun ad => [.ref (ad 0)]) σ (some (fun _ => .int o.1)) o.2 :=
  sn_met (by decide) (fun _ => Nat.le_of_ble_eq_true rfl) (fun p e s m args below meth c ls D ct ad A C hw hl => wX9_ruin_in C  hf (fun H locs ls pc hw ok hd => sn_iret C hw hd) _ _ _ hw hl)
-- X9_coveredOf
abbrev rmX9_coveredOf : Room := { frames := 2, cells := 0, slots := 0, locals := 45 }
def BX9_coveredOf_43 (σ : sn_S) (x2 : Int32) : Option (Int32) :=
  (some x2)
def BX9_coveredOf_35 (σ : sn_S) (x1 : Int32) (x2 : Int32) (x3 : Int32) (t0 : Int32) (t1 : Int32) : Option ((Int32 × Int32) ⊕ (Int32)) :=
  (sn_lt (t0 ||| t1) fun y_1 => (sn_lt (x3 + 1) fun y_3 => (some (.inl (y_1, y_3)))))
def BX9_coveredOf_4 (σ : sn_S) (x1 : Int32) (x2 : Int32) (x3 : Int32) : Option ((Int32 × Int32) ⊕ (Int32)) :=
  (sn_gd (sn_in (8 : Int32) 119) (if (sn_I σ 1 (8 : Int32).toNatClampNeg) ≤ x3 then
  (some (.inr (x2)))
  else
  ((fX9_of σ x3 (0 : Int32)).bind fun t_3 => (if t_3 = x1 then
  ((fX9_windowOf σ x3).bind fun t_6 => (BX9_coveredOf_35 σ x1 x2 x3 x2 t_6))
  else
  (BX9_coveredOf_35 σ x1 x2 x3 x2 (0 : Int32))))))
def LX9_coveredOf_4 (σ : sn_S) (x1 : Int32) (s : Int32 × Int32) : Option ((Int32 × Int32) ⊕ (Int32)) := BX9_coveredOf_4 σ x1 s.1 s.2
def fX9_coveredOf (σ : sn_S) (x1 : Int32) : Option Int32 :=
  ((sn_it (LX9_coveredOf_4 σ x1) 5000 ((0 : Int32), (0 : Int32))).bind fun t_1 => (BX9_coveredOf_43 σ t_1))
theorem wX9_coveredOf_43 (C : sn_C p s m args meth c RX9 cX9_coveredOf 4 (some .int) D ct ad layM A) {σ : sn_S} {x2 : Int32}  {o : Int32} (hf : BX9_coveredOf_43 σ x2 = some o) (kr : sn_Kr p l e rmX9_coveredOf s m args below meth c Q D ct ad layM A cX9_coveredOf .ireturn (true) σ [.int o]) : sn_At p l e rmX9_coveredOf s m args below meth c Q D ct ad layM A 4 σ 43 [(2, .int x2)] [] := by
  intro H locs ls hw hl
  have hx := C.1
  have hb := C.2.1
  unfold BX9_coveredOf_43 at hf
  refine lv_iload_n hx hb dX9_coveredOf_43 rfl (lv_at hl 0 rfl) ?_
  cases hf
  exact kr _ _ _ _ hw rfl dX9_coveredOf_44
theorem wX9_coveredOf_35 (C : sn_C p s m args meth c RX9 cX9_coveredOf 4 (some .int) D ct ad layM A) {σ : sn_S} {x1 : Int32} {x2 : Int32} {x3 : Int32} {t0 : Int32} {t1 : Int32}  {o : (Int32 × Int32) ⊕ (Int32)} (hf : BX9_coveredOf_35 σ x1 x2 x3 t0 t1 = some o) (kc : ∀ v, o = .inl v → sn_At p l e rmX9_coveredOf s m args below meth c Q D ct ad layM A 4 σ 4 [(0, .ref (ad 0)), (1, .int x1), (2, .int v.1), (3, .int v.2)] []) (kx : ∀ v, o = .inr v → sn_At p l e rmX9_coveredOf s m args below meth c Q D ct ad layM A 4 σ 43 [(2, .int v)] []) : sn_At p l e rmX9_coveredOf s m args below meth c Q D ct ad layM A 4 σ 35 [(0, .ref (ad 0)), (1, .int x1), (2, .int x2), (3, .int x3)] [.int t1, .int t0] := by
  intro H locs ls hw hl
  have hx := C.1
  have hb := C.2.1
  unfold BX9_coveredOf_35 at hf
  refine lv_ior hx hb dX9_coveredOf_35 ?_
  obtain ⟨y_1, e_2, hf⟩ := sn_ltE hf
  refine lv_topi (fun y_1_ e_2_ => ?_)
  obtain rfl : y_1 = y_1_ := e_2.trans e_2_.symm
  refine lv_istore_n (lv' := [(2, .int y_1), (0, .ref (ad 0)), (1, .int x1), (3, .int x3)]) hx hb dX9_coveredOf_36 rfl hl (by decide) rfl (fun ls hl => ?_)
  obtain ⟨y_3, e_4, hf⟩ := sn_ltE hf
  refine lv_iinc (v := y_3) (lv' := [(3, .int y_3), (2, .int y_1), (0, .ref (ad 0)), (1, .int x1)]) hx hb dX9_coveredOf_37 hl (k := 3) rfl (by rw [e_4]; rfl) (by decide) rfl (fun ls hl => ?_)
  refine lv_goto (tgt := 4) hx hb dX9_coveredOf_40 (by decide) ?_
  cases hf
  exact kc _ rfl _ _ _ hw (lv_sub hl [2, 3, 1, 0] rfl)
theorem wX9_coveredOf_4 (C : sn_C p s m args meth c RX9 cX9_coveredOf 4 (some .int) D ct ad layM A) {σ : sn_S} {x1 : Int32} {x2 : Int32} {x3 : Int32}  {o : (Int32 × Int32) ⊕ (Int32)} (hf : BX9_coveredOf_4 σ x1 x2 x3 = some o) (kc : ∀ v, o = .inl v → sn_At p l e rmX9_coveredOf s m args below meth c Q D ct ad layM A 4 σ 4 [(0, .ref (ad 0)), (1, .int x1), (2, .int v.1), (3, .int v.2)] []) (kx : ∀ v, o = .inr v → sn_At p l e rmX9_coveredOf s m args below meth c Q D ct ad layM A 4 σ 43 [(2, .int v)] []) : sn_At p l e rmX9_coveredOf s m args below meth c Q D ct ad layM A 4 σ 4 [(0, .ref (ad 0)), (1, .int x1), (2, .int x2), (3, .int x3)] [] := by
  intro H locs ls hw hl
  have hx := C.1
  have hb := C.2.1
  unfold BX9_coveredOf_4 at hf
  refine lv_iload_n hx hb dX9_coveredOf_4 rfl (lv_at hl 3 rfl) ?_
  refine lv_aload_n hx hb dX9_coveredOf_5 rfl (lv_at hl 0 rfl) ?_
  refine sn_getC (r := 1) C hw fd_RX9_9 layM_0 rfl dX9_coveredOf_6 ?_
  refine lv_bipush (v := 8) hx hb dX9_coveredOf_9 (by decide) ?_
  obtain ⟨g_1, hf⟩ := sn_gdE hf
  refine sn_iald C hw layM_1 g_1 dX9_coveredOf_11 ?_
  refine lv_icmp_ge (tgt := 43) hx hb dX9_coveredOf_12 (by decide) (fun c_2 => ?_) (fun c_2 => ?_)
  · have hf := sn_if c_2 hf
    cases hf
    exact kx _ rfl _ _ _ hw (lv_sub hl [2] rfl)
  · have hf := sn_el c_2 hf
    refine lv_iload_n hx hb dX9_coveredOf_15 rfl (lv_at hl 2 rfl) ?_
    refine lv_aload_n hx hb dX9_coveredOf_16 rfl (lv_at hl 0 rfl) ?_
    refine lv_iload_n hx hb dX9_coveredOf_17 rfl (lv_at hl 3 rfl) ?_
    refine lv_iconst (v := 0) hx hb dX9_coveredOf_18 rfl ?_
    obtain ⟨t_3, h_4, hf⟩ := sn_bd hf
    refine sn_callVi (rest := [.int x2]) C hw (ctX9_of l  h_4) kl_RX9_234 layM_0 rfl rfl rfl rfl (Nat.le_of_ble_eq_true rfl) dX9_coveredOf_19 hl.1 (fun H locs hw => ?_)
    refine lv_iload_n hx hb dX9_coveredOf_22 rfl (lv_at hl 1 rfl) ?_
    refine lv_icmp_ne (tgt := 34) hx hb dX9_coveredOf_23 (by decide) (fun c_5 => ?_) (fun c_5 => ?_)
    · have hf := sn_el c_5 hf
      refine lv_iconst (v := 0) hx hb dX9_coveredOf_34 rfl ?_
      exact wX9_coveredOf_35 C  hf kc kx _ _ _ hw (lv_sub hl [0, 1, 2, 3] rfl)
    · have hf := sn_if c_5 hf
      refine lv_aload_n hx hb dX9_coveredOf_26 rfl (lv_at hl 0 rfl) ?_
      refine lv_iload_n hx hb dX9_coveredOf_27 rfl (lv_at hl 3 rfl) ?_
      obtain ⟨t_6, h_7, hf⟩ := sn_bd hf
      refine sn_callVi (rest := [.int x2]) C hw (ctX9_windowOf l  h_7) kl_RX9_304 layM_0 rfl rfl rfl rfl (Nat.le_of_ble_eq_true rfl) dX9_coveredOf_28 hl.1 (fun H locs hw => ?_)
      refine lv_goto (tgt := 35) hx hb dX9_coveredOf_31 (by decide) ?_
      exact wX9_coveredOf_35 C  hf kc kx _ _ _ hw (lv_sub hl [0, 1, 2, 3] rfl)
theorem wX9_coveredOf_L4 (C : sn_C p s m args meth c RX9 cX9_coveredOf 4 (some .int) D ct ad layM A) {σ : sn_S} {x1 : Int32}   {z : Int32 × Int32} {t : Int32} (h : sn_it (LX9_coveredOf_4 σ x1) 5000 z = some t) (kx : ∀ v, t = v → sn_At p l e rmX9_coveredOf s m args below meth c Q D ct ad layM A 4 σ 43 [(2, .int v)] []) : sn_At p l e rmX9_coveredOf s m args below meth c Q D ct ad layM A 4 σ 4 [(0, .ref (ad 0)), (1, .int x1), (2, .int z.1), (3, .int z.2)] [] :=
  sn_loop (f := LX9_coveredOf_4 σ x1) (G := fun z => sn_At p l e rmX9_coveredOf s m args below meth c Q D ct ad layM A 4 σ 4 [(0, .ref (ad 0)), (1, .int x1), (2, .int z.1), (3, .int z.2)] []) (E := fun t => (∀ v, t = v → sn_At p l e rmX9_coveredOf s m args below meth c Q D ct ad layM A 4 σ 43 [(2, .int v)] []) ∧ True) (fun z o hf k1 k2 => wX9_coveredOf_4 C  hf (fun v e => k1 v e) (fun v e => (k2 _ e).1 v rfl)) 5000 z t h ⟨kx, trivial⟩
theorem wX9_coveredOf_in (C : sn_C p s m args meth c RX9 cX9_coveredOf 4 (some .int) D ct ad layM A) {σ : sn_S} {x1 : Int32}  {o : Int32} (hf : fX9_coveredOf σ x1 = some o) (kr : sn_Kr p l e rmX9_coveredOf s m args below meth c Q D ct ad layM A cX9_coveredOf .ireturn (true) σ [.int o]) : sn_At p l e rmX9_coveredOf s m args below meth c Q D ct ad layM A 4 σ 0 [(0, .ref (ad 0)), (1, .int x1)] [] := by
  intro H locs ls hw hl
  have hx := C.1
  have hb := C.2.1
  unfold fX9_coveredOf at hf
  refine lv_iconst (v := 0) hx hb dX9_coveredOf_0 rfl ?_
  refine lv_istore_n (lv' := [(2, .int (0 : Int32)), (0, .ref (ad 0)), (1, .int x1)]) hx hb dX9_coveredOf_1 rfl hl (by decide) rfl (fun ls hl => ?_)
  refine lv_iconst (v := 0) hx hb dX9_coveredOf_2 rfl ?_
  refine lv_istore_n (lv' := [(3, .int (0 : Int32)), (2, .int (0 : Int32)), (0, .ref (ad 0)), (1, .int x1)]) hx hb dX9_coveredOf_3 rfl hl (by decide) rfl (fun ls hl => ?_)
  obtain ⟨t_1, h_2, hf⟩ := sn_bd hf
  exact wX9_coveredOf_L4 C  h_2 (fun v e => by cases e; exact wX9_coveredOf_43 C  hf kr) _ _ _ hw (lv_sub hl [2, 3, 1, 0] rfl)
theorem ctX9_coveredOf (l : Launch) {σ : sn_S} {x1 : Int32}  {o : Int32} (hf : fX9_coveredOf σ x1 = some o) : sn_M l yX9_coveredOf cX9_coveredOf 4 (some .int) rmX9_coveredOf layM (fun ad => [.ref (ad 0), .int x1]) σ (some (fun _ => .int o)) σ :=
  sn_met (by decide) (fun _ => Nat.le_of_ble_eq_true rfl) (fun p e s m args below meth c ls D ct ad A C hw hl => wX9_coveredOf_in C  hf (fun H locs ls pc hw ok hd => sn_iret C hw hd) _ _ _ hw hl)
-- X9_covered
abbrev rmX9_covered : Room := { frames := 6, cells := 0, slots := 0, locals := 136 }
def fX9_covered (σ : sn_S) (x1 : Int32) : Option (Int32 × sn_S) :=
  ((fX9_asksPerson σ x1).bind fun t_1 => (if t_1.1 = 0 then
  (some ((-2 : Int32), t_1.2))
  else
  ((fX9_coveredOf t_1.2 x1).bind fun t_4 => (some (t_4, t_1.2)))))
theorem wX9_covered_in (C : sn_C p s m args meth c RX9 cX9_covered 2 (some .int) D ct ad layM A) {σ : sn_S} {x1 : Int32}  {o : (Int32 × sn_S)} (hf : fX9_covered σ x1 = some o) (kr : sn_Kr p l e rmX9_covered s m args below meth c Q D ct ad layM A cX9_covered .ireturn (true) o.2 [.int o.1]) : sn_At p l e rmX9_covered s m args below meth c Q D ct ad layM A 2 σ 0 [(0, .ref (ad 0)), (1, .int x1)] [] := by
  intro H locs ls hw hl
  have hx := C.1
  have hb := C.2.1
  unfold fX9_covered at hf
  refine lv_aload_n hx hb dX9_covered_0 rfl (lv_at hl 0 rfl) ?_
  refine lv_iload_n hx hb dX9_covered_1 rfl (lv_at hl 1 rfl) ?_
  obtain ⟨t_1, h_2, hf⟩ := sn_bd hf
  refine sn_callVi (rest := []) C hw (ctX9_asksPerson l  h_2) kl_RX9_284 layM_0 rfl rfl rfl rfl (Nat.le_of_ble_eq_true rfl) dX9_covered_2 hl.1 (fun H locs hw => ?_)
  refine lv_if_eq (tgt := 16) hx hb dX9_covered_5 (by decide) (fun c_3 => ?_) (fun c_3 => ?_)
  · have hf := sn_if c_3 hf
    refine lv_bipush (v := (-2)) hx hb dX9_covered_16 (by decide) ?_
    cases hf
    exact kr _ _ _ _ hw rfl dX9_covered_18
  · have hf := sn_el c_3 hf
    refine lv_aload_n hx hb dX9_covered_8 rfl (lv_at hl 0 rfl) ?_
    refine lv_iload_n hx hb dX9_covered_9 rfl (lv_at hl 1 rfl) ?_
    obtain ⟨t_4, h_5, hf⟩ := sn_bd hf
    refine sn_callVi (rest := []) C hw (ctX9_coveredOf l  h_5) kl_RX9_332 layM_0 rfl rfl rfl rfl (Nat.le_of_ble_eq_true rfl) dX9_covered_10 hl.1 (fun H locs hw => ?_)
    refine lv_goto (tgt := 18) hx hb dX9_covered_13 (by decide) ?_
    cases hf
    exact kr _ _ _ _ hw rfl dX9_covered_18
theorem ctX9_covered (l : Launch) {σ : sn_S} {x1 : Int32}  {o : (Int32 × sn_S)} (hf : fX9_covered σ x1 = some o) : sn_M l yX9_covered cX9_covered 2 (some .int) rmX9_covered layM (fun ad => [.ref (ad 0), .int x1]) σ (some (fun _ => .int o.1)) o.2 :=
  sn_met (by decide) (fun _ => Nat.le_of_ble_eq_true rfl) (fun p e s m args below meth c ls D ct ad A C hw hl => wX9_covered_in C  hf (fun H locs ls pc hw ok hd => sn_iret C hw hd) _ _ _ hw hl)
-- X9_naked
abbrev rmX9_naked : Room := { frames := 5, cells := 0, slots := 0, locals := 115 }
def BX9_naked_57 (σ : sn_S) (x1 : Int32) : Option ((Int32 × sn_S)) :=
  (some (x1, σ))
def BX9_naked_49 (σ : sn_S) (x1 : Int32) (x2 : Int32) (t0 : Int32) (t1 : Int32) : Option ((Int32 × Int32) ⊕ (Int32)) :=
  (sn_lt (t0 ||| t1) fun y_1 => (sn_lt (x2 + 1) fun y_3 => (some (.inl (y_1, y_3)))))
def BX9_naked_14 (σ : sn_S) (x1 : Int32) (x2 : Int32) : Option ((Int32 × Int32) ⊕ (Int32)) :=
  (sn_gd (sn_in (5 : Int32) 119) (if (sn_I σ 1 (5 : Int32).toNatClampNeg) ≤ x2 then
  (some (.inr (x1)))
  else
  (sn_gd (sn_in x2 6) ((fX9_coveredOf σ x2).bind fun t_4 => (if ((sn_I σ 10 x2.toNatClampNeg) &&& (t_4 ^^^ (-1 : Int32))) = 0 then
  (BX9_naked_49 σ x1 x2 x1 (0 : Int32))
  else
  (BX9_naked_49 σ x1 x2 x1 ((1 : Int32) <<< (x2 &&& 31))))))))
def LX9_naked_14 (σ : sn_S) (s : Int32 × Int32) : Option ((Int32 × Int32) ⊕ (Int32)) := BX9_naked_14 σ s.1 s.2
def fX9_naked (σ : sn_S) : Option (Int32 × sn_S) :=
  ((fX9_asksHouse σ).bind fun t_1 => (if t_1.1 = 0 then
  (some ((-2 : Int32), t_1.2))
  else
  ((sn_it (LX9_naked_14 t_1.2) 5000 ((0 : Int32), (0 : Int32))).bind fun t_4 => (BX9_naked_57 t_1.2 t_4))))
theorem wX9_naked_57 (C : sn_C p s m args meth c RX9 cX9_naked 3 (some .int) D ct ad layM A) {σ : sn_S} {x1 : Int32}  {o : (Int32 × sn_S)} (hf : BX9_naked_57 σ x1 = some o) (kr : sn_Kr p l e rmX9_naked s m args below meth c Q D ct ad layM A cX9_naked .ireturn (true) o.2 [.int o.1]) : sn_At p l e rmX9_naked s m args below meth c Q D ct ad layM A 3 σ 57 [(1, .int x1)] [] := by
  intro H locs ls hw hl
  have hx := C.1
  have hb := C.2.1
  unfold BX9_naked_57 at hf
  refine lv_iload_n hx hb dX9_naked_57 rfl (lv_at hl 0 rfl) ?_
  cases hf
  exact kr _ _ _ _ hw rfl dX9_naked_58
theorem wX9_naked_49 (C : sn_C p s m args meth c RX9 cX9_naked 3 (some .int) D ct ad layM A) {σ : sn_S} {x1 : Int32} {x2 : Int32} {t0 : Int32} {t1 : Int32}  {o : (Int32 × Int32) ⊕ (Int32)} (hf : BX9_naked_49 σ x1 x2 t0 t1 = some o) (kc : ∀ v, o = .inl v → sn_At p l e rmX9_naked s m args below meth c Q D ct ad layM A 3 σ 14 [(0, .ref (ad 0)), (1, .int v.1), (2, .int v.2)] []) (kx : ∀ v, o = .inr v → sn_At p l e rmX9_naked s m args below meth c Q D ct ad layM A 3 σ 57 [(1, .int v)] []) : sn_At p l e rmX9_naked s m args below meth c Q D ct ad layM A 3 σ 49 [(0, .ref (ad 0)), (1, .int x1), (2, .int x2)] [.int t1, .int t0] := by
  intro H locs ls hw hl
  have hx := C.1
  have hb := C.2.1
  unfold BX9_naked_49 at hf
  refine lv_ior hx hb dX9_naked_49 ?_
  obtain ⟨y_1, e_2, hf⟩ := sn_ltE hf
  refine lv_topi (fun y_1_ e_2_ => ?_)
  obtain rfl : y_1 = y_1_ := e_2.trans e_2_.symm
  refine lv_istore_n (lv' := [(1, .int y_1), (0, .ref (ad 0)), (2, .int x2)]) hx hb dX9_naked_50 rfl hl (by decide) rfl (fun ls hl => ?_)
  obtain ⟨y_3, e_4, hf⟩ := sn_ltE hf
  refine lv_iinc (v := y_3) (lv' := [(2, .int y_3), (1, .int y_1), (0, .ref (ad 0))]) hx hb dX9_naked_51 hl (k := 2) rfl (by rw [e_4]; rfl) (by decide) rfl (fun ls hl => ?_)
  refine lv_goto (tgt := 14) hx hb dX9_naked_54 (by decide) ?_
  cases hf
  exact kc _ rfl _ _ _ hw (lv_sub hl [2, 1, 0] rfl)
theorem wX9_naked_14 (C : sn_C p s m args meth c RX9 cX9_naked 3 (some .int) D ct ad layM A) {σ : sn_S} {x1 : Int32} {x2 : Int32}  {o : (Int32 × Int32) ⊕ (Int32)} (hf : BX9_naked_14 σ x1 x2 = some o) (kc : ∀ v, o = .inl v → sn_At p l e rmX9_naked s m args below meth c Q D ct ad layM A 3 σ 14 [(0, .ref (ad 0)), (1, .int v.1), (2, .int v.2)] []) (kx : ∀ v, o = .inr v → sn_At p l e rmX9_naked s m args below meth c Q D ct ad layM A 3 σ 57 [(1, .int v)] []) : sn_At p l e rmX9_naked s m args below meth c Q D ct ad layM A 3 σ 14 [(0, .ref (ad 0)), (1, .int x1), (2, .int x2)] [] := by
  intro H locs ls hw hl
  have hx := C.1
  have hb := C.2.1
  unfold BX9_naked_14 at hf
  refine lv_iload_n hx hb dX9_naked_14 rfl (lv_at hl 2 rfl) ?_
  refine lv_aload_n hx hb dX9_naked_15 rfl (lv_at hl 0 rfl) ?_
  refine sn_getC (r := 1) C hw fd_RX9_9 layM_0 rfl dX9_naked_16 ?_
  refine lv_iconst (v := 5) hx hb dX9_naked_19 rfl ?_
  obtain ⟨g_1, hf⟩ := sn_gdE hf
  refine sn_iald C hw layM_1 g_1 dX9_naked_20 ?_
  refine lv_icmp_ge (tgt := 57) hx hb dX9_naked_21 (by decide) (fun c_2 => ?_) (fun c_2 => ?_)
  · have hf := sn_if c_2 hf
    cases hf
    exact kx _ rfl _ _ _ hw (lv_sub hl [1] rfl)
  · have hf := sn_el c_2 hf
    refine lv_iload_n hx hb dX9_naked_24 rfl (lv_at hl 1 rfl) ?_
    refine lv_aload_n hx hb dX9_naked_25 rfl (lv_at hl 0 rfl) ?_
    refine sn_getC (r := 10) C hw fd_RX9_43 layM_0 rfl dX9_naked_26 ?_
    refine lv_iload_n hx hb dX9_naked_29 rfl (lv_at hl 2 rfl) ?_
    obtain ⟨g_3, hf⟩ := sn_gdE hf
    refine sn_iald C hw layM_10 g_3 dX9_naked_30 ?_
    refine lv_aload_n hx hb dX9_naked_31 rfl (lv_at hl 0 rfl) ?_
    refine lv_iload_n hx hb dX9_naked_32 rfl (lv_at hl 2 rfl) ?_
    obtain ⟨t_4, h_5, hf⟩ := sn_bd hf
    refine sn_callVi (rest := [.int (sn_I σ 10 x2.toNatClampNeg), .int x1]) C hw (ctX9_coveredOf l  h_5) kl_RX9_332 layM_0 rfl rfl rfl rfl (Nat.le_of_ble_eq_true rfl) dX9_naked_33 hl.1 (fun H locs hw => ?_)
    refine lv_iconst (v := (-1)) hx hb dX9_naked_36 rfl ?_
    refine lv_ixor hx hb dX9_naked_37 ?_
    refine lv_iand hx hb dX9_naked_38 ?_
    refine lv_if_ne (tgt := 46) hx hb dX9_naked_39 (by decide) (fun c_6 => ?_) (fun c_6 => ?_)
    · have hf := sn_el c_6 hf
      refine lv_iconst (v := 1) hx hb dX9_naked_46 rfl ?_
      refine lv_iload_n hx hb dX9_naked_47 rfl (lv_at hl 2 rfl) ?_
      refine lv_ishl hx hb dX9_naked_48 ?_
      exact wX9_naked_49 C  hf kc kx _ _ _ hw (lv_sub hl [0, 1, 2] rfl)
    · have hf := sn_if c_6 hf
      refine lv_iconst (v := 0) hx hb dX9_naked_42 rfl ?_
      refine lv_goto (tgt := 49) hx hb dX9_naked_43 (by decide) ?_
      exact wX9_naked_49 C  hf kc kx _ _ _ hw (lv_sub hl [0, 1, 2] rfl)
theorem wX9_naked_L14 (C : sn_C p s m args meth c RX9 cX9_naked 3 (some .int) D ct ad layM A) {σ : sn_S}   {z : Int32 × Int32} {t : Int32} (h : sn_it (LX9_naked_14 σ) 5000 z = some t) (kx : ∀ v, t = v → sn_At p l e rmX9_naked s m args below meth c Q D ct ad layM A 3 σ 57 [(1, .int v)] []) : sn_At p l e rmX9_naked s m args below meth c Q D ct ad layM A 3 σ 14 [(0, .ref (ad 0)), (1, .int z.1), (2, .int z.2)] [] :=
  sn_loop (f := LX9_naked_14 σ) (G := fun z => sn_At p l e rmX9_naked s m args below meth c Q D ct ad layM A 3 σ 14 [(0, .ref (ad 0)), (1, .int z.1), (2, .int z.2)] []) (E := fun t => (∀ v, t = v → sn_At p l e rmX9_naked s m args below meth c Q D ct ad layM A 3 σ 57 [(1, .int v)] []) ∧ True) (fun z o hf k1 k2 => wX9_naked_14 C  hf (fun v e => k1 v e) (fun v e => (k2 _ e).1 v rfl)) 5000 z t h ⟨kx, trivial⟩
theorem wX9_naked_in (C : sn_C p s m args meth c RX9 cX9_naked 3 (some .int) D ct ad layM A) {σ : sn_S}  {o : (Int32 × sn_S)} (hf : fX9_naked σ = some o) (kr : sn_Kr p l e rmX9_naked s m args below meth c Q D ct ad layM A cX9_naked .ireturn (true) o.2 [.int o.1]) : sn_At p l e rmX9_naked s m args below meth c Q D ct ad layM A 3 σ 0 [(0, .ref (ad 0))] [] := by
  intro H locs ls hw hl
  have hx := C.1
  have hb := C.2.1
  unfold fX9_naked at hf
  refine lv_aload_n hx hb dX9_naked_0 rfl (lv_at hl 0 rfl) ?_
  obtain ⟨t_1, h_2, hf⟩ := sn_bd hf
  refine sn_callVi (rest := []) C hw (ctX9_asksHouse l  h_2) kl_RX9_272 layM_0 rfl rfl rfl rfl (Nat.le_of_ble_eq_true rfl) dX9_naked_1 hl.1 (fun H locs hw => ?_)
  refine lv_if_ne (tgt := 10) hx hb dX9_naked_4 (by decide) (fun c_3 => ?_) (fun c_3 => ?_)
  · have hf := sn_el c_3 hf
    refine lv_iconst (v := 0) hx hb dX9_naked_10 rfl ?_
    refine lv_istore_n (lv' := [(1, .int (0 : Int32)), (0, .ref (ad 0))]) hx hb dX9_naked_11 rfl hl (by decide) rfl (fun ls hl => ?_)
    refine lv_iconst (v := 0) hx hb dX9_naked_12 rfl ?_
    refine lv_istore_n (lv' := [(2, .int (0 : Int32)), (1, .int (0 : Int32)), (0, .ref (ad 0))]) hx hb dX9_naked_13 rfl hl (by decide) rfl (fun ls hl => ?_)
    obtain ⟨t_4, h_5, hf⟩ := sn_bd hf
    exact wX9_naked_L14 C  h_5 (fun v e => by cases e; exact wX9_naked_57 C  hf kr) _ _ _ hw (lv_sub hl [2, 1, 0] rfl)
  · have hf := sn_if c_3 hf
    refine lv_bipush (v := (-2)) hx hb dX9_naked_7 (by decide) ?_
    cases hf
    exact kr _ _ _ _ hw rfl dX9_naked_9
theorem ctX9_naked (l : Launch) {σ : sn_S}  {o : (Int32 × sn_S)} (hf : fX9_naked σ = some o) : sn_M l yX9_naked cX9_naked 3 (some .int) rmX9_naked layM (fun ad => [.ref (ad 0)]) σ (some (fun _ => .int o.1)) o.2 :=
  sn_met (by decide) (fun _ => Nat.le_of_ble_eq_true rfl) (fun p e s m args below meth c ls D ct ad A C hw hl => wX9_naked_in C  hf (fun H locs ls pc hw ok hd => sn_iret C hw hd) _ _ _ hw hl)
-- X9_covers
abbrev rmX9_covers : Room := { frames := 6, cells := 0, slots := 0, locals := 136 }
def BX9_covers_46 (σ : sn_S) (x2 : Int32) : Option ((Int32 × sn_S)) :=
  (some (x2, σ))
def BX9_covers_15 (σ : sn_S) (x1 : Int32) (x2 : Int32) (x3 : Int32) : Option ((Int32 × Int32) ⊕ (Int32)) :=
  (sn_gd (sn_in (8 : Int32) 119) (if (sn_I σ 1 (8 : Int32).toNatClampNeg) ≤ x3 then
  (some (.inr (x2)))
  else
  ((fX9_windowOf σ x3).bind fun t_3 => ((fX9_bit t_3 x1).bind fun t_5 => (sn_lt (x2 ||| (t_5 <<< (x3 &&& 31))) fun y_7 => (sn_lt (x3 + 1) fun y_9 => (some (.inl (y_7, y_9)))))))))
def LX9_covers_15 (σ : sn_S) (x1 : Int32) (s : Int32 × Int32) : Option ((Int32 × Int32) ⊕ (Int32)) := BX9_covers_15 σ x1 s.1 s.2
def fX9_covers (σ : sn_S) (x1 : Int32) : Option (Int32 × sn_S) :=
  ((fX9_asksMinute σ x1).bind fun t_1 => (if t_1.1 = 0 then
  (some ((-2 : Int32), t_1.2))
  else
  ((sn_it (LX9_covers_15 t_1.2 x1) 5000 ((0 : Int32), (0 : Int32))).bind fun t_4 => (BX9_covers_46 t_1.2 t_4))))
theorem wX9_covers_46 (C : sn_C p s m args meth c RX9 cX9_covers 4 (some .int) D ct ad layM A) {σ : sn_S} {x2 : Int32}  {o : (Int32 × sn_S)} (hf : BX9_covers_46 σ x2 = some o) (kr : sn_Kr p l e rmX9_covers s m args below meth c Q D ct ad layM A cX9_covers .ireturn (true) o.2 [.int o.1]) : sn_At p l e rmX9_covers s m args below meth c Q D ct ad layM A 4 σ 46 [(2, .int x2)] [] := by
  intro H locs ls hw hl
  have hx := C.1
  have hb := C.2.1
  unfold BX9_covers_46 at hf
  refine lv_iload_n hx hb dX9_covers_46 rfl (lv_at hl 0 rfl) ?_
  cases hf
  exact kr _ _ _ _ hw rfl dX9_covers_47
theorem wX9_covers_15 (C : sn_C p s m args meth c RX9 cX9_covers 4 (some .int) D ct ad layM A) {σ : sn_S} {x1 : Int32} {x2 : Int32} {x3 : Int32}  {o : (Int32 × Int32) ⊕ (Int32)} (hf : BX9_covers_15 σ x1 x2 x3 = some o) (kc : ∀ v, o = .inl v → sn_At p l e rmX9_covers s m args below meth c Q D ct ad layM A 4 σ 15 [(0, .ref (ad 0)), (1, .int x1), (2, .int v.1), (3, .int v.2)] []) (kx : ∀ v, o = .inr v → sn_At p l e rmX9_covers s m args below meth c Q D ct ad layM A 4 σ 46 [(2, .int v)] []) : sn_At p l e rmX9_covers s m args below meth c Q D ct ad layM A 4 σ 15 [(0, .ref (ad 0)), (1, .int x1), (2, .int x2), (3, .int x3)] [] := by
  intro H locs ls hw hl
  have hx := C.1
  have hb := C.2.1
  unfold BX9_covers_15 at hf
  refine lv_iload_n hx hb dX9_covers_15 rfl (lv_at hl 3 rfl) ?_
  refine lv_aload_n hx hb dX9_covers_16 rfl (lv_at hl 0 rfl) ?_
  refine sn_getC (r := 1) C hw fd_RX9_9 layM_0 rfl dX9_covers_17 ?_
  refine lv_bipush (v := 8) hx hb dX9_covers_20 (by decide) ?_
  obtain ⟨g_1, hf⟩ := sn_gdE hf
  refine sn_iald C hw layM_1 g_1 dX9_covers_22 ?_
  refine lv_icmp_ge (tgt := 46) hx hb dX9_covers_23 (by decide) (fun c_2 => ?_) (fun c_2 => ?_)
  · have hf := sn_if c_2 hf
    cases hf
    exact kx _ rfl _ _ _ hw (lv_sub hl [2] rfl)
  · have hf := sn_el c_2 hf
    refine lv_iload_n hx hb dX9_covers_26 rfl (lv_at hl 2 rfl) ?_
    refine lv_aload_n hx hb dX9_covers_27 rfl (lv_at hl 0 rfl) ?_
    refine lv_iload_n hx hb dX9_covers_28 rfl (lv_at hl 3 rfl) ?_
    obtain ⟨t_3, h_4, hf⟩ := sn_bd hf
    refine sn_callVi (rest := [.int x2]) C hw (ctX9_windowOf l  h_4) kl_RX9_304 layM_0 rfl rfl rfl rfl (Nat.le_of_ble_eq_true rfl) dX9_covers_29 hl.1 (fun H locs hw => ?_)
    refine lv_iload_n hx hb dX9_covers_32 rfl (lv_at hl 1 rfl) ?_
    obtain ⟨t_5, h_6, hf⟩ := sn_bd hf
    refine sn_callSi (rest := [.int x2]) C hw (ctX9_bit l  h_6) kl_RX9_254 rfl rfl rfl (Nat.le_of_ble_eq_true rfl) dX9_covers_33 hl.1 (fun H locs hw => ?_)
    refine lv_iload_n hx hb dX9_covers_36 rfl (lv_at hl 3 rfl) ?_
    refine lv_ishl hx hb dX9_covers_37 ?_
    refine lv_ior hx hb dX9_covers_38 ?_
    obtain ⟨y_7, e_8, hf⟩ := sn_ltE hf
    refine lv_topi (fun y_7_ e_8_ => ?_)
    obtain rfl : y_7 = y_7_ := e_8.trans e_8_.symm
    refine lv_istore_n (lv' := [(2, .int y_7), (0, .ref (ad 0)), (1, .int x1), (3, .int x3)]) hx hb dX9_covers_39 rfl hl (by decide) rfl (fun ls hl => ?_)
    obtain ⟨y_9, e_10, hf⟩ := sn_ltE hf
    refine lv_iinc (v := y_9) (lv' := [(3, .int y_9), (2, .int y_7), (0, .ref (ad 0)), (1, .int x1)]) hx hb dX9_covers_40 hl (k := 3) rfl (by rw [e_10]; rfl) (by decide) rfl (fun ls hl => ?_)
    refine lv_goto (tgt := 15) hx hb dX9_covers_43 (by decide) ?_
    cases hf
    exact kc _ rfl _ _ _ hw (lv_sub hl [2, 3, 1, 0] rfl)
theorem wX9_covers_L15 (C : sn_C p s m args meth c RX9 cX9_covers 4 (some .int) D ct ad layM A) {σ : sn_S} {x1 : Int32}   {z : Int32 × Int32} {t : Int32} (h : sn_it (LX9_covers_15 σ x1) 5000 z = some t) (kx : ∀ v, t = v → sn_At p l e rmX9_covers s m args below meth c Q D ct ad layM A 4 σ 46 [(2, .int v)] []) : sn_At p l e rmX9_covers s m args below meth c Q D ct ad layM A 4 σ 15 [(0, .ref (ad 0)), (1, .int x1), (2, .int z.1), (3, .int z.2)] [] :=
  sn_loop (f := LX9_covers_15 σ x1) (G := fun z => sn_At p l e rmX9_covers s m args below meth c Q D ct ad layM A 4 σ 15 [(0, .ref (ad 0)), (1, .int x1), (2, .int z.1), (3, .int z.2)] []) (E := fun t => (∀ v, t = v → sn_At p l e rmX9_covers s m args below meth c Q D ct ad layM A 4 σ 46 [(2, .int v)] []) ∧ True) (fun z o hf k1 k2 => wX9_covers_15 C  hf (fun v e => k1 v e) (fun v e => (k2 _ e).1 v rfl)) 5000 z t h ⟨kx, trivial⟩
theorem wX9_covers_in (C : sn_C p s m args meth c RX9 cX9_covers 4 (some .int) D ct ad layM A) {σ : sn_S} {x1 : Int32}  {o : (Int32 × sn_S)} (hf : fX9_covers σ x1 = some o) (kr : sn_Kr p l e rmX9_covers s m args below meth c Q D ct ad layM A cX9_covers .ireturn (true) o.2 [.int o.1]) : sn_At p l e rmX9_covers s m args below meth c Q D ct ad layM A 4 σ 0 [(0, .ref (ad 0)), (1, .int x1)] [] := by
  intro H locs ls hw hl
  have hx := C.1
  have hb := C.2.1
  unfold fX9_covers at hf
  refine lv_aload_n hx hb dX9_covers_0 rfl (lv_at hl 0 rfl) ?_
  refine lv_iload_n hx hb dX9_covers_1 rfl (lv_at hl 1 rfl) ?_
  obtain ⟨t_1, h_2, hf⟩ := sn_bd hf
  refine sn_callVi (rest := []) C hw (ctX9_asksMinute l  h_2) kl_RX9_281 layM_0 rfl rfl rfl rfl (Nat.le_of_ble_eq_true rfl) dX9_covers_2 hl.1 (fun H locs hw => ?_)
  refine lv_if_ne (tgt := 11) hx hb dX9_covers_5 (by decide) (fun c_3 => ?_) (fun c_3 => ?_)
  · have hf := sn_el c_3 hf
    refine lv_iconst (v := 0) hx hb dX9_covers_11 rfl ?_
    refine lv_istore_n (lv' := [(2, .int (0 : Int32)), (0, .ref (ad 0)), (1, .int x1)]) hx hb dX9_covers_12 rfl hl (by decide) rfl (fun ls hl => ?_)
    refine lv_iconst (v := 0) hx hb dX9_covers_13 rfl ?_
    refine lv_istore_n (lv' := [(3, .int (0 : Int32)), (2, .int (0 : Int32)), (0, .ref (ad 0)), (1, .int x1)]) hx hb dX9_covers_14 rfl hl (by decide) rfl (fun ls hl => ?_)
    obtain ⟨t_4, h_5, hf⟩ := sn_bd hf
    exact wX9_covers_L15 C  h_5 (fun v e => by cases e; exact wX9_covers_46 C  hf kr) _ _ _ hw (lv_sub hl [2, 3, 1, 0] rfl)
  · have hf := sn_if c_3 hf
    refine lv_bipush (v := (-2)) hx hb dX9_covers_8 (by decide) ?_
    cases hf
    exact kr _ _ _ _ hw rfl dX9_covers_10
theorem ctX9_covers (l : Launch) {σ : sn_S} {x1 : Int32}  {o : (Int32 × sn_S)} (hf : fX9_covers σ x1 = some o) : sn_M l yX9_covers cX9_covers 4 (some .int) rmX9_covers layM (fun ad => [.ref (ad 0), .int x1]) σ (some (fun _ => .int o.1)) o.2 :=
  sn_met (by decide) (fun _ => Nat.le_of_ble_eq_true rfl) (fun p e s m args below meth c ls D ct ad A C hw hl => wX9_covers_in C  hf (fun H locs ls pc hw ok hd => sn_iret C hw hd) _ _ _ hw hl)
-- X9_profit
abbrev rmX9_profit : Room := { frames := 6, cells := 0, slots := 0, locals := 136 }
def fX9_profit (σ : sn_S) (x1 : Int32) : Option (Int32 × sn_S) :=
  ((fX9_asksPolicy σ x1).bind fun t_1 => (if t_1.1 = 0 then
  (some ((-100000 : Int32), t_1.2))
  else
  ((fX9_of t_1.2 x1 (4 : Int32)).bind fun t_4 => ((fX9_claimOf_ t_1.2 x1).bind fun t_6 => (some ((t_4 - t_6.1), t_6.2))))))
theorem wX9_profit_in (C : sn_C p s m args meth c RX9 cX9_profit 2 (some .int) D ct ad layM A) {σ : sn_S} {x1 : Int32}  {o : (Int32 × sn_S)} (hf : fX9_profit σ x1 = some o) (kr : sn_Kr p l e rmX9_profit s m args below meth c Q D ct ad layM A cX9_profit .ireturn (true) o.2 [.int o.1]) : sn_At p l e rmX9_profit s m args below meth c Q D ct ad layM A 2 σ 0 [(0, .ref (ad 0)), (1, .int x1)] [] := by
  intro H locs ls hw hl
  have hx := C.1
  have hb := C.2.1
  unfold fX9_profit at hf
  refine lv_aload_n hx hb dX9_profit_0 rfl (lv_at hl 0 rfl) ?_
  refine lv_iload_n hx hb dX9_profit_1 rfl (lv_at hl 1 rfl) ?_
  obtain ⟨t_1, h_2, hf⟩ := sn_bd hf
  refine sn_callVi (rest := []) C hw (ctX9_asksPolicy l  h_2) kl_RX9_323 layM_0 rfl rfl rfl rfl (Nat.le_of_ble_eq_true rfl) dX9_profit_2 hl.1 (fun H locs hw => ?_)
  refine lv_if_eq (tgt := 23) hx hb dX9_profit_5 (by decide) (fun c_3 => ?_) (fun c_3 => ?_)
  · have hf := sn_if c_3 hf
    refine lv_ldcw hx hb C.2.2.2.1 (C.2.2.2.2.1 _ kk_RX9_328) dX9_profit_23 ?_
    cases hf
    exact kr _ _ _ _ hw rfl dX9_profit_26
  · have hf := sn_el c_3 hf
    refine lv_aload_n hx hb dX9_profit_8 rfl (lv_at hl 0 rfl) ?_
    refine lv_iload_n hx hb dX9_profit_9 rfl (lv_at hl 1 rfl) ?_
    refine lv_iconst (v := 4) hx hb dX9_profit_10 rfl ?_
    obtain ⟨t_4, h_5, hf⟩ := sn_bd hf
    refine sn_callVi (rest := []) C hw (ctX9_of l  h_5) kl_RX9_234 layM_0 rfl rfl rfl rfl (Nat.le_of_ble_eq_true rfl) dX9_profit_11 hl.1 (fun H locs hw => ?_)
    refine lv_aload_n hx hb dX9_profit_14 rfl (lv_at hl 0 rfl) ?_
    refine lv_iload_n hx hb dX9_profit_15 rfl (lv_at hl 1 rfl) ?_
    obtain ⟨t_6, h_7, hf⟩ := sn_bd hf
    refine sn_callVi (rest := [.int t_4]) C hw (ctX9_claimOf_ l  h_7) kl_RX9_326 layM_0 rfl rfl rfl rfl (Nat.le_of_ble_eq_true rfl) dX9_profit_16 hl.1 (fun H locs hw => ?_)
    refine lv_isub hx hb dX9_profit_19 ?_
    refine lv_goto (tgt := 26) hx hb dX9_profit_20 (by decide) ?_
    cases hf
    exact kr _ _ _ _ hw rfl dX9_profit_26
theorem ctX9_profit (l : Launch) {σ : sn_S} {x1 : Int32}  {o : (Int32 × sn_S)} (hf : fX9_profit σ x1 = some o) : sn_M l yX9_profit cX9_profit 2 (some .int) rmX9_profit layM (fun ad => [.ref (ad 0), .int x1]) σ (some (fun _ => .int o.1)) o.2 :=
  sn_met (by decide) (fun _ => Nat.le_of_ble_eq_true rfl) (fun p e s m args below meth c ls D ct ad A C hw hl => wX9_profit_in C  hf (fun H locs ls pc hw ok hd => sn_iret C hw hd) _ _ _ hw hl)
-- X9_lowest
abbrev rmX9_lowest : Room := { frames := 5, cells := 0, slots := 0, locals := 115 }
def BX9_lowest_51 (σ : sn_S) (x1 : Int32) : Option ((Int32 × sn_S)) :=
  (some (x1, σ))
def BX9_lowest_44 (σ : sn_S) (x1 : Int32) (x2 : Int32) (t0 : Int32) : Option ((Int32 × Int32) ⊕ (Int32)) :=
  (sn_lt (x2 + 1) fun y_1 => (some (.inl (t0, y_1))))
def BX9_lowest_18 (σ : sn_S) (x1 : Int32) (x2 : Int32) : Option ((Int32 × Int32) ⊕ (Int32)) :=
  ((fX9_minutes σ).bind fun t_1 => (if t_1 ≤ x2 then
  (some (.inr (x1)))
  else
  ((fX9_moneyAt σ x2).bind fun t_4 => ((fX9_moneyAt σ x1).bind fun t_6 => (if t_6 ≤ t_4 then
  (BX9_lowest_44 σ x1 x2 x1)
  else
  (BX9_lowest_44 σ x1 x2 x2))))))
def LX9_lowest_18 (σ : sn_S) (s : Int32 × Int32) : Option ((Int32 × Int32) ⊕ (Int32)) := BX9_lowest_18 σ s.1 s.2
def fX9_lowest (σ : sn_S) : Option (Int32 × sn_S) :=
  ((fX9_asksHouse σ).bind fun t_1 => (if t_1.1 = 0 then
  (some ((-2 : Int32), t_1.2))
  else
  ((fX9_layPaid t_1.2).bind fun t_4 => ((sn_it (LX9_lowest_18 t_4) 5000 ((0 : Int32), (1 : Int32))).bind fun t_6 => (BX9_lowest_51 t_4 t_6)))))
theorem wX9_lowest_51 (C : sn_C p s m args meth c RX9 cX9_lowest 3 (some .int) D ct ad layM A) {σ : sn_S} {x1 : Int32}  {o : (Int32 × sn_S)} (hf : BX9_lowest_51 σ x1 = some o) (kr : sn_Kr p l e rmX9_lowest s m args below meth c Q D ct ad layM A cX9_lowest .ireturn (true) o.2 [.int o.1]) : sn_At p l e rmX9_lowest s m args below meth c Q D ct ad layM A 3 σ 51 [(1, .int x1)] [] := by
  intro H locs ls hw hl
  have hx := C.1
  have hb := C.2.1
  unfold BX9_lowest_51 at hf
  refine lv_iload_n hx hb dX9_lowest_51 rfl (lv_at hl 0 rfl) ?_
  cases hf
  exact kr _ _ _ _ hw rfl dX9_lowest_52
theorem wX9_lowest_44 (C : sn_C p s m args meth c RX9 cX9_lowest 3 (some .int) D ct ad layM A) {σ : sn_S} {x1 : Int32} {x2 : Int32} {t0 : Int32}  {o : (Int32 × Int32) ⊕ (Int32)} (hf : BX9_lowest_44 σ x1 x2 t0 = some o) (kc : ∀ v, o = .inl v → sn_At p l e rmX9_lowest s m args below meth c Q D ct ad layM A 3 σ 18 [(0, .ref (ad 0)), (1, .int v.1), (2, .int v.2)] []) (kx : ∀ v, o = .inr v → sn_At p l e rmX9_lowest s m args below meth c Q D ct ad layM A 3 σ 51 [(1, .int v)] []) : sn_At p l e rmX9_lowest s m args below meth c Q D ct ad layM A 3 σ 44 [(0, .ref (ad 0)), (1, .int x1), (2, .int x2)] [.int t0] := by
  intro H locs ls hw hl
  have hx := C.1
  have hb := C.2.1
  unfold BX9_lowest_44 at hf
  refine lv_istore_n (lv' := [(1, .int t0), (0, .ref (ad 0)), (2, .int x2)]) hx hb dX9_lowest_44 rfl hl (by decide) rfl (fun ls hl => ?_)
  obtain ⟨y_1, e_2, hf⟩ := sn_ltE hf
  refine lv_iinc (v := y_1) (lv' := [(2, .int y_1), (1, .int t0), (0, .ref (ad 0))]) hx hb dX9_lowest_45 hl (k := 2) rfl (by rw [e_2]; rfl) (by decide) rfl (fun ls hl => ?_)
  refine lv_goto (tgt := 18) hx hb dX9_lowest_48 (by decide) ?_
  cases hf
  exact kc _ rfl _ _ _ hw (lv_sub hl [2, 1, 0] rfl)
theorem wX9_lowest_18 (C : sn_C p s m args meth c RX9 cX9_lowest 3 (some .int) D ct ad layM A) {σ : sn_S} {x1 : Int32} {x2 : Int32}  {o : (Int32 × Int32) ⊕ (Int32)} (hf : BX9_lowest_18 σ x1 x2 = some o) (kc : ∀ v, o = .inl v → sn_At p l e rmX9_lowest s m args below meth c Q D ct ad layM A 3 σ 18 [(0, .ref (ad 0)), (1, .int v.1), (2, .int v.2)] []) (kx : ∀ v, o = .inr v → sn_At p l e rmX9_lowest s m args below meth c Q D ct ad layM A 3 σ 51 [(1, .int v)] []) : sn_At p l e rmX9_lowest s m args below meth c Q D ct ad layM A 3 σ 18 [(0, .ref (ad 0)), (1, .int x1), (2, .int x2)] [] := by
  intro H locs ls hw hl
  have hx := C.1
  have hb := C.2.1
  unfold BX9_lowest_18 at hf
  refine lv_iload_n hx hb dX9_lowest_18 rfl (lv_at hl 2 rfl) ?_
  refine lv_aload_n hx hb dX9_lowest_19 rfl (lv_at hl 0 rfl) ?_
  obtain ⟨t_1, h_2, hf⟩ := sn_bd hf
  refine sn_callVi (rest := [.int x2]) C hw (ctX9_minutes l  h_2) kl_RX9_249 layM_0 rfl rfl rfl rfl (Nat.le_of_ble_eq_true rfl) dX9_lowest_20 hl.1 (fun H locs hw => ?_)
  refine lv_icmp_ge (tgt := 51) hx hb dX9_lowest_23 (by decide) (fun c_3 => ?_) (fun c_3 => ?_)
  · have hf := sn_if c_3 hf
    cases hf
    exact kx _ rfl _ _ _ hw (lv_sub hl [1] rfl)
  · have hf := sn_el c_3 hf
    refine lv_aload_n hx hb dX9_lowest_26 rfl (lv_at hl 0 rfl) ?_
    refine lv_iload_n hx hb dX9_lowest_27 rfl (lv_at hl 2 rfl) ?_
    obtain ⟨t_4, h_5, hf⟩ := sn_bd hf
    refine sn_callVi (rest := []) C hw (ctX9_moneyAt l  h_5) kl_RX9_320 layM_0 rfl rfl rfl rfl (Nat.le_of_ble_eq_true rfl) dX9_lowest_28 hl.1 (fun H locs hw => ?_)
    refine lv_aload_n hx hb dX9_lowest_31 rfl (lv_at hl 0 rfl) ?_
    refine lv_iload_n hx hb dX9_lowest_32 rfl (lv_at hl 1 rfl) ?_
    obtain ⟨t_6, h_7, hf⟩ := sn_bd hf
    refine sn_callVi (rest := [.int t_4]) C hw (ctX9_moneyAt l  h_7) kl_RX9_320 layM_0 rfl rfl rfl rfl (Nat.le_of_ble_eq_true rfl) dX9_lowest_33 hl.1 (fun H locs hw => ?_)
    refine lv_icmp_ge (tgt := 43) hx hb dX9_lowest_36 (by decide) (fun c_8 => ?_) (fun c_8 => ?_)
    · have hf := sn_if c_8 hf
      refine lv_iload_n hx hb dX9_lowest_43 rfl (lv_at hl 1 rfl) ?_
      exact wX9_lowest_44 C  hf kc kx _ _ _ hw (lv_sub hl [0, 1, 2] rfl)
    · have hf := sn_el c_8 hf
      refine lv_iload_n hx hb dX9_lowest_39 rfl (lv_at hl 2 rfl) ?_
      refine lv_goto (tgt := 44) hx hb dX9_lowest_40 (by decide) ?_
      exact wX9_lowest_44 C  hf kc kx _ _ _ hw (lv_sub hl [0, 1, 2] rfl)
theorem wX9_lowest_L18 (C : sn_C p s m args meth c RX9 cX9_lowest 3 (some .int) D ct ad layM A) {σ : sn_S}   {z : Int32 × Int32} {t : Int32} (h : sn_it (LX9_lowest_18 σ) 5000 z = some t) (kx : ∀ v, t = v → sn_At p l e rmX9_lowest s m args below meth c Q D ct ad layM A 3 σ 51 [(1, .int v)] []) : sn_At p l e rmX9_lowest s m args below meth c Q D ct ad layM A 3 σ 18 [(0, .ref (ad 0)), (1, .int z.1), (2, .int z.2)] [] :=
  sn_loop (f := LX9_lowest_18 σ) (G := fun z => sn_At p l e rmX9_lowest s m args below meth c Q D ct ad layM A 3 σ 18 [(0, .ref (ad 0)), (1, .int z.1), (2, .int z.2)] []) (E := fun t => (∀ v, t = v → sn_At p l e rmX9_lowest s m args below meth c Q D ct ad layM A 3 σ 51 [(1, .int v)] []) ∧ True) (fun z o hf k1 k2 => wX9_lowest_18 C  hf (fun v e => k1 v e) (fun v e => (k2 _ e).1 v rfl)) 5000 z t h ⟨kx, trivial⟩
theorem wX9_lowest_in (C : sn_C p s m args meth c RX9 cX9_lowest 3 (some .int) D ct ad layM A) {σ : sn_S}  {o : (Int32 × sn_S)} (hf : fX9_lowest σ = some o) (kr : sn_Kr p l e rmX9_lowest s m args below meth c Q D ct ad layM A cX9_lowest .ireturn (true) o.2 [.int o.1]) : sn_At p l e rmX9_lowest s m args below meth c Q D ct ad layM A 3 σ 0 [(0, .ref (ad 0))] [] := by
  intro H locs ls hw hl
  have hx := C.1
  have hb := C.2.1
  unfold fX9_lowest at hf
  refine lv_aload_n hx hb dX9_lowest_0 rfl (lv_at hl 0 rfl) ?_
  obtain ⟨t_1, h_2, hf⟩ := sn_bd hf
  refine sn_callVi (rest := []) C hw (ctX9_asksHouse l  h_2) kl_RX9_272 layM_0 rfl rfl rfl rfl (Nat.le_of_ble_eq_true rfl) dX9_lowest_1 hl.1 (fun H locs hw => ?_)
  refine lv_if_ne (tgt := 10) hx hb dX9_lowest_4 (by decide) (fun c_3 => ?_) (fun c_3 => ?_)
  · have hf := sn_el c_3 hf
    refine lv_aload_n hx hb dX9_lowest_10 rfl (lv_at hl 0 rfl) ?_
    obtain ⟨t_4, h_5, hf⟩ := sn_bd hf
    refine sn_callVv (rest := []) C hw (ctX9_layPaid l  h_5) kl_RX9_317 layM_0 rfl rfl rfl rfl (Nat.le_of_ble_eq_true rfl) dX9_lowest_11 hl.1 (fun H locs hw => ?_)
    refine lv_iconst (v := 0) hx hb dX9_lowest_14 rfl ?_
    refine lv_istore_n (lv' := [(1, .int (0 : Int32)), (0, .ref (ad 0))]) hx hb dX9_lowest_15 rfl hl (by decide) rfl (fun ls hl => ?_)
    refine lv_iconst (v := 1) hx hb dX9_lowest_16 rfl ?_
    refine lv_istore_n (lv' := [(2, .int (1 : Int32)), (1, .int (0 : Int32)), (0, .ref (ad 0))]) hx hb dX9_lowest_17 rfl hl (by decide) rfl (fun ls hl => ?_)
    obtain ⟨t_6, h_7, hf⟩ := sn_bd hf
    exact wX9_lowest_L18 C  h_7 (fun v e => by cases e; exact wX9_lowest_51 C  hf kr) _ _ _ hw (lv_sub hl [2, 1, 0] rfl)
  · have hf := sn_if c_3 hf
    refine lv_bipush (v := (-2)) hx hb dX9_lowest_7 (by decide) ?_
    cases hf
    exact kr _ _ _ _ hw rfl dX9_lowest_9
theorem ctX9_lowest (l : Launch) {σ : sn_S}  {o : (Int32 × sn_S)} (hf : fX9_lowest σ = some o) : sn_M l yX9_lowest cX9_lowest 3 (some .int) rmX9_lowest layM (fun ad => [.ref (ad 0)]) σ (some (fun _ => .int o.1)) o.2 :=
  sn_met (by decide) (fun _ => Nat.le_of_ble_eq_true rfl) (fun p e s m args below meth c ls D ct ad A C hw hl => wX9_lowest_in C  hf (fun H locs ls pc hw ok hd => sn_iret C hw hd) _ _ _ hw hl)
-- X9_dear
abbrev rmX9_dear : Room := { frames := 5, cells := 0, slots := 0, locals := 115 }
def BX9_dear_61 (σ : sn_S) (x1 : Int32) : Option ((Int32 × sn_S)) :=
  (some (x1, σ))
def BX9_dear_55 (σ : sn_S) (x1 : Int32) (x2 : Int32) (x3 : Int32) : Option ((sn_S × Int32 × Int32 × Int32) ⊕ (sn_S × Int32)) :=
  (sn_lt (x3 + 1) fun y_1 => (some (.inl (σ, x1, x2, y_1))))
def BX9_dear_16 (σ : sn_S) (x1 : Int32) (x2 : Int32) (x3 : Int32) : Option ((sn_S × Int32 × Int32 × Int32) ⊕ (sn_S × Int32)) :=
  (sn_gd (sn_in (8 : Int32) 119) (if (sn_I σ 1 (8 : Int32).toNatClampNeg) ≤ x3 then
  (some (.inr (σ, x1)))
  else
  ((fX9_claimOf_ σ x3).bind fun t_3 => ((fX9_of t_3.2 x3 (4 : Int32)).bind fun t_5 => (sn_lt (t_3.1 - t_5) fun y_7 => (if x2 < y_7 then
  (BX9_dear_55 t_3.2 x3 y_7 x3)
  else
  (BX9_dear_55 t_3.2 x1 x2 x3)))))))
def LX9_dear_16  (s : sn_S × Int32 × Int32 × Int32) : Option ((sn_S × Int32 × Int32 × Int32) ⊕ (sn_S × Int32)) := BX9_dear_16 s.1 s.2.1 s.2.2.1 s.2.2.2
def fX9_dear (σ : sn_S) : Option (Int32 × sn_S) :=
  ((fX9_asksHouse σ).bind fun t_1 => (if t_1.1 = 0 then
  (some ((-2 : Int32), t_1.2))
  else
  ((sn_it (LX9_dear_16 ) 5000 (t_1.2, (-1 : Int32), (0 : Int32), (0 : Int32))).bind fun t_4 => (BX9_dear_61 t_4.1 t_4.2))))
theorem wX9_dear_61 (C : sn_C p s m args meth c RX9 cX9_dear 5 (some .int) D ct ad layM A) {σ : sn_S} {x1 : Int32}  {o : (Int32 × sn_S)} (hf : BX9_dear_61 σ x1 = some o) (kr : sn_Kr p l e rmX9_dear s m args below meth c Q D ct ad layM A cX9_dear .ireturn (true) o.2 [.int o.1]) : sn_At p l e rmX9_dear s m args below meth c Q D ct ad layM A 5 σ 61 [(1, .int x1)] [] := by
  intro H locs ls hw hl
  have hx := C.1
  have hb := C.2.1
  unfold BX9_dear_61 at hf
  refine lv_iload_n hx hb dX9_dear_61 rfl (lv_at hl 0 rfl) ?_
  cases hf
  exact kr _ _ _ _ hw rfl dX9_dear_62
theorem wX9_dear_55 (C : sn_C p s m args meth c RX9 cX9_dear 5 (some .int) D ct ad layM A) {σ : sn_S} {x1 : Int32} {x2 : Int32} {x3 : Int32}  {o : (sn_S × Int32 × Int32 × Int32) ⊕ (sn_S × Int32)} (hf : BX9_dear_55 σ x1 x2 x3 = some o) (kc : ∀ v, o = .inl v → sn_At p l e rmX9_dear s m args below meth c Q D ct ad layM A 5 v.1 16 [(0, .ref (ad 0)), (1, .int v.2.1), (2, .int v.2.2.1), (3, .int v.2.2.2)] []) (kx : ∀ v, o = .inr v → sn_At p l e rmX9_dear s m args below meth c Q D ct ad layM A 5 v.1 61 [(1, .int v.2)] []) : sn_At p l e rmX9_dear s m args below meth c Q D ct ad layM A 5 σ 55 [(0, .ref (ad 0)), (1, .int x1), (2, .int x2), (3, .int x3)] [] := by
  intro H locs ls hw hl
  have hx := C.1
  have hb := C.2.1
  unfold BX9_dear_55 at hf
  obtain ⟨y_1, e_2, hf⟩ := sn_ltE hf
  refine lv_iinc (v := y_1) (lv' := [(3, .int y_1), (0, .ref (ad 0)), (1, .int x1), (2, .int x2)]) hx hb dX9_dear_55 hl (k := 3) rfl (by rw [e_2]; rfl) (by decide) rfl (fun ls hl => ?_)
  refine lv_goto (tgt := 16) hx hb dX9_dear_58 (by decide) ?_
  cases hf
  exact kc _ rfl _ _ _ hw (lv_sub hl [1, 2, 3, 0] rfl)
theorem wX9_dear_16 (C : sn_C p s m args meth c RX9 cX9_dear 5 (some .int) D ct ad layM A) {σ : sn_S} {x1 : Int32} {x2 : Int32} {x3 : Int32}  {o : (sn_S × Int32 × Int32 × Int32) ⊕ (sn_S × Int32)} (hf : BX9_dear_16 σ x1 x2 x3 = some o) (kc : ∀ v, o = .inl v → sn_At p l e rmX9_dear s m args below meth c Q D ct ad layM A 5 v.1 16 [(0, .ref (ad 0)), (1, .int v.2.1), (2, .int v.2.2.1), (3, .int v.2.2.2)] []) (kx : ∀ v, o = .inr v → sn_At p l e rmX9_dear s m args below meth c Q D ct ad layM A 5 v.1 61 [(1, .int v.2)] []) : sn_At p l e rmX9_dear s m args below meth c Q D ct ad layM A 5 σ 16 [(0, .ref (ad 0)), (1, .int x1), (2, .int x2), (3, .int x3)] [] := by
  intro H locs ls hw hl
  have hx := C.1
  have hb := C.2.1
  unfold BX9_dear_16 at hf
  refine lv_iload_n hx hb dX9_dear_16 rfl (lv_at hl 3 rfl) ?_
  refine lv_aload_n hx hb dX9_dear_17 rfl (lv_at hl 0 rfl) ?_
  refine sn_getC (r := 1) C hw fd_RX9_9 layM_0 rfl dX9_dear_18 ?_
  refine lv_bipush (v := 8) hx hb dX9_dear_21 (by decide) ?_
  obtain ⟨g_1, hf⟩ := sn_gdE hf
  refine sn_iald C hw layM_1 g_1 dX9_dear_23 ?_
  refine lv_icmp_ge (tgt := 61) hx hb dX9_dear_24 (by decide) (fun c_2 => ?_) (fun c_2 => ?_)
  · have hf := sn_if c_2 hf
    cases hf
    exact kx _ rfl _ _ _ hw (lv_sub hl [1] rfl)
  · have hf := sn_el c_2 hf
    refine lv_aload_n hx hb dX9_dear_27 rfl (lv_at hl 0 rfl) ?_
    refine lv_iload_n hx hb dX9_dear_28 rfl (lv_at hl 3 rfl) ?_
    obtain ⟨t_3, h_4, hf⟩ := sn_bd hf
    refine sn_callVi (rest := []) C hw (ctX9_claimOf_ l  h_4) kl_RX9_326 layM_0 rfl rfl rfl rfl (Nat.le_of_ble_eq_true rfl) dX9_dear_29 hl.1 (fun H locs hw => ?_)
    refine lv_aload_n hx hb dX9_dear_32 rfl (lv_at hl 0 rfl) ?_
    refine lv_iload_n hx hb dX9_dear_33 rfl (lv_at hl 3 rfl) ?_
    refine lv_iconst (v := 4) hx hb dX9_dear_34 rfl ?_
    obtain ⟨t_5, h_6, hf⟩ := sn_bd hf
    refine sn_callVi (rest := [.int t_3.1]) C hw (ctX9_of l  h_6) kl_RX9_234 layM_0 rfl rfl rfl rfl (Nat.le_of_ble_eq_true rfl) dX9_dear_35 hl.1 (fun H locs hw => ?_)
    refine lv_isub hx hb dX9_dear_38 ?_
    obtain ⟨y_7, e_8, hf⟩ := sn_ltE hf
    refine lv_topi (fun y_7_ e_8_ => ?_)
    obtain rfl : y_7 = y_7_ := e_8.trans e_8_.symm
    refine lv_istore (lv' := [(4, .int y_7), (0, .ref (ad 0)), (1, .int x1), (2, .int x2), (3, .int x3)]) hx hb dX9_dear_39 hl (by decide) rfl (fun ls hl => ?_)
    refine lv_iload hx hb dX9_dear_41 (lv_at hl 0 rfl) ?_
    refine lv_iload_n hx hb dX9_dear_43 rfl (lv_at hl 3 rfl) ?_
    refine lv_icmp_gt (tgt := 50) hx hb dX9_dear_44 (by decide) (fun c_9 => ?_) (fun c_9 => ?_)
    · have hf := sn_if c_9 hf
      refine lv_iload hx hb dX9_dear_50 (lv_at hl 0 rfl) ?_
      refine lv_istore_n (lv' := [(2, .int y_7), (4, .int y_7), (0, .ref (ad 0)), (1, .int x1), (3, .int x3)]) hx hb dX9_dear_52 rfl hl (by decide) rfl (fun ls hl => ?_)
      refine lv_iload_n hx hb dX9_dear_53 rfl (lv_at hl 4 rfl) ?_
      refine lv_istore_n (lv' := [(1, .int x3), (2, .int y_7), (4, .int y_7), (0, .ref (ad 0)), (3, .int x3)]) hx hb dX9_dear_54 rfl hl (by decide) rfl (fun ls hl => ?_)
      exact wX9_dear_55 C  hf kc kx _ _ _ hw (lv_sub hl [3, 0, 1, 4] rfl)
    · have hf := sn_el c_9 hf
      refine lv_goto (tgt := 55) hx hb dX9_dear_47 (by decide) ?_
      exact wX9_dear_55 C  hf kc kx _ _ _ hw (lv_sub hl [1, 2, 3, 4] rfl)
theorem wX9_dear_L16 (C : sn_C p s m args meth c RX9 cX9_dear 5 (some .int) D ct ad layM A)    {z : sn_S × Int32 × Int32 × Int32} {t : sn_S × Int32} (h : sn_it (LX9_dear_16 ) 5000 z = some t) (kx : ∀ v, t = v → sn_At p l e rmX9_dear s m args below meth c Q D ct ad layM A 5 v.1 61 [(1, .int v.2)] []) : sn_At p l e rmX9_dear s m args below meth c Q D ct ad layM A 5 z.1 16 [(0, .ref (ad 0)), (1, .int z.2.1), (2, .int z.2.2.1), (3, .int z.2.2.2)] [] :=
  sn_loop (f := LX9_dear_16 ) (G := fun z => sn_At p l e rmX9_dear s m args below meth c Q D ct ad layM A 5 z.1 16 [(0, .ref (ad 0)), (1, .int z.2.1), (2, .int z.2.2.1), (3, .int z.2.2.2)] []) (E := fun t => (∀ v, t = v → sn_At p l e rmX9_dear s m args below meth c Q D ct ad layM A 5 v.1 61 [(1, .int v.2)] []) ∧ True) (fun z o hf k1 k2 => wX9_dear_16 C  hf (fun v e => k1 v e) (fun v e => (k2 _ e).1 v rfl)) 5000 z t h ⟨kx, trivial⟩
theorem wX9_dear_in (C : sn_C p s m args meth c RX9 cX9_dear 5 (some .int) D ct ad layM A) {σ : sn_S}  {o : (Int32 × sn_S)} (hf : fX9_dear σ = some o) (kr : sn_Kr p l e rmX9_dear s m args below meth c Q D ct ad layM A cX9_dear .ireturn (true) o.2 [.int o.1]) : sn_At p l e rmX9_dear s m args below meth c Q D ct ad layM A 5 σ 0 [(0, .ref (ad 0))] [] := by
  intro H locs ls hw hl
  have hx := C.1
  have hb := C.2.1
  unfold fX9_dear at hf
  refine lv_aload_n hx hb dX9_dear_0 rfl (lv_at hl 0 rfl) ?_
  obtain ⟨t_1, h_2, hf⟩ := sn_bd hf
  refine sn_callVi (rest := []) C hw (ctX9_asksHouse l  h_2) kl_RX9_272 layM_0 rfl rfl rfl rfl (Nat.le_of_ble_eq_true rfl) dX9_dear_1 hl.1 (fun H locs hw => ?_)
  refine lv_if_ne (tgt := 10) hx hb dX9_dear_4 (by decide) (fun c_3 => ?_) (fun c_3 => ?_)
  · have hf := sn_el c_3 hf
    refine lv_iconst (v := (-1)) hx hb dX9_dear_10 rfl ?_
    refine lv_istore_n (lv' := [(1, .int (-1 : Int32)), (0, .ref (ad 0))]) hx hb dX9_dear_11 rfl hl (by decide) rfl (fun ls hl => ?_)
    refine lv_iconst (v := 0) hx hb dX9_dear_12 rfl ?_
    refine lv_istore_n (lv' := [(2, .int (0 : Int32)), (1, .int (-1 : Int32)), (0, .ref (ad 0))]) hx hb dX9_dear_13 rfl hl (by decide) rfl (fun ls hl => ?_)
    refine lv_iconst (v := 0) hx hb dX9_dear_14 rfl ?_
    refine lv_istore_n (lv' := [(3, .int (0 : Int32)), (2, .int (0 : Int32)), (1, .int (-1 : Int32)), (0, .ref (ad 0))]) hx hb dX9_dear_15 rfl hl (by decide) rfl (fun ls hl => ?_)
    obtain ⟨t_4, h_5, hf⟩ := sn_bd hf
    exact wX9_dear_L16 C  h_5 (fun v e => by cases e; exact wX9_dear_61 C  hf kr) _ _ _ hw (lv_sub hl [3, 2, 1, 0] rfl)
  · have hf := sn_if c_3 hf
    refine lv_bipush (v := (-2)) hx hb dX9_dear_7 (by decide) ?_
    cases hf
    exact kr _ _ _ _ hw rfl dX9_dear_9
theorem ctX9_dear (l : Launch) {σ : sn_S}  {o : (Int32 × sn_S)} (hf : fX9_dear σ = some o) : sn_M l yX9_dear cX9_dear 5 (some .int) rmX9_dear layM (fun ad => [.ref (ad 0)]) σ (some (fun _ => .int o.1)) o.2 :=
  sn_met (by decide) (fun _ => Nat.le_of_ble_eq_true rfl) (fun p e s m args below meth c ls D ct ad A C hw hl => wX9_dear_in C  hf (fun H locs ls pc hw ok hd => sn_iret C hw hd) _ _ _ hw hl)
-- X9_reserve
abbrev rmX9_reserve : Room := { frames := 5, cells := 0, slots := 0, locals := 117 }
def BX9_reserve_46 (σ : sn_S) : Option ((Int32 × sn_S)) :=
  (if (1000 : Int32) ≤ (sn_I σ 0 21) then
  (some ((-1 : Int32), σ))
  else
  (some ((sn_I σ 0 21), σ)))
def BX9_reserve_15 (σ : sn_S) : Option ((sn_S) ⊕ (sn_S)) :=
  (if (1000 : Int32) ≤ (sn_I σ 0 21) then
  (some (.inr (σ)))
  else
  ((fX9_ruinOf σ).bind fun t_2 => (if t_2.1 = (-1 : Int32) then
  (some (.inr (t_2.2)))
  else
  (sn_lt (sn_pI t_2.2 0 21 ((sn_I t_2.2 0 21) + (1 : Int32))) fun σ_5 => (some (.inl (σ_5)))))))
def LX9_reserve_15  (s : sn_S) : Option ((sn_S) ⊕ (sn_S)) := BX9_reserve_15 s
def fX9_reserve (σ : sn_S) : Option (Int32 × sn_S) :=
  ((fX9_asksHouse σ).bind fun t_1 => (if t_1.1 = 0 then
  (some ((-2 : Int32), t_1.2))
  else
  (sn_lt (sn_pI t_1.2 0 21 (0 : Int32)) fun σ_4 => ((sn_it (LX9_reserve_15 ) 5000 (σ_4)).bind fun t_6 => (BX9_reserve_46 t_6)))))
theorem wX9_reserve_46 (C : sn_C p s m args meth c RX9 cX9_reserve 1 (some .int) D ct ad layM A) {σ : sn_S}  {o : (Int32 × sn_S)} (hf : BX9_reserve_46 σ = some o) (kr : sn_Kr p l e rmX9_reserve s m args below meth c Q D ct ad layM A cX9_reserve .ireturn (true) o.2 [.int o.1]) : sn_At p l e rmX9_reserve s m args below meth c Q D ct ad layM A 1 σ 46 [(0, .ref (ad 0))] [] := by
  intro H locs ls hw hl
  have hx := C.1
  have hb := C.2.1
  unfold BX9_reserve_46 at hf
  refine lv_aload_n hx hb dX9_reserve_46 rfl (lv_at hl 0 rfl) ?_
  refine sn_getI C hw fd_RX9_246 layM_0 rfl dX9_reserve_47 ?_
  refine lv_sipush (v := 1000) hx hb dX9_reserve_50 (by decide) ?_
  refine lv_icmp_ge (tgt := 63) hx hb dX9_reserve_53 (by decide) (fun c_1 => ?_) (fun c_1 => ?_)
  · have hf := sn_if c_1 hf
    refine lv_iconst (v := (-1)) hx hb dX9_reserve_63 rfl ?_
    cases hf
    exact kr _ _ _ _ hw rfl dX9_reserve_64
  · have hf := sn_el c_1 hf
    refine lv_aload_n hx hb dX9_reserve_56 rfl (lv_at hl 0 rfl) ?_
    refine sn_getI C hw fd_RX9_246 layM_0 rfl dX9_reserve_57 ?_
    refine lv_goto (tgt := 64) hx hb dX9_reserve_60 (by decide) ?_
    cases hf
    exact kr _ _ _ _ hw rfl dX9_reserve_64
theorem wX9_reserve_15 (C : sn_C p s m args meth c RX9 cX9_reserve 1 (some .int) D ct ad layM A) {σ : sn_S}  {o : (sn_S) ⊕ (sn_S)} (hf : BX9_reserve_15 σ = some o) (kc : ∀ v, o = .inl v → sn_At p l e rmX9_reserve s m args below meth c Q D ct ad layM A 1 v 15 [(0, .ref (ad 0))] []) (kx : ∀ v, o = .inr v → sn_At p l e rmX9_reserve s m args below meth c Q D ct ad layM A 1 v 46 [(0, .ref (ad 0))] []) : sn_At p l e rmX9_reserve s m args below meth c Q D ct ad layM A 1 σ 15 [(0, .ref (ad 0))] [] := by
  intro H locs ls hw hl
  have hx := C.1
  have hb := C.2.1
  unfold BX9_reserve_15 at hf
  refine lv_aload_n hx hb dX9_reserve_15 rfl (lv_at hl 0 rfl) ?_
  refine sn_getI C hw fd_RX9_246 layM_0 rfl dX9_reserve_16 ?_
  refine lv_sipush (v := 1000) hx hb dX9_reserve_19 (by decide) ?_
  refine lv_icmp_ge (tgt := 46) hx hb dX9_reserve_22 (by decide) (fun c_1 => ?_) (fun c_1 => ?_)
  · have hf := sn_if c_1 hf
    cases hf
    exact kx _ rfl _ _ _ hw (lv_sub hl [0] rfl)
  · have hf := sn_el c_1 hf
    refine lv_aload_n hx hb dX9_reserve_25 rfl (lv_at hl 0 rfl) ?_
    obtain ⟨t_2, h_3, hf⟩ := sn_bd hf
    refine sn_callVi (rest := []) C hw (ctX9_ruinOf l  h_3) kl_RX9_329 layM_0 rfl rfl rfl rfl (Nat.le_of_ble_eq_true rfl) dX9_reserve_26 hl.1 (fun H locs hw => ?_)
    refine lv_iconst (v := (-1)) hx hb dX9_reserve_29 rfl ?_
    refine lv_icmp_eq (tgt := 46) hx hb dX9_reserve_30 (by decide) (fun c_4 => ?_) (fun c_4 => ?_)
    · have hf := sn_if c_4 hf
      cases hf
      exact kx _ rfl _ _ _ hw (lv_sub hl [0] rfl)
    · have hf := sn_el c_4 hf
      refine lv_aload_n hx hb dX9_reserve_33 rfl (lv_at hl 0 rfl) ?_
      refine lv_dup hx hb dX9_reserve_34 rfl ?_
      refine sn_getI C hw fd_RX9_246 layM_0 rfl dX9_reserve_35 ?_
      refine lv_iconst (v := 1) hx hb dX9_reserve_38 rfl ?_
      refine lv_iadd hx hb dX9_reserve_39 ?_
      refine sn_putI C hw fp_RX9_246 layM_0 rfl dX9_reserve_40 (fun H locs hw => ?_)
      obtain ⟨σ_5, e_6, hf⟩ := sn_ltE hf
      rw [← e_6] at hw
      refine lv_goto (tgt := 15) hx hb dX9_reserve_43 (by decide) ?_
      cases hf
      exact kc _ rfl _ _ _ hw (lv_sub hl [0] rfl)
theorem wX9_reserve_L15 (C : sn_C p s m args meth c RX9 cX9_reserve 1 (some .int) D ct ad layM A)    {z : sn_S} {t : sn_S} (h : sn_it (LX9_reserve_15 ) 5000 z = some t) (kx : ∀ v, t = v → sn_At p l e rmX9_reserve s m args below meth c Q D ct ad layM A 1 v 46 [(0, .ref (ad 0))] []) : sn_At p l e rmX9_reserve s m args below meth c Q D ct ad layM A 1 z 15 [(0, .ref (ad 0))] [] :=
  sn_loop (f := LX9_reserve_15 ) (G := fun z => sn_At p l e rmX9_reserve s m args below meth c Q D ct ad layM A 1 z 15 [(0, .ref (ad 0))] []) (E := fun t => (∀ v, t = v → sn_At p l e rmX9_reserve s m args below meth c Q D ct ad layM A 1 v 46 [(0, .ref (ad 0))] []) ∧ True) (fun z o hf k1 k2 => wX9_reserve_15 C  hf (fun v e => k1 v e) (fun v e => (k2 _ e).1 v rfl)) 5000 z t h ⟨kx, trivial⟩
theorem wX9_reserve_in (C : sn_C p s m args meth c RX9 cX9_reserve 1 (some .int) D ct ad layM A) {σ : sn_S}  {o : (Int32 × sn_S)} (hf : fX9_reserve σ = some o) (kr : sn_Kr p l e rmX9_reserve s m args below meth c Q D ct ad layM A cX9_reserve .ireturn (true) o.2 [.int o.1]) : sn_At p l e rmX9_reserve s m args below meth c Q D ct ad layM A 1 σ 0 [(0, .ref (ad 0))] [] := by
  intro H locs ls hw hl
  have hx := C.1
  have hb := C.2.1
  unfold fX9_reserve at hf
  refine lv_aload_n hx hb dX9_reserve_0 rfl (lv_at hl 0 rfl) ?_
  obtain ⟨t_1, h_2, hf⟩ := sn_bd hf
  refine sn_callVi (rest := []) C hw (ctX9_asksHouse l  h_2) kl_RX9_272 layM_0 rfl rfl rfl rfl (Nat.le_of_ble_eq_true rfl) dX9_reserve_1 hl.1 (fun H locs hw => ?_)
  refine lv_if_ne (tgt := 10) hx hb dX9_reserve_4 (by decide) (fun c_3 => ?_) (fun c_3 => ?_)
  · have hf := sn_el c_3 hf
    refine lv_aload_n hx hb dX9_reserve_10 rfl (lv_at hl 0 rfl) ?_
    refine lv_iconst (v := 0) hx hb dX9_reserve_11 rfl ?_
    refine sn_putI C hw fp_RX9_246 layM_0 rfl dX9_reserve_12 (fun H locs hw => ?_)
    obtain ⟨σ_4, e_5, hf⟩ := sn_ltE hf
    rw [← e_5] at hw
    obtain ⟨t_6, h_7, hf⟩ := sn_bd hf
    exact wX9_reserve_L15 C  h_7 (fun v e => by cases e; exact wX9_reserve_46 C  hf kr) _ _ _ hw (lv_sub hl [0] rfl)
  · have hf := sn_if c_3 hf
    refine lv_bipush (v := (-2)) hx hb dX9_reserve_7 (by decide) ?_
    cases hf
    exact kr _ _ _ _ hw rfl dX9_reserve_9
theorem ctX9_reserve (l : Launch) {σ : sn_S}  {o : (Int32 × sn_S)} (hf : fX9_reserve σ = some o) : sn_M l yX9_reserve cX9_reserve 1 (some .int) rmX9_reserve layM (fun ad => [.ref (ad 0)]) σ (some (fun _ => .int o.1)) o.2 :=
  sn_met (by decide) (fun _ => Nat.le_of_ble_eq_true rfl) (fun p e s m args below meth c ls D ct ad A C hw hl => wX9_reserve_in C  hf (fun H locs ls pc hw ok hd => sn_iret C hw hd) _ _ _ hw hl)
-- X9_byLaw
abbrev rmX9_byLaw : Room := { frames := 4, cells := 0, slots := 0, locals := 96 }
def fX9_byLaw (σ : sn_S) (x1 : Int32) : Option (Int32 × sn_S) :=
  (sn_lt (sn_pI σ 0 20 x1) fun σ_1 => ((fX9_layPaid σ_1).bind fun t_3 => ((fX9_moneyAt t_3 (sn_I t_3 0 22)).bind fun t_5 => (some (t_5, t_3)))))
theorem wX9_byLaw_in (C : sn_C p s m args meth c RX9 cX9_byLaw 2 (some .int) D ct ad layM A) {σ : sn_S} {x1 : Int32}  {o : (Int32 × sn_S)} (hf : fX9_byLaw σ x1 = some o) (kr : sn_Kr p l e rmX9_byLaw s m args below meth c Q D ct ad layM A cX9_byLaw .ireturn (true) o.2 [.int o.1]) : sn_At p l e rmX9_byLaw s m args below meth c Q D ct ad layM A 2 σ 0 [(0, .ref (ad 0)), (1, .int x1)] [] := by
  intro H locs ls hw hl
  have hx := C.1
  have hb := C.2.1
  unfold fX9_byLaw at hf
  refine lv_aload_n hx hb dX9_byLaw_0 rfl (lv_at hl 0 rfl) ?_
  refine lv_iload_n hx hb dX9_byLaw_1 rfl (lv_at hl 1 rfl) ?_
  refine sn_putI C hw fp_RX9_243 layM_0 rfl dX9_byLaw_2 (fun H locs hw => ?_)
  obtain ⟨σ_1, e_2, hf⟩ := sn_ltE hf
  rw [← e_2] at hw
  refine lv_aload_n hx hb dX9_byLaw_5 rfl (lv_at hl 0 rfl) ?_
  obtain ⟨t_3, h_4, hf⟩ := sn_bd hf
  refine sn_callVv (rest := []) C hw (ctX9_layPaid l  h_4) kl_RX9_317 layM_0 rfl rfl rfl rfl (Nat.le_of_ble_eq_true rfl) dX9_byLaw_6 hl.1 (fun H locs hw => ?_)
  refine lv_aload_n hx hb dX9_byLaw_9 rfl (lv_at hl 0 rfl) ?_
  refine lv_aload_n hx hb dX9_byLaw_10 rfl (lv_at hl 0 rfl) ?_
  refine sn_getI C hw fd_RX9_251 layM_0 rfl dX9_byLaw_11 ?_
  obtain ⟨t_5, h_6, hf⟩ := sn_bd hf
  refine sn_callVi (rest := []) C hw (ctX9_moneyAt l  h_6) kl_RX9_320 layM_0 rfl rfl rfl rfl (Nat.le_of_ble_eq_true rfl) dX9_byLaw_14 hl.1 (fun H locs hw => ?_)
  cases hf
  exact kr _ _ _ _ hw rfl dX9_byLaw_17
theorem ctX9_byLaw (l : Launch) {σ : sn_S} {x1 : Int32}  {o : (Int32 × sn_S)} (hf : fX9_byLaw σ x1 = some o) : sn_M l yX9_byLaw cX9_byLaw 2 (some .int) rmX9_byLaw layM (fun ad => [.ref (ad 0), .int x1]) σ (some (fun _ => .int o.1)) o.2 :=
  sn_met (by decide) (fun _ => Nat.le_of_ble_eq_true rfl) (fun p e s m args below meth c ls D ct ad A C hw hl => wX9_byLaw_in C  hf (fun H locs ls pc hw ok hd => sn_iret C hw hd) _ _ _ hw hl)
-- X9_by
abbrev rmX9_by : Room := { frames := 5, cells := 0, slots := 0, locals := 117 }
def BX9_by_22 (σ : sn_S) : Option ((Int32 × sn_S)) :=
  (some ((-100000 : Int32), σ))
def fX9_by (σ : sn_S) (x1 : Int32) : Option (Int32 × sn_S) :=
  ((fX9_asksHouse σ).bind fun t_1 => (if t_1.1 = 0 then
  (BX9_by_22 t_1.2)
  else
  ((fX9_isLaw x1).bind fun t_4 => (if t_4 = 0 then
  (BX9_by_22 t_1.2)
  else
  ((fX9_byLaw t_1.2 x1).bind fun t_7 => (some (t_7.1, t_7.2)))))))
theorem wX9_by_22 (C : sn_C p s m args meth c RX9 cX9_by 2 (some .int) D ct ad layM A) {σ : sn_S}  {o : (Int32 × sn_S)} (hf : BX9_by_22 σ = some o) (kr : sn_Kr p l e rmX9_by s m args below meth c Q D ct ad layM A cX9_by .ireturn (true) o.2 [.int o.1]) : sn_At p l e rmX9_by s m args below meth c Q D ct ad layM A 2 σ 22 [] [] := by
  intro H locs ls hw hl
  have hx := C.1
  have hb := C.2.1
  unfold BX9_by_22 at hf
  refine lv_ldcw hx hb C.2.2.2.1 (C.2.2.2.2.1 _ kk_RX9_328) dX9_by_22 ?_
  cases hf
  exact kr _ _ _ _ hw rfl dX9_by_25
theorem wX9_by_in (C : sn_C p s m args meth c RX9 cX9_by 2 (some .int) D ct ad layM A) {σ : sn_S} {x1 : Int32}  {o : (Int32 × sn_S)} (hf : fX9_by σ x1 = some o) (kr : sn_Kr p l e rmX9_by s m args below meth c Q D ct ad layM A cX9_by .ireturn (true) o.2 [.int o.1]) : sn_At p l e rmX9_by s m args below meth c Q D ct ad layM A 2 σ 0 [(0, .ref (ad 0)), (1, .int x1)] [] := by
  intro H locs ls hw hl
  have hx := C.1
  have hb := C.2.1
  unfold fX9_by at hf
  refine lv_aload_n hx hb dX9_by_0 rfl (lv_at hl 0 rfl) ?_
  obtain ⟨t_1, h_2, hf⟩ := sn_bd hf
  refine sn_callVi (rest := []) C hw (ctX9_asksHouse l  h_2) kl_RX9_272 layM_0 rfl rfl rfl rfl (Nat.le_of_ble_eq_true rfl) dX9_by_1 hl.1 (fun H locs hw => ?_)
  refine lv_if_eq (tgt := 22) hx hb dX9_by_4 (by decide) (fun c_3 => ?_) (fun c_3 => ?_)
  · have hf := sn_if c_3 hf
    exact wX9_by_22 C  hf kr _ _ _ hw (lv_sub hl [] rfl)
  · have hf := sn_el c_3 hf
    refine lv_iload_n hx hb dX9_by_7 rfl (lv_at hl 1 rfl) ?_
    obtain ⟨t_4, h_5, hf⟩ := sn_bd hf
    refine sn_callSi (rest := []) C hw (ctX9_isLaw l  h_5) kl_RX9_335 rfl rfl rfl (Nat.le_of_ble_eq_true rfl) dX9_by_8 hl.1 (fun H locs hw => ?_)
    refine lv_if_eq (tgt := 22) hx hb dX9_by_11 (by decide) (fun c_6 => ?_) (fun c_6 => ?_)
    · have hf := sn_if c_6 hf
      exact wX9_by_22 C  hf kr _ _ _ hw (lv_sub hl [] rfl)
    · have hf := sn_el c_6 hf
      refine lv_aload_n hx hb dX9_by_14 rfl (lv_at hl 0 rfl) ?_
      refine lv_iload_n hx hb dX9_by_15 rfl (lv_at hl 1 rfl) ?_
      obtain ⟨t_7, h_8, hf⟩ := sn_bd hf
      refine sn_callVi (rest := []) C hw (ctX9_byLaw l  h_8) kl_RX9_338 layM_0 rfl rfl rfl rfl (Nat.le_of_ble_eq_true rfl) dX9_by_16 hl.1 (fun H locs hw => ?_)
      refine lv_goto (tgt := 25) hx hb dX9_by_19 (by decide) ?_
      cases hf
      exact kr _ _ _ _ hw rfl dX9_by_25
theorem ctX9_by (l : Launch) {σ : sn_S} {x1 : Int32}  {o : (Int32 × sn_S)} (hf : fX9_by σ x1 = some o) : sn_M l yX9_by cX9_by 2 (some .int) rmX9_by layM (fun ad => [.ref (ad 0), .int x1]) σ (some (fun _ => .int o.1)) o.2 :=
  sn_met (by decide) (fun _ => Nat.le_of_ble_eq_true rfl) (fun p e s m args below meth c ls D ct ad A C hw hl => wX9_by_in C  hf (fun H locs ls pc hw ok hd => sn_iret C hw hd) _ _ _ hw hl)
end
