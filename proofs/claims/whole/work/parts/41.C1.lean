section
variable {p : Program} {l : Launch} {e : Env} {s : State} {m : MethodId} {args : Array Value} {below : List Frame} {meth : Method} {c : Code} {Q : State → Prop} {D : va_G} {ct : Nat → ClassId} {ad : Nat → Nat}
-- X0_cameAt
abbrev rmX0_cameAt : Room := { frames := 0, cells := 0, slots := 0, locals := 0 }
def fX0_cameAt (σ : sn_S) (q0 : Nat) (x1 : Int32) (x2 : Int32) : Option Int32 :=
  (sn_gd (sn_in (((6 : Int32) * x2) + x1) 180) (some (sn_I σ (q0 + 8) (((6 : Int32) * x2) + x1).toNatClampNeg)))
theorem wX0_cameAt_in (C : sn_C p s m args meth c RX0 cX0_cameAt 3 (some .int) D ct ad layC) {σ : sn_S} {q0 : Nat} {x1 : Int32} {x2 : Int32} (h0 : sn_isX0 q0) {o : Int32} (hf : fX0_cameAt σ q0 x1 x2 = some o) (kr : sn_Kr p l e rmX0_cameAt s m args below meth c Q D ct ad layC cX0_cameAt .ireturn (true) σ [.int o]) : sn_At p l e rmX0_cameAt s m args below meth c Q D ct ad layC 3 σ 0 [(0, .ref (ad q0)), (1, .int x1), (2, .int x2)] [] := by
  intro H locs ls hw hl
  have hx := C.1
  have hb := C.2.1
  unfold fX0_cameAt at hf
  refine lv_aload_n hx hb dX0_cameAt_0 rfl (lv_at hl 0 rfl) ?_
  refine sn_getC (r := (q0 + 8)) C hw fd_RX0_37 (sn_look h0 (k := 0) rfl) rfl dX0_cameAt_1 ?_
  refine lv_bipush (v := 6) hx hb dX0_cameAt_4 (by decide) ?_
  refine lv_iload_n hx hb dX0_cameAt_6 rfl (lv_at hl 2 rfl) ?_
  refine lv_imul hx hb dX0_cameAt_7 ?_
  refine lv_iload_n hx hb dX0_cameAt_8 rfl (lv_at hl 1 rfl) ?_
  refine lv_iadd hx hb dX0_cameAt_9 ?_
  obtain ⟨g_1, hf⟩ := sn_gdE hf
  refine sn_iald C hw (sn_look h0 (k := 8) rfl) g_1 dX0_cameAt_10 ?_
  cases hf
  exact kr _ _ _ _ hw rfl dX0_cameAt_11
theorem ctX0_cameAt (l : Launch) {σ : sn_S} {q0 : Nat} {x1 : Int32} {x2 : Int32} (h0 : sn_isX0 q0) {o : Int32} (hf : fX0_cameAt σ q0 x1 x2 = some o) : sn_M l yX0_cameAt cX0_cameAt 3 (some .int) rmX0_cameAt layC (fun ad => [.ref (ad q0), .int x1, .int x2]) σ (some (fun _ => .int o)) σ :=
  sn_met (by decide) (fun _ => Nat.le_of_ble_eq_true rfl) (fun p e s m args below meth c ls D ct ad C hw hl => wX0_cameAt_in C h0 hf (fun H locs ls pc hw ok hd => sn_iret C hw hd) _ _ _ hw hl)
-- X0_comesTo
abbrev rmX0_comesTo : Room := { frames := 1, cells := 0, slots := 0, locals := 22 }
def BX0_comesTo_19 (σ : sn_S) (q0 : Nat) (x1 : Int32) (x2 : Int32) (t0 : Int32) : Option (Int32) :=
  (sn_gd (sn_in x1 6) (sn_gd (sn_in x2 30) ((fX0_cameAt σ q0 x1 x2).bind fun t_3 => (some ((((sn_I σ (q0 + 2) x1.toNatClampNeg) * (sn_I σ (q0 + 1) x2.toNatClampNeg)) + t_3) + t0)))))
def fX0_comesTo (σ : sn_S) (q0 : Nat) (x1 : Int32) (x2 : Int32) : Option Int32 :=
  (sn_gd (sn_in x1 6) ((fX8_hasBit (sn_I σ (q0 + 5) x1.toNatClampNeg) x2).bind fun t_2 => (if t_2 = 0 then
  (BX0_comesTo_19 σ q0 x1 x2 (0 : Int32))
  else
  (BX0_comesTo_19 σ q0 x1 x2 (40 : Int32)))))
theorem wX0_comesTo_19 (C : sn_C p s m args meth c RX0 cX0_comesTo 4 (some .int) D ct ad layC) {σ : sn_S} {q0 : Nat} {x1 : Int32} {x2 : Int32} {t0 : Int32} (h0 : sn_isX0 q0) {o : Int32} (hf : BX0_comesTo_19 σ q0 x1 x2 t0 = some o) (kr : sn_Kr p l e rmX0_comesTo s m args below meth c Q D ct ad layC cX0_comesTo .ireturn (true) σ [.int o]) : sn_At p l e rmX0_comesTo s m args below meth c Q D ct ad layC 4 σ 19 [(0, .ref (ad q0)), (1, .int x1), (2, .int x2)] [.int t0] := by
  intro H locs ls hw hl
  have hx := C.1
  have hb := C.2.1
  unfold BX0_comesTo_19 at hf
  refine lv_istore_n (lv' := [(3, .int t0), (0, .ref (ad q0)), (1, .int x1), (2, .int x2)]) hx hb dX0_comesTo_19 rfl hl (by decide) rfl (fun ls hl => ?_)
  refine lv_aload_n hx hb dX0_comesTo_20 rfl (lv_at hl 1 rfl) ?_
  refine sn_getC (r := (q0 + 2)) C hw fd_RX0_19 (sn_look h0 (k := 0) rfl) rfl dX0_comesTo_21 ?_
  refine lv_iload_n hx hb dX0_comesTo_24 rfl (lv_at hl 2 rfl) ?_
  obtain ⟨g_1, hf⟩ := sn_gdE hf
  refine sn_iald C hw (sn_look h0 (k := 2) rfl) g_1 dX0_comesTo_25 ?_
  refine lv_aload_n hx hb dX0_comesTo_26 rfl (lv_at hl 1 rfl) ?_
  refine sn_getC (r := (q0 + 1)) C hw fd_RX0_15 (sn_look h0 (k := 0) rfl) rfl dX0_comesTo_27 ?_
  refine lv_iload_n hx hb dX0_comesTo_30 rfl (lv_at hl 3 rfl) ?_
  obtain ⟨g_2, hf⟩ := sn_gdE hf
  refine sn_iald C hw (sn_look h0 (k := 1) rfl) g_2 dX0_comesTo_31 ?_
  refine lv_imul hx hb dX0_comesTo_32 ?_
  refine lv_aload_n hx hb dX0_comesTo_33 rfl (lv_at hl 1 rfl) ?_
  refine lv_iload_n hx hb dX0_comesTo_34 rfl (lv_at hl 2 rfl) ?_
  refine lv_iload_n hx hb dX0_comesTo_35 rfl (lv_at hl 3 rfl) ?_
  obtain ⟨t_3, h_4, hf⟩ := sn_bd hf
  refine sn_callVi (rest := [.int ((sn_I σ (q0 + 2) x1.toNatClampNeg) * (sn_I σ (q0 + 1) x2.toNatClampNeg))]) C hw (ctX0_cameAt l h0 h_4) kl_RX0_105 (sn_look h0 (k := 0) rfl) rfl rfl rfl rfl (Nat.le_of_ble_eq_true rfl) dX0_comesTo_36 hl.1 (fun H locs hw => ?_)
  refine lv_iadd hx hb dX0_comesTo_39 ?_
  refine lv_iload_n hx hb dX0_comesTo_40 rfl (lv_at hl 0 rfl) ?_
  refine lv_iadd hx hb dX0_comesTo_41 ?_
  cases hf
  exact kr _ _ _ _ hw rfl dX0_comesTo_42
theorem wX0_comesTo_in (C : sn_C p s m args meth c RX0 cX0_comesTo 4 (some .int) D ct ad layC) {σ : sn_S} {q0 : Nat} {x1 : Int32} {x2 : Int32} (h0 : sn_isX0 q0) {o : Int32} (hf : fX0_comesTo σ q0 x1 x2 = some o) (kr : sn_Kr p l e rmX0_comesTo s m args below meth c Q D ct ad layC cX0_comesTo .ireturn (true) σ [.int o]) : sn_At p l e rmX0_comesTo s m args below meth c Q D ct ad layC 4 σ 0 [(0, .ref (ad q0)), (1, .int x1), (2, .int x2)] [] := by
  intro H locs ls hw hl
  have hx := C.1
  have hb := C.2.1
  unfold fX0_comesTo at hf
  refine lv_aload_n hx hb dX0_comesTo_0 rfl (lv_at hl 0 rfl) ?_
  refine sn_getC (r := (q0 + 5)) C hw fd_RX0_28 (sn_look h0 (k := 0) rfl) rfl dX0_comesTo_1 ?_
  refine lv_iload_n hx hb dX0_comesTo_4 rfl (lv_at hl 1 rfl) ?_
  obtain ⟨g_1, hf⟩ := sn_gdE hf
  refine sn_iald C hw (sn_look h0 (k := 5) rfl) g_1 dX0_comesTo_5 ?_
  refine lv_iload_n hx hb dX0_comesTo_6 rfl (lv_at hl 2 rfl) ?_
  obtain ⟨t_2, h_3, hf⟩ := sn_bd hf
  refine sn_callNi (rest := []) C hw (ctX8_hasBit l  h_3) kl_RX0_98 rfl rfl rfl (Nat.le_of_ble_eq_true rfl) dX0_comesTo_7 hl.1 (fun H locs hw => ?_)
  refine lv_if_eq (tgt := 18) hx hb dX0_comesTo_10 (by decide) (fun c_4 => ?_) (fun c_4 => ?_)
  · have hf := sn_if c_4 hf
    refine lv_iconst (v := 0) hx hb dX0_comesTo_18 rfl ?_
    exact wX0_comesTo_19 C h0 hf kr _ _ _ hw (lv_sub hl [0, 1, 2] rfl)
  · have hf := sn_el c_4 hf
    refine lv_bipush (v := 40) hx hb dX0_comesTo_13 (by decide) ?_
    refine lv_goto (tgt := 19) hx hb dX0_comesTo_15 (by decide) ?_
    exact wX0_comesTo_19 C h0 hf kr _ _ _ hw (lv_sub hl [0, 1, 2] rfl)
theorem ctX0_comesTo (l : Launch) {σ : sn_S} {q0 : Nat} {x1 : Int32} {x2 : Int32} (h0 : sn_isX0 q0) {o : Int32} (hf : fX0_comesTo σ q0 x1 x2 = some o) : sn_M l yX0_comesTo cX0_comesTo 4 (some .int) rmX0_comesTo layC (fun ad => [.ref (ad q0), .int x1, .int x2]) σ (some (fun _ => .int o)) σ :=
  sn_met (by decide) (fun _ => Nat.le_of_ble_eq_true rfl) (fun p e s m args below meth c ls D ct ad C hw hl => wX0_comesTo_in C h0 hf (fun H locs ls pc hw ok hd => sn_iret C hw hd) _ _ _ hw hl)
-- X0_liveMinute
abbrev rmX0_liveMinute : Room := { frames := 2, cells := 0, slots := 0, locals := 45 }
def BX0_liveMinute_115 (σ : sn_S) (q0 : Nat) (x1 : Int32) (x3 : Int32) : Option (sn_S) :=
  (sn_gd (sn_in x1 30) (sn_lt (sn_pI σ (q0 + 9) x1.toNatClampNeg x3) fun σ_2 => (some σ_2)))
def BX0_liveMinute_98 (σ : sn_S) (q0 : Nat) (x1 : Int32) (x2 : Int32) (x3 : Int32) (x4 : Int32) (x5 : Int32) : Option ((sn_S × Int32 × Int32) ⊕ (sn_S × Int32)) :=
  (sn_gd (sn_in (x2 + x4) 180) (sn_lt (sn_pI σ (q0 + 7) (x2 + x4).toNatClampNeg x5) fun σ_2 => (sn_lt (x4 + 1) fun y_4 => (some (.inl (σ_2, x3, y_4))))))
def BX0_liveMinute_46 (σ : sn_S) (q0 : Nat) (x1 : Int32) (x2 : Int32) (x3 : Int32) (x4 : Int32) (t0 : Int32) (t1 : Int32) : Option ((sn_S × Int32 × Int32) ⊕ (sn_S × Int32)) :=
  (sn_lt (t0 + t1) fun y_1 => (sn_gd (sn_in x4 6) (if y_1 < (sn_I σ (q0 + 3) x4.toNatClampNeg) then
  (BX0_liveMinute_98 σ q0 x1 x2 x3 x4 y_1)
  else
  (sn_gd (sn_in x4 6) ((fX8_hasBit (sn_I σ (q0 + 4) x4.toNatClampNeg) x1).bind fun t_6 => (if t_6 = 0 then
  (sn_lt (x3 ||| ((1 : Int32) <<< (x4 &&& 31))) fun y_9 => (sn_gd (sn_in x4 6) (sn_gd (sn_in x4 6) (sn_lt (sn_pI σ (q0 + 10) x4.toNatClampNeg ((sn_I σ (q0 + 10) x4.toNatClampNeg) ||| ((1 : Int32) <<< (x1 &&& 31)))) fun σ_13 => (BX0_liveMinute_98 σ_13 q0 x1 x2 y_9 x4 (0 : Int32))))))
  else
  (BX0_liveMinute_98 σ q0 x1 x2 x3 x4 y_1)))))))
def BX0_liveMinute_10 (σ : sn_S) (q0 : Nat) (x1 : Int32) (x2 : Int32) (x3 : Int32) (x4 : Int32) : Option ((sn_S × Int32 × Int32) ⊕ (sn_S × Int32)) :=
  (if (sn_I σ q0 1) ≤ x4 then
  (some (.inr (σ, x3)))
  else
  ((fX0_comesTo σ q0 x4 x1).bind fun t_2 => (if x1 = 0 then
  (BX0_liveMinute_46 σ q0 x1 x2 x3 x4 t_2 (0 : Int32))
  else
  (sn_gd (sn_in ((x2 - (6 : Int32)) + x4) 180) (BX0_liveMinute_46 σ q0 x1 x2 x3 x4 t_2 (sn_I σ (q0 + 7) ((x2 - (6 : Int32)) + x4).toNatClampNeg))))))
def LX0_liveMinute_10 (q0 : Nat) (x1 : Int32) (x2 : Int32) (s : sn_S × Int32 × Int32) : Option ((sn_S × Int32 × Int32) ⊕ (sn_S × Int32)) := BX0_liveMinute_10 s.1 q0 x1 x2 s.2.1 s.2.2
def fX0_liveMinute (σ : sn_S) (q0 : Nat) (x1 : Int32) : Option sn_S :=
  (sn_lt ((6 : Int32) * x1) fun y_1 => ((sn_it (LX0_liveMinute_10 q0 x1 y_1) 5000 (σ, (0 : Int32), (0 : Int32))).bind fun t_3 => (BX0_liveMinute_115 t_3.1 q0 x1 t_3.2)))
theorem wX0_liveMinute_115 (C : sn_C p s m args meth c RX0 cX0_liveMinute 6 none D ct ad layC) {σ : sn_S} {q0 : Nat} {x1 : Int32} {x3 : Int32} (h0 : sn_isX0 q0) {o : sn_S} (hf : BX0_liveMinute_115 σ q0 x1 x3 = some o) (kr : sn_Kr p l e rmX0_liveMinute s m args below meth c Q D ct ad layC cX0_liveMinute .return_ (true) o []) : sn_At p l e rmX0_liveMinute s m args below meth c Q D ct ad layC 6 σ 115 [(0, .ref (ad q0)), (1, .int x1), (3, .int x3)] [] := by
  intro H locs ls hw hl
  have hx := C.1
  have hb := C.2.1
  unfold BX0_liveMinute_115 at hf
  refine lv_aload_n hx hb dX0_liveMinute_115 rfl (lv_at hl 0 rfl) ?_
  refine sn_getC (r := (q0 + 9)) C hw fd_RX0_40 (sn_look h0 (k := 0) rfl) rfl dX0_liveMinute_116 ?_
  refine lv_iload_n hx hb dX0_liveMinute_119 rfl (lv_at hl 1 rfl) ?_
  refine lv_iload_n hx hb dX0_liveMinute_120 rfl (lv_at hl 2 rfl) ?_
  obtain ⟨g_1, hf⟩ := sn_gdE hf
  refine sn_iast C hw (sn_look h0 (k := 9) rfl) g_1 dX0_liveMinute_121 (fun H locs hw => ?_)
  obtain ⟨σ_2, e_3, hf⟩ := sn_ltE hf
  rw [← e_3] at hw
  cases hf
  exact kr _ _ _ _ hw rfl dX0_liveMinute_122
theorem wX0_liveMinute_98 (C : sn_C p s m args meth c RX0 cX0_liveMinute 6 none D ct ad layC) {σ : sn_S} {q0 : Nat} {x1 : Int32} {x2 : Int32} {x3 : Int32} {x4 : Int32} {x5 : Int32} (h0 : sn_isX0 q0) {o : (sn_S × Int32 × Int32) ⊕ (sn_S × Int32)} (hf : BX0_liveMinute_98 σ q0 x1 x2 x3 x4 x5 = some o) (kc : ∀ v, o = .inl v → sn_At p l e rmX0_liveMinute s m args below meth c Q D ct ad layC 6 v.1 10 [(0, .ref (ad q0)), (1, .int x1), (2, .int x2), (3, .int v.2.1), (4, .int v.2.2)] []) (kx : ∀ v, o = .inr v → sn_At p l e rmX0_liveMinute s m args below meth c Q D ct ad layC 6 v.1 115 [(0, .ref (ad q0)), (1, .int x1), (3, .int v.2)] []) : sn_At p l e rmX0_liveMinute s m args below meth c Q D ct ad layC 6 σ 98 [(0, .ref (ad q0)), (1, .int x1), (2, .int x2), (3, .int x3), (4, .int x4), (5, .int x5)] [] := by
  intro H locs ls hw hl
  have hx := C.1
  have hb := C.2.1
  unfold BX0_liveMinute_98 at hf
  refine lv_aload_n hx hb dX0_liveMinute_98 rfl (lv_at hl 0 rfl) ?_
  refine sn_getC (r := (q0 + 7)) C hw fd_RX0_34 (sn_look h0 (k := 0) rfl) rfl dX0_liveMinute_99 ?_
  refine lv_iload_n hx hb dX0_liveMinute_102 rfl (lv_at hl 2 rfl) ?_
  refine lv_iload hx hb dX0_liveMinute_103 (lv_at hl 4 rfl) ?_
  refine lv_iadd hx hb dX0_liveMinute_105 ?_
  refine lv_iload hx hb dX0_liveMinute_106 (lv_at hl 5 rfl) ?_
  obtain ⟨g_1, hf⟩ := sn_gdE hf
  refine sn_iast C hw (sn_look h0 (k := 7) rfl) g_1 dX0_liveMinute_108 (fun H locs hw => ?_)
  obtain ⟨σ_2, e_3, hf⟩ := sn_ltE hf
  rw [← e_3] at hw
  obtain ⟨y_4, e_5, hf⟩ := sn_ltE hf
  refine lv_iinc (v := y_4) (lv' := [(4, .int y_4), (0, .ref (ad q0)), (1, .int x1), (2, .int x2), (3, .int x3), (5, .int x5)]) hx hb dX0_liveMinute_109 hl (k := 4) rfl (by rw [e_5]; rfl) (by decide) rfl (fun ls hl => ?_)
  refine lv_goto (tgt := 10) hx hb dX0_liveMinute_112 (by decide) ?_
  cases hf
  exact kc _ rfl _ _ _ hw (lv_sub hl [1, 2, 3, 4, 0] rfl)
theorem wX0_liveMinute_46 (C : sn_C p s m args meth c RX0 cX0_liveMinute 6 none D ct ad layC) {σ : sn_S} {q0 : Nat} {x1 : Int32} {x2 : Int32} {x3 : Int32} {x4 : Int32} {t0 : Int32} {t1 : Int32} (h0 : sn_isX0 q0) {o : (sn_S × Int32 × Int32) ⊕ (sn_S × Int32)} (hf : BX0_liveMinute_46 σ q0 x1 x2 x3 x4 t0 t1 = some o) (kc : ∀ v, o = .inl v → sn_At p l e rmX0_liveMinute s m args below meth c Q D ct ad layC 6 v.1 10 [(0, .ref (ad q0)), (1, .int x1), (2, .int x2), (3, .int v.2.1), (4, .int v.2.2)] []) (kx : ∀ v, o = .inr v → sn_At p l e rmX0_liveMinute s m args below meth c Q D ct ad layC 6 v.1 115 [(0, .ref (ad q0)), (1, .int x1), (3, .int v.2)] []) : sn_At p l e rmX0_liveMinute s m args below meth c Q D ct ad layC 6 σ 46 [(0, .ref (ad q0)), (1, .int x1), (2, .int x2), (3, .int x3), (4, .int x4)] [.int t1, .int t0] := by
  intro H locs ls hw hl
  have hx := C.1
  have hb := C.2.1
  unfold BX0_liveMinute_46 at hf
  refine lv_iadd hx hb dX0_liveMinute_46 ?_
  obtain ⟨y_1, e_2, hf⟩ := sn_ltE hf
  refine lv_topi (fun y_1_ e_2_ => ?_)
  obtain rfl : y_1 = y_1_ := e_2.trans e_2_.symm
  refine lv_istore (lv' := [(5, .int y_1), (0, .ref (ad q0)), (1, .int x1), (2, .int x2), (3, .int x3), (4, .int x4)]) hx hb dX0_liveMinute_47 hl (by decide) rfl (fun ls hl => ?_)
  refine lv_iload hx hb dX0_liveMinute_49 (lv_at hl 0 rfl) ?_
  refine lv_aload_n hx hb dX0_liveMinute_51 rfl (lv_at hl 1 rfl) ?_
  refine sn_getC (r := (q0 + 3)) C hw fd_RX0_22 (sn_look h0 (k := 0) rfl) rfl dX0_liveMinute_52 ?_
  refine lv_iload hx hb dX0_liveMinute_55 (lv_at hl 5 rfl) ?_
  obtain ⟨g_3, hf⟩ := sn_gdE hf
  refine sn_iald C hw (sn_look h0 (k := 3) rfl) g_3 dX0_liveMinute_57 ?_
  refine lv_icmp_lt (tgt := 98) hx hb dX0_liveMinute_58 (by decide) (fun c_4 => ?_) (fun c_4 => ?_)
  · have hf := sn_if c_4 hf
    exact wX0_liveMinute_98 C h0 hf kc kx _ _ _ hw (lv_sub hl [1, 2, 3, 4, 5, 0] rfl)
  · have hf := sn_el c_4 hf
    refine lv_aload_n hx hb dX0_liveMinute_61 rfl (lv_at hl 1 rfl) ?_
    refine sn_getC (r := (q0 + 4)) C hw fd_RX0_25 (sn_look h0 (k := 0) rfl) rfl dX0_liveMinute_62 ?_
    refine lv_iload hx hb dX0_liveMinute_65 (lv_at hl 5 rfl) ?_
    obtain ⟨g_5, hf⟩ := sn_gdE hf
    refine sn_iald C hw (sn_look h0 (k := 4) rfl) g_5 dX0_liveMinute_67 ?_
    refine lv_iload_n hx hb dX0_liveMinute_68 rfl (lv_at hl 2 rfl) ?_
    obtain ⟨t_6, h_7, hf⟩ := sn_bd hf
    refine sn_callNi (rest := []) C hw (ctX8_hasBit l  h_7) kl_RX0_98 rfl rfl rfl (Nat.le_of_ble_eq_true rfl) dX0_liveMinute_69 hl.1 (fun H locs hw => ?_)
    refine lv_if_ne (tgt := 98) hx hb dX0_liveMinute_72 (by decide) (fun c_8 => ?_) (fun c_8 => ?_)
    · have hf := sn_el c_8 hf
      exact wX0_liveMinute_98 C h0 hf kc kx _ _ _ hw (lv_sub hl [1, 2, 3, 4, 5, 0] rfl)
    · have hf := sn_if c_8 hf
      refine lv_iload_n hx hb dX0_liveMinute_75 rfl (lv_at hl 4 rfl) ?_
      refine lv_iconst (v := 1) hx hb dX0_liveMinute_76 rfl ?_
      refine lv_iload hx hb dX0_liveMinute_77 (lv_at hl 5 rfl) ?_
      refine lv_ishl hx hb dX0_liveMinute_79 ?_
      refine lv_ior hx hb dX0_liveMinute_80 ?_
      obtain ⟨y_9, e_10, hf⟩ := sn_ltE hf
      refine lv_topi (fun y_9_ e_10_ => ?_)
      obtain rfl : y_9 = y_9_ := e_10.trans e_10_.symm
      refine lv_istore_n (lv' := [(3, .int y_9), (5, .int y_1), (0, .ref (ad q0)), (1, .int x1), (2, .int x2), (4, .int x4)]) hx hb dX0_liveMinute_81 rfl hl (by decide) rfl (fun ls hl => ?_)
      refine lv_aload_n hx hb dX0_liveMinute_82 rfl (lv_at hl 2 rfl) ?_
      refine sn_getC (r := (q0 + 10)) C hw fd_RX0_43 (sn_look h0 (k := 0) rfl) rfl dX0_liveMinute_83 ?_
      refine lv_iload hx hb dX0_liveMinute_86 (lv_at hl 5 rfl) ?_
      refine lv_dup2_11 hx hb dX0_liveMinute_88 rfl rfl ?_
      obtain ⟨g_11, hf⟩ := sn_gdE hf
      refine sn_iald C hw (sn_look h0 (k := 10) rfl) g_11 dX0_liveMinute_89 ?_
      refine lv_iconst (v := 1) hx hb dX0_liveMinute_90 rfl ?_
      refine lv_iload_n hx hb dX0_liveMinute_91 rfl (lv_at hl 3 rfl) ?_
      refine lv_ishl hx hb dX0_liveMinute_92 ?_
      refine lv_ior hx hb dX0_liveMinute_93 ?_
      obtain ⟨g_12, hf⟩ := sn_gdE hf
      refine sn_iast C hw (sn_look h0 (k := 10) rfl) g_12 dX0_liveMinute_94 (fun H locs hw => ?_)
      obtain ⟨σ_13, e_14, hf⟩ := sn_ltE hf
      rw [← e_14] at hw
      refine lv_iconst (v := 0) hx hb dX0_liveMinute_95 rfl ?_
      refine lv_istore (lv' := [(5, .int (0 : Int32)), (3, .int y_9), (0, .ref (ad q0)), (1, .int x1), (2, .int x2), (4, .int x4)]) hx hb dX0_liveMinute_96 hl (by decide) rfl (fun ls hl => ?_)
      exact wX0_liveMinute_98 C h0 hf kc kx _ _ _ hw (lv_sub hl [2, 3, 4, 1, 5, 0] rfl)
theorem wX0_liveMinute_10 (C : sn_C p s m args meth c RX0 cX0_liveMinute 6 none D ct ad layC) {σ : sn_S} {q0 : Nat} {x1 : Int32} {x2 : Int32} {x3 : Int32} {x4 : Int32} (h0 : sn_isX0 q0) {o : (sn_S × Int32 × Int32) ⊕ (sn_S × Int32)} (hf : BX0_liveMinute_10 σ q0 x1 x2 x3 x4 = some o) (kc : ∀ v, o = .inl v → sn_At p l e rmX0_liveMinute s m args below meth c Q D ct ad layC 6 v.1 10 [(0, .ref (ad q0)), (1, .int x1), (2, .int x2), (3, .int v.2.1), (4, .int v.2.2)] []) (kx : ∀ v, o = .inr v → sn_At p l e rmX0_liveMinute s m args below meth c Q D ct ad layC 6 v.1 115 [(0, .ref (ad q0)), (1, .int x1), (3, .int v.2)] []) : sn_At p l e rmX0_liveMinute s m args below meth c Q D ct ad layC 6 σ 10 [(0, .ref (ad q0)), (1, .int x1), (2, .int x2), (3, .int x3), (4, .int x4)] [] := by
  intro H locs ls hw hl
  have hx := C.1
  have hb := C.2.1
  unfold BX0_liveMinute_10 at hf
  refine lv_iload hx hb dX0_liveMinute_10 (lv_at hl 4 rfl) ?_
  refine lv_aload_n hx hb dX0_liveMinute_12 rfl (lv_at hl 0 rfl) ?_
  refine sn_getI C hw fd_RX0_54 (sn_look h0 (k := 0) rfl) rfl dX0_liveMinute_13 ?_
  refine lv_icmp_ge (tgt := 115) hx hb dX0_liveMinute_16 (by decide) (fun c_1 => ?_) (fun c_1 => ?_)
  · have hf := sn_if c_1 hf
    cases hf
    exact kx _ rfl _ _ _ hw (lv_sub hl [0, 1, 3] rfl)
  · have hf := sn_el c_1 hf
    refine lv_aload_n hx hb dX0_liveMinute_19 rfl (lv_at hl 0 rfl) ?_
    refine lv_iload hx hb dX0_liveMinute_20 (lv_at hl 4 rfl) ?_
    refine lv_iload_n hx hb dX0_liveMinute_22 rfl (lv_at hl 1 rfl) ?_
    obtain ⟨t_2, h_3, hf⟩ := sn_bd hf
    refine sn_callVi (rest := []) C hw (ctX0_comesTo l h0 h_3) kl_RX0_102 (sn_look h0 (k := 0) rfl) rfl rfl rfl rfl (Nat.le_of_ble_eq_true rfl) dX0_liveMinute_23 hl.1 (fun H locs hw => ?_)
    refine lv_iload_n hx hb dX0_liveMinute_26 rfl (lv_at hl 1 rfl) ?_
    refine lv_if_ne (tgt := 34) hx hb dX0_liveMinute_27 (by decide) (fun c_4 => ?_) (fun c_4 => ?_)
    · have hf := sn_el c_4 hf
      refine lv_aload_n hx hb dX0_liveMinute_34 rfl (lv_at hl 0 rfl) ?_
      refine sn_getC (r := (q0 + 7)) C hw fd_RX0_34 (sn_look h0 (k := 0) rfl) rfl dX0_liveMinute_35 ?_
      refine lv_iload_n hx hb dX0_liveMinute_38 rfl (lv_at hl 2 rfl) ?_
      refine lv_bipush (v := 6) hx hb dX0_liveMinute_39 (by decide) ?_
      refine lv_isub hx hb dX0_liveMinute_41 ?_
      refine lv_iload hx hb dX0_liveMinute_42 (lv_at hl 4 rfl) ?_
      refine lv_iadd hx hb dX0_liveMinute_44 ?_
      obtain ⟨g_5, hf⟩ := sn_gdE hf
      refine sn_iald C hw (sn_look h0 (k := 7) rfl) g_5 dX0_liveMinute_45 ?_
      exact wX0_liveMinute_46 C h0 hf kc kx _ _ _ hw (lv_sub hl [0, 1, 2, 3, 4] rfl)
    · have hf := sn_if c_4 hf
      refine lv_iconst (v := 0) hx hb dX0_liveMinute_30 rfl ?_
      refine lv_goto (tgt := 46) hx hb dX0_liveMinute_31 (by decide) ?_
      exact wX0_liveMinute_46 C h0 hf kc kx _ _ _ hw (lv_sub hl [0, 1, 2, 3, 4] rfl)
theorem wX0_liveMinute_L10 (C : sn_C p s m args meth c RX0 cX0_liveMinute 6 none D ct ad layC) {q0 : Nat} {x1 : Int32} {x2 : Int32}  (h0 : sn_isX0 q0) {z : sn_S × Int32 × Int32} {t : sn_S × Int32} (h : sn_it (LX0_liveMinute_10 q0 x1 x2) 5000 z = some t) (kx : ∀ v, t = v → sn_At p l e rmX0_liveMinute s m args below meth c Q D ct ad layC 6 v.1 115 [(0, .ref (ad q0)), (1, .int x1), (3, .int v.2)] []) : sn_At p l e rmX0_liveMinute s m args below meth c Q D ct ad layC 6 z.1 10 [(0, .ref (ad q0)), (1, .int x1), (2, .int x2), (3, .int z.2.1), (4, .int z.2.2)] [] :=
  sn_loop (f := LX0_liveMinute_10 q0 x1 x2) (G := fun z => sn_At p l e rmX0_liveMinute s m args below meth c Q D ct ad layC 6 z.1 10 [(0, .ref (ad q0)), (1, .int x1), (2, .int x2), (3, .int z.2.1), (4, .int z.2.2)] []) (E := fun t => (∀ v, t = v → sn_At p l e rmX0_liveMinute s m args below meth c Q D ct ad layC 6 v.1 115 [(0, .ref (ad q0)), (1, .int x1), (3, .int v.2)] []) ∧ True) (fun z o hf k1 k2 => wX0_liveMinute_10 C h0 hf (fun v e => k1 v e) (fun v e => (k2 _ e).1 v rfl)) 5000 z t h ⟨kx, trivial⟩
theorem wX0_liveMinute_in (C : sn_C p s m args meth c RX0 cX0_liveMinute 6 none D ct ad layC) {σ : sn_S} {q0 : Nat} {x1 : Int32} (h0 : sn_isX0 q0) {o : sn_S} (hf : fX0_liveMinute σ q0 x1 = some o) (kr : sn_Kr p l e rmX0_liveMinute s m args below meth c Q D ct ad layC cX0_liveMinute .return_ (true) o []) : sn_At p l e rmX0_liveMinute s m args below meth c Q D ct ad layC 6 σ 0 [(0, .ref (ad q0)), (1, .int x1)] [] := by
  intro H locs ls hw hl
  have hx := C.1
  have hb := C.2.1
  unfold fX0_liveMinute at hf
  refine lv_bipush (v := 6) hx hb dX0_liveMinute_0 (by decide) ?_
  refine lv_iload_n hx hb dX0_liveMinute_2 rfl (lv_at hl 1 rfl) ?_
  refine lv_imul hx hb dX0_liveMinute_3 ?_
  obtain ⟨y_1, e_2, hf⟩ := sn_ltE hf
  refine lv_topi (fun y_1_ e_2_ => ?_)
  obtain rfl : y_1 = y_1_ := e_2.trans e_2_.symm
  refine lv_istore_n (lv' := [(2, .int y_1), (0, .ref (ad q0)), (1, .int x1)]) hx hb dX0_liveMinute_4 rfl hl (by decide) rfl (fun ls hl => ?_)
  refine lv_iconst (v := 0) hx hb dX0_liveMinute_5 rfl ?_
  refine lv_istore_n (lv' := [(3, .int (0 : Int32)), (2, .int y_1), (0, .ref (ad q0)), (1, .int x1)]) hx hb dX0_liveMinute_6 rfl hl (by decide) rfl (fun ls hl => ?_)
  refine lv_iconst (v := 0) hx hb dX0_liveMinute_7 rfl ?_
  refine lv_istore (lv' := [(4, .int (0 : Int32)), (3, .int (0 : Int32)), (2, .int y_1), (0, .ref (ad q0)), (1, .int x1)]) hx hb dX0_liveMinute_8 hl (by decide) rfl (fun ls hl => ?_)
  obtain ⟨t_3, h_4, hf⟩ := sn_bd hf
  exact wX0_liveMinute_L10 C h0 h_4 (fun v e => by cases e; exact wX0_liveMinute_115 C h0 hf kr) _ _ _ hw (lv_sub hl [3, 4, 2, 1, 0] rfl)
theorem ctX0_liveMinute (l : Launch) {σ : sn_S} {q0 : Nat} {x1 : Int32} (h0 : sn_isX0 q0) {o : sn_S} (hf : fX0_liveMinute σ q0 x1 = some o) : sn_M l yX0_liveMinute cX0_liveMinute 6 none rmX0_liveMinute layC (fun ad => [.ref (ad q0), .int x1]) σ none o :=
  sn_met (by decide) (fun _ => Nat.le_of_ble_eq_true rfl) (fun p e s m args below meth c ls D ct ad C hw hl => wX0_liveMinute_in C h0 hf (fun H locs ls pc hw ok hd => sn_vret C hw hd) _ _ _ hw hl)
-- X0_live
abbrev rmX0_live : Room := { frames := 3, cells := 0, slots := 0, locals := 70 }
def BX0_live_60 (σ : sn_S) (q0 : Nat) : Option (sn_S) :=
  (some σ)
def BX0_live_31 (σ : sn_S) (q0 : Nat) (x2 : Int32) (x3 : Int32) : Option ((sn_S × Int32) ⊕ (sn_S)) :=
  (if x2 ≤ x3 then
  (some (.inr (σ)))
  else
  (if (sn_I σ q0 0) ≤ x3 then
  (some (.inr (σ)))
  else
  ((fX0_tickleByNets σ q0 x3).bind fun t_3 => ((fX0_liveMinute t_3 q0 x3).bind fun t_5 => (sn_lt (x3 + 1) fun y_7 => (some (.inl (t_5, y_7))))))))
def LX0_live_31 (q0 : Nat) (x2 : Int32) (s : sn_S × Int32) : Option ((sn_S × Int32) ⊕ (sn_S)) := BX0_live_31 s.1 q0 x2 s.2
def BX0_live_29 (σ : sn_S) (q0 : Nat) (x1 : Int32) (x2 : Int32) : Option (sn_S) :=
  ((sn_it (LX0_live_31 q0 x2) 5000 (σ, x1)).bind fun t_1 => (BX0_live_60 t_1 q0))
def BX0_live_2 (σ : sn_S) (q0 : Nat) (x1 : Int32) (x2 : Int32) (x3 : Int32) : Option ((sn_S × Int32) ⊕ (sn_S)) :=
  (if (sn_I σ q0 1) ≤ x3 then
  (some (.inr (σ)))
  else
  (sn_gd (sn_in x3 6) ((fX8_firstMinutes x1).bind fun t_3 => (sn_gd (sn_in x3 6) (sn_lt (sn_pI σ (q0 + 10) x3.toNatClampNeg ((sn_I σ (q0 + 10) x3.toNatClampNeg) &&& t_3)) fun σ_6 => (sn_lt (x3 + 1) fun y_8 => (some (.inl (σ_6, y_8)))))))))
def LX0_live_2 (q0 : Nat) (x1 : Int32) (x2 : Int32) (s : sn_S × Int32) : Option ((sn_S × Int32) ⊕ (sn_S)) := BX0_live_2 s.1 q0 x1 x2 s.2
def fX0_live (σ : sn_S) (q0 : Nat) (x1 : Int32) (x2 : Int32) : Option sn_S :=
  ((sn_it (LX0_live_2 q0 x1 x2) 5000 (σ, (0 : Int32))).bind fun t_1 => (BX0_live_29 t_1 q0 x1 x2))
theorem wX0_live_60 (C : sn_C p s m args meth c RX0 cX0_live 4 none D ct ad layC) {σ : sn_S} {q0 : Nat} (h0 : sn_isX0 q0) {o : sn_S} (hf : BX0_live_60 σ q0 = some o) (kr : sn_Kr p l e rmX0_live s m args below meth c Q D ct ad layC cX0_live .return_ (true) o []) : sn_At p l e rmX0_live s m args below meth c Q D ct ad layC 4 σ 60 [] [] := by
  intro H locs ls hw hl
  have hx := C.1
  have hb := C.2.1
  unfold BX0_live_60 at hf
  cases hf
  exact kr _ _ _ _ hw rfl dX0_live_60
theorem wX0_live_31 (C : sn_C p s m args meth c RX0 cX0_live 4 none D ct ad layC) {σ : sn_S} {q0 : Nat} {x2 : Int32} {x3 : Int32} (h0 : sn_isX0 q0) {o : (sn_S × Int32) ⊕ (sn_S)} (hf : BX0_live_31 σ q0 x2 x3 = some o) (kc : ∀ v, o = .inl v → sn_At p l e rmX0_live s m args below meth c Q D ct ad layC 4 v.1 31 [(0, .ref (ad q0)), (2, .int x2), (3, .int v.2)] []) (kx : ∀ v, o = .inr v → sn_At p l e rmX0_live s m args below meth c Q D ct ad layC 4 v 60 [] []) : sn_At p l e rmX0_live s m args below meth c Q D ct ad layC 4 σ 31 [(0, .ref (ad q0)), (2, .int x2), (3, .int x3)] [] := by
  intro H locs ls hw hl
  have hx := C.1
  have hb := C.2.1
  unfold BX0_live_31 at hf
  refine lv_iload_n hx hb dX0_live_31 rfl (lv_at hl 2 rfl) ?_
  refine lv_iload_n hx hb dX0_live_32 rfl (lv_at hl 1 rfl) ?_
  refine lv_icmp_ge (tgt := 60) hx hb dX0_live_33 (by decide) (fun c_1 => ?_) (fun c_1 => ?_)
  · have hf := sn_if c_1 hf
    cases hf
    exact kx _ rfl _ _ _ hw (lv_sub hl [] rfl)
  · have hf := sn_el c_1 hf
    refine lv_iload_n hx hb dX0_live_36 rfl (lv_at hl 2 rfl) ?_
    refine lv_aload_n hx hb dX0_live_37 rfl (lv_at hl 0 rfl) ?_
    refine sn_getI C hw fd_RX0_51 (sn_look h0 (k := 0) rfl) rfl dX0_live_38 ?_
    refine lv_icmp_ge (tgt := 60) hx hb dX0_live_41 (by decide) (fun c_2 => ?_) (fun c_2 => ?_)
    · have hf := sn_if c_2 hf
      cases hf
      exact kx _ rfl _ _ _ hw (lv_sub hl [] rfl)
    · have hf := sn_el c_2 hf
      refine lv_aload_n hx hb dX0_live_44 rfl (lv_at hl 0 rfl) ?_
      refine lv_iload_n hx hb dX0_live_45 rfl (lv_at hl 2 rfl) ?_
      obtain ⟨t_3, h_4, hf⟩ := sn_bd hf
      refine sn_callVv (rest := []) C hw (ctX0_tickleByNets l h0 h_4) kl_RX0_91 (sn_look h0 (k := 0) rfl) rfl rfl rfl rfl (Nat.le_of_ble_eq_true rfl) dX0_live_46 hl.1 (fun H locs hw => ?_)
      refine lv_aload_n hx hb dX0_live_49 rfl (lv_at hl 0 rfl) ?_
      refine lv_iload_n hx hb dX0_live_50 rfl (lv_at hl 2 rfl) ?_
      obtain ⟨t_5, h_6, hf⟩ := sn_bd hf
      refine sn_callVv (rest := []) C hw (ctX0_liveMinute l h0 h_6) kl_RX0_95 (sn_look h0 (k := 0) rfl) rfl rfl rfl rfl (Nat.le_of_ble_eq_true rfl) dX0_live_51 hl.1 (fun H locs hw => ?_)
      obtain ⟨y_7, e_8, hf⟩ := sn_ltE hf
      refine lv_iinc (v := y_7) (lv' := [(3, .int y_7), (0, .ref (ad q0)), (2, .int x2)]) hx hb dX0_live_54 hl (k := 2) rfl (by rw [e_8]; rfl) (by decide) rfl (fun ls hl => ?_)
      refine lv_goto (tgt := 31) hx hb dX0_live_57 (by decide) ?_
      cases hf
      exact kc _ rfl _ _ _ hw (lv_sub hl [1, 2, 0] rfl)
theorem wX0_live_L31 (C : sn_C p s m args meth c RX0 cX0_live 4 none D ct ad layC) {q0 : Nat} {x2 : Int32}  (h0 : sn_isX0 q0) {z : sn_S × Int32} {t : sn_S} (h : sn_it (LX0_live_31 q0 x2) 5000 z = some t) (kx : ∀ v, t = v → sn_At p l e rmX0_live s m args below meth c Q D ct ad layC 4 v 60 [] []) : sn_At p l e rmX0_live s m args below meth c Q D ct ad layC 4 z.1 31 [(0, .ref (ad q0)), (2, .int x2), (3, .int z.2)] [] :=
  sn_loop (f := LX0_live_31 q0 x2) (G := fun z => sn_At p l e rmX0_live s m args below meth c Q D ct ad layC 4 z.1 31 [(0, .ref (ad q0)), (2, .int x2), (3, .int z.2)] []) (E := fun t => (∀ v, t = v → sn_At p l e rmX0_live s m args below meth c Q D ct ad layC 4 v 60 [] []) ∧ True) (fun z o hf k1 k2 => wX0_live_31 C h0 hf (fun v e => k1 v e) (fun v e => (k2 _ e).1 v rfl)) 5000 z t h ⟨kx, trivial⟩
theorem wX0_live_29 (C : sn_C p s m args meth c RX0 cX0_live 4 none D ct ad layC) {σ : sn_S} {q0 : Nat} {x1 : Int32} {x2 : Int32} (h0 : sn_isX0 q0) {o : sn_S} (hf : BX0_live_29 σ q0 x1 x2 = some o) (kr : sn_Kr p l e rmX0_live s m args below meth c Q D ct ad layC cX0_live .return_ (true) o []) : sn_At p l e rmX0_live s m args below meth c Q D ct ad layC 4 σ 29 [(0, .ref (ad q0)), (1, .int x1), (2, .int x2)] [] := by
  intro H locs ls hw hl
  have hx := C.1
  have hb := C.2.1
  unfold BX0_live_29 at hf
  refine lv_iload_n hx hb dX0_live_29 rfl (lv_at hl 1 rfl) ?_
  refine lv_istore_n (lv' := [(3, .int x1), (0, .ref (ad q0)), (1, .int x1), (2, .int x2)]) hx hb dX0_live_30 rfl hl (by decide) rfl (fun ls hl => ?_)
  obtain ⟨t_1, h_2, hf⟩ := sn_bd hf
  exact wX0_live_L31 C h0 h_2 (fun v e => by cases e; exact wX0_live_60 C h0 hf kr) _ _ _ hw (lv_sub hl [1, 3, 0] rfl)
theorem wX0_live_2 (C : sn_C p s m args meth c RX0 cX0_live 4 none D ct ad layC) {σ : sn_S} {q0 : Nat} {x1 : Int32} {x2 : Int32} {x3 : Int32} (h0 : sn_isX0 q0) {o : (sn_S × Int32) ⊕ (sn_S)} (hf : BX0_live_2 σ q0 x1 x2 x3 = some o) (kc : ∀ v, o = .inl v → sn_At p l e rmX0_live s m args below meth c Q D ct ad layC 4 v.1 2 [(0, .ref (ad q0)), (1, .int x1), (2, .int x2), (3, .int v.2)] []) (kx : ∀ v, o = .inr v → sn_At p l e rmX0_live s m args below meth c Q D ct ad layC 4 v 29 [(0, .ref (ad q0)), (1, .int x1), (2, .int x2)] []) : sn_At p l e rmX0_live s m args below meth c Q D ct ad layC 4 σ 2 [(0, .ref (ad q0)), (1, .int x1), (2, .int x2), (3, .int x3)] [] := by
  intro H locs ls hw hl
  have hx := C.1
  have hb := C.2.1
  unfold BX0_live_2 at hf
  refine lv_iload_n hx hb dX0_live_2 rfl (lv_at hl 3 rfl) ?_
  refine lv_aload_n hx hb dX0_live_3 rfl (lv_at hl 0 rfl) ?_
  refine sn_getI C hw fd_RX0_54 (sn_look h0 (k := 0) rfl) rfl dX0_live_4 ?_
  refine lv_icmp_ge (tgt := 29) hx hb dX0_live_7 (by decide) (fun c_1 => ?_) (fun c_1 => ?_)
  · have hf := sn_if c_1 hf
    cases hf
    exact kx _ rfl _ _ _ hw (lv_sub hl [0, 1, 2] rfl)
  · have hf := sn_el c_1 hf
    refine lv_aload_n hx hb dX0_live_10 rfl (lv_at hl 0 rfl) ?_
    refine sn_getC (r := (q0 + 10)) C hw fd_RX0_43 (sn_look h0 (k := 0) rfl) rfl dX0_live_11 ?_
    refine lv_iload_n hx hb dX0_live_14 rfl (lv_at hl 3 rfl) ?_
    refine lv_dup2_11 hx hb dX0_live_15 rfl rfl ?_
    obtain ⟨g_2, hf⟩ := sn_gdE hf
    refine sn_iald C hw (sn_look h0 (k := 10) rfl) g_2 dX0_live_16 ?_
    refine lv_iload_n hx hb dX0_live_17 rfl (lv_at hl 1 rfl) ?_
    obtain ⟨t_3, h_4, hf⟩ := sn_bd hf
    refine sn_callNi (rest := [.int (sn_I σ (q0 + 10) x3.toNatClampNeg), .int x3, .ref (ad (q0 + 10))]) C hw (ctX8_firstMinutes l  h_4) kl_RX0_87 rfl rfl rfl (Nat.le_of_ble_eq_true rfl) dX0_live_18 hl.1 (fun H locs hw => ?_)
    refine lv_iand hx hb dX0_live_21 ?_
    obtain ⟨g_5, hf⟩ := sn_gdE hf
    refine sn_iast C hw (sn_look h0 (k := 10) rfl) g_5 dX0_live_22 (fun H locs hw => ?_)
    obtain ⟨σ_6, e_7, hf⟩ := sn_ltE hf
    rw [← e_7] at hw
    obtain ⟨y_8, e_9, hf⟩ := sn_ltE hf
    refine lv_iinc (v := y_8) (lv' := [(3, .int y_8), (0, .ref (ad q0)), (1, .int x1), (2, .int x2)]) hx hb dX0_live_23 hl (k := 3) rfl (by rw [e_9]; rfl) (by decide) rfl (fun ls hl => ?_)
    refine lv_goto (tgt := 2) hx hb dX0_live_26 (by decide) ?_
    cases hf
    exact kc _ rfl _ _ _ hw (lv_sub hl [1, 2, 3, 0] rfl)
theorem wX0_live_L2 (C : sn_C p s m args meth c RX0 cX0_live 4 none D ct ad layC) {q0 : Nat} {x1 : Int32} {x2 : Int32}  (h0 : sn_isX0 q0) {z : sn_S × Int32} {t : sn_S} (h : sn_it (LX0_live_2 q0 x1 x2) 5000 z = some t) (kx : ∀ v, t = v → sn_At p l e rmX0_live s m args below meth c Q D ct ad layC 4 v 29 [(0, .ref (ad q0)), (1, .int x1), (2, .int x2)] []) : sn_At p l e rmX0_live s m args below meth c Q D ct ad layC 4 z.1 2 [(0, .ref (ad q0)), (1, .int x1), (2, .int x2), (3, .int z.2)] [] :=
  sn_loop (f := LX0_live_2 q0 x1 x2) (G := fun z => sn_At p l e rmX0_live s m args below meth c Q D ct ad layC 4 z.1 2 [(0, .ref (ad q0)), (1, .int x1), (2, .int x2), (3, .int z.2)] []) (E := fun t => (∀ v, t = v → sn_At p l e rmX0_live s m args below meth c Q D ct ad layC 4 v 29 [(0, .ref (ad q0)), (1, .int x1), (2, .int x2)] []) ∧ True) (fun z o hf k1 k2 => wX0_live_2 C h0 hf (fun v e => k1 v e) (fun v e => (k2 _ e).1 v rfl)) 5000 z t h ⟨kx, trivial⟩
theorem wX0_live_in (C : sn_C p s m args meth c RX0 cX0_live 4 none D ct ad layC) {σ : sn_S} {q0 : Nat} {x1 : Int32} {x2 : Int32} (h0 : sn_isX0 q0) {o : sn_S} (hf : fX0_live σ q0 x1 x2 = some o) (kr : sn_Kr p l e rmX0_live s m args below meth c Q D ct ad layC cX0_live .return_ (true) o []) : sn_At p l e rmX0_live s m args below meth c Q D ct ad layC 4 σ 0 [(0, .ref (ad q0)), (1, .int x1), (2, .int x2)] [] := by
  intro H locs ls hw hl
  have hx := C.1
  have hb := C.2.1
  unfold fX0_live at hf
  refine lv_iconst (v := 0) hx hb dX0_live_0 rfl ?_
  refine lv_istore_n (lv' := [(3, .int (0 : Int32)), (0, .ref (ad q0)), (1, .int x1), (2, .int x2)]) hx hb dX0_live_1 rfl hl (by decide) rfl (fun ls hl => ?_)
  obtain ⟨t_1, h_2, hf⟩ := sn_bd hf
  exact wX0_live_L2 C h0 h_2 (fun v e => by cases e; exact wX0_live_29 C h0 hf kr) _ _ _ hw (lv_sub hl [1, 2, 3, 0] rfl)
theorem ctX0_live (l : Launch) {σ : sn_S} {q0 : Nat} {x1 : Int32} {x2 : Int32} (h0 : sn_isX0 q0) {o : sn_S} (hf : fX0_live σ q0 x1 x2 = some o) : sn_M l yX0_live cX0_live 4 none rmX0_live layC (fun ad => [.ref (ad q0), .int x1, .int x2]) σ none o :=
  sn_met (by decide) (fun _ => Nat.le_of_ble_eq_true rfl) (fun p e s m args below meth c ls D ct ad C hw hl => wX0_live_in C h0 hf (fun H locs ls pc hw ok hd => sn_vret C hw hd) _ _ _ hw hl)
-- X0_liveWhole
abbrev rmX0_liveWhole : Room := { frames := 4, cells := 0, slots := 0, locals := 93 }
def fX0_liveWhole (σ : sn_S) (q0 : Nat) : Option sn_S :=
  ((fX0_live σ q0 (0 : Int32) (sn_I σ q0 0)).bind fun t_1 => (some t_1))
theorem wX0_liveWhole_in (C : sn_C p s m args meth c RX0 cX0_liveWhole 1 none D ct ad layC) {σ : sn_S} {q0 : Nat} (h0 : sn_isX0 q0) {o : sn_S} (hf : fX0_liveWhole σ q0 = some o) (kr : sn_Kr p l e rmX0_liveWhole s m args below meth c Q D ct ad layC cX0_liveWhole .return_ (true) o []) : sn_At p l e rmX0_liveWhole s m args below meth c Q D ct ad layC 1 σ 0 [(0, .ref (ad q0))] [] := by
  intro H locs ls hw hl
  have hx := C.1
  have hb := C.2.1
  unfold fX0_liveWhole at hf
  refine lv_aload_n hx hb dX0_liveWhole_0 rfl (lv_at hl 0 rfl) ?_
  refine lv_iconst (v := 0) hx hb dX0_liveWhole_1 rfl ?_
  refine lv_aload_n hx hb dX0_liveWhole_2 rfl (lv_at hl 0 rfl) ?_
  refine sn_getI C hw fd_RX0_51 (sn_look h0 (k := 0) rfl) rfl dX0_liveWhole_3 ?_
  obtain ⟨t_1, h_2, hf⟩ := sn_bd hf
  refine sn_callVv (rest := []) C hw (ctX0_live l h0 h_2) kl_RX0_83 (sn_look h0 (k := 0) rfl) rfl rfl rfl rfl (Nat.le_of_ble_eq_true rfl) dX0_liveWhole_6 hl.1 (fun H locs hw => ?_)
  cases hf
  exact kr _ _ _ _ hw rfl dX0_liveWhole_9
theorem ctX0_liveWhole (l : Launch) {σ : sn_S} {q0 : Nat} (h0 : sn_isX0 q0) {o : sn_S} (hf : fX0_liveWhole σ q0 = some o) : sn_M l yX0_liveWhole cX0_liveWhole 1 none rmX0_liveWhole layC (fun ad => [.ref (ad q0)]) σ none o :=
  sn_met (by decide) (fun _ => Nat.le_of_ble_eq_true rfl) (fun p e s m args below meth c ls D ct ad C hw hl => wX0_liveWhole_in C h0 hf (fun H locs ls pc hw ok hd => sn_vret C hw hd) _ _ _ hw hl)
-- X0_tickleAt
abbrev rmX0_tickleAt : Room := { frames := 0, cells := 0, slots := 0, locals := 0 }
def fX0_tickleAt (σ : sn_S) (q0 : Nat) (x1 : Int32) (x2 : Int32) : Option Int32 :=
  (sn_gd (sn_in (((6 : Int32) * x2) + x1) 180) (some (sn_I σ (q0 + 7) (((6 : Int32) * x2) + x1).toNatClampNeg)))
theorem wX0_tickleAt_in (C : sn_C p s m args meth c RX0 cX0_tickleAt 3 (some .int) D ct ad layC) {σ : sn_S} {q0 : Nat} {x1 : Int32} {x2 : Int32} (h0 : sn_isX0 q0) {o : Int32} (hf : fX0_tickleAt σ q0 x1 x2 = some o) (kr : sn_Kr p l e rmX0_tickleAt s m args below meth c Q D ct ad layC cX0_tickleAt .ireturn (true) σ [.int o]) : sn_At p l e rmX0_tickleAt s m args below meth c Q D ct ad layC 3 σ 0 [(0, .ref (ad q0)), (1, .int x1), (2, .int x2)] [] := by
  intro H locs ls hw hl
  have hx := C.1
  have hb := C.2.1
  unfold fX0_tickleAt at hf
  refine lv_aload_n hx hb dX0_tickleAt_0 rfl (lv_at hl 0 rfl) ?_
  refine sn_getC (r := (q0 + 7)) C hw fd_RX0_34 (sn_look h0 (k := 0) rfl) rfl dX0_tickleAt_1 ?_
  refine lv_bipush (v := 6) hx hb dX0_tickleAt_4 (by decide) ?_
  refine lv_iload_n hx hb dX0_tickleAt_6 rfl (lv_at hl 2 rfl) ?_
  refine lv_imul hx hb dX0_tickleAt_7 ?_
  refine lv_iload_n hx hb dX0_tickleAt_8 rfl (lv_at hl 1 rfl) ?_
  refine lv_iadd hx hb dX0_tickleAt_9 ?_
  obtain ⟨g_1, hf⟩ := sn_gdE hf
  refine sn_iald C hw (sn_look h0 (k := 7) rfl) g_1 dX0_tickleAt_10 ?_
  cases hf
  exact kr _ _ _ _ hw rfl dX0_tickleAt_11
theorem ctX0_tickleAt (l : Launch) {σ : sn_S} {q0 : Nat} {x1 : Int32} {x2 : Int32} (h0 : sn_isX0 q0) {o : Int32} (hf : fX0_tickleAt σ q0 x1 x2 = some o) : sn_M l yX0_tickleAt cX0_tickleAt 3 (some .int) rmX0_tickleAt layC (fun ad => [.ref (ad q0), .int x1, .int x2]) σ (some (fun _ => .int o)) σ :=
  sn_met (by decide) (fun _ => Nat.le_of_ble_eq_true rfl) (fun p e s m args below meth c ls D ct ad C hw hl => wX0_tickleAt_in C h0 hf (fun H locs ls pc hw ok hd => sn_iret C hw hd) _ _ _ hw hl)
-- J6_bitCount_0f7a4
abbrev rmJ6_bitCount_0f7a4 : Room := { frames := 0, cells := 0, slots := 0, locals := 0 }
def fJ6_bitCount_0f7a4 (x0 : Int32) : Option Int32 :=
  (sn_lt (x0 - (((x0.toUInt32 >>> ((1 : Int32).toUInt32 &&& Int32.toUInt32 31)).toInt32) &&& (1431655765 : Int32))) fun y_1 => (sn_lt ((y_1 &&& (858993459 : Int32)) + (((y_1.toUInt32 >>> ((2 : Int32).toUInt32 &&& Int32.toUInt32 31)).toInt32) &&& (858993459 : Int32))) fun y_3 => (sn_lt ((y_3 + ((y_3.toUInt32 >>> ((4 : Int32).toUInt32 &&& Int32.toUInt32 31)).toInt32)) &&& (252645135 : Int32)) fun y_5 => (sn_lt (y_5 + ((y_5.toUInt32 >>> ((8 : Int32).toUInt32 &&& Int32.toUInt32 31)).toInt32)) fun y_7 => (sn_lt (y_7 + ((y_7.toUInt32 >>> ((16 : Int32).toUInt32 &&& Int32.toUInt32 31)).toInt32)) fun y_9 => (some (y_9 &&& (63 : Int32))))))))
theorem wJ6_bitCount_0f7a4_in (C : sn_C p s m args meth c RJ6 cJ6_bitCount_0f7a4 1 (some .int) D ct ad layC) {σ : sn_S} {x0 : Int32}  {o : Int32} (hf : fJ6_bitCount_0f7a4 x0 = some o) (kr : sn_Kr p l e rmJ6_bitCount_0f7a4 s m args below meth c Q D ct ad layC cJ6_bitCount_0f7a4 .ireturn (true) σ [.int o]) : sn_At p l e rmJ6_bitCount_0f7a4 s m args below meth c Q D ct ad layC 1 σ 0 [(0, .int x0)] [] := by
  intro H locs ls hw hl
  have hx := C.1
  have hb := C.2.1
  unfold fJ6_bitCount_0f7a4 at hf
  refine lv_iload_n hx hb dJ6_bitCount_0f7a4_0 rfl (lv_at hl 0 rfl) ?_
  refine lv_iload_n hx hb dJ6_bitCount_0f7a4_1 rfl (lv_at hl 0 rfl) ?_
  refine lv_iconst (v := 1) hx hb dJ6_bitCount_0f7a4_2 rfl ?_
  refine lv_iushr hx hb dJ6_bitCount_0f7a4_3 rfl ?_
  refine lv_ldcw hx hb C.2.2.2.1 (C.2.2.2.2.1 _ kk_RJ6_265) dJ6_bitCount_0f7a4_4 ?_
  refine lv_iand hx hb dJ6_bitCount_0f7a4_7 ?_
  refine lv_isub hx hb dJ6_bitCount_0f7a4_8 ?_
  obtain ⟨y_1, e_2, hf⟩ := sn_ltE hf
  refine lv_topi (fun y_1_ e_2_ => ?_)
  obtain rfl : y_1 = y_1_ := e_2.trans e_2_.symm
  refine lv_istore_n (lv' := [(0, .int y_1)]) hx hb dJ6_bitCount_0f7a4_9 rfl hl (by decide) rfl (fun ls hl => ?_)
  refine lv_iload_n hx hb dJ6_bitCount_0f7a4_10 rfl (lv_at hl 0 rfl) ?_
  refine lv_ldcw hx hb C.2.2.2.1 (C.2.2.2.2.1 _ kk_RJ6_266) dJ6_bitCount_0f7a4_11 ?_
  refine lv_iand hx hb dJ6_bitCount_0f7a4_14 ?_
  refine lv_iload_n hx hb dJ6_bitCount_0f7a4_15 rfl (lv_at hl 0 rfl) ?_
  refine lv_iconst (v := 2) hx hb dJ6_bitCount_0f7a4_16 rfl ?_
  refine lv_iushr hx hb dJ6_bitCount_0f7a4_17 rfl ?_
  refine lv_ldcw hx hb C.2.2.2.1 (C.2.2.2.2.1 _ kk_RJ6_266) dJ6_bitCount_0f7a4_18 ?_
  refine lv_iand hx hb dJ6_bitCount_0f7a4_21 ?_
  refine lv_iadd hx hb dJ6_bitCount_0f7a4_22 ?_
  obtain ⟨y_3, e_4, hf⟩ := sn_ltE hf
  refine lv_topi (fun y_3_ e_4_ => ?_)
  obtain rfl : y_3 = y_3_ := e_4.trans e_4_.symm
  refine lv_istore_n (lv' := [(0, .int y_3)]) hx hb dJ6_bitCount_0f7a4_23 rfl hl (by decide) rfl (fun ls hl => ?_)
  refine lv_iload_n hx hb dJ6_bitCount_0f7a4_24 rfl (lv_at hl 0 rfl) ?_
  refine lv_iload_n hx hb dJ6_bitCount_0f7a4_25 rfl (lv_at hl 0 rfl) ?_
  refine lv_iconst (v := 4) hx hb dJ6_bitCount_0f7a4_26 rfl ?_
  refine lv_iushr hx hb dJ6_bitCount_0f7a4_27 rfl ?_
  refine lv_iadd hx hb dJ6_bitCount_0f7a4_28 ?_
  refine lv_ldcw hx hb C.2.2.2.1 (C.2.2.2.2.1 _ kk_RJ6_267) dJ6_bitCount_0f7a4_29 ?_
  refine lv_iand hx hb dJ6_bitCount_0f7a4_32 ?_
  obtain ⟨y_5, e_6, hf⟩ := sn_ltE hf
  refine lv_topi (fun y_5_ e_6_ => ?_)
  obtain rfl : y_5 = y_5_ := e_6.trans e_6_.symm
  refine lv_istore_n (lv' := [(0, .int y_5)]) hx hb dJ6_bitCount_0f7a4_33 rfl hl (by decide) rfl (fun ls hl => ?_)
  refine lv_iload_n hx hb dJ6_bitCount_0f7a4_34 rfl (lv_at hl 0 rfl) ?_
  refine lv_iload_n hx hb dJ6_bitCount_0f7a4_35 rfl (lv_at hl 0 rfl) ?_
  refine lv_bipush (v := 8) hx hb dJ6_bitCount_0f7a4_36 (by decide) ?_
  refine lv_iushr hx hb dJ6_bitCount_0f7a4_38 rfl ?_
  refine lv_iadd hx hb dJ6_bitCount_0f7a4_39 ?_
  obtain ⟨y_7, e_8, hf⟩ := sn_ltE hf
  refine lv_topi (fun y_7_ e_8_ => ?_)
  obtain rfl : y_7 = y_7_ := e_8.trans e_8_.symm
  refine lv_istore_n (lv' := [(0, .int y_7)]) hx hb dJ6_bitCount_0f7a4_40 rfl hl (by decide) rfl (fun ls hl => ?_)
  refine lv_iload_n hx hb dJ6_bitCount_0f7a4_41 rfl (lv_at hl 0 rfl) ?_
  refine lv_iload_n hx hb dJ6_bitCount_0f7a4_42 rfl (lv_at hl 0 rfl) ?_
  refine lv_bipush (v := 16) hx hb dJ6_bitCount_0f7a4_43 (by decide) ?_
  refine lv_iushr hx hb dJ6_bitCount_0f7a4_45 rfl ?_
  refine lv_iadd hx hb dJ6_bitCount_0f7a4_46 ?_
  obtain ⟨y_9, e_10, hf⟩ := sn_ltE hf
  refine lv_topi (fun y_9_ e_10_ => ?_)
  obtain rfl : y_9 = y_9_ := e_10.trans e_10_.symm
  refine lv_istore_n (lv' := [(0, .int y_9)]) hx hb dJ6_bitCount_0f7a4_47 rfl hl (by decide) rfl (fun ls hl => ?_)
  refine lv_iload_n hx hb dJ6_bitCount_0f7a4_48 rfl (lv_at hl 0 rfl) ?_
  refine lv_bipush (v := 63) hx hb dJ6_bitCount_0f7a4_49 (by decide) ?_
  refine lv_iand hx hb dJ6_bitCount_0f7a4_51 ?_
  cases hf
  exact kr _ _ _ _ hw rfl dJ6_bitCount_0f7a4_52
theorem ctJ6_bitCount_0f7a4 (l : Launch) {σ : sn_S} {x0 : Int32}  {o : Int32} (hf : fJ6_bitCount_0f7a4 x0 = some o) : sn_M l yJ6_bitCount_0f7a4 cJ6_bitCount_0f7a4 1 (some .int) rmJ6_bitCount_0f7a4 layC (fun ad => [.int x0]) σ (some (fun _ => .int o)) σ :=
  sn_met (by decide) (fun _ => Nat.le_of_ble_eq_true rfl) (fun p e s m args below meth c ls D ct ad C hw hl => wJ6_bitCount_0f7a4_in C  hf (fun H locs ls pc hw ok hd => sn_iret C hw hd) _ _ _ hw hl)
-- X0_total
abbrev rmX0_total : Room := { frames := 1, cells := 0, slots := 0, locals := 20 }
def BX0_total_30 (σ : sn_S) (q0 : Nat) (x1 : Int32) : Option (Int32) :=
  (some x1)
def BX0_total_4 (σ : sn_S) (q0 : Nat) (x1 : Int32) (x2 : Int32) : Option ((Int32 × Int32) ⊕ (Int32)) :=
  (if (sn_I σ q0 1) ≤ x2 then
  (some (.inr (x1)))
  else
  (sn_gd (sn_in x2 6) ((fJ6_bitCount_0f7a4 (sn_I σ (q0 + 10) x2.toNatClampNeg)).bind fun t_3 => (sn_lt (x1 + t_3) fun y_5 => (sn_lt (x2 + 1) fun y_7 => (some (.inl (y_5, y_7))))))))
def LX0_total_4 (σ : sn_S) (q0 : Nat) (s : Int32 × Int32) : Option ((Int32 × Int32) ⊕ (Int32)) := BX0_total_4 σ q0 s.1 s.2
def fX0_total (σ : sn_S) (q0 : Nat) : Option Int32 :=
  ((sn_it (LX0_total_4 σ q0) 5000 ((0 : Int32), (0 : Int32))).bind fun t_1 => (BX0_total_30 σ q0 t_1))
theorem wX0_total_30 (C : sn_C p s m args meth c RX0 cX0_total 3 (some .int) D ct ad layC) {σ : sn_S} {q0 : Nat} {x1 : Int32} (h0 : sn_isX0 q0) {o : Int32} (hf : BX0_total_30 σ q0 x1 = some o) (kr : sn_Kr p l e rmX0_total s m args below meth c Q D ct ad layC cX0_total .ireturn (true) σ [.int o]) : sn_At p l e rmX0_total s m args below meth c Q D ct ad layC 3 σ 30 [(1, .int x1)] [] := by
  intro H locs ls hw hl
  have hx := C.1
  have hb := C.2.1
  unfold BX0_total_30 at hf
  refine lv_iload_n hx hb dX0_total_30 rfl (lv_at hl 0 rfl) ?_
  cases hf
  exact kr _ _ _ _ hw rfl dX0_total_31
theorem wX0_total_4 (C : sn_C p s m args meth c RX0 cX0_total 3 (some .int) D ct ad layC) {σ : sn_S} {q0 : Nat} {x1 : Int32} {x2 : Int32} (h0 : sn_isX0 q0) {o : (Int32 × Int32) ⊕ (Int32)} (hf : BX0_total_4 σ q0 x1 x2 = some o) (kc : ∀ v, o = .inl v → sn_At p l e rmX0_total s m args below meth c Q D ct ad layC 3 σ 4 [(0, .ref (ad q0)), (1, .int v.1), (2, .int v.2)] []) (kx : ∀ v, o = .inr v → sn_At p l e rmX0_total s m args below meth c Q D ct ad layC 3 σ 30 [(1, .int v)] []) : sn_At p l e rmX0_total s m args below meth c Q D ct ad layC 3 σ 4 [(0, .ref (ad q0)), (1, .int x1), (2, .int x2)] [] := by
  intro H locs ls hw hl
  have hx := C.1
  have hb := C.2.1
  unfold BX0_total_4 at hf
  refine lv_iload_n hx hb dX0_total_4 rfl (lv_at hl 2 rfl) ?_
  refine lv_aload_n hx hb dX0_total_5 rfl (lv_at hl 0 rfl) ?_
  refine sn_getI C hw fd_RX0_54 (sn_look h0 (k := 0) rfl) rfl dX0_total_6 ?_
  refine lv_icmp_ge (tgt := 30) hx hb dX0_total_9 (by decide) (fun c_1 => ?_) (fun c_1 => ?_)
  · have hf := sn_if c_1 hf
    cases hf
    exact kx _ rfl _ _ _ hw (lv_sub hl [1] rfl)
  · have hf := sn_el c_1 hf
    refine lv_iload_n hx hb dX0_total_12 rfl (lv_at hl 1 rfl) ?_
    refine lv_aload_n hx hb dX0_total_13 rfl (lv_at hl 0 rfl) ?_
    refine sn_getC (r := (q0 + 10)) C hw fd_RX0_43 (sn_look h0 (k := 0) rfl) rfl dX0_total_14 ?_
    refine lv_iload_n hx hb dX0_total_17 rfl (lv_at hl 2 rfl) ?_
    obtain ⟨g_2, hf⟩ := sn_gdE hf
    refine sn_iald C hw (sn_look h0 (k := 10) rfl) g_2 dX0_total_18 ?_
    obtain ⟨t_3, h_4, hf⟩ := sn_bd hf
    refine sn_callSi (rest := [.int x1]) C hw (ctJ6_bitCount_0f7a4 l  h_4) kl_RX0_108 rfl rfl rfl (Nat.le_of_ble_eq_true rfl) dX0_total_19 hl.1 (fun H locs hw => ?_)
    refine lv_iadd hx hb dX0_total_22 ?_
    obtain ⟨y_5, e_6, hf⟩ := sn_ltE hf
    refine lv_topi (fun y_5_ e_6_ => ?_)
    obtain rfl : y_5 = y_5_ := e_6.trans e_6_.symm
    refine lv_istore_n (lv' := [(1, .int y_5), (0, .ref (ad q0)), (2, .int x2)]) hx hb dX0_total_23 rfl hl (by decide) rfl (fun ls hl => ?_)
    obtain ⟨y_7, e_8, hf⟩ := sn_ltE hf
    refine lv_iinc (v := y_7) (lv' := [(2, .int y_7), (1, .int y_5), (0, .ref (ad q0))]) hx hb dX0_total_24 hl (k := 2) rfl (by rw [e_8]; rfl) (by decide) rfl (fun ls hl => ?_)
    refine lv_goto (tgt := 4) hx hb dX0_total_27 (by decide) ?_
    cases hf
    exact kc _ rfl _ _ _ hw (lv_sub hl [2, 1, 0] rfl)
theorem wX0_total_L4 (C : sn_C p s m args meth c RX0 cX0_total 3 (some .int) D ct ad layC) {σ : sn_S} {q0 : Nat}  (h0 : sn_isX0 q0) {z : Int32 × Int32} {t : Int32} (h : sn_it (LX0_total_4 σ q0) 5000 z = some t) (kx : ∀ v, t = v → sn_At p l e rmX0_total s m args below meth c Q D ct ad layC 3 σ 30 [(1, .int v)] []) : sn_At p l e rmX0_total s m args below meth c Q D ct ad layC 3 σ 4 [(0, .ref (ad q0)), (1, .int z.1), (2, .int z.2)] [] :=
  sn_loop (f := LX0_total_4 σ q0) (G := fun z => sn_At p l e rmX0_total s m args below meth c Q D ct ad layC 3 σ 4 [(0, .ref (ad q0)), (1, .int z.1), (2, .int z.2)] []) (E := fun t => (∀ v, t = v → sn_At p l e rmX0_total s m args below meth c Q D ct ad layC 3 σ 30 [(1, .int v)] []) ∧ True) (fun z o hf k1 k2 => wX0_total_4 C h0 hf (fun v e => k1 v e) (fun v e => (k2 _ e).1 v rfl)) 5000 z t h ⟨kx, trivial⟩
theorem wX0_total_in (C : sn_C p s m args meth c RX0 cX0_total 3 (some .int) D ct ad layC) {σ : sn_S} {q0 : Nat} (h0 : sn_isX0 q0) {o : Int32} (hf : fX0_total σ q0 = some o) (kr : sn_Kr p l e rmX0_total s m args below meth c Q D ct ad layC cX0_total .ireturn (true) σ [.int o]) : sn_At p l e rmX0_total s m args below meth c Q D ct ad layC 3 σ 0 [(0, .ref (ad q0))] [] := by
  intro H locs ls hw hl
  have hx := C.1
  have hb := C.2.1
  unfold fX0_total at hf
  refine lv_iconst (v := 0) hx hb dX0_total_0 rfl ?_
  refine lv_istore_n (lv' := [(1, .int (0 : Int32)), (0, .ref (ad q0))]) hx hb dX0_total_1 rfl hl (by decide) rfl (fun ls hl => ?_)
  refine lv_iconst (v := 0) hx hb dX0_total_2 rfl ?_
  refine lv_istore_n (lv' := [(2, .int (0 : Int32)), (1, .int (0 : Int32)), (0, .ref (ad q0))]) hx hb dX0_total_3 rfl hl (by decide) rfl (fun ls hl => ?_)
  obtain ⟨t_1, h_2, hf⟩ := sn_bd hf
  exact wX0_total_L4 C h0 h_2 (fun v e => by cases e; exact wX0_total_30 C h0 hf kr) _ _ _ hw (lv_sub hl [2, 1, 0] rfl)
theorem ctX0_total (l : Launch) {σ : sn_S} {q0 : Nat} (h0 : sn_isX0 q0) {o : Int32} (hf : fX0_total σ q0 = some o) : sn_M l yX0_total cX0_total 3 (some .int) rmX0_total layC (fun ad => [.ref (ad q0)]) σ (some (fun _ => .int o)) σ :=
  sn_met (by decide) (fun _ => Nat.le_of_ble_eq_true rfl) (fun p e s m args below meth c ls D ct ad C hw hl => wX0_total_in C h0 hf (fun H locs ls pc hw ok hd => sn_iret C hw hd) _ _ _ hw hl)
-- X2_ofPolicy
abbrev rmX2_ofPolicy : Room := { frames := 0, cells := 0, slots := 0, locals := 0 }
def fX2_ofPolicy (σ : sn_S) (q0 : Nat) (x1 : Int32) (x2 : Int32) : Option Int32 :=
  (sn_gd (sn_in (((5 : Int32) * x1) + x2) 30) (some (sn_I σ (q0 + 5) (((5 : Int32) * x1) + x2).toNatClampNeg)))
theorem wX2_ofPolicy_in (C : sn_C p s m args meth c RX2 cX2_ofPolicy 3 (some .int) D ct ad layC) {σ : sn_S} {q0 : Nat} {x1 : Int32} {x2 : Int32} (h0 : sn_isX2 q0) {o : Int32} (hf : fX2_ofPolicy σ q0 x1 x2 = some o) (kr : sn_Kr p l e rmX2_ofPolicy s m args below meth c Q D ct ad layC cX2_ofPolicy .ireturn (true) σ [.int o]) : sn_At p l e rmX2_ofPolicy s m args below meth c Q D ct ad layC 3 σ 0 [(0, .ref (ad q0)), (1, .int x1), (2, .int x2)] [] := by
  intro H locs ls hw hl
  have hx := C.1
  have hb := C.2.1
  unfold fX2_ofPolicy at hf
  refine lv_aload_n hx hb dX2_ofPolicy_0 rfl (lv_at hl 0 rfl) ?_
  refine sn_getC (r := (q0 + 5)) C hw fd_RX2_24 (sn_look h0 (k := 0) rfl) rfl dX2_ofPolicy_1 ?_
  refine lv_iconst (v := 5) hx hb dX2_ofPolicy_4 rfl ?_
  refine lv_iload_n hx hb dX2_ofPolicy_5 rfl (lv_at hl 1 rfl) ?_
  refine lv_imul hx hb dX2_ofPolicy_6 ?_
  refine lv_iload_n hx hb dX2_ofPolicy_7 rfl (lv_at hl 2 rfl) ?_
  refine lv_iadd hx hb dX2_ofPolicy_8 ?_
  obtain ⟨g_1, hf⟩ := sn_gdE hf
  refine sn_iald C hw (sn_look h0 (k := 5) rfl) g_1 dX2_ofPolicy_9 ?_
  cases hf
  exact kr _ _ _ _ hw rfl dX2_ofPolicy_10
theorem ctX2_ofPolicy (l : Launch) {σ : sn_S} {q0 : Nat} {x1 : Int32} {x2 : Int32} (h0 : sn_isX2 q0) {o : Int32} (hf : fX2_ofPolicy σ q0 x1 x2 = some o) : sn_M l yX2_ofPolicy cX2_ofPolicy 3 (some .int) rmX2_ofPolicy layC (fun ad => [.ref (ad q0), .int x1, .int x2]) σ (some (fun _ => .int o)) σ :=
  sn_met (by decide) (fun _ => Nat.le_of_ble_eq_true rfl) (fun p e s m args below meth c ls D ct ad C hw hl => wX2_ofPolicy_in C h0 hf (fun H locs ls pc hw ok hd => sn_iret C hw hd) _ _ _ hw hl)
-- J7_fill_d0a16
abbrev rmJ7_fill_d0a16 : Room := { frames := 0, cells := 0, slots := 0, locals := 0 }
def BJ7_fill_d0a16_22 (σ : sn_S) (q0 : Nat) (n0 : Nat) : Option (sn_S) :=
  (some σ)
def BJ7_fill_d0a16_6 (σ : sn_S) (q0 : Nat) (n0 : Nat) (x1 : Int64) (x3 : Int32) (x4 : Int32) : Option ((sn_S × Int32) ⊕ (sn_S)) :=
  (if x4 ≤ x3 then
  (some (.inr (σ)))
  else
  (sn_gd (sn_in x3 n0) (sn_lt (sn_pL σ q0 x3.toNatClampNeg x1) fun σ_3 => (sn_lt (x3 + 1) fun y_5 => (some (.inl (σ_3, y_5)))))))
def LJ7_fill_d0a16_6 (q0 : Nat) (n0 : Nat) (x1 : Int64) (x4 : Int32) (s : sn_S × Int32) : Option ((sn_S × Int32) ⊕ (sn_S)) := BJ7_fill_d0a16_6 s.1 q0 n0 x1 s.2 x4
def fJ7_fill_d0a16 (σ : sn_S) (q0 : Nat) (n0 : Nat) (x1 : Int64) : Option sn_S :=
  (sn_lt (Int32.ofNat n0) fun y_1 => ((sn_it (LJ7_fill_d0a16_6 q0 n0 x1 y_1) 5000 (σ, (0 : Int32))).bind fun t_3 => (BJ7_fill_d0a16_22 t_3 q0 n0)))
theorem wJ7_fill_d0a16_22 (C : sn_C p s m args meth c RJ7 cJ7_fill_d0a16 5 none D ct ad layC) {σ : sn_S} {q0 : Nat} {n0 : Nat} (h0 : layC[q0]? = some (.inl (3, n0, 1, []))) {o : sn_S} (hf : BJ7_fill_d0a16_22 σ q0 n0 = some o) (kr : sn_Kr p l e rmJ7_fill_d0a16 s m args below meth c Q D ct ad layC cJ7_fill_d0a16 .return_ (true) o []) : sn_At p l e rmJ7_fill_d0a16 s m args below meth c Q D ct ad layC 5 σ 22 [] [] := by
  intro H locs ls hw hl
  have hx := C.1
  have hb := C.2.1
  unfold BJ7_fill_d0a16_22 at hf
  cases hf
  exact kr _ _ _ _ hw rfl dJ7_fill_d0a16_22
theorem wJ7_fill_d0a16_6 (C : sn_C p s m args meth c RJ7 cJ7_fill_d0a16 5 none D ct ad layC) {σ : sn_S} {q0 : Nat} {n0 : Nat} {x1 : Int64} {x3 : Int32} {x4 : Int32} (h0 : layC[q0]? = some (.inl (3, n0, 1, []))) {o : (sn_S × Int32) ⊕ (sn_S)} (hf : BJ7_fill_d0a16_6 σ q0 n0 x1 x3 x4 = some o) (kc : ∀ v, o = .inl v → sn_At p l e rmJ7_fill_d0a16 s m args below meth c Q D ct ad layC 5 v.1 6 [(0, .ref (ad q0)), (1, .long x1), (3, .int v.2), (4, .int x4)] []) (kx : ∀ v, o = .inr v → sn_At p l e rmJ7_fill_d0a16 s m args below meth c Q D ct ad layC 5 v 22 [] []) : sn_At p l e rmJ7_fill_d0a16 s m args below meth c Q D ct ad layC 5 σ 6 [(0, .ref (ad q0)), (1, .long x1), (3, .int x3), (4, .int x4)] [] := by
  intro H locs ls hw hl
  have hx := C.1
  have hb := C.2.1
  unfold BJ7_fill_d0a16_6 at hf
  refine lv_iload_n hx hb dJ7_fill_d0a16_6 rfl (lv_at hl 2 rfl) ?_
  refine lv_iload hx hb dJ7_fill_d0a16_7 (lv_at hl 3 rfl) ?_
  refine lv_icmp_ge (tgt := 22) hx hb dJ7_fill_d0a16_9 (by decide) (fun c_1 => ?_) (fun c_1 => ?_)
  · have hf := sn_if c_1 hf
    cases hf
    exact kx _ rfl _ _ _ hw (lv_sub hl [] rfl)
  · have hf := sn_el c_1 hf
    refine lv_aload_n hx hb dJ7_fill_d0a16_12 rfl (lv_at hl 0 rfl) ?_
    refine lv_iload_n hx hb dJ7_fill_d0a16_13 rfl (lv_at hl 2 rfl) ?_
    refine lv_lload_n hx hb dJ7_fill_d0a16_14 rfl (lv_at hl 1 rfl) ?_
    obtain ⟨g_2, hf⟩ := sn_gdE hf
    refine sn_last C hw h0 g_2 dJ7_fill_d0a16_15 (fun H locs hw => ?_)
    obtain ⟨σ_3, e_4, hf⟩ := sn_ltE hf
    rw [← e_4] at hw
    obtain ⟨y_5, e_6, hf⟩ := sn_ltE hf
    refine lv_iinc (v := y_5) (lv' := [(3, .int y_5), (0, .ref (ad q0)), (1, .long x1), (4, .int x4)]) hx hb dJ7_fill_d0a16_16 hl (k := 2) rfl (by rw [e_6]; rfl) (by decide) rfl (fun ls hl => ?_)
    refine lv_goto (tgt := 6) hx hb dJ7_fill_d0a16_19 (by decide) ?_
    cases hf
    exact kc _ rfl _ _ _ hw (lv_sub hl [1, 2, 0, 3] rfl)
theorem wJ7_fill_d0a16_L6 (C : sn_C p s m args meth c RJ7 cJ7_fill_d0a16 5 none D ct ad layC) {q0 : Nat} {n0 : Nat} {x1 : Int64} {x4 : Int32}  (h0 : layC[q0]? = some (.inl (3, n0, 1, []))) {z : sn_S × Int32} {t : sn_S} (h : sn_it (LJ7_fill_d0a16_6 q0 n0 x1 x4) 5000 z = some t) (kx : ∀ v, t = v → sn_At p l e rmJ7_fill_d0a16 s m args below meth c Q D ct ad layC 5 v 22 [] []) : sn_At p l e rmJ7_fill_d0a16 s m args below meth c Q D ct ad layC 5 z.1 6 [(0, .ref (ad q0)), (1, .long x1), (3, .int z.2), (4, .int x4)] [] :=
  sn_loop (f := LJ7_fill_d0a16_6 q0 n0 x1 x4) (G := fun z => sn_At p l e rmJ7_fill_d0a16 s m args below meth c Q D ct ad layC 5 z.1 6 [(0, .ref (ad q0)), (1, .long x1), (3, .int z.2), (4, .int x4)] []) (E := fun t => (∀ v, t = v → sn_At p l e rmJ7_fill_d0a16 s m args below meth c Q D ct ad layC 5 v 22 [] []) ∧ True) (fun z o hf k1 k2 => wJ7_fill_d0a16_6 C h0 hf (fun v e => k1 v e) (fun v e => (k2 _ e).1 v rfl)) 5000 z t h ⟨kx, trivial⟩
theorem wJ7_fill_d0a16_in (C : sn_C p s m args meth c RJ7 cJ7_fill_d0a16 5 none D ct ad layC) {σ : sn_S} {q0 : Nat} {n0 : Nat} {x1 : Int64} (h0 : layC[q0]? = some (.inl (3, n0, 1, []))) {o : sn_S} (hf : fJ7_fill_d0a16 σ q0 n0 x1 = some o) (kr : sn_Kr p l e rmJ7_fill_d0a16 s m args below meth c Q D ct ad layC cJ7_fill_d0a16 .return_ (true) o []) : sn_At p l e rmJ7_fill_d0a16 s m args below meth c Q D ct ad layC 5 σ 0 [(0, .ref (ad q0)), (1, .long x1)] [] := by
  intro H locs ls hw hl
  have hx := C.1
  have hb := C.2.1
  unfold fJ7_fill_d0a16 at hf
  refine lv_iconst (v := 0) hx hb dJ7_fill_d0a16_0 rfl ?_
  refine lv_istore_n (lv' := [(3, .int (0 : Int32)), (0, .ref (ad q0)), (1, .long x1)]) hx hb dJ7_fill_d0a16_1 rfl hl (by decide) rfl (fun ls hl => ?_)
  refine lv_aload_n hx hb dJ7_fill_d0a16_2 rfl (lv_at hl 1 rfl) ?_
  refine sn_alen C hw h0 rfl rfl dJ7_fill_d0a16_3 ?_
  obtain ⟨y_1, e_2, hf⟩ := sn_ltE hf
  refine lv_topi (fun y_1_ e_2_ => ?_)
  obtain rfl : y_1 = y_1_ := e_2.trans e_2_.symm
  refine lv_istore (lv' := [(4, .int y_1), (3, .int (0 : Int32)), (0, .ref (ad q0)), (1, .long x1)]) hx hb dJ7_fill_d0a16_4 hl (by decide) rfl (fun ls hl => ?_)
  obtain ⟨t_3, h_4, hf⟩ := sn_bd hf
  exact wJ7_fill_d0a16_L6 C h0 h_4 (fun v e => by cases e; exact wJ7_fill_d0a16_22 C h0 hf kr) _ _ _ hw (lv_sub hl [2, 3, 1, 0] rfl)
theorem ctJ7_fill_d0a16 (l : Launch) {σ : sn_S} {q0 : Nat} {n0 : Nat} {x1 : Int64} (h0 : layC[q0]? = some (.inl (3, n0, 1, []))) {o : sn_S} (hf : fJ7_fill_d0a16 σ q0 n0 x1 = some o) : sn_M l yJ7_fill_d0a16 cJ7_fill_d0a16 5 none rmJ7_fill_d0a16 layC (fun ad => [.ref (ad q0), .long x1]) σ none o :=
  sn_met (by decide) (fun _ => Nat.le_of_ble_eq_true rfl) (fun p e s m args below meth c ls D ct ad C hw hl => wJ7_fill_d0a16_in C h0 hf (fun H locs ls pc hw ok hd => sn_vret C hw hd) _ _ _ hw hl)
-- X1_goOn
abbrev rmX1_goOn : Room := { frames := 2, cells := 0, slots := 0, locals := 45 }
def BX1_goOn_93 (σ : sn_S) (q1 : Nat) (x6 : Int64) : Option (sn_S) :=
  (sn_lt (if x6 < (sn_L σ 73 1) then x6 else (sn_L σ 73 1)) fun y_1 => (sn_lt (sn_pL σ 73 1 y_1) fun σ_3 => (some σ_3)))
def BX1_goOn_87 (σ : sn_S) (q1 : Nat) (x2 : Int32) (x4 : Int32) (x5 : Int32) (x6 : Int64) (x8 : Int32) (x9 : Int32) : Option ((sn_S × Int64 × Int32 × Int32) ⊕ (sn_S × Int64)) :=
  (sn_lt (x9 + 1) fun y_1 => (some (.inl (σ, x6, x8, y_1))))
def BX1_goOn_74 (σ : sn_S) (q1 : Nat) (x2 : Int32) (x4 : Int32) (x5 : Int32) (x6 : Int64) (x8 : Int32) (x9 : Int32) : Option ((sn_S × Int64 × Int32 × Int32) ⊕ (sn_S × Int64)) :=
  (sn_lt (x6 + ((1073741824 : Int64) + ((1 : Int64) <<< (x9.toInt64 &&& 63)))) fun y_1 => (BX1_goOn_87 σ q1 x2 x4 x5 y_1 x8 x9))
def BX1_goOn_14 (σ : sn_S) (q1 : Nat) (x2 : Int32) (x4 : Int32) (x5 : Int32) (x6 : Int64) (x8 : Int32) (x9 : Int32) : Option ((sn_S × Int64 × Int32 × Int32) ⊕ (sn_S × Int64)) :=
  (if x5 < x9 then
  (some (.inr (σ, x6)))
  else
  ((fX0_comesTo σ q1 x2 x9).bind fun t_2 => (sn_lt (x8 + t_2) fun y_4 => (sn_gd (sn_in x2 6) (if y_4 < (sn_I σ (q1 + 3) x2.toNatClampNeg) then
  (BX1_goOn_87 σ q1 x2 x4 x5 x6 y_4 x9)
  else
  (if x4 ≤ x9 then
  (BX1_goOn_74 σ q1 x2 x4 x5 x6 y_4 x9)
  else
  (sn_gd (sn_in (x9 + (1 : Int32)) 31) (sn_lt (if x6 < (sn_L σ 74 (x9 + (1 : Int32)).toNatClampNeg) then x6 else (sn_L σ 74 (x9 + (1 : Int32)).toNatClampNeg)) fun y_10 => (sn_gd (sn_in (x9 + (1 : Int32)) 31) (sn_lt (sn_pL σ 74 (x9 + (1 : Int32)).toNatClampNeg y_10) fun σ_13 => (BX1_goOn_74 σ_13 q1 x2 x4 x5 x6 y_4 x9)))))))))))
def LX1_goOn_14 (q1 : Nat) (x2 : Int32) (x4 : Int32) (x5 : Int32) (s : sn_S × Int64 × Int32 × Int32) : Option ((sn_S × Int64 × Int32 × Int32) ⊕ (sn_S × Int64)) := BX1_goOn_14 s.1 q1 x2 x4 x5 s.2.1 s.2.2.1 s.2.2.2
def fX1_goOn (σ : sn_S) (q1 : Nat) (x2 : Int32) (x3 : Int32) (x4 : Int32) (x5 : Int32) : Option sn_S :=
  (sn_gd (sn_in x3 31) (sn_lt (sn_L σ 74 x3.toNatClampNeg) fun y_2 => ((sn_it (LX1_goOn_14 q1 x2 x4 x5) 5000 (σ, y_2, (0 : Int32), x3)).bind fun t_4 => (BX1_goOn_93 t_4.1 q1 t_4.2))))
theorem wX1_goOn_93 (C : sn_C p s m args meth c RX1 cX1_goOn 10 none D ct ad layC) {σ : sn_S} {q1 : Nat} {x6 : Int64} (h1 : sn_isX0 q1) {o : sn_S} (hf : BX1_goOn_93 σ q1 x6 = some o) (kr : sn_Kr p l e rmX1_goOn s m args below meth c Q D ct ad layC cX1_goOn .return_ (true) o []) : sn_At p l e rmX1_goOn s m args below meth c Q D ct ad layC 10 σ 93 [(0, .ref (ad 73)), (6, .long x6)] [] := by
  intro H locs ls hw hl
  have hx := C.1
  have hb := C.2.1
  unfold BX1_goOn_93 at hf
  refine lv_aload_n hx hb dX1_goOn_93 rfl (lv_at hl 0 rfl) ?_
  refine lv_aload_n hx hb dX1_goOn_94 rfl (lv_at hl 0 rfl) ?_
  refine sn_getL C hw fd_RX1_32 layC_73 rfl dX1_goOn_95 ?_
  refine lv_lload hx hb dX1_goOn_98 (lv_at hl 1 rfl) ?_
  refine va_mmin_long hx hb (C.2.2.1.trans hl.1.symm) C.2.2.2.1 (C.2.2.2.2.1 _ km_RX1_55) (C.2.2.2.2.1 _ kst_minL) (C.2.2.2.2.1 _ ki_Math) (C.2.2.2.2.1 _ kc_minL) (Nat.le_of_ble_eq_true rfl) (Nat.le_of_ble_eq_true rfl) (Nat.zero_le _) (Nat.zero_le _) dX1_goOn_100 ?_
  obtain ⟨y_1, e_2, hf⟩ := sn_ltE hf
  refine lv_topl (fun y_1_ e_2_ => ?_)
  obtain rfl : y_1 = y_1_ := e_2.trans e_2_.symm
  refine sn_putL C hw fp_RX1_32 layC_73 rfl dX1_goOn_103 (fun H locs hw => ?_)
  obtain ⟨σ_3, e_4, hf⟩ := sn_ltE hf
  rw [← e_4] at hw
  cases hf
  exact kr _ _ _ _ hw rfl dX1_goOn_106
theorem wX1_goOn_87 (C : sn_C p s m args meth c RX1 cX1_goOn 10 none D ct ad layC) {σ : sn_S} {q1 : Nat} {x2 : Int32} {x4 : Int32} {x5 : Int32} {x6 : Int64} {x8 : Int32} {x9 : Int32} (h1 : sn_isX0 q1) {o : (sn_S × Int64 × Int32 × Int32) ⊕ (sn_S × Int64)} (hf : BX1_goOn_87 σ q1 x2 x4 x5 x6 x8 x9 = some o) (kc : ∀ v, o = .inl v → sn_At p l e rmX1_goOn s m args below meth c Q D ct ad layC 10 v.1 14 [(0, .ref (ad 73)), (1, .ref (ad q1)), (2, .int x2), (4, .int x4), (5, .int x5), (6, .long v.2.1), (8, .int v.2.2.1), (9, .int v.2.2.2)] []) (kx : ∀ v, o = .inr v → sn_At p l e rmX1_goOn s m args below meth c Q D ct ad layC 10 v.1 93 [(0, .ref (ad 73)), (6, .long v.2)] []) : sn_At p l e rmX1_goOn s m args below meth c Q D ct ad layC 10 σ 87 [(0, .ref (ad 73)), (1, .ref (ad q1)), (2, .int x2), (4, .int x4), (5, .int x5), (6, .long x6), (8, .int x8), (9, .int x9)] [] := by
  intro H locs ls hw hl
  have hx := C.1
  have hb := C.2.1
  unfold BX1_goOn_87 at hf
  obtain ⟨y_1, e_2, hf⟩ := sn_ltE hf
  refine lv_iinc (v := y_1) (lv' := [(9, .int y_1), (0, .ref (ad 73)), (1, .ref (ad q1)), (2, .int x2), (4, .int x4), (5, .int x5), (6, .long x6), (8, .int x8)]) hx hb dX1_goOn_87 hl (k := 7) rfl (by rw [e_2]; rfl) (by decide) rfl (fun ls hl => ?_)
  refine lv_goto (tgt := 14) hx hb dX1_goOn_90 (by decide) ?_
  cases hf
  exact kc _ rfl _ _ _ hw (lv_sub hl [1, 2, 3, 4, 5, 6, 7, 0] rfl)
theorem wX1_goOn_74 (C : sn_C p s m args meth c RX1 cX1_goOn 10 none D ct ad layC) {σ : sn_S} {q1 : Nat} {x2 : Int32} {x4 : Int32} {x5 : Int32} {x6 : Int64} {x8 : Int32} {x9 : Int32} (h1 : sn_isX0 q1) {o : (sn_S × Int64 × Int32 × Int32) ⊕ (sn_S × Int64)} (hf : BX1_goOn_74 σ q1 x2 x4 x5 x6 x8 x9 = some o) (kc : ∀ v, o = .inl v → sn_At p l e rmX1_goOn s m args below meth c Q D ct ad layC 10 v.1 14 [(0, .ref (ad 73)), (1, .ref (ad q1)), (2, .int x2), (4, .int x4), (5, .int x5), (6, .long v.2.1), (8, .int v.2.2.1), (9, .int v.2.2.2)] []) (kx : ∀ v, o = .inr v → sn_At p l e rmX1_goOn s m args below meth c Q D ct ad layC 10 v.1 93 [(0, .ref (ad 73)), (6, .long v.2)] []) : sn_At p l e rmX1_goOn s m args below meth c Q D ct ad layC 10 σ 74 [(0, .ref (ad 73)), (1, .ref (ad q1)), (2, .int x2), (4, .int x4), (5, .int x5), (6, .long x6), (8, .int x8), (9, .int x9)] [] := by
  intro H locs ls hw hl
  have hx := C.1
  have hb := C.2.1
  unfold BX1_goOn_74 at hf
  refine lv_lload hx hb dX1_goOn_74 (lv_at hl 5 rfl) ?_
  refine lv_ldc2 hx hb C.2.2.2.1 (C.2.2.2.2.1 _ kk_RX1_58) dX1_goOn_76 ?_
  refine lv_lconst (v := 1) hx hb dX1_goOn_79 rfl ?_
  refine lv_iload hx hb dX1_goOn_80 (lv_at hl 7 rfl) ?_
  refine lv_lshl hx hb dX1_goOn_82 rfl ?_
  refine lv_ladd hx hb dX1_goOn_83 ?_
  refine lv_ladd hx hb dX1_goOn_84 ?_
  obtain ⟨y_1, e_2, hf⟩ := sn_ltE hf
  refine lv_topl (fun y_1_ e_2_ => ?_)
  obtain rfl : y_1 = y_1_ := e_2.trans e_2_.symm
  refine lv_lstore (lv' := [(6, .long y_1), (0, .ref (ad 73)), (1, .ref (ad q1)), (2, .int x2), (4, .int x4), (5, .int x5), (8, .int x8), (9, .int x9)]) hx hb dX1_goOn_85 hl (by decide) rfl (fun ls hl => ?_)
  exact wX1_goOn_87 C h1 hf kc kx _ _ _ hw (lv_sub hl [1, 2, 3, 4, 5, 0, 6, 7] rfl)
theorem wX1_goOn_14 (C : sn_C p s m args meth c RX1 cX1_goOn 10 none D ct ad layC) {σ : sn_S} {q1 : Nat} {x2 : Int32} {x4 : Int32} {x5 : Int32} {x6 : Int64} {x8 : Int32} {x9 : Int32} (h1 : sn_isX0 q1) {o : (sn_S × Int64 × Int32 × Int32) ⊕ (sn_S × Int64)} (hf : BX1_goOn_14 σ q1 x2 x4 x5 x6 x8 x9 = some o) (kc : ∀ v, o = .inl v → sn_At p l e rmX1_goOn s m args below meth c Q D ct ad layC 10 v.1 14 [(0, .ref (ad 73)), (1, .ref (ad q1)), (2, .int x2), (4, .int x4), (5, .int x5), (6, .long v.2.1), (8, .int v.2.2.1), (9, .int v.2.2.2)] []) (kx : ∀ v, o = .inr v → sn_At p l e rmX1_goOn s m args below meth c Q D ct ad layC 10 v.1 93 [(0, .ref (ad 73)), (6, .long v.2)] []) : sn_At p l e rmX1_goOn s m args below meth c Q D ct ad layC 10 σ 14 [(0, .ref (ad 73)), (1, .ref (ad q1)), (2, .int x2), (4, .int x4), (5, .int x5), (6, .long x6), (8, .int x8), (9, .int x9)] [] := by
  intro H locs ls hw hl
  have hx := C.1
  have hb := C.2.1
  unfold BX1_goOn_14 at hf
  refine lv_iload hx hb dX1_goOn_14 (lv_at hl 7 rfl) ?_
  refine lv_iload hx hb dX1_goOn_16 (lv_at hl 4 rfl) ?_
  refine lv_icmp_gt (tgt := 93) hx hb dX1_goOn_18 (by decide) (fun c_1 => ?_) (fun c_1 => ?_)
  · have hf := sn_if c_1 hf
    cases hf
    exact kx _ rfl _ _ _ hw (lv_sub hl [0, 5] rfl)
  · have hf := sn_el c_1 hf
    refine lv_iload hx hb dX1_goOn_21 (lv_at hl 6 rfl) ?_
    refine lv_aload_n hx hb dX1_goOn_23 rfl (lv_at hl 1 rfl) ?_
    refine lv_iload_n hx hb dX1_goOn_24 rfl (lv_at hl 2 rfl) ?_
    refine lv_iload hx hb dX1_goOn_25 (lv_at hl 7 rfl) ?_
    obtain ⟨t_2, h_3, hf⟩ := sn_bd hf
    refine sn_callVi (rest := [.int x8]) C hw (ctX0_comesTo l h1 h_3) kl_RX1_48 (sn_look h1 (k := 0) rfl) rfl rfl rfl rfl (Nat.le_of_ble_eq_true rfl) dX1_goOn_27 hl.1 (fun H locs hw => ?_)
    refine lv_iadd hx hb dX1_goOn_30 ?_
    obtain ⟨y_4, e_5, hf⟩ := sn_ltE hf
    refine lv_topi (fun y_4_ e_5_ => ?_)
    obtain rfl : y_4 = y_4_ := e_5.trans e_5_.symm
    refine lv_istore (lv' := [(8, .int y_4), (0, .ref (ad 73)), (1, .ref (ad q1)), (2, .int x2), (4, .int x4), (5, .int x5), (6, .long x6), (9, .int x9)]) hx hb dX1_goOn_31 hl (by decide) rfl (fun ls hl => ?_)
    refine lv_iload hx hb dX1_goOn_33 (lv_at hl 0 rfl) ?_
    refine lv_aload_n hx hb dX1_goOn_35 rfl (lv_at hl 2 rfl) ?_
    refine sn_getC (r := (q1 + 3)) C hw fd_RX1_51 (sn_look h1 (k := 0) rfl) rfl dX1_goOn_36 ?_
    refine lv_iload_n hx hb dX1_goOn_39 rfl (lv_at hl 3 rfl) ?_
    obtain ⟨g_6, hf⟩ := sn_gdE hf
    refine sn_iald C hw (sn_look h1 (k := 3) rfl) g_6 dX1_goOn_40 ?_
    refine lv_icmp_lt (tgt := 87) hx hb dX1_goOn_41 (by decide) (fun c_7 => ?_) (fun c_7 => ?_)
    · have hf := sn_if c_7 hf
      exact wX1_goOn_87 C h1 hf kc kx _ _ _ hw (lv_sub hl [1, 2, 3, 4, 5, 6, 0, 7] rfl)
    · have hf := sn_el c_7 hf
      refine lv_iload hx hb dX1_goOn_44 (lv_at hl 7 rfl) ?_
      refine lv_iload hx hb dX1_goOn_46 (lv_at hl 4 rfl) ?_
      refine lv_icmp_ge (tgt := 74) hx hb dX1_goOn_48 (by decide) (fun c_8 => ?_) (fun c_8 => ?_)
      · have hf := sn_if c_8 hf
        exact wX1_goOn_74 C h1 hf kc kx _ _ _ hw (lv_sub hl [1, 2, 3, 4, 5, 6, 0, 7] rfl)
      · have hf := sn_el c_8 hf
        refine lv_aload_n hx hb dX1_goOn_51 rfl (lv_at hl 1 rfl) ?_
        refine sn_getC (r := 74) C hw fd_RX1_9 layC_73 rfl dX1_goOn_52 ?_
        refine lv_iload hx hb dX1_goOn_55 (lv_at hl 7 rfl) ?_
        refine lv_iconst (v := 1) hx hb dX1_goOn_57 rfl ?_
        refine lv_iadd hx hb dX1_goOn_58 ?_
        refine lv_aload_n hx hb dX1_goOn_59 rfl (lv_at hl 1 rfl) ?_
        refine sn_getC (r := 74) C hw fd_RX1_9 layC_73 rfl dX1_goOn_60 ?_
        refine lv_iload hx hb dX1_goOn_63 (lv_at hl 7 rfl) ?_
        refine lv_iconst (v := 1) hx hb dX1_goOn_65 rfl ?_
        refine lv_iadd hx hb dX1_goOn_66 ?_
        obtain ⟨g_9, hf⟩ := sn_gdE hf
        refine sn_lald C hw layC_74 g_9 dX1_goOn_67 ?_
        refine lv_lload hx hb dX1_goOn_68 (lv_at hl 6 rfl) ?_
        refine va_mmin_long hx hb (C.2.2.1.trans hl.1.symm) C.2.2.2.1 (C.2.2.2.2.1 _ km_RX1_55) (C.2.2.2.2.1 _ kst_minL) (C.2.2.2.2.1 _ ki_Math) (C.2.2.2.2.1 _ kc_minL) (Nat.le_of_ble_eq_true rfl) (Nat.le_of_ble_eq_true rfl) (Nat.zero_le _) (Nat.zero_le _) dX1_goOn_70 ?_
        obtain ⟨y_10, e_11, hf⟩ := sn_ltE hf
        refine lv_topl (fun y_10_ e_11_ => ?_)
        obtain rfl : y_10 = y_10_ := e_11.trans e_11_.symm
        obtain ⟨g_12, hf⟩ := sn_gdE hf
        refine sn_last C hw layC_74 g_12 dX1_goOn_73 (fun H locs hw => ?_)
        obtain ⟨σ_13, e_14, hf⟩ := sn_ltE hf
        rw [← e_14] at hw
        exact wX1_goOn_74 C h1 hf kc kx _ _ _ hw (lv_sub hl [1, 2, 3, 4, 5, 6, 0, 7] rfl)
theorem wX1_goOn_L14 (C : sn_C p s m args meth c RX1 cX1_goOn 10 none D ct ad layC) {q1 : Nat} {x2 : Int32} {x4 : Int32} {x5 : Int32}  (h1 : sn_isX0 q1) {z : sn_S × Int64 × Int32 × Int32} {t : sn_S × Int64} (h : sn_it (LX1_goOn_14 q1 x2 x4 x5) 5000 z = some t) (kx : ∀ v, t = v → sn_At p l e rmX1_goOn s m args below meth c Q D ct ad layC 10 v.1 93 [(0, .ref (ad 73)), (6, .long v.2)] []) : sn_At p l e rmX1_goOn s m args below meth c Q D ct ad layC 10 z.1 14 [(0, .ref (ad 73)), (1, .ref (ad q1)), (2, .int x2), (4, .int x4), (5, .int x5), (6, .long z.2.1), (8, .int z.2.2.1), (9, .int z.2.2.2)] [] :=
  sn_loop (f := LX1_goOn_14 q1 x2 x4 x5) (G := fun z => sn_At p l e rmX1_goOn s m args below meth c Q D ct ad layC 10 z.1 14 [(0, .ref (ad 73)), (1, .ref (ad q1)), (2, .int x2), (4, .int x4), (5, .int x5), (6, .long z.2.1), (8, .int z.2.2.1), (9, .int z.2.2.2)] []) (E := fun t => (∀ v, t = v → sn_At p l e rmX1_goOn s m args below meth c Q D ct ad layC 10 v.1 93 [(0, .ref (ad 73)), (6, .long v.2)] []) ∧ True) (fun z o hf k1 k2 => wX1_goOn_14 C h1 hf (fun v e => k1 v e) (fun v e => (k2 _ e).1 v rfl)) 5000 z t h ⟨kx, trivial⟩
theorem wX1_goOn_in (C : sn_C p s m args meth c RX1 cX1_goOn 10 none D ct ad layC) {σ : sn_S} {q1 : Nat} {x2 : Int32} {x3 : Int32} {x4 : Int32} {x5 : Int32} (h1 : sn_isX0 q1) {o : sn_S} (hf : fX1_goOn σ q1 x2 x3 x4 x5 = some o) (kr : sn_Kr p l e rmX1_goOn s m args below meth c Q D ct ad layC cX1_goOn .return_ (true) o []) : sn_At p l e rmX1_goOn s m args below meth c Q D ct ad layC 10 σ 0 [(0, .ref (ad 73)), (1, .ref (ad q1)), (2, .int x2), (3, .int x3), (4, .int x4), (5, .int x5)] [] := by
  intro H locs ls hw hl
  have hx := C.1
  have hb := C.2.1
  unfold fX1_goOn at hf
  refine lv_aload_n hx hb dX1_goOn_0 rfl (lv_at hl 0 rfl) ?_
  refine sn_getC (r := 74) C hw fd_RX1_9 layC_73 rfl dX1_goOn_1 ?_
  refine lv_iload_n hx hb dX1_goOn_4 rfl (lv_at hl 3 rfl) ?_
  obtain ⟨g_1, hf⟩ := sn_gdE hf
  refine sn_lald C hw layC_74 g_1 dX1_goOn_5 ?_
  obtain ⟨y_2, e_3, hf⟩ := sn_ltE hf
  refine lv_topl (fun y_2_ e_3_ => ?_)
  obtain rfl : y_2 = y_2_ := e_3.trans e_3_.symm
  refine lv_lstore (lv' := [(6, .long y_2), (0, .ref (ad 73)), (1, .ref (ad q1)), (2, .int x2), (3, .int x3), (4, .int x4), (5, .int x5)]) hx hb dX1_goOn_6 hl (by decide) rfl (fun ls hl => ?_)
  refine lv_iconst (v := 0) hx hb dX1_goOn_8 rfl ?_
  refine lv_istore (lv' := [(8, .int (0 : Int32)), (6, .long y_2), (0, .ref (ad 73)), (1, .ref (ad q1)), (2, .int x2), (3, .int x3), (4, .int x4), (5, .int x5)]) hx hb dX1_goOn_9 hl (by decide) rfl (fun ls hl => ?_)
  refine lv_iload_n hx hb dX1_goOn_11 rfl (lv_at hl 5 rfl) ?_
  refine lv_istore (lv' := [(9, .int x3), (8, .int (0 : Int32)), (6, .long y_2), (0, .ref (ad 73)), (1, .ref (ad q1)), (2, .int x2), (3, .int x3), (4, .int x4), (5, .int x5)]) hx hb dX1_goOn_12 hl (by decide) rfl (fun ls hl => ?_)
  obtain ⟨t_4, h_5, hf⟩ := sn_bd hf
  exact wX1_goOn_L14 C h1 h_5 (fun v e => by cases e; exact wX1_goOn_93 C h1 hf kr) _ _ _ hw (lv_sub hl [3, 4, 5, 7, 8, 2, 1, 0] rfl)
theorem ctX1_goOn (l : Launch) {σ : sn_S} {q1 : Nat} {x2 : Int32} {x3 : Int32} {x4 : Int32} {x5 : Int32} (h1 : sn_isX0 q1) {o : sn_S} (hf : fX1_goOn σ q1 x2 x3 x4 x5 = some o) : sn_M l yX1_goOn cX1_goOn 10 none rmX1_goOn layC (fun ad => [.ref (ad 73), .ref (ad q1), .int x2, .int x3, .int x4, .int x5]) σ none o :=
  sn_met (by decide) (fun _ => Nat.le_of_ble_eq_true rfl) (fun p e s m args below meth c ls D ct ad C hw hl => wX1_goOn_in C h1 hf (fun H locs ls pc hw ok hd => sn_vret C hw hd) _ _ _ hw hl)
end
