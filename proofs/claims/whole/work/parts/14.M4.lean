section
variable {p : Program} {l : Launch} {e : Env} {s : State} {m : MethodId} {args : Array Value} {below : List Frame} {meth : Method} {c : Code} {Q : State → Prop} {D : va_G} {ct : Nat → ClassId} {ad : Nat → Nat}
-- X9_quietBy
abbrev rmX9_quietBy : Room := { frames := 5, cells := 0, slots := 0, locals := 115 }
def BX9_quietBy_115 (σ : sn_S) (x1 : Int32) (x5 : Int32) (x6 : Int32) : Option ((Int32 × sn_S)) :=
  (sn_gd (sn_in x1 119) (sn_lt (sn_pI σ 1 x1.toNatClampNeg x5) fun σ_2 => (some (x6, σ_2))))
def BX9_quietBy_103 (σ : sn_S) (x1 : Int32) (x3 : Int32) (x4 : Int32) (x5 : Int32) (x6 : Int32) (x7 : Int32) (x8 : Int32) (t0 : Int32) : Option ((sn_S × Int32 × Int32) ⊕ (sn_S × Int32)) :=
  (sn_lt (x8 + x7) fun y_1 => (some (.inl (σ, t0, y_1))))
def BX9_quietBy_90 (σ : sn_S) (x1 : Int32) (x3 : Int32) (x4 : Int32) (x5 : Int32) (x6 : Int32) (x7 : Int32) (x8 : Int32) (t0 : Int32) : Option ((sn_S × Int32 × Int32) ⊕ (sn_S × Int32)) :=
  (if t0 = 0 then
  (BX9_quietBy_103 σ x1 x3 x4 x5 x6 x7 x8 (-1 : Int32))
  else
  (BX9_quietBy_103 σ x1 x3 x4 x5 x6 x7 x8 x8))
def BX9_quietBy_26 (σ : sn_S) (x1 : Int32) (x3 : Int32) (x4 : Int32) (x5 : Int32) (x6 : Int32) (x7 : Int32) (x8 : Int32) : Option ((sn_S × Int32 × Int32) ⊕ (sn_S × Int32)) :=
  (if x8 = (x3 + x7) then
  (some (.inr (σ, x6)))
  else
  (if x6 = (-1 : Int32) then
  (sn_gd (sn_in x1 119) (sn_lt (sn_pI σ 1 x1.toNatClampNeg x8) fun σ_4 => ((fX9_asksHouse σ_4).bind fun t_6 => (if x4 = (-1 : Int32) then
  ((fX9_allSneezes t_6.2).bind fun t_11 => (if t_11 = 0 then
  (BX9_quietBy_90 t_6.2 x1 x3 x4 x5 x6 x7 x8 (1 : Int32))
  else
  (BX9_quietBy_90 t_6.2 x1 x3 x4 x5 x6 x7 x8 (0 : Int32))))
  else
  (sn_gd (sn_in x4 6) (if (sn_I t_6.2 10 x4.toNatClampNeg) = 0 then
  (BX9_quietBy_90 t_6.2 x1 x3 x4 x5 x6 x7 x8 (1 : Int32))
  else
  (BX9_quietBy_90 t_6.2 x1 x3 x4 x5 x6 x7 x8 (0 : Int32))))))))
  else
  (some (.inr (σ, x6)))))
def LX9_quietBy_26 (x1 : Int32) (x3 : Int32) (x4 : Int32) (x5 : Int32) (x7 : Int32) (s : sn_S × Int32 × Int32) : Option ((sn_S × Int32 × Int32) ⊕ (sn_S × Int32)) := BX9_quietBy_26 s.1 x1 x3 x4 x5 s.2.1 x7 s.2.2
def BX9_quietBy_21 (σ : sn_S) (x1 : Int32) (x2 : Int32) (x3 : Int32) (x4 : Int32) (x5 : Int32) (x6 : Int32) (t0 : Int32) : Option ((Int32 × sn_S)) :=
  ((sn_it (LX9_quietBy_26 x1 x3 x4 x5 t0) 5000 (σ, x6, x2)).bind fun t_1 => (BX9_quietBy_115 t_1.1 x1 x5 t_1.2))
def fX9_quietBy (σ : sn_S) (x1 : Int32) (x2 : Int32) (x3 : Int32) (x4 : Int32) : Option (Int32 × sn_S) :=
  (sn_gd (sn_in x1 119) (sn_lt (sn_I σ 1 x1.toNatClampNeg) fun y_2 => (if x2 ≤ x3 then
  (BX9_quietBy_21 σ x1 x2 x3 x4 y_2 (-1 : Int32) (1 : Int32))
  else
  (BX9_quietBy_21 σ x1 x2 x3 x4 y_2 (-1 : Int32) (-1 : Int32)))))
theorem wX9_quietBy_115 (C : sn_C p s m args meth c RX9 cX9_quietBy 10 (some .int) D ct ad layM) {σ : sn_S} {x1 : Int32} {x5 : Int32} {x6 : Int32}  {o : (Int32 × sn_S)} (hf : BX9_quietBy_115 σ x1 x5 x6 = some o) (kr : sn_Kr p l e rmX9_quietBy s m args below meth c Q D ct ad layM cX9_quietBy .ireturn (true) o.2 [.int o.1]) : sn_At p l e rmX9_quietBy s m args below meth c Q D ct ad layM 10 σ 115 [(0, .ref (ad 0)), (1, .int x1), (5, .int x5), (6, .int x6)] [] := by
  intro H locs ls hw hl
  have hx := C.1
  have hb := C.2.1
  unfold BX9_quietBy_115 at hf
  refine lv_aload_n hx hb dX9_quietBy_115 rfl (lv_at hl 0 rfl) ?_
  refine sn_getC (r := 1) C hw fd_RX9_9 layM_0 rfl dX9_quietBy_116 ?_
  refine lv_iload_n hx hb dX9_quietBy_119 rfl (lv_at hl 1 rfl) ?_
  refine lv_iload hx hb dX9_quietBy_120 (lv_at hl 2 rfl) ?_
  obtain ⟨g_1, hf⟩ := sn_gdE hf
  refine sn_iast C hw layM_1 g_1 dX9_quietBy_122 (fun H locs hw => ?_)
  obtain ⟨σ_2, e_3, hf⟩ := sn_ltE hf
  rw [← e_3] at hw
  refine lv_iload hx hb dX9_quietBy_123 (lv_at hl 3 rfl) ?_
  cases hf
  exact kr _ _ _ _ hw rfl dX9_quietBy_125
theorem wX9_quietBy_103 (C : sn_C p s m args meth c RX9 cX9_quietBy 10 (some .int) D ct ad layM) {σ : sn_S} {x1 : Int32} {x3 : Int32} {x4 : Int32} {x5 : Int32} {x6 : Int32} {x7 : Int32} {x8 : Int32} {t0 : Int32}  {o : (sn_S × Int32 × Int32) ⊕ (sn_S × Int32)} (hf : BX9_quietBy_103 σ x1 x3 x4 x5 x6 x7 x8 t0 = some o) (kc : ∀ v, o = .inl v → sn_At p l e rmX9_quietBy s m args below meth c Q D ct ad layM 10 v.1 26 [(0, .ref (ad 0)), (1, .int x1), (3, .int x3), (4, .int x4), (5, .int x5), (6, .int v.2.1), (7, .int x7), (8, .int v.2.2)] []) (kx : ∀ v, o = .inr v → sn_At p l e rmX9_quietBy s m args below meth c Q D ct ad layM 10 v.1 115 [(0, .ref (ad 0)), (1, .int x1), (5, .int x5), (6, .int v.2)] []) : sn_At p l e rmX9_quietBy s m args below meth c Q D ct ad layM 10 σ 103 [(0, .ref (ad 0)), (1, .int x1), (3, .int x3), (4, .int x4), (5, .int x5), (6, .int x6), (7, .int x7), (8, .int x8)] [.int t0] := by
  intro H locs ls hw hl
  have hx := C.1
  have hb := C.2.1
  unfold BX9_quietBy_103 at hf
  refine lv_istore (lv' := [(6, .int t0), (0, .ref (ad 0)), (1, .int x1), (3, .int x3), (4, .int x4), (5, .int x5), (7, .int x7), (8, .int x8)]) hx hb dX9_quietBy_103 hl (by decide) rfl (fun ls hl => ?_)
  refine lv_iload hx hb dX9_quietBy_105 (lv_at hl 7 rfl) ?_
  refine lv_iload hx hb dX9_quietBy_107 (lv_at hl 6 rfl) ?_
  refine lv_iadd hx hb dX9_quietBy_109 ?_
  obtain ⟨y_1, e_2, hf⟩ := sn_ltE hf
  refine lv_topi (fun y_1_ e_2_ => ?_)
  obtain rfl : y_1 = y_1_ := e_2.trans e_2_.symm
  refine lv_istore (lv' := [(8, .int y_1), (6, .int t0), (0, .ref (ad 0)), (1, .int x1), (3, .int x3), (4, .int x4), (5, .int x5), (7, .int x7)]) hx hb dX9_quietBy_110 hl (by decide) rfl (fun ls hl => ?_)
  refine lv_goto (tgt := 26) hx hb dX9_quietBy_112 (by decide) ?_
  cases hf
  exact kc _ rfl _ _ _ hw (lv_sub hl [2, 3, 4, 5, 6, 1, 7, 0] rfl)
theorem wX9_quietBy_90 (C : sn_C p s m args meth c RX9 cX9_quietBy 10 (some .int) D ct ad layM) {σ : sn_S} {x1 : Int32} {x3 : Int32} {x4 : Int32} {x5 : Int32} {x6 : Int32} {x7 : Int32} {x8 : Int32} {t0 : Int32}  {o : (sn_S × Int32 × Int32) ⊕ (sn_S × Int32)} (hf : BX9_quietBy_90 σ x1 x3 x4 x5 x6 x7 x8 t0 = some o) (kc : ∀ v, o = .inl v → sn_At p l e rmX9_quietBy s m args below meth c Q D ct ad layM 10 v.1 26 [(0, .ref (ad 0)), (1, .int x1), (3, .int x3), (4, .int x4), (5, .int x5), (6, .int v.2.1), (7, .int x7), (8, .int v.2.2)] []) (kx : ∀ v, o = .inr v → sn_At p l e rmX9_quietBy s m args below meth c Q D ct ad layM 10 v.1 115 [(0, .ref (ad 0)), (1, .int x1), (5, .int x5), (6, .int v.2)] []) : sn_At p l e rmX9_quietBy s m args below meth c Q D ct ad layM 10 σ 90 [(0, .ref (ad 0)), (1, .int x1), (3, .int x3), (4, .int x4), (5, .int x5), (6, .int x6), (7, .int x7), (8, .int x8)] [.int t0] := by
  intro H locs ls hw hl
  have hx := C.1
  have hb := C.2.1
  unfold BX9_quietBy_90 at hf
  refine lv_istore (lv' := [(9, .int t0), (0, .ref (ad 0)), (1, .int x1), (3, .int x3), (4, .int x4), (5, .int x5), (6, .int x6), (7, .int x7), (8, .int x8)]) hx hb dX9_quietBy_90 hl (by decide) rfl (fun ls hl => ?_)
  refine lv_iload hx hb dX9_quietBy_92 (lv_at hl 0 rfl) ?_
  refine lv_if_eq (tgt := 102) hx hb dX9_quietBy_94 (by decide) (fun c_1 => ?_) (fun c_1 => ?_)
  · have hf := sn_if c_1 hf
    refine lv_iconst (v := (-1)) hx hb dX9_quietBy_102 rfl ?_
    exact wX9_quietBy_103 C  hf kc kx _ _ _ hw (lv_sub hl [1, 2, 3, 4, 5, 6, 7, 8] rfl)
  · have hf := sn_el c_1 hf
    refine lv_iload hx hb dX9_quietBy_97 (lv_at hl 8 rfl) ?_
    refine lv_goto (tgt := 103) hx hb dX9_quietBy_99 (by decide) ?_
    exact wX9_quietBy_103 C  hf kc kx _ _ _ hw (lv_sub hl [1, 2, 3, 4, 5, 6, 7, 8] rfl)
theorem wX9_quietBy_26 (C : sn_C p s m args meth c RX9 cX9_quietBy 10 (some .int) D ct ad layM) {σ : sn_S} {x1 : Int32} {x3 : Int32} {x4 : Int32} {x5 : Int32} {x6 : Int32} {x7 : Int32} {x8 : Int32}  {o : (sn_S × Int32 × Int32) ⊕ (sn_S × Int32)} (hf : BX9_quietBy_26 σ x1 x3 x4 x5 x6 x7 x8 = some o) (kc : ∀ v, o = .inl v → sn_At p l e rmX9_quietBy s m args below meth c Q D ct ad layM 10 v.1 26 [(0, .ref (ad 0)), (1, .int x1), (3, .int x3), (4, .int x4), (5, .int x5), (6, .int v.2.1), (7, .int x7), (8, .int v.2.2)] []) (kx : ∀ v, o = .inr v → sn_At p l e rmX9_quietBy s m args below meth c Q D ct ad layM 10 v.1 115 [(0, .ref (ad 0)), (1, .int x1), (5, .int x5), (6, .int v.2)] []) : sn_At p l e rmX9_quietBy s m args below meth c Q D ct ad layM 10 σ 26 [(0, .ref (ad 0)), (1, .int x1), (3, .int x3), (4, .int x4), (5, .int x5), (6, .int x6), (7, .int x7), (8, .int x8)] [] := by
  intro H locs ls hw hl
  have hx := C.1
  have hb := C.2.1
  unfold BX9_quietBy_26 at hf
  refine lv_iload hx hb dX9_quietBy_26 (lv_at hl 7 rfl) ?_
  refine lv_iload_n hx hb dX9_quietBy_28 rfl (lv_at hl 2 rfl) ?_
  refine lv_iload hx hb dX9_quietBy_29 (lv_at hl 6 rfl) ?_
  refine lv_iadd hx hb dX9_quietBy_31 ?_
  refine lv_icmp_eq (tgt := 115) hx hb dX9_quietBy_32 (by decide) (fun c_1 => ?_) (fun c_1 => ?_)
  · have hf := sn_if c_1 hf
    cases hf
    exact kx _ rfl _ _ _ hw (lv_sub hl [0, 1, 4, 5] rfl)
  · have hf := sn_el c_1 hf
    refine lv_iload hx hb dX9_quietBy_35 (lv_at hl 5 rfl) ?_
    refine lv_iconst (v := (-1)) hx hb dX9_quietBy_37 rfl ?_
    refine lv_icmp_ne (tgt := 115) hx hb dX9_quietBy_38 (by decide) (fun c_2 => ?_) (fun c_2 => ?_)
    · have hf := sn_el c_2 hf
      cases hf
      exact kx _ rfl _ _ _ hw (lv_sub hl [0, 1, 4, 5] rfl)
    · have hf := sn_if c_2 hf
      refine lv_aload_n hx hb dX9_quietBy_41 rfl (lv_at hl 0 rfl) ?_
      refine sn_getC (r := 1) C hw fd_RX9_9 layM_0 rfl dX9_quietBy_42 ?_
      refine lv_iload_n hx hb dX9_quietBy_45 rfl (lv_at hl 1 rfl) ?_
      refine lv_iload hx hb dX9_quietBy_46 (lv_at hl 7 rfl) ?_
      obtain ⟨g_3, hf⟩ := sn_gdE hf
      refine sn_iast C hw layM_1 g_3 dX9_quietBy_48 (fun H locs hw => ?_)
      obtain ⟨σ_4, e_5, hf⟩ := sn_ltE hf
      rw [← e_5] at hw
      refine lv_aload_n hx hb dX9_quietBy_49 rfl (lv_at hl 0 rfl) ?_
      obtain ⟨t_6, h_7, hf⟩ := sn_bd hf
      refine sn_callVi (rest := []) C hw (ctX9_asksHouse l  h_7) kl_RX9_272 layM_0 rfl rfl rfl rfl (Nat.le_of_ble_eq_true rfl) dX9_quietBy_50 hl.1 (fun H locs hw => ?_)
      refine lv_pop hx hb dX9_quietBy_53 rfl ?_
      refine lv_iload hx hb dX9_quietBy_54 (lv_at hl 3 rfl) ?_
      refine lv_iconst (v := (-1)) hx hb dX9_quietBy_56 rfl ?_
      refine lv_icmp_ne (tgt := 75) hx hb dX9_quietBy_57 (by decide) (fun c_8 => ?_) (fun c_8 => ?_)
      · have hf := sn_el c_8 hf
        refine lv_aload_n hx hb dX9_quietBy_75 rfl (lv_at hl 0 rfl) ?_
        refine sn_getC (r := 10) C hw fd_RX9_43 layM_0 rfl dX9_quietBy_76 ?_
        refine lv_iload hx hb dX9_quietBy_79 (lv_at hl 3 rfl) ?_
        obtain ⟨g_9, hf⟩ := sn_gdE hf
        refine sn_iald C hw layM_10 g_9 dX9_quietBy_81 ?_
        refine lv_if_ne (tgt := 89) hx hb dX9_quietBy_82 (by decide) (fun c_10 => ?_) (fun c_10 => ?_)
        · have hf := sn_el c_10 hf
          refine lv_iconst (v := 0) hx hb dX9_quietBy_89 rfl ?_
          exact wX9_quietBy_90 C  hf kc kx _ _ _ hw (lv_sub hl [0, 1, 2, 3, 4, 5, 6, 7] rfl)
        · have hf := sn_if c_10 hf
          refine lv_iconst (v := 1) hx hb dX9_quietBy_85 rfl ?_
          refine lv_goto (tgt := 90) hx hb dX9_quietBy_86 (by decide) ?_
          exact wX9_quietBy_90 C  hf kc kx _ _ _ hw (lv_sub hl [0, 1, 2, 3, 4, 5, 6, 7] rfl)
      · have hf := sn_if c_8 hf
        refine lv_aload_n hx hb dX9_quietBy_60 rfl (lv_at hl 0 rfl) ?_
        obtain ⟨t_11, h_12, hf⟩ := sn_bd hf
        refine sn_callVi (rest := []) C hw (ctX9_allSneezes l  h_12) kl_RX9_290 layM_0 rfl rfl rfl rfl (Nat.le_of_ble_eq_true rfl) dX9_quietBy_61 hl.1 (fun H locs hw => ?_)
        refine lv_if_ne (tgt := 71) hx hb dX9_quietBy_64 (by decide) (fun c_13 => ?_) (fun c_13 => ?_)
        · have hf := sn_el c_13 hf
          refine lv_iconst (v := 0) hx hb dX9_quietBy_71 rfl ?_
          refine lv_goto (tgt := 90) hx hb dX9_quietBy_72 (by decide) ?_
          exact wX9_quietBy_90 C  hf kc kx _ _ _ hw (lv_sub hl [0, 1, 2, 3, 4, 5, 6, 7] rfl)
        · have hf := sn_if c_13 hf
          refine lv_iconst (v := 1) hx hb dX9_quietBy_67 rfl ?_
          refine lv_goto (tgt := 90) hx hb dX9_quietBy_68 (by decide) ?_
          exact wX9_quietBy_90 C  hf kc kx _ _ _ hw (lv_sub hl [0, 1, 2, 3, 4, 5, 6, 7] rfl)
theorem wX9_quietBy_L26 (C : sn_C p s m args meth c RX9 cX9_quietBy 10 (some .int) D ct ad layM) {x1 : Int32} {x3 : Int32} {x4 : Int32} {x5 : Int32} {x7 : Int32}   {z : sn_S × Int32 × Int32} {t : sn_S × Int32} (h : sn_it (LX9_quietBy_26 x1 x3 x4 x5 x7) 5000 z = some t) (kx : ∀ v, t = v → sn_At p l e rmX9_quietBy s m args below meth c Q D ct ad layM 10 v.1 115 [(0, .ref (ad 0)), (1, .int x1), (5, .int x5), (6, .int v.2)] []) : sn_At p l e rmX9_quietBy s m args below meth c Q D ct ad layM 10 z.1 26 [(0, .ref (ad 0)), (1, .int x1), (3, .int x3), (4, .int x4), (5, .int x5), (6, .int z.2.1), (7, .int x7), (8, .int z.2.2)] [] :=
  sn_loop (f := LX9_quietBy_26 x1 x3 x4 x5 x7) (G := fun z => sn_At p l e rmX9_quietBy s m args below meth c Q D ct ad layM 10 z.1 26 [(0, .ref (ad 0)), (1, .int x1), (3, .int x3), (4, .int x4), (5, .int x5), (6, .int z.2.1), (7, .int x7), (8, .int z.2.2)] []) (E := fun t => (∀ v, t = v → sn_At p l e rmX9_quietBy s m args below meth c Q D ct ad layM 10 v.1 115 [(0, .ref (ad 0)), (1, .int x1), (5, .int x5), (6, .int v.2)] []) ∧ True) (fun z o hf k1 k2 => wX9_quietBy_26 C  hf (fun v e => k1 v e) (fun v e => (k2 _ e).1 v rfl)) 5000 z t h ⟨kx, trivial⟩
theorem wX9_quietBy_21 (C : sn_C p s m args meth c RX9 cX9_quietBy 10 (some .int) D ct ad layM) {σ : sn_S} {x1 : Int32} {x2 : Int32} {x3 : Int32} {x4 : Int32} {x5 : Int32} {x6 : Int32} {t0 : Int32}  {o : (Int32 × sn_S)} (hf : BX9_quietBy_21 σ x1 x2 x3 x4 x5 x6 t0 = some o) (kr : sn_Kr p l e rmX9_quietBy s m args below meth c Q D ct ad layM cX9_quietBy .ireturn (true) o.2 [.int o.1]) : sn_At p l e rmX9_quietBy s m args below meth c Q D ct ad layM 10 σ 21 [(0, .ref (ad 0)), (1, .int x1), (2, .int x2), (3, .int x3), (4, .int x4), (5, .int x5), (6, .int x6)] [.int t0] := by
  intro H locs ls hw hl
  have hx := C.1
  have hb := C.2.1
  unfold BX9_quietBy_21 at hf
  refine lv_istore (lv' := [(7, .int t0), (0, .ref (ad 0)), (1, .int x1), (2, .int x2), (3, .int x3), (4, .int x4), (5, .int x5), (6, .int x6)]) hx hb dX9_quietBy_21 hl (by decide) rfl (fun ls hl => ?_)
  refine lv_iload_n hx hb dX9_quietBy_23 rfl (lv_at hl 3 rfl) ?_
  refine lv_istore (lv' := [(8, .int x2), (7, .int t0), (0, .ref (ad 0)), (1, .int x1), (2, .int x2), (3, .int x3), (4, .int x4), (5, .int x5), (6, .int x6)]) hx hb dX9_quietBy_24 hl (by decide) rfl (fun ls hl => ?_)
  obtain ⟨t_1, h_2, hf⟩ := sn_bd hf
  exact wX9_quietBy_L26 C  h_2 (fun v e => by cases e; exact wX9_quietBy_115 C  hf kr) _ _ _ hw (lv_sub hl [2, 3, 5, 6, 7, 8, 1, 0] rfl)
theorem wX9_quietBy_in (C : sn_C p s m args meth c RX9 cX9_quietBy 10 (some .int) D ct ad layM) {σ : sn_S} {x1 : Int32} {x2 : Int32} {x3 : Int32} {x4 : Int32}  {o : (Int32 × sn_S)} (hf : fX9_quietBy σ x1 x2 x3 x4 = some o) (kr : sn_Kr p l e rmX9_quietBy s m args below meth c Q D ct ad layM cX9_quietBy .ireturn (true) o.2 [.int o.1]) : sn_At p l e rmX9_quietBy s m args below meth c Q D ct ad layM 10 σ 0 [(0, .ref (ad 0)), (1, .int x1), (2, .int x2), (3, .int x3), (4, .int x4)] [] := by
  intro H locs ls hw hl
  have hx := C.1
  have hb := C.2.1
  unfold fX9_quietBy at hf
  refine lv_aload_n hx hb dX9_quietBy_0 rfl (lv_at hl 0 rfl) ?_
  refine sn_getC (r := 1) C hw fd_RX9_9 layM_0 rfl dX9_quietBy_1 ?_
  refine lv_iload_n hx hb dX9_quietBy_4 rfl (lv_at hl 1 rfl) ?_
  obtain ⟨g_1, hf⟩ := sn_gdE hf
  refine sn_iald C hw layM_1 g_1 dX9_quietBy_5 ?_
  obtain ⟨y_2, e_3, hf⟩ := sn_ltE hf
  refine lv_topi (fun y_2_ e_3_ => ?_)
  obtain rfl : y_2 = y_2_ := e_3.trans e_3_.symm
  refine lv_istore (lv' := [(5, .int y_2), (0, .ref (ad 0)), (1, .int x1), (2, .int x2), (3, .int x3), (4, .int x4)]) hx hb dX9_quietBy_6 hl (by decide) rfl (fun ls hl => ?_)
  refine lv_iconst (v := (-1)) hx hb dX9_quietBy_8 rfl ?_
  refine lv_istore (lv' := [(6, .int (-1 : Int32)), (5, .int y_2), (0, .ref (ad 0)), (1, .int x1), (2, .int x2), (3, .int x3), (4, .int x4)]) hx hb dX9_quietBy_9 hl (by decide) rfl (fun ls hl => ?_)
  refine lv_iload_n hx hb dX9_quietBy_11 rfl (lv_at hl 4 rfl) ?_
  refine lv_iload_n hx hb dX9_quietBy_12 rfl (lv_at hl 5 rfl) ?_
  refine lv_icmp_le (tgt := 20) hx hb dX9_quietBy_13 (by decide) (fun c_4 => ?_) (fun c_4 => ?_)
  · have hf := sn_if c_4 hf
    refine lv_iconst (v := 1) hx hb dX9_quietBy_20 rfl ?_
    exact wX9_quietBy_21 C  hf kr _ _ _ hw (lv_sub hl [2, 3, 4, 5, 6, 1, 0] rfl)
  · have hf := sn_el c_4 hf
    refine lv_iconst (v := (-1)) hx hb dX9_quietBy_16 rfl ?_
    refine lv_goto (tgt := 21) hx hb dX9_quietBy_17 (by decide) ?_
    exact wX9_quietBy_21 C  hf kr _ _ _ hw (lv_sub hl [2, 3, 4, 5, 6, 1, 0] rfl)
theorem ctX9_quietBy (l : Launch) {σ : sn_S} {x1 : Int32} {x2 : Int32} {x3 : Int32} {x4 : Int32}  {o : (Int32 × sn_S)} (hf : fX9_quietBy σ x1 x2 x3 x4 = some o) : sn_M l yX9_quietBy cX9_quietBy 10 (some .int) rmX9_quietBy layM (fun ad => [.ref (ad 0), .int x1, .int x2, .int x3, .int x4]) σ (some (fun _ => .int o.1)) o.2 :=
  sn_met (by decide) (fun _ => Nat.le_of_ble_eq_true rfl) (fun p e s m args below meth c ls D ct ad C hw hl => wX9_quietBy_in C  hf (fun H locs ls pc hw ok hd => sn_iret C hw hd) _ _ _ hw hl)
-- X9_dull
abbrev rmX9_dull : Room := { frames := 6, cells := 0, slots := 0, locals := 144 }
def fX9_dull (σ : sn_S) (x1 : Int32) : Option (Int32 × sn_S) :=
  ((fX9_isPerson σ x1.toInt64).bind fun t_1 => (if t_1 = 0 then
  (some ((-2 : Int32), σ))
  else
  ((fX9_quietBy σ ((11 : Int32) + ((2 : Int32) * x1)) (9 : Int32) (0 : Int32) x1).bind fun t_4 => (some (t_4.1, t_4.2)))))
theorem wX9_dull_in (C : sn_C p s m args meth c RX9 cX9_dull 2 (some .int) D ct ad layM) {σ : sn_S} {x1 : Int32}  {o : (Int32 × sn_S)} (hf : fX9_dull σ x1 = some o) (kr : sn_Kr p l e rmX9_dull s m args below meth c Q D ct ad layM cX9_dull .ireturn (true) o.2 [.int o.1]) : sn_At p l e rmX9_dull s m args below meth c Q D ct ad layM 2 σ 0 [(0, .ref (ad 0)), (1, .int x1)] [] := by
  intro H locs ls hw hl
  have hx := C.1
  have hb := C.2.1
  unfold fX9_dull at hf
  refine lv_aload_n hx hb dX9_dull_0 rfl (lv_at hl 0 rfl) ?_
  refine lv_iload_n hx hb dX9_dull_1 rfl (lv_at hl 1 rfl) ?_
  refine lv_i2l hx hb dX9_dull_2 rfl ?_
  obtain ⟨t_1, h_2, hf⟩ := sn_bd hf
  refine sn_callVi (rest := []) C hw (ctX9_isPerson l  h_2) kl_RX9_224 layM_0 rfl rfl rfl rfl (Nat.le_of_ble_eq_true rfl) dX9_dull_3 hl.1 (fun H locs hw => ?_)
  refine lv_if_eq (tgt := 26) hx hb dX9_dull_6 (by decide) (fun c_3 => ?_) (fun c_3 => ?_)
  · have hf := sn_if c_3 hf
    refine lv_bipush (v := (-2)) hx hb dX9_dull_26 (by decide) ?_
    cases hf
    exact kr _ _ _ _ hw rfl dX9_dull_28
  · have hf := sn_el c_3 hf
    refine lv_aload_n hx hb dX9_dull_9 rfl (lv_at hl 0 rfl) ?_
    refine lv_bipush (v := 11) hx hb dX9_dull_10 (by decide) ?_
    refine lv_iconst (v := 2) hx hb dX9_dull_12 rfl ?_
    refine lv_iload_n hx hb dX9_dull_13 rfl (lv_at hl 1 rfl) ?_
    refine lv_imul hx hb dX9_dull_14 ?_
    refine lv_iadd hx hb dX9_dull_15 ?_
    refine lv_bipush (v := 9) hx hb dX9_dull_16 (by decide) ?_
    refine lv_iconst (v := 0) hx hb dX9_dull_18 rfl ?_
    refine lv_iload_n hx hb dX9_dull_19 rfl (lv_at hl 1 rfl) ?_
    obtain ⟨t_4, h_5, hf⟩ := sn_bd hf
    refine sn_callVi (rest := []) C hw (ctX9_quietBy l  h_5) kl_RX9_300 layM_0 rfl rfl rfl rfl (Nat.le_of_ble_eq_true rfl) dX9_dull_20 hl.1 (fun H locs hw => ?_)
    refine lv_goto (tgt := 28) hx hb dX9_dull_23 (by decide) ?_
    cases hf
    exact kr _ _ _ _ hw rfl dX9_dull_28
theorem ctX9_dull (l : Launch) {σ : sn_S} {x1 : Int32}  {o : (Int32 × sn_S)} (hf : fX9_dull σ x1 = some o) : sn_M l yX9_dull cX9_dull 2 (some .int) rmX9_dull layM (fun ad => [.ref (ad 0), .int x1]) σ (some (fun _ => .int o.1)) o.2 :=
  sn_met (by decide) (fun _ => Nat.le_of_ble_eq_true rfl) (fun p e s m args below meth c ls D ct ad C hw hl => wX9_dull_in C  hf (fun H locs ls pc hw ok hd => sn_iret C hw hd) _ _ _ hw hl)
-- X9_bears
abbrev rmX9_bears : Room := { frames := 6, cells := 0, slots := 0, locals := 144 }
def fX9_bears (σ : sn_S) (x1 : Int32) : Option (Int32 × sn_S) :=
  ((fX9_isPerson σ x1.toInt64).bind fun t_1 => (if t_1 = 0 then
  (some ((-2 : Int32), σ))
  else
  ((fX9_quietBy σ (((11 : Int32) + ((2 : Int32) * x1)) + (1 : Int32)) (1 : Int32) (99 : Int32) x1).bind fun t_4 => (some (t_4.1, t_4.2)))))
theorem wX9_bears_in (C : sn_C p s m args meth c RX9 cX9_bears 2 (some .int) D ct ad layM) {σ : sn_S} {x1 : Int32}  {o : (Int32 × sn_S)} (hf : fX9_bears σ x1 = some o) (kr : sn_Kr p l e rmX9_bears s m args below meth c Q D ct ad layM cX9_bears .ireturn (true) o.2 [.int o.1]) : sn_At p l e rmX9_bears s m args below meth c Q D ct ad layM 2 σ 0 [(0, .ref (ad 0)), (1, .int x1)] [] := by
  intro H locs ls hw hl
  have hx := C.1
  have hb := C.2.1
  unfold fX9_bears at hf
  refine lv_aload_n hx hb dX9_bears_0 rfl (lv_at hl 0 rfl) ?_
  refine lv_iload_n hx hb dX9_bears_1 rfl (lv_at hl 1 rfl) ?_
  refine lv_i2l hx hb dX9_bears_2 rfl ?_
  obtain ⟨t_1, h_2, hf⟩ := sn_bd hf
  refine sn_callVi (rest := []) C hw (ctX9_isPerson l  h_2) kl_RX9_224 layM_0 rfl rfl rfl rfl (Nat.le_of_ble_eq_true rfl) dX9_bears_3 hl.1 (fun H locs hw => ?_)
  refine lv_if_eq (tgt := 28) hx hb dX9_bears_6 (by decide) (fun c_3 => ?_) (fun c_3 => ?_)
  · have hf := sn_if c_3 hf
    refine lv_bipush (v := (-2)) hx hb dX9_bears_28 (by decide) ?_
    cases hf
    exact kr _ _ _ _ hw rfl dX9_bears_30
  · have hf := sn_el c_3 hf
    refine lv_aload_n hx hb dX9_bears_9 rfl (lv_at hl 0 rfl) ?_
    refine lv_bipush (v := 11) hx hb dX9_bears_10 (by decide) ?_
    refine lv_iconst (v := 2) hx hb dX9_bears_12 rfl ?_
    refine lv_iload_n hx hb dX9_bears_13 rfl (lv_at hl 1 rfl) ?_
    refine lv_imul hx hb dX9_bears_14 ?_
    refine lv_iadd hx hb dX9_bears_15 ?_
    refine lv_iconst (v := 1) hx hb dX9_bears_16 rfl ?_
    refine lv_iadd hx hb dX9_bears_17 ?_
    refine lv_iconst (v := 1) hx hb dX9_bears_18 rfl ?_
    refine lv_bipush (v := 99) hx hb dX9_bears_19 (by decide) ?_
    refine lv_iload_n hx hb dX9_bears_21 rfl (lv_at hl 1 rfl) ?_
    obtain ⟨t_4, h_5, hf⟩ := sn_bd hf
    refine sn_callVi (rest := []) C hw (ctX9_quietBy l  h_5) kl_RX9_300 layM_0 rfl rfl rfl rfl (Nat.le_of_ble_eq_true rfl) dX9_bears_22 hl.1 (fun H locs hw => ?_)
    refine lv_goto (tgt := 30) hx hb dX9_bears_25 (by decide) ?_
    cases hf
    exact kr _ _ _ _ hw rfl dX9_bears_30
theorem ctX9_bears (l : Launch) {σ : sn_S} {x1 : Int32}  {o : (Int32 × sn_S)} (hf : fX9_bears σ x1 = some o) : sn_M l yX9_bears cX9_bears 2 (some .int) rmX9_bears layM (fun ad => [.ref (ad 0), .int x1]) σ (some (fun _ => .int o.1)) o.2 :=
  sn_met (by decide) (fun _ => Nat.le_of_ble_eq_true rfl) (fun p e s m args below meth c ls D ct ad C hw hl => wX9_bears_in C  hf (fun H locs ls pc hw ok hd => sn_iret C hw hd) _ _ _ hw hl)
-- X9_clean
abbrev rmX9_clean : Room := { frames := 6, cells := 0, slots := 0, locals := 144 }
def fX9_clean (σ : sn_S) : Option (Int32 × sn_S) :=
  ((fX9_isHouse σ).bind fun t_1 => (if t_1 = 0 then
  (some ((-2 : Int32), σ))
  else
  ((fX9_quietBy σ (1 : Int32) (9 : Int32) (0 : Int32) (-1 : Int32)).bind fun t_4 => (some (t_4.1, t_4.2)))))
theorem wX9_clean_in (C : sn_C p s m args meth c RX9 cX9_clean 1 (some .int) D ct ad layM) {σ : sn_S}  {o : (Int32 × sn_S)} (hf : fX9_clean σ = some o) (kr : sn_Kr p l e rmX9_clean s m args below meth c Q D ct ad layM cX9_clean .ireturn (true) o.2 [.int o.1]) : sn_At p l e rmX9_clean s m args below meth c Q D ct ad layM 1 σ 0 [(0, .ref (ad 0))] [] := by
  intro H locs ls hw hl
  have hx := C.1
  have hb := C.2.1
  unfold fX9_clean at hf
  refine lv_aload_n hx hb dX9_clean_0 rfl (lv_at hl 0 rfl) ?_
  obtain ⟨t_1, h_2, hf⟩ := sn_bd hf
  refine sn_callVi (rest := []) C hw (ctX9_isHouse l  h_2) kl_RX9_269 layM_0 rfl rfl rfl rfl (Nat.le_of_ble_eq_true rfl) dX9_clean_1 hl.1 (fun H locs hw => ?_)
  refine lv_if_eq (tgt := 19) hx hb dX9_clean_4 (by decide) (fun c_3 => ?_) (fun c_3 => ?_)
  · have hf := sn_if c_3 hf
    refine lv_bipush (v := (-2)) hx hb dX9_clean_19 (by decide) ?_
    cases hf
    exact kr _ _ _ _ hw rfl dX9_clean_21
  · have hf := sn_el c_3 hf
    refine lv_aload_n hx hb dX9_clean_7 rfl (lv_at hl 0 rfl) ?_
    refine lv_iconst (v := 1) hx hb dX9_clean_8 rfl ?_
    refine lv_bipush (v := 9) hx hb dX9_clean_9 (by decide) ?_
    refine lv_iconst (v := 0) hx hb dX9_clean_11 rfl ?_
    refine lv_iconst (v := (-1)) hx hb dX9_clean_12 rfl ?_
    obtain ⟨t_4, h_5, hf⟩ := sn_bd hf
    refine sn_callVi (rest := []) C hw (ctX9_quietBy l  h_5) kl_RX9_300 layM_0 rfl rfl rfl rfl (Nat.le_of_ble_eq_true rfl) dX9_clean_13 hl.1 (fun H locs hw => ?_)
    refine lv_goto (tgt := 21) hx hb dX9_clean_16 (by decide) ?_
    cases hf
    exact kr _ _ _ _ hw rfl dX9_clean_21
theorem ctX9_clean (l : Launch) {σ : sn_S}  {o : (Int32 × sn_S)} (hf : fX9_clean σ = some o) : sn_M l yX9_clean cX9_clean 1 (some .int) rmX9_clean layM (fun ad => [.ref (ad 0)]) σ (some (fun _ => .int o.1)) o.2 :=
  sn_met (by decide) (fun _ => Nat.le_of_ble_eq_true rfl) (fun p e s m args below meth c ls D ct ad C hw hl => wX9_clean_in C  hf (fun H locs ls pc hw ok hd => sn_iret C hw hd) _ _ _ hw hl)
-- X9_windowOf
abbrev rmX9_windowOf : Room := { frames := 1, cells := 0, slots := 0, locals := 22 }
def BX9_windowOf_39 (σ : sn_S) (x2 : Int32) : Option (Int32) :=
  (some x2)
def BX9_windowOf_9 (σ : sn_S) (x1 : Int32) (x2 : Int32) (x3 : Int32) : Option ((Int32 × Int32) ⊕ (Int32)) :=
  ((fX9_of σ x1 (2 : Int32)).bind fun t_1 => (if t_1 < x3 then
  (some (.inr (x2)))
  else
  (if (sn_I σ 0 22) < x3 then
  (some (.inr (x2)))
  else
  (sn_lt (x2 ||| ((1 : Int32) <<< (x3 &&& 31))) fun y_5 => (sn_lt (x3 + 1) fun y_7 => (some (.inl (y_5, y_7))))))))
def LX9_windowOf_9 (σ : sn_S) (x1 : Int32) (s : Int32 × Int32) : Option ((Int32 × Int32) ⊕ (Int32)) := BX9_windowOf_9 σ x1 s.1 s.2
def fX9_windowOf (σ : sn_S) (x1 : Int32) : Option Int32 :=
  ((fX9_of σ x1 (1 : Int32)).bind fun t_1 => ((sn_it (LX9_windowOf_9 σ x1) 5000 ((0 : Int32), t_1)).bind fun t_3 => (BX9_windowOf_39 σ t_3)))
theorem wX9_windowOf_39 (C : sn_C p s m args meth c RX9 cX9_windowOf 4 (some .int) D ct ad layM) {σ : sn_S} {x2 : Int32}  {o : Int32} (hf : BX9_windowOf_39 σ x2 = some o) (kr : sn_Kr p l e rmX9_windowOf s m args below meth c Q D ct ad layM cX9_windowOf .ireturn (true) σ [.int o]) : sn_At p l e rmX9_windowOf s m args below meth c Q D ct ad layM 4 σ 39 [(2, .int x2)] [] := by
  intro H locs ls hw hl
  have hx := C.1
  have hb := C.2.1
  unfold BX9_windowOf_39 at hf
  refine lv_iload_n hx hb dX9_windowOf_39 rfl (lv_at hl 0 rfl) ?_
  cases hf
  exact kr _ _ _ _ hw rfl dX9_windowOf_40
theorem wX9_windowOf_9 (C : sn_C p s m args meth c RX9 cX9_windowOf 4 (some .int) D ct ad layM) {σ : sn_S} {x1 : Int32} {x2 : Int32} {x3 : Int32}  {o : (Int32 × Int32) ⊕ (Int32)} (hf : BX9_windowOf_9 σ x1 x2 x3 = some o) (kc : ∀ v, o = .inl v → sn_At p l e rmX9_windowOf s m args below meth c Q D ct ad layM 4 σ 9 [(0, .ref (ad 0)), (1, .int x1), (2, .int v.1), (3, .int v.2)] []) (kx : ∀ v, o = .inr v → sn_At p l e rmX9_windowOf s m args below meth c Q D ct ad layM 4 σ 39 [(2, .int v)] []) : sn_At p l e rmX9_windowOf s m args below meth c Q D ct ad layM 4 σ 9 [(0, .ref (ad 0)), (1, .int x1), (2, .int x2), (3, .int x3)] [] := by
  intro H locs ls hw hl
  have hx := C.1
  have hb := C.2.1
  unfold BX9_windowOf_9 at hf
  refine lv_iload_n hx hb dX9_windowOf_9 rfl (lv_at hl 3 rfl) ?_
  refine lv_aload_n hx hb dX9_windowOf_10 rfl (lv_at hl 0 rfl) ?_
  refine lv_iload_n hx hb dX9_windowOf_11 rfl (lv_at hl 1 rfl) ?_
  refine lv_iconst (v := 2) hx hb dX9_windowOf_12 rfl ?_
  obtain ⟨t_1, h_2, hf⟩ := sn_bd hf
  refine sn_callVi (rest := [.int x3]) C hw (ctX9_of l  h_2) kl_RX9_234 layM_0 rfl rfl rfl rfl (Nat.le_of_ble_eq_true rfl) dX9_windowOf_13 hl.1 (fun H locs hw => ?_)
  refine lv_icmp_gt (tgt := 39) hx hb dX9_windowOf_16 (by decide) (fun c_3 => ?_) (fun c_3 => ?_)
  · have hf := sn_if c_3 hf
    cases hf
    exact kx _ rfl _ _ _ hw (lv_sub hl [2] rfl)
  · have hf := sn_el c_3 hf
    refine lv_iload_n hx hb dX9_windowOf_19 rfl (lv_at hl 3 rfl) ?_
    refine lv_aload_n hx hb dX9_windowOf_20 rfl (lv_at hl 0 rfl) ?_
    refine sn_getI C hw fd_RX9_251 layM_0 rfl dX9_windowOf_21 ?_
    refine lv_icmp_gt (tgt := 39) hx hb dX9_windowOf_24 (by decide) (fun c_4 => ?_) (fun c_4 => ?_)
    · have hf := sn_if c_4 hf
      cases hf
      exact kx _ rfl _ _ _ hw (lv_sub hl [2] rfl)
    · have hf := sn_el c_4 hf
      refine lv_iload_n hx hb dX9_windowOf_27 rfl (lv_at hl 2 rfl) ?_
      refine lv_iconst (v := 1) hx hb dX9_windowOf_28 rfl ?_
      refine lv_iload_n hx hb dX9_windowOf_29 rfl (lv_at hl 3 rfl) ?_
      refine lv_ishl hx hb dX9_windowOf_30 ?_
      refine lv_ior hx hb dX9_windowOf_31 ?_
      obtain ⟨y_5, e_6, hf⟩ := sn_ltE hf
      refine lv_topi (fun y_5_ e_6_ => ?_)
      obtain rfl : y_5 = y_5_ := e_6.trans e_6_.symm
      refine lv_istore_n (lv' := [(2, .int y_5), (0, .ref (ad 0)), (1, .int x1), (3, .int x3)]) hx hb dX9_windowOf_32 rfl hl (by decide) rfl (fun ls hl => ?_)
      obtain ⟨y_7, e_8, hf⟩ := sn_ltE hf
      refine lv_iinc (v := y_7) (lv' := [(3, .int y_7), (2, .int y_5), (0, .ref (ad 0)), (1, .int x1)]) hx hb dX9_windowOf_33 hl (k := 3) rfl (by rw [e_8]; rfl) (by decide) rfl (fun ls hl => ?_)
      refine lv_goto (tgt := 9) hx hb dX9_windowOf_36 (by decide) ?_
      cases hf
      exact kc _ rfl _ _ _ hw (lv_sub hl [2, 3, 1, 0] rfl)
theorem wX9_windowOf_L9 (C : sn_C p s m args meth c RX9 cX9_windowOf 4 (some .int) D ct ad layM) {σ : sn_S} {x1 : Int32}   {z : Int32 × Int32} {t : Int32} (h : sn_it (LX9_windowOf_9 σ x1) 5000 z = some t) (kx : ∀ v, t = v → sn_At p l e rmX9_windowOf s m args below meth c Q D ct ad layM 4 σ 39 [(2, .int v)] []) : sn_At p l e rmX9_windowOf s m args below meth c Q D ct ad layM 4 σ 9 [(0, .ref (ad 0)), (1, .int x1), (2, .int z.1), (3, .int z.2)] [] :=
  sn_loop (f := LX9_windowOf_9 σ x1) (G := fun z => sn_At p l e rmX9_windowOf s m args below meth c Q D ct ad layM 4 σ 9 [(0, .ref (ad 0)), (1, .int x1), (2, .int z.1), (3, .int z.2)] []) (E := fun t => (∀ v, t = v → sn_At p l e rmX9_windowOf s m args below meth c Q D ct ad layM 4 σ 39 [(2, .int v)] []) ∧ True) (fun z o hf k1 k2 => wX9_windowOf_9 C  hf (fun v e => k1 v e) (fun v e => (k2 _ e).1 v rfl)) 5000 z t h ⟨kx, trivial⟩
theorem wX9_windowOf_in (C : sn_C p s m args meth c RX9 cX9_windowOf 4 (some .int) D ct ad layM) {σ : sn_S} {x1 : Int32}  {o : Int32} (hf : fX9_windowOf σ x1 = some o) (kr : sn_Kr p l e rmX9_windowOf s m args below meth c Q D ct ad layM cX9_windowOf .ireturn (true) σ [.int o]) : sn_At p l e rmX9_windowOf s m args below meth c Q D ct ad layM 4 σ 0 [(0, .ref (ad 0)), (1, .int x1)] [] := by
  intro H locs ls hw hl
  have hx := C.1
  have hb := C.2.1
  unfold fX9_windowOf at hf
  refine lv_iconst (v := 0) hx hb dX9_windowOf_0 rfl ?_
  refine lv_istore_n (lv' := [(2, .int (0 : Int32)), (0, .ref (ad 0)), (1, .int x1)]) hx hb dX9_windowOf_1 rfl hl (by decide) rfl (fun ls hl => ?_)
  refine lv_aload_n hx hb dX9_windowOf_2 rfl (lv_at hl 1 rfl) ?_
  refine lv_iload_n hx hb dX9_windowOf_3 rfl (lv_at hl 2 rfl) ?_
  refine lv_iconst (v := 1) hx hb dX9_windowOf_4 rfl ?_
  obtain ⟨t_1, h_2, hf⟩ := sn_bd hf
  refine sn_callVi (rest := []) C hw (ctX9_of l  h_2) kl_RX9_234 layM_0 rfl rfl rfl rfl (Nat.le_of_ble_eq_true rfl) dX9_windowOf_5 hl.1 (fun H locs hw => ?_)
  refine lv_istore_n (lv' := [(3, .int t_1), (2, .int (0 : Int32)), (0, .ref (ad 0)), (1, .int x1)]) hx hb dX9_windowOf_8 rfl hl (by decide) rfl (fun ls hl => ?_)
  obtain ⟨t_3, h_4, hf⟩ := sn_bd hf
  exact wX9_windowOf_L9 C  h_4 (fun v e => by cases e; exact wX9_windowOf_39 C  hf kr) _ _ _ hw (lv_sub hl [2, 3, 1, 0] rfl)
theorem ctX9_windowOf (l : Launch) {σ : sn_S} {x1 : Int32}  {o : Int32} (hf : fX9_windowOf σ x1 = some o) : sn_M l yX9_windowOf cX9_windowOf 4 (some .int) rmX9_windowOf layM (fun ad => [.ref (ad 0), .int x1]) σ (some (fun _ => .int o)) σ :=
  sn_met (by decide) (fun _ => Nat.le_of_ble_eq_true rfl) (fun p e s m args below meth c ls D ct ad C hw hl => wX9_windowOf_in C  hf (fun H locs ls pc hw ok hd => sn_iret C hw hd) _ _ _ hw hl)
-- X9_ahead
abbrev rmX9_ahead : Room := { frames := 0, cells := 0, slots := 0, locals := 0 }
def fX9_ahead (x1 : Int32) : Option Int32 :=
  (some (((1 : Int32) <<< (x1 &&& 31)) - (1 : Int32)))
theorem wX9_ahead_in (C : sn_C p s m args meth c RX9 cX9_ahead 2 (some .int) D ct ad layM) {σ : sn_S} {x1 : Int32}  {o : Int32} (hf : fX9_ahead x1 = some o) (kr : sn_Kr p l e rmX9_ahead s m args below meth c Q D ct ad layM cX9_ahead .ireturn (true) σ [.int o]) : sn_At p l e rmX9_ahead s m args below meth c Q D ct ad layM 2 σ 0 [(0, .ref (ad 0)), (1, .int x1)] [] := by
  intro H locs ls hw hl
  have hx := C.1
  have hb := C.2.1
  unfold fX9_ahead at hf
  refine lv_iconst (v := 1) hx hb dX9_ahead_0 rfl ?_
  refine lv_iload_n hx hb dX9_ahead_1 rfl (lv_at hl 1 rfl) ?_
  refine lv_ishl hx hb dX9_ahead_2 ?_
  refine lv_iconst (v := 1) hx hb dX9_ahead_3 rfl ?_
  refine lv_isub hx hb dX9_ahead_4 ?_
  cases hf
  exact kr _ _ _ _ hw rfl dX9_ahead_5
theorem ctX9_ahead (l : Launch) {σ : sn_S} {x1 : Int32}  {o : Int32} (hf : fX9_ahead x1 = some o) : sn_M l yX9_ahead cX9_ahead 2 (some .int) rmX9_ahead layM (fun ad => [.ref (ad 0), .int x1]) σ (some (fun _ => .int o)) σ :=
  sn_met (by decide) (fun _ => Nat.le_of_ble_eq_true rfl) (fun p e s m args below meth c ls D ct ad C hw hl => wX9_ahead_in C  hf (fun H locs ls pc hw ok hd => sn_iret C hw hd) _ _ _ hw hl)
-- X9_claimOf
abbrev rmX9_claimOf : Room := { frames := 2, cells := 0, slots := 0, locals := 45 }
def BX9_claimOf_183 (σ : sn_S) (x5 : Int32) : Option ((Int32 × sn_S)) :=
  (some (x5, σ))
def BX9_claimOf_177 (σ : sn_S) (x1 : Int32) (x2 : Int32) (x3 : Int32) (x4 : Int32) (x5 : Int32) (x6 : Int32) (x7 : Int32) : Option ((sn_S × Int32 × Int32 × Int32) ⊕ (sn_S × Int32)) :=
  (sn_lt (x7 + 1) fun y_1 => (some (.inl (σ, x4, x5, y_1))))
def BX9_claimOf_152 (σ : sn_S) (x1 : Int32) (x2 : Int32) (x3 : Int32) (x4 : Int32) (x5 : Int32) (x6 : Int32) (x7 : Int32) (x8 : Int32) (t0 : Int32) : Option ((sn_S × Int32 × Int32 × Int32) ⊕ (sn_S × Int32)) :=
  (sn_lt (x5 + t0) fun y_1 => (if x3 = 0 then
  (BX9_claimOf_177 σ x1 x2 x3 x4 y_1 x6 x7)
  else
  (sn_gd (sn_in x8 30) (sn_gd (sn_in x8 30) (sn_lt (sn_pI σ 16 x8.toNatClampNeg ((sn_I σ 16 x8.toNatClampNeg) + t0)) fun σ_6 => (BX9_claimOf_177 σ_6 x1 x2 x3 x4 y_1 x6 x7))))))
def BX9_claimOf_128 (σ : sn_S) (x1 : Int32) (x2 : Int32) (x3 : Int32) (x4 : Int32) (x5 : Int32) (x6 : Int32) (x7 : Int32) (x8 : Int32) (t0 : Int32) : Option ((sn_S × Int32 × Int32 × Int32) ⊕ (sn_S × Int32)) :=
  (if t0 = 0 then
  ((fX9_of σ x1 (3 : Int32)).bind fun t_2 => (BX9_claimOf_152 σ x1 x2 x3 x4 x5 x6 x7 x8 t_2))
  else
  ((fX9_of σ x1 (3 : Int32)).bind fun t_4 => (BX9_claimOf_152 σ x1 x2 x3 x4 x5 x6 x7 x8 (t_4 / (2 : Int32)))))
def BX9_claimOf_127 (σ : sn_S) (x1 : Int32) (x2 : Int32) (x3 : Int32) (x4 : Int32) (x5 : Int32) (x6 : Int32) (x7 : Int32) (x8 : Int32) : Option ((sn_S × Int32 × Int32 × Int32) ⊕ (sn_S × Int32)) :=
  (BX9_claimOf_128 σ x1 x2 x3 x4 x5 x6 x7 x8 (0 : Int32))
def BX9_claimOf_63 (σ : sn_S) (x1 : Int32) (x2 : Int32) (x3 : Int32) (x4 : Int32) (x5 : Int32) (x6 : Int32) (x7 : Int32) : Option ((sn_S × Int32 × Int32 × Int32) ⊕ (sn_S × Int32)) :=
  (if x6 ≤ x7 then
  (some (.inr (σ, x5)))
  else
  (if x4 = 0 then
  (some (.inr (σ, x5)))
  else
  ((fX9_firstOf x4).bind fun t_3 => (sn_lt (x4 &&& (((1 : Int32) <<< (t_3 &&& 31)) ^^^ (-1 : Int32))) fun y_5 => (if (sn_I σ 0 20) = (3 : Int32) then
  (sn_gd (sn_in x2 6) ((fX9_windowOf σ x1).bind fun t_9 => ((fX9_ahead t_3).bind fun t_11 => (if (((sn_I σ 8 x2.toNatClampNeg) &&& t_9) &&& t_11) = 0 then
  (BX9_claimOf_127 σ x1 x2 x3 y_5 x5 x6 x7 t_3)
  else
  (BX9_claimOf_128 σ x1 x2 x3 y_5 x5 x6 x7 t_3 (1 : Int32))))))
  else
  (BX9_claimOf_127 σ x1 x2 x3 y_5 x5 x6 x7 t_3))))))
def LX9_claimOf_63 (x1 : Int32) (x2 : Int32) (x3 : Int32) (x6 : Int32) (s : sn_S × Int32 × Int32 × Int32) : Option ((sn_S × Int32 × Int32 × Int32) ⊕ (sn_S × Int32)) := BX9_claimOf_63 s.1 x1 x2 x3 s.2.1 s.2.2.1 x6 s.2.2.2
def BX9_claimOf_58 (σ : sn_S) (x1 : Int32) (x2 : Int32) (x3 : Int32) (x4 : Int32) (x5 : Int32) (t0 : Int32) : Option ((Int32 × sn_S)) :=
  ((sn_it (LX9_claimOf_63 x1 x2 x3 t0) 5000 (σ, x4, x5, (0 : Int32))).bind fun t_1 => (BX9_claimOf_183 t_1.1 t_1.2))
def BX9_claimOf_33 (σ : sn_S) (x1 : Int32) (x2 : Int32) (x3 : Int32) (x4 : Int32) : Option ((Int32 × sn_S)) :=
  ((fX9_firstOf x4).bind fun t_1 => (sn_lt (sn_pI σ 0 30 t_1) fun σ_3 => (if (sn_I σ_3 0 20) = (2 : Int32) then
  (BX9_claimOf_58 σ_3 x1 x2 x3 x4 (0 : Int32) (3 : Int32))
  else
  (BX9_claimOf_58 σ_3 x1 x2 x3 x4 (0 : Int32) (1 : Int32)))))
def fX9_claimOf (σ : sn_S) (x1 : Int32) (x2 : Int32) (x3 : Int32) : Option (Int32 × sn_S) :=
  (sn_gd (sn_in x2 6) ((fX9_windowOf σ x1).bind fun t_2 => (sn_lt ((sn_I σ 10 x2.toNatClampNeg) &&& t_2) fun y_4 => (if (sn_I σ 0 20) = (1 : Int32) then
  (sn_lt (y_4 &&& ((sn_I σ 0 18) ^^^ (-1 : Int32))) fun y_7 => (BX9_claimOf_33 σ x1 x2 x3 y_7))
  else
  (BX9_claimOf_33 σ x1 x2 x3 y_4)))))
theorem wX9_claimOf_183 (C : sn_C p s m args meth c RX9 cX9_claimOf 11 (some .int) D ct ad layM) {σ : sn_S} {x5 : Int32}  {o : (Int32 × sn_S)} (hf : BX9_claimOf_183 σ x5 = some o) (kr : sn_Kr p l e rmX9_claimOf s m args below meth c Q D ct ad layM cX9_claimOf .ireturn (true) o.2 [.int o.1]) : sn_At p l e rmX9_claimOf s m args below meth c Q D ct ad layM 11 σ 183 [(5, .int x5)] [] := by
  intro H locs ls hw hl
  have hx := C.1
  have hb := C.2.1
  unfold BX9_claimOf_183 at hf
  refine lv_iload hx hb dX9_claimOf_183 (lv_at hl 0 rfl) ?_
  cases hf
  exact kr _ _ _ _ hw rfl dX9_claimOf_185
theorem wX9_claimOf_177 (C : sn_C p s m args meth c RX9 cX9_claimOf 11 (some .int) D ct ad layM) {σ : sn_S} {x1 : Int32} {x2 : Int32} {x3 : Int32} {x4 : Int32} {x5 : Int32} {x6 : Int32} {x7 : Int32}  {o : (sn_S × Int32 × Int32 × Int32) ⊕ (sn_S × Int32)} (hf : BX9_claimOf_177 σ x1 x2 x3 x4 x5 x6 x7 = some o) (kc : ∀ v, o = .inl v → sn_At p l e rmX9_claimOf s m args below meth c Q D ct ad layM 11 v.1 63 [(0, .ref (ad 0)), (1, .int x1), (2, .int x2), (3, .int x3), (4, .int v.2.1), (5, .int v.2.2.1), (6, .int x6), (7, .int v.2.2.2)] []) (kx : ∀ v, o = .inr v → sn_At p l e rmX9_claimOf s m args below meth c Q D ct ad layM 11 v.1 183 [(5, .int v.2)] []) : sn_At p l e rmX9_claimOf s m args below meth c Q D ct ad layM 11 σ 177 [(0, .ref (ad 0)), (1, .int x1), (2, .int x2), (3, .int x3), (4, .int x4), (5, .int x5), (6, .int x6), (7, .int x7)] [] := by
  intro H locs ls hw hl
  have hx := C.1
  have hb := C.2.1
  unfold BX9_claimOf_177 at hf
  obtain ⟨y_1, e_2, hf⟩ := sn_ltE hf
  refine lv_iinc (v := y_1) (lv' := [(7, .int y_1), (0, .ref (ad 0)), (1, .int x1), (2, .int x2), (3, .int x3), (4, .int x4), (5, .int x5), (6, .int x6)]) hx hb dX9_claimOf_177 hl (k := 7) rfl (by rw [e_2]; rfl) (by decide) rfl (fun ls hl => ?_)
  refine lv_goto (tgt := 63) hx hb dX9_claimOf_180 (by decide) ?_
  cases hf
  exact kc _ rfl _ _ _ hw (lv_sub hl [1, 2, 3, 4, 5, 6, 7, 0] rfl)
theorem wX9_claimOf_152 (C : sn_C p s m args meth c RX9 cX9_claimOf 11 (some .int) D ct ad layM) {σ : sn_S} {x1 : Int32} {x2 : Int32} {x3 : Int32} {x4 : Int32} {x5 : Int32} {x6 : Int32} {x7 : Int32} {x8 : Int32} {t0 : Int32}  {o : (sn_S × Int32 × Int32 × Int32) ⊕ (sn_S × Int32)} (hf : BX9_claimOf_152 σ x1 x2 x3 x4 x5 x6 x7 x8 t0 = some o) (kc : ∀ v, o = .inl v → sn_At p l e rmX9_claimOf s m args below meth c Q D ct ad layM 11 v.1 63 [(0, .ref (ad 0)), (1, .int x1), (2, .int x2), (3, .int x3), (4, .int v.2.1), (5, .int v.2.2.1), (6, .int x6), (7, .int v.2.2.2)] []) (kx : ∀ v, o = .inr v → sn_At p l e rmX9_claimOf s m args below meth c Q D ct ad layM 11 v.1 183 [(5, .int v.2)] []) : sn_At p l e rmX9_claimOf s m args below meth c Q D ct ad layM 11 σ 152 [(0, .ref (ad 0)), (1, .int x1), (2, .int x2), (3, .int x3), (4, .int x4), (5, .int x5), (6, .int x6), (7, .int x7), (8, .int x8)] [.int t0] := by
  intro H locs ls hw hl
  have hx := C.1
  have hb := C.2.1
  unfold BX9_claimOf_152 at hf
  refine lv_istore (lv' := [(10, .int t0), (0, .ref (ad 0)), (1, .int x1), (2, .int x2), (3, .int x3), (4, .int x4), (5, .int x5), (6, .int x6), (7, .int x7), (8, .int x8)]) hx hb dX9_claimOf_152 hl (by decide) rfl (fun ls hl => ?_)
  refine lv_iload hx hb dX9_claimOf_154 (lv_at hl 6 rfl) ?_
  refine lv_iload hx hb dX9_claimOf_156 (lv_at hl 0 rfl) ?_
  refine lv_iadd hx hb dX9_claimOf_158 ?_
  obtain ⟨y_1, e_2, hf⟩ := sn_ltE hf
  refine lv_topi (fun y_1_ e_2_ => ?_)
  obtain rfl : y_1 = y_1_ := e_2.trans e_2_.symm
  refine lv_istore (lv' := [(5, .int y_1), (10, .int t0), (0, .ref (ad 0)), (1, .int x1), (2, .int x2), (3, .int x3), (4, .int x4), (6, .int x6), (7, .int x7), (8, .int x8)]) hx hb dX9_claimOf_159 hl (by decide) rfl (fun ls hl => ?_)
  refine lv_iload_n hx hb dX9_claimOf_161 rfl (lv_at hl 5 rfl) ?_
  refine lv_if_eq (tgt := 177) hx hb dX9_claimOf_162 (by decide) (fun c_3 => ?_) (fun c_3 => ?_)
  · have hf := sn_if c_3 hf
    exact wX9_claimOf_177 C  hf kc kx _ _ _ hw (lv_sub hl [2, 3, 4, 5, 6, 0, 7, 8] rfl)
  · have hf := sn_el c_3 hf
    refine lv_aload_n hx hb dX9_claimOf_165 rfl (lv_at hl 2 rfl) ?_
    refine sn_getC (r := 16) C hw fd_RX9_61 layM_0 rfl dX9_claimOf_166 ?_
    refine lv_iload hx hb dX9_claimOf_169 (lv_at hl 9 rfl) ?_
    refine lv_dup2_11 hx hb dX9_claimOf_171 rfl rfl ?_
    obtain ⟨g_4, hf⟩ := sn_gdE hf
    refine sn_iald C hw layM_16 g_4 dX9_claimOf_172 ?_
    refine lv_iload hx hb dX9_claimOf_173 (lv_at hl 1 rfl) ?_
    refine lv_iadd hx hb dX9_claimOf_175 ?_
    obtain ⟨g_5, hf⟩ := sn_gdE hf
    refine sn_iast C hw layM_16 g_5 dX9_claimOf_176 (fun H locs hw => ?_)
    obtain ⟨σ_6, e_7, hf⟩ := sn_ltE hf
    rw [← e_7] at hw
    exact wX9_claimOf_177 C  hf kc kx _ _ _ hw (lv_sub hl [2, 3, 4, 5, 6, 0, 7, 8] rfl)
theorem wX9_claimOf_128 (C : sn_C p s m args meth c RX9 cX9_claimOf 11 (some .int) D ct ad layM) {σ : sn_S} {x1 : Int32} {x2 : Int32} {x3 : Int32} {x4 : Int32} {x5 : Int32} {x6 : Int32} {x7 : Int32} {x8 : Int32} {t0 : Int32}  {o : (sn_S × Int32 × Int32 × Int32) ⊕ (sn_S × Int32)} (hf : BX9_claimOf_128 σ x1 x2 x3 x4 x5 x6 x7 x8 t0 = some o) (kc : ∀ v, o = .inl v → sn_At p l e rmX9_claimOf s m args below meth c Q D ct ad layM 11 v.1 63 [(0, .ref (ad 0)), (1, .int x1), (2, .int x2), (3, .int x3), (4, .int v.2.1), (5, .int v.2.2.1), (6, .int x6), (7, .int v.2.2.2)] []) (kx : ∀ v, o = .inr v → sn_At p l e rmX9_claimOf s m args below meth c Q D ct ad layM 11 v.1 183 [(5, .int v.2)] []) : sn_At p l e rmX9_claimOf s m args below meth c Q D ct ad layM 11 σ 128 [(0, .ref (ad 0)), (1, .int x1), (2, .int x2), (3, .int x3), (4, .int x4), (5, .int x5), (6, .int x6), (7, .int x7), (8, .int x8)] [.int t0] := by
  intro H locs ls hw hl
  have hx := C.1
  have hb := C.2.1
  unfold BX9_claimOf_128 at hf
  refine lv_istore (lv' := [(9, .int t0), (0, .ref (ad 0)), (1, .int x1), (2, .int x2), (3, .int x3), (4, .int x4), (5, .int x5), (6, .int x6), (7, .int x7), (8, .int x8)]) hx hb dX9_claimOf_128 hl (by decide) rfl (fun ls hl => ?_)
  refine lv_iload hx hb dX9_claimOf_130 (lv_at hl 0 rfl) ?_
  refine lv_if_eq (tgt := 146) hx hb dX9_claimOf_132 (by decide) (fun c_1 => ?_) (fun c_1 => ?_)
  · have hf := sn_if c_1 hf
    refine lv_aload_n hx hb dX9_claimOf_146 rfl (lv_at hl 1 rfl) ?_
    refine lv_iload_n hx hb dX9_claimOf_147 rfl (lv_at hl 2 rfl) ?_
    refine lv_iconst (v := 3) hx hb dX9_claimOf_148 rfl ?_
    obtain ⟨t_2, h_3, hf⟩ := sn_bd hf
    refine sn_callVi (rest := []) C hw (ctX9_of l  h_3) kl_RX9_234 layM_0 rfl rfl rfl rfl (Nat.le_of_ble_eq_true rfl) dX9_claimOf_149 hl.1 (fun H locs hw => ?_)
    exact wX9_claimOf_152 C  hf kc kx _ _ _ hw (lv_sub hl [1, 2, 3, 4, 5, 6, 7, 8, 9] rfl)
  · have hf := sn_el c_1 hf
    refine lv_aload_n hx hb dX9_claimOf_135 rfl (lv_at hl 1 rfl) ?_
    refine lv_iload_n hx hb dX9_claimOf_136 rfl (lv_at hl 2 rfl) ?_
    refine lv_iconst (v := 3) hx hb dX9_claimOf_137 rfl ?_
    obtain ⟨t_4, h_5, hf⟩ := sn_bd hf
    refine sn_callVi (rest := []) C hw (ctX9_of l  h_5) kl_RX9_234 layM_0 rfl rfl rfl rfl (Nat.le_of_ble_eq_true rfl) dX9_claimOf_138 hl.1 (fun H locs hw => ?_)
    refine lv_iconst (v := 2) hx hb dX9_claimOf_141 rfl ?_
    refine lv_idiv hx hb dX9_claimOf_142 (by decide) ?_
    refine lv_goto (tgt := 152) hx hb dX9_claimOf_143 (by decide) ?_
    exact wX9_claimOf_152 C  hf kc kx _ _ _ hw (lv_sub hl [1, 2, 3, 4, 5, 6, 7, 8, 9] rfl)
theorem wX9_claimOf_127 (C : sn_C p s m args meth c RX9 cX9_claimOf 11 (some .int) D ct ad layM) {σ : sn_S} {x1 : Int32} {x2 : Int32} {x3 : Int32} {x4 : Int32} {x5 : Int32} {x6 : Int32} {x7 : Int32} {x8 : Int32}  {o : (sn_S × Int32 × Int32 × Int32) ⊕ (sn_S × Int32)} (hf : BX9_claimOf_127 σ x1 x2 x3 x4 x5 x6 x7 x8 = some o) (kc : ∀ v, o = .inl v → sn_At p l e rmX9_claimOf s m args below meth c Q D ct ad layM 11 v.1 63 [(0, .ref (ad 0)), (1, .int x1), (2, .int x2), (3, .int x3), (4, .int v.2.1), (5, .int v.2.2.1), (6, .int x6), (7, .int v.2.2.2)] []) (kx : ∀ v, o = .inr v → sn_At p l e rmX9_claimOf s m args below meth c Q D ct ad layM 11 v.1 183 [(5, .int v.2)] []) : sn_At p l e rmX9_claimOf s m args below meth c Q D ct ad layM 11 σ 127 [(0, .ref (ad 0)), (1, .int x1), (2, .int x2), (3, .int x3), (4, .int x4), (5, .int x5), (6, .int x6), (7, .int x7), (8, .int x8)] [] := by
  intro H locs ls hw hl
  have hx := C.1
  have hb := C.2.1
  unfold BX9_claimOf_127 at hf
  refine lv_iconst (v := 0) hx hb dX9_claimOf_127 rfl ?_
  exact wX9_claimOf_128 C  hf kc kx _ _ _ hw (lv_sub hl [0, 1, 2, 3, 4, 5, 6, 7, 8] rfl)
theorem wX9_claimOf_63 (C : sn_C p s m args meth c RX9 cX9_claimOf 11 (some .int) D ct ad layM) {σ : sn_S} {x1 : Int32} {x2 : Int32} {x3 : Int32} {x4 : Int32} {x5 : Int32} {x6 : Int32} {x7 : Int32}  {o : (sn_S × Int32 × Int32 × Int32) ⊕ (sn_S × Int32)} (hf : BX9_claimOf_63 σ x1 x2 x3 x4 x5 x6 x7 = some o) (kc : ∀ v, o = .inl v → sn_At p l e rmX9_claimOf s m args below meth c Q D ct ad layM 11 v.1 63 [(0, .ref (ad 0)), (1, .int x1), (2, .int x2), (3, .int x3), (4, .int v.2.1), (5, .int v.2.2.1), (6, .int x6), (7, .int v.2.2.2)] []) (kx : ∀ v, o = .inr v → sn_At p l e rmX9_claimOf s m args below meth c Q D ct ad layM 11 v.1 183 [(5, .int v.2)] []) : sn_At p l e rmX9_claimOf s m args below meth c Q D ct ad layM 11 σ 63 [(0, .ref (ad 0)), (1, .int x1), (2, .int x2), (3, .int x3), (4, .int x4), (5, .int x5), (6, .int x6), (7, .int x7)] [] := by
  intro H locs ls hw hl
  have hx := C.1
  have hb := C.2.1
  unfold BX9_claimOf_63 at hf
  refine lv_iload hx hb dX9_claimOf_63 (lv_at hl 7 rfl) ?_
  refine lv_iload hx hb dX9_claimOf_65 (lv_at hl 6 rfl) ?_
  refine lv_icmp_ge (tgt := 183) hx hb dX9_claimOf_67 (by decide) (fun c_1 => ?_) (fun c_1 => ?_)
  · have hf := sn_if c_1 hf
    cases hf
    exact kx _ rfl _ _ _ hw (lv_sub hl [5] rfl)
  · have hf := sn_el c_1 hf
    refine lv_iload hx hb dX9_claimOf_70 (lv_at hl 4 rfl) ?_
    refine lv_if_eq (tgt := 183) hx hb dX9_claimOf_72 (by decide) (fun c_2 => ?_) (fun c_2 => ?_)
    · have hf := sn_if c_2 hf
      cases hf
      exact kx _ rfl _ _ _ hw (lv_sub hl [5] rfl)
    · have hf := sn_el c_2 hf
      refine lv_iload hx hb dX9_claimOf_75 (lv_at hl 4 rfl) ?_
      obtain ⟨t_3, h_4, hf⟩ := sn_bd hf
      refine sn_callSi (rest := []) C hw (ctX9_firstOf l  h_4) kl_RX9_287 rfl rfl rfl (Nat.le_of_ble_eq_true rfl) dX9_claimOf_77 hl.1 (fun H locs hw => ?_)
      refine lv_istore (lv' := [(8, .int t_3), (0, .ref (ad 0)), (1, .int x1), (2, .int x2), (3, .int x3), (4, .int x4), (5, .int x5), (6, .int x6), (7, .int x7)]) hx hb dX9_claimOf_80 hl (by decide) rfl (fun ls hl => ?_)
      refine lv_iload hx hb dX9_claimOf_82 (lv_at hl 5 rfl) ?_
      refine lv_iconst (v := 1) hx hb dX9_claimOf_84 rfl ?_
      refine lv_iload hx hb dX9_claimOf_85 (lv_at hl 0 rfl) ?_
      refine lv_ishl hx hb dX9_claimOf_87 ?_
      refine lv_iconst (v := (-1)) hx hb dX9_claimOf_88 rfl ?_
      refine lv_ixor hx hb dX9_claimOf_89 ?_
      refine lv_iand hx hb dX9_claimOf_90 ?_
      obtain ⟨y_5, e_6, hf⟩ := sn_ltE hf
      refine lv_topi (fun y_5_ e_6_ => ?_)
      obtain rfl : y_5 = y_5_ := e_6.trans e_6_.symm
      refine lv_istore (lv' := [(4, .int y_5), (8, .int t_3), (0, .ref (ad 0)), (1, .int x1), (2, .int x2), (3, .int x3), (5, .int x5), (6, .int x6), (7, .int x7)]) hx hb dX9_claimOf_91 hl (by decide) rfl (fun ls hl => ?_)
      refine lv_aload_n hx hb dX9_claimOf_93 rfl (lv_at hl 2 rfl) ?_
      refine sn_getI C hw fd_RX9_243 layM_0 rfl dX9_claimOf_94 ?_
      refine lv_iconst (v := 3) hx hb dX9_claimOf_97 rfl ?_
      refine lv_icmp_ne (tgt := 127) hx hb dX9_claimOf_98 (by decide) (fun c_7 => ?_) (fun c_7 => ?_)
      · have hf := sn_el c_7 hf
        exact wX9_claimOf_127 C  hf kc kx _ _ _ hw (lv_sub hl [2, 3, 4, 5, 0, 6, 7, 8, 1] rfl)
      · have hf := sn_if c_7 hf
        refine lv_aload_n hx hb dX9_claimOf_101 rfl (lv_at hl 2 rfl) ?_
        refine sn_getC (r := 8) C hw fd_RX9_37 layM_0 rfl dX9_claimOf_102 ?_
        refine lv_iload_n hx hb dX9_claimOf_105 rfl (lv_at hl 4 rfl) ?_
        obtain ⟨g_8, hf⟩ := sn_gdE hf
        refine sn_iald C hw layM_8 g_8 dX9_claimOf_106 ?_
        refine lv_aload_n hx hb dX9_claimOf_107 rfl (lv_at hl 2 rfl) ?_
        refine lv_iload_n hx hb dX9_claimOf_108 rfl (lv_at hl 3 rfl) ?_
        obtain ⟨t_9, h_10, hf⟩ := sn_bd hf
        refine sn_callVi (rest := [.int (sn_I σ 8 x2.toNatClampNeg)]) C hw (ctX9_windowOf l  h_10) kl_RX9_304 layM_0 rfl rfl rfl rfl (Nat.le_of_ble_eq_true rfl) dX9_claimOf_109 hl.1 (fun H locs hw => ?_)
        refine lv_iand hx hb dX9_claimOf_112 ?_
        refine lv_aload_n hx hb dX9_claimOf_113 rfl (lv_at hl 2 rfl) ?_
        refine lv_iload hx hb dX9_claimOf_114 (lv_at hl 1 rfl) ?_
        obtain ⟨t_11, h_12, hf⟩ := sn_bd hf
        refine sn_callVi (rest := [.int ((sn_I σ 8 x2.toNatClampNeg) &&& t_9)]) C hw (ctX9_ahead l  h_12) kl_RX9_310 layM_0 rfl rfl rfl rfl (Nat.le_of_ble_eq_true rfl) dX9_claimOf_116 hl.1 (fun H locs hw => ?_)
        refine lv_iand hx hb dX9_claimOf_119 ?_
        refine lv_if_eq (tgt := 127) hx hb dX9_claimOf_120 (by decide) (fun c_13 => ?_) (fun c_13 => ?_)
        · have hf := sn_if c_13 hf
          exact wX9_claimOf_127 C  hf kc kx _ _ _ hw (lv_sub hl [2, 3, 4, 5, 0, 6, 7, 8, 1] rfl)
        · have hf := sn_el c_13 hf
          refine lv_iconst (v := 1) hx hb dX9_claimOf_123 rfl ?_
          refine lv_goto (tgt := 128) hx hb dX9_claimOf_124 (by decide) ?_
          exact wX9_claimOf_128 C  hf kc kx _ _ _ hw (lv_sub hl [2, 3, 4, 5, 0, 6, 7, 8, 1] rfl)
theorem wX9_claimOf_L63 (C : sn_C p s m args meth c RX9 cX9_claimOf 11 (some .int) D ct ad layM) {x1 : Int32} {x2 : Int32} {x3 : Int32} {x6 : Int32}   {z : sn_S × Int32 × Int32 × Int32} {t : sn_S × Int32} (h : sn_it (LX9_claimOf_63 x1 x2 x3 x6) 5000 z = some t) (kx : ∀ v, t = v → sn_At p l e rmX9_claimOf s m args below meth c Q D ct ad layM 11 v.1 183 [(5, .int v.2)] []) : sn_At p l e rmX9_claimOf s m args below meth c Q D ct ad layM 11 z.1 63 [(0, .ref (ad 0)), (1, .int x1), (2, .int x2), (3, .int x3), (4, .int z.2.1), (5, .int z.2.2.1), (6, .int x6), (7, .int z.2.2.2)] [] :=
  sn_loop (f := LX9_claimOf_63 x1 x2 x3 x6) (G := fun z => sn_At p l e rmX9_claimOf s m args below meth c Q D ct ad layM 11 z.1 63 [(0, .ref (ad 0)), (1, .int x1), (2, .int x2), (3, .int x3), (4, .int z.2.1), (5, .int z.2.2.1), (6, .int x6), (7, .int z.2.2.2)] []) (E := fun t => (∀ v, t = v → sn_At p l e rmX9_claimOf s m args below meth c Q D ct ad layM 11 v.1 183 [(5, .int v.2)] []) ∧ True) (fun z o hf k1 k2 => wX9_claimOf_63 C  hf (fun v e => k1 v e) (fun v e => (k2 _ e).1 v rfl)) 5000 z t h ⟨kx, trivial⟩
theorem wX9_claimOf_58 (C : sn_C p s m args meth c RX9 cX9_claimOf 11 (some .int) D ct ad layM) {σ : sn_S} {x1 : Int32} {x2 : Int32} {x3 : Int32} {x4 : Int32} {x5 : Int32} {t0 : Int32}  {o : (Int32 × sn_S)} (hf : BX9_claimOf_58 σ x1 x2 x3 x4 x5 t0 = some o) (kr : sn_Kr p l e rmX9_claimOf s m args below meth c Q D ct ad layM cX9_claimOf .ireturn (true) o.2 [.int o.1]) : sn_At p l e rmX9_claimOf s m args below meth c Q D ct ad layM 11 σ 58 [(0, .ref (ad 0)), (1, .int x1), (2, .int x2), (3, .int x3), (4, .int x4), (5, .int x5)] [.int t0] := by
  intro H locs ls hw hl
  have hx := C.1
  have hb := C.2.1
  unfold BX9_claimOf_58 at hf
  refine lv_istore (lv' := [(6, .int t0), (0, .ref (ad 0)), (1, .int x1), (2, .int x2), (3, .int x3), (4, .int x4), (5, .int x5)]) hx hb dX9_claimOf_58 hl (by decide) rfl (fun ls hl => ?_)
  refine lv_iconst (v := 0) hx hb dX9_claimOf_60 rfl ?_
  refine lv_istore (lv' := [(7, .int (0 : Int32)), (6, .int t0), (0, .ref (ad 0)), (1, .int x1), (2, .int x2), (3, .int x3), (4, .int x4), (5, .int x5)]) hx hb dX9_claimOf_61 hl (by decide) rfl (fun ls hl => ?_)
  obtain ⟨t_1, h_2, hf⟩ := sn_bd hf
  exact wX9_claimOf_L63 C  h_2 (fun v e => by cases e; exact wX9_claimOf_183 C  hf kr) _ _ _ hw (lv_sub hl [2, 3, 4, 5, 6, 7, 1, 0] rfl)
theorem wX9_claimOf_33 (C : sn_C p s m args meth c RX9 cX9_claimOf 11 (some .int) D ct ad layM) {σ : sn_S} {x1 : Int32} {x2 : Int32} {x3 : Int32} {x4 : Int32}  {o : (Int32 × sn_S)} (hf : BX9_claimOf_33 σ x1 x2 x3 x4 = some o) (kr : sn_Kr p l e rmX9_claimOf s m args below meth c Q D ct ad layM cX9_claimOf .ireturn (true) o.2 [.int o.1]) : sn_At p l e rmX9_claimOf s m args below meth c Q D ct ad layM 11 σ 33 [(0, .ref (ad 0)), (1, .int x1), (2, .int x2), (3, .int x3), (4, .int x4)] [] := by
  intro H locs ls hw hl
  have hx := C.1
  have hb := C.2.1
  unfold BX9_claimOf_33 at hf
  refine lv_aload_n hx hb dX9_claimOf_33 rfl (lv_at hl 0 rfl) ?_
  refine lv_iload hx hb dX9_claimOf_34 (lv_at hl 4 rfl) ?_
  obtain ⟨t_1, h_2, hf⟩ := sn_bd hf
  refine sn_callSi (rest := [.ref (ad 0)]) C hw (ctX9_firstOf l  h_2) kl_RX9_287 rfl rfl rfl (Nat.le_of_ble_eq_true rfl) dX9_claimOf_36 hl.1 (fun H locs hw => ?_)
  refine sn_putI C hw fp_RX9_307 layM_0 rfl dX9_claimOf_39 (fun H locs hw => ?_)
  obtain ⟨σ_3, e_4, hf⟩ := sn_ltE hf
  rw [← e_4] at hw
  refine lv_iconst (v := 0) hx hb dX9_claimOf_42 rfl ?_
  refine lv_istore (lv' := [(5, .int (0 : Int32)), (0, .ref (ad 0)), (1, .int x1), (2, .int x2), (3, .int x3), (4, .int x4)]) hx hb dX9_claimOf_43 hl (by decide) rfl (fun ls hl => ?_)
  refine lv_aload_n hx hb dX9_claimOf_45 rfl (lv_at hl 1 rfl) ?_
  refine sn_getI C hw fd_RX9_243 layM_0 rfl dX9_claimOf_46 ?_
  refine lv_iconst (v := 2) hx hb dX9_claimOf_49 rfl ?_
  refine lv_icmp_ne (tgt := 57) hx hb dX9_claimOf_50 (by decide) (fun c_5 => ?_) (fun c_5 => ?_)
  · have hf := sn_el c_5 hf
    refine lv_iconst (v := 1) hx hb dX9_claimOf_57 rfl ?_
    exact wX9_claimOf_58 C  hf kr _ _ _ hw (lv_sub hl [1, 2, 3, 4, 5, 0] rfl)
  · have hf := sn_if c_5 hf
    refine lv_iconst (v := 3) hx hb dX9_claimOf_53 rfl ?_
    refine lv_goto (tgt := 58) hx hb dX9_claimOf_54 (by decide) ?_
    exact wX9_claimOf_58 C  hf kr _ _ _ hw (lv_sub hl [1, 2, 3, 4, 5, 0] rfl)
theorem wX9_claimOf_in (C : sn_C p s m args meth c RX9 cX9_claimOf 11 (some .int) D ct ad layM) {σ : sn_S} {x1 : Int32} {x2 : Int32} {x3 : Int32}  {o : (Int32 × sn_S)} (hf : fX9_claimOf σ x1 x2 x3 = some o) (kr : sn_Kr p l e rmX9_claimOf s m args below meth c Q D ct ad layM cX9_claimOf .ireturn (true) o.2 [.int o.1]) : sn_At p l e rmX9_claimOf s m args below meth c Q D ct ad layM 11 σ 0 [(0, .ref (ad 0)), (1, .int x1), (2, .int x2), (3, .int x3)] [] := by
  intro H locs ls hw hl
  have hx := C.1
  have hb := C.2.1
  unfold fX9_claimOf at hf
  refine lv_aload_n hx hb dX9_claimOf_0 rfl (lv_at hl 0 rfl) ?_
  refine sn_getC (r := 10) C hw fd_RX9_43 layM_0 rfl dX9_claimOf_1 ?_
  refine lv_iload_n hx hb dX9_claimOf_4 rfl (lv_at hl 2 rfl) ?_
  obtain ⟨g_1, hf⟩ := sn_gdE hf
  refine sn_iald C hw layM_10 g_1 dX9_claimOf_5 ?_
  refine lv_aload_n hx hb dX9_claimOf_6 rfl (lv_at hl 0 rfl) ?_
  refine lv_iload_n hx hb dX9_claimOf_7 rfl (lv_at hl 1 rfl) ?_
  obtain ⟨t_2, h_3, hf⟩ := sn_bd hf
  refine sn_callVi (rest := [.int (sn_I σ 10 x2.toNatClampNeg)]) C hw (ctX9_windowOf l  h_3) kl_RX9_304 layM_0 rfl rfl rfl rfl (Nat.le_of_ble_eq_true rfl) dX9_claimOf_8 hl.1 (fun H locs hw => ?_)
  refine lv_iand hx hb dX9_claimOf_11 ?_
  obtain ⟨y_4, e_5, hf⟩ := sn_ltE hf
  refine lv_topi (fun y_4_ e_5_ => ?_)
  obtain rfl : y_4 = y_4_ := e_5.trans e_5_.symm
  refine lv_istore (lv' := [(4, .int y_4), (0, .ref (ad 0)), (1, .int x1), (2, .int x2), (3, .int x3)]) hx hb dX9_claimOf_12 hl (by decide) rfl (fun ls hl => ?_)
  refine lv_aload_n hx hb dX9_claimOf_14 rfl (lv_at hl 1 rfl) ?_
  refine sn_getI C hw fd_RX9_243 layM_0 rfl dX9_claimOf_15 ?_
  refine lv_iconst (v := 1) hx hb dX9_claimOf_18 rfl ?_
  refine lv_icmp_ne (tgt := 33) hx hb dX9_claimOf_19 (by decide) (fun c_6 => ?_) (fun c_6 => ?_)
  · have hf := sn_el c_6 hf
    exact wX9_claimOf_33 C  hf kr _ _ _ hw (lv_sub hl [1, 2, 3, 4, 0] rfl)
  · have hf := sn_if c_6 hf
    refine lv_iload hx hb dX9_claimOf_22 (lv_at hl 0 rfl) ?_
    refine lv_aload_n hx hb dX9_claimOf_24 rfl (lv_at hl 1 rfl) ?_
    refine sn_getI C hw fd_RX9_237 layM_0 rfl dX9_claimOf_25 ?_
    refine lv_iconst (v := (-1)) hx hb dX9_claimOf_28 rfl ?_
    refine lv_ixor hx hb dX9_claimOf_29 ?_
    refine lv_iand hx hb dX9_claimOf_30 ?_
    obtain ⟨y_7, e_8, hf⟩ := sn_ltE hf
    refine lv_topi (fun y_7_ e_8_ => ?_)
    obtain rfl : y_7 = y_7_ := e_8.trans e_8_.symm
    refine lv_istore (lv' := [(4, .int y_7), (0, .ref (ad 0)), (1, .int x1), (2, .int x2), (3, .int x3)]) hx hb dX9_claimOf_31 hl (by decide) rfl (fun ls hl => ?_)
    exact wX9_claimOf_33 C  hf kr _ _ _ hw (lv_sub hl [1, 2, 3, 4, 0] rfl)
theorem ctX9_claimOf (l : Launch) {σ : sn_S} {x1 : Int32} {x2 : Int32} {x3 : Int32}  {o : (Int32 × sn_S)} (hf : fX9_claimOf σ x1 x2 x3 = some o) : sn_M l yX9_claimOf cX9_claimOf 11 (some .int) rmX9_claimOf layM (fun ad => [.ref (ad 0), .int x1, .int x2, .int x3]) σ (some (fun _ => .int o.1)) o.2 :=
  sn_met (by decide) (fun _ => Nat.le_of_ble_eq_true rfl) (fun p e s m args below meth c ls D ct ad C hw hl => wX9_claimOf_in C  hf (fun H locs ls pc hw ok hd => sn_iret C hw hd) _ _ _ hw hl)
-- X9_claimOf_
abbrev rmX9_claimOf_ : Room := { frames := 3, cells := 0, slots := 0, locals := 75 }
def fX9_claimOf_ (σ : sn_S) (x1 : Int32) : Option (Int32 × sn_S) :=
  ((fX9_of σ x1 (0 : Int32)).bind fun t_1 => ((fX9_claimOf σ x1 t_1 (0 : Int32)).bind fun t_3 => (some (t_3.1, t_3.2))))
theorem wX9_claimOf__in (C : sn_C p s m args meth c RX9 cX9_claimOf_ 2 (some .int) D ct ad layM) {σ : sn_S} {x1 : Int32}  {o : (Int32 × sn_S)} (hf : fX9_claimOf_ σ x1 = some o) (kr : sn_Kr p l e rmX9_claimOf_ s m args below meth c Q D ct ad layM cX9_claimOf_ .ireturn (true) o.2 [.int o.1]) : sn_At p l e rmX9_claimOf_ s m args below meth c Q D ct ad layM 2 σ 0 [(0, .ref (ad 0)), (1, .int x1)] [] := by
  intro H locs ls hw hl
  have hx := C.1
  have hb := C.2.1
  unfold fX9_claimOf_ at hf
  refine lv_aload_n hx hb dX9_claimOf__0 rfl (lv_at hl 0 rfl) ?_
  refine lv_iload_n hx hb dX9_claimOf__1 rfl (lv_at hl 1 rfl) ?_
  refine lv_aload_n hx hb dX9_claimOf__2 rfl (lv_at hl 0 rfl) ?_
  refine lv_iload_n hx hb dX9_claimOf__3 rfl (lv_at hl 1 rfl) ?_
  refine lv_iconst (v := 0) hx hb dX9_claimOf__4 rfl ?_
  obtain ⟨t_1, h_2, hf⟩ := sn_bd hf
  refine sn_callVi (rest := [.int x1, .ref (ad 0)]) C hw (ctX9_of l  h_2) kl_RX9_234 layM_0 rfl rfl rfl rfl (Nat.le_of_ble_eq_true rfl) dX9_claimOf__5 hl.1 (fun H locs hw => ?_)
  refine lv_iconst (v := 0) hx hb dX9_claimOf__8 rfl ?_
  obtain ⟨t_3, h_4, hf⟩ := sn_bd hf
  refine sn_callVi (rest := []) C hw (ctX9_claimOf l  h_4) kl_RX9_313 layM_0 rfl rfl rfl rfl (Nat.le_of_ble_eq_true rfl) dX9_claimOf__9 hl.1 (fun H locs hw => ?_)
  cases hf
  exact kr _ _ _ _ hw rfl dX9_claimOf__12
theorem ctX9_claimOf_ (l : Launch) {σ : sn_S} {x1 : Int32}  {o : (Int32 × sn_S)} (hf : fX9_claimOf_ σ x1 = some o) : sn_M l yX9_claimOf_ cX9_claimOf_ 2 (some .int) rmX9_claimOf_ layM (fun ad => [.ref (ad 0), .int x1]) σ (some (fun _ => .int o.1)) o.2 :=
  sn_met (by decide) (fun _ => Nat.le_of_ble_eq_true rfl) (fun p e s m args below meth c ls D ct ad C hw hl => wX9_claimOf__in C  hf (fun H locs ls pc hw ok hd => sn_iret C hw hd) _ _ _ hw hl)
-- X9_layPaid
abbrev rmX9_layPaid : Room := { frames := 3, cells := 0, slots := 0, locals := 75 }
def BX9_layPaid_53 (σ : sn_S) : Option (sn_S) :=
  (some σ)
def BX9_layPaid_23 (σ : sn_S) (x1 : Int32) : Option ((sn_S × Int32) ⊕ (sn_S)) :=
  (sn_gd (sn_in (8 : Int32) 119) (if (sn_I σ 1 (8 : Int32).toNatClampNeg) ≤ x1 then
  (some (.inr (σ)))
  else
  ((fX9_of σ x1 (0 : Int32)).bind fun t_3 => ((fX9_claimOf σ x1 t_3 (1 : Int32)).bind fun t_5 => (sn_lt (x1 + 1) fun y_7 => (some (.inl (t_5.2, y_7))))))))
def LX9_layPaid_23  (s : sn_S × Int32) : Option ((sn_S × Int32) ⊕ (sn_S)) := BX9_layPaid_23 s.1 s.2
def BX9_layPaid_21 (σ : sn_S) : Option (sn_S) :=
  ((sn_it (LX9_layPaid_23 ) 5000 (σ, (0 : Int32))).bind fun t_1 => (BX9_layPaid_53 t_1))
def BX9_layPaid_2 (σ : sn_S) (x1 : Int32) : Option ((sn_S × Int32) ⊕ (sn_S)) :=
  (if (30 : Int32) ≤ x1 then
  (some (.inr (σ)))
  else
  (sn_gd (sn_in x1 30) (sn_lt (sn_pI σ 16 x1.toNatClampNeg (0 : Int32)) fun σ_3 => (sn_lt (x1 + 1) fun y_5 => (some (.inl (σ_3, y_5)))))))
def LX9_layPaid_2  (s : sn_S × Int32) : Option ((sn_S × Int32) ⊕ (sn_S)) := BX9_layPaid_2 s.1 s.2
def fX9_layPaid (σ : sn_S) : Option sn_S :=
  ((sn_it (LX9_layPaid_2 ) 5000 (σ, (0 : Int32))).bind fun t_1 => (BX9_layPaid_21 t_1))
theorem wX9_layPaid_53 (C : sn_C p s m args meth c RX9 cX9_layPaid 2 none D ct ad layM) {σ : sn_S}  {o : sn_S} (hf : BX9_layPaid_53 σ = some o) (kr : sn_Kr p l e rmX9_layPaid s m args below meth c Q D ct ad layM cX9_layPaid .return_ (true) o []) : sn_At p l e rmX9_layPaid s m args below meth c Q D ct ad layM 2 σ 53 [] [] := by
  intro H locs ls hw hl
  have hx := C.1
  have hb := C.2.1
  unfold BX9_layPaid_53 at hf
  cases hf
  exact kr _ _ _ _ hw rfl dX9_layPaid_53
theorem wX9_layPaid_23 (C : sn_C p s m args meth c RX9 cX9_layPaid 2 none D ct ad layM) {σ : sn_S} {x1 : Int32}  {o : (sn_S × Int32) ⊕ (sn_S)} (hf : BX9_layPaid_23 σ x1 = some o) (kc : ∀ v, o = .inl v → sn_At p l e rmX9_layPaid s m args below meth c Q D ct ad layM 2 v.1 23 [(0, .ref (ad 0)), (1, .int v.2)] []) (kx : ∀ v, o = .inr v → sn_At p l e rmX9_layPaid s m args below meth c Q D ct ad layM 2 v 53 [] []) : sn_At p l e rmX9_layPaid s m args below meth c Q D ct ad layM 2 σ 23 [(0, .ref (ad 0)), (1, .int x1)] [] := by
  intro H locs ls hw hl
  have hx := C.1
  have hb := C.2.1
  unfold BX9_layPaid_23 at hf
  refine lv_iload_n hx hb dX9_layPaid_23 rfl (lv_at hl 1 rfl) ?_
  refine lv_aload_n hx hb dX9_layPaid_24 rfl (lv_at hl 0 rfl) ?_
  refine sn_getC (r := 1) C hw fd_RX9_9 layM_0 rfl dX9_layPaid_25 ?_
  refine lv_bipush (v := 8) hx hb dX9_layPaid_28 (by decide) ?_
  obtain ⟨g_1, hf⟩ := sn_gdE hf
  refine sn_iald C hw layM_1 g_1 dX9_layPaid_30 ?_
  refine lv_icmp_ge (tgt := 53) hx hb dX9_layPaid_31 (by decide) (fun c_2 => ?_) (fun c_2 => ?_)
  · have hf := sn_if c_2 hf
    cases hf
    exact kx _ rfl _ _ _ hw (lv_sub hl [] rfl)
  · have hf := sn_el c_2 hf
    refine lv_aload_n hx hb dX9_layPaid_34 rfl (lv_at hl 0 rfl) ?_
    refine lv_iload_n hx hb dX9_layPaid_35 rfl (lv_at hl 1 rfl) ?_
    refine lv_aload_n hx hb dX9_layPaid_36 rfl (lv_at hl 0 rfl) ?_
    refine lv_iload_n hx hb dX9_layPaid_37 rfl (lv_at hl 1 rfl) ?_
    refine lv_iconst (v := 0) hx hb dX9_layPaid_38 rfl ?_
    obtain ⟨t_3, h_4, hf⟩ := sn_bd hf
    refine sn_callVi (rest := [.int x1, .ref (ad 0)]) C hw (ctX9_of l  h_4) kl_RX9_234 layM_0 rfl rfl rfl rfl (Nat.le_of_ble_eq_true rfl) dX9_layPaid_39 hl.1 (fun H locs hw => ?_)
    refine lv_iconst (v := 1) hx hb dX9_layPaid_42 rfl ?_
    obtain ⟨t_5, h_6, hf⟩ := sn_bd hf
    refine sn_callVi (rest := []) C hw (ctX9_claimOf l  h_6) kl_RX9_313 layM_0 rfl rfl rfl rfl (Nat.le_of_ble_eq_true rfl) dX9_layPaid_43 hl.1 (fun H locs hw => ?_)
    refine lv_pop hx hb dX9_layPaid_46 rfl ?_
    obtain ⟨y_7, e_8, hf⟩ := sn_ltE hf
    refine lv_iinc (v := y_7) (lv' := [(1, .int y_7), (0, .ref (ad 0))]) hx hb dX9_layPaid_47 hl (k := 1) rfl (by rw [e_8]; rfl) (by decide) rfl (fun ls hl => ?_)
    refine lv_goto (tgt := 23) hx hb dX9_layPaid_50 (by decide) ?_
    cases hf
    exact kc _ rfl _ _ _ hw (lv_sub hl [1, 0] rfl)
theorem wX9_layPaid_L23 (C : sn_C p s m args meth c RX9 cX9_layPaid 2 none D ct ad layM)    {z : sn_S × Int32} {t : sn_S} (h : sn_it (LX9_layPaid_23 ) 5000 z = some t) (kx : ∀ v, t = v → sn_At p l e rmX9_layPaid s m args below meth c Q D ct ad layM 2 v 53 [] []) : sn_At p l e rmX9_layPaid s m args below meth c Q D ct ad layM 2 z.1 23 [(0, .ref (ad 0)), (1, .int z.2)] [] :=
  sn_loop (f := LX9_layPaid_23 ) (G := fun z => sn_At p l e rmX9_layPaid s m args below meth c Q D ct ad layM 2 z.1 23 [(0, .ref (ad 0)), (1, .int z.2)] []) (E := fun t => (∀ v, t = v → sn_At p l e rmX9_layPaid s m args below meth c Q D ct ad layM 2 v 53 [] []) ∧ True) (fun z o hf k1 k2 => wX9_layPaid_23 C  hf (fun v e => k1 v e) (fun v e => (k2 _ e).1 v rfl)) 5000 z t h ⟨kx, trivial⟩
theorem wX9_layPaid_21 (C : sn_C p s m args meth c RX9 cX9_layPaid 2 none D ct ad layM) {σ : sn_S}  {o : sn_S} (hf : BX9_layPaid_21 σ = some o) (kr : sn_Kr p l e rmX9_layPaid s m args below meth c Q D ct ad layM cX9_layPaid .return_ (true) o []) : sn_At p l e rmX9_layPaid s m args below meth c Q D ct ad layM 2 σ 21 [(0, .ref (ad 0))] [] := by
  intro H locs ls hw hl
  have hx := C.1
  have hb := C.2.1
  unfold BX9_layPaid_21 at hf
  refine lv_iconst (v := 0) hx hb dX9_layPaid_21 rfl ?_
  refine lv_istore_n (lv' := [(1, .int (0 : Int32)), (0, .ref (ad 0))]) hx hb dX9_layPaid_22 rfl hl (by decide) rfl (fun ls hl => ?_)
  obtain ⟨t_1, h_2, hf⟩ := sn_bd hf
  exact wX9_layPaid_L23 C  h_2 (fun v e => by cases e; exact wX9_layPaid_53 C  hf kr) _ _ _ hw (lv_sub hl [1, 0] rfl)
theorem wX9_layPaid_2 (C : sn_C p s m args meth c RX9 cX9_layPaid 2 none D ct ad layM) {σ : sn_S} {x1 : Int32}  {o : (sn_S × Int32) ⊕ (sn_S)} (hf : BX9_layPaid_2 σ x1 = some o) (kc : ∀ v, o = .inl v → sn_At p l e rmX9_layPaid s m args below meth c Q D ct ad layM 2 v.1 2 [(0, .ref (ad 0)), (1, .int v.2)] []) (kx : ∀ v, o = .inr v → sn_At p l e rmX9_layPaid s m args below meth c Q D ct ad layM 2 v 21 [(0, .ref (ad 0))] []) : sn_At p l e rmX9_layPaid s m args below meth c Q D ct ad layM 2 σ 2 [(0, .ref (ad 0)), (1, .int x1)] [] := by
  intro H locs ls hw hl
  have hx := C.1
  have hb := C.2.1
  unfold BX9_layPaid_2 at hf
  refine lv_iload_n hx hb dX9_layPaid_2 rfl (lv_at hl 1 rfl) ?_
  refine lv_bipush (v := 30) hx hb dX9_layPaid_3 (by decide) ?_
  refine lv_icmp_ge (tgt := 21) hx hb dX9_layPaid_5 (by decide) (fun c_1 => ?_) (fun c_1 => ?_)
  · have hf := sn_if c_1 hf
    cases hf
    exact kx _ rfl _ _ _ hw (lv_sub hl [0] rfl)
  · have hf := sn_el c_1 hf
    refine lv_aload_n hx hb dX9_layPaid_8 rfl (lv_at hl 0 rfl) ?_
    refine sn_getC (r := 16) C hw fd_RX9_61 layM_0 rfl dX9_layPaid_9 ?_
    refine lv_iload_n hx hb dX9_layPaid_12 rfl (lv_at hl 1 rfl) ?_
    refine lv_iconst (v := 0) hx hb dX9_layPaid_13 rfl ?_
    obtain ⟨g_2, hf⟩ := sn_gdE hf
    refine sn_iast C hw layM_16 g_2 dX9_layPaid_14 (fun H locs hw => ?_)
    obtain ⟨σ_3, e_4, hf⟩ := sn_ltE hf
    rw [← e_4] at hw
    obtain ⟨y_5, e_6, hf⟩ := sn_ltE hf
    refine lv_iinc (v := y_5) (lv' := [(1, .int y_5), (0, .ref (ad 0))]) hx hb dX9_layPaid_15 hl (k := 1) rfl (by rw [e_6]; rfl) (by decide) rfl (fun ls hl => ?_)
    refine lv_goto (tgt := 2) hx hb dX9_layPaid_18 (by decide) ?_
    cases hf
    exact kc _ rfl _ _ _ hw (lv_sub hl [1, 0] rfl)
theorem wX9_layPaid_L2 (C : sn_C p s m args meth c RX9 cX9_layPaid 2 none D ct ad layM)    {z : sn_S × Int32} {t : sn_S} (h : sn_it (LX9_layPaid_2 ) 5000 z = some t) (kx : ∀ v, t = v → sn_At p l e rmX9_layPaid s m args below meth c Q D ct ad layM 2 v 21 [(0, .ref (ad 0))] []) : sn_At p l e rmX9_layPaid s m args below meth c Q D ct ad layM 2 z.1 2 [(0, .ref (ad 0)), (1, .int z.2)] [] :=
  sn_loop (f := LX9_layPaid_2 ) (G := fun z => sn_At p l e rmX9_layPaid s m args below meth c Q D ct ad layM 2 z.1 2 [(0, .ref (ad 0)), (1, .int z.2)] []) (E := fun t => (∀ v, t = v → sn_At p l e rmX9_layPaid s m args below meth c Q D ct ad layM 2 v 21 [(0, .ref (ad 0))] []) ∧ True) (fun z o hf k1 k2 => wX9_layPaid_2 C  hf (fun v e => k1 v e) (fun v e => (k2 _ e).1 v rfl)) 5000 z t h ⟨kx, trivial⟩
theorem wX9_layPaid_in (C : sn_C p s m args meth c RX9 cX9_layPaid 2 none D ct ad layM) {σ : sn_S}  {o : sn_S} (hf : fX9_layPaid σ = some o) (kr : sn_Kr p l e rmX9_layPaid s m args below meth c Q D ct ad layM cX9_layPaid .return_ (true) o []) : sn_At p l e rmX9_layPaid s m args below meth c Q D ct ad layM 2 σ 0 [(0, .ref (ad 0))] [] := by
  intro H locs ls hw hl
  have hx := C.1
  have hb := C.2.1
  unfold fX9_layPaid at hf
  refine lv_iconst (v := 0) hx hb dX9_layPaid_0 rfl ?_
  refine lv_istore_n (lv' := [(1, .int (0 : Int32)), (0, .ref (ad 0))]) hx hb dX9_layPaid_1 rfl hl (by decide) rfl (fun ls hl => ?_)
  obtain ⟨t_1, h_2, hf⟩ := sn_bd hf
  exact wX9_layPaid_L2 C  h_2 (fun v e => by cases e; exact wX9_layPaid_21 C  hf kr) _ _ _ hw (lv_sub hl [1, 0] rfl)
theorem ctX9_layPaid (l : Launch) {σ : sn_S}  {o : sn_S} (hf : fX9_layPaid σ = some o) : sn_M l yX9_layPaid cX9_layPaid 2 none rmX9_layPaid layM (fun ad => [.ref (ad 0)]) σ none o :=
  sn_met (by decide) (fun _ => Nat.le_of_ble_eq_true rfl) (fun p e s m args below meth c ls D ct ad C hw hl => wX9_layPaid_in C  hf (fun H locs ls pc hw ok hd => sn_vret C hw hd) _ _ _ hw hl)
-- X9_moneyAt
abbrev rmX9_moneyAt : Room := { frames := 1, cells := 0, slots := 0, locals := 22 }
def BX9_moneyAt_55 (σ : sn_S) (x2 : Int32) : Option (Int32) :=
  (some x2)
def BX9_moneyAt_35 (σ : sn_S) (x1 : Int32) (x2 : Int32) (x3 : Int32) : Option ((Int32 × Int32) ⊕ (Int32)) :=
  (if x1 < x3 then
  (some (.inr (x2)))
  else
  (sn_gd (sn_in x3 30) (sn_lt (x2 - (sn_I σ 16 x3.toNatClampNeg)) fun y_3 => (sn_lt (x3 + 1) fun y_5 => (some (.inl (y_3, y_5)))))))
def LX9_moneyAt_35 (σ : sn_S) (x1 : Int32) (s : Int32 × Int32) : Option ((Int32 × Int32) ⊕ (Int32)) := BX9_moneyAt_35 σ x1 s.1 s.2
def BX9_moneyAt_33 (σ : sn_S) (x1 : Int32) (x2 : Int32) : Option (Int32) :=
  ((sn_it (LX9_moneyAt_35 σ x1) 5000 (x2, (0 : Int32))).bind fun t_1 => (BX9_moneyAt_55 σ t_1))
def BX9_moneyAt_7 (σ : sn_S) (x1 : Int32) (x2 : Int32) (x3 : Int32) : Option ((Int32 × Int32) ⊕ (Int32)) :=
  (sn_gd (sn_in (8 : Int32) 119) (if (sn_I σ 1 (8 : Int32).toNatClampNeg) ≤ x3 then
  (some (.inr (x2)))
  else
  ((fX9_of σ x3 (4 : Int32)).bind fun t_3 => (sn_lt (x2 + t_3) fun y_5 => (sn_lt (x3 + 1) fun y_7 => (some (.inl (y_5, y_7))))))))
def LX9_moneyAt_7 (σ : sn_S) (x1 : Int32) (s : Int32 × Int32) : Option ((Int32 × Int32) ⊕ (Int32)) := BX9_moneyAt_7 σ x1 s.1 s.2
def fX9_moneyAt (σ : sn_S) (x1 : Int32) : Option Int32 :=
  (sn_lt (sn_I σ 0 21) fun y_1 => ((sn_it (LX9_moneyAt_7 σ x1) 5000 (y_1, (0 : Int32))).bind fun t_3 => (BX9_moneyAt_33 σ x1 t_3)))
theorem wX9_moneyAt_55 (C : sn_C p s m args meth c RX9 cX9_moneyAt 4 (some .int) D ct ad layM) {σ : sn_S} {x2 : Int32}  {o : Int32} (hf : BX9_moneyAt_55 σ x2 = some o) (kr : sn_Kr p l e rmX9_moneyAt s m args below meth c Q D ct ad layM cX9_moneyAt .ireturn (true) σ [.int o]) : sn_At p l e rmX9_moneyAt s m args below meth c Q D ct ad layM 4 σ 55 [(2, .int x2)] [] := by
  intro H locs ls hw hl
  have hx := C.1
  have hb := C.2.1
  unfold BX9_moneyAt_55 at hf
  refine lv_iload_n hx hb dX9_moneyAt_55 rfl (lv_at hl 0 rfl) ?_
  cases hf
  exact kr _ _ _ _ hw rfl dX9_moneyAt_56
theorem wX9_moneyAt_35 (C : sn_C p s m args meth c RX9 cX9_moneyAt 4 (some .int) D ct ad layM) {σ : sn_S} {x1 : Int32} {x2 : Int32} {x3 : Int32}  {o : (Int32 × Int32) ⊕ (Int32)} (hf : BX9_moneyAt_35 σ x1 x2 x3 = some o) (kc : ∀ v, o = .inl v → sn_At p l e rmX9_moneyAt s m args below meth c Q D ct ad layM 4 σ 35 [(0, .ref (ad 0)), (1, .int x1), (2, .int v.1), (3, .int v.2)] []) (kx : ∀ v, o = .inr v → sn_At p l e rmX9_moneyAt s m args below meth c Q D ct ad layM 4 σ 55 [(2, .int v)] []) : sn_At p l e rmX9_moneyAt s m args below meth c Q D ct ad layM 4 σ 35 [(0, .ref (ad 0)), (1, .int x1), (2, .int x2), (3, .int x3)] [] := by
  intro H locs ls hw hl
  have hx := C.1
  have hb := C.2.1
  unfold BX9_moneyAt_35 at hf
  refine lv_iload_n hx hb dX9_moneyAt_35 rfl (lv_at hl 3 rfl) ?_
  refine lv_iload_n hx hb dX9_moneyAt_36 rfl (lv_at hl 1 rfl) ?_
  refine lv_icmp_gt (tgt := 55) hx hb dX9_moneyAt_37 (by decide) (fun c_1 => ?_) (fun c_1 => ?_)
  · have hf := sn_if c_1 hf
    cases hf
    exact kx _ rfl _ _ _ hw (lv_sub hl [2] rfl)
  · have hf := sn_el c_1 hf
    refine lv_iload_n hx hb dX9_moneyAt_40 rfl (lv_at hl 2 rfl) ?_
    refine lv_aload_n hx hb dX9_moneyAt_41 rfl (lv_at hl 0 rfl) ?_
    refine sn_getC (r := 16) C hw fd_RX9_61 layM_0 rfl dX9_moneyAt_42 ?_
    refine lv_iload_n hx hb dX9_moneyAt_45 rfl (lv_at hl 3 rfl) ?_
    obtain ⟨g_2, hf⟩ := sn_gdE hf
    refine sn_iald C hw layM_16 g_2 dX9_moneyAt_46 ?_
    refine lv_isub hx hb dX9_moneyAt_47 ?_
    obtain ⟨y_3, e_4, hf⟩ := sn_ltE hf
    refine lv_topi (fun y_3_ e_4_ => ?_)
    obtain rfl : y_3 = y_3_ := e_4.trans e_4_.symm
    refine lv_istore_n (lv' := [(2, .int y_3), (0, .ref (ad 0)), (1, .int x1), (3, .int x3)]) hx hb dX9_moneyAt_48 rfl hl (by decide) rfl (fun ls hl => ?_)
    obtain ⟨y_5, e_6, hf⟩ := sn_ltE hf
    refine lv_iinc (v := y_5) (lv' := [(3, .int y_5), (2, .int y_3), (0, .ref (ad 0)), (1, .int x1)]) hx hb dX9_moneyAt_49 hl (k := 3) rfl (by rw [e_6]; rfl) (by decide) rfl (fun ls hl => ?_)
    refine lv_goto (tgt := 35) hx hb dX9_moneyAt_52 (by decide) ?_
    cases hf
    exact kc _ rfl _ _ _ hw (lv_sub hl [2, 3, 1, 0] rfl)
theorem wX9_moneyAt_L35 (C : sn_C p s m args meth c RX9 cX9_moneyAt 4 (some .int) D ct ad layM) {σ : sn_S} {x1 : Int32}   {z : Int32 × Int32} {t : Int32} (h : sn_it (LX9_moneyAt_35 σ x1) 5000 z = some t) (kx : ∀ v, t = v → sn_At p l e rmX9_moneyAt s m args below meth c Q D ct ad layM 4 σ 55 [(2, .int v)] []) : sn_At p l e rmX9_moneyAt s m args below meth c Q D ct ad layM 4 σ 35 [(0, .ref (ad 0)), (1, .int x1), (2, .int z.1), (3, .int z.2)] [] :=
  sn_loop (f := LX9_moneyAt_35 σ x1) (G := fun z => sn_At p l e rmX9_moneyAt s m args below meth c Q D ct ad layM 4 σ 35 [(0, .ref (ad 0)), (1, .int x1), (2, .int z.1), (3, .int z.2)] []) (E := fun t => (∀ v, t = v → sn_At p l e rmX9_moneyAt s m args below meth c Q D ct ad layM 4 σ 55 [(2, .int v)] []) ∧ True) (fun z o hf k1 k2 => wX9_moneyAt_35 C  hf (fun v e => k1 v e) (fun v e => (k2 _ e).1 v rfl)) 5000 z t h ⟨kx, trivial⟩
theorem wX9_moneyAt_33 (C : sn_C p s m args meth c RX9 cX9_moneyAt 4 (some .int) D ct ad layM) {σ : sn_S} {x1 : Int32} {x2 : Int32}  {o : Int32} (hf : BX9_moneyAt_33 σ x1 x2 = some o) (kr : sn_Kr p l e rmX9_moneyAt s m args below meth c Q D ct ad layM cX9_moneyAt .ireturn (true) σ [.int o]) : sn_At p l e rmX9_moneyAt s m args below meth c Q D ct ad layM 4 σ 33 [(0, .ref (ad 0)), (1, .int x1), (2, .int x2)] [] := by
  intro H locs ls hw hl
  have hx := C.1
  have hb := C.2.1
  unfold BX9_moneyAt_33 at hf
  refine lv_iconst (v := 0) hx hb dX9_moneyAt_33 rfl ?_
  refine lv_istore_n (lv' := [(3, .int (0 : Int32)), (0, .ref (ad 0)), (1, .int x1), (2, .int x2)]) hx hb dX9_moneyAt_34 rfl hl (by decide) rfl (fun ls hl => ?_)
  obtain ⟨t_1, h_2, hf⟩ := sn_bd hf
  exact wX9_moneyAt_L35 C  h_2 (fun v e => by cases e; exact wX9_moneyAt_55 C  hf kr) _ _ _ hw (lv_sub hl [1, 2, 3, 0] rfl)
theorem wX9_moneyAt_7 (C : sn_C p s m args meth c RX9 cX9_moneyAt 4 (some .int) D ct ad layM) {σ : sn_S} {x1 : Int32} {x2 : Int32} {x3 : Int32}  {o : (Int32 × Int32) ⊕ (Int32)} (hf : BX9_moneyAt_7 σ x1 x2 x3 = some o) (kc : ∀ v, o = .inl v → sn_At p l e rmX9_moneyAt s m args below meth c Q D ct ad layM 4 σ 7 [(0, .ref (ad 0)), (1, .int x1), (2, .int v.1), (3, .int v.2)] []) (kx : ∀ v, o = .inr v → sn_At p l e rmX9_moneyAt s m args below meth c Q D ct ad layM 4 σ 33 [(0, .ref (ad 0)), (1, .int x1), (2, .int v)] []) : sn_At p l e rmX9_moneyAt s m args below meth c Q D ct ad layM 4 σ 7 [(0, .ref (ad 0)), (1, .int x1), (2, .int x2), (3, .int x3)] [] := by
  intro H locs ls hw hl
  have hx := C.1
  have hb := C.2.1
  unfold BX9_moneyAt_7 at hf
  refine lv_iload_n hx hb dX9_moneyAt_7 rfl (lv_at hl 3 rfl) ?_
  refine lv_aload_n hx hb dX9_moneyAt_8 rfl (lv_at hl 0 rfl) ?_
  refine sn_getC (r := 1) C hw fd_RX9_9 layM_0 rfl dX9_moneyAt_9 ?_
  refine lv_bipush (v := 8) hx hb dX9_moneyAt_12 (by decide) ?_
  obtain ⟨g_1, hf⟩ := sn_gdE hf
  refine sn_iald C hw layM_1 g_1 dX9_moneyAt_14 ?_
  refine lv_icmp_ge (tgt := 33) hx hb dX9_moneyAt_15 (by decide) (fun c_2 => ?_) (fun c_2 => ?_)
  · have hf := sn_if c_2 hf
    cases hf
    exact kx _ rfl _ _ _ hw (lv_sub hl [0, 1, 2] rfl)
  · have hf := sn_el c_2 hf
    refine lv_iload_n hx hb dX9_moneyAt_18 rfl (lv_at hl 2 rfl) ?_
    refine lv_aload_n hx hb dX9_moneyAt_19 rfl (lv_at hl 0 rfl) ?_
    refine lv_iload_n hx hb dX9_moneyAt_20 rfl (lv_at hl 3 rfl) ?_
    refine lv_iconst (v := 4) hx hb dX9_moneyAt_21 rfl ?_
    obtain ⟨t_3, h_4, hf⟩ := sn_bd hf
    refine sn_callVi (rest := [.int x2]) C hw (ctX9_of l  h_4) kl_RX9_234 layM_0 rfl rfl rfl rfl (Nat.le_of_ble_eq_true rfl) dX9_moneyAt_22 hl.1 (fun H locs hw => ?_)
    refine lv_iadd hx hb dX9_moneyAt_25 ?_
    obtain ⟨y_5, e_6, hf⟩ := sn_ltE hf
    refine lv_topi (fun y_5_ e_6_ => ?_)
    obtain rfl : y_5 = y_5_ := e_6.trans e_6_.symm
    refine lv_istore_n (lv' := [(2, .int y_5), (0, .ref (ad 0)), (1, .int x1), (3, .int x3)]) hx hb dX9_moneyAt_26 rfl hl (by decide) rfl (fun ls hl => ?_)
    obtain ⟨y_7, e_8, hf⟩ := sn_ltE hf
    refine lv_iinc (v := y_7) (lv' := [(3, .int y_7), (2, .int y_5), (0, .ref (ad 0)), (1, .int x1)]) hx hb dX9_moneyAt_27 hl (k := 3) rfl (by rw [e_8]; rfl) (by decide) rfl (fun ls hl => ?_)
    refine lv_goto (tgt := 7) hx hb dX9_moneyAt_30 (by decide) ?_
    cases hf
    exact kc _ rfl _ _ _ hw (lv_sub hl [2, 3, 1, 0] rfl)
theorem wX9_moneyAt_L7 (C : sn_C p s m args meth c RX9 cX9_moneyAt 4 (some .int) D ct ad layM) {σ : sn_S} {x1 : Int32}   {z : Int32 × Int32} {t : Int32} (h : sn_it (LX9_moneyAt_7 σ x1) 5000 z = some t) (kx : ∀ v, t = v → sn_At p l e rmX9_moneyAt s m args below meth c Q D ct ad layM 4 σ 33 [(0, .ref (ad 0)), (1, .int x1), (2, .int v)] []) : sn_At p l e rmX9_moneyAt s m args below meth c Q D ct ad layM 4 σ 7 [(0, .ref (ad 0)), (1, .int x1), (2, .int z.1), (3, .int z.2)] [] :=
  sn_loop (f := LX9_moneyAt_7 σ x1) (G := fun z => sn_At p l e rmX9_moneyAt s m args below meth c Q D ct ad layM 4 σ 7 [(0, .ref (ad 0)), (1, .int x1), (2, .int z.1), (3, .int z.2)] []) (E := fun t => (∀ v, t = v → sn_At p l e rmX9_moneyAt s m args below meth c Q D ct ad layM 4 σ 33 [(0, .ref (ad 0)), (1, .int x1), (2, .int v)] []) ∧ True) (fun z o hf k1 k2 => wX9_moneyAt_7 C  hf (fun v e => k1 v e) (fun v e => (k2 _ e).1 v rfl)) 5000 z t h ⟨kx, trivial⟩
theorem wX9_moneyAt_in (C : sn_C p s m args meth c RX9 cX9_moneyAt 4 (some .int) D ct ad layM) {σ : sn_S} {x1 : Int32}  {o : Int32} (hf : fX9_moneyAt σ x1 = some o) (kr : sn_Kr p l e rmX9_moneyAt s m args below meth c Q D ct ad layM cX9_moneyAt .ireturn (true) σ [.int o]) : sn_At p l e rmX9_moneyAt s m args below meth c Q D ct ad layM 4 σ 0 [(0, .ref (ad 0)), (1, .int x1)] [] := by
  intro H locs ls hw hl
  have hx := C.1
  have hb := C.2.1
  unfold fX9_moneyAt at hf
  refine lv_aload_n hx hb dX9_moneyAt_0 rfl (lv_at hl 0 rfl) ?_
  refine sn_getI C hw fd_RX9_246 layM_0 rfl dX9_moneyAt_1 ?_
  obtain ⟨y_1, e_2, hf⟩ := sn_ltE hf
  refine lv_topi (fun y_1_ e_2_ => ?_)
  obtain rfl : y_1 = y_1_ := e_2.trans e_2_.symm
  refine lv_istore_n (lv' := [(2, .int y_1), (0, .ref (ad 0)), (1, .int x1)]) hx hb dX9_moneyAt_4 rfl hl (by decide) rfl (fun ls hl => ?_)
  refine lv_iconst (v := 0) hx hb dX9_moneyAt_5 rfl ?_
  refine lv_istore_n (lv' := [(3, .int (0 : Int32)), (2, .int y_1), (0, .ref (ad 0)), (1, .int x1)]) hx hb dX9_moneyAt_6 rfl hl (by decide) rfl (fun ls hl => ?_)
  obtain ⟨t_3, h_4, hf⟩ := sn_bd hf
  exact wX9_moneyAt_L7 C  h_4 (fun v e => by cases e; exact wX9_moneyAt_33 C  hf kr) _ _ _ hw (lv_sub hl [2, 3, 1, 0] rfl)
theorem ctX9_moneyAt (l : Launch) {σ : sn_S} {x1 : Int32}  {o : Int32} (hf : fX9_moneyAt σ x1 = some o) : sn_M l yX9_moneyAt cX9_moneyAt 4 (some .int) rmX9_moneyAt layM (fun ad => [.ref (ad 0), .int x1]) σ (some (fun _ => .int o)) σ :=
  sn_met (by decide) (fun _ => Nat.le_of_ble_eq_true rfl) (fun p e s m args below meth c ls D ct ad C hw hl => wX9_moneyAt_in C  hf (fun H locs ls pc hw ok hd => sn_iret C hw hd) _ _ _ hw hl)
end
