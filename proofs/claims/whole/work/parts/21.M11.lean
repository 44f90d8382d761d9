section
variable {p : Program} {l : Launch} {e : Env} {s : State} {m : MethodId} {args : Array Value} {below : List Frame} {meth : Method} {c : Code} {Q : State → Prop} {D : va_G} {ct : Nat → ClassId} {ad : Nat → Nat}
-- X9_paste
abbrev rmX9_paste : Room := { frames := 2, cells := 0, slots := 0, locals := 45 }
def BX9_paste_185 (σ : sn_S) : Option ((Int32 × sn_S)) :=
  (some ((0 : Int32), σ))
def BX9_paste_150 (σ : sn_S) (x3 : Int32) (x4 : Int32) (x5 : Int32) (x6 : Int32) : Option ((sn_S × Int32) ⊕ (sn_S)) :=
  (if x5 ≤ x6 then
  (some (.inr (σ)))
  else
  (sn_gd (sn_in x6 60) (sn_gd (sn_in ((((60 : Int32) * x3) + x4) + x6) 240) (sn_lt (sn_pL σ 23 ((((60 : Int32) * x3) + x4) + x6).toNatClampNeg (sn_L σ 24 x6.toNatClampNeg)) fun σ_4 => (sn_lt (x6 + 1) fun y_6 => (some (.inl (σ_4, y_6))))))))
def LX9_paste_150 (x3 : Int32) (x4 : Int32) (x5 : Int32) (s : sn_S × Int32) : Option ((sn_S × Int32) ⊕ (sn_S)) := BX9_paste_150 s.1 x3 x4 x5 s.2
def BX9_paste_147 (σ : sn_S) (x3 : Int32) (x4 : Int32) (x5 : Int32) : Option ((Int32 × sn_S)) :=
  ((sn_it (LX9_paste_150 x3 x4 x5) 5000 (σ, (0 : Int32))).bind fun t_1 => (BX9_paste_185 t_1))
def BX9_paste_113 (σ : sn_S) (x1 : Int32) (x2 : Int32) (x3 : Int32) (x4 : Int32) (x5 : Int32) (x6 : Int32) : Option ((sn_S × Int32) ⊕ (sn_S)) :=
  (if x5 ≤ x6 then
  (some (.inr (σ)))
  else
  (sn_gd (sn_in ((((60 : Int32) * x1) + x2) + x6) 240) (sn_gd (sn_in x6 60) (sn_lt (sn_pL σ 24 x6.toNatClampNeg (sn_L σ 23 ((((60 : Int32) * x1) + x2) + x6).toNatClampNeg)) fun σ_4 => (sn_lt (x6 + 1) fun y_6 => (some (.inl (σ_4, y_6))))))))
def LX9_paste_113 (x1 : Int32) (x2 : Int32) (x3 : Int32) (x4 : Int32) (x5 : Int32) (s : sn_S × Int32) : Option ((sn_S × Int32) ⊕ (sn_S)) := BX9_paste_113 s.1 x1 x2 x3 x4 x5 s.2
def fX9_paste (σ : sn_S) (x1 : Int32) (x2 : Int32) (x3 : Int32) (x4 : Int32) (x5 : Int32) : Option (Int32 × sn_S) :=
  ((fX9_isSlot x1).bind fun t_1 => (if t_1 = 0 then
  (some ((-2 : Int32), σ))
  else
  ((fX9_isSlot x3).bind fun t_4 => (if t_4 = 0 then
  (some ((-2 : Int32), σ))
  else
  (sn_gd (sn_in x1 4) (if (sn_I σ 21 x1.toNatClampNeg) = (-1 : Int32) then
  (some ((-6 : Int32), σ))
  else
  (sn_gd (sn_in x3 4) (if (sn_I σ 21 x3.toNatClampNeg) = (-1 : Int32) then
  (some ((-6 : Int32), σ))
  else
  (sn_gd (sn_in x1 4) (sn_gd (sn_in x3 4) (if (sn_I σ 22 x1.toNatClampNeg) = (sn_I σ 22 x3.toNatClampNeg) then
  (if x2 < 0 then
  (some ((-7 : Int32), σ))
  else
  (if x4 < 0 then
  (some ((-7 : Int32), σ))
  else
  (if x5 < 0 then
  (some ((-7 : Int32), σ))
  else
  (sn_gd (sn_in x1 4) (if 0 < (lg_cmp (x2.toInt64 + x5.toInt64) ((sn_I σ 21 x1.toNatClampNeg).toInt64)) then
  (some ((-7 : Int32), σ))
  else
  (sn_gd (sn_in x3 4) (if (lg_cmp (x4.toInt64 + x5.toInt64) ((sn_I σ 21 x3.toNatClampNeg).toInt64)) ≤ 0 then
  ((sn_it (LX9_paste_113 x1 x2 x3 x4 x5) 5000 (σ, (0 : Int32))).bind fun t_21 => (BX9_paste_147 t_21 x3 x4 x5))
  else
  (some ((-7 : Int32), σ)))))))))
  else
  (some ((-8 : Int32), σ)))))))))))))
theorem wX9_paste_185 (C : sn_C p s m args meth c RX9 cX9_paste 7 (some .int) D ct ad layM) {σ : sn_S}  {o : (Int32 × sn_S)} (hf : BX9_paste_185 σ = some o) (kr : sn_Kr p l e rmX9_paste s m args below meth c Q D ct ad layM cX9_paste .ireturn (true) o.2 [.int o.1]) : sn_At p l e rmX9_paste s m args below meth c Q D ct ad layM 7 σ 185 [] [] := by
  intro H locs ls hw hl
  have hx := C.1
  have hb := C.2.1
  unfold BX9_paste_185 at hf
  refine lv_iconst (v := 0) hx hb dX9_paste_185 rfl ?_
  cases hf
  exact kr _ _ _ _ hw rfl dX9_paste_186
theorem wX9_paste_150 (C : sn_C p s m args meth c RX9 cX9_paste 7 (some .int) D ct ad layM) {σ : sn_S} {x3 : Int32} {x4 : Int32} {x5 : Int32} {x6 : Int32}  {o : (sn_S × Int32) ⊕ (sn_S)} (hf : BX9_paste_150 σ x3 x4 x5 x6 = some o) (kc : ∀ v, o = .inl v → sn_At p l e rmX9_paste s m args below meth c Q D ct ad layM 7 v.1 150 [(0, .ref (ad 0)), (3, .int x3), (4, .int x4), (5, .int x5), (6, .int v.2)] []) (kx : ∀ v, o = .inr v → sn_At p l e rmX9_paste s m args below meth c Q D ct ad layM 7 v 185 [] []) : sn_At p l e rmX9_paste s m args below meth c Q D ct ad layM 7 σ 150 [(0, .ref (ad 0)), (3, .int x3), (4, .int x4), (5, .int x5), (6, .int x6)] [] := by
  intro H locs ls hw hl
  have hx := C.1
  have hb := C.2.1
  unfold BX9_paste_150 at hf
  refine lv_iload hx hb dX9_paste_150 (lv_at hl 4 rfl) ?_
  refine lv_iload hx hb dX9_paste_152 (lv_at hl 3 rfl) ?_
  refine lv_icmp_ge (tgt := 185) hx hb dX9_paste_154 (by decide) (fun c_1 => ?_) (fun c_1 => ?_)
  · have hf := sn_if c_1 hf
    cases hf
    exact kx _ rfl _ _ _ hw (lv_sub hl [] rfl)
  · have hf := sn_el c_1 hf
    refine lv_aload_n hx hb dX9_paste_157 rfl (lv_at hl 0 rfl) ?_
    refine sn_getC (r := 23) C hw fd_RX9_82 layM_0 rfl dX9_paste_158 ?_
    refine lv_bipush (v := 60) hx hb dX9_paste_161 (by decide) ?_
    refine lv_iload_n hx hb dX9_paste_163 rfl (lv_at hl 1 rfl) ?_
    refine lv_imul hx hb dX9_paste_164 ?_
    refine lv_iload hx hb dX9_paste_165 (lv_at hl 2 rfl) ?_
    refine lv_iadd hx hb dX9_paste_167 ?_
    refine lv_iload hx hb dX9_paste_168 (lv_at hl 4 rfl) ?_
    refine lv_iadd hx hb dX9_paste_170 ?_
    refine lv_aload_n hx hb dX9_paste_171 rfl (lv_at hl 0 rfl) ?_
    refine sn_getC (r := 24) C hw fd_RX9_86 layM_0 rfl dX9_paste_172 ?_
    refine lv_iload hx hb dX9_paste_175 (lv_at hl 4 rfl) ?_
    obtain ⟨g_2, hf⟩ := sn_gdE hf
    refine sn_lald C hw layM_24 g_2 dX9_paste_177 ?_
    obtain ⟨g_3, hf⟩ := sn_gdE hf
    refine sn_last C hw layM_23 g_3 dX9_paste_178 (fun H locs hw => ?_)
    obtain ⟨σ_4, e_5, hf⟩ := sn_ltE hf
    rw [← e_5] at hw
    obtain ⟨y_6, e_7, hf⟩ := sn_ltE hf
    refine lv_iinc (v := y_6) (lv' := [(6, .int y_6), (0, .ref (ad 0)), (3, .int x3), (4, .int x4), (5, .int x5)]) hx hb dX9_paste_179 hl (k := 4) rfl (by rw [e_7]; rfl) (by decide) rfl (fun ls hl => ?_)
    refine lv_goto (tgt := 150) hx hb dX9_paste_182 (by decide) ?_
    cases hf
    exact kc _ rfl _ _ _ hw (lv_sub hl [1, 2, 3, 4, 0] rfl)
theorem wX9_paste_L150 (C : sn_C p s m args meth c RX9 cX9_paste 7 (some .int) D ct ad layM) {x3 : Int32} {x4 : Int32} {x5 : Int32}   {z : sn_S × Int32} {t : sn_S} (h : sn_it (LX9_paste_150 x3 x4 x5) 5000 z = some t) (kx : ∀ v, t = v → sn_At p l e rmX9_paste s m args below meth c Q D ct ad layM 7 v 185 [] []) : sn_At p l e rmX9_paste s m args below meth c Q D ct ad layM 7 z.1 150 [(0, .ref (ad 0)), (3, .int x3), (4, .int x4), (5, .int x5), (6, .int z.2)] [] :=
  sn_loop (f := LX9_paste_150 x3 x4 x5) (G := fun z => sn_At p l e rmX9_paste s m args below meth c Q D ct ad layM 7 z.1 150 [(0, .ref (ad 0)), (3, .int x3), (4, .int x4), (5, .int x5), (6, .int z.2)] []) (E := fun t => (∀ v, t = v → sn_At p l e rmX9_paste s m args below meth c Q D ct ad layM 7 v 185 [] []) ∧ True) (fun z o hf k1 k2 => wX9_paste_150 C  hf (fun v e => k1 v e) (fun v e => (k2 _ e).1 v rfl)) 5000 z t h ⟨kx, trivial⟩
theorem wX9_paste_147 (C : sn_C p s m args meth c RX9 cX9_paste 7 (some .int) D ct ad layM) {σ : sn_S} {x3 : Int32} {x4 : Int32} {x5 : Int32}  {o : (Int32 × sn_S)} (hf : BX9_paste_147 σ x3 x4 x5 = some o) (kr : sn_Kr p l e rmX9_paste s m args below meth c Q D ct ad layM cX9_paste .ireturn (true) o.2 [.int o.1]) : sn_At p l e rmX9_paste s m args below meth c Q D ct ad layM 7 σ 147 [(0, .ref (ad 0)), (3, .int x3), (4, .int x4), (5, .int x5)] [] := by
  intro H locs ls hw hl
  have hx := C.1
  have hb := C.2.1
  unfold BX9_paste_147 at hf
  refine lv_iconst (v := 0) hx hb dX9_paste_147 rfl ?_
  refine lv_istore (lv' := [(6, .int (0 : Int32)), (0, .ref (ad 0)), (3, .int x3), (4, .int x4), (5, .int x5)]) hx hb dX9_paste_148 hl (by decide) rfl (fun ls hl => ?_)
  obtain ⟨t_1, h_2, hf⟩ := sn_bd hf
  exact wX9_paste_L150 C  h_2 (fun v e => by cases e; exact wX9_paste_185 C  hf kr) _ _ _ hw (lv_sub hl [1, 2, 3, 4, 0] rfl)
theorem wX9_paste_113 (C : sn_C p s m args meth c RX9 cX9_paste 7 (some .int) D ct ad layM) {σ : sn_S} {x1 : Int32} {x2 : Int32} {x3 : Int32} {x4 : Int32} {x5 : Int32} {x6 : Int32}  {o : (sn_S × Int32) ⊕ (sn_S)} (hf : BX9_paste_113 σ x1 x2 x3 x4 x5 x6 = some o) (kc : ∀ v, o = .inl v → sn_At p l e rmX9_paste s m args below meth c Q D ct ad layM 7 v.1 113 [(0, .ref (ad 0)), (1, .int x1), (2, .int x2), (3, .int x3), (4, .int x4), (5, .int x5), (6, .int v.2)] []) (kx : ∀ v, o = .inr v → sn_At p l e rmX9_paste s m args below meth c Q D ct ad layM 7 v 147 [(0, .ref (ad 0)), (3, .int x3), (4, .int x4), (5, .int x5)] []) : sn_At p l e rmX9_paste s m args below meth c Q D ct ad layM 7 σ 113 [(0, .ref (ad 0)), (1, .int x1), (2, .int x2), (3, .int x3), (4, .int x4), (5, .int x5), (6, .int x6)] [] := by
  intro H locs ls hw hl
  have hx := C.1
  have hb := C.2.1
  unfold BX9_paste_113 at hf
  refine lv_iload hx hb dX9_paste_113 (lv_at hl 6 rfl) ?_
  refine lv_iload hx hb dX9_paste_115 (lv_at hl 5 rfl) ?_
  refine lv_icmp_ge (tgt := 147) hx hb dX9_paste_117 (by decide) (fun c_1 => ?_) (fun c_1 => ?_)
  · have hf := sn_if c_1 hf
    cases hf
    exact kx _ rfl _ _ _ hw (lv_sub hl [0, 3, 4, 5] rfl)
  · have hf := sn_el c_1 hf
    refine lv_aload_n hx hb dX9_paste_120 rfl (lv_at hl 0 rfl) ?_
    refine sn_getC (r := 24) C hw fd_RX9_86 layM_0 rfl dX9_paste_121 ?_
    refine lv_iload hx hb dX9_paste_124 (lv_at hl 6 rfl) ?_
    refine lv_aload_n hx hb dX9_paste_126 rfl (lv_at hl 0 rfl) ?_
    refine sn_getC (r := 23) C hw fd_RX9_82 layM_0 rfl dX9_paste_127 ?_
    refine lv_bipush (v := 60) hx hb dX9_paste_130 (by decide) ?_
    refine lv_iload_n hx hb dX9_paste_132 rfl (lv_at hl 1 rfl) ?_
    refine lv_imul hx hb dX9_paste_133 ?_
    refine lv_iload_n hx hb dX9_paste_134 rfl (lv_at hl 2 rfl) ?_
    refine lv_iadd hx hb dX9_paste_135 ?_
    refine lv_iload hx hb dX9_paste_136 (lv_at hl 6 rfl) ?_
    refine lv_iadd hx hb dX9_paste_138 ?_
    obtain ⟨g_2, hf⟩ := sn_gdE hf
    refine sn_lald C hw layM_23 g_2 dX9_paste_139 ?_
    obtain ⟨g_3, hf⟩ := sn_gdE hf
    refine sn_last C hw layM_24 g_3 dX9_paste_140 (fun H locs hw => ?_)
    obtain ⟨σ_4, e_5, hf⟩ := sn_ltE hf
    rw [← e_5] at hw
    obtain ⟨y_6, e_7, hf⟩ := sn_ltE hf
    refine lv_iinc (v := y_6) (lv' := [(6, .int y_6), (0, .ref (ad 0)), (1, .int x1), (2, .int x2), (3, .int x3), (4, .int x4), (5, .int x5)]) hx hb dX9_paste_141 hl (k := 6) rfl (by rw [e_7]; rfl) (by decide) rfl (fun ls hl => ?_)
    refine lv_goto (tgt := 113) hx hb dX9_paste_144 (by decide) ?_
    cases hf
    exact kc _ rfl _ _ _ hw (lv_sub hl [1, 2, 3, 4, 5, 6, 0] rfl)
theorem wX9_paste_L113 (C : sn_C p s m args meth c RX9 cX9_paste 7 (some .int) D ct ad layM) {x1 : Int32} {x2 : Int32} {x3 : Int32} {x4 : Int32} {x5 : Int32}   {z : sn_S × Int32} {t : sn_S} (h : sn_it (LX9_paste_113 x1 x2 x3 x4 x5) 5000 z = some t) (kx : ∀ v, t = v → sn_At p l e rmX9_paste s m args below meth c Q D ct ad layM 7 v 147 [(0, .ref (ad 0)), (3, .int x3), (4, .int x4), (5, .int x5)] []) : sn_At p l e rmX9_paste s m args below meth c Q D ct ad layM 7 z.1 113 [(0, .ref (ad 0)), (1, .int x1), (2, .int x2), (3, .int x3), (4, .int x4), (5, .int x5), (6, .int z.2)] [] :=
  sn_loop (f := LX9_paste_113 x1 x2 x3 x4 x5) (G := fun z => sn_At p l e rmX9_paste s m args below meth c Q D ct ad layM 7 z.1 113 [(0, .ref (ad 0)), (1, .int x1), (2, .int x2), (3, .int x3), (4, .int x4), (5, .int x5), (6, .int z.2)] []) (E := fun t => (∀ v, t = v → sn_At p l e rmX9_paste s m args below meth c Q D ct ad layM 7 v 147 [(0, .ref (ad 0)), (3, .int x3), (4, .int x4), (5, .int x5)] []) ∧ True) (fun z o hf k1 k2 => wX9_paste_113 C  hf (fun v e => k1 v e) (fun v e => (k2 _ e).1 v rfl)) 5000 z t h ⟨kx, trivial⟩
theorem wX9_paste_in (C : sn_C p s m args meth c RX9 cX9_paste 7 (some .int) D ct ad layM) {σ : sn_S} {x1 : Int32} {x2 : Int32} {x3 : Int32} {x4 : Int32} {x5 : Int32}  {o : (Int32 × sn_S)} (hf : fX9_paste σ x1 x2 x3 x4 x5 = some o) (kr : sn_Kr p l e rmX9_paste s m args below meth c Q D ct ad layM cX9_paste .ireturn (true) o.2 [.int o.1]) : sn_At p l e rmX9_paste s m args below meth c Q D ct ad layM 7 σ 0 [(0, .ref (ad 0)), (1, .int x1), (2, .int x2), (3, .int x3), (4, .int x4), (5, .int x5)] [] := by
  intro H locs ls hw hl
  have hx := C.1
  have hb := C.2.1
  unfold fX9_paste at hf
  refine lv_iload_n hx hb dX9_paste_0 rfl (lv_at hl 1 rfl) ?_
  obtain ⟨t_1, h_2, hf⟩ := sn_bd hf
  refine sn_callSi (rest := []) C hw (ctX9_isSlot l  h_2) kl_RX9_365 rfl rfl rfl (Nat.le_of_ble_eq_true rfl) dX9_paste_1 hl.1 (fun H locs hw => ?_)
  refine lv_if_eq (tgt := 14) hx hb dX9_paste_4 (by decide) (fun c_3 => ?_) (fun c_3 => ?_)
  · have hf := sn_if c_3 hf
    refine lv_bipush (v := (-2)) hx hb dX9_paste_14 (by decide) ?_
    cases hf
    exact kr _ _ _ _ hw rfl dX9_paste_16
  · have hf := sn_el c_3 hf
    refine lv_iload_n hx hb dX9_paste_7 rfl (lv_at hl 3 rfl) ?_
    obtain ⟨t_4, h_5, hf⟩ := sn_bd hf
    refine sn_callSi (rest := []) C hw (ctX9_isSlot l  h_5) kl_RX9_365 rfl rfl rfl (Nat.le_of_ble_eq_true rfl) dX9_paste_8 hl.1 (fun H locs hw => ?_)
    refine lv_if_ne (tgt := 17) hx hb dX9_paste_11 (by decide) (fun c_6 => ?_) (fun c_6 => ?_)
    · have hf := sn_el c_6 hf
      refine lv_aload_n hx hb dX9_paste_17 rfl (lv_at hl 0 rfl) ?_
      refine sn_getC (r := 21) C hw fd_RX9_76 layM_0 rfl dX9_paste_18 ?_
      refine lv_iload_n hx hb dX9_paste_21 rfl (lv_at hl 1 rfl) ?_
      obtain ⟨g_7, hf⟩ := sn_gdE hf
      refine sn_iald C hw layM_21 g_7 dX9_paste_22 ?_
      refine lv_iconst (v := (-1)) hx hb dX9_paste_23 rfl ?_
      refine lv_icmp_eq (tgt := 37) hx hb dX9_paste_24 (by decide) (fun c_8 => ?_) (fun c_8 => ?_)
      · have hf := sn_if c_8 hf
        refine lv_bipush (v := (-6)) hx hb dX9_paste_37 (by decide) ?_
        cases hf
        exact kr _ _ _ _ hw rfl dX9_paste_39
      · have hf := sn_el c_8 hf
        refine lv_aload_n hx hb dX9_paste_27 rfl (lv_at hl 0 rfl) ?_
        refine sn_getC (r := 21) C hw fd_RX9_76 layM_0 rfl dX9_paste_28 ?_
        refine lv_iload_n hx hb dX9_paste_31 rfl (lv_at hl 3 rfl) ?_
        obtain ⟨g_9, hf⟩ := sn_gdE hf
        refine sn_iald C hw layM_21 g_9 dX9_paste_32 ?_
        refine lv_iconst (v := (-1)) hx hb dX9_paste_33 rfl ?_
        refine lv_icmp_ne (tgt := 40) hx hb dX9_paste_34 (by decide) (fun c_10 => ?_) (fun c_10 => ?_)
        · have hf := sn_el c_10 hf
          refine lv_aload_n hx hb dX9_paste_40 rfl (lv_at hl 0 rfl) ?_
          refine sn_getC (r := 22) C hw fd_RX9_79 layM_0 rfl dX9_paste_41 ?_
          refine lv_iload_n hx hb dX9_paste_44 rfl (lv_at hl 1 rfl) ?_
          obtain ⟨g_11, hf⟩ := sn_gdE hf
          refine sn_iald C hw layM_22 g_11 dX9_paste_45 ?_
          refine lv_aload_n hx hb dX9_paste_46 rfl (lv_at hl 0 rfl) ?_
          refine sn_getC (r := 22) C hw fd_RX9_79 layM_0 rfl dX9_paste_47 ?_
          refine lv_iload_n hx hb dX9_paste_50 rfl (lv_at hl 3 rfl) ?_
          obtain ⟨g_12, hf⟩ := sn_gdE hf
          refine sn_iald C hw layM_22 g_12 dX9_paste_51 ?_
          refine lv_icmp_eq (tgt := 58) hx hb dX9_paste_52 (by decide) (fun c_13 => ?_) (fun c_13 => ?_)
          · have hf := sn_if c_13 hf
            refine lv_iload_n hx hb dX9_paste_58 rfl (lv_at hl 2 rfl) ?_
            refine lv_if_lt (tgt := 107) hx hb dX9_paste_59 (by decide) (fun c_14 => ?_) (fun c_14 => ?_)
            · have hf := sn_if c_14 hf
              refine lv_bipush (v := (-7)) hx hb dX9_paste_107 (by decide) ?_
              cases hf
              exact kr _ _ _ _ hw rfl dX9_paste_109
            · have hf := sn_el c_14 hf
              refine lv_iload hx hb dX9_paste_62 (lv_at hl 4 rfl) ?_
              refine lv_if_lt (tgt := 107) hx hb dX9_paste_64 (by decide) (fun c_15 => ?_) (fun c_15 => ?_)
              · have hf := sn_if c_15 hf
                refine lv_bipush (v := (-7)) hx hb dX9_paste_107 (by decide) ?_
                cases hf
                exact kr _ _ _ _ hw rfl dX9_paste_109
              · have hf := sn_el c_15 hf
                refine lv_iload hx hb dX9_paste_67 (lv_at hl 5 rfl) ?_
                refine lv_if_lt (tgt := 107) hx hb dX9_paste_69 (by decide) (fun c_16 => ?_) (fun c_16 => ?_)
                · have hf := sn_if c_16 hf
                  refine lv_bipush (v := (-7)) hx hb dX9_paste_107 (by decide) ?_
                  cases hf
                  exact kr _ _ _ _ hw rfl dX9_paste_109
                · have hf := sn_el c_16 hf
                  refine lv_iload_n hx hb dX9_paste_72 rfl (lv_at hl 2 rfl) ?_
                  refine lv_i2l hx hb dX9_paste_73 rfl ?_
                  refine lv_iload hx hb dX9_paste_74 (lv_at hl 5 rfl) ?_
                  refine lv_i2l hx hb dX9_paste_76 rfl ?_
                  refine lv_ladd hx hb dX9_paste_77 ?_
                  refine lv_aload_n hx hb dX9_paste_78 rfl (lv_at hl 0 rfl) ?_
                  refine sn_getC (r := 21) C hw fd_RX9_76 layM_0 rfl dX9_paste_79 ?_
                  refine lv_iload_n hx hb dX9_paste_82 rfl (lv_at hl 1 rfl) ?_
                  obtain ⟨g_17, hf⟩ := sn_gdE hf
                  refine sn_iald C hw layM_21 g_17 dX9_paste_83 ?_
                  refine lv_i2l hx hb dX9_paste_84 rfl ?_
                  refine W.lcmp hx hb dX9_paste_85 ?_
                  refine lv_if_gt (tgt := 107) hx hb dX9_paste_86 (by decide) (fun c_18 => ?_) (fun c_18 => ?_)
                  · have hf := sn_if c_18 hf
                    refine lv_bipush (v := (-7)) hx hb dX9_paste_107 (by decide) ?_
                    cases hf
                    exact kr _ _ _ _ hw rfl dX9_paste_109
                  · have hf := sn_el c_18 hf
                    refine lv_iload hx hb dX9_paste_89 (lv_at hl 4 rfl) ?_
                    refine lv_i2l hx hb dX9_paste_91 rfl ?_
                    refine lv_iload hx hb dX9_paste_92 (lv_at hl 5 rfl) ?_
                    refine lv_i2l hx hb dX9_paste_94 rfl ?_
                    refine lv_ladd hx hb dX9_paste_95 ?_
                    refine lv_aload_n hx hb dX9_paste_96 rfl (lv_at hl 0 rfl) ?_
                    refine sn_getC (r := 21) C hw fd_RX9_76 layM_0 rfl dX9_paste_97 ?_
                    refine lv_iload_n hx hb dX9_paste_100 rfl (lv_at hl 3 rfl) ?_
                    obtain ⟨g_19, hf⟩ := sn_gdE hf
                    refine sn_iald C hw layM_21 g_19 dX9_paste_101 ?_
                    refine lv_i2l hx hb dX9_paste_102 rfl ?_
                    refine W.lcmp hx hb dX9_paste_103 ?_
                    refine lv_if_le (tgt := 110) hx hb dX9_paste_104 (by decide) (fun c_20 => ?_) (fun c_20 => ?_)
                    · have hf := sn_if c_20 hf
                      refine lv_iconst (v := 0) hx hb dX9_paste_110 rfl ?_
                      refine lv_istore (lv' := [(6, .int (0 : Int32)), (0, .ref (ad 0)), (1, .int x1), (2, .int x2), (3, .int x3), (4, .int x4), (5, .int x5)]) hx hb dX9_paste_111 hl (by decide) rfl (fun ls hl => ?_)
                      obtain ⟨t_21, h_22, hf⟩ := sn_bd hf
                      exact wX9_paste_L113 C  h_22 (fun v e => by cases e; exact wX9_paste_147 C  hf kr) _ _ _ hw (lv_sub hl [1, 2, 3, 4, 5, 6, 0] rfl)
                    · have hf := sn_el c_20 hf
                      refine lv_bipush (v := (-7)) hx hb dX9_paste_107 (by decide) ?_
                      cases hf
                      exact kr _ _ _ _ hw rfl dX9_paste_109
          · have hf := sn_el c_13 hf
            refine lv_bipush (v := (-8)) hx hb dX9_paste_55 (by decide) ?_
            cases hf
            exact kr _ _ _ _ hw rfl dX9_paste_57
        · have hf := sn_if c_10 hf
          refine lv_bipush (v := (-6)) hx hb dX9_paste_37 (by decide) ?_
          cases hf
          exact kr _ _ _ _ hw rfl dX9_paste_39
    · have hf := sn_if c_6 hf
      refine lv_bipush (v := (-2)) hx hb dX9_paste_14 (by decide) ?_
      cases hf
      exact kr _ _ _ _ hw rfl dX9_paste_16
theorem ctX9_paste (l : Launch) {σ : sn_S} {x1 : Int32} {x2 : Int32} {x3 : Int32} {x4 : Int32} {x5 : Int32}  {o : (Int32 × sn_S)} (hf : fX9_paste σ x1 x2 x3 x4 x5 = some o) : sn_M l yX9_paste cX9_paste 7 (some .int) rmX9_paste layM (fun ad => [.ref (ad 0), .int x1, .int x2, .int x3, .int x4, .int x5]) σ (some (fun _ => .int o.1)) o.2 :=
  sn_met (by decide) (fun _ => Nat.le_of_ble_eq_true rfl) (fun p e s m args below meth c ls D ct ad C hw hl => wX9_paste_in C  hf (fun H locs ls pc hw ok hd => sn_iret C hw hd) _ _ _ hw hl)
end
