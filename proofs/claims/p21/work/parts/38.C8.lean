section
variable {p : Program} {l : Launch} {e : Env} {s : State} {m : MethodId} {args : Array Value} {below : List Frame} {meth : Method} {c : Code} {Q : State → Prop} {D : va_G} {ct : Nat → ClassId} {ad : Nat → Nat} {A : Nat → Prop} {lay : List sn_E}
-- X8_rests
abbrev rmX8_rests : Room := { frames := 6, cells := 0, slots := 0, locals := 138 }
def BX8_rests_130 (σ : sn_S) (x3 : Int32) : Option ((Int32 × sn_S)) :=
  (some (x3, σ))
def BX8_rests_124 (σ : sn_S) (x1 : Int32) (x2 : Int32) (x3 : Int32) (x4 : Int32) : Option ((sn_S × Int32 × Int32) ⊕ (sn_S × Int32)) :=
  (sn_lt (x4 + 1) fun y_1 => (some (.inl (σ, x3, y_1))))
def BX8_rests_118 (σ : sn_S) (x1 : Int32) (x2 : Int32) (x3 : Int32) (x4 : Int32) (x5 : Int32) : Option ((sn_S × Int32 × Int32) ⊕ (sn_S × Int32)) :=
  (sn_lt (x5 + 1) fun y_1 => (some (.inl (σ, x3, y_1))))
def BX8_rests_74 (σ : sn_S) (x1 : Int32) (x2 : Int32) (x3 : Int32) (x4 : Int32) (x5 : Int32) (t0 : Int32) : Option ((sn_S × Int32 × Int32) ⊕ (sn_S × Int32)) :=
  (if t0 = 0 then
  (BX8_rests_118 σ x1 x2 x3 x4 x5)
  else
  ((fX8_lossOf σ x2 x1 x5 x4).bind fun t_2 => ((fX8_lossOf t_2.2 x2 x1 ((1 : Int32) - x5) x4).bind fun t_4 => (if t_4.1 < t_2.1 then
  (BX8_rests_118 t_4.2 x1 x2 x3 x4 x5)
  else
  (sn_lt (x3 ||| ((1 : Int32) <<< ((x4 + ((2 : Int32) * x5)) &&& 31))) fun y_7 => (BX8_rests_118 t_4.2 x1 x2 y_7 x4 x5))))))
def BX8_rests_38 (σ : sn_S) (x1 : Int32) (x2 : Int32) (x3 : Int32) (x4 : Int32) (x5 : Int32) : Option ((sn_S × Int32 × Int32) ⊕ (sn_S × Int32)) :=
  (if (2 : Int32) ≤ x5 then
  (some (.inr (σ, x3)))
  else
  ((fX8_lossOf σ x1 x2 x4 x5).bind fun t_2 => ((fX8_lossOf t_2.2 x1 x2 ((1 : Int32) - x4) x5).bind fun t_4 => (if t_4.1 < t_2.1 then
  (BX8_rests_74 t_4.2 x1 x2 x3 x4 x5 (0 : Int32))
  else
  (BX8_rests_74 t_4.2 x1 x2 x3 x4 x5 (1 : Int32))))))
def LX8_rests_38 (x1 : Int32) (x2 : Int32) (x4 : Int32) (s : sn_S × Int32 × Int32) : Option ((sn_S × Int32 × Int32) ⊕ (sn_S × Int32)) := BX8_rests_38 s.1 x1 x2 s.2.1 x4 s.2.2
def BX8_rests_29 (σ : sn_S) (x1 : Int32) (x2 : Int32) (x3 : Int32) (x4 : Int32) : Option ((sn_S × Int32 × Int32) ⊕ (sn_S × Int32)) :=
  (if (2 : Int32) ≤ x4 then
  (some (.inr (σ, x3)))
  else
  ((sn_it (LX8_rests_38 x1 x2 x4) 5000 (σ, x3, (0 : Int32))).bind fun t_2 => (BX8_rests_124 t_2.1 x1 x2 t_2.2 x4)))
def LX8_rests_29 (x1 : Int32) (x2 : Int32) (s : sn_S × Int32 × Int32) : Option ((sn_S × Int32 × Int32) ⊕ (sn_S × Int32)) := BX8_rests_29 s.1 x1 x2 s.2.1 s.2.2
def fX8_rests (σ : sn_S) (x1 : Int32) (x2 : Int32) : Option (Int32 × sn_S) :=
  ((fX8_isPerson σ x1).bind fun t_1 => (if t_1 = 0 then
  (some ((-2 : Int32), σ))
  else
  ((fX8_isPerson σ x2).bind fun t_4 => (if t_4 = 0 then
  (some ((-2 : Int32), σ))
  else
  (if x1 = x2 then
  (some ((-2 : Int32), σ))
  else
  ((sn_it (LX8_rests_29 x1 x2) 5000 (σ, (0 : Int32), (0 : Int32))).bind fun t_8 => (BX8_rests_130 t_8.1 t_8.2)))))))
theorem wX8_rests_130 (C : sn_C p s m args meth c RX8 cX8_rests 7 (some .int) D ct ad layC A) {σ : sn_S} {x3 : Int32}  {o : (Int32 × sn_S)} (hf : BX8_rests_130 σ x3 = some o) (kr : sn_Kr p l e rmX8_rests s m args below meth c Q D ct ad layC A cX8_rests .ireturn (true) o.2 [.int o.1]) : sn_At p l e rmX8_rests s m args below meth c Q D ct ad layC A 7 σ 130 [(3, .int x3)] [] := by
  intro H locs ls hw hl
  have hx := C.1
  have hb := C.2.1
  unfold BX8_rests_130 at hf
  refine lv_iload_n hx hb dX8_rests_130 rfl (lv_at hl 0 rfl) ?_
  cases hf
  exact kr _ _ _ _ hw rfl dX8_rests_131
theorem wX8_rests_124 (C : sn_C p s m args meth c RX8 cX8_rests 7 (some .int) D ct ad layC A) {σ : sn_S} {x1 : Int32} {x2 : Int32} {x3 : Int32} {x4 : Int32}  {o : (sn_S × Int32 × Int32) ⊕ (sn_S × Int32)} (hf : BX8_rests_124 σ x1 x2 x3 x4 = some o) (kc : ∀ v, o = .inl v → sn_At p l e rmX8_rests s m args below meth c Q D ct ad layC A 7 v.1 29 [(0, .ref (ad 0)), (1, .int x1), (2, .int x2), (3, .int v.2.1), (4, .int v.2.2)] []) (kx : ∀ v, o = .inr v → sn_At p l e rmX8_rests s m args below meth c Q D ct ad layC A 7 v.1 130 [(3, .int v.2)] []) : sn_At p l e rmX8_rests s m args below meth c Q D ct ad layC A 7 σ 124 [(0, .ref (ad 0)), (1, .int x1), (2, .int x2), (3, .int x3), (4, .int x4)] [] := by
  intro H locs ls hw hl
  have hx := C.1
  have hb := C.2.1
  unfold BX8_rests_124 at hf
  obtain ⟨y_1, e_2, hf⟩ := sn_ltE hf
  refine lv_iinc (v := y_1) (lv' := [(4, .int y_1), (0, .ref (ad 0)), (1, .int x1), (2, .int x2), (3, .int x3)]) hx hb dX8_rests_124 hl (k := 4) rfl (by rw [e_2]; rfl) (by decide) rfl (fun ls hl => ?_)
  refine lv_goto (tgt := 29) hx hb dX8_rests_127 (by decide) ?_
  cases hf
  exact kc _ rfl _ _ _ hw (lv_sub hl [1, 2, 3, 4, 0] rfl)
theorem wX8_rests_118 (C : sn_C p s m args meth c RX8 cX8_rests 7 (some .int) D ct ad layC A) {σ : sn_S} {x1 : Int32} {x2 : Int32} {x3 : Int32} {x4 : Int32} {x5 : Int32}  {o : (sn_S × Int32 × Int32) ⊕ (sn_S × Int32)} (hf : BX8_rests_118 σ x1 x2 x3 x4 x5 = some o) (kc : ∀ v, o = .inl v → sn_At p l e rmX8_rests s m args below meth c Q D ct ad layC A 7 v.1 38 [(0, .ref (ad 0)), (1, .int x1), (2, .int x2), (3, .int v.2.1), (4, .int x4), (5, .int v.2.2)] []) (kx : ∀ v, o = .inr v → sn_At p l e rmX8_rests s m args below meth c Q D ct ad layC A 7 v.1 124 [(0, .ref (ad 0)), (1, .int x1), (2, .int x2), (3, .int v.2), (4, .int x4)] []) : sn_At p l e rmX8_rests s m args below meth c Q D ct ad layC A 7 σ 118 [(0, .ref (ad 0)), (1, .int x1), (2, .int x2), (3, .int x3), (4, .int x4), (5, .int x5)] [] := by
  intro H locs ls hw hl
  have hx := C.1
  have hb := C.2.1
  unfold BX8_rests_118 at hf
  obtain ⟨y_1, e_2, hf⟩ := sn_ltE hf
  refine lv_iinc (v := y_1) (lv' := [(5, .int y_1), (0, .ref (ad 0)), (1, .int x1), (2, .int x2), (3, .int x3), (4, .int x4)]) hx hb dX8_rests_118 hl (k := 5) rfl (by rw [e_2]; rfl) (by decide) rfl (fun ls hl => ?_)
  refine lv_goto (tgt := 38) hx hb dX8_rests_121 (by decide) ?_
  cases hf
  exact kc _ rfl _ _ _ hw (lv_sub hl [1, 2, 3, 4, 5, 0] rfl)
theorem wX8_rests_74 (C : sn_C p s m args meth c RX8 cX8_rests 7 (some .int) D ct ad layC A) {σ : sn_S} {x1 : Int32} {x2 : Int32} {x3 : Int32} {x4 : Int32} {x5 : Int32} {t0 : Int32}  {o : (sn_S × Int32 × Int32) ⊕ (sn_S × Int32)} (hf : BX8_rests_74 σ x1 x2 x3 x4 x5 t0 = some o) (kc : ∀ v, o = .inl v → sn_At p l e rmX8_rests s m args below meth c Q D ct ad layC A 7 v.1 38 [(0, .ref (ad 0)), (1, .int x1), (2, .int x2), (3, .int v.2.1), (4, .int x4), (5, .int v.2.2)] []) (kx : ∀ v, o = .inr v → sn_At p l e rmX8_rests s m args below meth c Q D ct ad layC A 7 v.1 124 [(0, .ref (ad 0)), (1, .int x1), (2, .int x2), (3, .int v.2), (4, .int x4)] []) : sn_At p l e rmX8_rests s m args below meth c Q D ct ad layC A 7 σ 74 [(0, .ref (ad 0)), (1, .int x1), (2, .int x2), (3, .int x3), (4, .int x4), (5, .int x5)] [.int t0] := by
  intro H locs ls hw hl
  have hx := C.1
  have hb := C.2.1
  unfold BX8_rests_74 at hf
  refine lv_istore (lv' := [(6, .int t0), (0, .ref (ad 0)), (1, .int x1), (2, .int x2), (3, .int x3), (4, .int x4), (5, .int x5)]) hx hb dX8_rests_74 hl (by decide) rfl (fun ls hl => ?_)
  refine lv_iload hx hb dX8_rests_76 (lv_at hl 0 rfl) ?_
  refine lv_if_eq (tgt := 118) hx hb dX8_rests_78 (by decide) (fun c_1 => ?_) (fun c_1 => ?_)
  · have hf := sn_if c_1 hf
    exact wX8_rests_118 C  hf kc kx _ _ _ hw (lv_sub hl [1, 2, 3, 4, 5, 6] rfl)
  · have hf := sn_el c_1 hf
    refine lv_aload_n hx hb dX8_rests_81 rfl (lv_at hl 1 rfl) ?_
    refine lv_iload_n hx hb dX8_rests_82 rfl (lv_at hl 3 rfl) ?_
    refine lv_iload_n hx hb dX8_rests_83 rfl (lv_at hl 2 rfl) ?_
    refine lv_iload hx hb dX8_rests_84 (lv_at hl 6 rfl) ?_
    refine lv_iload hx hb dX8_rests_86 (lv_at hl 5 rfl) ?_
    obtain ⟨t_2, h_3, hf⟩ := sn_bd hf
    refine sn_callVi (rest := []) C hw (ctX8_lossOf l  h_3) kl_RX8_310 layC_0 rfl rfl rfl rfl (Nat.le_of_ble_eq_true rfl) dX8_rests_88 hl.1 (fun H locs hw => ?_)
    refine lv_aload_n hx hb dX8_rests_91 rfl (lv_at hl 1 rfl) ?_
    refine lv_iload_n hx hb dX8_rests_92 rfl (lv_at hl 3 rfl) ?_
    refine lv_iload_n hx hb dX8_rests_93 rfl (lv_at hl 2 rfl) ?_
    refine lv_iconst (v := 1) hx hb dX8_rests_94 rfl ?_
    refine lv_iload hx hb dX8_rests_95 (lv_at hl 6 rfl) ?_
    refine lv_isub hx hb dX8_rests_97 ?_
    refine lv_iload hx hb dX8_rests_98 (lv_at hl 5 rfl) ?_
    obtain ⟨t_4, h_5, hf⟩ := sn_bd hf
    refine sn_callVi (rest := [.int t_2.1]) C hw (ctX8_lossOf l  h_5) kl_RX8_310 layC_0 rfl rfl rfl rfl (Nat.le_of_ble_eq_true rfl) dX8_rests_100 hl.1 (fun H locs hw => ?_)
    refine lv_icmp_gt (tgt := 118) hx hb dX8_rests_103 (by decide) (fun c_6 => ?_) (fun c_6 => ?_)
    · have hf := sn_if c_6 hf
      exact wX8_rests_118 C  hf kc kx _ _ _ hw (lv_sub hl [1, 2, 3, 4, 5, 6] rfl)
    · have hf := sn_el c_6 hf
      refine lv_iload_n hx hb dX8_rests_106 rfl (lv_at hl 4 rfl) ?_
      refine lv_iconst (v := 1) hx hb dX8_rests_107 rfl ?_
      refine lv_iload hx hb dX8_rests_108 (lv_at hl 5 rfl) ?_
      refine lv_iconst (v := 2) hx hb dX8_rests_110 rfl ?_
      refine lv_iload hx hb dX8_rests_111 (lv_at hl 6 rfl) ?_
      refine lv_imul hx hb dX8_rests_113 ?_
      refine lv_iadd hx hb dX8_rests_114 ?_
      refine lv_ishl hx hb dX8_rests_115 ?_
      refine lv_ior hx hb dX8_rests_116 ?_
      obtain ⟨y_7, e_8, hf⟩ := sn_ltE hf
      refine lv_topi (fun y_7_ e_8_ => ?_)
      obtain rfl : y_7 = y_7_ := e_8.trans e_8_.symm
      refine lv_istore_n (lv' := [(3, .int y_7), (6, .int t0), (0, .ref (ad 0)), (1, .int x1), (2, .int x2), (4, .int x4), (5, .int x5)]) hx hb dX8_rests_117 rfl hl (by decide) rfl (fun ls hl => ?_)
      exact wX8_rests_118 C  hf kc kx _ _ _ hw (lv_sub hl [2, 3, 4, 0, 5, 6] rfl)
theorem wX8_rests_38 (C : sn_C p s m args meth c RX8 cX8_rests 7 (some .int) D ct ad layC A) {σ : sn_S} {x1 : Int32} {x2 : Int32} {x3 : Int32} {x4 : Int32} {x5 : Int32}  {o : (sn_S × Int32 × Int32) ⊕ (sn_S × Int32)} (hf : BX8_rests_38 σ x1 x2 x3 x4 x5 = some o) (kc : ∀ v, o = .inl v → sn_At p l e rmX8_rests s m args below meth c Q D ct ad layC A 7 v.1 38 [(0, .ref (ad 0)), (1, .int x1), (2, .int x2), (3, .int v.2.1), (4, .int x4), (5, .int v.2.2)] []) (kx : ∀ v, o = .inr v → sn_At p l e rmX8_rests s m args below meth c Q D ct ad layC A 7 v.1 124 [(0, .ref (ad 0)), (1, .int x1), (2, .int x2), (3, .int v.2), (4, .int x4)] []) : sn_At p l e rmX8_rests s m args below meth c Q D ct ad layC A 7 σ 38 [(0, .ref (ad 0)), (1, .int x1), (2, .int x2), (3, .int x3), (4, .int x4), (5, .int x5)] [] := by
  intro H locs ls hw hl
  have hx := C.1
  have hb := C.2.1
  unfold BX8_rests_38 at hf
  refine lv_iload hx hb dX8_rests_38 (lv_at hl 5 rfl) ?_
  refine lv_iconst (v := 2) hx hb dX8_rests_40 rfl ?_
  refine lv_icmp_ge (tgt := 124) hx hb dX8_rests_41 (by decide) (fun c_1 => ?_) (fun c_1 => ?_)
  · have hf := sn_if c_1 hf
    cases hf
    exact kx _ rfl _ _ _ hw (lv_sub hl [0, 1, 2, 3, 4] rfl)
  · have hf := sn_el c_1 hf
    refine lv_aload_n hx hb dX8_rests_44 rfl (lv_at hl 0 rfl) ?_
    refine lv_iload_n hx hb dX8_rests_45 rfl (lv_at hl 1 rfl) ?_
    refine lv_iload_n hx hb dX8_rests_46 rfl (lv_at hl 2 rfl) ?_
    refine lv_iload hx hb dX8_rests_47 (lv_at hl 4 rfl) ?_
    refine lv_iload hx hb dX8_rests_49 (lv_at hl 5 rfl) ?_
    obtain ⟨t_2, h_3, hf⟩ := sn_bd hf
    refine sn_callVi (rest := []) C hw (ctX8_lossOf l  h_3) kl_RX8_310 layC_0 rfl rfl rfl rfl (Nat.le_of_ble_eq_true rfl) dX8_rests_51 hl.1 (fun H locs hw => ?_)
    refine lv_aload_n hx hb dX8_rests_54 rfl (lv_at hl 0 rfl) ?_
    refine lv_iload_n hx hb dX8_rests_55 rfl (lv_at hl 1 rfl) ?_
    refine lv_iload_n hx hb dX8_rests_56 rfl (lv_at hl 2 rfl) ?_
    refine lv_iconst (v := 1) hx hb dX8_rests_57 rfl ?_
    refine lv_iload hx hb dX8_rests_58 (lv_at hl 4 rfl) ?_
    refine lv_isub hx hb dX8_rests_60 ?_
    refine lv_iload hx hb dX8_rests_61 (lv_at hl 5 rfl) ?_
    obtain ⟨t_4, h_5, hf⟩ := sn_bd hf
    refine sn_callVi (rest := [.int t_2.1]) C hw (ctX8_lossOf l  h_5) kl_RX8_310 layC_0 rfl rfl rfl rfl (Nat.le_of_ble_eq_true rfl) dX8_rests_63 hl.1 (fun H locs hw => ?_)
    refine lv_icmp_gt (tgt := 73) hx hb dX8_rests_66 (by decide) (fun c_6 => ?_) (fun c_6 => ?_)
    · have hf := sn_if c_6 hf
      refine lv_iconst (v := 0) hx hb dX8_rests_73 rfl ?_
      exact wX8_rests_74 C  hf kc kx _ _ _ hw (lv_sub hl [0, 1, 2, 3, 4, 5] rfl)
    · have hf := sn_el c_6 hf
      refine lv_iconst (v := 1) hx hb dX8_rests_69 rfl ?_
      refine lv_goto (tgt := 74) hx hb dX8_rests_70 (by decide) ?_
      exact wX8_rests_74 C  hf kc kx _ _ _ hw (lv_sub hl [0, 1, 2, 3, 4, 5] rfl)
theorem wX8_rests_L38 (C : sn_C p s m args meth c RX8 cX8_rests 7 (some .int) D ct ad layC A) {x1 : Int32} {x2 : Int32} {x4 : Int32}   {z : sn_S × Int32 × Int32} {t : sn_S × Int32} (h : sn_it (LX8_rests_38 x1 x2 x4) 5000 z = some t) (kx : ∀ v, t = v → sn_At p l e rmX8_rests s m args below meth c Q D ct ad layC A 7 v.1 124 [(0, .ref (ad 0)), (1, .int x1), (2, .int x2), (3, .int v.2), (4, .int x4)] []) : sn_At p l e rmX8_rests s m args below meth c Q D ct ad layC A 7 z.1 38 [(0, .ref (ad 0)), (1, .int x1), (2, .int x2), (3, .int z.2.1), (4, .int x4), (5, .int z.2.2)] [] :=
  sn_loop (f := LX8_rests_38 x1 x2 x4) (G := fun z => sn_At p l e rmX8_rests s m args below meth c Q D ct ad layC A 7 z.1 38 [(0, .ref (ad 0)), (1, .int x1), (2, .int x2), (3, .int z.2.1), (4, .int x4), (5, .int z.2.2)] []) (E := fun t => (∀ v, t = v → sn_At p l e rmX8_rests s m args below meth c Q D ct ad layC A 7 v.1 124 [(0, .ref (ad 0)), (1, .int x1), (2, .int x2), (3, .int v.2), (4, .int x4)] []) ∧ True) (fun z o hf k1 k2 => wX8_rests_38 C  hf (fun v e => k1 v e) (fun v e => (k2 _ e).1 v rfl)) 5000 z t h ⟨kx, trivial⟩
theorem wX8_rests_29 (C : sn_C p s m args meth c RX8 cX8_rests 7 (some .int) D ct ad layC A) {σ : sn_S} {x1 : Int32} {x2 : Int32} {x3 : Int32} {x4 : Int32}  {o : (sn_S × Int32 × Int32) ⊕ (sn_S × Int32)} (hf : BX8_rests_29 σ x1 x2 x3 x4 = some o) (kc : ∀ v, o = .inl v → sn_At p l e rmX8_rests s m args below meth c Q D ct ad layC A 7 v.1 29 [(0, .ref (ad 0)), (1, .int x1), (2, .int x2), (3, .int v.2.1), (4, .int v.2.2)] []) (kx : ∀ v, o = .inr v → sn_At p l e rmX8_rests s m args below meth c Q D ct ad layC A 7 v.1 130 [(3, .int v.2)] []) : sn_At p l e rmX8_rests s m args below meth c Q D ct ad layC A 7 σ 29 [(0, .ref (ad 0)), (1, .int x1), (2, .int x2), (3, .int x3), (4, .int x4)] [] := by
  intro H locs ls hw hl
  have hx := C.1
  have hb := C.2.1
  unfold BX8_rests_29 at hf
  refine lv_iload hx hb dX8_rests_29 (lv_at hl 4 rfl) ?_
  refine lv_iconst (v := 2) hx hb dX8_rests_31 rfl ?_
  refine lv_icmp_ge (tgt := 130) hx hb dX8_rests_32 (by decide) (fun c_1 => ?_) (fun c_1 => ?_)
  · have hf := sn_if c_1 hf
    cases hf
    exact kx _ rfl _ _ _ hw (lv_sub hl [3] rfl)
  · have hf := sn_el c_1 hf
    refine lv_iconst (v := 0) hx hb dX8_rests_35 rfl ?_
    refine lv_istore (lv' := [(5, .int (0 : Int32)), (0, .ref (ad 0)), (1, .int x1), (2, .int x2), (3, .int x3), (4, .int x4)]) hx hb dX8_rests_36 hl (by decide) rfl (fun ls hl => ?_)
    obtain ⟨t_2, h_3, hf⟩ := sn_bd hf
    exact wX8_rests_L38 C  h_3 (fun v e => by cases e; exact wX8_rests_124 C  hf kc kx) _ _ _ hw (lv_sub hl [1, 2, 3, 4, 5, 0] rfl)
theorem wX8_rests_L29 (C : sn_C p s m args meth c RX8 cX8_rests 7 (some .int) D ct ad layC A) {x1 : Int32} {x2 : Int32}   {z : sn_S × Int32 × Int32} {t : sn_S × Int32} (h : sn_it (LX8_rests_29 x1 x2) 5000 z = some t) (kx : ∀ v, t = v → sn_At p l e rmX8_rests s m args below meth c Q D ct ad layC A 7 v.1 130 [(3, .int v.2)] []) : sn_At p l e rmX8_rests s m args below meth c Q D ct ad layC A 7 z.1 29 [(0, .ref (ad 0)), (1, .int x1), (2, .int x2), (3, .int z.2.1), (4, .int z.2.2)] [] :=
  sn_loop (f := LX8_rests_29 x1 x2) (G := fun z => sn_At p l e rmX8_rests s m args below meth c Q D ct ad layC A 7 z.1 29 [(0, .ref (ad 0)), (1, .int x1), (2, .int x2), (3, .int z.2.1), (4, .int z.2.2)] []) (E := fun t => (∀ v, t = v → sn_At p l e rmX8_rests s m args below meth c Q D ct ad layC A 7 v.1 130 [(3, .int v.2)] []) ∧ True) (fun z o hf k1 k2 => wX8_rests_29 C  hf (fun v e => k1 v e) (fun v e => (k2 _ e).1 v rfl)) 5000 z t h ⟨kx, trivial⟩
theorem wX8_rests_in (C : sn_C p s m args meth c RX8 cX8_rests 7 (some .int) D ct ad layC A) {σ : sn_S} {x1 : Int32} {x2 : Int32}  {o : (Int32 × sn_S)} (hf : fX8_rests σ x1 x2 = some o) (kr : sn_Kr p l e rmX8_rests s m args below meth c Q D ct ad layC A cX8_rests .ireturn (true) o.2 [.int o.1]) : sn_At p l e rmX8_rests s m args below meth c Q D ct ad layC A 7 σ 0 [(0, .ref (ad 0)), (1, .int x1), (2, .int x2)] [] := by
  intro H locs ls hw hl
  have hx := C.1
  have hb := C.2.1
  unfold fX8_rests at hf
  refine lv_aload_n hx hb dX8_rests_0 rfl (lv_at hl 0 rfl) ?_
  refine lv_iload_n hx hb dX8_rests_1 rfl (lv_at hl 1 rfl) ?_
  obtain ⟨t_1, h_2, hf⟩ := sn_bd hf
  refine sn_callVi (rest := []) C hw (ctX8_isPerson l  h_2) kl_RX8_107 layC_0 rfl rfl rfl rfl (Nat.le_of_ble_eq_true rfl) dX8_rests_2 hl.1 (fun H locs hw => ?_)
  refine lv_if_eq (tgt := 21) hx hb dX8_rests_5 (by decide) (fun c_3 => ?_) (fun c_3 => ?_)
  · have hf := sn_if c_3 hf
    refine lv_bipush (v := (-2)) hx hb dX8_rests_21 (by decide) ?_
    cases hf
    exact kr _ _ _ _ hw rfl dX8_rests_23
  · have hf := sn_el c_3 hf
    refine lv_aload_n hx hb dX8_rests_8 rfl (lv_at hl 0 rfl) ?_
    refine lv_iload_n hx hb dX8_rests_9 rfl (lv_at hl 2 rfl) ?_
    obtain ⟨t_4, h_5, hf⟩ := sn_bd hf
    refine sn_callVi (rest := []) C hw (ctX8_isPerson l  h_5) kl_RX8_107 layC_0 rfl rfl rfl rfl (Nat.le_of_ble_eq_true rfl) dX8_rests_10 hl.1 (fun H locs hw => ?_)
    refine lv_if_eq (tgt := 21) hx hb dX8_rests_13 (by decide) (fun c_6 => ?_) (fun c_6 => ?_)
    · have hf := sn_if c_6 hf
      refine lv_bipush (v := (-2)) hx hb dX8_rests_21 (by decide) ?_
      cases hf
      exact kr _ _ _ _ hw rfl dX8_rests_23
    · have hf := sn_el c_6 hf
      refine lv_iload_n hx hb dX8_rests_16 rfl (lv_at hl 1 rfl) ?_
      refine lv_iload_n hx hb dX8_rests_17 rfl (lv_at hl 2 rfl) ?_
      refine lv_icmp_ne (tgt := 24) hx hb dX8_rests_18 (by decide) (fun c_7 => ?_) (fun c_7 => ?_)
      · have hf := sn_el c_7 hf
        refine lv_iconst (v := 0) hx hb dX8_rests_24 rfl ?_
        refine lv_istore_n (lv' := [(3, .int (0 : Int32)), (0, .ref (ad 0)), (1, .int x1), (2, .int x2)]) hx hb dX8_rests_25 rfl hl (by decide) rfl (fun ls hl => ?_)
        refine lv_iconst (v := 0) hx hb dX8_rests_26 rfl ?_
        refine lv_istore (lv' := [(4, .int (0 : Int32)), (3, .int (0 : Int32)), (0, .ref (ad 0)), (1, .int x1), (2, .int x2)]) hx hb dX8_rests_27 hl (by decide) rfl (fun ls hl => ?_)
        obtain ⟨t_8, h_9, hf⟩ := sn_bd hf
        exact wX8_rests_L29 C  h_9 (fun v e => by cases e; exact wX8_rests_130 C  hf kr) _ _ _ hw (lv_sub hl [2, 3, 4, 1, 0] rfl)
      · have hf := sn_if c_7 hf
        refine lv_bipush (v := (-2)) hx hb dX8_rests_21 (by decide) ?_
        cases hf
        exact kr _ _ _ _ hw rfl dX8_rests_23
theorem ctX8_rests (l : Launch) {σ : sn_S} {x1 : Int32} {x2 : Int32}  {o : (Int32 × sn_S)} (hf : fX8_rests σ x1 x2 = some o) : sn_M l yX8_rests cX8_rests 7 (some .int) rmX8_rests layC (fun ad => [.ref (ad 0), .int x1, .int x2]) σ (some (fun _ => .int o.1)) o.2 :=
  sn_met (by decide) (fun _ => Nat.le_of_ble_eq_true rfl) (fun p e s m args below meth c ls D ct ad A C hw hl => wX8_rests_in C  hf (fun H locs ls pc hw ok hd => sn_iret C hw hd) _ _ _ hw hl)
-- X8_loses
abbrev rmX8_loses : Room := { frames := 6, cells := 0, slots := 0, locals := 138 }
def fX8_loses (σ : sn_S) (x1 : Int32) (x2 : Int32) (x3 : Int32) (x4 : Int32) : Option (Int32 × sn_S) :=
  ((fX8_isPerson σ x1).bind fun t_1 => (if t_1 = 0 then
  (some ((-2 : Int32), σ))
  else
  ((fX8_isPerson σ x2).bind fun t_4 => (if t_4 = 0 then
  (some ((-2 : Int32), σ))
  else
  (if x1 = x2 then
  (some ((-2 : Int32), σ))
  else
  (if x3 < 0 then
  (some ((-2 : Int32), σ))
  else
  (if (1 : Int32) < x3 then
  (some ((-2 : Int32), σ))
  else
  (if x4 < 0 then
  (some ((-2 : Int32), σ))
  else
  (if x4 ≤ (1 : Int32) then
  ((fX8_lossOf σ x1 x2 x3 x4).bind fun t_12 => (some (t_12.1, t_12.2)))
  else
  (some ((-2 : Int32), σ)))))))))))
theorem wX8_loses_in (C : sn_C p s m args meth c RX8 cX8_loses 5 (some .int) D ct ad layC A) {σ : sn_S} {x1 : Int32} {x2 : Int32} {x3 : Int32} {x4 : Int32}  {o : (Int32 × sn_S)} (hf : fX8_loses σ x1 x2 x3 x4 = some o) (kr : sn_Kr p l e rmX8_loses s m args below meth c Q D ct ad layC A cX8_loses .ireturn (true) o.2 [.int o.1]) : sn_At p l e rmX8_loses s m args below meth c Q D ct ad layC A 5 σ 0 [(0, .ref (ad 0)), (1, .int x1), (2, .int x2), (3, .int x3), (4, .int x4)] [] := by
  intro H locs ls hw hl
  have hx := C.1
  have hb := C.2.1
  unfold fX8_loses at hf
  refine lv_aload_n hx hb dX8_loses_0 rfl (lv_at hl 0 rfl) ?_
  refine lv_iload_n hx hb dX8_loses_1 rfl (lv_at hl 1 rfl) ?_
  obtain ⟨t_1, h_2, hf⟩ := sn_bd hf
  refine sn_callVi (rest := []) C hw (ctX8_isPerson l  h_2) kl_RX8_107 layC_0 rfl rfl rfl rfl (Nat.le_of_ble_eq_true rfl) dX8_loses_2 hl.1 (fun H locs hw => ?_)
  refine lv_if_eq (tgt := 21) hx hb dX8_loses_5 (by decide) (fun c_3 => ?_) (fun c_3 => ?_)
  · have hf := sn_if c_3 hf
    refine lv_bipush (v := (-2)) hx hb dX8_loses_21 (by decide) ?_
    cases hf
    exact kr _ _ _ _ hw rfl dX8_loses_23
  · have hf := sn_el c_3 hf
    refine lv_aload_n hx hb dX8_loses_8 rfl (lv_at hl 0 rfl) ?_
    refine lv_iload_n hx hb dX8_loses_9 rfl (lv_at hl 2 rfl) ?_
    obtain ⟨t_4, h_5, hf⟩ := sn_bd hf
    refine sn_callVi (rest := []) C hw (ctX8_isPerson l  h_5) kl_RX8_107 layC_0 rfl rfl rfl rfl (Nat.le_of_ble_eq_true rfl) dX8_loses_10 hl.1 (fun H locs hw => ?_)
    refine lv_if_eq (tgt := 21) hx hb dX8_loses_13 (by decide) (fun c_6 => ?_) (fun c_6 => ?_)
    · have hf := sn_if c_6 hf
      refine lv_bipush (v := (-2)) hx hb dX8_loses_21 (by decide) ?_
      cases hf
      exact kr _ _ _ _ hw rfl dX8_loses_23
    · have hf := sn_el c_6 hf
      refine lv_iload_n hx hb dX8_loses_16 rfl (lv_at hl 1 rfl) ?_
      refine lv_iload_n hx hb dX8_loses_17 rfl (lv_at hl 2 rfl) ?_
      refine lv_icmp_ne (tgt := 24) hx hb dX8_loses_18 (by decide) (fun c_7 => ?_) (fun c_7 => ?_)
      · have hf := sn_el c_7 hf
        refine lv_iload_n hx hb dX8_loses_24 rfl (lv_at hl 3 rfl) ?_
        refine lv_if_lt (tgt := 44) hx hb dX8_loses_25 (by decide) (fun c_8 => ?_) (fun c_8 => ?_)
        · have hf := sn_if c_8 hf
          refine lv_bipush (v := (-2)) hx hb dX8_loses_44 (by decide) ?_
          cases hf
          exact kr _ _ _ _ hw rfl dX8_loses_46
        · have hf := sn_el c_8 hf
          refine lv_iload_n hx hb dX8_loses_28 rfl (lv_at hl 3 rfl) ?_
          refine lv_iconst (v := 1) hx hb dX8_loses_29 rfl ?_
          refine lv_icmp_gt (tgt := 44) hx hb dX8_loses_30 (by decide) (fun c_9 => ?_) (fun c_9 => ?_)
          · have hf := sn_if c_9 hf
            refine lv_bipush (v := (-2)) hx hb dX8_loses_44 (by decide) ?_
            cases hf
            exact kr _ _ _ _ hw rfl dX8_loses_46
          · have hf := sn_el c_9 hf
            refine lv_iload hx hb dX8_loses_33 (lv_at hl 4 rfl) ?_
            refine lv_if_lt (tgt := 44) hx hb dX8_loses_35 (by decide) (fun c_10 => ?_) (fun c_10 => ?_)
            · have hf := sn_if c_10 hf
              refine lv_bipush (v := (-2)) hx hb dX8_loses_44 (by decide) ?_
              cases hf
              exact kr _ _ _ _ hw rfl dX8_loses_46
            · have hf := sn_el c_10 hf
              refine lv_iload hx hb dX8_loses_38 (lv_at hl 4 rfl) ?_
              refine lv_iconst (v := 1) hx hb dX8_loses_40 rfl ?_
              refine lv_icmp_le (tgt := 47) hx hb dX8_loses_41 (by decide) (fun c_11 => ?_) (fun c_11 => ?_)
              · have hf := sn_if c_11 hf
                refine lv_aload_n hx hb dX8_loses_47 rfl (lv_at hl 0 rfl) ?_
                refine lv_iload_n hx hb dX8_loses_48 rfl (lv_at hl 1 rfl) ?_
                refine lv_iload_n hx hb dX8_loses_49 rfl (lv_at hl 2 rfl) ?_
                refine lv_iload_n hx hb dX8_loses_50 rfl (lv_at hl 3 rfl) ?_
                refine lv_iload hx hb dX8_loses_51 (lv_at hl 4 rfl) ?_
                obtain ⟨t_12, h_13, hf⟩ := sn_bd hf
                refine sn_callVi (rest := []) C hw (ctX8_lossOf l  h_13) kl_RX8_310 layC_0 rfl rfl rfl rfl (Nat.le_of_ble_eq_true rfl) dX8_loses_53 hl.1 (fun H locs hw => ?_)
                cases hf
                exact kr _ _ _ _ hw rfl dX8_loses_56
              · have hf := sn_el c_11 hf
                refine lv_bipush (v := (-2)) hx hb dX8_loses_44 (by decide) ?_
                cases hf
                exact kr _ _ _ _ hw rfl dX8_loses_46
      · have hf := sn_if c_7 hf
        refine lv_bipush (v := (-2)) hx hb dX8_loses_21 (by decide) ?_
        cases hf
        exact kr _ _ _ _ hw rfl dX8_loses_23
theorem ctX8_loses (l : Launch) {σ : sn_S} {x1 : Int32} {x2 : Int32} {x3 : Int32} {x4 : Int32}  {o : (Int32 × sn_S)} (hf : fX8_loses σ x1 x2 x3 x4 = some o) : sn_M l yX8_loses cX8_loses 5 (some .int) rmX8_loses layC (fun ad => [.ref (ad 0), .int x1, .int x2, .int x3, .int x4]) σ (some (fun _ => .int o.1)) o.2 :=
  sn_met (by decide) (fun _ => Nat.le_of_ble_eq_true rfl) (fun p e s m args below meth c ls D ct ad A C hw hl => wX8_loses_in C  hf (fun H locs ls pc hw ok hd => sn_iret C hw hd) _ _ _ hw hl)
-- X8_isPuffMinute
abbrev rmX8_isPuffMinute : Room := { frames := 1, cells := 0, slots := 0, locals := 21 }
def fX8_isPuffMinute (σ : sn_S) (x1 : Int32) : Option Int32 :=
  ((fX8_isMinute σ x1).bind fun t_1 => (if t_1 = 0 then
  (sn_gd (sn_b01 (0 : Int32)) (some (0 : Int32)))
  else
  (if (7 : Int32) < x1 then
  (sn_gd (sn_b01 (0 : Int32)) (some (0 : Int32)))
  else
  (sn_gd (sn_b01 (1 : Int32)) (some (1 : Int32))))))
theorem wX8_isPuffMinute_in (C : sn_C p s m args meth c RX8 cX8_isPuffMinute 2 (some .boolean) D ct ad layC A) {σ : sn_S} {x1 : Int32}  {o : Int32} (hf : fX8_isPuffMinute σ x1 = some o) (kr : sn_Kr p l e rmX8_isPuffMinute s m args below meth c Q D ct ad layC A cX8_isPuffMinute .ireturn (sn_b01 o) σ [.int o]) : sn_At p l e rmX8_isPuffMinute s m args below meth c Q D ct ad layC A 2 σ 0 [(0, .ref (ad 0)), (1, .int x1)] [] := by
  intro H locs ls hw hl
  have hx := C.1
  have hb := C.2.1
  unfold fX8_isPuffMinute at hf
  refine lv_aload_n hx hb dX8_isPuffMinute_0 rfl (lv_at hl 0 rfl) ?_
  refine lv_iload_n hx hb dX8_isPuffMinute_1 rfl (lv_at hl 1 rfl) ?_
  obtain ⟨t_1, h_2, hf⟩ := sn_bd hf
  refine sn_callVi (rest := []) C hw (ctX8_isMinute l  h_2) kl_RX8_125 layC_0 rfl rfl rfl rfl (Nat.le_of_ble_eq_true rfl) dX8_isPuffMinute_2 hl.1 (fun H locs hw => ?_)
  refine lv_if_eq (tgt := 18) hx hb dX8_isPuffMinute_5 (by decide) (fun c_3 => ?_) (fun c_3 => ?_)
  · have hf := sn_if c_3 hf
    refine lv_iconst (v := 0) hx hb dX8_isPuffMinute_18 rfl ?_
    obtain ⟨g_4, hf⟩ := sn_gdE hf
    cases hf
    exact kr _ _ _ _ hw g_4 dX8_isPuffMinute_19
  · have hf := sn_el c_3 hf
    refine lv_iload_n hx hb dX8_isPuffMinute_8 rfl (lv_at hl 1 rfl) ?_
    refine lv_bipush (v := 7) hx hb dX8_isPuffMinute_9 (by decide) ?_
    refine lv_icmp_gt (tgt := 18) hx hb dX8_isPuffMinute_11 (by decide) (fun c_5 => ?_) (fun c_5 => ?_)
    · have hf := sn_if c_5 hf
      refine lv_iconst (v := 0) hx hb dX8_isPuffMinute_18 rfl ?_
      obtain ⟨g_6, hf⟩ := sn_gdE hf
      cases hf
      exact kr _ _ _ _ hw g_6 dX8_isPuffMinute_19
    · have hf := sn_el c_5 hf
      refine lv_iconst (v := 1) hx hb dX8_isPuffMinute_14 rfl ?_
      refine lv_goto (tgt := 19) hx hb dX8_isPuffMinute_15 (by decide) ?_
      obtain ⟨g_7, hf⟩ := sn_gdE hf
      cases hf
      exact kr _ _ _ _ hw g_7 dX8_isPuffMinute_19
theorem ctX8_isPuffMinute (l : Launch) {σ : sn_S} {x1 : Int32}  {o : Int32} (hf : fX8_isPuffMinute σ x1 = some o) : sn_M l yX8_isPuffMinute cX8_isPuffMinute 2 (some .boolean) rmX8_isPuffMinute layC (fun ad => [.ref (ad 0), .int x1]) σ (some (fun _ => .int o)) σ :=
  sn_met (by decide) (fun _ => Nat.le_of_ble_eq_true rfl) (fun p e s m args below meth c ls D ct ad A C hw hl => wX8_isPuffMinute_in C  hf (fun H locs ls pc hw ok hd => sn_zret C hw ok hd) _ _ _ hw hl)
-- X8_chance
abbrev rmX8_chance : Room := { frames := 6, cells := 0, slots := 0, locals := 152 }
def fX8_chance (σ : sn_S) (x1 : Int32) (x2 : Int32) (x3 : Int32) : Option (Int64 × sn_S) :=
  ((fX8_isPerson σ x1).bind fun t_1 => (if t_1 = 0 then
  (some ((-2 : Int64), σ))
  else
  ((fX8_isPuffMinute σ x2).bind fun t_4 => (if t_4 = 0 then
  (some ((-2 : Int64), σ))
  else
  (if x3 < 0 then
  (some ((-2 : Int64), σ))
  else
  (if x3 ≤ (1 : Int32) then
  ((fX4_reckon σ 1 27 (0 : Int32) x1 x2).bind fun t_9 => (if x3 = 0 then
  (some ((sn_L t_9 57 0), t_9))
  else
  (some ((sn_L t_9 57 1), t_9))))
  else
  (some ((-2 : Int64), σ))))))))
theorem wX8_chance_in (C : sn_C p s m args meth c RX8 cX8_chance 4 (some .long) D ct ad layC A) {σ : sn_S} {x1 : Int32} {x2 : Int32} {x3 : Int32}  {o : (Int64 × sn_S)} (hf : fX8_chance σ x1 x2 x3 = some o) (kr : sn_Kr p l e rmX8_chance s m args below meth c Q D ct ad layC A cX8_chance .lreturn (true) o.2 [.long o.1]) : sn_At p l e rmX8_chance s m args below meth c Q D ct ad layC A 4 σ 0 [(0, .ref (ad 0)), (1, .int x1), (2, .int x2), (3, .int x3)] [] := by
  intro H locs ls hw hl
  have hx := C.1
  have hb := C.2.1
  unfold fX8_chance at hf
  refine lv_aload_n hx hb dX8_chance_0 rfl (lv_at hl 0 rfl) ?_
  refine lv_iload_n hx hb dX8_chance_1 rfl (lv_at hl 1 rfl) ?_
  obtain ⟨t_1, h_2, hf⟩ := sn_bd hf
  refine sn_callVi (rest := []) C hw (ctX8_isPerson l  h_2) kl_RX8_107 layC_0 rfl rfl rfl rfl (Nat.le_of_ble_eq_true rfl) dX8_chance_2 hl.1 (fun H locs hw => ?_)
  refine lv_if_eq (tgt := 25) hx hb dX8_chance_5 (by decide) (fun c_3 => ?_) (fun c_3 => ?_)
  · have hf := sn_if c_3 hf
    refine lv_ldc2 hx hb C.2.2.2.1 (C.2.2.2.2.1 _ kk_RX8_317) dX8_chance_25 ?_
    cases hf
    exact kr _ _ _ _ hw rfl dX8_chance_28
  · have hf := sn_el c_3 hf
    refine lv_aload_n hx hb dX8_chance_8 rfl (lv_at hl 0 rfl) ?_
    refine lv_iload_n hx hb dX8_chance_9 rfl (lv_at hl 2 rfl) ?_
    obtain ⟨t_4, h_5, hf⟩ := sn_bd hf
    refine sn_callVi (rest := []) C hw (ctX8_isPuffMinute l  h_5) kl_RX8_314 layC_0 rfl rfl rfl rfl (Nat.le_of_ble_eq_true rfl) dX8_chance_10 hl.1 (fun H locs hw => ?_)
    refine lv_if_eq (tgt := 25) hx hb dX8_chance_13 (by decide) (fun c_6 => ?_) (fun c_6 => ?_)
    · have hf := sn_if c_6 hf
      refine lv_ldc2 hx hb C.2.2.2.1 (C.2.2.2.2.1 _ kk_RX8_317) dX8_chance_25 ?_
      cases hf
      exact kr _ _ _ _ hw rfl dX8_chance_28
    · have hf := sn_el c_6 hf
      refine lv_iload_n hx hb dX8_chance_16 rfl (lv_at hl 3 rfl) ?_
      refine lv_if_lt (tgt := 25) hx hb dX8_chance_17 (by decide) (fun c_7 => ?_) (fun c_7 => ?_)
      · have hf := sn_if c_7 hf
        refine lv_ldc2 hx hb C.2.2.2.1 (C.2.2.2.2.1 _ kk_RX8_317) dX8_chance_25 ?_
        cases hf
        exact kr _ _ _ _ hw rfl dX8_chance_28
      · have hf := sn_el c_7 hf
        refine lv_iload_n hx hb dX8_chance_20 rfl (lv_at hl 3 rfl) ?_
        refine lv_iconst (v := 1) hx hb dX8_chance_21 rfl ?_
        refine lv_icmp_le (tgt := 29) hx hb dX8_chance_22 (by decide) (fun c_8 => ?_) (fun c_8 => ?_)
        · have hf := sn_if c_8 hf
          refine lv_aload_n hx hb dX8_chance_29 rfl (lv_at hl 0 rfl) ?_
          refine sn_getC (r := 57) C hw fd_RX8_75 layC_0 rfl dX8_chance_30 ?_
          refine lv_aload_n hx hb dX8_chance_33 rfl (lv_at hl 0 rfl) ?_
          refine sn_getC (r := 1) C hw fd_RX8_10 layC_0 rfl dX8_chance_34 ?_
          refine lv_aload_n hx hb dX8_chance_37 rfl (lv_at hl 0 rfl) ?_
          refine sn_getC (r := 27) C hw fd_RX8_44 layC_0 rfl dX8_chance_38 ?_
          refine lv_iconst (v := 0) hx hb dX8_chance_41 rfl ?_
          refine lv_iload_n hx hb dX8_chance_42 rfl (lv_at hl 1 rfl) ?_
          refine lv_iload_n hx hb dX8_chance_43 rfl (lv_at hl 2 rfl) ?_
          obtain ⟨t_9, h_10, hf⟩ := sn_bd hf
          refine sn_callVv (rest := []) C hw (ctX4_reckon l sn_isX2_1 sn_isX0_27 h_10) kl_RX8_319 layC_57 rfl rfl rfl rfl (Nat.le_of_ble_eq_true rfl) dX8_chance_44 hl.1 (fun H locs hw => ?_)
          refine lv_iload_n hx hb dX8_chance_47 rfl (lv_at hl 3 rfl) ?_
          refine lv_if_ne (tgt := 61) hx hb dX8_chance_48 (by decide) (fun c_11 => ?_) (fun c_11 => ?_)
          · have hf := sn_el c_11 hf
            refine lv_aload_n hx hb dX8_chance_61 rfl (lv_at hl 0 rfl) ?_
            refine sn_getC (r := 57) C hw fd_RX8_75 layC_0 rfl dX8_chance_62 ?_
            refine sn_getL C hw fd_RX8_326 layC_57 rfl dX8_chance_65 ?_
            cases hf
            exact kr _ _ _ _ hw rfl dX8_chance_68
          · have hf := sn_if c_11 hf
            refine lv_aload_n hx hb dX8_chance_51 rfl (lv_at hl 0 rfl) ?_
            refine sn_getC (r := 57) C hw fd_RX8_75 layC_0 rfl dX8_chance_52 ?_
            refine sn_getL C hw fd_RX8_322 layC_57 rfl dX8_chance_55 ?_
            refine lv_goto (tgt := 68) hx hb dX8_chance_58 (by decide) ?_
            cases hf
            exact kr _ _ _ _ hw rfl dX8_chance_68
        · have hf := sn_el c_8 hf
          refine lv_ldc2 hx hb C.2.2.2.1 (C.2.2.2.2.1 _ kk_RX8_317) dX8_chance_25 ?_
          cases hf
          exact kr _ _ _ _ hw rfl dX8_chance_28
theorem ctX8_chance (l : Launch) {σ : sn_S} {x1 : Int32} {x2 : Int32} {x3 : Int32}  {o : (Int64 × sn_S)} (hf : fX8_chance σ x1 x2 x3 = some o) : sn_M l yX8_chance cX8_chance 4 (some .long) rmX8_chance layC (fun ad => [.ref (ad 0), .int x1, .int x2, .int x3]) σ (some (fun _ => .long o.1)) o.2 :=
  sn_met (by decide) (fun _ => Nat.le_of_ble_eq_true rfl) (fun p e s m args below meth c ls D ct ad A C hw hl => wX8_chance_in C  hf (fun H locs ls pc hw ok hd => sn_lret C hw hd) _ _ _ hw hl)
-- X8_fair
abbrev rmX8_fair : Room := { frames := 6, cells := 0, slots := 0, locals := 152 }
def fX8_fair (σ : sn_S) (x1 : Int32) (x2 : Int32) (x3 : Int32) : Option (Int64 × sn_S) :=
  ((fX8_isPolicy σ x1).bind fun t_1 => (if t_1 = 0 then
  (some ((-2 : Int64), σ))
  else
  ((fX8_isPuffMinute σ x2).bind fun t_4 => (if t_4 = 0 then
  (some ((-2 : Int64), σ))
  else
  (if x3 < 0 then
  (some ((-2 : Int64), σ))
  else
  (if x3 ≤ (1 : Int32) then
  ((fX4_reckon σ 1 27 (1 : Int32) x1 x2).bind fun t_9 => (if x3 = 0 then
  (some ((sn_L t_9 57 0), t_9))
  else
  (some ((sn_L t_9 57 1), t_9))))
  else
  (some ((-2 : Int64), σ))))))))
theorem wX8_fair_in (C : sn_C p s m args meth c RX8 cX8_fair 4 (some .long) D ct ad layC A) {σ : sn_S} {x1 : Int32} {x2 : Int32} {x3 : Int32}  {o : (Int64 × sn_S)} (hf : fX8_fair σ x1 x2 x3 = some o) (kr : sn_Kr p l e rmX8_fair s m args below meth c Q D ct ad layC A cX8_fair .lreturn (true) o.2 [.long o.1]) : sn_At p l e rmX8_fair s m args below meth c Q D ct ad layC A 4 σ 0 [(0, .ref (ad 0)), (1, .int x1), (2, .int x2), (3, .int x3)] [] := by
  intro H locs ls hw hl
  have hx := C.1
  have hb := C.2.1
  unfold fX8_fair at hf
  refine lv_aload_n hx hb dX8_fair_0 rfl (lv_at hl 0 rfl) ?_
  refine lv_iload_n hx hb dX8_fair_1 rfl (lv_at hl 1 rfl) ?_
  obtain ⟨t_1, h_2, hf⟩ := sn_bd hf
  refine sn_callVi (rest := []) C hw (ctX8_isPolicy l  h_2) kl_RX8_114 layC_0 rfl rfl rfl rfl (Nat.le_of_ble_eq_true rfl) dX8_fair_2 hl.1 (fun H locs hw => ?_)
  refine lv_if_eq (tgt := 25) hx hb dX8_fair_5 (by decide) (fun c_3 => ?_) (fun c_3 => ?_)
  · have hf := sn_if c_3 hf
    refine lv_ldc2 hx hb C.2.2.2.1 (C.2.2.2.2.1 _ kk_RX8_317) dX8_fair_25 ?_
    cases hf
    exact kr _ _ _ _ hw rfl dX8_fair_28
  · have hf := sn_el c_3 hf
    refine lv_aload_n hx hb dX8_fair_8 rfl (lv_at hl 0 rfl) ?_
    refine lv_iload_n hx hb dX8_fair_9 rfl (lv_at hl 2 rfl) ?_
    obtain ⟨t_4, h_5, hf⟩ := sn_bd hf
    refine sn_callVi (rest := []) C hw (ctX8_isPuffMinute l  h_5) kl_RX8_314 layC_0 rfl rfl rfl rfl (Nat.le_of_ble_eq_true rfl) dX8_fair_10 hl.1 (fun H locs hw => ?_)
    refine lv_if_eq (tgt := 25) hx hb dX8_fair_13 (by decide) (fun c_6 => ?_) (fun c_6 => ?_)
    · have hf := sn_if c_6 hf
      refine lv_ldc2 hx hb C.2.2.2.1 (C.2.2.2.2.1 _ kk_RX8_317) dX8_fair_25 ?_
      cases hf
      exact kr _ _ _ _ hw rfl dX8_fair_28
    · have hf := sn_el c_6 hf
      refine lv_iload_n hx hb dX8_fair_16 rfl (lv_at hl 3 rfl) ?_
      refine lv_if_lt (tgt := 25) hx hb dX8_fair_17 (by decide) (fun c_7 => ?_) (fun c_7 => ?_)
      · have hf := sn_if c_7 hf
        refine lv_ldc2 hx hb C.2.2.2.1 (C.2.2.2.2.1 _ kk_RX8_317) dX8_fair_25 ?_
        cases hf
        exact kr _ _ _ _ hw rfl dX8_fair_28
      · have hf := sn_el c_7 hf
        refine lv_iload_n hx hb dX8_fair_20 rfl (lv_at hl 3 rfl) ?_
        refine lv_iconst (v := 1) hx hb dX8_fair_21 rfl ?_
        refine lv_icmp_le (tgt := 29) hx hb dX8_fair_22 (by decide) (fun c_8 => ?_) (fun c_8 => ?_)
        · have hf := sn_if c_8 hf
          refine lv_aload_n hx hb dX8_fair_29 rfl (lv_at hl 0 rfl) ?_
          refine sn_getC (r := 57) C hw fd_RX8_75 layC_0 rfl dX8_fair_30 ?_
          refine lv_aload_n hx hb dX8_fair_33 rfl (lv_at hl 0 rfl) ?_
          refine sn_getC (r := 1) C hw fd_RX8_10 layC_0 rfl dX8_fair_34 ?_
          refine lv_aload_n hx hb dX8_fair_37 rfl (lv_at hl 0 rfl) ?_
          refine sn_getC (r := 27) C hw fd_RX8_44 layC_0 rfl dX8_fair_38 ?_
          refine lv_iconst (v := 1) hx hb dX8_fair_41 rfl ?_
          refine lv_iload_n hx hb dX8_fair_42 rfl (lv_at hl 1 rfl) ?_
          refine lv_iload_n hx hb dX8_fair_43 rfl (lv_at hl 2 rfl) ?_
          obtain ⟨t_9, h_10, hf⟩ := sn_bd hf
          refine sn_callVv (rest := []) C hw (ctX4_reckon l sn_isX2_1 sn_isX0_27 h_10) kl_RX8_319 layC_57 rfl rfl rfl rfl (Nat.le_of_ble_eq_true rfl) dX8_fair_44 hl.1 (fun H locs hw => ?_)
          refine lv_iload_n hx hb dX8_fair_47 rfl (lv_at hl 3 rfl) ?_
          refine lv_if_ne (tgt := 61) hx hb dX8_fair_48 (by decide) (fun c_11 => ?_) (fun c_11 => ?_)
          · have hf := sn_el c_11 hf
            refine lv_aload_n hx hb dX8_fair_61 rfl (lv_at hl 0 rfl) ?_
            refine sn_getC (r := 57) C hw fd_RX8_75 layC_0 rfl dX8_fair_62 ?_
            refine sn_getL C hw fd_RX8_326 layC_57 rfl dX8_fair_65 ?_
            cases hf
            exact kr _ _ _ _ hw rfl dX8_fair_68
          · have hf := sn_if c_11 hf
            refine lv_aload_n hx hb dX8_fair_51 rfl (lv_at hl 0 rfl) ?_
            refine sn_getC (r := 57) C hw fd_RX8_75 layC_0 rfl dX8_fair_52 ?_
            refine sn_getL C hw fd_RX8_322 layC_57 rfl dX8_fair_55 ?_
            refine lv_goto (tgt := 68) hx hb dX8_fair_58 (by decide) ?_
            cases hf
            exact kr _ _ _ _ hw rfl dX8_fair_68
        · have hf := sn_el c_8 hf
          refine lv_ldc2 hx hb C.2.2.2.1 (C.2.2.2.2.1 _ kk_RX8_317) dX8_fair_25 ?_
          cases hf
          exact kr _ _ _ _ hw rfl dX8_fair_28
theorem ctX8_fair (l : Launch) {σ : sn_S} {x1 : Int32} {x2 : Int32} {x3 : Int32}  {o : (Int64 × sn_S)} (hf : fX8_fair σ x1 x2 x3 = some o) : sn_M l yX8_fair cX8_fair 4 (some .long) rmX8_fair layC (fun ad => [.ref (ad 0), .int x1, .int x2, .int x3]) σ (some (fun _ => .long o.1)) o.2 :=
  sn_met (by decide) (fun _ => Nat.le_of_ble_eq_true rfl) (fun p e s m args below meth c ls D ct ad A C hw hl => wX8_fair_in C  hf (fun H locs ls pc hw ok hd => sn_lret C hw hd) _ _ _ hw hl)
-- X8_risk
abbrev rmX8_risk : Room := { frames := 6, cells := 0, slots := 0, locals := 152 }
def fX8_risk (σ : sn_S) (x1 : Int32) (x2 : Int32) : Option (Int64 × sn_S) :=
  ((fX8_isPuffMinute σ x1).bind fun t_1 => (if t_1 = 0 then
  (some ((-2 : Int64), σ))
  else
  (if x2 < 0 then
  (some ((-2 : Int64), σ))
  else
  (if x2 ≤ (1 : Int32) then
  ((fX4_reckon σ 1 27 (2 : Int32) (-1 : Int32) x1).bind fun t_6 => (if x2 = 0 then
  (some ((sn_L t_6 57 0), t_6))
  else
  (some ((sn_L t_6 57 1), t_6))))
  else
  (some ((-2 : Int64), σ))))))
theorem wX8_risk_in (C : sn_C p s m args meth c RX8 cX8_risk 3 (some .long) D ct ad layC A) {σ : sn_S} {x1 : Int32} {x2 : Int32}  {o : (Int64 × sn_S)} (hf : fX8_risk σ x1 x2 = some o) (kr : sn_Kr p l e rmX8_risk s m args below meth c Q D ct ad layC A cX8_risk .lreturn (true) o.2 [.long o.1]) : sn_At p l e rmX8_risk s m args below meth c Q D ct ad layC A 3 σ 0 [(0, .ref (ad 0)), (1, .int x1), (2, .int x2)] [] := by
  intro H locs ls hw hl
  have hx := C.1
  have hb := C.2.1
  unfold fX8_risk at hf
  refine lv_aload_n hx hb dX8_risk_0 rfl (lv_at hl 0 rfl) ?_
  refine lv_iload_n hx hb dX8_risk_1 rfl (lv_at hl 1 rfl) ?_
  obtain ⟨t_1, h_2, hf⟩ := sn_bd hf
  refine sn_callVi (rest := []) C hw (ctX8_isPuffMinute l  h_2) kl_RX8_314 layC_0 rfl rfl rfl rfl (Nat.le_of_ble_eq_true rfl) dX8_risk_2 hl.1 (fun H locs hw => ?_)
  refine lv_if_eq (tgt := 17) hx hb dX8_risk_5 (by decide) (fun c_3 => ?_) (fun c_3 => ?_)
  · have hf := sn_if c_3 hf
    refine lv_ldc2 hx hb C.2.2.2.1 (C.2.2.2.2.1 _ kk_RX8_317) dX8_risk_17 ?_
    cases hf
    exact kr _ _ _ _ hw rfl dX8_risk_20
  · have hf := sn_el c_3 hf
    refine lv_iload_n hx hb dX8_risk_8 rfl (lv_at hl 2 rfl) ?_
    refine lv_if_lt (tgt := 17) hx hb dX8_risk_9 (by decide) (fun c_4 => ?_) (fun c_4 => ?_)
    · have hf := sn_if c_4 hf
      refine lv_ldc2 hx hb C.2.2.2.1 (C.2.2.2.2.1 _ kk_RX8_317) dX8_risk_17 ?_
      cases hf
      exact kr _ _ _ _ hw rfl dX8_risk_20
    · have hf := sn_el c_4 hf
      refine lv_iload_n hx hb dX8_risk_12 rfl (lv_at hl 2 rfl) ?_
      refine lv_iconst (v := 1) hx hb dX8_risk_13 rfl ?_
      refine lv_icmp_le (tgt := 21) hx hb dX8_risk_14 (by decide) (fun c_5 => ?_) (fun c_5 => ?_)
      · have hf := sn_if c_5 hf
        refine lv_aload_n hx hb dX8_risk_21 rfl (lv_at hl 0 rfl) ?_
        refine sn_getC (r := 57) C hw fd_RX8_75 layC_0 rfl dX8_risk_22 ?_
        refine lv_aload_n hx hb dX8_risk_25 rfl (lv_at hl 0 rfl) ?_
        refine sn_getC (r := 1) C hw fd_RX8_10 layC_0 rfl dX8_risk_26 ?_
        refine lv_aload_n hx hb dX8_risk_29 rfl (lv_at hl 0 rfl) ?_
        refine sn_getC (r := 27) C hw fd_RX8_44 layC_0 rfl dX8_risk_30 ?_
        refine lv_iconst (v := 2) hx hb dX8_risk_33 rfl ?_
        refine lv_iconst (v := (-1)) hx hb dX8_risk_34 rfl ?_
        refine lv_iload_n hx hb dX8_risk_35 rfl (lv_at hl 1 rfl) ?_
        obtain ⟨t_6, h_7, hf⟩ := sn_bd hf
        refine sn_callVv (rest := []) C hw (ctX4_reckon l sn_isX2_1 sn_isX0_27 h_7) kl_RX8_319 layC_57 rfl rfl rfl rfl (Nat.le_of_ble_eq_true rfl) dX8_risk_36 hl.1 (fun H locs hw => ?_)
        refine lv_iload_n hx hb dX8_risk_39 rfl (lv_at hl 2 rfl) ?_
        refine lv_if_ne (tgt := 53) hx hb dX8_risk_40 (by decide) (fun c_8 => ?_) (fun c_8 => ?_)
        · have hf := sn_el c_8 hf
          refine lv_aload_n hx hb dX8_risk_53 rfl (lv_at hl 0 rfl) ?_
          refine sn_getC (r := 57) C hw fd_RX8_75 layC_0 rfl dX8_risk_54 ?_
          refine sn_getL C hw fd_RX8_326 layC_57 rfl dX8_risk_57 ?_
          cases hf
          exact kr _ _ _ _ hw rfl dX8_risk_60
        · have hf := sn_if c_8 hf
          refine lv_aload_n hx hb dX8_risk_43 rfl (lv_at hl 0 rfl) ?_
          refine sn_getC (r := 57) C hw fd_RX8_75 layC_0 rfl dX8_risk_44 ?_
          refine sn_getL C hw fd_RX8_322 layC_57 rfl dX8_risk_47 ?_
          refine lv_goto (tgt := 60) hx hb dX8_risk_50 (by decide) ?_
          cases hf
          exact kr _ _ _ _ hw rfl dX8_risk_60
      · have hf := sn_el c_5 hf
        refine lv_ldc2 hx hb C.2.2.2.1 (C.2.2.2.2.1 _ kk_RX8_317) dX8_risk_17 ?_
        cases hf
        exact kr _ _ _ _ hw rfl dX8_risk_20
theorem ctX8_risk (l : Launch) {σ : sn_S} {x1 : Int32} {x2 : Int32}  {o : (Int64 × sn_S)} (hf : fX8_risk σ x1 x2 = some o) : sn_M l yX8_risk cX8_risk 3 (some .long) rmX8_risk layC (fun ad => [.ref (ad 0), .int x1, .int x2]) σ (some (fun _ => .long o.1)) o.2 :=
  sn_met (by decide) (fun _ => Nat.le_of_ble_eq_true rfl) (fun p e s m args below meth c ls D ct ad A C hw hl => wX8_risk_in C  hf (fun H locs ls pc hw ok hd => sn_lret C hw hd) _ _ _ hw hl)
-- X8_isSeed
abbrev rmX8_isSeed : Room := { frames := 0, cells := 0, slots := 0, locals := 0 }
def fX8_isSeed (x0 : Int32) : Option Int32 :=
  (if x0 < 0 then
  (sn_gd (sn_b01 (0 : Int32)) (some (0 : Int32)))
  else
  (if (2000000000 : Int32) < x0 then
  (sn_gd (sn_b01 (0 : Int32)) (some (0 : Int32)))
  else
  (sn_gd (sn_b01 (1 : Int32)) (some (1 : Int32)))))
theorem wX8_isSeed_in (C : sn_C p s m args meth c RX8 cX8_isSeed 1 (some .boolean) D ct ad layC A) {σ : sn_S} {x0 : Int32}  {o : Int32} (hf : fX8_isSeed x0 = some o) (kr : sn_Kr p l e rmX8_isSeed s m args below meth c Q D ct ad layC A cX8_isSeed .ireturn (sn_b01 o) σ [.int o]) : sn_At p l e rmX8_isSeed s m args below meth c Q D ct ad layC A 1 σ 0 [(0, .int x0)] [] := by
  intro H locs ls hw hl
  have hx := C.1
  have hb := C.2.1
  unfold fX8_isSeed at hf
  refine lv_iload_n hx hb dX8_isSeed_0 rfl (lv_at hl 0 rfl) ?_
  refine lv_if_lt (tgt := 15) hx hb dX8_isSeed_1 (by decide) (fun c_1 => ?_) (fun c_1 => ?_)
  · have hf := sn_if c_1 hf
    refine lv_iconst (v := 0) hx hb dX8_isSeed_15 rfl ?_
    obtain ⟨g_2, hf⟩ := sn_gdE hf
    cases hf
    exact kr _ _ _ _ hw g_2 dX8_isSeed_16
  · have hf := sn_el c_1 hf
    refine lv_iload_n hx hb dX8_isSeed_4 rfl (lv_at hl 0 rfl) ?_
    refine lv_ldcw hx hb C.2.2.2.1 (C.2.2.2.2.1 _ kk_RX8_376) dX8_isSeed_5 ?_
    refine lv_icmp_gt (tgt := 15) hx hb dX8_isSeed_8 (by decide) (fun c_3 => ?_) (fun c_3 => ?_)
    · have hf := sn_if c_3 hf
      refine lv_iconst (v := 0) hx hb dX8_isSeed_15 rfl ?_
      obtain ⟨g_4, hf⟩ := sn_gdE hf
      cases hf
      exact kr _ _ _ _ hw g_4 dX8_isSeed_16
    · have hf := sn_el c_3 hf
      refine lv_iconst (v := 1) hx hb dX8_isSeed_11 rfl ?_
      refine lv_goto (tgt := 16) hx hb dX8_isSeed_12 (by decide) ?_
      obtain ⟨g_5, hf⟩ := sn_gdE hf
      cases hf
      exact kr _ _ _ _ hw g_5 dX8_isSeed_16
theorem ctX8_isSeed (l : Launch) {σ : sn_S} {x0 : Int32}  {o : Int32} (hf : fX8_isSeed x0 = some o) : sn_M l yX8_isSeed cX8_isSeed 1 (some .boolean) rmX8_isSeed layC (fun ad => [.int x0]) σ (some (fun _ => .int o)) σ :=
  sn_met (by decide) (fun _ => Nat.le_of_ble_eq_true rfl) (fun p e s m args below meth c ls D ct ad A C hw hl => wX8_isSeed_in C  hf (fun H locs ls pc hw ok hd => sn_zret C hw ok hd) _ _ _ hw hl)
-- X8_liveDrawn
abbrev rmX8_liveDrawn : Room := { frames := 5, cells := 0, slots := 0, locals := 113 }
def BX8_liveDrawn_95 (σ : sn_S) (x2 : Int32) : Option ((Int32 × sn_S)) :=
  ((fX0_liveWhole σ 38).bind fun t_1 => (some (x2, t_1)))
def BX8_liveDrawn_89 (σ : sn_S) (x2 : Int32) (x3 : Int64) (x5 : Int32) : Option ((sn_S × Int32 × Int64 × Int32) ⊕ (sn_S × Int32)) :=
  (sn_lt (x5 + 1) fun y_1 => (some (.inl (σ, x2, x3, y_1))))
def BX8_liveDrawn_19 (σ : sn_S) (x2 : Int32) (x3 : Int64) (x5 : Int32) : Option ((sn_S × Int32 × Int64 × Int32) ⊕ (sn_S × Int32)) :=
  (if (sn_I σ 27 0) ≤ x5 then
  (some (.inr (σ, x2)))
  else
  (sn_lt ((((1103515245 : Int64) * x3) + (12345 : Int64)) - (((1103515245 : Int64) * x3) + (12345 : Int64)) / (2147483648 : Int64) * (2147483648 : Int64)) fun y_2 => (sn_gd (sn_in (4 : Int32) 11) (if 0 ≤ (lg_cmp ((y_2 / (65536 : Int64)) - (y_2 / (65536 : Int64)) / (10 : Int64) * (10 : Int64)) ((sn_I σ (1 + 1) (4 : Int32).toNatClampNeg).toInt64)) then
  (BX8_liveDrawn_89 σ x2 y_2 x5)
  else
  (sn_lt (x2 ||| ((1 : Int32) <<< (x5 &&& 31))) fun y_6 => (sn_gd (sn_in x5 30) (sn_gd (sn_in x5 30) (sn_lt (sn_pI σ (38 + 1) x5.toNatClampNeg ((sn_I σ (38 + 1) x5.toNatClampNeg) + (3 : Int32))) fun σ_10 => (BX8_liveDrawn_89 σ_10 y_6 y_2 x5)))))))))
def LX8_liveDrawn_19  (s : sn_S × Int32 × Int64 × Int32) : Option ((sn_S × Int32 × Int64 × Int32) ⊕ (sn_S × Int32)) := BX8_liveDrawn_19 s.1 s.2.1 s.2.2.1 s.2.2.2
def fX8_liveDrawn (σ : sn_S) (x1 : Int32) : Option (Int32 × sn_S) :=
  ((fX0_copyFrom σ 38 27).bind fun t_1 => ((sn_it (LX8_liveDrawn_19 ) 5000 (t_1, (0 : Int32), x1.toInt64, (0 : Int32))).bind fun t_3 => (BX8_liveDrawn_95 t_3.1 t_3.2)))
theorem wX8_liveDrawn_95 (C : sn_C p s m args meth c RX8 cX8_liveDrawn 6 (some .int) D ct ad layC A) {σ : sn_S} {x2 : Int32}  {o : (Int32 × sn_S)} (hf : BX8_liveDrawn_95 σ x2 = some o) (kr : sn_Kr p l e rmX8_liveDrawn s m args below meth c Q D ct ad layC A cX8_liveDrawn .ireturn (true) o.2 [.int o.1]) : sn_At p l e rmX8_liveDrawn s m args below meth c Q D ct ad layC A 6 σ 95 [(0, .ref (ad 0)), (2, .int x2)] [] := by
  intro H locs ls hw hl
  have hx := C.1
  have hb := C.2.1
  unfold BX8_liveDrawn_95 at hf
  refine lv_aload_n hx hb dX8_liveDrawn_95 rfl (lv_at hl 0 rfl) ?_
  refine sn_getC (r := 38) C hw fd_RX8_48 layC_0 rfl dX8_liveDrawn_96 ?_
  obtain ⟨t_1, h_2, hf⟩ := sn_bd hf
  refine sn_callVv (rest := []) C hw (ctX0_liveWhole l sn_isX0_38 h_2) kl_RX8_189 (sn_look sn_isX0_38 (k := 0) rfl) rfl rfl rfl rfl (Nat.le_of_ble_eq_true rfl) dX8_liveDrawn_99 hl.1 (fun H locs hw => ?_)
  refine lv_iload_n hx hb dX8_liveDrawn_102 rfl (lv_at hl 1 rfl) ?_
  cases hf
  exact kr _ _ _ _ hw rfl dX8_liveDrawn_103
theorem wX8_liveDrawn_89 (C : sn_C p s m args meth c RX8 cX8_liveDrawn 6 (some .int) D ct ad layC A) {σ : sn_S} {x2 : Int32} {x3 : Int64} {x5 : Int32}  {o : (sn_S × Int32 × Int64 × Int32) ⊕ (sn_S × Int32)} (hf : BX8_liveDrawn_89 σ x2 x3 x5 = some o) (kc : ∀ v, o = .inl v → sn_At p l e rmX8_liveDrawn s m args below meth c Q D ct ad layC A 6 v.1 19 [(0, .ref (ad 0)), (2, .int v.2.1), (3, .long v.2.2.1), (5, .int v.2.2.2)] []) (kx : ∀ v, o = .inr v → sn_At p l e rmX8_liveDrawn s m args below meth c Q D ct ad layC A 6 v.1 95 [(0, .ref (ad 0)), (2, .int v.2)] []) : sn_At p l e rmX8_liveDrawn s m args below meth c Q D ct ad layC A 6 σ 89 [(0, .ref (ad 0)), (2, .int x2), (3, .long x3), (5, .int x5)] [] := by
  intro H locs ls hw hl
  have hx := C.1
  have hb := C.2.1
  unfold BX8_liveDrawn_89 at hf
  obtain ⟨y_1, e_2, hf⟩ := sn_ltE hf
  refine lv_iinc (v := y_1) (lv' := [(5, .int y_1), (0, .ref (ad 0)), (2, .int x2), (3, .long x3)]) hx hb dX8_liveDrawn_89 hl (k := 3) rfl (by rw [e_2]; rfl) (by decide) rfl (fun ls hl => ?_)
  refine lv_goto (tgt := 19) hx hb dX8_liveDrawn_92 (by decide) ?_
  cases hf
  exact kc _ rfl _ _ _ hw (lv_sub hl [1, 2, 3, 0] rfl)
theorem wX8_liveDrawn_19 (C : sn_C p s m args meth c RX8 cX8_liveDrawn 6 (some .int) D ct ad layC A) {σ : sn_S} {x2 : Int32} {x3 : Int64} {x5 : Int32}  {o : (sn_S × Int32 × Int64 × Int32) ⊕ (sn_S × Int32)} (hf : BX8_liveDrawn_19 σ x2 x3 x5 = some o) (kc : ∀ v, o = .inl v → sn_At p l e rmX8_liveDrawn s m args below meth c Q D ct ad layC A 6 v.1 19 [(0, .ref (ad 0)), (2, .int v.2.1), (3, .long v.2.2.1), (5, .int v.2.2.2)] []) (kx : ∀ v, o = .inr v → sn_At p l e rmX8_liveDrawn s m args below meth c Q D ct ad layC A 6 v.1 95 [(0, .ref (ad 0)), (2, .int v.2)] []) : sn_At p l e rmX8_liveDrawn s m args below meth c Q D ct ad layC A 6 σ 19 [(0, .ref (ad 0)), (2, .int x2), (3, .long x3), (5, .int x5)] [] := by
  intro H locs ls hw hl
  have hx := C.1
  have hb := C.2.1
  unfold BX8_liveDrawn_19 at hf
  refine lv_iload hx hb dX8_liveDrawn_19 (lv_at hl 3 rfl) ?_
  refine lv_aload_n hx hb dX8_liveDrawn_21 rfl (lv_at hl 0 rfl) ?_
  refine sn_getC (r := 27) C hw fd_RX8_44 layC_0 rfl dX8_liveDrawn_22 ?_
  refine sn_getI C hw fd_RX8_151 (sn_look sn_isX0_27 (k := 0) rfl) rfl dX8_liveDrawn_25 ?_
  refine lv_icmp_ge (tgt := 95) hx hb dX8_liveDrawn_28 (by decide) (fun c_1 => ?_) (fun c_1 => ?_)
  · have hf := sn_if c_1 hf
    cases hf
    exact kx _ rfl _ _ _ hw (lv_sub hl [0, 1] rfl)
  · have hf := sn_el c_1 hf
    refine lv_ldc2 hx hb C.2.2.2.1 (C.2.2.2.2.1 _ kk_RX8_335) dX8_liveDrawn_31 ?_
    refine lv_lload_n hx hb dX8_liveDrawn_34 rfl (lv_at hl 2 rfl) ?_
    refine lv_lmul hx hb dX8_liveDrawn_35 ?_
    refine lv_ldc2 hx hb C.2.2.2.1 (C.2.2.2.2.1 _ kk_RX8_337) dX8_liveDrawn_36 ?_
    refine lv_ladd hx hb dX8_liveDrawn_39 ?_
    refine lv_ldc2 hx hb C.2.2.2.1 (C.2.2.2.2.1 _ kk_RX8_339) dX8_liveDrawn_40 ?_
    refine lv_lrem hx hb dX8_liveDrawn_43 (by decide) ?_
    obtain ⟨y_2, e_3, hf⟩ := sn_ltE hf
    refine lv_topl (fun y_2_ e_3_ => ?_)
    obtain rfl : y_2 = y_2_ := e_3.trans e_3_.symm
    refine lv_lstore_n (lv' := [(3, .long y_2), (0, .ref (ad 0)), (2, .int x2), (5, .int x5)]) hx hb dX8_liveDrawn_44 rfl hl (by decide) rfl (fun ls hl => ?_)
    refine lv_lload_n hx hb dX8_liveDrawn_45 rfl (lv_at hl 0 rfl) ?_
    refine lv_ldc2 hx hb C.2.2.2.1 (C.2.2.2.2.1 _ kk_RX8_341) dX8_liveDrawn_46 ?_
    refine lv_ldiv hx hb dX8_liveDrawn_49 (by decide) ?_
    refine lv_ldc2 hx hb C.2.2.2.1 (C.2.2.2.2.1 _ kk_RX8_343) dX8_liveDrawn_50 ?_
    refine lv_lrem hx hb dX8_liveDrawn_53 (by decide) ?_
    refine lv_aload_n hx hb dX8_liveDrawn_54 rfl (lv_at hl 1 rfl) ?_
    refine sn_getC (r := 1) C hw fd_RX8_10 layC_0 rfl dX8_liveDrawn_55 ?_
    refine sn_getC (r := (1 + 1)) C hw fd_RX8_100 (sn_look sn_isX2_1 (k := 0) rfl) rfl dX8_liveDrawn_58 ?_
    refine lv_iconst (v := 4) hx hb dX8_liveDrawn_61 rfl ?_
    obtain ⟨g_4, hf⟩ := sn_gdE hf
    refine sn_iald C hw (sn_look sn_isX2_1 (k := 1) rfl) g_4 dX8_liveDrawn_62 ?_
    refine lv_i2l hx hb dX8_liveDrawn_63 rfl ?_
    refine W.lcmp hx hb dX8_liveDrawn_64 ?_
    refine lv_if_ge (tgt := 89) hx hb dX8_liveDrawn_65 (by decide) (fun c_5 => ?_) (fun c_5 => ?_)
    · have hf := sn_if c_5 hf
      exact wX8_liveDrawn_89 C  hf kc kx _ _ _ hw (lv_sub hl [1, 2, 0, 3] rfl)
    · have hf := sn_el c_5 hf
      refine lv_iload_n hx hb dX8_liveDrawn_68 rfl (lv_at hl 2 rfl) ?_
      refine lv_iconst (v := 1) hx hb dX8_liveDrawn_69 rfl ?_
      refine lv_iload hx hb dX8_liveDrawn_70 (lv_at hl 3 rfl) ?_
      refine lv_ishl hx hb dX8_liveDrawn_72 ?_
      refine lv_ior hx hb dX8_liveDrawn_73 ?_
      obtain ⟨y_6, e_7, hf⟩ := sn_ltE hf
      refine lv_topi (fun y_6_ e_7_ => ?_)
      obtain rfl : y_6 = y_6_ := e_7.trans e_7_.symm
      refine lv_istore_n (lv' := [(2, .int y_6), (3, .long y_2), (0, .ref (ad 0)), (5, .int x5)]) hx hb dX8_liveDrawn_74 rfl hl (by decide) rfl (fun ls hl => ?_)
      refine lv_aload_n hx hb dX8_liveDrawn_75 rfl (lv_at hl 2 rfl) ?_
      refine sn_getC (r := 38) C hw fd_RX8_48 layC_0 rfl dX8_liveDrawn_76 ?_
      refine sn_getC (r := (38 + 1)) C hw fd_RX8_128 (sn_look sn_isX0_38 (k := 0) rfl) rfl dX8_liveDrawn_79 ?_
      refine lv_iload hx hb dX8_liveDrawn_82 (lv_at hl 3 rfl) ?_
      refine lv_dup2_11 hx hb dX8_liveDrawn_84 rfl rfl ?_
      obtain ⟨g_8, hf⟩ := sn_gdE hf
      refine sn_iald C hw (sn_look sn_isX0_38 (k := 1) rfl) g_8 dX8_liveDrawn_85 ?_
      refine lv_iconst (v := 3) hx hb dX8_liveDrawn_86 rfl ?_
      refine lv_iadd hx hb dX8_liveDrawn_87 ?_
      obtain ⟨g_9, hf⟩ := sn_gdE hf
      refine sn_iast C hw (sn_look sn_isX0_38 (k := 1) rfl) g_9 dX8_liveDrawn_88 (fun H locs hw => ?_)
      obtain ⟨σ_10, e_11, hf⟩ := sn_ltE hf
      rw [← e_11] at hw
      exact wX8_liveDrawn_89 C  hf kc kx _ _ _ hw (lv_sub hl [2, 0, 1, 3] rfl)
theorem wX8_liveDrawn_L19 (C : sn_C p s m args meth c RX8 cX8_liveDrawn 6 (some .int) D ct ad layC A)    {z : sn_S × Int32 × Int64 × Int32} {t : sn_S × Int32} (h : sn_it (LX8_liveDrawn_19 ) 5000 z = some t) (kx : ∀ v, t = v → sn_At p l e rmX8_liveDrawn s m args below meth c Q D ct ad layC A 6 v.1 95 [(0, .ref (ad 0)), (2, .int v.2)] []) : sn_At p l e rmX8_liveDrawn s m args below meth c Q D ct ad layC A 6 z.1 19 [(0, .ref (ad 0)), (2, .int z.2.1), (3, .long z.2.2.1), (5, .int z.2.2.2)] [] :=
  sn_loop (f := LX8_liveDrawn_19 ) (G := fun z => sn_At p l e rmX8_liveDrawn s m args below meth c Q D ct ad layC A 6 z.1 19 [(0, .ref (ad 0)), (2, .int z.2.1), (3, .long z.2.2.1), (5, .int z.2.2.2)] []) (E := fun t => (∀ v, t = v → sn_At p l e rmX8_liveDrawn s m args below meth c Q D ct ad layC A 6 v.1 95 [(0, .ref (ad 0)), (2, .int v.2)] []) ∧ True) (fun z o hf k1 k2 => wX8_liveDrawn_19 C  hf (fun v e => k1 v e) (fun v e => (k2 _ e).1 v rfl)) 5000 z t h ⟨kx, trivial⟩
theorem wX8_liveDrawn_in (C : sn_C p s m args meth c RX8 cX8_liveDrawn 6 (some .int) D ct ad layC A) {σ : sn_S} {x1 : Int32}  {o : (Int32 × sn_S)} (hf : fX8_liveDrawn σ x1 = some o) (kr : sn_Kr p l e rmX8_liveDrawn s m args below meth c Q D ct ad layC A cX8_liveDrawn .ireturn (true) o.2 [.int o.1]) : sn_At p l e rmX8_liveDrawn s m args below meth c Q D ct ad layC A 6 σ 0 [(0, .ref (ad 0)), (1, .int x1)] [] := by
  intro H locs ls hw hl
  have hx := C.1
  have hb := C.2.1
  unfold fX8_liveDrawn at hf
  refine lv_aload_n hx hb dX8_liveDrawn_0 rfl (lv_at hl 0 rfl) ?_
  refine sn_getC (r := 38) C hw fd_RX8_48 layC_0 rfl dX8_liveDrawn_1 ?_
  refine lv_aload_n hx hb dX8_liveDrawn_4 rfl (lv_at hl 0 rfl) ?_
  refine sn_getC (r := 27) C hw fd_RX8_44 layC_0 rfl dX8_liveDrawn_5 ?_
  obtain ⟨t_1, h_2, hf⟩ := sn_bd hf
  refine sn_callVv (rest := []) C hw (ctX0_copyFrom l sn_isX0_38 sn_isX0_27 h_2) kl_RX8_183 (sn_look sn_isX0_38 (k := 0) rfl) rfl rfl rfl rfl (Nat.le_of_ble_eq_true rfl) dX8_liveDrawn_8 hl.1 (fun H locs hw => ?_)
  refine lv_iconst (v := 0) hx hb dX8_liveDrawn_11 rfl ?_
  refine lv_istore_n (lv' := [(2, .int (0 : Int32)), (0, .ref (ad 0)), (1, .int x1)]) hx hb dX8_liveDrawn_12 rfl hl (by decide) rfl (fun ls hl => ?_)
  refine lv_iload_n hx hb dX8_liveDrawn_13 rfl (lv_at hl 2 rfl) ?_
  refine lv_i2l hx hb dX8_liveDrawn_14 rfl ?_
  refine lv_lstore_n (lv' := [(3, .long x1.toInt64), (2, .int (0 : Int32)), (0, .ref (ad 0)), (1, .int x1)]) hx hb dX8_liveDrawn_15 rfl hl (by decide) rfl (fun ls hl => ?_)
  refine lv_iconst (v := 0) hx hb dX8_liveDrawn_16 rfl ?_
  refine lv_istore (lv' := [(5, .int (0 : Int32)), (3, .long x1.toInt64), (2, .int (0 : Int32)), (0, .ref (ad 0)), (1, .int x1)]) hx hb dX8_liveDrawn_17 hl (by decide) rfl (fun ls hl => ?_)
  obtain ⟨t_3, h_4, hf⟩ := sn_bd hf
  exact wX8_liveDrawn_L19 C  h_4 (fun v e => by cases e; exact wX8_liveDrawn_95 C  hf kr) _ _ _ hw (lv_sub hl [3, 2, 1, 0] rfl)
theorem ctX8_liveDrawn (l : Launch) {σ : sn_S} {x1 : Int32}  {o : (Int32 × sn_S)} (hf : fX8_liveDrawn σ x1 = some o) : sn_M l yX8_liveDrawn cX8_liveDrawn 6 (some .int) rmX8_liveDrawn layC (fun ad => [.ref (ad 0), .int x1]) σ (some (fun _ => .int o.1)) o.2 :=
  sn_met (by decide) (fun _ => Nat.le_of_ble_eq_true rfl) (fun p e s m args below meth c ls D ct ad A C hw hl => wX8_liveDrawn_in C  hf (fun H locs ls pc hw ok hd => sn_iret C hw hd) _ _ _ hw hl)
-- X8_drawn
abbrev rmX8_drawn : Room := { frames := 6, cells := 0, slots := 0, locals := 138 }
def fX8_drawn (σ : sn_S) (x1 : Int32) (x2 : Int32) : Option (Int32 × sn_S) :=
  ((fX8_isHouse σ).bind fun t_1 => (if t_1 = 0 then
  (some ((-2 : Int32), σ))
  else
  ((fX8_isSeed x1).bind fun t_4 => (if t_4 = 0 then
  (some ((-2 : Int32), σ))
  else
  (if x2 < 0 then
  (some ((-2 : Int32), σ))
  else
  (if x2 ≤ (2 : Int32) then
  ((fX8_liveDrawn σ x1).bind fun t_9 => (if x2 = 0 then
  (some (t_9.1, t_9.2))
  else
  (if x2 = (1 : Int32) then
  ((fX0_total t_9.2 38).bind fun t_18 => (some (t_18, t_9.2)))
  else
  (sn_gd (sn_in (2 : Int32) 11) ((fX3_reckon t_9.2 49 1 38 (sn_I t_9.2 (1 + 1) (2 : Int32).toNatClampNeg)).bind fun t_14 => ((fX3_firstBelow t_14 49 (sn_I t_14 38 0)).bind fun t_16 => (some (t_16, t_14))))))))
  else
  (some ((-2 : Int32), σ))))))))
theorem wX8_drawn_in (C : sn_C p s m args meth c RX8 cX8_drawn 4 (some .int) D ct ad layC A) {σ : sn_S} {x1 : Int32} {x2 : Int32}  {o : (Int32 × sn_S)} (hf : fX8_drawn σ x1 x2 = some o) (kr : sn_Kr p l e rmX8_drawn s m args below meth c Q D ct ad layC A cX8_drawn .ireturn (true) o.2 [.int o.1]) : sn_At p l e rmX8_drawn s m args below meth c Q D ct ad layC A 4 σ 0 [(0, .ref (ad 0)), (1, .int x1), (2, .int x2)] [] := by
  intro H locs ls hw hl
  have hx := C.1
  have hb := C.2.1
  unfold fX8_drawn at hf
  refine lv_aload_n hx hb dX8_drawn_0 rfl (lv_at hl 0 rfl) ?_
  obtain ⟨t_1, h_2, hf⟩ := sn_bd hf
  refine sn_callVi (rest := []) C hw (ctX8_isHouse l  h_2) kl_RX8_137 layC_0 rfl rfl rfl rfl (Nat.le_of_ble_eq_true rfl) dX8_drawn_1 hl.1 (fun H locs hw => ?_)
  refine lv_if_eq (tgt := 23) hx hb dX8_drawn_4 (by decide) (fun c_3 => ?_) (fun c_3 => ?_)
  · have hf := sn_if c_3 hf
    refine lv_bipush (v := (-2)) hx hb dX8_drawn_23 (by decide) ?_
    cases hf
    exact kr _ _ _ _ hw rfl dX8_drawn_25
  · have hf := sn_el c_3 hf
    refine lv_iload_n hx hb dX8_drawn_7 rfl (lv_at hl 1 rfl) ?_
    obtain ⟨t_4, h_5, hf⟩ := sn_bd hf
    refine sn_callSi (rest := []) C hw (ctX8_isSeed l  h_5) kl_RX8_329 rfl rfl rfl (Nat.le_of_ble_eq_true rfl) dX8_drawn_8 hl.1 (fun H locs hw => ?_)
    refine lv_if_eq (tgt := 23) hx hb dX8_drawn_11 (by decide) (fun c_6 => ?_) (fun c_6 => ?_)
    · have hf := sn_if c_6 hf
      refine lv_bipush (v := (-2)) hx hb dX8_drawn_23 (by decide) ?_
      cases hf
      exact kr _ _ _ _ hw rfl dX8_drawn_25
    · have hf := sn_el c_6 hf
      refine lv_iload_n hx hb dX8_drawn_14 rfl (lv_at hl 2 rfl) ?_
      refine lv_if_lt (tgt := 23) hx hb dX8_drawn_15 (by decide) (fun c_7 => ?_) (fun c_7 => ?_)
      · have hf := sn_if c_7 hf
        refine lv_bipush (v := (-2)) hx hb dX8_drawn_23 (by decide) ?_
        cases hf
        exact kr _ _ _ _ hw rfl dX8_drawn_25
      · have hf := sn_el c_7 hf
        refine lv_iload_n hx hb dX8_drawn_18 rfl (lv_at hl 2 rfl) ?_
        refine lv_iconst (v := 2) hx hb dX8_drawn_19 rfl ?_
        refine lv_icmp_le (tgt := 26) hx hb dX8_drawn_20 (by decide) (fun c_8 => ?_) (fun c_8 => ?_)
        · have hf := sn_if c_8 hf
          refine lv_aload_n hx hb dX8_drawn_26 rfl (lv_at hl 0 rfl) ?_
          refine lv_iload_n hx hb dX8_drawn_27 rfl (lv_at hl 1 rfl) ?_
          obtain ⟨t_9, h_10, hf⟩ := sn_bd hf
          refine sn_callVi (rest := []) C hw (ctX8_liveDrawn l  h_10) kl_RX8_332 layC_0 rfl rfl rfl rfl (Nat.le_of_ble_eq_true rfl) dX8_drawn_28 hl.1 (fun H locs hw => ?_)
          refine lv_istore_n (lv' := [(3, .int t_9.1), (0, .ref (ad 0)), (1, .int x1), (2, .int x2)]) hx hb dX8_drawn_31 rfl hl (by decide) rfl (fun ls hl => ?_)
          refine lv_iload_n hx hb dX8_drawn_32 rfl (lv_at hl 3 rfl) ?_
          refine lv_if_ne (tgt := 38) hx hb dX8_drawn_33 (by decide) (fun c_11 => ?_) (fun c_11 => ?_)
          · have hf := sn_el c_11 hf
            refine lv_iload_n hx hb dX8_drawn_38 rfl (lv_at hl 3 rfl) ?_
            refine lv_iconst (v := 1) hx hb dX8_drawn_39 rfl ?_
            refine lv_icmp_ne (tgt := 51) hx hb dX8_drawn_40 (by decide) (fun c_12 => ?_) (fun c_12 => ?_)
            · have hf := sn_el c_12 hf
              refine lv_aload_n hx hb dX8_drawn_51 rfl (lv_at hl 1 rfl) ?_
              refine sn_getC (r := 49) C hw fd_RX8_54 layC_0 rfl dX8_drawn_52 ?_
              refine lv_aload_n hx hb dX8_drawn_55 rfl (lv_at hl 1 rfl) ?_
              refine sn_getC (r := 1) C hw fd_RX8_10 layC_0 rfl dX8_drawn_56 ?_
              refine lv_aload_n hx hb dX8_drawn_59 rfl (lv_at hl 1 rfl) ?_
              refine sn_getC (r := 38) C hw fd_RX8_48 layC_0 rfl dX8_drawn_60 ?_
              refine lv_aload_n hx hb dX8_drawn_63 rfl (lv_at hl 1 rfl) ?_
              refine sn_getC (r := 1) C hw fd_RX8_10 layC_0 rfl dX8_drawn_64 ?_
              refine sn_getC (r := (1 + 1)) C hw fd_RX8_100 (sn_look sn_isX2_1 (k := 0) rfl) rfl dX8_drawn_67 ?_
              refine lv_iconst (v := 2) hx hb dX8_drawn_70 rfl ?_
              obtain ⟨g_13, hf⟩ := sn_gdE hf
              refine sn_iald C hw (sn_look sn_isX2_1 (k := 1) rfl) g_13 dX8_drawn_71 ?_
              obtain ⟨t_14, h_15, hf⟩ := sn_bd hf
              refine sn_callVv (rest := []) C hw (ctX3_reckon l sn_isX3_49 sn_isX2_1 sn_isX0_38 h_15) kl_RX8_234 (sn_look sn_isX3_49 (k := 0) rfl) rfl rfl rfl rfl (Nat.le_of_ble_eq_true rfl) dX8_drawn_72 hl.1 (fun H locs hw => ?_)
              refine lv_aload_n hx hb dX8_drawn_75 rfl (lv_at hl 1 rfl) ?_
              refine sn_getC (r := 49) C hw fd_RX8_54 layC_0 rfl dX8_drawn_76 ?_
              refine lv_aload_n hx hb dX8_drawn_79 rfl (lv_at hl 1 rfl) ?_
              refine sn_getC (r := 38) C hw fd_RX8_48 layC_0 rfl dX8_drawn_80 ?_
              refine sn_getI C hw fd_RX8_151 (sn_look sn_isX0_38 (k := 0) rfl) rfl dX8_drawn_83 ?_
              obtain ⟨t_16, h_17, hf⟩ := sn_bd hf
              refine sn_callVi (rest := []) C hw (ctX3_firstBelow l sn_isX3_49 h_17) kl_RX8_228 (sn_look sn_isX3_49 (k := 0) rfl) rfl rfl rfl rfl (Nat.le_of_ble_eq_true rfl) dX8_drawn_86 hl.1 (fun H locs hw => ?_)
              cases hf
              exact kr _ _ _ _ hw rfl dX8_drawn_89
            · have hf := sn_if c_12 hf
              refine lv_aload_n hx hb dX8_drawn_43 rfl (lv_at hl 1 rfl) ?_
              refine sn_getC (r := 38) C hw fd_RX8_48 layC_0 rfl dX8_drawn_44 ?_
              obtain ⟨t_18, h_19, hf⟩ := sn_bd hf
              refine sn_callVi (rest := []) C hw (ctX0_total l sn_isX0_38 h_19) kl_RX8_141 (sn_look sn_isX0_38 (k := 0) rfl) rfl rfl rfl rfl (Nat.le_of_ble_eq_true rfl) dX8_drawn_47 hl.1 (fun H locs hw => ?_)
              cases hf
              exact kr _ _ _ _ hw rfl dX8_drawn_50
          · have hf := sn_if c_11 hf
            refine lv_iload_n hx hb dX8_drawn_36 rfl (lv_at hl 0 rfl) ?_
            cases hf
            exact kr _ _ _ _ hw rfl dX8_drawn_37
        · have hf := sn_el c_8 hf
          refine lv_bipush (v := (-2)) hx hb dX8_drawn_23 (by decide) ?_
          cases hf
          exact kr _ _ _ _ hw rfl dX8_drawn_25
theorem ctX8_drawn (l : Launch) {σ : sn_S} {x1 : Int32} {x2 : Int32}  {o : (Int32 × sn_S)} (hf : fX8_drawn σ x1 x2 = some o) : sn_M l yX8_drawn cX8_drawn 4 (some .int) rmX8_drawn layC (fun ad => [.ref (ad 0), .int x1, .int x2]) σ (some (fun _ => .int o.1)) o.2 :=
  sn_met (by decide) (fun _ => Nat.le_of_ble_eq_true rfl) (fun p e s m args below meth c ls D ct ad A C hw hl => wX8_drawn_in C  hf (fun H locs ls pc hw ok hd => sn_iret C hw hd) _ _ _ hw hl)
-- X8_luck
abbrev rmX8_luck : Room := { frames := 6, cells := 0, slots := 0, locals := 138 }
def BX8_luck_95 (σ : sn_S) (x4 : Int32) : Option ((Int32 × sn_S)) :=
  (some (x4, σ))
def BX8_luck_89 (σ : sn_S) (x1 : Int32) (x2 : Int32) (x3 : Int32) (x4 : Int32) (x5 : Int32) : Option ((sn_S × Int32 × Int32) ⊕ (sn_S × Int32)) :=
  (sn_lt (x5 + 1) fun y_1 => (some (.inl (σ, x4, y_1))))
def BX8_luck_35 (σ : sn_S) (x1 : Int32) (x2 : Int32) (x3 : Int32) (x4 : Int32) (x5 : Int32) : Option ((sn_S × Int32 × Int32) ⊕ (sn_S × Int32)) :=
  (if x2 ≤ x5 then
  (some (.inr (σ, x4)))
  else
  ((fX8_liveDrawn σ (x1 + x5)).bind fun t_2 => (sn_gd (sn_in (2 : Int32) 11) ((fX3_reckon t_2.2 49 1 38 (sn_I t_2.2 (1 + 1) (2 : Int32).toNatClampNeg)).bind fun t_5 => (sn_gd (sn_in x3 6) (if (sn_I t_5 (49 + 1) x3.toNatClampNeg) ≤ 0 then
  (BX8_luck_89 t_5 x1 x2 x3 x4 x5)
  else
  (sn_lt (x4 + 1) fun y_9 => (BX8_luck_89 t_5 x1 x2 x3 y_9 x5))))))))
def LX8_luck_35 (x1 : Int32) (x2 : Int32) (x3 : Int32) (s : sn_S × Int32 × Int32) : Option ((sn_S × Int32 × Int32) ⊕ (sn_S × Int32)) := BX8_luck_35 s.1 x1 x2 x3 s.2.1 s.2.2
def fX8_luck (σ : sn_S) (x1 : Int32) (x2 : Int32) (x3 : Int32) : Option (Int32 × sn_S) :=
  ((fX8_isPolicy σ x3).bind fun t_1 => (if t_1 = 0 then
  (some ((-2 : Int32), σ))
  else
  ((fX8_isSeed x1).bind fun t_4 => (if t_4 = 0 then
  (some ((-2 : Int32), σ))
  else
  (if x2 < (1 : Int32) then
  (some ((-2 : Int32), σ))
  else
  (if x2 ≤ (20 : Int32) then
  ((sn_it (LX8_luck_35 x1 x2 x3) 5000 (σ, (0 : Int32), (0 : Int32))).bind fun t_9 => (BX8_luck_95 t_9.1 t_9.2))
  else
  (some ((-2 : Int32), σ))))))))
theorem wX8_luck_95 (C : sn_C p s m args meth c RX8 cX8_luck 6 (some .int) D ct ad layC A) {σ : sn_S} {x4 : Int32}  {o : (Int32 × sn_S)} (hf : BX8_luck_95 σ x4 = some o) (kr : sn_Kr p l e rmX8_luck s m args below meth c Q D ct ad layC A cX8_luck .ireturn (true) o.2 [.int o.1]) : sn_At p l e rmX8_luck s m args below meth c Q D ct ad layC A 6 σ 95 [(4, .int x4)] [] := by
  intro H locs ls hw hl
  have hx := C.1
  have hb := C.2.1
  unfold BX8_luck_95 at hf
  refine lv_iload hx hb dX8_luck_95 (lv_at hl 0 rfl) ?_
  cases hf
  exact kr _ _ _ _ hw rfl dX8_luck_97
theorem wX8_luck_89 (C : sn_C p s m args meth c RX8 cX8_luck 6 (some .int) D ct ad layC A) {σ : sn_S} {x1 : Int32} {x2 : Int32} {x3 : Int32} {x4 : Int32} {x5 : Int32}  {o : (sn_S × Int32 × Int32) ⊕ (sn_S × Int32)} (hf : BX8_luck_89 σ x1 x2 x3 x4 x5 = some o) (kc : ∀ v, o = .inl v → sn_At p l e rmX8_luck s m args below meth c Q D ct ad layC A 6 v.1 35 [(0, .ref (ad 0)), (1, .int x1), (2, .int x2), (3, .int x3), (4, .int v.2.1), (5, .int v.2.2)] []) (kx : ∀ v, o = .inr v → sn_At p l e rmX8_luck s m args below meth c Q D ct ad layC A 6 v.1 95 [(4, .int v.2)] []) : sn_At p l e rmX8_luck s m args below meth c Q D ct ad layC A 6 σ 89 [(0, .ref (ad 0)), (1, .int x1), (2, .int x2), (3, .int x3), (4, .int x4), (5, .int x5)] [] := by
  intro H locs ls hw hl
  have hx := C.1
  have hb := C.2.1
  unfold BX8_luck_89 at hf
  obtain ⟨y_1, e_2, hf⟩ := sn_ltE hf
  refine lv_iinc (v := y_1) (lv' := [(5, .int y_1), (0, .ref (ad 0)), (1, .int x1), (2, .int x2), (3, .int x3), (4, .int x4)]) hx hb dX8_luck_89 hl (k := 5) rfl (by rw [e_2]; rfl) (by decide) rfl (fun ls hl => ?_)
  refine lv_goto (tgt := 35) hx hb dX8_luck_92 (by decide) ?_
  cases hf
  exact kc _ rfl _ _ _ hw (lv_sub hl [1, 2, 3, 4, 5, 0] rfl)
theorem wX8_luck_35 (C : sn_C p s m args meth c RX8 cX8_luck 6 (some .int) D ct ad layC A) {σ : sn_S} {x1 : Int32} {x2 : Int32} {x3 : Int32} {x4 : Int32} {x5 : Int32}  {o : (sn_S × Int32 × Int32) ⊕ (sn_S × Int32)} (hf : BX8_luck_35 σ x1 x2 x3 x4 x5 = some o) (kc : ∀ v, o = .inl v → sn_At p l e rmX8_luck s m args below meth c Q D ct ad layC A 6 v.1 35 [(0, .ref (ad 0)), (1, .int x1), (2, .int x2), (3, .int x3), (4, .int v.2.1), (5, .int v.2.2)] []) (kx : ∀ v, o = .inr v → sn_At p l e rmX8_luck s m args below meth c Q D ct ad layC A 6 v.1 95 [(4, .int v.2)] []) : sn_At p l e rmX8_luck s m args below meth c Q D ct ad layC A 6 σ 35 [(0, .ref (ad 0)), (1, .int x1), (2, .int x2), (3, .int x3), (4, .int x4), (5, .int x5)] [] := by
  intro H locs ls hw hl
  have hx := C.1
  have hb := C.2.1
  unfold BX8_luck_35 at hf
  refine lv_iload hx hb dX8_luck_35 (lv_at hl 5 rfl) ?_
  refine lv_iload_n hx hb dX8_luck_37 rfl (lv_at hl 2 rfl) ?_
  refine lv_icmp_ge (tgt := 95) hx hb dX8_luck_38 (by decide) (fun c_1 => ?_) (fun c_1 => ?_)
  · have hf := sn_if c_1 hf
    cases hf
    exact kx _ rfl _ _ _ hw (lv_sub hl [4] rfl)
  · have hf := sn_el c_1 hf
    refine lv_aload_n hx hb dX8_luck_41 rfl (lv_at hl 0 rfl) ?_
    refine lv_iload_n hx hb dX8_luck_42 rfl (lv_at hl 1 rfl) ?_
    refine lv_iload hx hb dX8_luck_43 (lv_at hl 5 rfl) ?_
    refine lv_iadd hx hb dX8_luck_45 ?_
    obtain ⟨t_2, h_3, hf⟩ := sn_bd hf
    refine sn_callVi (rest := []) C hw (ctX8_liveDrawn l  h_3) kl_RX8_332 layC_0 rfl rfl rfl rfl (Nat.le_of_ble_eq_true rfl) dX8_luck_46 hl.1 (fun H locs hw => ?_)
    refine lv_pop hx hb dX8_luck_49 rfl ?_
    refine lv_aload_n hx hb dX8_luck_50 rfl (lv_at hl 0 rfl) ?_
    refine sn_getC (r := 49) C hw fd_RX8_54 layC_0 rfl dX8_luck_51 ?_
    refine lv_aload_n hx hb dX8_luck_54 rfl (lv_at hl 0 rfl) ?_
    refine sn_getC (r := 1) C hw fd_RX8_10 layC_0 rfl dX8_luck_55 ?_
    refine lv_aload_n hx hb dX8_luck_58 rfl (lv_at hl 0 rfl) ?_
    refine sn_getC (r := 38) C hw fd_RX8_48 layC_0 rfl dX8_luck_59 ?_
    refine lv_aload_n hx hb dX8_luck_62 rfl (lv_at hl 0 rfl) ?_
    refine sn_getC (r := 1) C hw fd_RX8_10 layC_0 rfl dX8_luck_63 ?_
    refine sn_getC (r := (1 + 1)) C hw fd_RX8_100 (sn_look sn_isX2_1 (k := 0) rfl) rfl dX8_luck_66 ?_
    refine lv_iconst (v := 2) hx hb dX8_luck_69 rfl ?_
    obtain ⟨g_4, hf⟩ := sn_gdE hf
    refine sn_iald C hw (sn_look sn_isX2_1 (k := 1) rfl) g_4 dX8_luck_70 ?_
    obtain ⟨t_5, h_6, hf⟩ := sn_bd hf
    refine sn_callVv (rest := []) C hw (ctX3_reckon l sn_isX3_49 sn_isX2_1 sn_isX0_38 h_6) kl_RX8_234 (sn_look sn_isX3_49 (k := 0) rfl) rfl rfl rfl rfl (Nat.le_of_ble_eq_true rfl) dX8_luck_71 hl.1 (fun H locs hw => ?_)
    refine lv_aload_n hx hb dX8_luck_74 rfl (lv_at hl 0 rfl) ?_
    refine sn_getC (r := 49) C hw fd_RX8_54 layC_0 rfl dX8_luck_75 ?_
    refine sn_getC (r := (49 + 1)) C hw fd_RX8_212 (sn_look sn_isX3_49 (k := 0) rfl) rfl dX8_luck_78 ?_
    refine lv_iload_n hx hb dX8_luck_81 rfl (lv_at hl 3 rfl) ?_
    obtain ⟨g_7, hf⟩ := sn_gdE hf
    refine sn_iald C hw (sn_look sn_isX3_49 (k := 1) rfl) g_7 dX8_luck_82 ?_
    refine lv_if_le (tgt := 89) hx hb dX8_luck_83 (by decide) (fun c_8 => ?_) (fun c_8 => ?_)
    · have hf := sn_if c_8 hf
      exact wX8_luck_89 C  hf kc kx _ _ _ hw (lv_sub hl [0, 1, 2, 3, 4, 5] rfl)
    · have hf := sn_el c_8 hf
      obtain ⟨y_9, e_10, hf⟩ := sn_ltE hf
      refine lv_iinc (v := y_9) (lv' := [(4, .int y_9), (0, .ref (ad 0)), (1, .int x1), (2, .int x2), (3, .int x3), (5, .int x5)]) hx hb dX8_luck_86 hl (k := 4) rfl (by rw [e_10]; rfl) (by decide) rfl (fun ls hl => ?_)
      exact wX8_luck_89 C  hf kc kx _ _ _ hw (lv_sub hl [1, 2, 3, 4, 0, 5] rfl)
theorem wX8_luck_L35 (C : sn_C p s m args meth c RX8 cX8_luck 6 (some .int) D ct ad layC A) {x1 : Int32} {x2 : Int32} {x3 : Int32}   {z : sn_S × Int32 × Int32} {t : sn_S × Int32} (h : sn_it (LX8_luck_35 x1 x2 x3) 5000 z = some t) (kx : ∀ v, t = v → sn_At p l e rmX8_luck s m args below meth c Q D ct ad layC A 6 v.1 95 [(4, .int v.2)] []) : sn_At p l e rmX8_luck s m args below meth c Q D ct ad layC A 6 z.1 35 [(0, .ref (ad 0)), (1, .int x1), (2, .int x2), (3, .int x3), (4, .int z.2.1), (5, .int z.2.2)] [] :=
  sn_loop (f := LX8_luck_35 x1 x2 x3) (G := fun z => sn_At p l e rmX8_luck s m args below meth c Q D ct ad layC A 6 z.1 35 [(0, .ref (ad 0)), (1, .int x1), (2, .int x2), (3, .int x3), (4, .int z.2.1), (5, .int z.2.2)] []) (E := fun t => (∀ v, t = v → sn_At p l e rmX8_luck s m args below meth c Q D ct ad layC A 6 v.1 95 [(4, .int v.2)] []) ∧ True) (fun z o hf k1 k2 => wX8_luck_35 C  hf (fun v e => k1 v e) (fun v e => (k2 _ e).1 v rfl)) 5000 z t h ⟨kx, trivial⟩
theorem wX8_luck_in (C : sn_C p s m args meth c RX8 cX8_luck 6 (some .int) D ct ad layC A) {σ : sn_S} {x1 : Int32} {x2 : Int32} {x3 : Int32}  {o : (Int32 × sn_S)} (hf : fX8_luck σ x1 x2 x3 = some o) (kr : sn_Kr p l e rmX8_luck s m args below meth c Q D ct ad layC A cX8_luck .ireturn (true) o.2 [.int o.1]) : sn_At p l e rmX8_luck s m args below meth c Q D ct ad layC A 6 σ 0 [(0, .ref (ad 0)), (1, .int x1), (2, .int x2), (3, .int x3)] [] := by
  intro H locs ls hw hl
  have hx := C.1
  have hb := C.2.1
  unfold fX8_luck at hf
  refine lv_aload_n hx hb dX8_luck_0 rfl (lv_at hl 0 rfl) ?_
  refine lv_iload_n hx hb dX8_luck_1 rfl (lv_at hl 3 rfl) ?_
  obtain ⟨t_1, h_2, hf⟩ := sn_bd hf
  refine sn_callVi (rest := []) C hw (ctX8_isPolicy l  h_2) kl_RX8_114 layC_0 rfl rfl rfl rfl (Nat.le_of_ble_eq_true rfl) dX8_luck_2 hl.1 (fun H locs hw => ?_)
  refine lv_if_eq (tgt := 26) hx hb dX8_luck_5 (by decide) (fun c_3 => ?_) (fun c_3 => ?_)
  · have hf := sn_if c_3 hf
    refine lv_bipush (v := (-2)) hx hb dX8_luck_26 (by decide) ?_
    cases hf
    exact kr _ _ _ _ hw rfl dX8_luck_28
  · have hf := sn_el c_3 hf
    refine lv_iload_n hx hb dX8_luck_8 rfl (lv_at hl 1 rfl) ?_
    obtain ⟨t_4, h_5, hf⟩ := sn_bd hf
    refine sn_callSi (rest := []) C hw (ctX8_isSeed l  h_5) kl_RX8_329 rfl rfl rfl (Nat.le_of_ble_eq_true rfl) dX8_luck_9 hl.1 (fun H locs hw => ?_)
    refine lv_if_eq (tgt := 26) hx hb dX8_luck_12 (by decide) (fun c_6 => ?_) (fun c_6 => ?_)
    · have hf := sn_if c_6 hf
      refine lv_bipush (v := (-2)) hx hb dX8_luck_26 (by decide) ?_
      cases hf
      exact kr _ _ _ _ hw rfl dX8_luck_28
    · have hf := sn_el c_6 hf
      refine lv_iload_n hx hb dX8_luck_15 rfl (lv_at hl 2 rfl) ?_
      refine lv_iconst (v := 1) hx hb dX8_luck_16 rfl ?_
      refine lv_icmp_lt (tgt := 26) hx hb dX8_luck_17 (by decide) (fun c_7 => ?_) (fun c_7 => ?_)
      · have hf := sn_if c_7 hf
        refine lv_bipush (v := (-2)) hx hb dX8_luck_26 (by decide) ?_
        cases hf
        exact kr _ _ _ _ hw rfl dX8_luck_28
      · have hf := sn_el c_7 hf
        refine lv_iload_n hx hb dX8_luck_20 rfl (lv_at hl 2 rfl) ?_
        refine lv_bipush (v := 20) hx hb dX8_luck_21 (by decide) ?_
        refine lv_icmp_le (tgt := 29) hx hb dX8_luck_23 (by decide) (fun c_8 => ?_) (fun c_8 => ?_)
        · have hf := sn_if c_8 hf
          refine lv_iconst (v := 0) hx hb dX8_luck_29 rfl ?_
          refine lv_istore (lv' := [(4, .int (0 : Int32)), (0, .ref (ad 0)), (1, .int x1), (2, .int x2), (3, .int x3)]) hx hb dX8_luck_30 hl (by decide) rfl (fun ls hl => ?_)
          refine lv_iconst (v := 0) hx hb dX8_luck_32 rfl ?_
          refine lv_istore (lv' := [(5, .int (0 : Int32)), (4, .int (0 : Int32)), (0, .ref (ad 0)), (1, .int x1), (2, .int x2), (3, .int x3)]) hx hb dX8_luck_33 hl (by decide) rfl (fun ls hl => ?_)
          obtain ⟨t_9, h_10, hf⟩ := sn_bd hf
          exact wX8_luck_L35 C  h_10 (fun v e => by cases e; exact wX8_luck_95 C  hf kr) _ _ _ hw (lv_sub hl [2, 3, 4, 5, 1, 0] rfl)
        · have hf := sn_el c_8 hf
          refine lv_bipush (v := (-2)) hx hb dX8_luck_26 (by decide) ?_
          cases hf
          exact kr _ _ _ _ hw rfl dX8_luck_28
theorem ctX8_luck (l : Launch) {σ : sn_S} {x1 : Int32} {x2 : Int32} {x3 : Int32}  {o : (Int32 × sn_S)} (hf : fX8_luck σ x1 x2 x3 = some o) : sn_M l yX8_luck cX8_luck 6 (some .int) rmX8_luck layC (fun ad => [.ref (ad 0), .int x1, .int x2, .int x3]) σ (some (fun _ => .int o.1)) o.2 :=
  sn_met (by decide) (fun _ => Nat.le_of_ble_eq_true rfl) (fun p e s m args below meth c ls D ct ad A C hw hl => wX8_luck_in C  hf (fun H locs ls pc hw ok hd => sn_iret C hw hd) _ _ _ hw hl)
-- X8_stifle
abbrev rmX8_stifle : Room := { frames := 6, cells := 0, slots := 0, locals := 133 }
def fX8_stifle (σ : sn_S) (x1 : Int32) (x2 : Int32) : Option (Int32 × sn_S) :=
  ((fX8_isPerson σ x1).bind fun t_1 => (if t_1 = 0 then
  (some ((-2 : Int32), σ))
  else
  ((fX8_isMinute σ x2).bind fun t_4 => (if t_4 = 0 then
  (some ((-2 : Int32), σ))
  else
  ((fX2_act σ 1 (0 : Int32) x1 x2).bind fun t_7 => (if t_7.1 = 0 then
  (some ((-5 : Int32), t_7.2))
  else
  ((fX8_liveAnew t_7.2).bind fun t_10 => ((fX0_tickleAt t_10 27 x1 x2).bind fun t_12 => (some (t_12, t_10))))))))))
theorem wX8_stifle_in (C : sn_C p s m args meth c RX8 cX8_stifle 3 (some .int) D ct ad layC A) {σ : sn_S} {x1 : Int32} {x2 : Int32}  {o : (Int32 × sn_S)} (hf : fX8_stifle σ x1 x2 = some o) (kr : sn_Kr p l e rmX8_stifle s m args below meth c Q D ct ad layC A cX8_stifle .ireturn (true) o.2 [.int o.1]) : sn_At p l e rmX8_stifle s m args below meth c Q D ct ad layC A 3 σ 0 [(0, .ref (ad 0)), (1, .int x1), (2, .int x2)] [] := by
  intro H locs ls hw hl
  have hx := C.1
  have hb := C.2.1
  unfold fX8_stifle at hf
  refine lv_aload_n hx hb dX8_stifle_0 rfl (lv_at hl 0 rfl) ?_
  refine lv_iload_n hx hb dX8_stifle_1 rfl (lv_at hl 1 rfl) ?_
  obtain ⟨t_1, h_2, hf⟩ := sn_bd hf
  refine sn_callVi (rest := []) C hw (ctX8_isPerson l  h_2) kl_RX8_107 layC_0 rfl rfl rfl rfl (Nat.le_of_ble_eq_true rfl) dX8_stifle_2 hl.1 (fun H locs hw => ?_)
  refine lv_if_eq (tgt := 16) hx hb dX8_stifle_5 (by decide) (fun c_3 => ?_) (fun c_3 => ?_)
  · have hf := sn_if c_3 hf
    refine lv_bipush (v := (-2)) hx hb dX8_stifle_16 (by decide) ?_
    cases hf
    exact kr _ _ _ _ hw rfl dX8_stifle_18
  · have hf := sn_el c_3 hf
    refine lv_aload_n hx hb dX8_stifle_8 rfl (lv_at hl 0 rfl) ?_
    refine lv_iload_n hx hb dX8_stifle_9 rfl (lv_at hl 2 rfl) ?_
    obtain ⟨t_4, h_5, hf⟩ := sn_bd hf
    refine sn_callVi (rest := []) C hw (ctX8_isMinute l  h_5) kl_RX8_125 layC_0 rfl rfl rfl rfl (Nat.le_of_ble_eq_true rfl) dX8_stifle_10 hl.1 (fun H locs hw => ?_)
    refine lv_if_ne (tgt := 19) hx hb dX8_stifle_13 (by decide) (fun c_6 => ?_) (fun c_6 => ?_)
    · have hf := sn_el c_6 hf
      refine lv_aload_n hx hb dX8_stifle_19 rfl (lv_at hl 0 rfl) ?_
      refine sn_getC (r := 1) C hw fd_RX8_10 layC_0 rfl dX8_stifle_20 ?_
      refine lv_iconst (v := 0) hx hb dX8_stifle_23 rfl ?_
      refine lv_iload_n hx hb dX8_stifle_24 rfl (lv_at hl 1 rfl) ?_
      refine lv_iload_n hx hb dX8_stifle_25 rfl (lv_at hl 2 rfl) ?_
      obtain ⟨t_7, h_8, hf⟩ := sn_bd hf
      refine sn_callVi (rest := []) C hw (ctX2_act l sn_isX2_1 h_8) kl_RX8_345 (sn_look sn_isX2_1 (k := 0) rfl) rfl rfl rfl rfl (Nat.le_of_ble_eq_true rfl) dX8_stifle_26 hl.1 (fun H locs hw => ?_)
      refine lv_if_ne (tgt := 35) hx hb dX8_stifle_29 (by decide) (fun c_9 => ?_) (fun c_9 => ?_)
      · have hf := sn_el c_9 hf
        refine lv_aload_n hx hb dX8_stifle_35 rfl (lv_at hl 0 rfl) ?_
        obtain ⟨t_10, h_11, hf⟩ := sn_bd hf
        refine sn_callVv (rest := []) C hw (ctX8_liveAnew l  h_11) kl_RX8_97 layC_0 rfl rfl rfl rfl (Nat.le_of_ble_eq_true rfl) dX8_stifle_36 hl.1 (fun H locs hw => ?_)
        refine lv_aload_n hx hb dX8_stifle_39 rfl (lv_at hl 0 rfl) ?_
        refine sn_getC (r := 27) C hw fd_RX8_44 layC_0 rfl dX8_stifle_40 ?_
        refine lv_iload_n hx hb dX8_stifle_43 rfl (lv_at hl 1 rfl) ?_
        refine lv_iload_n hx hb dX8_stifle_44 rfl (lv_at hl 2 rfl) ?_
        obtain ⟨t_12, h_13, hf⟩ := sn_bd hf
        refine sn_callVi (rest := []) C hw (ctX0_tickleAt l sn_isX0_27 h_13) kl_RX8_148 (sn_look sn_isX0_27 (k := 0) rfl) rfl rfl rfl rfl (Nat.le_of_ble_eq_true rfl) dX8_stifle_45 hl.1 (fun H locs hw => ?_)
        cases hf
        exact kr _ _ _ _ hw rfl dX8_stifle_48
      · have hf := sn_if c_9 hf
        refine lv_bipush (v := (-5)) hx hb dX8_stifle_32 (by decide) ?_
        cases hf
        exact kr _ _ _ _ hw rfl dX8_stifle_34
    · have hf := sn_if c_6 hf
      refine lv_bipush (v := (-2)) hx hb dX8_stifle_16 (by decide) ?_
      cases hf
      exact kr _ _ _ _ hw rfl dX8_stifle_18
theorem ctX8_stifle (l : Launch) {σ : sn_S} {x1 : Int32} {x2 : Int32}  {o : (Int32 × sn_S)} (hf : fX8_stifle σ x1 x2 = some o) : sn_M l yX8_stifle cX8_stifle 3 (some .int) rmX8_stifle layC (fun ad => [.ref (ad 0), .int x1, .int x2]) σ (some (fun _ => .int o.1)) o.2 :=
  sn_met (by decide) (fun _ => Nat.le_of_ble_eq_true rfl) (fun p e s m args below meth c ls D ct ad A C hw hl => wX8_stifle_in C  hf (fun H locs ls pc hw ok hd => sn_iret C hw hd) _ _ _ hw hl)
-- X8_sniff
abbrev rmX8_sniff : Room := { frames := 6, cells := 0, slots := 0, locals := 133 }
def fX8_sniff (σ : sn_S) (x1 : Int32) (x2 : Int32) : Option (Int32 × sn_S) :=
  ((fX8_isPerson σ x1).bind fun t_1 => (if t_1 = 0 then
  (some ((-2 : Int32), σ))
  else
  ((fX8_isMinute σ x2).bind fun t_4 => (if t_4 = 0 then
  (some ((-2 : Int32), σ))
  else
  ((fX2_act σ 1 (1 : Int32) x1 x2).bind fun t_7 => (if t_7.1 = 0 then
  (some ((-5 : Int32), t_7.2))
  else
  ((fX8_liveAnew t_7.2).bind fun t_10 => (sn_gd (sn_in x1 6) ((fX8_hasBit (sn_I t_10 (27 + 10) x1.toNatClampNeg) x2).bind fun t_13 => (if t_13 = 0 then
  (some ((0 : Int32), t_10))
  else
  (some ((1 : Int32), t_10))))))))))))
theorem wX8_sniff_in (C : sn_C p s m args meth c RX8 cX8_sniff 3 (some .int) D ct ad layC A) {σ : sn_S} {x1 : Int32} {x2 : Int32}  {o : (Int32 × sn_S)} (hf : fX8_sniff σ x1 x2 = some o) (kr : sn_Kr p l e rmX8_sniff s m args below meth c Q D ct ad layC A cX8_sniff .ireturn (true) o.2 [.int o.1]) : sn_At p l e rmX8_sniff s m args below meth c Q D ct ad layC A 3 σ 0 [(0, .ref (ad 0)), (1, .int x1), (2, .int x2)] [] := by
  intro H locs ls hw hl
  have hx := C.1
  have hb := C.2.1
  unfold fX8_sniff at hf
  refine lv_aload_n hx hb dX8_sniff_0 rfl (lv_at hl 0 rfl) ?_
  refine lv_iload_n hx hb dX8_sniff_1 rfl (lv_at hl 1 rfl) ?_
  obtain ⟨t_1, h_2, hf⟩ := sn_bd hf
  refine sn_callVi (rest := []) C hw (ctX8_isPerson l  h_2) kl_RX8_107 layC_0 rfl rfl rfl rfl (Nat.le_of_ble_eq_true rfl) dX8_sniff_2 hl.1 (fun H locs hw => ?_)
  refine lv_if_eq (tgt := 16) hx hb dX8_sniff_5 (by decide) (fun c_3 => ?_) (fun c_3 => ?_)
  · have hf := sn_if c_3 hf
    refine lv_bipush (v := (-2)) hx hb dX8_sniff_16 (by decide) ?_
    cases hf
    exact kr _ _ _ _ hw rfl dX8_sniff_18
  · have hf := sn_el c_3 hf
    refine lv_aload_n hx hb dX8_sniff_8 rfl (lv_at hl 0 rfl) ?_
    refine lv_iload_n hx hb dX8_sniff_9 rfl (lv_at hl 2 rfl) ?_
    obtain ⟨t_4, h_5, hf⟩ := sn_bd hf
    refine sn_callVi (rest := []) C hw (ctX8_isMinute l  h_5) kl_RX8_125 layC_0 rfl rfl rfl rfl (Nat.le_of_ble_eq_true rfl) dX8_sniff_10 hl.1 (fun H locs hw => ?_)
    refine lv_if_ne (tgt := 19) hx hb dX8_sniff_13 (by decide) (fun c_6 => ?_) (fun c_6 => ?_)
    · have hf := sn_el c_6 hf
      refine lv_aload_n hx hb dX8_sniff_19 rfl (lv_at hl 0 rfl) ?_
      refine sn_getC (r := 1) C hw fd_RX8_10 layC_0 rfl dX8_sniff_20 ?_
      refine lv_iconst (v := 1) hx hb dX8_sniff_23 rfl ?_
      refine lv_iload_n hx hb dX8_sniff_24 rfl (lv_at hl 1 rfl) ?_
      refine lv_iload_n hx hb dX8_sniff_25 rfl (lv_at hl 2 rfl) ?_
      obtain ⟨t_7, h_8, hf⟩ := sn_bd hf
      refine sn_callVi (rest := []) C hw (ctX2_act l sn_isX2_1 h_8) kl_RX8_345 (sn_look sn_isX2_1 (k := 0) rfl) rfl rfl rfl rfl (Nat.le_of_ble_eq_true rfl) dX8_sniff_26 hl.1 (fun H locs hw => ?_)
      refine lv_if_ne (tgt := 35) hx hb dX8_sniff_29 (by decide) (fun c_9 => ?_) (fun c_9 => ?_)
      · have hf := sn_el c_9 hf
        refine lv_aload_n hx hb dX8_sniff_35 rfl (lv_at hl 0 rfl) ?_
        obtain ⟨t_10, h_11, hf⟩ := sn_bd hf
        refine sn_callVv (rest := []) C hw (ctX8_liveAnew l  h_11) kl_RX8_97 layC_0 rfl rfl rfl rfl (Nat.le_of_ble_eq_true rfl) dX8_sniff_36 hl.1 (fun H locs hw => ?_)
        refine lv_aload_n hx hb dX8_sniff_39 rfl (lv_at hl 0 rfl) ?_
        refine sn_getC (r := 27) C hw fd_RX8_44 layC_0 rfl dX8_sniff_40 ?_
        refine sn_getC (r := (27 + 10)) C hw fd_RX8_131 (sn_look sn_isX0_27 (k := 0) rfl) rfl dX8_sniff_43 ?_
        refine lv_iload_n hx hb dX8_sniff_46 rfl (lv_at hl 1 rfl) ?_
        obtain ⟨g_12, hf⟩ := sn_gdE hf
        refine sn_iald C hw (sn_look sn_isX0_27 (k := 10) rfl) g_12 dX8_sniff_47 ?_
        refine lv_iload_n hx hb dX8_sniff_48 rfl (lv_at hl 2 rfl) ?_
        obtain ⟨t_13, h_14, hf⟩ := sn_bd hf
        refine sn_callSi (rest := []) C hw (ctX8_hasBit l  h_14) kl_RX8_170 rfl rfl rfl (Nat.le_of_ble_eq_true rfl) dX8_sniff_49 hl.1 (fun H locs hw => ?_)
        refine lv_if_eq (tgt := 59) hx hb dX8_sniff_52 (by decide) (fun c_15 => ?_) (fun c_15 => ?_)
        · have hf := sn_if c_15 hf
          refine lv_iconst (v := 0) hx hb dX8_sniff_59 rfl ?_
          cases hf
          exact kr _ _ _ _ hw rfl dX8_sniff_60
        · have hf := sn_el c_15 hf
          refine lv_iconst (v := 1) hx hb dX8_sniff_55 rfl ?_
          refine lv_goto (tgt := 60) hx hb dX8_sniff_56 (by decide) ?_
          cases hf
          exact kr _ _ _ _ hw rfl dX8_sniff_60
      · have hf := sn_if c_9 hf
        refine lv_bipush (v := (-5)) hx hb dX8_sniff_32 (by decide) ?_
        cases hf
        exact kr _ _ _ _ hw rfl dX8_sniff_34
    · have hf := sn_if c_6 hf
      refine lv_bipush (v := (-2)) hx hb dX8_sniff_16 (by decide) ?_
      cases hf
      exact kr _ _ _ _ hw rfl dX8_sniff_18
theorem ctX8_sniff (l : Launch) {σ : sn_S} {x1 : Int32} {x2 : Int32}  {o : (Int32 × sn_S)} (hf : fX8_sniff σ x1 x2 = some o) : sn_M l yX8_sniff cX8_sniff 3 (some .int) rmX8_sniff layC (fun ad => [.ref (ad 0), .int x1, .int x2]) σ (some (fun _ => .int o.1)) o.2 :=
  sn_met (by decide) (fun _ => Nat.le_of_ble_eq_true rfl) (fun p e s m args below meth c ls D ct ad A C hw hl => wX8_sniff_in C  hf (fun H locs ls pc hw ok hd => sn_iret C hw hd) _ _ _ hw hl)
-- X8_undo
abbrev rmX8_undo : Room := { frames := 6, cells := 0, slots := 0, locals := 133 }
def fX8_undo (σ : sn_S) : Option (Int32 × sn_S) :=
  ((fX8_isHouse σ).bind fun t_1 => (if t_1 = 0 then
  (some ((-2 : Int32), σ))
  else
  (sn_gd (sn_in (9 : Int32) 11) (if (1 : Int32) ≤ (sn_I σ (1 + 1) (9 : Int32).toNatClampNeg) then
  (sn_gd (sn_in (9 : Int32) 11) (sn_gd (sn_in (9 : Int32) 11) (sn_lt (sn_pI σ (1 + 1) (9 : Int32).toNatClampNeg ((sn_I σ (1 + 1) (9 : Int32).toNatClampNeg) - (1 : Int32))) fun σ_8 => ((fX8_liveAnew σ_8).bind fun t_10 => (sn_gd (sn_in (9 : Int32) 11) (some ((sn_I t_10 (1 + 1) (9 : Int32).toNatClampNeg), t_10)))))))
  else
  (some ((-5 : Int32), σ))))))
theorem wX8_undo_in (C : sn_C p s m args meth c RX8 cX8_undo 1 (some .int) D ct ad layC A) {σ : sn_S}  {o : (Int32 × sn_S)} (hf : fX8_undo σ = some o) (kr : sn_Kr p l e rmX8_undo s m args below meth c Q D ct ad layC A cX8_undo .ireturn (true) o.2 [.int o.1]) : sn_At p l e rmX8_undo s m args below meth c Q D ct ad layC A 1 σ 0 [(0, .ref (ad 0))] [] := by
  intro H locs ls hw hl
  have hx := C.1
  have hb := C.2.1
  unfold fX8_undo at hf
  refine lv_aload_n hx hb dX8_undo_0 rfl (lv_at hl 0 rfl) ?_
  obtain ⟨t_1, h_2, hf⟩ := sn_bd hf
  refine sn_callVi (rest := []) C hw (ctX8_isHouse l  h_2) kl_RX8_137 layC_0 rfl rfl rfl rfl (Nat.le_of_ble_eq_true rfl) dX8_undo_1 hl.1 (fun H locs hw => ?_)
  refine lv_if_ne (tgt := 10) hx hb dX8_undo_4 (by decide) (fun c_3 => ?_) (fun c_3 => ?_)
  · have hf := sn_el c_3 hf
    refine lv_aload_n hx hb dX8_undo_10 rfl (lv_at hl 0 rfl) ?_
    refine sn_getC (r := 1) C hw fd_RX8_10 layC_0 rfl dX8_undo_11 ?_
    refine sn_getC (r := (1 + 1)) C hw fd_RX8_100 (sn_look sn_isX2_1 (k := 0) rfl) rfl dX8_undo_14 ?_
    refine lv_bipush (v := 9) hx hb dX8_undo_17 (by decide) ?_
    obtain ⟨g_4, hf⟩ := sn_gdE hf
    refine sn_iald C hw (sn_look sn_isX2_1 (k := 1) rfl) g_4 dX8_undo_19 ?_
    refine lv_iconst (v := 1) hx hb dX8_undo_20 rfl ?_
    refine lv_icmp_ge (tgt := 27) hx hb dX8_undo_21 (by decide) (fun c_5 => ?_) (fun c_5 => ?_)
    · have hf := sn_if c_5 hf
      refine lv_aload_n hx hb dX8_undo_27 rfl (lv_at hl 0 rfl) ?_
      refine sn_getC (r := 1) C hw fd_RX8_10 layC_0 rfl dX8_undo_28 ?_
      refine sn_getC (r := (1 + 1)) C hw fd_RX8_100 (sn_look sn_isX2_1 (k := 0) rfl) rfl dX8_undo_31 ?_
      refine lv_bipush (v := 9) hx hb dX8_undo_34 (by decide) ?_
      refine lv_dup2_11 hx hb dX8_undo_36 rfl rfl ?_
      obtain ⟨g_6, hf⟩ := sn_gdE hf
      refine sn_iald C hw (sn_look sn_isX2_1 (k := 1) rfl) g_6 dX8_undo_37 ?_
      refine lv_iconst (v := 1) hx hb dX8_undo_38 rfl ?_
      refine lv_isub hx hb dX8_undo_39 ?_
      obtain ⟨g_7, hf⟩ := sn_gdE hf
      refine sn_iast C hw (sn_look sn_isX2_1 (k := 1) rfl) g_7 dX8_undo_40 (fun H locs hw => ?_)
      obtain ⟨σ_8, e_9, hf⟩ := sn_ltE hf
      rw [← e_9] at hw
      refine lv_aload_n hx hb dX8_undo_41 rfl (lv_at hl 0 rfl) ?_
      obtain ⟨t_10, h_11, hf⟩ := sn_bd hf
      refine sn_callVv (rest := []) C hw (ctX8_liveAnew l  h_11) kl_RX8_97 layC_0 rfl rfl rfl rfl (Nat.le_of_ble_eq_true rfl) dX8_undo_42 hl.1 (fun H locs hw => ?_)
      refine lv_aload_n hx hb dX8_undo_45 rfl (lv_at hl 0 rfl) ?_
      refine sn_getC (r := 1) C hw fd_RX8_10 layC_0 rfl dX8_undo_46 ?_
      refine sn_getC (r := (1 + 1)) C hw fd_RX8_100 (sn_look sn_isX2_1 (k := 0) rfl) rfl dX8_undo_49 ?_
      refine lv_bipush (v := 9) hx hb dX8_undo_52 (by decide) ?_
      obtain ⟨g_12, hf⟩ := sn_gdE hf
      refine sn_iald C hw (sn_look sn_isX2_1 (k := 1) rfl) g_12 dX8_undo_54 ?_
      cases hf
      exact kr _ _ _ _ hw rfl dX8_undo_55
    · have hf := sn_el c_5 hf
      refine lv_bipush (v := (-5)) hx hb dX8_undo_24 (by decide) ?_
      cases hf
      exact kr _ _ _ _ hw rfl dX8_undo_26
  · have hf := sn_if c_3 hf
    refine lv_bipush (v := (-2)) hx hb dX8_undo_7 (by decide) ?_
    cases hf
    exact kr _ _ _ _ hw rfl dX8_undo_9
theorem ctX8_undo (l : Launch) {σ : sn_S}  {o : (Int32 × sn_S)} (hf : fX8_undo σ = some o) : sn_M l yX8_undo cX8_undo 1 (some .int) rmX8_undo layC (fun ad => [.ref (ad 0)]) σ (some (fun _ => .int o.1)) o.2 :=
  sn_met (by decide) (fun _ => Nat.le_of_ble_eq_true rfl) (fun p e s m args below meth c ls D ct ad A C hw hl => wX8_undo_in C  hf (fun H locs ls pc hw ok hd => sn_iret C hw hd) _ _ _ hw hl)
-- X8_anew
abbrev rmX8_anew : Room := { frames := 6, cells := 0, slots := 0, locals := 133 }
def fX8_anew (σ : sn_S) : Option (Int32 × sn_S) :=
  ((fX8_isHouse σ).bind fun t_1 => (if t_1 = 0 then
  (some ((-2 : Int32), σ))
  else
  (sn_gd (sn_in (9 : Int32) 11) (sn_lt (sn_I σ (1 + 1) (9 : Int32).toNatClampNeg) fun y_5 => (sn_gd (sn_in (9 : Int32) 11) (sn_lt (sn_pI σ (1 + 1) (9 : Int32).toNatClampNeg (0 : Int32)) fun σ_8 => ((fX8_liveAnew σ_8).bind fun t_10 => (some (y_5, t_10)))))))))
theorem wX8_anew_in (C : sn_C p s m args meth c RX8 cX8_anew 2 (some .int) D ct ad layC A) {σ : sn_S}  {o : (Int32 × sn_S)} (hf : fX8_anew σ = some o) (kr : sn_Kr p l e rmX8_anew s m args below meth c Q D ct ad layC A cX8_anew .ireturn (true) o.2 [.int o.1]) : sn_At p l e rmX8_anew s m args below meth c Q D ct ad layC A 2 σ 0 [(0, .ref (ad 0))] [] := by
  intro H locs ls hw hl
  have hx := C.1
  have hb := C.2.1
  unfold fX8_anew at hf
  refine lv_aload_n hx hb dX8_anew_0 rfl (lv_at hl 0 rfl) ?_
  obtain ⟨t_1, h_2, hf⟩ := sn_bd hf
  refine sn_callVi (rest := []) C hw (ctX8_isHouse l  h_2) kl_RX8_137 layC_0 rfl rfl rfl rfl (Nat.le_of_ble_eq_true rfl) dX8_anew_1 hl.1 (fun H locs hw => ?_)
  refine lv_if_ne (tgt := 10) hx hb dX8_anew_4 (by decide) (fun c_3 => ?_) (fun c_3 => ?_)
  · have hf := sn_el c_3 hf
    refine lv_aload_n hx hb dX8_anew_10 rfl (lv_at hl 0 rfl) ?_
    refine sn_getC (r := 1) C hw fd_RX8_10 layC_0 rfl dX8_anew_11 ?_
    refine sn_getC (r := (1 + 1)) C hw fd_RX8_100 (sn_look sn_isX2_1 (k := 0) rfl) rfl dX8_anew_14 ?_
    refine lv_bipush (v := 9) hx hb dX8_anew_17 (by decide) ?_
    obtain ⟨g_4, hf⟩ := sn_gdE hf
    refine sn_iald C hw (sn_look sn_isX2_1 (k := 1) rfl) g_4 dX8_anew_19 ?_
    obtain ⟨y_5, e_6, hf⟩ := sn_ltE hf
    refine lv_topi (fun y_5_ e_6_ => ?_)
    obtain rfl : y_5 = y_5_ := e_6.trans e_6_.symm
    refine lv_istore_n (lv' := [(1, .int y_5), (0, .ref (ad 0))]) hx hb dX8_anew_20 rfl hl (by decide) rfl (fun ls hl => ?_)
    refine lv_aload_n hx hb dX8_anew_21 rfl (lv_at hl 1 rfl) ?_
    refine sn_getC (r := 1) C hw fd_RX8_10 layC_0 rfl dX8_anew_22 ?_
    refine sn_getC (r := (1 + 1)) C hw fd_RX8_100 (sn_look sn_isX2_1 (k := 0) rfl) rfl dX8_anew_25 ?_
    refine lv_bipush (v := 9) hx hb dX8_anew_28 (by decide) ?_
    refine lv_iconst (v := 0) hx hb dX8_anew_30 rfl ?_
    obtain ⟨g_7, hf⟩ := sn_gdE hf
    refine sn_iast C hw (sn_look sn_isX2_1 (k := 1) rfl) g_7 dX8_anew_31 (fun H locs hw => ?_)
    obtain ⟨σ_8, e_9, hf⟩ := sn_ltE hf
    rw [← e_9] at hw
    refine lv_aload_n hx hb dX8_anew_32 rfl (lv_at hl 1 rfl) ?_
    obtain ⟨t_10, h_11, hf⟩ := sn_bd hf
    refine sn_callVv (rest := []) C hw (ctX8_liveAnew l  h_11) kl_RX8_97 layC_0 rfl rfl rfl rfl (Nat.le_of_ble_eq_true rfl) dX8_anew_33 hl.1 (fun H locs hw => ?_)
    refine lv_iload_n hx hb dX8_anew_36 rfl (lv_at hl 0 rfl) ?_
    cases hf
    exact kr _ _ _ _ hw rfl dX8_anew_37
  · have hf := sn_if c_3 hf
    refine lv_bipush (v := (-2)) hx hb dX8_anew_7 (by decide) ?_
    cases hf
    exact kr _ _ _ _ hw rfl dX8_anew_9
theorem ctX8_anew (l : Launch) {σ : sn_S}  {o : (Int32 × sn_S)} (hf : fX8_anew σ = some o) : sn_M l yX8_anew cX8_anew 2 (some .int) rmX8_anew layC (fun ad => [.ref (ad 0)]) σ (some (fun _ => .int o.1)) o.2 :=
  sn_met (by decide) (fun _ => Nat.le_of_ble_eq_true rfl) (fun p e s m args below meth c ls D ct ad A C hw hl => wX8_anew_in C  hf (fun H locs ls pc hw ok hd => sn_iret C hw hd) _ _ _ hw hl)
-- X8_rate
abbrev rmX8_rate : Room := { frames := 1, cells := 0, slots := 0, locals := 22 }
def fX8_rate (σ : sn_S) (x1 : Int32) (x2 : Int32) : Option (Int32 × sn_S) :=
  ((fX8_isPolicy σ x1).bind fun t_1 => (if t_1 = 0 then
  (some ((-2 : Int32), σ))
  else
  (if x2 < 0 then
  (some ((-2 : Int32), σ))
  else
  (if x2 ≤ (99 : Int32) then
  (sn_gd (sn_in (9 : Int32) 11) (if (sn_I σ (1 + 1) (9 : Int32).toNatClampNeg) ≤ 0 then
  ((fX2_ofPolicy σ 1 x1 (4 : Int32)).bind fun t_8 => (sn_gd (sn_in (((5 : Int32) * x1) + (4 : Int32)) 30) (sn_lt (sn_pI σ (1 + 5) (((5 : Int32) * x1) + (4 : Int32)).toNatClampNeg x2) fun σ_11 => (some (t_8, σ_11)))))
  else
  (some ((-5 : Int32), σ))))
  else
  (some ((-2 : Int32), σ))))))
theorem wX8_rate_in (C : sn_C p s m args meth c RX8 cX8_rate 4 (some .int) D ct ad layC A) {σ : sn_S} {x1 : Int32} {x2 : Int32}  {o : (Int32 × sn_S)} (hf : fX8_rate σ x1 x2 = some o) (kr : sn_Kr p l e rmX8_rate s m args below meth c Q D ct ad layC A cX8_rate .ireturn (true) o.2 [.int o.1]) : sn_At p l e rmX8_rate s m args below meth c Q D ct ad layC A 4 σ 0 [(0, .ref (ad 0)), (1, .int x1), (2, .int x2)] [] := by
  intro H locs ls hw hl
  have hx := C.1
  have hb := C.2.1
  unfold fX8_rate at hf
  refine lv_aload_n hx hb dX8_rate_0 rfl (lv_at hl 0 rfl) ?_
  refine lv_iload_n hx hb dX8_rate_1 rfl (lv_at hl 1 rfl) ?_
  obtain ⟨t_1, h_2, hf⟩ := sn_bd hf
  refine sn_callVi (rest := []) C hw (ctX8_isPolicy l  h_2) kl_RX8_114 layC_0 rfl rfl rfl rfl (Nat.le_of_ble_eq_true rfl) dX8_rate_2 hl.1 (fun H locs hw => ?_)
  refine lv_if_eq (tgt := 18) hx hb dX8_rate_5 (by decide) (fun c_3 => ?_) (fun c_3 => ?_)
  · have hf := sn_if c_3 hf
    refine lv_bipush (v := (-2)) hx hb dX8_rate_18 (by decide) ?_
    cases hf
    exact kr _ _ _ _ hw rfl dX8_rate_20
  · have hf := sn_el c_3 hf
    refine lv_iload_n hx hb dX8_rate_8 rfl (lv_at hl 2 rfl) ?_
    refine lv_if_lt (tgt := 18) hx hb dX8_rate_9 (by decide) (fun c_4 => ?_) (fun c_4 => ?_)
    · have hf := sn_if c_4 hf
      refine lv_bipush (v := (-2)) hx hb dX8_rate_18 (by decide) ?_
      cases hf
      exact kr _ _ _ _ hw rfl dX8_rate_20
    · have hf := sn_el c_4 hf
      refine lv_iload_n hx hb dX8_rate_12 rfl (lv_at hl 2 rfl) ?_
      refine lv_bipush (v := 99) hx hb dX8_rate_13 (by decide) ?_
      refine lv_icmp_le (tgt := 21) hx hb dX8_rate_15 (by decide) (fun c_5 => ?_) (fun c_5 => ?_)
      · have hf := sn_if c_5 hf
        refine lv_aload_n hx hb dX8_rate_21 rfl (lv_at hl 0 rfl) ?_
        refine sn_getC (r := 1) C hw fd_RX8_10 layC_0 rfl dX8_rate_22 ?_
        refine sn_getC (r := (1 + 1)) C hw fd_RX8_100 (sn_look sn_isX2_1 (k := 0) rfl) rfl dX8_rate_25 ?_
        refine lv_bipush (v := 9) hx hb dX8_rate_28 (by decide) ?_
        obtain ⟨g_6, hf⟩ := sn_gdE hf
        refine sn_iald C hw (sn_look sn_isX2_1 (k := 1) rfl) g_6 dX8_rate_30 ?_
        refine lv_if_le (tgt := 37) hx hb dX8_rate_31 (by decide) (fun c_7 => ?_) (fun c_7 => ?_)
        · have hf := sn_if c_7 hf
          refine lv_aload_n hx hb dX8_rate_37 rfl (lv_at hl 0 rfl) ?_
          refine sn_getC (r := 1) C hw fd_RX8_10 layC_0 rfl dX8_rate_38 ?_
          refine lv_iload_n hx hb dX8_rate_41 rfl (lv_at hl 1 rfl) ?_
          refine lv_iconst (v := 4) hx hb dX8_rate_42 rfl ?_
          obtain ⟨t_8, h_9, hf⟩ := sn_bd hf
          refine sn_callVi (rest := []) C hw (ctX2_ofPolicy l sn_isX2_1 h_9) kl_RX8_117 (sn_look sn_isX2_1 (k := 0) rfl) rfl rfl rfl rfl (Nat.le_of_ble_eq_true rfl) dX8_rate_43 hl.1 (fun H locs hw => ?_)
          refine lv_istore_n (lv' := [(3, .int t_8), (0, .ref (ad 0)), (1, .int x1), (2, .int x2)]) hx hb dX8_rate_46 rfl hl (by decide) rfl (fun ls hl => ?_)
          refine lv_aload_n hx hb dX8_rate_47 rfl (lv_at hl 1 rfl) ?_
          refine sn_getC (r := 1) C hw fd_RX8_10 layC_0 rfl dX8_rate_48 ?_
          refine sn_getC (r := (1 + 5)) C hw fd_RX8_349 (sn_look sn_isX2_1 (k := 0) rfl) rfl dX8_rate_51 ?_
          refine lv_iconst (v := 5) hx hb dX8_rate_54 rfl ?_
          refine lv_iload_n hx hb dX8_rate_55 rfl (lv_at hl 2 rfl) ?_
          refine lv_imul hx hb dX8_rate_56 ?_
          refine lv_iconst (v := 4) hx hb dX8_rate_57 rfl ?_
          refine lv_iadd hx hb dX8_rate_58 ?_
          refine lv_iload_n hx hb dX8_rate_59 rfl (lv_at hl 3 rfl) ?_
          obtain ⟨g_10, hf⟩ := sn_gdE hf
          refine sn_iast C hw (sn_look sn_isX2_1 (k := 5) rfl) g_10 dX8_rate_60 (fun H locs hw => ?_)
          obtain ⟨σ_11, e_12, hf⟩ := sn_ltE hf
          rw [← e_12] at hw
          refine lv_iload_n hx hb dX8_rate_61 rfl (lv_at hl 0 rfl) ?_
          cases hf
          exact kr _ _ _ _ hw rfl dX8_rate_62
        · have hf := sn_el c_7 hf
          refine lv_bipush (v := (-5)) hx hb dX8_rate_34 (by decide) ?_
          cases hf
          exact kr _ _ _ _ hw rfl dX8_rate_36
      · have hf := sn_el c_5 hf
        refine lv_bipush (v := (-2)) hx hb dX8_rate_18 (by decide) ?_
        cases hf
        exact kr _ _ _ _ hw rfl dX8_rate_20
theorem ctX8_rate (l : Launch) {σ : sn_S} {x1 : Int32} {x2 : Int32}  {o : (Int32 × sn_S)} (hf : fX8_rate σ x1 x2 = some o) : sn_M l yX8_rate cX8_rate 4 (some .int) rmX8_rate layC (fun ad => [.ref (ad 0), .int x1, .int x2]) σ (some (fun _ => .int o.1)) o.2 :=
  sn_met (by decide) (fun _ => Nat.le_of_ble_eq_true rfl) (fun p e s m args below meth c ls D ct ad A C hw hl => wX8_rate_in C  hf (fun H locs ls pc hw ok hd => sn_iret C hw hd) _ _ _ hw hl)
-- X8_count
abbrev rmX8_count : Room := { frames := 2, cells := 0, slots := 0, locals := 43 }
def fX8_count (σ : sn_S) (x1 : Int32) : Option Int32 :=
  (if x1 = (11 : Int32) then
  (some (sn_I σ 17 1))
  else
  (if x1 = (12 : Int32) then
  ((fX6_howMany σ).bind fun t_6 => (some t_6))
  else
  (if x1 < 0 then
  (some (-1 : Int32))
  else
  (if x1 < (11 : Int32) then
  (sn_gd (sn_in x1 11) (some (sn_I σ (1 + 1) x1.toNatClampNeg)))
  else
  (some (-1 : Int32))))))
theorem wX8_count_in (C : sn_C p s m args meth c RX8 cX8_count 2 (some .int) D ct ad layC A) {σ : sn_S} {x1 : Int32}  {o : Int32} (hf : fX8_count σ x1 = some o) (kr : sn_Kr p l e rmX8_count s m args below meth c Q D ct ad layC A cX8_count .ireturn (true) σ [.int o]) : sn_At p l e rmX8_count s m args below meth c Q D ct ad layC A 2 σ 0 [(0, .ref (ad 0)), (1, .int x1)] [] := by
  intro H locs ls hw hl
  have hx := C.1
  have hb := C.2.1
  unfold fX8_count at hf
  refine lv_iload_n hx hb dX8_count_0 rfl (lv_at hl 1 rfl) ?_
  refine lv_bipush (v := 11) hx hb dX8_count_1 (by decide) ?_
  refine lv_icmp_ne (tgt := 14) hx hb dX8_count_3 (by decide) (fun c_1 => ?_) (fun c_1 => ?_)
  · have hf := sn_el c_1 hf
    refine lv_iload_n hx hb dX8_count_14 rfl (lv_at hl 1 rfl) ?_
    refine lv_bipush (v := 12) hx hb dX8_count_15 (by decide) ?_
    refine lv_icmp_ne (tgt := 28) hx hb dX8_count_17 (by decide) (fun c_2 => ?_) (fun c_2 => ?_)
    · have hf := sn_el c_2 hf
      refine lv_iload_n hx hb dX8_count_28 rfl (lv_at hl 1 rfl) ?_
      refine lv_if_lt (tgt := 38) hx hb dX8_count_29 (by decide) (fun c_3 => ?_) (fun c_3 => ?_)
      · have hf := sn_if c_3 hf
        refine lv_iconst (v := (-1)) hx hb dX8_count_38 rfl ?_
        refine lv_goto (tgt := 51) hx hb dX8_count_39 (by decide) ?_
        cases hf
        exact kr _ _ _ _ hw rfl dX8_count_51
      · have hf := sn_el c_3 hf
        refine lv_iload_n hx hb dX8_count_32 rfl (lv_at hl 1 rfl) ?_
        refine lv_bipush (v := 11) hx hb dX8_count_33 (by decide) ?_
        refine lv_icmp_lt (tgt := 42) hx hb dX8_count_35 (by decide) (fun c_4 => ?_) (fun c_4 => ?_)
        · have hf := sn_if c_4 hf
          refine lv_aload_n hx hb dX8_count_42 rfl (lv_at hl 0 rfl) ?_
          refine sn_getC (r := 1) C hw fd_RX8_10 layC_0 rfl dX8_count_43 ?_
          refine sn_getC (r := (1 + 1)) C hw fd_RX8_100 (sn_look sn_isX2_1 (k := 0) rfl) rfl dX8_count_46 ?_
          refine lv_iload_n hx hb dX8_count_49 rfl (lv_at hl 1 rfl) ?_
          obtain ⟨g_5, hf⟩ := sn_gdE hf
          refine sn_iald C hw (sn_look sn_isX2_1 (k := 1) rfl) g_5 dX8_count_50 ?_
          cases hf
          exact kr _ _ _ _ hw rfl dX8_count_51
        · have hf := sn_el c_4 hf
          refine lv_iconst (v := (-1)) hx hb dX8_count_38 rfl ?_
          refine lv_goto (tgt := 51) hx hb dX8_count_39 (by decide) ?_
          cases hf
          exact kr _ _ _ _ hw rfl dX8_count_51
    · have hf := sn_if c_2 hf
      refine lv_aload_n hx hb dX8_count_20 rfl (lv_at hl 0 rfl) ?_
      refine sn_getC (r := 19) C hw fd_RX8_37 layC_0 rfl dX8_count_21 ?_
      obtain ⟨t_6, h_7, hf⟩ := sn_bd hf
      refine sn_callVi (rest := []) C hw (ctX6_howMany l  h_7) kl_RX8_351 layC_19 rfl rfl rfl rfl (Nat.le_of_ble_eq_true rfl) dX8_count_24 hl.1 (fun H locs hw => ?_)
      cases hf
      exact kr _ _ _ _ hw rfl dX8_count_27
  · have hf := sn_if c_1 hf
    refine lv_aload_n hx hb dX8_count_6 rfl (lv_at hl 0 rfl) ?_
    refine sn_getC (r := 17) C hw fd_RX8_30 layC_0 rfl dX8_count_7 ?_
    refine sn_getI C hw fd_RX8_79 layC_17 rfl dX8_count_10 ?_
    cases hf
    exact kr _ _ _ _ hw rfl dX8_count_13
theorem ctX8_count (l : Launch) {σ : sn_S} {x1 : Int32}  {o : Int32} (hf : fX8_count σ x1 = some o) : sn_M l yX8_count cX8_count 2 (some .int) rmX8_count layC (fun ad => [.ref (ad 0), .int x1]) σ (some (fun _ => .int o)) σ :=
  sn_met (by decide) (fun _ => Nat.le_of_ble_eq_true rfl) (fun p e s m args below meth c ls D ct ad A C hw hl => wX8_count_in C  hf (fun H locs ls pc hw ok hd => sn_iret C hw hd) _ _ _ hw hl)
-- X8_image
abbrev rmX8_image : Room := { frames := 2, cells := 0, slots := 0, locals := 69 }
def fX8_image (σ : sn_S) (x1 : Int32) : Option (Int32 × sn_S) :=
  (if x1 < 0 then
  (some ((-2 : Int32), σ))
  else
  (if x1 < (3 : Int32) then
  (sn_gd (sn_in x1 3) ((fX2_copyFrom σ (sn_at sn_rs15 x1) 1).bind fun t_4 => (sn_gd (sn_in x1 3) (sn_lt (sn_pI t_4 16 x1.toNatClampNeg (vp_nar .boolean (1 : Int32))) fun σ_7 => (some ((0 : Int32), σ_7))))))
  else
  (some ((-2 : Int32), σ))))
theorem wX8_image_in (C : sn_C p s m args meth c RX8 cX8_image 2 (some .int) D ct ad layC A) {σ : sn_S} {x1 : Int32}  {o : (Int32 × sn_S)} (hf : fX8_image σ x1 = some o) (kr : sn_Kr p l e rmX8_image s m args below meth c Q D ct ad layC A cX8_image .ireturn (true) o.2 [.int o.1]) : sn_At p l e rmX8_image s m args below meth c Q D ct ad layC A 2 σ 0 [(0, .ref (ad 0)), (1, .int x1)] [] := by
  intro H locs ls hw hl
  have hx := C.1
  have hb := C.2.1
  unfold fX8_image at hf
  refine lv_iload_n hx hb dX8_image_0 rfl (lv_at hl 1 rfl) ?_
  refine lv_if_lt (tgt := 9) hx hb dX8_image_1 (by decide) (fun c_1 => ?_) (fun c_1 => ?_)
  · have hf := sn_if c_1 hf
    refine lv_bipush (v := (-2)) hx hb dX8_image_9 (by decide) ?_
    cases hf
    exact kr _ _ _ _ hw rfl dX8_image_11
  · have hf := sn_el c_1 hf
    refine lv_iload_n hx hb dX8_image_4 rfl (lv_at hl 1 rfl) ?_
    refine lv_iconst (v := 3) hx hb dX8_image_5 rfl ?_
    refine lv_icmp_lt (tgt := 12) hx hb dX8_image_6 (by decide) (fun c_2 => ?_) (fun c_2 => ?_)
    · have hf := sn_if c_2 hf
      refine lv_aload_n hx hb dX8_image_12 rfl (lv_at hl 0 rfl) ?_
      refine sn_getC (r := 15) C hw fd_RX8_19 layC_0 rfl dX8_image_13 ?_
      refine lv_iload_n hx hb dX8_image_16 rfl (lv_at hl 1 rfl) ?_
      obtain ⟨g_3, hf⟩ := sn_gdE hf
      refine sn_aldO C hw layC_15 rfl g_3 dX8_image_17 ?_
      refine lv_aload_n hx hb dX8_image_18 rfl (lv_at hl 0 rfl) ?_
      refine sn_getC (r := 1) C hw fd_RX8_10 layC_0 rfl dX8_image_19 ?_
      obtain ⟨t_4, h_5, hf⟩ := sn_bd hf
      refine sn_callVv (rest := []) C hw (ctX2_copyFrom l (sn_rs_house g_3) sn_isX2_1 h_5) kl_RX8_94 (sn_look (sn_rs_house g_3) (k := 0) rfl) rfl rfl rfl rfl (Nat.le_of_ble_eq_true rfl) dX8_image_22 hl.1 (fun H locs hw => ?_)
      refine lv_aload_n hx hb dX8_image_25 rfl (lv_at hl 0 rfl) ?_
      refine sn_getC (r := 16) C hw fd_RX8_23 layC_0 rfl dX8_image_26 ?_
      refine lv_iload_n hx hb dX8_image_29 rfl (lv_at hl 1 rfl) ?_
      refine lv_iconst (v := 1) hx hb dX8_image_30 rfl ?_
      obtain ⟨g_6, hf⟩ := sn_gdE hf
      refine sn_zast C hw layC_16 g_6 dX8_image_31 (fun H locs hw => ?_)
      obtain ⟨σ_7, e_8, hf⟩ := sn_ltE hf
      rw [← e_8] at hw
      refine lv_iconst (v := 0) hx hb dX8_image_32 rfl ?_
      cases hf
      exact kr _ _ _ _ hw rfl dX8_image_33
    · have hf := sn_el c_2 hf
      refine lv_bipush (v := (-2)) hx hb dX8_image_9 (by decide) ?_
      cases hf
      exact kr _ _ _ _ hw rfl dX8_image_11
theorem ctX8_image (l : Launch) {σ : sn_S} {x1 : Int32}  {o : (Int32 × sn_S)} (hf : fX8_image σ x1 = some o) : sn_M l yX8_image cX8_image 2 (some .int) rmX8_image layC (fun ad => [.ref (ad 0), .int x1]) σ (some (fun _ => .int o.1)) o.2 :=
  sn_met (by decide) (fun _ => Nat.le_of_ble_eq_true rfl) (fun p e s m args below meth c ls D ct ad A C hw hl => wX8_image_in C  hf (fun H locs ls pc hw ok hd => sn_iret C hw hd) _ _ _ hw hl)
end
