section
variable {p : Program} {l : Launch} {e : Env} {s : State} {m : MethodId} {args : Array Value} {below : List Frame} {meth : Method} {c : Code} {Q : State → Prop} {D : va_G} {ct : Nat → ClassId} {ad : Nat → Nat}
-- X8_snuff
abbrev rmX8_snuff : Room := { frames := 6, cells := 0, slots := 0, locals := 141 }
def fX8_snuff (σ : sn_S) (x1 : Int32) : Option (Int32 × sn_S) :=
  ((fX8_isPolicy σ x1).bind fun t_1 => (if t_1 = 0 then
  (some ((-2 : Int32), σ))
  else
  ((fX8_minutesOfFraud σ x1).bind fun t_4 => ((fX8_lowestBit t_4.1).bind fun t_6 => (some (t_6, t_4.2))))))
theorem wX8_snuff_in (C : sn_C p s m args meth c RX8 cX8_snuff 2 (some .int) D ct ad layC) {σ : sn_S} {x1 : Int32}  {o : (Int32 × sn_S)} (hf : fX8_snuff σ x1 = some o) (kr : sn_Kr p l e rmX8_snuff s m args below meth c Q D ct ad layC cX8_snuff .ireturn (true) o.2 [.int o.1]) : sn_At p l e rmX8_snuff s m args below meth c Q D ct ad layC 2 σ 0 [(0, .ref (ad 0)), (1, .int x1)] [] := by
  intro H locs ls hw hl
  have hx := C.1
  have hb := C.2.1
  unfold fX8_snuff at hf
  refine lv_aload_n hx hb dX8_snuff_0 rfl (lv_at hl 0 rfl) ?_
  refine lv_iload_n hx hb dX8_snuff_1 rfl (lv_at hl 1 rfl) ?_
  obtain ⟨t_1, h_2, hf⟩ := sn_bd hf
  refine sn_callVi (rest := []) C hw (ctX8_isPolicy l  h_2) kl_RX8_116 layC_0 rfl rfl rfl rfl (Nat.le_of_ble_eq_true rfl) dX8_snuff_2 hl.1 (fun H locs hw => ?_)
  refine lv_if_eq (tgt := 19) hx hb dX8_snuff_5 (by decide) (fun c_3 => ?_) (fun c_3 => ?_)
  · have hf := sn_if c_3 hf
    refine lv_bipush (v := (-2)) hx hb dX8_snuff_19 (by decide) ?_
    cases hf
    exact kr _ _ _ _ hw rfl dX8_snuff_21
  · have hf := sn_el c_3 hf
    refine lv_aload_n hx hb dX8_snuff_8 rfl (lv_at hl 0 rfl) ?_
    refine lv_iload_n hx hb dX8_snuff_9 rfl (lv_at hl 1 rfl) ?_
    obtain ⟨t_4, h_5, hf⟩ := sn_bd hf
    refine sn_callVi (rest := []) C hw (ctX8_minutesOfFraud l  h_5) kl_RX8_263 layC_0 rfl rfl rfl rfl (Nat.le_of_ble_eq_true rfl) dX8_snuff_10 hl.1 (fun H locs hw => ?_)
    obtain ⟨t_6, h_7, hf⟩ := sn_bd hf
    refine sn_callSi (rest := []) C hw (ctX8_lowestBit l  h_7) kl_RX8_136 rfl rfl rfl (Nat.le_of_ble_eq_true rfl) dX8_snuff_13 hl.1 (fun H locs hw => ?_)
    refine lv_goto (tgt := 21) hx hb dX8_snuff_16 (by decide) ?_
    cases hf
    exact kr _ _ _ _ hw rfl dX8_snuff_21
theorem ctX8_snuff (l : Launch) {σ : sn_S} {x1 : Int32}  {o : (Int32 × sn_S)} (hf : fX8_snuff σ x1 = some o) : sn_M l yX8_snuff cX8_snuff 2 (some .int) rmX8_snuff layC (fun ad => [.ref (ad 0), .int x1]) σ (some (fun _ => .int o.1)) o.2 :=
  sn_met (by decide) (fun _ => Nat.le_of_ble_eq_true rfl) (fun p e s m args below meth c ls D ct ad C hw hl => wX8_snuff_in C  hf (fun H locs ls pc hw ok hd => sn_iret C hw hd) _ _ _ hw hl)
-- X8_frauds
abbrev rmX8_frauds : Room := { frames := 6, cells := 0, slots := 0, locals := 141 }
def fX8_frauds (σ : sn_S) (x1 : Int32) : Option (Int32 × sn_S) :=
  ((fX8_isPolicy σ x1).bind fun t_1 => (if t_1 = 0 then
  (some ((-2 : Int32), σ))
  else
  ((fX8_minutesOfFraud σ x1).bind fun t_4 => (some (t_4.1, t_4.2)))))
theorem wX8_frauds_in (C : sn_C p s m args meth c RX8 cX8_frauds 2 (some .int) D ct ad layC) {σ : sn_S} {x1 : Int32}  {o : (Int32 × sn_S)} (hf : fX8_frauds σ x1 = some o) (kr : sn_Kr p l e rmX8_frauds s m args below meth c Q D ct ad layC cX8_frauds .ireturn (true) o.2 [.int o.1]) : sn_At p l e rmX8_frauds s m args below meth c Q D ct ad layC 2 σ 0 [(0, .ref (ad 0)), (1, .int x1)] [] := by
  intro H locs ls hw hl
  have hx := C.1
  have hb := C.2.1
  unfold fX8_frauds at hf
  refine lv_aload_n hx hb dX8_frauds_0 rfl (lv_at hl 0 rfl) ?_
  refine lv_iload_n hx hb dX8_frauds_1 rfl (lv_at hl 1 rfl) ?_
  obtain ⟨t_1, h_2, hf⟩ := sn_bd hf
  refine sn_callVi (rest := []) C hw (ctX8_isPolicy l  h_2) kl_RX8_116 layC_0 rfl rfl rfl rfl (Nat.le_of_ble_eq_true rfl) dX8_frauds_2 hl.1 (fun H locs hw => ?_)
  refine lv_if_eq (tgt := 16) hx hb dX8_frauds_5 (by decide) (fun c_3 => ?_) (fun c_3 => ?_)
  · have hf := sn_if c_3 hf
    refine lv_bipush (v := (-2)) hx hb dX8_frauds_16 (by decide) ?_
    cases hf
    exact kr _ _ _ _ hw rfl dX8_frauds_18
  · have hf := sn_el c_3 hf
    refine lv_aload_n hx hb dX8_frauds_8 rfl (lv_at hl 0 rfl) ?_
    refine lv_iload_n hx hb dX8_frauds_9 rfl (lv_at hl 1 rfl) ?_
    obtain ⟨t_4, h_5, hf⟩ := sn_bd hf
    refine sn_callVi (rest := []) C hw (ctX8_minutesOfFraud l  h_5) kl_RX8_263 layC_0 rfl rfl rfl rfl (Nat.le_of_ble_eq_true rfl) dX8_frauds_10 hl.1 (fun H locs hw => ?_)
    refine lv_goto (tgt := 18) hx hb dX8_frauds_13 (by decide) ?_
    cases hf
    exact kr _ _ _ _ hw rfl dX8_frauds_18
theorem ctX8_frauds (l : Launch) {σ : sn_S} {x1 : Int32}  {o : (Int32 × sn_S)} (hf : fX8_frauds σ x1 = some o) : sn_M l yX8_frauds cX8_frauds 2 (some .int) rmX8_frauds layC (fun ad => [.ref (ad 0), .int x1]) σ (some (fun _ => .int o.1)) o.2 :=
  sn_met (by decide) (fun _ => Nat.le_of_ble_eq_true rfl) (fun p e s m args below meth c ls D ct ad C hw hl => wX8_frauds_in C  hf (fun H locs ls pc hw ok hd => sn_iret C hw hd) _ _ _ hw hl)
-- X8_seek
abbrev rmX8_seek : Room := { frames := 5, cells := 0, slots := 0, locals := 117 }
def BX8_seek_166 (σ : sn_S) : Option ((Int32 × sn_S)) :=
  ((fX7_seekIn σ 48 59).bind fun t_1 => (some ((0 : Int32), t_1)))
def BX8_seek_57 (σ : sn_S) (x1 : Int32) (x2 : Int32) : Option ((sn_S × Int32) ⊕ ((sn_S) ⊕ (Int32 × sn_S))) :=
  (sn_gd (sn_in x1 4) (if (sn_I σ 47 x1.toNatClampNeg) ≤ (x2 + (1 : Int32)) then
  (some (.inr (.inl (σ))))
  else
  (sn_gd (sn_in x1 4) (sn_gd (sn_in x2 60) (sn_lt (sn_L σ (sn_at sn_rs41 x1) x2.toNatClampNeg) fun y_5 => (sn_gd (sn_in x1 4) (sn_gd (sn_in (x2 + (1 : Int32)) 60) (sn_lt (sn_L σ (sn_at sn_rs41 x1) (x2 + (1 : Int32)).toNatClampNeg) fun y_9 => (if (lg_cmp y_5 (0 : Int64)) < 0 then
  (some (.inr (.inr ((-2 : Int32), σ))))
  else
  (if 0 ≤ (lg_cmp y_5 ((sn_I σ 48 1).toInt64)) then
  (some (.inr (.inr ((-2 : Int32), σ))))
  else
  (if (lg_cmp y_9 (0 : Int64)) < 0 then
  (some (.inr (.inr ((-2 : Int32), σ))))
  else
  (if (lg_cmp y_9 ((sn_I σ 48 0).toInt64)) < 0 then
  (sn_gd (sn_in y_5.toInt32 6) (sn_gd (sn_in y_5.toInt32 6) (sn_lt (sn_pI σ 76 y_5.toInt32.toNatClampNeg ((sn_I σ 76 y_5.toInt32.toNatClampNeg) ||| ((1 : Int32) <<< (y_9.toInt32 &&& 31)))) fun σ_17 => (sn_lt (x2 + 2) fun y_19 => (some (.inl (σ_17, y_19)))))))
  else
  (some (.inr (.inr ((-2 : Int32), σ))))))))))))))))
def LX8_seek_57 (x1 : Int32) (s : sn_S × Int32) : Option ((sn_S × Int32) ⊕ ((sn_S) ⊕ (Int32 × sn_S))) := BX8_seek_57 s.1 x1 s.2
def fX8_seek (σ : sn_S) (x1 : Int32) : Option (Int32 × sn_S) :=
  ((fX6_isSlot x1).bind fun t_1 => (if t_1 = 0 then
  (some ((-2 : Int32), σ))
  else
  ((fX8_isHouse σ).bind fun t_4 => (if t_4 = 0 then
  (some ((-2 : Int32), σ))
  else
  ((fX6_has σ x1).bind fun t_7 => (if t_7 = 0 then
  (some ((-6 : Int32), σ))
  else
  (sn_gd (sn_in x1 4) (if ((sn_I σ 47 x1.toNatClampNeg) - (sn_I σ 47 x1.toNatClampNeg) / (2 : Int32) * (2 : Int32)) = 0 then
  ((fX7_forget σ).bind fun t_12 => ((sn_it (LX8_seek_57 x1) 5000 (t_12, (0 : Int32))).bind fun t_14 => Sum.elim (fun v_16 => (BX8_seek_166 v_16)) (fun r_17 => (some r_17)) t_14))
  else
  (some ((-2 : Int32), σ))))))))))
theorem wX8_seek_166 (C : sn_C p s m args meth c RX8 cX8_seek 7 (some .int) D ct ad layC) {σ : sn_S}  {o : (Int32 × sn_S)} (hf : BX8_seek_166 σ = some o) (kr : sn_Kr p l e rmX8_seek s m args below meth c Q D ct ad layC cX8_seek .ireturn (true) o.2 [.int o.1]) : sn_At p l e rmX8_seek s m args below meth c Q D ct ad layC 7 σ 166 [(0, .ref (ad 0))] [] := by
  intro H locs ls hw hl
  have hx := C.1
  have hb := C.2.1
  unfold BX8_seek_166 at hf
  refine lv_aload_n hx hb dX8_seek_166 rfl (lv_at hl 0 rfl) ?_
  refine sn_getC (r := 75) C hw fd_RX8_68 layC_0 rfl dX8_seek_167 ?_
  refine lv_aload_n hx hb dX8_seek_170 rfl (lv_at hl 0 rfl) ?_
  refine sn_getC (r := 48) C hw fd_RX8_44 layC_0 rfl dX8_seek_171 ?_
  refine lv_aload_n hx hb dX8_seek_174 rfl (lv_at hl 0 rfl) ?_
  refine sn_getC (r := 59) C hw fd_RX8_48 layC_0 rfl dX8_seek_175 ?_
  obtain ⟨t_1, h_2, hf⟩ := sn_bd hf
  refine sn_callVv (rest := []) C hw (ctX7_seekIn l sn_isX0_48 sn_isX0_59 h_2) kl_RX8_308 layC_75 rfl rfl rfl rfl (Nat.le_of_ble_eq_true rfl) dX8_seek_178 hl.1 (fun H locs hw => ?_)
  refine lv_iconst (v := 0) hx hb dX8_seek_181 rfl ?_
  cases hf
  exact kr _ _ _ _ hw rfl dX8_seek_182
theorem wX8_seek_57 (C : sn_C p s m args meth c RX8 cX8_seek 7 (some .int) D ct ad layC) {σ : sn_S} {x1 : Int32} {x2 : Int32}  {o : (sn_S × Int32) ⊕ ((sn_S) ⊕ (Int32 × sn_S))} (hf : BX8_seek_57 σ x1 x2 = some o) (kc : ∀ v, o = .inl v → sn_At p l e rmX8_seek s m args below meth c Q D ct ad layC 7 v.1 57 [(0, .ref (ad 0)), (1, .int x1), (2, .int v.2)] []) (kx : ∀ v, o = .inr (.inl v) → sn_At p l e rmX8_seek s m args below meth c Q D ct ad layC 7 v 166 [(0, .ref (ad 0))] []) (kr : ∀ r, o = .inr (.inr r) → sn_Kr p l e rmX8_seek s m args below meth c Q D ct ad layC cX8_seek .ireturn (true) r.2 [.int r.1]) : sn_At p l e rmX8_seek s m args below meth c Q D ct ad layC 7 σ 57 [(0, .ref (ad 0)), (1, .int x1), (2, .int x2)] [] := by
  intro H locs ls hw hl
  have hx := C.1
  have hb := C.2.1
  unfold BX8_seek_57 at hf
  refine lv_iload_n hx hb dX8_seek_57 rfl (lv_at hl 2 rfl) ?_
  refine lv_iconst (v := 1) hx hb dX8_seek_58 rfl ?_
  refine lv_iadd hx hb dX8_seek_59 ?_
  refine lv_aload_n hx hb dX8_seek_60 rfl (lv_at hl 0 rfl) ?_
  refine sn_getC (r := 40) C hw fd_RX8_37 layC_0 rfl dX8_seek_61 ?_
  refine sn_getC (r := 47) C hw fd_RX8_295 layC_40 rfl dX8_seek_64 ?_
  refine lv_iload_n hx hb dX8_seek_67 rfl (lv_at hl 1 rfl) ?_
  obtain ⟨g_1, hf⟩ := sn_gdE hf
  refine sn_iald C hw layC_47 g_1 dX8_seek_68 ?_
  refine lv_icmp_ge (tgt := 166) hx hb dX8_seek_69 (by decide) (fun c_2 => ?_) (fun c_2 => ?_)
  · have hf := sn_if c_2 hf
    cases hf
    exact kx _ rfl _ _ _ hw (lv_sub hl [0] rfl)
  · have hf := sn_el c_2 hf
    refine lv_aload_n hx hb dX8_seek_72 rfl (lv_at hl 0 rfl) ?_
    refine sn_getC (r := 40) C hw fd_RX8_37 layC_0 rfl dX8_seek_73 ?_
    refine sn_getC (r := 41) C hw fd_RX8_301 layC_40 rfl dX8_seek_76 ?_
    refine lv_iload_n hx hb dX8_seek_79 rfl (lv_at hl 1 rfl) ?_
    obtain ⟨g_3, hf⟩ := sn_gdE hf
    refine sn_aldA C hw layC_41 rfl g_3 dX8_seek_80 ?_
    refine lv_iload_n hx hb dX8_seek_81 rfl (lv_at hl 2 rfl) ?_
    obtain ⟨g_4, hf⟩ := sn_gdE hf
    refine sn_lald C hw (sn_rs_row g_3) g_4 dX8_seek_82 ?_
    obtain ⟨y_5, e_6, hf⟩ := sn_ltE hf
    refine lv_topl (fun y_5_ e_6_ => ?_)
    obtain rfl : y_5 = y_5_ := e_6.trans e_6_.symm
    refine lv_lstore_n (lv' := [(3, .long y_5), (0, .ref (ad 0)), (1, .int x1), (2, .int x2)]) hx hb dX8_seek_83 rfl hl (by decide) rfl (fun ls hl => ?_)
    refine lv_aload_n hx hb dX8_seek_84 rfl (lv_at hl 1 rfl) ?_
    refine sn_getC (r := 40) C hw fd_RX8_37 layC_0 rfl dX8_seek_85 ?_
    refine sn_getC (r := 41) C hw fd_RX8_301 layC_40 rfl dX8_seek_88 ?_
    refine lv_iload_n hx hb dX8_seek_91 rfl (lv_at hl 2 rfl) ?_
    obtain ⟨g_7, hf⟩ := sn_gdE hf
    refine sn_aldA C hw layC_41 rfl g_7 dX8_seek_92 ?_
    refine lv_iload_n hx hb dX8_seek_93 rfl (lv_at hl 3 rfl) ?_
    refine lv_iconst (v := 1) hx hb dX8_seek_94 rfl ?_
    refine lv_iadd hx hb dX8_seek_95 ?_
    obtain ⟨g_8, hf⟩ := sn_gdE hf
    refine sn_lald C hw (sn_rs_row g_7) g_8 dX8_seek_96 ?_
    obtain ⟨y_9, e_10, hf⟩ := sn_ltE hf
    refine lv_topl (fun y_9_ e_10_ => ?_)
    obtain rfl : y_9 = y_9_ := e_10.trans e_10_.symm
    refine lv_lstore (lv' := [(5, .long y_9), (3, .long y_5), (0, .ref (ad 0)), (1, .int x1), (2, .int x2)]) hx hb dX8_seek_97 hl (by decide) rfl (fun ls hl => ?_)
    refine lv_lload_n hx hb dX8_seek_99 rfl (lv_at hl 1 rfl) ?_
    refine lv_lconst (v := 0) hx hb dX8_seek_100 rfl ?_
    refine W.lcmp hx hb dX8_seek_101 ?_
    refine lv_if_lt (tgt := 139) hx hb dX8_seek_102 (by decide) (fun c_11 => ?_) (fun c_11 => ?_)
    · have hf := sn_if c_11 hf
      refine lv_bipush (v := (-2)) hx hb dX8_seek_139 (by decide) ?_
      cases hf
      exact kr _ rfl _ _ _ _ hw rfl dX8_seek_141
    · have hf := sn_el c_11 hf
      refine lv_lload_n hx hb dX8_seek_105 rfl (lv_at hl 1 rfl) ?_
      refine lv_aload_n hx hb dX8_seek_106 rfl (lv_at hl 2 rfl) ?_
      refine sn_getC (r := 48) C hw fd_RX8_44 layC_0 rfl dX8_seek_107 ?_
      refine sn_getI C hw fd_RX8_164 (sn_look sn_isX0_48 (k := 0) rfl) rfl dX8_seek_110 ?_
      refine lv_i2l hx hb dX8_seek_113 rfl ?_
      refine W.lcmp hx hb dX8_seek_114 ?_
      refine lv_if_ge (tgt := 139) hx hb dX8_seek_115 (by decide) (fun c_12 => ?_) (fun c_12 => ?_)
      · have hf := sn_if c_12 hf
        refine lv_bipush (v := (-2)) hx hb dX8_seek_139 (by decide) ?_
        cases hf
        exact kr _ rfl _ _ _ _ hw rfl dX8_seek_141
      · have hf := sn_el c_12 hf
        refine lv_lload hx hb dX8_seek_118 (lv_at hl 0 rfl) ?_
        refine lv_lconst (v := 0) hx hb dX8_seek_120 rfl ?_
        refine W.lcmp hx hb dX8_seek_121 ?_
        refine lv_if_lt (tgt := 139) hx hb dX8_seek_122 (by decide) (fun c_13 => ?_) (fun c_13 => ?_)
        · have hf := sn_if c_13 hf
          refine lv_bipush (v := (-2)) hx hb dX8_seek_139 (by decide) ?_
          cases hf
          exact kr _ rfl _ _ _ _ hw rfl dX8_seek_141
        · have hf := sn_el c_13 hf
          refine lv_lload hx hb dX8_seek_125 (lv_at hl 0 rfl) ?_
          refine lv_aload_n hx hb dX8_seek_127 rfl (lv_at hl 2 rfl) ?_
          refine sn_getC (r := 48) C hw fd_RX8_44 layC_0 rfl dX8_seek_128 ?_
          refine sn_getI C hw fd_RX8_153 (sn_look sn_isX0_48 (k := 0) rfl) rfl dX8_seek_131 ?_
          refine lv_i2l hx hb dX8_seek_134 rfl ?_
          refine W.lcmp hx hb dX8_seek_135 ?_
          refine lv_if_lt (tgt := 142) hx hb dX8_seek_136 (by decide) (fun c_14 => ?_) (fun c_14 => ?_)
          · have hf := sn_if c_14 hf
            refine lv_aload_n hx hb dX8_seek_142 rfl (lv_at hl 2 rfl) ?_
            refine sn_getC (r := 75) C hw fd_RX8_68 layC_0 rfl dX8_seek_143 ?_
            refine sn_getC (r := 76) C hw fd_RX8_305 layC_75 rfl dX8_seek_146 ?_
            refine lv_lload_n hx hb dX8_seek_149 rfl (lv_at hl 1 rfl) ?_
            refine lv_l2i hx hb dX8_seek_150 rfl ?_
            refine lv_dup2_11 hx hb dX8_seek_151 rfl rfl ?_
            obtain ⟨g_15, hf⟩ := sn_gdE hf
            refine sn_iald C hw layC_76 g_15 dX8_seek_152 ?_
            refine lv_iconst (v := 1) hx hb dX8_seek_153 rfl ?_
            refine lv_lload hx hb dX8_seek_154 (lv_at hl 0 rfl) ?_
            refine lv_l2i hx hb dX8_seek_156 rfl ?_
            refine lv_ishl hx hb dX8_seek_157 ?_
            refine lv_ior hx hb dX8_seek_158 ?_
            obtain ⟨g_16, hf⟩ := sn_gdE hf
            refine sn_iast C hw layC_76 g_16 dX8_seek_159 (fun H locs hw => ?_)
            obtain ⟨σ_17, e_18, hf⟩ := sn_ltE hf
            rw [← e_18] at hw
            obtain ⟨y_19, e_20, hf⟩ := sn_ltE hf
            refine lv_iinc (v := y_19) (lv' := [(2, .int y_19), (5, .long y_9), (3, .long y_5), (0, .ref (ad 0)), (1, .int x1)]) hx hb dX8_seek_160 hl (k := 4) rfl (by rw [e_20]; rfl) (by decide) rfl (fun ls hl => ?_)
            refine lv_goto (tgt := 57) hx hb dX8_seek_163 (by decide) ?_
            cases hf
            exact kc _ rfl _ _ _ hw (lv_sub hl [3, 4, 0] rfl)
          · have hf := sn_el c_14 hf
            refine lv_bipush (v := (-2)) hx hb dX8_seek_139 (by decide) ?_
            cases hf
            exact kr _ rfl _ _ _ _ hw rfl dX8_seek_141
theorem wX8_seek_L57 (C : sn_C p s m args meth c RX8 cX8_seek 7 (some .int) D ct ad layC) {x1 : Int32}   {z : sn_S × Int32} {t : (sn_S) ⊕ (Int32 × sn_S)} (h : sn_it (LX8_seek_57 x1) 5000 z = some t) (kx : ∀ v, t = .inl v → sn_At p l e rmX8_seek s m args below meth c Q D ct ad layC 7 v 166 [(0, .ref (ad 0))] []) (kr : ∀ r, t = .inr r → sn_Kr p l e rmX8_seek s m args below meth c Q D ct ad layC cX8_seek .ireturn (true) r.2 [.int r.1]) : sn_At p l e rmX8_seek s m args below meth c Q D ct ad layC 7 z.1 57 [(0, .ref (ad 0)), (1, .int x1), (2, .int z.2)] [] :=
  sn_loop (f := LX8_seek_57 x1) (G := fun z => sn_At p l e rmX8_seek s m args below meth c Q D ct ad layC 7 z.1 57 [(0, .ref (ad 0)), (1, .int x1), (2, .int z.2)] []) (E := fun t => (∀ v, t = .inl v → sn_At p l e rmX8_seek s m args below meth c Q D ct ad layC 7 v 166 [(0, .ref (ad 0))] []) ∧ (∀ r, t = .inr r → sn_Kr p l e rmX8_seek s m args below meth c Q D ct ad layC cX8_seek .ireturn (true) r.2 [.int r.1])) (fun z o hf k1 k2 => wX8_seek_57 C  hf (fun v e => k1 v e) (fun v e => (k2 _ e).1 v rfl) (fun r e => (k2 _ e).2 r rfl)) 5000 z t h ⟨kx, kr⟩
theorem wX8_seek_in (C : sn_C p s m args meth c RX8 cX8_seek 7 (some .int) D ct ad layC) {σ : sn_S} {x1 : Int32}  {o : (Int32 × sn_S)} (hf : fX8_seek σ x1 = some o) (kr : sn_Kr p l e rmX8_seek s m args below meth c Q D ct ad layC cX8_seek .ireturn (true) o.2 [.int o.1]) : sn_At p l e rmX8_seek s m args below meth c Q D ct ad layC 7 σ 0 [(0, .ref (ad 0)), (1, .int x1)] [] := by
  intro H locs ls hw hl
  have hx := C.1
  have hb := C.2.1
  unfold fX8_seek at hf
  refine lv_iload_n hx hb dX8_seek_0 rfl (lv_at hl 1 rfl) ?_
  obtain ⟨t_1, h_2, hf⟩ := sn_bd hf
  refine sn_callSi (rest := []) C hw (ctX6_isSlot l  h_2) kl_RX8_289 rfl rfl rfl (Nat.le_of_ble_eq_true rfl) dX8_seek_1 hl.1 (fun H locs hw => ?_)
  refine lv_if_eq (tgt := 14) hx hb dX8_seek_4 (by decide) (fun c_3 => ?_) (fun c_3 => ?_)
  · have hf := sn_if c_3 hf
    refine lv_bipush (v := (-2)) hx hb dX8_seek_14 (by decide) ?_
    cases hf
    exact kr _ _ _ _ hw rfl dX8_seek_16
  · have hf := sn_el c_3 hf
    refine lv_aload_n hx hb dX8_seek_7 rfl (lv_at hl 0 rfl) ?_
    obtain ⟨t_4, h_5, hf⟩ := sn_bd hf
    refine sn_callVi (rest := []) C hw (ctX8_isHouse l  h_5) kl_RX8_139 layC_0 rfl rfl rfl rfl (Nat.le_of_ble_eq_true rfl) dX8_seek_8 hl.1 (fun H locs hw => ?_)
    refine lv_if_ne (tgt := 17) hx hb dX8_seek_11 (by decide) (fun c_6 => ?_) (fun c_6 => ?_)
    · have hf := sn_el c_6 hf
      refine lv_aload_n hx hb dX8_seek_17 rfl (lv_at hl 0 rfl) ?_
      refine sn_getC (r := 40) C hw fd_RX8_37 layC_0 rfl dX8_seek_18 ?_
      refine lv_iload_n hx hb dX8_seek_21 rfl (lv_at hl 1 rfl) ?_
      obtain ⟨t_7, h_8, hf⟩ := sn_bd hf
      refine sn_callVi (rest := []) C hw (ctX6_has l  h_8) kl_RX8_292 layC_40 rfl rfl rfl rfl (Nat.le_of_ble_eq_true rfl) dX8_seek_22 hl.1 (fun H locs hw => ?_)
      refine lv_if_ne (tgt := 31) hx hb dX8_seek_25 (by decide) (fun c_9 => ?_) (fun c_9 => ?_)
      · have hf := sn_el c_9 hf
        refine lv_aload_n hx hb dX8_seek_31 rfl (lv_at hl 0 rfl) ?_
        refine sn_getC (r := 40) C hw fd_RX8_37 layC_0 rfl dX8_seek_32 ?_
        refine sn_getC (r := 47) C hw fd_RX8_295 layC_40 rfl dX8_seek_35 ?_
        refine lv_iload_n hx hb dX8_seek_38 rfl (lv_at hl 1 rfl) ?_
        obtain ⟨g_10, hf⟩ := sn_gdE hf
        refine sn_iald C hw layC_47 g_10 dX8_seek_39 ?_
        refine lv_iconst (v := 2) hx hb dX8_seek_40 rfl ?_
        refine lv_irem hx hb dX8_seek_41 (by decide) ?_
        refine lv_if_eq (tgt := 48) hx hb dX8_seek_42 (by decide) (fun c_11 => ?_) (fun c_11 => ?_)
        · have hf := sn_if c_11 hf
          refine lv_aload_n hx hb dX8_seek_48 rfl (lv_at hl 0 rfl) ?_
          refine sn_getC (r := 75) C hw fd_RX8_68 layC_0 rfl dX8_seek_49 ?_
          obtain ⟨t_12, h_13, hf⟩ := sn_bd hf
          refine sn_callVv (rest := []) C hw (ctX7_forget l  h_13) kl_RX8_298 layC_75 rfl rfl rfl rfl (Nat.le_of_ble_eq_true rfl) dX8_seek_52 hl.1 (fun H locs hw => ?_)
          refine lv_iconst (v := 0) hx hb dX8_seek_55 rfl ?_
          refine lv_istore_n (lv' := [(2, .int (0 : Int32)), (0, .ref (ad 0)), (1, .int x1)]) hx hb dX8_seek_56 rfl hl (by decide) rfl (fun ls hl => ?_)
          obtain ⟨t_14, h_15, hf⟩ := sn_bd hf
          rcases t_14 with v_16 | r_17
          · rw [Sum.elim_inl] at hf
            exact wX8_seek_L57 C  h_15 (fun v e => by cases e; exact wX8_seek_166 C  hf kr) (fun r e => by cases e) _ _ _ hw (lv_sub hl [1, 2, 0] rfl)
          · rw [Sum.elim_inr] at hf
            cases hf
            exact wX8_seek_L57 C  h_15 (fun v e => by cases e) (fun r e => by cases e; exact kr) _ _ _ hw (lv_sub hl [1, 2, 0] rfl)
        · have hf := sn_el c_11 hf
          refine lv_bipush (v := (-2)) hx hb dX8_seek_45 (by decide) ?_
          cases hf
          exact kr _ _ _ _ hw rfl dX8_seek_47
      · have hf := sn_if c_9 hf
        refine lv_bipush (v := (-6)) hx hb dX8_seek_28 (by decide) ?_
        cases hf
        exact kr _ _ _ _ hw rfl dX8_seek_30
    · have hf := sn_if c_6 hf
      refine lv_bipush (v := (-2)) hx hb dX8_seek_14 (by decide) ?_
      cases hf
      exact kr _ _ _ _ hw rfl dX8_seek_16
theorem ctX8_seek (l : Launch) {σ : sn_S} {x1 : Int32}  {o : (Int32 × sn_S)} (hf : fX8_seek σ x1 = some o) : sn_M l yX8_seek cX8_seek 7 (some .int) rmX8_seek layC (fun ad => [.ref (ad 0), .int x1]) σ (some (fun _ => .int o.1)) o.2 :=
  sn_met (by decide) (fun _ => Nat.le_of_ble_eq_true rfl) (fun p e s m args below meth c ls D ct ad C hw hl => wX8_seek_in C  hf (fun H locs ls pc hw ok hd => sn_iret C hw hd) _ _ _ hw hl)
-- X8_which
abbrev rmX8_which : Room := { frames := 6, cells := 0, slots := 0, locals := 143 }
def fX8_which (σ : sn_S) (x1 : Int32) : Option (Int32 × sn_S) :=
  ((fX8_seek σ x1).bind fun t_1 => (if t_1.1 = 0 then
  (some ((sn_I t_1.2 75 1), t_1.2))
  else
  (some (t_1.1, t_1.2))))
theorem wX8_which_in (C : sn_C p s m args meth c RX8 cX8_which 3 (some .int) D ct ad layC) {σ : sn_S} {x1 : Int32}  {o : (Int32 × sn_S)} (hf : fX8_which σ x1 = some o) (kr : sn_Kr p l e rmX8_which s m args below meth c Q D ct ad layC cX8_which .ireturn (true) o.2 [.int o.1]) : sn_At p l e rmX8_which s m args below meth c Q D ct ad layC 3 σ 0 [(0, .ref (ad 0)), (1, .int x1)] [] := by
  intro H locs ls hw hl
  have hx := C.1
  have hb := C.2.1
  unfold fX8_which at hf
  refine lv_aload_n hx hb dX8_which_0 rfl (lv_at hl 0 rfl) ?_
  refine lv_iload_n hx hb dX8_which_1 rfl (lv_at hl 1 rfl) ?_
  obtain ⟨t_1, h_2, hf⟩ := sn_bd hf
  refine sn_callVi (rest := []) C hw (ctX8_seek l  h_2) kl_RX8_273 layC_0 rfl rfl rfl rfl (Nat.le_of_ble_eq_true rfl) dX8_which_2 hl.1 (fun H locs hw => ?_)
  refine lv_istore_n (lv' := [(2, .int t_1.1), (0, .ref (ad 0)), (1, .int x1)]) hx hb dX8_which_5 rfl hl (by decide) rfl (fun ls hl => ?_)
  refine lv_iload_n hx hb dX8_which_6 rfl (lv_at hl 0 rfl) ?_
  refine lv_if_eq (tgt := 14) hx hb dX8_which_7 (by decide) (fun c_3 => ?_) (fun c_3 => ?_)
  · have hf := sn_if c_3 hf
    refine lv_aload_n hx hb dX8_which_14 rfl (lv_at hl 1 rfl) ?_
    refine sn_getC (r := 75) C hw fd_RX8_68 layC_0 rfl dX8_which_15 ?_
    refine sn_getI C hw fd_RX8_276 layC_75 rfl dX8_which_18 ?_
    cases hf
    exact kr _ _ _ _ hw rfl dX8_which_21
  · have hf := sn_el c_3 hf
    refine lv_iload_n hx hb dX8_which_10 rfl (lv_at hl 0 rfl) ?_
    refine lv_goto (tgt := 21) hx hb dX8_which_11 (by decide) ?_
    cases hf
    exact kr _ _ _ _ hw rfl dX8_which_21
theorem ctX8_which (l : Launch) {σ : sn_S} {x1 : Int32}  {o : (Int32 × sn_S)} (hf : fX8_which σ x1 = some o) : sn_M l yX8_which cX8_which 3 (some .int) rmX8_which layC (fun ad => [.ref (ad 0), .int x1]) σ (some (fun _ => .int o.1)) o.2 :=
  sn_met (by decide) (fun _ => Nat.le_of_ble_eq_true rfl) (fun p e s m args below meth c ls D ct ad C hw hl => wX8_which_in C  hf (fun H locs ls pc hw ok hd => sn_iret C hw hd) _ _ _ hw hl)
-- X8_when
abbrev rmX8_when : Room := { frames := 6, cells := 0, slots := 0, locals := 143 }
def fX8_when (σ : sn_S) (x1 : Int32) : Option (Int32 × sn_S) :=
  ((fX8_seek σ x1).bind fun t_1 => (if t_1.1 = 0 then
  (some ((sn_I t_1.2 75 2), t_1.2))
  else
  (some (t_1.1, t_1.2))))
theorem wX8_when_in (C : sn_C p s m args meth c RX8 cX8_when 3 (some .int) D ct ad layC) {σ : sn_S} {x1 : Int32}  {o : (Int32 × sn_S)} (hf : fX8_when σ x1 = some o) (kr : sn_Kr p l e rmX8_when s m args below meth c Q D ct ad layC cX8_when .ireturn (true) o.2 [.int o.1]) : sn_At p l e rmX8_when s m args below meth c Q D ct ad layC 3 σ 0 [(0, .ref (ad 0)), (1, .int x1)] [] := by
  intro H locs ls hw hl
  have hx := C.1
  have hb := C.2.1
  unfold fX8_when at hf
  refine lv_aload_n hx hb dX8_when_0 rfl (lv_at hl 0 rfl) ?_
  refine lv_iload_n hx hb dX8_when_1 rfl (lv_at hl 1 rfl) ?_
  obtain ⟨t_1, h_2, hf⟩ := sn_bd hf
  refine sn_callVi (rest := []) C hw (ctX8_seek l  h_2) kl_RX8_273 layC_0 rfl rfl rfl rfl (Nat.le_of_ble_eq_true rfl) dX8_when_2 hl.1 (fun H locs hw => ?_)
  refine lv_istore_n (lv' := [(2, .int t_1.1), (0, .ref (ad 0)), (1, .int x1)]) hx hb dX8_when_5 rfl hl (by decide) rfl (fun ls hl => ?_)
  refine lv_iload_n hx hb dX8_when_6 rfl (lv_at hl 0 rfl) ?_
  refine lv_if_eq (tgt := 14) hx hb dX8_when_7 (by decide) (fun c_3 => ?_) (fun c_3 => ?_)
  · have hf := sn_if c_3 hf
    refine lv_aload_n hx hb dX8_when_14 rfl (lv_at hl 1 rfl) ?_
    refine sn_getC (r := 75) C hw fd_RX8_68 layC_0 rfl dX8_when_15 ?_
    refine sn_getI C hw fd_RX8_279 layC_75 rfl dX8_when_18 ?_
    cases hf
    exact kr _ _ _ _ hw rfl dX8_when_21
  · have hf := sn_el c_3 hf
    refine lv_iload_n hx hb dX8_when_10 rfl (lv_at hl 0 rfl) ?_
    refine lv_goto (tgt := 21) hx hb dX8_when_11 (by decide) ?_
    cases hf
    exact kr _ _ _ _ hw rfl dX8_when_21
theorem ctX8_when (l : Launch) {σ : sn_S} {x1 : Int32}  {o : (Int32 × sn_S)} (hf : fX8_when σ x1 = some o) : sn_M l yX8_when cX8_when 3 (some .int) rmX8_when layC (fun ad => [.ref (ad 0), .int x1]) σ (some (fun _ => .int o.1)) o.2 :=
  sn_met (by decide) (fun _ => Nat.le_of_ble_eq_true rfl) (fun p e s m args below meth c ls D ct ad C hw hl => wX8_when_in C  hf (fun H locs ls pc hw ok hd => sn_iret C hw hd) _ _ _ hw hl)
-- X8_gust
abbrev rmX8_gust : Room := { frames := 6, cells := 0, slots := 0, locals := 143 }
def fX8_gust (σ : sn_S) (x1 : Int32) : Option (Int32 × sn_S) :=
  ((fX8_seek σ x1).bind fun t_1 => (if t_1.1 = 0 then
  (some ((sn_I t_1.2 75 3), t_1.2))
  else
  (some (t_1.1, t_1.2))))
theorem wX8_gust_in (C : sn_C p s m args meth c RX8 cX8_gust 3 (some .int) D ct ad layC) {σ : sn_S} {x1 : Int32}  {o : (Int32 × sn_S)} (hf : fX8_gust σ x1 = some o) (kr : sn_Kr p l e rmX8_gust s m args below meth c Q D ct ad layC cX8_gust .ireturn (true) o.2 [.int o.1]) : sn_At p l e rmX8_gust s m args below meth c Q D ct ad layC 3 σ 0 [(0, .ref (ad 0)), (1, .int x1)] [] := by
  intro H locs ls hw hl
  have hx := C.1
  have hb := C.2.1
  unfold fX8_gust at hf
  refine lv_aload_n hx hb dX8_gust_0 rfl (lv_at hl 0 rfl) ?_
  refine lv_iload_n hx hb dX8_gust_1 rfl (lv_at hl 1 rfl) ?_
  obtain ⟨t_1, h_2, hf⟩ := sn_bd hf
  refine sn_callVi (rest := []) C hw (ctX8_seek l  h_2) kl_RX8_273 layC_0 rfl rfl rfl rfl (Nat.le_of_ble_eq_true rfl) dX8_gust_2 hl.1 (fun H locs hw => ?_)
  refine lv_istore_n (lv' := [(2, .int t_1.1), (0, .ref (ad 0)), (1, .int x1)]) hx hb dX8_gust_5 rfl hl (by decide) rfl (fun ls hl => ?_)
  refine lv_iload_n hx hb dX8_gust_6 rfl (lv_at hl 0 rfl) ?_
  refine lv_if_eq (tgt := 14) hx hb dX8_gust_7 (by decide) (fun c_3 => ?_) (fun c_3 => ?_)
  · have hf := sn_if c_3 hf
    refine lv_aload_n hx hb dX8_gust_14 rfl (lv_at hl 1 rfl) ?_
    refine sn_getC (r := 75) C hw fd_RX8_68 layC_0 rfl dX8_gust_15 ?_
    refine sn_getI C hw fd_RX8_280 layC_75 rfl dX8_gust_18 ?_
    cases hf
    exact kr _ _ _ _ hw rfl dX8_gust_21
  · have hf := sn_el c_3 hf
    refine lv_iload_n hx hb dX8_gust_10 rfl (lv_at hl 0 rfl) ?_
    refine lv_goto (tgt := 21) hx hb dX8_gust_11 (by decide) ?_
    cases hf
    exact kr _ _ _ _ hw rfl dX8_gust_21
theorem ctX8_gust (l : Launch) {σ : sn_S} {x1 : Int32}  {o : (Int32 × sn_S)} (hf : fX8_gust σ x1 = some o) : sn_M l yX8_gust cX8_gust 3 (some .int) rmX8_gust layC (fun ad => [.ref (ad 0), .int x1]) σ (some (fun _ => .int o.1)) o.2 :=
  sn_met (by decide) (fun _ => Nat.le_of_ble_eq_true rfl) (fun p e s m args below meth c ls D ct ad C hw hl => wX8_gust_in C  hf (fun H locs ls pc hw ok hd => sn_iret C hw hd) _ _ _ hw hl)
-- X8_ask
abbrev rmX8_ask : Room := { frames := 6, cells := 0, slots := 0, locals := 143 }
def fX8_ask (σ : sn_S) (x1 : Int32) : Option (Int32 × sn_S) :=
  ((fX8_seek σ x1).bind fun t_1 => (if t_1.1 = 0 then
  ((fX7_whomToAsk t_1.2 (sn_I t_1.2 48 1)).bind fun t_4 => (some (t_4, t_1.2)))
  else
  (some (t_1.1, t_1.2))))
theorem wX8_ask_in (C : sn_C p s m args meth c RX8 cX8_ask 3 (some .int) D ct ad layC) {σ : sn_S} {x1 : Int32}  {o : (Int32 × sn_S)} (hf : fX8_ask σ x1 = some o) (kr : sn_Kr p l e rmX8_ask s m args below meth c Q D ct ad layC cX8_ask .ireturn (true) o.2 [.int o.1]) : sn_At p l e rmX8_ask s m args below meth c Q D ct ad layC 3 σ 0 [(0, .ref (ad 0)), (1, .int x1)] [] := by
  intro H locs ls hw hl
  have hx := C.1
  have hb := C.2.1
  unfold fX8_ask at hf
  refine lv_aload_n hx hb dX8_ask_0 rfl (lv_at hl 0 rfl) ?_
  refine lv_iload_n hx hb dX8_ask_1 rfl (lv_at hl 1 rfl) ?_
  obtain ⟨t_1, h_2, hf⟩ := sn_bd hf
  refine sn_callVi (rest := []) C hw (ctX8_seek l  h_2) kl_RX8_273 layC_0 rfl rfl rfl rfl (Nat.le_of_ble_eq_true rfl) dX8_ask_2 hl.1 (fun H locs hw => ?_)
  refine lv_istore_n (lv' := [(2, .int t_1.1), (0, .ref (ad 0)), (1, .int x1)]) hx hb dX8_ask_5 rfl hl (by decide) rfl (fun ls hl => ?_)
  refine lv_iload_n hx hb dX8_ask_6 rfl (lv_at hl 0 rfl) ?_
  refine lv_if_eq (tgt := 14) hx hb dX8_ask_7 (by decide) (fun c_3 => ?_) (fun c_3 => ?_)
  · have hf := sn_if c_3 hf
    refine lv_aload_n hx hb dX8_ask_14 rfl (lv_at hl 1 rfl) ?_
    refine sn_getC (r := 75) C hw fd_RX8_68 layC_0 rfl dX8_ask_15 ?_
    refine lv_aload_n hx hb dX8_ask_18 rfl (lv_at hl 1 rfl) ?_
    refine sn_getC (r := 48) C hw fd_RX8_44 layC_0 rfl dX8_ask_19 ?_
    refine sn_getI C hw fd_RX8_164 (sn_look sn_isX0_48 (k := 0) rfl) rfl dX8_ask_22 ?_
    obtain ⟨t_4, h_5, hf⟩ := sn_bd hf
    refine sn_callVi (rest := []) C hw (ctX7_whomToAsk l  h_5) kl_RX8_283 layC_75 rfl rfl rfl rfl (Nat.le_of_ble_eq_true rfl) dX8_ask_25 hl.1 (fun H locs hw => ?_)
    cases hf
    exact kr _ _ _ _ hw rfl dX8_ask_28
  · have hf := sn_el c_3 hf
    refine lv_iload_n hx hb dX8_ask_10 rfl (lv_at hl 0 rfl) ?_
    refine lv_goto (tgt := 28) hx hb dX8_ask_11 (by decide) ?_
    cases hf
    exact kr _ _ _ _ hw rfl dX8_ask_28
theorem ctX8_ask (l : Launch) {σ : sn_S} {x1 : Int32}  {o : (Int32 × sn_S)} (hf : fX8_ask σ x1 = some o) : sn_M l yX8_ask cX8_ask 3 (some .int) rmX8_ask layC (fun ad => [.ref (ad 0), .int x1]) σ (some (fun _ => .int o.1)) o.2 :=
  sn_met (by decide) (fun _ => Nat.le_of_ble_eq_true rfl) (fun p e s m args below meth c ls D ct ad C hw hl => wX8_ask_in C  hf (fun H locs ls pc hw ok hd => sn_iret C hw hd) _ _ _ hw hl)
-- X8_leaves
abbrev rmX8_leaves : Room := { frames := 6, cells := 0, slots := 0, locals := 143 }
def fX8_leaves (σ : sn_S) (x1 : Int32) : Option (Int32 × sn_S) :=
  ((fX8_seek σ x1).bind fun t_1 => (if t_1.1 = 0 then
  ((fX7_whomToAsk t_1.2 (sn_I t_1.2 48 1)).bind fun t_4 => (if t_4 = (-1 : Int32) then
  (some ((sn_I t_1.2 75 1), t_1.2))
  else
  ((fX7_atWorst t_1.2 t_4).bind fun t_7 => (some (t_7, t_1.2)))))
  else
  (some (t_1.1, t_1.2))))
theorem wX8_leaves_in (C : sn_C p s m args meth c RX8 cX8_leaves 4 (some .int) D ct ad layC) {σ : sn_S} {x1 : Int32}  {o : (Int32 × sn_S)} (hf : fX8_leaves σ x1 = some o) (kr : sn_Kr p l e rmX8_leaves s m args below meth c Q D ct ad layC cX8_leaves .ireturn (true) o.2 [.int o.1]) : sn_At p l e rmX8_leaves s m args below meth c Q D ct ad layC 4 σ 0 [(0, .ref (ad 0)), (1, .int x1)] [] := by
  intro H locs ls hw hl
  have hx := C.1
  have hb := C.2.1
  unfold fX8_leaves at hf
  refine lv_aload_n hx hb dX8_leaves_0 rfl (lv_at hl 0 rfl) ?_
  refine lv_iload_n hx hb dX8_leaves_1 rfl (lv_at hl 1 rfl) ?_
  obtain ⟨t_1, h_2, hf⟩ := sn_bd hf
  refine sn_callVi (rest := []) C hw (ctX8_seek l  h_2) kl_RX8_273 layC_0 rfl rfl rfl rfl (Nat.le_of_ble_eq_true rfl) dX8_leaves_2 hl.1 (fun H locs hw => ?_)
  refine lv_istore_n (lv' := [(2, .int t_1.1), (0, .ref (ad 0)), (1, .int x1)]) hx hb dX8_leaves_5 rfl hl (by decide) rfl (fun ls hl => ?_)
  refine lv_iload_n hx hb dX8_leaves_6 rfl (lv_at hl 0 rfl) ?_
  refine lv_if_eq (tgt := 12) hx hb dX8_leaves_7 (by decide) (fun c_3 => ?_) (fun c_3 => ?_)
  · have hf := sn_if c_3 hf
    refine lv_aload_n hx hb dX8_leaves_12 rfl (lv_at hl 1 rfl) ?_
    refine sn_getC (r := 75) C hw fd_RX8_68 layC_0 rfl dX8_leaves_13 ?_
    refine lv_aload_n hx hb dX8_leaves_16 rfl (lv_at hl 1 rfl) ?_
    refine sn_getC (r := 48) C hw fd_RX8_44 layC_0 rfl dX8_leaves_17 ?_
    refine sn_getI C hw fd_RX8_164 (sn_look sn_isX0_48 (k := 0) rfl) rfl dX8_leaves_20 ?_
    obtain ⟨t_4, h_5, hf⟩ := sn_bd hf
    refine sn_callVi (rest := []) C hw (ctX7_whomToAsk l  h_5) kl_RX8_283 layC_75 rfl rfl rfl rfl (Nat.le_of_ble_eq_true rfl) dX8_leaves_23 hl.1 (fun H locs hw => ?_)
    refine lv_istore_n (lv' := [(3, .int t_4), (2, .int t_1.1), (0, .ref (ad 0)), (1, .int x1)]) hx hb dX8_leaves_26 rfl hl (by decide) rfl (fun ls hl => ?_)
    refine lv_iload_n hx hb dX8_leaves_27 rfl (lv_at hl 0 rfl) ?_
    refine lv_iconst (v := (-1)) hx hb dX8_leaves_28 rfl ?_
    refine lv_icmp_ne (tgt := 42) hx hb dX8_leaves_29 (by decide) (fun c_6 => ?_) (fun c_6 => ?_)
    · have hf := sn_el c_6 hf
      refine lv_aload_n hx hb dX8_leaves_42 rfl (lv_at hl 2 rfl) ?_
      refine sn_getC (r := 75) C hw fd_RX8_68 layC_0 rfl dX8_leaves_43 ?_
      refine lv_iload_n hx hb dX8_leaves_46 rfl (lv_at hl 0 rfl) ?_
      obtain ⟨t_7, h_8, hf⟩ := sn_bd hf
      refine sn_callVi (rest := []) C hw (ctX7_atWorst l  h_8) kl_RX8_286 layC_75 rfl rfl rfl rfl (Nat.le_of_ble_eq_true rfl) dX8_leaves_47 hl.1 (fun H locs hw => ?_)
      cases hf
      exact kr _ _ _ _ hw rfl dX8_leaves_50
    · have hf := sn_if c_6 hf
      refine lv_aload_n hx hb dX8_leaves_32 rfl (lv_at hl 2 rfl) ?_
      refine sn_getC (r := 75) C hw fd_RX8_68 layC_0 rfl dX8_leaves_33 ?_
      refine sn_getI C hw fd_RX8_276 layC_75 rfl dX8_leaves_36 ?_
      refine lv_goto (tgt := 50) hx hb dX8_leaves_39 (by decide) ?_
      cases hf
      exact kr _ _ _ _ hw rfl dX8_leaves_50
  · have hf := sn_el c_3 hf
    refine lv_iload_n hx hb dX8_leaves_10 rfl (lv_at hl 0 rfl) ?_
    cases hf
    exact kr _ _ _ _ hw rfl dX8_leaves_11
theorem ctX8_leaves (l : Launch) {σ : sn_S} {x1 : Int32}  {o : (Int32 × sn_S)} (hf : fX8_leaves σ x1 = some o) : sn_M l yX8_leaves cX8_leaves 4 (some .int) rmX8_leaves layC (fun ad => [.ref (ad 0), .int x1]) σ (some (fun _ => .int o.1)) o.2 :=
  sn_met (by decide) (fun _ => Nat.le_of_ble_eq_true rfl) (fun p e s m args below meth c ls D ct ad C hw hl => wX8_leaves_in C  hf (fun H locs ls pc hw ok hd => sn_iret C hw hd) _ _ _ hw hl)
-- X8_lossOf
abbrev rmX8_lossOf : Room := { frames := 5, cells := 0, slots := 0, locals := 113 }
def BX8_lossOf_85 (σ : sn_S) (x1 : Int32) (t0 : Int32) : Option ((Int32 × sn_S)) :=
  (sn_gd (sn_in x1 6) ((fJ6_bitCount_0f7a4 (sn_I σ (59 + 10) x1.toNatClampNeg)).bind fun t_2 => (some ((((3 : Int32) * t_2) + t0), σ))))
def BX8_lossOf_60 (σ : sn_S) (x1 : Int32) (x3 : Int32) : Option ((Int32 × sn_S)) :=
  ((fX0_liveWhole σ 59).bind fun t_1 => (if x3 = (1 : Int32) then
  (BX8_lossOf_85 t_1 x1 ((sn_I t_1 48 0) / (4 : Int32)))
  else
  (BX8_lossOf_85 t_1 x1 (0 : Int32))))
def BX8_lossOf_35 (σ : sn_S) (x1 : Int32) (x2 : Int32) (x3 : Int32) (x4 : Int32) : Option ((Int32 × sn_S)) :=
  (if x4 = (1 : Int32) then
  ((fX8_firstMinutes (sn_I σ 48 0)).bind fun t_2 => (sn_gd (sn_in x2 6) (sn_lt (sn_pI σ (59 + 4) x2.toNatClampNeg t_2) fun σ_5 => (BX8_lossOf_60 σ_5 x1 x3))))
  else
  (BX8_lossOf_60 σ x1 x3))
def fX8_lossOf (σ : sn_S) (x1 : Int32) (x2 : Int32) (x3 : Int32) (x4 : Int32) : Option (Int32 × sn_S) :=
  ((fX0_copyFrom σ 59 48).bind fun t_1 => (if x3 = (1 : Int32) then
  ((fX8_firstMinutes (sn_I t_1 48 0)).bind fun t_4 => (sn_gd (sn_in x1 6) (sn_lt (sn_pI t_1 (59 + 4) x1.toNatClampNeg t_4) fun σ_7 => (BX8_lossOf_35 σ_7 x1 x2 x3 x4))))
  else
  (BX8_lossOf_35 t_1 x1 x2 x3 x4)))
theorem wX8_lossOf_85 (C : sn_C p s m args meth c RX8 cX8_lossOf 6 (some .int) D ct ad layC) {σ : sn_S} {x1 : Int32} {t0 : Int32}  {o : (Int32 × sn_S)} (hf : BX8_lossOf_85 σ x1 t0 = some o) (kr : sn_Kr p l e rmX8_lossOf s m args below meth c Q D ct ad layC cX8_lossOf .ireturn (true) o.2 [.int o.1]) : sn_At p l e rmX8_lossOf s m args below meth c Q D ct ad layC 6 σ 85 [(0, .ref (ad 0)), (1, .int x1)] [.int t0] := by
  intro H locs ls hw hl
  have hx := C.1
  have hb := C.2.1
  unfold BX8_lossOf_85 at hf
  refine lv_istore (lv' := [(5, .int t0), (0, .ref (ad 0)), (1, .int x1)]) hx hb dX8_lossOf_85 hl (by decide) rfl (fun ls hl => ?_)
  refine lv_iconst (v := 3) hx hb dX8_lossOf_87 rfl ?_
  refine lv_aload_n hx hb dX8_lossOf_88 rfl (lv_at hl 1 rfl) ?_
  refine sn_getC (r := 59) C hw fd_RX8_48 layC_0 rfl dX8_lossOf_89 ?_
  refine sn_getC (r := (59 + 10)) C hw fd_RX8_133 (sn_look sn_isX0_59 (k := 0) rfl) rfl dX8_lossOf_92 ?_
  refine lv_iload_n hx hb dX8_lossOf_95 rfl (lv_at hl 2 rfl) ?_
  obtain ⟨g_1, hf⟩ := sn_gdE hf
  refine sn_iald C hw (sn_look sn_isX0_59 (k := 10) rfl) g_1 dX8_lossOf_96 ?_
  obtain ⟨t_2, h_3, hf⟩ := sn_bd hf
  refine sn_callSi (rest := [.int (3 : Int32)]) C hw (ctJ6_bitCount_0f7a4 l  h_3) kl_RX8_167 rfl rfl rfl (Nat.le_of_ble_eq_true rfl) dX8_lossOf_97 hl.1 (fun H locs hw => ?_)
  refine lv_imul hx hb dX8_lossOf_100 ?_
  refine lv_iload hx hb dX8_lossOf_101 (lv_at hl 0 rfl) ?_
  refine lv_iadd hx hb dX8_lossOf_103 ?_
  cases hf
  exact kr _ _ _ _ hw rfl dX8_lossOf_104
theorem wX8_lossOf_60 (C : sn_C p s m args meth c RX8 cX8_lossOf 6 (some .int) D ct ad layC) {σ : sn_S} {x1 : Int32} {x3 : Int32}  {o : (Int32 × sn_S)} (hf : BX8_lossOf_60 σ x1 x3 = some o) (kr : sn_Kr p l e rmX8_lossOf s m args below meth c Q D ct ad layC cX8_lossOf .ireturn (true) o.2 [.int o.1]) : sn_At p l e rmX8_lossOf s m args below meth c Q D ct ad layC 6 σ 60 [(0, .ref (ad 0)), (1, .int x1), (3, .int x3)] [] := by
  intro H locs ls hw hl
  have hx := C.1
  have hb := C.2.1
  unfold BX8_lossOf_60 at hf
  refine lv_aload_n hx hb dX8_lossOf_60 rfl (lv_at hl 0 rfl) ?_
  refine sn_getC (r := 59) C hw fd_RX8_48 layC_0 rfl dX8_lossOf_61 ?_
  obtain ⟨t_1, h_2, hf⟩ := sn_bd hf
  refine sn_callVv (rest := []) C hw (ctX0_liveWhole l sn_isX0_59 h_2) kl_RX8_191 (sn_look sn_isX0_59 (k := 0) rfl) rfl rfl rfl rfl (Nat.le_of_ble_eq_true rfl) dX8_lossOf_64 hl.1 (fun H locs hw => ?_)
  refine lv_iload_n hx hb dX8_lossOf_67 rfl (lv_at hl 2 rfl) ?_
  refine lv_iconst (v := 1) hx hb dX8_lossOf_68 rfl ?_
  refine lv_icmp_ne (tgt := 84) hx hb dX8_lossOf_69 (by decide) (fun c_3 => ?_) (fun c_3 => ?_)
  · have hf := sn_el c_3 hf
    refine lv_iconst (v := 0) hx hb dX8_lossOf_84 rfl ?_
    exact wX8_lossOf_85 C  hf kr _ _ _ hw (lv_sub hl [0, 1] rfl)
  · have hf := sn_if c_3 hf
    refine lv_aload_n hx hb dX8_lossOf_72 rfl (lv_at hl 0 rfl) ?_
    refine sn_getC (r := 48) C hw fd_RX8_44 layC_0 rfl dX8_lossOf_73 ?_
    refine sn_getI C hw fd_RX8_153 (sn_look sn_isX0_48 (k := 0) rfl) rfl dX8_lossOf_76 ?_
    refine lv_iconst (v := 4) hx hb dX8_lossOf_79 rfl ?_
    refine lv_idiv hx hb dX8_lossOf_80 (by decide) ?_
    refine lv_goto (tgt := 85) hx hb dX8_lossOf_81 (by decide) ?_
    exact wX8_lossOf_85 C  hf kr _ _ _ hw (lv_sub hl [0, 1] rfl)
theorem wX8_lossOf_35 (C : sn_C p s m args meth c RX8 cX8_lossOf 6 (some .int) D ct ad layC) {σ : sn_S} {x1 : Int32} {x2 : Int32} {x3 : Int32} {x4 : Int32}  {o : (Int32 × sn_S)} (hf : BX8_lossOf_35 σ x1 x2 x3 x4 = some o) (kr : sn_Kr p l e rmX8_lossOf s m args below meth c Q D ct ad layC cX8_lossOf .ireturn (true) o.2 [.int o.1]) : sn_At p l e rmX8_lossOf s m args below meth c Q D ct ad layC 6 σ 35 [(0, .ref (ad 0)), (1, .int x1), (2, .int x2), (3, .int x3), (4, .int x4)] [] := by
  intro H locs ls hw hl
  have hx := C.1
  have hb := C.2.1
  unfold BX8_lossOf_35 at hf
  refine lv_iload hx hb dX8_lossOf_35 (lv_at hl 4 rfl) ?_
  refine lv_iconst (v := 1) hx hb dX8_lossOf_37 rfl ?_
  refine lv_icmp_ne (tgt := 60) hx hb dX8_lossOf_38 (by decide) (fun c_1 => ?_) (fun c_1 => ?_)
  · have hf := sn_el c_1 hf
    exact wX8_lossOf_60 C  hf kr _ _ _ hw (lv_sub hl [0, 1, 3] rfl)
  · have hf := sn_if c_1 hf
    refine lv_aload_n hx hb dX8_lossOf_41 rfl (lv_at hl 0 rfl) ?_
    refine sn_getC (r := 59) C hw fd_RX8_48 layC_0 rfl dX8_lossOf_42 ?_
    refine sn_getC (r := (59 + 4)) C hw fd_RX8_198 (sn_look sn_isX0_59 (k := 0) rfl) rfl dX8_lossOf_45 ?_
    refine lv_iload_n hx hb dX8_lossOf_48 rfl (lv_at hl 2 rfl) ?_
    refine lv_aload_n hx hb dX8_lossOf_49 rfl (lv_at hl 0 rfl) ?_
    refine sn_getC (r := 48) C hw fd_RX8_44 layC_0 rfl dX8_lossOf_50 ?_
    refine sn_getI C hw fd_RX8_153 (sn_look sn_isX0_48 (k := 0) rfl) rfl dX8_lossOf_53 ?_
    obtain ⟨t_2, h_3, hf⟩ := sn_bd hf
    refine sn_callSi (rest := [.int x2, .ref (ad (59 + 4))]) C hw (ctX8_firstMinutes l  h_3) kl_RX8_176 rfl rfl rfl (Nat.le_of_ble_eq_true rfl) dX8_lossOf_56 hl.1 (fun H locs hw => ?_)
    obtain ⟨g_4, hf⟩ := sn_gdE hf
    refine sn_iast C hw (sn_look sn_isX0_59 (k := 4) rfl) g_4 dX8_lossOf_59 (fun H locs hw => ?_)
    obtain ⟨σ_5, e_6, hf⟩ := sn_ltE hf
    rw [← e_6] at hw
    exact wX8_lossOf_60 C  hf kr _ _ _ hw (lv_sub hl [0, 1, 3] rfl)
theorem wX8_lossOf_in (C : sn_C p s m args meth c RX8 cX8_lossOf 6 (some .int) D ct ad layC) {σ : sn_S} {x1 : Int32} {x2 : Int32} {x3 : Int32} {x4 : Int32}  {o : (Int32 × sn_S)} (hf : fX8_lossOf σ x1 x2 x3 x4 = some o) (kr : sn_Kr p l e rmX8_lossOf s m args below meth c Q D ct ad layC cX8_lossOf .ireturn (true) o.2 [.int o.1]) : sn_At p l e rmX8_lossOf s m args below meth c Q D ct ad layC 6 σ 0 [(0, .ref (ad 0)), (1, .int x1), (2, .int x2), (3, .int x3), (4, .int x4)] [] := by
  intro H locs ls hw hl
  have hx := C.1
  have hb := C.2.1
  unfold fX8_lossOf at hf
  refine lv_aload_n hx hb dX8_lossOf_0 rfl (lv_at hl 0 rfl) ?_
  refine sn_getC (r := 59) C hw fd_RX8_48 layC_0 rfl dX8_lossOf_1 ?_
  refine lv_aload_n hx hb dX8_lossOf_4 rfl (lv_at hl 0 rfl) ?_
  refine sn_getC (r := 48) C hw fd_RX8_44 layC_0 rfl dX8_lossOf_5 ?_
  obtain ⟨t_1, h_2, hf⟩ := sn_bd hf
  refine sn_callVv (rest := []) C hw (ctX0_copyFrom l sn_isX0_59 sn_isX0_48 h_2) kl_RX8_185 (sn_look sn_isX0_59 (k := 0) rfl) rfl rfl rfl rfl (Nat.le_of_ble_eq_true rfl) dX8_lossOf_8 hl.1 (fun H locs hw => ?_)
  refine lv_iload_n hx hb dX8_lossOf_11 rfl (lv_at hl 3 rfl) ?_
  refine lv_iconst (v := 1) hx hb dX8_lossOf_12 rfl ?_
  refine lv_icmp_ne (tgt := 35) hx hb dX8_lossOf_13 (by decide) (fun c_3 => ?_) (fun c_3 => ?_)
  · have hf := sn_el c_3 hf
    exact wX8_lossOf_35 C  hf kr _ _ _ hw (lv_sub hl [0, 1, 2, 3, 4] rfl)
  · have hf := sn_if c_3 hf
    refine lv_aload_n hx hb dX8_lossOf_16 rfl (lv_at hl 0 rfl) ?_
    refine sn_getC (r := 59) C hw fd_RX8_48 layC_0 rfl dX8_lossOf_17 ?_
    refine sn_getC (r := (59 + 4)) C hw fd_RX8_198 (sn_look sn_isX0_59 (k := 0) rfl) rfl dX8_lossOf_20 ?_
    refine lv_iload_n hx hb dX8_lossOf_23 rfl (lv_at hl 1 rfl) ?_
    refine lv_aload_n hx hb dX8_lossOf_24 rfl (lv_at hl 0 rfl) ?_
    refine sn_getC (r := 48) C hw fd_RX8_44 layC_0 rfl dX8_lossOf_25 ?_
    refine sn_getI C hw fd_RX8_153 (sn_look sn_isX0_48 (k := 0) rfl) rfl dX8_lossOf_28 ?_
    obtain ⟨t_4, h_5, hf⟩ := sn_bd hf
    refine sn_callSi (rest := [.int x1, .ref (ad (59 + 4))]) C hw (ctX8_firstMinutes l  h_5) kl_RX8_176 rfl rfl rfl (Nat.le_of_ble_eq_true rfl) dX8_lossOf_31 hl.1 (fun H locs hw => ?_)
    obtain ⟨g_6, hf⟩ := sn_gdE hf
    refine sn_iast C hw (sn_look sn_isX0_59 (k := 4) rfl) g_6 dX8_lossOf_34 (fun H locs hw => ?_)
    obtain ⟨σ_7, e_8, hf⟩ := sn_ltE hf
    rw [← e_8] at hw
    exact wX8_lossOf_35 C  hf kr _ _ _ hw (lv_sub hl [0, 1, 2, 3, 4] rfl)
theorem ctX8_lossOf (l : Launch) {σ : sn_S} {x1 : Int32} {x2 : Int32} {x3 : Int32} {x4 : Int32}  {o : (Int32 × sn_S)} (hf : fX8_lossOf σ x1 x2 x3 x4 = some o) : sn_M l yX8_lossOf cX8_lossOf 6 (some .int) rmX8_lossOf layC (fun ad => [.ref (ad 0), .int x1, .int x2, .int x3, .int x4]) σ (some (fun _ => .int o.1)) o.2 :=
  sn_met (by decide) (fun _ => Nat.le_of_ble_eq_true rfl) (fun p e s m args below meth c ls D ct ad C hw hl => wX8_lossOf_in C  hf (fun H locs ls pc hw ok hd => sn_iret C hw hd) _ _ _ hw hl)
-- X8_rests
abbrev rmX8_rests : Room := { frames := 6, cells := 0, slots := 0, locals := 138 }
def BX8_rests_130 (σ : sn_S) (x3 : Int32) : Option ((Int32 × sn_S)) :=
  (some (x3, σ))
def BX8_rests_124 (σ : sn_S) (x1 : Int32) (x2 : Int32) (x3 : Int32) (x4 : Int32) : Option ((sn_S × Int32 × Int32) ⊕ (sn_S × Int32)) :=
  (sn_lt (x4 + 1) fun y_1 => (some (.inl (σ, x3, y_1))))
def BX8_rests_118 (σ : sn_S) (x1 : Int32) (x2 : Int32) (x3 : Int32) (x4 : Int32) (x5 : Int32) : Option ((sn_S × Int32 × Int32) ⊕ (sn_S × Int32)) :=
  (sn_lt (x5 + 1) fun y_1 => (some (.inl (σ, x3, y_1))))
def BX8_rests_74 (σ : sn_S) (x1 : Int32) (x2 : Int32) (x3 : Int32) (x4 : Int32) (x5 : Int32) (t0 : Int32) : Option ((sn_S × Int32 × Int32) ⊕ (sn_S × Int32)) :=
  (if t0 = 0 then
  (BX8_rests_118 σ x1 x2 x3 x4 x5)
  else
  ((fX8_lossOf σ x2 x1 x5 x4).bind fun t_2 => ((fX8_lossOf t_2.2 x2 x1 ((1 : Int32) - x5) x4).bind fun t_4 => (if t_4.1 < t_2.1 then
  (BX8_rests_118 t_4.2 x1 x2 x3 x4 x5)
  else
  (sn_lt (x3 ||| ((1 : Int32) <<< ((x4 + ((2 : Int32) * x5)) &&& 31))) fun y_7 => (BX8_rests_118 t_4.2 x1 x2 y_7 x4 x5))))))
def BX8_rests_38 (σ : sn_S) (x1 : Int32) (x2 : Int32) (x3 : Int32) (x4 : Int32) (x5 : Int32) : Option ((sn_S × Int32 × Int32) ⊕ (sn_S × Int32)) :=
  (if (2 : Int32) ≤ x5 then
  (some (.inr (σ, x3)))
  else
  ((fX8_lossOf σ x1 x2 x4 x5).bind fun t_2 => ((fX8_lossOf t_2.2 x1 x2 ((1 : Int32) - x4) x5).bind fun t_4 => (if t_4.1 < t_2.1 then
  (BX8_rests_74 t_4.2 x1 x2 x3 x4 x5 (0 : Int32))
  else
  (BX8_rests_74 t_4.2 x1 x2 x3 x4 x5 (1 : Int32))))))
def LX8_rests_38 (x1 : Int32) (x2 : Int32) (x4 : Int32) (s : sn_S × Int32 × Int32) : Option ((sn_S × Int32 × Int32) ⊕ (sn_S × Int32)) := BX8_rests_38 s.1 x1 x2 s.2.1 x4 s.2.2
def BX8_rests_29 (σ : sn_S) (x1 : Int32) (x2 : Int32) (x3 : Int32) (x4 : Int32) : Option ((sn_S × Int32 × Int32) ⊕ (sn_S × Int32)) :=
  (if (2 : Int32) ≤ x4 then
  (some (.inr (σ, x3)))
  else
  ((sn_it (LX8_rests_38 x1 x2 x4) 5000 (σ, x3, (0 : Int32))).bind fun t_2 => (BX8_rests_124 t_2.1 x1 x2 t_2.2 x4)))
def LX8_rests_29 (x1 : Int32) (x2 : Int32) (s : sn_S × Int32 × Int32) : Option ((sn_S × Int32 × Int32) ⊕ (sn_S × Int32)) := BX8_rests_29 s.1 x1 x2 s.2.1 s.2.2
def fX8_rests (σ : sn_S) (x1 : Int32) (x2 : Int32) : Option (Int32 × sn_S) :=
  ((fX8_isPerson σ x1).bind fun t_1 => (if t_1 = 0 then
  (some ((-2 : Int32), σ))
  else
  ((fX8_isPerson σ x2).bind fun t_4 => (if t_4 = 0 then
  (some ((-2 : Int32), σ))
  else
  (if x1 = x2 then
  (some ((-2 : Int32), σ))
  else
  ((sn_it (LX8_rests_29 x1 x2) 5000 (σ, (0 : Int32), (0 : Int32))).bind fun t_8 => (BX8_rests_130 t_8.1 t_8.2)))))))
theorem wX8_rests_130 (C : sn_C p s m args meth c RX8 cX8_rests 7 (some .int) D ct ad layC) {σ : sn_S} {x3 : Int32}  {o : (Int32 × sn_S)} (hf : BX8_rests_130 σ x3 = some o) (kr : sn_Kr p l e rmX8_rests s m args below meth c Q D ct ad layC cX8_rests .ireturn (true) o.2 [.int o.1]) : sn_At p l e rmX8_rests s m args below meth c Q D ct ad layC 7 σ 130 [(3, .int x3)] [] := by
  intro H locs ls hw hl
  have hx := C.1
  have hb := C.2.1
  unfold BX8_rests_130 at hf
  refine lv_iload_n hx hb dX8_rests_130 rfl (lv_at hl 0 rfl) ?_
  cases hf
  exact kr _ _ _ _ hw rfl dX8_rests_131
theorem wX8_rests_124 (C : sn_C p s m args meth c RX8 cX8_rests 7 (some .int) D ct ad layC) {σ : sn_S} {x1 : Int32} {x2 : Int32} {x3 : Int32} {x4 : Int32}  {o : (sn_S × Int32 × Int32) ⊕ (sn_S × Int32)} (hf : BX8_rests_124 σ x1 x2 x3 x4 = some o) (kc : ∀ v, o = .inl v → sn_At p l e rmX8_rests s m args below meth c Q D ct ad layC 7 v.1 29 [(0, .ref (ad 0)), (1, .int x1), (2, .int x2), (3, .int v.2.1), (4, .int v.2.2)] []) (kx : ∀ v, o = .inr v → sn_At p l e rmX8_rests s m args below meth c Q D ct ad layC 7 v.1 130 [(3, .int v.2)] []) : sn_At p l e rmX8_rests s m args below meth c Q D ct ad layC 7 σ 124 [(0, .ref (ad 0)), (1, .int x1), (2, .int x2), (3, .int x3), (4, .int x4)] [] := by
  intro H locs ls hw hl
  have hx := C.1
  have hb := C.2.1
  unfold BX8_rests_124 at hf
  obtain ⟨y_1, e_2, hf⟩ := sn_ltE hf
  refine lv_iinc (v := y_1) (lv' := [(4, .int y_1), (0, .ref (ad 0)), (1, .int x1), (2, .int x2), (3, .int x3)]) hx hb dX8_rests_124 hl (k := 4) rfl (by rw [e_2]; rfl) (by decide) rfl (fun ls hl => ?_)
  refine lv_goto (tgt := 29) hx hb dX8_rests_127 (by decide) ?_
  cases hf
  exact kc _ rfl _ _ _ hw (lv_sub hl [1, 2, 3, 4, 0] rfl)
theorem wX8_rests_118 (C : sn_C p s m args meth c RX8 cX8_rests 7 (some .int) D ct ad layC) {σ : sn_S} {x1 : Int32} {x2 : Int32} {x3 : Int32} {x4 : Int32} {x5 : Int32}  {o : (sn_S × Int32 × Int32) ⊕ (sn_S × Int32)} (hf : BX8_rests_118 σ x1 x2 x3 x4 x5 = some o) (kc : ∀ v, o = .inl v → sn_At p l e rmX8_rests s m args below meth c Q D ct ad layC 7 v.1 38 [(0, .ref (ad 0)), (1, .int x1), (2, .int x2), (3, .int v.2.1), (4, .int x4), (5, .int v.2.2)] []) (kx : ∀ v, o = .inr v → sn_At p l e rmX8_rests s m args below meth c Q D ct ad layC 7 v.1 124 [(0, .ref (ad 0)), (1, .int x1), (2, .int x2), (3, .int v.2), (4, .int x4)] []) : sn_At p l e rmX8_rests s m args below meth c Q D ct ad layC 7 σ 118 [(0, .ref (ad 0)), (1, .int x1), (2, .int x2), (3, .int x3), (4, .int x4), (5, .int x5)] [] := by
  intro H locs ls hw hl
  have hx := C.1
  have hb := C.2.1
  unfold BX8_rests_118 at hf
  obtain ⟨y_1, e_2, hf⟩ := sn_ltE hf
  refine lv_iinc (v := y_1) (lv' := [(5, .int y_1), (0, .ref (ad 0)), (1, .int x1), (2, .int x2), (3, .int x3), (4, .int x4)]) hx hb dX8_rests_118 hl (k := 5) rfl (by rw [e_2]; rfl) (by decide) rfl (fun ls hl => ?_)
  refine lv_goto (tgt := 38) hx hb dX8_rests_121 (by decide) ?_
  cases hf
  exact kc _ rfl _ _ _ hw (lv_sub hl [1, 2, 3, 4, 5, 0] rfl)
theorem wX8_rests_74 (C : sn_C p s m args meth c RX8 cX8_rests 7 (some .int) D ct ad layC) {σ : sn_S} {x1 : Int32} {x2 : Int32} {x3 : Int32} {x4 : Int32} {x5 : Int32} {t0 : Int32}  {o : (sn_S × Int32 × Int32) ⊕ (sn_S × Int32)} (hf : BX8_rests_74 σ x1 x2 x3 x4 x5 t0 = some o) (kc : ∀ v, o = .inl v → sn_At p l e rmX8_rests s m args below meth c Q D ct ad layC 7 v.1 38 [(0, .ref (ad 0)), (1, .int x1), (2, .int x2), (3, .int v.2.1), (4, .int x4), (5, .int v.2.2)] []) (kx : ∀ v, o = .inr v → sn_At p l e rmX8_rests s m args below meth c Q D ct ad layC 7 v.1 124 [(0, .ref (ad 0)), (1, .int x1), (2, .int x2), (3, .int v.2), (4, .int x4)] []) : sn_At p l e rmX8_rests s m args below meth c Q D ct ad layC 7 σ 74 [(0, .ref (ad 0)), (1, .int x1), (2, .int x2), (3, .int x3), (4, .int x4), (5, .int x5)] [.int t0] := by
  intro H locs ls hw hl
  have hx := C.1
  have hb := C.2.1
  unfold BX8_rests_74 at hf
  refine lv_istore (lv' := [(6, .int t0), (0, .ref (ad 0)), (1, .int x1), (2, .int x2), (3, .int x3), (4, .int x4), (5, .int x5)]) hx hb dX8_rests_74 hl (by decide) rfl (fun ls hl => ?_)
  refine lv_iload hx hb dX8_rests_76 (lv_at hl 0 rfl) ?_
  refine lv_if_eq (tgt := 118) hx hb dX8_rests_78 (by decide) (fun c_1 => ?_) (fun c_1 => ?_)
  · have hf := sn_if c_1 hf
    exact wX8_rests_118 C  hf kc kx _ _ _ hw (lv_sub hl [1, 2, 3, 4, 5, 6] rfl)
  · have hf := sn_el c_1 hf
    refine lv_aload_n hx hb dX8_rests_81 rfl (lv_at hl 1 rfl) ?_
    refine lv_iload_n hx hb dX8_rests_82 rfl (lv_at hl 3 rfl) ?_
    refine lv_iload_n hx hb dX8_rests_83 rfl (lv_at hl 2 rfl) ?_
    refine lv_iload hx hb dX8_rests_84 (lv_at hl 6 rfl) ?_
    refine lv_iload hx hb dX8_rests_86 (lv_at hl 5 rfl) ?_
    obtain ⟨t_2, h_3, hf⟩ := sn_bd hf
    refine sn_callVi (rest := []) C hw (ctX8_lossOf l  h_3) kl_RX8_312 layC_0 rfl rfl rfl rfl (Nat.le_of_ble_eq_true rfl) dX8_rests_88 hl.1 (fun H locs hw => ?_)
    refine lv_aload_n hx hb dX8_rests_91 rfl (lv_at hl 1 rfl) ?_
    refine lv_iload_n hx hb dX8_rests_92 rfl (lv_at hl 3 rfl) ?_
    refine lv_iload_n hx hb dX8_rests_93 rfl (lv_at hl 2 rfl) ?_
    refine lv_iconst (v := 1) hx hb dX8_rests_94 rfl ?_
    refine lv_iload hx hb dX8_rests_95 (lv_at hl 6 rfl) ?_
    refine lv_isub hx hb dX8_rests_97 ?_
    refine lv_iload hx hb dX8_rests_98 (lv_at hl 5 rfl) ?_
    obtain ⟨t_4, h_5, hf⟩ := sn_bd hf
    refine sn_callVi (rest := [.int t_2.1]) C hw (ctX8_lossOf l  h_5) kl_RX8_312 layC_0 rfl rfl rfl rfl (Nat.le_of_ble_eq_true rfl) dX8_rests_100 hl.1 (fun H locs hw => ?_)
    refine lv_icmp_gt (tgt := 118) hx hb dX8_rests_103 (by decide) (fun c_6 => ?_) (fun c_6 => ?_)
    · have hf := sn_if c_6 hf
      exact wX8_rests_118 C  hf kc kx _ _ _ hw (lv_sub hl [1, 2, 3, 4, 5, 6] rfl)
    · have hf := sn_el c_6 hf
      refine lv_iload_n hx hb dX8_rests_106 rfl (lv_at hl 4 rfl) ?_
      refine lv_iconst (v := 1) hx hb dX8_rests_107 rfl ?_
      refine lv_iload hx hb dX8_rests_108 (lv_at hl 5 rfl) ?_
      refine lv_iconst (v := 2) hx hb dX8_rests_110 rfl ?_
      refine lv_iload hx hb dX8_rests_111 (lv_at hl 6 rfl) ?_
      refine lv_imul hx hb dX8_rests_113 ?_
      refine lv_iadd hx hb dX8_rests_114 ?_
      refine lv_ishl hx hb dX8_rests_115 ?_
      refine lv_ior hx hb dX8_rests_116 ?_
      obtain ⟨y_7, e_8, hf⟩ := sn_ltE hf
      refine lv_topi (fun y_7_ e_8_ => ?_)
      obtain rfl : y_7 = y_7_ := e_8.trans e_8_.symm
      refine lv_istore_n (lv' := [(3, .int y_7), (6, .int t0), (0, .ref (ad 0)), (1, .int x1), (2, .int x2), (4, .int x4), (5, .int x5)]) hx hb dX8_rests_117 rfl hl (by decide) rfl (fun ls hl => ?_)
      exact wX8_rests_118 C  hf kc kx _ _ _ hw (lv_sub hl [2, 3, 4, 0, 5, 6] rfl)
theorem wX8_rests_38 (C : sn_C p s m args meth c RX8 cX8_rests 7 (some .int) D ct ad layC) {σ : sn_S} {x1 : Int32} {x2 : Int32} {x3 : Int32} {x4 : Int32} {x5 : Int32}  {o : (sn_S × Int32 × Int32) ⊕ (sn_S × Int32)} (hf : BX8_rests_38 σ x1 x2 x3 x4 x5 = some o) (kc : ∀ v, o = .inl v → sn_At p l e rmX8_rests s m args below meth c Q D ct ad layC 7 v.1 38 [(0, .ref (ad 0)), (1, .int x1), (2, .int x2), (3, .int v.2.1), (4, .int x4), (5, .int v.2.2)] []) (kx : ∀ v, o = .inr v → sn_At p l e rmX8_rests s m args below meth c Q D ct ad layC 7 v.1 124 [(0, .ref (ad 0)), (1, .int x1), (2, .int x2), (3, .int v.2), (4, .int x4)] []) : sn_At p l e rmX8_rests s m args below meth c Q D ct ad layC 7 σ 38 [(0, .ref (ad 0)), (1, .int x1), (2, .int x2), (3, .int x3), (4, .int x4), (5, .int x5)] [] := by
  intro H locs ls hw hl
  have hx := C.1
  have hb := C.2.1
  unfold BX8_rests_38 at hf
  refine lv_iload hx hb dX8_rests_38 (lv_at hl 5 rfl) ?_
  refine lv_iconst (v := 2) hx hb dX8_rests_40 rfl ?_
  refine lv_icmp_ge (tgt := 124) hx hb dX8_rests_41 (by decide) (fun c_1 => ?_) (fun c_1 => ?_)
  · have hf := sn_if c_1 hf
    cases hf
    exact kx _ rfl _ _ _ hw (lv_sub hl [0, 1, 2, 3, 4] rfl)
  · have hf := sn_el c_1 hf
    refine lv_aload_n hx hb dX8_rests_44 rfl (lv_at hl 0 rfl) ?_
    refine lv_iload_n hx hb dX8_rests_45 rfl (lv_at hl 1 rfl) ?_
    refine lv_iload_n hx hb dX8_rests_46 rfl (lv_at hl 2 rfl) ?_
    refine lv_iload hx hb dX8_rests_47 (lv_at hl 4 rfl) ?_
    refine lv_iload hx hb dX8_rests_49 (lv_at hl 5 rfl) ?_
    obtain ⟨t_2, h_3, hf⟩ := sn_bd hf
    refine sn_callVi (rest := []) C hw (ctX8_lossOf l  h_3) kl_RX8_312 layC_0 rfl rfl rfl rfl (Nat.le_of_ble_eq_true rfl) dX8_rests_51 hl.1 (fun H locs hw => ?_)
    refine lv_aload_n hx hb dX8_rests_54 rfl (lv_at hl 0 rfl) ?_
    refine lv_iload_n hx hb dX8_rests_55 rfl (lv_at hl 1 rfl) ?_
    refine lv_iload_n hx hb dX8_rests_56 rfl (lv_at hl 2 rfl) ?_
    refine lv_iconst (v := 1) hx hb dX8_rests_57 rfl ?_
    refine lv_iload hx hb dX8_rests_58 (lv_at hl 4 rfl) ?_
    refine lv_isub hx hb dX8_rests_60 ?_
    refine lv_iload hx hb dX8_rests_61 (lv_at hl 5 rfl) ?_
    obtain ⟨t_4, h_5, hf⟩ := sn_bd hf
    refine sn_callVi (rest := [.int t_2.1]) C hw (ctX8_lossOf l  h_5) kl_RX8_312 layC_0 rfl rfl rfl rfl (Nat.le_of_ble_eq_true rfl) dX8_rests_63 hl.1 (fun H locs hw => ?_)
    refine lv_icmp_gt (tgt := 73) hx hb dX8_rests_66 (by decide) (fun c_6 => ?_) (fun c_6 => ?_)
    · have hf := sn_if c_6 hf
      refine lv_iconst (v := 0) hx hb dX8_rests_73 rfl ?_
      exact wX8_rests_74 C  hf kc kx _ _ _ hw (lv_sub hl [0, 1, 2, 3, 4, 5] rfl)
    · have hf := sn_el c_6 hf
      refine lv_iconst (v := 1) hx hb dX8_rests_69 rfl ?_
      refine lv_goto (tgt := 74) hx hb dX8_rests_70 (by decide) ?_
      exact wX8_rests_74 C  hf kc kx _ _ _ hw (lv_sub hl [0, 1, 2, 3, 4, 5] rfl)
theorem wX8_rests_L38 (C : sn_C p s m args meth c RX8 cX8_rests 7 (some .int) D ct ad layC) {x1 : Int32} {x2 : Int32} {x4 : Int32}   {z : sn_S × Int32 × Int32} {t : sn_S × Int32} (h : sn_it (LX8_rests_38 x1 x2 x4) 5000 z = some t) (kx : ∀ v, t = v → sn_At p l e rmX8_rests s m args below meth c Q D ct ad layC 7 v.1 124 [(0, .ref (ad 0)), (1, .int x1), (2, .int x2), (3, .int v.2), (4, .int x4)] []) : sn_At p l e rmX8_rests s m args below meth c Q D ct ad layC 7 z.1 38 [(0, .ref (ad 0)), (1, .int x1), (2, .int x2), (3, .int z.2.1), (4, .int x4), (5, .int z.2.2)] [] :=
  sn_loop (f := LX8_rests_38 x1 x2 x4) (G := fun z => sn_At p l e rmX8_rests s m args below meth c Q D ct ad layC 7 z.1 38 [(0, .ref (ad 0)), (1, .int x1), (2, .int x2), (3, .int z.2.1), (4, .int x4), (5, .int z.2.2)] []) (E := fun t => (∀ v, t = v → sn_At p l e rmX8_rests s m args below meth c Q D ct ad layC 7 v.1 124 [(0, .ref (ad 0)), (1, .int x1), (2, .int x2), (3, .int v.2), (4, .int x4)] []) ∧ True) (fun z o hf k1 k2 => wX8_rests_38 C  hf (fun v e => k1 v e) (fun v e => (k2 _ e).1 v rfl)) 5000 z t h ⟨kx, trivial⟩
theorem wX8_rests_29 (C : sn_C p s m args meth c RX8 cX8_rests 7 (some .int) D ct ad layC) {σ : sn_S} {x1 : Int32} {x2 : Int32} {x3 : Int32} {x4 : Int32}  {o : (sn_S × Int32 × Int32) ⊕ (sn_S × Int32)} (hf : BX8_rests_29 σ x1 x2 x3 x4 = some o) (kc : ∀ v, o = .inl v → sn_At p l e rmX8_rests s m args below meth c Q D ct ad layC 7 v.1 29 [(0, .ref (ad 0)), (1, .int x1), (2, .int x2), (3, .int v.2.1), (4, .int v.2.2)] []) (kx : ∀ v, o = .inr v → sn_At p l e rmX8_rests s m args below meth c Q D ct ad layC 7 v.1 130 [(3, .int v.2)] []) : sn_At p l e rmX8_rests s m args below meth c Q D ct ad layC 7 σ 29 [(0, .ref (ad 0)), (1, .int x1), (2, .int x2), (3, .int x3), (4, .int x4)] [] := by
  intro H locs ls hw hl
  have hx := C.1
  have hb := C.2.1
  unfold BX8_rests_29 at hf
  refine lv_iload hx hb dX8_rests_29 (lv_at hl 4 rfl) ?_
  refine lv_iconst (v := 2) hx hb dX8_rests_31 rfl ?_
  refine lv_icmp_ge (tgt := 130) hx hb dX8_rests_32 (by decide) (fun c_1 => ?_) (fun c_1 => ?_)
  · have hf := sn_if c_1 hf
    cases hf
    exact kx _ rfl _ _ _ hw (lv_sub hl [3] rfl)
  · have hf := sn_el c_1 hf
    refine lv_iconst (v := 0) hx hb dX8_rests_35 rfl ?_
    refine lv_istore (lv' := [(5, .int (0 : Int32)), (0, .ref (ad 0)), (1, .int x1), (2, .int x2), (3, .int x3), (4, .int x4)]) hx hb dX8_rests_36 hl (by decide) rfl (fun ls hl => ?_)
    obtain ⟨t_2, h_3, hf⟩ := sn_bd hf
    exact wX8_rests_L38 C  h_3 (fun v e => by cases e; exact wX8_rests_124 C  hf kc kx) _ _ _ hw (lv_sub hl [1, 2, 3, 4, 5, 0] rfl)
theorem wX8_rests_L29 (C : sn_C p s m args meth c RX8 cX8_rests 7 (some .int) D ct ad layC) {x1 : Int32} {x2 : Int32}   {z : sn_S × Int32 × Int32} {t : sn_S × Int32} (h : sn_it (LX8_rests_29 x1 x2) 5000 z = some t) (kx : ∀ v, t = v → sn_At p l e rmX8_rests s m args below meth c Q D ct ad layC 7 v.1 130 [(3, .int v.2)] []) : sn_At p l e rmX8_rests s m args below meth c Q D ct ad layC 7 z.1 29 [(0, .ref (ad 0)), (1, .int x1), (2, .int x2), (3, .int z.2.1), (4, .int z.2.2)] [] :=
  sn_loop (f := LX8_rests_29 x1 x2) (G := fun z => sn_At p l e rmX8_rests s m args below meth c Q D ct ad layC 7 z.1 29 [(0, .ref (ad 0)), (1, .int x1), (2, .int x2), (3, .int z.2.1), (4, .int z.2.2)] []) (E := fun t => (∀ v, t = v → sn_At p l e rmX8_rests s m args below meth c Q D ct ad layC 7 v.1 130 [(3, .int v.2)] []) ∧ True) (fun z o hf k1 k2 => wX8_rests_29 C  hf (fun v e => k1 v e) (fun v e => (k2 _ e).1 v rfl)) 5000 z t h ⟨kx, trivial⟩
theorem wX8_rests_in (C : sn_C p s m args meth c RX8 cX8_rests 7 (some .int) D ct ad layC) {σ : sn_S} {x1 : Int32} {x2 : Int32}  {o : (Int32 × sn_S)} (hf : fX8_rests σ x1 x2 = some o) (kr : sn_Kr p l e rmX8_rests s m args below meth c Q D ct ad layC cX8_rests .ireturn (true) o.2 [.int o.1]) : sn_At p l e rmX8_rests s m args below meth c Q D ct ad layC 7 σ 0 [(0, .ref (ad 0)), (1, .int x1), (2, .int x2)] [] := by
  intro H locs ls hw hl
  have hx := C.1
  have hb := C.2.1
  unfold fX8_rests at hf
  refine lv_aload_n hx hb dX8_rests_0 rfl (lv_at hl 0 rfl) ?_
  refine lv_iload_n hx hb dX8_rests_1 rfl (lv_at hl 1 rfl) ?_
  obtain ⟨t_1, h_2, hf⟩ := sn_bd hf
  refine sn_callVi (rest := []) C hw (ctX8_isPerson l  h_2) kl_RX8_109 layC_0 rfl rfl rfl rfl (Nat.le_of_ble_eq_true rfl) dX8_rests_2 hl.1 (fun H locs hw => ?_)
  refine lv_if_eq (tgt := 21) hx hb dX8_rests_5 (by decide) (fun c_3 => ?_) (fun c_3 => ?_)
  · have hf := sn_if c_3 hf
    refine lv_bipush (v := (-2)) hx hb dX8_rests_21 (by decide) ?_
    cases hf
    exact kr _ _ _ _ hw rfl dX8_rests_23
  · have hf := sn_el c_3 hf
    refine lv_aload_n hx hb dX8_rests_8 rfl (lv_at hl 0 rfl) ?_
    refine lv_iload_n hx hb dX8_rests_9 rfl (lv_at hl 2 rfl) ?_
    obtain ⟨t_4, h_5, hf⟩ := sn_bd hf
    refine sn_callVi (rest := []) C hw (ctX8_isPerson l  h_5) kl_RX8_109 layC_0 rfl rfl rfl rfl (Nat.le_of_ble_eq_true rfl) dX8_rests_10 hl.1 (fun H locs hw => ?_)
    refine lv_if_eq (tgt := 21) hx hb dX8_rests_13 (by decide) (fun c_6 => ?_) (fun c_6 => ?_)
    · have hf := sn_if c_6 hf
      refine lv_bipush (v := (-2)) hx hb dX8_rests_21 (by decide) ?_
      cases hf
      exact kr _ _ _ _ hw rfl dX8_rests_23
    · have hf := sn_el c_6 hf
      refine lv_iload_n hx hb dX8_rests_16 rfl (lv_at hl 1 rfl) ?_
      refine lv_iload_n hx hb dX8_rests_17 rfl (lv_at hl 2 rfl) ?_
      refine lv_icmp_ne (tgt := 24) hx hb dX8_rests_18 (by decide) (fun c_7 => ?_) (fun c_7 => ?_)
      · have hf := sn_el c_7 hf
        refine lv_iconst (v := 0) hx hb dX8_rests_24 rfl ?_
        refine lv_istore_n (lv' := [(3, .int (0 : Int32)), (0, .ref (ad 0)), (1, .int x1), (2, .int x2)]) hx hb dX8_rests_25 rfl hl (by decide) rfl (fun ls hl => ?_)
        refine lv_iconst (v := 0) hx hb dX8_rests_26 rfl ?_
        refine lv_istore (lv' := [(4, .int (0 : Int32)), (3, .int (0 : Int32)), (0, .ref (ad 0)), (1, .int x1), (2, .int x2)]) hx hb dX8_rests_27 hl (by decide) rfl (fun ls hl => ?_)
        obtain ⟨t_8, h_9, hf⟩ := sn_bd hf
        exact wX8_rests_L29 C  h_9 (fun v e => by cases e; exact wX8_rests_130 C  hf kr) _ _ _ hw (lv_sub hl [2, 3, 4, 1, 0] rfl)
      · have hf := sn_if c_7 hf
        refine lv_bipush (v := (-2)) hx hb dX8_rests_21 (by decide) ?_
        cases hf
        exact kr _ _ _ _ hw rfl dX8_rests_23
theorem ctX8_rests (l : Launch) {σ : sn_S} {x1 : Int32} {x2 : Int32}  {o : (Int32 × sn_S)} (hf : fX8_rests σ x1 x2 = some o) : sn_M l yX8_rests cX8_rests 7 (some .int) rmX8_rests layC (fun ad => [.ref (ad 0), .int x1, .int x2]) σ (some (fun _ => .int o.1)) o.2 :=
  sn_met (by decide) (fun _ => Nat.le_of_ble_eq_true rfl) (fun p e s m args below meth c ls D ct ad C hw hl => wX8_rests_in C  hf (fun H locs ls pc hw ok hd => sn_iret C hw hd) _ _ _ hw hl)
-- X8_loses
abbrev rmX8_loses : Room := { frames := 6, cells := 0, slots := 0, locals := 138 }
def fX8_loses (σ : sn_S) (x1 : Int32) (x2 : Int32) (x3 : Int32) (x4 : Int32) : Option (Int32 × sn_S) :=
  ((fX8_isPerson σ x1).bind fun t_1 => (if t_1 = 0 then
  (some ((-2 : Int32), σ))
  else
  ((fX8_isPerson σ x2).bind fun t_4 => (if t_4 = 0 then
  (some ((-2 : Int32), σ))
  else
  (if x1 = x2 then
  (some ((-2 : Int32), σ))
  else
  (if x3 < 0 then
  (some ((-2 : Int32), σ))
  else
  (if (1 : Int32) < x3 then
  (some ((-2 : Int32), σ))
  else
  (if x4 < 0 then
  (some ((-2 : Int32), σ))
  else
  (if x4 ≤ (1 : Int32) then
  ((fX8_lossOf σ x1 x2 x3 x4).bind fun t_12 => (some (t_12.1, t_12.2)))
  else
  (some ((-2 : Int32), σ)))))))))))
theorem wX8_loses_in (C : sn_C p s m args meth c RX8 cX8_loses 5 (some .int) D ct ad layC) {σ : sn_S} {x1 : Int32} {x2 : Int32} {x3 : Int32} {x4 : Int32}  {o : (Int32 × sn_S)} (hf : fX8_loses σ x1 x2 x3 x4 = some o) (kr : sn_Kr p l e rmX8_loses s m args below meth c Q D ct ad layC cX8_loses .ireturn (true) o.2 [.int o.1]) : sn_At p l e rmX8_loses s m args below meth c Q D ct ad layC 5 σ 0 [(0, .ref (ad 0)), (1, .int x1), (2, .int x2), (3, .int x3), (4, .int x4)] [] := by
  intro H locs ls hw hl
  have hx := C.1
  have hb := C.2.1
  unfold fX8_loses at hf
  refine lv_aload_n hx hb dX8_loses_0 rfl (lv_at hl 0 rfl) ?_
  refine lv_iload_n hx hb dX8_loses_1 rfl (lv_at hl 1 rfl) ?_
  obtain ⟨t_1, h_2, hf⟩ := sn_bd hf
  refine sn_callVi (rest := []) C hw (ctX8_isPerson l  h_2) kl_RX8_109 layC_0 rfl rfl rfl rfl (Nat.le_of_ble_eq_true rfl) dX8_loses_2 hl.1 (fun H locs hw => ?_)
  refine lv_if_eq (tgt := 21) hx hb dX8_loses_5 (by decide) (fun c_3 => ?_) (fun c_3 => ?_)
  · have hf := sn_if c_3 hf
    refine lv_bipush (v := (-2)) hx hb dX8_loses_21 (by decide) ?_
    cases hf
    exact kr _ _ _ _ hw rfl dX8_loses_23
  · have hf := sn_el c_3 hf
    refine lv_aload_n hx hb dX8_loses_8 rfl (lv_at hl 0 rfl) ?_
    refine lv_iload_n hx hb dX8_loses_9 rfl (lv_at hl 2 rfl) ?_
    obtain ⟨t_4, h_5, hf⟩ := sn_bd hf
    refine sn_callVi (rest := []) C hw (ctX8_isPerson l  h_5) kl_RX8_109 layC_0 rfl rfl rfl rfl (Nat.le_of_ble_eq_true rfl) dX8_loses_10 hl.1 (fun H locs hw => ?_)
    refine lv_if_eq (tgt := 21) hx hb dX8_loses_13 (by decide) (fun c_6 => ?_) (fun c_6 => ?_)
    · have hf := sn_if c_6 hf
      refine lv_bipush (v := (-2)) hx hb dX8_loses_21 (by decide) ?_
      cases hf
      exact kr _ _ _ _ hw rfl dX8_loses_23
    · have hf := sn_el c_6 hf
      refine lv_iload_n hx hb dX8_loses_16 rfl (lv_at hl 1 rfl) ?_
      refine lv_iload_n hx hb dX8_loses_17 rfl (lv_at hl 2 rfl) ?_
      refine lv_icmp_ne (tgt := 24) hx hb dX8_loses_18 (by decide) (fun c_7 => ?_) (fun c_7 => ?_)
      · have hf := sn_el c_7 hf
        refine lv_iload_n hx hb dX8_loses_24 rfl (lv_at hl 3 rfl) ?_
        refine lv_if_lt (tgt := 44) hx hb dX8_loses_25 (by decide) (fun c_8 => ?_) (fun c_8 => ?_)
        · have hf := sn_if c_8 hf
          refine lv_bipush (v := (-2)) hx hb dX8_loses_44 (by decide) ?_
          cases hf
          exact kr _ _ _ _ hw rfl dX8_loses_46
        · have hf := sn_el c_8 hf
          refine lv_iload_n hx hb dX8_loses_28 rfl (lv_at hl 3 rfl) ?_
          refine lv_iconst (v := 1) hx hb dX8_loses_29 rfl ?_
          refine lv_icmp_gt (tgt := 44) hx hb dX8_loses_30 (by decide) (fun c_9 => ?_) (fun c_9 => ?_)
          · have hf := sn_if c_9 hf
            refine lv_bipush (v := (-2)) hx hb dX8_loses_44 (by decide) ?_
            cases hf
            exact kr _ _ _ _ hw rfl dX8_loses_46
          · have hf := sn_el c_9 hf
            refine lv_iload hx hb dX8_loses_33 (lv_at hl 4 rfl) ?_
            refine lv_if_lt (tgt := 44) hx hb dX8_loses_35 (by decide) (fun c_10 => ?_) (fun c_10 => ?_)
            · have hf := sn_if c_10 hf
              refine lv_bipush (v := (-2)) hx hb dX8_loses_44 (by decide) ?_
              cases hf
              exact kr _ _ _ _ hw rfl dX8_loses_46
            · have hf := sn_el c_10 hf
              refine lv_iload hx hb dX8_loses_38 (lv_at hl 4 rfl) ?_
              refine lv_iconst (v := 1) hx hb dX8_loses_40 rfl ?_
              refine lv_icmp_le (tgt := 47) hx hb dX8_loses_41 (by decide) (fun c_11 => ?_) (fun c_11 => ?_)
              · have hf := sn_if c_11 hf
                refine lv_aload_n hx hb dX8_loses_47 rfl (lv_at hl 0 rfl) ?_
                refine lv_iload_n hx hb dX8_loses_48 rfl (lv_at hl 1 rfl) ?_
                refine lv_iload_n hx hb dX8_loses_49 rfl (lv_at hl 2 rfl) ?_
                refine lv_iload_n hx hb dX8_loses_50 rfl (lv_at hl 3 rfl) ?_
                refine lv_iload hx hb dX8_loses_51 (lv_at hl 4 rfl) ?_
                obtain ⟨t_12, h_13, hf⟩ := sn_bd hf
                refine sn_callVi (rest := []) C hw (ctX8_lossOf l  h_13) kl_RX8_312 layC_0 rfl rfl rfl rfl (Nat.le_of_ble_eq_true rfl) dX8_loses_53 hl.1 (fun H locs hw => ?_)
                cases hf
                exact kr _ _ _ _ hw rfl dX8_loses_56
              · have hf := sn_el c_11 hf
                refine lv_bipush (v := (-2)) hx hb dX8_loses_44 (by decide) ?_
                cases hf
                exact kr _ _ _ _ hw rfl dX8_loses_46
      · have hf := sn_if c_7 hf
        refine lv_bipush (v := (-2)) hx hb dX8_loses_21 (by decide) ?_
        cases hf
        exact kr _ _ _ _ hw rfl dX8_loses_23
theorem ctX8_loses (l : Launch) {σ : sn_S} {x1 : Int32} {x2 : Int32} {x3 : Int32} {x4 : Int32}  {o : (Int32 × sn_S)} (hf : fX8_loses σ x1 x2 x3 x4 = some o) : sn_M l yX8_loses cX8_loses 5 (some .int) rmX8_loses layC (fun ad => [.ref (ad 0), .int x1, .int x2, .int x3, .int x4]) σ (some (fun _ => .int o.1)) o.2 :=
  sn_met (by decide) (fun _ => Nat.le_of_ble_eq_true rfl) (fun p e s m args below meth c ls D ct ad C hw hl => wX8_loses_in C  hf (fun H locs ls pc hw ok hd => sn_iret C hw hd) _ _ _ hw hl)
-- X8_isPuffMinute
abbrev rmX8_isPuffMinute : Room := { frames := 1, cells := 0, slots := 0, locals := 21 }
def fX8_isPuffMinute (σ : sn_S) (x1 : Int32) : Option Int32 :=
  ((fX8_isMinute σ x1).bind fun t_1 => (if t_1 = 0 then
  (sn_gd (sn_b01 (0 : Int32)) (some (0 : Int32)))
  else
  (if (7 : Int32) < x1 then
  (sn_gd (sn_b01 (0 : Int32)) (some (0 : Int32)))
  else
  (sn_gd (sn_b01 (1 : Int32)) (some (1 : Int32))))))
theorem wX8_isPuffMinute_in (C : sn_C p s m args meth c RX8 cX8_isPuffMinute 2 (some .boolean) D ct ad layC) {σ : sn_S} {x1 : Int32}  {o : Int32} (hf : fX8_isPuffMinute σ x1 = some o) (kr : sn_Kr p l e rmX8_isPuffMinute s m args below meth c Q D ct ad layC cX8_isPuffMinute .ireturn (sn_b01 o) σ [.int o]) : sn_At p l e rmX8_isPuffMinute s m args below meth c Q D ct ad layC 2 σ 0 [(0, .ref (ad 0)), (1, .int x1)] [] := by
  intro H locs ls hw hl
  have hx := C.1
  have hb := C.2.1
  unfold fX8_isPuffMinute at hf
  refine lv_aload_n hx hb dX8_isPuffMinute_0 rfl (lv_at hl 0 rfl) ?_
  refine lv_iload_n hx hb dX8_isPuffMinute_1 rfl (lv_at hl 1 rfl) ?_
  obtain ⟨t_1, h_2, hf⟩ := sn_bd hf
  refine sn_callVi (rest := []) C hw (ctX8_isMinute l  h_2) kl_RX8_127 layC_0 rfl rfl rfl rfl (Nat.le_of_ble_eq_true rfl) dX8_isPuffMinute_2 hl.1 (fun H locs hw => ?_)
  refine lv_if_eq (tgt := 18) hx hb dX8_isPuffMinute_5 (by decide) (fun c_3 => ?_) (fun c_3 => ?_)
  · have hf := sn_if c_3 hf
    refine lv_iconst (v := 0) hx hb dX8_isPuffMinute_18 rfl ?_
    obtain ⟨g_4, hf⟩ := sn_gdE hf
    cases hf
    exact kr _ _ _ _ hw g_4 dX8_isPuffMinute_19
  · have hf := sn_el c_3 hf
    refine lv_iload_n hx hb dX8_isPuffMinute_8 rfl (lv_at hl 1 rfl) ?_
    refine lv_bipush (v := 7) hx hb dX8_isPuffMinute_9 (by decide) ?_
    refine lv_icmp_gt (tgt := 18) hx hb dX8_isPuffMinute_11 (by decide) (fun c_5 => ?_) (fun c_5 => ?_)
    · have hf := sn_if c_5 hf
      refine lv_iconst (v := 0) hx hb dX8_isPuffMinute_18 rfl ?_
      obtain ⟨g_6, hf⟩ := sn_gdE hf
      cases hf
      exact kr _ _ _ _ hw g_6 dX8_isPuffMinute_19
    · have hf := sn_el c_5 hf
      refine lv_iconst (v := 1) hx hb dX8_isPuffMinute_14 rfl ?_
      refine lv_goto (tgt := 19) hx hb dX8_isPuffMinute_15 (by decide) ?_
      obtain ⟨g_7, hf⟩ := sn_gdE hf
      cases hf
      exact kr _ _ _ _ hw g_7 dX8_isPuffMinute_19
theorem ctX8_isPuffMinute (l : Launch) {σ : sn_S} {x1 : Int32}  {o : Int32} (hf : fX8_isPuffMinute σ x1 = some o) : sn_M l yX8_isPuffMinute cX8_isPuffMinute 2 (some .boolean) rmX8_isPuffMinute layC (fun ad => [.ref (ad 0), .int x1]) σ (some (fun _ => .int o)) σ :=
  sn_met (by decide) (fun _ => Nat.le_of_ble_eq_true rfl) (fun p e s m args below meth c ls D ct ad C hw hl => wX8_isPuffMinute_in C  hf (fun H locs ls pc hw ok hd => sn_zret C hw ok hd) _ _ _ hw hl)
end
