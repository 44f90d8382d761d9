section
variable {p : Program} {l : Launch} {e : Env} {s : State} {m : MethodId} {args : Array Value} {below : List Frame} {meth : Method} {c : Code} {Q : State → Prop} {D : va_G} {ct : Nat → ClassId} {ad : Nat → Nat} {A : Nat → Prop} {lay : List sn_E}
-- X9_readNet
abbrev rmX9_readNet : Room := { frames := 3, cells := 0, slots := 0, locals := 76 }
def BX9_readNet_67 (σ : sn_S) (x1 : Int32) (x2 : Int32) : Option (sn_S) :=
  ((fX9_number σ (0 : Int32) x2).bind fun t_1 => (sn_gd (sn_in (x1 + (1 : Int32)) 119) (sn_lt (sn_pI t_1.2 6 (x1 + (1 : Int32)).toNatClampNeg t_1.1) fun σ_4 => (sn_gd (sn_in (7 : Int32) 119) (sn_gd (sn_in (7 : Int32) 119) (sn_lt (sn_pI σ_4 6 (7 : Int32).toNatClampNeg ((sn_I σ_4 6 (7 : Int32).toNatClampNeg) + (1 : Int32))) fun σ_8 => (some σ_8)))))))
def fX9_readNet (σ : sn_S) : Option sn_S :=
  (sn_gd (sn_in (7 : Int32) 119) (sn_lt ((33 : Int32) + ((2 : Int32) * (sn_I σ 6 (7 : Int32).toNatClampNeg))) fun y_2 => (sn_gd (sn_in (5 : Int32) 119) (sn_lt ((sn_I σ 6 (5 : Int32).toNatClampNeg) - (1 : Int32)) fun y_5 => ((fX9_number σ (0 : Int32) y_5).bind fun t_7 => (sn_gd (sn_in y_2 119) (sn_lt (sn_pI t_7.2 6 y_2.toNatClampNeg t_7.1) fun σ_10 => ((fX9_good σ_10).bind fun t_12 => (if t_12 = 0 then
  (BX9_readNet_67 σ_10 y_2 y_5)
  else
  (if (sn_I σ_10 0 10) = (2 : Int32) then
  (sn_gd (sn_in y_2 119) (if (sn_I σ_10 0 11) = (sn_I σ_10 6 y_2.toNatClampNeg) then
  ((fX9_errs σ_10 (2 : Int32)).bind fun t_18 => (BX9_readNet_67 t_18 y_2 y_5))
  else
  (BX9_readNet_67 σ_10 y_2 y_5)))
  else
  (BX9_readNet_67 σ_10 y_2 y_5)))))))))))
theorem wX9_readNet_67 (C : sn_C p s m args meth c RX9 cX9_readNet 3 none D ct ad layM A) {σ : sn_S} {x1 : Int32} {x2 : Int32}  {o : sn_S} (hf : BX9_readNet_67 σ x1 x2 = some o) (kr : sn_Kr p l e rmX9_readNet s m args below meth c Q D ct ad layM A cX9_readNet .return_ (true) o []) : sn_At p l e rmX9_readNet s m args below meth c Q D ct ad layM A 3 σ 67 [(0, .ref (ad 0)), (1, .int x1), (2, .int x2)] [] := by
  intro H locs ls hw hl
  have hx := C.1
  have hb := C.2.1
  unfold BX9_readNet_67 at hf
  refine lv_aload_n hx hb dX9_readNet_67 rfl (lv_at hl 0 rfl) ?_
  refine sn_getC (r := 6) C hw fd_RX9_31 layM_0 rfl dX9_readNet_68 ?_
  refine lv_iload_n hx hb dX9_readNet_71 rfl (lv_at hl 1 rfl) ?_
  refine lv_iconst (v := 1) hx hb dX9_readNet_72 rfl ?_
  refine lv_iadd hx hb dX9_readNet_73 ?_
  refine lv_aload_n hx hb dX9_readNet_74 rfl (lv_at hl 0 rfl) ?_
  refine lv_iconst (v := 0) hx hb dX9_readNet_75 rfl ?_
  refine lv_iload_n hx hb dX9_readNet_76 rfl (lv_at hl 2 rfl) ?_
  obtain ⟨t_1, h_2, hf⟩ := sn_bd hf
  refine sn_callVi (rest := [.int (x1 + (1 : Int32)), .ref (ad 6)]) C hw (ctX9_number l  h_2) kl_RX9_172 layM_0 rfl rfl rfl rfl (Nat.le_of_ble_eq_true rfl) dX9_readNet_77 hl.1 (fun H locs hw => ?_)
  obtain ⟨g_3, hf⟩ := sn_gdE hf
  refine sn_iast C hw layM_6 g_3 dX9_readNet_80 (fun H locs hw => ?_)
  obtain ⟨σ_4, e_5, hf⟩ := sn_ltE hf
  rw [← e_5] at hw
  refine lv_aload_n hx hb dX9_readNet_81 rfl (lv_at hl 0 rfl) ?_
  refine sn_getC (r := 6) C hw fd_RX9_31 layM_0 rfl dX9_readNet_82 ?_
  refine lv_bipush (v := 7) hx hb dX9_readNet_85 (by decide) ?_
  refine lv_dup2_11 hx hb dX9_readNet_87 rfl rfl ?_
  obtain ⟨g_6, hf⟩ := sn_gdE hf
  refine sn_iald C hw layM_6 g_6 dX9_readNet_88 ?_
  refine lv_iconst (v := 1) hx hb dX9_readNet_89 rfl ?_
  refine lv_iadd hx hb dX9_readNet_90 ?_
  obtain ⟨g_7, hf⟩ := sn_gdE hf
  refine sn_iast C hw layM_6 g_7 dX9_readNet_91 (fun H locs hw => ?_)
  obtain ⟨σ_8, e_9, hf⟩ := sn_ltE hf
  rw [← e_9] at hw
  cases hf
  exact kr _ _ _ _ hw rfl dX9_readNet_92
theorem wX9_readNet_in (C : sn_C p s m args meth c RX9 cX9_readNet 3 none D ct ad layM A) {σ : sn_S}  {o : sn_S} (hf : fX9_readNet σ = some o) (kr : sn_Kr p l e rmX9_readNet s m args below meth c Q D ct ad layM A cX9_readNet .return_ (true) o []) : sn_At p l e rmX9_readNet s m args below meth c Q D ct ad layM A 3 σ 0 [(0, .ref (ad 0))] [] := by
  intro H locs ls hw hl
  have hx := C.1
  have hb := C.2.1
  unfold fX9_readNet at hf
  refine lv_bipush (v := 33) hx hb dX9_readNet_0 (by decide) ?_
  refine lv_iconst (v := 2) hx hb dX9_readNet_2 rfl ?_
  refine lv_aload_n hx hb dX9_readNet_3 rfl (lv_at hl 0 rfl) ?_
  refine sn_getC (r := 6) C hw fd_RX9_31 layM_0 rfl dX9_readNet_4 ?_
  refine lv_bipush (v := 7) hx hb dX9_readNet_7 (by decide) ?_
  obtain ⟨g_1, hf⟩ := sn_gdE hf
  refine sn_iald C hw layM_6 g_1 dX9_readNet_9 ?_
  refine lv_imul hx hb dX9_readNet_10 ?_
  refine lv_iadd hx hb dX9_readNet_11 ?_
  obtain ⟨y_2, e_3, hf⟩ := sn_ltE hf
  refine lv_topi (fun y_2_ e_3_ => ?_)
  obtain rfl : y_2 = y_2_ := e_3.trans e_3_.symm
  refine lv_istore_n (lv' := [(1, .int y_2), (0, .ref (ad 0))]) hx hb dX9_readNet_12 rfl hl (by decide) rfl (fun ls hl => ?_)
  refine lv_aload_n hx hb dX9_readNet_13 rfl (lv_at hl 1 rfl) ?_
  refine sn_getC (r := 6) C hw fd_RX9_31 layM_0 rfl dX9_readNet_14 ?_
  refine lv_iconst (v := 5) hx hb dX9_readNet_17 rfl ?_
  obtain ⟨g_4, hf⟩ := sn_gdE hf
  refine sn_iald C hw layM_6 g_4 dX9_readNet_18 ?_
  refine lv_iconst (v := 1) hx hb dX9_readNet_19 rfl ?_
  refine lv_isub hx hb dX9_readNet_20 ?_
  obtain ⟨y_5, e_6, hf⟩ := sn_ltE hf
  refine lv_topi (fun y_5_ e_6_ => ?_)
  obtain rfl : y_5 = y_5_ := e_6.trans e_6_.symm
  refine lv_istore_n (lv' := [(2, .int y_5), (1, .int y_2), (0, .ref (ad 0))]) hx hb dX9_readNet_21 rfl hl (by decide) rfl (fun ls hl => ?_)
  refine lv_aload_n hx hb dX9_readNet_22 rfl (lv_at hl 2 rfl) ?_
  refine sn_getC (r := 6) C hw fd_RX9_31 layM_0 rfl dX9_readNet_23 ?_
  refine lv_iload_n hx hb dX9_readNet_26 rfl (lv_at hl 1 rfl) ?_
  refine lv_aload_n hx hb dX9_readNet_27 rfl (lv_at hl 2 rfl) ?_
  refine lv_iconst (v := 0) hx hb dX9_readNet_28 rfl ?_
  refine lv_iload_n hx hb dX9_readNet_29 rfl (lv_at hl 0 rfl) ?_
  obtain ⟨t_7, h_8, hf⟩ := sn_bd hf
  refine sn_callVi (rest := [.int y_2, .ref (ad 6)]) C hw (ctX9_number l  h_8) kl_RX9_172 layM_0 rfl rfl rfl rfl (Nat.le_of_ble_eq_true rfl) dX9_readNet_30 hl.1 (fun H locs hw => ?_)
  obtain ⟨g_9, hf⟩ := sn_gdE hf
  refine sn_iast C hw layM_6 g_9 dX9_readNet_33 (fun H locs hw => ?_)
  obtain ⟨σ_10, e_11, hf⟩ := sn_ltE hf
  rw [← e_11] at hw
  refine lv_aload_n hx hb dX9_readNet_34 rfl (lv_at hl 2 rfl) ?_
  obtain ⟨t_12, h_13, hf⟩ := sn_bd hf
  refine sn_callVi (rest := []) C hw (ctX9_good l  h_13) kl_RX9_140 layM_0 rfl rfl rfl rfl (Nat.le_of_ble_eq_true rfl) dX9_readNet_35 hl.1 (fun H locs hw => ?_)
  refine lv_if_eq (tgt := 67) hx hb dX9_readNet_38 (by decide) (fun c_14 => ?_) (fun c_14 => ?_)
  · have hf := sn_if c_14 hf
    exact wX9_readNet_67 C  hf kr _ _ _ hw (lv_sub hl [2, 1, 0] rfl)
  · have hf := sn_el c_14 hf
    refine lv_aload_n hx hb dX9_readNet_41 rfl (lv_at hl 2 rfl) ?_
    refine sn_getI C hw fd_RX9_116 layM_0 rfl dX9_readNet_42 ?_
    refine lv_iconst (v := 2) hx hb dX9_readNet_45 rfl ?_
    refine lv_icmp_ne (tgt := 67) hx hb dX9_readNet_46 (by decide) (fun c_15 => ?_) (fun c_15 => ?_)
    · have hf := sn_el c_15 hf
      exact wX9_readNet_67 C  hf kr _ _ _ hw (lv_sub hl [2, 1, 0] rfl)
    · have hf := sn_if c_15 hf
      refine lv_aload_n hx hb dX9_readNet_49 rfl (lv_at hl 2 rfl) ?_
      refine sn_getI C hw fd_RX9_127 layM_0 rfl dX9_readNet_50 ?_
      refine lv_aload_n hx hb dX9_readNet_53 rfl (lv_at hl 2 rfl) ?_
      refine sn_getC (r := 6) C hw fd_RX9_31 layM_0 rfl dX9_readNet_54 ?_
      refine lv_iload_n hx hb dX9_readNet_57 rfl (lv_at hl 1 rfl) ?_
      obtain ⟨g_16, hf⟩ := sn_gdE hf
      refine sn_iald C hw layM_6 g_16 dX9_readNet_58 ?_
      refine lv_icmp_ne (tgt := 67) hx hb dX9_readNet_59 (by decide) (fun c_17 => ?_) (fun c_17 => ?_)
      · have hf := sn_el c_17 hf
        exact wX9_readNet_67 C  hf kr _ _ _ hw (lv_sub hl [2, 1, 0] rfl)
      · have hf := sn_if c_17 hf
        refine lv_aload_n hx hb dX9_readNet_62 rfl (lv_at hl 2 rfl) ?_
        refine lv_iconst (v := 2) hx hb dX9_readNet_63 rfl ?_
        obtain ⟨t_18, h_19, hf⟩ := sn_bd hf
        refine sn_callVv (rest := []) C hw (ctX9_errs l  h_19) kl_RX9_164 layM_0 rfl rfl rfl rfl (Nat.le_of_ble_eq_true rfl) dX9_readNet_64 hl.1 (fun H locs hw => ?_)
        exact wX9_readNet_67 C  hf kr _ _ _ hw (lv_sub hl [2, 1, 0] rfl)
theorem ctX9_readNet (l : Launch) {σ : sn_S}  {o : sn_S} (hf : fX9_readNet σ = some o) : sn_M l yX9_readNet cX9_readNet 3 none rmX9_readNet layM (fun ad => [.ref (ad 0)]) σ none o :=
  sn_met (by decide) (fun _ => Nat.le_of_ble_eq_true rfl) (fun p e s m args below meth c ls D ct ad A C hw hl => wX9_readNet_in C  hf (fun H locs ls pc hw ok hd => sn_vret C hw hd) _ _ _ hw hl)
-- X9_readPolicy
abbrev rmX9_readPolicy : Room := { frames := 8, cells := 0, slots := 0, locals := 174 }
def fX9_readPolicy (σ : sn_S) : Option sn_S :=
  (sn_gd (sn_in (8 : Int32) 119) (sn_lt ((49 : Int32) + ((5 : Int32) * (sn_I σ 6 (8 : Int32).toNatClampNeg))) fun y_2 => (sn_gd (sn_in (5 : Int32) 119) ((fX9_number σ (0 : Int32) ((sn_I σ 6 (5 : Int32).toNatClampNeg) - (1 : Int32))).bind fun t_5 => (sn_gd (sn_in (y_2 + (0 : Int32)) 119) (sn_lt (sn_pI t_5.2 6 (y_2 + (0 : Int32)).toNatClampNeg t_5.1) fun σ_8 => ((fX9_told σ_8 12 (0 : Int32) (29 : Int32)).bind fun t_10 => (sn_gd (sn_in (y_2 + (1 : Int32)) 119) (sn_lt (sn_pI t_10.2 6 (y_2 + (1 : Int32)).toNatClampNeg t_10.1) fun σ_13 => (sn_gd (sn_in (y_2 + (1 : Int32)) 119) ((fX9_told σ_13 13 (sn_I σ_13 6 (y_2 + (1 : Int32)).toNatClampNeg) (29 : Int32)).bind fun t_16 => (sn_gd (sn_in (y_2 + (2 : Int32)) 119) (sn_lt (sn_pI t_16.2 6 (y_2 + (2 : Int32)).toNatClampNeg t_16.1) fun σ_19 => ((fX9_told σ_19 14 (1 : Int32) (99 : Int32)).bind fun t_21 => (sn_gd (sn_in (y_2 + (3 : Int32)) 119) (sn_lt (sn_pI t_21.2 6 (y_2 + (3 : Int32)).toNatClampNeg t_21.1) fun σ_24 => ((fX9_told σ_24 15 (0 : Int32) (99 : Int32)).bind fun t_26 => (sn_gd (sn_in (y_2 + (4 : Int32)) 119) (sn_lt (sn_pI t_26.2 6 (y_2 + (4 : Int32)).toNatClampNeg t_26.1) fun σ_29 => (sn_gd (sn_in (8 : Int32) 119) (sn_gd (sn_in (8 : Int32) 119) (sn_lt (sn_pI σ_29 6 (8 : Int32).toNatClampNeg ((sn_I σ_29 6 (8 : Int32).toNatClampNeg) + (1 : Int32))) fun σ_33 => (some σ_33)))))))))))))))))))))))
theorem wX9_readPolicy_in (C : sn_C p s m args meth c RX9 cX9_readPolicy 2 none D ct ad layM A) {σ : sn_S}  {o : sn_S} (hf : fX9_readPolicy σ = some o) (kr : sn_Kr p l e rmX9_readPolicy s m args below meth c Q D ct ad layM A cX9_readPolicy .return_ (true) o []) : sn_At p l e rmX9_readPolicy s m args below meth c Q D ct ad layM A 2 σ 0 [(0, .ref (ad 0))] [] := by
  intro H locs ls hw hl
  have hx := C.1
  have hb := C.2.1
  unfold fX9_readPolicy at hf
  refine lv_bipush (v := 49) hx hb dX9_readPolicy_0 (by decide) ?_
  refine lv_iconst (v := 5) hx hb dX9_readPolicy_2 rfl ?_
  refine lv_aload_n hx hb dX9_readPolicy_3 rfl (lv_at hl 0 rfl) ?_
  refine sn_getC (r := 6) C hw fd_RX9_31 layM_0 rfl dX9_readPolicy_4 ?_
  refine lv_bipush (v := 8) hx hb dX9_readPolicy_7 (by decide) ?_
  obtain ⟨g_1, hf⟩ := sn_gdE hf
  refine sn_iald C hw layM_6 g_1 dX9_readPolicy_9 ?_
  refine lv_imul hx hb dX9_readPolicy_10 ?_
  refine lv_iadd hx hb dX9_readPolicy_11 ?_
  obtain ⟨y_2, e_3, hf⟩ := sn_ltE hf
  refine lv_topi (fun y_2_ e_3_ => ?_)
  obtain rfl : y_2 = y_2_ := e_3.trans e_3_.symm
  refine lv_istore_n (lv' := [(1, .int y_2), (0, .ref (ad 0))]) hx hb dX9_readPolicy_12 rfl hl (by decide) rfl (fun ls hl => ?_)
  refine lv_aload_n hx hb dX9_readPolicy_13 rfl (lv_at hl 1 rfl) ?_
  refine sn_getC (r := 6) C hw fd_RX9_31 layM_0 rfl dX9_readPolicy_14 ?_
  refine lv_iload_n hx hb dX9_readPolicy_17 rfl (lv_at hl 0 rfl) ?_
  refine lv_iconst (v := 0) hx hb dX9_readPolicy_18 rfl ?_
  refine lv_iadd hx hb dX9_readPolicy_19 ?_
  refine lv_aload_n hx hb dX9_readPolicy_20 rfl (lv_at hl 1 rfl) ?_
  refine lv_iconst (v := 0) hx hb dX9_readPolicy_21 rfl ?_
  refine lv_aload_n hx hb dX9_readPolicy_22 rfl (lv_at hl 1 rfl) ?_
  refine sn_getC (r := 6) C hw fd_RX9_31 layM_0 rfl dX9_readPolicy_23 ?_
  refine lv_iconst (v := 5) hx hb dX9_readPolicy_26 rfl ?_
  obtain ⟨g_4, hf⟩ := sn_gdE hf
  refine sn_iald C hw layM_6 g_4 dX9_readPolicy_27 ?_
  refine lv_iconst (v := 1) hx hb dX9_readPolicy_28 rfl ?_
  refine lv_isub hx hb dX9_readPolicy_29 ?_
  obtain ⟨t_5, h_6, hf⟩ := sn_bd hf
  refine sn_callVi (rest := [.int (y_2 + (0 : Int32)), .ref (ad 6)]) C hw (ctX9_number l  h_6) kl_RX9_172 layM_0 rfl rfl rfl rfl (Nat.le_of_ble_eq_true rfl) dX9_readPolicy_30 hl.1 (fun H locs hw => ?_)
  obtain ⟨g_7, hf⟩ := sn_gdE hf
  refine sn_iast C hw layM_6 g_7 dX9_readPolicy_33 (fun H locs hw => ?_)
  obtain ⟨σ_8, e_9, hf⟩ := sn_ltE hf
  rw [← e_9] at hw
  refine lv_aload_n hx hb dX9_readPolicy_34 rfl (lv_at hl 1 rfl) ?_
  refine sn_getC (r := 6) C hw fd_RX9_31 layM_0 rfl dX9_readPolicy_35 ?_
  refine lv_iload_n hx hb dX9_readPolicy_38 rfl (lv_at hl 0 rfl) ?_
  refine lv_iconst (v := 1) hx hb dX9_readPolicy_39 rfl ?_
  refine lv_iadd hx hb dX9_readPolicy_40 ?_
  refine lv_aload_n hx hb dX9_readPolicy_41 rfl (lv_at hl 1 rfl) ?_
  refine va_ldcS (tx := "from") (q := ad (1000 + 12)) hx hb C.2.2.2.1 (sn_sr_28 C.2.2.2.2.2.2.2.2.2) dX9_readPolicy_42 ?_
  refine lv_iconst (v := 0) hx hb dX9_readPolicy_44 rfl ?_
  refine lv_bipush (v := 29) hx hb dX9_readPolicy_45 (by decide) ?_
  obtain ⟨t_10, h_11, hf⟩ := sn_bd hf
  refine sn_callVi (rest := [.int (y_2 + (1 : Int32)), .ref (ad 6)]) C hw (ctX9_told l  h_11) kl_RX9_179 layM_0 rfl rfl rfl rfl (Nat.le_of_ble_eq_true rfl) dX9_readPolicy_47 hl.1 (fun H locs hw => ?_)
  obtain ⟨g_12, hf⟩ := sn_gdE hf
  refine sn_iast C hw layM_6 g_12 dX9_readPolicy_50 (fun H locs hw => ?_)
  obtain ⟨σ_13, e_14, hf⟩ := sn_ltE hf
  rw [← e_14] at hw
  refine lv_aload_n hx hb dX9_readPolicy_51 rfl (lv_at hl 1 rfl) ?_
  refine sn_getC (r := 6) C hw fd_RX9_31 layM_0 rfl dX9_readPolicy_52 ?_
  refine lv_iload_n hx hb dX9_readPolicy_55 rfl (lv_at hl 0 rfl) ?_
  refine lv_iconst (v := 2) hx hb dX9_readPolicy_56 rfl ?_
  refine lv_iadd hx hb dX9_readPolicy_57 ?_
  refine lv_aload_n hx hb dX9_readPolicy_58 rfl (lv_at hl 1 rfl) ?_
  refine va_ldcS (tx := "to") (q := ad (1000 + 13)) hx hb C.2.2.2.1 (sn_sr_29 C.2.2.2.2.2.2.2.2.2) dX9_readPolicy_59 ?_
  refine lv_aload_n hx hb dX9_readPolicy_61 rfl (lv_at hl 1 rfl) ?_
  refine sn_getC (r := 6) C hw fd_RX9_31 layM_0 rfl dX9_readPolicy_62 ?_
  refine lv_iload_n hx hb dX9_readPolicy_65 rfl (lv_at hl 0 rfl) ?_
  refine lv_iconst (v := 1) hx hb dX9_readPolicy_66 rfl ?_
  refine lv_iadd hx hb dX9_readPolicy_67 ?_
  obtain ⟨g_15, hf⟩ := sn_gdE hf
  refine sn_iald C hw layM_6 g_15 dX9_readPolicy_68 ?_
  refine lv_bipush (v := 29) hx hb dX9_readPolicy_69 (by decide) ?_
  obtain ⟨t_16, h_17, hf⟩ := sn_bd hf
  refine sn_callVi (rest := [.int (y_2 + (2 : Int32)), .ref (ad 6)]) C hw (ctX9_told l  h_17) kl_RX9_179 layM_0 rfl rfl rfl rfl (Nat.le_of_ble_eq_true rfl) dX9_readPolicy_71 hl.1 (fun H locs hw => ?_)
  obtain ⟨g_18, hf⟩ := sn_gdE hf
  refine sn_iast C hw layM_6 g_18 dX9_readPolicy_74 (fun H locs hw => ?_)
  obtain ⟨σ_19, e_20, hf⟩ := sn_ltE hf
  rw [← e_20] at hw
  refine lv_aload_n hx hb dX9_readPolicy_75 rfl (lv_at hl 1 rfl) ?_
  refine sn_getC (r := 6) C hw fd_RX9_31 layM_0 rfl dX9_readPolicy_76 ?_
  refine lv_iload_n hx hb dX9_readPolicy_79 rfl (lv_at hl 0 rfl) ?_
  refine lv_iconst (v := 3) hx hb dX9_readPolicy_80 rfl ?_
  refine lv_iadd hx hb dX9_readPolicy_81 ?_
  refine lv_aload_n hx hb dX9_readPolicy_82 rfl (lv_at hl 1 rfl) ?_
  refine va_ldcS (tx := "sum") (q := ad (1000 + 14)) hx hb C.2.2.2.1 (sn_sr_30 C.2.2.2.2.2.2.2.2.2) dX9_readPolicy_83 ?_
  refine lv_iconst (v := 1) hx hb dX9_readPolicy_85 rfl ?_
  refine lv_bipush (v := 99) hx hb dX9_readPolicy_86 (by decide) ?_
  obtain ⟨t_21, h_22, hf⟩ := sn_bd hf
  refine sn_callVi (rest := [.int (y_2 + (3 : Int32)), .ref (ad 6)]) C hw (ctX9_told l  h_22) kl_RX9_179 layM_0 rfl rfl rfl rfl (Nat.le_of_ble_eq_true rfl) dX9_readPolicy_88 hl.1 (fun H locs hw => ?_)
  obtain ⟨g_23, hf⟩ := sn_gdE hf
  refine sn_iast C hw layM_6 g_23 dX9_readPolicy_91 (fun H locs hw => ?_)
  obtain ⟨σ_24, e_25, hf⟩ := sn_ltE hf
  rw [← e_25] at hw
  refine lv_aload_n hx hb dX9_readPolicy_92 rfl (lv_at hl 1 rfl) ?_
  refine sn_getC (r := 6) C hw fd_RX9_31 layM_0 rfl dX9_readPolicy_93 ?_
  refine lv_iload_n hx hb dX9_readPolicy_96 rfl (lv_at hl 0 rfl) ?_
  refine lv_iconst (v := 4) hx hb dX9_readPolicy_97 rfl ?_
  refine lv_iadd hx hb dX9_readPolicy_98 ?_
  refine lv_aload_n hx hb dX9_readPolicy_99 rfl (lv_at hl 1 rfl) ?_
  refine va_ldcS (tx := "pays") (q := ad (1000 + 15)) hx hb C.2.2.2.1 (sn_sr_31 C.2.2.2.2.2.2.2.2.2) dX9_readPolicy_100 ?_
  refine lv_iconst (v := 0) hx hb dX9_readPolicy_102 rfl ?_
  refine lv_bipush (v := 99) hx hb dX9_readPolicy_103 (by decide) ?_
  obtain ⟨t_26, h_27, hf⟩ := sn_bd hf
  refine sn_callVi (rest := [.int (y_2 + (4 : Int32)), .ref (ad 6)]) C hw (ctX9_told l  h_27) kl_RX9_179 layM_0 rfl rfl rfl rfl (Nat.le_of_ble_eq_true rfl) dX9_readPolicy_105 hl.1 (fun H locs hw => ?_)
  obtain ⟨g_28, hf⟩ := sn_gdE hf
  refine sn_iast C hw layM_6 g_28 dX9_readPolicy_108 (fun H locs hw => ?_)
  obtain ⟨σ_29, e_30, hf⟩ := sn_ltE hf
  rw [← e_30] at hw
  refine lv_aload_n hx hb dX9_readPolicy_109 rfl (lv_at hl 1 rfl) ?_
  refine sn_getC (r := 6) C hw fd_RX9_31 layM_0 rfl dX9_readPolicy_110 ?_
  refine lv_bipush (v := 8) hx hb dX9_readPolicy_113 (by decide) ?_
  refine lv_dup2_11 hx hb dX9_readPolicy_115 rfl rfl ?_
  obtain ⟨g_31, hf⟩ := sn_gdE hf
  refine sn_iald C hw layM_6 g_31 dX9_readPolicy_116 ?_
  refine lv_iconst (v := 1) hx hb dX9_readPolicy_117 rfl ?_
  refine lv_iadd hx hb dX9_readPolicy_118 ?_
  obtain ⟨g_32, hf⟩ := sn_gdE hf
  refine sn_iast C hw layM_6 g_32 dX9_readPolicy_119 (fun H locs hw => ?_)
  obtain ⟨σ_33, e_34, hf⟩ := sn_ltE hf
  rw [← e_34] at hw
  cases hf
  exact kr _ _ _ _ hw rfl dX9_readPolicy_120
theorem ctX9_readPolicy (l : Launch) {σ : sn_S}  {o : sn_S} (hf : fX9_readPolicy σ = some o) : sn_M l yX9_readPolicy cX9_readPolicy 2 none rmX9_readPolicy layM (fun ad => [.ref (ad 0)]) σ none o :=
  sn_met (by decide) (fun _ => Nat.le_of_ble_eq_true rfl) (fun p e s m args below meth c ls D ct ad A C hw hl => wX9_readPolicy_in C  hf (fun H locs ls pc hw ok hd => sn_vret C hw hd) _ _ _ hw hl)
-- X9_readNext
abbrev rmX9_readNext : Room := { frames := 9, cells := 0, slots := 0, locals := 195 }
def BX9_readNext_143 (σ : sn_S) : Option (sn_S) :=
  ((fX9_good σ).bind fun t_1 => (if t_1 = 0 then
  (some σ)
  else
  ((fX9_takes σ 6).bind fun t_4 => (if t_4.1 = 0 then
  ((fX9_takes t_4.2 7).bind fun t_7 => (if t_7.1 = 0 then
  ((fX9_takes t_7.2 8).bind fun t_10 => (if t_10.1 = 0 then
  ((fX9_advance t_10.2).bind fun t_13 => ((fX9_readPolicy t_13).bind fun t_15 => (some t_15)))
  else
  ((fX9_readNet t_10.2).bind fun t_17 => (some t_17))))
  else
  (sn_gd (sn_in (6 : Int32) 119) (sn_lt ((23 : Int32) + ((2 : Int32) * (sn_I t_7.2 6 (6 : Int32).toNatClampNeg))) fun y_20 => ((fX9_number t_7.2 (1 : Int32) (9 : Int32)).bind fun t_22 => (sn_gd (sn_in y_20 119) (sn_lt (sn_pI t_22.2 6 y_20.toNatClampNeg t_22.1) fun σ_25 => ((fX9_told σ_25 11 (0 : Int32) (29 : Int32)).bind fun t_27 => (sn_gd (sn_in (y_20 + (1 : Int32)) 119) (sn_lt (sn_pI t_27.2 6 (y_20 + (1 : Int32)).toNatClampNeg t_27.1) fun σ_30 => (sn_gd (sn_in (6 : Int32) 119) (sn_gd (sn_in (6 : Int32) 119) (sn_lt (sn_pI σ_30 6 (6 : Int32).toNatClampNeg ((sn_I σ_30 6 (6 : Int32).toNatClampNeg) + (1 : Int32))) fun σ_34 => (some σ_34))))))))))))))
  else
  (sn_gd (sn_in (5 : Int32) 119) (sn_lt ((11 : Int32) + ((2 : Int32) * (sn_I t_4.2 6 (5 : Int32).toNatClampNeg))) fun y_37 => ((fX9_number t_4.2 (0 : Int32) (9 : Int32)).bind fun t_39 => (sn_gd (sn_in y_37 119) (sn_lt (sn_pI t_39.2 6 y_37.toNatClampNeg t_39.1) fun σ_42 => ((fX9_told σ_42 10 (1 : Int32) (99 : Int32)).bind fun t_44 => (sn_gd (sn_in (y_37 + (1 : Int32)) 119) (sn_lt (sn_pI t_44.2 6 (y_37 + (1 : Int32)).toNatClampNeg t_44.1) fun σ_47 => (sn_gd (sn_in (5 : Int32) 119) (sn_gd (sn_in (5 : Int32) 119) (sn_lt (sn_pI σ_47 6 (5 : Int32).toNatClampNeg ((sn_I σ_47 6 (5 : Int32).toNatClampNeg) + (1 : Int32))) fun σ_51 => (some σ_51))))))))))))))))
def BX9_readNext_138 (σ : sn_S) : Option (sn_S) :=
  ((fX9_errs σ (3 : Int32)).bind fun t_1 => (BX9_readNext_143 t_1))
def BX9_readNext_117 (σ : sn_S) : Option (sn_S) :=
  ((fX9_is σ 9).bind fun t_1 => (if t_1 = 0 then
  (BX9_readNext_143 σ)
  else
  (sn_gd (sn_in (8 : Int32) 119) (if (sn_I σ 6 (8 : Int32).toNatClampNeg) = (6 : Int32) then
  (BX9_readNext_138 σ)
  else
  (BX9_readNext_143 σ)))))
def BX9_readNext_96 (σ : sn_S) : Option (sn_S) :=
  ((fX9_is σ 8).bind fun t_1 => (if t_1 = 0 then
  (BX9_readNext_117 σ)
  else
  (sn_gd (sn_in (7 : Int32) 119) (if (sn_I σ 6 (7 : Int32).toNatClampNeg) = (8 : Int32) then
  (BX9_readNext_138 σ)
  else
  (BX9_readNext_117 σ)))))
def BX9_readNext_91 (σ : sn_S) : Option (sn_S) :=
  ((fX9_errs σ (3 : Int32)).bind fun t_1 => (BX9_readNext_96 t_1))
def BX9_readNext_71 (σ : sn_S) : Option (sn_S) :=
  ((fX9_is σ 7).bind fun t_1 => (if t_1 = 0 then
  (BX9_readNext_96 σ)
  else
  (sn_gd (sn_in (6 : Int32) 119) (if (sn_I σ 6 (6 : Int32).toNatClampNeg) = (5 : Int32) then
  (BX9_readNext_91 σ)
  else
  (BX9_readNext_96 σ)))))
def BX9_readNext_51 (σ : sn_S) : Option (sn_S) :=
  ((fX9_is σ 6).bind fun t_1 => (if t_1 = 0 then
  (BX9_readNext_71 σ)
  else
  (sn_gd (sn_in (5 : Int32) 119) (if (sn_I σ 6 (5 : Int32).toNatClampNeg) = (6 : Int32) then
  (BX9_readNext_91 σ)
  else
  (BX9_readNext_71 σ)))))
def BX9_readNext_41 (σ : sn_S) (t0 : Int32) : Option (sn_S) :=
  (if t0 = 0 then
  ((fX9_errs σ (1 : Int32)).bind fun t_2 => (BX9_readNext_51 t_2))
  else
  (BX9_readNext_51 σ))
def BX9_readNext_36 (σ : sn_S) : Option (sn_S) :=
  (BX9_readNext_41 σ (1 : Int32))
def fX9_readNext (σ : sn_S) : Option sn_S :=
  ((fX9_is σ 6).bind fun t_1 => (if t_1 = 0 then
  ((fX9_is σ 7).bind fun t_4 => (if t_4 = 0 then
  ((fX9_is σ 8).bind fun t_7 => (if t_7 = 0 then
  ((fX9_is σ 9).bind fun t_10 => (if t_10 = 0 then
  (BX9_readNext_41 σ (0 : Int32))
  else
  (BX9_readNext_36 σ)))
  else
  (BX9_readNext_36 σ)))
  else
  (BX9_readNext_36 σ)))
  else
  (BX9_readNext_36 σ)))
theorem wX9_readNext_143 (C : sn_C p s m args meth c RX9 cX9_readNext 3 none D ct ad layM A) {σ : sn_S}  {o : sn_S} (hf : BX9_readNext_143 σ = some o) (kr : sn_Kr p l e rmX9_readNext s m args below meth c Q D ct ad layM A cX9_readNext .return_ (true) o []) : sn_At p l e rmX9_readNext s m args below meth c Q D ct ad layM A 3 σ 143 [(0, .ref (ad 0))] [] := by
  intro H locs ls hw hl
  have hx := C.1
  have hb := C.2.1
  unfold BX9_readNext_143 at hf
  refine lv_aload_n hx hb dX9_readNext_143 rfl (lv_at hl 0 rfl) ?_
  obtain ⟨t_1, h_2, hf⟩ := sn_bd hf
  refine sn_callVi (rest := []) C hw (ctX9_good l  h_2) kl_RX9_140 layM_0 rfl rfl rfl rfl (Nat.le_of_ble_eq_true rfl) dX9_readNext_144 hl.1 (fun H locs hw => ?_)
  refine lv_if_ne (tgt := 151) hx hb dX9_readNext_147 (by decide) (fun c_3 => ?_) (fun c_3 => ?_)
  · have hf := sn_el c_3 hf
    refine lv_aload_n hx hb dX9_readNext_151 rfl (lv_at hl 0 rfl) ?_
    refine va_ldcS (tx := "nose") (q := ad (1000 + 6)) hx hb C.2.2.2.1 (sn_sr_22 C.2.2.2.2.2.2.2.2.2) dX9_readNext_152 ?_
    obtain ⟨t_4, h_5, hf⟩ := sn_bd hf
    refine sn_callVi (rest := []) C hw (ctX9_takes l  h_5) kl_RX9_161 layM_0 rfl rfl rfl rfl (Nat.le_of_ble_eq_true rfl) dX9_readNext_154 hl.1 (fun H locs hw => ?_)
    refine lv_if_eq (tgt := 215) hx hb dX9_readNext_157 (by decide) (fun c_6 => ?_) (fun c_6 => ?_)
    · have hf := sn_if c_6 hf
      refine lv_aload_n hx hb dX9_readNext_215 rfl (lv_at hl 0 rfl) ?_
      refine va_ldcS (tx := "gust") (q := ad (1000 + 7)) hx hb C.2.2.2.1 (sn_sr_23 C.2.2.2.2.2.2.2.2.2) dX9_readNext_216 ?_
      obtain ⟨t_7, h_8, hf⟩ := sn_bd hf
      refine sn_callVi (rest := []) C hw (ctX9_takes l  h_8) kl_RX9_161 layM_0 rfl rfl rfl rfl (Nat.le_of_ble_eq_true rfl) dX9_readNext_218 hl.1 (fun H locs hw => ?_)
      refine lv_if_eq (tgt := 281) hx hb dX9_readNext_221 (by decide) (fun c_9 => ?_) (fun c_9 => ?_)
      · have hf := sn_if c_9 hf
        refine lv_aload_n hx hb dX9_readNext_281 rfl (lv_at hl 0 rfl) ?_
        refine va_ldcS (tx := "net") (q := ad (1000 + 8)) hx hb C.2.2.2.1 (sn_sr_24 C.2.2.2.2.2.2.2.2.2) dX9_readNext_282 ?_
        obtain ⟨t_10, h_11, hf⟩ := sn_bd hf
        refine sn_callVi (rest := []) C hw (ctX9_takes l  h_11) kl_RX9_161 layM_0 rfl rfl rfl rfl (Nat.le_of_ble_eq_true rfl) dX9_readNext_284 hl.1 (fun H locs hw => ?_)
        refine lv_if_eq (tgt := 297) hx hb dX9_readNext_287 (by decide) (fun c_12 => ?_) (fun c_12 => ?_)
        · have hf := sn_if c_12 hf
          refine lv_aload_n hx hb dX9_readNext_297 rfl (lv_at hl 0 rfl) ?_
          obtain ⟨t_13, h_14, hf⟩ := sn_bd hf
          refine sn_callVv (rest := []) C hw (ctX9_advance l  h_14) kl_RX9_158 layM_0 rfl rfl rfl rfl (Nat.le_of_ble_eq_true rfl) dX9_readNext_298 hl.1 (fun H locs hw => ?_)
          refine lv_aload_n hx hb dX9_readNext_301 rfl (lv_at hl 0 rfl) ?_
          obtain ⟨t_15, h_16, hf⟩ := sn_bd hf
          refine sn_callVv (rest := []) C hw (ctX9_readPolicy l  h_16) kl_RX9_212 layM_0 rfl rfl rfl rfl (Nat.le_of_ble_eq_true rfl) dX9_readNext_302 hl.1 (fun H locs hw => ?_)
          cases hf
          exact kr _ _ _ _ hw rfl dX9_readNext_305
        · have hf := sn_el c_12 hf
          refine lv_aload_n hx hb dX9_readNext_290 rfl (lv_at hl 0 rfl) ?_
          obtain ⟨t_17, h_18, hf⟩ := sn_bd hf
          refine sn_callVv (rest := []) C hw (ctX9_readNet l  h_18) kl_RX9_209 layM_0 rfl rfl rfl rfl (Nat.le_of_ble_eq_true rfl) dX9_readNext_291 hl.1 (fun H locs hw => ?_)
          refine lv_goto (tgt := 305) hx hb dX9_readNext_294 (by decide) ?_
          cases hf
          exact kr _ _ _ _ hw rfl dX9_readNext_305
      · have hf := sn_el c_9 hf
        refine lv_bipush (v := 23) hx hb dX9_readNext_224 (by decide) ?_
        refine lv_iconst (v := 2) hx hb dX9_readNext_226 rfl ?_
        refine lv_aload_n hx hb dX9_readNext_227 rfl (lv_at hl 0 rfl) ?_
        refine sn_getC (r := 6) C hw fd_RX9_31 layM_0 rfl dX9_readNext_228 ?_
        refine lv_bipush (v := 6) hx hb dX9_readNext_231 (by decide) ?_
        obtain ⟨g_19, hf⟩ := sn_gdE hf
        refine sn_iald C hw layM_6 g_19 dX9_readNext_233 ?_
        refine lv_imul hx hb dX9_readNext_234 ?_
        refine lv_iadd hx hb dX9_readNext_235 ?_
        obtain ⟨y_20, e_21, hf⟩ := sn_ltE hf
        refine lv_topi (fun y_20_ e_21_ => ?_)
        obtain rfl : y_20 = y_20_ := e_21.trans e_21_.symm
        refine lv_istore_n (lv' := [(2, .int y_20), (0, .ref (ad 0))]) hx hb dX9_readNext_236 rfl hl (by decide) rfl (fun ls hl => ?_)
        refine lv_aload_n hx hb dX9_readNext_237 rfl (lv_at hl 1 rfl) ?_
        refine sn_getC (r := 6) C hw fd_RX9_31 layM_0 rfl dX9_readNext_238 ?_
        refine lv_iload_n hx hb dX9_readNext_241 rfl (lv_at hl 0 rfl) ?_
        refine lv_aload_n hx hb dX9_readNext_242 rfl (lv_at hl 1 rfl) ?_
        refine lv_iconst (v := 1) hx hb dX9_readNext_243 rfl ?_
        refine lv_bipush (v := 9) hx hb dX9_readNext_244 (by decide) ?_
        obtain ⟨t_22, h_23, hf⟩ := sn_bd hf
        refine sn_callVi (rest := [.int y_20, .ref (ad 6)]) C hw (ctX9_number l  h_23) kl_RX9_172 layM_0 rfl rfl rfl rfl (Nat.le_of_ble_eq_true rfl) dX9_readNext_246 hl.1 (fun H locs hw => ?_)
        obtain ⟨g_24, hf⟩ := sn_gdE hf
        refine sn_iast C hw layM_6 g_24 dX9_readNext_249 (fun H locs hw => ?_)
        obtain ⟨σ_25, e_26, hf⟩ := sn_ltE hf
        rw [← e_26] at hw
        refine lv_aload_n hx hb dX9_readNext_250 rfl (lv_at hl 1 rfl) ?_
        refine sn_getC (r := 6) C hw fd_RX9_31 layM_0 rfl dX9_readNext_251 ?_
        refine lv_iload_n hx hb dX9_readNext_254 rfl (lv_at hl 0 rfl) ?_
        refine lv_iconst (v := 1) hx hb dX9_readNext_255 rfl ?_
        refine lv_iadd hx hb dX9_readNext_256 ?_
        refine lv_aload_n hx hb dX9_readNext_257 rfl (lv_at hl 1 rfl) ?_
        refine va_ldcS (tx := "at") (q := ad (1000 + 11)) hx hb C.2.2.2.1 (sn_sr_27 C.2.2.2.2.2.2.2.2.2) dX9_readNext_258 ?_
        refine lv_iconst (v := 0) hx hb dX9_readNext_260 rfl ?_
        refine lv_bipush (v := 29) hx hb dX9_readNext_261 (by decide) ?_
        obtain ⟨t_27, h_28, hf⟩ := sn_bd hf
        refine sn_callVi (rest := [.int (y_20 + (1 : Int32)), .ref (ad 6)]) C hw (ctX9_told l  h_28) kl_RX9_179 layM_0 rfl rfl rfl rfl (Nat.le_of_ble_eq_true rfl) dX9_readNext_263 hl.1 (fun H locs hw => ?_)
        obtain ⟨g_29, hf⟩ := sn_gdE hf
        refine sn_iast C hw layM_6 g_29 dX9_readNext_266 (fun H locs hw => ?_)
        obtain ⟨σ_30, e_31, hf⟩ := sn_ltE hf
        rw [← e_31] at hw
        refine lv_aload_n hx hb dX9_readNext_267 rfl (lv_at hl 1 rfl) ?_
        refine sn_getC (r := 6) C hw fd_RX9_31 layM_0 rfl dX9_readNext_268 ?_
        refine lv_bipush (v := 6) hx hb dX9_readNext_271 (by decide) ?_
        refine lv_dup2_11 hx hb dX9_readNext_273 rfl rfl ?_
        obtain ⟨g_32, hf⟩ := sn_gdE hf
        refine sn_iald C hw layM_6 g_32 dX9_readNext_274 ?_
        refine lv_iconst (v := 1) hx hb dX9_readNext_275 rfl ?_
        refine lv_iadd hx hb dX9_readNext_276 ?_
        obtain ⟨g_33, hf⟩ := sn_gdE hf
        refine sn_iast C hw layM_6 g_33 dX9_readNext_277 (fun H locs hw => ?_)
        obtain ⟨σ_34, e_35, hf⟩ := sn_ltE hf
        rw [← e_35] at hw
        refine lv_goto (tgt := 305) hx hb dX9_readNext_278 (by decide) ?_
        cases hf
        exact kr _ _ _ _ hw rfl dX9_readNext_305
    · have hf := sn_el c_6 hf
      refine lv_bipush (v := 11) hx hb dX9_readNext_160 (by decide) ?_
      refine lv_iconst (v := 2) hx hb dX9_readNext_162 rfl ?_
      refine lv_aload_n hx hb dX9_readNext_163 rfl (lv_at hl 0 rfl) ?_
      refine sn_getC (r := 6) C hw fd_RX9_31 layM_0 rfl dX9_readNext_164 ?_
      refine lv_iconst (v := 5) hx hb dX9_readNext_167 rfl ?_
      obtain ⟨g_36, hf⟩ := sn_gdE hf
      refine sn_iald C hw layM_6 g_36 dX9_readNext_168 ?_
      refine lv_imul hx hb dX9_readNext_169 ?_
      refine lv_iadd hx hb dX9_readNext_170 ?_
      obtain ⟨y_37, e_38, hf⟩ := sn_ltE hf
      refine lv_topi (fun y_37_ e_38_ => ?_)
      obtain rfl : y_37 = y_37_ := e_38.trans e_38_.symm
      refine lv_istore_n (lv' := [(2, .int y_37), (0, .ref (ad 0))]) hx hb dX9_readNext_171 rfl hl (by decide) rfl (fun ls hl => ?_)
      refine lv_aload_n hx hb dX9_readNext_172 rfl (lv_at hl 1 rfl) ?_
      refine sn_getC (r := 6) C hw fd_RX9_31 layM_0 rfl dX9_readNext_173 ?_
      refine lv_iload_n hx hb dX9_readNext_176 rfl (lv_at hl 0 rfl) ?_
      refine lv_aload_n hx hb dX9_readNext_177 rfl (lv_at hl 1 rfl) ?_
      refine lv_iconst (v := 0) hx hb dX9_readNext_178 rfl ?_
      refine lv_bipush (v := 9) hx hb dX9_readNext_179 (by decide) ?_
      obtain ⟨t_39, h_40, hf⟩ := sn_bd hf
      refine sn_callVi (rest := [.int y_37, .ref (ad 6)]) C hw (ctX9_number l  h_40) kl_RX9_172 layM_0 rfl rfl rfl rfl (Nat.le_of_ble_eq_true rfl) dX9_readNext_181 hl.1 (fun H locs hw => ?_)
      obtain ⟨g_41, hf⟩ := sn_gdE hf
      refine sn_iast C hw layM_6 g_41 dX9_readNext_184 (fun H locs hw => ?_)
      obtain ⟨σ_42, e_43, hf⟩ := sn_ltE hf
      rw [← e_43] at hw
      refine lv_aload_n hx hb dX9_readNext_185 rfl (lv_at hl 1 rfl) ?_
      refine sn_getC (r := 6) C hw fd_RX9_31 layM_0 rfl dX9_readNext_186 ?_
      refine lv_iload_n hx hb dX9_readNext_189 rfl (lv_at hl 0 rfl) ?_
      refine lv_iconst (v := 1) hx hb dX9_readNext_190 rfl ?_
      refine lv_iadd hx hb dX9_readNext_191 ?_
      refine lv_aload_n hx hb dX9_readNext_192 rfl (lv_at hl 1 rfl) ?_
      refine va_ldcS (tx := "holds") (q := ad (1000 + 10)) hx hb C.2.2.2.1 (sn_sr_26 C.2.2.2.2.2.2.2.2.2) dX9_readNext_193 ?_
      refine lv_iconst (v := 1) hx hb dX9_readNext_195 rfl ?_
      refine lv_bipush (v := 99) hx hb dX9_readNext_196 (by decide) ?_
      obtain ⟨t_44, h_45, hf⟩ := sn_bd hf
      refine sn_callVi (rest := [.int (y_37 + (1 : Int32)), .ref (ad 6)]) C hw (ctX9_told l  h_45) kl_RX9_179 layM_0 rfl rfl rfl rfl (Nat.le_of_ble_eq_true rfl) dX9_readNext_198 hl.1 (fun H locs hw => ?_)
      obtain ⟨g_46, hf⟩ := sn_gdE hf
      refine sn_iast C hw layM_6 g_46 dX9_readNext_201 (fun H locs hw => ?_)
      obtain ⟨σ_47, e_48, hf⟩ := sn_ltE hf
      rw [← e_48] at hw
      refine lv_aload_n hx hb dX9_readNext_202 rfl (lv_at hl 1 rfl) ?_
      refine sn_getC (r := 6) C hw fd_RX9_31 layM_0 rfl dX9_readNext_203 ?_
      refine lv_iconst (v := 5) hx hb dX9_readNext_206 rfl ?_
      refine lv_dup2_11 hx hb dX9_readNext_207 rfl rfl ?_
      obtain ⟨g_49, hf⟩ := sn_gdE hf
      refine sn_iald C hw layM_6 g_49 dX9_readNext_208 ?_
      refine lv_iconst (v := 1) hx hb dX9_readNext_209 rfl ?_
      refine lv_iadd hx hb dX9_readNext_210 ?_
      obtain ⟨g_50, hf⟩ := sn_gdE hf
      refine sn_iast C hw layM_6 g_50 dX9_readNext_211 (fun H locs hw => ?_)
      obtain ⟨σ_51, e_52, hf⟩ := sn_ltE hf
      rw [← e_52] at hw
      refine lv_goto (tgt := 305) hx hb dX9_readNext_212 (by decide) ?_
      cases hf
      exact kr _ _ _ _ hw rfl dX9_readNext_305
  · have hf := sn_if c_3 hf
    cases hf
    exact kr _ _ _ _ hw rfl dX9_readNext_150
theorem wX9_readNext_138 (C : sn_C p s m args meth c RX9 cX9_readNext 3 none D ct ad layM A) {σ : sn_S}  {o : sn_S} (hf : BX9_readNext_138 σ = some o) (kr : sn_Kr p l e rmX9_readNext s m args below meth c Q D ct ad layM A cX9_readNext .return_ (true) o []) : sn_At p l e rmX9_readNext s m args below meth c Q D ct ad layM A 3 σ 138 [(0, .ref (ad 0))] [] := by
  intro H locs ls hw hl
  have hx := C.1
  have hb := C.2.1
  unfold BX9_readNext_138 at hf
  refine lv_aload_n hx hb dX9_readNext_138 rfl (lv_at hl 0 rfl) ?_
  refine lv_iconst (v := 3) hx hb dX9_readNext_139 rfl ?_
  obtain ⟨t_1, h_2, hf⟩ := sn_bd hf
  refine sn_callVv (rest := []) C hw (ctX9_errs l  h_2) kl_RX9_164 layM_0 rfl rfl rfl rfl (Nat.le_of_ble_eq_true rfl) dX9_readNext_140 hl.1 (fun H locs hw => ?_)
  exact wX9_readNext_143 C  hf kr _ _ _ hw (lv_sub hl [0] rfl)
theorem wX9_readNext_117 (C : sn_C p s m args meth c RX9 cX9_readNext 3 none D ct ad layM A) {σ : sn_S}  {o : sn_S} (hf : BX9_readNext_117 σ = some o) (kr : sn_Kr p l e rmX9_readNext s m args below meth c Q D ct ad layM A cX9_readNext .return_ (true) o []) : sn_At p l e rmX9_readNext s m args below meth c Q D ct ad layM A 3 σ 117 [(0, .ref (ad 0))] [] := by
  intro H locs ls hw hl
  have hx := C.1
  have hb := C.2.1
  unfold BX9_readNext_117 at hf
  refine lv_aload_n hx hb dX9_readNext_117 rfl (lv_at hl 0 rfl) ?_
  refine va_ldcS (tx := "policy") (q := ad (1000 + 9)) hx hb C.2.2.2.1 (sn_sr_25 C.2.2.2.2.2.2.2.2.2) dX9_readNext_118 ?_
  obtain ⟨t_1, h_2, hf⟩ := sn_bd hf
  refine sn_callVi (rest := []) C hw (ctX9_is l  h_2) kl_RX9_154 layM_0 rfl rfl rfl rfl (Nat.le_of_ble_eq_true rfl) dX9_readNext_120 hl.1 (fun H locs hw => ?_)
  refine lv_if_eq (tgt := 143) hx hb dX9_readNext_123 (by decide) (fun c_3 => ?_) (fun c_3 => ?_)
  · have hf := sn_if c_3 hf
    exact wX9_readNext_143 C  hf kr _ _ _ hw (lv_sub hl [0] rfl)
  · have hf := sn_el c_3 hf
    refine lv_aload_n hx hb dX9_readNext_126 rfl (lv_at hl 0 rfl) ?_
    refine sn_getC (r := 6) C hw fd_RX9_31 layM_0 rfl dX9_readNext_127 ?_
    refine lv_bipush (v := 8) hx hb dX9_readNext_130 (by decide) ?_
    obtain ⟨g_4, hf⟩ := sn_gdE hf
    refine sn_iald C hw layM_6 g_4 dX9_readNext_132 ?_
    refine lv_bipush (v := 6) hx hb dX9_readNext_133 (by decide) ?_
    refine lv_icmp_ne (tgt := 143) hx hb dX9_readNext_135 (by decide) (fun c_5 => ?_) (fun c_5 => ?_)
    · have hf := sn_el c_5 hf
      exact wX9_readNext_143 C  hf kr _ _ _ hw (lv_sub hl [0] rfl)
    · have hf := sn_if c_5 hf
      exact wX9_readNext_138 C  hf kr _ _ _ hw (lv_sub hl [0] rfl)
theorem wX9_readNext_96 (C : sn_C p s m args meth c RX9 cX9_readNext 3 none D ct ad layM A) {σ : sn_S}  {o : sn_S} (hf : BX9_readNext_96 σ = some o) (kr : sn_Kr p l e rmX9_readNext s m args below meth c Q D ct ad layM A cX9_readNext .return_ (true) o []) : sn_At p l e rmX9_readNext s m args below meth c Q D ct ad layM A 3 σ 96 [(0, .ref (ad 0))] [] := by
  intro H locs ls hw hl
  have hx := C.1
  have hb := C.2.1
  unfold BX9_readNext_96 at hf
  refine lv_aload_n hx hb dX9_readNext_96 rfl (lv_at hl 0 rfl) ?_
  refine va_ldcS (tx := "net") (q := ad (1000 + 8)) hx hb C.2.2.2.1 (sn_sr_24 C.2.2.2.2.2.2.2.2.2) dX9_readNext_97 ?_
  obtain ⟨t_1, h_2, hf⟩ := sn_bd hf
  refine sn_callVi (rest := []) C hw (ctX9_is l  h_2) kl_RX9_154 layM_0 rfl rfl rfl rfl (Nat.le_of_ble_eq_true rfl) dX9_readNext_99 hl.1 (fun H locs hw => ?_)
  refine lv_if_eq (tgt := 117) hx hb dX9_readNext_102 (by decide) (fun c_3 => ?_) (fun c_3 => ?_)
  · have hf := sn_if c_3 hf
    exact wX9_readNext_117 C  hf kr _ _ _ hw (lv_sub hl [0] rfl)
  · have hf := sn_el c_3 hf
    refine lv_aload_n hx hb dX9_readNext_105 rfl (lv_at hl 0 rfl) ?_
    refine sn_getC (r := 6) C hw fd_RX9_31 layM_0 rfl dX9_readNext_106 ?_
    refine lv_bipush (v := 7) hx hb dX9_readNext_109 (by decide) ?_
    obtain ⟨g_4, hf⟩ := sn_gdE hf
    refine sn_iald C hw layM_6 g_4 dX9_readNext_111 ?_
    refine lv_bipush (v := 8) hx hb dX9_readNext_112 (by decide) ?_
    refine lv_icmp_eq (tgt := 138) hx hb dX9_readNext_114 (by decide) (fun c_5 => ?_) (fun c_5 => ?_)
    · have hf := sn_if c_5 hf
      exact wX9_readNext_138 C  hf kr _ _ _ hw (lv_sub hl [0] rfl)
    · have hf := sn_el c_5 hf
      exact wX9_readNext_117 C  hf kr _ _ _ hw (lv_sub hl [0] rfl)
theorem wX9_readNext_91 (C : sn_C p s m args meth c RX9 cX9_readNext 3 none D ct ad layM A) {σ : sn_S}  {o : sn_S} (hf : BX9_readNext_91 σ = some o) (kr : sn_Kr p l e rmX9_readNext s m args below meth c Q D ct ad layM A cX9_readNext .return_ (true) o []) : sn_At p l e rmX9_readNext s m args below meth c Q D ct ad layM A 3 σ 91 [(0, .ref (ad 0))] [] := by
  intro H locs ls hw hl
  have hx := C.1
  have hb := C.2.1
  unfold BX9_readNext_91 at hf
  refine lv_aload_n hx hb dX9_readNext_91 rfl (lv_at hl 0 rfl) ?_
  refine lv_iconst (v := 3) hx hb dX9_readNext_92 rfl ?_
  obtain ⟨t_1, h_2, hf⟩ := sn_bd hf
  refine sn_callVv (rest := []) C hw (ctX9_errs l  h_2) kl_RX9_164 layM_0 rfl rfl rfl rfl (Nat.le_of_ble_eq_true rfl) dX9_readNext_93 hl.1 (fun H locs hw => ?_)
  exact wX9_readNext_96 C  hf kr _ _ _ hw (lv_sub hl [0] rfl)
theorem wX9_readNext_71 (C : sn_C p s m args meth c RX9 cX9_readNext 3 none D ct ad layM A) {σ : sn_S}  {o : sn_S} (hf : BX9_readNext_71 σ = some o) (kr : sn_Kr p l e rmX9_readNext s m args below meth c Q D ct ad layM A cX9_readNext .return_ (true) o []) : sn_At p l e rmX9_readNext s m args below meth c Q D ct ad layM A 3 σ 71 [(0, .ref (ad 0))] [] := by
  intro H locs ls hw hl
  have hx := C.1
  have hb := C.2.1
  unfold BX9_readNext_71 at hf
  refine lv_aload_n hx hb dX9_readNext_71 rfl (lv_at hl 0 rfl) ?_
  refine va_ldcS (tx := "gust") (q := ad (1000 + 7)) hx hb C.2.2.2.1 (sn_sr_23 C.2.2.2.2.2.2.2.2.2) dX9_readNext_72 ?_
  obtain ⟨t_1, h_2, hf⟩ := sn_bd hf
  refine sn_callVi (rest := []) C hw (ctX9_is l  h_2) kl_RX9_154 layM_0 rfl rfl rfl rfl (Nat.le_of_ble_eq_true rfl) dX9_readNext_74 hl.1 (fun H locs hw => ?_)
  refine lv_if_eq (tgt := 96) hx hb dX9_readNext_77 (by decide) (fun c_3 => ?_) (fun c_3 => ?_)
  · have hf := sn_if c_3 hf
    exact wX9_readNext_96 C  hf kr _ _ _ hw (lv_sub hl [0] rfl)
  · have hf := sn_el c_3 hf
    refine lv_aload_n hx hb dX9_readNext_80 rfl (lv_at hl 0 rfl) ?_
    refine sn_getC (r := 6) C hw fd_RX9_31 layM_0 rfl dX9_readNext_81 ?_
    refine lv_bipush (v := 6) hx hb dX9_readNext_84 (by decide) ?_
    obtain ⟨g_4, hf⟩ := sn_gdE hf
    refine sn_iald C hw layM_6 g_4 dX9_readNext_86 ?_
    refine lv_iconst (v := 5) hx hb dX9_readNext_87 rfl ?_
    refine lv_icmp_ne (tgt := 96) hx hb dX9_readNext_88 (by decide) (fun c_5 => ?_) (fun c_5 => ?_)
    · have hf := sn_el c_5 hf
      exact wX9_readNext_96 C  hf kr _ _ _ hw (lv_sub hl [0] rfl)
    · have hf := sn_if c_5 hf
      exact wX9_readNext_91 C  hf kr _ _ _ hw (lv_sub hl [0] rfl)
theorem wX9_readNext_51 (C : sn_C p s m args meth c RX9 cX9_readNext 3 none D ct ad layM A) {σ : sn_S}  {o : sn_S} (hf : BX9_readNext_51 σ = some o) (kr : sn_Kr p l e rmX9_readNext s m args below meth c Q D ct ad layM A cX9_readNext .return_ (true) o []) : sn_At p l e rmX9_readNext s m args below meth c Q D ct ad layM A 3 σ 51 [(0, .ref (ad 0))] [] := by
  intro H locs ls hw hl
  have hx := C.1
  have hb := C.2.1
  unfold BX9_readNext_51 at hf
  refine lv_aload_n hx hb dX9_readNext_51 rfl (lv_at hl 0 rfl) ?_
  refine va_ldcS (tx := "nose") (q := ad (1000 + 6)) hx hb C.2.2.2.1 (sn_sr_22 C.2.2.2.2.2.2.2.2.2) dX9_readNext_52 ?_
  obtain ⟨t_1, h_2, hf⟩ := sn_bd hf
  refine sn_callVi (rest := []) C hw (ctX9_is l  h_2) kl_RX9_154 layM_0 rfl rfl rfl rfl (Nat.le_of_ble_eq_true rfl) dX9_readNext_54 hl.1 (fun H locs hw => ?_)
  refine lv_if_eq (tgt := 71) hx hb dX9_readNext_57 (by decide) (fun c_3 => ?_) (fun c_3 => ?_)
  · have hf := sn_if c_3 hf
    exact wX9_readNext_71 C  hf kr _ _ _ hw (lv_sub hl [0] rfl)
  · have hf := sn_el c_3 hf
    refine lv_aload_n hx hb dX9_readNext_60 rfl (lv_at hl 0 rfl) ?_
    refine sn_getC (r := 6) C hw fd_RX9_31 layM_0 rfl dX9_readNext_61 ?_
    refine lv_iconst (v := 5) hx hb dX9_readNext_64 rfl ?_
    obtain ⟨g_4, hf⟩ := sn_gdE hf
    refine sn_iald C hw layM_6 g_4 dX9_readNext_65 ?_
    refine lv_bipush (v := 6) hx hb dX9_readNext_66 (by decide) ?_
    refine lv_icmp_eq (tgt := 91) hx hb dX9_readNext_68 (by decide) (fun c_5 => ?_) (fun c_5 => ?_)
    · have hf := sn_if c_5 hf
      exact wX9_readNext_91 C  hf kr _ _ _ hw (lv_sub hl [0] rfl)
    · have hf := sn_el c_5 hf
      exact wX9_readNext_71 C  hf kr _ _ _ hw (lv_sub hl [0] rfl)
theorem wX9_readNext_41 (C : sn_C p s m args meth c RX9 cX9_readNext 3 none D ct ad layM A) {σ : sn_S} {t0 : Int32}  {o : sn_S} (hf : BX9_readNext_41 σ t0 = some o) (kr : sn_Kr p l e rmX9_readNext s m args below meth c Q D ct ad layM A cX9_readNext .return_ (true) o []) : sn_At p l e rmX9_readNext s m args below meth c Q D ct ad layM A 3 σ 41 [(0, .ref (ad 0))] [.int t0] := by
  intro H locs ls hw hl
  have hx := C.1
  have hb := C.2.1
  unfold BX9_readNext_41 at hf
  refine lv_istore_n (lv' := [(1, .int t0), (0, .ref (ad 0))]) hx hb dX9_readNext_41 rfl hl (by decide) rfl (fun ls hl => ?_)
  refine lv_iload_n hx hb dX9_readNext_42 rfl (lv_at hl 0 rfl) ?_
  refine lv_if_ne (tgt := 51) hx hb dX9_readNext_43 (by decide) (fun c_1 => ?_) (fun c_1 => ?_)
  · have hf := sn_el c_1 hf
    exact wX9_readNext_51 C  hf kr _ _ _ hw (lv_sub hl [1] rfl)
  · have hf := sn_if c_1 hf
    refine lv_aload_n hx hb dX9_readNext_46 rfl (lv_at hl 1 rfl) ?_
    refine lv_iconst (v := 1) hx hb dX9_readNext_47 rfl ?_
    obtain ⟨t_2, h_3, hf⟩ := sn_bd hf
    refine sn_callVv (rest := []) C hw (ctX9_errs l  h_3) kl_RX9_164 layM_0 rfl rfl rfl rfl (Nat.le_of_ble_eq_true rfl) dX9_readNext_48 hl.1 (fun H locs hw => ?_)
    exact wX9_readNext_51 C  hf kr _ _ _ hw (lv_sub hl [1] rfl)
theorem wX9_readNext_36 (C : sn_C p s m args meth c RX9 cX9_readNext 3 none D ct ad layM A) {σ : sn_S}  {o : sn_S} (hf : BX9_readNext_36 σ = some o) (kr : sn_Kr p l e rmX9_readNext s m args below meth c Q D ct ad layM A cX9_readNext .return_ (true) o []) : sn_At p l e rmX9_readNext s m args below meth c Q D ct ad layM A 3 σ 36 [(0, .ref (ad 0))] [] := by
  intro H locs ls hw hl
  have hx := C.1
  have hb := C.2.1
  unfold BX9_readNext_36 at hf
  refine lv_iconst (v := 1) hx hb dX9_readNext_36 rfl ?_
  refine lv_goto (tgt := 41) hx hb dX9_readNext_37 (by decide) ?_
  exact wX9_readNext_41 C  hf kr _ _ _ hw (lv_sub hl [0] rfl)
theorem wX9_readNext_in (C : sn_C p s m args meth c RX9 cX9_readNext 3 none D ct ad layM A) {σ : sn_S}  {o : sn_S} (hf : fX9_readNext σ = some o) (kr : sn_Kr p l e rmX9_readNext s m args below meth c Q D ct ad layM A cX9_readNext .return_ (true) o []) : sn_At p l e rmX9_readNext s m args below meth c Q D ct ad layM A 3 σ 0 [(0, .ref (ad 0))] [] := by
  intro H locs ls hw hl
  have hx := C.1
  have hb := C.2.1
  unfold fX9_readNext at hf
  refine lv_aload_n hx hb dX9_readNext_0 rfl (lv_at hl 0 rfl) ?_
  refine va_ldcS (tx := "nose") (q := ad (1000 + 6)) hx hb C.2.2.2.1 (sn_sr_22 C.2.2.2.2.2.2.2.2.2) dX9_readNext_1 ?_
  obtain ⟨t_1, h_2, hf⟩ := sn_bd hf
  refine sn_callVi (rest := []) C hw (ctX9_is l  h_2) kl_RX9_154 layM_0 rfl rfl rfl rfl (Nat.le_of_ble_eq_true rfl) dX9_readNext_3 hl.1 (fun H locs hw => ?_)
  refine lv_if_ne (tgt := 36) hx hb dX9_readNext_6 (by decide) (fun c_3 => ?_) (fun c_3 => ?_)
  · have hf := sn_el c_3 hf
    exact wX9_readNext_36 C  hf kr _ _ _ hw (lv_sub hl [0] rfl)
  · have hf := sn_if c_3 hf
    refine lv_aload_n hx hb dX9_readNext_9 rfl (lv_at hl 0 rfl) ?_
    refine va_ldcS (tx := "gust") (q := ad (1000 + 7)) hx hb C.2.2.2.1 (sn_sr_23 C.2.2.2.2.2.2.2.2.2) dX9_readNext_10 ?_
    obtain ⟨t_4, h_5, hf⟩ := sn_bd hf
    refine sn_callVi (rest := []) C hw (ctX9_is l  h_5) kl_RX9_154 layM_0 rfl rfl rfl rfl (Nat.le_of_ble_eq_true rfl) dX9_readNext_12 hl.1 (fun H locs hw => ?_)
    refine lv_if_ne (tgt := 36) hx hb dX9_readNext_15 (by decide) (fun c_6 => ?_) (fun c_6 => ?_)
    · have hf := sn_el c_6 hf
      exact wX9_readNext_36 C  hf kr _ _ _ hw (lv_sub hl [0] rfl)
    · have hf := sn_if c_6 hf
      refine lv_aload_n hx hb dX9_readNext_18 rfl (lv_at hl 0 rfl) ?_
      refine va_ldcS (tx := "net") (q := ad (1000 + 8)) hx hb C.2.2.2.1 (sn_sr_24 C.2.2.2.2.2.2.2.2.2) dX9_readNext_19 ?_
      obtain ⟨t_7, h_8, hf⟩ := sn_bd hf
      refine sn_callVi (rest := []) C hw (ctX9_is l  h_8) kl_RX9_154 layM_0 rfl rfl rfl rfl (Nat.le_of_ble_eq_true rfl) dX9_readNext_21 hl.1 (fun H locs hw => ?_)
      refine lv_if_ne (tgt := 36) hx hb dX9_readNext_24 (by decide) (fun c_9 => ?_) (fun c_9 => ?_)
      · have hf := sn_el c_9 hf
        exact wX9_readNext_36 C  hf kr _ _ _ hw (lv_sub hl [0] rfl)
      · have hf := sn_if c_9 hf
        refine lv_aload_n hx hb dX9_readNext_27 rfl (lv_at hl 0 rfl) ?_
        refine va_ldcS (tx := "policy") (q := ad (1000 + 9)) hx hb C.2.2.2.1 (sn_sr_25 C.2.2.2.2.2.2.2.2.2) dX9_readNext_28 ?_
        obtain ⟨t_10, h_11, hf⟩ := sn_bd hf
        refine sn_callVi (rest := []) C hw (ctX9_is l  h_11) kl_RX9_154 layM_0 rfl rfl rfl rfl (Nat.le_of_ble_eq_true rfl) dX9_readNext_30 hl.1 (fun H locs hw => ?_)
        refine lv_if_eq (tgt := 40) hx hb dX9_readNext_33 (by decide) (fun c_12 => ?_) (fun c_12 => ?_)
        · have hf := sn_if c_12 hf
          refine lv_iconst (v := 0) hx hb dX9_readNext_40 rfl ?_
          exact wX9_readNext_41 C  hf kr _ _ _ hw (lv_sub hl [0] rfl)
        · have hf := sn_el c_12 hf
          exact wX9_readNext_36 C  hf kr _ _ _ hw (lv_sub hl [0] rfl)
theorem ctX9_readNext (l : Launch) {σ : sn_S}  {o : sn_S} (hf : fX9_readNext σ = some o) : sn_M l yX9_readNext cX9_readNext 3 none rmX9_readNext layM (fun ad => [.ref (ad 0)]) σ none o :=
  sn_met (by decide) (fun _ => Nat.le_of_ble_eq_true rfl) (fun p e s m args below meth c ls D ct ad A C hw hl => wX9_readNext_in C  hf (fun H locs ls pc hw ok hd => sn_vret C hw hd) _ _ _ hw hl)
-- X9_readLine
abbrev rmX9_readLine : Room := { frames := 10, cells := 0, slots := 0, locals := 217 }
def BX9_readLine_52 (σ : sn_S) : Option (sn_S) :=
  (sn_gd (sn_in (10 : Int32) 119) (sn_gd (sn_in (10 : Int32) 119) (sn_lt (sn_pI σ 6 (10 : Int32).toNatClampNeg ((sn_I σ 6 (10 : Int32).toNatClampNeg) + (1 : Int32))) fun σ_3 => (some σ_3))))
def BX9_readLine_41 (σ : sn_S) : Option (sn_S) :=
  ((fX9_good σ).bind fun t_1 => (if t_1 = 0 then
  (BX9_readLine_52 σ)
  else
  ((fX9_advance σ).bind fun t_4 => (BX9_readLine_52 t_4))))
def BX9_readLine_21 (σ : sn_S) : Option (sn_S) :=
  ((fX9_good σ).bind fun t_1 => (if t_1 = 0 then
  (BX9_readLine_41 σ)
  else
  (if (sn_I σ 0 10) = (3 : Int32) then
  (BX9_readLine_41 σ)
  else
  ((fX9_errs σ (1 : Int32)).bind fun t_5 => (BX9_readLine_41 t_5)))))
def fX9_readLine (σ : sn_S) : Option sn_S :=
  (sn_gd (sn_in (10 : Int32) 119) (if (sn_I σ 6 (10 : Int32).toNatClampNeg) = 0 then
  ((fX9_readFirst σ).bind fun t_5 => (BX9_readLine_21 t_5))
  else
  ((fX9_readNext σ).bind fun t_3 => (BX9_readLine_21 t_3))))
theorem wX9_readLine_52 (C : sn_C p s m args meth c RX9 cX9_readLine 1 none D ct ad layM A) {σ : sn_S}  {o : sn_S} (hf : BX9_readLine_52 σ = some o) (kr : sn_Kr p l e rmX9_readLine s m args below meth c Q D ct ad layM A cX9_readLine .return_ (true) o []) : sn_At p l e rmX9_readLine s m args below meth c Q D ct ad layM A 1 σ 52 [(0, .ref (ad 0))] [] := by
  intro H locs ls hw hl
  have hx := C.1
  have hb := C.2.1
  unfold BX9_readLine_52 at hf
  refine lv_aload_n hx hb dX9_readLine_52 rfl (lv_at hl 0 rfl) ?_
  refine sn_getC (r := 6) C hw fd_RX9_31 layM_0 rfl dX9_readLine_53 ?_
  refine lv_bipush (v := 10) hx hb dX9_readLine_56 (by decide) ?_
  refine lv_dup2_11 hx hb dX9_readLine_58 rfl rfl ?_
  obtain ⟨g_1, hf⟩ := sn_gdE hf
  refine sn_iald C hw layM_6 g_1 dX9_readLine_59 ?_
  refine lv_iconst (v := 1) hx hb dX9_readLine_60 rfl ?_
  refine lv_iadd hx hb dX9_readLine_61 ?_
  obtain ⟨g_2, hf⟩ := sn_gdE hf
  refine sn_iast C hw layM_6 g_2 dX9_readLine_62 (fun H locs hw => ?_)
  obtain ⟨σ_3, e_4, hf⟩ := sn_ltE hf
  rw [← e_4] at hw
  cases hf
  exact kr _ _ _ _ hw rfl dX9_readLine_63
theorem wX9_readLine_41 (C : sn_C p s m args meth c RX9 cX9_readLine 1 none D ct ad layM A) {σ : sn_S}  {o : sn_S} (hf : BX9_readLine_41 σ = some o) (kr : sn_Kr p l e rmX9_readLine s m args below meth c Q D ct ad layM A cX9_readLine .return_ (true) o []) : sn_At p l e rmX9_readLine s m args below meth c Q D ct ad layM A 1 σ 41 [(0, .ref (ad 0))] [] := by
  intro H locs ls hw hl
  have hx := C.1
  have hb := C.2.1
  unfold BX9_readLine_41 at hf
  refine lv_aload_n hx hb dX9_readLine_41 rfl (lv_at hl 0 rfl) ?_
  obtain ⟨t_1, h_2, hf⟩ := sn_bd hf
  refine sn_callVi (rest := []) C hw (ctX9_good l  h_2) kl_RX9_140 layM_0 rfl rfl rfl rfl (Nat.le_of_ble_eq_true rfl) dX9_readLine_42 hl.1 (fun H locs hw => ?_)
  refine lv_if_eq (tgt := 52) hx hb dX9_readLine_45 (by decide) (fun c_3 => ?_) (fun c_3 => ?_)
  · have hf := sn_if c_3 hf
    exact wX9_readLine_52 C  hf kr _ _ _ hw (lv_sub hl [0] rfl)
  · have hf := sn_el c_3 hf
    refine lv_aload_n hx hb dX9_readLine_48 rfl (lv_at hl 0 rfl) ?_
    obtain ⟨t_4, h_5, hf⟩ := sn_bd hf
    refine sn_callVv (rest := []) C hw (ctX9_advance l  h_5) kl_RX9_158 layM_0 rfl rfl rfl rfl (Nat.le_of_ble_eq_true rfl) dX9_readLine_49 hl.1 (fun H locs hw => ?_)
    exact wX9_readLine_52 C  hf kr _ _ _ hw (lv_sub hl [0] rfl)
theorem wX9_readLine_21 (C : sn_C p s m args meth c RX9 cX9_readLine 1 none D ct ad layM A) {σ : sn_S}  {o : sn_S} (hf : BX9_readLine_21 σ = some o) (kr : sn_Kr p l e rmX9_readLine s m args below meth c Q D ct ad layM A cX9_readLine .return_ (true) o []) : sn_At p l e rmX9_readLine s m args below meth c Q D ct ad layM A 1 σ 21 [(0, .ref (ad 0))] [] := by
  intro H locs ls hw hl
  have hx := C.1
  have hb := C.2.1
  unfold BX9_readLine_21 at hf
  refine lv_aload_n hx hb dX9_readLine_21 rfl (lv_at hl 0 rfl) ?_
  obtain ⟨t_1, h_2, hf⟩ := sn_bd hf
  refine sn_callVi (rest := []) C hw (ctX9_good l  h_2) kl_RX9_140 layM_0 rfl rfl rfl rfl (Nat.le_of_ble_eq_true rfl) dX9_readLine_22 hl.1 (fun H locs hw => ?_)
  refine lv_if_eq (tgt := 41) hx hb dX9_readLine_25 (by decide) (fun c_3 => ?_) (fun c_3 => ?_)
  · have hf := sn_if c_3 hf
    exact wX9_readLine_41 C  hf kr _ _ _ hw (lv_sub hl [0] rfl)
  · have hf := sn_el c_3 hf
    refine lv_aload_n hx hb dX9_readLine_28 rfl (lv_at hl 0 rfl) ?_
    refine sn_getI C hw fd_RX9_116 layM_0 rfl dX9_readLine_29 ?_
    refine lv_iconst (v := 3) hx hb dX9_readLine_32 rfl ?_
    refine lv_icmp_eq (tgt := 41) hx hb dX9_readLine_33 (by decide) (fun c_4 => ?_) (fun c_4 => ?_)
    · have hf := sn_if c_4 hf
      exact wX9_readLine_41 C  hf kr _ _ _ hw (lv_sub hl [0] rfl)
    · have hf := sn_el c_4 hf
      refine lv_aload_n hx hb dX9_readLine_36 rfl (lv_at hl 0 rfl) ?_
      refine lv_iconst (v := 1) hx hb dX9_readLine_37 rfl ?_
      obtain ⟨t_5, h_6, hf⟩ := sn_bd hf
      refine sn_callVv (rest := []) C hw (ctX9_errs l  h_6) kl_RX9_164 layM_0 rfl rfl rfl rfl (Nat.le_of_ble_eq_true rfl) dX9_readLine_38 hl.1 (fun H locs hw => ?_)
      exact wX9_readLine_41 C  hf kr _ _ _ hw (lv_sub hl [0] rfl)
theorem wX9_readLine_in (C : sn_C p s m args meth c RX9 cX9_readLine 1 none D ct ad layM A) {σ : sn_S}  {o : sn_S} (hf : fX9_readLine σ = some o) (kr : sn_Kr p l e rmX9_readLine s m args below meth c Q D ct ad layM A cX9_readLine .return_ (true) o []) : sn_At p l e rmX9_readLine s m args below meth c Q D ct ad layM A 1 σ 0 [(0, .ref (ad 0))] [] := by
  intro H locs ls hw hl
  have hx := C.1
  have hb := C.2.1
  unfold fX9_readLine at hf
  refine lv_aload_n hx hb dX9_readLine_0 rfl (lv_at hl 0 rfl) ?_
  refine sn_getC (r := 6) C hw fd_RX9_31 layM_0 rfl dX9_readLine_1 ?_
  refine lv_bipush (v := 10) hx hb dX9_readLine_4 (by decide) ?_
  obtain ⟨g_1, hf⟩ := sn_gdE hf
  refine sn_iald C hw layM_6 g_1 dX9_readLine_6 ?_
  refine lv_if_ne (tgt := 17) hx hb dX9_readLine_7 (by decide) (fun c_2 => ?_) (fun c_2 => ?_)
  · have hf := sn_el c_2 hf
    refine lv_aload_n hx hb dX9_readLine_17 rfl (lv_at hl 0 rfl) ?_
    obtain ⟨t_3, h_4, hf⟩ := sn_bd hf
    refine sn_callVv (rest := []) C hw (ctX9_readNext l  h_4) kl_RX9_218 layM_0 rfl rfl rfl rfl (Nat.le_of_ble_eq_true rfl) dX9_readLine_18 hl.1 (fun H locs hw => ?_)
    exact wX9_readLine_21 C  hf kr _ _ _ hw (lv_sub hl [0] rfl)
  · have hf := sn_if c_2 hf
    refine lv_aload_n hx hb dX9_readLine_10 rfl (lv_at hl 0 rfl) ?_
    obtain ⟨t_5, h_6, hf⟩ := sn_bd hf
    refine sn_callVv (rest := []) C hw (ctX9_readFirst l  h_6) kl_RX9_215 layM_0 rfl rfl rfl rfl (Nat.le_of_ble_eq_true rfl) dX9_readLine_11 hl.1 (fun H locs hw => ?_)
    refine lv_goto (tgt := 21) hx hb dX9_readLine_14 (by decide) ?_
    exact wX9_readLine_21 C  hf kr _ _ _ hw (lv_sub hl [0] rfl)
theorem ctX9_readLine (l : Launch) {σ : sn_S}  {o : sn_S} (hf : fX9_readLine σ = some o) : sn_M l yX9_readLine cX9_readLine 1 none rmX9_readLine layM (fun ad => [.ref (ad 0)]) σ none o :=
  sn_met (by decide) (fun _ => Nat.le_of_ble_eq_true rfl) (fun p e s m args below meth c ls D ct ad A C hw hl => wX9_readLine_in C  hf (fun H locs ls pc hw ok hd => sn_vret C hw hd) _ _ _ hw hl)
-- X9_house
abbrev rmX9_house : Room := { frames := 11, cells := 0, slots := 0, locals := 237 }
def BX9_house_110 (σ : sn_S) : Option ((Int32 × sn_S)) :=
  (sn_gd (sn_in (10 : Int32) 119) (some ((sn_I σ 1 (10 : Int32).toNatClampNeg), σ)))
def BX9_house_86 (σ : sn_S) (x1 : Int32) : Option ((sn_S × Int32) ⊕ (sn_S)) :=
  (if (119 : Int32) ≤ x1 then
  (some (.inr (σ)))
  else
  (sn_gd (sn_in x1 119) (sn_gd (sn_in x1 119) (sn_lt (sn_pI σ 1 x1.toNatClampNeg (sn_I σ 6 x1.toNatClampNeg)) fun σ_4 => (sn_lt (x1 + 1) fun y_6 => (some (.inl (σ_4, y_6))))))))
def LX9_house_86  (s : sn_S × Int32) : Option ((sn_S × Int32) ⊕ (sn_S)) := BX9_house_86 s.1 s.2
def BX9_house_74 (σ : sn_S) : Option ((Int32 × sn_S)) :=
  ((fX9_good σ).bind fun t_1 => (if t_1 = 0 then
  (some ((-4 : Int32), σ))
  else
  ((sn_it (LX9_house_86 ) 5000 (σ, (0 : Int32))).bind fun t_4 => (BX9_house_110 t_4))))
def BX9_house_53 (σ : sn_S) : Option ((sn_S) ⊕ (sn_S)) :=
  ((fX9_good σ).bind fun t_1 => (if t_1 = 0 then
  (some (.inr (σ)))
  else
  (if (sn_I σ 0 10) = 0 then
  (some (.inr (σ)))
  else
  ((fX9_readLine σ).bind fun t_5 => (some (.inl (t_5)))))))
def LX9_house_53  (s : sn_S) : Option ((sn_S) ⊕ (sn_S)) := BX9_house_53 s
def BX9_house_49 (σ : sn_S) : Option ((Int32 × sn_S)) :=
  ((fX9_advance σ).bind fun t_1 => ((sn_it (LX9_house_53 ) 5000 (t_1)).bind fun t_3 => (BX9_house_74 t_3)))
def BX9_house_30 (σ : sn_S) (x1 : Int32) : Option ((sn_S × Int32) ⊕ (sn_S)) :=
  (if (119 : Int32) ≤ x1 then
  (some (.inr (σ)))
  else
  (sn_gd (sn_in x1 119) (sn_lt (sn_pI σ 6 x1.toNatClampNeg (0 : Int32)) fun σ_3 => (sn_lt (x1 + 1) fun y_5 => (some (.inl (σ_3, y_5)))))))
def LX9_house_30  (s : sn_S × Int32) : Option ((sn_S × Int32) ⊕ (sn_S)) := BX9_house_30 s.1 s.2
def fX9_house (σ : sn_S) : Option (Int32 × sn_S) :=
  (sn_lt (sn_pI σ 0 7 (sn_I σ 0 5)) fun σ_1 => (sn_lt (sn_pI σ_1 0 5 (0 : Int32)) fun σ_3 => (sn_lt (sn_pI σ_3 0 8 (0 : Int32)) fun σ_5 => (sn_lt (sn_pI σ_5 0 12 (0 : Int32)) fun σ_7 => (sn_lt (sn_pI σ_7 0 13 (-1 : Int32)) fun σ_9 => ((sn_it (LX9_house_30 ) 5000 (σ_9, (0 : Int32))).bind fun t_11 => (BX9_house_49 t_11)))))))
theorem wX9_house_110 (C : sn_C p s m args meth c RX9 cX9_house 2 (some .int) D ct ad layM A) {σ : sn_S}  {o : (Int32 × sn_S)} (hf : BX9_house_110 σ = some o) (kr : sn_Kr p l e rmX9_house s m args below meth c Q D ct ad layM A cX9_house .ireturn (true) o.2 [.int o.1]) : sn_At p l e rmX9_house s m args below meth c Q D ct ad layM A 2 σ 110 [(0, .ref (ad 0))] [] := by
  intro H locs ls hw hl
  have hx := C.1
  have hb := C.2.1
  unfold BX9_house_110 at hf
  refine lv_aload_n hx hb dX9_house_110 rfl (lv_at hl 0 rfl) ?_
  refine sn_getC (r := 1) C hw fd_RX9_9 layM_0 rfl dX9_house_111 ?_
  refine lv_bipush (v := 10) hx hb dX9_house_114 (by decide) ?_
  obtain ⟨g_1, hf⟩ := sn_gdE hf
  refine sn_iald C hw layM_1 g_1 dX9_house_116 ?_
  cases hf
  exact kr _ _ _ _ hw rfl dX9_house_117
theorem wX9_house_86 (C : sn_C p s m args meth c RX9 cX9_house 2 (some .int) D ct ad layM A) {σ : sn_S} {x1 : Int32}  {o : (sn_S × Int32) ⊕ (sn_S)} (hf : BX9_house_86 σ x1 = some o) (kc : ∀ v, o = .inl v → sn_At p l e rmX9_house s m args below meth c Q D ct ad layM A 2 v.1 86 [(0, .ref (ad 0)), (1, .int v.2)] []) (kx : ∀ v, o = .inr v → sn_At p l e rmX9_house s m args below meth c Q D ct ad layM A 2 v 110 [(0, .ref (ad 0))] []) : sn_At p l e rmX9_house s m args below meth c Q D ct ad layM A 2 σ 86 [(0, .ref (ad 0)), (1, .int x1)] [] := by
  intro H locs ls hw hl
  have hx := C.1
  have hb := C.2.1
  unfold BX9_house_86 at hf
  refine lv_iload_n hx hb dX9_house_86 rfl (lv_at hl 1 rfl) ?_
  refine lv_bipush (v := 119) hx hb dX9_house_87 (by decide) ?_
  refine lv_icmp_ge (tgt := 110) hx hb dX9_house_89 (by decide) (fun c_1 => ?_) (fun c_1 => ?_)
  · have hf := sn_if c_1 hf
    cases hf
    exact kx _ rfl _ _ _ hw (lv_sub hl [0] rfl)
  · have hf := sn_el c_1 hf
    refine lv_aload_n hx hb dX9_house_92 rfl (lv_at hl 0 rfl) ?_
    refine sn_getC (r := 1) C hw fd_RX9_9 layM_0 rfl dX9_house_93 ?_
    refine lv_iload_n hx hb dX9_house_96 rfl (lv_at hl 1 rfl) ?_
    refine lv_aload_n hx hb dX9_house_97 rfl (lv_at hl 0 rfl) ?_
    refine sn_getC (r := 6) C hw fd_RX9_31 layM_0 rfl dX9_house_98 ?_
    refine lv_iload_n hx hb dX9_house_101 rfl (lv_at hl 1 rfl) ?_
    obtain ⟨g_2, hf⟩ := sn_gdE hf
    refine sn_iald C hw layM_6 g_2 dX9_house_102 ?_
    obtain ⟨g_3, hf⟩ := sn_gdE hf
    refine sn_iast C hw layM_1 g_3 dX9_house_103 (fun H locs hw => ?_)
    obtain ⟨σ_4, e_5, hf⟩ := sn_ltE hf
    rw [← e_5] at hw
    obtain ⟨y_6, e_7, hf⟩ := sn_ltE hf
    refine lv_iinc (v := y_6) (lv' := [(1, .int y_6), (0, .ref (ad 0))]) hx hb dX9_house_104 hl (k := 1) rfl (by rw [e_7]; rfl) (by decide) rfl (fun ls hl => ?_)
    refine lv_goto (tgt := 86) hx hb dX9_house_107 (by decide) ?_
    cases hf
    exact kc _ rfl _ _ _ hw (lv_sub hl [1, 0] rfl)
theorem wX9_house_L86 (C : sn_C p s m args meth c RX9 cX9_house 2 (some .int) D ct ad layM A)    {z : sn_S × Int32} {t : sn_S} (h : sn_it (LX9_house_86 ) 5000 z = some t) (kx : ∀ v, t = v → sn_At p l e rmX9_house s m args below meth c Q D ct ad layM A 2 v 110 [(0, .ref (ad 0))] []) : sn_At p l e rmX9_house s m args below meth c Q D ct ad layM A 2 z.1 86 [(0, .ref (ad 0)), (1, .int z.2)] [] :=
  sn_loop (f := LX9_house_86 ) (G := fun z => sn_At p l e rmX9_house s m args below meth c Q D ct ad layM A 2 z.1 86 [(0, .ref (ad 0)), (1, .int z.2)] []) (E := fun t => (∀ v, t = v → sn_At p l e rmX9_house s m args below meth c Q D ct ad layM A 2 v 110 [(0, .ref (ad 0))] []) ∧ True) (fun z o hf k1 k2 => wX9_house_86 C  hf (fun v e => k1 v e) (fun v e => (k2 _ e).1 v rfl)) 5000 z t h ⟨kx, trivial⟩
theorem wX9_house_74 (C : sn_C p s m args meth c RX9 cX9_house 2 (some .int) D ct ad layM A) {σ : sn_S}  {o : (Int32 × sn_S)} (hf : BX9_house_74 σ = some o) (kr : sn_Kr p l e rmX9_house s m args below meth c Q D ct ad layM A cX9_house .ireturn (true) o.2 [.int o.1]) : sn_At p l e rmX9_house s m args below meth c Q D ct ad layM A 2 σ 74 [(0, .ref (ad 0))] [] := by
  intro H locs ls hw hl
  have hx := C.1
  have hb := C.2.1
  unfold BX9_house_74 at hf
  refine lv_aload_n hx hb dX9_house_74 rfl (lv_at hl 0 rfl) ?_
  obtain ⟨t_1, h_2, hf⟩ := sn_bd hf
  refine sn_callVi (rest := []) C hw (ctX9_good l  h_2) kl_RX9_140 layM_0 rfl rfl rfl rfl (Nat.le_of_ble_eq_true rfl) dX9_house_75 hl.1 (fun H locs hw => ?_)
  refine lv_if_ne (tgt := 84) hx hb dX9_house_78 (by decide) (fun c_3 => ?_) (fun c_3 => ?_)
  · have hf := sn_el c_3 hf
    refine lv_iconst (v := 0) hx hb dX9_house_84 rfl ?_
    refine lv_istore_n (lv' := [(1, .int (0 : Int32)), (0, .ref (ad 0))]) hx hb dX9_house_85 rfl hl (by decide) rfl (fun ls hl => ?_)
    obtain ⟨t_4, h_5, hf⟩ := sn_bd hf
    exact wX9_house_L86 C  h_5 (fun v e => by cases e; exact wX9_house_110 C  hf kr) _ _ _ hw (lv_sub hl [1, 0] rfl)
  · have hf := sn_if c_3 hf
    refine lv_bipush (v := (-4)) hx hb dX9_house_81 (by decide) ?_
    cases hf
    exact kr _ _ _ _ hw rfl dX9_house_83
theorem wX9_house_53 (C : sn_C p s m args meth c RX9 cX9_house 2 (some .int) D ct ad layM A) {σ : sn_S}  {o : (sn_S) ⊕ (sn_S)} (hf : BX9_house_53 σ = some o) (kc : ∀ v, o = .inl v → sn_At p l e rmX9_house s m args below meth c Q D ct ad layM A 2 v 53 [(0, .ref (ad 0))] []) (kx : ∀ v, o = .inr v → sn_At p l e rmX9_house s m args below meth c Q D ct ad layM A 2 v 74 [(0, .ref (ad 0))] []) : sn_At p l e rmX9_house s m args below meth c Q D ct ad layM A 2 σ 53 [(0, .ref (ad 0))] [] := by
  intro H locs ls hw hl
  have hx := C.1
  have hb := C.2.1
  unfold BX9_house_53 at hf
  refine lv_aload_n hx hb dX9_house_53 rfl (lv_at hl 0 rfl) ?_
  obtain ⟨t_1, h_2, hf⟩ := sn_bd hf
  refine sn_callVi (rest := []) C hw (ctX9_good l  h_2) kl_RX9_140 layM_0 rfl rfl rfl rfl (Nat.le_of_ble_eq_true rfl) dX9_house_54 hl.1 (fun H locs hw => ?_)
  refine lv_if_eq (tgt := 74) hx hb dX9_house_57 (by decide) (fun c_3 => ?_) (fun c_3 => ?_)
  · have hf := sn_if c_3 hf
    cases hf
    exact kx _ rfl _ _ _ hw (lv_sub hl [0] rfl)
  · have hf := sn_el c_3 hf
    refine lv_aload_n hx hb dX9_house_60 rfl (lv_at hl 0 rfl) ?_
    refine sn_getI C hw fd_RX9_116 layM_0 rfl dX9_house_61 ?_
    refine lv_if_eq (tgt := 74) hx hb dX9_house_64 (by decide) (fun c_4 => ?_) (fun c_4 => ?_)
    · have hf := sn_if c_4 hf
      cases hf
      exact kx _ rfl _ _ _ hw (lv_sub hl [0] rfl)
    · have hf := sn_el c_4 hf
      refine lv_aload_n hx hb dX9_house_67 rfl (lv_at hl 0 rfl) ?_
      obtain ⟨t_5, h_6, hf⟩ := sn_bd hf
      refine sn_callVv (rest := []) C hw (ctX9_readLine l  h_6) kl_RX9_221 layM_0 rfl rfl rfl rfl (Nat.le_of_ble_eq_true rfl) dX9_house_68 hl.1 (fun H locs hw => ?_)
      refine lv_goto (tgt := 53) hx hb dX9_house_71 (by decide) ?_
      cases hf
      exact kc _ rfl _ _ _ hw (lv_sub hl [0] rfl)
theorem wX9_house_L53 (C : sn_C p s m args meth c RX9 cX9_house 2 (some .int) D ct ad layM A)    {z : sn_S} {t : sn_S} (h : sn_it (LX9_house_53 ) 5000 z = some t) (kx : ∀ v, t = v → sn_At p l e rmX9_house s m args below meth c Q D ct ad layM A 2 v 74 [(0, .ref (ad 0))] []) : sn_At p l e rmX9_house s m args below meth c Q D ct ad layM A 2 z 53 [(0, .ref (ad 0))] [] :=
  sn_loop (f := LX9_house_53 ) (G := fun z => sn_At p l e rmX9_house s m args below meth c Q D ct ad layM A 2 z 53 [(0, .ref (ad 0))] []) (E := fun t => (∀ v, t = v → sn_At p l e rmX9_house s m args below meth c Q D ct ad layM A 2 v 74 [(0, .ref (ad 0))] []) ∧ True) (fun z o hf k1 k2 => wX9_house_53 C  hf (fun v e => k1 v e) (fun v e => (k2 _ e).1 v rfl)) 5000 z t h ⟨kx, trivial⟩
theorem wX9_house_49 (C : sn_C p s m args meth c RX9 cX9_house 2 (some .int) D ct ad layM A) {σ : sn_S}  {o : (Int32 × sn_S)} (hf : BX9_house_49 σ = some o) (kr : sn_Kr p l e rmX9_house s m args below meth c Q D ct ad layM A cX9_house .ireturn (true) o.2 [.int o.1]) : sn_At p l e rmX9_house s m args below meth c Q D ct ad layM A 2 σ 49 [(0, .ref (ad 0))] [] := by
  intro H locs ls hw hl
  have hx := C.1
  have hb := C.2.1
  unfold BX9_house_49 at hf
  refine lv_aload_n hx hb dX9_house_49 rfl (lv_at hl 0 rfl) ?_
  obtain ⟨t_1, h_2, hf⟩ := sn_bd hf
  refine sn_callVv (rest := []) C hw (ctX9_advance l  h_2) kl_RX9_158 layM_0 rfl rfl rfl rfl (Nat.le_of_ble_eq_true rfl) dX9_house_50 hl.1 (fun H locs hw => ?_)
  obtain ⟨t_3, h_4, hf⟩ := sn_bd hf
  exact wX9_house_L53 C  h_4 (fun v e => by cases e; exact wX9_house_74 C  hf kr) _ _ _ hw (lv_sub hl [0] rfl)
theorem wX9_house_30 (C : sn_C p s m args meth c RX9 cX9_house 2 (some .int) D ct ad layM A) {σ : sn_S} {x1 : Int32}  {o : (sn_S × Int32) ⊕ (sn_S)} (hf : BX9_house_30 σ x1 = some o) (kc : ∀ v, o = .inl v → sn_At p l e rmX9_house s m args below meth c Q D ct ad layM A 2 v.1 30 [(0, .ref (ad 0)), (1, .int v.2)] []) (kx : ∀ v, o = .inr v → sn_At p l e rmX9_house s m args below meth c Q D ct ad layM A 2 v 49 [(0, .ref (ad 0))] []) : sn_At p l e rmX9_house s m args below meth c Q D ct ad layM A 2 σ 30 [(0, .ref (ad 0)), (1, .int x1)] [] := by
  intro H locs ls hw hl
  have hx := C.1
  have hb := C.2.1
  unfold BX9_house_30 at hf
  refine lv_iload_n hx hb dX9_house_30 rfl (lv_at hl 1 rfl) ?_
  refine lv_bipush (v := 119) hx hb dX9_house_31 (by decide) ?_
  refine lv_icmp_ge (tgt := 49) hx hb dX9_house_33 (by decide) (fun c_1 => ?_) (fun c_1 => ?_)
  · have hf := sn_if c_1 hf
    cases hf
    exact kx _ rfl _ _ _ hw (lv_sub hl [0] rfl)
  · have hf := sn_el c_1 hf
    refine lv_aload_n hx hb dX9_house_36 rfl (lv_at hl 0 rfl) ?_
    refine sn_getC (r := 6) C hw fd_RX9_31 layM_0 rfl dX9_house_37 ?_
    refine lv_iload_n hx hb dX9_house_40 rfl (lv_at hl 1 rfl) ?_
    refine lv_iconst (v := 0) hx hb dX9_house_41 rfl ?_
    obtain ⟨g_2, hf⟩ := sn_gdE hf
    refine sn_iast C hw layM_6 g_2 dX9_house_42 (fun H locs hw => ?_)
    obtain ⟨σ_3, e_4, hf⟩ := sn_ltE hf
    rw [← e_4] at hw
    obtain ⟨y_5, e_6, hf⟩ := sn_ltE hf
    refine lv_iinc (v := y_5) (lv' := [(1, .int y_5), (0, .ref (ad 0))]) hx hb dX9_house_43 hl (k := 1) rfl (by rw [e_6]; rfl) (by decide) rfl (fun ls hl => ?_)
    refine lv_goto (tgt := 30) hx hb dX9_house_46 (by decide) ?_
    cases hf
    exact kc _ rfl _ _ _ hw (lv_sub hl [1, 0] rfl)
theorem wX9_house_L30 (C : sn_C p s m args meth c RX9 cX9_house 2 (some .int) D ct ad layM A)    {z : sn_S × Int32} {t : sn_S} (h : sn_it (LX9_house_30 ) 5000 z = some t) (kx : ∀ v, t = v → sn_At p l e rmX9_house s m args below meth c Q D ct ad layM A 2 v 49 [(0, .ref (ad 0))] []) : sn_At p l e rmX9_house s m args below meth c Q D ct ad layM A 2 z.1 30 [(0, .ref (ad 0)), (1, .int z.2)] [] :=
  sn_loop (f := LX9_house_30 ) (G := fun z => sn_At p l e rmX9_house s m args below meth c Q D ct ad layM A 2 z.1 30 [(0, .ref (ad 0)), (1, .int z.2)] []) (E := fun t => (∀ v, t = v → sn_At p l e rmX9_house s m args below meth c Q D ct ad layM A 2 v 49 [(0, .ref (ad 0))] []) ∧ True) (fun z o hf k1 k2 => wX9_house_30 C  hf (fun v e => k1 v e) (fun v e => (k2 _ e).1 v rfl)) 5000 z t h ⟨kx, trivial⟩
theorem wX9_house_in (C : sn_C p s m args meth c RX9 cX9_house 2 (some .int) D ct ad layM A) {σ : sn_S}  {o : (Int32 × sn_S)} (hf : fX9_house σ = some o) (kr : sn_Kr p l e rmX9_house s m args below meth c Q D ct ad layM A cX9_house .ireturn (true) o.2 [.int o.1]) : sn_At p l e rmX9_house s m args below meth c Q D ct ad layM A 2 σ 0 [(0, .ref (ad 0))] [] := by
  intro H locs ls hw hl
  have hx := C.1
  have hb := C.2.1
  unfold fX9_house at hf
  refine lv_aload_n hx hb dX9_house_0 rfl (lv_at hl 0 rfl) ?_
  refine lv_aload_n hx hb dX9_house_1 rfl (lv_at hl 0 rfl) ?_
  refine sn_getI C hw fd_RX9_100 layM_0 rfl dX9_house_2 ?_
  refine sn_putI C hw fp_RX9_103 layM_0 rfl dX9_house_5 (fun H locs hw => ?_)
  obtain ⟨σ_1, e_2, hf⟩ := sn_ltE hf
  rw [← e_2] at hw
  refine lv_aload_n hx hb dX9_house_8 rfl (lv_at hl 0 rfl) ?_
  refine lv_iconst (v := 0) hx hb dX9_house_9 rfl ?_
  refine sn_putI C hw fp_RX9_100 layM_0 rfl dX9_house_10 (fun H locs hw => ?_)
  obtain ⟨σ_3, e_4, hf⟩ := sn_ltE hf
  rw [← e_4] at hw
  refine lv_aload_n hx hb dX9_house_13 rfl (lv_at hl 0 rfl) ?_
  refine lv_iconst (v := 0) hx hb dX9_house_14 rfl ?_
  refine sn_putI C hw fp_RX9_106 layM_0 rfl dX9_house_15 (fun H locs hw => ?_)
  obtain ⟨σ_5, e_6, hf⟩ := sn_ltE hf
  rw [← e_6] at hw
  refine lv_aload_n hx hb dX9_house_18 rfl (lv_at hl 0 rfl) ?_
  refine lv_iconst (v := 0) hx hb dX9_house_19 rfl ?_
  refine sn_putI C hw fp_RX9_137 layM_0 rfl dX9_house_20 (fun H locs hw => ?_)
  obtain ⟨σ_7, e_8, hf⟩ := sn_ltE hf
  rw [← e_8] at hw
  refine lv_aload_n hx hb dX9_house_23 rfl (lv_at hl 0 rfl) ?_
  refine lv_iconst (v := (-1)) hx hb dX9_house_24 rfl ?_
  refine sn_putI C hw fp_RX9_27 layM_0 rfl dX9_house_25 (fun H locs hw => ?_)
  obtain ⟨σ_9, e_10, hf⟩ := sn_ltE hf
  rw [← e_10] at hw
  refine lv_iconst (v := 0) hx hb dX9_house_28 rfl ?_
  refine lv_istore_n (lv' := [(1, .int (0 : Int32)), (0, .ref (ad 0))]) hx hb dX9_house_29 rfl hl (by decide) rfl (fun ls hl => ?_)
  obtain ⟨t_11, h_12, hf⟩ := sn_bd hf
  exact wX9_house_L30 C  h_12 (fun v e => by cases e; exact wX9_house_49 C  hf kr) _ _ _ hw (lv_sub hl [1, 0] rfl)
theorem ctX9_house (l : Launch) {σ : sn_S}  {o : (Int32 × sn_S)} (hf : fX9_house σ = some o) : sn_M l yX9_house cX9_house 2 (some .int) rmX9_house layM (fun ad => [.ref (ad 0)]) σ (some (fun _ => .int o.1)) o.2 :=
  sn_met (by decide) (fun _ => Nat.le_of_ble_eq_true rfl) (fun p e s m args below meth c ls D ct ad A C hw hl => wX9_house_in C  hf (fun H locs ls pc hw ok hd => sn_iret C hw hd) _ _ _ hw hl)
-- X9_nose
abbrev rmX9_nose : Room := { frames := 2, cells := 0, slots := 0, locals := 47 }
def fX9_nose (σ : sn_S) (x1 : Int32) (x2 : Int32) : Option Int32 :=
  ((fX9_isPerson σ x1.toInt64).bind fun t_1 => (if t_1 = 0 then
  (some (-2 : Int32))
  else
  ((fX9_in x2.toInt64 (0 : Int64) (1 : Int64)).bind fun t_4 => (if t_4 = 0 then
  (some (-2 : Int32))
  else
  (sn_gd (sn_in (((11 : Int32) + ((2 : Int32) * x1)) + x2) 119) (some (sn_I σ 1 (((11 : Int32) + ((2 : Int32) * x1)) + x2).toNatClampNeg)))))))
theorem wX9_nose_in (C : sn_C p s m args meth c RX9 cX9_nose 3 (some .int) D ct ad layM A) {σ : sn_S} {x1 : Int32} {x2 : Int32}  {o : Int32} (hf : fX9_nose σ x1 x2 = some o) (kr : sn_Kr p l e rmX9_nose s m args below meth c Q D ct ad layM A cX9_nose .ireturn (true) σ [.int o]) : sn_At p l e rmX9_nose s m args below meth c Q D ct ad layM A 3 σ 0 [(0, .ref (ad 0)), (1, .int x1), (2, .int x2)] [] := by
  intro H locs ls hw hl
  have hx := C.1
  have hb := C.2.1
  unfold fX9_nose at hf
  refine lv_aload_n hx hb dX9_nose_0 rfl (lv_at hl 0 rfl) ?_
  refine lv_iload_n hx hb dX9_nose_1 rfl (lv_at hl 1 rfl) ?_
  refine lv_i2l hx hb dX9_nose_2 rfl ?_
  obtain ⟨t_1, h_2, hf⟩ := sn_bd hf
  refine sn_callVi (rest := []) C hw (ctX9_isPerson l  h_2) kl_RX9_224 layM_0 rfl rfl rfl rfl (Nat.le_of_ble_eq_true rfl) dX9_nose_3 hl.1 (fun H locs hw => ?_)
  refine lv_if_eq (tgt := 35) hx hb dX9_nose_6 (by decide) (fun c_3 => ?_) (fun c_3 => ?_)
  · have hf := sn_if c_3 hf
    refine lv_bipush (v := (-2)) hx hb dX9_nose_35 (by decide) ?_
    cases hf
    exact kr _ _ _ _ hw rfl dX9_nose_37
  · have hf := sn_el c_3 hf
    refine lv_iload_n hx hb dX9_nose_9 rfl (lv_at hl 2 rfl) ?_
    refine lv_i2l hx hb dX9_nose_10 rfl ?_
    refine lv_lconst (v := 0) hx hb dX9_nose_11 rfl ?_
    refine lv_lconst (v := 1) hx hb dX9_nose_12 rfl ?_
    obtain ⟨t_4, h_5, hf⟩ := sn_bd hf
    refine sn_callSi (rest := []) C hw (ctX9_in l  h_5) kl_RX9_94 rfl rfl rfl (Nat.le_of_ble_eq_true rfl) dX9_nose_13 hl.1 (fun H locs hw => ?_)
    refine lv_if_eq (tgt := 35) hx hb dX9_nose_16 (by decide) (fun c_6 => ?_) (fun c_6 => ?_)
    · have hf := sn_if c_6 hf
      refine lv_bipush (v := (-2)) hx hb dX9_nose_35 (by decide) ?_
      cases hf
      exact kr _ _ _ _ hw rfl dX9_nose_37
    · have hf := sn_el c_6 hf
      refine lv_aload_n hx hb dX9_nose_19 rfl (lv_at hl 0 rfl) ?_
      refine sn_getC (r := 1) C hw fd_RX9_9 layM_0 rfl dX9_nose_20 ?_
      refine lv_bipush (v := 11) hx hb dX9_nose_23 (by decide) ?_
      refine lv_iconst (v := 2) hx hb dX9_nose_25 rfl ?_
      refine lv_iload_n hx hb dX9_nose_26 rfl (lv_at hl 1 rfl) ?_
      refine lv_imul hx hb dX9_nose_27 ?_
      refine lv_iadd hx hb dX9_nose_28 ?_
      refine lv_iload_n hx hb dX9_nose_29 rfl (lv_at hl 2 rfl) ?_
      refine lv_iadd hx hb dX9_nose_30 ?_
      obtain ⟨g_7, hf⟩ := sn_gdE hf
      refine sn_iald C hw layM_1 g_7 dX9_nose_31 ?_
      refine lv_goto (tgt := 37) hx hb dX9_nose_32 (by decide) ?_
      cases hf
      exact kr _ _ _ _ hw rfl dX9_nose_37
theorem ctX9_nose (l : Launch) {σ : sn_S} {x1 : Int32} {x2 : Int32}  {o : Int32} (hf : fX9_nose σ x1 x2 = some o) : sn_M l yX9_nose cX9_nose 3 (some .int) rmX9_nose layM (fun ad => [.ref (ad 0), .int x1, .int x2]) σ (some (fun _ => .int o)) σ :=
  sn_met (by decide) (fun _ => Nat.le_of_ble_eq_true rfl) (fun p e s m args below meth c ls D ct ad A C hw hl => wX9_nose_in C  hf (fun H locs ls pc hw ok hd => sn_iret C hw hd) _ _ _ hw hl)
-- X9_policy
abbrev rmX9_policy : Room := { frames := 2, cells := 0, slots := 0, locals := 46 }
def fX9_policy (σ : sn_S) (x1 : Int32) (x2 : Int32) : Option Int32 :=
  ((fX9_isPolicy σ x1).bind fun t_1 => (if t_1 = 0 then
  (some (-2 : Int32))
  else
  ((fX9_in x2.toInt64 (0 : Int64) (4 : Int64)).bind fun t_4 => (if t_4 = 0 then
  (some (-2 : Int32))
  else
  ((fX9_of σ x1 x2).bind fun t_7 => (some t_7))))))
theorem wX9_policy_in (C : sn_C p s m args meth c RX9 cX9_policy 3 (some .int) D ct ad layM A) {σ : sn_S} {x1 : Int32} {x2 : Int32}  {o : Int32} (hf : fX9_policy σ x1 x2 = some o) (kr : sn_Kr p l e rmX9_policy s m args below meth c Q D ct ad layM A cX9_policy .ireturn (true) σ [.int o]) : sn_At p l e rmX9_policy s m args below meth c Q D ct ad layM A 3 σ 0 [(0, .ref (ad 0)), (1, .int x1), (2, .int x2)] [] := by
  intro H locs ls hw hl
  have hx := C.1
  have hb := C.2.1
  unfold fX9_policy at hf
  refine lv_aload_n hx hb dX9_policy_0 rfl (lv_at hl 0 rfl) ?_
  refine lv_iload_n hx hb dX9_policy_1 rfl (lv_at hl 1 rfl) ?_
  obtain ⟨t_1, h_2, hf⟩ := sn_bd hf
  refine sn_callVi (rest := []) C hw (ctX9_isPolicy l  h_2) kl_RX9_228 layM_0 rfl rfl rfl rfl (Nat.le_of_ble_eq_true rfl) dX9_policy_2 hl.1 (fun H locs hw => ?_)
  refine lv_if_eq (tgt := 29) hx hb dX9_policy_5 (by decide) (fun c_3 => ?_) (fun c_3 => ?_)
  · have hf := sn_if c_3 hf
    refine lv_bipush (v := (-2)) hx hb dX9_policy_29 (by decide) ?_
    cases hf
    exact kr _ _ _ _ hw rfl dX9_policy_31
  · have hf := sn_el c_3 hf
    refine lv_iload_n hx hb dX9_policy_8 rfl (lv_at hl 2 rfl) ?_
    refine lv_i2l hx hb dX9_policy_9 rfl ?_
    refine lv_lconst (v := 0) hx hb dX9_policy_10 rfl ?_
    refine lv_ldc2 hx hb C.2.2.2.1 (C.2.2.2.2.1 _ kk_RX9_232) dX9_policy_11 ?_
    obtain ⟨t_4, h_5, hf⟩ := sn_bd hf
    refine sn_callSi (rest := []) C hw (ctX9_in l  h_5) kl_RX9_94 rfl rfl rfl (Nat.le_of_ble_eq_true rfl) dX9_policy_14 hl.1 (fun H locs hw => ?_)
    refine lv_if_eq (tgt := 29) hx hb dX9_policy_17 (by decide) (fun c_6 => ?_) (fun c_6 => ?_)
    · have hf := sn_if c_6 hf
      refine lv_bipush (v := (-2)) hx hb dX9_policy_29 (by decide) ?_
      cases hf
      exact kr _ _ _ _ hw rfl dX9_policy_31
    · have hf := sn_el c_6 hf
      refine lv_aload_n hx hb dX9_policy_20 rfl (lv_at hl 0 rfl) ?_
      refine lv_iload_n hx hb dX9_policy_21 rfl (lv_at hl 1 rfl) ?_
      refine lv_iload_n hx hb dX9_policy_22 rfl (lv_at hl 2 rfl) ?_
      obtain ⟨t_7, h_8, hf⟩ := sn_bd hf
      refine sn_callVi (rest := []) C hw (ctX9_of l  h_8) kl_RX9_234 layM_0 rfl rfl rfl rfl (Nat.le_of_ble_eq_true rfl) dX9_policy_23 hl.1 (fun H locs hw => ?_)
      refine lv_goto (tgt := 31) hx hb dX9_policy_26 (by decide) ?_
      cases hf
      exact kr _ _ _ _ hw rfl dX9_policy_31
theorem ctX9_policy (l : Launch) {σ : sn_S} {x1 : Int32} {x2 : Int32}  {o : Int32} (hf : fX9_policy σ x1 x2 = some o) : sn_M l yX9_policy cX9_policy 3 (some .int) rmX9_policy layM (fun ad => [.ref (ad 0), .int x1, .int x2]) σ (some (fun _ => .int o)) σ :=
  sn_met (by decide) (fun _ => Nat.le_of_ble_eq_true rfl) (fun p e s m args below meth c ls D ct ad A C hw hl => wX9_policy_in C  hf (fun H locs ls pc hw ok hd => sn_iret C hw hd) _ _ _ hw hl)
-- X9_asItIs
abbrev rmX9_asItIs : Room := { frames := 1, cells := 0, slots := 0, locals := 20 }
def BX9_asItIs_238 (σ : sn_S) : Option (sn_S) :=
  (some σ)
def BX9_asItIs_232 (σ : sn_S) (x1 : Int32) : Option ((sn_S × Int32) ⊕ (sn_S)) :=
  (sn_lt (x1 + 1) fun y_1 => (some (.inl (σ, y_1))))
def BX9_asItIs_161 (σ : sn_S) (x1 : Int32) : Option ((sn_S × Int32) ⊕ (sn_S)) :=
  (sn_gd (sn_in (9 : Int32) 119) (if (sn_I σ 1 (9 : Int32).toNatClampNeg) ≤ x1 then
  (some (.inr (σ)))
  else
  (sn_gd (sn_in ((79 : Int32) + x1) 119) (sn_lt (sn_I σ 1 ((79 : Int32) + x1).toNatClampNeg) fun y_4 => (sn_lt (y_4 / (200 : Int32)) fun y_6 => (sn_lt ((y_4 / (2 : Int32)) - (y_4 / (2 : Int32)) / (100 : Int32) * (100 : Int32)) fun y_8 => (if (y_4 - y_4 / (2 : Int32) * (2 : Int32)) = (1 : Int32) then
  (sn_gd (sn_in y_6 6) (sn_gd (sn_in y_6 6) (sn_lt (sn_pI σ 9 y_6.toNatClampNeg ((sn_I σ 9 y_6.toNatClampNeg) ||| ((1 : Int32) <<< (y_8 &&& 31)))) fun σ_17 => (BX9_asItIs_232 σ_17 x1))))
  else
  (sn_gd (sn_in y_6 6) (sn_gd (sn_in y_6 6) (sn_lt (sn_pI σ 8 y_6.toNatClampNeg ((sn_I σ 8 y_6.toNatClampNeg) ||| ((1 : Int32) <<< (y_8 &&& 31)))) fun σ_13 => (BX9_asItIs_232 σ_13 x1)))))))))))
def LX9_asItIs_161  (s : sn_S × Int32) : Option ((sn_S × Int32) ⊕ (sn_S)) := BX9_asItIs_161 s.1 s.2
def BX9_asItIs_159 (σ : sn_S) : Option (sn_S) :=
  ((sn_it (LX9_asItIs_161 ) 5000 (σ, (0 : Int32))).bind fun t_1 => (BX9_asItIs_238 t_1))
def BX9_asItIs_133 (σ : sn_S) (x1 : Int32) : Option ((sn_S × Int32) ⊕ (sn_S)) :=
  (if (6 : Int32) ≤ x1 then
  (some (.inr (σ)))
  else
  (sn_gd (sn_in x1 6) (sn_lt (sn_pI σ 8 x1.toNatClampNeg (0 : Int32)) fun σ_3 => (sn_gd (sn_in x1 6) (sn_lt (sn_pI σ_3 9 x1.toNatClampNeg (0 : Int32)) fun σ_6 => (sn_lt (x1 + 1) fun y_8 => (some (.inl (σ_6, y_8)))))))))
def LX9_asItIs_133  (s : sn_S × Int32) : Option ((sn_S × Int32) ⊕ (sn_S)) := BX9_asItIs_133 s.1 s.2
def BX9_asItIs_131 (σ : sn_S) : Option (sn_S) :=
  ((sn_it (LX9_asItIs_133 ) 5000 (σ, (0 : Int32))).bind fun t_1 => (BX9_asItIs_159 t_1))
def BX9_asItIs_68 (σ : sn_S) (x1 : Int32) : Option ((sn_S × Int32) ⊕ (sn_S)) :=
  (sn_gd (sn_in (6 : Int32) 119) (if (sn_I σ 1 (6 : Int32).toNatClampNeg) ≤ x1 then
  (some (.inr (σ)))
  else
  (sn_gd (sn_in (((23 : Int32) + ((2 : Int32) * x1)) + (1 : Int32)) 119) (sn_lt (sn_I σ 1 (((23 : Int32) + ((2 : Int32) * x1)) + (1 : Int32)).toNatClampNeg) fun y_4 => (sn_gd (sn_in y_4 30) (sn_gd (sn_in ((23 : Int32) + ((2 : Int32) * x1)) 119) (sn_gd (sn_in y_4 30) (sn_lt (sn_pI σ 7 y_4.toNatClampNeg ((sn_I σ 7 y_4.toNatClampNeg) + (sn_I σ 1 ((23 : Int32) + ((2 : Int32) * x1)).toNatClampNeg))) fun σ_9 => (sn_lt (sn_pI σ_9 0 18 ((sn_I σ_9 0 18) ||| ((1 : Int32) <<< (y_4 &&& 31)))) fun σ_11 => (sn_lt (x1 + 1) fun y_13 => (some (.inl (σ_11, y_13)))))))))))))
def LX9_asItIs_68  (s : sn_S × Int32) : Option ((sn_S × Int32) ⊕ (sn_S)) := BX9_asItIs_68 s.1 s.2
def BX9_asItIs_66 (σ : sn_S) : Option (sn_S) :=
  ((sn_it (LX9_asItIs_68 ) 5000 (σ, (0 : Int32))).bind fun t_1 => (BX9_asItIs_131 t_1))
def BX9_asItIs_42 (σ : sn_S) (x1 : Int32) : Option ((sn_S × Int32) ⊕ (sn_S)) :=
  (if (30 : Int32) ≤ x1 then
  (some (.inr (σ)))
  else
  (sn_gd (sn_in (1 : Int32) 119) (sn_gd (sn_in x1 30) (sn_lt (sn_pI σ 7 x1.toNatClampNeg (sn_I σ 1 (1 : Int32).toNatClampNeg)) fun σ_4 => (sn_lt (x1 + 1) fun y_6 => (some (.inl (σ_4, y_6))))))))
def LX9_asItIs_42  (s : sn_S × Int32) : Option ((sn_S × Int32) ⊕ (sn_S)) := BX9_asItIs_42 s.1 s.2
def fX9_asItIs (σ : sn_S) : Option sn_S :=
  (sn_lt (sn_pI σ 0 18 (0 : Int32)) fun σ_1 => (sn_lt (sn_pI σ_1 0 19 (-1 : Int32)) fun σ_3 => (sn_gd (sn_in (2 : Int32) 119) (sn_lt (sn_pI σ_3 0 20 (sn_I σ_3 1 (2 : Int32).toNatClampNeg)) fun σ_6 => (sn_gd (sn_in (3 : Int32) 119) (sn_lt (sn_pI σ_6 0 21 (sn_I σ_6 1 (3 : Int32).toNatClampNeg)) fun σ_9 => ((fX9_minutes σ_9).bind fun t_11 => (sn_lt (sn_pI σ_9 0 22 (t_11 - (1 : Int32))) fun σ_13 => ((sn_it (LX9_asItIs_42 ) 5000 (σ_13, (0 : Int32))).bind fun t_15 => (BX9_asItIs_66 t_15))))))))))
theorem wX9_asItIs_238 (C : sn_C p s m args meth c RX9 cX9_asItIs 5 none D ct ad layM A) {σ : sn_S}  {o : sn_S} (hf : BX9_asItIs_238 σ = some o) (kr : sn_Kr p l e rmX9_asItIs s m args below meth c Q D ct ad layM A cX9_asItIs .return_ (true) o []) : sn_At p l e rmX9_asItIs s m args below meth c Q D ct ad layM A 5 σ 238 [] [] := by
  intro H locs ls hw hl
  have hx := C.1
  have hb := C.2.1
  unfold BX9_asItIs_238 at hf
  cases hf
  exact kr _ _ _ _ hw rfl dX9_asItIs_238
theorem wX9_asItIs_232 (C : sn_C p s m args meth c RX9 cX9_asItIs 5 none D ct ad layM A) {σ : sn_S} {x1 : Int32}  {o : (sn_S × Int32) ⊕ (sn_S)} (hf : BX9_asItIs_232 σ x1 = some o) (kc : ∀ v, o = .inl v → sn_At p l e rmX9_asItIs s m args below meth c Q D ct ad layM A 5 v.1 161 [(0, .ref (ad 0)), (1, .int v.2)] []) (kx : ∀ v, o = .inr v → sn_At p l e rmX9_asItIs s m args below meth c Q D ct ad layM A 5 v 238 [] []) : sn_At p l e rmX9_asItIs s m args below meth c Q D ct ad layM A 5 σ 232 [(0, .ref (ad 0)), (1, .int x1)] [] := by
  intro H locs ls hw hl
  have hx := C.1
  have hb := C.2.1
  unfold BX9_asItIs_232 at hf
  obtain ⟨y_1, e_2, hf⟩ := sn_ltE hf
  refine lv_iinc (v := y_1) (lv' := [(1, .int y_1), (0, .ref (ad 0))]) hx hb dX9_asItIs_232 hl (k := 1) rfl (by rw [e_2]; rfl) (by decide) rfl (fun ls hl => ?_)
  refine lv_goto (tgt := 161) hx hb dX9_asItIs_235 (by decide) ?_
  cases hf
  exact kc _ rfl _ _ _ hw (lv_sub hl [1, 0] rfl)
theorem wX9_asItIs_161 (C : sn_C p s m args meth c RX9 cX9_asItIs 5 none D ct ad layM A) {σ : sn_S} {x1 : Int32}  {o : (sn_S × Int32) ⊕ (sn_S)} (hf : BX9_asItIs_161 σ x1 = some o) (kc : ∀ v, o = .inl v → sn_At p l e rmX9_asItIs s m args below meth c Q D ct ad layM A 5 v.1 161 [(0, .ref (ad 0)), (1, .int v.2)] []) (kx : ∀ v, o = .inr v → sn_At p l e rmX9_asItIs s m args below meth c Q D ct ad layM A 5 v 238 [] []) : sn_At p l e rmX9_asItIs s m args below meth c Q D ct ad layM A 5 σ 161 [(0, .ref (ad 0)), (1, .int x1)] [] := by
  intro H locs ls hw hl
  have hx := C.1
  have hb := C.2.1
  unfold BX9_asItIs_161 at hf
  refine lv_iload_n hx hb dX9_asItIs_161 rfl (lv_at hl 1 rfl) ?_
  refine lv_aload_n hx hb dX9_asItIs_162 rfl (lv_at hl 0 rfl) ?_
  refine sn_getC (r := 1) C hw fd_RX9_9 layM_0 rfl dX9_asItIs_163 ?_
  refine lv_bipush (v := 9) hx hb dX9_asItIs_166 (by decide) ?_
  obtain ⟨g_1, hf⟩ := sn_gdE hf
  refine sn_iald C hw layM_1 g_1 dX9_asItIs_168 ?_
  refine lv_icmp_ge (tgt := 238) hx hb dX9_asItIs_169 (by decide) (fun c_2 => ?_) (fun c_2 => ?_)
  · have hf := sn_if c_2 hf
    cases hf
    exact kx _ rfl _ _ _ hw (lv_sub hl [] rfl)
  · have hf := sn_el c_2 hf
    refine lv_aload_n hx hb dX9_asItIs_172 rfl (lv_at hl 0 rfl) ?_
    refine sn_getC (r := 1) C hw fd_RX9_9 layM_0 rfl dX9_asItIs_173 ?_
    refine lv_bipush (v := 79) hx hb dX9_asItIs_176 (by decide) ?_
    refine lv_iload_n hx hb dX9_asItIs_178 rfl (lv_at hl 1 rfl) ?_
    refine lv_iadd hx hb dX9_asItIs_179 ?_
    obtain ⟨g_3, hf⟩ := sn_gdE hf
    refine sn_iald C hw layM_1 g_3 dX9_asItIs_180 ?_
    obtain ⟨y_4, e_5, hf⟩ := sn_ltE hf
    refine lv_topi (fun y_4_ e_5_ => ?_)
    obtain rfl : y_4 = y_4_ := e_5.trans e_5_.symm
    refine lv_istore_n (lv' := [(2, .int y_4), (0, .ref (ad 0)), (1, .int x1)]) hx hb dX9_asItIs_181 rfl hl (by decide) rfl (fun ls hl => ?_)
    refine lv_iload_n hx hb dX9_asItIs_182 rfl (lv_at hl 0 rfl) ?_
    refine lv_sipush (v := 200) hx hb dX9_asItIs_183 (by decide) ?_
    refine lv_idiv hx hb dX9_asItIs_186 (by decide) ?_
    obtain ⟨y_6, e_7, hf⟩ := sn_ltE hf
    refine lv_topi (fun y_6_ e_7_ => ?_)
    obtain rfl : y_6 = y_6_ := e_7.trans e_7_.symm
    refine lv_istore_n (lv' := [(3, .int y_6), (2, .int y_4), (0, .ref (ad 0)), (1, .int x1)]) hx hb dX9_asItIs_187 rfl hl (by decide) rfl (fun ls hl => ?_)
    refine lv_iload_n hx hb dX9_asItIs_188 rfl (lv_at hl 1 rfl) ?_
    refine lv_iconst (v := 2) hx hb dX9_asItIs_189 rfl ?_
    refine lv_idiv hx hb dX9_asItIs_190 (by decide) ?_
    refine lv_bipush (v := 100) hx hb dX9_asItIs_191 (by decide) ?_
    refine lv_irem hx hb dX9_asItIs_193 (by decide) ?_
    obtain ⟨y_8, e_9, hf⟩ := sn_ltE hf
    refine lv_topi (fun y_8_ e_9_ => ?_)
    obtain rfl : y_8 = y_8_ := e_9.trans e_9_.symm
    refine lv_istore (lv' := [(4, .int y_8), (3, .int y_6), (2, .int y_4), (0, .ref (ad 0)), (1, .int x1)]) hx hb dX9_asItIs_194 hl (by decide) rfl (fun ls hl => ?_)
    refine lv_iload_n hx hb dX9_asItIs_196 rfl (lv_at hl 2 rfl) ?_
    refine lv_iconst (v := 2) hx hb dX9_asItIs_197 rfl ?_
    refine lv_irem hx hb dX9_asItIs_198 (by decide) ?_
    refine lv_iconst (v := 1) hx hb dX9_asItIs_199 rfl ?_
    refine lv_icmp_ne (tgt := 219) hx hb dX9_asItIs_200 (by decide) (fun c_10 => ?_) (fun c_10 => ?_)
    · have hf := sn_el c_10 hf
      refine lv_aload_n hx hb dX9_asItIs_219 rfl (lv_at hl 3 rfl) ?_
      refine sn_getC (r := 8) C hw fd_RX9_37 layM_0 rfl dX9_asItIs_220 ?_
      refine lv_iload_n hx hb dX9_asItIs_223 rfl (lv_at hl 1 rfl) ?_
      refine lv_dup2_11 hx hb dX9_asItIs_224 rfl rfl ?_
      obtain ⟨g_11, hf⟩ := sn_gdE hf
      refine sn_iald C hw layM_8 g_11 dX9_asItIs_225 ?_
      refine lv_iconst (v := 1) hx hb dX9_asItIs_226 rfl ?_
      refine lv_iload hx hb dX9_asItIs_227 (lv_at hl 0 rfl) ?_
      refine lv_ishl hx hb dX9_asItIs_229 ?_
      refine lv_ior hx hb dX9_asItIs_230 ?_
      obtain ⟨g_12, hf⟩ := sn_gdE hf
      refine sn_iast C hw layM_8 g_12 dX9_asItIs_231 (fun H locs hw => ?_)
      obtain ⟨σ_13, e_14, hf⟩ := sn_ltE hf
      rw [← e_14] at hw
      exact wX9_asItIs_232 C  hf kc kx _ _ _ hw (lv_sub hl [3, 4] rfl)
    · have hf := sn_if c_10 hf
      refine lv_aload_n hx hb dX9_asItIs_203 rfl (lv_at hl 3 rfl) ?_
      refine sn_getC (r := 9) C hw fd_RX9_40 layM_0 rfl dX9_asItIs_204 ?_
      refine lv_iload_n hx hb dX9_asItIs_207 rfl (lv_at hl 1 rfl) ?_
      refine lv_dup2_11 hx hb dX9_asItIs_208 rfl rfl ?_
      obtain ⟨g_15, hf⟩ := sn_gdE hf
      refine sn_iald C hw layM_9 g_15 dX9_asItIs_209 ?_
      refine lv_iconst (v := 1) hx hb dX9_asItIs_210 rfl ?_
      refine lv_iload hx hb dX9_asItIs_211 (lv_at hl 0 rfl) ?_
      refine lv_ishl hx hb dX9_asItIs_213 ?_
      refine lv_ior hx hb dX9_asItIs_214 ?_
      obtain ⟨g_16, hf⟩ := sn_gdE hf
      refine sn_iast C hw layM_9 g_16 dX9_asItIs_215 (fun H locs hw => ?_)
      obtain ⟨σ_17, e_18, hf⟩ := sn_ltE hf
      rw [← e_18] at hw
      refine lv_goto (tgt := 232) hx hb dX9_asItIs_216 (by decide) ?_
      exact wX9_asItIs_232 C  hf kc kx _ _ _ hw (lv_sub hl [3, 4] rfl)
theorem wX9_asItIs_L161 (C : sn_C p s m args meth c RX9 cX9_asItIs 5 none D ct ad layM A)    {z : sn_S × Int32} {t : sn_S} (h : sn_it (LX9_asItIs_161 ) 5000 z = some t) (kx : ∀ v, t = v → sn_At p l e rmX9_asItIs s m args below meth c Q D ct ad layM A 5 v 238 [] []) : sn_At p l e rmX9_asItIs s m args below meth c Q D ct ad layM A 5 z.1 161 [(0, .ref (ad 0)), (1, .int z.2)] [] :=
  sn_loop (f := LX9_asItIs_161 ) (G := fun z => sn_At p l e rmX9_asItIs s m args below meth c Q D ct ad layM A 5 z.1 161 [(0, .ref (ad 0)), (1, .int z.2)] []) (E := fun t => (∀ v, t = v → sn_At p l e rmX9_asItIs s m args below meth c Q D ct ad layM A 5 v 238 [] []) ∧ True) (fun z o hf k1 k2 => wX9_asItIs_161 C  hf (fun v e => k1 v e) (fun v e => (k2 _ e).1 v rfl)) 5000 z t h ⟨kx, trivial⟩
theorem wX9_asItIs_159 (C : sn_C p s m args meth c RX9 cX9_asItIs 5 none D ct ad layM A) {σ : sn_S}  {o : sn_S} (hf : BX9_asItIs_159 σ = some o) (kr : sn_Kr p l e rmX9_asItIs s m args below meth c Q D ct ad layM A cX9_asItIs .return_ (true) o []) : sn_At p l e rmX9_asItIs s m args below meth c Q D ct ad layM A 5 σ 159 [(0, .ref (ad 0))] [] := by
  intro H locs ls hw hl
  have hx := C.1
  have hb := C.2.1
  unfold BX9_asItIs_159 at hf
  refine lv_iconst (v := 0) hx hb dX9_asItIs_159 rfl ?_
  refine lv_istore_n (lv' := [(1, .int (0 : Int32)), (0, .ref (ad 0))]) hx hb dX9_asItIs_160 rfl hl (by decide) rfl (fun ls hl => ?_)
  obtain ⟨t_1, h_2, hf⟩ := sn_bd hf
  exact wX9_asItIs_L161 C  h_2 (fun v e => by cases e; exact wX9_asItIs_238 C  hf kr) _ _ _ hw (lv_sub hl [1, 0] rfl)
theorem wX9_asItIs_133 (C : sn_C p s m args meth c RX9 cX9_asItIs 5 none D ct ad layM A) {σ : sn_S} {x1 : Int32}  {o : (sn_S × Int32) ⊕ (sn_S)} (hf : BX9_asItIs_133 σ x1 = some o) (kc : ∀ v, o = .inl v → sn_At p l e rmX9_asItIs s m args below meth c Q D ct ad layM A 5 v.1 133 [(0, .ref (ad 0)), (1, .int v.2)] []) (kx : ∀ v, o = .inr v → sn_At p l e rmX9_asItIs s m args below meth c Q D ct ad layM A 5 v 159 [(0, .ref (ad 0))] []) : sn_At p l e rmX9_asItIs s m args below meth c Q D ct ad layM A 5 σ 133 [(0, .ref (ad 0)), (1, .int x1)] [] := by
  intro H locs ls hw hl
  have hx := C.1
  have hb := C.2.1
  unfold BX9_asItIs_133 at hf
  refine lv_iload_n hx hb dX9_asItIs_133 rfl (lv_at hl 1 rfl) ?_
  refine lv_bipush (v := 6) hx hb dX9_asItIs_134 (by decide) ?_
  refine lv_icmp_ge (tgt := 159) hx hb dX9_asItIs_136 (by decide) (fun c_1 => ?_) (fun c_1 => ?_)
  · have hf := sn_if c_1 hf
    cases hf
    exact kx _ rfl _ _ _ hw (lv_sub hl [0] rfl)
  · have hf := sn_el c_1 hf
    refine lv_aload_n hx hb dX9_asItIs_139 rfl (lv_at hl 0 rfl) ?_
    refine sn_getC (r := 8) C hw fd_RX9_37 layM_0 rfl dX9_asItIs_140 ?_
    refine lv_iload_n hx hb dX9_asItIs_143 rfl (lv_at hl 1 rfl) ?_
    refine lv_iconst (v := 0) hx hb dX9_asItIs_144 rfl ?_
    obtain ⟨g_2, hf⟩ := sn_gdE hf
    refine sn_iast C hw layM_8 g_2 dX9_asItIs_145 (fun H locs hw => ?_)
    obtain ⟨σ_3, e_4, hf⟩ := sn_ltE hf
    rw [← e_4] at hw
    refine lv_aload_n hx hb dX9_asItIs_146 rfl (lv_at hl 0 rfl) ?_
    refine sn_getC (r := 9) C hw fd_RX9_40 layM_0 rfl dX9_asItIs_147 ?_
    refine lv_iload_n hx hb dX9_asItIs_150 rfl (lv_at hl 1 rfl) ?_
    refine lv_iconst (v := 0) hx hb dX9_asItIs_151 rfl ?_
    obtain ⟨g_5, hf⟩ := sn_gdE hf
    refine sn_iast C hw layM_9 g_5 dX9_asItIs_152 (fun H locs hw => ?_)
    obtain ⟨σ_6, e_7, hf⟩ := sn_ltE hf
    rw [← e_7] at hw
    obtain ⟨y_8, e_9, hf⟩ := sn_ltE hf
    refine lv_iinc (v := y_8) (lv' := [(1, .int y_8), (0, .ref (ad 0))]) hx hb dX9_asItIs_153 hl (k := 1) rfl (by rw [e_9]; rfl) (by decide) rfl (fun ls hl => ?_)
    refine lv_goto (tgt := 133) hx hb dX9_asItIs_156 (by decide) ?_
    cases hf
    exact kc _ rfl _ _ _ hw (lv_sub hl [1, 0] rfl)
theorem wX9_asItIs_L133 (C : sn_C p s m args meth c RX9 cX9_asItIs 5 none D ct ad layM A)    {z : sn_S × Int32} {t : sn_S} (h : sn_it (LX9_asItIs_133 ) 5000 z = some t) (kx : ∀ v, t = v → sn_At p l e rmX9_asItIs s m args below meth c Q D ct ad layM A 5 v 159 [(0, .ref (ad 0))] []) : sn_At p l e rmX9_asItIs s m args below meth c Q D ct ad layM A 5 z.1 133 [(0, .ref (ad 0)), (1, .int z.2)] [] :=
  sn_loop (f := LX9_asItIs_133 ) (G := fun z => sn_At p l e rmX9_asItIs s m args below meth c Q D ct ad layM A 5 z.1 133 [(0, .ref (ad 0)), (1, .int z.2)] []) (E := fun t => (∀ v, t = v → sn_At p l e rmX9_asItIs s m args below meth c Q D ct ad layM A 5 v 159 [(0, .ref (ad 0))] []) ∧ True) (fun z o hf k1 k2 => wX9_asItIs_133 C  hf (fun v e => k1 v e) (fun v e => (k2 _ e).1 v rfl)) 5000 z t h ⟨kx, trivial⟩
theorem wX9_asItIs_131 (C : sn_C p s m args meth c RX9 cX9_asItIs 5 none D ct ad layM A) {σ : sn_S}  {o : sn_S} (hf : BX9_asItIs_131 σ = some o) (kr : sn_Kr p l e rmX9_asItIs s m args below meth c Q D ct ad layM A cX9_asItIs .return_ (true) o []) : sn_At p l e rmX9_asItIs s m args below meth c Q D ct ad layM A 5 σ 131 [(0, .ref (ad 0))] [] := by
  intro H locs ls hw hl
  have hx := C.1
  have hb := C.2.1
  unfold BX9_asItIs_131 at hf
  refine lv_iconst (v := 0) hx hb dX9_asItIs_131 rfl ?_
  refine lv_istore_n (lv' := [(1, .int (0 : Int32)), (0, .ref (ad 0))]) hx hb dX9_asItIs_132 rfl hl (by decide) rfl (fun ls hl => ?_)
  obtain ⟨t_1, h_2, hf⟩ := sn_bd hf
  exact wX9_asItIs_L133 C  h_2 (fun v e => by cases e; exact wX9_asItIs_159 C  hf kr) _ _ _ hw (lv_sub hl [1, 0] rfl)
theorem wX9_asItIs_68 (C : sn_C p s m args meth c RX9 cX9_asItIs 5 none D ct ad layM A) {σ : sn_S} {x1 : Int32}  {o : (sn_S × Int32) ⊕ (sn_S)} (hf : BX9_asItIs_68 σ x1 = some o) (kc : ∀ v, o = .inl v → sn_At p l e rmX9_asItIs s m args below meth c Q D ct ad layM A 5 v.1 68 [(0, .ref (ad 0)), (1, .int v.2)] []) (kx : ∀ v, o = .inr v → sn_At p l e rmX9_asItIs s m args below meth c Q D ct ad layM A 5 v 131 [(0, .ref (ad 0))] []) : sn_At p l e rmX9_asItIs s m args below meth c Q D ct ad layM A 5 σ 68 [(0, .ref (ad 0)), (1, .int x1)] [] := by
  intro H locs ls hw hl
  have hx := C.1
  have hb := C.2.1
  unfold BX9_asItIs_68 at hf
  refine lv_iload_n hx hb dX9_asItIs_68 rfl (lv_at hl 1 rfl) ?_
  refine lv_aload_n hx hb dX9_asItIs_69 rfl (lv_at hl 0 rfl) ?_
  refine sn_getC (r := 1) C hw fd_RX9_9 layM_0 rfl dX9_asItIs_70 ?_
  refine lv_bipush (v := 6) hx hb dX9_asItIs_73 (by decide) ?_
  obtain ⟨g_1, hf⟩ := sn_gdE hf
  refine sn_iald C hw layM_1 g_1 dX9_asItIs_75 ?_
  refine lv_icmp_ge (tgt := 131) hx hb dX9_asItIs_76 (by decide) (fun c_2 => ?_) (fun c_2 => ?_)
  · have hf := sn_if c_2 hf
    cases hf
    exact kx _ rfl _ _ _ hw (lv_sub hl [0] rfl)
  · have hf := sn_el c_2 hf
    refine lv_aload_n hx hb dX9_asItIs_79 rfl (lv_at hl 0 rfl) ?_
    refine sn_getC (r := 1) C hw fd_RX9_9 layM_0 rfl dX9_asItIs_80 ?_
    refine lv_bipush (v := 23) hx hb dX9_asItIs_83 (by decide) ?_
    refine lv_iconst (v := 2) hx hb dX9_asItIs_85 rfl ?_
    refine lv_iload_n hx hb dX9_asItIs_86 rfl (lv_at hl 1 rfl) ?_
    refine lv_imul hx hb dX9_asItIs_87 ?_
    refine lv_iadd hx hb dX9_asItIs_88 ?_
    refine lv_iconst (v := 1) hx hb dX9_asItIs_89 rfl ?_
    refine lv_iadd hx hb dX9_asItIs_90 ?_
    obtain ⟨g_3, hf⟩ := sn_gdE hf
    refine sn_iald C hw layM_1 g_3 dX9_asItIs_91 ?_
    obtain ⟨y_4, e_5, hf⟩ := sn_ltE hf
    refine lv_topi (fun y_4_ e_5_ => ?_)
    obtain rfl : y_4 = y_4_ := e_5.trans e_5_.symm
    refine lv_istore_n (lv' := [(2, .int y_4), (0, .ref (ad 0)), (1, .int x1)]) hx hb dX9_asItIs_92 rfl hl (by decide) rfl (fun ls hl => ?_)
    refine lv_aload_n hx hb dX9_asItIs_93 rfl (lv_at hl 1 rfl) ?_
    refine sn_getC (r := 7) C hw fd_RX9_34 layM_0 rfl dX9_asItIs_94 ?_
    refine lv_iload_n hx hb dX9_asItIs_97 rfl (lv_at hl 0 rfl) ?_
    refine lv_dup2_11 hx hb dX9_asItIs_98 rfl rfl ?_
    obtain ⟨g_6, hf⟩ := sn_gdE hf
    refine sn_iald C hw layM_7 g_6 dX9_asItIs_99 ?_
    refine lv_aload_n hx hb dX9_asItIs_100 rfl (lv_at hl 1 rfl) ?_
    refine sn_getC (r := 1) C hw fd_RX9_9 layM_0 rfl dX9_asItIs_101 ?_
    refine lv_bipush (v := 23) hx hb dX9_asItIs_104 (by decide) ?_
    refine lv_iconst (v := 2) hx hb dX9_asItIs_106 rfl ?_
    refine lv_iload_n hx hb dX9_asItIs_107 rfl (lv_at hl 2 rfl) ?_
    refine lv_imul hx hb dX9_asItIs_108 ?_
    refine lv_iadd hx hb dX9_asItIs_109 ?_
    obtain ⟨g_7, hf⟩ := sn_gdE hf
    refine sn_iald C hw layM_1 g_7 dX9_asItIs_110 ?_
    refine lv_iadd hx hb dX9_asItIs_111 ?_
    obtain ⟨g_8, hf⟩ := sn_gdE hf
    refine sn_iast C hw layM_7 g_8 dX9_asItIs_112 (fun H locs hw => ?_)
    obtain ⟨σ_9, e_10, hf⟩ := sn_ltE hf
    rw [← e_10] at hw
    refine lv_aload_n hx hb dX9_asItIs_113 rfl (lv_at hl 1 rfl) ?_
    refine lv_dup hx hb dX9_asItIs_114 rfl ?_
    refine sn_getI C hw fd_RX9_237 layM_0 rfl dX9_asItIs_115 ?_
    refine lv_iconst (v := 1) hx hb dX9_asItIs_118 rfl ?_
    refine lv_iload_n hx hb dX9_asItIs_119 rfl (lv_at hl 0 rfl) ?_
    refine lv_ishl hx hb dX9_asItIs_120 ?_
    refine lv_ior hx hb dX9_asItIs_121 ?_
    refine sn_putI C hw fp_RX9_237 layM_0 rfl dX9_asItIs_122 (fun H locs hw => ?_)
    obtain ⟨σ_11, e_12, hf⟩ := sn_ltE hf
    rw [← e_12] at hw
    obtain ⟨y_13, e_14, hf⟩ := sn_ltE hf
    refine lv_iinc (v := y_13) (lv' := [(1, .int y_13), (2, .int y_4), (0, .ref (ad 0))]) hx hb dX9_asItIs_125 hl (k := 2) rfl (by rw [e_14]; rfl) (by decide) rfl (fun ls hl => ?_)
    refine lv_goto (tgt := 68) hx hb dX9_asItIs_128 (by decide) ?_
    cases hf
    exact kc _ rfl _ _ _ hw (lv_sub hl [2, 0] rfl)
theorem wX9_asItIs_L68 (C : sn_C p s m args meth c RX9 cX9_asItIs 5 none D ct ad layM A)    {z : sn_S × Int32} {t : sn_S} (h : sn_it (LX9_asItIs_68 ) 5000 z = some t) (kx : ∀ v, t = v → sn_At p l e rmX9_asItIs s m args below meth c Q D ct ad layM A 5 v 131 [(0, .ref (ad 0))] []) : sn_At p l e rmX9_asItIs s m args below meth c Q D ct ad layM A 5 z.1 68 [(0, .ref (ad 0)), (1, .int z.2)] [] :=
  sn_loop (f := LX9_asItIs_68 ) (G := fun z => sn_At p l e rmX9_asItIs s m args below meth c Q D ct ad layM A 5 z.1 68 [(0, .ref (ad 0)), (1, .int z.2)] []) (E := fun t => (∀ v, t = v → sn_At p l e rmX9_asItIs s m args below meth c Q D ct ad layM A 5 v 131 [(0, .ref (ad 0))] []) ∧ True) (fun z o hf k1 k2 => wX9_asItIs_68 C  hf (fun v e => k1 v e) (fun v e => (k2 _ e).1 v rfl)) 5000 z t h ⟨kx, trivial⟩
theorem wX9_asItIs_66 (C : sn_C p s m args meth c RX9 cX9_asItIs 5 none D ct ad layM A) {σ : sn_S}  {o : sn_S} (hf : BX9_asItIs_66 σ = some o) (kr : sn_Kr p l e rmX9_asItIs s m args below meth c Q D ct ad layM A cX9_asItIs .return_ (true) o []) : sn_At p l e rmX9_asItIs s m args below meth c Q D ct ad layM A 5 σ 66 [(0, .ref (ad 0))] [] := by
  intro H locs ls hw hl
  have hx := C.1
  have hb := C.2.1
  unfold BX9_asItIs_66 at hf
  refine lv_iconst (v := 0) hx hb dX9_asItIs_66 rfl ?_
  refine lv_istore_n (lv' := [(1, .int (0 : Int32)), (0, .ref (ad 0))]) hx hb dX9_asItIs_67 rfl hl (by decide) rfl (fun ls hl => ?_)
  obtain ⟨t_1, h_2, hf⟩ := sn_bd hf
  exact wX9_asItIs_L68 C  h_2 (fun v e => by cases e; exact wX9_asItIs_131 C  hf kr) _ _ _ hw (lv_sub hl [1, 0] rfl)
theorem wX9_asItIs_42 (C : sn_C p s m args meth c RX9 cX9_asItIs 5 none D ct ad layM A) {σ : sn_S} {x1 : Int32}  {o : (sn_S × Int32) ⊕ (sn_S)} (hf : BX9_asItIs_42 σ x1 = some o) (kc : ∀ v, o = .inl v → sn_At p l e rmX9_asItIs s m args below meth c Q D ct ad layM A 5 v.1 42 [(0, .ref (ad 0)), (1, .int v.2)] []) (kx : ∀ v, o = .inr v → sn_At p l e rmX9_asItIs s m args below meth c Q D ct ad layM A 5 v 66 [(0, .ref (ad 0))] []) : sn_At p l e rmX9_asItIs s m args below meth c Q D ct ad layM A 5 σ 42 [(0, .ref (ad 0)), (1, .int x1)] [] := by
  intro H locs ls hw hl
  have hx := C.1
  have hb := C.2.1
  unfold BX9_asItIs_42 at hf
  refine lv_iload_n hx hb dX9_asItIs_42 rfl (lv_at hl 1 rfl) ?_
  refine lv_bipush (v := 30) hx hb dX9_asItIs_43 (by decide) ?_
  refine lv_icmp_ge (tgt := 66) hx hb dX9_asItIs_45 (by decide) (fun c_1 => ?_) (fun c_1 => ?_)
  · have hf := sn_if c_1 hf
    cases hf
    exact kx _ rfl _ _ _ hw (lv_sub hl [0] rfl)
  · have hf := sn_el c_1 hf
    refine lv_aload_n hx hb dX9_asItIs_48 rfl (lv_at hl 0 rfl) ?_
    refine sn_getC (r := 7) C hw fd_RX9_34 layM_0 rfl dX9_asItIs_49 ?_
    refine lv_iload_n hx hb dX9_asItIs_52 rfl (lv_at hl 1 rfl) ?_
    refine lv_aload_n hx hb dX9_asItIs_53 rfl (lv_at hl 0 rfl) ?_
    refine sn_getC (r := 1) C hw fd_RX9_9 layM_0 rfl dX9_asItIs_54 ?_
    refine lv_iconst (v := 1) hx hb dX9_asItIs_57 rfl ?_
    obtain ⟨g_2, hf⟩ := sn_gdE hf
    refine sn_iald C hw layM_1 g_2 dX9_asItIs_58 ?_
    obtain ⟨g_3, hf⟩ := sn_gdE hf
    refine sn_iast C hw layM_7 g_3 dX9_asItIs_59 (fun H locs hw => ?_)
    obtain ⟨σ_4, e_5, hf⟩ := sn_ltE hf
    rw [← e_5] at hw
    obtain ⟨y_6, e_7, hf⟩ := sn_ltE hf
    refine lv_iinc (v := y_6) (lv' := [(1, .int y_6), (0, .ref (ad 0))]) hx hb dX9_asItIs_60 hl (k := 1) rfl (by rw [e_7]; rfl) (by decide) rfl (fun ls hl => ?_)
    refine lv_goto (tgt := 42) hx hb dX9_asItIs_63 (by decide) ?_
    cases hf
    exact kc _ rfl _ _ _ hw (lv_sub hl [1, 0] rfl)
theorem wX9_asItIs_L42 (C : sn_C p s m args meth c RX9 cX9_asItIs 5 none D ct ad layM A)    {z : sn_S × Int32} {t : sn_S} (h : sn_it (LX9_asItIs_42 ) 5000 z = some t) (kx : ∀ v, t = v → sn_At p l e rmX9_asItIs s m args below meth c Q D ct ad layM A 5 v 66 [(0, .ref (ad 0))] []) : sn_At p l e rmX9_asItIs s m args below meth c Q D ct ad layM A 5 z.1 42 [(0, .ref (ad 0)), (1, .int z.2)] [] :=
  sn_loop (f := LX9_asItIs_42 ) (G := fun z => sn_At p l e rmX9_asItIs s m args below meth c Q D ct ad layM A 5 z.1 42 [(0, .ref (ad 0)), (1, .int z.2)] []) (E := fun t => (∀ v, t = v → sn_At p l e rmX9_asItIs s m args below meth c Q D ct ad layM A 5 v 66 [(0, .ref (ad 0))] []) ∧ True) (fun z o hf k1 k2 => wX9_asItIs_42 C  hf (fun v e => k1 v e) (fun v e => (k2 _ e).1 v rfl)) 5000 z t h ⟨kx, trivial⟩
theorem wX9_asItIs_in (C : sn_C p s m args meth c RX9 cX9_asItIs 5 none D ct ad layM A) {σ : sn_S}  {o : sn_S} (hf : fX9_asItIs σ = some o) (kr : sn_Kr p l e rmX9_asItIs s m args below meth c Q D ct ad layM A cX9_asItIs .return_ (true) o []) : sn_At p l e rmX9_asItIs s m args below meth c Q D ct ad layM A 5 σ 0 [(0, .ref (ad 0))] [] := by
  intro H locs ls hw hl
  have hx := C.1
  have hb := C.2.1
  unfold fX9_asItIs at hf
  refine lv_aload_n hx hb dX9_asItIs_0 rfl (lv_at hl 0 rfl) ?_
  refine lv_iconst (v := 0) hx hb dX9_asItIs_1 rfl ?_
  refine sn_putI C hw fp_RX9_237 layM_0 rfl dX9_asItIs_2 (fun H locs hw => ?_)
  obtain ⟨σ_1, e_2, hf⟩ := sn_ltE hf
  rw [← e_2] at hw
  refine lv_aload_n hx hb dX9_asItIs_5 rfl (lv_at hl 0 rfl) ?_
  refine lv_iconst (v := (-1)) hx hb dX9_asItIs_6 rfl ?_
  refine sn_putI C hw fp_RX9_240 layM_0 rfl dX9_asItIs_7 (fun H locs hw => ?_)
  obtain ⟨σ_3, e_4, hf⟩ := sn_ltE hf
  rw [← e_4] at hw
  refine lv_aload_n hx hb dX9_asItIs_10 rfl (lv_at hl 0 rfl) ?_
  refine lv_aload_n hx hb dX9_asItIs_11 rfl (lv_at hl 0 rfl) ?_
  refine sn_getC (r := 1) C hw fd_RX9_9 layM_0 rfl dX9_asItIs_12 ?_
  refine lv_iconst (v := 2) hx hb dX9_asItIs_15 rfl ?_
  obtain ⟨g_5, hf⟩ := sn_gdE hf
  refine sn_iald C hw layM_1 g_5 dX9_asItIs_16 ?_
  refine sn_putI C hw fp_RX9_243 layM_0 rfl dX9_asItIs_17 (fun H locs hw => ?_)
  obtain ⟨σ_6, e_7, hf⟩ := sn_ltE hf
  rw [← e_7] at hw
  refine lv_aload_n hx hb dX9_asItIs_20 rfl (lv_at hl 0 rfl) ?_
  refine lv_aload_n hx hb dX9_asItIs_21 rfl (lv_at hl 0 rfl) ?_
  refine sn_getC (r := 1) C hw fd_RX9_9 layM_0 rfl dX9_asItIs_22 ?_
  refine lv_iconst (v := 3) hx hb dX9_asItIs_25 rfl ?_
  obtain ⟨g_8, hf⟩ := sn_gdE hf
  refine sn_iald C hw layM_1 g_8 dX9_asItIs_26 ?_
  refine sn_putI C hw fp_RX9_246 layM_0 rfl dX9_asItIs_27 (fun H locs hw => ?_)
  obtain ⟨σ_9, e_10, hf⟩ := sn_ltE hf
  rw [← e_10] at hw
  refine lv_aload_n hx hb dX9_asItIs_30 rfl (lv_at hl 0 rfl) ?_
  refine lv_aload_n hx hb dX9_asItIs_31 rfl (lv_at hl 0 rfl) ?_
  obtain ⟨t_11, h_12, hf⟩ := sn_bd hf
  refine sn_callVi (rest := [.ref (ad 0)]) C hw (ctX9_minutes l  h_12) kl_RX9_249 layM_0 rfl rfl rfl rfl (Nat.le_of_ble_eq_true rfl) dX9_asItIs_32 hl.1 (fun H locs hw => ?_)
  refine lv_iconst (v := 1) hx hb dX9_asItIs_35 rfl ?_
  refine lv_isub hx hb dX9_asItIs_36 ?_
  refine sn_putI C hw fp_RX9_251 layM_0 rfl dX9_asItIs_37 (fun H locs hw => ?_)
  obtain ⟨σ_13, e_14, hf⟩ := sn_ltE hf
  rw [← e_14] at hw
  refine lv_iconst (v := 0) hx hb dX9_asItIs_40 rfl ?_
  refine lv_istore_n (lv' := [(1, .int (0 : Int32)), (0, .ref (ad 0))]) hx hb dX9_asItIs_41 rfl hl (by decide) rfl (fun ls hl => ?_)
  obtain ⟨t_15, h_16, hf⟩ := sn_bd hf
  exact wX9_asItIs_L42 C  h_16 (fun v e => by cases e; exact wX9_asItIs_66 C  hf kr) _ _ _ hw (lv_sub hl [1, 0] rfl)
theorem ctX9_asItIs (l : Launch) {σ : sn_S}  {o : sn_S} (hf : fX9_asItIs σ = some o) : sn_M l yX9_asItIs cX9_asItIs 5 none rmX9_asItIs layM (fun ad => [.ref (ad 0)]) σ none o :=
  sn_met (by decide) (fun _ => Nat.le_of_ble_eq_true rfl) (fun p e s m args below meth c ls D ct ad A C hw hl => wX9_asItIs_in C  hf (fun H locs ls pc hw ok hd => sn_vret C hw hd) _ _ _ hw hl)
-- X9_netsTo
abbrev rmX9_netsTo : Room := { frames := 1, cells := 0, slots := 0, locals := 21 }
def BX9_netsTo_97 (σ : sn_S) (x3 : Int32) : Option (Int32) :=
  (some x3)
def BX9_netsTo_91 (σ : sn_S) (x1 : Int32) (x2 : Int32) (x3 : Int32) (x4 : Int32) : Option ((Int32 × Int32) ⊕ (Int32)) :=
  (sn_lt (x4 + 1) fun y_1 => (some (.inl (x3, y_1))))
def BX9_netsTo_88 (σ : sn_S) (x1 : Int32) (x2 : Int32) (x3 : Int32) (x4 : Int32) : Option ((Int32 × Int32) ⊕ (Int32)) :=
  (sn_lt (x3 + 1) fun y_1 => (BX9_netsTo_91 σ x1 x2 y_1 x4))
def BX9_netsTo_72 (σ : sn_S) (x1 : Int32) (x2 : Int32) (x3 : Int32) (x4 : Int32) (x5 : Int32) (x6 : Int32) : Option ((Int32 × Int32) ⊕ (Int32)) :=
  (if x6 = x1 then
  ((fX9_bit x2 x5).bind fun t_2 => (if t_2 = (1 : Int32) then
  (BX9_netsTo_88 σ x1 x2 x3 x4)
  else
  (BX9_netsTo_91 σ x1 x2 x3 x4)))
  else
  (BX9_netsTo_91 σ x1 x2 x3 x4))
def BX9_netsTo_5 (σ : sn_S) (x1 : Int32) (x2 : Int32) (x3 : Int32) (x4 : Int32) : Option ((Int32 × Int32) ⊕ (Int32)) :=
  (sn_gd (sn_in (7 : Int32) 119) (if (sn_I σ 1 (7 : Int32).toNatClampNeg) ≤ x4 then
  (some (.inr (x3)))
  else
  (sn_gd (sn_in ((33 : Int32) + ((2 : Int32) * x4)) 119) (sn_lt (sn_I σ 1 ((33 : Int32) + ((2 : Int32) * x4)).toNatClampNeg) fun y_4 => (sn_gd (sn_in (((33 : Int32) + ((2 : Int32) * x4)) + (1 : Int32)) 119) (sn_lt (sn_I σ 1 (((33 : Int32) + ((2 : Int32) * x4)) + (1 : Int32)).toNatClampNeg) fun y_7 => (if x4 = (sn_I σ 0 19) then
  (BX9_netsTo_91 σ x1 x2 x3 x4)
  else
  (if y_4 = x1 then
  ((fX9_bit x2 y_7).bind fun t_11 => (if t_11 = (1 : Int32) then
  (BX9_netsTo_88 σ x1 x2 x3 x4)
  else
  (BX9_netsTo_72 σ x1 x2 x3 x4 y_4 y_7)))
  else
  (BX9_netsTo_72 σ x1 x2 x3 x4 y_4 y_7)))))))))
def LX9_netsTo_5 (σ : sn_S) (x1 : Int32) (x2 : Int32) (s : Int32 × Int32) : Option ((Int32 × Int32) ⊕ (Int32)) := BX9_netsTo_5 σ x1 x2 s.1 s.2
def fX9_netsTo (σ : sn_S) (x1 : Int32) (x2 : Int32) : Option Int32 :=
  ((sn_it (LX9_netsTo_5 σ x1 x2) 5000 ((0 : Int32), (0 : Int32))).bind fun t_1 => (BX9_netsTo_97 σ t_1))
theorem wX9_netsTo_97 (C : sn_C p s m args meth c RX9 cX9_netsTo 7 (some .int) D ct ad layM A) {σ : sn_S} {x3 : Int32}  {o : Int32} (hf : BX9_netsTo_97 σ x3 = some o) (kr : sn_Kr p l e rmX9_netsTo s m args below meth c Q D ct ad layM A cX9_netsTo .ireturn (true) σ [.int o]) : sn_At p l e rmX9_netsTo s m args below meth c Q D ct ad layM A 7 σ 97 [(3, .int x3)] [] := by
  intro H locs ls hw hl
  have hx := C.1
  have hb := C.2.1
  unfold BX9_netsTo_97 at hf
  refine lv_iload_n hx hb dX9_netsTo_97 rfl (lv_at hl 0 rfl) ?_
  cases hf
  exact kr _ _ _ _ hw rfl dX9_netsTo_98
theorem wX9_netsTo_91 (C : sn_C p s m args meth c RX9 cX9_netsTo 7 (some .int) D ct ad layM A) {σ : sn_S} {x1 : Int32} {x2 : Int32} {x3 : Int32} {x4 : Int32}  {o : (Int32 × Int32) ⊕ (Int32)} (hf : BX9_netsTo_91 σ x1 x2 x3 x4 = some o) (kc : ∀ v, o = .inl v → sn_At p l e rmX9_netsTo s m args below meth c Q D ct ad layM A 7 σ 5 [(0, .ref (ad 0)), (1, .int x1), (2, .int x2), (3, .int v.1), (4, .int v.2)] []) (kx : ∀ v, o = .inr v → sn_At p l e rmX9_netsTo s m args below meth c Q D ct ad layM A 7 σ 97 [(3, .int v)] []) : sn_At p l e rmX9_netsTo s m args below meth c Q D ct ad layM A 7 σ 91 [(0, .ref (ad 0)), (1, .int x1), (2, .int x2), (3, .int x3), (4, .int x4)] [] := by
  intro H locs ls hw hl
  have hx := C.1
  have hb := C.2.1
  unfold BX9_netsTo_91 at hf
  obtain ⟨y_1, e_2, hf⟩ := sn_ltE hf
  refine lv_iinc (v := y_1) (lv' := [(4, .int y_1), (0, .ref (ad 0)), (1, .int x1), (2, .int x2), (3, .int x3)]) hx hb dX9_netsTo_91 hl (k := 4) rfl (by rw [e_2]; rfl) (by decide) rfl (fun ls hl => ?_)
  refine lv_goto (tgt := 5) hx hb dX9_netsTo_94 (by decide) ?_
  cases hf
  exact kc _ rfl _ _ _ hw (lv_sub hl [1, 2, 3, 4, 0] rfl)
theorem wX9_netsTo_88 (C : sn_C p s m args meth c RX9 cX9_netsTo 7 (some .int) D ct ad layM A) {σ : sn_S} {x1 : Int32} {x2 : Int32} {x3 : Int32} {x4 : Int32}  {o : (Int32 × Int32) ⊕ (Int32)} (hf : BX9_netsTo_88 σ x1 x2 x3 x4 = some o) (kc : ∀ v, o = .inl v → sn_At p l e rmX9_netsTo s m args below meth c Q D ct ad layM A 7 σ 5 [(0, .ref (ad 0)), (1, .int x1), (2, .int x2), (3, .int v.1), (4, .int v.2)] []) (kx : ∀ v, o = .inr v → sn_At p l e rmX9_netsTo s m args below meth c Q D ct ad layM A 7 σ 97 [(3, .int v)] []) : sn_At p l e rmX9_netsTo s m args below meth c Q D ct ad layM A 7 σ 88 [(0, .ref (ad 0)), (1, .int x1), (2, .int x2), (3, .int x3), (4, .int x4)] [] := by
  intro H locs ls hw hl
  have hx := C.1
  have hb := C.2.1
  unfold BX9_netsTo_88 at hf
  obtain ⟨y_1, e_2, hf⟩ := sn_ltE hf
  refine lv_iinc (v := y_1) (lv' := [(3, .int y_1), (0, .ref (ad 0)), (1, .int x1), (2, .int x2), (4, .int x4)]) hx hb dX9_netsTo_88 hl (k := 3) rfl (by rw [e_2]; rfl) (by decide) rfl (fun ls hl => ?_)
  exact wX9_netsTo_91 C  hf kc kx _ _ _ hw (lv_sub hl [1, 2, 3, 0, 4] rfl)
theorem wX9_netsTo_72 (C : sn_C p s m args meth c RX9 cX9_netsTo 7 (some .int) D ct ad layM A) {σ : sn_S} {x1 : Int32} {x2 : Int32} {x3 : Int32} {x4 : Int32} {x5 : Int32} {x6 : Int32}  {o : (Int32 × Int32) ⊕ (Int32)} (hf : BX9_netsTo_72 σ x1 x2 x3 x4 x5 x6 = some o) (kc : ∀ v, o = .inl v → sn_At p l e rmX9_netsTo s m args below meth c Q D ct ad layM A 7 σ 5 [(0, .ref (ad 0)), (1, .int x1), (2, .int x2), (3, .int v.1), (4, .int v.2)] []) (kx : ∀ v, o = .inr v → sn_At p l e rmX9_netsTo s m args below meth c Q D ct ad layM A 7 σ 97 [(3, .int v)] []) : sn_At p l e rmX9_netsTo s m args below meth c Q D ct ad layM A 7 σ 72 [(0, .ref (ad 0)), (1, .int x1), (2, .int x2), (3, .int x3), (4, .int x4), (5, .int x5), (6, .int x6)] [] := by
  intro H locs ls hw hl
  have hx := C.1
  have hb := C.2.1
  unfold BX9_netsTo_72 at hf
  refine lv_iload hx hb dX9_netsTo_72 (lv_at hl 6 rfl) ?_
  refine lv_iload_n hx hb dX9_netsTo_74 rfl (lv_at hl 1 rfl) ?_
  refine lv_icmp_ne (tgt := 91) hx hb dX9_netsTo_75 (by decide) (fun c_1 => ?_) (fun c_1 => ?_)
  · have hf := sn_el c_1 hf
    exact wX9_netsTo_91 C  hf kc kx _ _ _ hw (lv_sub hl [0, 1, 2, 3, 4] rfl)
  · have hf := sn_if c_1 hf
    refine lv_iload_n hx hb dX9_netsTo_78 rfl (lv_at hl 2 rfl) ?_
    refine lv_iload hx hb dX9_netsTo_79 (lv_at hl 5 rfl) ?_
    obtain ⟨t_2, h_3, hf⟩ := sn_bd hf
    refine sn_callSi (rest := []) C hw (ctX9_bit l  h_3) kl_RX9_254 rfl rfl rfl (Nat.le_of_ble_eq_true rfl) dX9_netsTo_81 hl.1 (fun H locs hw => ?_)
    refine lv_iconst (v := 1) hx hb dX9_netsTo_84 rfl ?_
    refine lv_icmp_ne (tgt := 91) hx hb dX9_netsTo_85 (by decide) (fun c_4 => ?_) (fun c_4 => ?_)
    · have hf := sn_el c_4 hf
      exact wX9_netsTo_91 C  hf kc kx _ _ _ hw (lv_sub hl [0, 1, 2, 3, 4] rfl)
    · have hf := sn_if c_4 hf
      exact wX9_netsTo_88 C  hf kc kx _ _ _ hw (lv_sub hl [0, 1, 2, 3, 4] rfl)
theorem wX9_netsTo_5 (C : sn_C p s m args meth c RX9 cX9_netsTo 7 (some .int) D ct ad layM A) {σ : sn_S} {x1 : Int32} {x2 : Int32} {x3 : Int32} {x4 : Int32}  {o : (Int32 × Int32) ⊕ (Int32)} (hf : BX9_netsTo_5 σ x1 x2 x3 x4 = some o) (kc : ∀ v, o = .inl v → sn_At p l e rmX9_netsTo s m args below meth c Q D ct ad layM A 7 σ 5 [(0, .ref (ad 0)), (1, .int x1), (2, .int x2), (3, .int v.1), (4, .int v.2)] []) (kx : ∀ v, o = .inr v → sn_At p l e rmX9_netsTo s m args below meth c Q D ct ad layM A 7 σ 97 [(3, .int v)] []) : sn_At p l e rmX9_netsTo s m args below meth c Q D ct ad layM A 7 σ 5 [(0, .ref (ad 0)), (1, .int x1), (2, .int x2), (3, .int x3), (4, .int x4)] [] := by
  intro H locs ls hw hl
  have hx := C.1
  have hb := C.2.1
  unfold BX9_netsTo_5 at hf
  refine lv_iload hx hb dX9_netsTo_5 (lv_at hl 4 rfl) ?_
  refine lv_aload_n hx hb dX9_netsTo_7 rfl (lv_at hl 0 rfl) ?_
  refine sn_getC (r := 1) C hw fd_RX9_9 layM_0 rfl dX9_netsTo_8 ?_
  refine lv_bipush (v := 7) hx hb dX9_netsTo_11 (by decide) ?_
  obtain ⟨g_1, hf⟩ := sn_gdE hf
  refine sn_iald C hw layM_1 g_1 dX9_netsTo_13 ?_
  refine lv_icmp_ge (tgt := 97) hx hb dX9_netsTo_14 (by decide) (fun c_2 => ?_) (fun c_2 => ?_)
  · have hf := sn_if c_2 hf
    cases hf
    exact kx _ rfl _ _ _ hw (lv_sub hl [3] rfl)
  · have hf := sn_el c_2 hf
    refine lv_aload_n hx hb dX9_netsTo_17 rfl (lv_at hl 0 rfl) ?_
    refine sn_getC (r := 1) C hw fd_RX9_9 layM_0 rfl dX9_netsTo_18 ?_
    refine lv_bipush (v := 33) hx hb dX9_netsTo_21 (by decide) ?_
    refine lv_iconst (v := 2) hx hb dX9_netsTo_23 rfl ?_
    refine lv_iload hx hb dX9_netsTo_24 (lv_at hl 4 rfl) ?_
    refine lv_imul hx hb dX9_netsTo_26 ?_
    refine lv_iadd hx hb dX9_netsTo_27 ?_
    obtain ⟨g_3, hf⟩ := sn_gdE hf
    refine sn_iald C hw layM_1 g_3 dX9_netsTo_28 ?_
    obtain ⟨y_4, e_5, hf⟩ := sn_ltE hf
    refine lv_topi (fun y_4_ e_5_ => ?_)
    obtain rfl : y_4 = y_4_ := e_5.trans e_5_.symm
    refine lv_istore (lv' := [(5, .int y_4), (0, .ref (ad 0)), (1, .int x1), (2, .int x2), (3, .int x3), (4, .int x4)]) hx hb dX9_netsTo_29 hl (by decide) rfl (fun ls hl => ?_)
    refine lv_aload_n hx hb dX9_netsTo_31 rfl (lv_at hl 1 rfl) ?_
    refine sn_getC (r := 1) C hw fd_RX9_9 layM_0 rfl dX9_netsTo_32 ?_
    refine lv_bipush (v := 33) hx hb dX9_netsTo_35 (by decide) ?_
    refine lv_iconst (v := 2) hx hb dX9_netsTo_37 rfl ?_
    refine lv_iload hx hb dX9_netsTo_38 (lv_at hl 5 rfl) ?_
    refine lv_imul hx hb dX9_netsTo_40 ?_
    refine lv_iadd hx hb dX9_netsTo_41 ?_
    refine lv_iconst (v := 1) hx hb dX9_netsTo_42 rfl ?_
    refine lv_iadd hx hb dX9_netsTo_43 ?_
    obtain ⟨g_6, hf⟩ := sn_gdE hf
    refine sn_iald C hw layM_1 g_6 dX9_netsTo_44 ?_
    obtain ⟨y_7, e_8, hf⟩ := sn_ltE hf
    refine lv_topi (fun y_7_ e_8_ => ?_)
    obtain rfl : y_7 = y_7_ := e_8.trans e_8_.symm
    refine lv_istore (lv' := [(6, .int y_7), (5, .int y_4), (0, .ref (ad 0)), (1, .int x1), (2, .int x2), (3, .int x3), (4, .int x4)]) hx hb dX9_netsTo_45 hl (by decide) rfl (fun ls hl => ?_)
    refine lv_iload hx hb dX9_netsTo_47 (lv_at hl 6 rfl) ?_
    refine lv_aload_n hx hb dX9_netsTo_49 rfl (lv_at hl 2 rfl) ?_
    refine sn_getI C hw fd_RX9_240 layM_0 rfl dX9_netsTo_50 ?_
    refine lv_icmp_eq (tgt := 91) hx hb dX9_netsTo_53 (by decide) (fun c_9 => ?_) (fun c_9 => ?_)
    · have hf := sn_if c_9 hf
      exact wX9_netsTo_91 C  hf kc kx _ _ _ hw (lv_sub hl [2, 3, 4, 5, 6] rfl)
    · have hf := sn_el c_9 hf
      refine lv_iload hx hb dX9_netsTo_56 (lv_at hl 1 rfl) ?_
      refine lv_iload_n hx hb dX9_netsTo_58 rfl (lv_at hl 3 rfl) ?_
      refine lv_icmp_ne (tgt := 72) hx hb dX9_netsTo_59 (by decide) (fun c_10 => ?_) (fun c_10 => ?_)
      · have hf := sn_el c_10 hf
        exact wX9_netsTo_72 C  hf kc kx _ _ _ hw (lv_sub hl [2, 3, 4, 5, 6, 1, 0] rfl)
      · have hf := sn_if c_10 hf
        refine lv_iload_n hx hb dX9_netsTo_62 rfl (lv_at hl 4 rfl) ?_
        refine lv_iload hx hb dX9_netsTo_63 (lv_at hl 0 rfl) ?_
        obtain ⟨t_11, h_12, hf⟩ := sn_bd hf
        refine sn_callSi (rest := []) C hw (ctX9_bit l  h_12) kl_RX9_254 rfl rfl rfl (Nat.le_of_ble_eq_true rfl) dX9_netsTo_65 hl.1 (fun H locs hw => ?_)
        refine lv_iconst (v := 1) hx hb dX9_netsTo_68 rfl ?_
        refine lv_icmp_eq (tgt := 88) hx hb dX9_netsTo_69 (by decide) (fun c_13 => ?_) (fun c_13 => ?_)
        · have hf := sn_if c_13 hf
          exact wX9_netsTo_88 C  hf kc kx _ _ _ hw (lv_sub hl [2, 3, 4, 5, 6] rfl)
        · have hf := sn_el c_13 hf
          exact wX9_netsTo_72 C  hf kc kx _ _ _ hw (lv_sub hl [2, 3, 4, 5, 6, 1, 0] rfl)
theorem wX9_netsTo_L5 (C : sn_C p s m args meth c RX9 cX9_netsTo 7 (some .int) D ct ad layM A) {σ : sn_S} {x1 : Int32} {x2 : Int32}   {z : Int32 × Int32} {t : Int32} (h : sn_it (LX9_netsTo_5 σ x1 x2) 5000 z = some t) (kx : ∀ v, t = v → sn_At p l e rmX9_netsTo s m args below meth c Q D ct ad layM A 7 σ 97 [(3, .int v)] []) : sn_At p l e rmX9_netsTo s m args below meth c Q D ct ad layM A 7 σ 5 [(0, .ref (ad 0)), (1, .int x1), (2, .int x2), (3, .int z.1), (4, .int z.2)] [] :=
  sn_loop (f := LX9_netsTo_5 σ x1 x2) (G := fun z => sn_At p l e rmX9_netsTo s m args below meth c Q D ct ad layM A 7 σ 5 [(0, .ref (ad 0)), (1, .int x1), (2, .int x2), (3, .int z.1), (4, .int z.2)] []) (E := fun t => (∀ v, t = v → sn_At p l e rmX9_netsTo s m args below meth c Q D ct ad layM A 7 σ 97 [(3, .int v)] []) ∧ True) (fun z o hf k1 k2 => wX9_netsTo_5 C  hf (fun v e => k1 v e) (fun v e => (k2 _ e).1 v rfl)) 5000 z t h ⟨kx, trivial⟩
theorem wX9_netsTo_in (C : sn_C p s m args meth c RX9 cX9_netsTo 7 (some .int) D ct ad layM A) {σ : sn_S} {x1 : Int32} {x2 : Int32}  {o : Int32} (hf : fX9_netsTo σ x1 x2 = some o) (kr : sn_Kr p l e rmX9_netsTo s m args below meth c Q D ct ad layM A cX9_netsTo .ireturn (true) σ [.int o]) : sn_At p l e rmX9_netsTo s m args below meth c Q D ct ad layM A 7 σ 0 [(0, .ref (ad 0)), (1, .int x1), (2, .int x2)] [] := by
  intro H locs ls hw hl
  have hx := C.1
  have hb := C.2.1
  unfold fX9_netsTo at hf
  refine lv_iconst (v := 0) hx hb dX9_netsTo_0 rfl ?_
  refine lv_istore_n (lv' := [(3, .int (0 : Int32)), (0, .ref (ad 0)), (1, .int x1), (2, .int x2)]) hx hb dX9_netsTo_1 rfl hl (by decide) rfl (fun ls hl => ?_)
  refine lv_iconst (v := 0) hx hb dX9_netsTo_2 rfl ?_
  refine lv_istore (lv' := [(4, .int (0 : Int32)), (3, .int (0 : Int32)), (0, .ref (ad 0)), (1, .int x1), (2, .int x2)]) hx hb dX9_netsTo_3 hl (by decide) rfl (fun ls hl => ?_)
  obtain ⟨t_1, h_2, hf⟩ := sn_bd hf
  exact wX9_netsTo_L5 C  h_2 (fun v e => by cases e; exact wX9_netsTo_97 C  hf kr) _ _ _ hw (lv_sub hl [2, 3, 4, 1, 0] rfl)
theorem ctX9_netsTo (l : Launch) {σ : sn_S} {x1 : Int32} {x2 : Int32}  {o : Int32} (hf : fX9_netsTo σ x1 x2 = some o) : sn_M l yX9_netsTo cX9_netsTo 7 (some .int) rmX9_netsTo layM (fun ad => [.ref (ad 0), .int x1, .int x2]) σ (some (fun _ => .int o)) σ :=
  sn_met (by decide) (fun _ => Nat.le_of_ble_eq_true rfl) (fun p e s m args below meth c ls D ct ad A C hw hl => wX9_netsTo_in C  hf (fun H locs ls pc hw ok hd => sn_iret C hw hd) _ _ _ hw hl)
end
