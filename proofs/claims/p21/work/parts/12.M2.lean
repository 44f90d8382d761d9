section
variable {p : Program} {l : Launch} {e : Env} {s : State} {m : MethodId} {args : Array Value} {below : List Frame} {meth : Method} {c : Code} {Q : State → Prop} {D : va_G} {ct : Nat → ClassId} {ad : Nat → Nat} {A : Nat → Prop} {lay : List sn_E}
-- X9_goMinute
abbrev rmX9_goMinute : Room := { frames := 2, cells := 0, slots := 0, locals := 47 }
def BX9_goMinute_231 (σ : sn_S) : Option (sn_S) :=
  (some σ)
def BX9_goMinute_225 (σ : sn_S) (x1 : Int32) (x2 : Int32) (x3 : Int32) : Option ((sn_S × Int32) ⊕ (sn_S)) :=
  (sn_lt (x3 + 1) fun y_1 => (some (.inl (σ, y_1))))
def BX9_goMinute_192 (σ : sn_S) (x1 : Int32) (x2 : Int32) (x3 : Int32) (x7 : Int32) (t1 : Int32) (t2 : Int32) : Option ((sn_S × Int32) ⊕ (sn_S)) :=
  (sn_gd (sn_in t1 180) (sn_lt (sn_pI σ 12 t1.toNatClampNeg t2) fun σ_2 => (if x7 = 0 then
  (BX9_goMinute_225 σ_2 x1 x2 x3)
  else
  (sn_gd (sn_in x1 30) (sn_gd (sn_in x1 30) (sn_lt (sn_pI σ_2 11 x1.toNatClampNeg ((sn_I σ_2 11 x1.toNatClampNeg) ||| ((1 : Int32) <<< (x3 &&& 31)))) fun σ_7 => (sn_gd (sn_in x3 6) (sn_gd (sn_in x3 6) (sn_lt (sn_pI σ_7 10 x3.toNatClampNeg ((sn_I σ_7 10 x3.toNatClampNeg) ||| ((1 : Int32) <<< (x1 &&& 31)))) fun σ_11 => (BX9_goMinute_225 σ_11 x1 x2 x3))))))))))
def BX9_goMinute_145 (σ : sn_S) (x1 : Int32) (x2 : Int32) (x3 : Int32) (x4 : Int32) (x5 : Int32) (x6 : Int32) (t0 : Int32) : Option ((sn_S × Int32) ⊕ (sn_S)) :=
  (sn_gd (sn_in x3 6) (sn_gd (sn_in x3 6) (sn_lt (sn_pI σ 14 x3.toNatClampNeg ((sn_I σ 14 x3.toNatClampNeg) + x4)) fun σ_3 => (sn_gd (sn_in (((6 : Int32) * x1) + x3) 180) (sn_lt (sn_pI σ_3 13 (((6 : Int32) * x1) + x3).toNatClampNeg x5) fun σ_6 => (if t0 = 0 then
  (BX9_goMinute_192 σ_6 x1 x2 x3 t0 (((6 : Int32) * x1) + x3) x6)
  else
  (BX9_goMinute_192 σ_6 x1 x2 x3 t0 (((6 : Int32) * x1) + x3) (0 : Int32))))))))
def BX9_goMinute_144 (σ : sn_S) (x1 : Int32) (x2 : Int32) (x3 : Int32) (x4 : Int32) (x5 : Int32) (x6 : Int32) : Option ((sn_S × Int32) ⊕ (sn_S)) :=
  (BX9_goMinute_145 σ x1 x2 x3 x4 x5 x6 (0 : Int32))
def BX9_goMinute_104 (σ : sn_S) (x1 : Int32) (x2 : Int32) (x3 : Int32) (x4 : Int32) (x5 : Int32) (t0 : Int32) : Option ((sn_S × Int32) ⊕ (sn_S)) :=
  (sn_lt (t0 + x5) fun y_1 => (sn_gd (sn_in (((11 : Int32) + ((2 : Int32) * x3)) + (1 : Int32)) 119) (if y_1 < (sn_I σ 1 (((11 : Int32) + ((2 : Int32) * x3)) + (1 : Int32)).toNatClampNeg) then
  (BX9_goMinute_144 σ x1 x2 x3 x4 x5 y_1)
  else
  (sn_gd (sn_in x3 6) ((fX9_bit (sn_I σ 8 x3.toNatClampNeg) x1).bind fun t_6 => (if t_6 = 0 then
  (BX9_goMinute_145 σ x1 x2 x3 x4 x5 y_1 (1 : Int32))
  else
  (BX9_goMinute_144 σ x1 x2 x3 x4 x5 y_1)))))))
def BX9_goMinute_26 (σ : sn_S) (x1 : Int32) (x2 : Int32) (x3 : Int32) : Option ((sn_S × Int32) ⊕ (sn_S)) :=
  (sn_gd (sn_in (5 : Int32) 119) (if (sn_I σ 1 (5 : Int32).toNatClampNeg) ≤ x3 then
  (some (.inr (σ)))
  else
  ((fX9_netsTo σ x3 x2).bind fun t_3 => (sn_lt ((5 : Int32) * t_3) fun y_5 => (sn_gd (sn_in ((11 : Int32) + ((2 : Int32) * x3)) 119) (sn_gd (sn_in x1 30) (sn_gd (sn_in x3 6) ((fX9_bit (sn_I σ 9 x3.toNatClampNeg) x1).bind fun t_10 => (sn_lt ((((sn_I σ 1 ((11 : Int32) + ((2 : Int32) * x3)).toNatClampNeg) * (sn_I σ 7 x1.toNatClampNeg)) + y_5) + ((40 : Int32) * t_10)) fun y_12 => (if x1 = 0 then
  (BX9_goMinute_104 σ x1 x2 x3 y_5 y_12 (0 : Int32))
  else
  (sn_gd (sn_in (((6 : Int32) * (x1 - (1 : Int32))) + x3) 180) (BX9_goMinute_104 σ x1 x2 x3 y_5 y_12 (sn_I σ 12 (((6 : Int32) * (x1 - (1 : Int32))) + x3).toNatClampNeg)))))))))))))
def LX9_goMinute_26 (x1 : Int32) (x2 : Int32) (s : sn_S × Int32) : Option ((sn_S × Int32) ⊕ (sn_S)) := BX9_goMinute_26 s.1 x1 x2 s.2
def BX9_goMinute_23 (σ : sn_S) (x1 : Int32) (t0 : Int32) : Option (sn_S) :=
  ((sn_it (LX9_goMinute_26 x1 t0) 5000 (σ, (0 : Int32))).bind fun t_1 => (BX9_goMinute_231 t_1))
def fX9_goMinute (σ : sn_S) (x1 : Int32) : Option sn_S :=
  (sn_gd (sn_in x1 30) (sn_lt (sn_pI σ 11 x1.toNatClampNeg (0 : Int32)) fun σ_2 => (if x1 = 0 then
  (BX9_goMinute_23 σ_2 x1 (0 : Int32))
  else
  (sn_gd (sn_in (x1 - (1 : Int32)) 30) (BX9_goMinute_23 σ_2 x1 (sn_I σ_2 11 (x1 - (1 : Int32)).toNatClampNeg))))))
theorem wX9_goMinute_231 (C : sn_C p s m args meth c RX9 cX9_goMinute 8 none D ct ad layM A) {σ : sn_S}  {o : sn_S} (hf : BX9_goMinute_231 σ = some o) (kr : sn_Kr p l e rmX9_goMinute s m args below meth c Q D ct ad layM A cX9_goMinute .return_ (true) o []) : sn_At p l e rmX9_goMinute s m args below meth c Q D ct ad layM A 8 σ 231 [] [] := by
  intro H locs ls hw hl
  have hx := C.1
  have hb := C.2.1
  unfold BX9_goMinute_231 at hf
  cases hf
  exact kr _ _ _ _ hw rfl dX9_goMinute_231
theorem wX9_goMinute_225 (C : sn_C p s m args meth c RX9 cX9_goMinute 8 none D ct ad layM A) {σ : sn_S} {x1 : Int32} {x2 : Int32} {x3 : Int32}  {o : (sn_S × Int32) ⊕ (sn_S)} (hf : BX9_goMinute_225 σ x1 x2 x3 = some o) (kc : ∀ v, o = .inl v → sn_At p l e rmX9_goMinute s m args below meth c Q D ct ad layM A 8 v.1 26 [(0, .ref (ad 0)), (1, .int x1), (2, .int x2), (3, .int v.2)] []) (kx : ∀ v, o = .inr v → sn_At p l e rmX9_goMinute s m args below meth c Q D ct ad layM A 8 v 231 [] []) : sn_At p l e rmX9_goMinute s m args below meth c Q D ct ad layM A 8 σ 225 [(0, .ref (ad 0)), (1, .int x1), (2, .int x2), (3, .int x3)] [] := by
  intro H locs ls hw hl
  have hx := C.1
  have hb := C.2.1
  unfold BX9_goMinute_225 at hf
  obtain ⟨y_1, e_2, hf⟩ := sn_ltE hf
  refine lv_iinc (v := y_1) (lv' := [(3, .int y_1), (0, .ref (ad 0)), (1, .int x1), (2, .int x2)]) hx hb dX9_goMinute_225 hl (k := 3) rfl (by rw [e_2]; rfl) (by decide) rfl (fun ls hl => ?_)
  refine lv_goto (tgt := 26) hx hb dX9_goMinute_228 (by decide) ?_
  cases hf
  exact kc _ rfl _ _ _ hw (lv_sub hl [1, 2, 3, 0] rfl)
theorem wX9_goMinute_192 (C : sn_C p s m args meth c RX9 cX9_goMinute 8 none D ct ad layM A) {σ : sn_S} {x1 : Int32} {x2 : Int32} {x3 : Int32} {x7 : Int32} {t1 : Int32} {t2 : Int32}  {o : (sn_S × Int32) ⊕ (sn_S)} (hf : BX9_goMinute_192 σ x1 x2 x3 x7 t1 t2 = some o) (kc : ∀ v, o = .inl v → sn_At p l e rmX9_goMinute s m args below meth c Q D ct ad layM A 8 v.1 26 [(0, .ref (ad 0)), (1, .int x1), (2, .int x2), (3, .int v.2)] []) (kx : ∀ v, o = .inr v → sn_At p l e rmX9_goMinute s m args below meth c Q D ct ad layM A 8 v 231 [] []) : sn_At p l e rmX9_goMinute s m args below meth c Q D ct ad layM A 8 σ 192 [(0, .ref (ad 0)), (1, .int x1), (2, .int x2), (3, .int x3), (7, .int x7)] [.int t2, .int t1, .ref (ad 12)] := by
  intro H locs ls hw hl
  have hx := C.1
  have hb := C.2.1
  unfold BX9_goMinute_192 at hf
  obtain ⟨g_1, hf⟩ := sn_gdE hf
  refine sn_iast C hw layM_12 g_1 dX9_goMinute_192 (fun H locs hw => ?_)
  obtain ⟨σ_2, e_3, hf⟩ := sn_ltE hf
  rw [← e_3] at hw
  refine lv_iload hx hb dX9_goMinute_193 (lv_at hl 4 rfl) ?_
  refine lv_if_ne (tgt := 201) hx hb dX9_goMinute_195 (by decide) (fun c_4 => ?_) (fun c_4 => ?_)
  · have hf := sn_el c_4 hf
    refine lv_aload_n hx hb dX9_goMinute_201 rfl (lv_at hl 0 rfl) ?_
    refine sn_getC (r := 11) C hw fd_RX9_46 layM_0 rfl dX9_goMinute_202 ?_
    refine lv_iload_n hx hb dX9_goMinute_205 rfl (lv_at hl 1 rfl) ?_
    refine lv_dup2_11 hx hb dX9_goMinute_206 rfl rfl ?_
    obtain ⟨g_5, hf⟩ := sn_gdE hf
    refine sn_iald C hw layM_11 g_5 dX9_goMinute_207 ?_
    refine lv_iconst (v := 1) hx hb dX9_goMinute_208 rfl ?_
    refine lv_iload_n hx hb dX9_goMinute_209 rfl (lv_at hl 3 rfl) ?_
    refine lv_ishl hx hb dX9_goMinute_210 ?_
    refine lv_ior hx hb dX9_goMinute_211 ?_
    obtain ⟨g_6, hf⟩ := sn_gdE hf
    refine sn_iast C hw layM_11 g_6 dX9_goMinute_212 (fun H locs hw => ?_)
    obtain ⟨σ_7, e_8, hf⟩ := sn_ltE hf
    rw [← e_8] at hw
    refine lv_aload_n hx hb dX9_goMinute_213 rfl (lv_at hl 0 rfl) ?_
    refine sn_getC (r := 10) C hw fd_RX9_43 layM_0 rfl dX9_goMinute_214 ?_
    refine lv_iload_n hx hb dX9_goMinute_217 rfl (lv_at hl 3 rfl) ?_
    refine lv_dup2_11 hx hb dX9_goMinute_218 rfl rfl ?_
    obtain ⟨g_9, hf⟩ := sn_gdE hf
    refine sn_iald C hw layM_10 g_9 dX9_goMinute_219 ?_
    refine lv_iconst (v := 1) hx hb dX9_goMinute_220 rfl ?_
    refine lv_iload_n hx hb dX9_goMinute_221 rfl (lv_at hl 1 rfl) ?_
    refine lv_ishl hx hb dX9_goMinute_222 ?_
    refine lv_ior hx hb dX9_goMinute_223 ?_
    obtain ⟨g_10, hf⟩ := sn_gdE hf
    refine sn_iast C hw layM_10 g_10 dX9_goMinute_224 (fun H locs hw => ?_)
    obtain ⟨σ_11, e_12, hf⟩ := sn_ltE hf
    rw [← e_12] at hw
    exact wX9_goMinute_225 C  hf kc kx _ _ _ hw (lv_sub hl [0, 1, 2, 3] rfl)
  · have hf := sn_if c_4 hf
    refine lv_goto (tgt := 225) hx hb dX9_goMinute_198 (by decide) ?_
    exact wX9_goMinute_225 C  hf kc kx _ _ _ hw (lv_sub hl [0, 1, 2, 3] rfl)
theorem wX9_goMinute_145 (C : sn_C p s m args meth c RX9 cX9_goMinute 8 none D ct ad layM A) {σ : sn_S} {x1 : Int32} {x2 : Int32} {x3 : Int32} {x4 : Int32} {x5 : Int32} {x6 : Int32} {t0 : Int32}  {o : (sn_S × Int32) ⊕ (sn_S)} (hf : BX9_goMinute_145 σ x1 x2 x3 x4 x5 x6 t0 = some o) (kc : ∀ v, o = .inl v → sn_At p l e rmX9_goMinute s m args below meth c Q D ct ad layM A 8 v.1 26 [(0, .ref (ad 0)), (1, .int x1), (2, .int x2), (3, .int v.2)] []) (kx : ∀ v, o = .inr v → sn_At p l e rmX9_goMinute s m args below meth c Q D ct ad layM A 8 v 231 [] []) : sn_At p l e rmX9_goMinute s m args below meth c Q D ct ad layM A 8 σ 145 [(0, .ref (ad 0)), (1, .int x1), (2, .int x2), (3, .int x3), (4, .int x4), (5, .int x5), (6, .int x6)] [.int t0] := by
  intro H locs ls hw hl
  have hx := C.1
  have hb := C.2.1
  unfold BX9_goMinute_145 at hf
  refine lv_istore (lv' := [(7, .int t0), (0, .ref (ad 0)), (1, .int x1), (2, .int x2), (3, .int x3), (4, .int x4), (5, .int x5), (6, .int x6)]) hx hb dX9_goMinute_145 hl (by decide) rfl (fun ls hl => ?_)
  refine lv_aload_n hx hb dX9_goMinute_147 rfl (lv_at hl 1 rfl) ?_
  refine sn_getC (r := 14) C hw fd_RX9_55 layM_0 rfl dX9_goMinute_148 ?_
  refine lv_iload_n hx hb dX9_goMinute_151 rfl (lv_at hl 4 rfl) ?_
  refine lv_dup2_11 hx hb dX9_goMinute_152 rfl rfl ?_
  obtain ⟨g_1, hf⟩ := sn_gdE hf
  refine sn_iald C hw layM_14 g_1 dX9_goMinute_153 ?_
  refine lv_iload hx hb dX9_goMinute_154 (lv_at hl 5 rfl) ?_
  refine lv_iadd hx hb dX9_goMinute_156 ?_
  obtain ⟨g_2, hf⟩ := sn_gdE hf
  refine sn_iast C hw layM_14 g_2 dX9_goMinute_157 (fun H locs hw => ?_)
  obtain ⟨σ_3, e_4, hf⟩ := sn_ltE hf
  rw [← e_4] at hw
  refine lv_aload_n hx hb dX9_goMinute_158 rfl (lv_at hl 1 rfl) ?_
  refine sn_getC (r := 13) C hw fd_RX9_52 layM_0 rfl dX9_goMinute_159 ?_
  refine lv_bipush (v := 6) hx hb dX9_goMinute_162 (by decide) ?_
  refine lv_iload_n hx hb dX9_goMinute_164 rfl (lv_at hl 2 rfl) ?_
  refine lv_imul hx hb dX9_goMinute_165 ?_
  refine lv_iload_n hx hb dX9_goMinute_166 rfl (lv_at hl 4 rfl) ?_
  refine lv_iadd hx hb dX9_goMinute_167 ?_
  refine lv_iload hx hb dX9_goMinute_168 (lv_at hl 6 rfl) ?_
  obtain ⟨g_5, hf⟩ := sn_gdE hf
  refine sn_iast C hw layM_13 g_5 dX9_goMinute_170 (fun H locs hw => ?_)
  obtain ⟨σ_6, e_7, hf⟩ := sn_ltE hf
  rw [← e_7] at hw
  refine lv_aload_n hx hb dX9_goMinute_171 rfl (lv_at hl 1 rfl) ?_
  refine sn_getC (r := 12) C hw fd_RX9_49 layM_0 rfl dX9_goMinute_172 ?_
  refine lv_bipush (v := 6) hx hb dX9_goMinute_175 (by decide) ?_
  refine lv_iload_n hx hb dX9_goMinute_177 rfl (lv_at hl 2 rfl) ?_
  refine lv_imul hx hb dX9_goMinute_178 ?_
  refine lv_iload_n hx hb dX9_goMinute_179 rfl (lv_at hl 4 rfl) ?_
  refine lv_iadd hx hb dX9_goMinute_180 ?_
  refine lv_iload hx hb dX9_goMinute_181 (lv_at hl 0 rfl) ?_
  refine lv_if_eq (tgt := 190) hx hb dX9_goMinute_183 (by decide) (fun c_8 => ?_) (fun c_8 => ?_)
  · have hf := sn_if c_8 hf
    refine lv_iload hx hb dX9_goMinute_190 (lv_at hl 7 rfl) ?_
    exact wX9_goMinute_192 C  hf kc kx _ _ _ hw (lv_sub hl [1, 2, 3, 4, 0] rfl)
  · have hf := sn_el c_8 hf
    refine lv_iconst (v := 0) hx hb dX9_goMinute_186 rfl ?_
    refine lv_goto (tgt := 192) hx hb dX9_goMinute_187 (by decide) ?_
    exact wX9_goMinute_192 C  hf kc kx _ _ _ hw (lv_sub hl [1, 2, 3, 4, 0] rfl)
theorem wX9_goMinute_144 (C : sn_C p s m args meth c RX9 cX9_goMinute 8 none D ct ad layM A) {σ : sn_S} {x1 : Int32} {x2 : Int32} {x3 : Int32} {x4 : Int32} {x5 : Int32} {x6 : Int32}  {o : (sn_S × Int32) ⊕ (sn_S)} (hf : BX9_goMinute_144 σ x1 x2 x3 x4 x5 x6 = some o) (kc : ∀ v, o = .inl v → sn_At p l e rmX9_goMinute s m args below meth c Q D ct ad layM A 8 v.1 26 [(0, .ref (ad 0)), (1, .int x1), (2, .int x2), (3, .int v.2)] []) (kx : ∀ v, o = .inr v → sn_At p l e rmX9_goMinute s m args below meth c Q D ct ad layM A 8 v 231 [] []) : sn_At p l e rmX9_goMinute s m args below meth c Q D ct ad layM A 8 σ 144 [(0, .ref (ad 0)), (1, .int x1), (2, .int x2), (3, .int x3), (4, .int x4), (5, .int x5), (6, .int x6)] [] := by
  intro H locs ls hw hl
  have hx := C.1
  have hb := C.2.1
  unfold BX9_goMinute_144 at hf
  refine lv_iconst (v := 0) hx hb dX9_goMinute_144 rfl ?_
  exact wX9_goMinute_145 C  hf kc kx _ _ _ hw (lv_sub hl [0, 1, 2, 3, 4, 5, 6] rfl)
theorem wX9_goMinute_104 (C : sn_C p s m args meth c RX9 cX9_goMinute 8 none D ct ad layM A) {σ : sn_S} {x1 : Int32} {x2 : Int32} {x3 : Int32} {x4 : Int32} {x5 : Int32} {t0 : Int32}  {o : (sn_S × Int32) ⊕ (sn_S)} (hf : BX9_goMinute_104 σ x1 x2 x3 x4 x5 t0 = some o) (kc : ∀ v, o = .inl v → sn_At p l e rmX9_goMinute s m args below meth c Q D ct ad layM A 8 v.1 26 [(0, .ref (ad 0)), (1, .int x1), (2, .int x2), (3, .int v.2)] []) (kx : ∀ v, o = .inr v → sn_At p l e rmX9_goMinute s m args below meth c Q D ct ad layM A 8 v 231 [] []) : sn_At p l e rmX9_goMinute s m args below meth c Q D ct ad layM A 8 σ 104 [(0, .ref (ad 0)), (1, .int x1), (2, .int x2), (3, .int x3), (4, .int x4), (5, .int x5)] [.int t0] := by
  intro H locs ls hw hl
  have hx := C.1
  have hb := C.2.1
  unfold BX9_goMinute_104 at hf
  refine lv_iload hx hb dX9_goMinute_104 (lv_at hl 5 rfl) ?_
  refine lv_iadd hx hb dX9_goMinute_106 ?_
  obtain ⟨y_1, e_2, hf⟩ := sn_ltE hf
  refine lv_topi (fun y_1_ e_2_ => ?_)
  obtain rfl : y_1 = y_1_ := e_2.trans e_2_.symm
  refine lv_istore (lv' := [(6, .int y_1), (0, .ref (ad 0)), (1, .int x1), (2, .int x2), (3, .int x3), (4, .int x4), (5, .int x5)]) hx hb dX9_goMinute_107 hl (by decide) rfl (fun ls hl => ?_)
  refine lv_iload hx hb dX9_goMinute_109 (lv_at hl 0 rfl) ?_
  refine lv_aload_n hx hb dX9_goMinute_111 rfl (lv_at hl 1 rfl) ?_
  refine sn_getC (r := 1) C hw fd_RX9_9 layM_0 rfl dX9_goMinute_112 ?_
  refine lv_bipush (v := 11) hx hb dX9_goMinute_115 (by decide) ?_
  refine lv_iconst (v := 2) hx hb dX9_goMinute_117 rfl ?_
  refine lv_iload_n hx hb dX9_goMinute_118 rfl (lv_at hl 4 rfl) ?_
  refine lv_imul hx hb dX9_goMinute_119 ?_
  refine lv_iadd hx hb dX9_goMinute_120 ?_
  refine lv_iconst (v := 1) hx hb dX9_goMinute_121 rfl ?_
  refine lv_iadd hx hb dX9_goMinute_122 ?_
  obtain ⟨g_3, hf⟩ := sn_gdE hf
  refine sn_iald C hw layM_1 g_3 dX9_goMinute_123 ?_
  refine lv_icmp_lt (tgt := 144) hx hb dX9_goMinute_124 (by decide) (fun c_4 => ?_) (fun c_4 => ?_)
  · have hf := sn_if c_4 hf
    exact wX9_goMinute_144 C  hf kc kx _ _ _ hw (lv_sub hl [1, 2, 3, 4, 5, 6, 0] rfl)
  · have hf := sn_el c_4 hf
    refine lv_aload_n hx hb dX9_goMinute_127 rfl (lv_at hl 1 rfl) ?_
    refine sn_getC (r := 8) C hw fd_RX9_37 layM_0 rfl dX9_goMinute_128 ?_
    refine lv_iload_n hx hb dX9_goMinute_131 rfl (lv_at hl 4 rfl) ?_
    obtain ⟨g_5, hf⟩ := sn_gdE hf
    refine sn_iald C hw layM_8 g_5 dX9_goMinute_132 ?_
    refine lv_iload_n hx hb dX9_goMinute_133 rfl (lv_at hl 2 rfl) ?_
    obtain ⟨t_6, h_7, hf⟩ := sn_bd hf
    refine sn_callSi (rest := []) C hw (ctX9_bit l  h_7) kl_RX9_254 rfl rfl rfl (Nat.le_of_ble_eq_true rfl) dX9_goMinute_134 hl.1 (fun H locs hw => ?_)
    refine lv_if_ne (tgt := 144) hx hb dX9_goMinute_137 (by decide) (fun c_8 => ?_) (fun c_8 => ?_)
    · have hf := sn_el c_8 hf
      exact wX9_goMinute_144 C  hf kc kx _ _ _ hw (lv_sub hl [1, 2, 3, 4, 5, 6, 0] rfl)
    · have hf := sn_if c_8 hf
      refine lv_iconst (v := 1) hx hb dX9_goMinute_140 rfl ?_
      refine lv_goto (tgt := 145) hx hb dX9_goMinute_141 (by decide) ?_
      exact wX9_goMinute_145 C  hf kc kx _ _ _ hw (lv_sub hl [1, 2, 3, 4, 5, 6, 0] rfl)
theorem wX9_goMinute_26 (C : sn_C p s m args meth c RX9 cX9_goMinute 8 none D ct ad layM A) {σ : sn_S} {x1 : Int32} {x2 : Int32} {x3 : Int32}  {o : (sn_S × Int32) ⊕ (sn_S)} (hf : BX9_goMinute_26 σ x1 x2 x3 = some o) (kc : ∀ v, o = .inl v → sn_At p l e rmX9_goMinute s m args below meth c Q D ct ad layM A 8 v.1 26 [(0, .ref (ad 0)), (1, .int x1), (2, .int x2), (3, .int v.2)] []) (kx : ∀ v, o = .inr v → sn_At p l e rmX9_goMinute s m args below meth c Q D ct ad layM A 8 v 231 [] []) : sn_At p l e rmX9_goMinute s m args below meth c Q D ct ad layM A 8 σ 26 [(0, .ref (ad 0)), (1, .int x1), (2, .int x2), (3, .int x3)] [] := by
  intro H locs ls hw hl
  have hx := C.1
  have hb := C.2.1
  unfold BX9_goMinute_26 at hf
  refine lv_iload_n hx hb dX9_goMinute_26 rfl (lv_at hl 3 rfl) ?_
  refine lv_aload_n hx hb dX9_goMinute_27 rfl (lv_at hl 0 rfl) ?_
  refine sn_getC (r := 1) C hw fd_RX9_9 layM_0 rfl dX9_goMinute_28 ?_
  refine lv_iconst (v := 5) hx hb dX9_goMinute_31 rfl ?_
  obtain ⟨g_1, hf⟩ := sn_gdE hf
  refine sn_iald C hw layM_1 g_1 dX9_goMinute_32 ?_
  refine lv_icmp_ge (tgt := 231) hx hb dX9_goMinute_33 (by decide) (fun c_2 => ?_) (fun c_2 => ?_)
  · have hf := sn_if c_2 hf
    cases hf
    exact kx _ rfl _ _ _ hw (lv_sub hl [] rfl)
  · have hf := sn_el c_2 hf
    refine lv_iconst (v := 5) hx hb dX9_goMinute_36 rfl ?_
    refine lv_aload_n hx hb dX9_goMinute_37 rfl (lv_at hl 0 rfl) ?_
    refine lv_iload_n hx hb dX9_goMinute_38 rfl (lv_at hl 3 rfl) ?_
    refine lv_iload_n hx hb dX9_goMinute_39 rfl (lv_at hl 2 rfl) ?_
    obtain ⟨t_3, h_4, hf⟩ := sn_bd hf
    refine sn_callVi (rest := [.int (5 : Int32)]) C hw (ctX9_netsTo l  h_4) kl_RX9_257 layM_0 rfl rfl rfl rfl (Nat.le_of_ble_eq_true rfl) dX9_goMinute_40 hl.1 (fun H locs hw => ?_)
    refine lv_imul hx hb dX9_goMinute_43 ?_
    obtain ⟨y_5, e_6, hf⟩ := sn_ltE hf
    refine lv_topi (fun y_5_ e_6_ => ?_)
    obtain rfl : y_5 = y_5_ := e_6.trans e_6_.symm
    refine lv_istore (lv' := [(4, .int y_5), (0, .ref (ad 0)), (1, .int x1), (2, .int x2), (3, .int x3)]) hx hb dX9_goMinute_44 hl (by decide) rfl (fun ls hl => ?_)
    refine lv_aload_n hx hb dX9_goMinute_46 rfl (lv_at hl 1 rfl) ?_
    refine sn_getC (r := 1) C hw fd_RX9_9 layM_0 rfl dX9_goMinute_47 ?_
    refine lv_bipush (v := 11) hx hb dX9_goMinute_50 (by decide) ?_
    refine lv_iconst (v := 2) hx hb dX9_goMinute_52 rfl ?_
    refine lv_iload_n hx hb dX9_goMinute_53 rfl (lv_at hl 4 rfl) ?_
    refine lv_imul hx hb dX9_goMinute_54 ?_
    refine lv_iadd hx hb dX9_goMinute_55 ?_
    obtain ⟨g_7, hf⟩ := sn_gdE hf
    refine sn_iald C hw layM_1 g_7 dX9_goMinute_56 ?_
    refine lv_aload_n hx hb dX9_goMinute_57 rfl (lv_at hl 1 rfl) ?_
    refine sn_getC (r := 7) C hw fd_RX9_34 layM_0 rfl dX9_goMinute_58 ?_
    refine lv_iload_n hx hb dX9_goMinute_61 rfl (lv_at hl 2 rfl) ?_
    obtain ⟨g_8, hf⟩ := sn_gdE hf
    refine sn_iald C hw layM_7 g_8 dX9_goMinute_62 ?_
    refine lv_imul hx hb dX9_goMinute_63 ?_
    refine lv_iload hx hb dX9_goMinute_64 (lv_at hl 0 rfl) ?_
    refine lv_iadd hx hb dX9_goMinute_66 ?_
    refine lv_bipush (v := 40) hx hb dX9_goMinute_67 (by decide) ?_
    refine lv_aload_n hx hb dX9_goMinute_69 rfl (lv_at hl 1 rfl) ?_
    refine sn_getC (r := 9) C hw fd_RX9_40 layM_0 rfl dX9_goMinute_70 ?_
    refine lv_iload_n hx hb dX9_goMinute_73 rfl (lv_at hl 4 rfl) ?_
    obtain ⟨g_9, hf⟩ := sn_gdE hf
    refine sn_iald C hw layM_9 g_9 dX9_goMinute_74 ?_
    refine lv_iload_n hx hb dX9_goMinute_75 rfl (lv_at hl 2 rfl) ?_
    obtain ⟨t_10, h_11, hf⟩ := sn_bd hf
    refine sn_callSi (rest := [.int (40 : Int32), .int (((sn_I σ 1 ((11 : Int32) + ((2 : Int32) * x3)).toNatClampNeg) * (sn_I σ 7 x1.toNatClampNeg)) + y_5)]) C hw (ctX9_bit l  h_11) kl_RX9_254 rfl rfl rfl (Nat.le_of_ble_eq_true rfl) dX9_goMinute_76 hl.1 (fun H locs hw => ?_)
    refine lv_imul hx hb dX9_goMinute_79 ?_
    refine lv_iadd hx hb dX9_goMinute_80 ?_
    obtain ⟨y_12, e_13, hf⟩ := sn_ltE hf
    refine lv_topi (fun y_12_ e_13_ => ?_)
    obtain rfl : y_12 = y_12_ := e_13.trans e_13_.symm
    refine lv_istore (lv' := [(5, .int y_12), (4, .int y_5), (0, .ref (ad 0)), (1, .int x1), (2, .int x2), (3, .int x3)]) hx hb dX9_goMinute_81 hl (by decide) rfl (fun ls hl => ?_)
    refine lv_iload_n hx hb dX9_goMinute_83 rfl (lv_at hl 3 rfl) ?_
    refine lv_if_ne (tgt := 91) hx hb dX9_goMinute_84 (by decide) (fun c_14 => ?_) (fun c_14 => ?_)
    · have hf := sn_el c_14 hf
      refine lv_aload_n hx hb dX9_goMinute_91 rfl (lv_at hl 2 rfl) ?_
      refine sn_getC (r := 12) C hw fd_RX9_49 layM_0 rfl dX9_goMinute_92 ?_
      refine lv_bipush (v := 6) hx hb dX9_goMinute_95 (by decide) ?_
      refine lv_iload_n hx hb dX9_goMinute_97 rfl (lv_at hl 3 rfl) ?_
      refine lv_iconst (v := 1) hx hb dX9_goMinute_98 rfl ?_
      refine lv_isub hx hb dX9_goMinute_99 ?_
      refine lv_imul hx hb dX9_goMinute_100 ?_
      refine lv_iload_n hx hb dX9_goMinute_101 rfl (lv_at hl 5 rfl) ?_
      refine lv_iadd hx hb dX9_goMinute_102 ?_
      obtain ⟨g_15, hf⟩ := sn_gdE hf
      refine sn_iald C hw layM_12 g_15 dX9_goMinute_103 ?_
      exact wX9_goMinute_104 C  hf kc kx _ _ _ hw (lv_sub hl [2, 3, 4, 5, 1, 0] rfl)
    · have hf := sn_if c_14 hf
      refine lv_iconst (v := 0) hx hb dX9_goMinute_87 rfl ?_
      refine lv_goto (tgt := 104) hx hb dX9_goMinute_88 (by decide) ?_
      exact wX9_goMinute_104 C  hf kc kx _ _ _ hw (lv_sub hl [2, 3, 4, 5, 1, 0] rfl)
theorem wX9_goMinute_L26 (C : sn_C p s m args meth c RX9 cX9_goMinute 8 none D ct ad layM A) {x1 : Int32} {x2 : Int32}   {z : sn_S × Int32} {t : sn_S} (h : sn_it (LX9_goMinute_26 x1 x2) 5000 z = some t) (kx : ∀ v, t = v → sn_At p l e rmX9_goMinute s m args below meth c Q D ct ad layM A 8 v 231 [] []) : sn_At p l e rmX9_goMinute s m args below meth c Q D ct ad layM A 8 z.1 26 [(0, .ref (ad 0)), (1, .int x1), (2, .int x2), (3, .int z.2)] [] :=
  sn_loop (f := LX9_goMinute_26 x1 x2) (G := fun z => sn_At p l e rmX9_goMinute s m args below meth c Q D ct ad layM A 8 z.1 26 [(0, .ref (ad 0)), (1, .int x1), (2, .int x2), (3, .int z.2)] []) (E := fun t => (∀ v, t = v → sn_At p l e rmX9_goMinute s m args below meth c Q D ct ad layM A 8 v 231 [] []) ∧ True) (fun z o hf k1 k2 => wX9_goMinute_26 C  hf (fun v e => k1 v e) (fun v e => (k2 _ e).1 v rfl)) 5000 z t h ⟨kx, trivial⟩
theorem wX9_goMinute_23 (C : sn_C p s m args meth c RX9 cX9_goMinute 8 none D ct ad layM A) {σ : sn_S} {x1 : Int32} {t0 : Int32}  {o : sn_S} (hf : BX9_goMinute_23 σ x1 t0 = some o) (kr : sn_Kr p l e rmX9_goMinute s m args below meth c Q D ct ad layM A cX9_goMinute .return_ (true) o []) : sn_At p l e rmX9_goMinute s m args below meth c Q D ct ad layM A 8 σ 23 [(0, .ref (ad 0)), (1, .int x1)] [.int t0] := by
  intro H locs ls hw hl
  have hx := C.1
  have hb := C.2.1
  unfold BX9_goMinute_23 at hf
  refine lv_istore_n (lv' := [(2, .int t0), (0, .ref (ad 0)), (1, .int x1)]) hx hb dX9_goMinute_23 rfl hl (by decide) rfl (fun ls hl => ?_)
  refine lv_iconst (v := 0) hx hb dX9_goMinute_24 rfl ?_
  refine lv_istore_n (lv' := [(3, .int (0 : Int32)), (2, .int t0), (0, .ref (ad 0)), (1, .int x1)]) hx hb dX9_goMinute_25 rfl hl (by decide) rfl (fun ls hl => ?_)
  obtain ⟨t_1, h_2, hf⟩ := sn_bd hf
  exact wX9_goMinute_L26 C  h_2 (fun v e => by cases e; exact wX9_goMinute_231 C  hf kr) _ _ _ hw (lv_sub hl [2, 3, 1, 0] rfl)
theorem wX9_goMinute_in (C : sn_C p s m args meth c RX9 cX9_goMinute 8 none D ct ad layM A) {σ : sn_S} {x1 : Int32}  {o : sn_S} (hf : fX9_goMinute σ x1 = some o) (kr : sn_Kr p l e rmX9_goMinute s m args below meth c Q D ct ad layM A cX9_goMinute .return_ (true) o []) : sn_At p l e rmX9_goMinute s m args below meth c Q D ct ad layM A 8 σ 0 [(0, .ref (ad 0)), (1, .int x1)] [] := by
  intro H locs ls hw hl
  have hx := C.1
  have hb := C.2.1
  unfold fX9_goMinute at hf
  refine lv_aload_n hx hb dX9_goMinute_0 rfl (lv_at hl 0 rfl) ?_
  refine sn_getC (r := 11) C hw fd_RX9_46 layM_0 rfl dX9_goMinute_1 ?_
  refine lv_iload_n hx hb dX9_goMinute_4 rfl (lv_at hl 1 rfl) ?_
  refine lv_iconst (v := 0) hx hb dX9_goMinute_5 rfl ?_
  obtain ⟨g_1, hf⟩ := sn_gdE hf
  refine sn_iast C hw layM_11 g_1 dX9_goMinute_6 (fun H locs hw => ?_)
  obtain ⟨σ_2, e_3, hf⟩ := sn_ltE hf
  rw [← e_3] at hw
  refine lv_iload_n hx hb dX9_goMinute_7 rfl (lv_at hl 1 rfl) ?_
  refine lv_if_ne (tgt := 15) hx hb dX9_goMinute_8 (by decide) (fun c_4 => ?_) (fun c_4 => ?_)
  · have hf := sn_el c_4 hf
    refine lv_aload_n hx hb dX9_goMinute_15 rfl (lv_at hl 0 rfl) ?_
    refine sn_getC (r := 11) C hw fd_RX9_46 layM_0 rfl dX9_goMinute_16 ?_
    refine lv_iload_n hx hb dX9_goMinute_19 rfl (lv_at hl 1 rfl) ?_
    refine lv_iconst (v := 1) hx hb dX9_goMinute_20 rfl ?_
    refine lv_isub hx hb dX9_goMinute_21 ?_
    obtain ⟨g_5, hf⟩ := sn_gdE hf
    refine sn_iald C hw layM_11 g_5 dX9_goMinute_22 ?_
    exact wX9_goMinute_23 C  hf kr _ _ _ hw (lv_sub hl [0, 1] rfl)
  · have hf := sn_if c_4 hf
    refine lv_iconst (v := 0) hx hb dX9_goMinute_11 rfl ?_
    refine lv_goto (tgt := 23) hx hb dX9_goMinute_12 (by decide) ?_
    exact wX9_goMinute_23 C  hf kr _ _ _ hw (lv_sub hl [0, 1] rfl)
theorem ctX9_goMinute (l : Launch) {σ : sn_S} {x1 : Int32}  {o : sn_S} (hf : fX9_goMinute σ x1 = some o) : sn_M l yX9_goMinute cX9_goMinute 8 none rmX9_goMinute layM (fun ad => [.ref (ad 0), .int x1]) σ none o :=
  sn_met (by decide) (fun _ => Nat.le_of_ble_eq_true rfl) (fun p e s m args below meth c ls D ct ad A C hw hl => wX9_goMinute_in C  hf (fun H locs ls pc hw ok hd => sn_vret C hw hd) _ _ _ hw hl)
-- X9_goAll
abbrev rmX9_goAll : Room := { frames := 3, cells := 0, slots := 0, locals := 74 }
def BX9_goAll_49 (σ : sn_S) : Option (sn_S) :=
  (some σ)
def BX9_goAll_30 (σ : sn_S) (x1 : Int32) : Option ((sn_S × Int32) ⊕ (sn_S)) :=
  (if (sn_I σ 0 22) < x1 then
  (some (.inr (σ)))
  else
  ((fX9_goMinute σ x1).bind fun t_2 => (sn_lt (x1 + 1) fun y_4 => (some (.inl (t_2, y_4))))))
def LX9_goAll_30  (s : sn_S × Int32) : Option ((sn_S × Int32) ⊕ (sn_S)) := BX9_goAll_30 s.1 s.2
def BX9_goAll_28 (σ : sn_S) : Option (sn_S) :=
  ((sn_it (LX9_goAll_30 ) 5000 (σ, (0 : Int32))).bind fun t_1 => (BX9_goAll_49 t_1))
def BX9_goAll_2 (σ : sn_S) (x1 : Int32) : Option ((sn_S × Int32) ⊕ (sn_S)) :=
  (if (6 : Int32) ≤ x1 then
  (some (.inr (σ)))
  else
  (sn_gd (sn_in x1 6) (sn_lt (sn_pI σ 10 x1.toNatClampNeg (0 : Int32)) fun σ_3 => (sn_gd (sn_in x1 6) (sn_lt (sn_pI σ_3 14 x1.toNatClampNeg (0 : Int32)) fun σ_6 => (sn_lt (x1 + 1) fun y_8 => (some (.inl (σ_6, y_8)))))))))
def LX9_goAll_2  (s : sn_S × Int32) : Option ((sn_S × Int32) ⊕ (sn_S)) := BX9_goAll_2 s.1 s.2
def fX9_goAll (σ : sn_S) : Option sn_S :=
  ((sn_it (LX9_goAll_2 ) 5000 (σ, (0 : Int32))).bind fun t_1 => (BX9_goAll_28 t_1))
theorem wX9_goAll_49 (C : sn_C p s m args meth c RX9 cX9_goAll 2 none D ct ad layM A) {σ : sn_S}  {o : sn_S} (hf : BX9_goAll_49 σ = some o) (kr : sn_Kr p l e rmX9_goAll s m args below meth c Q D ct ad layM A cX9_goAll .return_ (true) o []) : sn_At p l e rmX9_goAll s m args below meth c Q D ct ad layM A 2 σ 49 [] [] := by
  intro H locs ls hw hl
  have hx := C.1
  have hb := C.2.1
  unfold BX9_goAll_49 at hf
  cases hf
  exact kr _ _ _ _ hw rfl dX9_goAll_49
theorem wX9_goAll_30 (C : sn_C p s m args meth c RX9 cX9_goAll 2 none D ct ad layM A) {σ : sn_S} {x1 : Int32}  {o : (sn_S × Int32) ⊕ (sn_S)} (hf : BX9_goAll_30 σ x1 = some o) (kc : ∀ v, o = .inl v → sn_At p l e rmX9_goAll s m args below meth c Q D ct ad layM A 2 v.1 30 [(0, .ref (ad 0)), (1, .int v.2)] []) (kx : ∀ v, o = .inr v → sn_At p l e rmX9_goAll s m args below meth c Q D ct ad layM A 2 v 49 [] []) : sn_At p l e rmX9_goAll s m args below meth c Q D ct ad layM A 2 σ 30 [(0, .ref (ad 0)), (1, .int x1)] [] := by
  intro H locs ls hw hl
  have hx := C.1
  have hb := C.2.1
  unfold BX9_goAll_30 at hf
  refine lv_iload_n hx hb dX9_goAll_30 rfl (lv_at hl 1 rfl) ?_
  refine lv_aload_n hx hb dX9_goAll_31 rfl (lv_at hl 0 rfl) ?_
  refine sn_getI C hw fd_RX9_251 layM_0 rfl dX9_goAll_32 ?_
  refine lv_icmp_gt (tgt := 49) hx hb dX9_goAll_35 (by decide) (fun c_1 => ?_) (fun c_1 => ?_)
  · have hf := sn_if c_1 hf
    cases hf
    exact kx _ rfl _ _ _ hw (lv_sub hl [] rfl)
  · have hf := sn_el c_1 hf
    refine lv_aload_n hx hb dX9_goAll_38 rfl (lv_at hl 0 rfl) ?_
    refine lv_iload_n hx hb dX9_goAll_39 rfl (lv_at hl 1 rfl) ?_
    obtain ⟨t_2, h_3, hf⟩ := sn_bd hf
    refine sn_callVv (rest := []) C hw (ctX9_goMinute l  h_3) kl_RX9_260 layM_0 rfl rfl rfl rfl (Nat.le_of_ble_eq_true rfl) dX9_goAll_40 hl.1 (fun H locs hw => ?_)
    obtain ⟨y_4, e_5, hf⟩ := sn_ltE hf
    refine lv_iinc (v := y_4) (lv' := [(1, .int y_4), (0, .ref (ad 0))]) hx hb dX9_goAll_43 hl (k := 1) rfl (by rw [e_5]; rfl) (by decide) rfl (fun ls hl => ?_)
    refine lv_goto (tgt := 30) hx hb dX9_goAll_46 (by decide) ?_
    cases hf
    exact kc _ rfl _ _ _ hw (lv_sub hl [1, 0] rfl)
theorem wX9_goAll_L30 (C : sn_C p s m args meth c RX9 cX9_goAll 2 none D ct ad layM A)    {z : sn_S × Int32} {t : sn_S} (h : sn_it (LX9_goAll_30 ) 5000 z = some t) (kx : ∀ v, t = v → sn_At p l e rmX9_goAll s m args below meth c Q D ct ad layM A 2 v 49 [] []) : sn_At p l e rmX9_goAll s m args below meth c Q D ct ad layM A 2 z.1 30 [(0, .ref (ad 0)), (1, .int z.2)] [] :=
  sn_loop (f := LX9_goAll_30 ) (G := fun z => sn_At p l e rmX9_goAll s m args below meth c Q D ct ad layM A 2 z.1 30 [(0, .ref (ad 0)), (1, .int z.2)] []) (E := fun t => (∀ v, t = v → sn_At p l e rmX9_goAll s m args below meth c Q D ct ad layM A 2 v 49 [] []) ∧ True) (fun z o hf k1 k2 => wX9_goAll_30 C  hf (fun v e => k1 v e) (fun v e => (k2 _ e).1 v rfl)) 5000 z t h ⟨kx, trivial⟩
theorem wX9_goAll_28 (C : sn_C p s m args meth c RX9 cX9_goAll 2 none D ct ad layM A) {σ : sn_S}  {o : sn_S} (hf : BX9_goAll_28 σ = some o) (kr : sn_Kr p l e rmX9_goAll s m args below meth c Q D ct ad layM A cX9_goAll .return_ (true) o []) : sn_At p l e rmX9_goAll s m args below meth c Q D ct ad layM A 2 σ 28 [(0, .ref (ad 0))] [] := by
  intro H locs ls hw hl
  have hx := C.1
  have hb := C.2.1
  unfold BX9_goAll_28 at hf
  refine lv_iconst (v := 0) hx hb dX9_goAll_28 rfl ?_
  refine lv_istore_n (lv' := [(1, .int (0 : Int32)), (0, .ref (ad 0))]) hx hb dX9_goAll_29 rfl hl (by decide) rfl (fun ls hl => ?_)
  obtain ⟨t_1, h_2, hf⟩ := sn_bd hf
  exact wX9_goAll_L30 C  h_2 (fun v e => by cases e; exact wX9_goAll_49 C  hf kr) _ _ _ hw (lv_sub hl [1, 0] rfl)
theorem wX9_goAll_2 (C : sn_C p s m args meth c RX9 cX9_goAll 2 none D ct ad layM A) {σ : sn_S} {x1 : Int32}  {o : (sn_S × Int32) ⊕ (sn_S)} (hf : BX9_goAll_2 σ x1 = some o) (kc : ∀ v, o = .inl v → sn_At p l e rmX9_goAll s m args below meth c Q D ct ad layM A 2 v.1 2 [(0, .ref (ad 0)), (1, .int v.2)] []) (kx : ∀ v, o = .inr v → sn_At p l e rmX9_goAll s m args below meth c Q D ct ad layM A 2 v 28 [(0, .ref (ad 0))] []) : sn_At p l e rmX9_goAll s m args below meth c Q D ct ad layM A 2 σ 2 [(0, .ref (ad 0)), (1, .int x1)] [] := by
  intro H locs ls hw hl
  have hx := C.1
  have hb := C.2.1
  unfold BX9_goAll_2 at hf
  refine lv_iload_n hx hb dX9_goAll_2 rfl (lv_at hl 1 rfl) ?_
  refine lv_bipush (v := 6) hx hb dX9_goAll_3 (by decide) ?_
  refine lv_icmp_ge (tgt := 28) hx hb dX9_goAll_5 (by decide) (fun c_1 => ?_) (fun c_1 => ?_)
  · have hf := sn_if c_1 hf
    cases hf
    exact kx _ rfl _ _ _ hw (lv_sub hl [0] rfl)
  · have hf := sn_el c_1 hf
    refine lv_aload_n hx hb dX9_goAll_8 rfl (lv_at hl 0 rfl) ?_
    refine sn_getC (r := 10) C hw fd_RX9_43 layM_0 rfl dX9_goAll_9 ?_
    refine lv_iload_n hx hb dX9_goAll_12 rfl (lv_at hl 1 rfl) ?_
    refine lv_iconst (v := 0) hx hb dX9_goAll_13 rfl ?_
    obtain ⟨g_2, hf⟩ := sn_gdE hf
    refine sn_iast C hw layM_10 g_2 dX9_goAll_14 (fun H locs hw => ?_)
    obtain ⟨σ_3, e_4, hf⟩ := sn_ltE hf
    rw [← e_4] at hw
    refine lv_aload_n hx hb dX9_goAll_15 rfl (lv_at hl 0 rfl) ?_
    refine sn_getC (r := 14) C hw fd_RX9_55 layM_0 rfl dX9_goAll_16 ?_
    refine lv_iload_n hx hb dX9_goAll_19 rfl (lv_at hl 1 rfl) ?_
    refine lv_iconst (v := 0) hx hb dX9_goAll_20 rfl ?_
    obtain ⟨g_5, hf⟩ := sn_gdE hf
    refine sn_iast C hw layM_14 g_5 dX9_goAll_21 (fun H locs hw => ?_)
    obtain ⟨σ_6, e_7, hf⟩ := sn_ltE hf
    rw [← e_7] at hw
    obtain ⟨y_8, e_9, hf⟩ := sn_ltE hf
    refine lv_iinc (v := y_8) (lv' := [(1, .int y_8), (0, .ref (ad 0))]) hx hb dX9_goAll_22 hl (k := 1) rfl (by rw [e_9]; rfl) (by decide) rfl (fun ls hl => ?_)
    refine lv_goto (tgt := 2) hx hb dX9_goAll_25 (by decide) ?_
    cases hf
    exact kc _ rfl _ _ _ hw (lv_sub hl [1, 0] rfl)
theorem wX9_goAll_L2 (C : sn_C p s m args meth c RX9 cX9_goAll 2 none D ct ad layM A)    {z : sn_S × Int32} {t : sn_S} (h : sn_it (LX9_goAll_2 ) 5000 z = some t) (kx : ∀ v, t = v → sn_At p l e rmX9_goAll s m args below meth c Q D ct ad layM A 2 v 28 [(0, .ref (ad 0))] []) : sn_At p l e rmX9_goAll s m args below meth c Q D ct ad layM A 2 z.1 2 [(0, .ref (ad 0)), (1, .int z.2)] [] :=
  sn_loop (f := LX9_goAll_2 ) (G := fun z => sn_At p l e rmX9_goAll s m args below meth c Q D ct ad layM A 2 z.1 2 [(0, .ref (ad 0)), (1, .int z.2)] []) (E := fun t => (∀ v, t = v → sn_At p l e rmX9_goAll s m args below meth c Q D ct ad layM A 2 v 28 [(0, .ref (ad 0))] []) ∧ True) (fun z o hf k1 k2 => wX9_goAll_2 C  hf (fun v e => k1 v e) (fun v e => (k2 _ e).1 v rfl)) 5000 z t h ⟨kx, trivial⟩
theorem wX9_goAll_in (C : sn_C p s m args meth c RX9 cX9_goAll 2 none D ct ad layM A) {σ : sn_S}  {o : sn_S} (hf : fX9_goAll σ = some o) (kr : sn_Kr p l e rmX9_goAll s m args below meth c Q D ct ad layM A cX9_goAll .return_ (true) o []) : sn_At p l e rmX9_goAll s m args below meth c Q D ct ad layM A 2 σ 0 [(0, .ref (ad 0))] [] := by
  intro H locs ls hw hl
  have hx := C.1
  have hb := C.2.1
  unfold fX9_goAll at hf
  refine lv_iconst (v := 0) hx hb dX9_goAll_0 rfl ?_
  refine lv_istore_n (lv' := [(1, .int (0 : Int32)), (0, .ref (ad 0))]) hx hb dX9_goAll_1 rfl hl (by decide) rfl (fun ls hl => ?_)
  obtain ⟨t_1, h_2, hf⟩ := sn_bd hf
  exact wX9_goAll_L2 C  h_2 (fun v e => by cases e; exact wX9_goAll_28 C  hf kr) _ _ _ hw (lv_sub hl [1, 0] rfl)
theorem ctX9_goAll (l : Launch) {σ : sn_S}  {o : sn_S} (hf : fX9_goAll σ = some o) : sn_M l yX9_goAll cX9_goAll 2 none rmX9_goAll layM (fun ad => [.ref (ad 0)]) σ none o :=
  sn_met (by decide) (fun _ => Nat.le_of_ble_eq_true rfl) (fun p e s m args below meth c ls D ct ad A C hw hl => wX9_goAll_in C  hf (fun H locs ls pc hw ok hd => sn_vret C hw hd) _ _ _ hw hl)
-- X9_asksHouse
abbrev rmX9_asksHouse : Room := { frames := 4, cells := 0, slots := 0, locals := 95 }
def fX9_asksHouse (σ : sn_S) : Option (Int32 × sn_S) :=
  ((fX9_asItIs σ).bind fun t_1 => ((fX9_goAll t_1).bind fun t_3 => ((fX9_isHouse t_3).bind fun t_5 => (sn_gd (sn_b01 t_5) (some (t_5, t_3))))))
theorem wX9_asksHouse_in (C : sn_C p s m args meth c RX9 cX9_asksHouse 1 (some .boolean) D ct ad layM A) {σ : sn_S}  {o : (Int32 × sn_S)} (hf : fX9_asksHouse σ = some o) (kr : sn_Kr p l e rmX9_asksHouse s m args below meth c Q D ct ad layM A cX9_asksHouse .ireturn (sn_b01 o.1) o.2 [.int o.1]) : sn_At p l e rmX9_asksHouse s m args below meth c Q D ct ad layM A 1 σ 0 [(0, .ref (ad 0))] [] := by
  intro H locs ls hw hl
  have hx := C.1
  have hb := C.2.1
  unfold fX9_asksHouse at hf
  refine lv_aload_n hx hb dX9_asksHouse_0 rfl (lv_at hl 0 rfl) ?_
  obtain ⟨t_1, h_2, hf⟩ := sn_bd hf
  refine sn_callVv (rest := []) C hw (ctX9_asItIs l  h_2) kl_RX9_263 layM_0 rfl rfl rfl rfl (Nat.le_of_ble_eq_true rfl) dX9_asksHouse_1 hl.1 (fun H locs hw => ?_)
  refine lv_aload_n hx hb dX9_asksHouse_4 rfl (lv_at hl 0 rfl) ?_
  obtain ⟨t_3, h_4, hf⟩ := sn_bd hf
  refine sn_callVv (rest := []) C hw (ctX9_goAll l  h_4) kl_RX9_266 layM_0 rfl rfl rfl rfl (Nat.le_of_ble_eq_true rfl) dX9_asksHouse_5 hl.1 (fun H locs hw => ?_)
  refine lv_aload_n hx hb dX9_asksHouse_8 rfl (lv_at hl 0 rfl) ?_
  obtain ⟨t_5, h_6, hf⟩ := sn_bd hf
  refine sn_callVi (rest := []) C hw (ctX9_isHouse l  h_6) kl_RX9_269 layM_0 rfl rfl rfl rfl (Nat.le_of_ble_eq_true rfl) dX9_asksHouse_9 hl.1 (fun H locs hw => ?_)
  obtain ⟨g_7, hf⟩ := sn_gdE hf
  cases hf
  exact kr _ _ _ _ hw g_7 dX9_asksHouse_12
theorem ctX9_asksHouse (l : Launch) {σ : sn_S}  {o : (Int32 × sn_S)} (hf : fX9_asksHouse σ = some o) : sn_M l yX9_asksHouse cX9_asksHouse 1 (some .boolean) rmX9_asksHouse layM (fun ad => [.ref (ad 0)]) σ (some (fun _ => .int o.1)) o.2 :=
  sn_met (by decide) (fun _ => Nat.le_of_ble_eq_true rfl) (fun p e s m args below meth c ls D ct ad A C hw hl => wX9_asksHouse_in C  hf (fun H locs ls pc hw ok hd => sn_zret C hw ok hd) _ _ _ hw hl)
-- X9_asksPerson
abbrev rmX9_asksPerson : Room := { frames := 5, cells := 0, slots := 0, locals := 115 }
def fX9_asksPerson (σ : sn_S) (x1 : Int32) : Option (Int32 × sn_S) :=
  ((fX9_asksHouse σ).bind fun t_1 => ((fX9_isPerson t_1.2 x1.toInt64).bind fun t_3 => (sn_gd (sn_b01 t_3) (some (t_3, t_1.2)))))
theorem wX9_asksPerson_in (C : sn_C p s m args meth c RX9 cX9_asksPerson 2 (some .boolean) D ct ad layM A) {σ : sn_S} {x1 : Int32}  {o : (Int32 × sn_S)} (hf : fX9_asksPerson σ x1 = some o) (kr : sn_Kr p l e rmX9_asksPerson s m args below meth c Q D ct ad layM A cX9_asksPerson .ireturn (sn_b01 o.1) o.2 [.int o.1]) : sn_At p l e rmX9_asksPerson s m args below meth c Q D ct ad layM A 2 σ 0 [(0, .ref (ad 0)), (1, .int x1)] [] := by
  intro H locs ls hw hl
  have hx := C.1
  have hb := C.2.1
  unfold fX9_asksPerson at hf
  refine lv_aload_n hx hb dX9_asksPerson_0 rfl (lv_at hl 0 rfl) ?_
  obtain ⟨t_1, h_2, hf⟩ := sn_bd hf
  refine sn_callVi (rest := []) C hw (ctX9_asksHouse l  h_2) kl_RX9_272 layM_0 rfl rfl rfl rfl (Nat.le_of_ble_eq_true rfl) dX9_asksPerson_1 hl.1 (fun H locs hw => ?_)
  refine lv_pop hx hb dX9_asksPerson_4 rfl ?_
  refine lv_aload_n hx hb dX9_asksPerson_5 rfl (lv_at hl 0 rfl) ?_
  refine lv_iload_n hx hb dX9_asksPerson_6 rfl (lv_at hl 1 rfl) ?_
  refine lv_i2l hx hb dX9_asksPerson_7 rfl ?_
  obtain ⟨t_3, h_4, hf⟩ := sn_bd hf
  refine sn_callVi (rest := []) C hw (ctX9_isPerson l  h_4) kl_RX9_224 layM_0 rfl rfl rfl rfl (Nat.le_of_ble_eq_true rfl) dX9_asksPerson_8 hl.1 (fun H locs hw => ?_)
  obtain ⟨g_5, hf⟩ := sn_gdE hf
  cases hf
  exact kr _ _ _ _ hw g_5 dX9_asksPerson_11
theorem ctX9_asksPerson (l : Launch) {σ : sn_S} {x1 : Int32}  {o : (Int32 × sn_S)} (hf : fX9_asksPerson σ x1 = some o) : sn_M l yX9_asksPerson cX9_asksPerson 2 (some .boolean) rmX9_asksPerson layM (fun ad => [.ref (ad 0), .int x1]) σ (some (fun _ => .int o.1)) o.2 :=
  sn_met (by decide) (fun _ => Nat.le_of_ble_eq_true rfl) (fun p e s m args below meth c ls D ct ad A C hw hl => wX9_asksPerson_in C  hf (fun H locs ls pc hw ok hd => sn_zret C hw ok hd) _ _ _ hw hl)
-- X9_asksMinute
abbrev rmX9_asksMinute : Room := { frames := 5, cells := 0, slots := 0, locals := 115 }
def fX9_asksMinute (σ : sn_S) (x1 : Int32) : Option (Int32 × sn_S) :=
  ((fX9_asksHouse σ).bind fun t_1 => ((fX9_isMinute t_1.2 x1.toInt64).bind fun t_3 => (sn_gd (sn_b01 t_3) (some (t_3, t_1.2)))))
theorem wX9_asksMinute_in (C : sn_C p s m args meth c RX9 cX9_asksMinute 2 (some .boolean) D ct ad layM A) {σ : sn_S} {x1 : Int32}  {o : (Int32 × sn_S)} (hf : fX9_asksMinute σ x1 = some o) (kr : sn_Kr p l e rmX9_asksMinute s m args below meth c Q D ct ad layM A cX9_asksMinute .ireturn (sn_b01 o.1) o.2 [.int o.1]) : sn_At p l e rmX9_asksMinute s m args below meth c Q D ct ad layM A 2 σ 0 [(0, .ref (ad 0)), (1, .int x1)] [] := by
  intro H locs ls hw hl
  have hx := C.1
  have hb := C.2.1
  unfold fX9_asksMinute at hf
  refine lv_aload_n hx hb dX9_asksMinute_0 rfl (lv_at hl 0 rfl) ?_
  obtain ⟨t_1, h_2, hf⟩ := sn_bd hf
  refine sn_callVi (rest := []) C hw (ctX9_asksHouse l  h_2) kl_RX9_272 layM_0 rfl rfl rfl rfl (Nat.le_of_ble_eq_true rfl) dX9_asksMinute_1 hl.1 (fun H locs hw => ?_)
  refine lv_pop hx hb dX9_asksMinute_4 rfl ?_
  refine lv_aload_n hx hb dX9_asksMinute_5 rfl (lv_at hl 0 rfl) ?_
  refine lv_iload_n hx hb dX9_asksMinute_6 rfl (lv_at hl 1 rfl) ?_
  refine lv_i2l hx hb dX9_asksMinute_7 rfl ?_
  obtain ⟨t_3, h_4, hf⟩ := sn_bd hf
  refine sn_callVi (rest := []) C hw (ctX9_isMinute l  h_4) kl_RX9_275 layM_0 rfl rfl rfl rfl (Nat.le_of_ble_eq_true rfl) dX9_asksMinute_8 hl.1 (fun H locs hw => ?_)
  obtain ⟨g_5, hf⟩ := sn_gdE hf
  cases hf
  exact kr _ _ _ _ hw g_5 dX9_asksMinute_11
theorem ctX9_asksMinute (l : Launch) {σ : sn_S} {x1 : Int32}  {o : (Int32 × sn_S)} (hf : fX9_asksMinute σ x1 = some o) : sn_M l yX9_asksMinute cX9_asksMinute 2 (some .boolean) rmX9_asksMinute layM (fun ad => [.ref (ad 0), .int x1]) σ (some (fun _ => .int o.1)) o.2 :=
  sn_met (by decide) (fun _ => Nat.le_of_ble_eq_true rfl) (fun p e s m args below meth c ls D ct ad A C hw hl => wX9_asksMinute_in C  hf (fun H locs ls pc hw ok hd => sn_zret C hw ok hd) _ _ _ hw hl)
-- X9_firstOf
abbrev rmX9_firstOf : Room := { frames := 1, cells := 0, slots := 0, locals := 21 }
def BX9_firstOf_25  : Option (Int32) :=
  (some (-1 : Int32))
def BX9_firstOf_2 (x0 : Int32) (x1 : Int32) : Option ((Int32) ⊕ ((Unit) ⊕ Int32)) :=
  (if (30 : Int32) ≤ x1 then
  (some (.inr (.inl ())))
  else
  ((fX9_bit x0 x1).bind fun t_2 => (if t_2 = (1 : Int32) then
  (some (.inr (.inr x1)))
  else
  (sn_lt (x1 + 1) fun y_5 => (some (.inl (y_5)))))))
def LX9_firstOf_2 (x0 : Int32) (s : Int32) : Option ((Int32) ⊕ ((Unit) ⊕ Int32)) := BX9_firstOf_2 x0 s
def fX9_firstOf (x0 : Int32) : Option Int32 :=
  ((sn_it (LX9_firstOf_2 x0) 5000 ((0 : Int32))).bind fun t_1 => Sum.elim (fun v_3 => (BX9_firstOf_25 )) (fun r_4 => (some r_4)) t_1)
theorem wX9_firstOf_25 (C : sn_C p s m args meth c RX9 cX9_firstOf 2 (some .int) D ct ad layM A) {σ : sn_S}   {o : Int32} (hf : BX9_firstOf_25  = some o) (kr : sn_Kr p l e rmX9_firstOf s m args below meth c Q D ct ad layM A cX9_firstOf .ireturn (true) σ [.int o]) : sn_At p l e rmX9_firstOf s m args below meth c Q D ct ad layM A 2 σ 25 [] [] := by
  intro H locs ls hw hl
  have hx := C.1
  have hb := C.2.1
  unfold BX9_firstOf_25 at hf
  refine lv_iconst (v := (-1)) hx hb dX9_firstOf_25 rfl ?_
  cases hf
  exact kr _ _ _ _ hw rfl dX9_firstOf_26
theorem wX9_firstOf_2 (C : sn_C p s m args meth c RX9 cX9_firstOf 2 (some .int) D ct ad layM A) {σ : sn_S} {x0 : Int32} {x1 : Int32}  {o : (Int32) ⊕ ((Unit) ⊕ Int32)} (hf : BX9_firstOf_2 x0 x1 = some o) (kc : ∀ v, o = .inl v → sn_At p l e rmX9_firstOf s m args below meth c Q D ct ad layM A 2 σ 2 [(0, .int x0), (1, .int v)] []) (kx : ∀ v, o = .inr (.inl v) → sn_At p l e rmX9_firstOf s m args below meth c Q D ct ad layM A 2 σ 25 [] []) (kr : ∀ r, o = .inr (.inr r) → sn_Kr p l e rmX9_firstOf s m args below meth c Q D ct ad layM A cX9_firstOf .ireturn (true) σ [.int r]) : sn_At p l e rmX9_firstOf s m args below meth c Q D ct ad layM A 2 σ 2 [(0, .int x0), (1, .int x1)] [] := by
  intro H locs ls hw hl
  have hx := C.1
  have hb := C.2.1
  unfold BX9_firstOf_2 at hf
  refine lv_iload_n hx hb dX9_firstOf_2 rfl (lv_at hl 1 rfl) ?_
  refine lv_bipush (v := 30) hx hb dX9_firstOf_3 (by decide) ?_
  refine lv_icmp_ge (tgt := 25) hx hb dX9_firstOf_5 (by decide) (fun c_1 => ?_) (fun c_1 => ?_)
  · have hf := sn_if c_1 hf
    cases hf
    exact kx _ rfl _ _ _ hw (lv_sub hl [] rfl)
  · have hf := sn_el c_1 hf
    refine lv_iload_n hx hb dX9_firstOf_8 rfl (lv_at hl 0 rfl) ?_
    refine lv_iload_n hx hb dX9_firstOf_9 rfl (lv_at hl 1 rfl) ?_
    obtain ⟨t_2, h_3, hf⟩ := sn_bd hf
    refine sn_callSi (rest := []) C hw (ctX9_bit l  h_3) kl_RX9_254 rfl rfl rfl (Nat.le_of_ble_eq_true rfl) dX9_firstOf_10 hl.1 (fun H locs hw => ?_)
    refine lv_iconst (v := 1) hx hb dX9_firstOf_13 rfl ?_
    refine lv_icmp_ne (tgt := 19) hx hb dX9_firstOf_14 (by decide) (fun c_4 => ?_) (fun c_4 => ?_)
    · have hf := sn_el c_4 hf
      obtain ⟨y_5, e_6, hf⟩ := sn_ltE hf
      refine lv_iinc (v := y_5) (lv' := [(1, .int y_5), (0, .int x0)]) hx hb dX9_firstOf_19 hl (k := 1) rfl (by rw [e_6]; rfl) (by decide) rfl (fun ls hl => ?_)
      refine lv_goto (tgt := 2) hx hb dX9_firstOf_22 (by decide) ?_
      cases hf
      exact kc _ rfl _ _ _ hw (lv_sub hl [1, 0] rfl)
    · have hf := sn_if c_4 hf
      refine lv_iload_n hx hb dX9_firstOf_17 rfl (lv_at hl 1 rfl) ?_
      cases hf
      exact kr _ rfl _ _ _ _ hw rfl dX9_firstOf_18
theorem wX9_firstOf_L2 (C : sn_C p s m args meth c RX9 cX9_firstOf 2 (some .int) D ct ad layM A) {σ : sn_S} {x0 : Int32}   {z : Int32} {t : (Unit) ⊕ Int32} (h : sn_it (LX9_firstOf_2 x0) 5000 z = some t) (kx : ∀ v, t = .inl v → sn_At p l e rmX9_firstOf s m args below meth c Q D ct ad layM A 2 σ 25 [] []) (kr : ∀ r, t = .inr r → sn_Kr p l e rmX9_firstOf s m args below meth c Q D ct ad layM A cX9_firstOf .ireturn (true) σ [.int r]) : sn_At p l e rmX9_firstOf s m args below meth c Q D ct ad layM A 2 σ 2 [(0, .int x0), (1, .int z)] [] :=
  sn_loop (f := LX9_firstOf_2 x0) (G := fun z => sn_At p l e rmX9_firstOf s m args below meth c Q D ct ad layM A 2 σ 2 [(0, .int x0), (1, .int z)] []) (E := fun t => (∀ v, t = .inl v → sn_At p l e rmX9_firstOf s m args below meth c Q D ct ad layM A 2 σ 25 [] []) ∧ (∀ r, t = .inr r → sn_Kr p l e rmX9_firstOf s m args below meth c Q D ct ad layM A cX9_firstOf .ireturn (true) σ [.int r])) (fun z o hf k1 k2 => wX9_firstOf_2 C  hf (fun v e => k1 v e) (fun v e => (k2 _ e).1 v rfl) (fun r e => (k2 _ e).2 r rfl)) 5000 z t h ⟨kx, kr⟩
theorem wX9_firstOf_in (C : sn_C p s m args meth c RX9 cX9_firstOf 2 (some .int) D ct ad layM A) {σ : sn_S} {x0 : Int32}  {o : Int32} (hf : fX9_firstOf x0 = some o) (kr : sn_Kr p l e rmX9_firstOf s m args below meth c Q D ct ad layM A cX9_firstOf .ireturn (true) σ [.int o]) : sn_At p l e rmX9_firstOf s m args below meth c Q D ct ad layM A 2 σ 0 [(0, .int x0)] [] := by
  intro H locs ls hw hl
  have hx := C.1
  have hb := C.2.1
  unfold fX9_firstOf at hf
  refine lv_iconst (v := 0) hx hb dX9_firstOf_0 rfl ?_
  refine lv_istore_n (lv' := [(1, .int (0 : Int32)), (0, .int x0)]) hx hb dX9_firstOf_1 rfl hl (by decide) rfl (fun ls hl => ?_)
  obtain ⟨t_1, h_2, hf⟩ := sn_bd hf
  rcases t_1 with v_3 | r_4
  · rw [Sum.elim_inl] at hf
    exact wX9_firstOf_L2 C  h_2 (fun v e => by cases e; exact wX9_firstOf_25 C  hf kr) (fun r e => by cases e) _ _ _ hw (lv_sub hl [1, 0] rfl)
  · rw [Sum.elim_inr] at hf
    cases hf
    exact wX9_firstOf_L2 C  h_2 (fun v e => by cases e) (fun r e => by cases e; exact kr) _ _ _ hw (lv_sub hl [1, 0] rfl)
theorem ctX9_firstOf (l : Launch) {σ : sn_S} {x0 : Int32}  {o : Int32} (hf : fX9_firstOf x0 = some o) : sn_M l yX9_firstOf cX9_firstOf 2 (some .int) rmX9_firstOf layM (fun ad => [.int x0]) σ (some (fun _ => .int o)) σ :=
  sn_met (by decide) (fun _ => Nat.le_of_ble_eq_true rfl) (fun p e s m args below meth c ls D ct ad A C hw hl => wX9_firstOf_in C  hf (fun H locs ls pc hw ok hd => sn_iret C hw hd) _ _ _ hw hl)
-- X9_allSneezes
abbrev rmX9_allSneezes : Room := { frames := 1, cells := 0, slots := 0, locals := 22 }
def BX9_allSneezes_32 (σ : sn_S) (x1 : Int32) : Option (Int32) :=
  (some x1)
def BX9_allSneezes_4 (σ : sn_S) (x1 : Int32) (x2 : Int32) : Option ((Int32 × Int32) ⊕ (Int32)) :=
  (sn_gd (sn_in (5 : Int32) 119) (if (sn_I σ 1 (5 : Int32).toNatClampNeg) ≤ x2 then
  (some (.inr (x1)))
  else
  (sn_gd (sn_in x2 6) ((fX9_bits (sn_I σ 10 x2.toNatClampNeg)).bind fun t_4 => (sn_lt (x1 + t_4) fun y_6 => (sn_lt (x2 + 1) fun y_8 => (some (.inl (y_6, y_8)))))))))
def LX9_allSneezes_4 (σ : sn_S) (s : Int32 × Int32) : Option ((Int32 × Int32) ⊕ (Int32)) := BX9_allSneezes_4 σ s.1 s.2
def fX9_allSneezes (σ : sn_S) : Option Int32 :=
  ((sn_it (LX9_allSneezes_4 σ) 5000 ((0 : Int32), (0 : Int32))).bind fun t_1 => (BX9_allSneezes_32 σ t_1))
theorem wX9_allSneezes_32 (C : sn_C p s m args meth c RX9 cX9_allSneezes 3 (some .int) D ct ad layM A) {σ : sn_S} {x1 : Int32}  {o : Int32} (hf : BX9_allSneezes_32 σ x1 = some o) (kr : sn_Kr p l e rmX9_allSneezes s m args below meth c Q D ct ad layM A cX9_allSneezes .ireturn (true) σ [.int o]) : sn_At p l e rmX9_allSneezes s m args below meth c Q D ct ad layM A 3 σ 32 [(1, .int x1)] [] := by
  intro H locs ls hw hl
  have hx := C.1
  have hb := C.2.1
  unfold BX9_allSneezes_32 at hf
  refine lv_iload_n hx hb dX9_allSneezes_32 rfl (lv_at hl 0 rfl) ?_
  cases hf
  exact kr _ _ _ _ hw rfl dX9_allSneezes_33
theorem wX9_allSneezes_4 (C : sn_C p s m args meth c RX9 cX9_allSneezes 3 (some .int) D ct ad layM A) {σ : sn_S} {x1 : Int32} {x2 : Int32}  {o : (Int32 × Int32) ⊕ (Int32)} (hf : BX9_allSneezes_4 σ x1 x2 = some o) (kc : ∀ v, o = .inl v → sn_At p l e rmX9_allSneezes s m args below meth c Q D ct ad layM A 3 σ 4 [(0, .ref (ad 0)), (1, .int v.1), (2, .int v.2)] []) (kx : ∀ v, o = .inr v → sn_At p l e rmX9_allSneezes s m args below meth c Q D ct ad layM A 3 σ 32 [(1, .int v)] []) : sn_At p l e rmX9_allSneezes s m args below meth c Q D ct ad layM A 3 σ 4 [(0, .ref (ad 0)), (1, .int x1), (2, .int x2)] [] := by
  intro H locs ls hw hl
  have hx := C.1
  have hb := C.2.1
  unfold BX9_allSneezes_4 at hf
  refine lv_iload_n hx hb dX9_allSneezes_4 rfl (lv_at hl 2 rfl) ?_
  refine lv_aload_n hx hb dX9_allSneezes_5 rfl (lv_at hl 0 rfl) ?_
  refine sn_getC (r := 1) C hw fd_RX9_9 layM_0 rfl dX9_allSneezes_6 ?_
  refine lv_iconst (v := 5) hx hb dX9_allSneezes_9 rfl ?_
  obtain ⟨g_1, hf⟩ := sn_gdE hf
  refine sn_iald C hw layM_1 g_1 dX9_allSneezes_10 ?_
  refine lv_icmp_ge (tgt := 32) hx hb dX9_allSneezes_11 (by decide) (fun c_2 => ?_) (fun c_2 => ?_)
  · have hf := sn_if c_2 hf
    cases hf
    exact kx _ rfl _ _ _ hw (lv_sub hl [1] rfl)
  · have hf := sn_el c_2 hf
    refine lv_iload_n hx hb dX9_allSneezes_14 rfl (lv_at hl 1 rfl) ?_
    refine lv_aload_n hx hb dX9_allSneezes_15 rfl (lv_at hl 0 rfl) ?_
    refine sn_getC (r := 10) C hw fd_RX9_43 layM_0 rfl dX9_allSneezes_16 ?_
    refine lv_iload_n hx hb dX9_allSneezes_19 rfl (lv_at hl 2 rfl) ?_
    obtain ⟨g_3, hf⟩ := sn_gdE hf
    refine sn_iald C hw layM_10 g_3 dX9_allSneezes_20 ?_
    obtain ⟨t_4, h_5, hf⟩ := sn_bd hf
    refine sn_callSi (rest := [.int x1]) C hw (ctX9_bits l  h_5) kl_RX9_278 rfl rfl rfl (Nat.le_of_ble_eq_true rfl) dX9_allSneezes_21 hl.1 (fun H locs hw => ?_)
    refine lv_iadd hx hb dX9_allSneezes_24 ?_
    obtain ⟨y_6, e_7, hf⟩ := sn_ltE hf
    refine lv_topi (fun y_6_ e_7_ => ?_)
    obtain rfl : y_6 = y_6_ := e_7.trans e_7_.symm
    refine lv_istore_n (lv' := [(1, .int y_6), (0, .ref (ad 0)), (2, .int x2)]) hx hb dX9_allSneezes_25 rfl hl (by decide) rfl (fun ls hl => ?_)
    obtain ⟨y_8, e_9, hf⟩ := sn_ltE hf
    refine lv_iinc (v := y_8) (lv' := [(2, .int y_8), (1, .int y_6), (0, .ref (ad 0))]) hx hb dX9_allSneezes_26 hl (k := 2) rfl (by rw [e_9]; rfl) (by decide) rfl (fun ls hl => ?_)
    refine lv_goto (tgt := 4) hx hb dX9_allSneezes_29 (by decide) ?_
    cases hf
    exact kc _ rfl _ _ _ hw (lv_sub hl [2, 1, 0] rfl)
theorem wX9_allSneezes_L4 (C : sn_C p s m args meth c RX9 cX9_allSneezes 3 (some .int) D ct ad layM A) {σ : sn_S}   {z : Int32 × Int32} {t : Int32} (h : sn_it (LX9_allSneezes_4 σ) 5000 z = some t) (kx : ∀ v, t = v → sn_At p l e rmX9_allSneezes s m args below meth c Q D ct ad layM A 3 σ 32 [(1, .int v)] []) : sn_At p l e rmX9_allSneezes s m args below meth c Q D ct ad layM A 3 σ 4 [(0, .ref (ad 0)), (1, .int z.1), (2, .int z.2)] [] :=
  sn_loop (f := LX9_allSneezes_4 σ) (G := fun z => sn_At p l e rmX9_allSneezes s m args below meth c Q D ct ad layM A 3 σ 4 [(0, .ref (ad 0)), (1, .int z.1), (2, .int z.2)] []) (E := fun t => (∀ v, t = v → sn_At p l e rmX9_allSneezes s m args below meth c Q D ct ad layM A 3 σ 32 [(1, .int v)] []) ∧ True) (fun z o hf k1 k2 => wX9_allSneezes_4 C  hf (fun v e => k1 v e) (fun v e => (k2 _ e).1 v rfl)) 5000 z t h ⟨kx, trivial⟩
theorem wX9_allSneezes_in (C : sn_C p s m args meth c RX9 cX9_allSneezes 3 (some .int) D ct ad layM A) {σ : sn_S}  {o : Int32} (hf : fX9_allSneezes σ = some o) (kr : sn_Kr p l e rmX9_allSneezes s m args below meth c Q D ct ad layM A cX9_allSneezes .ireturn (true) σ [.int o]) : sn_At p l e rmX9_allSneezes s m args below meth c Q D ct ad layM A 3 σ 0 [(0, .ref (ad 0))] [] := by
  intro H locs ls hw hl
  have hx := C.1
  have hb := C.2.1
  unfold fX9_allSneezes at hf
  refine lv_iconst (v := 0) hx hb dX9_allSneezes_0 rfl ?_
  refine lv_istore_n (lv' := [(1, .int (0 : Int32)), (0, .ref (ad 0))]) hx hb dX9_allSneezes_1 rfl hl (by decide) rfl (fun ls hl => ?_)
  refine lv_iconst (v := 0) hx hb dX9_allSneezes_2 rfl ?_
  refine lv_istore_n (lv' := [(2, .int (0 : Int32)), (1, .int (0 : Int32)), (0, .ref (ad 0))]) hx hb dX9_allSneezes_3 rfl hl (by decide) rfl (fun ls hl => ?_)
  obtain ⟨t_1, h_2, hf⟩ := sn_bd hf
  exact wX9_allSneezes_L4 C  h_2 (fun v e => by cases e; exact wX9_allSneezes_32 C  hf kr) _ _ _ hw (lv_sub hl [2, 1, 0] rfl)
theorem ctX9_allSneezes (l : Launch) {σ : sn_S}  {o : Int32} (hf : fX9_allSneezes σ = some o) : sn_M l yX9_allSneezes cX9_allSneezes 3 (some .int) rmX9_allSneezes layM (fun ad => [.ref (ad 0)]) σ (some (fun _ => .int o)) σ :=
  sn_met (by decide) (fun _ => Nat.le_of_ble_eq_true rfl) (fun p e s m args below meth c ls D ct ad A C hw hl => wX9_allSneezes_in C  hf (fun H locs ls pc hw ok hd => sn_iret C hw hd) _ _ _ hw hl)
-- X9_beside
abbrev rmX9_beside : Room := { frames := 2, cells := 0, slots := 0, locals := 47 }
def BX9_beside_57 (σ : sn_S) (x2 : Int32) : Option ((Int32 × sn_S)) :=
  (some (x2, σ))
def BX9_beside_49 (σ : sn_S) (x1 : Int32) (x2 : Int32) (x3 : Int32) (t0 : Int32) (t1 : Int32) : Option ((Int32 × Int32) ⊕ (Int32)) :=
  (sn_lt (t0 ||| t1) fun y_1 => (sn_lt (x3 + 1) fun y_3 => (some (.inl (y_1, y_3)))))
def BX9_beside_20 (σ : sn_S) (x1 : Int32) (x2 : Int32) (x3 : Int32) : Option ((Int32 × Int32) ⊕ (Int32)) :=
  (sn_gd (sn_in (5 : Int32) 119) (if (sn_I σ 1 (5 : Int32).toNatClampNeg) ≤ x3 then
  (some (.inr (x2)))
  else
  ((fX9_netsTo σ x1 ((1 : Int32) <<< (x3 &&& 31))).bind fun t_3 => (if t_3 ≤ 0 then
  (BX9_beside_49 σ x1 x2 x3 x2 (0 : Int32))
  else
  (BX9_beside_49 σ x1 x2 x3 x2 ((1 : Int32) <<< (x3 &&& 31)))))))
def LX9_beside_20 (σ : sn_S) (x1 : Int32) (s : Int32 × Int32) : Option ((Int32 × Int32) ⊕ (Int32)) := BX9_beside_20 σ x1 s.1 s.2
def fX9_beside (σ : sn_S) (x1 : Int32) : Option (Int32 × sn_S) :=
  ((fX9_asItIs σ).bind fun t_1 => ((fX9_isPerson t_1 x1.toInt64).bind fun t_3 => (if t_3 = 0 then
  (some ((-2 : Int32), t_1))
  else
  ((sn_it (LX9_beside_20 t_1 x1) 5000 ((0 : Int32), (0 : Int32))).bind fun t_6 => (BX9_beside_57 t_1 t_6)))))
theorem wX9_beside_57 (C : sn_C p s m args meth c RX9 cX9_beside 4 (some .int) D ct ad layM A) {σ : sn_S} {x2 : Int32}  {o : (Int32 × sn_S)} (hf : BX9_beside_57 σ x2 = some o) (kr : sn_Kr p l e rmX9_beside s m args below meth c Q D ct ad layM A cX9_beside .ireturn (true) o.2 [.int o.1]) : sn_At p l e rmX9_beside s m args below meth c Q D ct ad layM A 4 σ 57 [(2, .int x2)] [] := by
  intro H locs ls hw hl
  have hx := C.1
  have hb := C.2.1
  unfold BX9_beside_57 at hf
  refine lv_iload_n hx hb dX9_beside_57 rfl (lv_at hl 0 rfl) ?_
  cases hf
  exact kr _ _ _ _ hw rfl dX9_beside_58
theorem wX9_beside_49 (C : sn_C p s m args meth c RX9 cX9_beside 4 (some .int) D ct ad layM A) {σ : sn_S} {x1 : Int32} {x2 : Int32} {x3 : Int32} {t0 : Int32} {t1 : Int32}  {o : (Int32 × Int32) ⊕ (Int32)} (hf : BX9_beside_49 σ x1 x2 x3 t0 t1 = some o) (kc : ∀ v, o = .inl v → sn_At p l e rmX9_beside s m args below meth c Q D ct ad layM A 4 σ 20 [(0, .ref (ad 0)), (1, .int x1), (2, .int v.1), (3, .int v.2)] []) (kx : ∀ v, o = .inr v → sn_At p l e rmX9_beside s m args below meth c Q D ct ad layM A 4 σ 57 [(2, .int v)] []) : sn_At p l e rmX9_beside s m args below meth c Q D ct ad layM A 4 σ 49 [(0, .ref (ad 0)), (1, .int x1), (2, .int x2), (3, .int x3)] [.int t1, .int t0] := by
  intro H locs ls hw hl
  have hx := C.1
  have hb := C.2.1
  unfold BX9_beside_49 at hf
  refine lv_ior hx hb dX9_beside_49 ?_
  obtain ⟨y_1, e_2, hf⟩ := sn_ltE hf
  refine lv_topi (fun y_1_ e_2_ => ?_)
  obtain rfl : y_1 = y_1_ := e_2.trans e_2_.symm
  refine lv_istore_n (lv' := [(2, .int y_1), (0, .ref (ad 0)), (1, .int x1), (3, .int x3)]) hx hb dX9_beside_50 rfl hl (by decide) rfl (fun ls hl => ?_)
  obtain ⟨y_3, e_4, hf⟩ := sn_ltE hf
  refine lv_iinc (v := y_3) (lv' := [(3, .int y_3), (2, .int y_1), (0, .ref (ad 0)), (1, .int x1)]) hx hb dX9_beside_51 hl (k := 3) rfl (by rw [e_4]; rfl) (by decide) rfl (fun ls hl => ?_)
  refine lv_goto (tgt := 20) hx hb dX9_beside_54 (by decide) ?_
  cases hf
  exact kc _ rfl _ _ _ hw (lv_sub hl [2, 3, 1, 0] rfl)
theorem wX9_beside_20 (C : sn_C p s m args meth c RX9 cX9_beside 4 (some .int) D ct ad layM A) {σ : sn_S} {x1 : Int32} {x2 : Int32} {x3 : Int32}  {o : (Int32 × Int32) ⊕ (Int32)} (hf : BX9_beside_20 σ x1 x2 x3 = some o) (kc : ∀ v, o = .inl v → sn_At p l e rmX9_beside s m args below meth c Q D ct ad layM A 4 σ 20 [(0, .ref (ad 0)), (1, .int x1), (2, .int v.1), (3, .int v.2)] []) (kx : ∀ v, o = .inr v → sn_At p l e rmX9_beside s m args below meth c Q D ct ad layM A 4 σ 57 [(2, .int v)] []) : sn_At p l e rmX9_beside s m args below meth c Q D ct ad layM A 4 σ 20 [(0, .ref (ad 0)), (1, .int x1), (2, .int x2), (3, .int x3)] [] := by
  intro H locs ls hw hl
  have hx := C.1
  have hb := C.2.1
  unfold BX9_beside_20 at hf
  refine lv_iload_n hx hb dX9_beside_20 rfl (lv_at hl 3 rfl) ?_
  refine lv_aload_n hx hb dX9_beside_21 rfl (lv_at hl 0 rfl) ?_
  refine sn_getC (r := 1) C hw fd_RX9_9 layM_0 rfl dX9_beside_22 ?_
  refine lv_iconst (v := 5) hx hb dX9_beside_25 rfl ?_
  obtain ⟨g_1, hf⟩ := sn_gdE hf
  refine sn_iald C hw layM_1 g_1 dX9_beside_26 ?_
  refine lv_icmp_ge (tgt := 57) hx hb dX9_beside_27 (by decide) (fun c_2 => ?_) (fun c_2 => ?_)
  · have hf := sn_if c_2 hf
    cases hf
    exact kx _ rfl _ _ _ hw (lv_sub hl [2] rfl)
  · have hf := sn_el c_2 hf
    refine lv_iload_n hx hb dX9_beside_30 rfl (lv_at hl 2 rfl) ?_
    refine lv_aload_n hx hb dX9_beside_31 rfl (lv_at hl 0 rfl) ?_
    refine lv_iload_n hx hb dX9_beside_32 rfl (lv_at hl 1 rfl) ?_
    refine lv_iconst (v := 1) hx hb dX9_beside_33 rfl ?_
    refine lv_iload_n hx hb dX9_beside_34 rfl (lv_at hl 3 rfl) ?_
    refine lv_ishl hx hb dX9_beside_35 ?_
    obtain ⟨t_3, h_4, hf⟩ := sn_bd hf
    refine sn_callVi (rest := [.int x2]) C hw (ctX9_netsTo l  h_4) kl_RX9_257 layM_0 rfl rfl rfl rfl (Nat.le_of_ble_eq_true rfl) dX9_beside_36 hl.1 (fun H locs hw => ?_)
    refine lv_if_le (tgt := 48) hx hb dX9_beside_39 (by decide) (fun c_5 => ?_) (fun c_5 => ?_)
    · have hf := sn_if c_5 hf
      refine lv_iconst (v := 0) hx hb dX9_beside_48 rfl ?_
      exact wX9_beside_49 C  hf kc kx _ _ _ hw (lv_sub hl [0, 1, 2, 3] rfl)
    · have hf := sn_el c_5 hf
      refine lv_iconst (v := 1) hx hb dX9_beside_42 rfl ?_
      refine lv_iload_n hx hb dX9_beside_43 rfl (lv_at hl 3 rfl) ?_
      refine lv_ishl hx hb dX9_beside_44 ?_
      refine lv_goto (tgt := 49) hx hb dX9_beside_45 (by decide) ?_
      exact wX9_beside_49 C  hf kc kx _ _ _ hw (lv_sub hl [0, 1, 2, 3] rfl)
theorem wX9_beside_L20 (C : sn_C p s m args meth c RX9 cX9_beside 4 (some .int) D ct ad layM A) {σ : sn_S} {x1 : Int32}   {z : Int32 × Int32} {t : Int32} (h : sn_it (LX9_beside_20 σ x1) 5000 z = some t) (kx : ∀ v, t = v → sn_At p l e rmX9_beside s m args below meth c Q D ct ad layM A 4 σ 57 [(2, .int v)] []) : sn_At p l e rmX9_beside s m args below meth c Q D ct ad layM A 4 σ 20 [(0, .ref (ad 0)), (1, .int x1), (2, .int z.1), (3, .int z.2)] [] :=
  sn_loop (f := LX9_beside_20 σ x1) (G := fun z => sn_At p l e rmX9_beside s m args below meth c Q D ct ad layM A 4 σ 20 [(0, .ref (ad 0)), (1, .int x1), (2, .int z.1), (3, .int z.2)] []) (E := fun t => (∀ v, t = v → sn_At p l e rmX9_beside s m args below meth c Q D ct ad layM A 4 σ 57 [(2, .int v)] []) ∧ True) (fun z o hf k1 k2 => wX9_beside_20 C  hf (fun v e => k1 v e) (fun v e => (k2 _ e).1 v rfl)) 5000 z t h ⟨kx, trivial⟩
theorem wX9_beside_in (C : sn_C p s m args meth c RX9 cX9_beside 4 (some .int) D ct ad layM A) {σ : sn_S} {x1 : Int32}  {o : (Int32 × sn_S)} (hf : fX9_beside σ x1 = some o) (kr : sn_Kr p l e rmX9_beside s m args below meth c Q D ct ad layM A cX9_beside .ireturn (true) o.2 [.int o.1]) : sn_At p l e rmX9_beside s m args below meth c Q D ct ad layM A 4 σ 0 [(0, .ref (ad 0)), (1, .int x1)] [] := by
  intro H locs ls hw hl
  have hx := C.1
  have hb := C.2.1
  unfold fX9_beside at hf
  refine lv_aload_n hx hb dX9_beside_0 rfl (lv_at hl 0 rfl) ?_
  obtain ⟨t_1, h_2, hf⟩ := sn_bd hf
  refine sn_callVv (rest := []) C hw (ctX9_asItIs l  h_2) kl_RX9_263 layM_0 rfl rfl rfl rfl (Nat.le_of_ble_eq_true rfl) dX9_beside_1 hl.1 (fun H locs hw => ?_)
  refine lv_aload_n hx hb dX9_beside_4 rfl (lv_at hl 0 rfl) ?_
  refine lv_iload_n hx hb dX9_beside_5 rfl (lv_at hl 1 rfl) ?_
  refine lv_i2l hx hb dX9_beside_6 rfl ?_
  obtain ⟨t_3, h_4, hf⟩ := sn_bd hf
  refine sn_callVi (rest := []) C hw (ctX9_isPerson l  h_4) kl_RX9_224 layM_0 rfl rfl rfl rfl (Nat.le_of_ble_eq_true rfl) dX9_beside_7 hl.1 (fun H locs hw => ?_)
  refine lv_if_ne (tgt := 16) hx hb dX9_beside_10 (by decide) (fun c_5 => ?_) (fun c_5 => ?_)
  · have hf := sn_el c_5 hf
    refine lv_iconst (v := 0) hx hb dX9_beside_16 rfl ?_
    refine lv_istore_n (lv' := [(2, .int (0 : Int32)), (0, .ref (ad 0)), (1, .int x1)]) hx hb dX9_beside_17 rfl hl (by decide) rfl (fun ls hl => ?_)
    refine lv_iconst (v := 0) hx hb dX9_beside_18 rfl ?_
    refine lv_istore_n (lv' := [(3, .int (0 : Int32)), (2, .int (0 : Int32)), (0, .ref (ad 0)), (1, .int x1)]) hx hb dX9_beside_19 rfl hl (by decide) rfl (fun ls hl => ?_)
    obtain ⟨t_6, h_7, hf⟩ := sn_bd hf
    exact wX9_beside_L20 C  h_7 (fun v e => by cases e; exact wX9_beside_57 C  hf kr) _ _ _ hw (lv_sub hl [2, 3, 1, 0] rfl)
  · have hf := sn_if c_5 hf
    refine lv_bipush (v := (-2)) hx hb dX9_beside_13 (by decide) ?_
    cases hf
    exact kr _ _ _ _ hw rfl dX9_beside_15
theorem ctX9_beside (l : Launch) {σ : sn_S} {x1 : Int32}  {o : (Int32 × sn_S)} (hf : fX9_beside σ x1 = some o) : sn_M l yX9_beside cX9_beside 4 (some .int) rmX9_beside layM (fun ad => [.ref (ad 0), .int x1]) σ (some (fun _ => .int o.1)) o.2 :=
  sn_met (by decide) (fun _ => Nat.le_of_ble_eq_true rfl) (fun p e s m args below meth c ls D ct ad A C hw hl => wX9_beside_in C  hf (fun H locs ls pc hw ok hd => sn_iret C hw hd) _ _ _ hw hl)
-- X9_dust
abbrev rmX9_dust : Room := { frames := 6, cells := 0, slots := 0, locals := 136 }
def fX9_dust (σ : sn_S) (x1 : Int32) : Option (Int32 × sn_S) :=
  ((fX9_asksMinute σ x1).bind fun t_1 => (if t_1.1 = 0 then
  (some ((-2 : Int32), t_1.2))
  else
  (sn_gd (sn_in x1 30) (some ((sn_I t_1.2 7 x1.toNatClampNeg), t_1.2)))))
theorem wX9_dust_in (C : sn_C p s m args meth c RX9 cX9_dust 2 (some .int) D ct ad layM A) {σ : sn_S} {x1 : Int32}  {o : (Int32 × sn_S)} (hf : fX9_dust σ x1 = some o) (kr : sn_Kr p l e rmX9_dust s m args below meth c Q D ct ad layM A cX9_dust .ireturn (true) o.2 [.int o.1]) : sn_At p l e rmX9_dust s m args below meth c Q D ct ad layM A 2 σ 0 [(0, .ref (ad 0)), (1, .int x1)] [] := by
  intro H locs ls hw hl
  have hx := C.1
  have hb := C.2.1
  unfold fX9_dust at hf
  refine lv_aload_n hx hb dX9_dust_0 rfl (lv_at hl 0 rfl) ?_
  refine lv_iload_n hx hb dX9_dust_1 rfl (lv_at hl 1 rfl) ?_
  obtain ⟨t_1, h_2, hf⟩ := sn_bd hf
  refine sn_callVi (rest := []) C hw (ctX9_asksMinute l  h_2) kl_RX9_281 layM_0 rfl rfl rfl rfl (Nat.le_of_ble_eq_true rfl) dX9_dust_2 hl.1 (fun H locs hw => ?_)
  refine lv_if_eq (tgt := 17) hx hb dX9_dust_5 (by decide) (fun c_3 => ?_) (fun c_3 => ?_)
  · have hf := sn_if c_3 hf
    refine lv_bipush (v := (-2)) hx hb dX9_dust_17 (by decide) ?_
    cases hf
    exact kr _ _ _ _ hw rfl dX9_dust_19
  · have hf := sn_el c_3 hf
    refine lv_aload_n hx hb dX9_dust_8 rfl (lv_at hl 0 rfl) ?_
    refine sn_getC (r := 7) C hw fd_RX9_34 layM_0 rfl dX9_dust_9 ?_
    refine lv_iload_n hx hb dX9_dust_12 rfl (lv_at hl 1 rfl) ?_
    obtain ⟨g_4, hf⟩ := sn_gdE hf
    refine sn_iald C hw layM_7 g_4 dX9_dust_13 ?_
    refine lv_goto (tgt := 19) hx hb dX9_dust_14 (by decide) ?_
    cases hf
    exact kr _ _ _ _ hw rfl dX9_dust_19
theorem ctX9_dust (l : Launch) {σ : sn_S} {x1 : Int32}  {o : (Int32 × sn_S)} (hf : fX9_dust σ x1 = some o) : sn_M l yX9_dust cX9_dust 2 (some .int) rmX9_dust layM (fun ad => [.ref (ad 0), .int x1]) σ (some (fun _ => .int o.1)) o.2 :=
  sn_met (by decide) (fun _ => Nat.le_of_ble_eq_true rfl) (fun p e s m args below meth c ls D ct ad A C hw hl => wX9_dust_in C  hf (fun H locs ls pc hw ok hd => sn_iret C hw hd) _ _ _ hw hl)
-- X9_sneezes
abbrev rmX9_sneezes : Room := { frames := 6, cells := 0, slots := 0, locals := 136 }
def fX9_sneezes (σ : sn_S) (x1 : Int32) : Option (Int32 × sn_S) :=
  ((fX9_asksPerson σ x1).bind fun t_1 => (if t_1.1 = 0 then
  (some ((-2 : Int32), t_1.2))
  else
  (sn_gd (sn_in x1 6) (some ((sn_I t_1.2 10 x1.toNatClampNeg), t_1.2)))))
theorem wX9_sneezes_in (C : sn_C p s m args meth c RX9 cX9_sneezes 2 (some .int) D ct ad layM A) {σ : sn_S} {x1 : Int32}  {o : (Int32 × sn_S)} (hf : fX9_sneezes σ x1 = some o) (kr : sn_Kr p l e rmX9_sneezes s m args below meth c Q D ct ad layM A cX9_sneezes .ireturn (true) o.2 [.int o.1]) : sn_At p l e rmX9_sneezes s m args below meth c Q D ct ad layM A 2 σ 0 [(0, .ref (ad 0)), (1, .int x1)] [] := by
  intro H locs ls hw hl
  have hx := C.1
  have hb := C.2.1
  unfold fX9_sneezes at hf
  refine lv_aload_n hx hb dX9_sneezes_0 rfl (lv_at hl 0 rfl) ?_
  refine lv_iload_n hx hb dX9_sneezes_1 rfl (lv_at hl 1 rfl) ?_
  obtain ⟨t_1, h_2, hf⟩ := sn_bd hf
  refine sn_callVi (rest := []) C hw (ctX9_asksPerson l  h_2) kl_RX9_284 layM_0 rfl rfl rfl rfl (Nat.le_of_ble_eq_true rfl) dX9_sneezes_2 hl.1 (fun H locs hw => ?_)
  refine lv_if_eq (tgt := 17) hx hb dX9_sneezes_5 (by decide) (fun c_3 => ?_) (fun c_3 => ?_)
  · have hf := sn_if c_3 hf
    refine lv_bipush (v := (-2)) hx hb dX9_sneezes_17 (by decide) ?_
    cases hf
    exact kr _ _ _ _ hw rfl dX9_sneezes_19
  · have hf := sn_el c_3 hf
    refine lv_aload_n hx hb dX9_sneezes_8 rfl (lv_at hl 0 rfl) ?_
    refine sn_getC (r := 10) C hw fd_RX9_43 layM_0 rfl dX9_sneezes_9 ?_
    refine lv_iload_n hx hb dX9_sneezes_12 rfl (lv_at hl 1 rfl) ?_
    obtain ⟨g_4, hf⟩ := sn_gdE hf
    refine sn_iald C hw layM_10 g_4 dX9_sneezes_13 ?_
    refine lv_goto (tgt := 19) hx hb dX9_sneezes_14 (by decide) ?_
    cases hf
    exact kr _ _ _ _ hw rfl dX9_sneezes_19
theorem ctX9_sneezes (l : Launch) {σ : sn_S} {x1 : Int32}  {o : (Int32 × sn_S)} (hf : fX9_sneezes σ x1 = some o) : sn_M l yX9_sneezes cX9_sneezes 2 (some .int) rmX9_sneezes layM (fun ad => [.ref (ad 0), .int x1]) σ (some (fun _ => .int o.1)) o.2 :=
  sn_met (by decide) (fun _ => Nat.le_of_ble_eq_true rfl) (fun p e s m args below meth c ls D ct ad A C hw hl => wX9_sneezes_in C  hf (fun H locs ls pc hw ok hd => sn_iret C hw hd) _ _ _ hw hl)
-- X9_first
abbrev rmX9_first : Room := { frames := 6, cells := 0, slots := 0, locals := 136 }
def fX9_first (σ : sn_S) (x1 : Int32) : Option (Int32 × sn_S) :=
  ((fX9_asksPerson σ x1).bind fun t_1 => (if t_1.1 = 0 then
  (some ((-2 : Int32), t_1.2))
  else
  (sn_gd (sn_in x1 6) ((fX9_firstOf (sn_I t_1.2 10 x1.toNatClampNeg)).bind fun t_5 => (some (t_5, t_1.2))))))
theorem wX9_first_in (C : sn_C p s m args meth c RX9 cX9_first 2 (some .int) D ct ad layM A) {σ : sn_S} {x1 : Int32}  {o : (Int32 × sn_S)} (hf : fX9_first σ x1 = some o) (kr : sn_Kr p l e rmX9_first s m args below meth c Q D ct ad layM A cX9_first .ireturn (true) o.2 [.int o.1]) : sn_At p l e rmX9_first s m args below meth c Q D ct ad layM A 2 σ 0 [(0, .ref (ad 0)), (1, .int x1)] [] := by
  intro H locs ls hw hl
  have hx := C.1
  have hb := C.2.1
  unfold fX9_first at hf
  refine lv_aload_n hx hb dX9_first_0 rfl (lv_at hl 0 rfl) ?_
  refine lv_iload_n hx hb dX9_first_1 rfl (lv_at hl 1 rfl) ?_
  obtain ⟨t_1, h_2, hf⟩ := sn_bd hf
  refine sn_callVi (rest := []) C hw (ctX9_asksPerson l  h_2) kl_RX9_284 layM_0 rfl rfl rfl rfl (Nat.le_of_ble_eq_true rfl) dX9_first_2 hl.1 (fun H locs hw => ?_)
  refine lv_if_eq (tgt := 20) hx hb dX9_first_5 (by decide) (fun c_3 => ?_) (fun c_3 => ?_)
  · have hf := sn_if c_3 hf
    refine lv_bipush (v := (-2)) hx hb dX9_first_20 (by decide) ?_
    cases hf
    exact kr _ _ _ _ hw rfl dX9_first_22
  · have hf := sn_el c_3 hf
    refine lv_aload_n hx hb dX9_first_8 rfl (lv_at hl 0 rfl) ?_
    refine sn_getC (r := 10) C hw fd_RX9_43 layM_0 rfl dX9_first_9 ?_
    refine lv_iload_n hx hb dX9_first_12 rfl (lv_at hl 1 rfl) ?_
    obtain ⟨g_4, hf⟩ := sn_gdE hf
    refine sn_iald C hw layM_10 g_4 dX9_first_13 ?_
    obtain ⟨t_5, h_6, hf⟩ := sn_bd hf
    refine sn_callSi (rest := []) C hw (ctX9_firstOf l  h_6) kl_RX9_287 rfl rfl rfl (Nat.le_of_ble_eq_true rfl) dX9_first_14 hl.1 (fun H locs hw => ?_)
    refine lv_goto (tgt := 22) hx hb dX9_first_17 (by decide) ?_
    cases hf
    exact kr _ _ _ _ hw rfl dX9_first_22
theorem ctX9_first (l : Launch) {σ : sn_S} {x1 : Int32}  {o : (Int32 × sn_S)} (hf : fX9_first σ x1 = some o) : sn_M l yX9_first cX9_first 2 (some .int) rmX9_first layM (fun ad => [.ref (ad 0), .int x1]) σ (some (fun _ => .int o.1)) o.2 :=
  sn_met (by decide) (fun _ => Nat.le_of_ble_eq_true rfl) (fun p e s m args below meth c ls D ct ad A C hw hl => wX9_first_in C  hf (fun H locs ls pc hw ok hd => sn_iret C hw hd) _ _ _ hw hl)
-- X9_all
abbrev rmX9_all : Room := { frames := 5, cells := 0, slots := 0, locals := 115 }
def fX9_all (σ : sn_S) : Option (Int32 × sn_S) :=
  ((fX9_asksHouse σ).bind fun t_1 => (if t_1.1 = 0 then
  (some ((-2 : Int32), t_1.2))
  else
  ((fX9_allSneezes t_1.2).bind fun t_4 => (some (t_4, t_1.2)))))
theorem wX9_all_in (C : sn_C p s m args meth c RX9 cX9_all 1 (some .int) D ct ad layM A) {σ : sn_S}  {o : (Int32 × sn_S)} (hf : fX9_all σ = some o) (kr : sn_Kr p l e rmX9_all s m args below meth c Q D ct ad layM A cX9_all .ireturn (true) o.2 [.int o.1]) : sn_At p l e rmX9_all s m args below meth c Q D ct ad layM A 1 σ 0 [(0, .ref (ad 0))] [] := by
  intro H locs ls hw hl
  have hx := C.1
  have hb := C.2.1
  unfold fX9_all at hf
  refine lv_aload_n hx hb dX9_all_0 rfl (lv_at hl 0 rfl) ?_
  obtain ⟨t_1, h_2, hf⟩ := sn_bd hf
  refine sn_callVi (rest := []) C hw (ctX9_asksHouse l  h_2) kl_RX9_272 layM_0 rfl rfl rfl rfl (Nat.le_of_ble_eq_true rfl) dX9_all_1 hl.1 (fun H locs hw => ?_)
  refine lv_if_eq (tgt := 14) hx hb dX9_all_4 (by decide) (fun c_3 => ?_) (fun c_3 => ?_)
  · have hf := sn_if c_3 hf
    refine lv_bipush (v := (-2)) hx hb dX9_all_14 (by decide) ?_
    cases hf
    exact kr _ _ _ _ hw rfl dX9_all_16
  · have hf := sn_el c_3 hf
    refine lv_aload_n hx hb dX9_all_7 rfl (lv_at hl 0 rfl) ?_
    obtain ⟨t_4, h_5, hf⟩ := sn_bd hf
    refine sn_callVi (rest := []) C hw (ctX9_allSneezes l  h_5) kl_RX9_290 layM_0 rfl rfl rfl rfl (Nat.le_of_ble_eq_true rfl) dX9_all_8 hl.1 (fun H locs hw => ?_)
    refine lv_goto (tgt := 16) hx hb dX9_all_11 (by decide) ?_
    cases hf
    exact kr _ _ _ _ hw rfl dX9_all_16
theorem ctX9_all (l : Launch) {σ : sn_S}  {o : (Int32 × sn_S)} (hf : fX9_all σ = some o) : sn_M l yX9_all cX9_all 1 (some .int) rmX9_all layM (fun ad => [.ref (ad 0)]) σ (some (fun _ => .int o.1)) o.2 :=
  sn_met (by decide) (fun _ => Nat.le_of_ble_eq_true rfl) (fun p e s m args below meth c ls D ct ad A C hw hl => wX9_all_in C  hf (fun H locs ls pc hw ok hd => sn_iret C hw hd) _ _ _ hw hl)
-- X9_who
abbrev rmX9_who : Room := { frames := 6, cells := 0, slots := 0, locals := 136 }
def fX9_who (σ : sn_S) (x1 : Int32) : Option (Int32 × sn_S) :=
  ((fX9_asksMinute σ x1).bind fun t_1 => (if t_1.1 = 0 then
  (some ((-2 : Int32), t_1.2))
  else
  (sn_gd (sn_in x1 30) (some ((sn_I t_1.2 11 x1.toNatClampNeg), t_1.2)))))
theorem wX9_who_in (C : sn_C p s m args meth c RX9 cX9_who 2 (some .int) D ct ad layM A) {σ : sn_S} {x1 : Int32}  {o : (Int32 × sn_S)} (hf : fX9_who σ x1 = some o) (kr : sn_Kr p l e rmX9_who s m args below meth c Q D ct ad layM A cX9_who .ireturn (true) o.2 [.int o.1]) : sn_At p l e rmX9_who s m args below meth c Q D ct ad layM A 2 σ 0 [(0, .ref (ad 0)), (1, .int x1)] [] := by
  intro H locs ls hw hl
  have hx := C.1
  have hb := C.2.1
  unfold fX9_who at hf
  refine lv_aload_n hx hb dX9_who_0 rfl (lv_at hl 0 rfl) ?_
  refine lv_iload_n hx hb dX9_who_1 rfl (lv_at hl 1 rfl) ?_
  obtain ⟨t_1, h_2, hf⟩ := sn_bd hf
  refine sn_callVi (rest := []) C hw (ctX9_asksMinute l  h_2) kl_RX9_281 layM_0 rfl rfl rfl rfl (Nat.le_of_ble_eq_true rfl) dX9_who_2 hl.1 (fun H locs hw => ?_)
  refine lv_if_eq (tgt := 17) hx hb dX9_who_5 (by decide) (fun c_3 => ?_) (fun c_3 => ?_)
  · have hf := sn_if c_3 hf
    refine lv_bipush (v := (-2)) hx hb dX9_who_17 (by decide) ?_
    cases hf
    exact kr _ _ _ _ hw rfl dX9_who_19
  · have hf := sn_el c_3 hf
    refine lv_aload_n hx hb dX9_who_8 rfl (lv_at hl 0 rfl) ?_
    refine sn_getC (r := 11) C hw fd_RX9_46 layM_0 rfl dX9_who_9 ?_
    refine lv_iload_n hx hb dX9_who_12 rfl (lv_at hl 1 rfl) ?_
    obtain ⟨g_4, hf⟩ := sn_gdE hf
    refine sn_iald C hw layM_11 g_4 dX9_who_13 ?_
    refine lv_goto (tgt := 19) hx hb dX9_who_14 (by decide) ?_
    cases hf
    exact kr _ _ _ _ hw rfl dX9_who_19
theorem ctX9_who (l : Launch) {σ : sn_S} {x1 : Int32}  {o : (Int32 × sn_S)} (hf : fX9_who σ x1 = some o) : sn_M l yX9_who cX9_who 2 (some .int) rmX9_who layM (fun ad => [.ref (ad 0), .int x1]) σ (some (fun _ => .int o.1)) o.2 :=
  sn_met (by decide) (fun _ => Nat.le_of_ble_eq_true rfl) (fun p e s m args below meth c ls D ct ad A C hw hl => wX9_who_in C  hf (fun H locs ls pc hw ok hd => sn_iret C hw hd) _ _ _ hw hl)
-- X9_tickle
abbrev rmX9_tickle : Room := { frames := 6, cells := 0, slots := 0, locals := 136 }
def fX9_tickle (σ : sn_S) (x1 : Int32) (x2 : Int32) : Option (Int32 × sn_S) :=
  ((fX9_asksMinute σ x2).bind fun t_1 => (if t_1.1 = 0 then
  (some ((-2 : Int32), t_1.2))
  else
  ((fX9_isPerson t_1.2 x1.toInt64).bind fun t_4 => (if t_4 = 0 then
  (some ((-2 : Int32), t_1.2))
  else
  (sn_gd (sn_in (((6 : Int32) * x2) + x1) 180) (some ((sn_I t_1.2 12 (((6 : Int32) * x2) + x1).toNatClampNeg), t_1.2)))))))
theorem wX9_tickle_in (C : sn_C p s m args meth c RX9 cX9_tickle 3 (some .int) D ct ad layM A) {σ : sn_S} {x1 : Int32} {x2 : Int32}  {o : (Int32 × sn_S)} (hf : fX9_tickle σ x1 x2 = some o) (kr : sn_Kr p l e rmX9_tickle s m args below meth c Q D ct ad layM A cX9_tickle .ireturn (true) o.2 [.int o.1]) : sn_At p l e rmX9_tickle s m args below meth c Q D ct ad layM A 3 σ 0 [(0, .ref (ad 0)), (1, .int x1), (2, .int x2)] [] := by
  intro H locs ls hw hl
  have hx := C.1
  have hb := C.2.1
  unfold fX9_tickle at hf
  refine lv_aload_n hx hb dX9_tickle_0 rfl (lv_at hl 0 rfl) ?_
  refine lv_iload_n hx hb dX9_tickle_1 rfl (lv_at hl 2 rfl) ?_
  obtain ⟨t_1, h_2, hf⟩ := sn_bd hf
  refine sn_callVi (rest := []) C hw (ctX9_asksMinute l  h_2) kl_RX9_281 layM_0 rfl rfl rfl rfl (Nat.le_of_ble_eq_true rfl) dX9_tickle_2 hl.1 (fun H locs hw => ?_)
  refine lv_if_eq (tgt := 31) hx hb dX9_tickle_5 (by decide) (fun c_3 => ?_) (fun c_3 => ?_)
  · have hf := sn_if c_3 hf
    refine lv_bipush (v := (-2)) hx hb dX9_tickle_31 (by decide) ?_
    cases hf
    exact kr _ _ _ _ hw rfl dX9_tickle_33
  · have hf := sn_el c_3 hf
    refine lv_aload_n hx hb dX9_tickle_8 rfl (lv_at hl 0 rfl) ?_
    refine lv_iload_n hx hb dX9_tickle_9 rfl (lv_at hl 1 rfl) ?_
    refine lv_i2l hx hb dX9_tickle_10 rfl ?_
    obtain ⟨t_4, h_5, hf⟩ := sn_bd hf
    refine sn_callVi (rest := []) C hw (ctX9_isPerson l  h_5) kl_RX9_224 layM_0 rfl rfl rfl rfl (Nat.le_of_ble_eq_true rfl) dX9_tickle_11 hl.1 (fun H locs hw => ?_)
    refine lv_if_eq (tgt := 31) hx hb dX9_tickle_14 (by decide) (fun c_6 => ?_) (fun c_6 => ?_)
    · have hf := sn_if c_6 hf
      refine lv_bipush (v := (-2)) hx hb dX9_tickle_31 (by decide) ?_
      cases hf
      exact kr _ _ _ _ hw rfl dX9_tickle_33
    · have hf := sn_el c_6 hf
      refine lv_aload_n hx hb dX9_tickle_17 rfl (lv_at hl 0 rfl) ?_
      refine sn_getC (r := 12) C hw fd_RX9_49 layM_0 rfl dX9_tickle_18 ?_
      refine lv_bipush (v := 6) hx hb dX9_tickle_21 (by decide) ?_
      refine lv_iload_n hx hb dX9_tickle_23 rfl (lv_at hl 2 rfl) ?_
      refine lv_imul hx hb dX9_tickle_24 ?_
      refine lv_iload_n hx hb dX9_tickle_25 rfl (lv_at hl 1 rfl) ?_
      refine lv_iadd hx hb dX9_tickle_26 ?_
      obtain ⟨g_7, hf⟩ := sn_gdE hf
      refine sn_iald C hw layM_12 g_7 dX9_tickle_27 ?_
      refine lv_goto (tgt := 33) hx hb dX9_tickle_28 (by decide) ?_
      cases hf
      exact kr _ _ _ _ hw rfl dX9_tickle_33
theorem ctX9_tickle (l : Launch) {σ : sn_S} {x1 : Int32} {x2 : Int32}  {o : (Int32 × sn_S)} (hf : fX9_tickle σ x1 x2 = some o) : sn_M l yX9_tickle cX9_tickle 3 (some .int) rmX9_tickle layM (fun ad => [.ref (ad 0), .int x1, .int x2]) σ (some (fun _ => .int o.1)) o.2 :=
  sn_met (by decide) (fun _ => Nat.le_of_ble_eq_true rfl) (fun p e s m args below meth c ls D ct ad A C hw hl => wX9_tickle_in C  hf (fun H locs ls pc hw ok hd => sn_iret C hw hd) _ _ _ hw hl)
-- X9_itch
abbrev rmX9_itch : Room := { frames := 6, cells := 0, slots := 0, locals := 136 }
def BX9_itch_45 (σ : sn_S) (x2 : Int32) : Option ((Int32 × sn_S)) :=
  (some (x2, σ))
def BX9_itch_15 (σ : sn_S) (x1 : Int32) (x2 : Int32) (x3 : Int32) : Option ((Int32 × Int32) ⊕ (Int32)) :=
  ((fX9_minutes σ).bind fun t_1 => (if t_1 ≤ x3 then
  (some (.inr (x2)))
  else
  (sn_gd (sn_in (((6 : Int32) * x3) + x1) 180) (sn_lt (if x2 < (sn_I σ 12 (((6 : Int32) * x3) + x1).toNatClampNeg) then (sn_I σ 12 (((6 : Int32) * x3) + x1).toNatClampNeg) else x2) fun y_5 => (sn_lt (x3 + 1) fun y_7 => (some (.inl (y_5, y_7))))))))
def LX9_itch_15 (σ : sn_S) (x1 : Int32) (s : Int32 × Int32) : Option ((Int32 × Int32) ⊕ (Int32)) := BX9_itch_15 σ x1 s.1 s.2
def fX9_itch (σ : sn_S) (x1 : Int32) : Option (Int32 × sn_S) :=
  ((fX9_asksPerson σ x1).bind fun t_1 => (if t_1.1 = 0 then
  (some ((-2 : Int32), t_1.2))
  else
  ((sn_it (LX9_itch_15 t_1.2 x1) 5000 ((0 : Int32), (0 : Int32))).bind fun t_4 => (BX9_itch_45 t_1.2 t_4))))
theorem wX9_itch_45 (C : sn_C p s m args meth c RX9 cX9_itch 4 (some .int) D ct ad layM A) {σ : sn_S} {x2 : Int32}  {o : (Int32 × sn_S)} (hf : BX9_itch_45 σ x2 = some o) (kr : sn_Kr p l e rmX9_itch s m args below meth c Q D ct ad layM A cX9_itch .ireturn (true) o.2 [.int o.1]) : sn_At p l e rmX9_itch s m args below meth c Q D ct ad layM A 4 σ 45 [(2, .int x2)] [] := by
  intro H locs ls hw hl
  have hx := C.1
  have hb := C.2.1
  unfold BX9_itch_45 at hf
  refine lv_iload_n hx hb dX9_itch_45 rfl (lv_at hl 0 rfl) ?_
  cases hf
  exact kr _ _ _ _ hw rfl dX9_itch_46
theorem wX9_itch_15 (C : sn_C p s m args meth c RX9 cX9_itch 4 (some .int) D ct ad layM A) {σ : sn_S} {x1 : Int32} {x2 : Int32} {x3 : Int32}  {o : (Int32 × Int32) ⊕ (Int32)} (hf : BX9_itch_15 σ x1 x2 x3 = some o) (kc : ∀ v, o = .inl v → sn_At p l e rmX9_itch s m args below meth c Q D ct ad layM A 4 σ 15 [(0, .ref (ad 0)), (1, .int x1), (2, .int v.1), (3, .int v.2)] []) (kx : ∀ v, o = .inr v → sn_At p l e rmX9_itch s m args below meth c Q D ct ad layM A 4 σ 45 [(2, .int v)] []) : sn_At p l e rmX9_itch s m args below meth c Q D ct ad layM A 4 σ 15 [(0, .ref (ad 0)), (1, .int x1), (2, .int x2), (3, .int x3)] [] := by
  intro H locs ls hw hl
  have hx := C.1
  have hb := C.2.1
  unfold BX9_itch_15 at hf
  refine lv_iload_n hx hb dX9_itch_15 rfl (lv_at hl 3 rfl) ?_
  refine lv_aload_n hx hb dX9_itch_16 rfl (lv_at hl 0 rfl) ?_
  obtain ⟨t_1, h_2, hf⟩ := sn_bd hf
  refine sn_callVi (rest := [.int x3]) C hw (ctX9_minutes l  h_2) kl_RX9_249 layM_0 rfl rfl rfl rfl (Nat.le_of_ble_eq_true rfl) dX9_itch_17 hl.1 (fun H locs hw => ?_)
  refine lv_icmp_ge (tgt := 45) hx hb dX9_itch_20 (by decide) (fun c_3 => ?_) (fun c_3 => ?_)
  · have hf := sn_if c_3 hf
    cases hf
    exact kx _ rfl _ _ _ hw (lv_sub hl [2] rfl)
  · have hf := sn_el c_3 hf
    refine lv_iload_n hx hb dX9_itch_23 rfl (lv_at hl 2 rfl) ?_
    refine lv_aload_n hx hb dX9_itch_24 rfl (lv_at hl 0 rfl) ?_
    refine sn_getC (r := 12) C hw fd_RX9_49 layM_0 rfl dX9_itch_25 ?_
    refine lv_bipush (v := 6) hx hb dX9_itch_28 (by decide) ?_
    refine lv_iload_n hx hb dX9_itch_30 rfl (lv_at hl 3 rfl) ?_
    refine lv_imul hx hb dX9_itch_31 ?_
    refine lv_iload_n hx hb dX9_itch_32 rfl (lv_at hl 1 rfl) ?_
    refine lv_iadd hx hb dX9_itch_33 ?_
    obtain ⟨g_4, hf⟩ := sn_gdE hf
    refine sn_iald C hw layM_12 g_4 dX9_itch_34 ?_
    refine va_mmax hx hb (C.2.2.1.trans hl.1.symm) C.2.2.2.1 (C.2.2.2.2.1 _ km_RX9_293) (C.2.2.2.2.1 _ kst_maxI) (C.2.2.2.2.1 _ ki_Math) (C.2.2.2.2.1 _ kc_maxI) (Nat.le_of_ble_eq_true rfl) (Nat.le_of_ble_eq_true rfl) (Nat.zero_le _) (Nat.zero_le _) dX9_itch_35 ?_
    obtain ⟨y_5, e_6, hf⟩ := sn_ltE hf
    refine lv_topi (fun y_5_ e_6_ => ?_)
    obtain rfl : y_5 = y_5_ := e_6.trans e_6_.symm
    refine lv_istore_n (lv' := [(2, .int y_5), (0, .ref (ad 0)), (1, .int x1), (3, .int x3)]) hx hb dX9_itch_38 rfl hl (by decide) rfl (fun ls hl => ?_)
    obtain ⟨y_7, e_8, hf⟩ := sn_ltE hf
    refine lv_iinc (v := y_7) (lv' := [(3, .int y_7), (2, .int y_5), (0, .ref (ad 0)), (1, .int x1)]) hx hb dX9_itch_39 hl (k := 3) rfl (by rw [e_8]; rfl) (by decide) rfl (fun ls hl => ?_)
    refine lv_goto (tgt := 15) hx hb dX9_itch_42 (by decide) ?_
    cases hf
    exact kc _ rfl _ _ _ hw (lv_sub hl [2, 3, 1, 0] rfl)
theorem wX9_itch_L15 (C : sn_C p s m args meth c RX9 cX9_itch 4 (some .int) D ct ad layM A) {σ : sn_S} {x1 : Int32}   {z : Int32 × Int32} {t : Int32} (h : sn_it (LX9_itch_15 σ x1) 5000 z = some t) (kx : ∀ v, t = v → sn_At p l e rmX9_itch s m args below meth c Q D ct ad layM A 4 σ 45 [(2, .int v)] []) : sn_At p l e rmX9_itch s m args below meth c Q D ct ad layM A 4 σ 15 [(0, .ref (ad 0)), (1, .int x1), (2, .int z.1), (3, .int z.2)] [] :=
  sn_loop (f := LX9_itch_15 σ x1) (G := fun z => sn_At p l e rmX9_itch s m args below meth c Q D ct ad layM A 4 σ 15 [(0, .ref (ad 0)), (1, .int x1), (2, .int z.1), (3, .int z.2)] []) (E := fun t => (∀ v, t = v → sn_At p l e rmX9_itch s m args below meth c Q D ct ad layM A 4 σ 45 [(2, .int v)] []) ∧ True) (fun z o hf k1 k2 => wX9_itch_15 C  hf (fun v e => k1 v e) (fun v e => (k2 _ e).1 v rfl)) 5000 z t h ⟨kx, trivial⟩
theorem wX9_itch_in (C : sn_C p s m args meth c RX9 cX9_itch 4 (some .int) D ct ad layM A) {σ : sn_S} {x1 : Int32}  {o : (Int32 × sn_S)} (hf : fX9_itch σ x1 = some o) (kr : sn_Kr p l e rmX9_itch s m args below meth c Q D ct ad layM A cX9_itch .ireturn (true) o.2 [.int o.1]) : sn_At p l e rmX9_itch s m args below meth c Q D ct ad layM A 4 σ 0 [(0, .ref (ad 0)), (1, .int x1)] [] := by
  intro H locs ls hw hl
  have hx := C.1
  have hb := C.2.1
  unfold fX9_itch at hf
  refine lv_aload_n hx hb dX9_itch_0 rfl (lv_at hl 0 rfl) ?_
  refine lv_iload_n hx hb dX9_itch_1 rfl (lv_at hl 1 rfl) ?_
  obtain ⟨t_1, h_2, hf⟩ := sn_bd hf
  refine sn_callVi (rest := []) C hw (ctX9_asksPerson l  h_2) kl_RX9_284 layM_0 rfl rfl rfl rfl (Nat.le_of_ble_eq_true rfl) dX9_itch_2 hl.1 (fun H locs hw => ?_)
  refine lv_if_ne (tgt := 11) hx hb dX9_itch_5 (by decide) (fun c_3 => ?_) (fun c_3 => ?_)
  · have hf := sn_el c_3 hf
    refine lv_iconst (v := 0) hx hb dX9_itch_11 rfl ?_
    refine lv_istore_n (lv' := [(2, .int (0 : Int32)), (0, .ref (ad 0)), (1, .int x1)]) hx hb dX9_itch_12 rfl hl (by decide) rfl (fun ls hl => ?_)
    refine lv_iconst (v := 0) hx hb dX9_itch_13 rfl ?_
    refine lv_istore_n (lv' := [(3, .int (0 : Int32)), (2, .int (0 : Int32)), (0, .ref (ad 0)), (1, .int x1)]) hx hb dX9_itch_14 rfl hl (by decide) rfl (fun ls hl => ?_)
    obtain ⟨t_4, h_5, hf⟩ := sn_bd hf
    exact wX9_itch_L15 C  h_5 (fun v e => by cases e; exact wX9_itch_45 C  hf kr) _ _ _ hw (lv_sub hl [2, 3, 1, 0] rfl)
  · have hf := sn_if c_3 hf
    refine lv_bipush (v := (-2)) hx hb dX9_itch_8 (by decide) ?_
    cases hf
    exact kr _ _ _ _ hw rfl dX9_itch_10
theorem ctX9_itch (l : Launch) {σ : sn_S} {x1 : Int32}  {o : (Int32 × sn_S)} (hf : fX9_itch σ x1 = some o) : sn_M l yX9_itch cX9_itch 4 (some .int) rmX9_itch layM (fun ad => [.ref (ad 0), .int x1]) σ (some (fun _ => .int o.1)) o.2 :=
  sn_met (by decide) (fun _ => Nat.le_of_ble_eq_true rfl) (fun p e s m args below meth c ls D ct ad A C hw hl => wX9_itch_in C  hf (fun H locs ls pc hw ok hd => sn_iret C hw hd) _ _ _ hw hl)
-- X9_caught
abbrev rmX9_caught : Room := { frames := 6, cells := 0, slots := 0, locals := 136 }
def fX9_caught (σ : sn_S) (x1 : Int32) : Option (Int32 × sn_S) :=
  ((fX9_asksPerson σ x1).bind fun t_1 => (if t_1.1 = 0 then
  (some ((-2 : Int32), t_1.2))
  else
  (sn_gd (sn_in x1 6) (some ((sn_I t_1.2 14 x1.toNatClampNeg), t_1.2)))))
theorem wX9_caught_in (C : sn_C p s m args meth c RX9 cX9_caught 2 (some .int) D ct ad layM A) {σ : sn_S} {x1 : Int32}  {o : (Int32 × sn_S)} (hf : fX9_caught σ x1 = some o) (kr : sn_Kr p l e rmX9_caught s m args below meth c Q D ct ad layM A cX9_caught .ireturn (true) o.2 [.int o.1]) : sn_At p l e rmX9_caught s m args below meth c Q D ct ad layM A 2 σ 0 [(0, .ref (ad 0)), (1, .int x1)] [] := by
  intro H locs ls hw hl
  have hx := C.1
  have hb := C.2.1
  unfold fX9_caught at hf
  refine lv_aload_n hx hb dX9_caught_0 rfl (lv_at hl 0 rfl) ?_
  refine lv_iload_n hx hb dX9_caught_1 rfl (lv_at hl 1 rfl) ?_
  obtain ⟨t_1, h_2, hf⟩ := sn_bd hf
  refine sn_callVi (rest := []) C hw (ctX9_asksPerson l  h_2) kl_RX9_284 layM_0 rfl rfl rfl rfl (Nat.le_of_ble_eq_true rfl) dX9_caught_2 hl.1 (fun H locs hw => ?_)
  refine lv_if_eq (tgt := 17) hx hb dX9_caught_5 (by decide) (fun c_3 => ?_) (fun c_3 => ?_)
  · have hf := sn_if c_3 hf
    refine lv_bipush (v := (-2)) hx hb dX9_caught_17 (by decide) ?_
    cases hf
    exact kr _ _ _ _ hw rfl dX9_caught_19
  · have hf := sn_el c_3 hf
    refine lv_aload_n hx hb dX9_caught_8 rfl (lv_at hl 0 rfl) ?_
    refine sn_getC (r := 14) C hw fd_RX9_55 layM_0 rfl dX9_caught_9 ?_
    refine lv_iload_n hx hb dX9_caught_12 rfl (lv_at hl 1 rfl) ?_
    obtain ⟨g_4, hf⟩ := sn_gdE hf
    refine sn_iald C hw layM_14 g_4 dX9_caught_13 ?_
    refine lv_goto (tgt := 19) hx hb dX9_caught_14 (by decide) ?_
    cases hf
    exact kr _ _ _ _ hw rfl dX9_caught_19
theorem ctX9_caught (l : Launch) {σ : sn_S} {x1 : Int32}  {o : (Int32 × sn_S)} (hf : fX9_caught σ x1 = some o) : sn_M l yX9_caught cX9_caught 2 (some .int) rmX9_caught layM (fun ad => [.ref (ad 0), .int x1]) σ (some (fun _ => .int o.1)) o.2 :=
  sn_met (by decide) (fun _ => Nat.le_of_ble_eq_true rfl) (fun p e s m args below meth c ls D ct ad A C hw hl => wX9_caught_in C  hf (fun H locs ls pc hw ok hd => sn_iret C hw hd) _ _ _ hw hl)
-- X9_gave
abbrev rmX9_gave : Room := { frames := 6, cells := 0, slots := 0, locals := 136 }
def BX9_gave_87 (σ : sn_S) (x3 : Int32) : Option ((Int32 × sn_S)) :=
  (some (x3, σ))
def BX9_gave_79 (σ : sn_S) (x1 : Int32) (x2 : Int32) (x3 : Int32) (x4 : Int32) (t0 : Int32) (t1 : Int32) : Option ((Int32 × Int32) ⊕ (Int32)) :=
  (sn_lt (t0 ||| t1) fun y_1 => (sn_lt (x4 + 1) fun y_3 => (some (.inl (y_1, y_3)))))
def BX9_gave_78 (σ : sn_S) (x1 : Int32) (x2 : Int32) (x3 : Int32) (x4 : Int32) (t0 : Int32) : Option ((Int32 × Int32) ⊕ (Int32)) :=
  (BX9_gave_79 σ x1 x2 x3 x4 t0 (0 : Int32))
def BX9_gave_26 (σ : sn_S) (x1 : Int32) (x2 : Int32) (x3 : Int32) (x4 : Int32) : Option ((Int32 × Int32) ⊕ (Int32)) :=
  (sn_gd (sn_in (5 : Int32) 119) (if (sn_I σ 1 (5 : Int32).toNatClampNeg) ≤ x4 then
  (some (.inr (x3)))
  else
  (if x2 ≤ 0 then
  (some (.inr (x3)))
  else
  (sn_gd (sn_in (x2 - (1 : Int32)) 30) ((fX9_bit (sn_I σ 11 (x2 - (1 : Int32)).toNatClampNeg) x4).bind fun t_5 => (if t_5 = (1 : Int32) then
  ((fX9_netsTo σ x1 ((1 : Int32) <<< (x4 &&& 31))).bind fun t_8 => (if t_8 ≤ 0 then
  (BX9_gave_78 σ x1 x2 x3 x4 x3)
  else
  (BX9_gave_79 σ x1 x2 x3 x4 x3 ((1 : Int32) <<< (x4 &&& 31)))))
  else
  (BX9_gave_78 σ x1 x2 x3 x4 x3)))))))
def LX9_gave_26 (σ : sn_S) (x1 : Int32) (x2 : Int32) (s : Int32 × Int32) : Option ((Int32 × Int32) ⊕ (Int32)) := BX9_gave_26 σ x1 x2 s.1 s.2
def fX9_gave (σ : sn_S) (x1 : Int32) : Option (Int32 × sn_S) :=
  ((fX9_asksPerson σ x1).bind fun t_1 => (if t_1.1 = 0 then
  (some ((-2 : Int32), t_1.2))
  else
  (sn_gd (sn_in x1 6) ((fX9_firstOf (sn_I t_1.2 10 x1.toNatClampNeg)).bind fun t_5 => ((sn_it (LX9_gave_26 t_1.2 x1 t_5) 5000 ((0 : Int32), (0 : Int32))).bind fun t_7 => (BX9_gave_87 t_1.2 t_7))))))
theorem wX9_gave_87 (C : sn_C p s m args meth c RX9 cX9_gave 5 (some .int) D ct ad layM A) {σ : sn_S} {x3 : Int32}  {o : (Int32 × sn_S)} (hf : BX9_gave_87 σ x3 = some o) (kr : sn_Kr p l e rmX9_gave s m args below meth c Q D ct ad layM A cX9_gave .ireturn (true) o.2 [.int o.1]) : sn_At p l e rmX9_gave s m args below meth c Q D ct ad layM A 5 σ 87 [(3, .int x3)] [] := by
  intro H locs ls hw hl
  have hx := C.1
  have hb := C.2.1
  unfold BX9_gave_87 at hf
  refine lv_iload_n hx hb dX9_gave_87 rfl (lv_at hl 0 rfl) ?_
  cases hf
  exact kr _ _ _ _ hw rfl dX9_gave_88
theorem wX9_gave_79 (C : sn_C p s m args meth c RX9 cX9_gave 5 (some .int) D ct ad layM A) {σ : sn_S} {x1 : Int32} {x2 : Int32} {x3 : Int32} {x4 : Int32} {t0 : Int32} {t1 : Int32}  {o : (Int32 × Int32) ⊕ (Int32)} (hf : BX9_gave_79 σ x1 x2 x3 x4 t0 t1 = some o) (kc : ∀ v, o = .inl v → sn_At p l e rmX9_gave s m args below meth c Q D ct ad layM A 5 σ 26 [(0, .ref (ad 0)), (1, .int x1), (2, .int x2), (3, .int v.1), (4, .int v.2)] []) (kx : ∀ v, o = .inr v → sn_At p l e rmX9_gave s m args below meth c Q D ct ad layM A 5 σ 87 [(3, .int v)] []) : sn_At p l e rmX9_gave s m args below meth c Q D ct ad layM A 5 σ 79 [(0, .ref (ad 0)), (1, .int x1), (2, .int x2), (3, .int x3), (4, .int x4)] [.int t1, .int t0] := by
  intro H locs ls hw hl
  have hx := C.1
  have hb := C.2.1
  unfold BX9_gave_79 at hf
  refine lv_ior hx hb dX9_gave_79 ?_
  obtain ⟨y_1, e_2, hf⟩ := sn_ltE hf
  refine lv_topi (fun y_1_ e_2_ => ?_)
  obtain rfl : y_1 = y_1_ := e_2.trans e_2_.symm
  refine lv_istore_n (lv' := [(3, .int y_1), (0, .ref (ad 0)), (1, .int x1), (2, .int x2), (4, .int x4)]) hx hb dX9_gave_80 rfl hl (by decide) rfl (fun ls hl => ?_)
  obtain ⟨y_3, e_4, hf⟩ := sn_ltE hf
  refine lv_iinc (v := y_3) (lv' := [(4, .int y_3), (3, .int y_1), (0, .ref (ad 0)), (1, .int x1), (2, .int x2)]) hx hb dX9_gave_81 hl (k := 4) rfl (by rw [e_4]; rfl) (by decide) rfl (fun ls hl => ?_)
  refine lv_goto (tgt := 26) hx hb dX9_gave_84 (by decide) ?_
  cases hf
  exact kc _ rfl _ _ _ hw (lv_sub hl [2, 3, 4, 1, 0] rfl)
theorem wX9_gave_78 (C : sn_C p s m args meth c RX9 cX9_gave 5 (some .int) D ct ad layM A) {σ : sn_S} {x1 : Int32} {x2 : Int32} {x3 : Int32} {x4 : Int32} {t0 : Int32}  {o : (Int32 × Int32) ⊕ (Int32)} (hf : BX9_gave_78 σ x1 x2 x3 x4 t0 = some o) (kc : ∀ v, o = .inl v → sn_At p l e rmX9_gave s m args below meth c Q D ct ad layM A 5 σ 26 [(0, .ref (ad 0)), (1, .int x1), (2, .int x2), (3, .int v.1), (4, .int v.2)] []) (kx : ∀ v, o = .inr v → sn_At p l e rmX9_gave s m args below meth c Q D ct ad layM A 5 σ 87 [(3, .int v)] []) : sn_At p l e rmX9_gave s m args below meth c Q D ct ad layM A 5 σ 78 [(0, .ref (ad 0)), (1, .int x1), (2, .int x2), (3, .int x3), (4, .int x4)] [.int t0] := by
  intro H locs ls hw hl
  have hx := C.1
  have hb := C.2.1
  unfold BX9_gave_78 at hf
  refine lv_iconst (v := 0) hx hb dX9_gave_78 rfl ?_
  exact wX9_gave_79 C  hf kc kx _ _ _ hw (lv_sub hl [0, 1, 2, 3, 4] rfl)
theorem wX9_gave_26 (C : sn_C p s m args meth c RX9 cX9_gave 5 (some .int) D ct ad layM A) {σ : sn_S} {x1 : Int32} {x2 : Int32} {x3 : Int32} {x4 : Int32}  {o : (Int32 × Int32) ⊕ (Int32)} (hf : BX9_gave_26 σ x1 x2 x3 x4 = some o) (kc : ∀ v, o = .inl v → sn_At p l e rmX9_gave s m args below meth c Q D ct ad layM A 5 σ 26 [(0, .ref (ad 0)), (1, .int x1), (2, .int x2), (3, .int v.1), (4, .int v.2)] []) (kx : ∀ v, o = .inr v → sn_At p l e rmX9_gave s m args below meth c Q D ct ad layM A 5 σ 87 [(3, .int v)] []) : sn_At p l e rmX9_gave s m args below meth c Q D ct ad layM A 5 σ 26 [(0, .ref (ad 0)), (1, .int x1), (2, .int x2), (3, .int x3), (4, .int x4)] [] := by
  intro H locs ls hw hl
  have hx := C.1
  have hb := C.2.1
  unfold BX9_gave_26 at hf
  refine lv_iload hx hb dX9_gave_26 (lv_at hl 4 rfl) ?_
  refine lv_aload_n hx hb dX9_gave_28 rfl (lv_at hl 0 rfl) ?_
  refine sn_getC (r := 1) C hw fd_RX9_9 layM_0 rfl dX9_gave_29 ?_
  refine lv_iconst (v := 5) hx hb dX9_gave_32 rfl ?_
  obtain ⟨g_1, hf⟩ := sn_gdE hf
  refine sn_iald C hw layM_1 g_1 dX9_gave_33 ?_
  refine lv_icmp_ge (tgt := 87) hx hb dX9_gave_34 (by decide) (fun c_2 => ?_) (fun c_2 => ?_)
  · have hf := sn_if c_2 hf
    cases hf
    exact kx _ rfl _ _ _ hw (lv_sub hl [3] rfl)
  · have hf := sn_el c_2 hf
    refine lv_iload_n hx hb dX9_gave_37 rfl (lv_at hl 2 rfl) ?_
    refine lv_if_le (tgt := 87) hx hb dX9_gave_38 (by decide) (fun c_3 => ?_) (fun c_3 => ?_)
    · have hf := sn_if c_3 hf
      cases hf
      exact kx _ rfl _ _ _ hw (lv_sub hl [3] rfl)
    · have hf := sn_el c_3 hf
      refine lv_iload_n hx hb dX9_gave_41 rfl (lv_at hl 3 rfl) ?_
      refine lv_aload_n hx hb dX9_gave_42 rfl (lv_at hl 0 rfl) ?_
      refine sn_getC (r := 11) C hw fd_RX9_46 layM_0 rfl dX9_gave_43 ?_
      refine lv_iload_n hx hb dX9_gave_46 rfl (lv_at hl 2 rfl) ?_
      refine lv_iconst (v := 1) hx hb dX9_gave_47 rfl ?_
      refine lv_isub hx hb dX9_gave_48 ?_
      obtain ⟨g_4, hf⟩ := sn_gdE hf
      refine sn_iald C hw layM_11 g_4 dX9_gave_49 ?_
      refine lv_iload hx hb dX9_gave_50 (lv_at hl 4 rfl) ?_
      obtain ⟨t_5, h_6, hf⟩ := sn_bd hf
      refine sn_callSi (rest := [.int x3]) C hw (ctX9_bit l  h_6) kl_RX9_254 rfl rfl rfl (Nat.le_of_ble_eq_true rfl) dX9_gave_52 hl.1 (fun H locs hw => ?_)
      refine lv_iconst (v := 1) hx hb dX9_gave_55 rfl ?_
      refine lv_icmp_ne (tgt := 78) hx hb dX9_gave_56 (by decide) (fun c_7 => ?_) (fun c_7 => ?_)
      · have hf := sn_el c_7 hf
        exact wX9_gave_78 C  hf kc kx _ _ _ hw (lv_sub hl [0, 1, 2, 3, 4] rfl)
      · have hf := sn_if c_7 hf
        refine lv_aload_n hx hb dX9_gave_59 rfl (lv_at hl 0 rfl) ?_
        refine lv_iload_n hx hb dX9_gave_60 rfl (lv_at hl 1 rfl) ?_
        refine lv_iconst (v := 1) hx hb dX9_gave_61 rfl ?_
        refine lv_iload hx hb dX9_gave_62 (lv_at hl 4 rfl) ?_
        refine lv_ishl hx hb dX9_gave_64 ?_
        obtain ⟨t_8, h_9, hf⟩ := sn_bd hf
        refine sn_callVi (rest := [.int x3]) C hw (ctX9_netsTo l  h_9) kl_RX9_257 layM_0 rfl rfl rfl rfl (Nat.le_of_ble_eq_true rfl) dX9_gave_65 hl.1 (fun H locs hw => ?_)
        refine lv_if_le (tgt := 78) hx hb dX9_gave_68 (by decide) (fun c_10 => ?_) (fun c_10 => ?_)
        · have hf := sn_if c_10 hf
          exact wX9_gave_78 C  hf kc kx _ _ _ hw (lv_sub hl [0, 1, 2, 3, 4] rfl)
        · have hf := sn_el c_10 hf
          refine lv_iconst (v := 1) hx hb dX9_gave_71 rfl ?_
          refine lv_iload hx hb dX9_gave_72 (lv_at hl 4 rfl) ?_
          refine lv_ishl hx hb dX9_gave_74 ?_
          refine lv_goto (tgt := 79) hx hb dX9_gave_75 (by decide) ?_
          exact wX9_gave_79 C  hf kc kx _ _ _ hw (lv_sub hl [0, 1, 2, 3, 4] rfl)
theorem wX9_gave_L26 (C : sn_C p s m args meth c RX9 cX9_gave 5 (some .int) D ct ad layM A) {σ : sn_S} {x1 : Int32} {x2 : Int32}   {z : Int32 × Int32} {t : Int32} (h : sn_it (LX9_gave_26 σ x1 x2) 5000 z = some t) (kx : ∀ v, t = v → sn_At p l e rmX9_gave s m args below meth c Q D ct ad layM A 5 σ 87 [(3, .int v)] []) : sn_At p l e rmX9_gave s m args below meth c Q D ct ad layM A 5 σ 26 [(0, .ref (ad 0)), (1, .int x1), (2, .int x2), (3, .int z.1), (4, .int z.2)] [] :=
  sn_loop (f := LX9_gave_26 σ x1 x2) (G := fun z => sn_At p l e rmX9_gave s m args below meth c Q D ct ad layM A 5 σ 26 [(0, .ref (ad 0)), (1, .int x1), (2, .int x2), (3, .int z.1), (4, .int z.2)] []) (E := fun t => (∀ v, t = v → sn_At p l e rmX9_gave s m args below meth c Q D ct ad layM A 5 σ 87 [(3, .int v)] []) ∧ True) (fun z o hf k1 k2 => wX9_gave_26 C  hf (fun v e => k1 v e) (fun v e => (k2 _ e).1 v rfl)) 5000 z t h ⟨kx, trivial⟩
theorem wX9_gave_in (C : sn_C p s m args meth c RX9 cX9_gave 5 (some .int) D ct ad layM A) {σ : sn_S} {x1 : Int32}  {o : (Int32 × sn_S)} (hf : fX9_gave σ x1 = some o) (kr : sn_Kr p l e rmX9_gave s m args below meth c Q D ct ad layM A cX9_gave .ireturn (true) o.2 [.int o.1]) : sn_At p l e rmX9_gave s m args below meth c Q D ct ad layM A 5 σ 0 [(0, .ref (ad 0)), (1, .int x1)] [] := by
  intro H locs ls hw hl
  have hx := C.1
  have hb := C.2.1
  unfold fX9_gave at hf
  refine lv_aload_n hx hb dX9_gave_0 rfl (lv_at hl 0 rfl) ?_
  refine lv_iload_n hx hb dX9_gave_1 rfl (lv_at hl 1 rfl) ?_
  obtain ⟨t_1, h_2, hf⟩ := sn_bd hf
  refine sn_callVi (rest := []) C hw (ctX9_asksPerson l  h_2) kl_RX9_284 layM_0 rfl rfl rfl rfl (Nat.le_of_ble_eq_true rfl) dX9_gave_2 hl.1 (fun H locs hw => ?_)
  refine lv_if_ne (tgt := 11) hx hb dX9_gave_5 (by decide) (fun c_3 => ?_) (fun c_3 => ?_)
  · have hf := sn_el c_3 hf
    refine lv_aload_n hx hb dX9_gave_11 rfl (lv_at hl 0 rfl) ?_
    refine sn_getC (r := 10) C hw fd_RX9_43 layM_0 rfl dX9_gave_12 ?_
    refine lv_iload_n hx hb dX9_gave_15 rfl (lv_at hl 1 rfl) ?_
    obtain ⟨g_4, hf⟩ := sn_gdE hf
    refine sn_iald C hw layM_10 g_4 dX9_gave_16 ?_
    obtain ⟨t_5, h_6, hf⟩ := sn_bd hf
    refine sn_callSi (rest := []) C hw (ctX9_firstOf l  h_6) kl_RX9_287 rfl rfl rfl (Nat.le_of_ble_eq_true rfl) dX9_gave_17 hl.1 (fun H locs hw => ?_)
    refine lv_istore_n (lv' := [(2, .int t_5), (0, .ref (ad 0)), (1, .int x1)]) hx hb dX9_gave_20 rfl hl (by decide) rfl (fun ls hl => ?_)
    refine lv_iconst (v := 0) hx hb dX9_gave_21 rfl ?_
    refine lv_istore_n (lv' := [(3, .int (0 : Int32)), (2, .int t_5), (0, .ref (ad 0)), (1, .int x1)]) hx hb dX9_gave_22 rfl hl (by decide) rfl (fun ls hl => ?_)
    refine lv_iconst (v := 0) hx hb dX9_gave_23 rfl ?_
    refine lv_istore (lv' := [(4, .int (0 : Int32)), (3, .int (0 : Int32)), (2, .int t_5), (0, .ref (ad 0)), (1, .int x1)]) hx hb dX9_gave_24 hl (by decide) rfl (fun ls hl => ?_)
    obtain ⟨t_7, h_8, hf⟩ := sn_bd hf
    exact wX9_gave_L26 C  h_8 (fun v e => by cases e; exact wX9_gave_87 C  hf kr) _ _ _ hw (lv_sub hl [3, 4, 2, 1, 0] rfl)
  · have hf := sn_if c_3 hf
    refine lv_bipush (v := (-2)) hx hb dX9_gave_8 (by decide) ?_
    cases hf
    exact kr _ _ _ _ hw rfl dX9_gave_10
theorem ctX9_gave (l : Launch) {σ : sn_S} {x1 : Int32}  {o : (Int32 × sn_S)} (hf : fX9_gave σ x1 = some o) : sn_M l yX9_gave cX9_gave 5 (some .int) rmX9_gave layM (fun ad => [.ref (ad 0), .int x1]) σ (some (fun _ => .int o.1)) o.2 :=
  sn_met (by decide) (fun _ => Nat.le_of_ble_eq_true rfl) (fun p e s m args below meth c ls D ct ad A C hw hl => wX9_gave_in C  hf (fun H locs ls pc hw ok hd => sn_iret C hw hd) _ _ _ hw hl)
-- X9_worst
abbrev rmX9_worst : Room := { frames := 5, cells := 0, slots := 0, locals := 115 }
def BX9_worst_60 (σ : sn_S) (x1 : Int32) : Option ((Int32 × sn_S)) :=
  (some (x1, σ))
def BX9_worst_54 (σ : sn_S) (x1 : Int32) (x2 : Int32) (x3 : Int32) : Option ((Int32 × Int32 × Int32) ⊕ (Int32)) :=
  (sn_lt (x3 + 1) fun y_1 => (some (.inl (x1, x2, y_1))))
def BX9_worst_16 (σ : sn_S) (x1 : Int32) (x2 : Int32) (x3 : Int32) : Option ((Int32 × Int32 × Int32) ⊕ (Int32)) :=
  (sn_gd (sn_in (5 : Int32) 119) (if (sn_I σ 1 (5 : Int32).toNatClampNeg) ≤ x3 then
  (some (.inr (x1)))
  else
  (sn_gd (sn_in x3 6) ((fX9_bits (sn_I σ 10 x3.toNatClampNeg)).bind fun t_4 => (if x2 < t_4 then
  (sn_gd (sn_in x3 6) ((fX9_bits (sn_I σ 10 x3.toNatClampNeg)).bind fun t_8 => (BX9_worst_54 σ x3 t_8 x3)))
  else
  (BX9_worst_54 σ x1 x2 x3))))))
def LX9_worst_16 (σ : sn_S) (s : Int32 × Int32 × Int32) : Option ((Int32 × Int32 × Int32) ⊕ (Int32)) := BX9_worst_16 σ s.1 s.2.1 s.2.2
def fX9_worst (σ : sn_S) : Option (Int32 × sn_S) :=
  ((fX9_asksHouse σ).bind fun t_1 => (if t_1.1 = 0 then
  (some ((-2 : Int32), t_1.2))
  else
  ((sn_it (LX9_worst_16 t_1.2) 5000 ((-1 : Int32), (0 : Int32), (0 : Int32))).bind fun t_4 => (BX9_worst_60 t_1.2 t_4))))
theorem wX9_worst_60 (C : sn_C p s m args meth c RX9 cX9_worst 4 (some .int) D ct ad layM A) {σ : sn_S} {x1 : Int32}  {o : (Int32 × sn_S)} (hf : BX9_worst_60 σ x1 = some o) (kr : sn_Kr p l e rmX9_worst s m args below meth c Q D ct ad layM A cX9_worst .ireturn (true) o.2 [.int o.1]) : sn_At p l e rmX9_worst s m args below meth c Q D ct ad layM A 4 σ 60 [(1, .int x1)] [] := by
  intro H locs ls hw hl
  have hx := C.1
  have hb := C.2.1
  unfold BX9_worst_60 at hf
  refine lv_iload_n hx hb dX9_worst_60 rfl (lv_at hl 0 rfl) ?_
  cases hf
  exact kr _ _ _ _ hw rfl dX9_worst_61
theorem wX9_worst_54 (C : sn_C p s m args meth c RX9 cX9_worst 4 (some .int) D ct ad layM A) {σ : sn_S} {x1 : Int32} {x2 : Int32} {x3 : Int32}  {o : (Int32 × Int32 × Int32) ⊕ (Int32)} (hf : BX9_worst_54 σ x1 x2 x3 = some o) (kc : ∀ v, o = .inl v → sn_At p l e rmX9_worst s m args below meth c Q D ct ad layM A 4 σ 16 [(0, .ref (ad 0)), (1, .int v.1), (2, .int v.2.1), (3, .int v.2.2)] []) (kx : ∀ v, o = .inr v → sn_At p l e rmX9_worst s m args below meth c Q D ct ad layM A 4 σ 60 [(1, .int v)] []) : sn_At p l e rmX9_worst s m args below meth c Q D ct ad layM A 4 σ 54 [(0, .ref (ad 0)), (1, .int x1), (2, .int x2), (3, .int x3)] [] := by
  intro H locs ls hw hl
  have hx := C.1
  have hb := C.2.1
  unfold BX9_worst_54 at hf
  obtain ⟨y_1, e_2, hf⟩ := sn_ltE hf
  refine lv_iinc (v := y_1) (lv' := [(3, .int y_1), (0, .ref (ad 0)), (1, .int x1), (2, .int x2)]) hx hb dX9_worst_54 hl (k := 3) rfl (by rw [e_2]; rfl) (by decide) rfl (fun ls hl => ?_)
  refine lv_goto (tgt := 16) hx hb dX9_worst_57 (by decide) ?_
  cases hf
  exact kc _ rfl _ _ _ hw (lv_sub hl [1, 2, 3, 0] rfl)
theorem wX9_worst_16 (C : sn_C p s m args meth c RX9 cX9_worst 4 (some .int) D ct ad layM A) {σ : sn_S} {x1 : Int32} {x2 : Int32} {x3 : Int32}  {o : (Int32 × Int32 × Int32) ⊕ (Int32)} (hf : BX9_worst_16 σ x1 x2 x3 = some o) (kc : ∀ v, o = .inl v → sn_At p l e rmX9_worst s m args below meth c Q D ct ad layM A 4 σ 16 [(0, .ref (ad 0)), (1, .int v.1), (2, .int v.2.1), (3, .int v.2.2)] []) (kx : ∀ v, o = .inr v → sn_At p l e rmX9_worst s m args below meth c Q D ct ad layM A 4 σ 60 [(1, .int v)] []) : sn_At p l e rmX9_worst s m args below meth c Q D ct ad layM A 4 σ 16 [(0, .ref (ad 0)), (1, .int x1), (2, .int x2), (3, .int x3)] [] := by
  intro H locs ls hw hl
  have hx := C.1
  have hb := C.2.1
  unfold BX9_worst_16 at hf
  refine lv_iload_n hx hb dX9_worst_16 rfl (lv_at hl 3 rfl) ?_
  refine lv_aload_n hx hb dX9_worst_17 rfl (lv_at hl 0 rfl) ?_
  refine sn_getC (r := 1) C hw fd_RX9_9 layM_0 rfl dX9_worst_18 ?_
  refine lv_iconst (v := 5) hx hb dX9_worst_21 rfl ?_
  obtain ⟨g_1, hf⟩ := sn_gdE hf
  refine sn_iald C hw layM_1 g_1 dX9_worst_22 ?_
  refine lv_icmp_ge (tgt := 60) hx hb dX9_worst_23 (by decide) (fun c_2 => ?_) (fun c_2 => ?_)
  · have hf := sn_if c_2 hf
    cases hf
    exact kx _ rfl _ _ _ hw (lv_sub hl [1] rfl)
  · have hf := sn_el c_2 hf
    refine lv_aload_n hx hb dX9_worst_26 rfl (lv_at hl 0 rfl) ?_
    refine sn_getC (r := 10) C hw fd_RX9_43 layM_0 rfl dX9_worst_27 ?_
    refine lv_iload_n hx hb dX9_worst_30 rfl (lv_at hl 3 rfl) ?_
    obtain ⟨g_3, hf⟩ := sn_gdE hf
    refine sn_iald C hw layM_10 g_3 dX9_worst_31 ?_
    obtain ⟨t_4, h_5, hf⟩ := sn_bd hf
    refine sn_callSi (rest := []) C hw (ctX9_bits l  h_5) kl_RX9_278 rfl rfl rfl (Nat.le_of_ble_eq_true rfl) dX9_worst_32 hl.1 (fun H locs hw => ?_)
    refine lv_iload_n hx hb dX9_worst_35 rfl (lv_at hl 2 rfl) ?_
    refine lv_icmp_gt (tgt := 42) hx hb dX9_worst_36 (by decide) (fun c_6 => ?_) (fun c_6 => ?_)
    · have hf := sn_if c_6 hf
      refine lv_aload_n hx hb dX9_worst_42 rfl (lv_at hl 0 rfl) ?_
      refine sn_getC (r := 10) C hw fd_RX9_43 layM_0 rfl dX9_worst_43 ?_
      refine lv_iload_n hx hb dX9_worst_46 rfl (lv_at hl 3 rfl) ?_
      obtain ⟨g_7, hf⟩ := sn_gdE hf
      refine sn_iald C hw layM_10 g_7 dX9_worst_47 ?_
      obtain ⟨t_8, h_9, hf⟩ := sn_bd hf
      refine sn_callSi (rest := []) C hw (ctX9_bits l  h_9) kl_RX9_278 rfl rfl rfl (Nat.le_of_ble_eq_true rfl) dX9_worst_48 hl.1 (fun H locs hw => ?_)
      refine lv_istore_n (lv' := [(2, .int t_8), (0, .ref (ad 0)), (1, .int x1), (3, .int x3)]) hx hb dX9_worst_51 rfl hl (by decide) rfl (fun ls hl => ?_)
      refine lv_iload_n hx hb dX9_worst_52 rfl (lv_at hl 3 rfl) ?_
      refine lv_istore_n (lv' := [(1, .int x3), (2, .int t_8), (0, .ref (ad 0)), (3, .int x3)]) hx hb dX9_worst_53 rfl hl (by decide) rfl (fun ls hl => ?_)
      exact wX9_worst_54 C  hf kc kx _ _ _ hw (lv_sub hl [2, 0, 1, 3] rfl)
    · have hf := sn_el c_6 hf
      refine lv_goto (tgt := 54) hx hb dX9_worst_39 (by decide) ?_
      exact wX9_worst_54 C  hf kc kx _ _ _ hw (lv_sub hl [0, 1, 2, 3] rfl)
theorem wX9_worst_L16 (C : sn_C p s m args meth c RX9 cX9_worst 4 (some .int) D ct ad layM A) {σ : sn_S}   {z : Int32 × Int32 × Int32} {t : Int32} (h : sn_it (LX9_worst_16 σ) 5000 z = some t) (kx : ∀ v, t = v → sn_At p l e rmX9_worst s m args below meth c Q D ct ad layM A 4 σ 60 [(1, .int v)] []) : sn_At p l e rmX9_worst s m args below meth c Q D ct ad layM A 4 σ 16 [(0, .ref (ad 0)), (1, .int z.1), (2, .int z.2.1), (3, .int z.2.2)] [] :=
  sn_loop (f := LX9_worst_16 σ) (G := fun z => sn_At p l e rmX9_worst s m args below meth c Q D ct ad layM A 4 σ 16 [(0, .ref (ad 0)), (1, .int z.1), (2, .int z.2.1), (3, .int z.2.2)] []) (E := fun t => (∀ v, t = v → sn_At p l e rmX9_worst s m args below meth c Q D ct ad layM A 4 σ 60 [(1, .int v)] []) ∧ True) (fun z o hf k1 k2 => wX9_worst_16 C  hf (fun v e => k1 v e) (fun v e => (k2 _ e).1 v rfl)) 5000 z t h ⟨kx, trivial⟩
theorem wX9_worst_in (C : sn_C p s m args meth c RX9 cX9_worst 4 (some .int) D ct ad layM A) {σ : sn_S}  {o : (Int32 × sn_S)} (hf : fX9_worst σ = some o) (kr : sn_Kr p l e rmX9_worst s m args below meth c Q D ct ad layM A cX9_worst .ireturn (true) o.2 [.int o.1]) : sn_At p l e rmX9_worst s m args below meth c Q D ct ad layM A 4 σ 0 [(0, .ref (ad 0))] [] := by
  intro H locs ls hw hl
  have hx := C.1
  have hb := C.2.1
  unfold fX9_worst at hf
  refine lv_aload_n hx hb dX9_worst_0 rfl (lv_at hl 0 rfl) ?_
  obtain ⟨t_1, h_2, hf⟩ := sn_bd hf
  refine sn_callVi (rest := []) C hw (ctX9_asksHouse l  h_2) kl_RX9_272 layM_0 rfl rfl rfl rfl (Nat.le_of_ble_eq_true rfl) dX9_worst_1 hl.1 (fun H locs hw => ?_)
  refine lv_if_ne (tgt := 10) hx hb dX9_worst_4 (by decide) (fun c_3 => ?_) (fun c_3 => ?_)
  · have hf := sn_el c_3 hf
    refine lv_iconst (v := (-1)) hx hb dX9_worst_10 rfl ?_
    refine lv_istore_n (lv' := [(1, .int (-1 : Int32)), (0, .ref (ad 0))]) hx hb dX9_worst_11 rfl hl (by decide) rfl (fun ls hl => ?_)
    refine lv_iconst (v := 0) hx hb dX9_worst_12 rfl ?_
    refine lv_istore_n (lv' := [(2, .int (0 : Int32)), (1, .int (-1 : Int32)), (0, .ref (ad 0))]) hx hb dX9_worst_13 rfl hl (by decide) rfl (fun ls hl => ?_)
    refine lv_iconst (v := 0) hx hb dX9_worst_14 rfl ?_
    refine lv_istore_n (lv' := [(3, .int (0 : Int32)), (2, .int (0 : Int32)), (1, .int (-1 : Int32)), (0, .ref (ad 0))]) hx hb dX9_worst_15 rfl hl (by decide) rfl (fun ls hl => ?_)
    obtain ⟨t_4, h_5, hf⟩ := sn_bd hf
    exact wX9_worst_L16 C  h_5 (fun v e => by cases e; exact wX9_worst_60 C  hf kr) _ _ _ hw (lv_sub hl [3, 2, 1, 0] rfl)
  · have hf := sn_if c_3 hf
    refine lv_bipush (v := (-2)) hx hb dX9_worst_7 (by decide) ?_
    cases hf
    exact kr _ _ _ _ hw rfl dX9_worst_9
theorem ctX9_worst (l : Launch) {σ : sn_S}  {o : (Int32 × sn_S)} (hf : fX9_worst σ = some o) : sn_M l yX9_worst cX9_worst 4 (some .int) rmX9_worst layM (fun ad => [.ref (ad 0)]) σ (some (fun _ => .int o.1)) o.2 :=
  sn_met (by decide) (fun _ => Nat.le_of_ble_eq_true rfl) (fun p e s m args below meth c ls D ct ad A C hw hl => wX9_worst_in C  hf (fun H locs ls pc hw ok hd => sn_iret C hw hd) _ _ _ hw hl)
end
