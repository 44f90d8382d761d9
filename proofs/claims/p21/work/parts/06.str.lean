/-! the words: their lengths and letters, by the JDK's own methods -/
def sn_slen (k : Nat) : Option Int32 := if k < 16 then some (Int32.ofNat (sn_len.getD k 0)) else none
def sn_sat (k : Nat) (i : Int32) : Option Int32 := if k < 16 ∧ sn_in i (sn_len.getD k 0) = true then some ((sn_byt.getD k []).getD i.toNatClampNeg 0) else none
theorem sn_slen_ok : ∀ k, k < 16 → Int32.ofNat (sn_len.getD k 0) >>> ((0 : Int32) &&& 31) = Int32.ofNat (sn_len.getD k 0) := by decide +kernel
theorem sn_sat_ok : ∀ k, k < 16 → ∀ j, j < 8 → ((((sn_byt.getD k []).getD j 0 &&& (255 : Int32)).toUInt32 % 65536).toInt32 = (sn_byt.getD k []).getD j 0) ∧ narrow .char (.int ((sn_byt.getD k []).getD j 0)) = .int ((sn_byt.getD k []).getD j 0) := by decide +kernel
theorem sn_len8 : ∀ k, k < 16 → sn_len.getD k 0 < 8 := by decide +kernel
section STR
variable {p : Program} {l : Launch} {e : Env} {R : Room} {s : State} {m : MethodId} {args : Array Value} {below : List Frame} {meth : Method} {c : Code} {H : Heap} {locs : List Loc} {Q : State → Prop}
variable {cc : ByteArray} {pc nL : Nat} {ls : Array Slot} {own : String} {ret : Option FieldType} {D : va_G} {ct : Nat → ClassId} {ad : Nat → Nat} {lay : List sn_E} {A : Nat → Prop} {σ : sn_S}
theorem sn_nret {ty : FieldType} {v : Int32} (C : sn_C p s m args meth c own cc nL (some ty) D ct ad lay A) (h : sn_H s D ct ad lay A σ H locs) (hn : narrow ty (.int v) = .int v) (hd : decode cc pc = .ok (.ireturn, 1)) : W p l e R s m args below meth c H locs 0 0 (MQ below (sn_Q D ct ad lay A (some (.int v)) σ) args s 0 0 A) (F0 m pc ls [.int v]) := by
  obtain ⟨hx, hb, hml, hown, hts, hr, hlk, hK, hD, hG⟩ := C
  exact W.zret hx hb hr hn (fun t ht hW => ⟨rfl, by rw [ht]; exact h.1, h.2.F ht⟩) h.2.2.2 hd hlk
theorem sn_callStr {index mL n k : Nat} {y : MethodName} {cy : ByteArray} {ry : Option FieldType} {rm : Room} {As : (Nat → Nat) → List Value} {x : Int32} {st0 : List Value} (rest : List Value) (hyc : y.cls = "java/lang/String") (hk16 : k < 16)
    (C : sn_C p s m args meth c own cc nL ret D ct ad lay A) (h : sn_H s D ct ad lay A σ H locs) (hM : sn_M l y cy mL ry rm lay (fun ad => .ref (ad (1000 + k)) :: As ad) σ (some (fun _ => .int x)) σ) (L : sn_LV own index y cy mL ry n) (hR : sn_fit rm R mL = true) (hn : (As ad).length = n)
    (hst : st0 = (As ad).reverse ++ .ref (ad (1000 + k)) :: rest) (hsum : sn_sum rest ≤ 8) (hd : decode cc pc = .ok (.invokevirtual index, 3)) (hls : ls.size = nL)
    (kk : ∀ (H : Heap) (locs : List Loc), sn_H s D ct ad lay A σ H locs → W p l e R s m args below meth c H locs 0 0 Q (F0 m (pc + 3) ls (.int x :: rest))) : W p l e R s m args below meth c H locs 0 0 Q (F0 m pc ls st0) := by
  obtain ⟨hfit, hc0, hs0⟩ := sn_fit_spec hR
  have C' := C
  obtain ⟨hx, hb, hml, hown, hts, hr, hlk, hK, hD, hG⟩ := C
  have hv := vk_recv (hG.1 k hk16) (i := 0) (by decide) h.2
  rw [← hyc] at hv
  refine sn_goon (mc := 0) (ms := 0) (v := some (.int x)) C' h (va_runV (Ts := sn_gw) (As := As ad) (rest := rest) (n := n) ⟨hx, hb, hml, hown, hts⟩ (hM D ct ad A) (cwV n hts (sn_good L.1) rfl hc0 hs0 ⟨rfl, L.2⟩ hfit) ⟨(sn_pre C' h _).1, hv, (sn_pre C' h _).2⟩ rfl hn hls hst (lv_room hsum) hd ⟨Nat.zero_le _, Nat.zero_le _⟩) kk
theorem sn_getCS {index : Nat} {rest : List Value} (C : sn_C p s m args meth c own cc nL ret D ct ad lay A) (h : sn_H s D ct ad lay A σ H locs) (hw : Cond.fieldLink own index "java/lang/String" "COMPACT_STRINGS" "Z" ∈ sn_gw) (hd : decode cc pc = .ok (.getstatic index, 3))
    (kk : W p l e R s m args below meth c H locs 0 0 Q (F0 m (pc + 3) ls (.int 1 :: rest))) : W p l e R s m args below meth c H locs 0 0 Q (F0 m pc ls rest) := by
  obtain ⟨hx, hb, hml, hown, hts, hr, hlk, hK, hD, hG⟩ := C
  exact va_gets hx hb hG.2.2.1 h.2 hown (hts _ hw) (fun _ z => z) hd kk
theorem sn_getSI {index : Nat} {rest : List Value} (C : sn_C p s m args meth c own cc nL ret D ct ad lay A) (h : sn_H s D ct ad lay A σ H locs) (hw : Cond.fieldLink own index "jdk/internal/util/Preconditions" "SIOOBE_FORMATTER" "Ljava/util/function/BiFunction;" ∈ sn_gw) (hd : decode cc pc = .ok (.getstatic index, 3))
    (kk : ∀ w : Value, (w = .null ∨ ∃ a, w = .ref a) → W p l e R s m args below meth c H locs 0 0 Q (F0 m (pc + 3) ls (w :: rest))) : W p l e R s m args below meth c H locs 0 0 Q (F0 m pc ls rest) := by
  obtain ⟨hx, hb, hml, hown, hts, hr, hlk, hK, hD, hG⟩ := C
  rcases hG.2.2.2.1 with hZ | ⟨t, hZ⟩
  · exact va_gets hx hb hZ h.2 hown (hts _ hw) (fun _ z => z) hd (kk _ (Or.inl rfl))
  · exact va_gets hx hb hZ h.2 hown (hts _ hw) (fun _ z => z) hd (kk _ (Or.inr ⟨t, rfl⟩))
theorem sn_getSc {index k : Nat} {rest : List Value} (hk : k < 16) (C : sn_C p s m args meth c own cc nL ret D ct ad lay A) (h : sn_H s D ct ad lay A σ H locs) (hw : Cond.fieldLink own index "java/lang/String" "coder" "B" ∈ sn_gw) (hd : decode cc pc = .ok (.getfield index, 3))
    (kk : W p l e R s m args below meth c H locs 0 0 Q (F0 m (pc + 3) ls (.int 0 :: rest))) : W p l e R s m args below meth c H locs 0 0 Q (F0 m pc ls (.ref (ad (1000 + k)) :: rest)) := by
  obtain ⟨hx, hb, hml, hown, hts, hr, hlk, hK, hD, hG⟩ := C
  exact vk_getf hx hb ((hG.1 k hk).1 0 (by decide)).2.1 h.2 hown (hts _ hw) (fun _ z => z) hd kk
theorem sn_getSv {index k : Nat} {rest : List Value} (hk : k < 16) (C : sn_C p s m args meth c own cc nL ret D ct ad lay A) (h : sn_H s D ct ad lay A σ H locs) (hw : Cond.fieldLink own index "java/lang/String" "value" "[B" ∈ sn_gw) (hd : decode cc pc = .ok (.getfield index, 3))
    (kk : W p l e R s m args below meth c H locs 0 0 Q (F0 m (pc + 3) ls (.ref (ad (2000 + k)) :: rest))) : W p l e R s m args below meth c H locs 0 0 Q (F0 m pc ls (.ref (ad (1000 + k)) :: rest)) := by
  obtain ⟨hx, hb, hml, hown, hts, hr, hlk, hK, hD, hG⟩ := C
  exact vk_getf hx hb ((hG.1 k hk).1 0 (by decide)).2.2.1 h.2 hown (hts _ hw) (fun _ z => z) hd kk
theorem sn_Slen {k : Nat} {rest : List Value} (hk : k < 16) (C : sn_C p s m args meth c own cc nL ret D ct ad lay A) (h : sn_H s D ct ad lay A σ H locs) (hd : decode cc pc = .ok (.arraylength, 1))
    (kk : W p l e R s m args below meth c H locs 0 0 Q (F0 m (pc + 1) ls (.int (Int32.ofNat (sn_len.getD k 0)) :: rest))) : W p l e R s m args below meth c H locs 0 0 Q (F0 m pc ls (.ref (ad (2000 + k)) :: rest)) := by
  obtain ⟨hx, hb, hml, hown, hts, hr, hlk, hK, hD, hG⟩ := C
  exact va_tlen hx hb ((hG.1 k hk).1 0 (by decide)).2.2.2 h.2 rfl hd kk
theorem sn_Sld {k : Nat} {i : Int32} {rest : List Value} (hk : k < 16) (hi : sn_in i (sn_len.getD k 0) = true) (C : sn_C p s m args meth c own cc nL ret D ct ad lay A) (h : sn_H s D ct ad lay A σ H locs) (hd : decode cc pc = .ok (.baload, 1))
    (kk : W p l e R s m args below meth c H locs 0 0 Q (F0 m (pc + 1) ls (.int ((sn_byt.getD k []).getD i.toNatClampNeg 0) :: rest))) : W p l e R s m args below meth c H locs 0 0 Q (F0 m pc ls (.int i :: .ref (ad (2000 + k)) :: rest)) := by
  obtain ⟨hx, hb, hml, hown, hts, hr, hlk, hK, hD, hG⟩ := C
  exact va_tb hx hb ((hG.1 k hk).1 0 (by decide)).2.2.2 h.2 (sn_in_spec hi) rfl hd kk
end STR
abbrev rmJ0_coder : Room := { frames := 0, cells := 0, slots := 0, locals := 0 }
theorem ctJ0_coder (l : Launch) {lay : List sn_E} {σ : sn_S} {k : Nat} (hk : k < 16) : sn_M l yJ0_coder_7d493 cJ0_coder_7d493 1 (some .byte) rmJ0_coder lay (fun ad => [.ref (ad (1000 + k))]) σ (some (fun _ => .int 0)) σ :=
  sn_met (by decide) (fun _ => Nat.le_of_ble_eq_true rfl) (fun p e s m args below meth c ls D ct ad A C hw hl => by
    have hx := C.1
    have hb := C.2.1
    refine sn_getCS C hw kf_RJ0_38 dJ0_coder_7d493_0 ?_
    refine lv_if_eq (tgt := 13) hx hb dJ0_coder_7d493_3 (by decide) (fun q => absurd q (by decide)) (fun _ => ?_)
    refine lv_aload_n hx hb dJ0_coder_7d493_6 rfl (lv_at hl 0 rfl) ?_
    refine sn_getSc hk C hw kf_RJ0_15 dJ0_coder_7d493_7 ?_
    refine lv_goto (tgt := 14) hx hb dJ0_coder_7d493_10 (by decide) ?_
    exact sn_nret C hw rfl dJ0_coder_7d493_14)
theorem ctJ0_isLatin1 (l : Launch) {lay : List sn_E} {σ : sn_S} {k : Nat} (hk : k < 16) : sn_M l yJ0_isLatin1_aae02 cJ0_isLatin1_aae02 1 (some .boolean) rmJ0_coder lay (fun ad => [.ref (ad (1000 + k))]) σ (some (fun _ => .int 1)) σ :=
  sn_met (by decide) (fun _ => Nat.le_of_ble_eq_true rfl) (fun p e s m args below meth c ls D ct ad A C hw hl => by
    have hx := C.1
    have hb := C.2.1
    refine sn_getCS C hw kf_RJ0_38 dJ0_isLatin1_aae02_0 ?_
    refine lv_if_eq (tgt := 17) hx hb dJ0_isLatin1_aae02_3 (by decide) (fun q => absurd q (by decide)) (fun _ => ?_)
    refine lv_aload_n hx hb dJ0_isLatin1_aae02_6 rfl (lv_at hl 0 rfl) ?_
    refine sn_getSc hk C hw kf_RJ0_15 dJ0_isLatin1_aae02_7 ?_
    refine lv_if_ne (tgt := 17) hx hb dJ0_isLatin1_aae02_10 (by decide) (fun q => absurd rfl q) (fun _ => ?_)
    refine lv_iconst (v := 1) hx hb dJ0_isLatin1_aae02_13 rfl ?_
    refine lv_goto (tgt := 18) hx hb dJ0_isLatin1_aae02_14 (by decide) ?_
    exact sn_zret C hw rfl dJ0_isLatin1_aae02_18)
abbrev rmJ0_length : Room := { frames := 1, cells := 0, slots := 0, locals := 20 }
theorem ctJ0_length (l : Launch) {lay : List sn_E} {σ : sn_S} {k : Nat} (hk : k < 16) : sn_M l yJ0_length_8abf5 cJ0_length_8abf5 1 (some .int) rmJ0_length lay (fun ad => [.ref (ad (1000 + k))]) σ (some (fun _ => .int (Int32.ofNat (sn_len.getD k 0)))) σ :=
  sn_met (by decide) (fun _ => Nat.le_of_ble_eq_true rfl) (fun p e s m args below meth c ls D ct ad A C hw hl => by
    have hx := C.1
    have hb := C.2.1
    refine lv_aload_n hx hb dJ0_length_8abf5_0 rfl (lv_at hl 0 rfl) ?_
    refine sn_getSv hk C hw kf_RJ0_9 dJ0_length_8abf5_1 ?_
    refine sn_Slen hk C hw dJ0_length_8abf5_4 ?_
    refine lv_aload_n hx hb dJ0_length_8abf5_5 rfl (lv_at hl 0 rfl) ?_
    refine sn_callStr (As := fun _ => []) [.int (Int32.ofNat (sn_len.getD k 0))] rfl hk C hw (ctJ0_coder l hk) kl_RJ0_335 rfl rfl rfl (Nat.le_of_ble_eq_true rfl) dJ0_length_8abf5_6 hl.1 (fun H locs hw => ?_)
    refine lv_ishr hx hb dJ0_length_8abf5_9 ?_
    rw [sn_slen_ok k hk]
    exact sn_iret C hw dJ0_length_8abf5_10)
theorem ctJ3_checkIndex (l : Launch) {lay : List sn_E} {σ : sn_S} {i n : Int32} {w : Value} (hw0 : w = .null ∨ ∃ a, w = .ref a) (h0 : 0 ≤ i) (h1 : i < n) : sn_M l yJ3_checkIndex_8e157 cJ3_checkIndex_8e157 3 (some .int) rmJ0_coder lay (fun _ => [.int i, .int n, w]) σ (some (fun _ => .int i)) σ :=
  sn_met (by decide) (fun _ => by rcases hw0 with rfl | ⟨a, rfl⟩ <;> exact Nat.le_of_ble_eq_true rfl) (fun p e s m args below meth c ls D ct ad A C hw hl => by
    have hx := C.1
    have hb := C.2.1
    have hl : lv_has ls 3 [(0, .int i), (1, .int n), (2, w)] := hl
    refine lv_iload_n hx hb dJ3_checkIndex_8e157_0 rfl (lv_at hl 0 rfl) ?_
    refine lv_if_lt (tgt := 9) hx hb dJ3_checkIndex_8e157_1 (by decide) (fun q => absurd q (Int32.not_lt.mpr h0)) (fun _ => ?_)
    refine lv_iload_n hx hb dJ3_checkIndex_8e157_4 rfl (lv_at hl 0 rfl) ?_
    refine lv_iload_n hx hb dJ3_checkIndex_8e157_5 rfl (lv_at hl 1 rfl) ?_
    refine lv_icmp_lt (tgt := 16) hx hb dJ3_checkIndex_8e157_6 (by decide) (fun _ => ?_) (fun q => absurd h1 q)
    refine lv_iload_n hx hb dJ3_checkIndex_8e157_16 rfl (lv_at hl 0 rfl) ?_
    exact sn_iret C hw dJ3_checkIndex_8e157_17)
abbrev rmJ0_checkIndex : Room := { frames := 1, cells := 0, slots := 0, locals := 22 }
theorem ctJ0_checkIndex (l : Launch) {lay : List sn_E} {σ : sn_S} {i n : Int32} (h0 : 0 ≤ i) (h1 : i < n) : sn_M l yJ0_checkIndex_df160 cJ0_checkIndex_df160 2 none rmJ0_checkIndex lay (fun _ => [.int i, .int n]) σ none σ :=
  sn_met (by decide) (fun _ => Nat.le_of_ble_eq_true rfl) (fun p e s m args below meth c ls D ct ad A C hw hl => by
    have hx := C.1
    have hb := C.2.1
    refine lv_iload_n hx hb dJ0_checkIndex_df160_0 rfl (lv_at hl 0 rfl) ?_
    refine lv_iload_n hx hb dJ0_checkIndex_df160_1 rfl (lv_at hl 1 rfl) ?_
    refine sn_getSI C hw kf_RJ0_1053 dJ0_checkIndex_df160_2 (fun w hw0 => ?_)
    refine sn_callSi (rest := []) C hw (ctJ3_checkIndex l hw0 h0 h1) kl_RJ0_1059 rfl rfl rfl (Nat.le_of_ble_eq_true rfl) dJ0_checkIndex_df160_5 hl.1 (fun H locs hw => ?_)
    refine lv_pop hx hb dJ0_checkIndex_df160_8 rfl ?_
    exact sn_vret C hw dJ0_checkIndex_df160_9)
abbrev rmJ1_charAt : Room := { frames := 2, cells := 0, slots := 0, locals := 43 }
theorem sn_inlt {k : Nat} (hk : k < 16) {i : Int32} (hi : sn_in i (sn_len.getD k 0) = true) : 0 ≤ i ∧ i < Int32.ofNat (sn_len.getD k 0) := by
  have h8 := sn_len8 k hk
  unfold sn_in at hi
  simp only [Bool.and_eq_true, decide_eq_true_eq] at hi
  refine ⟨hi.1, ?_⟩
  generalize sn_len.getD k 0 = n at hi h8
  rw [Int32.lt_iff_toInt_lt]
  have h1 : 0 ≤ i.toInt := by have := Int32.le_iff_toInt_le.mp hi.1; simpa using this
  have h2 : i.toInt.toNat < n := hi.2
  have h3 : (Int32.ofNat n).toInt = n := Int32.toInt_ofNat_of_lt (by omega)
  rw [h3]
  omega
theorem ctJ1_charAt (l : Launch) {lay : List sn_E} {σ : sn_S} {k : Nat} {i : Int32} (hk : k < 16) (hi : sn_in i (sn_len.getD k 0) = true) : sn_M l yJ1_charAt_3b067 cJ1_charAt_3b067 2 (some .char) rmJ1_charAt lay (fun ad => [.ref (ad (2000 + k)), .int i]) σ (some (fun _ => .int ((sn_byt.getD k []).getD i.toNatClampNeg 0))) σ :=
  sn_met (by decide) (fun _ => Nat.le_of_ble_eq_true rfl) (fun p e s m args below meth c ls D ct ad A C hw hl => by
    have hx := C.1
    have hb := C.2.1
    obtain ⟨h0, h1⟩ := sn_inlt hk hi
    obtain ⟨g1, g2⟩ := sn_sat_ok k hk i.toNatClampNeg (Nat.lt_trans (sn_in_nat hi) (sn_len8 k hk))
    refine lv_iload_n hx hb dJ1_charAt_3b067_0 rfl (lv_at hl 1 rfl) ?_
    refine lv_aload_n hx hb dJ1_charAt_3b067_1 rfl (lv_at hl 0 rfl) ?_
    refine sn_Slen hk C hw dJ1_charAt_3b067_2 ?_
    refine sn_callSv (rest := []) C hw (ctJ0_checkIndex l h0 h1) kl_RJ1_9 rfl rfl rfl (Nat.le_of_ble_eq_true rfl) dJ1_charAt_3b067_3 hl.1 (fun H locs hw => ?_)
    refine lv_aload_n hx hb dJ1_charAt_3b067_6 rfl (lv_at hl 0 rfl) ?_
    refine lv_iload_n hx hb dJ1_charAt_3b067_7 rfl (lv_at hl 1 rfl) ?_
    refine sn_Sld hk hi C hw dJ1_charAt_3b067_8 ?_
    refine lv_sipush (v := 255) hx hb dJ1_charAt_3b067_9 (by decide) ?_
    refine lv_iand hx hb dJ1_charAt_3b067_12 ?_
    refine lv_i2c hx hb dJ1_charAt_3b067_13 g1 ?_
    exact sn_nret C hw g2 dJ1_charAt_3b067_14)
abbrev rmJ0_charAt : Room := { frames := 3, cells := 0, slots := 0, locals := 64 }
theorem ctJ0_charAt (l : Launch) {lay : List sn_E} {σ : sn_S} {k : Nat} {i : Int32} (hk : k < 16) (hi : sn_in i (sn_len.getD k 0) = true) : sn_M l yJ0_charAt_5068e cJ0_charAt_5068e 2 (some .char) rmJ0_charAt lay (fun ad => [.ref (ad (1000 + k)), .int i]) σ (some (fun _ => .int ((sn_byt.getD k []).getD i.toNatClampNeg 0))) σ :=
  sn_met (by decide) (fun _ => Nat.le_of_ble_eq_true rfl) (fun p e s m args below meth c ls D ct ad A C hw hl => by
    have hx := C.1
    have hb := C.2.1
    obtain ⟨g1, g2⟩ := sn_sat_ok k hk i.toNatClampNeg (Nat.lt_trans (sn_in_nat hi) (sn_len8 k hk))
    refine lv_aload_n hx hb dJ0_charAt_5068e_0 rfl (lv_at hl 0 rfl) ?_
    refine sn_callStr (As := fun _ => []) [] rfl hk C hw (ctJ0_isLatin1 l hk) kl_RJ0_492 rfl rfl rfl (Nat.le_of_ble_eq_true rfl) dJ0_charAt_5068e_1 hl.1 (fun H locs hw => ?_)
    refine lv_if_eq (tgt := 16) hx hb dJ0_charAt_5068e_4 (by decide) (fun q => absurd q (by decide)) (fun _ => ?_)
    refine lv_aload_n hx hb dJ0_charAt_5068e_7 rfl (lv_at hl 0 rfl) ?_
    refine sn_getSv hk C hw kf_RJ0_9 dJ0_charAt_5068e_8 ?_
    refine lv_iload_n hx hb dJ0_charAt_5068e_11 rfl (lv_at hl 1 rfl) ?_
    refine sn_callSi (rest := []) C hw (ctJ1_charAt l hk hi) kl_RJ0_495 rfl rfl rfl (Nat.le_of_ble_eq_true rfl) dJ0_charAt_5068e_12 hl.1 (fun H locs hw => ?_)
    exact sn_nret C hw g2 dJ0_charAt_5068e_15)
section STR2
variable {p : Program} {l : Launch} {e : Env} {R : Room} {s : State} {m : MethodId} {args : Array Value} {below : List Frame} {meth : Method} {c : Code} {H : Heap} {locs : List Loc} {Q : State → Prop}
variable {cc : ByteArray} {pc nL : Nat} {ls : Array Slot} {own : String} {ret : Option FieldType} {D : va_G} {ct : Nat → ClassId} {ad : Nat → Nat} {lay : List sn_E} {A : Nat → Prop} {σ : sn_S}
theorem sn_strlen {index k : Nat} {v : Int32} (rest : List Value) (C : sn_C p s m args meth c own cc nL ret D ct ad lay A) (h : sn_H s D ct ad lay A σ H locs) (hv : sn_slen k = some v) (L : sn_LV own index yJ0_length_8abf5 cJ0_length_8abf5 1 (some .int) 0) (hR : sn_fit rmJ0_length R 1 = true) (hsum : sn_sum rest ≤ 8) (hd : decode cc pc = .ok (.invokevirtual index, 3)) (hls : ls.size = nL)
    (kk : ∀ (H : Heap) (locs : List Loc), sn_H s D ct ad lay A σ H locs → W p l e R s m args below meth c H locs 0 0 Q (F0 m (pc + 3) ls (.int v :: rest))) : W p l e R s m args below meth c H locs 0 0 Q (F0 m pc ls (.ref (ad (1000 + k)) :: rest)) := by
  unfold sn_slen at hv
  split at hv
  · rename_i hk
    cases hv
    exact sn_callStr (As := fun _ => []) rest rfl hk C h (ctJ0_length l hk) L hR rfl rfl hsum hd hls kk
  · cases hv
theorem sn_strat {index k : Nat} {i v : Int32} (rest : List Value) (C : sn_C p s m args meth c own cc nL ret D ct ad lay A) (h : sn_H s D ct ad lay A σ H locs) (hv : sn_sat k i = some v) (L : sn_LV own index yJ0_charAt_5068e cJ0_charAt_5068e 2 (some .char) 1) (hR : sn_fit rmJ0_charAt R 2 = true) (hsum : sn_sum rest ≤ 8) (hd : decode cc pc = .ok (.invokevirtual index, 3)) (hls : ls.size = nL)
    (kk : ∀ (H : Heap) (locs : List Loc), sn_H s D ct ad lay A σ H locs → W p l e R s m args below meth c H locs 0 0 Q (F0 m (pc + 3) ls (.int v :: rest))) : W p l e R s m args below meth c H locs 0 0 Q (F0 m pc ls (.int i :: .ref (ad (1000 + k)) :: rest)) := by
  unfold sn_sat at hv
  split at hv
  · rename_i hk
    cases hv
    exact sn_callStr (As := fun _ => [.int i]) rest rfl hk.1 C h (ctJ0_charAt l hk.1 hk.2) L hR rfl rfl hsum hd hls kk
  · cases hv
end STR2
