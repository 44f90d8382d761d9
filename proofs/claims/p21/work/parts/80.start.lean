def st_all (J J2 : sn_S → sn_S → Prop) : Prop := st_0 J J2 ∧ st_1 J J2 ∧ st_2 J J2 ∧ st_3 J J2 ∧ st_4 J J2 ∧ st_5 J J2 ∧ st_6 J J2 ∧ st_7 J J2 ∧ st_8 J J2 ∧ st_9 J J2 ∧ st_10 J J2 ∧ st_11 J J2 ∧ st_12 J J2 ∧ st_13 J J2 ∧ st_14 J J2 ∧ st_15 J J2 ∧ st_16 J J2 ∧ st_17 J J2 ∧ st_18 J J2 ∧ st_19 J J2 ∧ st_20 J J2 ∧ st_21 J J2 ∧ st_22 J J2 ∧ st_23 J J2 ∧ st_24 J J2 ∧ st_25 J J2 ∧ st_26 J J2 ∧ st_27 J J2 ∧ st_28 J J2 ∧ st_29 J J2 ∧ st_30 J J2 ∧ st_31 J J2 ∧ st_32 J J2 ∧ st_33 J J2 ∧ st_34 J J2 ∧ st_35 J J2 ∧ st_36 J J2 ∧ st_37 J J2 ∧ st_38 J J2 ∧ st_39 J J2 ∧ st_40 J J2 ∧ st_41 J J2 ∧ st_42 J J2 ∧ st_43 J J2 ∧ st_44 J J2 ∧ st_45 J J2 ∧ st_46 J J2 ∧ st_47 J J2 ∧ st_48 J J2 ∧ st_49 J J2 ∧ st_50 J J2 ∧ st_51 J J2 ∧ st_52 J J2 ∧ st_53 J J2 ∧ st_54 J J2 ∧ st_55 J J2 ∧ st_56 J J2 ∧ st_57 J J2 ∧ st_58 J J2 ∧ st_59 J J2 ∧ st_60 J J2 ∧ st_61 J J2 ∧ st_62 J J2 ∧ st_63 J J2 ∧ st_64 J J2 ∧ st_65 J J2 ∧ st_66 J J2 ∧ st_67 J J2 ∧ st_68 J J2 ∧ st_69 J J2 ∧ st_70 J J2 ∧ st_71 J J2
theorem lw_vin {k j L : Nat} {i : Int32} (hi : i = nI k) (h : k + j < L) (hL : L ≤ 3072) : vp_in (i + nI j) L := by
  subst hi
  rw [nI_add]
  exact nI_in h (by omega)
section
variable {p : Program} {l : Launch} {e : Env} {s : State} {m : MethodId} {args : Array Value} {below : List Frame} {meth : Method} {c : Code} {Q : State → Prop} {D : va_G} {ct : Nat → ClassId} {adC adM : Nat → Nat} {AC AM : Nat → Prop} {b L : Nat} {xs : Nat → Int32}
set_option maxHeartbeats 4000000 in
theorem lw_loop (C : lw_C p s m args meth c b L xs D ct adC adM AC AM) (hL : L ≤ 3072) {J : Nat → sn_S → sn_S → Prop} (hs : ∀ k, k + 6 ≤ L → st_all (J k) (J (k + 6))) (hd : ∀ k, k + 6 ≤ L → ∀ σ τ, J k σ τ → J (k + 6) σ τ) (kend : ∀ (H : Heap) (ls : Array Slot), W p l e room_1 s m args below meth c H [] 600000 7302250 Q (F0 m 2179 ls [.int 1])) :
    ∀ (n k : Nat) (σ τ : sn_S) (i : Int32), J k σ τ → i = nI k → k ≤ L + 6 → L + 6 - k < n → lw_LAt p l e s m args below meth c Q D ct adC adM AC AM σ τ 18 [(0, .ref b), (1, .ref (adC 0)), (2, .ref (adM 0)), (3, .int i)] [] := by
  intro n
  induction n with
  | zero => intro k σ τ i _ _ _ h; exact absurd h (by omega)
  | succ n ih =>
    intro k σ τ i hJ hi hk hn H ls hC hM hl
    have hx := C.1.1
    have hb := C.1.2.1
    have hX := C.2.2.2.2.2.1
    have hbl := C.2.2.2.2.2.2
    have hbA : ¬ AC b := fun z => absurd (C.2.2.1 b z) (by omega)
    refine lv_iload_n hx hb dL_law_18 rfl (lv_at hl 3 rfl) ?_
    refine lv_aload_n hx hb dL_law_19 rfl (lv_at hl 0 rfl) ?_
    refine va_slen hx hb hX hbl hbA hC.2 dL_law_20 ?_
    refine lv_bipush (v := 6) hx hb dL_law_21 (by decide) ?_
    refine lv_isub hx hb dL_law_23 ?_
    refine lv_icmp_gt (tgt := 2178) hx hb dL_law_24 (by decide) (fun _ => ?_) (fun hc => ?_)
    · refine lv_iconst (v := 1) hx hb dL_law_2178 rfl ?_
      exact kend H ls
    · have hk6 : k + 6 ≤ L := by
        rcases Nat.lt_or_ge L (k + 6) with hlt | hge
        · exfalso
          apply hc
          rw [hi, Int32.lt_iff_toInt_lt, nI_toInt (by omega)]
          have h1 : (Int32.ofNat L - 6).toInt = (L : Int) - 6 := by
            have h2 : (Int32.ofNat L).toInt = (L : Int) := nI_toInt (by omega)
            rw [Int32.toInt_sub, h2]
            show ((L : Int) - 6).bmod (2 ^ 32) = _
            exact Int.bmod_eq_of_le (by omega) (by omega)
          rw [h1]
          omega
        · exact hge
      have g0 : vp_in i L := by rw [hi]; exact nI_in (by omega) (by omega)
      have g1 : vp_in (i + 1) L := lw_vin (j := 1) hi (by omega) (Nat.le_trans hL (by decide))
      have g2 : vp_in (i + 2) L := lw_vin (j := 2) hi (by omega) (Nat.le_trans hL (by decide))
      have g3 : vp_in (i + 3) L := lw_vin (j := 3) hi (by omega) (Nat.le_trans hL (by decide))
      have g4 : vp_in (i + 4) L := lw_vin (j := 4) hi (by omega) (Nat.le_trans hL (by decide))
      have g5 : vp_in (i + 5) L := lw_vin (j := 5) hi (by omega) (Nat.le_trans hL (by decide))
      have kk : ∀ σ τ, J (k + 6) σ τ → lw_LAt p l e s m args below meth c Q D ct adC adM AC AM σ τ 2172 [(0, .ref b), (1, .ref (adC 0)), (2, .ref (adM 0)), (3, .int i)] [] := by
        intro σ τ hJ H ls hC hM hl
        refine lv_iinc (v := i + 6) (lv' := [(3, .int (i + 6)), (0, .ref b), (1, .ref (adC 0)), (2, .ref (adM 0))]) hx hb dL_law_2172 hl (k := 3) rfl rfl (by decide) rfl (fun ls hl => ?_)
        refine lv_goto (tgt := 18) hx hb dL_law_2175 (by decide) ?_
        exact ih (k + 6) σ τ (i + 6) hJ (by rw [hi]; exact nI_add k 6) (by omega) (by omega) H ls hC hM (lv_sub hl [1, 2, 3, 0] rfl)
      have kd : ∀ σ τ, J k σ τ → lw_LAt p l e s m args below meth c Q D ct adC adM AC AM σ τ 2172 [(0, .ref b), (1, .ref (adC 0)), (2, .ref (adM 0)), (3, .int i)] [] := fun σ τ hJ => kk σ τ (hd k hk6 σ τ hJ)
      refine lv_aload_n hx hb dL_law_27 rfl (lv_at hl 0 rfl) ?_
      refine lv_iload_n hx hb dL_law_28 rfl (lv_at hl 3 rfl) ?_
      refine va_sld hx hb hX hbl hbA hC.2 g0 dL_law_29 ?_
      refine lv_bipush (v := 127) hx hb dL_law_30 (by decide) ?_
      refine lv_iand hx hb dL_law_32 ?_
      generalize xs i.toNatClampNeg &&& 127 = v
      by_cases hv : v.toInt < 0 ∨ 71 < v.toInt
      · refine lv_tableOut (tgt := 2172) hx hb dL_law_33 hv (by decide) ?_
        exact kd σ τ hJ H ls hC hM hl
      · have h1 : ¬ v.toInt < 0 := fun z => hv (Or.inl z)
        have h2 : ¬ 71 < v.toInt := fun z => hv (Or.inr z)
        obtain ⟨z, hz⟩ : ∃ z : Nat, v.toInt = (z : Int) := ⟨v.toInt.toNat, by omega⟩
        have hz72 : z < 72 := by omega
        have hz0 : (v.toInt - 0).toNat = z := by omega
        obtain ⟨s0, s1, s2, s3, s4, s5, s6, s7, s8, s9, s10, s11, s12, s13, s14, s15, s16, s17, s18, s19, s20, s21, s22, s23, s24, s25, s26, s27, s28, s29, s30, s31, s32, s33, s34, s35, s36, s37, s38, s39, s40, s41, s42, s43, s44, s45, s46, s47, s48, s49, s50, s51, s52, s53, s54, s55, s56, s57, s58, s59, s60, s61, s62, s63, s64, s65, s66, s67, s68, s69, s70, s71⟩ := hs k hk6
        match z, hz72, hz0 with
        | 0, _, hz0 =>
          refine lv_tableIn (tgt := 336) (off := 303) hx hb dL_law_33 h1 h2 (by rw [hz0]; rfl) (by decide) ?_
          exact lw_case_0 C s0 hJ g1 g2 g3 g4 g5 kk H ls hC hM hl
        | 1, _, hz0 =>
          refine lv_tableIn (tgt := 399) (off := 366) hx hb dL_law_33 h1 h2 (by rw [hz0]; rfl) (by decide) ?_
          exact lw_case_1 C s1 hJ g1 g2 g3 g4 g5 kk H ls hC hM hl
        | 2, _, hz0 =>
          refine lv_tableIn (tgt := 422) (off := 389) hx hb dL_law_33 h1 h2 (by rw [hz0]; rfl) (by decide) ?_
          exact lw_case_2 C s2 hJ g1 g2 g3 g4 g5 kk H ls hC hM hl
        | 3, _, hz0 =>
          refine lv_tableIn (tgt := 435) (off := 402) hx hb dL_law_33 h1 h2 (by rw [hz0]; rfl) (by decide) ?_
          exact lw_case_3 C s3 hJ g1 g2 g3 g4 g5 kk H ls hC hM hl
        | 4, _, hz0 =>
          refine lv_tableIn (tgt := 458) (off := 425) hx hb dL_law_33 h1 h2 (by rw [hz0]; rfl) (by decide) ?_
          exact lw_case_4 C s4 hJ g1 g2 g3 g4 g5 kk H ls hC hM hl
        | 5, _, hz0 =>
          refine lv_tableIn (tgt := 491) (off := 458) hx hb dL_law_33 h1 h2 (by rw [hz0]; rfl) (by decide) ?_
          exact lw_case_5 C s5 hJ g1 g2 g3 g4 g5 kk H ls hC hM hl
        | 6, _, hz0 =>
          refine lv_tableIn (tgt := 524) (off := 491) hx hb dL_law_33 h1 h2 (by rw [hz0]; rfl) (by decide) ?_
          exact lw_case_6 C s6 hJ g1 g2 g3 g4 g5 kk H ls hC hM hl
        | 7, _, hz0 =>
          refine lv_tableIn (tgt := 547) (off := 514) hx hb dL_law_33 h1 h2 (by rw [hz0]; rfl) (by decide) ?_
          exact lw_case_7 C s7 hJ g1 g2 g3 g4 g5 kk H ls hC hM hl
        | 8, _, hz0 =>
          refine lv_tableIn (tgt := 570) (off := 537) hx hb dL_law_33 h1 h2 (by rw [hz0]; rfl) (by decide) ?_
          exact lw_case_8 C s8 hJ g1 g2 g3 g4 g5 kk H ls hC hM hl
        | 9, _, hz0 =>
          refine lv_tableIn (tgt := 593) (off := 560) hx hb dL_law_33 h1 h2 (by rw [hz0]; rfl) (by decide) ?_
          exact lw_case_9 C s9 hJ g1 g2 g3 g4 g5 kk H ls hC hM hl
        | 10, _, hz0 =>
          refine lv_tableIn (tgt := 616) (off := 583) hx hb dL_law_33 h1 h2 (by rw [hz0]; rfl) (by decide) ?_
          exact lw_case_10 C s10 hJ g1 g2 g3 g4 g5 kk H ls hC hM hl
        | 11, _, hz0 =>
          refine lv_tableIn (tgt := 629) (off := 596) hx hb dL_law_33 h1 h2 (by rw [hz0]; rfl) (by decide) ?_
          exact lw_case_11 C s11 hJ g1 g2 g3 g4 g5 kk H ls hC hM hl
        | 12, _, hz0 =>
          refine lv_tableIn (tgt := 652) (off := 619) hx hb dL_law_33 h1 h2 (by rw [hz0]; rfl) (by decide) ?_
          exact lw_case_12 C s12 hJ g1 g2 g3 g4 g5 kk H ls hC hM hl
        | 13, _, hz0 =>
          refine lv_tableIn (tgt := 685) (off := 652) hx hb dL_law_33 h1 h2 (by rw [hz0]; rfl) (by decide) ?_
          exact lw_case_13 C s13 hJ g1 g2 g3 g4 g5 kk H ls hC hM hl
        | 14, _, hz0 =>
          refine lv_tableIn (tgt := 708) (off := 675) hx hb dL_law_33 h1 h2 (by rw [hz0]; rfl) (by decide) ?_
          exact lw_case_14 C s14 hJ g1 g2 g3 g4 g5 kk H ls hC hM hl
        | 15, _, hz0 =>
          refine lv_tableIn (tgt := 731) (off := 698) hx hb dL_law_33 h1 h2 (by rw [hz0]; rfl) (by decide) ?_
          exact lw_case_15 C s15 hJ g1 g2 g3 g4 g5 kk H ls hC hM hl
        | 16, _, hz0 =>
          refine lv_tableIn (tgt := 754) (off := 721) hx hb dL_law_33 h1 h2 (by rw [hz0]; rfl) (by decide) ?_
          exact lw_case_16 C s16 hJ g1 g2 g3 g4 g5 kk H ls hC hM hl
        | 17, _, hz0 =>
          refine lv_tableIn (tgt := 767) (off := 734) hx hb dL_law_33 h1 h2 (by rw [hz0]; rfl) (by decide) ?_
          exact lw_case_17 C s17 hJ g1 g2 g3 g4 g5 kk H ls hC hM hl
        | 18, _, hz0 =>
          refine lv_tableIn (tgt := 780) (off := 747) hx hb dL_law_33 h1 h2 (by rw [hz0]; rfl) (by decide) ?_
          exact lw_case_18 C s18 hJ g1 g2 g3 g4 g5 kk H ls hC hM hl
        | 19, _, hz0 =>
          refine lv_tableIn (tgt := 793) (off := 760) hx hb dL_law_33 h1 h2 (by rw [hz0]; rfl) (by decide) ?_
          exact lw_case_19 C s19 hJ g1 g2 g3 g4 g5 kk H ls hC hM hl
        | 20, _, hz0 =>
          refine lv_tableIn (tgt := 816) (off := 783) hx hb dL_law_33 h1 h2 (by rw [hz0]; rfl) (by decide) ?_
          exact lw_case_20 C s20 hJ g1 g2 g3 g4 g5 kk H ls hC hM hl
        | 21, _, hz0 =>
          refine lv_tableIn (tgt := 849) (off := 816) hx hb dL_law_33 h1 h2 (by rw [hz0]; rfl) (by decide) ?_
          exact lw_case_21 C s21 hJ g1 g2 g3 g4 g5 kk H ls hC hM hl
        | 22, _, hz0 =>
          refine lv_tableIn (tgt := 872) (off := 839) hx hb dL_law_33 h1 h2 (by rw [hz0]; rfl) (by decide) ?_
          exact lw_case_22 C s22 hJ g1 g2 g3 g4 g5 kk H ls hC hM hl
        | 23, _, hz0 =>
          refine lv_tableIn (tgt := 885) (off := 852) hx hb dL_law_33 h1 h2 (by rw [hz0]; rfl) (by decide) ?_
          exact lw_case_23 C s23 hJ g1 g2 g3 g4 g5 kk H ls hC hM hl
        | 24, _, hz0 =>
          refine lv_tableIn (tgt := 908) (off := 875) hx hb dL_law_33 h1 h2 (by rw [hz0]; rfl) (by decide) ?_
          exact lw_case_24 C s24 hJ g1 g2 g3 g4 g5 kk H ls hC hM hl
        | 25, _, hz0 =>
          refine lv_tableIn (tgt := 931) (off := 898) hx hb dL_law_33 h1 h2 (by rw [hz0]; rfl) (by decide) ?_
          exact lw_case_25 C s25 hJ g1 g2 g3 g4 g5 kk H ls hC hM hl
        | 26, _, hz0 =>
          refine lv_tableIn (tgt := 944) (off := 911) hx hb dL_law_33 h1 h2 (by rw [hz0]; rfl) (by decide) ?_
          exact lw_case_26 C s26 hJ g1 g2 g3 g4 g5 kk H ls hC hM hl
        | 27, _, hz0 =>
          refine lv_tableIn (tgt := 967) (off := 934) hx hb dL_law_33 h1 h2 (by rw [hz0]; rfl) (by decide) ?_
          exact lw_case_27 C s27 hJ g1 g2 g3 g4 g5 kk H ls hC hM hl
        | 28, _, hz0 =>
          refine lv_tableIn (tgt := 990) (off := 957) hx hb dL_law_33 h1 h2 (by rw [hz0]; rfl) (by decide) ?_
          exact lw_case_28 C s28 hJ g1 g2 g3 g4 g5 kk H ls hC hM hl
        | 29, _, hz0 =>
          refine lv_tableIn (tgt := 1003) (off := 970) hx hb dL_law_33 h1 h2 (by rw [hz0]; rfl) (by decide) ?_
          exact lw_case_29 C s29 hJ g1 g2 g3 g4 g5 kk H ls hC hM hl
        | 30, _, hz0 =>
          refine lv_tableIn (tgt := 1026) (off := 993) hx hb dL_law_33 h1 h2 (by rw [hz0]; rfl) (by decide) ?_
          exact lw_case_30 C s30 hJ g1 g2 g3 g4 g5 kk H ls hC hM hl
        | 31, _, hz0 =>
          refine lv_tableIn (tgt := 1049) (off := 1016) hx hb dL_law_33 h1 h2 (by rw [hz0]; rfl) (by decide) ?_
          exact lw_case_31 C s31 hJ g1 g2 g3 g4 g5 kk H ls hC hM hl
        | 32, _, hz0 =>
          refine lv_tableIn (tgt := 1072) (off := 1039) hx hb dL_law_33 h1 h2 (by rw [hz0]; rfl) (by decide) ?_
          exact lw_case_32 C s32 hJ g1 g2 g3 g4 g5 kk H ls hC hM hl
        | 33, _, hz0 =>
          refine lv_tableIn (tgt := 1095) (off := 1062) hx hb dL_law_33 h1 h2 (by rw [hz0]; rfl) (by decide) ?_
          exact lw_case_33 C s33 hJ g1 g2 g3 g4 g5 kk H ls hC hM hl
        | 34, _, hz0 =>
          refine lv_tableIn (tgt := 1108) (off := 1075) hx hb dL_law_33 h1 h2 (by rw [hz0]; rfl) (by decide) ?_
          exact lw_case_34 C s34 hJ g1 g2 g3 g4 g5 kk H ls hC hM hl
        | 35, _, hz0 =>
          refine lv_tableIn (tgt := 1131) (off := 1098) hx hb dL_law_33 h1 h2 (by rw [hz0]; rfl) (by decide) ?_
          exact lw_case_35 C s35 hJ g1 g2 g3 g4 g5 kk H ls hC hM hl
        | 36, _, hz0 =>
          refine lv_tableIn (tgt := 1144) (off := 1111) hx hb dL_law_33 h1 h2 (by rw [hz0]; rfl) (by decide) ?_
          exact lw_case_36 C s36 hJ g1 g2 g3 g4 g5 kk H ls hC hM hl
        | 37, _, hz0 =>
          refine lv_tableIn (tgt := 1157) (off := 1124) hx hb dL_law_33 h1 h2 (by rw [hz0]; rfl) (by decide) ?_
          exact lw_case_37 C s37 hJ g1 g2 g3 g4 g5 kk H ls hC hM hl
        | 38, _, hz0 =>
          refine lv_tableIn (tgt := 1170) (off := 1137) hx hb dL_law_33 h1 h2 (by rw [hz0]; rfl) (by decide) ?_
          exact lw_case_38 C s38 hJ g1 g2 g3 g4 g5 kk H ls hC hM hl
        | 39, _, hz0 =>
          refine lv_tableIn (tgt := 1193) (off := 1160) hx hb dL_law_33 h1 h2 (by rw [hz0]; rfl) (by decide) ?_
          exact lw_case_39 C s39 hJ g1 g2 g3 g4 g5 kk H ls hC hM hl
        | 40, _, hz0 =>
          refine lv_tableIn (tgt := 1206) (off := 1173) hx hb dL_law_33 h1 h2 (by rw [hz0]; rfl) (by decide) ?_
          exact lw_case_40 C s40 hJ g1 g2 g3 g4 g5 kk H ls hC hM hl
        | 41, _, hz0 =>
          refine lv_tableIn (tgt := 1229) (off := 1196) hx hb dL_law_33 h1 h2 (by rw [hz0]; rfl) (by decide) ?_
          exact lw_case_41 C s41 hJ g1 g2 g3 g4 g5 kk H ls hC hM hl
        | 42, _, hz0 =>
          refine lv_tableIn (tgt := 1252) (off := 1219) hx hb dL_law_33 h1 h2 (by rw [hz0]; rfl) (by decide) ?_
          exact lw_case_42 C s42 hJ g1 g2 g3 g4 g5 kk H ls hC hM hl
        | 43, _, hz0 =>
          refine lv_tableIn (tgt := 1275) (off := 1242) hx hb dL_law_33 h1 h2 (by rw [hz0]; rfl) (by decide) ?_
          exact lw_case_43 C s43 hJ g1 g2 g3 g4 g5 kk H ls hC hM hl
        | 44, _, hz0 =>
          refine lv_tableIn (tgt := 1298) (off := 1265) hx hb dL_law_33 h1 h2 (by rw [hz0]; rfl) (by decide) ?_
          exact lw_case_44 C s44 hJ g1 g2 g3 g4 g5 kk H ls hC hM hl
        | 45, _, hz0 =>
          refine lv_tableIn (tgt := 1321) (off := 1288) hx hb dL_law_33 h1 h2 (by rw [hz0]; rfl) (by decide) ?_
          exact lw_case_45 C s45 hJ g1 g2 g3 g4 g5 kk H ls hC hM hl
        | 46, _, hz0 =>
          refine lv_tableIn (tgt := 1344) (off := 1311) hx hb dL_law_33 h1 h2 (by rw [hz0]; rfl) (by decide) ?_
          exact lw_case_46 C s46 hJ g1 g2 g3 g4 g5 kk H ls hC hM hl
        | 47, _, hz0 =>
          refine lv_tableIn (tgt := 1367) (off := 1334) hx hb dL_law_33 h1 h2 (by rw [hz0]; rfl) (by decide) ?_
          exact lw_case_47 C s47 hJ g1 g2 g3 g4 g5 kk H ls hC hM hl
        | 48, _, hz0 =>
          refine lv_tableIn (tgt := 1390) (off := 1357) hx hb dL_law_33 h1 h2 (by rw [hz0]; rfl) (by decide) ?_
          exact lw_case_48 C s48 hJ g1 g2 g3 g4 g5 kk H ls hC hM hl
        | 49, _, hz0 =>
          refine lv_tableIn (tgt := 1413) (off := 1380) hx hb dL_law_33 h1 h2 (by rw [hz0]; rfl) (by decide) ?_
          exact lw_case_49 C s49 hJ g1 g2 g3 g4 g5 kk H ls hC hM hl
        | 50, _, hz0 =>
          refine lv_tableIn (tgt := 1436) (off := 1403) hx hb dL_law_33 h1 h2 (by rw [hz0]; rfl) (by decide) ?_
          exact lw_case_50 C s50 hJ g1 g2 g3 g4 g5 kk H ls hC hM hl
        | 51, _, hz0 =>
          refine lv_tableIn (tgt := 1459) (off := 1426) hx hb dL_law_33 h1 h2 (by rw [hz0]; rfl) (by decide) ?_
          exact lw_case_51 C s51 hJ g1 g2 g3 g4 g5 kk H ls hC hM hl
        | 52, _, hz0 =>
          refine lv_tableIn (tgt := 1482) (off := 1449) hx hb dL_law_33 h1 h2 (by rw [hz0]; rfl) (by decide) ?_
          exact lw_case_52 C s52 hJ g1 g2 g3 g4 g5 kk H ls hC hM hl
        | 53, _, hz0 =>
          refine lv_tableIn (tgt := 1515) (off := 1482) hx hb dL_law_33 h1 h2 (by rw [hz0]; rfl) (by decide) ?_
          exact lw_case_53 C s53 hJ g1 g2 g3 g4 g5 kk H ls hC hM hl
        | 54, _, hz0 =>
          refine lv_tableIn (tgt := 1568) (off := 1535) hx hb dL_law_33 h1 h2 (by rw [hz0]; rfl) (by decide) ?_
          exact lw_case_54 C s54 hJ g1 g2 g3 g4 g5 kk H ls hC hM hl
        | 55, _, hz0 =>
          refine lv_tableIn (tgt := 1591) (off := 1558) hx hb dL_law_33 h1 h2 (by rw [hz0]; rfl) (by decide) ?_
          exact lw_case_55 C s55 hJ g1 g2 g3 g4 g5 kk H ls hC hM hl
        | 56, _, hz0 =>
          refine lv_tableIn (tgt := 1604) (off := 1571) hx hb dL_law_33 h1 h2 (by rw [hz0]; rfl) (by decide) ?_
          exact lw_case_56 C s56 hJ g1 g2 g3 g4 g5 kk H ls hC hM hl
        | 57, _, hz0 =>
          refine lv_tableIn (tgt := 1647) (off := 1614) hx hb dL_law_33 h1 h2 (by rw [hz0]; rfl) (by decide) ?_
          exact lw_case_57 C s57 hJ g1 g2 g3 g4 g5 kk H ls hC hM hl
        | 58, _, hz0 =>
          refine lv_tableIn (tgt := 1690) (off := 1657) hx hb dL_law_33 h1 h2 (by rw [hz0]; rfl) (by decide) ?_
          exact lw_case_58 C s58 hJ g1 g2 g3 g4 g5 kk H ls hC hM hl
        | 59, _, hz0 =>
          refine lv_tableIn (tgt := 1723) (off := 1690) hx hb dL_law_33 h1 h2 (by rw [hz0]; rfl) (by decide) ?_
          exact lw_case_59 C s59 hJ g1 g2 g3 g4 g5 kk H ls hC hM hl
        | 60, _, hz0 =>
          refine lv_tableIn (tgt := 1756) (off := 1723) hx hb dL_law_33 h1 h2 (by rw [hz0]; rfl) (by decide) ?_
          exact lw_case_60 C s60 hJ g1 g2 g3 g4 g5 kk H ls hC hM hl
        | 61, _, hz0 =>
          refine lv_tableIn (tgt := 1789) (off := 1756) hx hb dL_law_33 h1 h2 (by rw [hz0]; rfl) (by decide) ?_
          exact lw_case_61 C s61 hJ g1 g2 g3 g4 g5 kk H ls hC hM hl
        | 62, _, hz0 =>
          refine lv_tableIn (tgt := 1802) (off := 1769) hx hb dL_law_33 h1 h2 (by rw [hz0]; rfl) (by decide) ?_
          exact lw_case_62 C s62 hJ g1 g2 g3 g4 g5 kk H ls hC hM hl
        | 63, _, hz0 =>
          refine lv_tableIn (tgt := 1815) (off := 1782) hx hb dL_law_33 h1 h2 (by rw [hz0]; rfl) (by decide) ?_
          exact lw_case_63 C s63 hJ g1 g2 g3 g4 g5 kk H ls hC hM hl
        | 64, _, hz0 =>
          refine lv_tableIn (tgt := 1848) (off := 1815) hx hb dL_law_33 h1 h2 (by rw [hz0]; rfl) (by decide) ?_
          exact lw_case_64 C s64 hJ g1 g2 g3 g4 g5 kk H ls hC hM hl
        | 65, _, hz0 =>
          refine lv_tableIn (tgt := 1891) (off := 1858) hx hb dL_law_33 h1 h2 (by rw [hz0]; rfl) (by decide) ?_
          exact lw_case_65 C s65 hJ g1 g2 g3 g4 g5 kk H ls hC hM hl
        | 66, _, hz0 =>
          refine lv_tableIn (tgt := 1924) (off := 1891) hx hb dL_law_33 h1 h2 (by rw [hz0]; rfl) (by decide) ?_
          exact lw_case_66 C s66 hJ g1 g2 g3 g4 g5 kk H ls hC hM hl
        | 67, _, hz0 =>
          refine lv_tableIn (tgt := 1947) (off := 1914) hx hb dL_law_33 h1 h2 (by rw [hz0]; rfl) (by decide) ?_
          exact lw_case_67 C s67 hJ g1 g2 g3 g4 g5 kk H ls hC hM hl
        | 68, _, hz0 =>
          refine lv_tableIn (tgt := 1970) (off := 1937) hx hb dL_law_33 h1 h2 (by rw [hz0]; rfl) (by decide) ?_
          exact lw_case_68 C s68 hJ g1 g2 g3 g4 g5 kk H ls hC hM hl
        | 69, _, hz0 =>
          refine lv_tableIn (tgt := 1993) (off := 1960) hx hb dL_law_33 h1 h2 (by rw [hz0]; rfl) (by decide) ?_
          exact lw_case_69 C s69 hJ g1 g2 g3 g4 g5 kk H ls hC hM hl
        | 70, _, hz0 =>
          refine lv_tableIn (tgt := 2036) (off := 2003) hx hb dL_law_33 h1 h2 (by rw [hz0]; rfl) (by decide) ?_
          exact lw_case_70 C s70 hJ g1 g2 g3 g4 g5 kk H ls hC hM hl
        | 71, _, hz0 =>
          refine lv_tableIn (tgt := 2109) (off := 2076) hx hb dL_law_33 h1 h2 (by rw [hz0]; rfl) (by decide) ?_
          exact lw_case_71 C s71 hJ g1 g2 g3 g4 g5 kk H ls hC hM hl
        | z + 72, hz, _ => exact absurd hz (by omega)
end
/-- an object made in an empty world -/
theorem lw_new0 {p : Program} {l : Launch} {e : Env} {R : Room} {s : State} {m : MethodId} {args : Array Value} {below : List Frame} {meth : Method} {c : Code} {H : Heap} {cells slots : Nat} {Q : State → Prop} {cc : ByteArray} {pc nL N0 : Nat} {ls : Array Slot} {rest : List Value} {own : String} {ret : Option FieldType} {D : va_G} {ct : Nat → ClassId} {ad : Nat → Nat} {A : Nat → Prop}
    {index ci N : Nat} {K : String} {T : u_T} {ty : Nat → FieldType} {ks : List Nat} (C : sn_C p s m args meth c own cc nL ret D ct ad [] A) (hE : sn_E0 ad A N0) (hz : H.size = N0) (hS : va_S A s.heap H [])
    (hc : vwCl[ci]? = some (K, T, N)) (hin : ∀ w ∈ u_ws K T N, w ∈ sn_gw) (hty : ∀ k, k < N → parseFieldDescriptor (T k).2.2.1 = some (ty k)) (w1 : Cond.classLink own index K ∈ sn_gw) (w2 : Cond.instantiable K N ∈ sn_gw) (w3 : Cond.initialized K ∈ sn_gw)
    (hfs : ∀ (ad : Nat → Nat) (q j : Nat), j < N → defaultValue (ty j) = vp_V (sn_fs ad sn_z q 0 ks) j) (hce : cells + 1 ≤ R.cells) (hsl : slots + N ≤ R.slots) (hd : decode cc pc = .ok (.new index, 3))
    (kk : ∀ (H1 : Heap), sn_C p s m args meth c own cc nL ret D ct ad [.inr (ci, ks)] A → sn_H s D ct ad [.inr (ci, ks)] A sn_z H1 [] → H1.size = N0 + 1 → (∀ q, q < H.size → H1[q]? = H[q]?) → W p l e R s m args below meth c H1 [] (cells + 1) (slots + N) Q (F0 m (pc + 3) ls (.ref (ad 0) :: rest))) :
    W p l e R s m args below meth c H [] cells slots Q (F0 m pc ls rest) := by
  have C2 := sn_C_lay (lay2 := [.inr (ci, ks)]) C hE (show 1 ≤ 200 by decide)
  obtain ⟨hx, hb, hml, hown, hts, hr, hlk, hK, hD, hG⟩ := C
  have hKn := hK.1 ci _ hc
  have e0 : ad 0 = N0 := by rw [hE.1 0 (by decide)]; rfl
  refine W.newcK hx hb hown (hts _ w1) (hts _ w2) (hts _ w3) rfl hd hce hsl hKn.2.1 hz fun H1 kC hkC e1 z1 o1 => ?_
  have h0 : sn_H s D ct ad [] A sn_z H [] := ⟨fun k q h => by simp [sn_W] at h, hS⟩
  rw [← e0]
  refine kk H1 C2 (sn_grow (lay := []) hE (by decide) (by rw [hz]; rfl) h0 ?_ (by rw [z1, hz]) (fun q hq => o1 q (by rw [← hz]; exact hq))) z1 (fun q hq => o1 q (by rw [← hz]; exact hq))
  rw [← e0] at e1
  exact ⟨_, hc, (u_born ty hts hin hKn hkC e1 hty).to (hfs ad 0)⟩
/-- a constructor called from the law -/
theorem lw_ctor {p : Program} {l : Launch} {e : Env} {R : Room} {s : State} {m : MethodId} {args : Array Value} {below : List Frame} {meth : Method} {c : Code} {H : Heap} {cells slots : Nat} {Q : State → Prop} {cc : ByteArray} {pc nL N0 : Nat} {ls : Array Slot} {own : String} {ret : Option FieldType} {D : va_G} {ct : Nat → ClassId} {ad : Nat → Nat} {A : Nat → Prop} {lay : List sn_E} {σ : sn_S}
    {index mL n q mc ms : Nat} {y : MethodName} {cy : ByteArray} {rm : Room} {As : (Nat → Nat) → List Value} {lay' : List sn_E} {τ : sn_S} {st0 : List Value} (rest : List Value) (C : sn_C p s m args meth c own cc nL ret D ct ad lay A) (hE : sn_E0 ad A N0) (hA : ∀ q, A q → s.heap.size ≤ q) (h : sn_H s D ct ad lay A σ H []) (hz : H.size = N0 + lay.length) (hO : sn_AO s)
    (hM : sn_MA l y cy mL rm lay lay' (fun ad => .ref (ad q) :: As ad) σ τ mc ms) (L1 : Cond.code y cy mL none ∈ sn_gw) (L2 : Cond.methodLink own index y ∈ sn_gw) (L3 : Cond.instanceMethod y ∈ sn_gw) (L4 : Cond.initialized y.cls ∈ sn_gw) (hyn : y.name = "<init>") (L5 : y.cls ≠ "java/lang/invoke/MethodHandle" ∧ y.cls ≠ "java/lang/invoke/VarHandle" ∧ (parseMethodDescriptor y.desc).map (fun d => d.parameters.length) = some n)
    (hR : sn_fitA rm R mL mc ms = true) (hn : (As ad).length = n) (hst : st0 = (As ad).reverse ++ .ref (ad q) :: rest) (hsum : sn_sum rest ≤ 8) (hd : decode cc pc = .ok (.invokespecial index, 3)) (hls : ls.size = nL) (hce : cells + mc ≤ R.cells) (hsl : slots + ms ≤ R.slots)
    (kk : ∀ (H1 : Heap), sn_H s D ct ad lay' A τ H1 [] → H.size ≤ H1.size → (∀ q, q < H.size → ¬ A q → H1[q]? = H[q]?) → W p l e R s m args below meth c H1 [] (cells + mc) (slots + ms) Q (F0 m (pc + 3) ls rest)) : W p l e R s m args below meth c H [] cells slots Q (F0 m pc ls st0) := by
  obtain ⟨hfit, hc0, hs0⟩ := sn_fitA_spec hR
  have C' := C
  obtain ⟨hx, hb, hml, hown, hts, hr, hlk, hK, hD, hG⟩ := C
  have hrun := va_runI (meth := meth) (l := l) (e := e) (R := R) (below := below) (H := H) (locs := []) (cells := cells) (slots := slots) (g := F0 m pc ls st0) (Ts := sn_gw) (As := As ad) (rest := rest) (n := n) ⟨hx, hb, hml, hown, hts⟩ (hM D ct ad A N0 hE) (cwI n hts (sn_good (sn_cg L1)) rfl hc0 hs0 (hts _ L4) (hts _ L2) (hts _ L3) hyn L5 hfit) (sn_preA C' h hz hO _) rfl hn hls hst (lv_room hsum) hd ⟨hce, hsl⟩
  intro T hT X
  obtain ⟨v', st₀, t, T', Lo, h0, X', hL, e1, e2, ⟨hv, hP, hzz, hk⟩, st⟩ := hrun T hT X
  cases hv
  rw [h0] at hzz hk
  obtain ⟨t2, a1, b1⟩ := kk T'.heap ⟨by rw [e1]; exact hP, Nat.le_trans h.2.1 (by rw [e1]; exact hzz), fun x h1 h2 => by rw [e1, hk x (Nat.lt_of_lt_of_le h1 h.2.1) h2]; exact h.2.2.1 x h1 h2, fun x hx1 => by cases hx1⟩ (by rw [e1]; exact hzz) (fun x h1 h2 => by rw [e1]; exact hk x h1 h2) T' rfl (Stand.forget (locs := []) X' (fun x hx1 => hA _ (hL x hx1)))
  exact ⟨t2, st t2 a1, b1⟩
theorem sn_W_ext {ct : Nat → ClassId} {ad : Nat → Nat} {σ : sn_S} : ∀ (l1 l2 : List sn_E) (j : Nat), l1.length = l2.length → (∀ k x y, l1[k]? = some x → l2[k]? = some y → sn_ev ct ad σ (j + k) x = sn_ev ct ad σ (j + k) y) → sn_W ct ad σ j l1 = sn_W ct ad σ j l2 := by
  intro l1
  induction l1 with
  | nil => intro l2 j h _; cases l2 with
    | nil => rfl
    | cons y r => simp at h
  | cons x r ih =>
    intro l2 j h hk
    cases l2 with
    | nil => simp at h
    | cons y r2 =>
      show (ad j, sn_ev ct ad σ j x) :: sn_W ct ad σ (j + 1) r = (ad j, sn_ev ct ad σ j y) :: sn_W ct ad σ (j + 1) r2
      rw [ih r2 (j + 1) (by simpa using h) (fun k a b h1 h2 => by
        have := hk (k + 1) a b (by simpa using h1) (by simpa using h2)
        rw [show j + 1 + k = j + (k + 1) by omega]
        exact this)]
      have := hk 0 x y rfl rfl
      rw [Nat.add_zero] at this
      rw [this]
theorem lw_dynX8 {ct : Nat → ClassId} {ad : Nat → Nat} : sn_W ct ad sn_iniX8 0 sn_dynX8 = sn_W ct ad sn_iniX8 0 layC := by
  refine sn_W_ext _ _ 0 rfl (fun k x y h1 h2 => ?_)
  match k, h1, h2 with
  | 0, h1, h2 => cases h1; cases h2; rfl
  | 1, h1, h2 => cases h1; cases h2; rfl
  | 2, h1, h2 => cases h1; cases h2; rfl
  | 3, h1, h2 => cases h1; cases h2; rfl
  | 4, h1, h2 => cases h1; cases h2; rfl
  | 5, h1, h2 => cases h1; cases h2; rfl
  | 6, h1, h2 => cases h1; cases h2; rfl
  | 7, h1, h2 => cases h1; cases h2; rfl
  | 8, h1, h2 => cases h1; cases h2; rfl
  | 9, h1, h2 => cases h1; cases h2; rfl
  | 10, h1, h2 => cases h1; cases h2; rfl
  | 11, h1, h2 => cases h1; cases h2; rfl
  | 12, h1, h2 => cases h1; cases h2; rfl
  | 13, h1, h2 => cases h1; cases h2; rfl
  | 14, h1, h2 => cases h1; cases h2; rfl
  | 15, h1, h2 =>
    cases h1
    cases h2
    refine congrArg (fun z => Sum.inl (ct 4, 3, Sum.inr (Sum.inr (Sum.inr (Sum.inr z))))) (funext fun j => ?_)
    match j with
    | 0 => rfl
    | 1 => rfl
    | 2 => rfl
    | j + 3 => rfl
  | 16, h1, h2 => cases h1; cases h2; rfl
  | 17, h1, h2 => cases h1; cases h2; rfl
  | 18, h1, h2 => cases h1; cases h2; rfl
  | 19, h1, h2 => cases h1; cases h2; rfl
  | 20, h1, h2 =>
    cases h1
    cases h2
    refine congrArg (fun z => Sum.inl (ct 5, 4, Sum.inr (Sum.inr (Sum.inr (Sum.inr z))))) (funext fun j => ?_)
    match j with
    | 0 => rfl
    | 1 => rfl
    | 2 => rfl
    | 3 => rfl
    | j + 4 => rfl
  | 21, h1, h2 => cases h1; cases h2; rfl
  | 22, h1, h2 => cases h1; cases h2; rfl
  | 23, h1, h2 => cases h1; cases h2; rfl
  | 24, h1, h2 => cases h1; cases h2; rfl
  | 25, h1, h2 => cases h1; cases h2; rfl
  | 26, h1, h2 => cases h1; cases h2; rfl
  | 27, h1, h2 => cases h1; cases h2; rfl
  | 28, h1, h2 => cases h1; cases h2; rfl
  | 29, h1, h2 => cases h1; cases h2; rfl
  | 30, h1, h2 => cases h1; cases h2; rfl
  | 31, h1, h2 => cases h1; cases h2; rfl
  | 32, h1, h2 => cases h1; cases h2; rfl
  | 33, h1, h2 => cases h1; cases h2; rfl
  | 34, h1, h2 => cases h1; cases h2; rfl
  | 35, h1, h2 => cases h1; cases h2; rfl
  | 36, h1, h2 => cases h1; cases h2; rfl
  | 37, h1, h2 => cases h1; cases h2; rfl
  | 38, h1, h2 => cases h1; cases h2; rfl
  | 39, h1, h2 => cases h1; cases h2; rfl
  | 40, h1, h2 => cases h1; cases h2; rfl
  | 41, h1, h2 => cases h1; cases h2; rfl
  | 42, h1, h2 => cases h1; cases h2; rfl
  | 43, h1, h2 => cases h1; cases h2; rfl
  | 44, h1, h2 => cases h1; cases h2; rfl
  | 45, h1, h2 => cases h1; cases h2; rfl
  | 46, h1, h2 => cases h1; cases h2; rfl
  | 47, h1, h2 => cases h1; cases h2; rfl
  | 48, h1, h2 => cases h1; cases h2; rfl
  | 49, h1, h2 => cases h1; cases h2; rfl
  | 50, h1, h2 => cases h1; cases h2; rfl
  | 51, h1, h2 => cases h1; cases h2; rfl
  | 52, h1, h2 => cases h1; cases h2; rfl
  | 53, h1, h2 => cases h1; cases h2; rfl
  | 54, h1, h2 => cases h1; cases h2; rfl
  | 55, h1, h2 => cases h1; cases h2; rfl
  | 56, h1, h2 => cases h1; cases h2; rfl
  | 57, h1, h2 => cases h1; cases h2; rfl
  | 58, h1, h2 => cases h1; cases h2; rfl
  | 59, h1, h2 => cases h1; cases h2; rfl
  | 60, h1, h2 => cases h1; cases h2; rfl
  | 61, h1, h2 => cases h1; cases h2; rfl
  | 62, h1, h2 => cases h1; cases h2; rfl
  | 63, h1, h2 => cases h1; cases h2; rfl
  | 64, h1, h2 => cases h1; cases h2; rfl
  | 65, h1, h2 => cases h1; cases h2; rfl
  | 66, h1, h2 => cases h1; cases h2; rfl
  | 67, h1, h2 => cases h1; cases h2; rfl
  | 68, h1, h2 => cases h1; cases h2; rfl
  | 69, h1, h2 => cases h1; cases h2; rfl
  | 70, h1, h2 => cases h1; cases h2; rfl
  | 71, h1, h2 => cases h1; cases h2; rfl
  | 72, h1, h2 => cases h1; cases h2; rfl
  | 73, h1, h2 => cases h1; cases h2; rfl
  | 74, h1, h2 => cases h1; cases h2; rfl
  | 75, h1, h2 => cases h1; cases h2; rfl
  | 76, h1, h2 => cases h1; cases h2; rfl
  | 77, h1, h2 => cases h1; cases h2; rfl
  | 78, h1, h2 => cases h1; cases h2; rfl
  | 79, h1, h2 => cases h1; cases h2; rfl
  | 80, h1, h2 => cases h1; cases h2; rfl
  | 81, h1, h2 => cases h1; cases h2; rfl
  | 82, h1, h2 => cases h1; cases h2; rfl
  | 83, h1, h2 => cases h1; cases h2; rfl
  | 84, h1, h2 => cases h1; cases h2; rfl
  | 85, h1, h2 => cases h1; cases h2; rfl
  | 86, h1, h2 => cases h1; cases h2; rfl
  | 87, h1, h2 => cases h1; cases h2; rfl
  | 88, h1, h2 => cases h1; cases h2; rfl
  | 89, h1, h2 => cases h1; cases h2; rfl
  | 90, h1, h2 => cases h1; cases h2; rfl
  | 91, h1, h2 => cases h1; cases h2; rfl
  | 92, h1, h2 => cases h1; cases h2; rfl
  | 93, h1, h2 => cases h1; cases h2; rfl
  | k + 94, h1, _ => simp [sn_dynX8] at h1
theorem lw_dynX9 {ct : Nat → ClassId} {ad : Nat → Nat} : sn_W ct ad sn_iniX9 0 sn_dynX9 = sn_W ct ad sn_iniX9 0 layM := by
  refine sn_W_ext _ _ 0 rfl (fun k x y h1 h2 => ?_)
  match k, h1, h2 with
  | 0, h1, h2 => cases h1; cases h2; rfl
  | 1, h1, h2 => cases h1; cases h2; rfl
  | 2, h1, h2 => cases h1; cases h2; rfl
  | 3, h1, h2 => cases h1; cases h2; rfl
  | 4, h1, h2 => cases h1; cases h2; rfl
  | 5, h1, h2 => cases h1; cases h2; rfl
  | 6, h1, h2 => cases h1; cases h2; rfl
  | 7, h1, h2 => cases h1; cases h2; rfl
  | 8, h1, h2 => cases h1; cases h2; rfl
  | 9, h1, h2 => cases h1; cases h2; rfl
  | 10, h1, h2 => cases h1; cases h2; rfl
  | 11, h1, h2 => cases h1; cases h2; rfl
  | 12, h1, h2 => cases h1; cases h2; rfl
  | 13, h1, h2 => cases h1; cases h2; rfl
  | 14, h1, h2 => cases h1; cases h2; rfl
  | 15, h1, h2 => cases h1; cases h2; rfl
  | 16, h1, h2 => cases h1; cases h2; rfl
  | 17, h1, h2 => cases h1; cases h2; rfl
  | 18, h1, h2 => cases h1; cases h2; rfl
  | 19, h1, h2 => cases h1; cases h2; rfl
  | 20, h1, h2 => cases h1; cases h2; rfl
  | 21, h1, h2 => cases h1; cases h2; rfl
  | 22, h1, h2 => cases h1; cases h2; rfl
  | 23, h1, h2 => cases h1; cases h2; rfl
  | 24, h1, h2 => cases h1; cases h2; rfl
  | k + 25, h1, _ => simp [sn_dynX9] at h1
theorem kcl_RL_7 : Cond.classLink RL 7 RX8 ∈ sn_gw := sn_gwI (List.mem_of_getElem? (i := 19) (by decide +kernel)) (by decide +kernel)
theorem kcl_RL_10 : Cond.classLink RL 10 RX9 ∈ sn_gw := sn_gwI (List.mem_of_getElem? (i := 1073) (by decide +kernel)) (by decide +kernel)
theorem km_RL_9 : Cond.methodLink RL 9 yX8_init ∈ sn_gw := sn_gwI (List.mem_of_getElem? (i := 21) (by decide +kernel)) (by decide +kernel)
theorem km_RL_12 : Cond.methodLink RL 12 yX9_init ∈ sn_gw := sn_gwI (List.mem_of_getElem? (i := 1075) (by decide +kernel)) (by decide +kernel)
theorem kc_X8_init : Cond.code yX8_init cX8_init 2 none ∈ sn_gw := sn_gwI (List.mem_of_getElem? (i := 23) (by decide +kernel)) (by decide +kernel)
theorem kc_X9_init : Cond.code yX9_init cX9_init 1 none ∈ sn_gw := sn_gwI (List.mem_of_getElem? (i := 1077) (by decide +kernel)) (by decide +kernel)
theorem kin_X8_init : Cond.instanceMethod yX8_init ∈ sn_gw := sn_gwI (List.mem_of_getElem? (i := 22) (by decide +kernel)) (by decide +kernel)
theorem kin_X9_init : Cond.instanceMethod yX9_init ∈ sn_gw := sn_gwI (List.mem_of_getElem? (i := 1076) (by decide +kernel)) (by decide +kernel)
theorem kiz8 : Cond.initialized RX8 ∈ sn_gw := sn_gwI (List.mem_of_getElem? (i := 1) (by decide +kernel)) (by decide +kernel)
theorem kiz9 : Cond.initialized RX9 ∈ sn_gw := sn_gwI (List.mem_of_getElem? (i := 11) (by decide +kernel)) (by decide +kernel)
set_option maxHeartbeats 4000000 in
/-- the law from its entry, given that class and reference go step by step -/
theorem whole_start_open (hpure : ∃ J : Nat → sn_S → sn_S → Prop, J 0 sn_iniX8 sn_iniX9 ∧ (∀ k, k + 6 ≤ 3072 → st_all (J k) (J (k + 6))) ∧ ∀ k, k + 6 ≤ 3072 → ∀ σ τ, J k σ τ → J (k + 6) σ τ) {p : Program} {e : Env} {s : State} {m : MethodId} {below : List Frame} {meth : Method} {c : Code} (l : Launch) {b L : Nat} {xs : Nat → Int32} (hL : L ≤ 3072) (C0 : lw_At p s m meth c b L xs) : W p l e room_1 s m #[Value.ref b] below meth c s.heap [] 0 0 (lw_Z below #[Value.ref b] s) (entryFrame m ([Value.ref b] : List Value).toArray 4) := by
  obtain ⟨J, hJ0, hst, hdf⟩ := hpure
  obtain ⟨hx, hb, hr, hml, hown, hts, hX, hbl, hlocks, hgv⟩ := id C0
  have htg : ∀ w ∈ sn_gw, w.before #[Value.ref b] s = true := fun w hw => hts w (List.mem_filter.mp hw).1
  have hO : sn_AO s := by
    have q1 := hts (.arrayOver (.object "PepperPolicy$House")) (List.mem_append_right _ (List.mem_of_getElem? (i := 67) (by decide +kernel)))
    have q2 := hts (.arrayOver (.array .long)) (List.mem_append_right _ (List.mem_of_getElem? (i := 110) (by decide +kernel)))
    refine ⟨?_, ?_⟩
    · unfold Cond.before Cond.holds at q1 ⊢
      simp only [Cond.value] at q1 ⊢
      exact q1
    · unfold Cond.before Cond.holds at q2 ⊢
      simp only [Cond.value] at q2 ⊢
      exact q2
  obtain ⟨D, ct, hK⟩ := lw_Kn htg hO
  obtain ⟨aK, aV, hbg⟩ := lw_bg hts hgv
  have hE1 : ∀ N0, sn_E0 (lw_ad N0 aK aV) (fun q => N0 ≤ q) N0 := fun N0 => ⟨fun k hk => if_pos (by omega), fun q h => h⟩
  have hA0 : ∀ q : Nat, (fun q : Nat => s.heap.size ≤ q) q → s.heap.size ≤ q := fun q h => h
  have hC00 : sn_C p s m #[Value.ref b] meth c RL cL_law 4 (some .boolean) D ct (lw_ad s.heap.size aK aV) [] (fun q => s.heap.size ≤ q) := ⟨hx, hb, hml, hown, htg, hr, hlocks, hK, sn_D_of (hE1 _) (by decide), hbg _ _ hA0⟩
  have hl := lv_entry ([.ref b]) (n := 4) (Nat.le_of_ble_eq_true rfl)
  rw [lg_entry_eq]
  generalize (lg_sl ([.ref b]) ++ List.replicate (4 - (lg_sl ([.ref b])).length) Slot.unset).toArray = ls at hl ⊢
  have hl : lv_has ls 4 [(0, .ref b)] := hl
  refine lw_new0 (ci := 8) (ks := [2, 2, 2, 2, 2, 2, 2, 2, 2, 2, 2, 2]) hC00 (hE1 _) rfl va_S.rf rfl ug_X8 tyX8_ok kcl_RL_7 kiz_X8 kiz8 sn_dfX8 (Nat.le_of_ble_eq_true rfl) (Nat.le_of_ble_eq_true rfl) dL_law_0 (fun H1 C1 h1 z1 o1 => ?_)
  refine lv_dup hx hb dL_law_3 rfl ?_
  refine lw_ctor (As := fun _ => []) (q := 0) (lay' := sn_dynX8) (τ := sn_iniX8) (mc := 93) (ms := 3910) (n := 0) [.ref (lw_ad s.heap.size aK aV 0)] C1 (hE1 _) hA0 h1 z1 hO (ctX8_init l) kc_X8_init km_RL_9 kin_X8_init kiz8 rfl (by decide +kernel) rfl rfl rfl (Nat.le_of_ble_eq_true rfl) dL_law_4 hl.1 (Nat.le_of_ble_eq_true rfl) (Nat.le_of_ble_eq_true rfl) (fun H2 h2 z2 o2 => ?_)
  refine lv_astore_n (lv' := [(1, .ref (lw_ad s.heap.size aK aV 0)), (0, .ref b)]) hx hb dL_law_7 rfl hl (by decide) rfl (fun ls hl => ?_)
  -- the second object: its places begin where the heap ends
  generalize hN1 : H2.size = N1
  have hge : s.heap.size + 94 ≤ N1 := by
    have h3 := (h2.1 93 _ (sn_W_get (lay := sn_dynX8) 0 (q := 93) (x := .inl (0, 120, 0, [])) rfl)).lt
    have h4 : lw_ad s.heap.size aK aV (0 + 93) < H2.size := h3
    rw [(hE1 s.heap.size).1 _ (by decide)] at h4
    omega
  have hAM : ∀ q : Nat, (fun q : Nat => N1 ≤ q) q → s.heap.size ≤ q := fun q h => Nat.le_trans (by omega) h
  have hM00 : sn_C p s m #[Value.ref b] meth c RL cL_law 4 (some .boolean) D ct (lw_ad N1 aK aV) [] (fun q => N1 ≤ q) := ⟨hx, hb, hml, hown, htg, hr, hlocks, hK, sn_D_of (hE1 _) (by decide), hbg _ _ hAM⟩
  have hold2 : ∀ x, x < s.heap.size → H2[x]? = s.heap[x]? := fun x hx1 => h2.2.2.1 x hx1 (fun z => absurd (show s.heap.size ≤ x from z) (by omega))
  refine lw_new0 (ci := 9) (ks := [0, 2, 2, 2, 2, 0, 2, 0, 0, 0, 0, 0, 0, 0, 2, 2, 2, 2, 0, 0, 0, 0, 0, 2, 2, 2, 2, 2, 2, 2, 0, 0, 2, 2, 2, 2, 0, 0, 1, 1, 1, 1, 2, 2, 2, 2]) hM00 (hE1 _) hN1 ⟨by omega, fun q q1 _ => hold2 q q1, fun q hq => by cases hq⟩ rfl ug_X9 tyX9_ok kcl_RL_10 kiz_X9 kiz9 sn_dfX9 (Nat.le_of_ble_eq_true rfl) (Nat.le_of_ble_eq_true rfl) dL_law_8 (fun H3 C3 h3 z3 o3 => ?_)
  refine lv_dup hx hb dL_law_11 rfl ?_
  refine lw_ctor (As := fun _ => []) (q := 0) (lay' := sn_dynX9) (τ := sn_iniX9) (mc := 24) (ms := 6103) (n := 0) [.ref (lw_ad N1 aK aV 0)] C3 (hE1 _) hAM h3 z3 hO (ctX9_init l) kc_X9_init km_RL_12 kin_X9_init kiz9 rfl (by decide +kernel) rfl rfl rfl (Nat.le_of_ble_eq_true rfl) dL_law_12 hl.1 (Nat.le_of_ble_eq_true rfl) (Nat.le_of_ble_eq_true rfl) (fun H4 h4 z4 o4 => ?_)
  refine lv_astore_n (lv' := [(2, .ref (lw_ad N1 aK aV 0)), (1, .ref (lw_ad s.heap.size aK aV 0)), (0, .ref b)]) hx hb dL_law_15 rfl hl (by decide) rfl (fun ls hl => ?_)
  refine lv_iconst (v := 0) hx hb dL_law_16 rfl ?_
  refine lv_istore_n (lv' := [(3, .int 0), (2, .ref (lw_ad N1 aK aV 0)), (1, .ref (lw_ad s.heap.size aK aV 0)), (0, .ref b)]) hx hb dL_law_17 rfl hl (by decide) rfl (fun ls hl => ?_)
  refine W.widen (k := 600000) (n := 7302250) (Nat.le_of_ble_eq_true rfl) (Nat.le_of_ble_eq_true rfl) ?_
  have hold4 : ∀ x, x < s.heap.size → H4[x]? = s.heap[x]? := fun x hx1 => h4.2.2.1 x hx1 (fun z => absurd (show N1 ≤ x from z) (by omega))
  have hk24 : ∀ x, x < H2.size → H4[x]? = H2[x]? := fun x hx1 => by
    rw [o4 x (by omega) (fun z => absurd (show N1 ≤ x from z) (by omega)), o3 x hx1]
  have hPC : va_P D vwCl (sn_W ct (lw_ad s.heap.size aK aV) sn_iniX8 0 layC) H4 := by
    rw [← lw_dynX8]
    exact h2.1.kept (fun k q hq => hk24 q.1 ((h2.1 k q hq).lt))
  have hPM : va_P D vwCl (sn_W ct (lw_ad N1 aK aV) sn_iniX9 0 layM) H4 := by
    rw [← lw_dynX9]
    exact h4.1
  have hDC : ∀ σ, va_D (fun q => s.heap.size ≤ q ∧ q < s.heap.size + 94) (sn_W ct (lw_ad s.heap.size aK aV) σ 0 layC) := fun σ => by
    have h5 := sn_D_of (ct := ct) (lay := layC) (hE1 s.heap.size) (by decide) σ
    refine ⟨h5.1, fun k q hq => ?_⟩
    obtain ⟨q1, q2⟩ := sn_W_at layC 0 k q hq
    have q3 : k < 94 := q1
    rw [Nat.zero_add, (hE1 s.heap.size).1 k (by omega)] at q2
    exact ⟨by omega, by omega⟩
  have hDM : ∀ σ, va_D (fun q => N1 ≤ q) (sn_W ct (lw_ad N1 aK aV) σ 0 layM) := sn_D_of (hE1 N1) (by decide)
  have hLC : lw_C p s m #[Value.ref b] meth c b L xs D ct (lw_ad s.heap.size aK aV) (lw_ad N1 aK aV) (fun q => s.heap.size ≤ q ∧ q < s.heap.size + 94) (fun q => N1 ≤ q) :=
    ⟨⟨hx, hb, hml, hown, htg, hr, hlocks, hK, hDC, hbg _ _ (fun q h => h.1)⟩, ⟨hx, hb, hml, hown, htg, hr, hlocks, hK, hDM, hbg _ _ hAM⟩, fun q h => h.1, hAM, fun q h z => absurd (show N1 ≤ q from z) (by omega), hX, hbl⟩
  exact lw_loop hLC hL (fun k hk => hst k (Nat.le_trans hk hL)) (fun k hk => hdf k (Nat.le_trans hk hL)) (fun H ls => lw_ret hx hb hr hlocks dL_law_2179) (L + 7) 0 _ _ 0 hJ0 nI_0.symm (by omega) (by omega) H4 ls ⟨hPC, by have := h4.2.1; omega, fun q h _ => hold4 q h, fun q hq => by cases hq⟩ ⟨hPM, h4.2.1, fun q h _ => hold4 q h, fun q hq => by cases hq⟩ (lv_sub hl [3, 2, 1, 0] rfl)
