/-! what stands in the premise, by its path -/
section
variable {x a b : Cond}
theorem fc_l (h : x ∈ flatC a) : x ∈ flatC (.and a b) := List.mem_append_left _ h
theorem fc_r (h : x ∈ flatC b) : x ∈ flatC (.and a b) := List.mem_append_right _ h
end
theorem fc_exactly {v0 v1} : Cond.exactly v0 v1 ∈ flatC (Cond.exactly v0 v1) := List.mem_cons_self
theorem fc_eq {v0 v1} : Cond.eq v0 v1 ∈ flatC (Cond.eq v0 v1) := List.mem_cons_self
theorem fc_arrayOf {v0 v1} : Cond.arrayOf v0 v1 ∈ flatC (Cond.arrayOf v0 v1) := List.mem_cons_self
theorem fc_isRef {v0} : Cond.isRef v0 ∈ flatC (Cond.isRef v0) := List.mem_cons_self
/-! the world at the law's entry: classes, words, statics -/
theorem kiz_X0 : Cond.instantiable RX0 14 ∈ sn_gw := sn_gwI (lb_0 (lt_16 (lt_16 (lt_16 (lt_16 (lt_16 (lt_16 (lt_16 (lt_16 (lt_1 lt_h)))))))))) (by decide +kernel)
theorem kiz_X1 : Cond.instantiable RX1 2 ∈ sn_gw := sn_gwI (lb_0 (lt_16 (lt_16 (lt_16 (lt_16 (lt_16 (lt_16 (lt_16 (lt_16 (lt_16 (lt_16 (lt_16 (lt_16 (lt_16 (lt_14 lt_h))))))))))))))) (by decide +kernel)
theorem kiz_X2 : Cond.instantiable RX2 6 ∈ sn_gw := sn_gwI (lb_0 (lt_16 (lt_12 lt_h))) (by decide +kernel)
theorem kiz_X3 : Cond.instantiable RX3 4 ∈ sn_gw := sn_gwI (lb_0 (lt_16 (lt_16 (lt_16 (lt_16 (lt_16 (lt_16 (lt_16 (lt_16 (lt_16 (lt_16 (lt_16 (lt_16 (lt_7 lt_h)))))))))))))) (by decide +kernel)
theorem kiz_X4 : Cond.instantiable RX4 5 ∈ sn_gw := sn_gwI (lb_1 (lt_16 (lt_5 lt_h))) (by decide +kernel)
theorem kiz_X5 : Cond.instantiable RX5 8 ∈ sn_gw := sn_gwI (lb_0 (lt_16 (lt_16 (lt_16 (lt_16 (lt_5 lt_h)))))) (by decide +kernel)
theorem kiz_X6 : Cond.instantiable RX6 3 ∈ sn_gw := sn_gwI (lb_0 (lt_16 (lt_16 (lt_16 (lt_16 (lt_16 (lt_16 (lt_8 lt_h)))))))) (by decide +kernel)
theorem kiz_X7 : Cond.instantiable RX7 5 ∈ sn_gw := sn_gwI (lb_0 (lt_16 (lt_16 (lt_16 (lt_16 (lt_16 (lt_16 (lt_16 (lt_16 (lt_16 (lt_16 (lt_16 (lt_16 (lt_16 (lt_16 (lt_11 lt_h)))))))))))))))) (by decide +kernel)
theorem kiz_X8 : Cond.instantiable RX8 12 ∈ sn_gw := sn_gwI (lb_0 (lt_16 (lt_4 lt_h))) (by decide +kernel)
theorem kiz_X9 : Cond.instantiable RX9 46 ∈ sn_gw := sn_gwI (lb_4 (lt_16 (lt_16 (lt_16 (lt_16 (lt_16 (lt_16 (lt_16 (lt_2 lt_h))))))))) (by decide +kernel)
theorem lw_Kn {s : State} {args : Array Value} (hts : ∀ w ∈ sn_gw, w.before args s = true) (hO : sn_AO s) : ∃ (D : va_G) (ct : Nat → ClassId), va_K D vwCl (sn_tys ct) s := by
  obtain ⟨c0, i0, h0⟩ := u_known hts ug_X0 (hts _ kiz_X0)
  obtain ⟨c1, i1, h1⟩ := u_known hts ug_X1 (hts _ kiz_X1)
  obtain ⟨c2, i2, h2⟩ := u_known hts ug_X2 (hts _ kiz_X2)
  obtain ⟨c3, i3, h3⟩ := u_known hts ug_X3 (hts _ kiz_X3)
  obtain ⟨c4, i4, h4⟩ := u_known hts ug_X4 (hts _ kiz_X4)
  obtain ⟨c5, i5, h5⟩ := u_known hts ug_X5 (hts _ kiz_X5)
  obtain ⟨c6, i6, h6⟩ := u_known hts ug_X6 (hts _ kiz_X6)
  obtain ⟨c7, i7, h7⟩ := u_known hts ug_X7 (hts _ kiz_X7)
  obtain ⟨c8, i8, h8⟩ := u_known hts ug_X8 (hts _ kiz_X8)
  obtain ⟨c9, i9, h9⟩ := u_known hts ug_X9 (hts _ kiz_X9)
  obtain ⟨aI, kI, pI, eI1, eI2, eI3⟩ := Cond.arrayClass_spec (hts _ ka_int)
  obtain ⟨aZ, kZ, pZ, eZ1, eZ2, eZ3⟩ := Cond.arrayClass_spec (hts _ ka_boolean)
  obtain ⟨aB, kB, pB, eB1, eB2, eB3⟩ := Cond.arrayClass_spec (hts _ ka_byte)
  obtain ⟨aJ, kJ, pJ, eJ1, eJ2, eJ3⟩ := Cond.arrayClass_spec (hts _ ka_long)
  obtain ⟨pH, aH, kH, eH1, -, eH2, eH3, eH4⟩ := Cond.arrayOver_spec hO.1
  obtain ⟨pA, aA, kA, eA1, -, eA2, eA3, eA4⟩ := sn_AOA_spec hO.2
  refine ⟨(fun k => match k with | 0 => c0 | 1 => c1 | 2 => c2 | 3 => c3 | 4 => c4 | 5 => c5 | 6 => c6 | 7 => c7 | 8 => c8 | _ => c9, fun k => match k with | 0 => i0 | 1 => i1 | 2 => i2 | 3 => i3 | 4 => i4 | 5 => i5 | 6 => i6 | 7 => i7 | 8 => i8 | _ => i9), fun k => match k with | 0 => aI | 1 => aZ | 2 => aB | 3 => aJ | 4 => aH | _ => aA, ?_, ?_⟩
  · intro k q hq
    match k, hq with
    | 0, hq => cases hq; exact h0
    | 1, hq => cases hq; exact h1
    | 2, hq => cases hq; exact h2
    | 3, hq => cases hq; exact h3
    | 4, hq => cases hq; exact h4
    | 5, hq => cases hq; exact h5
    | 6, hq => cases hq; exact h6
    | 7, hq => cases hq; exact h7
    | 8, hq => cases hq; exact h8
    | 9, hq => cases hq; exact h9
    | k + 10, hq => simp [vwCl] at hq
  · intro k q hq
    match k, hq with
    | 0, hq => cases hq; exact ⟨fun n z => ⟨fun k h => (by cases h), kI, eI2, pI, eI3⟩, eI1⟩
    | 1, hq => cases hq; exact ⟨fun n z => ⟨fun k h => (by cases h), kZ, eZ2, pZ, eZ3⟩, eZ1⟩
    | 2, hq => cases hq; exact ⟨fun n z => ⟨fun k h => (by cases h), kB, eB2, pB, eB3⟩, eB1⟩
    | 3, hq => cases hq; exact ⟨fun n z => ⟨fun k h => (by cases h), kJ, eJ2, pJ, eJ3⟩, eJ1⟩
    | 4, hq => cases hq; exact ⟨fun n z => ⟨fun k h => (by cases h), kH, eH2, pH, eH3⟩, kH, pH, eH2, eH3, eH1, eH4⟩
    | 5, hq => cases hq; exact ⟨fun n z => ⟨fun k h => (by cases h), kA, eA2, pA, eA3⟩, eA4⟩
    | k + 6, hq => simp [sn_tys] at hq
theorem lw_str0 {s : State} {b : Addr} (hs : ∀ c ∈ flatC (Jvm.Cond.and given_1 narrow_1), c.before #[Value.ref b] s = true) {A : Nat → Prop} (hA : ∀ a : Nat, a < s.heap.size → ¬ A a) : ∃ a v : Nat, vk_S 1 [5] [[104, 111, 117, 115, 101]] (fun _ => a) (fun _ => v) A s s.heap ∧ (Term.string "PepperPolicy$Reader" 52).eval #[Value.ref b] s none [] s = some (.ref a) ∧ (Term.string "PepperPolicyModel" 175).eval #[Value.ref b] s none [] s = some (.ref a) := by
  obtain ⟨adK, adV, h1, h2⟩ := vk_Sof (N := 1) (tm := fun _ => (.string "PepperPolicy$Reader" 52)) (len := [5]) (byt := [[104, 111, 117, 115, 101]]) (A := A) (args := #[Value.ref b]) (s := s) (by decide) (fun i hi => hs (.exactly (.string "PepperPolicy$Reader" 52) "java/lang/String") (fc_r (fc_l (fc_l (fc_l (fc_l (fc_l (fc_r (fc_r (fc_r fc_exactly)))))))))) (fun i hi => hs (.eq (.field (.string "PepperPolicy$Reader" 52) "java/lang/String" "coder" "B") (.int 0)) (fc_r (fc_l (fc_l (fc_l (fc_l (fc_r (fc_l (fc_l (fc_l fc_eq)))))))))) (fun i hi => hs (.arrayOf (.field (.string "PepperPolicy$Reader" 52) "java/lang/String" "value" "[B") .byte) (fc_r (fc_l (fc_l (fc_l (fc_l (fc_r (fc_l (fc_l (fc_r fc_arrayOf))))))))))
    (fun i hi => by
      match i, hi with
      | 0, _ => exact hs (.eq (.length (.field (.string "PepperPolicy$Reader" 52) "java/lang/String" "value" "[B")) (.int 5)) (fc_r (fc_l (fc_l (fc_l (fc_l (fc_r (fc_l (fc_r (fc_l fc_eq))))))))))
    (fun i hi j hj => by
      match i, hi, j, hj with
      | 0, _, 0, _ => exact hs (.eq (.elem (.field (.string "PepperPolicy$Reader" 52) "java/lang/String" "value" "[B") (.int 0)) (.int 104)) (fc_r (fc_l (fc_l (fc_l (fc_l (fc_r (fc_l (fc_r (fc_r fc_eq)))))))))
      | 0, _, 1, _ => exact hs (.eq (.elem (.field (.string "PepperPolicy$Reader" 52) "java/lang/String" "value" "[B") (.int 1)) (.int 111)) (fc_r (fc_l (fc_l (fc_l (fc_l (fc_r (fc_r (fc_l (fc_l fc_eq)))))))))
      | 0, _, 2, _ => exact hs (.eq (.elem (.field (.string "PepperPolicy$Reader" 52) "java/lang/String" "value" "[B") (.int 2)) (.int 117)) (fc_r (fc_l (fc_l (fc_l (fc_l (fc_r (fc_r (fc_l (fc_r fc_eq)))))))))
      | 0, _, 3, _ => exact hs (.eq (.elem (.field (.string "PepperPolicy$Reader" 52) "java/lang/String" "value" "[B") (.int 3)) (.int 115)) (fc_r (fc_l (fc_l (fc_l (fc_l (fc_r (fc_r (fc_r (fc_l fc_eq)))))))))
      | 0, _, 4, _ => exact hs (.eq (.elem (.field (.string "PepperPolicy$Reader" 52) "java/lang/String" "value" "[B") (.int 4)) (.int 101)) (fc_r (fc_l (fc_l (fc_l (fc_l (fc_r (fc_r (fc_r (fc_r (fc_l fc_eq))))))))))
      | 0, _, j + 5, hj => exact absurd hj (by show ¬ j + 5 < 5; omega))
    (fun i j hi hj hne => absurd (show i = j by omega) hne) hA
  have e5 := h2 0 (by decide)
  have he : (Cond.eq (Term.string "PepperPolicy$Reader" 52) (Term.string "PepperPolicyModel" 175)).before #[Value.ref b] s = true := hs (.eq (.string "PepperPolicy$Reader" 52) (.string "PepperPolicyModel" 175)) (fc_r (fc_r (fc_l (fc_l (fc_l (fc_l (fc_r (fc_l (fc_r fc_eq)))))))))
  obtain ⟨y, y1, y2⟩ := Cond.eq_one he
  have e9 : (Term.string "PepperPolicyModel" 175).eval #[Value.ref b] s none [] s = some (.ref (adK 0)) := by
    rw [y2, ← y1]; exact e5
  exact ⟨adK 0, adV 0, ⟨fun i hi => by
    match i, hi with
    | 0, _ => exact h1.1 0 (by decide), fun i j hi hj _ => by omega⟩, e5, e9⟩
theorem lw_str1 {s : State} {b : Addr} (hs : ∀ c ∈ flatC (Jvm.Cond.and given_1 narrow_1), c.before #[Value.ref b] s = true) {A : Nat → Prop} (hA : ∀ a : Nat, a < s.heap.size → ¬ A a) : ∃ a v : Nat, vk_S 1 [7] [[109, 105, 110, 117, 116, 101, 115]] (fun _ => a) (fun _ => v) A s s.heap ∧ (Term.string "PepperPolicy$Reader" 58).eval #[Value.ref b] s none [] s = some (.ref a) ∧ (Term.string "PepperPolicyModel" 177).eval #[Value.ref b] s none [] s = some (.ref a) := by
  obtain ⟨adK, adV, h1, h2⟩ := vk_Sof (N := 1) (tm := fun _ => (.string "PepperPolicy$Reader" 58)) (len := [7]) (byt := [[109, 105, 110, 117, 116, 101, 115]]) (A := A) (args := #[Value.ref b]) (s := s) (by decide) (fun i hi => hs (.exactly (.string "PepperPolicy$Reader" 58) "java/lang/String") (fc_r (fc_l (fc_l (fc_l (fc_l (fc_r (fc_r (fc_r (fc_r (fc_r fc_exactly))))))))))) (fun i hi => hs (.eq (.field (.string "PepperPolicy$Reader" 58) "java/lang/String" "coder" "B") (.int 0)) (fc_r (fc_l (fc_l (fc_l (fc_r (fc_l (fc_l (fc_l (fc_l fc_eq)))))))))) (fun i hi => hs (.arrayOf (.field (.string "PepperPolicy$Reader" 58) "java/lang/String" "value" "[B") .byte) (fc_r (fc_l (fc_l (fc_l (fc_r (fc_l (fc_l (fc_l (fc_r fc_arrayOf))))))))))
    (fun i hi => by
      match i, hi with
      | 0, _ => exact hs (.eq (.length (.field (.string "PepperPolicy$Reader" 58) "java/lang/String" "value" "[B")) (.int 7)) (fc_r (fc_l (fc_l (fc_l (fc_r (fc_l (fc_l (fc_r (fc_l fc_eq))))))))))
    (fun i hi j hj => by
      match i, hi, j, hj with
      | 0, _, 0, _ => exact hs (.eq (.elem (.field (.string "PepperPolicy$Reader" 58) "java/lang/String" "value" "[B") (.int 0)) (.int 109)) (fc_r (fc_l (fc_l (fc_l (fc_r (fc_l (fc_l (fc_r (fc_r fc_eq)))))))))
      | 0, _, 1, _ => exact hs (.eq (.elem (.field (.string "PepperPolicy$Reader" 58) "java/lang/String" "value" "[B") (.int 1)) (.int 105)) (fc_r (fc_l (fc_l (fc_l (fc_r (fc_l (fc_r (fc_l (fc_l fc_eq)))))))))
      | 0, _, 2, _ => exact hs (.eq (.elem (.field (.string "PepperPolicy$Reader" 58) "java/lang/String" "value" "[B") (.int 2)) (.int 110)) (fc_r (fc_l (fc_l (fc_l (fc_r (fc_l (fc_r (fc_l (fc_r fc_eq)))))))))
      | 0, _, 3, _ => exact hs (.eq (.elem (.field (.string "PepperPolicy$Reader" 58) "java/lang/String" "value" "[B") (.int 3)) (.int 117)) (fc_r (fc_l (fc_l (fc_l (fc_r (fc_l (fc_r (fc_r (fc_l fc_eq)))))))))
      | 0, _, 4, _ => exact hs (.eq (.elem (.field (.string "PepperPolicy$Reader" 58) "java/lang/String" "value" "[B") (.int 4)) (.int 116)) (fc_r (fc_l (fc_l (fc_l (fc_r (fc_l (fc_r (fc_r (fc_r (fc_l fc_eq))))))))))
      | 0, _, 5, _ => exact hs (.eq (.elem (.field (.string "PepperPolicy$Reader" 58) "java/lang/String" "value" "[B") (.int 5)) (.int 101)) (fc_r (fc_l (fc_l (fc_l (fc_r (fc_l (fc_r (fc_r (fc_r (fc_r fc_eq))))))))))
      | 0, _, 6, _ => exact hs (.eq (.elem (.field (.string "PepperPolicy$Reader" 58) "java/lang/String" "value" "[B") (.int 6)) (.int 115)) (fc_r (fc_l (fc_l (fc_l (fc_r (fc_r (fc_l (fc_l (fc_l fc_eq)))))))))
      | 0, _, j + 7, hj => exact absurd hj (by show ¬ j + 7 < 7; omega))
    (fun i j hi hj hne => absurd (show i = j by omega) hne) hA
  have e5 := h2 0 (by decide)
  have he : (Cond.eq (Term.string "PepperPolicy$Reader" 58) (Term.string "PepperPolicyModel" 177)).before #[Value.ref b] s = true := hs (.eq (.string "PepperPolicy$Reader" 58) (.string "PepperPolicyModel" 177)) (fc_r (fc_r (fc_l (fc_l (fc_r (fc_l (fc_l (fc_l (fc_l fc_eq)))))))))
  obtain ⟨y, y1, y2⟩ := Cond.eq_one he
  have e9 : (Term.string "PepperPolicyModel" 177).eval #[Value.ref b] s none [] s = some (.ref (adK 0)) := by
    rw [y2, ← y1]; exact e5
  exact ⟨adK 0, adV 0, ⟨fun i hi => by
    match i, hi with
    | 0, _ => exact h1.1 0 (by decide), fun i j hi hj _ => by omega⟩, e5, e9⟩
theorem lw_str2 {s : State} {b : Addr} (hs : ∀ c ∈ flatC (Jvm.Cond.and given_1 narrow_1), c.before #[Value.ref b] s = true) {A : Nat → Prop} (hA : ∀ a : Nat, a < s.heap.size → ¬ A a) : ∃ a v : Nat, vk_S 1 [4] [[100, 117, 115, 116]] (fun _ => a) (fun _ => v) A s s.heap ∧ (Term.string "PepperPolicy$Reader" 64).eval #[Value.ref b] s none [] s = some (.ref a) ∧ (Term.string "PepperPolicyModel" 183).eval #[Value.ref b] s none [] s = some (.ref a) := by
  obtain ⟨adK, adV, h1, h2⟩ := vk_Sof (N := 1) (tm := fun _ => (.string "PepperPolicy$Reader" 64)) (len := [4]) (byt := [[100, 117, 115, 116]]) (A := A) (args := #[Value.ref b]) (s := s) (by decide) (fun i hi => hs (.exactly (.string "PepperPolicy$Reader" 64) "java/lang/String") (fc_r (fc_l (fc_l (fc_l (fc_r (fc_r (fc_l (fc_l (fc_r fc_exactly)))))))))) (fun i hi => hs (.eq (.field (.string "PepperPolicy$Reader" 64) "java/lang/String" "coder" "B") (.int 0)) (fc_r (fc_l (fc_l (fc_l (fc_r (fc_r (fc_l (fc_r (fc_l fc_eq)))))))))) (fun i hi => hs (.arrayOf (.field (.string "PepperPolicy$Reader" 64) "java/lang/String" "value" "[B") .byte) (fc_r (fc_l (fc_l (fc_l (fc_r (fc_r (fc_l (fc_r (fc_r fc_arrayOf))))))))))
    (fun i hi => by
      match i, hi with
      | 0, _ => exact hs (.eq (.length (.field (.string "PepperPolicy$Reader" 64) "java/lang/String" "value" "[B")) (.int 4)) (fc_r (fc_l (fc_l (fc_l (fc_r (fc_r (fc_r (fc_l (fc_l fc_eq))))))))))
    (fun i hi j hj => by
      match i, hi, j, hj with
      | 0, _, 0, _ => exact hs (.eq (.elem (.field (.string "PepperPolicy$Reader" 64) "java/lang/String" "value" "[B") (.int 0)) (.int 100)) (fc_r (fc_l (fc_l (fc_l (fc_r (fc_r (fc_r (fc_l (fc_r fc_eq)))))))))
      | 0, _, 1, _ => exact hs (.eq (.elem (.field (.string "PepperPolicy$Reader" 64) "java/lang/String" "value" "[B") (.int 1)) (.int 117)) (fc_r (fc_l (fc_l (fc_l (fc_r (fc_r (fc_r (fc_r (fc_l fc_eq)))))))))
      | 0, _, 2, _ => exact hs (.eq (.elem (.field (.string "PepperPolicy$Reader" 64) "java/lang/String" "value" "[B") (.int 2)) (.int 115)) (fc_r (fc_l (fc_l (fc_l (fc_r (fc_r (fc_r (fc_r (fc_r (fc_l fc_eq))))))))))
      | 0, _, 3, _ => exact hs (.eq (.elem (.field (.string "PepperPolicy$Reader" 64) "java/lang/String" "value" "[B") (.int 3)) (.int 116)) (fc_r (fc_l (fc_l (fc_l (fc_r (fc_r (fc_r (fc_r (fc_r (fc_r fc_eq))))))))))
      | 0, _, j + 4, hj => exact absurd hj (by show ¬ j + 4 < 4; omega))
    (fun i j hi hj hne => absurd (show i = j by omega) hne) hA
  have e5 := h2 0 (by decide)
  have he : (Cond.eq (Term.string "PepperPolicy$Reader" 64) (Term.string "PepperPolicyModel" 183)).before #[Value.ref b] s = true := hs (.eq (.string "PepperPolicy$Reader" 64) (.string "PepperPolicyModel" 183)) (fc_r (fc_r (fc_l (fc_l (fc_r (fc_r (fc_l (fc_l (fc_l fc_eq)))))))))
  obtain ⟨y, y1, y2⟩ := Cond.eq_one he
  have e9 : (Term.string "PepperPolicyModel" 183).eval #[Value.ref b] s none [] s = some (.ref (adK 0)) := by
    rw [y2, ← y1]; exact e5
  exact ⟨adK 0, adV 0, ⟨fun i hi => by
    match i, hi with
    | 0, _ => exact h1.1 0 (by decide), fun i j hi hj _ => by omega⟩, e5, e9⟩
theorem lw_str3 {s : State} {b : Addr} (hs : ∀ c ∈ flatC (Jvm.Cond.and given_1 narrow_1), c.before #[Value.ref b] s = true) {A : Nat → Prop} (hA : ∀ a : Nat, a < s.heap.size → ¬ A a) : ∃ a v : Nat, vk_S 1 [3] [[108, 97, 119]] (fun _ => a) (fun _ => v) A s s.heap ∧ (Term.string "PepperPolicy$Reader" 66).eval #[Value.ref b] s none [] s = some (.ref a) ∧ (Term.string "PepperPolicyModel" 185).eval #[Value.ref b] s none [] s = some (.ref a) := by
  obtain ⟨adK, adV, h1, h2⟩ := vk_Sof (N := 1) (tm := fun _ => (.string "PepperPolicy$Reader" 66)) (len := [3]) (byt := [[108, 97, 119]]) (A := A) (args := #[Value.ref b]) (s := s) (by decide) (fun i hi => hs (.exactly (.string "PepperPolicy$Reader" 66) "java/lang/String") (fc_r (fc_l (fc_l (fc_r (fc_l (fc_l (fc_l (fc_l (fc_l fc_exactly)))))))))) (fun i hi => hs (.eq (.field (.string "PepperPolicy$Reader" 66) "java/lang/String" "coder" "B") (.int 0)) (fc_r (fc_l (fc_l (fc_r (fc_l (fc_l (fc_l (fc_l (fc_r fc_eq)))))))))) (fun i hi => hs (.arrayOf (.field (.string "PepperPolicy$Reader" 66) "java/lang/String" "value" "[B") .byte) (fc_r (fc_l (fc_l (fc_r (fc_l (fc_l (fc_l (fc_r (fc_l fc_arrayOf))))))))))
    (fun i hi => by
      match i, hi with
      | 0, _ => exact hs (.eq (.length (.field (.string "PepperPolicy$Reader" 66) "java/lang/String" "value" "[B")) (.int 3)) (fc_r (fc_l (fc_l (fc_r (fc_l (fc_l (fc_l (fc_r (fc_r fc_eq))))))))))
    (fun i hi j hj => by
      match i, hi, j, hj with
      | 0, _, 0, _ => exact hs (.eq (.elem (.field (.string "PepperPolicy$Reader" 66) "java/lang/String" "value" "[B") (.int 0)) (.int 108)) (fc_r (fc_l (fc_l (fc_r (fc_l (fc_l (fc_r (fc_l (fc_l fc_eq)))))))))
      | 0, _, 1, _ => exact hs (.eq (.elem (.field (.string "PepperPolicy$Reader" 66) "java/lang/String" "value" "[B") (.int 1)) (.int 97)) (fc_r (fc_l (fc_l (fc_r (fc_l (fc_l (fc_r (fc_l (fc_r fc_eq)))))))))
      | 0, _, 2, _ => exact hs (.eq (.elem (.field (.string "PepperPolicy$Reader" 66) "java/lang/String" "value" "[B") (.int 2)) (.int 119)) (fc_r (fc_l (fc_l (fc_r (fc_l (fc_l (fc_r (fc_r (fc_l fc_eq)))))))))
      | 0, _, j + 3, hj => exact absurd hj (by show ¬ j + 3 < 3; omega))
    (fun i j hi hj hne => absurd (show i = j by omega) hne) hA
  have e5 := h2 0 (by decide)
  have he : (Cond.eq (Term.string "PepperPolicy$Reader" 66) (Term.string "PepperPolicyModel" 185)).before #[Value.ref b] s = true := hs (.eq (.string "PepperPolicy$Reader" 66) (.string "PepperPolicyModel" 185)) (fc_r (fc_r (fc_l (fc_l (fc_r (fc_r (fc_r (fc_r (fc_r (fc_r fc_eq))))))))))
  obtain ⟨y, y1, y2⟩ := Cond.eq_one he
  have e9 : (Term.string "PepperPolicyModel" 185).eval #[Value.ref b] s none [] s = some (.ref (adK 0)) := by
    rw [y2, ← y1]; exact e5
  exact ⟨adK 0, adV 0, ⟨fun i hi => by
    match i, hi with
    | 0, _ => exact h1.1 0 (by decide), fun i j hi hj _ => by omega⟩, e5, e9⟩
theorem lw_str4 {s : State} {b : Addr} (hs : ∀ c ∈ flatC (Jvm.Cond.and given_1 narrow_1), c.before #[Value.ref b] s = true) {A : Nat → Prop} (hA : ∀ a : Nat, a < s.heap.size → ¬ A a) : ∃ a v : Nat, vk_S 1 [5] [[109, 111, 110, 101, 121]] (fun _ => a) (fun _ => v) A s s.heap ∧ (Term.string "PepperPolicy$Reader" 68).eval #[Value.ref b] s none [] s = some (.ref a) ∧ (Term.string "PepperPolicyModel" 187).eval #[Value.ref b] s none [] s = some (.ref a) := by
  obtain ⟨adK, adV, h1, h2⟩ := vk_Sof (N := 1) (tm := fun _ => (.string "PepperPolicy$Reader" 68)) (len := [5]) (byt := [[109, 111, 110, 101, 121]]) (A := A) (args := #[Value.ref b]) (s := s) (by decide) (fun i hi => hs (.exactly (.string "PepperPolicy$Reader" 68) "java/lang/String") (fc_r (fc_l (fc_l (fc_r (fc_l (fc_l (fc_r (fc_r (fc_r fc_exactly)))))))))) (fun i hi => hs (.eq (.field (.string "PepperPolicy$Reader" 68) "java/lang/String" "coder" "B") (.int 0)) (fc_r (fc_l (fc_l (fc_r (fc_l (fc_r (fc_l (fc_l (fc_l fc_eq)))))))))) (fun i hi => hs (.arrayOf (.field (.string "PepperPolicy$Reader" 68) "java/lang/String" "value" "[B") .byte) (fc_r (fc_l (fc_l (fc_r (fc_l (fc_r (fc_l (fc_l (fc_r fc_arrayOf))))))))))
    (fun i hi => by
      match i, hi with
      | 0, _ => exact hs (.eq (.length (.field (.string "PepperPolicy$Reader" 68) "java/lang/String" "value" "[B")) (.int 5)) (fc_r (fc_l (fc_l (fc_r (fc_l (fc_r (fc_l (fc_r (fc_l fc_eq))))))))))
    (fun i hi j hj => by
      match i, hi, j, hj with
      | 0, _, 0, _ => exact hs (.eq (.elem (.field (.string "PepperPolicy$Reader" 68) "java/lang/String" "value" "[B") (.int 0)) (.int 109)) (fc_r (fc_l (fc_l (fc_r (fc_l (fc_r (fc_l (fc_r (fc_r fc_eq)))))))))
      | 0, _, 1, _ => exact hs (.eq (.elem (.field (.string "PepperPolicy$Reader" 68) "java/lang/String" "value" "[B") (.int 1)) (.int 111)) (fc_r (fc_l (fc_l (fc_r (fc_l (fc_r (fc_r (fc_l (fc_l fc_eq)))))))))
      | 0, _, 2, _ => exact hs (.eq (.elem (.field (.string "PepperPolicy$Reader" 68) "java/lang/String" "value" "[B") (.int 2)) (.int 110)) (fc_r (fc_l (fc_l (fc_r (fc_l (fc_r (fc_r (fc_l (fc_r fc_eq)))))))))
      | 0, _, 3, _ => exact hs (.eq (.elem (.field (.string "PepperPolicy$Reader" 68) "java/lang/String" "value" "[B") (.int 3)) (.int 101)) (fc_r (fc_l (fc_l (fc_r (fc_l (fc_r (fc_r (fc_r (fc_l fc_eq)))))))))
      | 0, _, 4, _ => exact hs (.eq (.elem (.field (.string "PepperPolicy$Reader" 68) "java/lang/String" "value" "[B") (.int 4)) (.int 121)) (fc_r (fc_l (fc_l (fc_r (fc_l (fc_r (fc_r (fc_r (fc_r (fc_l fc_eq))))))))))
      | 0, _, j + 5, hj => exact absurd hj (by show ¬ j + 5 < 5; omega))
    (fun i j hi hj hne => absurd (show i = j by omega) hne) hA
  have e5 := h2 0 (by decide)
  have he : (Cond.eq (Term.string "PepperPolicy$Reader" 68) (Term.string "PepperPolicyModel" 187)).before #[Value.ref b] s = true := hs (.eq (.string "PepperPolicy$Reader" 68) (.string "PepperPolicyModel" 187)) (fc_r (fc_r (fc_l (fc_r (fc_l (fc_r (fc_l (fc_l (fc_r fc_eq)))))))))
  obtain ⟨y, y1, y2⟩ := Cond.eq_one he
  have e9 : (Term.string "PepperPolicyModel" 187).eval #[Value.ref b] s none [] s = some (.ref (adK 0)) := by
    rw [y2, ← y1]; exact e5
  exact ⟨adK 0, adV 0, ⟨fun i hi => by
    match i, hi with
    | 0, _ => exact h1.1 0 (by decide), fun i j hi hj _ => by omega⟩, e5, e9⟩
theorem lw_str5 {s : State} {b : Addr} (hs : ∀ c ∈ flatC (Jvm.Cond.and given_1 narrow_1), c.before #[Value.ref b] s = true) {A : Nat → Prop} (hA : ∀ a : Nat, a < s.heap.size → ¬ A a) : ∃ a v : Nat, vk_S 1 [4] [[111, 100, 100, 115]] (fun _ => a) (fun _ => v) A s s.heap ∧ (Term.string "PepperPolicy$Reader" 70).eval #[Value.ref b] s none [] s = some (.ref a) ∧ (Term.string "PepperPolicyModel" 189).eval #[Value.ref b] s none [] s = some (.ref a) := by
  obtain ⟨adK, adV, h1, h2⟩ := vk_Sof (N := 1) (tm := fun _ => (.string "PepperPolicy$Reader" 70)) (len := [4]) (byt := [[111, 100, 100, 115]]) (A := A) (args := #[Value.ref b]) (s := s) (by decide) (fun i hi => hs (.exactly (.string "PepperPolicy$Reader" 70) "java/lang/String") (fc_r (fc_l (fc_l (fc_r (fc_l (fc_r (fc_r (fc_r (fc_r (fc_r fc_exactly))))))))))) (fun i hi => hs (.eq (.field (.string "PepperPolicy$Reader" 70) "java/lang/String" "coder" "B") (.int 0)) (fc_r (fc_l (fc_l (fc_r (fc_r (fc_l (fc_l (fc_l (fc_l fc_eq)))))))))) (fun i hi => hs (.arrayOf (.field (.string "PepperPolicy$Reader" 70) "java/lang/String" "value" "[B") .byte) (fc_r (fc_l (fc_l (fc_r (fc_r (fc_l (fc_l (fc_l (fc_r fc_arrayOf))))))))))
    (fun i hi => by
      match i, hi with
      | 0, _ => exact hs (.eq (.length (.field (.string "PepperPolicy$Reader" 70) "java/lang/String" "value" "[B")) (.int 4)) (fc_r (fc_l (fc_l (fc_r (fc_r (fc_l (fc_l (fc_r (fc_l fc_eq))))))))))
    (fun i hi j hj => by
      match i, hi, j, hj with
      | 0, _, 0, _ => exact hs (.eq (.elem (.field (.string "PepperPolicy$Reader" 70) "java/lang/String" "value" "[B") (.int 0)) (.int 111)) (fc_r (fc_l (fc_l (fc_r (fc_r (fc_l (fc_l (fc_r (fc_r fc_eq)))))))))
      | 0, _, 1, _ => exact hs (.eq (.elem (.field (.string "PepperPolicy$Reader" 70) "java/lang/String" "value" "[B") (.int 1)) (.int 100)) (fc_r (fc_l (fc_l (fc_r (fc_r (fc_l (fc_r (fc_l (fc_l fc_eq)))))))))
      | 0, _, 2, _ => exact hs (.eq (.elem (.field (.string "PepperPolicy$Reader" 70) "java/lang/String" "value" "[B") (.int 2)) (.int 100)) (fc_r (fc_l (fc_l (fc_r (fc_r (fc_l (fc_r (fc_l (fc_r fc_eq)))))))))
      | 0, _, 3, _ => exact hs (.eq (.elem (.field (.string "PepperPolicy$Reader" 70) "java/lang/String" "value" "[B") (.int 3)) (.int 115)) (fc_r (fc_l (fc_l (fc_r (fc_r (fc_l (fc_r (fc_r (fc_l fc_eq)))))))))
      | 0, _, j + 4, hj => exact absurd hj (by show ¬ j + 4 < 4; omega))
    (fun i j hi hj hne => absurd (show i = j by omega) hne) hA
  have e5 := h2 0 (by decide)
  have he : (Cond.eq (Term.string "PepperPolicy$Reader" 70) (Term.string "PepperPolicyModel" 189)).before #[Value.ref b] s = true := hs (.eq (.string "PepperPolicy$Reader" 70) (.string "PepperPolicyModel" 189)) (fc_r (fc_r (fc_l (fc_r (fc_r (fc_l (fc_l (fc_l (fc_r fc_eq)))))))))
  obtain ⟨y, y1, y2⟩ := Cond.eq_one he
  have e9 : (Term.string "PepperPolicyModel" 189).eval #[Value.ref b] s none [] s = some (.ref (adK 0)) := by
    rw [y2, ← y1]; exact e5
  exact ⟨adK 0, adV 0, ⟨fun i hi => by
    match i, hi with
    | 0, _ => exact h1.1 0 (by decide), fun i j hi hj _ => by omega⟩, e5, e9⟩
theorem lw_str6 {s : State} {b : Addr} (hs : ∀ c ∈ flatC (Jvm.Cond.and given_1 narrow_1), c.before #[Value.ref b] s = true) {A : Nat → Prop} (hA : ∀ a : Nat, a < s.heap.size → ¬ A a) : ∃ a v : Nat, vk_S 1 [4] [[110, 111, 115, 101]] (fun _ => a) (fun _ => v) A s s.heap ∧ (Term.string "PepperPolicy$Reader" 75).eval #[Value.ref b] s none [] s = some (.ref a) ∧ (Term.string "PepperPolicyModel" 198).eval #[Value.ref b] s none [] s = some (.ref a) := by
  obtain ⟨adK, adV, h1, h2⟩ := vk_Sof (N := 1) (tm := fun _ => (.string "PepperPolicy$Reader" 75)) (len := [4]) (byt := [[110, 111, 115, 101]]) (A := A) (args := #[Value.ref b]) (s := s) (by decide) (fun i hi => hs (.exactly (.string "PepperPolicy$Reader" 75) "java/lang/String") (fc_r (fc_l (fc_l (fc_r (fc_r (fc_l (fc_r (fc_r (fc_r (fc_l fc_exactly))))))))))) (fun i hi => hs (.eq (.field (.string "PepperPolicy$Reader" 75) "java/lang/String" "coder" "B") (.int 0)) (fc_r (fc_l (fc_l (fc_r (fc_r (fc_l (fc_r (fc_r (fc_r (fc_r fc_eq))))))))))) (fun i hi => hs (.arrayOf (.field (.string "PepperPolicy$Reader" 75) "java/lang/String" "value" "[B") .byte) (fc_r (fc_l (fc_l (fc_r (fc_r (fc_r (fc_l (fc_l (fc_l fc_arrayOf))))))))))
    (fun i hi => by
      match i, hi with
      | 0, _ => exact hs (.eq (.length (.field (.string "PepperPolicy$Reader" 75) "java/lang/String" "value" "[B")) (.int 4)) (fc_r (fc_l (fc_l (fc_r (fc_r (fc_r (fc_l (fc_l (fc_r fc_eq))))))))))
    (fun i hi j hj => by
      match i, hi, j, hj with
      | 0, _, 0, _ => exact hs (.eq (.elem (.field (.string "PepperPolicy$Reader" 75) "java/lang/String" "value" "[B") (.int 0)) (.int 110)) (fc_r (fc_l (fc_l (fc_r (fc_r (fc_r (fc_l (fc_r (fc_l fc_eq)))))))))
      | 0, _, 1, _ => exact hs (.eq (.elem (.field (.string "PepperPolicy$Reader" 75) "java/lang/String" "value" "[B") (.int 1)) (.int 111)) (fc_r (fc_l (fc_l (fc_r (fc_r (fc_r (fc_l (fc_r (fc_r fc_eq)))))))))
      | 0, _, 2, _ => exact hs (.eq (.elem (.field (.string "PepperPolicy$Reader" 75) "java/lang/String" "value" "[B") (.int 2)) (.int 115)) (fc_r (fc_l (fc_l (fc_r (fc_r (fc_r (fc_r (fc_l (fc_l fc_eq)))))))))
      | 0, _, 3, _ => exact hs (.eq (.elem (.field (.string "PepperPolicy$Reader" 75) "java/lang/String" "value" "[B") (.int 3)) (.int 101)) (fc_r (fc_l (fc_l (fc_r (fc_r (fc_r (fc_r (fc_l (fc_r fc_eq)))))))))
      | 0, _, j + 4, hj => exact absurd hj (by show ¬ j + 4 < 4; omega))
    (fun i j hi hj hne => absurd (show i = j by omega) hne) hA
  have e5 := h2 0 (by decide)
  have he : (Cond.eq (Term.string "PepperPolicy$Reader" 75) (Term.string "PepperPolicyModel" 198)).before #[Value.ref b] s = true := hs (.eq (.string "PepperPolicy$Reader" 75) (.string "PepperPolicyModel" 198)) (fc_r (fc_r (fc_l (fc_r (fc_r (fc_r (fc_l (fc_l (fc_r fc_eq)))))))))
  obtain ⟨y, y1, y2⟩ := Cond.eq_one he
  have e9 : (Term.string "PepperPolicyModel" 198).eval #[Value.ref b] s none [] s = some (.ref (adK 0)) := by
    rw [y2, ← y1]; exact e5
  exact ⟨adK 0, adV 0, ⟨fun i hi => by
    match i, hi with
    | 0, _ => exact h1.1 0 (by decide), fun i j hi hj _ => by omega⟩, e5, e9⟩
theorem lw_str7 {s : State} {b : Addr} (hs : ∀ c ∈ flatC (Jvm.Cond.and given_1 narrow_1), c.before #[Value.ref b] s = true) {A : Nat → Prop} (hA : ∀ a : Nat, a < s.heap.size → ¬ A a) : ∃ a v : Nat, vk_S 1 [4] [[103, 117, 115, 116]] (fun _ => a) (fun _ => v) A s s.heap ∧ (Term.string "PepperPolicy$Reader" 85).eval #[Value.ref b] s none [] s = some (.ref a) ∧ (Term.string "PepperPolicyModel" 200).eval #[Value.ref b] s none [] s = some (.ref a) := by
  obtain ⟨adK, adV, h1, h2⟩ := vk_Sof (N := 1) (tm := fun _ => (.string "PepperPolicy$Reader" 85)) (len := [4]) (byt := [[103, 117, 115, 116]]) (A := A) (args := #[Value.ref b]) (s := s) (by decide) (fun i hi => hs (.exactly (.string "PepperPolicy$Reader" 85) "java/lang/String") (fc_r (fc_l (fc_r (fc_l (fc_l (fc_l (fc_r (fc_r (fc_l fc_exactly)))))))))) (fun i hi => hs (.eq (.field (.string "PepperPolicy$Reader" 85) "java/lang/String" "coder" "B") (.int 0)) (fc_r (fc_l (fc_r (fc_l (fc_l (fc_l (fc_r (fc_r (fc_r fc_eq)))))))))) (fun i hi => hs (.arrayOf (.field (.string "PepperPolicy$Reader" 85) "java/lang/String" "value" "[B") .byte) (fc_r (fc_l (fc_r (fc_l (fc_l (fc_r (fc_l (fc_l (fc_l fc_arrayOf))))))))))
    (fun i hi => by
      match i, hi with
      | 0, _ => exact hs (.eq (.length (.field (.string "PepperPolicy$Reader" 85) "java/lang/String" "value" "[B")) (.int 4)) (fc_r (fc_l (fc_r (fc_l (fc_l (fc_r (fc_l (fc_l (fc_r fc_eq))))))))))
    (fun i hi j hj => by
      match i, hi, j, hj with
      | 0, _, 0, _ => exact hs (.eq (.elem (.field (.string "PepperPolicy$Reader" 85) "java/lang/String" "value" "[B") (.int 0)) (.int 103)) (fc_r (fc_l (fc_r (fc_l (fc_l (fc_r (fc_l (fc_r (fc_l fc_eq)))))))))
      | 0, _, 1, _ => exact hs (.eq (.elem (.field (.string "PepperPolicy$Reader" 85) "java/lang/String" "value" "[B") (.int 1)) (.int 117)) (fc_r (fc_l (fc_r (fc_l (fc_l (fc_r (fc_l (fc_r (fc_r fc_eq)))))))))
      | 0, _, 2, _ => exact hs (.eq (.elem (.field (.string "PepperPolicy$Reader" 85) "java/lang/String" "value" "[B") (.int 2)) (.int 115)) (fc_r (fc_l (fc_r (fc_l (fc_l (fc_r (fc_r (fc_l (fc_l fc_eq)))))))))
      | 0, _, 3, _ => exact hs (.eq (.elem (.field (.string "PepperPolicy$Reader" 85) "java/lang/String" "value" "[B") (.int 3)) (.int 116)) (fc_r (fc_l (fc_r (fc_l (fc_l (fc_r (fc_r (fc_l (fc_r fc_eq)))))))))
      | 0, _, j + 4, hj => exact absurd hj (by show ¬ j + 4 < 4; omega))
    (fun i j hi hj hne => absurd (show i = j by omega) hne) hA
  have e5 := h2 0 (by decide)
  have he : (Cond.eq (Term.string "PepperPolicy$Reader" 85) (Term.string "PepperPolicyModel" 200)).before #[Value.ref b] s = true := hs (.eq (.string "PepperPolicy$Reader" 85) (.string "PepperPolicyModel" 200)) (fc_r (fc_r (fc_r (fc_l (fc_l (fc_l (fc_l (fc_l (fc_r fc_eq)))))))))
  obtain ⟨y, y1, y2⟩ := Cond.eq_one he
  have e9 : (Term.string "PepperPolicyModel" 200).eval #[Value.ref b] s none [] s = some (.ref (adK 0)) := by
    rw [y2, ← y1]; exact e5
  exact ⟨adK 0, adV 0, ⟨fun i hi => by
    match i, hi with
    | 0, _ => exact h1.1 0 (by decide), fun i j hi hj _ => by omega⟩, e5, e9⟩
theorem lw_str8 {s : State} {b : Addr} (hs : ∀ c ∈ flatC (Jvm.Cond.and given_1 narrow_1), c.before #[Value.ref b] s = true) {A : Nat → Prop} (hA : ∀ a : Nat, a < s.heap.size → ¬ A a) : ∃ a v : Nat, vk_S 1 [3] [[110, 101, 116]] (fun _ => a) (fun _ => v) A s s.heap ∧ (Term.string "PepperPolicy$Reader" 90).eval #[Value.ref b] s none [] s = some (.ref a) ∧ (Term.string "PepperPolicyModel" 202).eval #[Value.ref b] s none [] s = some (.ref a) := by
  obtain ⟨adK, adV, h1, h2⟩ := vk_Sof (N := 1) (tm := fun _ => (.string "PepperPolicy$Reader" 90)) (len := [3]) (byt := [[110, 101, 116]]) (A := A) (args := #[Value.ref b]) (s := s) (by decide) (fun i hi => hs (.exactly (.string "PepperPolicy$Reader" 90) "java/lang/String") (fc_r (fc_l (fc_r (fc_l (fc_r (fc_l (fc_l (fc_r (fc_r fc_exactly)))))))))) (fun i hi => hs (.eq (.field (.string "PepperPolicy$Reader" 90) "java/lang/String" "coder" "B") (.int 0)) (fc_r (fc_l (fc_r (fc_l (fc_r (fc_l (fc_r (fc_l (fc_l fc_eq)))))))))) (fun i hi => hs (.arrayOf (.field (.string "PepperPolicy$Reader" 90) "java/lang/String" "value" "[B") .byte) (fc_r (fc_l (fc_r (fc_l (fc_r (fc_l (fc_r (fc_l (fc_r fc_arrayOf))))))))))
    (fun i hi => by
      match i, hi with
      | 0, _ => exact hs (.eq (.length (.field (.string "PepperPolicy$Reader" 90) "java/lang/String" "value" "[B")) (.int 3)) (fc_r (fc_l (fc_r (fc_l (fc_r (fc_l (fc_r (fc_r (fc_l fc_eq))))))))))
    (fun i hi j hj => by
      match i, hi, j, hj with
      | 0, _, 0, _ => exact hs (.eq (.elem (.field (.string "PepperPolicy$Reader" 90) "java/lang/String" "value" "[B") (.int 0)) (.int 110)) (fc_r (fc_l (fc_r (fc_l (fc_r (fc_l (fc_r (fc_r (fc_r (fc_l fc_eq))))))))))
      | 0, _, 1, _ => exact hs (.eq (.elem (.field (.string "PepperPolicy$Reader" 90) "java/lang/String" "value" "[B") (.int 1)) (.int 101)) (fc_r (fc_l (fc_r (fc_l (fc_r (fc_l (fc_r (fc_r (fc_r (fc_r fc_eq))))))))))
      | 0, _, 2, _ => exact hs (.eq (.elem (.field (.string "PepperPolicy$Reader" 90) "java/lang/String" "value" "[B") (.int 2)) (.int 116)) (fc_r (fc_l (fc_r (fc_l (fc_r (fc_r (fc_l (fc_l (fc_l fc_eq)))))))))
      | 0, _, j + 3, hj => exact absurd hj (by show ¬ j + 3 < 3; omega))
    (fun i j hi hj hne => absurd (show i = j by omega) hne) hA
  have e5 := h2 0 (by decide)
  have he : (Cond.eq (Term.string "PepperPolicy$Reader" 90) (Term.string "PepperPolicyModel" 202)).before #[Value.ref b] s = true := hs (.eq (.string "PepperPolicy$Reader" 90) (.string "PepperPolicyModel" 202)) (fc_r (fc_r (fc_r (fc_l (fc_l (fc_r (fc_l (fc_l (fc_r fc_eq)))))))))
  obtain ⟨y, y1, y2⟩ := Cond.eq_one he
  have e9 : (Term.string "PepperPolicyModel" 202).eval #[Value.ref b] s none [] s = some (.ref (adK 0)) := by
    rw [y2, ← y1]; exact e5
  exact ⟨adK 0, adV 0, ⟨fun i hi => by
    match i, hi with
    | 0, _ => exact h1.1 0 (by decide), fun i j hi hj _ => by omega⟩, e5, e9⟩
theorem lw_str9 {s : State} {b : Addr} (hs : ∀ c ∈ flatC (Jvm.Cond.and given_1 narrow_1), c.before #[Value.ref b] s = true) {A : Nat → Prop} (hA : ∀ a : Nat, a < s.heap.size → ¬ A a) : ∃ a v : Nat, vk_S 1 [6] [[112, 111, 108, 105, 99, 121]] (fun _ => a) (fun _ => v) A s s.heap ∧ (Term.string "PepperPolicy$Reader" 95).eval #[Value.ref b] s none [] s = some (.ref a) ∧ (Term.string "PepperPolicyModel" 204).eval #[Value.ref b] s none [] s = some (.ref a) := by
  obtain ⟨adK, adV, h1, h2⟩ := vk_Sof (N := 1) (tm := fun _ => (.string "PepperPolicy$Reader" 95)) (len := [6]) (byt := [[112, 111, 108, 105, 99, 121]]) (A := A) (args := #[Value.ref b]) (s := s) (by decide) (fun i hi => hs (.exactly (.string "PepperPolicy$Reader" 95) "java/lang/String") (fc_r (fc_l (fc_r (fc_l (fc_r (fc_r (fc_l (fc_l (fc_r fc_exactly)))))))))) (fun i hi => hs (.eq (.field (.string "PepperPolicy$Reader" 95) "java/lang/String" "coder" "B") (.int 0)) (fc_r (fc_l (fc_r (fc_l (fc_r (fc_r (fc_l (fc_r (fc_l fc_eq)))))))))) (fun i hi => hs (.arrayOf (.field (.string "PepperPolicy$Reader" 95) "java/lang/String" "value" "[B") .byte) (fc_r (fc_l (fc_r (fc_l (fc_r (fc_r (fc_l (fc_r (fc_r fc_arrayOf))))))))))
    (fun i hi => by
      match i, hi with
      | 0, _ => exact hs (.eq (.length (.field (.string "PepperPolicy$Reader" 95) "java/lang/String" "value" "[B")) (.int 6)) (fc_r (fc_l (fc_r (fc_l (fc_r (fc_r (fc_r (fc_l (fc_l fc_eq))))))))))
    (fun i hi j hj => by
      match i, hi, j, hj with
      | 0, _, 0, _ => exact hs (.eq (.elem (.field (.string "PepperPolicy$Reader" 95) "java/lang/String" "value" "[B") (.int 0)) (.int 112)) (fc_r (fc_l (fc_r (fc_l (fc_r (fc_r (fc_r (fc_l (fc_r fc_eq)))))))))
      | 0, _, 1, _ => exact hs (.eq (.elem (.field (.string "PepperPolicy$Reader" 95) "java/lang/String" "value" "[B") (.int 1)) (.int 111)) (fc_r (fc_l (fc_r (fc_l (fc_r (fc_r (fc_r (fc_r (fc_l fc_eq)))))))))
      | 0, _, 2, _ => exact hs (.eq (.elem (.field (.string "PepperPolicy$Reader" 95) "java/lang/String" "value" "[B") (.int 2)) (.int 108)) (fc_r (fc_l (fc_r (fc_l (fc_r (fc_r (fc_r (fc_r (fc_r (fc_l fc_eq))))))))))
      | 0, _, 3, _ => exact hs (.eq (.elem (.field (.string "PepperPolicy$Reader" 95) "java/lang/String" "value" "[B") (.int 3)) (.int 105)) (fc_r (fc_l (fc_r (fc_l (fc_r (fc_r (fc_r (fc_r (fc_r (fc_r fc_eq))))))))))
      | 0, _, 4, _ => exact hs (.eq (.elem (.field (.string "PepperPolicy$Reader" 95) "java/lang/String" "value" "[B") (.int 4)) (.int 99)) (fc_r (fc_l (fc_r (fc_r (fc_l (fc_l (fc_l (fc_l (fc_l fc_eq)))))))))
      | 0, _, 5, _ => exact hs (.eq (.elem (.field (.string "PepperPolicy$Reader" 95) "java/lang/String" "value" "[B") (.int 5)) (.int 121)) (fc_r (fc_l (fc_r (fc_r (fc_l (fc_l (fc_l (fc_l (fc_r fc_eq)))))))))
      | 0, _, j + 6, hj => exact absurd hj (by show ¬ j + 6 < 6; omega))
    (fun i j hi hj hne => absurd (show i = j by omega) hne) hA
  have e5 := h2 0 (by decide)
  have he : (Cond.eq (Term.string "PepperPolicy$Reader" 95) (Term.string "PepperPolicyModel" 204)).before #[Value.ref b] s = true := hs (.eq (.string "PepperPolicy$Reader" 95) (.string "PepperPolicyModel" 204)) (fc_r (fc_r (fc_r (fc_l (fc_r (fc_l (fc_l (fc_r (fc_r fc_eq)))))))))
  obtain ⟨y, y1, y2⟩ := Cond.eq_one he
  have e9 : (Term.string "PepperPolicyModel" 204).eval #[Value.ref b] s none [] s = some (.ref (adK 0)) := by
    rw [y2, ← y1]; exact e5
  exact ⟨adK 0, adV 0, ⟨fun i hi => by
    match i, hi with
    | 0, _ => exact h1.1 0 (by decide), fun i j hi hj _ => by omega⟩, e5, e9⟩
theorem lw_str10 {s : State} {b : Addr} (hs : ∀ c ∈ flatC (Jvm.Cond.and given_1 narrow_1), c.before #[Value.ref b] s = true) {A : Nat → Prop} (hA : ∀ a : Nat, a < s.heap.size → ¬ A a) : ∃ a v : Nat, vk_S 1 [5] [[104, 111, 108, 100, 115]] (fun _ => a) (fun _ => v) A s s.heap ∧ (Term.string "PepperPolicy$Reader" 106).eval #[Value.ref b] s none [] s = some (.ref a) ∧ (Term.string "PepperPolicyModel" 206).eval #[Value.ref b] s none [] s = some (.ref a) := by
  obtain ⟨adK, adV, h1, h2⟩ := vk_Sof (N := 1) (tm := fun _ => (.string "PepperPolicy$Reader" 106)) (len := [5]) (byt := [[104, 111, 108, 100, 115]]) (A := A) (args := #[Value.ref b]) (s := s) (by decide) (fun i hi => hs (.exactly (.string "PepperPolicy$Reader" 106) "java/lang/String") (fc_r (fc_l (fc_l (fc_r (fc_r (fc_r (fc_r (fc_r (fc_l fc_exactly)))))))))) (fun i hi => hs (.eq (.field (.string "PepperPolicy$Reader" 106) "java/lang/String" "coder" "B") (.int 0)) (fc_r (fc_l (fc_l (fc_r (fc_r (fc_r (fc_r (fc_r (fc_r (fc_l fc_eq))))))))))) (fun i hi => hs (.arrayOf (.field (.string "PepperPolicy$Reader" 106) "java/lang/String" "value" "[B") .byte) (fc_r (fc_l (fc_l (fc_r (fc_r (fc_r (fc_r (fc_r (fc_r (fc_r fc_arrayOf)))))))))))
    (fun i hi => by
      match i, hi with
      | 0, _ => exact hs (.eq (.length (.field (.string "PepperPolicy$Reader" 106) "java/lang/String" "value" "[B")) (.int 5)) (fc_r (fc_l (fc_r (fc_l (fc_l (fc_l (fc_l (fc_l (fc_l fc_eq))))))))))
    (fun i hi j hj => by
      match i, hi, j, hj with
      | 0, _, 0, _ => exact hs (.eq (.elem (.field (.string "PepperPolicy$Reader" 106) "java/lang/String" "value" "[B") (.int 0)) (.int 104)) (fc_r (fc_l (fc_r (fc_l (fc_l (fc_l (fc_l (fc_l (fc_r fc_eq)))))))))
      | 0, _, 1, _ => exact hs (.eq (.elem (.field (.string "PepperPolicy$Reader" 106) "java/lang/String" "value" "[B") (.int 1)) (.int 111)) (fc_r (fc_l (fc_r (fc_l (fc_l (fc_l (fc_l (fc_r (fc_l fc_eq)))))))))
      | 0, _, 2, _ => exact hs (.eq (.elem (.field (.string "PepperPolicy$Reader" 106) "java/lang/String" "value" "[B") (.int 2)) (.int 108)) (fc_r (fc_l (fc_r (fc_l (fc_l (fc_l (fc_l (fc_r (fc_r fc_eq)))))))))
      | 0, _, 3, _ => exact hs (.eq (.elem (.field (.string "PepperPolicy$Reader" 106) "java/lang/String" "value" "[B") (.int 3)) (.int 100)) (fc_r (fc_l (fc_r (fc_l (fc_l (fc_l (fc_r (fc_l (fc_l fc_eq)))))))))
      | 0, _, 4, _ => exact hs (.eq (.elem (.field (.string "PepperPolicy$Reader" 106) "java/lang/String" "value" "[B") (.int 4)) (.int 115)) (fc_r (fc_l (fc_r (fc_l (fc_l (fc_l (fc_r (fc_l (fc_r fc_eq)))))))))
      | 0, _, j + 5, hj => exact absurd hj (by show ¬ j + 5 < 5; omega))
    (fun i j hi hj hne => absurd (show i = j by omega) hne) hA
  have e5 := h2 0 (by decide)
  have he : (Cond.eq (Term.string "PepperPolicy$Reader" 106) (Term.string "PepperPolicyModel" 206)).before #[Value.ref b] s = true := hs (.eq (.string "PepperPolicy$Reader" 106) (.string "PepperPolicyModel" 206)) (fc_r (fc_r (fc_r (fc_l (fc_r (fc_r (fc_r (fc_l (fc_l fc_eq)))))))))
  obtain ⟨y, y1, y2⟩ := Cond.eq_one he
  have e9 : (Term.string "PepperPolicyModel" 206).eval #[Value.ref b] s none [] s = some (.ref (adK 0)) := by
    rw [y2, ← y1]; exact e5
  exact ⟨adK 0, adV 0, ⟨fun i hi => by
    match i, hi with
    | 0, _ => exact h1.1 0 (by decide), fun i j hi hj _ => by omega⟩, e5, e9⟩
theorem lw_str11 {s : State} {b : Addr} (hs : ∀ c ∈ flatC (Jvm.Cond.and given_1 narrow_1), c.before #[Value.ref b] s = true) {A : Nat → Prop} (hA : ∀ a : Nat, a < s.heap.size → ¬ A a) : ∃ a v : Nat, vk_S 1 [2] [[97, 116]] (fun _ => a) (fun _ => v) A s s.heap ∧ (Term.string "PepperPolicy$Reader" 111).eval #[Value.ref b] s none [] s = some (.ref a) ∧ (Term.string "PepperPolicyModel" 208).eval #[Value.ref b] s none [] s = some (.ref a) := by
  obtain ⟨adK, adV, h1, h2⟩ := vk_Sof (N := 1) (tm := fun _ => (.string "PepperPolicy$Reader" 111)) (len := [2]) (byt := [[97, 116]]) (A := A) (args := #[Value.ref b]) (s := s) (by decide) (fun i hi => hs (.exactly (.string "PepperPolicy$Reader" 111) "java/lang/String") (fc_r (fc_l (fc_r (fc_l (fc_l (fc_r (fc_r (fc_r (fc_l fc_exactly)))))))))) (fun i hi => hs (.eq (.field (.string "PepperPolicy$Reader" 111) "java/lang/String" "coder" "B") (.int 0)) (fc_r (fc_l (fc_r (fc_l (fc_l (fc_r (fc_r (fc_r (fc_r (fc_l fc_eq))))))))))) (fun i hi => hs (.arrayOf (.field (.string "PepperPolicy$Reader" 111) "java/lang/String" "value" "[B") .byte) (fc_r (fc_l (fc_r (fc_l (fc_l (fc_r (fc_r (fc_r (fc_r (fc_r fc_arrayOf)))))))))))
    (fun i hi => by
      match i, hi with
      | 0, _ => exact hs (.eq (.length (.field (.string "PepperPolicy$Reader" 111) "java/lang/String" "value" "[B")) (.int 2)) (fc_r (fc_l (fc_r (fc_l (fc_r (fc_l (fc_l (fc_l (fc_l fc_eq))))))))))
    (fun i hi j hj => by
      match i, hi, j, hj with
      | 0, _, 0, _ => exact hs (.eq (.elem (.field (.string "PepperPolicy$Reader" 111) "java/lang/String" "value" "[B") (.int 0)) (.int 97)) (fc_r (fc_l (fc_r (fc_l (fc_r (fc_l (fc_l (fc_l (fc_r fc_eq)))))))))
      | 0, _, 1, _ => exact hs (.eq (.elem (.field (.string "PepperPolicy$Reader" 111) "java/lang/String" "value" "[B") (.int 1)) (.int 116)) (fc_r (fc_l (fc_r (fc_l (fc_r (fc_l (fc_l (fc_r (fc_l fc_eq)))))))))
      | 0, _, j + 2, hj => exact absurd hj (by show ¬ j + 2 < 2; omega))
    (fun i j hi hj hne => absurd (show i = j by omega) hne) hA
  have e5 := h2 0 (by decide)
  have he : (Cond.eq (Term.string "PepperPolicy$Reader" 111) (Term.string "PepperPolicyModel" 208)).before #[Value.ref b] s = true := hs (.eq (.string "PepperPolicy$Reader" 111) (.string "PepperPolicyModel" 208)) (fc_r (fc_r (fc_r (fc_r (fc_l (fc_l (fc_l (fc_r (fc_l fc_eq)))))))))
  obtain ⟨y, y1, y2⟩ := Cond.eq_one he
  have e9 : (Term.string "PepperPolicyModel" 208).eval #[Value.ref b] s none [] s = some (.ref (adK 0)) := by
    rw [y2, ← y1]; exact e5
  exact ⟨adK 0, adV 0, ⟨fun i hi => by
    match i, hi with
    | 0, _ => exact h1.1 0 (by decide), fun i j hi hj _ => by omega⟩, e5, e9⟩
theorem lw_str12 {s : State} {b : Addr} (hs : ∀ c ∈ flatC (Jvm.Cond.and given_1 narrow_1), c.before #[Value.ref b] s = true) {A : Nat → Prop} (hA : ∀ a : Nat, a < s.heap.size → ¬ A a) : ∃ a v : Nat, vk_S 1 [4] [[102, 114, 111, 109]] (fun _ => a) (fun _ => v) A s s.heap ∧ (Term.string "PepperPolicy$Reader" 119).eval #[Value.ref b] s none [] s = some (.ref a) ∧ (Term.string "PepperPolicyModel" 191).eval #[Value.ref b] s none [] s = some (.ref a) := by
  obtain ⟨adK, adV, h1, h2⟩ := vk_Sof (N := 1) (tm := fun _ => (.string "PepperPolicy$Reader" 119)) (len := [4]) (byt := [[102, 114, 111, 109]]) (A := A) (args := #[Value.ref b]) (s := s) (by decide) (fun i hi => hs (.exactly (.string "PepperPolicy$Reader" 119) "java/lang/String") (fc_r (fc_l (fc_r (fc_r (fc_l (fc_l (fc_l (fc_r (fc_l fc_exactly)))))))))) (fun i hi => hs (.eq (.field (.string "PepperPolicy$Reader" 119) "java/lang/String" "coder" "B") (.int 0)) (fc_r (fc_l (fc_r (fc_r (fc_l (fc_l (fc_l (fc_r (fc_r fc_eq)))))))))) (fun i hi => hs (.arrayOf (.field (.string "PepperPolicy$Reader" 119) "java/lang/String" "value" "[B") .byte) (fc_r (fc_l (fc_r (fc_r (fc_l (fc_l (fc_r (fc_l (fc_l fc_arrayOf))))))))))
    (fun i hi => by
      match i, hi with
      | 0, _ => exact hs (.eq (.length (.field (.string "PepperPolicy$Reader" 119) "java/lang/String" "value" "[B")) (.int 4)) (fc_r (fc_l (fc_r (fc_r (fc_l (fc_l (fc_r (fc_l (fc_r fc_eq))))))))))
    (fun i hi j hj => by
      match i, hi, j, hj with
      | 0, _, 0, _ => exact hs (.eq (.elem (.field (.string "PepperPolicy$Reader" 119) "java/lang/String" "value" "[B") (.int 0)) (.int 102)) (fc_r (fc_l (fc_r (fc_r (fc_l (fc_l (fc_r (fc_r (fc_l fc_eq)))))))))
      | 0, _, 1, _ => exact hs (.eq (.elem (.field (.string "PepperPolicy$Reader" 119) "java/lang/String" "value" "[B") (.int 1)) (.int 114)) (fc_r (fc_l (fc_r (fc_r (fc_l (fc_l (fc_r (fc_r (fc_r fc_eq)))))))))
      | 0, _, 2, _ => exact hs (.eq (.elem (.field (.string "PepperPolicy$Reader" 119) "java/lang/String" "value" "[B") (.int 2)) (.int 111)) (fc_r (fc_l (fc_r (fc_r (fc_l (fc_r (fc_l (fc_l (fc_l fc_eq)))))))))
      | 0, _, 3, _ => exact hs (.eq (.elem (.field (.string "PepperPolicy$Reader" 119) "java/lang/String" "value" "[B") (.int 3)) (.int 109)) (fc_r (fc_l (fc_r (fc_r (fc_l (fc_r (fc_l (fc_l (fc_r fc_eq)))))))))
      | 0, _, j + 4, hj => exact absurd hj (by show ¬ j + 4 < 4; omega))
    (fun i j hi hj hne => absurd (show i = j by omega) hne) hA
  have e5 := h2 0 (by decide)
  have he : (Cond.eq (Term.string "PepperPolicy$Reader" 119) (Term.string "PepperPolicyModel" 191)).before #[Value.ref b] s = true := hs (.eq (.string "PepperPolicy$Reader" 119) (.string "PepperPolicyModel" 191)) (fc_r (fc_r (fc_r (fc_r (fc_l (fc_r (fc_l (fc_r (fc_l fc_eq)))))))))
  obtain ⟨y, y1, y2⟩ := Cond.eq_one he
  have e9 : (Term.string "PepperPolicyModel" 191).eval #[Value.ref b] s none [] s = some (.ref (adK 0)) := by
    rw [y2, ← y1]; exact e5
  exact ⟨adK 0, adV 0, ⟨fun i hi => by
    match i, hi with
    | 0, _ => exact h1.1 0 (by decide), fun i j hi hj _ => by omega⟩, e5, e9⟩
theorem lw_str13 {s : State} {b : Addr} (hs : ∀ c ∈ flatC (Jvm.Cond.and given_1 narrow_1), c.before #[Value.ref b] s = true) {A : Nat → Prop} (hA : ∀ a : Nat, a < s.heap.size → ¬ A a) : ∃ a v : Nat, vk_S 1 [2] [[116, 111]] (fun _ => a) (fun _ => v) A s s.heap ∧ (Term.string "PepperPolicy$Reader" 121).eval #[Value.ref b] s none [] s = some (.ref a) ∧ (Term.string "PepperPolicyModel" 192).eval #[Value.ref b] s none [] s = some (.ref a) := by
  obtain ⟨adK, adV, h1, h2⟩ := vk_Sof (N := 1) (tm := fun _ => (.string "PepperPolicy$Reader" 121)) (len := [2]) (byt := [[116, 111]]) (A := A) (args := #[Value.ref b]) (s := s) (by decide) (fun i hi => hs (.exactly (.string "PepperPolicy$Reader" 121) "java/lang/String") (fc_r (fc_l (fc_r (fc_r (fc_l (fc_r (fc_l (fc_r (fc_l fc_exactly)))))))))) (fun i hi => hs (.eq (.field (.string "PepperPolicy$Reader" 121) "java/lang/String" "coder" "B") (.int 0)) (fc_r (fc_l (fc_r (fc_r (fc_l (fc_r (fc_l (fc_r (fc_r fc_eq)))))))))) (fun i hi => hs (.arrayOf (.field (.string "PepperPolicy$Reader" 121) "java/lang/String" "value" "[B") .byte) (fc_r (fc_l (fc_r (fc_r (fc_l (fc_r (fc_r (fc_l (fc_l fc_arrayOf))))))))))
    (fun i hi => by
      match i, hi with
      | 0, _ => exact hs (.eq (.length (.field (.string "PepperPolicy$Reader" 121) "java/lang/String" "value" "[B")) (.int 2)) (fc_r (fc_l (fc_r (fc_r (fc_l (fc_r (fc_r (fc_l (fc_r fc_eq))))))))))
    (fun i hi j hj => by
      match i, hi, j, hj with
      | 0, _, 0, _ => exact hs (.eq (.elem (.field (.string "PepperPolicy$Reader" 121) "java/lang/String" "value" "[B") (.int 0)) (.int 116)) (fc_r (fc_l (fc_r (fc_r (fc_l (fc_r (fc_r (fc_r (fc_l fc_eq)))))))))
      | 0, _, 1, _ => exact hs (.eq (.elem (.field (.string "PepperPolicy$Reader" 121) "java/lang/String" "value" "[B") (.int 1)) (.int 111)) (fc_r (fc_l (fc_r (fc_r (fc_l (fc_r (fc_r (fc_r (fc_r (fc_l fc_eq))))))))))
      | 0, _, j + 2, hj => exact absurd hj (by show ¬ j + 2 < 2; omega))
    (fun i j hi hj hne => absurd (show i = j by omega) hne) hA
  have e5 := h2 0 (by decide)
  have he : (Cond.eq (Term.string "PepperPolicy$Reader" 121) (Term.string "PepperPolicyModel" 192)).before #[Value.ref b] s = true := hs (.eq (.string "PepperPolicy$Reader" 121) (.string "PepperPolicyModel" 192)) (fc_r (fc_r (fc_r (fc_r (fc_r (fc_l (fc_l (fc_l (fc_l fc_eq)))))))))
  obtain ⟨y, y1, y2⟩ := Cond.eq_one he
  have e9 : (Term.string "PepperPolicyModel" 192).eval #[Value.ref b] s none [] s = some (.ref (adK 0)) := by
    rw [y2, ← y1]; exact e5
  exact ⟨adK 0, adV 0, ⟨fun i hi => by
    match i, hi with
    | 0, _ => exact h1.1 0 (by decide), fun i j hi hj _ => by omega⟩, e5, e9⟩
theorem lw_str14 {s : State} {b : Addr} (hs : ∀ c ∈ flatC (Jvm.Cond.and given_1 narrow_1), c.before #[Value.ref b] s = true) {A : Nat → Prop} (hA : ∀ a : Nat, a < s.heap.size → ¬ A a) : ∃ a v : Nat, vk_S 1 [3] [[115, 117, 109]] (fun _ => a) (fun _ => v) A s s.heap ∧ (Term.string "PepperPolicy$Reader" 123).eval #[Value.ref b] s none [] s = some (.ref a) ∧ (Term.string "PepperPolicyModel" 194).eval #[Value.ref b] s none [] s = some (.ref a) := by
  obtain ⟨adK, adV, h1, h2⟩ := vk_Sof (N := 1) (tm := fun _ => (.string "PepperPolicy$Reader" 123)) (len := [3]) (byt := [[115, 117, 109]]) (A := A) (args := #[Value.ref b]) (s := s) (by decide) (fun i hi => hs (.exactly (.string "PepperPolicy$Reader" 123) "java/lang/String") (fc_r (fc_l (fc_r (fc_r (fc_l (fc_r (fc_r (fc_r (fc_r (fc_r fc_exactly))))))))))) (fun i hi => hs (.eq (.field (.string "PepperPolicy$Reader" 123) "java/lang/String" "coder" "B") (.int 0)) (fc_r (fc_l (fc_r (fc_r (fc_r (fc_l (fc_l (fc_l (fc_l fc_eq)))))))))) (fun i hi => hs (.arrayOf (.field (.string "PepperPolicy$Reader" 123) "java/lang/String" "value" "[B") .byte) (fc_r (fc_l (fc_r (fc_r (fc_r (fc_l (fc_l (fc_l (fc_r fc_arrayOf))))))))))
    (fun i hi => by
      match i, hi with
      | 0, _ => exact hs (.eq (.length (.field (.string "PepperPolicy$Reader" 123) "java/lang/String" "value" "[B")) (.int 3)) (fc_r (fc_l (fc_r (fc_r (fc_r (fc_l (fc_l (fc_r (fc_l fc_eq))))))))))
    (fun i hi j hj => by
      match i, hi, j, hj with
      | 0, _, 0, _ => exact hs (.eq (.elem (.field (.string "PepperPolicy$Reader" 123) "java/lang/String" "value" "[B") (.int 0)) (.int 115)) (fc_r (fc_l (fc_r (fc_r (fc_r (fc_l (fc_l (fc_r (fc_r fc_eq)))))))))
      | 0, _, 1, _ => exact hs (.eq (.elem (.field (.string "PepperPolicy$Reader" 123) "java/lang/String" "value" "[B") (.int 1)) (.int 117)) (fc_r (fc_l (fc_r (fc_r (fc_r (fc_l (fc_r (fc_l (fc_l fc_eq)))))))))
      | 0, _, 2, _ => exact hs (.eq (.elem (.field (.string "PepperPolicy$Reader" 123) "java/lang/String" "value" "[B") (.int 2)) (.int 109)) (fc_r (fc_l (fc_r (fc_r (fc_r (fc_l (fc_r (fc_l (fc_r fc_eq)))))))))
      | 0, _, j + 3, hj => exact absurd hj (by show ¬ j + 3 < 3; omega))
    (fun i j hi hj hne => absurd (show i = j by omega) hne) hA
  have e5 := h2 0 (by decide)
  have he : (Cond.eq (Term.string "PepperPolicy$Reader" 123) (Term.string "PepperPolicyModel" 194)).before #[Value.ref b] s = true := hs (.eq (.string "PepperPolicy$Reader" 123) (.string "PepperPolicyModel" 194)) (fc_r (fc_r (fc_r (fc_r (fc_r (fc_l (fc_r (fc_r (fc_r (fc_r fc_eq))))))))))
  obtain ⟨y, y1, y2⟩ := Cond.eq_one he
  have e9 : (Term.string "PepperPolicyModel" 194).eval #[Value.ref b] s none [] s = some (.ref (adK 0)) := by
    rw [y2, ← y1]; exact e5
  exact ⟨adK 0, adV 0, ⟨fun i hi => by
    match i, hi with
    | 0, _ => exact h1.1 0 (by decide), fun i j hi hj _ => by omega⟩, e5, e9⟩
theorem lw_str15 {s : State} {b : Addr} (hs : ∀ c ∈ flatC (Jvm.Cond.and given_1 narrow_1), c.before #[Value.ref b] s = true) {A : Nat → Prop} (hA : ∀ a : Nat, a < s.heap.size → ¬ A a) : ∃ a v : Nat, vk_S 1 [4] [[112, 97, 121, 115]] (fun _ => a) (fun _ => v) A s s.heap ∧ (Term.string "PepperPolicy$Reader" 125).eval #[Value.ref b] s none [] s = some (.ref a) ∧ (Term.string "PepperPolicyModel" 196).eval #[Value.ref b] s none [] s = some (.ref a) := by
  obtain ⟨adK, adV, h1, h2⟩ := vk_Sof (N := 1) (tm := fun _ => (.string "PepperPolicy$Reader" 125)) (len := [4]) (byt := [[112, 97, 121, 115]]) (A := A) (args := #[Value.ref b]) (s := s) (by decide) (fun i hi => hs (.exactly (.string "PepperPolicy$Reader" 125) "java/lang/String") (fc_r (fc_l (fc_r (fc_r (fc_r (fc_l (fc_r (fc_r (fc_l fc_exactly)))))))))) (fun i hi => hs (.eq (.field (.string "PepperPolicy$Reader" 125) "java/lang/String" "coder" "B") (.int 0)) (fc_r (fc_l (fc_r (fc_r (fc_r (fc_l (fc_r (fc_r (fc_r (fc_l fc_eq))))))))))) (fun i hi => hs (.arrayOf (.field (.string "PepperPolicy$Reader" 125) "java/lang/String" "value" "[B") .byte) (fc_r (fc_l (fc_r (fc_r (fc_r (fc_l (fc_r (fc_r (fc_r (fc_r fc_arrayOf)))))))))))
    (fun i hi => by
      match i, hi with
      | 0, _ => exact hs (.eq (.length (.field (.string "PepperPolicy$Reader" 125) "java/lang/String" "value" "[B")) (.int 4)) (fc_r (fc_l (fc_r (fc_r (fc_r (fc_r (fc_l (fc_l (fc_l fc_eq))))))))))
    (fun i hi j hj => by
      match i, hi, j, hj with
      | 0, _, 0, _ => exact hs (.eq (.elem (.field (.string "PepperPolicy$Reader" 125) "java/lang/String" "value" "[B") (.int 0)) (.int 112)) (fc_r (fc_l (fc_r (fc_r (fc_r (fc_r (fc_l (fc_l (fc_r fc_eq)))))))))
      | 0, _, 1, _ => exact hs (.eq (.elem (.field (.string "PepperPolicy$Reader" 125) "java/lang/String" "value" "[B") (.int 1)) (.int 97)) (fc_r (fc_l (fc_r (fc_r (fc_r (fc_r (fc_l (fc_r (fc_l fc_eq)))))))))
      | 0, _, 2, _ => exact hs (.eq (.elem (.field (.string "PepperPolicy$Reader" 125) "java/lang/String" "value" "[B") (.int 2)) (.int 121)) (fc_r (fc_l (fc_r (fc_r (fc_r (fc_r (fc_l (fc_r (fc_r fc_eq)))))))))
      | 0, _, 3, _ => exact hs (.eq (.elem (.field (.string "PepperPolicy$Reader" 125) "java/lang/String" "value" "[B") (.int 3)) (.int 115)) (fc_r (fc_l (fc_r (fc_r (fc_r (fc_r (fc_r (fc_l (fc_l fc_eq)))))))))
      | 0, _, j + 4, hj => exact absurd hj (by show ¬ j + 4 < 4; omega))
    (fun i j hi hj hne => absurd (show i = j by omega) hne) hA
  have e5 := h2 0 (by decide)
  have he : (Cond.eq (Term.string "PepperPolicy$Reader" 125) (Term.string "PepperPolicyModel" 196)).before #[Value.ref b] s = true := hs (.eq (.string "PepperPolicy$Reader" 125) (.string "PepperPolicyModel" 196)) (fc_r (fc_r (fc_r (fc_r (fc_r (fc_r (fc_r (fc_r (fc_r (fc_r fc_eq))))))))))
  obtain ⟨y, y1, y2⟩ := Cond.eq_one he
  have e9 : (Term.string "PepperPolicyModel" 196).eval #[Value.ref b] s none [] s = some (.ref (adK 0)) := by
    rw [y2, ← y1]; exact e5
  exact ⟨adK 0, adV 0, ⟨fun i hi => by
    match i, hi with
    | 0, _ => exact h1.1 0 (by decide), fun i j hi hj _ => by omega⟩, e5, e9⟩
theorem lw_nestm : ∀ z ∈ sn_nest, Cond.methodLinkNest z.1 z.2.1 z.2.2.1 z.2.2.2 ∈ tables_1 := by decide +kernel
def lw_ad (N0 : Nat) (aK aV : Nat → Nat) : Nat → Nat := fun q => if q < 1000 then N0 + q else if q < 2000 then aK (q - 1000) else aV (q - 2000)
theorem lw_bg {s : State} {b : Addr} (hts : ∀ w ∈ lw_tbl, w.before #[Value.ref b] s = true) (hv : (Jvm.Cond.and given_1 narrow_1).before #[Value.ref b] s = true) : ∃ aK aV : Nat → Nat, ∀ (N0 : Nat) (A : Nat → Prop), (∀ q, A q → s.heap.size ≤ q) → sn_bg (lw_ad N0 aK aV) A s s.heap := by
  have hs := flat_of_before _ hv
  have hA : ∀ a : Nat, a < s.heap.size → ¬ (fun q : Nat => s.heap.size ≤ q) a := fun a h z => absurd z (by omega)
  obtain ⟨a0, v0, s0, x0, y0⟩ := lw_str0 hs hA
  obtain ⟨a1, v1, s1, x1, y1⟩ := lw_str1 hs hA
  obtain ⟨a2, v2, s2, x2, y2⟩ := lw_str2 hs hA
  obtain ⟨a3, v3, s3, x3, y3⟩ := lw_str3 hs hA
  obtain ⟨a4, v4, s4, x4, y4⟩ := lw_str4 hs hA
  obtain ⟨a5, v5, s5, x5, y5⟩ := lw_str5 hs hA
  obtain ⟨a6, v6, s6, x6, y6⟩ := lw_str6 hs hA
  obtain ⟨a7, v7, s7, x7, y7⟩ := lw_str7 hs hA
  obtain ⟨a8, v8, s8, x8, y8⟩ := lw_str8 hs hA
  obtain ⟨a9, v9, s9, x9, y9⟩ := lw_str9 hs hA
  obtain ⟨a10, v10, s10, x10, y10⟩ := lw_str10 hs hA
  obtain ⟨a11, v11, s11, x11, y11⟩ := lw_str11 hs hA
  obtain ⟨a12, v12, s12, x12, y12⟩ := lw_str12 hs hA
  obtain ⟨a13, v13, s13, x13, y13⟩ := lw_str13 hs hA
  obtain ⟨a14, v14, s14, x14, y14⟩ := lw_str14 hs hA
  obtain ⟨a15, v15, s15, x15, y15⟩ := lw_str15 hs hA
  have hZ := va_Zof (hts (.laysStatic "java/lang/String" "COMPACT_STRINGS" "Z") (List.mem_append_right _ (lb_1 (lt_16 (lt_16 (lt_16 (lt_16 (lt_16 (lt_16 (lt_16 (lt_16 (lt_15 lt_h)))))))))))) (hts (.initialized "java/lang/String") (List.mem_append_right _ (lb_0 (lt_13 lt_h)))) (v := .int 1) (Cond.eq_int (hs (.eq (.static "java/lang/String" "COMPACT_STRINGS" "Z") (.int 1)) (fc_r (fc_l (fc_l (fc_l (fc_l (fc_l (fc_l (fc_r (fc_l fc_eq)))))))))) rfl) hA
  have hQ := va_Zqof (hts (.laysStatic "jdk/internal/util/Preconditions" "SIOOBE_FORMATTER" "Ljava/util/function/BiFunction;") (List.mem_append_right _ (lb_1 (lt_16 (lt_16 (lt_16 (lt_16 (lt_16 (lt_16 (lt_16 (lt_16 (lt_16 (lt_15 lt_h))))))))))))) (hts (.initialized "jdk/internal/util/Preconditions") (List.mem_append_right _ (lb_0 (lt_15 lt_h)))) (hs (.isRef (.static "jdk/internal/util/Preconditions" "SIOOBE_FORMATTER" "Ljava/util/function/BiFunction;")) (fc_r (fc_l (fc_l (fc_l (fc_l (fc_l (fc_l (fc_r (fc_r fc_isRef)))))))))) hA
  refine ⟨fun k => [a0, a1, a2, a3, a4, a5, a6, a7, a8, a9, a10, a11, a12, a13, a14, a15].getD k 0, fun k => [v0, v1, v2, v3, v4, v5, v6, v7, v8, v9, v10, v11, v12, v13, v14, v15].getD k 0, fun N0 A hAs => ⟨?_, ?_, hZ.narrow hAs, hQ.narrow hAs, fun z hz => va_Nw.of rfl (hts _ (List.mem_append_right _ (lw_nestm z hz)))⟩⟩
  · intro k hk
    match k, hk with
    | 0, _ => exact s0.narrow hAs
    | 1, _ => exact s1.narrow hAs
    | 2, _ => exact s2.narrow hAs
    | 3, _ => exact s3.narrow hAs
    | 4, _ => exact s4.narrow hAs
    | 5, _ => exact s5.narrow hAs
    | 6, _ => exact s6.narrow hAs
    | 7, _ => exact s7.narrow hAs
    | 8, _ => exact s8.narrow hAs
    | 9, _ => exact s9.narrow hAs
    | 10, _ => exact s10.narrow hAs
    | 11, _ => exact s11.narrow hAs
    | 12, _ => exact s12.narrow hAs
    | 13, _ => exact s13.narrow hAs
    | 14, _ => exact s14.narrow hAs
    | 15, _ => exact s15.narrow hAs
    | k + 16, h => exact absurd h (by omega)
  · exact List.forall_mem_cons.mpr ⟨vk_R.of (hts (.stringRef "PepperPolicy$Reader" 52 "house") (List.mem_append_right _ (lb_1 (lt_16 (lt_16 (lt_16 (lt_16 (lt_16 (lt_16 (lt_16 (lt_13 lt_h))))))))))) x0, List.forall_mem_cons.mpr ⟨vk_R.of (hts (.stringRef "PepperPolicy$Reader" 58 "minutes") (List.mem_append_right _ (lb_1 (lt_16 (lt_16 (lt_16 (lt_16 (lt_16 (lt_16 (lt_16 (lt_16 (lt_16 (lt_16 (lt_16 (lt_10 lt_h))))))))))))))) x1, List.forall_mem_cons.mpr ⟨vk_R.of (hts (.stringRef "PepperPolicy$Reader" 64 "dust") (List.mem_append_right _ (lb_1 (lt_16 (lt_16 (lt_16 (lt_16 (lt_16 (lt_16 (lt_16 (lt_16 (lt_16 (lt_16 (lt_16 (lt_16 (lt_4 lt_h)))))))))))))))) x2, List.forall_mem_cons.mpr ⟨vk_R.of (hts (.stringRef "PepperPolicy$Reader" 66 "law") (List.mem_append_right _ (lb_1 (lt_16 (lt_16 (lt_16 (lt_16 (lt_16 (lt_16 (lt_16 (lt_16 (lt_16 (lt_16 (lt_16 (lt_16 (lt_5 lt_h)))))))))))))))) x3, List.forall_mem_cons.mpr ⟨vk_R.of (hts (.stringRef "PepperPolicy$Reader" 68 "money") (List.mem_append_right _ (lb_1 (lt_16 (lt_16 (lt_16 (lt_16 (lt_16 (lt_16 (lt_16 (lt_16 (lt_16 (lt_16 (lt_16 (lt_16 (lt_6 lt_h)))))))))))))))) x4, List.forall_mem_cons.mpr ⟨vk_R.of (hts (.stringRef "PepperPolicy$Reader" 70 "odds") (List.mem_append_right _ (lb_1 (lt_16 (lt_16 (lt_16 (lt_16 (lt_16 (lt_16 (lt_16 (lt_16 (lt_16 (lt_16 (lt_16 (lt_16 (lt_7 lt_h)))))))))))))))) x5, List.forall_mem_cons.mpr ⟨vk_R.of (hts (.stringRef "PepperPolicy$Reader" 75 "nose") (List.mem_append_right _ (lb_1 (lt_16 (lt_16 (lt_16 (lt_16 (lt_16 (lt_16 (lt_16 (lt_16 (lt_16 (lt_16 (lt_16 (lt_16 (lt_16 lt_h)))))))))))))))) x6, List.forall_mem_cons.mpr ⟨vk_R.of (hts (.stringRef "PepperPolicy$Reader" 85 "gust") (List.mem_append_right _ (lb_1 (lt_16 (lt_16 (lt_16 (lt_16 (lt_16 (lt_16 (lt_16 (lt_16 (lt_16 (lt_16 (lt_16 (lt_16 (lt_16 (lt_6 lt_h))))))))))))))))) x7, List.forall_mem_cons.mpr ⟨vk_R.of (hts (.stringRef "PepperPolicy$Reader" 90 "net") (List.mem_append_right _ (lb_1 (lt_16 (lt_16 (lt_16 (lt_16 (lt_16 (lt_16 (lt_16 (lt_16 (lt_16 (lt_16 (lt_16 (lt_16 (lt_16 (lt_12 lt_h))))))))))))))))) x8, List.forall_mem_cons.mpr ⟨vk_R.of (hts (.stringRef "PepperPolicy$Reader" 95 "policy") (List.mem_append_right _ (lb_1 (lt_16 (lt_16 (lt_16 (lt_16 (lt_16 (lt_16 (lt_16 (lt_16 (lt_16 (lt_16 (lt_16 (lt_16 (lt_16 (lt_16 (lt_1 lt_h)))))))))))))))))) x9, List.forall_mem_cons.mpr ⟨vk_R.of (hts (.stringRef "PepperPolicy$Reader" 106 "holds") (List.mem_append_right _ (lb_1 (lt_16 (lt_16 (lt_16 (lt_16 (lt_16 (lt_16 (lt_16 (lt_16 (lt_16 (lt_16 (lt_16 (lt_16 (lt_16 (lt_5 lt_h))))))))))))))))) x10, List.forall_mem_cons.mpr ⟨vk_R.of (hts (.stringRef "PepperPolicy$Reader" 111 "at") (List.mem_append_right _ (lb_1 (lt_16 (lt_16 (lt_16 (lt_16 (lt_16 (lt_16 (lt_16 (lt_16 (lt_16 (lt_16 (lt_16 (lt_16 (lt_16 (lt_11 lt_h))))))))))))))))) x11, List.forall_mem_cons.mpr ⟨vk_R.of (hts (.stringRef "PepperPolicy$Reader" 119 "from") (List.mem_append_right _ (lb_1 (lt_16 (lt_16 (lt_16 (lt_16 (lt_16 (lt_16 (lt_16 (lt_16 (lt_16 (lt_16 (lt_16 (lt_16 (lt_16 (lt_16 (lt_6 lt_h)))))))))))))))))) x12, List.forall_mem_cons.mpr ⟨vk_R.of (hts (.stringRef "PepperPolicy$Reader" 121 "to") (List.mem_append_right _ (lb_1 (lt_16 (lt_16 (lt_16 (lt_16 (lt_16 (lt_16 (lt_16 (lt_16 (lt_16 (lt_16 (lt_16 (lt_16 (lt_16 (lt_16 (lt_7 lt_h)))))))))))))))))) x13, List.forall_mem_cons.mpr ⟨vk_R.of (hts (.stringRef "PepperPolicy$Reader" 123 "sum") (List.mem_append_right _ (lb_1 (lt_16 (lt_16 (lt_16 (lt_16 (lt_16 (lt_16 (lt_16 (lt_16 (lt_16 (lt_16 (lt_16 (lt_16 (lt_16 (lt_16 (lt_8 lt_h)))))))))))))))))) x14, List.forall_mem_cons.mpr ⟨vk_R.of (hts (.stringRef "PepperPolicy$Reader" 125 "pays") (List.mem_append_right _ (lb_1 (lt_16 (lt_16 (lt_16 (lt_16 (lt_16 (lt_16 (lt_16 (lt_16 (lt_16 (lt_16 (lt_16 (lt_16 (lt_16 (lt_16 (lt_9 lt_h)))))))))))))))))) x15, List.forall_mem_cons.mpr ⟨vk_R.of (hts (.stringRef "PepperPolicyModel" 175 "house") (List.mem_append_right _ (lb_5 (lt_16 (lt_16 (lt_16 (lt_16 (lt_7 lt_h)))))))) y0, List.forall_mem_cons.mpr ⟨vk_R.of (hts (.stringRef "PepperPolicyModel" 177 "minutes") (List.mem_append_right _ (lb_5 (lt_16 (lt_16 (lt_16 (lt_16 (lt_16 (lt_10 lt_h))))))))) y1, List.forall_mem_cons.mpr ⟨vk_R.of (hts (.stringRef "PepperPolicyModel" 183 "dust") (List.mem_append_right _ (lb_5 (lt_16 (lt_16 (lt_16 (lt_16 (lt_16 (lt_16 (lt_3 lt_h)))))))))) y2, List.forall_mem_cons.mpr ⟨vk_R.of (hts (.stringRef "PepperPolicyModel" 185 "law") (List.mem_append_right _ (lb_5 (lt_16 (lt_16 (lt_16 (lt_16 (lt_16 (lt_16 (lt_4 lt_h)))))))))) y3, List.forall_mem_cons.mpr ⟨vk_R.of (hts (.stringRef "PepperPolicyModel" 187 "money") (List.mem_append_right _ (lb_5 (lt_16 (lt_16 (lt_16 (lt_16 (lt_16 (lt_16 (lt_5 lt_h)))))))))) y4, List.forall_mem_cons.mpr ⟨vk_R.of (hts (.stringRef "PepperPolicyModel" 189 "odds") (List.mem_append_right _ (lb_5 (lt_16 (lt_16 (lt_16 (lt_16 (lt_16 (lt_16 (lt_6 lt_h)))))))))) y5, List.forall_mem_cons.mpr ⟨vk_R.of (hts (.stringRef "PepperPolicyModel" 198 "nose") (List.mem_append_right _ (lb_5 (lt_16 (lt_16 (lt_16 (lt_16 (lt_16 (lt_16 (lt_11 lt_h)))))))))) y6, List.forall_mem_cons.mpr ⟨vk_R.of (hts (.stringRef "PepperPolicyModel" 200 "gust") (List.mem_append_right _ (lb_5 (lt_16 (lt_16 (lt_16 (lt_16 (lt_16 (lt_16 (lt_12 lt_h)))))))))) y7, List.forall_mem_cons.mpr ⟨vk_R.of (hts (.stringRef "PepperPolicyModel" 202 "net") (List.mem_append_right _ (lb_5 (lt_16 (lt_16 (lt_16 (lt_16 (lt_16 (lt_16 (lt_13 lt_h)))))))))) y8, List.forall_mem_cons.mpr ⟨vk_R.of (hts (.stringRef "PepperPolicyModel" 204 "policy") (List.mem_append_right _ (lb_5 (lt_16 (lt_16 (lt_16 (lt_16 (lt_16 (lt_16 (lt_14 lt_h)))))))))) y9, List.forall_mem_cons.mpr ⟨vk_R.of (hts (.stringRef "PepperPolicyModel" 206 "holds") (List.mem_append_right _ (lb_5 (lt_16 (lt_16 (lt_16 (lt_16 (lt_16 (lt_16 (lt_15 lt_h)))))))))) y10, List.forall_mem_cons.mpr ⟨vk_R.of (hts (.stringRef "PepperPolicyModel" 208 "at") (List.mem_append_right _ (lb_5 (lt_16 (lt_16 (lt_16 (lt_16 (lt_16 (lt_16 (lt_16 lt_h)))))))))) y11, List.forall_mem_cons.mpr ⟨vk_R.of (hts (.stringRef "PepperPolicyModel" 191 "from") (List.mem_append_right _ (lb_5 (lt_16 (lt_16 (lt_16 (lt_16 (lt_16 (lt_16 (lt_16 (lt_9 lt_h))))))))))) y12, List.forall_mem_cons.mpr ⟨vk_R.of (hts (.stringRef "PepperPolicyModel" 192 "to") (List.mem_append_right _ (lb_5 (lt_16 (lt_16 (lt_16 (lt_16 (lt_16 (lt_16 (lt_16 (lt_10 lt_h))))))))))) y13, List.forall_mem_cons.mpr ⟨vk_R.of (hts (.stringRef "PepperPolicyModel" 194 "sum") (List.mem_append_right _ (lb_5 (lt_16 (lt_16 (lt_16 (lt_16 (lt_16 (lt_16 (lt_16 (lt_11 lt_h))))))))))) y14, List.forall_mem_cons.mpr ⟨vk_R.of (hts (.stringRef "PepperPolicyModel" 196 "pays") (List.mem_append_right _ (lb_5 (lt_16 (lt_16 (lt_16 (lt_16 (lt_16 (lt_16 (lt_16 (lt_12 lt_h))))))))))) y15, fun _ h => absurd h List.not_mem_nil⟩⟩⟩⟩⟩⟩⟩⟩⟩⟩⟩⟩⟩⟩⟩⟩⟩⟩⟩⟩⟩⟩⟩⟩⟩⟩⟩⟩⟩⟩⟩⟩
