-- fX9_losesBy
theorem zc_637 {σ0 : sn_S} {σ : sn_S} (h_σ : zs_M σ0 σ) {x1 : Int32} (h_x1 : zs_in x1.toInt 0 5) {x2 : Int32} (h_x2 : zs_in x2.toInt 0 5) {x3 : Int32} (h_x3 : zs_in x3.toInt 0 1) {x4 : Int32} {x5 : Int32} (h_x5 : zs_in x5.toInt 1 1) : zs_ok (fX9_losesBy σ x1 x2 x3 x4 x5) (fun r => (True ∧ zs_M σ0 r.2)) := by
  unfold fX9_losesBy
  obtain rfl : x5 = (1 : Int32) := zs_eqv h_x5 (by decide)
  refine zs_bd_ (zc_31 h_σ) (fun t_1 pt_1 => ?_)
  refine zs_bd_ (zc_21 pt_1) (fun t_3 pt_3 => ?_)
  refine zs_lt (Q := fun z => zs_in z.toInt 0 1073741823) (zs_subI 0 1073741823 (zs_cases pt_3 (fun z => zs_in ((1 : Int32) <<< (z &&& 31)).toInt 1 1073741824) (by decide +kernel)) zlI_1 (by decide)) (fun y_5 hy_5 => ?_)
  refine zs_ite (fun c1 => ?_) (fun c1 => ?_)
  · skip
    have r2 := (zs_I_eq c1)
    have g3 : zs_in (x3).toInt 1 1 := (zs_eql 1 1 r2 h_x3 zlI_1 (by decide))
    refine zs_gd (zs_gin h_x1 (by decide)) ?_
    refine zs_lt (Q := fun z => zs_M σ0 z) (zs_wrt pt_1 (fun _ => rfl) (fun _ => rfl)) (fun σ_9 hσ_9 => ?_)
    obtain ⟨ret, er, hr⟩ := zc_631 hσ_9 h_x1 h_x2 g3 h_x5 hy_5
    refine ⟨ret, er, ?_⟩
    exact hr
  · skip
    have r4 := (zs_I_eqn c1)
    have g5 : zs_in (x3).toInt 0 0 := (zs_neh 0 0 r4 h_x3 zlI_1 (by decide))
    obtain ⟨ret, er, hr⟩ := zc_636 pt_1 h_x1 h_x2 g5 h_x5 hy_5
    refine ⟨ret, er, ?_⟩
    exact hr
-- BX9_rests_110
theorem zc_638 {σ0 : sn_S} {σ : sn_S} (h_σ : zs_M σ0 σ) {x1 : Int32} (h_x1 : zs_in x1.toInt 0 5) {x2 : Int32} (h_x2 : zs_in x2.toInt 0 5) {x3 : Int32} (h_x3 : zs_in x3.toInt 0 15) {x4 : Int32} (h_x4 : zs_in x4.toInt 0 3) {t0 : Int32} (h_t0 : zs_in t0.toInt 0 15) {t1 : Int32} (h_t1 : zs_in t1.toInt 1 8) {c : Int} (hc : x4.toInt = c + 0) : zs_ok (BX9_rests_110 σ x1 x2 x3 x4 t0 t1) (fun r => zs_sum (fun v => ((zs_M σ0 v.1 ∧ (zs_in (v.2.1).toInt 0 15 ∧ zs_in (v.2.2).toInt 1 4))) ∧ v.2.2.toInt = c + 1) (fun v => False) r) := by
  unfold BX9_rests_110
  refine zs_lt (Q := fun z => zs_in z.toInt 0 15) (zs_or 4 15 h_t0 h_t1 (by decide)) (fun y_1 hy_1 => ?_)
  refine zs_lt (Q := fun z => zs_in z.toInt 1 4 ∧ z.toInt = c + 1) ⟨(zs_addI 1 4 h_x4 zlI_1 (by decide)), (zs_syI 1 hc h_x4 zlI_1 (by decide) (by decide))⟩ (fun y_3 hy_3 => ?_)
  exact zs_some (zs_inl ⟨⟨h_σ, ⟨hy_1, hy_3.1⟩⟩, hy_3.2⟩)
-- BX9_rests_94
theorem zc_639 {σ0 : sn_S} {σ : sn_S} (h_σ : zs_M σ0 σ) {x1 : Int32} (h_x1 : zs_in x1.toInt 0 5) {x2 : Int32} (h_x2 : zs_in x2.toInt 0 5) {x3 : Int32} (h_x3 : zs_in x3.toInt 0 15) {x4 : Int32} (h_x4 : zs_in x4.toInt 0 3) {t0 : Int32} (h_t0 : zs_in t0.toInt 1 1) {c : Int} (hc : x4.toInt = c + 0) : zs_ok (BX9_rests_94 σ x1 x2 x3 x4 t0) (fun r => zs_sum (fun v => ((zs_M σ0 v.1 ∧ (zs_in (v.2.1).toInt 0 15 ∧ zs_in (v.2.2).toInt 1 4))) ∧ v.2.2.toInt = c + 1) (fun v => False) r) := by
  unfold BX9_rests_94
  obtain rfl : t0 = (1 : Int32) := zs_eqv h_t0 (by decide)
  refine zs_ite (fun c1 => ?_) (fun c1 => ?_)
  · skip
    have r2 := (zs_I_eq c1)
    exact (zs_botr r2 h_t0 zlI_0 (by decide)).elim
  · skip
    have r3 := (zs_I_eqn c1)
    obtain ⟨ret, er, hr⟩ := zc_638 h_σ h_x1 h_x2 h_x3 h_x4 h_x3 (zs_cases h_x4 (fun z => zs_in ((1 : Int32) <<< (z &&& 31)).toInt 1 8) (by decide +kernel)) hc
    refine ⟨ret, er, ?_⟩
    exact (zs_sumw hr (fun v w => ⟨w.1, w.2⟩) (fun v w => w.elim))
-- BX9_rests_17
theorem zc_640 {σ0 : sn_S} {σ : sn_S} (h_σ : zs_M σ0 σ) {x1 : Int32} (h_x1 : zs_in x1.toInt 0 5) {x2 : Int32} (h_x2 : zs_in x2.toInt 0 5) {x3 : Int32} (h_x3 : zs_in x3.toInt 0 15) {x4 : Int32} (h_x4 : zs_in x4.toInt 0 4) {c : Int} (hc : x4.toInt = c + 0) : zs_ok (BX9_rests_17 σ x1 x2 x3 x4) (fun r => zs_sum (fun v => ((zs_M σ0 v.1 ∧ (zs_in (v.2.1).toInt 0 15 ∧ zs_in (v.2.2).toInt 1 4))) ∧ v.2.2.toInt = c + 1) (fun v => (zs_M σ0 v.1 ∧ zs_in (v.2).toInt 0 15)) r) := by
  unfold BX9_rests_17
  refine zs_ite (fun c1 => ?_) (fun c1 => ?_)
  · skip
    have r2 := (zs_I_le c1)
    have g3 : zs_in (x4).toInt 4 4 := (zs_ler 4 4 r2 zlI_4 h_x4 (by decide))
    exact zs_some (zs_inr (⟨h_σ, h_x3⟩))
  · skip
    have r4 := (zs_I_len c1)
    have g5 : zs_in (x4).toInt 0 3 := (zs_ltl 0 3 r4 h_x4 zlI_4 (by decide))
    refine zs_lt (Q := fun z => zs_in z.toInt 0 1) (zs_and zlI_1 (by decide)) (fun y_2 hy_2 => ?_)
    refine zs_lt (Q := fun z => True) trivial (fun y_4 hy_4 => ?_)
    refine zs_bd_ (zc_622 h_σ h_x1 h_x2 hy_2 zlI_0) (fun t_6 pt_6 => ?_)
    refine zs_bd_ (zc_622 pt_6.2 h_x1 h_x2 (zs_subI 0 1 zlI_1 hy_2 (by decide)) zlI_0) (fun t_8 pt_8 => ?_)
    refine zs_ite (fun c6 => ?_) (fun c6 => ?_)
    · skip
      have r7 := (zs_I_lt c6)
      have g8 : zs_in (t_8.1).toInt (-2147483648) 2147483646 := (zs_ltl (-2147483648) 2147483646 r7 (zs_topI _) (zs_topI _) (by decide))
      have g9 : zs_in (t_6.1).toInt (-2147483647) 2147483647 := (zs_ltr (-2147483647) 2147483647 r7 (zs_topI _) (zs_topI _) (by decide))
      obtain ⟨ret, er, hr⟩ := zc_625 pt_8.2 h_x1 h_x2 h_x3 g5 hc
      refine ⟨ret, er, ?_⟩
      exact (zs_sumw hr (fun v w => ⟨w.1, w.2⟩) (fun v w => w.elim))
    · skip
      have r10 := (zs_I_ltn c6)
      refine zs_bd_ (zc_637 pt_8.2 h_x1 h_x2 hy_2 zlI_1) (fun t_11 pt_11 => ?_)
      refine zs_bd_ (zc_637 pt_11.2 h_x1 h_x2 hy_2 zlI_1) (fun t_13 pt_13 => ?_)
      refine zs_ite (fun c11 => ?_) (fun c11 => ?_)
      · skip
        have r12 := (zs_I_lt c11)
        have g13 : zs_in (t_13.1).toInt (-2147483648) 2147483646 := (zs_ltl (-2147483648) 2147483646 r12 (zs_topI _) (zs_topI _) (by decide))
        have g14 : zs_in (t_11.1).toInt (-2147483647) 2147483647 := (zs_ltr (-2147483647) 2147483647 r12 (zs_topI _) (zs_topI _) (by decide))
        obtain ⟨ret, er, hr⟩ := zc_625 pt_13.2 h_x1 h_x2 h_x3 g5 hc
        refine ⟨ret, er, ?_⟩
        exact (zs_sumw hr (fun v w => ⟨w.1, w.2⟩) (fun v w => w.elim))
      · skip
        have r15 := (zs_I_ltn c11)
        obtain ⟨ret, er, hr⟩ := zc_639 pt_13.2 h_x1 h_x2 h_x3 g5 zlI_1 hc
        refine ⟨ret, er, ?_⟩
        exact (zs_sumw hr (fun v w => ⟨w.1, w.2⟩) (fun v w => w.elim))
theorem zd_111 {σ0 : sn_S} {x1 : Int32} (h_x1 : zs_in x1.toInt 0 5) {x2 : Int32} (h_x2 : zs_in x2.toInt 0 5) {s0 : (sn_S × (Int32 × Int32))} (h0 : (zs_M σ0 s0.1 ∧ (zs_in (s0.2.1).toInt 0 15 ∧ zs_in (s0.2.2).toInt 0 4))) : zs_ok (sn_it (LX9_rests_17 x1 x2) 5000 s0) (fun t => (zs_M σ0 t.1 ∧ zs_in (t.2).toInt 0 15)) := by
  refine zs_it (I := fun s => (zs_M σ0 s.1 ∧ (zs_in (s.2.1).toInt 0 15 ∧ zs_in (s.2.2).toInt 0 4))) (m := fun s => 4 - s.2.2.toInt) (fun s hs => ?_) (fun s hs => ?_) (by exact h0)
  · have h1 := hs.2.2; unfold zs_in at h1
    omega
  · obtain ⟨b, eb, hb⟩ := zc_640 hs.1 h_x1 h_x2 hs.2.1 hs.2.2 (c := s.2.2.toInt) (Int.add_zero _).symm
    exact ⟨b, eb, zs_sumw hb (fun v w => ⟨⟨w.1.1, ⟨w.1.2.1, (zs_w w.1.2.2 (by decide))⟩⟩, by have := w.2; omega⟩) (fun v w => w)⟩
-- BX9_rests_118
theorem zc_641 {σ0 : sn_S} {σ : sn_S} (h_σ : zs_M σ0 σ) {x3 : Int32} (h_x3 : zs_in x3.toInt 0 15) : zs_ok (BX9_rests_118 σ x3) (fun r => (zs_in (r.1).toInt 0 15 ∧ zs_M σ0 r.2)) := by
  unfold BX9_rests_118
  exact zs_some ⟨h_x3, h_σ⟩
-- fX9_rests
theorem zc_642 {σ0 : sn_S} {σ : sn_S} (h_σ : zs_M σ0 σ) {x1 : Int32} {x2 : Int32} : zs_ok (fX9_rests σ x1 x2) (fun r => ((zs_in (r.1).toInt (-2) 15 ∧ zs_M σ0 r.2)) ∧ ((r.1).toInt = (-2) ∨ (zs_in (x1).toInt 0 5 ∧ zs_in (x2).toInt 0 5))) := by
  unfold fX9_rests
  refine zs_bd_ (zc_607 h_σ) (fun t_1 pt_1 => ?_)
  refine zs_ite (fun c1 => ?_) (fun c1 => ?_)
  · skip
    have r2 := (zs_I_eq c1)
    have g3 : zs_in (t_1).toInt 0 0 := (zs_eql 0 0 r2 pt_1.1 zlI_0 (by decide))
    exact zs_some ⟨⟨(zs_w zlI_m2 (by decide)), h_σ⟩, Or.inl (zs_ptr zlI_m2)⟩
  · skip
    have r4 := (zs_I_eqn c1)
    have g5 : zs_in (t_1).toInt 1 1 := (zs_nel 1 1 r4 pt_1.1 zlI_0 (by decide))
    have q6 := (zs_or2 pt_1.2 g5 (by decide))
    have g7 : zs_in (x1).toInt 0 5 := q6.1
    have g8 : zs_in (x2).toInt 0 5 := q6.2
    refine zs_bd_ (zd_111 g7 g8 (s0 := (σ, ((0 : Int32), (0 : Int32)))) ⟨h_σ, ⟨(zs_w zlI_0 (by decide)), (zs_w zlI_0 (by decide))⟩⟩) (fun t_4 pt_4 => ?_)
    obtain ⟨ret, er, hr⟩ := zc_641 pt_4.1 pt_4.2
    refine ⟨ret, er, ?_⟩
    exact ⟨⟨(zs_w hr.1 (by decide)), hr.2⟩, Or.inr ⟨g7, g8⟩⟩
-- fX8_loses
theorem zc_643 {σ0 : sn_S} {σ : sn_S} (h_σ : zs_C σ0 σ) {x1 : Int32} {x2 : Int32} {x3 : Int32} {x4 : Int32} : zs_ok (fX8_loses σ x1 x2 x3 x4) (fun r => ((zs_in (r.1).toInt (-2) 97 ∧ zs_C σ0 r.2)) ∧ ((r.1).toInt = (-2) ∨ (zs_in (x1).toInt 0 5 ∧ zs_in (x2).toInt 0 5 ∧ zs_in (x3).toInt 0 1 ∧ zs_in (x4).toInt 0 1))) := by
  unfold fX8_loses
  refine zs_bd_ (zc_3 h_σ) (fun t_1 pt_1 => ?_)
  refine zs_ite (fun c1 => ?_) (fun c1 => ?_)
  · skip
    have r2 := (zs_I_eq c1)
    have g3 : zs_in (t_1).toInt 0 0 := (zs_eql 0 0 r2 pt_1.1 zlI_0 (by decide))
    exact zs_some ⟨⟨(zs_w zlI_m2 (by decide)), h_σ⟩, Or.inl (zs_ptr zlI_m2)⟩
  · skip
    have r4 := (zs_I_eqn c1)
    have g5 : zs_in (t_1).toInt 1 1 := (zs_nel 1 1 r4 pt_1.1 zlI_0 (by decide))
    have q6 := (zs_or2 pt_1.2 g5 (by decide))
    have g7 : zs_in (x1).toInt 0 5 := q6
    refine zs_bd_ (zc_3 h_σ) (fun t_4 pt_4 => ?_)
    refine zs_ite (fun c8 => ?_) (fun c8 => ?_)
    · skip
      have r9 := (zs_I_eq c8)
      have g10 : zs_in (t_4).toInt 0 0 := (zs_eql 0 0 r9 pt_4.1 zlI_0 (by decide))
      exact zs_some ⟨⟨(zs_w zlI_m2 (by decide)), h_σ⟩, Or.inl (zs_ptr zlI_m2)⟩
    · skip
      have r11 := (zs_I_eqn c8)
      have g12 : zs_in (t_4).toInt 1 1 := (zs_nel 1 1 r11 pt_4.1 zlI_0 (by decide))
      have q13 := (zs_or2 pt_4.2 g12 (by decide))
      have g14 : zs_in (x2).toInt 0 5 := q13
      refine zs_ite (fun c15 => ?_) (fun c15 => ?_)
      · skip
        have r16 := (zs_I_eq c15)
        exact zs_some ⟨⟨(zs_w zlI_m2 (by decide)), h_σ⟩, Or.inl (zs_ptr zlI_m2)⟩
      · skip
        have r17 := (zs_I_eqn c15)
        refine zs_ite (fun c18 => ?_) (fun c18 => ?_)
        · skip
          have r19 := (zs_I_lt c18)
          have g20 : zs_in (x3).toInt (-2147483648) (-1) := (zs_ltl (-2147483648) (-1) r19 (zs_topI _) zlI_0 (by decide))
          exact zs_some ⟨⟨(zs_w zlI_m2 (by decide)), h_σ⟩, Or.inl (zs_ptr zlI_m2)⟩
        · skip
          have r21 := (zs_I_ltn c18)
          have g22 : zs_in (x3).toInt 0 2147483647 := (zs_ler 0 2147483647 r21 zlI_0 (zs_topI _) (by decide))
          refine zs_ite (fun c23 => ?_) (fun c23 => ?_)
          · skip
            have r24 := (zs_I_lt c23)
            have g25 : zs_in (x3).toInt 2 2147483647 := (zs_ltr 2 2147483647 r24 zlI_1 g22 (by decide))
            exact zs_some ⟨⟨(zs_w zlI_m2 (by decide)), h_σ⟩, Or.inl (zs_ptr zlI_m2)⟩
          · skip
            have r26 := (zs_I_ltn c23)
            have g27 : zs_in (x3).toInt 0 1 := (zs_lel 0 1 r26 g22 zlI_1 (by decide))
            refine zs_ite (fun c28 => ?_) (fun c28 => ?_)
            · skip
              have r29 := (zs_I_lt c28)
              have g30 : zs_in (x4).toInt (-2147483648) (-1) := (zs_ltl (-2147483648) (-1) r29 (zs_topI _) zlI_0 (by decide))
              exact zs_some ⟨⟨(zs_w zlI_m2 (by decide)), h_σ⟩, Or.inl (zs_ptr zlI_m2)⟩
            · skip
              have r31 := (zs_I_ltn c28)
              have g32 : zs_in (x4).toInt 0 2147483647 := (zs_ler 0 2147483647 r31 zlI_0 (zs_topI _) (by decide))
              refine zs_ite (fun c33 => ?_) (fun c33 => ?_)
              · skip
                have r34 := (zs_I_le c33)
                have g35 : zs_in (x4).toInt 0 1 := (zs_lel 0 1 r34 g32 zlI_1 (by decide))
                refine zs_bd_ (zc_598 h_σ g7 g14 g27 g35) (fun t_12 pt_12 => ?_)
                exact zs_some ⟨⟨(zs_w pt_12.1 (by decide)), pt_12.2⟩, Or.inr ⟨g7, g14, g27, g35⟩⟩
              · skip
                have r36 := (zs_I_len c33)
                have g37 : zs_in (x4).toInt 2 2147483647 := (zs_ltr 2 2147483647 r36 zlI_1 g32 (by decide))
                exact zs_some ⟨⟨(zs_w zlI_m2 (by decide)), h_σ⟩, Or.inl (zs_ptr zlI_m2)⟩
-- BX9_losesBy_55
theorem zc_644 {σ0 : sn_S} {σ : sn_S} (h_σ : zs_M σ0 σ) {x3 : Int32} (h_x3 : zs_in x3.toInt 1 1) {x4 : Int32} (h_x4 : zs_in x4.toInt 0 0) {x5 : Int32} (h_x5 : zs_in x5.toInt 0 0) {t0 : Int32} (h_t0 : zs_in t0.toInt 0 5) : zs_ok (BX9_losesBy_55 σ x3 x4 x5 t0) (fun r => (True ∧ zs_M σ0 r.2)) := by
  unfold BX9_losesBy_55
  obtain rfl : x3 = (1 : Int32) := zs_eqv h_x3 (by decide)
  obtain rfl : x4 = (0 : Int32) := zs_eqv h_x4 (by decide)
  obtain rfl : x5 = (0 : Int32) := zs_eqv h_x5 (by decide)
  refine zs_gd (zs_gin h_t0 (by decide)) ?_
  refine zs_bd_ (zc_109 (zs_rdu (q := 10) (z := (0, 1073741823)) h_σ.1 (fun _ => rfl))) (fun t_2 pt_2 => ?_)
  refine zs_ite (fun c1 => ?_) (fun c1 => ?_)
  · skip
    have r2 := (zs_I_eq c1)
    obtain ⟨ret, er, hr⟩ := zc_609 h_σ h_x3
    refine ⟨ret, er, ?_⟩
    exact hr
  · skip
    have r3 := (zs_I_eqn c1)
    exact (zs_botne r3 h_x5 zlI_0 (by decide)).elim
-- BX9_losesBy_41
theorem zc_645 {σ0 : sn_S} {σ : sn_S} (h_σ : zs_M σ0 σ) {x1 : Int32} (h_x1 : zs_in x1.toInt 0 5) {x2 : Int32} (h_x2 : zs_in x2.toInt 0 5) {x3 : Int32} (h_x3 : zs_in x3.toInt 1 1) {x4 : Int32} (h_x4 : zs_in x4.toInt 0 0) {x5 : Int32} (h_x5 : zs_in x5.toInt 0 0) : zs_ok (BX9_losesBy_41 σ x1 x2 x3 x4 x5) (fun r => (True ∧ zs_M σ0 r.2)) := by
  unfold BX9_losesBy_41
  obtain rfl : x3 = (1 : Int32) := zs_eqv h_x3 (by decide)
  obtain rfl : x4 = (0 : Int32) := zs_eqv h_x4 (by decide)
  obtain rfl : x5 = (0 : Int32) := zs_eqv h_x5 (by decide)
  refine zs_bd_ (zc_90 h_σ) (fun t_1 pt_1 => ?_)
  refine zs_ite (fun c1 => ?_) (fun c1 => ?_)
  · skip
    have r2 := (zs_I_eq c1)
    obtain ⟨ret, er, hr⟩ := zc_644 pt_1 h_x3 h_x4 h_x5 h_x1
    refine ⟨ret, er, ?_⟩
    exact hr
  · skip
    have r3 := (zs_I_eqn c1)
    exact (zs_botne r3 h_x5 zlI_0 (by decide)).elim
-- BX9_losesBy_27
theorem zc_646 {σ0 : sn_S} {σ : sn_S} (h_σ : zs_M σ0 σ) {x1 : Int32} (h_x1 : zs_in x1.toInt 0 5) {x2 : Int32} (h_x2 : zs_in x2.toInt 0 5) {x3 : Int32} (h_x3 : zs_in x3.toInt 1 1) {x4 : Int32} (h_x4 : zs_in x4.toInt 0 1) {x5 : Int32} (h_x5 : zs_in x5.toInt 0 0) {x6 : Int32} (h_x6 : zs_in x6.toInt 0 1073741823) : zs_ok (BX9_losesBy_27 σ x1 x2 x3 x4 x5 x6) (fun r => (True ∧ zs_M σ0 r.2)) := by
  unfold BX9_losesBy_27
  obtain rfl : x3 = (1 : Int32) := zs_eqv h_x3 (by decide)
  obtain rfl : x5 = (0 : Int32) := zs_eqv h_x5 (by decide)
  refine zs_ite (fun c1 => ?_) (fun c1 => ?_)
  · skip
    have r2 := (zs_I_eq c1)
    have g3 : zs_in (x4).toInt 1 1 := (zs_eql 1 1 r2 h_x4 zlI_1 (by decide))
    refine zs_gd (zs_gin h_x2 (by decide)) ?_
    refine zs_lt (Q := fun z => zs_M σ0 z) (zs_wrt h_σ (fun _ => rfl) (fun _ => rfl)) (fun σ_3 hσ_3 => ?_)
    obtain ⟨ret, er, hr⟩ := zc_611 hσ_3 h_x1 h_x2 h_x3 g3 h_x5
    refine ⟨ret, er, ?_⟩
    exact hr
  · skip
    have r4 := (zs_I_eqn c1)
    have g5 : zs_in (x4).toInt 0 0 := (zs_neh 0 0 r4 h_x4 zlI_1 (by decide))
    obtain ⟨ret, er, hr⟩ := zc_645 h_σ h_x1 h_x2 h_x3 g5 h_x5
    refine ⟨ret, er, ?_⟩
    exact hr
-- BX9_losesBy_55
theorem zc_647 {σ0 : sn_S} {σ : sn_S} (h_σ : zs_M σ0 σ) {x3 : Int32} (h_x3 : zs_in x3.toInt 0 0) {x4 : Int32} (h_x4 : zs_in x4.toInt 0 0) {x5 : Int32} (h_x5 : zs_in x5.toInt 0 0) {t0 : Int32} (h_t0 : zs_in t0.toInt 0 5) : zs_ok (BX9_losesBy_55 σ x3 x4 x5 t0) (fun r => (True ∧ zs_M σ0 r.2)) := by
  unfold BX9_losesBy_55
  obtain rfl : x3 = (0 : Int32) := zs_eqv h_x3 (by decide)
  obtain rfl : x4 = (0 : Int32) := zs_eqv h_x4 (by decide)
  obtain rfl : x5 = (0 : Int32) := zs_eqv h_x5 (by decide)
  refine zs_gd (zs_gin h_t0 (by decide)) ?_
  refine zs_bd_ (zc_109 (zs_rdu (q := 10) (z := (0, 1073741823)) h_σ.1 (fun _ => rfl))) (fun t_2 pt_2 => ?_)
  refine zs_ite (fun c1 => ?_) (fun c1 => ?_)
  · skip
    have r2 := (zs_I_eq c1)
    obtain ⟨ret, er, hr⟩ := zc_616 h_σ h_x3
    refine ⟨ret, er, ?_⟩
    exact hr
  · skip
    have r3 := (zs_I_eqn c1)
    exact (zs_botne r3 h_x5 zlI_0 (by decide)).elim
-- BX9_losesBy_41
theorem zc_648 {σ0 : sn_S} {σ : sn_S} (h_σ : zs_M σ0 σ) {x1 : Int32} (h_x1 : zs_in x1.toInt 0 5) {x2 : Int32} (h_x2 : zs_in x2.toInt 0 5) {x3 : Int32} (h_x3 : zs_in x3.toInt 0 0) {x4 : Int32} (h_x4 : zs_in x4.toInt 0 0) {x5 : Int32} (h_x5 : zs_in x5.toInt 0 0) : zs_ok (BX9_losesBy_41 σ x1 x2 x3 x4 x5) (fun r => (True ∧ zs_M σ0 r.2)) := by
  unfold BX9_losesBy_41
  obtain rfl : x3 = (0 : Int32) := zs_eqv h_x3 (by decide)
  obtain rfl : x4 = (0 : Int32) := zs_eqv h_x4 (by decide)
  obtain rfl : x5 = (0 : Int32) := zs_eqv h_x5 (by decide)
  refine zs_bd_ (zc_90 h_σ) (fun t_1 pt_1 => ?_)
  refine zs_ite (fun c1 => ?_) (fun c1 => ?_)
  · skip
    have r2 := (zs_I_eq c1)
    obtain ⟨ret, er, hr⟩ := zc_647 pt_1 h_x3 h_x4 h_x5 h_x1
    refine ⟨ret, er, ?_⟩
    exact hr
  · skip
    have r3 := (zs_I_eqn c1)
    exact (zs_botne r3 h_x5 zlI_0 (by decide)).elim
-- BX9_losesBy_27
theorem zc_649 {σ0 : sn_S} {σ : sn_S} (h_σ : zs_M σ0 σ) {x1 : Int32} (h_x1 : zs_in x1.toInt 0 5) {x2 : Int32} (h_x2 : zs_in x2.toInt 0 5) {x3 : Int32} (h_x3 : zs_in x3.toInt 0 0) {x4 : Int32} (h_x4 : zs_in x4.toInt 0 1) {x5 : Int32} (h_x5 : zs_in x5.toInt 0 0) {x6 : Int32} (h_x6 : zs_in x6.toInt 0 1073741823) : zs_ok (BX9_losesBy_27 σ x1 x2 x3 x4 x5 x6) (fun r => (True ∧ zs_M σ0 r.2)) := by
  unfold BX9_losesBy_27
  obtain rfl : x3 = (0 : Int32) := zs_eqv h_x3 (by decide)
  obtain rfl : x5 = (0 : Int32) := zs_eqv h_x5 (by decide)
  refine zs_ite (fun c1 => ?_) (fun c1 => ?_)
  · skip
    have r2 := (zs_I_eq c1)
    have g3 : zs_in (x4).toInt 1 1 := (zs_eql 1 1 r2 h_x4 zlI_1 (by decide))
    refine zs_gd (zs_gin h_x2 (by decide)) ?_
    refine zs_lt (Q := fun z => zs_M σ0 z) (zs_wrt h_σ (fun _ => rfl) (fun _ => rfl)) (fun σ_3 hσ_3 => ?_)
    obtain ⟨ret, er, hr⟩ := zc_618 hσ_3 h_x1 h_x2 h_x3 g3 h_x5
    refine ⟨ret, er, ?_⟩
    exact hr
  · skip
    have r4 := (zs_I_eqn c1)
    have g5 : zs_in (x4).toInt 0 0 := (zs_neh 0 0 r4 h_x4 zlI_1 (by decide))
    obtain ⟨ret, er, hr⟩ := zc_648 h_σ h_x1 h_x2 h_x3 g5 h_x5
    refine ⟨ret, er, ?_⟩
    exact hr
-- fX9_losesBy
theorem zc_650 {σ0 : sn_S} {σ : sn_S} (h_σ : zs_M σ0 σ) {x1 : Int32} (h_x1 : zs_in x1.toInt 0 5) {x2 : Int32} (h_x2 : zs_in x2.toInt 0 5) {x3 : Int32} (h_x3 : zs_in x3.toInt 0 1) {x4 : Int32} (h_x4 : zs_in x4.toInt 0 1) {x5 : Int32} (h_x5 : zs_in x5.toInt 0 0) : zs_ok (fX9_losesBy σ x1 x2 x3 x4 x5) (fun r => (True ∧ zs_M σ0 r.2)) := by
  unfold fX9_losesBy
  obtain rfl : x5 = (0 : Int32) := zs_eqv h_x5 (by decide)
  refine zs_bd_ (zc_31 h_σ) (fun t_1 pt_1 => ?_)
  refine zs_bd_ (zc_21 pt_1) (fun t_3 pt_3 => ?_)
  refine zs_lt (Q := fun z => zs_in z.toInt 0 1073741823) (zs_subI 0 1073741823 (zs_cases pt_3 (fun z => zs_in ((1 : Int32) <<< (z &&& 31)).toInt 1 1073741824) (by decide +kernel)) zlI_1 (by decide)) (fun y_5 hy_5 => ?_)
  refine zs_ite (fun c1 => ?_) (fun c1 => ?_)
  · skip
    have r2 := (zs_I_eq c1)
    have g3 : zs_in (x3).toInt 1 1 := (zs_eql 1 1 r2 h_x3 zlI_1 (by decide))
    refine zs_gd (zs_gin h_x1 (by decide)) ?_
    refine zs_lt (Q := fun z => zs_M σ0 z) (zs_wrt pt_1 (fun _ => rfl) (fun _ => rfl)) (fun σ_9 hσ_9 => ?_)
    obtain ⟨ret, er, hr⟩ := zc_646 hσ_9 h_x1 h_x2 g3 h_x4 h_x5 hy_5
    refine ⟨ret, er, ?_⟩
    exact hr
  · skip
    have r4 := (zs_I_eqn c1)
    have g5 : zs_in (x3).toInt 0 0 := (zs_neh 0 0 r4 h_x3 zlI_1 (by decide))
    obtain ⟨ret, er, hr⟩ := zc_649 pt_1 h_x1 h_x2 g5 h_x4 h_x5 hy_5
    refine ⟨ret, er, ?_⟩
    exact hr
-- fX9_loses
theorem zc_651 {σ0 : sn_S} {σ : sn_S} (h_σ : zs_M σ0 σ) {x1 : Int32} {x2 : Int32} {x3 : Int32} {x4 : Int32} : zs_ok (fX9_loses σ x1 x2 x3 x4) (fun r => ((True ∧ zs_M σ0 r.2)) ∧ ((r.1).toInt = (-2) ∨ (zs_in (x1).toInt 0 5 ∧ zs_in (x2).toInt 0 5 ∧ zs_in (x3).toInt 0 1 ∧ zs_in (x4).toInt 0 1))) := by
  unfold fX9_loses
  refine zs_bd_ (zc_607 h_σ) (fun t_1 pt_1 => ?_)
  refine zs_ite (fun c1 => ?_) (fun c1 => ?_)
  · skip
    have r2 := (zs_I_eq c1)
    have g3 : zs_in (t_1).toInt 0 0 := (zs_eql 0 0 r2 pt_1.1 zlI_0 (by decide))
    exact zs_some ⟨⟨trivial, h_σ⟩, Or.inl (zs_ptr zlI_m2)⟩
  · skip
    have r4 := (zs_I_eqn c1)
    have g5 : zs_in (t_1).toInt 1 1 := (zs_nel 1 1 r4 pt_1.1 zlI_0 (by decide))
    have q6 := (zs_or2 pt_1.2 g5 (by decide))
    have g7 : zs_in (x1).toInt 0 5 := q6.1
    have g8 : zs_in (x2).toInt 0 5 := q6.2
    refine zs_bd_ (zc_7 (zs_64 (zs_topI _)) zlL_0 zlL_1) (fun t_4 pt_4 => ?_)
    refine zs_ite (fun c9 => ?_) (fun c9 => ?_)
    · skip
      have r10 := (zs_I_eq c9)
      have g11 : zs_in (t_4).toInt 0 0 := (zs_eql 0 0 r10 pt_4.1 zlI_0 (by decide))
      exact zs_some ⟨⟨trivial, h_σ⟩, Or.inl (zs_ptr zlI_m2)⟩
    · skip
      have r12 := (zs_I_eqn c9)
      have g13 : zs_in (t_4).toInt 1 1 := (zs_nel 1 1 r12 pt_4.1 zlI_0 (by decide))
      have q14 := (zs_or2 pt_4.2 g13 (by decide))
      have g15 : zs_in (x3.toInt64).toInt 0 1 := q14
      have g16 : zs_in (x3).toInt 0 1 := (zs_64r g15)
      refine zs_bd_ (zc_7 (zs_64 (zs_topI _)) zlL_0 zlL_1) (fun t_7 pt_7 => ?_)
      refine zs_ite (fun c17 => ?_) (fun c17 => ?_)
      · skip
        have r18 := (zs_I_eq c17)
        have g19 : zs_in (t_7).toInt 0 0 := (zs_eql 0 0 r18 pt_7.1 zlI_0 (by decide))
        exact zs_some ⟨⟨trivial, h_σ⟩, Or.inl (zs_ptr zlI_m2)⟩
      · skip
        have r20 := (zs_I_eqn c17)
        have g21 : zs_in (t_7).toInt 1 1 := (zs_nel 1 1 r20 pt_7.1 zlI_0 (by decide))
        have q22 := (zs_or2 pt_7.2 g21 (by decide))
        have g23 : zs_in (x4.toInt64).toInt 0 1 := q22
        have g24 : zs_in (x4).toInt 0 1 := (zs_64r g23)
        refine zs_bd_ (zc_650 h_σ g7 g8 g16 g24 zlI_0) (fun t_10 pt_10 => ?_)
        exact zs_some ⟨⟨trivial, pt_10.2⟩, Or.inr ⟨g7, g8, g16, g24⟩⟩
-- fX8_isNet
theorem zc_652 {σ0 : sn_S} {σ : sn_S} (h_σ : zs_C σ0 σ) {x1 : Int32} : zs_ok (fX8_isNet σ x1) (fun r => (zs_in (r).toInt 0 1) ∧ ((r).toInt = 0 ∨ (zs_in (x1).toInt 0 7))) := by
  unfold fX8_isNet
  refine zs_ite (fun c1 => ?_) (fun c1 => ?_)
  · skip
    have r2 := (zs_I_lt c1)
    have g3 : zs_in (x1).toInt (-2147483648) (-1) := (zs_ltl (-2147483648) (-1) r2 (zs_topI _) zlI_0 (by decide))
    refine zs_gd (zs_b01 zlI_0 (by decide)) ?_
    exact zs_some ⟨(zs_w zlI_0 (by decide)), Or.inl (zs_ptr zlI_0)⟩
  · skip
    have r4 := (zs_I_ltn c1)
    have g5 : zs_in (x1).toInt 0 2147483647 := (zs_ler 0 2147483647 r4 zlI_0 (zs_topI _) (by decide))
    refine zs_gd (zs_gin zlI_7 (by decide)) ?_
    refine zs_ite (fun c6 => ?_) (fun c6 => ?_)
    · skip
      have r7 := (zs_I_le c6)
      refine zs_gd (zs_b01 zlI_0 (by decide)) ?_
      exact zs_some ⟨(zs_w zlI_0 (by decide)), Or.inl (zs_ptr zlI_0)⟩
    · skip
      have r8 := (zs_I_len c6)
      have g9 : zs_in (x1).toInt 0 7 := (zs_ltl 0 7 r8 g5 (zs_rdk (q := 2) (k := (7 : Int32).toNatClampNeg) (z := (0, 8)) h_σ.1 rfl) (by decide))
      have g10 : zs_in ((sn_I σ (1 + 1) (7 : Int32).toNatClampNeg)).toInt 1 8 := (zs_ltr 1 8 r8 g5 (zs_rdk (q := 2) (k := (7 : Int32).toNatClampNeg) (z := (0, 8)) h_σ.1 rfl) (by decide))
      refine zs_gd (zs_b01 zlI_1 (by decide)) ?_
      exact zs_some ⟨(zs_w zlI_1 (by decide)), Or.inr g9⟩
-- fX8_totalWithout
theorem zc_653 {σ0 : sn_S} {σ : sn_S} (h_σ : zs_C σ0 σ) {x1 : Int32} (h_x1 : zs_in x1.toInt 0 7) : zs_ok (fX8_totalWithout σ x1) (fun r => (True ∧ zs_C σ0 r.2)) := by
  unfold fX8_totalWithout
  refine zs_bd_ (zo_dcopy h_σ) (fun t_1 pt_1 => ?_)
  refine zs_lt (Q := fun z => zs_C σ0 z) (zs_wrkt pt_1 rfl rfl) (fun σ_3 hσ_3 => ?_)
  refine zs_bd_ (zc_350 hσ_3) (fun t_5 pt_5 => ?_)
  refine zs_bd_ (zc_362 pt_5) (fun t_7 pt_7 => ?_)
  exact zs_some ⟨trivial, pt_5⟩
-- fX8_cut
theorem zc_654 {σ0 : sn_S} {σ : sn_S} (h_σ : zs_C σ0 σ) {x1 : Int32} : zs_ok (fX8_cut σ x1) (fun r => ((True ∧ zs_C σ0 r.2)) ∧ ((r.1).toInt = (-2) ∨ (zs_in (x1).toInt 0 7))) := by
  unfold fX8_cut
  refine zs_bd_ (zc_652 h_σ) (fun t_1 pt_1 => ?_)
  refine zs_ite (fun c1 => ?_) (fun c1 => ?_)
  · skip
    have r2 := (zs_I_eq c1)
    have g3 : zs_in (t_1).toInt 0 0 := (zs_eql 0 0 r2 pt_1.1 zlI_0 (by decide))
    exact zs_some ⟨⟨trivial, h_σ⟩, Or.inl (zs_ptr zlI_m2)⟩
  · skip
    have r4 := (zs_I_eqn c1)
    have g5 : zs_in (t_1).toInt 1 1 := (zs_nel 1 1 r4 pt_1.1 zlI_0 (by decide))
    have q6 := (zs_or2 pt_1.2 g5 (by decide))
    have g7 : zs_in (x1).toInt 0 7 := q6
    refine zs_bd_ (zc_653 h_σ g7) (fun t_4 pt_4 => ?_)
    exact zs_some ⟨⟨trivial, pt_4.2⟩, Or.inr g7⟩
-- fX9_in
theorem zc_655 {x0 : Int64} (h_x0 : zs_in x0.toInt (-2147483648) 2147483647) {x2 : Int64} (h_x2 : zs_in x2.toInt 0 0) {x4 : Int64} (h_x4 : zs_in x4.toInt (-1) 7) : zs_ok (fX9_in x0 x2 x4) (fun r => (zs_in (r).toInt 0 1) ∧ ((r).toInt = 0 ∨ (zs_in (x0).toInt 0 7 ∧ zs_in (x4).toInt 0 7))) := by
  unfold fX9_in
  refine zs_ite (fun c1 => ?_) (fun c1 => ?_)
  · skip
    have r2 := (zs_lg_lt c1)
    have g3 : zs_in (x0).toInt (-2147483648) (-1) := (zs_ltl (-2147483648) (-1) r2 h_x0 h_x2 (by decide))
    refine zs_gd (zs_b01 zlI_0 (by decide)) ?_
    exact zs_some ⟨(zs_w zlI_0 (by decide)), Or.inl (zs_ptr zlI_0)⟩
  · skip
    have r4 := (zs_lg_ltn c1)
    have g5 : zs_in (x0).toInt 0 2147483647 := (zs_ler 0 2147483647 r4 h_x2 h_x0 (by decide))
    refine zs_ite (fun c6 => ?_) (fun c6 => ?_)
    · skip
      have r7 := (zs_lg_ltf c6)
      refine zs_gd (zs_b01 zlI_0 (by decide)) ?_
      exact zs_some ⟨(zs_w zlI_0 (by decide)), Or.inl (zs_ptr zlI_0)⟩
    · skip
      have r8 := (zs_lg_ltfn c6)
      have g9 : zs_in (x0).toInt 0 7 := (zs_lel 0 7 r8 g5 h_x4 (by decide))
      have g10 : zs_in (x4).toInt 0 7 := (zs_ler 0 7 r8 g5 h_x4 (by decide))
      refine zs_gd (zs_b01 zlI_1 (by decide)) ?_
      exact zs_some ⟨(zs_w zlI_1 (by decide)), Or.inr ⟨g9, g10⟩⟩
-- fX9_allWithout
theorem zc_656 {σ0 : sn_S} {σ : sn_S} (h_σ : zs_M σ0 σ) {x1 : Int32} (h_x1 : zs_in x1.toInt 0 7) : zs_ok (fX9_allWithout σ x1) (fun r => (True ∧ zs_M σ0 r.2)) := by
  unfold fX9_allWithout
  refine zs_lt (Q := fun z => zs_M σ0 z) (zs_wrkt h_σ rfl rfl) (fun σ_1 hσ_1 => ?_)
  refine zs_bd_ (zc_90 hσ_1) (fun t_3 pt_3 => ?_)
  refine zs_bd_ (zc_112 pt_3) (fun t_5 pt_5 => ?_)
  exact zs_some ⟨trivial, pt_3⟩
-- fX9_cut
theorem zc_657 {σ0 : sn_S} {σ : sn_S} (h_σ : zs_M σ0 σ) {x1 : Int32} : zs_ok (fX9_cut σ x1) (fun r => ((True ∧ zs_M σ0 r.2)) ∧ ((r.1).toInt = (-2) ∨ (zs_in (x1).toInt 0 7))) := by
  unfold fX9_cut
  refine zs_bd_ (zc_31 h_σ) (fun t_1 pt_1 => ?_)
  refine zs_gd (zs_gin zlI_7 (by decide)) ?_
  refine zs_bd_ (zc_655 (zs_64 (zs_topI _)) zlL_0 (zs_64 (zs_subI (-1) 7 (zs_rdk (q := 1) (k := (7 : Int32).toNatClampNeg) (z := (0, 8)) pt_1.1 rfl) zlI_1 (by decide)))) (fun t_4 pt_4 => ?_)
  refine zs_ite (fun c1 => ?_) (fun c1 => ?_)
  · skip
    have r2 := (zs_I_eq c1)
    have g3 : zs_in (t_4).toInt 0 0 := (zs_eql 0 0 r2 pt_4.1 zlI_0 (by decide))
    exact zs_some ⟨⟨trivial, pt_1⟩, Or.inl (zs_ptr zlI_m2)⟩
  · skip
    have r4 := (zs_I_eqn c1)
    have g5 : zs_in (t_4).toInt 1 1 := (zs_nel 1 1 r4 pt_4.1 zlI_0 (by decide))
    have q6 := (zs_or2 pt_4.2 g5 (by decide))
    have g7 : zs_in (x1.toInt64).toInt 0 7 := q6.1
    have g8 : zs_in (x1).toInt 0 7 := (zs_64r g7)
    have g9 : zs_in (((sn_I t_1 1 (7 : Int32).toNatClampNeg) - (1 : Int32)).toInt64).toInt 0 7 := q6.2
    have g10 : zs_in (((sn_I t_1 1 (7 : Int32).toNatClampNeg) - (1 : Int32))).toInt 0 7 := (zs_64r g9)
    have g11 : zs_in ((sn_I t_1 1 (7 : Int32).toNatClampNeg)).toInt 1 8 := (zs_sublI 1 8 (zs_rdk (q := 1) (k := (7 : Int32).toNatClampNeg) (z := (0, 8)) pt_1.1 rfl) zlI_1 g10 (by decide))
    refine zs_bd_ (zc_656 pt_1 g8) (fun t_7 pt_7 => ?_)
    exact zs_some ⟨⟨trivial, pt_7.2⟩, Or.inr g8⟩
-- BX8_cuts_54
theorem zc_658 {σ0 : sn_S} {σ : sn_S} (h_σ : zs_C σ0 σ) {x1 : Int32} (h_x1 : zs_in x1.toInt (-1) 7) {x2 : Int32} {x3 : Int32} (h_x3 : zs_in x3.toInt 0 7) {c : Int} (hc : x3.toInt = c + 0) : zs_ok (BX8_cuts_54 σ x1 x2 x3) (fun r => zs_sum (fun v => ((zs_C σ0 v.1 ∧ (zs_in (v.2.1).toInt (-1) 7 ∧ (True ∧ zs_in (v.2.2.2).toInt 1 8)))) ∧ v.2.2.2.toInt = c + 1) (fun v => False) r) := by
  unfold BX8_cuts_54
  refine zs_lt (Q := fun z => zs_in z.toInt 1 8 ∧ z.toInt = c + 1) ⟨(zs_addI 1 8 h_x3 zlI_1 (by decide)), (zs_syI 1 hc h_x3 zlI_1 (by decide) (by decide))⟩ (fun y_1 hy_1 => ?_)
  exact zs_some (zs_inl ⟨⟨h_σ, ⟨h_x1, ⟨trivial, hy_1.1⟩⟩⟩, hy_1.2⟩)
-- BX8_cuts_54
theorem zc_659 {σ0 : sn_S} {σ : sn_S} (h_σ : zs_C σ0 σ) {x1 : Int32} (h_x1 : zs_in x1.toInt 0 7) {x2 : Int32} (h_x2 : zs_in x2.toInt (-2147483648) 2147483646) {x3 : Int32} (h_x3 : zs_in x3.toInt 0 7) {c : Int} (hc : x3.toInt = c + 0) : zs_ok (BX8_cuts_54 σ x1 x2 x3) (fun r => zs_sum (fun v => ((zs_C σ0 v.1 ∧ (zs_in (v.2.1).toInt 0 7 ∧ (zs_in (v.2.2.1).toInt (-2147483648) 2147483646 ∧ zs_in (v.2.2.2).toInt 1 8)))) ∧ v.2.2.2.toInt = c + 1) (fun v => False) r) := by
  unfold BX8_cuts_54
  refine zs_lt (Q := fun z => zs_in z.toInt 1 8 ∧ z.toInt = c + 1) ⟨(zs_addI 1 8 h_x3 zlI_1 (by decide)), (zs_syI 1 hc h_x3 zlI_1 (by decide) (by decide))⟩ (fun y_1 hy_1 => ?_)
  exact zs_some (zs_inl ⟨⟨h_σ, ⟨h_x1, ⟨h_x2, hy_1.1⟩⟩⟩, hy_1.2⟩)
-- BX8_cuts_22
theorem zc_660 {σ0 : sn_S} {σ : sn_S} (h_σ : zs_C σ0 σ) {x1 : Int32} (h_x1 : zs_in x1.toInt (-1) 7) {x2 : Int32} {x3 : Int32} (h_x3 : zs_in x3.toInt 0 8) {c : Int} (hc : x3.toInt = c + 0) : zs_ok (BX8_cuts_22 σ x1 x2 x3) (fun r => zs_sum (fun v => ((zs_C σ0 v.1 ∧ (zs_in (v.2.1).toInt (-1) 7 ∧ (True ∧ zs_in (v.2.2.2).toInt 1 8)))) ∧ v.2.2.2.toInt = c + 1) (fun v => (zs_C σ0 v.1 ∧ zs_in (v.2).toInt (-1) 7)) r) := by
  unfold BX8_cuts_22
  refine zs_gd (zs_gin zlI_7 (by decide)) ?_
  refine zs_ite (fun c1 => ?_) (fun c1 => ?_)
  · skip
    have r2 := (zs_I_le c1)
    exact zs_some (zs_inr (⟨h_σ, h_x1⟩))
  · skip
    have r3 := (zs_I_len c1)
    have g4 : zs_in (x3).toInt 0 7 := (zs_ltl 0 7 r3 h_x3 (zs_rdk (q := 2) (k := (7 : Int32).toNatClampNeg) (z := (0, 8)) h_σ.1 rfl) (by decide))
    have g5 : zs_in ((sn_I σ (1 + 1) (7 : Int32).toNatClampNeg)).toInt 1 8 := (zs_ltr 1 8 r3 h_x3 (zs_rdk (q := 2) (k := (7 : Int32).toNatClampNeg) (z := (0, 8)) h_σ.1 rfl) (by decide))
    refine zs_bd_ (zc_653 h_σ g4) (fun t_3 pt_3 => ?_)
    refine zs_ite (fun c6 => ?_) (fun c6 => ?_)
    · skip
      have r7 := (zs_I_le c6)
      obtain ⟨ret, er, hr⟩ := zc_658 pt_3.2 h_x1 g4 hc
      refine ⟨ret, er, ?_⟩
      exact (zs_sumw hr (fun v w => ⟨w.1, w.2⟩) (fun v w => w.elim))
    · skip
      have r8 := (zs_I_len c6)
      have g9 : zs_in (t_3.1).toInt (-2147483648) 2147483646 := (zs_ltl (-2147483648) 2147483646 r8 (zs_topI _) (zs_topI _) (by decide))
      have g10 : zs_in (x2).toInt (-2147483647) 2147483647 := (zs_ltr (-2147483647) 2147483647 r8 (zs_topI _) (zs_topI _) (by decide))
      obtain ⟨ret, er, hr⟩ := zc_659 pt_3.2 g4 g9 g4 hc
      refine ⟨ret, er, ?_⟩
      exact (zs_sumw hr (fun v w => ⟨⟨w.1.1, ⟨(zs_w w.1.2.1 (by decide)), ⟨trivial, w.1.2.2.2⟩⟩⟩, w.2⟩) (fun v w => w.elim))
theorem zd_112 {σ0 : sn_S}  {s0 : (sn_S × (Int32 × (Int32 × Int32)))} (h0 : (zs_C σ0 s0.1 ∧ (zs_in (s0.2.1).toInt (-1) 7 ∧ (True ∧ zs_in (s0.2.2.2).toInt 0 8)))) : zs_ok (sn_it (LX8_cuts_22) 5000 s0) (fun t => (zs_C σ0 t.1 ∧ zs_in (t.2).toInt (-1) 7)) := by
  refine zs_it (I := fun s => (zs_C σ0 s.1 ∧ (zs_in (s.2.1).toInt (-1) 7 ∧ (True ∧ zs_in (s.2.2.2).toInt 0 8)))) (m := fun s => 8 - s.2.2.2.toInt) (fun s hs => ?_) (fun s hs => ?_) (by exact h0)
  · have h1 := hs.2.2.2; unfold zs_in at h1
    omega
  · obtain ⟨b, eb, hb⟩ := zc_660 hs.1 hs.2.1 hs.2.2.2 (c := s.2.2.2.toInt) (Int.add_zero _).symm
    exact ⟨b, eb, zs_sumw hb (fun v w => ⟨⟨w.1.1, ⟨w.1.2.1, ⟨w.1.2.2.1, (zs_w w.1.2.2.2 (by decide))⟩⟩⟩, by have := w.2; omega⟩) (fun v w => w)⟩
-- BX8_cuts_60
theorem zc_661 {σ0 : sn_S} {σ : sn_S} (h_σ : zs_C σ0 σ) {x1 : Int32} (h_x1 : zs_in x1.toInt (-1) 7) : zs_ok (BX8_cuts_60 σ x1) (fun r => (zs_in (r.1).toInt (-1) 7 ∧ zs_C σ0 r.2)) := by
  unfold BX8_cuts_60
  exact zs_some ⟨h_x1, h_σ⟩
-- fX8_cuts
theorem zc_662 {σ0 : sn_S} {σ : sn_S} (h_σ : zs_C σ0 σ) : zs_ok (fX8_cuts σ) (fun r => (zs_in (r.1).toInt (-2) 7 ∧ zs_C σ0 r.2)) := by
  unfold fX8_cuts
  refine zs_bd_ (zc_102 h_σ) (fun t_1 pt_1 => ?_)
  refine zs_ite (fun c1 => ?_) (fun c1 => ?_)
  · skip
    have r2 := (zs_I_eq c1)
    have g3 : zs_in (t_1).toInt 0 0 := (zs_eql 0 0 r2 pt_1 zlI_0 (by decide))
    exact zs_some ⟨(zs_w zlI_m2 (by decide)), h_σ⟩
  · skip
    have r4 := (zs_I_eqn c1)
    have g5 : zs_in (t_1).toInt 1 1 := (zs_nel 1 1 r4 pt_1 zlI_0 (by decide))
    refine zs_bd_ (zc_105 h_σ) (fun t_4 pt_4 => ?_)
    refine zs_bd_ (zd_112  (s0 := (σ, ((-1 : Int32), (t_4, (0 : Int32))))) ⟨h_σ, ⟨(zs_w zlI_m1 (by decide)), ⟨trivial, (zs_w zlI_0 (by decide))⟩⟩⟩) (fun t_6 pt_6 => ?_)
    obtain ⟨ret, er, hr⟩ := zc_661 pt_6.1 pt_6.2
    refine ⟨ret, er, ?_⟩
    exact ⟨(zs_w hr.1 (by decide)), hr.2⟩
-- BX9_cuts_51
theorem zc_663 {σ0 : sn_S} {σ : sn_S} (h_σ : zs_M σ0 σ) {x1 : Int32} (h_x1 : zs_in x1.toInt 0 7) {x2 : Int32} (h_x2 : zs_in x2.toInt (-2147483648) 2147483646) {x3 : Int32} (h_x3 : zs_in x3.toInt 0 7) {c : Int} (hc : x3.toInt = c + 0) : zs_ok (BX9_cuts_51 σ x1 x2 x3) (fun r => zs_sum (fun v => ((zs_M σ0 v.1 ∧ (zs_in (v.2.1).toInt 0 7 ∧ (zs_in (v.2.2.1).toInt (-2147483648) 2147483646 ∧ zs_in (v.2.2.2).toInt 1 8)))) ∧ v.2.2.2.toInt = c + 1) (fun v => False) r) := by
  unfold BX9_cuts_51
  refine zs_lt (Q := fun z => zs_in z.toInt 1 8 ∧ z.toInt = c + 1) ⟨(zs_addI 1 8 h_x3 zlI_1 (by decide)), (zs_syI 1 hc h_x3 zlI_1 (by decide) (by decide))⟩ (fun y_1 hy_1 => ?_)
  exact zs_some (zs_inl ⟨⟨h_σ, ⟨h_x1, ⟨h_x2, hy_1.1⟩⟩⟩, hy_1.2⟩)
-- BX9_cuts_51
theorem zc_664 {σ0 : sn_S} {σ : sn_S} (h_σ : zs_M σ0 σ) {x1 : Int32} (h_x1 : zs_in x1.toInt (-1) 7) {x2 : Int32} {x3 : Int32} (h_x3 : zs_in x3.toInt 0 7) {c : Int} (hc : x3.toInt = c + 0) : zs_ok (BX9_cuts_51 σ x1 x2 x3) (fun r => zs_sum (fun v => ((zs_M σ0 v.1 ∧ (zs_in (v.2.1).toInt (-1) 7 ∧ (True ∧ zs_in (v.2.2.2).toInt 1 8)))) ∧ v.2.2.2.toInt = c + 1) (fun v => False) r) := by
  unfold BX9_cuts_51
  refine zs_lt (Q := fun z => zs_in z.toInt 1 8 ∧ z.toInt = c + 1) ⟨(zs_addI 1 8 h_x3 zlI_1 (by decide)), (zs_syI 1 hc h_x3 zlI_1 (by decide) (by decide))⟩ (fun y_1 hy_1 => ?_)
  exact zs_some (zs_inl ⟨⟨h_σ, ⟨h_x1, ⟨trivial, hy_1.1⟩⟩⟩, hy_1.2⟩)
-- BX9_cuts_19
theorem zc_665 {σ0 : sn_S} {σ : sn_S} (h_σ : zs_M σ0 σ) {x1 : Int32} (h_x1 : zs_in x1.toInt (-1) 7) {x2 : Int32} {x3 : Int32} (h_x3 : zs_in x3.toInt 0 8) {c : Int} (hc : x3.toInt = c + 0) : zs_ok (BX9_cuts_19 σ x1 x2 x3) (fun r => zs_sum (fun v => ((zs_M σ0 v.1 ∧ (zs_in (v.2.1).toInt (-1) 7 ∧ (True ∧ zs_in (v.2.2.2).toInt 1 8)))) ∧ v.2.2.2.toInt = c + 1) (fun v => (zs_M σ0 v.1 ∧ zs_in (v.2).toInt (-1) 7)) r) := by
  unfold BX9_cuts_19
  refine zs_gd (zs_gin zlI_7 (by decide)) ?_
  refine zs_ite (fun c1 => ?_) (fun c1 => ?_)
  · skip
    have r2 := (zs_I_le c1)
    exact zs_some (zs_inr (⟨h_σ, h_x1⟩))
  · skip
    have r3 := (zs_I_len c1)
    have g4 : zs_in (x3).toInt 0 7 := (zs_ltl 0 7 r3 h_x3 (zs_rdk (q := 1) (k := (7 : Int32).toNatClampNeg) (z := (0, 8)) h_σ.1 rfl) (by decide))
    have g5 : zs_in ((sn_I σ 1 (7 : Int32).toNatClampNeg)).toInt 1 8 := (zs_ltr 1 8 r3 h_x3 (zs_rdk (q := 1) (k := (7 : Int32).toNatClampNeg) (z := (0, 8)) h_σ.1 rfl) (by decide))
    refine zs_bd_ (zc_656 h_σ g4) (fun t_3 pt_3 => ?_)
    refine zs_ite (fun c6 => ?_) (fun c6 => ?_)
    · skip
      have r7 := (zs_I_lt c6)
      have g8 : zs_in (t_3.1).toInt (-2147483648) 2147483646 := (zs_ltl (-2147483648) 2147483646 r7 (zs_topI _) (zs_topI _) (by decide))
      have g9 : zs_in (x2).toInt (-2147483647) 2147483647 := (zs_ltr (-2147483647) 2147483647 r7 (zs_topI _) (zs_topI _) (by decide))
      obtain ⟨ret, er, hr⟩ := zc_663 pt_3.2 g4 g8 g4 hc
      refine ⟨ret, er, ?_⟩
      exact (zs_sumw hr (fun v w => ⟨⟨w.1.1, ⟨(zs_w w.1.2.1 (by decide)), ⟨trivial, w.1.2.2.2⟩⟩⟩, w.2⟩) (fun v w => w.elim))
    · skip
      have r10 := (zs_I_ltn c6)
      obtain ⟨ret, er, hr⟩ := zc_664 pt_3.2 h_x1 g4 hc
      refine ⟨ret, er, ?_⟩
      exact (zs_sumw hr (fun v w => ⟨w.1, w.2⟩) (fun v w => w.elim))
theorem zd_113 {σ0 : sn_S}  {s0 : (sn_S × (Int32 × (Int32 × Int32)))} (h0 : (zs_M σ0 s0.1 ∧ (zs_in (s0.2.1).toInt (-1) 7 ∧ (True ∧ zs_in (s0.2.2.2).toInt 0 8)))) : zs_ok (sn_it (LX9_cuts_19) 5000 s0) (fun t => (zs_M σ0 t.1 ∧ zs_in (t.2).toInt (-1) 7)) := by
  refine zs_it (I := fun s => (zs_M σ0 s.1 ∧ (zs_in (s.2.1).toInt (-1) 7 ∧ (True ∧ zs_in (s.2.2.2).toInt 0 8)))) (m := fun s => 8 - s.2.2.2.toInt) (fun s hs => ?_) (fun s hs => ?_) (by exact h0)
  · have h1 := hs.2.2.2; unfold zs_in at h1
    omega
  · obtain ⟨b, eb, hb⟩ := zc_665 hs.1 hs.2.1 hs.2.2.2 (c := s.2.2.2.toInt) (Int.add_zero _).symm
    exact ⟨b, eb, zs_sumw hb (fun v w => ⟨⟨w.1.1, ⟨w.1.2.1, ⟨w.1.2.2.1, (zs_w w.1.2.2.2 (by decide))⟩⟩⟩, by have := w.2; omega⟩) (fun v w => w)⟩
-- BX9_cuts_57
theorem zc_666 {σ0 : sn_S} {σ : sn_S} (h_σ : zs_M σ0 σ) {x1 : Int32} (h_x1 : zs_in x1.toInt (-1) 7) : zs_ok (BX9_cuts_57 σ x1) (fun r => (zs_in (r.1).toInt (-1) 7 ∧ zs_M σ0 r.2)) := by
  unfold BX9_cuts_57
  exact zs_some ⟨h_x1, h_σ⟩
-- fX9_cuts
theorem zc_667 {σ0 : sn_S} {σ : sn_S} (h_σ : zs_M σ0 σ) : zs_ok (fX9_cuts σ) (fun r => (zs_in (r.1).toInt (-2) 7 ∧ zs_M σ0 r.2)) := by
  unfold fX9_cuts
  refine zs_bd_ (zc_92 h_σ) (fun t_1 pt_1 => ?_)
  refine zs_ite (fun c1 => ?_) (fun c1 => ?_)
  · skip
    have r2 := (zs_I_eq c1)
    have g3 : zs_in (t_1.1).toInt 0 0 := (zs_eql 0 0 r2 pt_1.1 zlI_0 (by decide))
    exact zs_some ⟨(zs_w zlI_m2 (by decide)), pt_1.2⟩
  · skip
    have r4 := (zs_I_eqn c1)
    have g5 : zs_in (t_1.1).toInt 1 1 := (zs_nel 1 1 r4 pt_1.1 zlI_0 (by decide))
    refine zs_bd_ (zc_112 pt_1.2) (fun t_4 pt_4 => ?_)
    refine zs_bd_ (zd_113  (s0 := (t_1.2, ((-1 : Int32), (t_4, (0 : Int32))))) ⟨pt_1.2, ⟨(zs_w zlI_m1 (by decide)), ⟨trivial, (zs_w zlI_0 (by decide))⟩⟩⟩) (fun t_6 pt_6 => ?_)
    obtain ⟨ret, er, hr⟩ := zc_666 pt_6.1 pt_6.2
    refine ⟨ret, er, ?_⟩
    exact ⟨(zs_w hr.1 (by decide)), hr.2⟩
-- fX8_isPuffMinute
theorem zc_668 {σ0 : sn_S} {σ : sn_S} (h_σ : zs_C σ0 σ) {x1 : Int32} : zs_ok (fX8_isPuffMinute σ x1) (fun r => (zs_in (r).toInt 0 1) ∧ ((r).toInt = 0 ∨ (zs_in (x1).toInt 0 7))) := by
  unfold fX8_isPuffMinute
  refine zs_bd_ (zc_44 h_σ) (fun t_1 pt_1 => ?_)
  refine zs_ite (fun c1 => ?_) (fun c1 => ?_)
  · skip
    have r2 := (zs_I_eq c1)
    have g3 : zs_in (t_1).toInt 0 0 := (zs_eql 0 0 r2 pt_1.1 zlI_0 (by decide))
    refine zs_gd (zs_b01 zlI_0 (by decide)) ?_
    exact zs_some ⟨(zs_w zlI_0 (by decide)), Or.inl (zs_ptr zlI_0)⟩
  · skip
    have r4 := (zs_I_eqn c1)
    have g5 : zs_in (t_1).toInt 1 1 := (zs_nel 1 1 r4 pt_1.1 zlI_0 (by decide))
    have q6 := (zs_or2 pt_1.2 g5 (by decide))
    have g7 : zs_in (x1).toInt 0 29 := q6
    refine zs_ite (fun c8 => ?_) (fun c8 => ?_)
    · skip
      have r9 := (zs_I_lt c8)
      have g10 : zs_in (x1).toInt 8 29 := (zs_ltr 8 29 r9 zlI_7 g7 (by decide))
      refine zs_gd (zs_b01 zlI_0 (by decide)) ?_
      exact zs_some ⟨(zs_w zlI_0 (by decide)), Or.inl (zs_ptr zlI_0)⟩
    · skip
      have r11 := (zs_I_ltn c8)
      have g12 : zs_in (x1).toInt 0 7 := (zs_lel 0 7 r11 g7 zlI_7 (by decide))
      refine zs_gd (zs_b01 zlI_1 (by decide)) ?_
      exact zs_some ⟨(zs_w zlI_1 (by decide)), Or.inr g12⟩
-- BX4_weigh_46
theorem zc_669 {σ0 : sn_S} {σ : sn_S} (h_σ : zs_C σ0 σ) {x1 : Int32} (h_x1 : zs_in x1.toInt 1 1) {x2 : Int32} (h_x2 : zs_in x2.toInt 0 10) {x3 : Int32} (h_x3 : zs_in x3.toInt 0 0) {x4 : Int64} {x6 : Int32} (h_x6 : zs_in x6.toInt 0 0) {t0 : Int64} {t1 : Int64} (h_t1 : zs_in t1.toInt 0 10) {c : Int} (hc : x6.toInt = c + 0) : zs_ok (BX4_weigh_46 σ x1 x2 x3 x4 x6 t0 t1) (fun r => zs_sum (fun v => ((True ∧ zs_in (v.2).toInt 1 1)) ∧ v.2.toInt = c + 1) (fun v => False) r) := by
  unfold BX4_weigh_46
  obtain rfl : x1 = (1 : Int32) := zs_eqv h_x1 (by decide)
  obtain rfl : x3 = (0 : Int32) := zs_eqv h_x3 (by decide)
  refine zs_lt (Q := fun z => True) trivial (fun y_1 hy_1 => ?_)
  refine zs_lt (Q := fun z => zs_in z.toInt 1 1 ∧ z.toInt = c + 1) ⟨(zs_addI 1 1 h_x6 zlI_1 (by decide)), (zs_syI 1 hc h_x6 zlI_1 (by decide) (by decide))⟩ (fun y_3 hy_3 => ?_)
  exact zs_some (zs_inl ⟨⟨trivial, hy_3.1⟩, hy_3.2⟩)
-- BX4_weigh_46
theorem zc_670 {σ0 : sn_S} {σ : sn_S} (h_σ : zs_C σ0 σ) {x1 : Int32} (h_x1 : zs_in x1.toInt 1 1) {x2 : Int32} (h_x2 : zs_in x2.toInt 0 10) {x3 : Int32} (h_x3 : zs_in x3.toInt 1 1) {x4 : Int64} {x6 : Int32} (h_x6 : zs_in x6.toInt 0 0) {t0 : Int64} {t1 : Int64} (h_t1 : zs_in t1.toInt 0 10) {c : Int} (hc : x6.toInt = c + 0) : zs_ok (BX4_weigh_46 σ x1 x2 x3 x4 x6 t0 t1) (fun r => zs_sum (fun v => ((True ∧ zs_in (v.2).toInt 1 1)) ∧ v.2.toInt = c + 1) (fun v => False) r) := by
  unfold BX4_weigh_46
  obtain rfl : x1 = (1 : Int32) := zs_eqv h_x1 (by decide)
  obtain rfl : x3 = (1 : Int32) := zs_eqv h_x3 (by decide)
  refine zs_lt (Q := fun z => True) trivial (fun y_1 hy_1 => ?_)
  refine zs_lt (Q := fun z => zs_in z.toInt 1 1 ∧ z.toInt = c + 1) ⟨(zs_addI 1 1 h_x6 zlI_1 (by decide)), (zs_syI 1 hc h_x6 zlI_1 (by decide) (by decide))⟩ (fun y_3 hy_3 => ?_)
  exact zs_some (zs_inl ⟨⟨trivial, hy_3.1⟩, hy_3.2⟩)
-- BX4_weigh_22
theorem zc_671 {σ0 : sn_S} {σ : sn_S} (h_σ : zs_C σ0 σ) {x1 : Int32} (h_x1 : zs_in x1.toInt 1 1) {x2 : Int32} (h_x2 : zs_in x2.toInt 0 10) {x3 : Int32} (h_x3 : zs_in x3.toInt 0 1) {x4 : Int64} {x6 : Int32} (h_x6 : zs_in x6.toInt 0 1) {c : Int} (hc : x6.toInt = c + 0) : zs_ok (BX4_weigh_22 σ x1 x2 x3 x4 x6) (fun r => zs_sum (fun v => ((True ∧ zs_in (v.2).toInt 1 1)) ∧ v.2.toInt = c + 1) (fun v => True) r) := by
  unfold BX4_weigh_22
  obtain rfl : x1 = (1 : Int32) := zs_eqv h_x1 (by decide)
  refine zs_ite (fun c1 => ?_) (fun c1 => ?_)
  · skip
    have r2 := (zs_I_le c1)
    have g3 : zs_in (x6).toInt 1 1 := (zs_ler 1 1 r2 h_x1 h_x6 (by decide))
    exact zs_some (zs_inr (trivial))
  · skip
    have r4 := (zs_I_len c1)
    have g5 : zs_in (x6).toInt 0 0 := (zs_ltl 0 0 r4 h_x6 h_x1 (by decide))
    refine zs_ite (fun c6 => ?_) (fun c6 => ?_)
    · skip
      have r7 := (zs_I_le c6)
      have g8 : zs_in (x3).toInt 0 0 := (zs_lel 0 0 r7 h_x3 g5 (by decide))
      obtain ⟨ret, er, hr⟩ := zc_669 h_σ h_x1 h_x2 g8 g5 (zs_64 (zs_subI 0 10 zlI_10 h_x2 (by decide))) hc
      refine ⟨ret, er, ?_⟩
      exact (zs_sumw hr (fun v w => ⟨w.1, w.2⟩) (fun v w => w.elim))
    · skip
      have r9 := (zs_I_len c6)
      have g10 : zs_in (x3).toInt 1 1 := (zs_ltr 1 1 r9 g5 h_x3 (by decide))
      obtain ⟨ret, er, hr⟩ := zc_670 h_σ h_x1 h_x2 g10 g5 (zs_64 h_x2) hc
      refine ⟨ret, er, ?_⟩
      exact (zs_sumw hr (fun v w => ⟨w.1, w.2⟩) (fun v w => w.elim))
theorem zd_114 {σ0 : sn_S} {σ : sn_S} (h_σ : zs_C σ0 σ) {x1 : Int32} (h_x1 : zs_in x1.toInt 1 1) {x2 : Int32} (h_x2 : zs_in x2.toInt 0 10) {x3 : Int32} (h_x3 : zs_in x3.toInt 0 1) {s0 : (Int64 × Int32)} (h0 : (True ∧ zs_in (s0.2).toInt 0 1)) : zs_ok (sn_it (LX4_weigh_22 σ x1 x2 x3) 5000 s0) (fun t => True) := by
  refine zs_it (I := fun s => (True ∧ zs_in (s.2).toInt 0 1)) (m := fun s => 1 - s.2.toInt) (fun s hs => ?_) (fun s hs => ?_) (by exact h0)
  · have h1 := hs.2; unfold zs_in at h1
    omega
  · obtain ⟨b, eb, hb⟩ := zc_671 h_σ h_x1 h_x2 h_x3 hs.2 (c := s.2.toInt) (Int.add_zero _).symm
    exact ⟨b, eb, zs_sumw hb (fun v w => ⟨⟨w.1.1, (zs_w w.1.2 (by decide))⟩, by have := w.2; omega⟩) (fun v w => w)⟩
-- BX4_weigh_55
theorem zc_672 {σ0 : sn_S} {σ : sn_S} (h_σ : zs_C σ0 σ) {x1 : Int32} (h_x1 : zs_in x1.toInt 1 1) {x2 : Int32} (h_x2 : zs_in x2.toInt 0 10) {x3 : Int32} (h_x3 : zs_in x3.toInt 0 1) {x4 : Int64} {c : Int} (hc : x3.toInt = c + 0) : zs_ok (BX4_weigh_55 σ x1 x2 x3 x4) (fun r => zs_sum (fun v => ((zs_C σ0 v.1 ∧ zs_in (v.2).toInt 1 2)) ∧ v.2.toInt = c + 1) (fun v => False) r) := by
  unfold BX4_weigh_55
  obtain rfl : x1 = (1 : Int32) := zs_eqv h_x1 (by decide)
  refine zs_gd (zs_gin h_x3 (by decide)) ?_
  refine zs_lt (Q := fun z => zs_C σ0 z) (zs_wrL h_σ rfl) (fun σ_2 hσ_2 => ?_)
  refine zs_lt (Q := fun z => zs_in z.toInt 1 2 ∧ z.toInt = c + 1) ⟨(zs_addI 1 2 h_x3 zlI_1 (by decide)), (zs_syI 1 hc h_x3 zlI_1 (by decide) (by decide))⟩ (fun y_4 hy_4 => ?_)
  exact zs_some (zs_inl ⟨⟨hσ_2, hy_4.1⟩, hy_4.2⟩)
-- BX4_weigh_2
theorem zc_673 {σ0 : sn_S} {σ : sn_S} (h_σ : zs_C σ0 σ) {x1 : Int32} (h_x1 : zs_in x1.toInt 1 1) {x2 : Int32} (h_x2 : zs_in x2.toInt 0 10) {x3 : Int32} (h_x3 : zs_in x3.toInt 0 2) {c : Int} (hc : x3.toInt = c + 0) : zs_ok (BX4_weigh_2 σ x1 x2 x3) (fun r => zs_sum (fun v => ((zs_C σ0 v.1 ∧ zs_in (v.2).toInt 1 2)) ∧ v.2.toInt = c + 1) (fun v => zs_C σ0 v) r) := by
  unfold BX4_weigh_2
  obtain rfl : x1 = (1 : Int32) := zs_eqv h_x1 (by decide)
  refine zs_ite (fun c1 => ?_) (fun c1 => ?_)
  · skip
    have r2 := (zs_I_lt c1)
    have g3 : zs_in (x3).toInt 2 2 := (zs_ltr 2 2 r2 h_x1 h_x3 (by decide))
    exact zs_some (zs_inr (h_σ))
  · skip
    have r4 := (zs_I_ltn c1)
    have g5 : zs_in (x3).toInt 0 1 := (zs_lel 0 1 r4 h_x3 h_x1 (by decide))
    refine zs_ite (fun c6 => ?_) (fun c6 => ?_)
    · skip
      have r7 := (zs_I_le c6)
      exact (zs_botle r7 zlI_9 g5 (by decide)).elim
    · skip
      have r8 := (zs_I_len c6)
      refine zs_bd_ (zd_114 h_σ h_x1 h_x2 g5 (s0 := ((1 : Int64), (0 : Int32))) ⟨trivial, (zs_w zlI_0 (by decide))⟩) (fun t_3 pt_3 => ?_)
      obtain ⟨ret, er, hr⟩ := zc_672 h_σ h_x1 h_x2 g5 hc
      refine ⟨ret, er, ?_⟩
      exact (zs_sumw hr (fun v w => ⟨w.1, w.2⟩) (fun v w => w.elim))
theorem zd_115 {σ0 : sn_S} {x1 : Int32} (h_x1 : zs_in x1.toInt 1 1) {x2 : Int32} (h_x2 : zs_in x2.toInt 0 10) {s0 : (sn_S × Int32)} (h0 : (zs_C σ0 s0.1 ∧ zs_in (s0.2).toInt 0 2)) : zs_ok (sn_it (LX4_weigh_2 x1 x2) 5000 s0) (fun t => zs_C σ0 t) := by
  refine zs_it (I := fun s => (zs_C σ0 s.1 ∧ zs_in (s.2).toInt 0 2)) (m := fun s => 2 - s.2.toInt) (fun s hs => ?_) (fun s hs => ?_) (by exact h0)
  · have h1 := hs.2; unfold zs_in at h1
    omega
  · obtain ⟨b, eb, hb⟩ := zc_673 hs.1 h_x1 h_x2 hs.2 (c := s.2.toInt) (Int.add_zero _).symm
    exact ⟨b, eb, zs_sumw hb (fun v w => ⟨⟨w.1.1, (zs_w w.1.2 (by decide))⟩, by have := w.2; omega⟩) (fun v w => w)⟩
-- BX4_weigh_69
theorem zc_674 {σ0 : sn_S} {σ : sn_S} (h_σ : zs_C σ0 σ) : zs_ok (BX4_weigh_69 σ) (fun r => zs_C σ0 r) := by
  unfold BX4_weigh_69
  exact zs_some h_σ
-- fX4_weigh
theorem zc_675 {σ0 : sn_S} {σ : sn_S} (h_σ : zs_C σ0 σ) {x1 : Int32} (h_x1 : zs_in x1.toInt 1 1) {x2 : Int32} (h_x2 : zs_in x2.toInt 0 10) : zs_ok (fX4_weigh σ x1 x2) (fun r => zs_C σ0 r) := by
  unfold fX4_weigh
  obtain rfl : x1 = (1 : Int32) := zs_eqv h_x1 (by decide)
  refine zs_bd_ (zd_115 h_x1 h_x2 (s0 := (σ, (0 : Int32))) ⟨h_σ, (zs_w zlI_0 (by decide))⟩) (fun t_1 pt_1 => ?_)
  obtain ⟨ret, er, hr⟩ := zc_674 pt_1
  refine ⟨ret, er, ?_⟩
  exact hr
-- fX8_hasBit
theorem zc_676 {x0 : Int32} (h_x0 : zs_in x0.toInt 0 0) {x1 : Int32} (h_x1 : zs_in x1.toInt 0 0) : zs_ok (fX8_hasBit x0 x1) (fun r => zs_in (r).toInt 0 1) := by
  unfold fX8_hasBit
  obtain rfl : x0 = (0 : Int32) := zs_eqv h_x0 (by decide)
  obtain rfl : x1 = (0 : Int32) := zs_eqv h_x1 (by decide)
  refine zs_ite (fun c1 => ?_) (fun c1 => ?_)
  · skip
    have r2 := (zs_I_eq c1)
    have g3 : zs_in ((((0 : Int32) >>> ((0 : Int32) &&& 31)) &&& (1 : Int32))).toInt 1 1 := (zs_eql 1 1 r2 (zs_and zlI_1 (by decide)) zlI_1 (by decide))
    refine zs_gd (zs_b01 zlI_1 (by decide)) ?_
    exact zs_some (zs_w zlI_1 (by decide))
  · skip
    have r4 := (zs_I_eqn c1)
    have g5 : zs_in ((((0 : Int32) >>> ((0 : Int32) &&& 31)) &&& (1 : Int32))).toInt 0 0 := (zs_neh 0 0 r4 (zs_and zlI_1 (by decide)) zlI_1 (by decide))
    refine zs_gd (zs_b01 zlI_0 (by decide)) ?_
    exact zs_some (zs_w zlI_0 (by decide))
-- BX4_reckon_111
theorem zc_677 {σ0 : sn_S} {σ : sn_S} (h_σ : zs_C σ0 σ) {x3 : Int32} (h_x3 : zs_in x3.toInt 0 0) {x4 : Int32} (h_x4 : zs_in x4.toInt 0 5) {x6 : Int32} (h_x6 : zs_in x6.toInt 1 1) {x7 : Int32} (h_x7 : zs_in x7.toInt 0 0) {x8 : Int32} (h_x8 : zs_in x8.toInt 0 0) {x9 : Int32} (h_x9 : zs_in x9.toInt 0 0) {t1 : Int32} (h_t1 : zs_in t1.toInt 0 0) {t2 : Int32} {t3 : Int32} (h_t3 : zs_in t3.toInt 0 0) {c : Int} (hc : x9.toInt = c + 0) : zs_ok (BX4_reckon_111 σ 1 27 x3 x4 x6 x7 x8 x9 t1 t2 t3) (fun r => zs_sum (fun v => ((zs_C σ0 v.1 ∧ zs_in (v.2).toInt 1 1)) ∧ v.2.toInt = c + 1) (fun v => False) r) := by
  unfold BX4_reckon_111
  obtain rfl : x3 = (0 : Int32) := zs_eqv h_x3 (by decide)
  obtain rfl : x6 = (1 : Int32) := zs_eqv h_x6 (by decide)
  obtain rfl : x7 = (0 : Int32) := zs_eqv h_x7 (by decide)
  obtain rfl : x8 = (0 : Int32) := zs_eqv h_x8 (by decide)
  obtain rfl : t1 = (0 : Int32) := zs_eqv h_t1 (by decide)
  obtain rfl : t3 = (0 : Int32) := zs_eqv h_t3 (by decide)
  refine zs_gd (zs_gin h_t1 (by decide)) ?_
  refine zs_lt (Q := fun z => zs_C σ0 z) (zs_wrt h_σ (fun _ => rfl) (fun _ => rfl)) (fun σ_2 hσ_2 => ?_)
  refine zs_lt (Q := fun z => zs_in z.toInt 1 1 ∧ z.toInt = c + 1) ⟨(zs_addI 1 1 h_x9 zlI_1 (by decide)), (zs_syI 1 hc h_x9 zlI_1 (by decide) (by decide))⟩ (fun y_4 hy_4 => ?_)
  exact zs_some (zs_inl ⟨⟨hσ_2, hy_4.1⟩, hy_4.2⟩)
-- BX4_reckon_111
theorem zc_678 {σ0 : sn_S} {σ : sn_S} (h_σ : zs_C σ0 σ) {x3 : Int32} (h_x3 : zs_in x3.toInt 0 0) {x4 : Int32} (h_x4 : zs_in x4.toInt 0 5) {x6 : Int32} (h_x6 : zs_in x6.toInt 1 1) {x7 : Int32} (h_x7 : zs_in x7.toInt 0 0) {x8 : Int32} (h_x8 : zs_in x8.toInt 0 0) {x9 : Int32} (h_x9 : zs_in x9.toInt 0 0) {t1 : Int32} (h_t1 : zs_in t1.toInt 0 0) {t2 : Int32} {t3 : Int32} (h_t3 : zs_in t3.toInt 3 3) {c : Int} (hc : x9.toInt = c + 0) : zs_ok (BX4_reckon_111 σ 1 27 x3 x4 x6 x7 x8 x9 t1 t2 t3) (fun r => zs_sum (fun v => ((zs_C σ0 v.1 ∧ zs_in (v.2).toInt 1 1)) ∧ v.2.toInt = c + 1) (fun v => False) r) := by
  unfold BX4_reckon_111
  obtain rfl : x3 = (0 : Int32) := zs_eqv h_x3 (by decide)
  obtain rfl : x6 = (1 : Int32) := zs_eqv h_x6 (by decide)
  obtain rfl : x7 = (0 : Int32) := zs_eqv h_x7 (by decide)
  obtain rfl : x8 = (0 : Int32) := zs_eqv h_x8 (by decide)
  obtain rfl : t1 = (0 : Int32) := zs_eqv h_t1 (by decide)
  obtain rfl : t3 = (3 : Int32) := zs_eqv h_t3 (by decide)
  refine zs_gd (zs_gin h_t1 (by decide)) ?_
  refine zs_lt (Q := fun z => zs_C σ0 z) (zs_wrt h_σ (fun _ => rfl) (fun _ => rfl)) (fun σ_2 hσ_2 => ?_)
  refine zs_lt (Q := fun z => zs_in z.toInt 1 1 ∧ z.toInt = c + 1) ⟨(zs_addI 1 1 h_x9 zlI_1 (by decide)), (zs_syI 1 hc h_x9 zlI_1 (by decide) (by decide))⟩ (fun y_4 hy_4 => ?_)
  exact zs_some (zs_inl ⟨⟨hσ_2, hy_4.1⟩, hy_4.2⟩)
-- BX4_reckon_68
theorem zc_679 {σ0 : sn_S} {σ : sn_S} (h_σ : zs_C σ0 σ) {x3 : Int32} (h_x3 : zs_in x3.toInt 0 0) {x4 : Int32} (h_x4 : zs_in x4.toInt 0 5) {x6 : Int32} (h_x6 : zs_in x6.toInt 1 1) {x7 : Int32} (h_x7 : zs_in x7.toInt 0 0) {x8 : Int32} (h_x8 : zs_in x8.toInt 0 0) {x9 : Int32} (h_x9 : zs_in x9.toInt 0 1) {c : Int} (hc : x9.toInt = c + 0) : zs_ok (BX4_reckon_68 σ 1 27 x3 x4 x6 x7 x8 x9) (fun r => zs_sum (fun v => ((zs_C σ0 v.1 ∧ zs_in (v.2).toInt 1 1)) ∧ v.2.toInt = c + 1) (fun v => zs_C σ0 v) r) := by
  unfold BX4_reckon_68
  obtain rfl : x3 = (0 : Int32) := zs_eqv h_x3 (by decide)
  obtain rfl : x6 = (1 : Int32) := zs_eqv h_x6 (by decide)
  obtain rfl : x7 = (0 : Int32) := zs_eqv h_x7 (by decide)
  obtain rfl : x8 = (0 : Int32) := zs_eqv h_x8 (by decide)
  refine zs_ite (fun c1 => ?_) (fun c1 => ?_)
  · skip
    have r2 := (zs_I_le c1)
    have g3 : zs_in (x9).toInt 1 1 := (zs_ler 1 1 r2 h_x6 h_x9 (by decide))
    exact zs_some (zs_inr (h_σ))
  · skip
    have r4 := (zs_I_len c1)
    have g5 : zs_in (x9).toInt 0 0 := (zs_ltl 0 0 r4 h_x9 h_x6 (by decide))
    refine zs_gd (zs_gin g5 (by decide)) ?_
    refine zs_bd_ (zc_676 h_x7 (zs_subI 0 0 (zs_subI 0 0 h_x6 zlI_1 (by decide)) g5 (by decide))) (fun t_3 pt_3 => ?_)
    refine zs_ite (fun c6 => ?_) (fun c6 => ?_)
    · skip
      have r7 := (zs_I_eq c6)
      have g8 : zs_in (t_3).toInt 0 0 := (zs_eql 0 0 r7 pt_3 zlI_0 (by decide))
      obtain ⟨ret, er, hr⟩ := zc_677 h_σ h_x3 h_x4 h_x6 h_x7 h_x8 g5 g5 zlI_0 hc
      refine ⟨ret, er, ?_⟩
      exact (zs_sumw hr (fun v w => ⟨w.1, w.2⟩) (fun v w => w.elim))
    · skip
      have r9 := (zs_I_eqn c6)
      have g10 : zs_in (t_3).toInt 1 1 := (zs_nel 1 1 r9 pt_3 zlI_0 (by decide))
      obtain ⟨ret, er, hr⟩ := zc_678 h_σ h_x3 h_x4 h_x6 h_x7 h_x8 g5 g5 zlI_3 hc
      refine ⟨ret, er, ?_⟩
      exact (zs_sumw hr (fun v w => ⟨w.1, w.2⟩) (fun v w => w.elim))
theorem zd_116 {σ0 : sn_S} {x3 : Int32} (h_x3 : zs_in x3.toInt 0 0) {x4 : Int32} (h_x4 : zs_in x4.toInt 0 5) {x6 : Int32} (h_x6 : zs_in x6.toInt 1 1) {x7 : Int32} (h_x7 : zs_in x7.toInt 0 0) {x8 : Int32} (h_x8 : zs_in x8.toInt 0 0) {s0 : (sn_S × Int32)} (h0 : (zs_C σ0 s0.1 ∧ zs_in (s0.2).toInt 0 1)) : zs_ok (sn_it (LX4_reckon_68 1 27 x3 x4 x6 x7 x8) 5000 s0) (fun t => zs_C σ0 t) := by
  refine zs_it (I := fun s => (zs_C σ0 s.1 ∧ zs_in (s.2).toInt 0 1)) (m := fun s => 1 - s.2.toInt) (fun s hs => ?_) (fun s hs => ?_) (by exact h0)
  · have h1 := hs.2; unfold zs_in at h1
    omega
  · obtain ⟨b, eb, hb⟩ := zc_679 hs.1 h_x3 h_x4 h_x6 h_x7 h_x8 hs.2 (c := s.2.toInt) (Int.add_zero _).symm
    exact ⟨b, eb, zs_sumw hb (fun v w => ⟨⟨w.1.1, (zs_w w.1.2 (by decide))⟩, by have := w.2; omega⟩) (fun v w => w)⟩
-- BX0_live_2
theorem zc_680 {σ0 : sn_S} {σ : sn_S} (h_σ : zs_C σ0 σ) {x1 : Int32} (h_x1 : zs_in x1.toInt 0 0) {x2 : Int32} (h_x2 : zs_in x2.toInt 1 1) {x3 : Int32} (h_x3 : zs_in x3.toInt 0 6) {c : Int} (hc : x3.toInt = c + 0) : zs_ok (BX0_live_2 σ 59 x1 x2 x3) (fun r => zs_sum (fun v => ((zs_C σ0 v.1 ∧ zs_in (v.2).toInt 1 6)) ∧ v.2.toInt = c + 1) (fun v => zs_C σ0 v) r) := by
  unfold BX0_live_2
  obtain rfl : x1 = (0 : Int32) := zs_eqv h_x1 (by decide)
  obtain rfl : x2 = (1 : Int32) := zs_eqv h_x2 (by decide)
  refine zs_ite (fun c1 => ?_) (fun c1 => ?_)
  · skip
    have r2 := (zs_I_le c1)
    exact zs_some (zs_inr (h_σ))
  · skip
    have r3 := (zs_I_len c1)
    have g4 : zs_in (x3).toInt 0 5 := (zs_ltl 0 5 r3 h_x3 (zs_rdk (q := 59) (k := 1) (z := (0, 6)) h_σ.1 rfl) (by decide))
    have g5 : zs_in ((sn_I σ 59 1)).toInt 1 6 := (zs_ltr 1 6 r3 h_x3 (zs_rdk (q := 59) (k := 1) (z := (0, 6)) h_σ.1 rfl) (by decide))
    refine zs_gd (zs_gin g4 (by decide)) ?_
    refine zs_bd_ (zc_314 h_x1) (fun t_3 pt_3 => ?_)
    refine zs_gd (zs_gin g4 (by decide)) ?_
    refine zs_lt (Q := fun z => zs_C σ0 z) (zs_wru (z := (0, 1073741823)) h_σ (fun _ => rfl) (zs_and pt_3 (by decide)) (by decide) (fun _ => rfl)) (fun σ_6 hσ_6 => ?_)
    refine zs_lt (Q := fun z => zs_in z.toInt 1 6 ∧ z.toInt = c + 1) ⟨(zs_addI 1 6 g4 zlI_1 (by decide)), (zs_syI 1 hc g4 zlI_1 (by decide) (by decide))⟩ (fun y_8 hy_8 => ?_)
    exact zs_some (zs_inl ⟨⟨hσ_6, hy_8.1⟩, hy_8.2⟩)
theorem zd_117 {σ0 : sn_S} {x1 : Int32} (h_x1 : zs_in x1.toInt 0 0) {x2 : Int32} (h_x2 : zs_in x2.toInt 1 1) {s0 : (sn_S × Int32)} (h0 : (zs_C σ0 s0.1 ∧ zs_in (s0.2).toInt 0 6)) : zs_ok (sn_it (LX0_live_2 59 x1 x2) 5000 s0) (fun t => zs_C σ0 t) := by
  refine zs_it (I := fun s => (zs_C σ0 s.1 ∧ zs_in (s.2).toInt 0 6)) (m := fun s => 6 - s.2.toInt) (fun s hs => ?_) (fun s hs => ?_) (by exact h0)
  · have h1 := hs.2; unfold zs_in at h1
    omega
  · obtain ⟨b, eb, hb⟩ := zc_680 hs.1 h_x1 h_x2 hs.2 (c := s.2.toInt) (Int.add_zero _).symm
    exact ⟨b, eb, zs_sumw hb (fun v w => ⟨⟨w.1.1, (zs_w w.1.2 (by decide))⟩, by have := w.2; omega⟩) (fun v w => w)⟩
-- BX0_tickleByNets_7
theorem zc_681 {σ0 : sn_S} {σ : sn_S} (h_σ : zs_C σ0 σ) {x1 : Int32} (h_x1 : zs_in x1.toInt 0 0) {x2 : Int32} (h_x2 : zs_in x2.toInt 0 0) {x3 : Int32} (h_x3 : zs_in x3.toInt 0 6) (hl_x1 : x2.toInt = 6 * x1.toInt) {c : Int} (hc : x3.toInt = c + 0) : zs_ok (BX0_tickleByNets_7 σ 59 x1 x2 x3) (fun r => zs_sum (fun v => ((zs_C σ0 v.1 ∧ zs_in (v.2).toInt 1 6)) ∧ v.2.toInt = c + 1) (fun v => zs_C σ0 v) r) := by
  unfold BX0_tickleByNets_7
  refine zs_ite (fun c1 => ?_) (fun c1 => ?_)
  · skip
    have r2 := (zs_I_le c1)
    exact zs_some (zs_inr (h_σ))
  · skip
    have r3 := (zs_I_len c1)
    have g4 : zs_in (x3).toInt 0 5 := (zs_ltl 0 5 r3 h_x3 (zs_rdk (q := 59) (k := 1) (z := (0, 6)) h_σ.1 rfl) (by decide))
    have g5 : zs_in ((sn_I σ 59 1)).toInt 1 6 := (zs_ltr 1 6 r3 h_x3 (zs_rdk (q := 59) (k := 1) (z := (0, 6)) h_σ.1 rfl) (by decide))
    refine zs_gd (zs_gin (zs_addI 0 5 h_x2 g4 (by decide)) (by decide)) ?_
    refine zs_lt (Q := fun z => zs_C σ0 z) (zs_wrt h_σ (fun _ => rfl) (fun _ => rfl)) (fun σ_3 hσ_3 => ?_)
    refine zs_lt (Q := fun z => zs_in z.toInt 1 6 ∧ z.toInt = c + 1) ⟨(zs_addI 1 6 g4 zlI_1 (by decide)), (zs_syI 1 hc g4 zlI_1 (by decide) (by decide))⟩ (fun y_5 hy_5 => ?_)
    exact zs_some (zs_inl ⟨⟨hσ_3, hy_5.1⟩, hy_5.2⟩)
theorem zd_118 {σ0 : sn_S} {x1 : Int32} (h_x1 : zs_in x1.toInt 0 0) {x2 : Int32} (h_x2 : zs_in x2.toInt 0 0) (hl_x1 : x2.toInt = 6 * x1.toInt) {s0 : (sn_S × Int32)} (h0 : (zs_C σ0 s0.1 ∧ zs_in (s0.2).toInt 0 6)) : zs_ok (sn_it (LX0_tickleByNets_7 59 x1 x2) 5000 s0) (fun t => zs_C σ0 t) := by
  refine zs_it (I := fun s => (zs_C σ0 s.1 ∧ zs_in (s.2).toInt 0 6)) (m := fun s => 6 - s.2.toInt) (fun s hs => ?_) (fun s hs => ?_) (by exact h0)
  · have h1 := hs.2; unfold zs_in at h1
    omega
  · obtain ⟨b, eb, hb⟩ := zc_681 hs.1 h_x1 h_x2 hs.2 hl_x1 (c := s.2.toInt) (Int.add_zero _).symm
    exact ⟨b, eb, zs_sumw hb (fun v w => ⟨⟨w.1.1, (zs_w w.1.2 (by decide))⟩, by have := w.2; omega⟩) (fun v w => w)⟩
-- BX0_tickleByNets_46
theorem zc_682 {σ0 : sn_S} {σ : sn_S} (h_σ : zs_C σ0 σ) {x2 : Int32} (h_x2 : zs_in x2.toInt 0 0) {t0 : Int32} (h_t0 : zs_in t0.toInt 0 0) : zs_ok (BX0_tickleByNets_46 σ 59 x2 t0) (fun r => zs_C σ0 r) := by
  unfold BX0_tickleByNets_46
  obtain rfl : x2 = (0 : Int32) := zs_eqv h_x2 (by decide)
  obtain rfl : t0 = (0 : Int32) := zs_eqv h_t0 (by decide)
  refine zs_ite (fun c1 => ?_) (fun c1 => ?_)
  · skip
    have r2 := (zs_I_eq c1)
    exact zs_some h_σ
  · skip
    have r3 := (zs_I_eqn c1)
    exact (zs_botne r3 h_t0 zlI_0 (by decide)).elim
-- BX0_tickleByNets_30
theorem zc_683 {σ0 : sn_S} {σ : sn_S} (h_σ : zs_C σ0 σ) {x1 : Int32} (h_x1 : zs_in x1.toInt 0 0) {x2 : Int32} (h_x2 : zs_in x2.toInt 0 0) (hl_x1 : x2.toInt = 6 * x1.toInt) : zs_ok (BX0_tickleByNets_30 σ 59 x1 x2) (fun r => zs_C σ0 r) := by
  unfold BX0_tickleByNets_30
  refine zs_ite (fun c1 => ?_) (fun c1 => ?_)
  · skip
    have r2 := (zs_I_eq c1)
    obtain ⟨ret, er, hr⟩ := zc_682 h_σ h_x2 zlI_0
    refine ⟨ret, er, ?_⟩
    exact hr
  · skip
    have r3 := (zs_I_eqn c1)
    exact (zs_botne r3 h_x1 zlI_0 (by decide)).elim
-- fX0_tickleByNets
theorem zc_684 {σ0 : sn_S} {σ : sn_S} (h_σ : zs_C σ0 σ) {x1 : Int32} (h_x1 : zs_in x1.toInt 0 0) : zs_ok (fX0_tickleByNets σ 59 x1) (fun r => zs_C σ0 r) := by
  unfold fX0_tickleByNets
  obtain rfl : x1 = (0 : Int32) := zs_eqv h_x1 (by decide)
  refine zs_lt (Q := fun z => zs_in z.toInt 0 0 ∧ z = ((6 : Int32) * (0 : Int32))) ⟨(zs_mulI 0 0 zlI_6 h_x1 (by decide)), rfl⟩ (fun y_1 hy_1 => ?_)
  refine zs_bd_ (zd_118 h_x1 hy_1.1 (zs_linv hy_1.2 zlI_6 h_x1 (by decide)) (s0 := (σ, (0 : Int32))) ⟨h_σ, (zs_w zlI_0 (by decide))⟩) (fun t_3 pt_3 => ?_)
  obtain ⟨ret, er, hr⟩ := zc_683 pt_3 h_x1 hy_1.1 (zs_linv hy_1.2 zlI_6 h_x1 (by decide))
  refine ⟨ret, er, ?_⟩
  exact hr
-- fX0_cameAt
theorem zc_685 {σ0 : sn_S} {σ : sn_S} (h_σ : zs_C σ0 σ) {x1 : Int32} (h_x1 : zs_in x1.toInt 0 5) {x2 : Int32} (h_x2 : zs_in x2.toInt 0 0) : zs_ok (fX0_cameAt σ 59 x1 x2) (fun r => True) := by
  unfold fX0_cameAt
  obtain rfl : x2 = (0 : Int32) := zs_eqv h_x2 (by decide)
  refine zs_gd (zs_gin (zs_addI 0 5 (zs_mulI 0 0 zlI_6 h_x2 (by decide)) h_x1 (by decide)) (by decide)) ?_
  exact zs_some trivial
-- BX0_comesTo_19
theorem zc_686 {σ0 : sn_S} {σ : sn_S} (h_σ : zs_C σ0 σ) {x1 : Int32} (h_x1 : zs_in x1.toInt 0 5) {x2 : Int32} (h_x2 : zs_in x2.toInt 0 0) {t0 : Int32} (h_t0 : zs_in t0.toInt 0 0) : zs_ok (BX0_comesTo_19 σ 59 x1 x2 t0) (fun r => True) := by
  unfold BX0_comesTo_19
  obtain rfl : x2 = (0 : Int32) := zs_eqv h_x2 (by decide)
  obtain rfl : t0 = (0 : Int32) := zs_eqv h_t0 (by decide)
  refine zs_gd (zs_gin h_x1 (by decide)) ?_
  refine zs_gd (zs_gin h_x2 (by decide)) ?_
  refine zs_bd_ (zc_685 h_σ h_x1 h_x2) (fun t_3 pt_3 => ?_)
  exact zs_some trivial
-- BX0_comesTo_19
theorem zc_687 {σ0 : sn_S} {σ : sn_S} (h_σ : zs_C σ0 σ) {x1 : Int32} (h_x1 : zs_in x1.toInt 0 5) {x2 : Int32} (h_x2 : zs_in x2.toInt 0 0) {t0 : Int32} (h_t0 : zs_in t0.toInt 40 40) : zs_ok (BX0_comesTo_19 σ 59 x1 x2 t0) (fun r => True) := by
  unfold BX0_comesTo_19
  obtain rfl : x2 = (0 : Int32) := zs_eqv h_x2 (by decide)
  obtain rfl : t0 = (40 : Int32) := zs_eqv h_t0 (by decide)
  refine zs_gd (zs_gin h_x1 (by decide)) ?_
  refine zs_gd (zs_gin h_x2 (by decide)) ?_
  refine zs_bd_ (zc_685 h_σ h_x1 h_x2) (fun t_3 pt_3 => ?_)
  exact zs_some trivial
-- fX0_comesTo
theorem zc_688 {σ0 : sn_S} {σ : sn_S} (h_σ : zs_C σ0 σ) {x1 : Int32} (h_x1 : zs_in x1.toInt 0 5) {x2 : Int32} (h_x2 : zs_in x2.toInt 0 0) : zs_ok (fX0_comesTo σ 59 x1 x2) (fun r => True) := by
  unfold fX0_comesTo
  obtain rfl : x2 = (0 : Int32) := zs_eqv h_x2 (by decide)
  refine zs_gd (zs_gin h_x1 (by decide)) ?_
  refine zs_bd_ (zc_334 h_x2) (fun t_2 pt_2 => ?_)
  refine zs_ite (fun c1 => ?_) (fun c1 => ?_)
  · skip
    have r2 := (zs_I_eq c1)
    have g3 : zs_in (t_2).toInt 0 0 := (zs_eql 0 0 r2 pt_2 zlI_0 (by decide))
    obtain ⟨ret, er, hr⟩ := zc_686 h_σ h_x1 h_x2 zlI_0
    refine ⟨ret, er, ?_⟩
    exact hr
  · skip
    have r4 := (zs_I_eqn c1)
    have g5 : zs_in (t_2).toInt 1 1 := (zs_nel 1 1 r4 pt_2 zlI_0 (by decide))
    obtain ⟨ret, er, hr⟩ := zc_687 h_σ h_x1 h_x2 zlI_40
    refine ⟨ret, er, ?_⟩
    exact hr
-- BX0_liveMinute_98
theorem zc_689 {σ0 : sn_S} {σ : sn_S} (h_σ : zs_C σ0 σ) {x1 : Int32} (h_x1 : zs_in x1.toInt 0 0) {x2 : Int32} (h_x2 : zs_in x2.toInt 0 0) {x3 : Int32} {x4 : Int32} (h_x4 : zs_in x4.toInt 0 5) {x5 : Int32} (h_x5 : zs_in x5.toInt (-2147483648) 2147483646) (hl_x1 : x2.toInt = 6 * x1.toInt) {c : Int} (hc : x4.toInt = c + 0) : zs_ok (BX0_liveMinute_98 σ 59 x1 x2 x3 x4 x5) (fun r => zs_sum (fun v => ((zs_C σ0 v.1 ∧ (True ∧ zs_in (v.2.2).toInt 1 6))) ∧ v.2.2.toInt = c + 1) (fun v => False) r) := by
  unfold BX0_liveMinute_98
  refine zs_gd (zs_gin (zs_addI 0 5 h_x2 h_x4 (by decide)) (by decide)) ?_
  refine zs_lt (Q := fun z => zs_C σ0 z) (zs_wrt h_σ (fun _ => rfl) (fun _ => rfl)) (fun σ_2 hσ_2 => ?_)
  refine zs_lt (Q := fun z => zs_in z.toInt 1 6 ∧ z.toInt = c + 1) ⟨(zs_addI 1 6 h_x4 zlI_1 (by decide)), (zs_syI 1 hc h_x4 zlI_1 (by decide) (by decide))⟩ (fun y_4 hy_4 => ?_)
  exact zs_some (zs_inl ⟨⟨hσ_2, ⟨trivial, hy_4.1⟩⟩, hy_4.2⟩)
-- BX0_liveMinute_98
theorem zc_690 {σ0 : sn_S} {σ : sn_S} (h_σ : zs_C σ0 σ) {x1 : Int32} (h_x1 : zs_in x1.toInt 0 0) {x2 : Int32} (h_x2 : zs_in x2.toInt 0 0) {x3 : Int32} {x4 : Int32} (h_x4 : zs_in x4.toInt 0 5) {x5 : Int32} (h_x5 : zs_in x5.toInt 0 0) (hl_x1 : x2.toInt = 6 * x1.toInt) {c : Int} (hc : x4.toInt = c + 0) : zs_ok (BX0_liveMinute_98 σ 59 x1 x2 x3 x4 x5) (fun r => zs_sum (fun v => ((zs_C σ0 v.1 ∧ (True ∧ zs_in (v.2.2).toInt 1 6))) ∧ v.2.2.toInt = c + 1) (fun v => False) r) := by
  unfold BX0_liveMinute_98
  obtain rfl : x5 = (0 : Int32) := zs_eqv h_x5 (by decide)
  refine zs_gd (zs_gin (zs_addI 0 5 h_x2 h_x4 (by decide)) (by decide)) ?_
  refine zs_lt (Q := fun z => zs_C σ0 z) (zs_wrt h_σ (fun _ => rfl) (fun _ => rfl)) (fun σ_2 hσ_2 => ?_)
  refine zs_lt (Q := fun z => zs_in z.toInt 1 6 ∧ z.toInt = c + 1) ⟨(zs_addI 1 6 h_x4 zlI_1 (by decide)), (zs_syI 1 hc h_x4 zlI_1 (by decide) (by decide))⟩ (fun y_4 hy_4 => ?_)
  exact zs_some (zs_inl ⟨⟨hσ_2, ⟨trivial, hy_4.1⟩⟩, hy_4.2⟩)
-- BX0_liveMinute_98
theorem zc_691 {σ0 : sn_S} {σ : sn_S} (h_σ : zs_C σ0 σ) {x1 : Int32} (h_x1 : zs_in x1.toInt 0 0) {x2 : Int32} (h_x2 : zs_in x2.toInt 0 0) {x3 : Int32} {x4 : Int32} (h_x4 : zs_in x4.toInt 0 5) {x5 : Int32} (hl_x1 : x2.toInt = 6 * x1.toInt) {c : Int} (hc : x4.toInt = c + 0) : zs_ok (BX0_liveMinute_98 σ 59 x1 x2 x3 x4 x5) (fun r => zs_sum (fun v => ((zs_C σ0 v.1 ∧ (True ∧ zs_in (v.2.2).toInt 1 6))) ∧ v.2.2.toInt = c + 1) (fun v => False) r) := by
  unfold BX0_liveMinute_98
  refine zs_gd (zs_gin (zs_addI 0 5 h_x2 h_x4 (by decide)) (by decide)) ?_
  refine zs_lt (Q := fun z => zs_C σ0 z) (zs_wrt h_σ (fun _ => rfl) (fun _ => rfl)) (fun σ_2 hσ_2 => ?_)
  refine zs_lt (Q := fun z => zs_in z.toInt 1 6 ∧ z.toInt = c + 1) ⟨(zs_addI 1 6 h_x4 zlI_1 (by decide)), (zs_syI 1 hc h_x4 zlI_1 (by decide) (by decide))⟩ (fun y_4 hy_4 => ?_)
  exact zs_some (zs_inl ⟨⟨hσ_2, ⟨trivial, hy_4.1⟩⟩, hy_4.2⟩)
-- BX0_liveMinute_46
theorem zc_692 {σ0 : sn_S} {σ : sn_S} (h_σ : zs_C σ0 σ) {x1 : Int32} (h_x1 : zs_in x1.toInt 0 0) {x2 : Int32} (h_x2 : zs_in x2.toInt 0 0) {x3 : Int32} {x4 : Int32} (h_x4 : zs_in x4.toInt 0 5) {t0 : Int32} {t1 : Int32} (h_t1 : zs_in t1.toInt 0 0) (hl_x1 : x2.toInt = 6 * x1.toInt) {c : Int} (hc : x4.toInt = c + 0) : zs_ok (BX0_liveMinute_46 σ 59 x1 x2 x3 x4 t0 t1) (fun r => zs_sum (fun v => ((zs_C σ0 v.1 ∧ (True ∧ zs_in (v.2.2).toInt 1 6))) ∧ v.2.2.toInt = c + 1) (fun v => False) r) := by
  unfold BX0_liveMinute_46
  obtain rfl : t1 = (0 : Int32) := zs_eqv h_t1 (by decide)
  refine zs_lt (Q := fun z => True) trivial (fun y_1 hy_1 => ?_)
  refine zs_gd (zs_gin h_x4 (by decide)) ?_
  refine zs_ite (fun c1 => ?_) (fun c1 => ?_)
  · skip
    have r2 := (zs_I_lt c1)
    have g3 : zs_in (y_1).toInt (-2147483648) 2147483646 := (zs_ltl (-2147483648) 2147483646 r2 (zs_topI _) (zs_topI _) (by decide))
    have g4 : zs_in ((sn_I σ (59 + 3) x4.toNatClampNeg)).toInt (-2147483647) 2147483647 := (zs_ltr (-2147483647) 2147483647 r2 (zs_topI _) (zs_topI _) (by decide))
    obtain ⟨ret, er, hr⟩ := zc_689 h_σ h_x1 h_x2 h_x4 g3 hl_x1 hc
    refine ⟨ret, er, ?_⟩
    exact (zs_sumw hr (fun v w => ⟨w.1, w.2⟩) (fun v w => w.elim))
  · skip
    have r5 := (zs_I_ltn c1)
    refine zs_gd (zs_gin h_x4 (by decide)) ?_
    refine zs_bd_ (zc_334 h_x1) (fun t_6 pt_6 => ?_)
    refine zs_ite (fun c6 => ?_) (fun c6 => ?_)
    · skip
      have r7 := (zs_I_eq c6)
      have g8 : zs_in (t_6).toInt 0 0 := (zs_eql 0 0 r7 pt_6 zlI_0 (by decide))
      refine zs_lt (Q := fun z => True) trivial (fun y_9 hy_9 => ?_)
      refine zs_gd (zs_gin h_x4 (by decide)) ?_
      refine zs_gd (zs_gin h_x4 (by decide)) ?_
      refine zs_lt (Q := fun z => zs_C σ0 z) (zs_wru (z := (0, 1073741823)) h_σ (fun _ => rfl) (zs_or 30 1073741823 (zs_rdu (q := 69) (z := (0, 1073741823)) h_σ.1 (fun _ => rfl)) (zs_cases h_x1 (fun z => zs_in ((1 : Int32) <<< (z &&& 31)).toInt 1 1) (by decide +kernel)) (by decide)) (by decide) (fun _ => rfl)) (fun σ_13 hσ_13 => ?_)
      obtain ⟨ret, er, hr⟩ := zc_690 hσ_13 h_x1 h_x2 h_x4 zlI_0 hl_x1 hc
      refine ⟨ret, er, ?_⟩
      exact (zs_sumw hr (fun v w => ⟨w.1, w.2⟩) (fun v w => w.elim))
    · skip
      have r9 := (zs_I_eqn c6)
      have g10 : zs_in (t_6).toInt 1 1 := (zs_nel 1 1 r9 pt_6 zlI_0 (by decide))
      obtain ⟨ret, er, hr⟩ := zc_691 h_σ h_x1 h_x2 h_x4 hl_x1 hc
      refine ⟨ret, er, ?_⟩
      exact (zs_sumw hr (fun v w => ⟨w.1, w.2⟩) (fun v w => w.elim))
-- BX0_liveMinute_10
theorem zc_693 {σ0 : sn_S} {σ : sn_S} (h_σ : zs_C σ0 σ) {x1 : Int32} (h_x1 : zs_in x1.toInt 0 0) {x2 : Int32} (h_x2 : zs_in x2.toInt 0 0) {x3 : Int32} {x4 : Int32} (h_x4 : zs_in x4.toInt 0 6) (hl_x1 : x2.toInt = 6 * x1.toInt) {c : Int} (hc : x4.toInt = c + 0) : zs_ok (BX0_liveMinute_10 σ 59 x1 x2 x3 x4) (fun r => zs_sum (fun v => ((zs_C σ0 v.1 ∧ (True ∧ zs_in (v.2.2).toInt 1 6))) ∧ v.2.2.toInt = c + 1) (fun v => (zs_C σ0 v.1 ∧ True)) r) := by
  unfold BX0_liveMinute_10
  refine zs_ite (fun c1 => ?_) (fun c1 => ?_)
  · skip
    have r2 := (zs_I_le c1)
    exact zs_some (zs_inr (⟨h_σ, trivial⟩))
  · skip
    have r3 := (zs_I_len c1)
    have g4 : zs_in (x4).toInt 0 5 := (zs_ltl 0 5 r3 h_x4 (zs_rdk (q := 59) (k := 1) (z := (0, 6)) h_σ.1 rfl) (by decide))
    have g5 : zs_in ((sn_I σ 59 1)).toInt 1 6 := (zs_ltr 1 6 r3 h_x4 (zs_rdk (q := 59) (k := 1) (z := (0, 6)) h_σ.1 rfl) (by decide))
    refine zs_bd_ (zc_688 h_σ g4 h_x1) (fun t_2 pt_2 => ?_)
    refine zs_ite (fun c6 => ?_) (fun c6 => ?_)
    · skip
      have r7 := (zs_I_eq c6)
      obtain ⟨ret, er, hr⟩ := zc_692 h_σ h_x1 h_x2 g4 zlI_0 hl_x1 hc
      refine ⟨ret, er, ?_⟩
      exact (zs_sumw hr (fun v w => ⟨w.1, w.2⟩) (fun v w => w.elim))
    · skip
      have r8 := (zs_I_eqn c6)
      exact (zs_botne r8 h_x1 zlI_0 (by decide)).elim
theorem zd_119 {σ0 : sn_S} {x1 : Int32} (h_x1 : zs_in x1.toInt 0 0) {x2 : Int32} (h_x2 : zs_in x2.toInt 0 0) (hl_x1 : x2.toInt = 6 * x1.toInt) {s0 : (sn_S × (Int32 × Int32))} (h0 : (zs_C σ0 s0.1 ∧ (True ∧ zs_in (s0.2.2).toInt 0 6))) : zs_ok (sn_it (LX0_liveMinute_10 59 x1 x2) 5000 s0) (fun t => (zs_C σ0 t.1 ∧ True)) := by
  refine zs_it (I := fun s => (zs_C σ0 s.1 ∧ (True ∧ zs_in (s.2.2).toInt 0 6))) (m := fun s => 6 - s.2.2.toInt) (fun s hs => ?_) (fun s hs => ?_) (by exact h0)
  · have h1 := hs.2.2; unfold zs_in at h1
    omega
  · obtain ⟨b, eb, hb⟩ := zc_693 hs.1 h_x1 h_x2 hs.2.2 hl_x1 (c := s.2.2.toInt) (Int.add_zero _).symm
    exact ⟨b, eb, zs_sumw hb (fun v w => ⟨⟨w.1.1, ⟨w.1.2.1, (zs_w w.1.2.2 (by decide))⟩⟩, by have := w.2; omega⟩) (fun v w => w)⟩
-- BX0_liveMinute_115
theorem zc_694 {σ0 : sn_S} {σ : sn_S} (h_σ : zs_C σ0 σ) {x1 : Int32} (h_x1 : zs_in x1.toInt 0 0) {x3 : Int32} : zs_ok (BX0_liveMinute_115 σ 59 x1 x3) (fun r => zs_C σ0 r) := by
  unfold BX0_liveMinute_115
  obtain rfl : x1 = (0 : Int32) := zs_eqv h_x1 (by decide)
  refine zs_gd (zs_gin h_x1 (by decide)) ?_
  refine zs_lt (Q := fun z => zs_C σ0 z) (zs_wrt h_σ (fun _ => rfl) (fun _ => rfl)) (fun σ_2 hσ_2 => ?_)
  exact zs_some hσ_2
-- fX0_liveMinute
theorem zc_695 {σ0 : sn_S} {σ : sn_S} (h_σ : zs_C σ0 σ) {x1 : Int32} (h_x1 : zs_in x1.toInt 0 0) : zs_ok (fX0_liveMinute σ 59 x1) (fun r => zs_C σ0 r) := by
  unfold fX0_liveMinute
  obtain rfl : x1 = (0 : Int32) := zs_eqv h_x1 (by decide)
  refine zs_lt (Q := fun z => zs_in z.toInt 0 0 ∧ z = ((6 : Int32) * (0 : Int32))) ⟨(zs_mulI 0 0 zlI_6 h_x1 (by decide)), rfl⟩ (fun y_1 hy_1 => ?_)
  refine zs_bd_ (zd_119 h_x1 hy_1.1 (zs_linv hy_1.2 zlI_6 h_x1 (by decide)) (s0 := (σ, ((0 : Int32), (0 : Int32)))) ⟨h_σ, ⟨trivial, (zs_w zlI_0 (by decide))⟩⟩) (fun t_3 pt_3 => ?_)
  obtain ⟨ret, er, hr⟩ := zc_694 pt_3.1 h_x1
  refine ⟨ret, er, ?_⟩
  exact hr
-- BX0_live_31
theorem zc_696 {σ0 : sn_S} {σ : sn_S} (h_σ : zs_C σ0 σ) {x2 : Int32} (h_x2 : zs_in x2.toInt 1 1) {x3 : Int32} (h_x3 : zs_in x3.toInt 0 1) {c : Int} (hc : x3.toInt = c + 0) : zs_ok (BX0_live_31 σ 59 x2 x3) (fun r => zs_sum (fun v => ((zs_C σ0 v.1 ∧ zs_in (v.2).toInt 1 1)) ∧ v.2.toInt = c + 1) (fun v => zs_C σ0 v) r) := by
  unfold BX0_live_31
  obtain rfl : x2 = (1 : Int32) := zs_eqv h_x2 (by decide)
  refine zs_ite (fun c1 => ?_) (fun c1 => ?_)
  · skip
    have r2 := (zs_I_le c1)
    have g3 : zs_in (x3).toInt 1 1 := (zs_ler 1 1 r2 h_x2 h_x3 (by decide))
    exact zs_some (zs_inr (h_σ))
  · skip
    have r4 := (zs_I_len c1)
    have g5 : zs_in (x3).toInt 0 0 := (zs_ltl 0 0 r4 h_x3 h_x2 (by decide))
    refine zs_ite (fun c6 => ?_) (fun c6 => ?_)
    · skip
      have r7 := (zs_I_le c6)
      have g8 : zs_in ((sn_I σ 59 0)).toInt 0 0 := (zs_lel 0 0 r7 (zs_rdk (q := 59) (k := 0) (z := (0, 30)) h_σ.1 rfl) g5 (by decide))
      exact zs_some (zs_inr (h_σ))
    · skip
      have r9 := (zs_I_len c6)
      have g10 : zs_in ((sn_I σ 59 0)).toInt 1 30 := (zs_ltr 1 30 r9 g5 (zs_rdk (q := 59) (k := 0) (z := (0, 30)) h_σ.1 rfl) (by decide))
      refine zs_bd_ (zc_684 h_σ g5) (fun t_3 pt_3 => ?_)
      refine zs_bd_ (zc_695 pt_3 g5) (fun t_5 pt_5 => ?_)
      refine zs_lt (Q := fun z => zs_in z.toInt 1 1 ∧ z.toInt = c + 1) ⟨(zs_addI 1 1 g5 zlI_1 (by decide)), (zs_syI 1 hc g5 zlI_1 (by decide) (by decide))⟩ (fun y_7 hy_7 => ?_)
      exact zs_some (zs_inl ⟨⟨pt_5, hy_7.1⟩, hy_7.2⟩)
theorem zd_120 {σ0 : sn_S} {x2 : Int32} (h_x2 : zs_in x2.toInt 1 1) {s0 : (sn_S × Int32)} (h0 : (zs_C σ0 s0.1 ∧ zs_in (s0.2).toInt 0 1)) : zs_ok (sn_it (LX0_live_31 59 x2) 5000 s0) (fun t => zs_C σ0 t) := by
  refine zs_it (I := fun s => (zs_C σ0 s.1 ∧ zs_in (s.2).toInt 0 1)) (m := fun s => 1 - s.2.toInt) (fun s hs => ?_) (fun s hs => ?_) (by exact h0)
  · have h1 := hs.2; unfold zs_in at h1
    omega
  · obtain ⟨b, eb, hb⟩ := zc_696 hs.1 h_x2 hs.2 (c := s.2.toInt) (Int.add_zero _).symm
    exact ⟨b, eb, zs_sumw hb (fun v w => ⟨⟨w.1.1, (zs_w w.1.2 (by decide))⟩, by have := w.2; omega⟩) (fun v w => w)⟩
-- BX0_live_60
theorem zc_697 {σ0 : sn_S} {σ : sn_S} (h_σ : zs_C σ0 σ) : zs_ok (BX0_live_60 σ 59) (fun r => zs_C σ0 r) := by
  unfold BX0_live_60
  exact zs_some h_σ
-- BX0_live_29
theorem zc_698 {σ0 : sn_S} {σ : sn_S} (h_σ : zs_C σ0 σ) {x1 : Int32} (h_x1 : zs_in x1.toInt 0 0) {x2 : Int32} (h_x2 : zs_in x2.toInt 1 1) : zs_ok (BX0_live_29 σ 59 x1 x2) (fun r => zs_C σ0 r) := by
  unfold BX0_live_29
  obtain rfl : x1 = (0 : Int32) := zs_eqv h_x1 (by decide)
  obtain rfl : x2 = (1 : Int32) := zs_eqv h_x2 (by decide)
  refine zs_bd_ (zd_120 h_x2 (s0 := (σ, (0 : Int32))) ⟨h_σ, (zs_w h_x1 (by decide))⟩) (fun t_1 pt_1 => ?_)
  obtain ⟨ret, er, hr⟩ := zc_697 pt_1
  refine ⟨ret, er, ?_⟩
  exact hr
-- fX0_live
theorem zc_699 {σ0 : sn_S} {σ : sn_S} (h_σ : zs_C σ0 σ) {x1 : Int32} (h_x1 : zs_in x1.toInt 0 0) {x2 : Int32} (h_x2 : zs_in x2.toInt 1 1) : zs_ok (fX0_live σ 59 x1 x2) (fun r => zs_C σ0 r) := by
  unfold fX0_live
  obtain rfl : x1 = (0 : Int32) := zs_eqv h_x1 (by decide)
  obtain rfl : x2 = (1 : Int32) := zs_eqv h_x2 (by decide)
  refine zs_bd_ (zd_117 h_x1 h_x2 (s0 := (σ, (0 : Int32))) ⟨h_σ, (zs_w zlI_0 (by decide))⟩) (fun t_1 pt_1 => ?_)
  obtain ⟨ret, er, hr⟩ := zc_698 pt_1 h_x1 h_x2
  refine ⟨ret, er, ?_⟩
  exact hr
-- fX4_worth
theorem zc_700 {σ0 : sn_S} {σ : sn_S} (h_σ : zs_C σ0 σ) {x2 : Int32} (h_x2 : zs_in x2.toInt 0 0) {x3 : Int32} (h_x3 : zs_in x3.toInt 0 5) {x4 : Int32} (h_x4 : zs_in x4.toInt 1 1) : zs_ok (fX4_worth σ 1 x2 x3 x4) (fun r => (zs_in (r.1).toInt 0 1 ∧ zs_C σ0 r.2)) := by
  unfold fX4_worth
  obtain rfl : x2 = (0 : Int32) := zs_eqv h_x2 (by decide)
  obtain rfl : x4 = (1 : Int32) := zs_eqv h_x4 (by decide)
  refine zs_ite (fun c1 => ?_) (fun c1 => ?_)
  · skip
    have r2 := (zs_I_eq c1)
    refine zs_gd (zs_gin h_x3 (by decide)) ?_
    refine zs_ite (fun c3 => ?_) (fun c3 => ?_)
    · skip
      have r4 := (zs_I_eq c3)
      have g5 : zs_in ((sn_I σ (59 + 10) x3.toNatClampNeg)).toInt 0 0 := (zs_eql 0 0 r4 (zs_rdu (q := 69) (z := (0, 1073741823)) h_σ.1 (fun _ => rfl)) zlI_0 (by decide))
      exact zs_some ⟨(zs_w zlL_0 (by decide)), h_σ⟩
    · skip
      have r6 := (zs_I_eqn c3)
      have g7 : zs_in ((sn_I σ (59 + 10) x3.toNatClampNeg)).toInt 1 1073741823 := (zs_nel 1 1073741823 r6 (zs_rdu (q := 69) (z := (0, 1073741823)) h_σ.1 (fun _ => rfl)) zlI_0 (by decide))
      exact zs_some ⟨(zs_w zlL_1 (by decide)), h_σ⟩
  · skip
    have r8 := (zs_I_eqn c1)
    exact (zs_botne r8 h_x2 zlI_0 (by decide)).elim
-- BX4_reckon_139
theorem zc_701 {σ0 : sn_S} {σ : sn_S} (h_σ : zs_C σ0 σ) {x3 : Int32} (h_x3 : zs_in x3.toInt 0 0) {x4 : Int32} (h_x4 : zs_in x4.toInt 0 5) {x6 : Int32} (h_x6 : zs_in x6.toInt 1 1) {x7 : Int32} (h_x7 : zs_in x7.toInt 0 0) {t1 : Int32} (h_t1 : zs_in t1.toInt 0 0) {t2 : Int32} (h_t2 : zs_in t2.toInt 1 1) {c : Int} (hc : x7.toInt = c + 0) : zs_ok (BX4_reckon_139 σ 1 27 x3 x4 x6 x7 t1 t2) (fun r => zs_sum (fun v => ((zs_C σ0 v.1 ∧ zs_in (v.2).toInt 1 1)) ∧ v.2.toInt = c + 1) (fun v => False) r) := by
  unfold BX4_reckon_139
  obtain rfl : x3 = (0 : Int32) := zs_eqv h_x3 (by decide)
  obtain rfl : x6 = (1 : Int32) := zs_eqv h_x6 (by decide)
  obtain rfl : t1 = (0 : Int32) := zs_eqv h_t1 (by decide)
  obtain rfl : t2 = (1 : Int32) := zs_eqv h_t2 (by decide)
  refine zs_bd_ (zc_699 h_σ h_t1 h_t2) (fun t_1 pt_1 => ?_)
  refine zs_bd_ (zo_bc 0 0 (by decide) h_x7) (fun t_3 pt_3 => ?_)
  refine zs_gd (zs_gin pt_3 (by decide)) ?_
  refine zs_bd_ (zc_700 pt_1 h_x3 h_x4 h_x6) (fun t_6 pt_6 => ?_)
  refine zs_lt (Q := fun z => zs_C σ0 z) (zs_wrL pt_6.2 rfl) (fun σ_8 hσ_8 => ?_)
  refine zs_lt (Q := fun z => zs_in z.toInt 1 1 ∧ z.toInt = c + 1) ⟨(zs_addI 1 1 h_x7 zlI_1 (by decide)), (zs_syI 1 hc h_x7 zlI_1 (by decide) (by decide))⟩ (fun y_10 hy_10 => ?_)
  exact zs_some (zs_inl ⟨⟨hσ_8, hy_10.1⟩, hy_10.2⟩)
-- BX4_reckon_119
theorem zc_702 {σ0 : sn_S} {σ : sn_S} (h_σ : zs_C σ0 σ) {x3 : Int32} (h_x3 : zs_in x3.toInt 0 0) {x4 : Int32} (h_x4 : zs_in x4.toInt 0 5) {x6 : Int32} (h_x6 : zs_in x6.toInt 1 1) {x7 : Int32} (h_x7 : zs_in x7.toInt 0 0) {x8 : Int32} (h_x8 : zs_in x8.toInt 0 0) {c : Int} (hc : x7.toInt = c + 0) : zs_ok (BX4_reckon_119 σ 1 27 x3 x4 x6 x7 x8) (fun r => zs_sum (fun v => ((zs_C σ0 v.1 ∧ zs_in (v.2).toInt 1 1)) ∧ v.2.toInt = c + 1) (fun v => False) r) := by
  unfold BX4_reckon_119
  obtain rfl : x3 = (0 : Int32) := zs_eqv h_x3 (by decide)
  obtain rfl : x6 = (1 : Int32) := zs_eqv h_x6 (by decide)
  obtain rfl : x8 = (0 : Int32) := zs_eqv h_x8 (by decide)
  refine zs_ite (fun c1 => ?_) (fun c1 => ?_)
  · skip
    have r2 := (zs_I_eq c1)
    exact (zs_botr r2 h_x3 zlI_2 (by decide)).elim
  · skip
    have r3 := (zs_I_eqn c1)
    obtain ⟨ret, er, hr⟩ := zc_701 h_σ h_x3 h_x4 h_x6 h_x7 h_x8 h_x6 hc
    refine ⟨ret, er, ?_⟩
    exact (zs_sumw hr (fun v w => ⟨w.1, w.2⟩) (fun v w => w.elim))
-- BX4_reckon_62
theorem zc_703 {σ0 : sn_S} {σ : sn_S} (h_σ : zs_C σ0 σ) {x3 : Int32} (h_x3 : zs_in x3.toInt 0 0) {x4 : Int32} (h_x4 : zs_in x4.toInt 0 5) {x6 : Int32} (h_x6 : zs_in x6.toInt 1 1) {x7 : Int32} (h_x7 : zs_in x7.toInt 0 0) {t0 : Int32} (h_t0 : zs_in t0.toInt 0 0) {c : Int} (hc : x7.toInt = c + 0) : zs_ok (BX4_reckon_62 σ 1 27 x3 x4 x6 x7 t0) (fun r => zs_sum (fun v => ((zs_C σ0 v.1 ∧ zs_in (v.2).toInt 1 1)) ∧ v.2.toInt = c + 1) (fun v => False) r) := by
  unfold BX4_reckon_62
  obtain rfl : x3 = (0 : Int32) := zs_eqv h_x3 (by decide)
  obtain rfl : x6 = (1 : Int32) := zs_eqv h_x6 (by decide)
  obtain rfl : t0 = (0 : Int32) := zs_eqv h_t0 (by decide)
  refine zs_bd_ (zd_116 h_x3 h_x4 h_x6 h_x7 h_t0 (s0 := (σ, (0 : Int32))) ⟨h_σ, (zs_w h_t0 (by decide))⟩) (fun t_1 pt_1 => ?_)
  obtain ⟨ret, er, hr⟩ := zc_702 pt_1 h_x3 h_x4 h_x6 h_x7 h_t0 hc
  refine ⟨ret, er, ?_⟩
  exact (zs_sumw hr (fun v w => ⟨w.1, w.2⟩) (fun v w => w.elim))
-- fX8_hasBit
theorem zc_704 {x0 : Int32} (h_x0 : zs_in x0.toInt 1 1) {x1 : Int32} (h_x1 : zs_in x1.toInt 0 0) : zs_ok (fX8_hasBit x0 x1) (fun r => zs_in (r).toInt 0 1) := by
  unfold fX8_hasBit
  obtain rfl : x0 = (1 : Int32) := zs_eqv h_x0 (by decide)
  obtain rfl : x1 = (0 : Int32) := zs_eqv h_x1 (by decide)
  refine zs_ite (fun c1 => ?_) (fun c1 => ?_)
  · skip
    have r2 := (zs_I_eq c1)
    have g3 : zs_in ((((1 : Int32) >>> ((0 : Int32) &&& 31)) &&& (1 : Int32))).toInt 1 1 := (zs_eql 1 1 r2 (zs_and zlI_1 (by decide)) zlI_1 (by decide))
    refine zs_gd (zs_b01 zlI_1 (by decide)) ?_
    exact zs_some (zs_w zlI_1 (by decide))
  · skip
    have r4 := (zs_I_eqn c1)
    have g5 : zs_in ((((1 : Int32) >>> ((0 : Int32) &&& 31)) &&& (1 : Int32))).toInt 0 0 := (zs_neh 0 0 r4 (zs_and zlI_1 (by decide)) zlI_1 (by decide))
    refine zs_gd (zs_b01 zlI_0 (by decide)) ?_
    exact zs_some (zs_w zlI_0 (by decide))
-- BX4_reckon_111
theorem zc_705 {σ0 : sn_S} {σ : sn_S} (h_σ : zs_C σ0 σ) {x3 : Int32} (h_x3 : zs_in x3.toInt 0 0) {x4 : Int32} (h_x4 : zs_in x4.toInt 0 5) {x6 : Int32} (h_x6 : zs_in x6.toInt 1 1) {x7 : Int32} (h_x7 : zs_in x7.toInt 1 1) {x8 : Int32} (h_x8 : zs_in x8.toInt 0 0) {x9 : Int32} (h_x9 : zs_in x9.toInt 0 0) {t1 : Int32} (h_t1 : zs_in t1.toInt 0 0) {t2 : Int32} {t3 : Int32} (h_t3 : zs_in t3.toInt 0 0) {c : Int} (hc : x9.toInt = c + 0) : zs_ok (BX4_reckon_111 σ 1 27 x3 x4 x6 x7 x8 x9 t1 t2 t3) (fun r => zs_sum (fun v => ((zs_C σ0 v.1 ∧ zs_in (v.2).toInt 1 1)) ∧ v.2.toInt = c + 1) (fun v => False) r) := by
  unfold BX4_reckon_111
  obtain rfl : x3 = (0 : Int32) := zs_eqv h_x3 (by decide)
  obtain rfl : x6 = (1 : Int32) := zs_eqv h_x6 (by decide)
  obtain rfl : x7 = (1 : Int32) := zs_eqv h_x7 (by decide)
  obtain rfl : x8 = (0 : Int32) := zs_eqv h_x8 (by decide)
  obtain rfl : t1 = (0 : Int32) := zs_eqv h_t1 (by decide)
  obtain rfl : t3 = (0 : Int32) := zs_eqv h_t3 (by decide)
  refine zs_gd (zs_gin h_t1 (by decide)) ?_
  refine zs_lt (Q := fun z => zs_C σ0 z) (zs_wrt h_σ (fun _ => rfl) (fun _ => rfl)) (fun σ_2 hσ_2 => ?_)
  refine zs_lt (Q := fun z => zs_in z.toInt 1 1 ∧ z.toInt = c + 1) ⟨(zs_addI 1 1 h_x9 zlI_1 (by decide)), (zs_syI 1 hc h_x9 zlI_1 (by decide) (by decide))⟩ (fun y_4 hy_4 => ?_)
  exact zs_some (zs_inl ⟨⟨hσ_2, hy_4.1⟩, hy_4.2⟩)
-- BX4_reckon_111
theorem zc_706 {σ0 : sn_S} {σ : sn_S} (h_σ : zs_C σ0 σ) {x3 : Int32} (h_x3 : zs_in x3.toInt 0 0) {x4 : Int32} (h_x4 : zs_in x4.toInt 0 5) {x6 : Int32} (h_x6 : zs_in x6.toInt 1 1) {x7 : Int32} (h_x7 : zs_in x7.toInt 1 1) {x8 : Int32} (h_x8 : zs_in x8.toInt 0 0) {x9 : Int32} (h_x9 : zs_in x9.toInt 0 0) {t1 : Int32} (h_t1 : zs_in t1.toInt 0 0) {t2 : Int32} {t3 : Int32} (h_t3 : zs_in t3.toInt 3 3) {c : Int} (hc : x9.toInt = c + 0) : zs_ok (BX4_reckon_111 σ 1 27 x3 x4 x6 x7 x8 x9 t1 t2 t3) (fun r => zs_sum (fun v => ((zs_C σ0 v.1 ∧ zs_in (v.2).toInt 1 1)) ∧ v.2.toInt = c + 1) (fun v => False) r) := by
  unfold BX4_reckon_111
  obtain rfl : x3 = (0 : Int32) := zs_eqv h_x3 (by decide)
  obtain rfl : x6 = (1 : Int32) := zs_eqv h_x6 (by decide)
  obtain rfl : x7 = (1 : Int32) := zs_eqv h_x7 (by decide)
  obtain rfl : x8 = (0 : Int32) := zs_eqv h_x8 (by decide)
  obtain rfl : t1 = (0 : Int32) := zs_eqv h_t1 (by decide)
  obtain rfl : t3 = (3 : Int32) := zs_eqv h_t3 (by decide)
  refine zs_gd (zs_gin h_t1 (by decide)) ?_
  refine zs_lt (Q := fun z => zs_C σ0 z) (zs_wrt h_σ (fun _ => rfl) (fun _ => rfl)) (fun σ_2 hσ_2 => ?_)
  refine zs_lt (Q := fun z => zs_in z.toInt 1 1 ∧ z.toInt = c + 1) ⟨(zs_addI 1 1 h_x9 zlI_1 (by decide)), (zs_syI 1 hc h_x9 zlI_1 (by decide) (by decide))⟩ (fun y_4 hy_4 => ?_)
  exact zs_some (zs_inl ⟨⟨hσ_2, hy_4.1⟩, hy_4.2⟩)
-- BX4_reckon_68
theorem zc_707 {σ0 : sn_S} {σ : sn_S} (h_σ : zs_C σ0 σ) {x3 : Int32} (h_x3 : zs_in x3.toInt 0 0) {x4 : Int32} (h_x4 : zs_in x4.toInt 0 5) {x6 : Int32} (h_x6 : zs_in x6.toInt 1 1) {x7 : Int32} (h_x7 : zs_in x7.toInt 1 1) {x8 : Int32} (h_x8 : zs_in x8.toInt 0 0) {x9 : Int32} (h_x9 : zs_in x9.toInt 0 1) {c : Int} (hc : x9.toInt = c + 0) : zs_ok (BX4_reckon_68 σ 1 27 x3 x4 x6 x7 x8 x9) (fun r => zs_sum (fun v => ((zs_C σ0 v.1 ∧ zs_in (v.2).toInt 1 1)) ∧ v.2.toInt = c + 1) (fun v => zs_C σ0 v) r) := by
  unfold BX4_reckon_68
  obtain rfl : x3 = (0 : Int32) := zs_eqv h_x3 (by decide)
  obtain rfl : x6 = (1 : Int32) := zs_eqv h_x6 (by decide)
  obtain rfl : x7 = (1 : Int32) := zs_eqv h_x7 (by decide)
  obtain rfl : x8 = (0 : Int32) := zs_eqv h_x8 (by decide)
  refine zs_ite (fun c1 => ?_) (fun c1 => ?_)
  · skip
    have r2 := (zs_I_le c1)
    have g3 : zs_in (x9).toInt 1 1 := (zs_ler 1 1 r2 h_x6 h_x9 (by decide))
    exact zs_some (zs_inr (h_σ))
  · skip
    have r4 := (zs_I_len c1)
    have g5 : zs_in (x9).toInt 0 0 := (zs_ltl 0 0 r4 h_x9 h_x6 (by decide))
    refine zs_gd (zs_gin g5 (by decide)) ?_
    refine zs_bd_ (zc_704 h_x7 (zs_subI 0 0 (zs_subI 0 0 h_x6 zlI_1 (by decide)) g5 (by decide))) (fun t_3 pt_3 => ?_)
    refine zs_ite (fun c6 => ?_) (fun c6 => ?_)
    · skip
      have r7 := (zs_I_eq c6)
      have g8 : zs_in (t_3).toInt 0 0 := (zs_eql 0 0 r7 pt_3 zlI_0 (by decide))
      obtain ⟨ret, er, hr⟩ := zc_705 h_σ h_x3 h_x4 h_x6 h_x7 h_x8 g5 g5 zlI_0 hc
      refine ⟨ret, er, ?_⟩
      exact (zs_sumw hr (fun v w => ⟨w.1, w.2⟩) (fun v w => w.elim))
    · skip
      have r9 := (zs_I_eqn c6)
      have g10 : zs_in (t_3).toInt 1 1 := (zs_nel 1 1 r9 pt_3 zlI_0 (by decide))
      obtain ⟨ret, er, hr⟩ := zc_706 h_σ h_x3 h_x4 h_x6 h_x7 h_x8 g5 g5 zlI_3 hc
      refine ⟨ret, er, ?_⟩
      exact (zs_sumw hr (fun v w => ⟨w.1, w.2⟩) (fun v w => w.elim))
theorem zd_121 {σ0 : sn_S} {x3 : Int32} (h_x3 : zs_in x3.toInt 0 0) {x4 : Int32} (h_x4 : zs_in x4.toInt 0 5) {x6 : Int32} (h_x6 : zs_in x6.toInt 1 1) {x7 : Int32} (h_x7 : zs_in x7.toInt 1 1) {x8 : Int32} (h_x8 : zs_in x8.toInt 0 0) {s0 : (sn_S × Int32)} (h0 : (zs_C σ0 s0.1 ∧ zs_in (s0.2).toInt 0 1)) : zs_ok (sn_it (LX4_reckon_68 1 27 x3 x4 x6 x7 x8) 5000 s0) (fun t => zs_C σ0 t) := by
  refine zs_it (I := fun s => (zs_C σ0 s.1 ∧ zs_in (s.2).toInt 0 1)) (m := fun s => 1 - s.2.toInt) (fun s hs => ?_) (fun s hs => ?_) (by exact h0)
  · have h1 := hs.2; unfold zs_in at h1
    omega
  · obtain ⟨b, eb, hb⟩ := zc_707 hs.1 h_x3 h_x4 h_x6 h_x7 h_x8 hs.2 (c := s.2.toInt) (Int.add_zero _).symm
    exact ⟨b, eb, zs_sumw hb (fun v w => ⟨⟨w.1.1, (zs_w w.1.2 (by decide))⟩, by have := w.2; omega⟩) (fun v w => w)⟩
-- BX4_reckon_139
theorem zc_708 {σ0 : sn_S} {σ : sn_S} (h_σ : zs_C σ0 σ) {x3 : Int32} (h_x3 : zs_in x3.toInt 0 0) {x4 : Int32} (h_x4 : zs_in x4.toInt 0 5) {x6 : Int32} (h_x6 : zs_in x6.toInt 1 1) {x7 : Int32} (h_x7 : zs_in x7.toInt 1 1) {t1 : Int32} (h_t1 : zs_in t1.toInt 0 0) {t2 : Int32} (h_t2 : zs_in t2.toInt 1 1) {c : Int} (hc : x7.toInt = c + 0) : zs_ok (BX4_reckon_139 σ 1 27 x3 x4 x6 x7 t1 t2) (fun r => zs_sum (fun v => ((zs_C σ0 v.1 ∧ zs_in (v.2).toInt 2 2)) ∧ v.2.toInt = c + 1) (fun v => False) r) := by
  unfold BX4_reckon_139
  obtain rfl : x3 = (0 : Int32) := zs_eqv h_x3 (by decide)
  obtain rfl : x6 = (1 : Int32) := zs_eqv h_x6 (by decide)
  obtain rfl : t1 = (0 : Int32) := zs_eqv h_t1 (by decide)
  obtain rfl : t2 = (1 : Int32) := zs_eqv h_t2 (by decide)
  refine zs_bd_ (zc_699 h_σ h_t1 h_t2) (fun t_1 pt_1 => ?_)
  refine zs_bd_ (zo_bc 1 1 (by decide) h_x7) (fun t_3 pt_3 => ?_)
  refine zs_gd (zs_gin pt_3 (by decide)) ?_
  refine zs_bd_ (zc_700 pt_1 h_x3 h_x4 h_x6) (fun t_6 pt_6 => ?_)
  refine zs_lt (Q := fun z => zs_C σ0 z) (zs_wrL pt_6.2 rfl) (fun σ_8 hσ_8 => ?_)
  refine zs_lt (Q := fun z => zs_in z.toInt 2 2 ∧ z.toInt = c + 1) ⟨(zs_addI 2 2 h_x7 zlI_1 (by decide)), (zs_syI 1 hc h_x7 zlI_1 (by decide) (by decide))⟩ (fun y_10 hy_10 => ?_)
  exact zs_some (zs_inl ⟨⟨hσ_8, hy_10.1⟩, hy_10.2⟩)
-- BX4_reckon_119
theorem zc_709 {σ0 : sn_S} {σ : sn_S} (h_σ : zs_C σ0 σ) {x3 : Int32} (h_x3 : zs_in x3.toInt 0 0) {x4 : Int32} (h_x4 : zs_in x4.toInt 0 5) {x6 : Int32} (h_x6 : zs_in x6.toInt 1 1) {x7 : Int32} (h_x7 : zs_in x7.toInt 1 1) {x8 : Int32} (h_x8 : zs_in x8.toInt 0 0) {c : Int} (hc : x7.toInt = c + 0) : zs_ok (BX4_reckon_119 σ 1 27 x3 x4 x6 x7 x8) (fun r => zs_sum (fun v => ((zs_C σ0 v.1 ∧ zs_in (v.2).toInt 2 2)) ∧ v.2.toInt = c + 1) (fun v => False) r) := by
  unfold BX4_reckon_119
  obtain rfl : x3 = (0 : Int32) := zs_eqv h_x3 (by decide)
  obtain rfl : x6 = (1 : Int32) := zs_eqv h_x6 (by decide)
  obtain rfl : x8 = (0 : Int32) := zs_eqv h_x8 (by decide)
  refine zs_ite (fun c1 => ?_) (fun c1 => ?_)
  · skip
    have r2 := (zs_I_eq c1)
    exact (zs_botr r2 h_x3 zlI_2 (by decide)).elim
  · skip
    have r3 := (zs_I_eqn c1)
    obtain ⟨ret, er, hr⟩ := zc_708 h_σ h_x3 h_x4 h_x6 h_x7 h_x8 h_x6 hc
    refine ⟨ret, er, ?_⟩
    exact (zs_sumw hr (fun v w => ⟨w.1, w.2⟩) (fun v w => w.elim))
-- BX4_reckon_62
theorem zc_710 {σ0 : sn_S} {σ : sn_S} (h_σ : zs_C σ0 σ) {x3 : Int32} (h_x3 : zs_in x3.toInt 0 0) {x4 : Int32} (h_x4 : zs_in x4.toInt 0 5) {x6 : Int32} (h_x6 : zs_in x6.toInt 1 1) {x7 : Int32} (h_x7 : zs_in x7.toInt 1 1) {t0 : Int32} (h_t0 : zs_in t0.toInt 0 0) {c : Int} (hc : x7.toInt = c + 0) : zs_ok (BX4_reckon_62 σ 1 27 x3 x4 x6 x7 t0) (fun r => zs_sum (fun v => ((zs_C σ0 v.1 ∧ zs_in (v.2).toInt 2 2)) ∧ v.2.toInt = c + 1) (fun v => False) r) := by
  unfold BX4_reckon_62
  obtain rfl : x3 = (0 : Int32) := zs_eqv h_x3 (by decide)
  obtain rfl : x6 = (1 : Int32) := zs_eqv h_x6 (by decide)
  obtain rfl : t0 = (0 : Int32) := zs_eqv h_t0 (by decide)
  refine zs_bd_ (zd_121 h_x3 h_x4 h_x6 h_x7 h_t0 (s0 := (σ, (0 : Int32))) ⟨h_σ, (zs_w h_t0 (by decide))⟩) (fun t_1 pt_1 => ?_)
  obtain ⟨ret, er, hr⟩ := zc_709 pt_1 h_x3 h_x4 h_x6 h_x7 h_t0 hc
  refine ⟨ret, er, ?_⟩
  exact (zs_sumw hr (fun v w => ⟨w.1, w.2⟩) (fun v w => w.elim))
-- BX4_reckon_34
theorem zc_711 {σ0 : sn_S} {σ : sn_S} (h_σ : zs_C σ0 σ) {x3 : Int32} (h_x3 : zs_in x3.toInt 0 0) {x4 : Int32} (h_x4 : zs_in x4.toInt 0 5) {x6 : Int32} (h_x6 : zs_in x6.toInt 1 1) {x7 : Int32} (h_x7 : zs_in x7.toInt 0 2) {c : Int} (hc : x7.toInt = c + 0) : zs_ok (BX4_reckon_34 σ 1 27 x3 x4 x6 x7) (fun r => zs_sum (fun v => ((zs_C σ0 v.1 ∧ zs_in (v.2).toInt 1 2)) ∧ v.2.toInt = c + 1) (fun v => zs_C σ0 v) r) := by
  unfold BX4_reckon_34
  obtain rfl : x3 = (0 : Int32) := zs_eqv h_x3 (by decide)
  obtain rfl : x6 = (1 : Int32) := zs_eqv h_x6 (by decide)
  refine zs_ite (fun c1 => ?_) (fun c1 => ?_)
  · skip
    have r2 := (zs_I_le c1)
    have g3 : zs_in (x7).toInt 2 2 := (zs_ler 2 2 r2 (zs_cases h_x6 (fun z => zs_in ((1 : Int32) <<< (z &&& 31)).toInt 2 2) (by decide +kernel)) h_x7 (by decide))
    exact zs_some (zs_inr (h_σ))
  · skip
    have r4 := (zs_I_len c1)
    have g5 : zs_in (x7).toInt 0 1 := (zs_ltl 0 1 r4 h_x7 (zs_cases h_x6 (fun z => zs_in ((1 : Int32) <<< (z &&& 31)).toInt 2 2) (by decide +kernel)) (by decide))
    refine zs_ite (fun c6 => ?_) (fun c6 => ?_)
    · skip
      have r7 := (zs_I_eq c6)
      have g8 : zs_in (x7).toInt 0 0 := (zs_eql 0 0 r7 g5 zlI_0 (by decide))
      obtain ⟨ret, er, hr⟩ := zc_703 h_σ h_x3 h_x4 h_x6 g8 zlI_0 hc
      refine ⟨ret, er, ?_⟩
      exact (zs_sumw hr (fun v w => ⟨⟨w.1.1, (zs_w w.1.2 (by decide))⟩, w.2⟩) (fun v w => w.elim))
    · skip
      have r9 := (zs_I_eqn c6)
      have g10 : zs_in (x7).toInt 1 1 := (zs_nel 1 1 r9 g5 zlI_0 (by decide))
      refine zs_bd_ (zo_low1 1 0 (by decide) g10) (fun t_3 pt_3 => ?_)
      obtain ⟨ret, er, hr⟩ := zc_710 h_σ h_x3 h_x4 h_x6 g10 (zs_subI 0 0 (zs_subI 0 0 h_x6 zlI_1 (by decide)) pt_3 (by decide)) hc
      refine ⟨ret, er, ?_⟩
      exact (zs_sumw hr (fun v w => ⟨⟨w.1.1, (zs_w w.1.2 (by decide))⟩, w.2⟩) (fun v w => w.elim))
theorem zd_122 {σ0 : sn_S} {x3 : Int32} (h_x3 : zs_in x3.toInt 0 0) {x4 : Int32} (h_x4 : zs_in x4.toInt 0 5) {x6 : Int32} (h_x6 : zs_in x6.toInt 1 1) {s0 : (sn_S × Int32)} (h0 : (zs_C σ0 s0.1 ∧ zs_in (s0.2).toInt 0 2)) : zs_ok (sn_it (LX4_reckon_34 1 27 x3 x4 x6) 5000 s0) (fun t => zs_C σ0 t) := by
  refine zs_it (I := fun s => (zs_C σ0 s.1 ∧ zs_in (s.2).toInt 0 2)) (m := fun s => 2 - s.2.toInt) (fun s hs => ?_) (fun s hs => ?_) (by exact h0)
  · have h1 := hs.2; unfold zs_in at h1
    omega
  · obtain ⟨b, eb, hb⟩ := zc_711 hs.1 h_x3 h_x4 h_x6 hs.2 (c := s.2.toInt) (Int.add_zero _).symm
    exact ⟨b, eb, zs_sumw hb (fun v w => ⟨⟨w.1.1, (zs_w w.1.2 (by decide))⟩, by have := w.2; omega⟩) (fun v w => w)⟩
-- BX4_reckon_186
theorem zc_712 {σ0 : sn_S} {σ : sn_S} (h_σ : zs_C σ0 σ) {x6 : Int32} (h_x6 : zs_in x6.toInt 1 1) {x7 : Int32} (h_x7 : zs_in x7.toInt 0 1) {c : Int} (hc : x7.toInt = c + 0) : zs_ok (BX4_reckon_186 σ 1 27 x6 x7) (fun r => zs_sum (fun v => ((zs_C σ0 v.1 ∧ zs_in (v.2).toInt 1 1)) ∧ v.2.toInt = c + 1) (fun v => zs_C σ0 v) r) := by
  unfold BX4_reckon_186
  obtain rfl : x6 = (1 : Int32) := zs_eqv h_x6 (by decide)
  refine zs_ite (fun c1 => ?_) (fun c1 => ?_)
  · skip
    have r2 := (zs_I_le c1)
    have g3 : zs_in (x7).toInt 1 1 := (zs_ler 1 1 r2 h_x6 h_x7 (by decide))
    exact zs_some (zs_inr (h_σ))
  · skip
    have r4 := (zs_I_len c1)
    have g5 : zs_in (x7).toInt 0 0 := (zs_ltl 0 0 r4 h_x7 h_x6 (by decide))
    refine zs_lt (Q := fun z => zs_C σ0 z) (zs_wrL h_σ rfl) (fun σ_2 hσ_2 => ?_)
    refine zs_lt (Q := fun z => zs_in z.toInt 1 1 ∧ z.toInt = c + 1) ⟨(zs_addI 1 1 g5 zlI_1 (by decide)), (zs_syI 1 hc g5 zlI_1 (by decide) (by decide))⟩ (fun y_4 hy_4 => ?_)
    exact zs_some (zs_inl ⟨⟨hσ_2, hy_4.1⟩, hy_4.2⟩)
theorem zd_123 {σ0 : sn_S} {x6 : Int32} (h_x6 : zs_in x6.toInt 1 1) {s0 : (sn_S × Int32)} (h0 : (zs_C σ0 s0.1 ∧ zs_in (s0.2).toInt 0 1)) : zs_ok (sn_it (LX4_reckon_186 1 27 x6) 5000 s0) (fun t => zs_C σ0 t) := by
  refine zs_it (I := fun s => (zs_C σ0 s.1 ∧ zs_in (s.2).toInt 0 1)) (m := fun s => 1 - s.2.toInt) (fun s hs => ?_) (fun s hs => ?_) (by exact h0)
  · have h1 := hs.2; unfold zs_in at h1
    omega
  · obtain ⟨b, eb, hb⟩ := zc_712 hs.1 h_x6 hs.2 (c := s.2.toInt) (Int.add_zero _).symm
    exact ⟨b, eb, zs_sumw hb (fun v w => ⟨⟨w.1.1, (zs_w w.1.2 (by decide))⟩, by have := w.2; omega⟩) (fun v w => w)⟩
-- BX4_lower_13
theorem zc_713 {σ0 : sn_S} {σ : sn_S} (h_σ : zs_C σ0 σ) {x1 : Int64} {x3 : Int64} {x5 : Int32} (h_x5 : zs_in x5.toInt 0 100) {c : Int} (hc : x5.toInt = c + 0) : zs_ok (BX4_lower_13 σ x1 x3 x5) (fun r => zs_sum (fun v => ((True ∧ (True ∧ zs_in (v.2.2).toInt 1 100))) ∧ v.2.2.toInt = c + 1) (fun v => True) r) := by
  unfold BX4_lower_13
  refine zs_ite (fun c1 => ?_) (fun c1 => ?_)
  · skip
    have r2 := (zs_I_le c1)
    have g3 : zs_in (x5).toInt 100 100 := (zs_ler 100 100 r2 zlI_100 h_x5 (by decide))
    exact zs_some (zs_inr (trivial))
  · skip
    have r4 := (zs_I_len c1)
    have g5 : zs_in (x5).toInt 0 99 := (zs_ltl 0 99 r4 h_x5 zlI_100 (by decide))
    refine zs_ite (fun c6 => ?_) (fun c6 => ?_)
    · skip
      have r7 := (zs_lg_eq c6)
      have g8 : zs_in (x1).toInt 0 0 := (zs_eql 0 0 r7 (zs_topL _) zlL_0 (by decide))
      exact zs_some (zs_inr (trivial))
    · skip
      have r9 := (zs_lg_eqn c6)
      refine zs_gd (zs_nzqL r9) ?_
      refine zs_lt (Q := fun z => True) trivial (fun y_4 hy_4 => ?_)
      refine zs_lt (Q := fun z => zs_in z.toInt 1 100 ∧ z.toInt = c + 1) ⟨(zs_addI 1 100 g5 zlI_1 (by decide)), (zs_syI 1 hc g5 zlI_1 (by decide) (by decide))⟩ (fun y_6 hy_6 => ?_)
      exact zs_some (zs_inl ⟨⟨trivial, ⟨trivial, hy_6.1⟩⟩, hy_6.2⟩)
theorem zd_124 {σ0 : sn_S} {σ : sn_S} (h_σ : zs_C σ0 σ) {s0 : (Int64 × (Int64 × Int32))} (h0 : (True ∧ (True ∧ zs_in (s0.2.2).toInt 0 100))) : zs_ok (sn_it (LX4_lower_13 σ) 5000 s0) (fun t => True) := by
  refine zs_it (I := fun s => (True ∧ (True ∧ zs_in (s.2.2).toInt 0 100))) (m := fun s => 100 - s.2.2.toInt) (fun s hs => ?_) (fun s hs => ?_) (by exact h0)
  · have h1 := hs.2.2; unfold zs_in at h1
    omega
  · obtain ⟨b, eb, hb⟩ := zc_713 h_σ hs.2.2 (c := s.2.2.toInt) (Int.add_zero _).symm
    exact ⟨b, eb, zs_sumw hb (fun v w => ⟨⟨w.1.1, ⟨w.1.2.1, (zs_w w.1.2.2 (by decide))⟩⟩, by have := w.2; omega⟩) (fun v w => w)⟩
-- BX4_lower_42
theorem zc_714 {σ0 : sn_S} {σ : sn_S} (h_σ : zs_C σ0 σ) {x3 : Int64} : zs_ok (BX4_lower_42 σ x3) (fun r => zs_C σ0 r) := by
  unfold BX4_lower_42
  refine zs_ite (fun c1 => ?_) (fun c1 => ?_)
  · skip
    have r2 := (zs_lg_le c1)
    have g3 : zs_in (x3).toInt (-9223372036854775808) 1 := (zs_lel (-9223372036854775808) 1 r2 (zs_topL _) zlL_1 (by decide))
    exact zs_some h_σ
  · skip
    have r4 := (zs_lg_len c1)
    have g5 : zs_in (x3).toInt 2 9223372036854775807 := (zs_ltr 2 9223372036854775807 r4 zlL_1 (zs_topL _) (by decide))
    refine zs_gd (zs_nzL g5 (by decide)) ?_
    refine zs_lt (Q := fun z => zs_C σ0 z) (zs_wrL h_σ rfl) (fun σ_3 hσ_3 => ?_)
    refine zs_gd (zs_nzL g5 (by decide)) ?_
    refine zs_lt (Q := fun z => zs_C σ0 z) (zs_wrL hσ_3 rfl) (fun σ_6 hσ_6 => ?_)
    exact zs_some hσ_6
-- fX4_lower
theorem zc_715 {σ0 : sn_S} {σ : sn_S} (h_σ : zs_C σ0 σ) : zs_ok (fX4_lower σ) (fun r => zs_C σ0 r) := by
  unfold fX4_lower
  refine zs_lt (Q := fun z => True) trivial (fun y_1 hy_1 => ?_)
  refine zs_lt (Q := fun z => True) trivial (fun y_3 hy_3 => ?_)
  refine zs_bd_ (zd_124 h_σ (s0 := (y_1, (y_3, (0 : Int32)))) ⟨trivial, ⟨trivial, (zs_w zlI_0 (by decide))⟩⟩) (fun t_5 pt_5 => ?_)
  obtain ⟨ret, er, hr⟩ := zc_714 h_σ
  refine ⟨ret, er, ?_⟩
  exact hr
-- BX4_reckon_211
theorem zc_716 {σ0 : sn_S} {σ : sn_S} (h_σ : zs_C σ0 σ) : zs_ok (BX4_reckon_211 σ 1 27) (fun r => zs_C σ0 r) := by
  unfold BX4_reckon_211
  refine zs_bd_ (zc_715 h_σ) (fun t_1 pt_1 => ?_)
  exact zs_some pt_1
-- BX4_reckon_178
theorem zc_717 {σ0 : sn_S} {σ : sn_S} (h_σ : zs_C σ0 σ) {x6 : Int32} (h_x6 : zs_in x6.toInt 1 1) : zs_ok (BX4_reckon_178 σ 1 27 x6) (fun r => zs_C σ0 r) := by
  unfold BX4_reckon_178
  obtain rfl : x6 = (1 : Int32) := zs_eqv h_x6 (by decide)
  refine zs_lt (Q := fun z => zs_C σ0 z) (zs_wrL h_σ rfl) (fun σ_1 hσ_1 => ?_)
  refine zs_bd_ (zd_123 h_x6 (s0 := (σ_1, (0 : Int32))) ⟨hσ_1, (zs_w zlI_0 (by decide))⟩) (fun t_3 pt_3 => ?_)
  obtain ⟨ret, er, hr⟩ := zc_716 pt_3
  refine ⟨ret, er, ?_⟩
  exact hr
-- fX4_reckon
theorem zc_718 {σ0 : sn_S} {σ : sn_S} (h_σ : zs_C σ0 σ) {x3 : Int32} (h_x3 : zs_in x3.toInt 0 0) {x4 : Int32} (h_x4 : zs_in x4.toInt 0 5) {x5 : Int32} (h_x5 : zs_in x5.toInt 0 0) : zs_ok (fX4_reckon σ 1 27 x3 x4 x5) (fun r => zs_C σ0 r) := by
  unfold fX4_reckon
  obtain rfl : x3 = (0 : Int32) := zs_eqv h_x3 (by decide)
  obtain rfl : x5 = (0 : Int32) := zs_eqv h_x5 (by decide)
  refine zs_lt (Q := fun z => zs_in z.toInt 1 1) (zs_addI 1 1 h_x5 zlI_1 (by decide)) (fun y_1 hy_1 => ?_)
  refine zs_gd (zs_gin zlI_4 (by decide)) ?_
  refine zs_bd_ (zc_675 h_σ hy_1 (zs_rdk (q := 2) (k := (4 : Int32).toNatClampNeg) (z := (0, 10)) h_σ.1 rfl)) (fun t_4 pt_4 => ?_)
  refine zs_bd_ (zo_dcopy pt_4) (fun t_6 pt_6 => ?_)
  refine zs_lt (Q := fun z => zs_C σ0 z) (zs_wrL pt_6 rfl) (fun σ_8 hσ_8 => ?_)
  refine zs_bd_ (zd_122 h_x3 h_x4 hy_1 (s0 := (σ_8, (0 : Int32))) ⟨hσ_8, (zs_w zlI_0 (by decide))⟩) (fun t_10 pt_10 => ?_)
  obtain ⟨ret, er, hr⟩ := zc_717 pt_10 hy_1
  refine ⟨ret, er, ?_⟩
  exact hr
-- BX4_weigh_46
theorem zc_719 {σ0 : sn_S} {σ : sn_S} (h_σ : zs_C σ0 σ) {x1 : Int32} (h_x1 : zs_in x1.toInt 2 2) {x2 : Int32} (h_x2 : zs_in x2.toInt 0 10) {x3 : Int32} (h_x3 : zs_in x3.toInt 0 1) {x4 : Int64} {x6 : Int32} (h_x6 : zs_in x6.toInt 0 1) {t0 : Int64} {t1 : Int64} (h_t1 : zs_in t1.toInt 0 10) {c : Int} (hc : x6.toInt = c + 0) : zs_ok (BX4_weigh_46 σ x1 x2 x3 x4 x6 t0 t1) (fun r => zs_sum (fun v => ((True ∧ zs_in (v.2).toInt 1 2)) ∧ v.2.toInt = c + 1) (fun v => False) r) := by
  unfold BX4_weigh_46
  obtain rfl : x1 = (2 : Int32) := zs_eqv h_x1 (by decide)
  refine zs_lt (Q := fun z => True) trivial (fun y_1 hy_1 => ?_)
  refine zs_lt (Q := fun z => zs_in z.toInt 1 2 ∧ z.toInt = c + 1) ⟨(zs_addI 1 2 h_x6 zlI_1 (by decide)), (zs_syI 1 hc h_x6 zlI_1 (by decide) (by decide))⟩ (fun y_3 hy_3 => ?_)
  exact zs_some (zs_inl ⟨⟨trivial, hy_3.1⟩, hy_3.2⟩)
-- BX4_weigh_46
theorem zc_720 {σ0 : sn_S} {σ : sn_S} (h_σ : zs_C σ0 σ) {x1 : Int32} (h_x1 : zs_in x1.toInt 2 2) {x2 : Int32} (h_x2 : zs_in x2.toInt 0 10) {x3 : Int32} (h_x3 : zs_in x3.toInt 1 2) {x4 : Int64} {x6 : Int32} (h_x6 : zs_in x6.toInt 0 1) {t0 : Int64} {t1 : Int64} (h_t1 : zs_in t1.toInt 0 10) {c : Int} (hc : x6.toInt = c + 0) : zs_ok (BX4_weigh_46 σ x1 x2 x3 x4 x6 t0 t1) (fun r => zs_sum (fun v => ((True ∧ zs_in (v.2).toInt 1 2)) ∧ v.2.toInt = c + 1) (fun v => False) r) := by
  unfold BX4_weigh_46
  obtain rfl : x1 = (2 : Int32) := zs_eqv h_x1 (by decide)
  refine zs_lt (Q := fun z => True) trivial (fun y_1 hy_1 => ?_)
  refine zs_lt (Q := fun z => zs_in z.toInt 1 2 ∧ z.toInt = c + 1) ⟨(zs_addI 1 2 h_x6 zlI_1 (by decide)), (zs_syI 1 hc h_x6 zlI_1 (by decide) (by decide))⟩ (fun y_3 hy_3 => ?_)
  exact zs_some (zs_inl ⟨⟨trivial, hy_3.1⟩, hy_3.2⟩)
-- BX4_weigh_22
theorem zc_721 {σ0 : sn_S} {σ : sn_S} (h_σ : zs_C σ0 σ) {x1 : Int32} (h_x1 : zs_in x1.toInt 2 2) {x2 : Int32} (h_x2 : zs_in x2.toInt 0 10) {x3 : Int32} (h_x3 : zs_in x3.toInt 0 2) {x4 : Int64} {x6 : Int32} (h_x6 : zs_in x6.toInt 0 2) {c : Int} (hc : x6.toInt = c + 0) : zs_ok (BX4_weigh_22 σ x1 x2 x3 x4 x6) (fun r => zs_sum (fun v => ((True ∧ zs_in (v.2).toInt 1 2)) ∧ v.2.toInt = c + 1) (fun v => True) r) := by
  unfold BX4_weigh_22
  obtain rfl : x1 = (2 : Int32) := zs_eqv h_x1 (by decide)
  refine zs_ite (fun c1 => ?_) (fun c1 => ?_)
  · skip
    have r2 := (zs_I_le c1)
    have g3 : zs_in (x6).toInt 2 2 := (zs_ler 2 2 r2 h_x1 h_x6 (by decide))
    exact zs_some (zs_inr (trivial))
  · skip
    have r4 := (zs_I_len c1)
    have g5 : zs_in (x6).toInt 0 1 := (zs_ltl 0 1 r4 h_x6 h_x1 (by decide))
    refine zs_ite (fun c6 => ?_) (fun c6 => ?_)
    · skip
      have r7 := (zs_I_le c6)
      have g8 : zs_in (x3).toInt 0 1 := (zs_lel 0 1 r7 h_x3 g5 (by decide))
      obtain ⟨ret, er, hr⟩ := zc_719 h_σ h_x1 h_x2 g8 g5 (zs_64 (zs_subI 0 10 zlI_10 h_x2 (by decide))) hc
      refine ⟨ret, er, ?_⟩
      exact (zs_sumw hr (fun v w => ⟨w.1, w.2⟩) (fun v w => w.elim))
    · skip
      have r9 := (zs_I_len c6)
      have g10 : zs_in (x3).toInt 1 2 := (zs_ltr 1 2 r9 g5 h_x3 (by decide))
      obtain ⟨ret, er, hr⟩ := zc_720 h_σ h_x1 h_x2 g10 g5 (zs_64 h_x2) hc
      refine ⟨ret, er, ?_⟩
      exact (zs_sumw hr (fun v w => ⟨w.1, w.2⟩) (fun v w => w.elim))
theorem zd_125 {σ0 : sn_S} {σ : sn_S} (h_σ : zs_C σ0 σ) {x1 : Int32} (h_x1 : zs_in x1.toInt 2 2) {x2 : Int32} (h_x2 : zs_in x2.toInt 0 10) {x3 : Int32} (h_x3 : zs_in x3.toInt 0 2) {s0 : (Int64 × Int32)} (h0 : (True ∧ zs_in (s0.2).toInt 0 2)) : zs_ok (sn_it (LX4_weigh_22 σ x1 x2 x3) 5000 s0) (fun t => True) := by
  refine zs_it (I := fun s => (True ∧ zs_in (s.2).toInt 0 2)) (m := fun s => 2 - s.2.toInt) (fun s hs => ?_) (fun s hs => ?_) (by exact h0)
  · have h1 := hs.2; unfold zs_in at h1
    omega
  · obtain ⟨b, eb, hb⟩ := zc_721 h_σ h_x1 h_x2 h_x3 hs.2 (c := s.2.toInt) (Int.add_zero _).symm
    exact ⟨b, eb, zs_sumw hb (fun v w => ⟨⟨w.1.1, (zs_w w.1.2 (by decide))⟩, by have := w.2; omega⟩) (fun v w => w)⟩
-- BX4_weigh_55
theorem zc_722 {σ0 : sn_S} {σ : sn_S} (h_σ : zs_C σ0 σ) {x1 : Int32} (h_x1 : zs_in x1.toInt 2 2) {x2 : Int32} (h_x2 : zs_in x2.toInt 0 10) {x3 : Int32} (h_x3 : zs_in x3.toInt 0 2) {x4 : Int64} {c : Int} (hc : x3.toInt = c + 0) : zs_ok (BX4_weigh_55 σ x1 x2 x3 x4) (fun r => zs_sum (fun v => ((zs_C σ0 v.1 ∧ zs_in (v.2).toInt 1 3)) ∧ v.2.toInt = c + 1) (fun v => False) r) := by
  unfold BX4_weigh_55
  obtain rfl : x1 = (2 : Int32) := zs_eqv h_x1 (by decide)
  refine zs_gd (zs_gin h_x3 (by decide)) ?_
  refine zs_lt (Q := fun z => zs_C σ0 z) (zs_wrL h_σ rfl) (fun σ_2 hσ_2 => ?_)
  refine zs_lt (Q := fun z => zs_in z.toInt 1 3 ∧ z.toInt = c + 1) ⟨(zs_addI 1 3 h_x3 zlI_1 (by decide)), (zs_syI 1 hc h_x3 zlI_1 (by decide) (by decide))⟩ (fun y_4 hy_4 => ?_)
  exact zs_some (zs_inl ⟨⟨hσ_2, hy_4.1⟩, hy_4.2⟩)
-- BX4_weigh_2
theorem zc_723 {σ0 : sn_S} {σ : sn_S} (h_σ : zs_C σ0 σ) {x1 : Int32} (h_x1 : zs_in x1.toInt 2 2) {x2 : Int32} (h_x2 : zs_in x2.toInt 0 10) {x3 : Int32} (h_x3 : zs_in x3.toInt 0 3) {c : Int} (hc : x3.toInt = c + 0) : zs_ok (BX4_weigh_2 σ x1 x2 x3) (fun r => zs_sum (fun v => ((zs_C σ0 v.1 ∧ zs_in (v.2).toInt 1 3)) ∧ v.2.toInt = c + 1) (fun v => zs_C σ0 v) r) := by
  unfold BX4_weigh_2
  obtain rfl : x1 = (2 : Int32) := zs_eqv h_x1 (by decide)
  refine zs_ite (fun c1 => ?_) (fun c1 => ?_)
  · skip
    have r2 := (zs_I_lt c1)
    have g3 : zs_in (x3).toInt 3 3 := (zs_ltr 3 3 r2 h_x1 h_x3 (by decide))
    exact zs_some (zs_inr (h_σ))
  · skip
    have r4 := (zs_I_ltn c1)
    have g5 : zs_in (x3).toInt 0 2 := (zs_lel 0 2 r4 h_x3 h_x1 (by decide))
    refine zs_ite (fun c6 => ?_) (fun c6 => ?_)
    · skip
      have r7 := (zs_I_le c6)
      exact (zs_botle r7 zlI_9 g5 (by decide)).elim
    · skip
      have r8 := (zs_I_len c6)
      refine zs_bd_ (zd_125 h_σ h_x1 h_x2 g5 (s0 := ((1 : Int64), (0 : Int32))) ⟨trivial, (zs_w zlI_0 (by decide))⟩) (fun t_3 pt_3 => ?_)
      obtain ⟨ret, er, hr⟩ := zc_722 h_σ h_x1 h_x2 g5 hc
      refine ⟨ret, er, ?_⟩
      exact (zs_sumw hr (fun v w => ⟨w.1, w.2⟩) (fun v w => w.elim))
theorem zd_126 {σ0 : sn_S} {x1 : Int32} (h_x1 : zs_in x1.toInt 2 2) {x2 : Int32} (h_x2 : zs_in x2.toInt 0 10) {s0 : (sn_S × Int32)} (h0 : (zs_C σ0 s0.1 ∧ zs_in (s0.2).toInt 0 3)) : zs_ok (sn_it (LX4_weigh_2 x1 x2) 5000 s0) (fun t => zs_C σ0 t) := by
  refine zs_it (I := fun s => (zs_C σ0 s.1 ∧ zs_in (s.2).toInt 0 3)) (m := fun s => 3 - s.2.toInt) (fun s hs => ?_) (fun s hs => ?_) (by exact h0)
  · have h1 := hs.2; unfold zs_in at h1
    omega
  · obtain ⟨b, eb, hb⟩ := zc_723 hs.1 h_x1 h_x2 hs.2 (c := s.2.toInt) (Int.add_zero _).symm
    exact ⟨b, eb, zs_sumw hb (fun v w => ⟨⟨w.1.1, (zs_w w.1.2 (by decide))⟩, by have := w.2; omega⟩) (fun v w => w)⟩
-- fX4_weigh
theorem zc_724 {σ0 : sn_S} {σ : sn_S} (h_σ : zs_C σ0 σ) {x1 : Int32} (h_x1 : zs_in x1.toInt 2 2) {x2 : Int32} (h_x2 : zs_in x2.toInt 0 10) : zs_ok (fX4_weigh σ x1 x2) (fun r => zs_C σ0 r) := by
  unfold fX4_weigh
  obtain rfl : x1 = (2 : Int32) := zs_eqv h_x1 (by decide)
  refine zs_bd_ (zd_126 h_x1 h_x2 (s0 := (σ, (0 : Int32))) ⟨h_σ, (zs_w zlI_0 (by decide))⟩) (fun t_1 pt_1 => ?_)
  obtain ⟨ret, er, hr⟩ := zc_674 pt_1
  refine ⟨ret, er, ?_⟩
  exact hr
-- fX8_hasBit
theorem zc_725 {x0 : Int32} (h_x0 : zs_in x0.toInt 0 0) {x1 : Int32} (h_x1 : zs_in x1.toInt 0 1) : zs_ok (fX8_hasBit x0 x1) (fun r => zs_in (r).toInt 0 1) := by
  unfold fX8_hasBit
  obtain rfl : x0 = (0 : Int32) := zs_eqv h_x0 (by decide)
  refine zs_ite (fun c1 => ?_) (fun c1 => ?_)
  · skip
    have r2 := (zs_I_eq c1)
    have g3 : zs_in ((((0 : Int32) >>> (x1 &&& 31)) &&& (1 : Int32))).toInt 1 1 := (zs_eql 1 1 r2 (zs_and zlI_1 (by decide)) zlI_1 (by decide))
    refine zs_gd (zs_b01 zlI_1 (by decide)) ?_
    exact zs_some (zs_w zlI_1 (by decide))
  · skip
    have r4 := (zs_I_eqn c1)
    have g5 : zs_in ((((0 : Int32) >>> (x1 &&& 31)) &&& (1 : Int32))).toInt 0 0 := (zs_neh 0 0 r4 (zs_and zlI_1 (by decide)) zlI_1 (by decide))
    refine zs_gd (zs_b01 zlI_0 (by decide)) ?_
    exact zs_some (zs_w zlI_0 (by decide))
-- BX4_reckon_111
theorem zc_726 {σ0 : sn_S} {σ : sn_S} (h_σ : zs_C σ0 σ) {x3 : Int32} (h_x3 : zs_in x3.toInt 0 0) {x4 : Int32} (h_x4 : zs_in x4.toInt 0 5) {x6 : Int32} (h_x6 : zs_in x6.toInt 2 2) {x7 : Int32} (h_x7 : zs_in x7.toInt 0 0) {x8 : Int32} (h_x8 : zs_in x8.toInt 0 0) {x9 : Int32} (h_x9 : zs_in x9.toInt 0 1) {t1 : Int32} (h_t1 : zs_in t1.toInt 0 1) {t2 : Int32} {t3 : Int32} (h_t3 : zs_in t3.toInt 0 0) {c : Int} (hc : x9.toInt = c + 0) : zs_ok (BX4_reckon_111 σ 1 27 x3 x4 x6 x7 x8 x9 t1 t2 t3) (fun r => zs_sum (fun v => ((zs_C σ0 v.1 ∧ zs_in (v.2).toInt 1 2)) ∧ v.2.toInt = c + 1) (fun v => False) r) := by
  unfold BX4_reckon_111
  obtain rfl : x3 = (0 : Int32) := zs_eqv h_x3 (by decide)
  obtain rfl : x6 = (2 : Int32) := zs_eqv h_x6 (by decide)
  obtain rfl : x7 = (0 : Int32) := zs_eqv h_x7 (by decide)
  obtain rfl : x8 = (0 : Int32) := zs_eqv h_x8 (by decide)
  obtain rfl : t3 = (0 : Int32) := zs_eqv h_t3 (by decide)
  refine zs_gd (zs_gin h_t1 (by decide)) ?_
  refine zs_lt (Q := fun z => zs_C σ0 z) (zs_wrt h_σ (fun _ => rfl) (fun _ => rfl)) (fun σ_2 hσ_2 => ?_)
  refine zs_lt (Q := fun z => zs_in z.toInt 1 2 ∧ z.toInt = c + 1) ⟨(zs_addI 1 2 h_x9 zlI_1 (by decide)), (zs_syI 1 hc h_x9 zlI_1 (by decide) (by decide))⟩ (fun y_4 hy_4 => ?_)
  exact zs_some (zs_inl ⟨⟨hσ_2, hy_4.1⟩, hy_4.2⟩)
-- BX4_reckon_111
theorem zc_727 {σ0 : sn_S} {σ : sn_S} (h_σ : zs_C σ0 σ) {x3 : Int32} (h_x3 : zs_in x3.toInt 0 0) {x4 : Int32} (h_x4 : zs_in x4.toInt 0 5) {x6 : Int32} (h_x6 : zs_in x6.toInt 2 2) {x7 : Int32} (h_x7 : zs_in x7.toInt 0 0) {x8 : Int32} (h_x8 : zs_in x8.toInt 0 0) {x9 : Int32} (h_x9 : zs_in x9.toInt 0 1) {t1 : Int32} (h_t1 : zs_in t1.toInt 0 1) {t2 : Int32} {t3 : Int32} (h_t3 : zs_in t3.toInt 3 3) {c : Int} (hc : x9.toInt = c + 0) : zs_ok (BX4_reckon_111 σ 1 27 x3 x4 x6 x7 x8 x9 t1 t2 t3) (fun r => zs_sum (fun v => ((zs_C σ0 v.1 ∧ zs_in (v.2).toInt 1 2)) ∧ v.2.toInt = c + 1) (fun v => False) r) := by
  unfold BX4_reckon_111
  obtain rfl : x3 = (0 : Int32) := zs_eqv h_x3 (by decide)
  obtain rfl : x6 = (2 : Int32) := zs_eqv h_x6 (by decide)
  obtain rfl : x7 = (0 : Int32) := zs_eqv h_x7 (by decide)
  obtain rfl : x8 = (0 : Int32) := zs_eqv h_x8 (by decide)
  obtain rfl : t3 = (3 : Int32) := zs_eqv h_t3 (by decide)
  refine zs_gd (zs_gin h_t1 (by decide)) ?_
  refine zs_lt (Q := fun z => zs_C σ0 z) (zs_wrt h_σ (fun _ => rfl) (fun _ => rfl)) (fun σ_2 hσ_2 => ?_)
  refine zs_lt (Q := fun z => zs_in z.toInt 1 2 ∧ z.toInt = c + 1) ⟨(zs_addI 1 2 h_x9 zlI_1 (by decide)), (zs_syI 1 hc h_x9 zlI_1 (by decide) (by decide))⟩ (fun y_4 hy_4 => ?_)
  exact zs_some (zs_inl ⟨⟨hσ_2, hy_4.1⟩, hy_4.2⟩)
-- BX4_reckon_68
theorem zc_728 {σ0 : sn_S} {σ : sn_S} (h_σ : zs_C σ0 σ) {x3 : Int32} (h_x3 : zs_in x3.toInt 0 0) {x4 : Int32} (h_x4 : zs_in x4.toInt 0 5) {x6 : Int32} (h_x6 : zs_in x6.toInt 2 2) {x7 : Int32} (h_x7 : zs_in x7.toInt 0 0) {x8 : Int32} (h_x8 : zs_in x8.toInt 0 0) {x9 : Int32} (h_x9 : zs_in x9.toInt 0 2) {c : Int} (hc : x9.toInt = c + 0) : zs_ok (BX4_reckon_68 σ 1 27 x3 x4 x6 x7 x8 x9) (fun r => zs_sum (fun v => ((zs_C σ0 v.1 ∧ zs_in (v.2).toInt 1 2)) ∧ v.2.toInt = c + 1) (fun v => zs_C σ0 v) r) := by
  unfold BX4_reckon_68
  obtain rfl : x3 = (0 : Int32) := zs_eqv h_x3 (by decide)
  obtain rfl : x6 = (2 : Int32) := zs_eqv h_x6 (by decide)
  obtain rfl : x7 = (0 : Int32) := zs_eqv h_x7 (by decide)
  obtain rfl : x8 = (0 : Int32) := zs_eqv h_x8 (by decide)
  refine zs_ite (fun c1 => ?_) (fun c1 => ?_)
  · skip
    have r2 := (zs_I_le c1)
    have g3 : zs_in (x9).toInt 2 2 := (zs_ler 2 2 r2 h_x6 h_x9 (by decide))
    exact zs_some (zs_inr (h_σ))
  · skip
    have r4 := (zs_I_len c1)
    have g5 : zs_in (x9).toInt 0 1 := (zs_ltl 0 1 r4 h_x9 h_x6 (by decide))
    refine zs_gd (zs_gin g5 (by decide)) ?_
    refine zs_bd_ (zc_725 h_x7 (zs_subI 0 1 (zs_subI 1 1 h_x6 zlI_1 (by decide)) g5 (by decide))) (fun t_3 pt_3 => ?_)
    refine zs_ite (fun c6 => ?_) (fun c6 => ?_)
    · skip
      have r7 := (zs_I_eq c6)
      have g8 : zs_in (t_3).toInt 0 0 := (zs_eql 0 0 r7 pt_3 zlI_0 (by decide))
      obtain ⟨ret, er, hr⟩ := zc_726 h_σ h_x3 h_x4 h_x6 h_x7 h_x8 g5 g5 zlI_0 hc
      refine ⟨ret, er, ?_⟩
      exact (zs_sumw hr (fun v w => ⟨w.1, w.2⟩) (fun v w => w.elim))
    · skip
      have r9 := (zs_I_eqn c6)
      have g10 : zs_in (t_3).toInt 1 1 := (zs_nel 1 1 r9 pt_3 zlI_0 (by decide))
      obtain ⟨ret, er, hr⟩ := zc_727 h_σ h_x3 h_x4 h_x6 h_x7 h_x8 g5 g5 zlI_3 hc
      refine ⟨ret, er, ?_⟩
      exact (zs_sumw hr (fun v w => ⟨w.1, w.2⟩) (fun v w => w.elim))
theorem zd_127 {σ0 : sn_S} {x3 : Int32} (h_x3 : zs_in x3.toInt 0 0) {x4 : Int32} (h_x4 : zs_in x4.toInt 0 5) {x6 : Int32} (h_x6 : zs_in x6.toInt 2 2) {x7 : Int32} (h_x7 : zs_in x7.toInt 0 0) {x8 : Int32} (h_x8 : zs_in x8.toInt 0 0) {s0 : (sn_S × Int32)} (h0 : (zs_C σ0 s0.1 ∧ zs_in (s0.2).toInt 0 2)) : zs_ok (sn_it (LX4_reckon_68 1 27 x3 x4 x6 x7 x8) 5000 s0) (fun t => zs_C σ0 t) := by
  refine zs_it (I := fun s => (zs_C σ0 s.1 ∧ zs_in (s.2).toInt 0 2)) (m := fun s => 2 - s.2.toInt) (fun s hs => ?_) (fun s hs => ?_) (by exact h0)
  · have h1 := hs.2; unfold zs_in at h1
    omega
  · obtain ⟨b, eb, hb⟩ := zc_728 hs.1 h_x3 h_x4 h_x6 h_x7 h_x8 hs.2 (c := s.2.toInt) (Int.add_zero _).symm
    exact ⟨b, eb, zs_sumw hb (fun v w => ⟨⟨w.1.1, (zs_w w.1.2 (by decide))⟩, by have := w.2; omega⟩) (fun v w => w)⟩
-- BX0_live_2
theorem zc_729 {σ0 : sn_S} {σ : sn_S} (h_σ : zs_C σ0 σ) {x1 : Int32} (h_x1 : zs_in x1.toInt 0 0) {x2 : Int32} (h_x2 : zs_in x2.toInt 2 2) {x3 : Int32} (h_x3 : zs_in x3.toInt 0 6) {c : Int} (hc : x3.toInt = c + 0) : zs_ok (BX0_live_2 σ 59 x1 x2 x3) (fun r => zs_sum (fun v => ((zs_C σ0 v.1 ∧ zs_in (v.2).toInt 1 6)) ∧ v.2.toInt = c + 1) (fun v => zs_C σ0 v) r) := by
  unfold BX0_live_2
  obtain rfl : x1 = (0 : Int32) := zs_eqv h_x1 (by decide)
  obtain rfl : x2 = (2 : Int32) := zs_eqv h_x2 (by decide)
  refine zs_ite (fun c1 => ?_) (fun c1 => ?_)
  · skip
    have r2 := (zs_I_le c1)
    exact zs_some (zs_inr (h_σ))
  · skip
    have r3 := (zs_I_len c1)
    have g4 : zs_in (x3).toInt 0 5 := (zs_ltl 0 5 r3 h_x3 (zs_rdk (q := 59) (k := 1) (z := (0, 6)) h_σ.1 rfl) (by decide))
    have g5 : zs_in ((sn_I σ 59 1)).toInt 1 6 := (zs_ltr 1 6 r3 h_x3 (zs_rdk (q := 59) (k := 1) (z := (0, 6)) h_σ.1 rfl) (by decide))
    refine zs_gd (zs_gin g4 (by decide)) ?_
    refine zs_bd_ (zc_314 h_x1) (fun t_3 pt_3 => ?_)
    refine zs_gd (zs_gin g4 (by decide)) ?_
    refine zs_lt (Q := fun z => zs_C σ0 z) (zs_wru (z := (0, 1073741823)) h_σ (fun _ => rfl) (zs_and pt_3 (by decide)) (by decide) (fun _ => rfl)) (fun σ_6 hσ_6 => ?_)
    refine zs_lt (Q := fun z => zs_in z.toInt 1 6 ∧ z.toInt = c + 1) ⟨(zs_addI 1 6 g4 zlI_1 (by decide)), (zs_syI 1 hc g4 zlI_1 (by decide) (by decide))⟩ (fun y_8 hy_8 => ?_)
    exact zs_some (zs_inl ⟨⟨hσ_6, hy_8.1⟩, hy_8.2⟩)
