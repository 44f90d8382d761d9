theorem zd_278 {σ0 : sn_S} {x3 : Int32} (h_x3 : zs_in x3.toInt 2 2) {x4 : Int32} (h_x4 : zs_in x4.toInt (-1) (-1)) {x6 : Int32} (h_x6 : zs_in x6.toInt 7 7) {s0 : (sn_S × Int32)} (h0 : (zs_C σ0 s0.1 ∧ zs_in (s0.2).toInt 0 128)) : zs_ok (sn_it (LX4_reckon_34 1 27 x3 x4 x6) 5000 s0) (fun t => zs_C σ0 t) := by
  refine zs_it (I := fun s => (zs_C σ0 s.1 ∧ zs_in (s.2).toInt 0 128)) (m := fun s => 128 - s.2.toInt) (fun s hs => ?_) (fun s hs => ?_) (by exact h0)
  · have h1 := hs.2; unfold zs_in at h1
    omega
  · obtain ⟨b, eb, hb⟩ := zc_1419 hs.1 h_x3 h_x4 h_x6 hs.2 (c := s.2.toInt) (Int.add_zero _).symm
    exact ⟨b, eb, zs_sumw hb (fun v w => ⟨⟨w.1.1, (zs_w w.1.2 (by decide))⟩, by have := w.2; omega⟩) (fun v w => w)⟩
-- fX4_reckon
theorem zc_1420 {σ0 : sn_S} {σ : sn_S} (h_σ : zs_C σ0 σ) {x3 : Int32} (h_x3 : zs_in x3.toInt 2 2) {x4 : Int32} (h_x4 : zs_in x4.toInt (-1) (-1)) {x5 : Int32} (h_x5 : zs_in x5.toInt 6 6) : zs_ok (fX4_reckon σ 1 27 x3 x4 x5) (fun r => zs_C σ0 r) := by
  unfold fX4_reckon
  obtain rfl : x3 = (2 : Int32) := zs_eqv h_x3 (by decide)
  obtain rfl : x4 = (-1 : Int32) := zs_eqv h_x4 (by decide)
  obtain rfl : x5 = (6 : Int32) := zs_eqv h_x5 (by decide)
  refine zs_lt (Q := fun z => zs_in z.toInt 7 7) (zs_addI 7 7 h_x5 zlI_1 (by decide)) (fun y_1 hy_1 => ?_)
  refine zs_gd (zs_gin zlI_4 (by decide)) ?_
  refine zs_bd_ (zc_1004 h_σ hy_1 (zs_rdk (q := 2) (k := (4 : Int32).toNatClampNeg) (z := (0, 10)) h_σ.1 rfl)) (fun t_4 pt_4 => ?_)
  refine zs_bd_ (zo_dcopy pt_4) (fun t_6 pt_6 => ?_)
  refine zs_lt (Q := fun z => zs_C σ0 z) (zs_wrL pt_6 rfl) (fun σ_8 hσ_8 => ?_)
  refine zs_bd_ (zd_278 h_x3 h_x4 hy_1 (s0 := (σ_8, (0 : Int32))) ⟨hσ_8, (zs_w zlI_0 (by decide))⟩) (fun t_10 pt_10 => ?_)
  obtain ⟨ret, er, hr⟩ := zc_1053 pt_10 hy_1
  refine ⟨ret, er, ?_⟩
  exact hr
-- BX4_reckon_111
theorem zc_1421 {σ0 : sn_S} {σ : sn_S} (h_σ : zs_C σ0 σ) {x3 : Int32} (h_x3 : zs_in x3.toInt 2 2) {x4 : Int32} (h_x4 : zs_in x4.toInt (-1) (-1)) {x6 : Int32} (h_x6 : zs_in x6.toInt 8 8) {x7 : Int32} (h_x7 : zs_in x7.toInt 0 0) {x8 : Int32} (h_x8 : zs_in x8.toInt 0 0) {x9 : Int32} (h_x9 : zs_in x9.toInt 0 7) {t1 : Int32} (h_t1 : zs_in t1.toInt 0 7) {t2 : Int32} {t3 : Int32} (h_t3 : zs_in t3.toInt 0 0) {c : Int} (hc : x9.toInt = c + 0) : zs_ok (BX4_reckon_111 σ 1 27 x3 x4 x6 x7 x8 x9 t1 t2 t3) (fun r => zs_sum (fun v => ((zs_C σ0 v.1 ∧ zs_in (v.2).toInt 1 8)) ∧ v.2.toInt = c + 1) (fun v => False) r) := by
  unfold BX4_reckon_111
  obtain rfl : x3 = (2 : Int32) := zs_eqv h_x3 (by decide)
  obtain rfl : x4 = (-1 : Int32) := zs_eqv h_x4 (by decide)
  obtain rfl : x6 = (8 : Int32) := zs_eqv h_x6 (by decide)
  obtain rfl : x7 = (0 : Int32) := zs_eqv h_x7 (by decide)
  obtain rfl : x8 = (0 : Int32) := zs_eqv h_x8 (by decide)
  obtain rfl : t3 = (0 : Int32) := zs_eqv h_t3 (by decide)
  refine zs_gd (zs_gin h_t1 (by decide)) ?_
  refine zs_lt (Q := fun z => zs_C σ0 z) (zs_wrt h_σ (fun _ => rfl) (fun _ => rfl)) (fun σ_2 hσ_2 => ?_)
  refine zs_lt (Q := fun z => zs_in z.toInt 1 8 ∧ z.toInt = c + 1) ⟨(zs_addI 1 8 h_x9 zlI_1 (by decide)), (zs_syI 1 hc h_x9 zlI_1 (by decide) (by decide))⟩ (fun y_4 hy_4 => ?_)
  exact zs_some (zs_inl ⟨⟨hσ_2, hy_4.1⟩, hy_4.2⟩)
-- BX4_reckon_111
theorem zc_1422 {σ0 : sn_S} {σ : sn_S} (h_σ : zs_C σ0 σ) {x3 : Int32} (h_x3 : zs_in x3.toInt 2 2) {x4 : Int32} (h_x4 : zs_in x4.toInt (-1) (-1)) {x6 : Int32} (h_x6 : zs_in x6.toInt 8 8) {x7 : Int32} (h_x7 : zs_in x7.toInt 0 0) {x8 : Int32} (h_x8 : zs_in x8.toInt 0 0) {x9 : Int32} (h_x9 : zs_in x9.toInt 0 7) {t1 : Int32} (h_t1 : zs_in t1.toInt 0 7) {t2 : Int32} {t3 : Int32} (h_t3 : zs_in t3.toInt 3 3) {c : Int} (hc : x9.toInt = c + 0) : zs_ok (BX4_reckon_111 σ 1 27 x3 x4 x6 x7 x8 x9 t1 t2 t3) (fun r => zs_sum (fun v => ((zs_C σ0 v.1 ∧ zs_in (v.2).toInt 1 8)) ∧ v.2.toInt = c + 1) (fun v => False) r) := by
  unfold BX4_reckon_111
  obtain rfl : x3 = (2 : Int32) := zs_eqv h_x3 (by decide)
  obtain rfl : x4 = (-1 : Int32) := zs_eqv h_x4 (by decide)
  obtain rfl : x6 = (8 : Int32) := zs_eqv h_x6 (by decide)
  obtain rfl : x7 = (0 : Int32) := zs_eqv h_x7 (by decide)
  obtain rfl : x8 = (0 : Int32) := zs_eqv h_x8 (by decide)
  obtain rfl : t3 = (3 : Int32) := zs_eqv h_t3 (by decide)
  refine zs_gd (zs_gin h_t1 (by decide)) ?_
  refine zs_lt (Q := fun z => zs_C σ0 z) (zs_wrt h_σ (fun _ => rfl) (fun _ => rfl)) (fun σ_2 hσ_2 => ?_)
  refine zs_lt (Q := fun z => zs_in z.toInt 1 8 ∧ z.toInt = c + 1) ⟨(zs_addI 1 8 h_x9 zlI_1 (by decide)), (zs_syI 1 hc h_x9 zlI_1 (by decide) (by decide))⟩ (fun y_4 hy_4 => ?_)
  exact zs_some (zs_inl ⟨⟨hσ_2, hy_4.1⟩, hy_4.2⟩)
-- BX4_reckon_68
theorem zc_1423 {σ0 : sn_S} {σ : sn_S} (h_σ : zs_C σ0 σ) {x3 : Int32} (h_x3 : zs_in x3.toInt 2 2) {x4 : Int32} (h_x4 : zs_in x4.toInt (-1) (-1)) {x6 : Int32} (h_x6 : zs_in x6.toInt 8 8) {x7 : Int32} (h_x7 : zs_in x7.toInt 0 0) {x8 : Int32} (h_x8 : zs_in x8.toInt 0 0) {x9 : Int32} (h_x9 : zs_in x9.toInt 0 8) {c : Int} (hc : x9.toInt = c + 0) : zs_ok (BX4_reckon_68 σ 1 27 x3 x4 x6 x7 x8 x9) (fun r => zs_sum (fun v => ((zs_C σ0 v.1 ∧ zs_in (v.2).toInt 1 8)) ∧ v.2.toInt = c + 1) (fun v => zs_C σ0 v) r) := by
  unfold BX4_reckon_68
  obtain rfl : x3 = (2 : Int32) := zs_eqv h_x3 (by decide)
  obtain rfl : x4 = (-1 : Int32) := zs_eqv h_x4 (by decide)
  obtain rfl : x6 = (8 : Int32) := zs_eqv h_x6 (by decide)
  obtain rfl : x7 = (0 : Int32) := zs_eqv h_x7 (by decide)
  obtain rfl : x8 = (0 : Int32) := zs_eqv h_x8 (by decide)
  refine zs_ite (fun c1 => ?_) (fun c1 => ?_)
  · skip
    have r2 := (zs_I_le c1)
    have g3 : zs_in (x9).toInt 8 8 := (zs_ler 8 8 r2 h_x6 h_x9 (by decide))
    exact zs_some (zs_inr (h_σ))
  · skip
    have r4 := (zs_I_len c1)
    have g5 : zs_in (x9).toInt 0 7 := (zs_ltl 0 7 r4 h_x9 h_x6 (by decide))
    refine zs_gd (zs_gin g5 (by decide)) ?_
    refine zs_bd_ (zc_1061 h_x7 (zs_subI 0 7 (zs_subI 7 7 h_x6 zlI_1 (by decide)) g5 (by decide))) (fun t_3 pt_3 => ?_)
    refine zs_ite (fun c6 => ?_) (fun c6 => ?_)
    · skip
      have r7 := (zs_I_eq c6)
      have g8 : zs_in (t_3).toInt 0 0 := (zs_eql 0 0 r7 pt_3 zlI_0 (by decide))
      obtain ⟨ret, er, hr⟩ := zc_1421 h_σ h_x3 h_x4 h_x6 h_x7 h_x8 g5 g5 zlI_0 hc
      refine ⟨ret, er, ?_⟩
      exact (zs_sumw hr (fun v w => ⟨w.1, w.2⟩) (fun v w => w.elim))
    · skip
      have r9 := (zs_I_eqn c6)
      have g10 : zs_in (t_3).toInt 1 1 := (zs_nel 1 1 r9 pt_3 zlI_0 (by decide))
      obtain ⟨ret, er, hr⟩ := zc_1422 h_σ h_x3 h_x4 h_x6 h_x7 h_x8 g5 g5 zlI_3 hc
      refine ⟨ret, er, ?_⟩
      exact (zs_sumw hr (fun v w => ⟨w.1, w.2⟩) (fun v w => w.elim))
theorem zd_279 {σ0 : sn_S} {x3 : Int32} (h_x3 : zs_in x3.toInt 2 2) {x4 : Int32} (h_x4 : zs_in x4.toInt (-1) (-1)) {x6 : Int32} (h_x6 : zs_in x6.toInt 8 8) {x7 : Int32} (h_x7 : zs_in x7.toInt 0 0) {x8 : Int32} (h_x8 : zs_in x8.toInt 0 0) {s0 : (sn_S × Int32)} (h0 : (zs_C σ0 s0.1 ∧ zs_in (s0.2).toInt 0 8)) : zs_ok (sn_it (LX4_reckon_68 1 27 x3 x4 x6 x7 x8) 5000 s0) (fun t => zs_C σ0 t) := by
  refine zs_it (I := fun s => (zs_C σ0 s.1 ∧ zs_in (s.2).toInt 0 8)) (m := fun s => 8 - s.2.toInt) (fun s hs => ?_) (fun s hs => ?_) (by exact h0)
  · have h1 := hs.2; unfold zs_in at h1
    omega
  · obtain ⟨b, eb, hb⟩ := zc_1423 hs.1 h_x3 h_x4 h_x6 h_x7 h_x8 hs.2 (c := s.2.toInt) (Int.add_zero _).symm
    exact ⟨b, eb, zs_sumw hb (fun v w => ⟨⟨w.1.1, (zs_w w.1.2 (by decide))⟩, by have := w.2; omega⟩) (fun v w => w)⟩
-- BX3_moneyAt_44
theorem zc_1424 {σ0 : sn_S} {σ : sn_S} (h_σ : zs_C σ0 σ) {x1 : Int32} (h_x1 : zs_in x1.toInt 0 7) {x2 : Int32} {x3 : Int32} (h_x3 : zs_in x3.toInt 0 5) {c : Int} (hc : x3.toInt = c + 0) : zs_ok (BX3_moneyAt_44 σ 70 x1 x2 x3) (fun r => zs_sum (fun v => ((True ∧ zs_in (v.2).toInt 1 6)) ∧ v.2.toInt = c + 1) (fun v => False) r) := by
  unfold BX3_moneyAt_44
  refine zs_lt (Q := fun z => zs_in z.toInt 1 6 ∧ z.toInt = c + 1) ⟨(zs_addI 1 6 h_x3 zlI_1 (by decide)), (zs_syI 1 hc h_x3 zlI_1 (by decide) (by decide))⟩ (fun y_1 hy_1 => ?_)
  exact zs_some (zs_inl ⟨⟨trivial, hy_1.1⟩, hy_1.2⟩)
-- BX3_moneyAt_7
theorem zc_1425 {σ0 : sn_S} {σ : sn_S} (h_σ : zs_C σ0 σ) {x1 : Int32} (h_x1 : zs_in x1.toInt 0 7) {x2 : Int32} {x3 : Int32} (h_x3 : zs_in x3.toInt 0 6) {c : Int} (hc : x3.toInt = c + 0) : zs_ok (BX3_moneyAt_7 σ 70 x1 x2 x3) (fun r => zs_sum (fun v => ((True ∧ zs_in (v.2).toInt 1 6)) ∧ v.2.toInt = c + 1) (fun v => True) r) := by
  unfold BX3_moneyAt_7
  refine zs_ite (fun c1 => ?_) (fun c1 => ?_)
  · skip
    have r2 := (zs_I_le c1)
    exact zs_some (zs_inr (trivial))
  · skip
    have r3 := (zs_I_len c1)
    have g4 : zs_in (x3).toInt 0 5 := (zs_ltl 0 5 r3 h_x3 (zs_rdk (q := 70) (k := 2) (z := (0, 6)) h_σ.1 rfl) (by decide))
    have g5 : zs_in ((sn_I σ 70 2)).toInt 1 6 := (zs_ltr 1 6 r3 h_x3 (zs_rdk (q := 70) (k := 2) (z := (0, 6)) h_σ.1 rfl) (by decide))
    refine zs_gd (zs_gin g4 (by decide)) ?_
    refine zs_ite (fun c6 => ?_) (fun c6 => ?_)
    · skip
      have r7 := (zs_I_eq c6)
      have g8 : zs_in ((sn_I σ (70 + 2) x3.toNatClampNeg)).toInt (-1) (-1) := (zs_eql (-1) (-1) r7 (zs_rdu (q := 72) (z := ((-1), 63)) h_σ.1 (fun _ => rfl)) zlI_m1 (by decide))
      obtain ⟨ret, er, hr⟩ := zc_1424 h_σ h_x1 g4 hc
      refine ⟨ret, er, ?_⟩
      exact (zs_sumw hr (fun v w => ⟨w.1, w.2⟩) (fun v w => w.elim))
    · skip
      have r9 := (zs_I_eqn c6)
      have g10 : zs_in ((sn_I σ (70 + 2) x3.toNatClampNeg)).toInt 0 63 := (zs_nel 0 63 r9 (zs_rdu (q := 72) (z := ((-1), 63)) h_σ.1 (fun _ => rfl)) zlI_m1 (by decide))
      refine zs_gd (zs_gin g4 (by decide)) ?_
      refine zs_ite (fun c11 => ?_) (fun c11 => ?_)
      · skip
        have r12 := (zs_I_lt c11)
        have g13 : zs_in ((sn_I σ (70 + 2) x3.toNatClampNeg)).toInt 1 63 := (zs_ltr 1 63 r12 h_x1 g10 (by decide))
        obtain ⟨ret, er, hr⟩ := zc_1424 h_σ h_x1 g4 hc
        refine ⟨ret, er, ?_⟩
        exact (zs_sumw hr (fun v w => ⟨w.1, w.2⟩) (fun v w => w.elim))
      · skip
        have r14 := (zs_I_ltn c11)
        have g15 : zs_in ((sn_I σ (70 + 2) x3.toNatClampNeg)).toInt 0 7 := (zs_lel 0 7 r14 g10 h_x1 (by decide))
        refine zs_gd (zs_gin g4 (by decide)) ?_
        refine zs_lt (Q := fun z => True) trivial (fun y_7 hy_7 => ?_)
        obtain ⟨ret, er, hr⟩ := zc_1424 h_σ h_x1 g4 hc
        refine ⟨ret, er, ?_⟩
        exact (zs_sumw hr (fun v w => ⟨w.1, w.2⟩) (fun v w => w.elim))
theorem zd_280 {σ0 : sn_S} {σ : sn_S} (h_σ : zs_C σ0 σ) {x1 : Int32} (h_x1 : zs_in x1.toInt 0 7) {s0 : (Int32 × Int32)} (h0 : (True ∧ zs_in (s0.2).toInt 0 6)) : zs_ok (sn_it (LX3_moneyAt_7 σ 70 x1) 5000 s0) (fun t => True) := by
  refine zs_it (I := fun s => (True ∧ zs_in (s.2).toInt 0 6)) (m := fun s => 6 - s.2.toInt) (fun s hs => ?_) (fun s hs => ?_) (by exact h0)
  · have h1 := hs.2; unfold zs_in at h1
    omega
  · obtain ⟨b, eb, hb⟩ := zc_1425 h_σ h_x1 hs.2 (c := s.2.toInt) (Int.add_zero _).symm
    exact ⟨b, eb, zs_sumw hb (fun v w => ⟨⟨w.1.1, (zs_w w.1.2 (by decide))⟩, by have := w.2; omega⟩) (fun v w => w)⟩
-- fX3_moneyAt
theorem zc_1426 {σ0 : sn_S} {σ : sn_S} (h_σ : zs_C σ0 σ) {x1 : Int32} (h_x1 : zs_in x1.toInt 0 7) : zs_ok (fX3_moneyAt σ 70 x1) (fun r => True) := by
  unfold fX3_moneyAt
  refine zs_lt (Q := fun z => True) trivial (fun y_1 hy_1 => ?_)
  refine zs_bd_ (zd_280 h_σ h_x1 (s0 := (y_1, (0 : Int32))) ⟨trivial, (zs_w zlI_0 (by decide))⟩) (fun t_3 pt_3 => ?_)
  obtain ⟨ret, er, hr⟩ := zc_1266 h_σ
  refine ⟨ret, er, ?_⟩
  exact hr
-- BX3_firstBelow_2
theorem zc_1427 {σ0 : sn_S} {σ : sn_S} (h_σ : zs_C σ0 σ) {x1 : Int32} (h_x1 : zs_in x1.toInt 8 8) {x2 : Int32} (h_x2 : zs_in x2.toInt 0 8) {c : Int} (hc : x2.toInt = c + 0) : zs_ok (BX3_firstBelow_2 σ 70 x1 x2) (fun r => zs_sum (fun v => (zs_in (v).toInt 1 8) ∧ v.toInt = c + 1) (fun v => zs_sum (fun v => True) (fun v => zs_in (v).toInt 0 7) v) r) := by
  unfold BX3_firstBelow_2
  obtain rfl : x1 = (8 : Int32) := zs_eqv h_x1 (by decide)
  refine zs_ite (fun c1 => ?_) (fun c1 => ?_)
  · skip
    have r2 := (zs_I_le c1)
    have g3 : zs_in (x2).toInt 8 8 := (zs_ler 8 8 r2 h_x1 h_x2 (by decide))
    exact zs_some (zs_inr ((zs_inl (trivial))))
  · skip
    have r4 := (zs_I_len c1)
    have g5 : zs_in (x2).toInt 0 7 := (zs_ltl 0 7 r4 h_x2 h_x1 (by decide))
    refine zs_bd_ (zc_1426 h_σ g5) (fun t_2 pt_2 => ?_)
    refine zs_ite (fun c6 => ?_) (fun c6 => ?_)
    · skip
      have r7 := (zs_I_le c6)
      have g8 : zs_in (t_2).toInt 0 2147483647 := (zs_ler 0 2147483647 r7 zlI_0 (zs_topI _) (by decide))
      refine zs_lt (Q := fun z => zs_in z.toInt 1 8 ∧ z.toInt = c + 1) ⟨(zs_addI 1 8 g5 zlI_1 (by decide)), (zs_syI 1 hc g5 zlI_1 (by decide) (by decide))⟩ (fun y_5 hy_5 => ?_)
      exact zs_some (zs_inl ⟨hy_5.1, hy_5.2⟩)
    · skip
      have r9 := (zs_I_len c6)
      have g10 : zs_in (t_2).toInt (-2147483648) (-1) := (zs_ltl (-2147483648) (-1) r9 (zs_topI _) zlI_0 (by decide))
      exact zs_some (zs_inr ((zs_inr (g5))))
theorem zd_281 {σ0 : sn_S} {σ : sn_S} (h_σ : zs_C σ0 σ) {x1 : Int32} (h_x1 : zs_in x1.toInt 8 8) {s0 : Int32} (h0 : zs_in (s0).toInt 0 8) : zs_ok (sn_it (LX3_firstBelow_2 σ 70 x1) 5000 s0) (fun t => zs_sum (fun v => True) (fun v => zs_in (v).toInt 0 7) t) := by
  refine zs_it (I := fun s => zs_in (s).toInt 0 8) (m := fun s => 8 - s.toInt) (fun s hs => ?_) (fun s hs => ?_) (by exact h0)
  · have h1 := hs; unfold zs_in at h1
    omega
  · obtain ⟨b, eb, hb⟩ := zc_1427 h_σ h_x1 hs (c := s.toInt) (Int.add_zero _).symm
    exact ⟨b, eb, zs_sumw hb (fun v w => ⟨(zs_w w.1 (by decide)), by have := w.2; omega⟩) (fun v w => w)⟩
-- fX3_firstBelow
theorem zc_1428 {σ0 : sn_S} {σ : sn_S} (h_σ : zs_C σ0 σ) {x1 : Int32} (h_x1 : zs_in x1.toInt 8 8) : zs_ok (fX3_firstBelow σ 70 x1) (fun r => zs_in (r).toInt (-1) 7) := by
  unfold fX3_firstBelow
  obtain rfl : x1 = (8 : Int32) := zs_eqv h_x1 (by decide)
  refine zs_bd_ (zd_281 h_σ h_x1 (s0 := (0 : Int32)) (zs_w zlI_0 (by decide))) (fun t_1 pt_1 => ?_)
  refine zs_elim pt_1 (fun v_3 pv_3 => ?_) (fun r_4 pr_4 => ?_)
  · skip
    obtain ⟨ret, er, hr⟩ := zc_1269 h_σ
    refine ⟨ret, er, ?_⟩
    exact (zs_w hr (by decide))
  · skip
    exact zs_some (zs_w pr_4 (by decide))
-- fX4_worth
theorem zc_1429 {σ0 : sn_S} {σ : sn_S} (h_σ : zs_C σ0 σ) {x2 : Int32} (h_x2 : zs_in x2.toInt 2 2) {x3 : Int32} (h_x3 : zs_in x3.toInt (-1) (-1)) {x4 : Int32} (h_x4 : zs_in x4.toInt 8 8) : zs_ok (fX4_worth σ 1 x2 x3 x4) (fun r => (zs_in (r.1).toInt 0 1 ∧ zs_C σ0 r.2)) := by
  unfold fX4_worth
  obtain rfl : x2 = (2 : Int32) := zs_eqv h_x2 (by decide)
  obtain rfl : x3 = (-1 : Int32) := zs_eqv h_x3 (by decide)
  obtain rfl : x4 = (8 : Int32) := zs_eqv h_x4 (by decide)
  refine zs_ite (fun c1 => ?_) (fun c1 => ?_)
  · skip
    have r2 := (zs_I_eq c1)
    exact (zs_botr r2 h_x2 zlI_0 (by decide)).elim
  · skip
    have r3 := (zs_I_eqn c1)
    refine zs_gd (zs_gin zlI_2 (by decide)) ?_
    refine zs_bd_ (zo_reckon_70_59_0_3 h_σ (zs_rdk (q := 2) (k := (2 : Int32).toNatClampNeg) (z := (0, 3)) h_σ.1 rfl)) (fun t_3 pt_3 => ?_)
    refine zs_ite (fun c4 => ?_) (fun c4 => ?_)
    · skip
      have r5 := (zs_I_eq c4)
      exact (zs_botr r5 h_x2 zlI_1 (by decide)).elim
    · skip
      have r6 := (zs_I_eqn c4)
      refine zs_bd_ (zc_1428 pt_3 h_x4) (fun t_6 pt_6 => ?_)
      refine zs_ite (fun c7 => ?_) (fun c7 => ?_)
      · skip
        have r8 := (zs_I_eq c7)
        have g9 : zs_in (t_6).toInt (-1) (-1) := (zs_eql (-1) (-1) r8 pt_6 zlI_m1 (by decide))
        exact zs_some ⟨(zs_w zlL_0 (by decide)), pt_3⟩
      · skip
        have r10 := (zs_I_eqn c7)
        have g11 : zs_in (t_6).toInt 0 7 := (zs_nel 0 7 r10 pt_6 zlI_m1 (by decide))
        exact zs_some ⟨(zs_w zlL_1 (by decide)), pt_3⟩
-- BX4_reckon_139
theorem zc_1430 {σ0 : sn_S} {σ : sn_S} (h_σ : zs_C σ0 σ) {x3 : Int32} (h_x3 : zs_in x3.toInt 2 2) {x4 : Int32} (h_x4 : zs_in x4.toInt (-1) (-1)) {x6 : Int32} (h_x6 : zs_in x6.toInt 8 8) {x7 : Int32} (h_x7 : zs_in x7.toInt 0 0) {t1 : Int32} (h_t1 : zs_in t1.toInt 0 0) {t2 : Int32} (h_t2 : zs_in t2.toInt 0 30) {c : Int} (hc : x7.toInt = c + 0) : zs_ok (BX4_reckon_139 σ 1 27 x3 x4 x6 x7 t1 t2) (fun r => zs_sum (fun v => ((zs_C σ0 v.1 ∧ zs_in (v.2).toInt 1 1)) ∧ v.2.toInt = c + 1) (fun v => False) r) := by
  unfold BX4_reckon_139
  obtain rfl : x3 = (2 : Int32) := zs_eqv h_x3 (by decide)
  obtain rfl : x4 = (-1 : Int32) := zs_eqv h_x4 (by decide)
  obtain rfl : x6 = (8 : Int32) := zs_eqv h_x6 (by decide)
  obtain rfl : t1 = (0 : Int32) := zs_eqv h_t1 (by decide)
  refine zs_bd_ (zc_1263 h_σ h_t1 h_t2) (fun t_1 pt_1 => ?_)
  refine zs_bd_ (zo_bc 0 0 (by decide) h_x7) (fun t_3 pt_3 => ?_)
  refine zs_gd (zs_gin pt_3 (by decide)) ?_
  refine zs_bd_ (zc_1429 pt_1 h_x3 h_x4 h_x6) (fun t_6 pt_6 => ?_)
  refine zs_lt (Q := fun z => zs_C σ0 z) (zs_wrL pt_6.2 rfl) (fun σ_8 hσ_8 => ?_)
  refine zs_lt (Q := fun z => zs_in z.toInt 1 1 ∧ z.toInt = c + 1) ⟨(zs_addI 1 1 h_x7 zlI_1 (by decide)), (zs_syI 1 hc h_x7 zlI_1 (by decide) (by decide))⟩ (fun y_10 hy_10 => ?_)
  exact zs_some (zs_inl ⟨⟨hσ_8, hy_10.1⟩, hy_10.2⟩)
-- BX4_reckon_119
theorem zc_1431 {σ0 : sn_S} {σ : sn_S} (h_σ : zs_C σ0 σ) {x3 : Int32} (h_x3 : zs_in x3.toInt 2 2) {x4 : Int32} (h_x4 : zs_in x4.toInt (-1) (-1)) {x6 : Int32} (h_x6 : zs_in x6.toInt 8 8) {x7 : Int32} (h_x7 : zs_in x7.toInt 0 0) {x8 : Int32} (h_x8 : zs_in x8.toInt 0 0) {c : Int} (hc : x7.toInt = c + 0) : zs_ok (BX4_reckon_119 σ 1 27 x3 x4 x6 x7 x8) (fun r => zs_sum (fun v => ((zs_C σ0 v.1 ∧ zs_in (v.2).toInt 1 1)) ∧ v.2.toInt = c + 1) (fun v => False) r) := by
  unfold BX4_reckon_119
  obtain rfl : x3 = (2 : Int32) := zs_eqv h_x3 (by decide)
  obtain rfl : x4 = (-1 : Int32) := zs_eqv h_x4 (by decide)
  obtain rfl : x6 = (8 : Int32) := zs_eqv h_x6 (by decide)
  obtain rfl : x8 = (0 : Int32) := zs_eqv h_x8 (by decide)
  refine zs_ite (fun c1 => ?_) (fun c1 => ?_)
  · skip
    have r2 := (zs_I_eq c1)
    obtain ⟨ret, er, hr⟩ := zc_1430 h_σ h_x3 h_x4 h_x6 h_x7 h_x8 (zs_rdk (q := 27) (k := 0) (z := (0, 30)) h_σ.1 rfl) hc
    refine ⟨ret, er, ?_⟩
    exact (zs_sumw hr (fun v w => ⟨w.1, w.2⟩) (fun v w => w.elim))
  · skip
    have r3 := (zs_I_eqn c1)
    exact (zs_botne r3 h_x3 zlI_2 (by decide)).elim
-- BX4_reckon_62
theorem zc_1432 {σ0 : sn_S} {σ : sn_S} (h_σ : zs_C σ0 σ) {x3 : Int32} (h_x3 : zs_in x3.toInt 2 2) {x4 : Int32} (h_x4 : zs_in x4.toInt (-1) (-1)) {x6 : Int32} (h_x6 : zs_in x6.toInt 8 8) {x7 : Int32} (h_x7 : zs_in x7.toInt 0 0) {t0 : Int32} (h_t0 : zs_in t0.toInt 0 0) {c : Int} (hc : x7.toInt = c + 0) : zs_ok (BX4_reckon_62 σ 1 27 x3 x4 x6 x7 t0) (fun r => zs_sum (fun v => ((zs_C σ0 v.1 ∧ zs_in (v.2).toInt 1 1)) ∧ v.2.toInt = c + 1) (fun v => False) r) := by
  unfold BX4_reckon_62
  obtain rfl : x3 = (2 : Int32) := zs_eqv h_x3 (by decide)
  obtain rfl : x4 = (-1 : Int32) := zs_eqv h_x4 (by decide)
  obtain rfl : x6 = (8 : Int32) := zs_eqv h_x6 (by decide)
  obtain rfl : t0 = (0 : Int32) := zs_eqv h_t0 (by decide)
  refine zs_bd_ (zd_279 h_x3 h_x4 h_x6 h_x7 h_t0 (s0 := (σ, (0 : Int32))) ⟨h_σ, (zs_w h_t0 (by decide))⟩) (fun t_1 pt_1 => ?_)
  obtain ⟨ret, er, hr⟩ := zc_1431 pt_1 h_x3 h_x4 h_x6 h_x7 h_t0 hc
  refine ⟨ret, er, ?_⟩
  exact (zs_sumw hr (fun v w => ⟨w.1, w.2⟩) (fun v w => w.elim))
-- BX4_reckon_111
theorem zc_1433 {σ0 : sn_S} {σ : sn_S} (h_σ : zs_C σ0 σ) {x3 : Int32} (h_x3 : zs_in x3.toInt 2 2) {x4 : Int32} (h_x4 : zs_in x4.toInt (-1) (-1)) {x6 : Int32} (h_x6 : zs_in x6.toInt 8 8) {x7 : Int32} (h_x7 : zs_in x7.toInt 1 255) {x8 : Int32} (h_x8 : zs_in x8.toInt 0 7) {x9 : Int32} (h_x9 : zs_in x9.toInt 0 7) {t1 : Int32} (h_t1 : zs_in t1.toInt 0 7) {t2 : Int32} {t3 : Int32} (h_t3 : zs_in t3.toInt 0 0) {c : Int} (hc : x9.toInt = c + 0) : zs_ok (BX4_reckon_111 σ 1 27 x3 x4 x6 x7 x8 x9 t1 t2 t3) (fun r => zs_sum (fun v => ((zs_C σ0 v.1 ∧ zs_in (v.2).toInt 1 8)) ∧ v.2.toInt = c + 1) (fun v => False) r) := by
  unfold BX4_reckon_111
  obtain rfl : x3 = (2 : Int32) := zs_eqv h_x3 (by decide)
  obtain rfl : x4 = (-1 : Int32) := zs_eqv h_x4 (by decide)
  obtain rfl : x6 = (8 : Int32) := zs_eqv h_x6 (by decide)
  obtain rfl : t3 = (0 : Int32) := zs_eqv h_t3 (by decide)
  refine zs_gd (zs_gin h_t1 (by decide)) ?_
  refine zs_lt (Q := fun z => zs_C σ0 z) (zs_wrt h_σ (fun _ => rfl) (fun _ => rfl)) (fun σ_2 hσ_2 => ?_)
  refine zs_lt (Q := fun z => zs_in z.toInt 1 8 ∧ z.toInt = c + 1) ⟨(zs_addI 1 8 h_x9 zlI_1 (by decide)), (zs_syI 1 hc h_x9 zlI_1 (by decide) (by decide))⟩ (fun y_4 hy_4 => ?_)
  exact zs_some (zs_inl ⟨⟨hσ_2, hy_4.1⟩, hy_4.2⟩)
-- BX4_reckon_111
theorem zc_1434 {σ0 : sn_S} {σ : sn_S} (h_σ : zs_C σ0 σ) {x3 : Int32} (h_x3 : zs_in x3.toInt 2 2) {x4 : Int32} (h_x4 : zs_in x4.toInt (-1) (-1)) {x6 : Int32} (h_x6 : zs_in x6.toInt 8 8) {x7 : Int32} (h_x7 : zs_in x7.toInt 1 255) {x8 : Int32} (h_x8 : zs_in x8.toInt 0 7) {x9 : Int32} (h_x9 : zs_in x9.toInt 0 7) {t1 : Int32} (h_t1 : zs_in t1.toInt 0 7) {t2 : Int32} {t3 : Int32} (h_t3 : zs_in t3.toInt 3 3) {c : Int} (hc : x9.toInt = c + 0) : zs_ok (BX4_reckon_111 σ 1 27 x3 x4 x6 x7 x8 x9 t1 t2 t3) (fun r => zs_sum (fun v => ((zs_C σ0 v.1 ∧ zs_in (v.2).toInt 1 8)) ∧ v.2.toInt = c + 1) (fun v => False) r) := by
  unfold BX4_reckon_111
  obtain rfl : x3 = (2 : Int32) := zs_eqv h_x3 (by decide)
  obtain rfl : x4 = (-1 : Int32) := zs_eqv h_x4 (by decide)
  obtain rfl : x6 = (8 : Int32) := zs_eqv h_x6 (by decide)
  obtain rfl : t3 = (3 : Int32) := zs_eqv h_t3 (by decide)
  refine zs_gd (zs_gin h_t1 (by decide)) ?_
  refine zs_lt (Q := fun z => zs_C σ0 z) (zs_wrt h_σ (fun _ => rfl) (fun _ => rfl)) (fun σ_2 hσ_2 => ?_)
  refine zs_lt (Q := fun z => zs_in z.toInt 1 8 ∧ z.toInt = c + 1) ⟨(zs_addI 1 8 h_x9 zlI_1 (by decide)), (zs_syI 1 hc h_x9 zlI_1 (by decide) (by decide))⟩ (fun y_4 hy_4 => ?_)
  exact zs_some (zs_inl ⟨⟨hσ_2, hy_4.1⟩, hy_4.2⟩)
-- BX4_reckon_68
theorem zc_1435 {σ0 : sn_S} {σ : sn_S} (h_σ : zs_C σ0 σ) {x3 : Int32} (h_x3 : zs_in x3.toInt 2 2) {x4 : Int32} (h_x4 : zs_in x4.toInt (-1) (-1)) {x6 : Int32} (h_x6 : zs_in x6.toInt 8 8) {x7 : Int32} (h_x7 : zs_in x7.toInt 1 255) {x8 : Int32} (h_x8 : zs_in x8.toInt 0 7) {x9 : Int32} (h_x9 : zs_in x9.toInt 0 8) {c : Int} (hc : x9.toInt = c + 0) : zs_ok (BX4_reckon_68 σ 1 27 x3 x4 x6 x7 x8 x9) (fun r => zs_sum (fun v => ((zs_C σ0 v.1 ∧ zs_in (v.2).toInt 1 8)) ∧ v.2.toInt = c + 1) (fun v => zs_C σ0 v) r) := by
  unfold BX4_reckon_68
  obtain rfl : x3 = (2 : Int32) := zs_eqv h_x3 (by decide)
  obtain rfl : x4 = (-1 : Int32) := zs_eqv h_x4 (by decide)
  obtain rfl : x6 = (8 : Int32) := zs_eqv h_x6 (by decide)
  refine zs_ite (fun c1 => ?_) (fun c1 => ?_)
  · skip
    have r2 := (zs_I_le c1)
    have g3 : zs_in (x9).toInt 8 8 := (zs_ler 8 8 r2 h_x6 h_x9 (by decide))
    exact zs_some (zs_inr (h_σ))
  · skip
    have r4 := (zs_I_len c1)
    have g5 : zs_in (x9).toInt 0 7 := (zs_ltl 0 7 r4 h_x9 h_x6 (by decide))
    refine zs_gd (zs_gin g5 (by decide)) ?_
    refine zs_bd_ (zc_1096 h_x7 (zs_subI 0 7 (zs_subI 7 7 h_x6 zlI_1 (by decide)) g5 (by decide))) (fun t_3 pt_3 => ?_)
    refine zs_ite (fun c6 => ?_) (fun c6 => ?_)
    · skip
      have r7 := (zs_I_eq c6)
      have g8 : zs_in (t_3).toInt 0 0 := (zs_eql 0 0 r7 pt_3 zlI_0 (by decide))
      obtain ⟨ret, er, hr⟩ := zc_1433 h_σ h_x3 h_x4 h_x6 h_x7 h_x8 g5 g5 zlI_0 hc
      refine ⟨ret, er, ?_⟩
      exact (zs_sumw hr (fun v w => ⟨w.1, w.2⟩) (fun v w => w.elim))
    · skip
      have r9 := (zs_I_eqn c6)
      have g10 : zs_in (t_3).toInt 1 1 := (zs_nel 1 1 r9 pt_3 zlI_0 (by decide))
      obtain ⟨ret, er, hr⟩ := zc_1434 h_σ h_x3 h_x4 h_x6 h_x7 h_x8 g5 g5 zlI_3 hc
      refine ⟨ret, er, ?_⟩
      exact (zs_sumw hr (fun v w => ⟨w.1, w.2⟩) (fun v w => w.elim))
theorem zd_282 {σ0 : sn_S} {x3 : Int32} (h_x3 : zs_in x3.toInt 2 2) {x4 : Int32} (h_x4 : zs_in x4.toInt (-1) (-1)) {x6 : Int32} (h_x6 : zs_in x6.toInt 8 8) {x7 : Int32} (h_x7 : zs_in x7.toInt 1 255) {x8 : Int32} (h_x8 : zs_in x8.toInt 0 7) {s0 : (sn_S × Int32)} (h0 : (zs_C σ0 s0.1 ∧ zs_in (s0.2).toInt 0 8)) : zs_ok (sn_it (LX4_reckon_68 1 27 x3 x4 x6 x7 x8) 5000 s0) (fun t => zs_C σ0 t) := by
  refine zs_it (I := fun s => (zs_C σ0 s.1 ∧ zs_in (s.2).toInt 0 8)) (m := fun s => 8 - s.2.toInt) (fun s hs => ?_) (fun s hs => ?_) (by exact h0)
  · have h1 := hs.2; unfold zs_in at h1
    omega
  · obtain ⟨b, eb, hb⟩ := zc_1435 hs.1 h_x3 h_x4 h_x6 h_x7 h_x8 hs.2 (c := s.2.toInt) (Int.add_zero _).symm
    exact ⟨b, eb, zs_sumw hb (fun v w => ⟨⟨w.1.1, (zs_w w.1.2 (by decide))⟩, by have := w.2; omega⟩) (fun v w => w)⟩
-- BX0_live_2
theorem zc_1436 {σ0 : sn_S} {σ : sn_S} (h_σ : zs_C σ0 σ) {x1 : Int32} (h_x1 : zs_in x1.toInt 0 7) {x2 : Int32} (h_x2 : zs_in x2.toInt 0 30) {x3 : Int32} (h_x3 : zs_in x3.toInt 0 6) {c : Int} (hc : x3.toInt = c + 0) : zs_ok (BX0_live_2 σ 59 x1 x2 x3) (fun r => zs_sum (fun v => ((zs_C σ0 v.1 ∧ zs_in (v.2).toInt 1 6)) ∧ v.2.toInt = c + 1) (fun v => zs_C σ0 v) r) := by
  unfold BX0_live_2
  refine zs_ite (fun c1 => ?_) (fun c1 => ?_)
  · skip
    have r2 := (zs_I_le c1)
    exact zs_some (zs_inr (h_σ))
  · skip
    have r3 := (zs_I_len c1)
    have g4 : zs_in (x3).toInt 0 5 := (zs_ltl 0 5 r3 h_x3 (zs_rdk (q := 59) (k := 1) (z := (0, 6)) h_σ.1 rfl) (by decide))
    have g5 : zs_in ((sn_I σ 59 1)).toInt 1 6 := (zs_ltr 1 6 r3 h_x3 (zs_rdk (q := 59) (k := 1) (z := (0, 6)) h_σ.1 rfl) (by decide))
    refine zs_gd (zs_gin g4 (by decide)) ?_
    refine zs_bd_ (zc_1100 h_x1) (fun t_3 pt_3 => ?_)
    refine zs_gd (zs_gin g4 (by decide)) ?_
    refine zs_lt (Q := fun z => zs_C σ0 z) (zs_wru (z := (0, 1073741823)) h_σ (fun _ => rfl) (zs_and pt_3 (by decide)) (by decide) (fun _ => rfl)) (fun σ_6 hσ_6 => ?_)
    refine zs_lt (Q := fun z => zs_in z.toInt 1 6 ∧ z.toInt = c + 1) ⟨(zs_addI 1 6 g4 zlI_1 (by decide)), (zs_syI 1 hc g4 zlI_1 (by decide) (by decide))⟩ (fun y_8 hy_8 => ?_)
    exact zs_some (zs_inl ⟨⟨hσ_6, hy_8.1⟩, hy_8.2⟩)
theorem zd_283 {σ0 : sn_S} {x1 : Int32} (h_x1 : zs_in x1.toInt 0 7) {x2 : Int32} (h_x2 : zs_in x2.toInt 0 30) {s0 : (sn_S × Int32)} (h0 : (zs_C σ0 s0.1 ∧ zs_in (s0.2).toInt 0 6)) : zs_ok (sn_it (LX0_live_2 59 x1 x2) 5000 s0) (fun t => zs_C σ0 t) := by
  refine zs_it (I := fun s => (zs_C σ0 s.1 ∧ zs_in (s.2).toInt 0 6)) (m := fun s => 6 - s.2.toInt) (fun s hs => ?_) (fun s hs => ?_) (by exact h0)
  · have h1 := hs.2; unfold zs_in at h1
    omega
  · obtain ⟨b, eb, hb⟩ := zc_1436 hs.1 h_x1 h_x2 hs.2 (c := s.2.toInt) (Int.add_zero _).symm
    exact ⟨b, eb, zs_sumw hb (fun v w => ⟨⟨w.1.1, (zs_w w.1.2 (by decide))⟩, by have := w.2; omega⟩) (fun v w => w)⟩
-- BX0_live_29
theorem zc_1437 {σ0 : sn_S} {σ : sn_S} (h_σ : zs_C σ0 σ) {x1 : Int32} (h_x1 : zs_in x1.toInt 0 7) {x2 : Int32} (h_x2 : zs_in x2.toInt 0 30) : zs_ok (BX0_live_29 σ 59 x1 x2) (fun r => zs_C σ0 r) := by
  unfold BX0_live_29
  refine zs_bd_ (zd_238 h_x2 (s0 := (σ, x1)) ⟨h_σ, (zs_w h_x1 (by decide))⟩) (fun t_1 pt_1 => ?_)
  obtain ⟨ret, er, hr⟩ := zc_697 pt_1
  refine ⟨ret, er, ?_⟩
  exact hr
-- fX0_live
theorem zc_1438 {σ0 : sn_S} {σ : sn_S} (h_σ : zs_C σ0 σ) {x1 : Int32} (h_x1 : zs_in x1.toInt 0 7) {x2 : Int32} (h_x2 : zs_in x2.toInt 0 30) : zs_ok (fX0_live σ 59 x1 x2) (fun r => zs_C σ0 r) := by
  unfold fX0_live
  refine zs_bd_ (zd_283 h_x1 h_x2 (s0 := (σ, (0 : Int32))) ⟨h_σ, (zs_w zlI_0 (by decide))⟩) (fun t_1 pt_1 => ?_)
  obtain ⟨ret, er, hr⟩ := zc_1437 pt_1 h_x1 h_x2
  refine ⟨ret, er, ?_⟩
  exact hr
-- BX4_reckon_139
theorem zc_1439 {σ0 : sn_S} {σ : sn_S} (h_σ : zs_C σ0 σ) {x3 : Int32} (h_x3 : zs_in x3.toInt 2 2) {x4 : Int32} (h_x4 : zs_in x4.toInt (-1) (-1)) {x6 : Int32} (h_x6 : zs_in x6.toInt 8 8) {x7 : Int32} (h_x7 : zs_in x7.toInt 1 255) {t1 : Int32} (h_t1 : zs_in t1.toInt 0 7) {t2 : Int32} (h_t2 : zs_in t2.toInt 0 30) {c : Int} (hc : x7.toInt = c + 0) : zs_ok (BX4_reckon_139 σ 1 27 x3 x4 x6 x7 t1 t2) (fun r => zs_sum (fun v => ((zs_C σ0 v.1 ∧ zs_in (v.2).toInt 2 256)) ∧ v.2.toInt = c + 1) (fun v => False) r) := by
  unfold BX4_reckon_139
  obtain rfl : x3 = (2 : Int32) := zs_eqv h_x3 (by decide)
  obtain rfl : x4 = (-1 : Int32) := zs_eqv h_x4 (by decide)
  obtain rfl : x6 = (8 : Int32) := zs_eqv h_x6 (by decide)
  refine zs_bd_ (zc_1438 h_σ h_t1 h_t2) (fun t_1 pt_1 => ?_)
  refine zs_bd_ (zo_bc 8 8 (by decide) h_x7) (fun t_3 pt_3 => ?_)
  refine zs_gd (zs_gin pt_3 (by decide)) ?_
  refine zs_bd_ (zc_1429 pt_1 h_x3 h_x4 h_x6) (fun t_6 pt_6 => ?_)
  refine zs_lt (Q := fun z => zs_C σ0 z) (zs_wrL pt_6.2 rfl) (fun σ_8 hσ_8 => ?_)
  refine zs_lt (Q := fun z => zs_in z.toInt 2 256 ∧ z.toInt = c + 1) ⟨(zs_addI 2 256 h_x7 zlI_1 (by decide)), (zs_syI 1 hc h_x7 zlI_1 (by decide) (by decide))⟩ (fun y_10 hy_10 => ?_)
  exact zs_some (zs_inl ⟨⟨hσ_8, hy_10.1⟩, hy_10.2⟩)
-- BX4_reckon_119
theorem zc_1440 {σ0 : sn_S} {σ : sn_S} (h_σ : zs_C σ0 σ) {x3 : Int32} (h_x3 : zs_in x3.toInt 2 2) {x4 : Int32} (h_x4 : zs_in x4.toInt (-1) (-1)) {x6 : Int32} (h_x6 : zs_in x6.toInt 8 8) {x7 : Int32} (h_x7 : zs_in x7.toInt 1 255) {x8 : Int32} (h_x8 : zs_in x8.toInt 0 7) {c : Int} (hc : x7.toInt = c + 0) : zs_ok (BX4_reckon_119 σ 1 27 x3 x4 x6 x7 x8) (fun r => zs_sum (fun v => ((zs_C σ0 v.1 ∧ zs_in (v.2).toInt 2 256)) ∧ v.2.toInt = c + 1) (fun v => False) r) := by
  unfold BX4_reckon_119
  obtain rfl : x3 = (2 : Int32) := zs_eqv h_x3 (by decide)
  obtain rfl : x4 = (-1 : Int32) := zs_eqv h_x4 (by decide)
  obtain rfl : x6 = (8 : Int32) := zs_eqv h_x6 (by decide)
  refine zs_ite (fun c1 => ?_) (fun c1 => ?_)
  · skip
    have r2 := (zs_I_eq c1)
    obtain ⟨ret, er, hr⟩ := zc_1439 h_σ h_x3 h_x4 h_x6 h_x7 h_x8 (zs_rdk (q := 27) (k := 0) (z := (0, 30)) h_σ.1 rfl) hc
    refine ⟨ret, er, ?_⟩
    exact (zs_sumw hr (fun v w => ⟨w.1, w.2⟩) (fun v w => w.elim))
  · skip
    have r3 := (zs_I_eqn c1)
    exact (zs_botne r3 h_x3 zlI_2 (by decide)).elim
-- BX4_reckon_62
theorem zc_1441 {σ0 : sn_S} {σ : sn_S} (h_σ : zs_C σ0 σ) {x3 : Int32} (h_x3 : zs_in x3.toInt 2 2) {x4 : Int32} (h_x4 : zs_in x4.toInt (-1) (-1)) {x6 : Int32} (h_x6 : zs_in x6.toInt 8 8) {x7 : Int32} (h_x7 : zs_in x7.toInt 1 255) {t0 : Int32} (h_t0 : zs_in t0.toInt 0 7) {c : Int} (hc : x7.toInt = c + 0) : zs_ok (BX4_reckon_62 σ 1 27 x3 x4 x6 x7 t0) (fun r => zs_sum (fun v => ((zs_C σ0 v.1 ∧ zs_in (v.2).toInt 2 256)) ∧ v.2.toInt = c + 1) (fun v => False) r) := by
  unfold BX4_reckon_62
  obtain rfl : x3 = (2 : Int32) := zs_eqv h_x3 (by decide)
  obtain rfl : x4 = (-1 : Int32) := zs_eqv h_x4 (by decide)
  obtain rfl : x6 = (8 : Int32) := zs_eqv h_x6 (by decide)
  refine zs_bd_ (zd_282 h_x3 h_x4 h_x6 h_x7 h_t0 (s0 := (σ, t0)) ⟨h_σ, (zs_w h_t0 (by decide))⟩) (fun t_1 pt_1 => ?_)
  obtain ⟨ret, er, hr⟩ := zc_1440 pt_1 h_x3 h_x4 h_x6 h_x7 h_t0 hc
  refine ⟨ret, er, ?_⟩
  exact (zs_sumw hr (fun v w => ⟨w.1, w.2⟩) (fun v w => w.elim))
-- BX4_reckon_34
theorem zc_1442 {σ0 : sn_S} {σ : sn_S} (h_σ : zs_C σ0 σ) {x3 : Int32} (h_x3 : zs_in x3.toInt 2 2) {x4 : Int32} (h_x4 : zs_in x4.toInt (-1) (-1)) {x6 : Int32} (h_x6 : zs_in x6.toInt 8 8) {x7 : Int32} (h_x7 : zs_in x7.toInt 0 256) {c : Int} (hc : x7.toInt = c + 0) : zs_ok (BX4_reckon_34 σ 1 27 x3 x4 x6 x7) (fun r => zs_sum (fun v => ((zs_C σ0 v.1 ∧ zs_in (v.2).toInt 1 256)) ∧ v.2.toInt = c + 1) (fun v => zs_C σ0 v) r) := by
  unfold BX4_reckon_34
  obtain rfl : x3 = (2 : Int32) := zs_eqv h_x3 (by decide)
  obtain rfl : x4 = (-1 : Int32) := zs_eqv h_x4 (by decide)
  obtain rfl : x6 = (8 : Int32) := zs_eqv h_x6 (by decide)
  refine zs_ite (fun c1 => ?_) (fun c1 => ?_)
  · skip
    have r2 := (zs_I_le c1)
    have g3 : zs_in (x7).toInt 256 256 := (zs_ler 256 256 r2 (zs_cases h_x6 (fun z => zs_in ((1 : Int32) <<< (z &&& 31)).toInt 256 256) (by decide +kernel)) h_x7 (by decide))
    exact zs_some (zs_inr (h_σ))
  · skip
    have r4 := (zs_I_len c1)
    have g5 : zs_in (x7).toInt 0 255 := (zs_ltl 0 255 r4 h_x7 (zs_cases h_x6 (fun z => zs_in ((1 : Int32) <<< (z &&& 31)).toInt 256 256) (by decide +kernel)) (by decide))
    refine zs_ite (fun c6 => ?_) (fun c6 => ?_)
    · skip
      have r7 := (zs_I_eq c6)
      have g8 : zs_in (x7).toInt 0 0 := (zs_eql 0 0 r7 g5 zlI_0 (by decide))
      obtain ⟨ret, er, hr⟩ := zc_1432 h_σ h_x3 h_x4 h_x6 g8 zlI_0 hc
      refine ⟨ret, er, ?_⟩
      exact (zs_sumw hr (fun v w => ⟨⟨w.1.1, (zs_w w.1.2 (by decide))⟩, w.2⟩) (fun v w => w.elim))
    · skip
      have r9 := (zs_I_eqn c6)
      have g10 : zs_in (x7).toInt 1 255 := (zs_nel 1 255 r9 g5 zlI_0 (by decide))
      refine zs_bd_ (zo_low1 8 7 (by decide) g10) (fun t_3 pt_3 => ?_)
      obtain ⟨ret, er, hr⟩ := zc_1441 h_σ h_x3 h_x4 h_x6 g10 (zs_subI 0 7 (zs_subI 7 7 h_x6 zlI_1 (by decide)) pt_3 (by decide)) hc
      refine ⟨ret, er, ?_⟩
      exact (zs_sumw hr (fun v w => ⟨⟨w.1.1, (zs_w w.1.2 (by decide))⟩, w.2⟩) (fun v w => w.elim))
theorem zd_284 {σ0 : sn_S} {x3 : Int32} (h_x3 : zs_in x3.toInt 2 2) {x4 : Int32} (h_x4 : zs_in x4.toInt (-1) (-1)) {x6 : Int32} (h_x6 : zs_in x6.toInt 8 8) {s0 : (sn_S × Int32)} (h0 : (zs_C σ0 s0.1 ∧ zs_in (s0.2).toInt 0 256)) : zs_ok (sn_it (LX4_reckon_34 1 27 x3 x4 x6) 5000 s0) (fun t => zs_C σ0 t) := by
  refine zs_it (I := fun s => (zs_C σ0 s.1 ∧ zs_in (s.2).toInt 0 256)) (m := fun s => 256 - s.2.toInt) (fun s hs => ?_) (fun s hs => ?_) (by exact h0)
  · have h1 := hs.2; unfold zs_in at h1
    omega
  · obtain ⟨b, eb, hb⟩ := zc_1442 hs.1 h_x3 h_x4 h_x6 hs.2 (c := s.2.toInt) (Int.add_zero _).symm
    exact ⟨b, eb, zs_sumw hb (fun v w => ⟨⟨w.1.1, (zs_w w.1.2 (by decide))⟩, by have := w.2; omega⟩) (fun v w => w)⟩
-- fX4_reckon
theorem zc_1443 {σ0 : sn_S} {σ : sn_S} (h_σ : zs_C σ0 σ) {x3 : Int32} (h_x3 : zs_in x3.toInt 2 2) {x4 : Int32} (h_x4 : zs_in x4.toInt (-1) (-1)) {x5 : Int32} (h_x5 : zs_in x5.toInt 7 7) : zs_ok (fX4_reckon σ 1 27 x3 x4 x5) (fun r => zs_C σ0 r) := by
  unfold fX4_reckon
  obtain rfl : x3 = (2 : Int32) := zs_eqv h_x3 (by decide)
  obtain rfl : x4 = (-1 : Int32) := zs_eqv h_x4 (by decide)
  obtain rfl : x5 = (7 : Int32) := zs_eqv h_x5 (by decide)
  refine zs_lt (Q := fun z => zs_in z.toInt 8 8) (zs_addI 8 8 h_x5 zlI_1 (by decide)) (fun y_1 hy_1 => ?_)
  refine zs_gd (zs_gin zlI_4 (by decide)) ?_
  refine zs_bd_ (zc_1060 h_σ hy_1 (zs_rdk (q := 2) (k := (4 : Int32).toNatClampNeg) (z := (0, 10)) h_σ.1 rfl)) (fun t_4 pt_4 => ?_)
  refine zs_bd_ (zo_dcopy pt_4) (fun t_6 pt_6 => ?_)
  refine zs_lt (Q := fun z => zs_C σ0 z) (zs_wrL pt_6 rfl) (fun σ_8 hσ_8 => ?_)
  refine zs_bd_ (zd_284 h_x3 h_x4 hy_1 (s0 := (σ_8, (0 : Int32))) ⟨hσ_8, (zs_w zlI_0 (by decide))⟩) (fun t_10 pt_10 => ?_)
  obtain ⟨ret, er, hr⟩ := zc_1109 pt_10 hy_1
  refine ⟨ret, er, ?_⟩
  exact hr
-- fX4_reckon
theorem zc_1444 {σ0 : sn_S} {σ : sn_S} (h_σ : zs_C σ0 σ) {x3 : Int32} (h_x3 : zs_in x3.toInt 2 2) {x4 : Int32} (h_x4 : zs_in x4.toInt (-1) (-1)) {x5 : Int32} (h_x5 : zs_in x5.toInt 0 7) : zs_ok (fX4_reckon σ 1 27 x3 x4 x5) (fun r => zs_C σ0 r) := by
  obtain ⟨j, hj, rfl⟩ := zs_val h_x5 (by decide)
  have hj : j < 8 := hj
  match j, hj with
  | 0, _ =>
    obtain ⟨r, e, h⟩ := zc_1282 (x5 := nI 0) h_σ h_x3 h_x4 (by decide)
    exact ⟨r, e, h⟩
  | 1, _ =>
    obtain ⟨r, e, h⟩ := zc_1305 (x5 := nI 1) h_σ h_x3 h_x4 (by decide)
    exact ⟨r, e, h⟩
  | 2, _ =>
    obtain ⟨r, e, h⟩ := zc_1328 (x5 := nI 2) h_σ h_x3 h_x4 (by decide)
    exact ⟨r, e, h⟩
  | 3, _ =>
    obtain ⟨r, e, h⟩ := zc_1351 (x5 := nI 3) h_σ h_x3 h_x4 (by decide)
    exact ⟨r, e, h⟩
  | 4, _ =>
    obtain ⟨r, e, h⟩ := zc_1374 (x5 := nI 4) h_σ h_x3 h_x4 (by decide)
    exact ⟨r, e, h⟩
  | 5, _ =>
    obtain ⟨r, e, h⟩ := zc_1397 (x5 := nI 5) h_σ h_x3 h_x4 (by decide)
    exact ⟨r, e, h⟩
  | 6, _ =>
    obtain ⟨r, e, h⟩ := zc_1420 (x5 := nI 6) h_σ h_x3 h_x4 (by decide)
    exact ⟨r, e, h⟩
  | 7, _ =>
    obtain ⟨r, e, h⟩ := zc_1443 (x5 := nI 7) h_σ h_x3 h_x4 (by decide)
    exact ⟨r, e, h⟩

-- fX8_risk
theorem zc_1445 {σ0 : sn_S} {σ : sn_S} (h_σ : zs_C σ0 σ) {x1 : Int32} {x2 : Int32} : zs_ok (fX8_risk σ x1 x2) (fun r => ((True ∧ zs_C σ0 r.2)) ∧ ((r.1).toInt = (-2) ∨ (zs_in (x1).toInt 0 7 ∧ zs_in (x2).toInt 0 1))) := by
  unfold fX8_risk
  refine zs_bd_ (zc_668 h_σ) (fun t_1 pt_1 => ?_)
  refine zs_ite (fun c1 => ?_) (fun c1 => ?_)
  · skip
    have r2 := (zs_I_eq c1)
    have g3 : zs_in (t_1).toInt 0 0 := (zs_eql 0 0 r2 pt_1.1 zlI_0 (by decide))
    exact zs_some ⟨⟨trivial, h_σ⟩, Or.inl (zs_ptr zlI_m2)⟩
  · skip
    have r4 := (zs_I_eqn c1)
    have g5 : zs_in (t_1).toInt 1 1 := (zs_nel 1 1 r4 pt_1.1 zlI_0 (by decide))
    have q6 := (zs_or2 pt_1.2 g5 (by decide))
    have g7 : zs_in (x1).toInt 0 7 := q6
    refine zs_ite (fun c8 => ?_) (fun c8 => ?_)
    · skip
      have r9 := (zs_I_lt c8)
      have g10 : zs_in (x2).toInt (-2147483648) (-1) := (zs_ltl (-2147483648) (-1) r9 (zs_topI _) zlI_0 (by decide))
      exact zs_some ⟨⟨trivial, h_σ⟩, Or.inl (zs_ptr zlI_m2)⟩
    · skip
      have r11 := (zs_I_ltn c8)
      have g12 : zs_in (x2).toInt 0 2147483647 := (zs_ler 0 2147483647 r11 zlI_0 (zs_topI _) (by decide))
      refine zs_ite (fun c13 => ?_) (fun c13 => ?_)
      · skip
        have r14 := (zs_I_le c13)
        have g15 : zs_in (x2).toInt 0 1 := (zs_lel 0 1 r14 g12 zlI_1 (by decide))
        refine zs_bd_ (zc_1444 h_σ zlI_2 zlI_m1 g7) (fun t_6 pt_6 => ?_)
        refine zs_ite (fun c16 => ?_) (fun c16 => ?_)
        · skip
          have r17 := (zs_I_eq c16)
          have g18 : zs_in (x2).toInt 0 0 := (zs_eql 0 0 r17 g15 zlI_0 (by decide))
          exact zs_some ⟨⟨trivial, pt_6⟩, Or.inr ⟨g7, (zs_w g18 (by decide))⟩⟩
        · skip
          have r19 := (zs_I_eqn c16)
          have g20 : zs_in (x2).toInt 1 1 := (zs_nel 1 1 r19 g15 zlI_0 (by decide))
          exact zs_some ⟨⟨trivial, pt_6⟩, Or.inr ⟨g7, (zs_w g20 (by decide))⟩⟩
      · skip
        have r21 := (zs_I_len c13)
        have g22 : zs_in (x2).toInt 2 2147483647 := (zs_ltr 2 2147483647 r21 zlI_1 g12 (by decide))
        exact zs_some ⟨⟨trivial, h_σ⟩, Or.inl (zs_ptr zlI_m2)⟩
-- fX8_isSeed
theorem zc_1446 {x0 : Int32} : zs_ok (fX8_isSeed x0) (fun r => (zs_in (r).toInt 0 1) ∧ ((r).toInt = 0 ∨ (zs_in (x0).toInt 0 2000000000))) := by
  unfold fX8_isSeed
  refine zs_ite (fun c1 => ?_) (fun c1 => ?_)
  · skip
    have r2 := (zs_I_lt c1)
    have g3 : zs_in (x0).toInt (-2147483648) (-1) := (zs_ltl (-2147483648) (-1) r2 (zs_topI _) zlI_0 (by decide))
    refine zs_gd (zs_b01 zlI_0 (by decide)) ?_
    exact zs_some ⟨(zs_w zlI_0 (by decide)), Or.inl (zs_ptr zlI_0)⟩
  · skip
    have r4 := (zs_I_ltn c1)
    have g5 : zs_in (x0).toInt 0 2147483647 := (zs_ler 0 2147483647 r4 zlI_0 (zs_topI _) (by decide))
    refine zs_ite (fun c6 => ?_) (fun c6 => ?_)
    · skip
      have r7 := (zs_I_lt c6)
      have g8 : zs_in (x0).toInt 2000000001 2147483647 := (zs_ltr 2000000001 2147483647 r7 zlI_2000000000 g5 (by decide))
      refine zs_gd (zs_b01 zlI_0 (by decide)) ?_
      exact zs_some ⟨(zs_w zlI_0 (by decide)), Or.inl (zs_ptr zlI_0)⟩
    · skip
      have r9 := (zs_I_ltn c6)
      have g10 : zs_in (x0).toInt 0 2000000000 := (zs_lel 0 2000000000 r9 g5 zlI_2000000000 (by decide))
      refine zs_gd (zs_b01 zlI_1 (by decide)) ?_
      exact zs_some ⟨(zs_w zlI_1 (by decide)), Or.inr g10⟩
-- BX8_liveDrawn_89
theorem zc_1447 {σ0 : sn_S} {σ : sn_S} (h_σ : zs_C σ0 σ) {x2 : Int32} {x3 : Int64} {x5 : Int32} (h_x5 : zs_in x5.toInt 0 29) {c : Int} (hc : x5.toInt = c + 0) : zs_ok (BX8_liveDrawn_89 σ x2 x3 x5) (fun r => zs_sum (fun v => ((zs_C σ0 v.1 ∧ (True ∧ (True ∧ zs_in (v.2.2.2).toInt 1 30)))) ∧ v.2.2.2.toInt = c + 1) (fun v => False) r) := by
  unfold BX8_liveDrawn_89
  refine zs_lt (Q := fun z => zs_in z.toInt 1 30 ∧ z.toInt = c + 1) ⟨(zs_addI 1 30 h_x5 zlI_1 (by decide)), (zs_syI 1 hc h_x5 zlI_1 (by decide) (by decide))⟩ (fun y_1 hy_1 => ?_)
  exact zs_some (zs_inl ⟨⟨h_σ, ⟨trivial, ⟨trivial, hy_1.1⟩⟩⟩, hy_1.2⟩)
-- BX8_liveDrawn_19
theorem zc_1448 {σ0 : sn_S} {σ : sn_S} (h_σ : zs_C σ0 σ) {x2 : Int32} {x3 : Int64} {x5 : Int32} (h_x5 : zs_in x5.toInt 0 30) {c : Int} (hc : x5.toInt = c + 0) : zs_ok (BX8_liveDrawn_19 σ x2 x3 x5) (fun r => zs_sum (fun v => ((zs_C σ0 v.1 ∧ (True ∧ (True ∧ zs_in (v.2.2.2).toInt 1 30)))) ∧ v.2.2.2.toInt = c + 1) (fun v => (zs_C σ0 v.1 ∧ True)) r) := by
  unfold BX8_liveDrawn_19
  refine zs_ite (fun c1 => ?_) (fun c1 => ?_)
  · skip
    have r2 := (zs_I_le c1)
    exact zs_some (zs_inr (⟨h_σ, trivial⟩))
  · skip
    have r3 := (zs_I_len c1)
    have g4 : zs_in (x5).toInt 0 29 := (zs_ltl 0 29 r3 h_x5 (zs_rdk (q := 27) (k := 0) (z := (0, 30)) h_σ.1 rfl) (by decide))
    have g5 : zs_in ((sn_I σ 27 0)).toInt 1 30 := (zs_ltr 1 30 r3 h_x5 (zs_rdk (q := 27) (k := 0) (z := (0, 30)) h_σ.1 rfl) (by decide))
    refine zs_lt (Q := fun z => True) trivial (fun y_2 hy_2 => ?_)
    refine zs_gd (zs_gin zlI_4 (by decide)) ?_
    refine zs_ite (fun c6 => ?_) (fun c6 => ?_)
    · skip
      have r7 := (zs_lg_lef c6)
      have g8 : zs_in (((y_2 / (65536 : Int64)) - (((y_2 / (65536 : Int64)) / (10 : Int64)) * (10 : Int64)))).toInt 0 9223372036854775807 := (zs_ler 0 9223372036854775807 r7 (zs_64 (zs_rdk (q := 2) (k := (4 : Int32).toNatClampNeg) (z := (0, 10)) h_σ.1 rfl)) (zs_topL _) (by decide))
      obtain ⟨ret, er, hr⟩ := zc_1447 h_σ g4 hc
      refine ⟨ret, er, ?_⟩
      exact (zs_sumw hr (fun v w => ⟨w.1, w.2⟩) (fun v w => w.elim))
    · skip
      have r9 := (zs_lg_lefn c6)
      have g10 : zs_in (((y_2 / (65536 : Int64)) - (((y_2 / (65536 : Int64)) / (10 : Int64)) * (10 : Int64)))).toInt (-9223372036854775808) 9 := (zs_ltl (-9223372036854775808) 9 r9 (zs_topL _) (zs_64 (zs_rdk (q := 2) (k := (4 : Int32).toNatClampNeg) (z := (0, 10)) h_σ.1 rfl)) (by decide))
      refine zs_lt (Q := fun z => True) trivial (fun y_6 hy_6 => ?_)
      refine zs_gd (zs_gin g4 (by decide)) ?_
      refine zs_gd (zs_gin g4 (by decide)) ?_
      refine zs_lt (Q := fun z => zs_C σ0 z) (zs_wrt h_σ (fun _ => rfl) (fun _ => rfl)) (fun σ_10 hσ_10 => ?_)
      obtain ⟨ret, er, hr⟩ := zc_1447 hσ_10 g4 hc
      refine ⟨ret, er, ?_⟩
      exact (zs_sumw hr (fun v w => ⟨w.1, w.2⟩) (fun v w => w.elim))
theorem zd_285 {σ0 : sn_S}  {s0 : (sn_S × (Int32 × (Int64 × Int32)))} (h0 : (zs_C σ0 s0.1 ∧ (True ∧ (True ∧ zs_in (s0.2.2.2).toInt 0 30)))) : zs_ok (sn_it (LX8_liveDrawn_19) 5000 s0) (fun t => (zs_C σ0 t.1 ∧ True)) := by
  refine zs_it (I := fun s => (zs_C σ0 s.1 ∧ (True ∧ (True ∧ zs_in (s.2.2.2).toInt 0 30)))) (m := fun s => 30 - s.2.2.2.toInt) (fun s hs => ?_) (fun s hs => ?_) (by exact h0)
  · have h1 := hs.2.2.2; unfold zs_in at h1
    omega
  · obtain ⟨b, eb, hb⟩ := zc_1448 hs.1 hs.2.2.2 (c := s.2.2.2.toInt) (Int.add_zero _).symm
    exact ⟨b, eb, zs_sumw hb (fun v w => ⟨⟨w.1.1, ⟨w.1.2.1, ⟨w.1.2.2.1, (zs_w w.1.2.2.2 (by decide))⟩⟩⟩, by have := w.2; omega⟩) (fun v w => w)⟩
-- BX8_liveDrawn_95
theorem zc_1449 {σ0 : sn_S} {σ : sn_S} (h_σ : zs_C σ0 σ) {x2 : Int32} : zs_ok (BX8_liveDrawn_95 σ x2) (fun r => (True ∧ zs_C σ0 r.2)) := by
  unfold BX8_liveDrawn_95
  refine zs_bd_ (zc_350 h_σ) (fun t_1 pt_1 => ?_)
  exact zs_some ⟨trivial, pt_1⟩
-- fX8_liveDrawn
theorem zc_1450 {σ0 : sn_S} {σ : sn_S} (h_σ : zs_C σ0 σ) {x1 : Int32} (h_x1 : zs_in x1.toInt 0 2000000000) : zs_ok (fX8_liveDrawn σ x1) (fun r => (True ∧ zs_C σ0 r.2)) := by
  unfold fX8_liveDrawn
  refine zs_bd_ (zo_dcopy h_σ) (fun t_1 pt_1 => ?_)
  refine zs_bd_ (zd_285  (s0 := (t_1, ((0 : Int32), (x1.toInt64, (0 : Int32))))) ⟨pt_1, ⟨trivial, ⟨trivial, (zs_w zlI_0 (by decide))⟩⟩⟩) (fun t_3 pt_3 => ?_)
  obtain ⟨ret, er, hr⟩ := zc_1449 pt_3.1
  refine ⟨ret, er, ?_⟩
  exact hr
-- BX3_reckon_115
theorem zc_1451 {σ0 : sn_S} {σ : sn_S} (h_σ : zs_C σ0 σ) : zs_ok (BX3_reckon_115 σ 49 1 38) (fun r => zs_C σ0 r) := by
  unfold BX3_reckon_115
  exact zs_some h_σ
theorem zo_reckon_49_38_0_3_l {σ0 : sn_S} {x3 : Int32} (h_x3 : zs_in x3.toInt 0 3) {s0 : sn_S × Int32} (h0 : zs_C σ0 s0.1 ∧ zs_in s0.2.toInt 0 6 ∧ (sn_I s0.1 49 2).toInt = (σ0.1 2 8).toInt) : zs_ok (sn_it (LX3_reckon_24 49 1 38 x3) 5000 s0) (fun t => zs_C σ0 t) := by
  refine zs_it (I := fun s => zs_C σ0 s.1 ∧ zs_in s.2.toInt 0 6 ∧ (sn_I s.1 49 2).toInt = (σ0.1 2 8).toInt) (m := fun s => 6 - s.2.toInt) (fun s hs => ⟨by have := hs.2.1; omega, by have := hs.2.1; omega⟩) (fun s hs => ?_) h0
  obtain ⟨σ, x4⟩ := s
  obtain ⟨h_σ, h_x4, hq⟩ := hs
  unfold LX3_reckon_24 BX3_reckon_24
  refine zs_ite (fun c1 => zs_some (zs_inr h_σ)) (fun c1 => ?_)
  have r3 := (zs_I_len c1)
  have g4 : zs_in (x4).toInt 0 5 := (zs_ltl 0 5 r3 h_x4 (zs_rdk (q := 49) (k := 2) (z := (0, 6)) h_σ.1 rfl) (by decide))
  haveI : zs_Ws σ0 x4 := ⟨⟨by have h1 : x4.toInt < (sn_I σ 49 2).toInt := r3; have h2 : (sn_I σ 49 2).toInt = (σ0.1 2 8).toInt := hq; omega⟩⟩
  refine zs_bd_ (zo_whose h_σ g4) (fun t_2 pt_2 => ?_)
  refine zs_gd (zs_gin pt_2 (by decide)) ?_
  refine zs_lt (Q := fun z => zs_in z.toInt 0 1073741823) (zs_rdu (q := 48) (z := (0, 1073741823)) h_σ.1 (fun _ => rfl)) (fun y_5 hy_5 => ?_)
  refine zs_bd_ (zc_229 h_σ g4 zlI_4) (fun t_7 pt_7 => ?_)
  refine zs_lt (Q := fun z => zs_C σ0 z ∧ (sn_I z 49 2).toInt = (σ0.1 2 8).toInt) ⟨zs_wrkt h_σ rfl rfl, hq⟩ (fun σ_9 hσ_9 => ?_)
  refine zs_gd (zs_gin pt_2 (by decide)) ?_
  refine zs_bd_ (zc_235 hσ_9.1 h_x3 g4 hy_5) (fun t_12 pt_12 => ?_)
  refine zs_gd (zs_gin g4 (by decide)) ?_
  refine zs_lt (Q := fun z => zs_C σ0 z ∧ (sn_I z 49 2).toInt = (σ0.1 2 8).toInt) ⟨zs_wrt hσ_9.1 (fun _ => rfl) (fun _ => rfl), hσ_9.2⟩ (fun σ_15 hσ_15 => ?_)
  refine zs_bd_ (zc_233 hσ_15.1 h_x3 g4 hy_5) (fun t_17 pt_17 => ?_)
  refine zs_bd_ (zo_low 30 29 (by decide) pt_17) (fun t_19 pt_19 => ?_)
  refine zs_gd (zs_gin g4 (by decide)) ?_
  refine zs_lt (Q := fun z => zs_C σ0 z ∧ (sn_I z 49 2).toInt = (σ0.1 2 8).toInt) ⟨zs_wru (z := ((-1), 63)) hσ_15.1 (fun _ => rfl) pt_19 (by decide) (fun _ => rfl), hσ_15.2⟩ (fun σ_22 hσ_22 => ?_)
  refine zs_lt (Q := fun z => zs_in z.toInt 1 6 ∧ z.toInt = x4.toInt + 1) ⟨(zs_addI 1 6 g4 zlI_1 (by decide)), (zs_syI 1 (show x4.toInt = x4.toInt + 0 by omega) g4 zlI_1 (by decide) (by decide))⟩ (fun y_24 hy_24 => ?_)
  exact zs_some (zs_inl ⟨⟨hσ_22.1, zs_w hy_24.1 (by decide), hσ_22.2⟩, by show 6 - y_24.toInt < 6 - x4.toInt; have := hy_24.2; omega⟩)
theorem zo_reckon_49_38_0_3 {σ0 : sn_S} {σ : sn_S} (h_σ : zs_C σ0 σ) {x3 : Int32} (h_x3 : zs_in x3.toInt 0 3) : zs_ok (fX3_reckon σ 49 1 38 x3) (fun r => zs_C σ0 r) := by
  unfold fX3_reckon
  have e8 : sn_I σ (1 + 1) (8 : Int32).toNatClampNeg = σ0.1 2 8 := h_σ.2.1 2 8 rfl
  refine zs_gd (by decide) ?_
  refine zs_lt (Q := fun z => zs_C σ0 z ∧ (sn_I z 49 2).toInt = (σ0.1 2 8).toInt) ⟨zs_wrk (z := (0, 6)) h_σ rfl (zs_rdk (q := 2) (k := (8 : Int32).toNatClampNeg) (z := (0, 6)) h_σ.1 rfl) (by decide) rfl, by
    show (sn_I σ (1 + 1) (8 : Int32).toNatClampNeg).toInt = _
    rw [e8]⟩ (fun σ_2 h2 => ?_)
  refine zs_gd (by decide) ?_
  refine zs_lt (Q := fun z => zs_C σ0 z ∧ (sn_I z 49 2).toInt = (σ0.1 2 8).toInt) ⟨zs_wrkt h2.1 rfl rfl, h2.2⟩ (fun σ_5 h5 => ?_)
  refine zs_bd_ (zo_reckon_49_38_0_3_l h_x3 (s0 := (σ_5, (0 : Int32))) ⟨h5.1, (by decide : zs_in (0 : Int32).toInt 0 6), h5.2⟩) (fun t_7 p7 => ?_)
  exact zc_1451 p7
-- fX8_drawn
theorem zc_1452 {σ0 : sn_S} {σ : sn_S} (h_σ : zs_C σ0 σ) {x1 : Int32} {x2 : Int32} : zs_ok (fX8_drawn σ x1 x2) (fun r => ((True ∧ zs_C σ0 r.2)) ∧ ((r.1).toInt = (-2) ∨ (zs_in (x1).toInt 0 2000000000 ∧ zs_in (x2).toInt 0 2))) := by
  unfold fX8_drawn
  refine zs_bd_ (zc_102 h_σ) (fun t_1 pt_1 => ?_)
  refine zs_ite (fun c1 => ?_) (fun c1 => ?_)
  · skip
    have r2 := (zs_I_eq c1)
    have g3 : zs_in (t_1).toInt 0 0 := (zs_eql 0 0 r2 pt_1 zlI_0 (by decide))
    exact zs_some ⟨⟨trivial, h_σ⟩, Or.inl (zs_ptr zlI_m2)⟩
  · skip
    have r4 := (zs_I_eqn c1)
    have g5 : zs_in (t_1).toInt 1 1 := (zs_nel 1 1 r4 pt_1 zlI_0 (by decide))
    refine zs_bd_ (zc_1446) (fun t_4 pt_4 => ?_)
    refine zs_ite (fun c6 => ?_) (fun c6 => ?_)
    · skip
      have r7 := (zs_I_eq c6)
      have g8 : zs_in (t_4).toInt 0 0 := (zs_eql 0 0 r7 pt_4.1 zlI_0 (by decide))
      exact zs_some ⟨⟨trivial, h_σ⟩, Or.inl (zs_ptr zlI_m2)⟩
    · skip
      have r9 := (zs_I_eqn c6)
      have g10 : zs_in (t_4).toInt 1 1 := (zs_nel 1 1 r9 pt_4.1 zlI_0 (by decide))
      have q11 := (zs_or2 pt_4.2 g10 (by decide))
      have g12 : zs_in (x1).toInt 0 2000000000 := q11
      refine zs_ite (fun c13 => ?_) (fun c13 => ?_)
      · skip
        have r14 := (zs_I_lt c13)
        have g15 : zs_in (x2).toInt (-2147483648) (-1) := (zs_ltl (-2147483648) (-1) r14 (zs_topI _) zlI_0 (by decide))
        exact zs_some ⟨⟨trivial, h_σ⟩, Or.inl (zs_ptr zlI_m2)⟩
      · skip
        have r16 := (zs_I_ltn c13)
        have g17 : zs_in (x2).toInt 0 2147483647 := (zs_ler 0 2147483647 r16 zlI_0 (zs_topI _) (by decide))
        refine zs_ite (fun c18 => ?_) (fun c18 => ?_)
        · skip
          have r19 := (zs_I_le c18)
          have g20 : zs_in (x2).toInt 0 2 := (zs_lel 0 2 r19 g17 zlI_2 (by decide))
          refine zs_bd_ (zc_1450 h_σ g12) (fun t_9 pt_9 => ?_)
          refine zs_ite (fun c21 => ?_) (fun c21 => ?_)
          · skip
            have r22 := (zs_I_eq c21)
            have g23 : zs_in (x2).toInt 0 0 := (zs_eql 0 0 r22 g20 zlI_0 (by decide))
            exact zs_some ⟨⟨trivial, pt_9.2⟩, Or.inr ⟨g12, (zs_w g23 (by decide))⟩⟩
          · skip
            have r24 := (zs_I_eqn c21)
            have g25 : zs_in (x2).toInt 1 2 := (zs_nel 1 2 r24 g20 zlI_0 (by decide))
            refine zs_ite (fun c26 => ?_) (fun c26 => ?_)
            · skip
              have r27 := (zs_I_eq c26)
              have g28 : zs_in (x2).toInt 1 1 := (zs_eql 1 1 r27 g25 zlI_1 (by decide))
              refine zs_bd_ (zc_362 pt_9.2) (fun t_18 pt_18 => ?_)
              exact zs_some ⟨⟨trivial, pt_9.2⟩, Or.inr ⟨g12, (zs_w g28 (by decide))⟩⟩
            · skip
              have r29 := (zs_I_eqn c26)
              have g30 : zs_in (x2).toInt 2 2 := (zs_nel 2 2 r29 g25 zlI_1 (by decide))
              refine zs_gd (zs_gin zlI_2 (by decide)) ?_
              refine zs_bd_ (zo_reckon_49_38_0_3 pt_9.2 (zs_rdk (q := 2) (k := (2 : Int32).toNatClampNeg) (z := (0, 3)) pt_9.2.1 rfl)) (fun t_14 pt_14 => ?_)
              refine zs_bd_ (zc_415 pt_14 (zs_rdk (q := 38) (k := 0) (z := (0, 30)) pt_14.1 rfl)) (fun t_16 pt_16 => ?_)
              exact zs_some ⟨⟨trivial, pt_14⟩, Or.inr ⟨g12, (zs_w g30 (by decide))⟩⟩
        · skip
          have r31 := (zs_I_len c18)
          have g32 : zs_in (x2).toInt 3 2147483647 := (zs_ltr 3 2147483647 r31 zlI_2 g17 (by decide))
          exact zs_some ⟨⟨trivial, h_σ⟩, Or.inl (zs_ptr zlI_m2)⟩
-- fX9_in
theorem zc_1453 {x0 : Int64} (h_x0 : zs_in x0.toInt (-2147483648) 2147483647) {x2 : Int64} (h_x2 : zs_in x2.toInt 0 0) {x4 : Int64} (h_x4 : zs_in x4.toInt 2000000000 2000000000) : zs_ok (fX9_in x0 x2 x4) (fun r => (zs_in (r).toInt 0 1) ∧ ((r).toInt = 0 ∨ (zs_in (x0).toInt 0 2000000000))) := by
  unfold fX9_in
  refine zs_ite (fun c1 => ?_) (fun c1 => ?_)
  · skip
    have r2 := (zs_lg_lt c1)
    have g3 : zs_in (x0).toInt (-2147483648) (-1) := (zs_ltl (-2147483648) (-1) r2 h_x0 h_x2 (by decide))
    refine zs_gd (zs_b01 zlI_0 (by decide)) ?_
    exact zs_some ⟨(zs_w zlI_0 (by decide)), Or.inl (zs_ptr zlI_0)⟩
  · skip
    have r4 := (zs_lg_ltn c1)
    have g5 : zs_in (x0).toInt 0 2147483647 := (zs_ler 0 2147483647 r4 h_x2 h_x0 (by decide))
    refine zs_ite (fun c6 => ?_) (fun c6 => ?_)
    · skip
      have r7 := (zs_lg_ltf c6)
      have g8 : zs_in (x0).toInt 2000000001 2147483647 := (zs_ltr 2000000001 2147483647 r7 h_x4 g5 (by decide))
      refine zs_gd (zs_b01 zlI_0 (by decide)) ?_
      exact zs_some ⟨(zs_w zlI_0 (by decide)), Or.inl (zs_ptr zlI_0)⟩
    · skip
      have r9 := (zs_lg_ltfn c6)
      have g10 : zs_in (x0).toInt 0 2000000000 := (zs_lel 0 2000000000 r9 g5 h_x4 (by decide))
      refine zs_gd (zs_b01 zlI_1 (by decide)) ?_
      exact zs_some ⟨(zs_w zlI_1 (by decide)), Or.inr g10⟩
-- fX9_isSeed
theorem zc_1454 {x0 : Int32} : zs_ok (fX9_isSeed x0) (fun r => (zs_in (r).toInt 0 1) ∧ ((r).toInt = 0 ∨ (zs_in (x0).toInt 0 2000000000))) := by
  unfold fX9_isSeed
  refine zs_bd_ (zc_1453 (zs_64 (zs_topI _)) zlL_0 zlL_2000000000) (fun t_1 pt_1 => ?_)
  refine zs_gd (zs_b01 pt_1.1 (by decide)) ?_
  rcases pt_1.2 with z0 | z0
  · skip
    have g1 : zs_in (t_1).toInt 0 0 := (zs_pt z0)
    exact zs_some ⟨(zs_w g1 (by decide)), Or.inl (zs_ptr g1)⟩
  · skip
    have q2 := z0
    have g3 : zs_in (x0.toInt64).toInt 0 2000000000 := q2
    have g4 : zs_in (x0).toInt 0 2000000000 := (zs_64r g3)
    exact zs_some ⟨pt_1.1, Or.inr g4⟩
-- fX9_in
theorem zc_1455 {x0 : Int64} (h_x0 : zs_in x0.toInt (-2147483648) 2147483647) {x2 : Int64} (h_x2 : zs_in x2.toInt 0 0) {x4 : Int64} (h_x4 : zs_in x4.toInt 2 2) : zs_ok (fX9_in x0 x2 x4) (fun r => (zs_in (r).toInt 0 1) ∧ ((r).toInt = 0 ∨ (zs_in (x0).toInt 0 2))) := by
  unfold fX9_in
  refine zs_ite (fun c1 => ?_) (fun c1 => ?_)
  · skip
    have r2 := (zs_lg_lt c1)
    have g3 : zs_in (x0).toInt (-2147483648) (-1) := (zs_ltl (-2147483648) (-1) r2 h_x0 h_x2 (by decide))
    refine zs_gd (zs_b01 zlI_0 (by decide)) ?_
    exact zs_some ⟨(zs_w zlI_0 (by decide)), Or.inl (zs_ptr zlI_0)⟩
  · skip
    have r4 := (zs_lg_ltn c1)
    have g5 : zs_in (x0).toInt 0 2147483647 := (zs_ler 0 2147483647 r4 h_x2 h_x0 (by decide))
    refine zs_ite (fun c6 => ?_) (fun c6 => ?_)
    · skip
      have r7 := (zs_lg_ltf c6)
      have g8 : zs_in (x0).toInt 3 2147483647 := (zs_ltr 3 2147483647 r7 h_x4 g5 (by decide))
      refine zs_gd (zs_b01 zlI_0 (by decide)) ?_
      exact zs_some ⟨(zs_w zlI_0 (by decide)), Or.inl (zs_ptr zlI_0)⟩
    · skip
      have r9 := (zs_lg_ltfn c6)
      have g10 : zs_in (x0).toInt 0 2 := (zs_lel 0 2 r9 g5 h_x4 (by decide))
      refine zs_gd (zs_b01 zlI_1 (by decide)) ?_
      exact zs_some ⟨(zs_w zlI_1 (by decide)), Or.inr g10⟩
-- BX9_goDrawn_78
theorem zc_1456 {σ0 : sn_S} {σ : sn_S} (h_σ : zs_M σ0 σ) {x3 : Int64} {x5 : Int32} {x6 : Int32} (h_x6 : zs_in x6.toInt 0 29) {c : Int} (hc : x6.toInt = c + 0) : zs_ok (BX9_goDrawn_78 σ x3 x5 x6) (fun r => zs_sum (fun v => ((zs_M σ0 v.1 ∧ (True ∧ (True ∧ zs_in (v.2.2.2).toInt 1 30)))) ∧ v.2.2.2.toInt = c + 1) (fun v => False) r) := by
  unfold BX9_goDrawn_78
  refine zs_lt (Q := fun z => zs_in z.toInt 1 30 ∧ z.toInt = c + 1) ⟨(zs_addI 1 30 h_x6 zlI_1 (by decide)), (zs_syI 1 hc h_x6 zlI_1 (by decide) (by decide))⟩ (fun y_1 hy_1 => ?_)
  exact zs_some (zs_inl ⟨⟨h_σ, ⟨trivial, ⟨trivial, hy_1.1⟩⟩⟩, hy_1.2⟩)
-- BX9_goDrawn_12
theorem zc_1457 {σ0 : sn_S} {σ : sn_S} (h_σ : zs_M σ0 σ) {x3 : Int64} {x5 : Int32} {x6 : Int32} (h_x6 : zs_in x6.toInt 0 30) {c : Int} (hc : x6.toInt = c + 0) : zs_ok (BX9_goDrawn_12 σ x3 x5 x6) (fun r => zs_sum (fun v => ((zs_M σ0 v.1 ∧ (True ∧ (True ∧ zs_in (v.2.2.2).toInt 1 30)))) ∧ v.2.2.2.toInt = c + 1) (fun v => (zs_M σ0 v.1 ∧ True)) r) := by
  unfold BX9_goDrawn_12
  refine zs_bd_ (zc_21 h_σ) (fun t_1 pt_1 => ?_)
  refine zs_ite (fun c1 => ?_) (fun c1 => ?_)
  · skip
    have r2 := (zs_I_le c1)
    exact zs_some (zs_inr (⟨h_σ, trivial⟩))
  · skip
    have r3 := (zs_I_len c1)
    have g4 : zs_in (x6).toInt 0 29 := (zs_ltl 0 29 r3 h_x6 pt_1 (by decide))
    have g5 : zs_in (t_1).toInt 1 30 := (zs_ltr 1 30 r3 h_x6 pt_1 (by decide))
    refine zs_lt (Q := fun z => True) trivial (fun y_4 hy_4 => ?_)
    refine zs_gd (zs_gin zlI_4 (by decide)) ?_
    refine zs_ite (fun c6 => ?_) (fun c6 => ?_)
    · skip
      have r7 := (zs_lg_lt c6)
      have g8 : zs_in (((y_4 / (65536 : Int64)) - (((y_4 / (65536 : Int64)) / (10 : Int64)) * (10 : Int64)))).toInt (-9223372036854775808) 9 := (zs_ltl (-9223372036854775808) 9 r7 (zs_topL _) (zs_64 (zs_rdk (q := 1) (k := (4 : Int32).toNatClampNeg) (z := (0, 10)) h_σ.1 rfl)) (by decide))
      refine zs_gd (zs_gin g4 (by decide)) ?_
      refine zs_gd (zs_gin g4 (by decide)) ?_
      refine zs_lt (Q := fun z => zs_M σ0 z) (zs_wrt h_σ (fun _ => rfl) (fun _ => rfl)) (fun σ_10 hσ_10 => ?_)
      refine zs_lt (Q := fun z => True) trivial (fun y_12 hy_12 => ?_)
      obtain ⟨ret, er, hr⟩ := zc_1456 hσ_10 g4 hc
      refine ⟨ret, er, ?_⟩
      exact (zs_sumw hr (fun v w => ⟨w.1, w.2⟩) (fun v w => w.elim))
    · skip
      have r9 := (zs_lg_ltn c6)
      have g10 : zs_in (((y_4 / (65536 : Int64)) - (((y_4 / (65536 : Int64)) / (10 : Int64)) * (10 : Int64)))).toInt 0 9223372036854775807 := (zs_ler 0 9223372036854775807 r9 (zs_64 (zs_rdk (q := 1) (k := (4 : Int32).toNatClampNeg) (z := (0, 10)) h_σ.1 rfl)) (zs_topL _) (by decide))
      obtain ⟨ret, er, hr⟩ := zc_1456 h_σ g4 hc
      refine ⟨ret, er, ?_⟩
      exact (zs_sumw hr (fun v w => ⟨w.1, w.2⟩) (fun v w => w.elim))
theorem zd_286 {σ0 : sn_S}  {s0 : (sn_S × (Int64 × (Int32 × Int32)))} (h0 : (zs_M σ0 s0.1 ∧ (True ∧ (True ∧ zs_in (s0.2.2.2).toInt 0 30)))) : zs_ok (sn_it (LX9_goDrawn_12) 5000 s0) (fun t => (zs_M σ0 t.1 ∧ True)) := by
  refine zs_it (I := fun s => (zs_M σ0 s.1 ∧ (True ∧ (True ∧ zs_in (s.2.2.2).toInt 0 30)))) (m := fun s => 30 - s.2.2.2.toInt) (fun s hs => ?_) (fun s hs => ?_) (by exact h0)
  · have h1 := hs.2.2.2; unfold zs_in at h1
    omega
  · obtain ⟨b, eb, hb⟩ := zc_1457 hs.1 hs.2.2.2 (c := s.2.2.2.toInt) (Int.add_zero _).symm
    exact ⟨b, eb, zs_sumw hb (fun v w => ⟨⟨w.1.1, ⟨w.1.2.1, ⟨w.1.2.2.1, (zs_w w.1.2.2.2 (by decide))⟩⟩⟩, by have := w.2; omega⟩) (fun v w => w)⟩
-- BX9_goDrawn_84
theorem zc_1458 {σ0 : sn_S} {σ : sn_S} (h_σ : zs_M σ0 σ) {x5 : Int32} : zs_ok (BX9_goDrawn_84 σ x5) (fun r => (True ∧ zs_M σ0 r.2)) := by
  unfold BX9_goDrawn_84
  refine zs_bd_ (zc_90 h_σ) (fun t_1 pt_1 => ?_)
  exact zs_some ⟨trivial, pt_1⟩
-- fX9_goDrawn
theorem zc_1459 {σ0 : sn_S} {σ : sn_S} (h_σ : zs_M σ0 σ) {x1 : Int64} (h_x1 : zs_in x1.toInt 0 2000000000) : zs_ok (fX9_goDrawn σ x1) (fun r => (True ∧ zs_M σ0 r.2)) := by
  unfold fX9_goDrawn
  refine zs_bd_ (zc_31 h_σ) (fun t_1 pt_1 => ?_)
  refine zs_bd_ (zd_286  (s0 := (t_1, (x1, ((0 : Int32), (0 : Int32))))) ⟨pt_1, ⟨trivial, ⟨trivial, (zs_w zlI_0 (by decide))⟩⟩⟩) (fun t_3 pt_3 => ?_)
  obtain ⟨ret, er, hr⟩ := zc_1458 pt_3.1
  refine ⟨ret, er, ?_⟩
  exact hr
-- fX9_drawn
theorem zc_1460 {σ0 : sn_S} {σ : sn_S} (h_σ : zs_M σ0 σ) {x1 : Int32} {x2 : Int32} : zs_ok (fX9_drawn σ x1 x2) (fun r => ((True ∧ zs_M σ0 r.2)) ∧ ((r.1).toInt = (-2) ∨ (zs_in (x1).toInt 0 2000000000 ∧ zs_in (x2).toInt 0 2))) := by
  unfold fX9_drawn
  refine zs_bd_ (zc_91 h_σ) (fun t_1 pt_1 => ?_)
  refine zs_ite (fun c1 => ?_) (fun c1 => ?_)
  · skip
    have r2 := (zs_I_eq c1)
    have g3 : zs_in (t_1).toInt 0 0 := (zs_eql 0 0 r2 pt_1 zlI_0 (by decide))
    exact zs_some ⟨⟨trivial, h_σ⟩, Or.inl (zs_ptr zlI_m2)⟩
  · skip
    have r4 := (zs_I_eqn c1)
    have g5 : zs_in (t_1).toInt 1 1 := (zs_nel 1 1 r4 pt_1 zlI_0 (by decide))
    refine zs_bd_ (zc_1454) (fun t_4 pt_4 => ?_)
    refine zs_ite (fun c6 => ?_) (fun c6 => ?_)
    · skip
      have r7 := (zs_I_eq c6)
      have g8 : zs_in (t_4).toInt 0 0 := (zs_eql 0 0 r7 pt_4.1 zlI_0 (by decide))
      exact zs_some ⟨⟨trivial, h_σ⟩, Or.inl (zs_ptr zlI_m2)⟩
    · skip
      have r9 := (zs_I_eqn c6)
      have g10 : zs_in (t_4).toInt 1 1 := (zs_nel 1 1 r9 pt_4.1 zlI_0 (by decide))
      have q11 := (zs_or2 pt_4.2 g10 (by decide))
      have g12 : zs_in (x1).toInt 0 2000000000 := q11
      refine zs_bd_ (zc_1455 (zs_64 (zs_topI _)) zlL_0 zlL_2) (fun t_7 pt_7 => ?_)
      refine zs_ite (fun c13 => ?_) (fun c13 => ?_)
      · skip
        have r14 := (zs_I_eq c13)
        have g15 : zs_in (t_7).toInt 0 0 := (zs_eql 0 0 r14 pt_7.1 zlI_0 (by decide))
        exact zs_some ⟨⟨trivial, h_σ⟩, Or.inl (zs_ptr zlI_m2)⟩
      · skip
        have r16 := (zs_I_eqn c13)
        have g17 : zs_in (t_7).toInt 1 1 := (zs_nel 1 1 r16 pt_7.1 zlI_0 (by decide))
        have q18 := (zs_or2 pt_7.2 g17 (by decide))
        have g19 : zs_in (x2.toInt64).toInt 0 2 := q18
        have g20 : zs_in (x2).toInt 0 2 := (zs_64r g19)
        refine zs_bd_ (zc_1459 h_σ (zs_64 g12)) (fun t_10 pt_10 => ?_)
        refine zs_ite (fun c21 => ?_) (fun c21 => ?_)
        · skip
          have r22 := (zs_I_eq c21)
          have g23 : zs_in (x2).toInt 0 0 := (zs_eql 0 0 r22 g20 zlI_0 (by decide))
          exact zs_some ⟨⟨trivial, pt_10.2⟩, Or.inr ⟨g12, (zs_w g23 (by decide))⟩⟩
        · skip
          have r24 := (zs_I_eqn c21)
          have g25 : zs_in (x2).toInt 1 2 := (zs_nel 1 2 r24 g20 zlI_0 (by decide))
          refine zs_ite (fun c26 => ?_) (fun c26 => ?_)
          · skip
            have r27 := (zs_I_eq c26)
            have g28 : zs_in (x2).toInt 1 1 := (zs_eql 1 1 r27 g25 zlI_1 (by decide))
            refine zs_bd_ (zc_112 pt_10.2) (fun t_16 pt_16 => ?_)
            exact zs_some ⟨⟨trivial, pt_10.2⟩, Or.inr ⟨g12, (zs_w g28 (by decide))⟩⟩
          · skip
            have r29 := (zs_I_eqn c26)
            have g30 : zs_in (x2).toInt 2 2 := (zs_nel 2 2 r29 g25 zlI_1 (by decide))
            refine zs_bd_ (zc_419 pt_10.2) (fun t_14 pt_14 => ?_)
            exact zs_some ⟨⟨trivial, pt_14.2⟩, Or.inr ⟨g12, (zs_w g30 (by decide))⟩⟩
-- fX8_liveDrawn
theorem zc_1461 {σ0 : sn_S} {σ : sn_S} (h_σ : zs_C σ0 σ) {x1 : Int32} (h_x1 : zs_in x1.toInt 0 2000000019) : zs_ok (fX8_liveDrawn σ x1) (fun r => (True ∧ zs_C σ0 r.2)) := by
  unfold fX8_liveDrawn
  refine zs_bd_ (zo_dcopy h_σ) (fun t_1 pt_1 => ?_)
  refine zs_bd_ (zd_285  (s0 := (t_1, ((0 : Int32), (x1.toInt64, (0 : Int32))))) ⟨pt_1, ⟨trivial, ⟨trivial, (zs_w zlI_0 (by decide))⟩⟩⟩) (fun t_3 pt_3 => ?_)
  obtain ⟨ret, er, hr⟩ := zc_1449 pt_3.1
  refine ⟨ret, er, ?_⟩
  exact hr
-- BX8_luck_89
theorem zc_1462 {σ0 : sn_S} {σ : sn_S} (h_σ : zs_C σ0 σ) {x1 : Int32} (h_x1 : zs_in x1.toInt 0 2000000000) {x2 : Int32} (h_x2 : zs_in x2.toInt 1 20) {x3 : Int32} (h_x3 : zs_in x3.toInt 0 5) {x4 : Int32} {x5 : Int32} (h_x5 : zs_in x5.toInt 0 19) {c : Int} (hc : x5.toInt = c + 0) : zs_ok (BX8_luck_89 σ x1 x2 x3 x4 x5) (fun r => zs_sum (fun v => ((zs_C σ0 v.1 ∧ (True ∧ zs_in (v.2.2).toInt 1 20))) ∧ v.2.2.toInt = c + 1) (fun v => False) r) := by
  unfold BX8_luck_89
  refine zs_lt (Q := fun z => zs_in z.toInt 1 20 ∧ z.toInt = c + 1) ⟨(zs_addI 1 20 h_x5 zlI_1 (by decide)), (zs_syI 1 hc h_x5 zlI_1 (by decide) (by decide))⟩ (fun y_1 hy_1 => ?_)
  exact zs_some (zs_inl ⟨⟨h_σ, ⟨trivial, hy_1.1⟩⟩, hy_1.2⟩)
-- BX8_luck_35
theorem zc_1463 {σ0 : sn_S} {σ : sn_S} (h_σ : zs_C σ0 σ) {x1 : Int32} (h_x1 : zs_in x1.toInt 0 2000000000) {x2 : Int32} (h_x2 : zs_in x2.toInt 1 20) {x3 : Int32} (h_x3 : zs_in x3.toInt 0 5) {x4 : Int32} {x5 : Int32} (h_x5 : zs_in x5.toInt 0 20) {c : Int} (hc : x5.toInt = c + 0) : zs_ok (BX8_luck_35 σ x1 x2 x3 x4 x5) (fun r => zs_sum (fun v => ((zs_C σ0 v.1 ∧ (True ∧ zs_in (v.2.2).toInt 1 20))) ∧ v.2.2.toInt = c + 1) (fun v => (zs_C σ0 v.1 ∧ True)) r) := by
  unfold BX8_luck_35
  refine zs_ite (fun c1 => ?_) (fun c1 => ?_)
  · skip
    have r2 := (zs_I_le c1)
    have g3 : zs_in (x5).toInt 1 20 := (zs_ler 1 20 r2 h_x2 h_x5 (by decide))
    exact zs_some (zs_inr (⟨h_σ, trivial⟩))
  · skip
    have r4 := (zs_I_len c1)
    have g5 : zs_in (x5).toInt 0 19 := (zs_ltl 0 19 r4 h_x5 h_x2 (by decide))
    refine zs_bd_ (zc_1461 h_σ (zs_addI 0 2000000019 h_x1 g5 (by decide))) (fun t_2 pt_2 => ?_)
    refine zs_gd (zs_gin zlI_2 (by decide)) ?_
    refine zs_bd_ (zo_reckon_49_38_0_3 pt_2.2 (zs_rdk (q := 2) (k := (2 : Int32).toNatClampNeg) (z := (0, 3)) pt_2.2.1 rfl)) (fun t_5 pt_5 => ?_)
    refine zs_gd (zs_gin h_x3 (by decide)) ?_
    refine zs_ite (fun c6 => ?_) (fun c6 => ?_)
    · skip
      have r7 := (zs_I_le c6)
      have g8 : zs_in ((sn_I t_5 (49 + 1) x3.toNatClampNeg)).toInt (-2147483648) 0 := (zs_lel (-2147483648) 0 r7 (zs_topI _) zlI_0 (by decide))
      obtain ⟨ret, er, hr⟩ := zc_1462 pt_5 h_x1 h_x2 h_x3 g5 hc
      refine ⟨ret, er, ?_⟩
      exact (zs_sumw hr (fun v w => ⟨w.1, w.2⟩) (fun v w => w.elim))
    · skip
      have r9 := (zs_I_len c6)
      have g10 : zs_in ((sn_I t_5 (49 + 1) x3.toNatClampNeg)).toInt 1 2147483647 := (zs_ltr 1 2147483647 r9 zlI_0 (zs_topI _) (by decide))
      refine zs_lt (Q := fun z => True) trivial (fun y_9 hy_9 => ?_)
      obtain ⟨ret, er, hr⟩ := zc_1462 pt_5 h_x1 h_x2 h_x3 g5 hc
      refine ⟨ret, er, ?_⟩
      exact (zs_sumw hr (fun v w => ⟨w.1, w.2⟩) (fun v w => w.elim))
theorem zd_287 {σ0 : sn_S} {x1 : Int32} (h_x1 : zs_in x1.toInt 0 2000000000) {x2 : Int32} (h_x2 : zs_in x2.toInt 1 20) {x3 : Int32} (h_x3 : zs_in x3.toInt 0 5) {s0 : (sn_S × (Int32 × Int32))} (h0 : (zs_C σ0 s0.1 ∧ (True ∧ zs_in (s0.2.2).toInt 0 20))) : zs_ok (sn_it (LX8_luck_35 x1 x2 x3) 5000 s0) (fun t => (zs_C σ0 t.1 ∧ True)) := by
  refine zs_it (I := fun s => (zs_C σ0 s.1 ∧ (True ∧ zs_in (s.2.2).toInt 0 20))) (m := fun s => 20 - s.2.2.toInt) (fun s hs => ?_) (fun s hs => ?_) (by exact h0)
  · have h1 := hs.2.2; unfold zs_in at h1
    omega
  · obtain ⟨b, eb, hb⟩ := zc_1463 hs.1 h_x1 h_x2 h_x3 hs.2.2 (c := s.2.2.toInt) (Int.add_zero _).symm
    exact ⟨b, eb, zs_sumw hb (fun v w => ⟨⟨w.1.1, ⟨w.1.2.1, (zs_w w.1.2.2 (by decide))⟩⟩, by have := w.2; omega⟩) (fun v w => w)⟩
-- BX8_luck_95
theorem zc_1464 {σ0 : sn_S} {σ : sn_S} (h_σ : zs_C σ0 σ) {x4 : Int32} : zs_ok (BX8_luck_95 σ x4) (fun r => (True ∧ zs_C σ0 r.2)) := by
  unfold BX8_luck_95
  exact zs_some ⟨trivial, h_σ⟩
-- fX8_luck
theorem zc_1465 {σ0 : sn_S} {σ : sn_S} (h_σ : zs_C σ0 σ) {x1 : Int32} {x2 : Int32} {x3 : Int32} : zs_ok (fX8_luck σ x1 x2 x3) (fun r => ((True ∧ zs_C σ0 r.2)) ∧ ((r.1).toInt = (-2) ∨ (zs_in (x1).toInt 0 2000000000 ∧ zs_in (x2).toInt 1 20 ∧ zs_in (x3).toInt 0 5))) := by
  unfold fX8_luck
  refine zs_bd_ (zo_isPolicy h_σ) (fun t_1 pt_1 => ?_)
  refine zs_ite (fun c1 => ?_) (fun c1 => ?_)
  · skip
    have r2 := (zs_I_eq c1)
    have g3 : zs_in (t_1).toInt 0 0 := (zs_eql 0 0 r2 pt_1.1 zlI_0 (by decide))
    exact zs_some ⟨⟨trivial, h_σ⟩, Or.inl (zs_ptr zlI_m2)⟩
  · skip
    have r4 := (zs_I_eqn c1)
    have g5 : zs_in (t_1).toInt 1 1 := (zs_nel 1 1 r4 pt_1.1 zlI_0 (by decide))
    have q6 := (zs_or2 pt_1.2.1 g5 (by decide))
    have g7 : zs_in (x3).toInt 0 5 := q6
    haveI := zs_or2 pt_1.2.2 g5 (by decide)
    refine zs_bd_ (zc_1446) (fun t_4 pt_4 => ?_)
    refine zs_ite (fun c8 => ?_) (fun c8 => ?_)
    · skip
      have r9 := (zs_I_eq c8)
      have g10 : zs_in (t_4).toInt 0 0 := (zs_eql 0 0 r9 pt_4.1 zlI_0 (by decide))
      exact zs_some ⟨⟨trivial, h_σ⟩, Or.inl (zs_ptr zlI_m2)⟩
    · skip
      have r11 := (zs_I_eqn c8)
      have g12 : zs_in (t_4).toInt 1 1 := (zs_nel 1 1 r11 pt_4.1 zlI_0 (by decide))
      have q13 := (zs_or2 pt_4.2 g12 (by decide))
      have g14 : zs_in (x1).toInt 0 2000000000 := q13
      refine zs_ite (fun c15 => ?_) (fun c15 => ?_)
      · skip
        have r16 := (zs_I_lt c15)
        have g17 : zs_in (x2).toInt (-2147483648) 0 := (zs_ltl (-2147483648) 0 r16 (zs_topI _) zlI_1 (by decide))
        exact zs_some ⟨⟨trivial, h_σ⟩, Or.inl (zs_ptr zlI_m2)⟩
      · skip
        have r18 := (zs_I_ltn c15)
        have g19 : zs_in (x2).toInt 1 2147483647 := (zs_ler 1 2147483647 r18 zlI_1 (zs_topI _) (by decide))
        refine zs_ite (fun c20 => ?_) (fun c20 => ?_)
        · skip
          have r21 := (zs_I_le c20)
          have g22 : zs_in (x2).toInt 1 20 := (zs_lel 1 20 r21 g19 zlI_20 (by decide))
          refine zs_bd_ (zd_287 g14 g22 g7 (s0 := (σ, ((0 : Int32), (0 : Int32)))) ⟨h_σ, ⟨trivial, (zs_w zlI_0 (by decide))⟩⟩) (fun t_9 pt_9 => ?_)
          obtain ⟨ret, er, hr⟩ := zc_1464 pt_9.1
          refine ⟨ret, er, ?_⟩
          exact ⟨hr, Or.inr ⟨g14, g22, g7⟩⟩
        · skip
          have r23 := (zs_I_len c20)
          have g24 : zs_in (x2).toInt 21 2147483647 := (zs_ltr 21 2147483647 r23 zlI_20 g19 (by decide))
          exact zs_some ⟨⟨trivial, h_σ⟩, Or.inl (zs_ptr zlI_m2)⟩
-- fX9_in
theorem zc_1466 {x0 : Int64} (h_x0 : zs_in x0.toInt (-2147483648) 2147483647) {x2 : Int64} (h_x2 : zs_in x2.toInt 1 1) {x4 : Int64} (h_x4 : zs_in x4.toInt 20 20) : zs_ok (fX9_in x0 x2 x4) (fun r => (zs_in (r).toInt 0 1) ∧ ((r).toInt = 0 ∨ (zs_in (x0).toInt 1 20))) := by
  unfold fX9_in
  refine zs_ite (fun c1 => ?_) (fun c1 => ?_)
  · skip
    have r2 := (zs_lg_lt c1)
    have g3 : zs_in (x0).toInt (-2147483648) 0 := (zs_ltl (-2147483648) 0 r2 h_x0 h_x2 (by decide))
    refine zs_gd (zs_b01 zlI_0 (by decide)) ?_
    exact zs_some ⟨(zs_w zlI_0 (by decide)), Or.inl (zs_ptr zlI_0)⟩
  · skip
    have r4 := (zs_lg_ltn c1)
    have g5 : zs_in (x0).toInt 1 2147483647 := (zs_ler 1 2147483647 r4 h_x2 h_x0 (by decide))
    refine zs_ite (fun c6 => ?_) (fun c6 => ?_)
    · skip
      have r7 := (zs_lg_ltf c6)
      have g8 : zs_in (x0).toInt 21 2147483647 := (zs_ltr 21 2147483647 r7 h_x4 g5 (by decide))
      refine zs_gd (zs_b01 zlI_0 (by decide)) ?_
      exact zs_some ⟨(zs_w zlI_0 (by decide)), Or.inl (zs_ptr zlI_0)⟩
    · skip
      have r9 := (zs_lg_ltfn c6)
      have g10 : zs_in (x0).toInt 1 20 := (zs_lel 1 20 r9 g5 h_x4 (by decide))
      refine zs_gd (zs_b01 zlI_1 (by decide)) ?_
      exact zs_some ⟨(zs_w zlI_1 (by decide)), Or.inr g10⟩
-- fX9_goDrawn
theorem zc_1467 {σ0 : sn_S} {σ : sn_S} (h_σ : zs_M σ0 σ) {x1 : Int64} (h_x1 : zs_in x1.toInt 0 2000000019) : zs_ok (fX9_goDrawn σ x1) (fun r => (True ∧ zs_M σ0 r.2)) := by
  unfold fX9_goDrawn
  refine zs_bd_ (zc_31 h_σ) (fun t_1 pt_1 => ?_)
  refine zs_bd_ (zd_286  (s0 := (t_1, (x1, ((0 : Int32), (0 : Int32))))) ⟨pt_1, ⟨trivial, ⟨trivial, (zs_w zlI_0 (by decide))⟩⟩⟩) (fun t_3 pt_3 => ?_)
  obtain ⟨ret, er, hr⟩ := zc_1458 pt_3.1
  refine ⟨ret, er, ?_⟩
  exact hr
-- BX9_luck_68
theorem zc_1468 {σ0 : sn_S} {σ : sn_S} (h_σ : zs_M σ0 σ) {x1 : Int32} (h_x1 : zs_in x1.toInt 0 2000000000) {x2 : Int32} (h_x2 : zs_in x2.toInt 1 20) {x3 : Int32} (h_x3 : zs_in x3.toInt 0 5) {x4 : Int32} {x5 : Int32} (h_x5 : zs_in x5.toInt 0 19) {t0 : Int32} {t1 : Int32} (h_t1 : zs_in t1.toInt 0 0) {c : Int} (hc : x5.toInt = c + 0) : zs_ok (BX9_luck_68 σ x1 x2 x3 x4 x5 t0 t1) (fun r => zs_sum (fun v => ((zs_M σ0 v.1 ∧ (True ∧ zs_in (v.2.2).toInt 1 20))) ∧ v.2.2.toInt = c + 1) (fun v => False) r) := by
  unfold BX9_luck_68
  obtain rfl : t1 = (0 : Int32) := zs_eqv h_t1 (by decide)
  refine zs_lt (Q := fun z => True) trivial (fun y_1 hy_1 => ?_)
  refine zs_lt (Q := fun z => zs_in z.toInt 1 20 ∧ z.toInt = c + 1) ⟨(zs_addI 1 20 h_x5 zlI_1 (by decide)), (zs_syI 1 hc h_x5 zlI_1 (by decide) (by decide))⟩ (fun y_3 hy_3 => ?_)
  exact zs_some (zs_inl ⟨⟨h_σ, ⟨trivial, hy_3.1⟩⟩, hy_3.2⟩)
-- BX9_luck_68
theorem zc_1469 {σ0 : sn_S} {σ : sn_S} (h_σ : zs_M σ0 σ) {x1 : Int32} (h_x1 : zs_in x1.toInt 0 2000000000) {x2 : Int32} (h_x2 : zs_in x2.toInt 1 20) {x3 : Int32} (h_x3 : zs_in x3.toInt 0 5) {x4 : Int32} {x5 : Int32} (h_x5 : zs_in x5.toInt 0 19) {t0 : Int32} {t1 : Int32} (h_t1 : zs_in t1.toInt 1 1) {c : Int} (hc : x5.toInt = c + 0) : zs_ok (BX9_luck_68 σ x1 x2 x3 x4 x5 t0 t1) (fun r => zs_sum (fun v => ((zs_M σ0 v.1 ∧ (True ∧ zs_in (v.2.2).toInt 1 20))) ∧ v.2.2.toInt = c + 1) (fun v => False) r) := by
  unfold BX9_luck_68
  obtain rfl : t1 = (1 : Int32) := zs_eqv h_t1 (by decide)
  refine zs_lt (Q := fun z => True) trivial (fun y_1 hy_1 => ?_)
  refine zs_lt (Q := fun z => zs_in z.toInt 1 20 ∧ z.toInt = c + 1) ⟨(zs_addI 1 20 h_x5 zlI_1 (by decide)), (zs_syI 1 hc h_x5 zlI_1 (by decide) (by decide))⟩ (fun y_3 hy_3 => ?_)
  exact zs_some (zs_inl ⟨⟨h_σ, ⟨trivial, hy_3.1⟩⟩, hy_3.2⟩)
-- BX9_luck_36
theorem zc_1470 {σ0 : sn_S} {σ : sn_S} (h_σ : zs_M σ0 σ) {x1 : Int32} (h_x1 : zs_in x1.toInt 0 2000000000) {x2 : Int32} (h_x2 : zs_in x2.toInt 1 20) {x3 : Int32} (h_x3 : zs_in x3.toInt 0 5) {x4 : Int32} {x5 : Int32} (h_x5 : zs_in x5.toInt 0 20) {c : Int} (hc : x5.toInt = c + 0) : zs_ok (BX9_luck_36 σ x1 x2 x3 x4 x5) (fun r => zs_sum (fun v => ((zs_M σ0 v.1 ∧ (True ∧ zs_in (v.2.2).toInt 1 20))) ∧ v.2.2.toInt = c + 1) (fun v => (zs_M σ0 v.1 ∧ True)) r) := by
  unfold BX9_luck_36
  refine zs_ite (fun c1 => ?_) (fun c1 => ?_)
  · skip
    have r2 := (zs_I_le c1)
    have g3 : zs_in (x5).toInt 1 20 := (zs_ler 1 20 r2 h_x2 h_x5 (by decide))
    exact zs_some (zs_inr (⟨h_σ, trivial⟩))
  · skip
    have r4 := (zs_I_len c1)
    have g5 : zs_in (x5).toInt 0 19 := (zs_ltl 0 19 r4 h_x5 h_x2 (by decide))
    refine zs_bd_ (zc_1467 h_σ (zs_addL 0 2000000019 (zs_64 h_x1) (zs_64 g5) (by decide))) (fun t_2 pt_2 => ?_)
    refine zs_bd_ (zc_262 pt_2.2 h_x3) (fun t_4 pt_4 => ?_)
    refine zs_ite (fun c6 => ?_) (fun c6 => ?_)
    · skip
      have r7 := (zs_I_le c6)
      have g8 : zs_in (t_4.1).toInt (-2147483648) 0 := (zs_lel (-2147483648) 0 r7 (zs_topI _) zlI_0 (by decide))
      obtain ⟨ret, er, hr⟩ := zc_1468 pt_4.2 h_x1 h_x2 h_x3 g5 zlI_0 hc
      refine ⟨ret, er, ?_⟩
      exact (zs_sumw hr (fun v w => ⟨w.1, w.2⟩) (fun v w => w.elim))
    · skip
      have r9 := (zs_I_len c6)
      have g10 : zs_in (t_4.1).toInt 1 2147483647 := (zs_ltr 1 2147483647 r9 zlI_0 (zs_topI _) (by decide))
      obtain ⟨ret, er, hr⟩ := zc_1469 pt_4.2 h_x1 h_x2 h_x3 g5 zlI_1 hc
      refine ⟨ret, er, ?_⟩
      exact (zs_sumw hr (fun v w => ⟨w.1, w.2⟩) (fun v w => w.elim))
theorem zd_288 {σ0 : sn_S} {x1 : Int32} (h_x1 : zs_in x1.toInt 0 2000000000) {x2 : Int32} (h_x2 : zs_in x2.toInt 1 20) {x3 : Int32} (h_x3 : zs_in x3.toInt 0 5) {s0 : (sn_S × (Int32 × Int32))} (h0 : (zs_M σ0 s0.1 ∧ (True ∧ zs_in (s0.2.2).toInt 0 20))) : zs_ok (sn_it (LX9_luck_36 x1 x2 x3) 5000 s0) (fun t => (zs_M σ0 t.1 ∧ True)) := by
  refine zs_it (I := fun s => (zs_M σ0 s.1 ∧ (True ∧ zs_in (s.2.2).toInt 0 20))) (m := fun s => 20 - s.2.2.toInt) (fun s hs => ?_) (fun s hs => ?_) (by exact h0)
  · have h1 := hs.2.2; unfold zs_in at h1
    omega
  · obtain ⟨b, eb, hb⟩ := zc_1470 hs.1 h_x1 h_x2 h_x3 hs.2.2 (c := s.2.2.toInt) (Int.add_zero _).symm
    exact ⟨b, eb, zs_sumw hb (fun v w => ⟨⟨w.1.1, ⟨w.1.2.1, (zs_w w.1.2.2 (by decide))⟩⟩, by have := w.2; omega⟩) (fun v w => w)⟩
-- BX9_luck_77
theorem zc_1471 {σ0 : sn_S} {σ : sn_S} (h_σ : zs_M σ0 σ) {x4 : Int32} : zs_ok (BX9_luck_77 σ x4) (fun r => (True ∧ zs_M σ0 r.2)) := by
  unfold BX9_luck_77
  exact zs_some ⟨trivial, h_σ⟩
-- fX9_luck
theorem zc_1472 {σ0 : sn_S} {σ : sn_S} (h_σ : zs_M σ0 σ) {x1 : Int32} {x2 : Int32} {x3 : Int32} : zs_ok (fX9_luck σ x1 x2 x3) (fun r => ((True ∧ zs_M σ0 r.2)) ∧ ((r.1).toInt = (-2) ∨ (zs_in (x1).toInt 0 2000000000 ∧ zs_in (x2).toInt 1 20 ∧ zs_in (x3).toInt 0 5))) := by
  unfold fX9_luck
  refine zs_bd_ (zc_1454) (fun t_1 pt_1 => ?_)
  refine zs_ite (fun c1 => ?_) (fun c1 => ?_)
  · skip
    have r2 := (zs_I_eq c1)
    have g3 : zs_in (t_1).toInt 0 0 := (zs_eql 0 0 r2 pt_1.1 zlI_0 (by decide))
    exact zs_some ⟨⟨trivial, h_σ⟩, Or.inl (zs_ptr zlI_m2)⟩
  · skip
    have r4 := (zs_I_eqn c1)
    have g5 : zs_in (t_1).toInt 1 1 := (zs_nel 1 1 r4 pt_1.1 zlI_0 (by decide))
    have q6 := (zs_or2 pt_1.2 g5 (by decide))
    have g7 : zs_in (x1).toInt 0 2000000000 := q6
    refine zs_bd_ (zc_1466 (zs_64 (zs_topI _)) zlL_1 zlL_20) (fun t_4 pt_4 => ?_)
    refine zs_ite (fun c8 => ?_) (fun c8 => ?_)
    · skip
      have r9 := (zs_I_eq c8)
      have g10 : zs_in (t_4).toInt 0 0 := (zs_eql 0 0 r9 pt_4.1 zlI_0 (by decide))
      exact zs_some ⟨⟨trivial, h_σ⟩, Or.inl (zs_ptr zlI_m2)⟩
    · skip
      have r11 := (zs_I_eqn c8)
      have g12 : zs_in (t_4).toInt 1 1 := (zs_nel 1 1 r11 pt_4.1 zlI_0 (by decide))
      have q13 := (zs_or2 pt_4.2 g12 (by decide))
      have g14 : zs_in (x2.toInt64).toInt 1 20 := q13
      have g15 : zs_in (x2).toInt 1 20 := (zs_64r g14)
      refine zs_bd_ (zc_11 h_σ) (fun t_7 pt_7 => ?_)
      refine zs_ite (fun c16 => ?_) (fun c16 => ?_)
      · skip
        have r17 := (zs_I_eq c16)
        have g18 : zs_in (t_7).toInt 0 0 := (zs_eql 0 0 r17 pt_7.1 zlI_0 (by decide))
        exact zs_some ⟨⟨trivial, h_σ⟩, Or.inl (zs_ptr zlI_m2)⟩
      · skip
        have r19 := (zs_I_eqn c16)
        have g20 : zs_in (t_7).toInt 1 1 := (zs_nel 1 1 r19 pt_7.1 zlI_0 (by decide))
        have q21 := (zs_or2 pt_7.2 g20 (by decide))
        have g22 : zs_in (x3).toInt 0 5 := q21
        refine zs_bd_ (zd_288 g7 g15 g22 (s0 := (σ, ((0 : Int32), (0 : Int32)))) ⟨h_σ, ⟨trivial, (zs_w zlI_0 (by decide))⟩⟩) (fun t_10 pt_10 => ?_)
        obtain ⟨ret, er, hr⟩ := zc_1471 pt_10.1
        refine ⟨ret, er, ?_⟩
        exact ⟨hr, Or.inr ⟨g7, g15, g22⟩⟩
-- BX6_howMany_23
