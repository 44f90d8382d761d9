-- BX4_reckon_111
theorem zc_1425 {σ0 : sn_S} {σ : sn_S} (h_σ : zs_C σ0 σ) {x3 : Int32} (h_x3 : zs_in x3.toInt 2 2) {x4 : Int32} (h_x4 : zs_in x4.toInt (-1) (-1)) {x6 : Int32} (h_x6 : zs_in x6.toInt 7 7) {x7 : Int32} (h_x7 : zs_in x7.toInt 0 0) {x8 : Int32} (h_x8 : zs_in x8.toInt 0 0) {x9 : Int32} (h_x9 : zs_in x9.toInt 0 6) {t1 : Int32} (h_t1 : zs_in t1.toInt 0 6) {t2 : Int32} {t3 : Int32} (h_t3 : zs_in t3.toInt 0 0) {c : Int} (hc : x9.toInt = c + 0) : zs_ok (BX4_reckon_111 σ 1 27 x3 x4 x6 x7 x8 x9 t1 t2 t3) (fun r => zs_sum (fun v => ((zs_C σ0 v.1 ∧ zs_in (v.2).toInt 1 7)) ∧ v.2.toInt = c + 1) (fun v => False) r) := by
  unfold BX4_reckon_111
  obtain rfl : x3 = (2 : Int32) := zs_eqv h_x3 (by decide)
  obtain rfl : x4 = (-1 : Int32) := zs_eqv h_x4 (by decide)
  obtain rfl : x6 = (7 : Int32) := zs_eqv h_x6 (by decide)
  obtain rfl : x7 = (0 : Int32) := zs_eqv h_x7 (by decide)
  obtain rfl : x8 = (0 : Int32) := zs_eqv h_x8 (by decide)
  obtain rfl : t3 = (0 : Int32) := zs_eqv h_t3 (by decide)
  refine zs_gd (zs_gin h_t1 (by decide)) ?_
  refine zs_lt (Q := fun z => zs_C σ0 z) (zs_wrt h_σ (fun _ => rfl) (fun _ => rfl)) (fun σ_2 hσ_2 => ?_)
  refine zs_lt (Q := fun z => zs_in z.toInt 1 7 ∧ z.toInt = c + 1) ⟨(zs_addI 1 7 h_x9 zlI_1 (by decide)), (zs_syI 1 hc h_x9 zlI_1 (by decide) (by decide))⟩ (fun y_4 hy_4 => ?_)
  exact zs_some (zs_inl ⟨⟨hσ_2, hy_4.1⟩, hy_4.2⟩)
-- BX4_reckon_111
theorem zc_1426 {σ0 : sn_S} {σ : sn_S} (h_σ : zs_C σ0 σ) {x3 : Int32} (h_x3 : zs_in x3.toInt 2 2) {x4 : Int32} (h_x4 : zs_in x4.toInt (-1) (-1)) {x6 : Int32} (h_x6 : zs_in x6.toInt 7 7) {x7 : Int32} (h_x7 : zs_in x7.toInt 0 0) {x8 : Int32} (h_x8 : zs_in x8.toInt 0 0) {x9 : Int32} (h_x9 : zs_in x9.toInt 0 6) {t1 : Int32} (h_t1 : zs_in t1.toInt 0 6) {t2 : Int32} {t3 : Int32} (h_t3 : zs_in t3.toInt 3 3) {c : Int} (hc : x9.toInt = c + 0) : zs_ok (BX4_reckon_111 σ 1 27 x3 x4 x6 x7 x8 x9 t1 t2 t3) (fun r => zs_sum (fun v => ((zs_C σ0 v.1 ∧ zs_in (v.2).toInt 1 7)) ∧ v.2.toInt = c + 1) (fun v => False) r) := by
  unfold BX4_reckon_111
  obtain rfl : x3 = (2 : Int32) := zs_eqv h_x3 (by decide)
  obtain rfl : x4 = (-1 : Int32) := zs_eqv h_x4 (by decide)
  obtain rfl : x6 = (7 : Int32) := zs_eqv h_x6 (by decide)
  obtain rfl : x7 = (0 : Int32) := zs_eqv h_x7 (by decide)
  obtain rfl : x8 = (0 : Int32) := zs_eqv h_x8 (by decide)
  obtain rfl : t3 = (3 : Int32) := zs_eqv h_t3 (by decide)
  refine zs_gd (zs_gin h_t1 (by decide)) ?_
  refine zs_lt (Q := fun z => zs_C σ0 z) (zs_wrt h_σ (fun _ => rfl) (fun _ => rfl)) (fun σ_2 hσ_2 => ?_)
  refine zs_lt (Q := fun z => zs_in z.toInt 1 7 ∧ z.toInt = c + 1) ⟨(zs_addI 1 7 h_x9 zlI_1 (by decide)), (zs_syI 1 hc h_x9 zlI_1 (by decide) (by decide))⟩ (fun y_4 hy_4 => ?_)
  exact zs_some (zs_inl ⟨⟨hσ_2, hy_4.1⟩, hy_4.2⟩)
-- BX4_reckon_68
theorem zc_1427 {σ0 : sn_S} {σ : sn_S} (h_σ : zs_C σ0 σ) {x3 : Int32} (h_x3 : zs_in x3.toInt 2 2) {x4 : Int32} (h_x4 : zs_in x4.toInt (-1) (-1)) {x6 : Int32} (h_x6 : zs_in x6.toInt 7 7) {x7 : Int32} (h_x7 : zs_in x7.toInt 0 0) {x8 : Int32} (h_x8 : zs_in x8.toInt 0 0) {x9 : Int32} (h_x9 : zs_in x9.toInt 0 7) {c : Int} (hc : x9.toInt = c + 0) : zs_ok (BX4_reckon_68 σ 1 27 x3 x4 x6 x7 x8 x9) (fun r => zs_sum (fun v => ((zs_C σ0 v.1 ∧ zs_in (v.2).toInt 1 7)) ∧ v.2.toInt = c + 1) (fun v => zs_C σ0 v) r) := by
  unfold BX4_reckon_68
  obtain rfl : x3 = (2 : Int32) := zs_eqv h_x3 (by decide)
  obtain rfl : x4 = (-1 : Int32) := zs_eqv h_x4 (by decide)
  obtain rfl : x6 = (7 : Int32) := zs_eqv h_x6 (by decide)
  obtain rfl : x7 = (0 : Int32) := zs_eqv h_x7 (by decide)
  obtain rfl : x8 = (0 : Int32) := zs_eqv h_x8 (by decide)
  refine zs_ite (fun c1 => ?_) (fun c1 => ?_)
  · skip
    have r2 := (zs_I_le c1)
    have g3 : zs_in (x9).toInt 7 7 := (zs_ler 7 7 r2 h_x6 h_x9 (by decide))
    exact zs_some (zs_inr (h_σ))
  · skip
    have r4 := (zs_I_len c1)
    have g5 : zs_in (x9).toInt 0 6 := (zs_ltl 0 6 r4 h_x9 h_x6 (by decide))
    refine zs_gd (zs_gin g5 (by decide)) ?_
    refine zs_bd_ (zc_1032 h_x7 (zs_subI 0 6 (zs_subI 6 6 h_x6 zlI_1 (by decide)) g5 (by decide))) (fun t_3 pt_3 => ?_)
    refine zs_ite (fun c6 => ?_) (fun c6 => ?_)
    · skip
      have r7 := (zs_I_eq c6)
      have g8 : zs_in (t_3).toInt 0 0 := (zs_eql 0 0 r7 pt_3 zlI_0 (by decide))
      obtain ⟨ret, er, hr⟩ := zc_1425 h_σ h_x3 h_x4 h_x6 h_x7 h_x8 g5 g5 zlI_0 hc
      refine ⟨ret, er, ?_⟩
      exact (zs_sumw hr (fun v w => ⟨w.1, w.2⟩) (fun v w => w.elim))
    · skip
      have r9 := (zs_I_eqn c6)
      have g10 : zs_in (t_3).toInt 1 1 := (zs_nel 1 1 r9 pt_3 zlI_0 (by decide))
      obtain ⟨ret, er, hr⟩ := zc_1426 h_σ h_x3 h_x4 h_x6 h_x7 h_x8 g5 g5 zlI_3 hc
      refine ⟨ret, er, ?_⟩
      exact (zs_sumw hr (fun v w => ⟨w.1, w.2⟩) (fun v w => w.elim))
theorem zd_276 {σ0 : sn_S} {x3 : Int32} (h_x3 : zs_in x3.toInt 2 2) {x4 : Int32} (h_x4 : zs_in x4.toInt (-1) (-1)) {x6 : Int32} (h_x6 : zs_in x6.toInt 7 7) {x7 : Int32} (h_x7 : zs_in x7.toInt 0 0) {x8 : Int32} (h_x8 : zs_in x8.toInt 0 0) {s0 : (sn_S × Int32)} (h0 : (zs_C σ0 s0.1 ∧ zs_in (s0.2).toInt 0 7)) : zs_ok (sn_it (LX4_reckon_68 1 27 x3 x4 x6 x7 x8) 5000 s0) (fun t => zs_C σ0 t) := by
  refine zs_it (I := fun s => (zs_C σ0 s.1 ∧ zs_in (s.2).toInt 0 7)) (m := fun s => 7 - s.2.toInt) (fun s hs => ?_) (fun s hs => ?_) h0
  · have h1 := hs.2; unfold zs_in at h1
    omega
  · obtain ⟨b, eb, hb⟩ := zc_1427 hs.1 h_x3 h_x4 h_x6 h_x7 h_x8 hs.2 (c := s.2.toInt) (Int.add_zero _).symm
    exact ⟨b, eb, zs_sumw hb (fun v w => ⟨⟨w.1.1, (zs_w w.1.2 (by decide))⟩, by have := w.2; omega⟩) (fun v w => w)⟩
-- BX3_moneyAt_44
theorem zc_1428 {σ0 : sn_S} {σ : sn_S} (h_σ : zs_C σ0 σ) {x1 : Int32} (h_x1 : zs_in x1.toInt 0 6) {x2 : Int32} {x3 : Int32} (h_x3 : zs_in x3.toInt 0 5) {c : Int} (hc : x3.toInt = c + 0) : zs_ok (BX3_moneyAt_44 σ 70 x1 x2 x3) (fun r => zs_sum (fun v => ((True ∧ zs_in (v.2).toInt 1 6)) ∧ v.2.toInt = c + 1) (fun v => False) r) := by
  unfold BX3_moneyAt_44
  refine zs_lt (Q := fun z => zs_in z.toInt 1 6 ∧ z.toInt = c + 1) ⟨(zs_addI 1 6 h_x3 zlI_1 (by decide)), (zs_syI 1 hc h_x3 zlI_1 (by decide) (by decide))⟩ (fun y_1 hy_1 => ?_)
  exact zs_some (zs_inl ⟨⟨trivial, hy_1.1⟩, hy_1.2⟩)
-- BX3_moneyAt_7
theorem zc_1429 {σ0 : sn_S} {σ : sn_S} (h_σ : zs_C σ0 σ) {x1 : Int32} (h_x1 : zs_in x1.toInt 0 6) {x2 : Int32} {x3 : Int32} (h_x3 : zs_in x3.toInt 0 6) {c : Int} (hc : x3.toInt = c + 0) : zs_ok (BX3_moneyAt_7 σ 70 x1 x2 x3) (fun r => zs_sum (fun v => ((True ∧ zs_in (v.2).toInt 1 6)) ∧ v.2.toInt = c + 1) (fun v => True) r) := by
  unfold BX3_moneyAt_7
  refine zs_ite (fun c1 => ?_) (fun c1 => ?_)
  · skip
    have r2 := (zs_I_le c1)
    exact zs_some (zs_inr (trivial))
  · skip
    have r3 := (zs_I_len c1)
    have g4 : zs_in (x3).toInt 0 5 := (zs_ltl 0 5 r3 h_x3 (zs_rdk (q := 70) (k := 2) (z := (0, 6)) h_σ.1 rfl) (by decide))
    have g5 : zs_in ((sn_I σ 70 2)).toInt 1 6 := (zs_ltr 1 6 r3 h_x3 (zs_rdk (q := 70) (k := 2) (z := (0, 6)) h_σ.1 rfl) (by decide))
    refine zs_gd (zs_gin g4 (by decide)) ?_
    refine zs_ite (fun c6 => ?_) (fun c6 => ?_)
    · skip
      have r7 := (zs_I_eq c6)
      have g8 : zs_in ((sn_I σ (70 + 2) x3.toNatClampNeg)).toInt (-1) (-1) := (zs_eql (-1) (-1) r7 (zs_rdu (q := 72) (z := ((-1), 63)) h_σ.1 (fun _ => rfl)) zlI_m1 (by decide))
      obtain ⟨ret, er, hr⟩ := zc_1428 h_σ h_x1 g4 hc
      refine ⟨ret, er, ?_⟩
      exact (zs_sumw hr (fun v w => ⟨w.1, w.2⟩) (fun v w => w.elim))
    · skip
      have r9 := (zs_I_eqn c6)
      have g10 : zs_in ((sn_I σ (70 + 2) x3.toNatClampNeg)).toInt 0 63 := (zs_nel 0 63 r9 (zs_rdu (q := 72) (z := ((-1), 63)) h_σ.1 (fun _ => rfl)) zlI_m1 (by decide))
      refine zs_gd (zs_gin g4 (by decide)) ?_
      refine zs_ite (fun c11 => ?_) (fun c11 => ?_)
      · skip
        have r12 := (zs_I_lt c11)
        have g13 : zs_in ((sn_I σ (70 + 2) x3.toNatClampNeg)).toInt 1 63 := (zs_ltr 1 63 r12 h_x1 g10 (by decide))
        obtain ⟨ret, er, hr⟩ := zc_1428 h_σ h_x1 g4 hc
        refine ⟨ret, er, ?_⟩
        exact (zs_sumw hr (fun v w => ⟨w.1, w.2⟩) (fun v w => w.elim))
      · skip
        have r14 := (zs_I_ltn c11)
        have g15 : zs_in ((sn_I σ (70 + 2) x3.toNatClampNeg)).toInt 0 6 := (zs_lel 0 6 r14 g10 h_x1 (by decide))
        refine zs_gd (zs_gin g4 (by decide)) ?_
        refine zs_lt (Q := fun z => True) trivial (fun y_7 hy_7 => ?_)
        obtain ⟨ret, er, hr⟩ := zc_1428 h_σ h_x1 g4 hc
        refine ⟨ret, er, ?_⟩
        exact (zs_sumw hr (fun v w => ⟨w.1, w.2⟩) (fun v w => w.elim))
theorem zd_277 {σ0 : sn_S} {σ : sn_S} (h_σ : zs_C σ0 σ) {x1 : Int32} (h_x1 : zs_in x1.toInt 0 6) {s0 : (Int32 × Int32)} (h0 : (True ∧ zs_in (s0.2).toInt 0 6)) : zs_ok (sn_it (LX3_moneyAt_7 σ 70 x1) 5000 s0) (fun t => True) := by
  refine zs_it (I := fun s => (True ∧ zs_in (s.2).toInt 0 6)) (m := fun s => 6 - s.2.toInt) (fun s hs => ?_) (fun s hs => ?_) h0
  · have h1 := hs.2; unfold zs_in at h1
    omega
  · obtain ⟨b, eb, hb⟩ := zc_1429 h_σ h_x1 hs.2 (c := s.2.toInt) (Int.add_zero _).symm
    exact ⟨b, eb, zs_sumw hb (fun v w => ⟨⟨w.1.1, (zs_w w.1.2 (by decide))⟩, by have := w.2; omega⟩) (fun v w => w)⟩
-- fX3_moneyAt
theorem zc_1430 {σ0 : sn_S} {σ : sn_S} (h_σ : zs_C σ0 σ) {x1 : Int32} (h_x1 : zs_in x1.toInt 0 6) : zs_ok (fX3_moneyAt σ 70 x1) (fun r => True) := by
  unfold fX3_moneyAt
  refine zs_lt (Q := fun z => True) trivial (fun y_1 hy_1 => ?_)
  refine zs_bd_ (zd_277 h_σ h_x1 (s0 := (y_1, (0 : Int32))) ⟨trivial, (zs_w zlI_0 (by decide))⟩) (fun t_3 pt_3 => ?_)
  obtain ⟨ret, er, hr⟩ := zc_1293 h_σ
  refine ⟨ret, er, ?_⟩
  exact hr
-- BX3_firstBelow_2
theorem zc_1431 {σ0 : sn_S} {σ : sn_S} (h_σ : zs_C σ0 σ) {x1 : Int32} (h_x1 : zs_in x1.toInt 7 7) {x2 : Int32} (h_x2 : zs_in x2.toInt 0 7) {c : Int} (hc : x2.toInt = c + 0) : zs_ok (BX3_firstBelow_2 σ 70 x1 x2) (fun r => zs_sum (fun v => (zs_in (v).toInt 1 7) ∧ v.toInt = c + 1) (fun v => zs_sum (fun v => True) (fun v => zs_in (v).toInt 0 6) v) r) := by
  unfold BX3_firstBelow_2
  obtain rfl : x1 = (7 : Int32) := zs_eqv h_x1 (by decide)
  refine zs_ite (fun c1 => ?_) (fun c1 => ?_)
  · skip
    have r2 := (zs_I_le c1)
    have g3 : zs_in (x2).toInt 7 7 := (zs_ler 7 7 r2 h_x1 h_x2 (by decide))
    exact zs_some (zs_inr ((zs_inl (trivial))))
  · skip
    have r4 := (zs_I_len c1)
    have g5 : zs_in (x2).toInt 0 6 := (zs_ltl 0 6 r4 h_x2 h_x1 (by decide))
    refine zs_bd_ (zc_1430 h_σ g5) (fun t_2 pt_2 => ?_)
    refine zs_ite (fun c6 => ?_) (fun c6 => ?_)
    · skip
      have r7 := (zs_I_le c6)
      have g8 : zs_in (t_2).toInt 0 2147483647 := (zs_ler 0 2147483647 r7 zlI_0 (zs_topI _) (by decide))
      refine zs_lt (Q := fun z => zs_in z.toInt 1 7 ∧ z.toInt = c + 1) ⟨(zs_addI 1 7 g5 zlI_1 (by decide)), (zs_syI 1 hc g5 zlI_1 (by decide) (by decide))⟩ (fun y_5 hy_5 => ?_)
      exact zs_some (zs_inl ⟨hy_5.1, hy_5.2⟩)
    · skip
      have r9 := (zs_I_len c6)
      have g10 : zs_in (t_2).toInt (-2147483648) (-1) := (zs_ltl (-2147483648) (-1) r9 (zs_topI _) zlI_0 (by decide))
      exact zs_some (zs_inr ((zs_inr (g5))))
theorem zd_278 {σ0 : sn_S} {σ : sn_S} (h_σ : zs_C σ0 σ) {x1 : Int32} (h_x1 : zs_in x1.toInt 7 7) {s0 : Int32} (h0 : zs_in (s0).toInt 0 7) : zs_ok (sn_it (LX3_firstBelow_2 σ 70 x1) 5000 s0) (fun t => zs_sum (fun v => True) (fun v => zs_in (v).toInt 0 6) t) := by
  refine zs_it (I := fun s => zs_in (s).toInt 0 7) (m := fun s => 7 - s.toInt) (fun s hs => ?_) (fun s hs => ?_) h0
  · have h1 := hs; unfold zs_in at h1
    omega
  · obtain ⟨b, eb, hb⟩ := zc_1431 h_σ h_x1 hs (c := s.toInt) (Int.add_zero _).symm
    exact ⟨b, eb, zs_sumw hb (fun v w => ⟨(zs_w w.1 (by decide)), by have := w.2; omega⟩) (fun v w => w)⟩
-- fX3_firstBelow
theorem zc_1432 {σ0 : sn_S} {σ : sn_S} (h_σ : zs_C σ0 σ) {x1 : Int32} (h_x1 : zs_in x1.toInt 7 7) : zs_ok (fX3_firstBelow σ 70 x1) (fun r => zs_in (r).toInt (-1) 6) := by
  unfold fX3_firstBelow
  obtain rfl : x1 = (7 : Int32) := zs_eqv h_x1 (by decide)
  refine zs_bd_ (zd_278 h_σ h_x1 (s0 := (0 : Int32)) (zs_w zlI_0 (by decide))) (fun t_1 pt_1 => ?_)
  refine zs_elim pt_1 (fun v_3 pv_3 => ?_) (fun r_4 pr_4 => ?_)
  · skip
    obtain ⟨ret, er, hr⟩ := zc_1296 h_σ
    refine ⟨ret, er, ?_⟩
    exact (zs_w hr (by decide))
  · skip
    exact zs_some (zs_w pr_4 (by decide))
-- fX4_worth
theorem zc_1433 {σ0 : sn_S} {σ : sn_S} (h_σ : zs_C σ0 σ) {x2 : Int32} (h_x2 : zs_in x2.toInt 2 2) {x3 : Int32} (h_x3 : zs_in x3.toInt (-1) (-1)) {x4 : Int32} (h_x4 : zs_in x4.toInt 7 7) : zs_ok (fX4_worth σ 1 x2 x3 x4) (fun r => (zs_in (r.1).toInt 0 1 ∧ zs_C σ0 r.2)) := by
  unfold fX4_worth
  obtain rfl : x2 = (2 : Int32) := zs_eqv h_x2 (by decide)
  obtain rfl : x3 = (-1 : Int32) := zs_eqv h_x3 (by decide)
  obtain rfl : x4 = (7 : Int32) := zs_eqv h_x4 (by decide)
  refine zs_ite (fun c1 => ?_) (fun c1 => ?_)
  · skip
    have r2 := (zs_I_eq c1)
    exact (zs_botr r2 h_x2 zlI_0 (by decide)).elim
  · skip
    have r3 := (zs_I_eqn c1)
    refine zs_gd (zs_gin zlI_2 (by decide)) ?_
    refine zs_bd_ (zo_reckon_70_59_0_3 h_σ (zs_rdk (q := 2) (k := (2 : Int32).toNatClampNeg) (z := (0, 3)) h_σ.1 rfl)) (fun t_3 pt_3 => ?_)
    refine zs_ite (fun c4 => ?_) (fun c4 => ?_)
    · skip
      have r5 := (zs_I_eq c4)
      exact (zs_botr r5 h_x2 zlI_1 (by decide)).elim
    · skip
      have r6 := (zs_I_eqn c4)
      refine zs_bd_ (zc_1432 pt_3 h_x4) (fun t_6 pt_6 => ?_)
      refine zs_ite (fun c7 => ?_) (fun c7 => ?_)
      · skip
        have r8 := (zs_I_eq c7)
        have g9 : zs_in (t_6).toInt (-1) (-1) := (zs_eql (-1) (-1) r8 pt_6 zlI_m1 (by decide))
        exact zs_some ⟨(zs_w zlL_0 (by decide)), pt_3⟩
      · skip
        have r10 := (zs_I_eqn c7)
        have g11 : zs_in (t_6).toInt 0 6 := (zs_nel 0 6 r10 pt_6 zlI_m1 (by decide))
        exact zs_some ⟨(zs_w zlL_1 (by decide)), pt_3⟩
-- BX4_reckon_139
theorem zc_1434 {σ0 : sn_S} {σ : sn_S} (h_σ : zs_C σ0 σ) {x3 : Int32} (h_x3 : zs_in x3.toInt 2 2) {x4 : Int32} (h_x4 : zs_in x4.toInt (-1) (-1)) {x6 : Int32} (h_x6 : zs_in x6.toInt 7 7) {x7 : Int32} (h_x7 : zs_in x7.toInt 0 0) {t1 : Int32} (h_t1 : zs_in t1.toInt 0 0) {t2 : Int32} (h_t2 : zs_in t2.toInt 0 30) {c : Int} (hc : x7.toInt = c + 0) : zs_ok (BX4_reckon_139 σ 1 27 x3 x4 x6 x7 t1 t2) (fun r => zs_sum (fun v => ((zs_C σ0 v.1 ∧ zs_in (v.2).toInt 1 1)) ∧ v.2.toInt = c + 1) (fun v => False) r) := by
  unfold BX4_reckon_139
  obtain rfl : x3 = (2 : Int32) := zs_eqv h_x3 (by decide)
  obtain rfl : x4 = (-1 : Int32) := zs_eqv h_x4 (by decide)
  obtain rfl : x6 = (7 : Int32) := zs_eqv h_x6 (by decide)
  obtain rfl : t1 = (0 : Int32) := zs_eqv h_t1 (by decide)
  refine zs_bd_ (zc_1290 h_σ h_t1 h_t2) (fun t_1 pt_1 => ?_)
  refine zs_bd_ (zo_bc 0 0 (by decide) h_x7) (fun t_3 pt_3 => ?_)
  refine zs_gd (zs_gin pt_3 (by decide)) ?_
  refine zs_bd_ (zc_1433 pt_1 h_x3 h_x4 h_x6) (fun t_6 pt_6 => ?_)
  refine zs_lt (Q := fun z => zs_C σ0 z) (zs_wrL pt_6.2 rfl) (fun σ_8 hσ_8 => ?_)
  refine zs_lt (Q := fun z => zs_in z.toInt 1 1 ∧ z.toInt = c + 1) ⟨(zs_addI 1 1 h_x7 zlI_1 (by decide)), (zs_syI 1 hc h_x7 zlI_1 (by decide) (by decide))⟩ (fun y_10 hy_10 => ?_)
  exact zs_some (zs_inl ⟨⟨hσ_8, hy_10.1⟩, hy_10.2⟩)
-- BX4_reckon_119
theorem zc_1435 {σ0 : sn_S} {σ : sn_S} (h_σ : zs_C σ0 σ) {x3 : Int32} (h_x3 : zs_in x3.toInt 2 2) {x4 : Int32} (h_x4 : zs_in x4.toInt (-1) (-1)) {x6 : Int32} (h_x6 : zs_in x6.toInt 7 7) {x7 : Int32} (h_x7 : zs_in x7.toInt 0 0) {x8 : Int32} (h_x8 : zs_in x8.toInt 0 0) {c : Int} (hc : x7.toInt = c + 0) : zs_ok (BX4_reckon_119 σ 1 27 x3 x4 x6 x7 x8) (fun r => zs_sum (fun v => ((zs_C σ0 v.1 ∧ zs_in (v.2).toInt 1 1)) ∧ v.2.toInt = c + 1) (fun v => False) r) := by
  unfold BX4_reckon_119
  obtain rfl : x3 = (2 : Int32) := zs_eqv h_x3 (by decide)
  obtain rfl : x4 = (-1 : Int32) := zs_eqv h_x4 (by decide)
  obtain rfl : x6 = (7 : Int32) := zs_eqv h_x6 (by decide)
  obtain rfl : x8 = (0 : Int32) := zs_eqv h_x8 (by decide)
  refine zs_ite (fun c1 => ?_) (fun c1 => ?_)
  · skip
    have r2 := (zs_I_eq c1)
    obtain ⟨ret, er, hr⟩ := zc_1434 h_σ h_x3 h_x4 h_x6 h_x7 h_x8 (zs_rdk (q := 27) (k := 0) (z := (0, 30)) h_σ.1 rfl) hc
    refine ⟨ret, er, ?_⟩
    exact (zs_sumw hr (fun v w => ⟨w.1, w.2⟩) (fun v w => w.elim))
  · skip
    have r3 := (zs_I_eqn c1)
    exact (zs_botne r3 h_x3 zlI_2 (by decide)).elim
-- BX4_reckon_62
theorem zc_1436 {σ0 : sn_S} {σ : sn_S} (h_σ : zs_C σ0 σ) {x3 : Int32} (h_x3 : zs_in x3.toInt 2 2) {x4 : Int32} (h_x4 : zs_in x4.toInt (-1) (-1)) {x6 : Int32} (h_x6 : zs_in x6.toInt 7 7) {x7 : Int32} (h_x7 : zs_in x7.toInt 0 0) {t0 : Int32} (h_t0 : zs_in t0.toInt 0 0) {c : Int} (hc : x7.toInt = c + 0) : zs_ok (BX4_reckon_62 σ 1 27 x3 x4 x6 x7 t0) (fun r => zs_sum (fun v => ((zs_C σ0 v.1 ∧ zs_in (v.2).toInt 1 1)) ∧ v.2.toInt = c + 1) (fun v => False) r) := by
  unfold BX4_reckon_62
  obtain rfl : x3 = (2 : Int32) := zs_eqv h_x3 (by decide)
  obtain rfl : x4 = (-1 : Int32) := zs_eqv h_x4 (by decide)
  obtain rfl : x6 = (7 : Int32) := zs_eqv h_x6 (by decide)
  obtain rfl : t0 = (0 : Int32) := zs_eqv h_t0 (by decide)
  refine zs_bd_ (zd_276 h_x3 h_x4 h_x6 h_x7 h_t0 (s0 := (σ, (0 : Int32))) ⟨h_σ, (zs_w h_t0 (by decide))⟩) (fun t_1 pt_1 => ?_)
  obtain ⟨ret, er, hr⟩ := zc_1435 pt_1 h_x3 h_x4 h_x6 h_x7 h_t0 hc
  refine ⟨ret, er, ?_⟩
  exact (zs_sumw hr (fun v w => ⟨w.1, w.2⟩) (fun v w => w.elim))
-- BX4_reckon_111
theorem zc_1437 {σ0 : sn_S} {σ : sn_S} (h_σ : zs_C σ0 σ) {x3 : Int32} (h_x3 : zs_in x3.toInt 2 2) {x4 : Int32} (h_x4 : zs_in x4.toInt (-1) (-1)) {x6 : Int32} (h_x6 : zs_in x6.toInt 7 7) {x7 : Int32} (h_x7 : zs_in x7.toInt 1 127) {x8 : Int32} (h_x8 : zs_in x8.toInt 0 6) {x9 : Int32} (h_x9 : zs_in x9.toInt 0 6) {t1 : Int32} (h_t1 : zs_in t1.toInt 0 6) {t2 : Int32} {t3 : Int32} (h_t3 : zs_in t3.toInt 0 0) {c : Int} (hc : x9.toInt = c + 0) : zs_ok (BX4_reckon_111 σ 1 27 x3 x4 x6 x7 x8 x9 t1 t2 t3) (fun r => zs_sum (fun v => ((zs_C σ0 v.1 ∧ zs_in (v.2).toInt 1 7)) ∧ v.2.toInt = c + 1) (fun v => False) r) := by
  unfold BX4_reckon_111
  obtain rfl : x3 = (2 : Int32) := zs_eqv h_x3 (by decide)
  obtain rfl : x4 = (-1 : Int32) := zs_eqv h_x4 (by decide)
  obtain rfl : x6 = (7 : Int32) := zs_eqv h_x6 (by decide)
  obtain rfl : t3 = (0 : Int32) := zs_eqv h_t3 (by decide)
  refine zs_gd (zs_gin h_t1 (by decide)) ?_
  refine zs_lt (Q := fun z => zs_C σ0 z) (zs_wrt h_σ (fun _ => rfl) (fun _ => rfl)) (fun σ_2 hσ_2 => ?_)
  refine zs_lt (Q := fun z => zs_in z.toInt 1 7 ∧ z.toInt = c + 1) ⟨(zs_addI 1 7 h_x9 zlI_1 (by decide)), (zs_syI 1 hc h_x9 zlI_1 (by decide) (by decide))⟩ (fun y_4 hy_4 => ?_)
  exact zs_some (zs_inl ⟨⟨hσ_2, hy_4.1⟩, hy_4.2⟩)
-- BX4_reckon_111
theorem zc_1438 {σ0 : sn_S} {σ : sn_S} (h_σ : zs_C σ0 σ) {x3 : Int32} (h_x3 : zs_in x3.toInt 2 2) {x4 : Int32} (h_x4 : zs_in x4.toInt (-1) (-1)) {x6 : Int32} (h_x6 : zs_in x6.toInt 7 7) {x7 : Int32} (h_x7 : zs_in x7.toInt 1 127) {x8 : Int32} (h_x8 : zs_in x8.toInt 0 6) {x9 : Int32} (h_x9 : zs_in x9.toInt 0 6) {t1 : Int32} (h_t1 : zs_in t1.toInt 0 6) {t2 : Int32} {t3 : Int32} (h_t3 : zs_in t3.toInt 3 3) {c : Int} (hc : x9.toInt = c + 0) : zs_ok (BX4_reckon_111 σ 1 27 x3 x4 x6 x7 x8 x9 t1 t2 t3) (fun r => zs_sum (fun v => ((zs_C σ0 v.1 ∧ zs_in (v.2).toInt 1 7)) ∧ v.2.toInt = c + 1) (fun v => False) r) := by
  unfold BX4_reckon_111
  obtain rfl : x3 = (2 : Int32) := zs_eqv h_x3 (by decide)
  obtain rfl : x4 = (-1 : Int32) := zs_eqv h_x4 (by decide)
  obtain rfl : x6 = (7 : Int32) := zs_eqv h_x6 (by decide)
  obtain rfl : t3 = (3 : Int32) := zs_eqv h_t3 (by decide)
  refine zs_gd (zs_gin h_t1 (by decide)) ?_
  refine zs_lt (Q := fun z => zs_C σ0 z) (zs_wrt h_σ (fun _ => rfl) (fun _ => rfl)) (fun σ_2 hσ_2 => ?_)
  refine zs_lt (Q := fun z => zs_in z.toInt 1 7 ∧ z.toInt = c + 1) ⟨(zs_addI 1 7 h_x9 zlI_1 (by decide)), (zs_syI 1 hc h_x9 zlI_1 (by decide) (by decide))⟩ (fun y_4 hy_4 => ?_)
  exact zs_some (zs_inl ⟨⟨hσ_2, hy_4.1⟩, hy_4.2⟩)
-- BX4_reckon_68
theorem zc_1439 {σ0 : sn_S} {σ : sn_S} (h_σ : zs_C σ0 σ) {x3 : Int32} (h_x3 : zs_in x3.toInt 2 2) {x4 : Int32} (h_x4 : zs_in x4.toInt (-1) (-1)) {x6 : Int32} (h_x6 : zs_in x6.toInt 7 7) {x7 : Int32} (h_x7 : zs_in x7.toInt 1 127) {x8 : Int32} (h_x8 : zs_in x8.toInt 0 6) {x9 : Int32} (h_x9 : zs_in x9.toInt 0 7) {c : Int} (hc : x9.toInt = c + 0) : zs_ok (BX4_reckon_68 σ 1 27 x3 x4 x6 x7 x8 x9) (fun r => zs_sum (fun v => ((zs_C σ0 v.1 ∧ zs_in (v.2).toInt 1 7)) ∧ v.2.toInt = c + 1) (fun v => zs_C σ0 v) r) := by
  unfold BX4_reckon_68
  obtain rfl : x3 = (2 : Int32) := zs_eqv h_x3 (by decide)
  obtain rfl : x4 = (-1 : Int32) := zs_eqv h_x4 (by decide)
  obtain rfl : x6 = (7 : Int32) := zs_eqv h_x6 (by decide)
  refine zs_ite (fun c1 => ?_) (fun c1 => ?_)
  · skip
    have r2 := (zs_I_le c1)
    have g3 : zs_in (x9).toInt 7 7 := (zs_ler 7 7 r2 h_x6 h_x9 (by decide))
    exact zs_some (zs_inr (h_σ))
  · skip
    have r4 := (zs_I_len c1)
    have g5 : zs_in (x9).toInt 0 6 := (zs_ltl 0 6 r4 h_x9 h_x6 (by decide))
    refine zs_gd (zs_gin g5 (by decide)) ?_
    refine zs_bd_ (zc_1067 h_x7 (zs_subI 0 6 (zs_subI 6 6 h_x6 zlI_1 (by decide)) g5 (by decide))) (fun t_3 pt_3 => ?_)
    refine zs_ite (fun c6 => ?_) (fun c6 => ?_)
    · skip
      have r7 := (zs_I_eq c6)
      have g8 : zs_in (t_3).toInt 0 0 := (zs_eql 0 0 r7 pt_3 zlI_0 (by decide))
      obtain ⟨ret, er, hr⟩ := zc_1437 h_σ h_x3 h_x4 h_x6 h_x7 h_x8 g5 g5 zlI_0 hc
      refine ⟨ret, er, ?_⟩
      exact (zs_sumw hr (fun v w => ⟨w.1, w.2⟩) (fun v w => w.elim))
    · skip
      have r9 := (zs_I_eqn c6)
      have g10 : zs_in (t_3).toInt 1 1 := (zs_nel 1 1 r9 pt_3 zlI_0 (by decide))
      obtain ⟨ret, er, hr⟩ := zc_1438 h_σ h_x3 h_x4 h_x6 h_x7 h_x8 g5 g5 zlI_3 hc
      refine ⟨ret, er, ?_⟩
      exact (zs_sumw hr (fun v w => ⟨w.1, w.2⟩) (fun v w => w.elim))
theorem zd_279 {σ0 : sn_S} {x3 : Int32} (h_x3 : zs_in x3.toInt 2 2) {x4 : Int32} (h_x4 : zs_in x4.toInt (-1) (-1)) {x6 : Int32} (h_x6 : zs_in x6.toInt 7 7) {x7 : Int32} (h_x7 : zs_in x7.toInt 1 127) {x8 : Int32} (h_x8 : zs_in x8.toInt 0 6) {s0 : (sn_S × Int32)} (h0 : (zs_C σ0 s0.1 ∧ zs_in (s0.2).toInt 0 7)) : zs_ok (sn_it (LX4_reckon_68 1 27 x3 x4 x6 x7 x8) 5000 s0) (fun t => zs_C σ0 t) := by
  refine zs_it (I := fun s => (zs_C σ0 s.1 ∧ zs_in (s.2).toInt 0 7)) (m := fun s => 7 - s.2.toInt) (fun s hs => ?_) (fun s hs => ?_) h0
  · have h1 := hs.2; unfold zs_in at h1
    omega
  · obtain ⟨b, eb, hb⟩ := zc_1439 hs.1 h_x3 h_x4 h_x6 h_x7 h_x8 hs.2 (c := s.2.toInt) (Int.add_zero _).symm
    exact ⟨b, eb, zs_sumw hb (fun v w => ⟨⟨w.1.1, (zs_w w.1.2 (by decide))⟩, by have := w.2; omega⟩) (fun v w => w)⟩
-- BX0_live_2
theorem zc_1440 {σ0 : sn_S} {σ : sn_S} (h_σ : zs_C σ0 σ) {x1 : Int32} (h_x1 : zs_in x1.toInt 0 6) {x2 : Int32} (h_x2 : zs_in x2.toInt 0 30) {x3 : Int32} (h_x3 : zs_in x3.toInt 0 6) {c : Int} (hc : x3.toInt = c + 0) : zs_ok (BX0_live_2 σ 59 x1 x2 x3) (fun r => zs_sum (fun v => ((zs_C σ0 v.1 ∧ zs_in (v.2).toInt 1 6)) ∧ v.2.toInt = c + 1) (fun v => zs_C σ0 v) r) := by
  unfold BX0_live_2
  refine zs_ite (fun c1 => ?_) (fun c1 => ?_)
  · skip
    have r2 := (zs_I_le c1)
    exact zs_some (zs_inr (h_σ))
  · skip
    have r3 := (zs_I_len c1)
    have g4 : zs_in (x3).toInt 0 5 := (zs_ltl 0 5 r3 h_x3 (zs_rdk (q := 59) (k := 1) (z := (0, 6)) h_σ.1 rfl) (by decide))
    have g5 : zs_in ((sn_I σ 59 1)).toInt 1 6 := (zs_ltr 1 6 r3 h_x3 (zs_rdk (q := 59) (k := 1) (z := (0, 6)) h_σ.1 rfl) (by decide))
    refine zs_gd (zs_gin g4 (by decide)) ?_
    refine zs_bd_ (zc_1071 h_x1) (fun t_3 pt_3 => ?_)
    refine zs_gd (zs_gin g4 (by decide)) ?_
    refine zs_lt (Q := fun z => zs_C σ0 z) (zs_wru (z := (0, 1073741823)) h_σ (fun _ => rfl) (zs_and pt_3 (by decide)) (by decide) (fun _ => rfl)) (fun σ_6 hσ_6 => ?_)
    refine zs_lt (Q := fun z => zs_in z.toInt 1 6 ∧ z.toInt = c + 1) ⟨(zs_addI 1 6 g4 zlI_1 (by decide)), (zs_syI 1 hc g4 zlI_1 (by decide) (by decide))⟩ (fun y_8 hy_8 => ?_)
    exact zs_some (zs_inl ⟨⟨hσ_6, hy_8.1⟩, hy_8.2⟩)
theorem zd_280 {σ0 : sn_S} {x1 : Int32} (h_x1 : zs_in x1.toInt 0 6) {x2 : Int32} (h_x2 : zs_in x2.toInt 0 30) {s0 : (sn_S × Int32)} (h0 : (zs_C σ0 s0.1 ∧ zs_in (s0.2).toInt 0 6)) : zs_ok (sn_it (LX0_live_2 59 x1 x2) 5000 s0) (fun t => zs_C σ0 t) := by
  refine zs_it (I := fun s => (zs_C σ0 s.1 ∧ zs_in (s.2).toInt 0 6)) (m := fun s => 6 - s.2.toInt) (fun s hs => ?_) (fun s hs => ?_) h0
  · have h1 := hs.2; unfold zs_in at h1
    omega
  · obtain ⟨b, eb, hb⟩ := zc_1440 hs.1 h_x1 h_x2 hs.2 (c := s.2.toInt) (Int.add_zero _).symm
    exact ⟨b, eb, zs_sumw hb (fun v w => ⟨⟨w.1.1, (zs_w w.1.2 (by decide))⟩, by have := w.2; omega⟩) (fun v w => w)⟩
-- BX0_live_29
theorem zc_1441 {σ0 : sn_S} {σ : sn_S} (h_σ : zs_C σ0 σ) {x1 : Int32} (h_x1 : zs_in x1.toInt 0 6) {x2 : Int32} (h_x2 : zs_in x2.toInt 0 30) : zs_ok (BX0_live_29 σ 59 x1 x2) (fun r => zs_C σ0 r) := by
  unfold BX0_live_29
  refine zs_bd_ (zd_241 h_x2 (s0 := (σ, x1)) ⟨h_σ, (zs_w h_x1 (by decide))⟩) (fun t_1 pt_1 => ?_)
  obtain ⟨ret, er, hr⟩ := zc_724 pt_1
  refine ⟨ret, er, ?_⟩
  exact hr
-- fX0_live
theorem zc_1442 {σ0 : sn_S} {σ : sn_S} (h_σ : zs_C σ0 σ) {x1 : Int32} (h_x1 : zs_in x1.toInt 0 6) {x2 : Int32} (h_x2 : zs_in x2.toInt 0 30) : zs_ok (fX0_live σ 59 x1 x2) (fun r => zs_C σ0 r) := by
  unfold fX0_live
  refine zs_bd_ (zd_280 h_x1 h_x2 (s0 := (σ, (0 : Int32))) ⟨h_σ, (zs_w zlI_0 (by decide))⟩) (fun t_1 pt_1 => ?_)
  obtain ⟨ret, er, hr⟩ := zc_1441 pt_1 h_x1 h_x2
  refine ⟨ret, er, ?_⟩
  exact hr
-- BX4_reckon_139
theorem zc_1443 {σ0 : sn_S} {σ : sn_S} (h_σ : zs_C σ0 σ) {x3 : Int32} (h_x3 : zs_in x3.toInt 2 2) {x4 : Int32} (h_x4 : zs_in x4.toInt (-1) (-1)) {x6 : Int32} (h_x6 : zs_in x6.toInt 7 7) {x7 : Int32} (h_x7 : zs_in x7.toInt 1 127) {t1 : Int32} (h_t1 : zs_in t1.toInt 0 6) {t2 : Int32} (h_t2 : zs_in t2.toInt 0 30) {c : Int} (hc : x7.toInt = c + 0) : zs_ok (BX4_reckon_139 σ 1 27 x3 x4 x6 x7 t1 t2) (fun r => zs_sum (fun v => ((zs_C σ0 v.1 ∧ zs_in (v.2).toInt 2 128)) ∧ v.2.toInt = c + 1) (fun v => False) r) := by
  unfold BX4_reckon_139
  obtain rfl : x3 = (2 : Int32) := zs_eqv h_x3 (by decide)
  obtain rfl : x4 = (-1 : Int32) := zs_eqv h_x4 (by decide)
  obtain rfl : x6 = (7 : Int32) := zs_eqv h_x6 (by decide)
  refine zs_bd_ (zc_1442 h_σ h_t1 h_t2) (fun t_1 pt_1 => ?_)
  refine zs_bd_ (zo_bc 7 7 (by decide) h_x7) (fun t_3 pt_3 => ?_)
  refine zs_gd (zs_gin pt_3 (by decide)) ?_
  refine zs_bd_ (zc_1433 pt_1 h_x3 h_x4 h_x6) (fun t_6 pt_6 => ?_)
  refine zs_lt (Q := fun z => zs_C σ0 z) (zs_wrL pt_6.2 rfl) (fun σ_8 hσ_8 => ?_)
  refine zs_lt (Q := fun z => zs_in z.toInt 2 128 ∧ z.toInt = c + 1) ⟨(zs_addI 2 128 h_x7 zlI_1 (by decide)), (zs_syI 1 hc h_x7 zlI_1 (by decide) (by decide))⟩ (fun y_10 hy_10 => ?_)
  exact zs_some (zs_inl ⟨⟨hσ_8, hy_10.1⟩, hy_10.2⟩)
-- BX4_reckon_119
theorem zc_1444 {σ0 : sn_S} {σ : sn_S} (h_σ : zs_C σ0 σ) {x3 : Int32} (h_x3 : zs_in x3.toInt 2 2) {x4 : Int32} (h_x4 : zs_in x4.toInt (-1) (-1)) {x6 : Int32} (h_x6 : zs_in x6.toInt 7 7) {x7 : Int32} (h_x7 : zs_in x7.toInt 1 127) {x8 : Int32} (h_x8 : zs_in x8.toInt 0 6) {c : Int} (hc : x7.toInt = c + 0) : zs_ok (BX4_reckon_119 σ 1 27 x3 x4 x6 x7 x8) (fun r => zs_sum (fun v => ((zs_C σ0 v.1 ∧ zs_in (v.2).toInt 2 128)) ∧ v.2.toInt = c + 1) (fun v => False) r) := by
  unfold BX4_reckon_119
  obtain rfl : x3 = (2 : Int32) := zs_eqv h_x3 (by decide)
  obtain rfl : x4 = (-1 : Int32) := zs_eqv h_x4 (by decide)
  obtain rfl : x6 = (7 : Int32) := zs_eqv h_x6 (by decide)
  refine zs_ite (fun c1 => ?_) (fun c1 => ?_)
  · skip
    have r2 := (zs_I_eq c1)
    obtain ⟨ret, er, hr⟩ := zc_1443 h_σ h_x3 h_x4 h_x6 h_x7 h_x8 (zs_rdk (q := 27) (k := 0) (z := (0, 30)) h_σ.1 rfl) hc
    refine ⟨ret, er, ?_⟩
    exact (zs_sumw hr (fun v w => ⟨w.1, w.2⟩) (fun v w => w.elim))
  · skip
    have r3 := (zs_I_eqn c1)
    exact (zs_botne r3 h_x3 zlI_2 (by decide)).elim
-- BX4_reckon_62
theorem zc_1445 {σ0 : sn_S} {σ : sn_S} (h_σ : zs_C σ0 σ) {x3 : Int32} (h_x3 : zs_in x3.toInt 2 2) {x4 : Int32} (h_x4 : zs_in x4.toInt (-1) (-1)) {x6 : Int32} (h_x6 : zs_in x6.toInt 7 7) {x7 : Int32} (h_x7 : zs_in x7.toInt 1 127) {t0 : Int32} (h_t0 : zs_in t0.toInt 0 6) {c : Int} (hc : x7.toInt = c + 0) : zs_ok (BX4_reckon_62 σ 1 27 x3 x4 x6 x7 t0) (fun r => zs_sum (fun v => ((zs_C σ0 v.1 ∧ zs_in (v.2).toInt 2 128)) ∧ v.2.toInt = c + 1) (fun v => False) r) := by
  unfold BX4_reckon_62
  obtain rfl : x3 = (2 : Int32) := zs_eqv h_x3 (by decide)
  obtain rfl : x4 = (-1 : Int32) := zs_eqv h_x4 (by decide)
  obtain rfl : x6 = (7 : Int32) := zs_eqv h_x6 (by decide)
  refine zs_bd_ (zd_279 h_x3 h_x4 h_x6 h_x7 h_t0 (s0 := (σ, t0)) ⟨h_σ, (zs_w h_t0 (by decide))⟩) (fun t_1 pt_1 => ?_)
  obtain ⟨ret, er, hr⟩ := zc_1444 pt_1 h_x3 h_x4 h_x6 h_x7 h_t0 hc
  refine ⟨ret, er, ?_⟩
  exact (zs_sumw hr (fun v w => ⟨w.1, w.2⟩) (fun v w => w.elim))
-- BX4_reckon_34
theorem zc_1446 {σ0 : sn_S} {σ : sn_S} (h_σ : zs_C σ0 σ) {x3 : Int32} (h_x3 : zs_in x3.toInt 2 2) {x4 : Int32} (h_x4 : zs_in x4.toInt (-1) (-1)) {x6 : Int32} (h_x6 : zs_in x6.toInt 7 7) {x7 : Int32} (h_x7 : zs_in x7.toInt 0 128) {c : Int} (hc : x7.toInt = c + 0) : zs_ok (BX4_reckon_34 σ 1 27 x3 x4 x6 x7) (fun r => zs_sum (fun v => ((zs_C σ0 v.1 ∧ zs_in (v.2).toInt 1 128)) ∧ v.2.toInt = c + 1) (fun v => zs_C σ0 v) r) := by
  unfold BX4_reckon_34
  obtain rfl : x3 = (2 : Int32) := zs_eqv h_x3 (by decide)
  obtain rfl : x4 = (-1 : Int32) := zs_eqv h_x4 (by decide)
  obtain rfl : x6 = (7 : Int32) := zs_eqv h_x6 (by decide)
  refine zs_ite (fun c1 => ?_) (fun c1 => ?_)
  · skip
    have r2 := (zs_I_le c1)
    have g3 : zs_in (x7).toInt 128 128 := (zs_ler 128 128 r2 (zs_cases h_x6 (fun z => zs_in ((1 : Int32) <<< (z &&& 31)).toInt 128 128) (by decide +kernel)) h_x7 (by decide))
    exact zs_some (zs_inr (h_σ))
  · skip
    have r4 := (zs_I_len c1)
    have g5 : zs_in (x7).toInt 0 127 := (zs_ltl 0 127 r4 h_x7 (zs_cases h_x6 (fun z => zs_in ((1 : Int32) <<< (z &&& 31)).toInt 128 128) (by decide +kernel)) (by decide))
    refine zs_ite (fun c6 => ?_) (fun c6 => ?_)
    · skip
      have r7 := (zs_I_eq c6)
      have g8 : zs_in (x7).toInt 0 0 := (zs_eql 0 0 r7 g5 zlI_0 (by decide))
      obtain ⟨ret, er, hr⟩ := zc_1436 h_σ h_x3 h_x4 h_x6 g8 zlI_0 hc
      refine ⟨ret, er, ?_⟩
      exact (zs_sumw hr (fun v w => ⟨⟨w.1.1, (zs_w w.1.2 (by decide))⟩, w.2⟩) (fun v w => w.elim))
    · skip
      have r9 := (zs_I_eqn c6)
      have g10 : zs_in (x7).toInt 1 127 := (zs_nel 1 127 r9 g5 zlI_0 (by decide))
      refine zs_bd_ (zo_low1 7 6 (by decide) g10) (fun t_3 pt_3 => ?_)
      obtain ⟨ret, er, hr⟩ := zc_1445 h_σ h_x3 h_x4 h_x6 g10 (zs_subI 0 6 (zs_subI 6 6 h_x6 zlI_1 (by decide)) pt_3 (by decide)) hc
      refine ⟨ret, er, ?_⟩
      exact (zs_sumw hr (fun v w => ⟨⟨w.1.1, (zs_w w.1.2 (by decide))⟩, w.2⟩) (fun v w => w.elim))
theorem zd_281 {σ0 : sn_S} {x3 : Int32} (h_x3 : zs_in x3.toInt 2 2) {x4 : Int32} (h_x4 : zs_in x4.toInt (-1) (-1)) {x6 : Int32} (h_x6 : zs_in x6.toInt 7 7) {s0 : (sn_S × Int32)} (h0 : (zs_C σ0 s0.1 ∧ zs_in (s0.2).toInt 0 128)) : zs_ok (sn_it (LX4_reckon_34 1 27 x3 x4 x6) 5000 s0) (fun t => zs_C σ0 t) := by
  refine zs_it (I := fun s => (zs_C σ0 s.1 ∧ zs_in (s.2).toInt 0 128)) (m := fun s => 128 - s.2.toInt) (fun s hs => ?_) (fun s hs => ?_) h0
  · have h1 := hs.2; unfold zs_in at h1
    omega
  · obtain ⟨b, eb, hb⟩ := zc_1446 hs.1 h_x3 h_x4 h_x6 hs.2 (c := s.2.toInt) (Int.add_zero _).symm
    exact ⟨b, eb, zs_sumw hb (fun v w => ⟨⟨w.1.1, (zs_w w.1.2 (by decide))⟩, by have := w.2; omega⟩) (fun v w => w)⟩
-- fX4_reckon
theorem zc_1447 {σ0 : sn_S} {σ : sn_S} (h_σ : zs_C σ0 σ) {x3 : Int32} (h_x3 : zs_in x3.toInt 2 2) {x4 : Int32} (h_x4 : zs_in x4.toInt (-1) (-1)) {x5 : Int32} (h_x5 : zs_in x5.toInt 6 6) : zs_ok (fX4_reckon σ 1 27 x3 x4 x5) (fun r => zs_C σ0 r) := by
  unfold fX4_reckon
  obtain rfl : x3 = (2 : Int32) := zs_eqv h_x3 (by decide)
  obtain rfl : x4 = (-1 : Int32) := zs_eqv h_x4 (by decide)
  obtain rfl : x5 = (6 : Int32) := zs_eqv h_x5 (by decide)
  refine zs_lt (Q := fun z => zs_in z.toInt 7 7) (zs_addI 7 7 h_x5 zlI_1 (by decide)) (fun y_1 hy_1 => ?_)
  refine zs_gd (zs_gin zlI_4 (by decide)) ?_
  refine zs_bd_ (zc_1031 h_σ hy_1 (zs_rdk (q := 2) (k := (4 : Int32).toNatClampNeg) (z := (0, 10)) h_σ.1 rfl)) (fun t_4 pt_4 => ?_)
  refine zs_bd_ (zo_dcopy pt_4) (fun t_6 pt_6 => ?_)
  refine zs_lt (Q := fun z => zs_C σ0 z) (zs_wrL pt_6 rfl) (fun σ_8 hσ_8 => ?_)
  refine zs_bd_ (zd_281 h_x3 h_x4 hy_1 (s0 := (σ_8, (0 : Int32))) ⟨hσ_8, (zs_w zlI_0 (by decide))⟩) (fun t_10 pt_10 => ?_)
  obtain ⟨ret, er, hr⟩ := zc_1080 pt_10 hy_1
  refine ⟨ret, er, ?_⟩
  exact hr
-- BX4_reckon_111
theorem zc_1448 {σ0 : sn_S} {σ : sn_S} (h_σ : zs_C σ0 σ) {x3 : Int32} (h_x3 : zs_in x3.toInt 2 2) {x4 : Int32} (h_x4 : zs_in x4.toInt (-1) (-1)) {x6 : Int32} (h_x6 : zs_in x6.toInt 8 8) {x7 : Int32} (h_x7 : zs_in x7.toInt 0 0) {x8 : Int32} (h_x8 : zs_in x8.toInt 0 0) {x9 : Int32} (h_x9 : zs_in x9.toInt 0 7) {t1 : Int32} (h_t1 : zs_in t1.toInt 0 7) {t2 : Int32} {t3 : Int32} (h_t3 : zs_in t3.toInt 0 0) {c : Int} (hc : x9.toInt = c + 0) : zs_ok (BX4_reckon_111 σ 1 27 x3 x4 x6 x7 x8 x9 t1 t2 t3) (fun r => zs_sum (fun v => ((zs_C σ0 v.1 ∧ zs_in (v.2).toInt 1 8)) ∧ v.2.toInt = c + 1) (fun v => False) r) := by
  unfold BX4_reckon_111
  obtain rfl : x3 = (2 : Int32) := zs_eqv h_x3 (by decide)
  obtain rfl : x4 = (-1 : Int32) := zs_eqv h_x4 (by decide)
  obtain rfl : x6 = (8 : Int32) := zs_eqv h_x6 (by decide)
  obtain rfl : x7 = (0 : Int32) := zs_eqv h_x7 (by decide)
  obtain rfl : x8 = (0 : Int32) := zs_eqv h_x8 (by decide)
  obtain rfl : t3 = (0 : Int32) := zs_eqv h_t3 (by decide)
  refine zs_gd (zs_gin h_t1 (by decide)) ?_
  refine zs_lt (Q := fun z => zs_C σ0 z) (zs_wrt h_σ (fun _ => rfl) (fun _ => rfl)) (fun σ_2 hσ_2 => ?_)
  refine zs_lt (Q := fun z => zs_in z.toInt 1 8 ∧ z.toInt = c + 1) ⟨(zs_addI 1 8 h_x9 zlI_1 (by decide)), (zs_syI 1 hc h_x9 zlI_1 (by decide) (by decide))⟩ (fun y_4 hy_4 => ?_)
  exact zs_some (zs_inl ⟨⟨hσ_2, hy_4.1⟩, hy_4.2⟩)
-- BX4_reckon_111
theorem zc_1449 {σ0 : sn_S} {σ : sn_S} (h_σ : zs_C σ0 σ) {x3 : Int32} (h_x3 : zs_in x3.toInt 2 2) {x4 : Int32} (h_x4 : zs_in x4.toInt (-1) (-1)) {x6 : Int32} (h_x6 : zs_in x6.toInt 8 8) {x7 : Int32} (h_x7 : zs_in x7.toInt 0 0) {x8 : Int32} (h_x8 : zs_in x8.toInt 0 0) {x9 : Int32} (h_x9 : zs_in x9.toInt 0 7) {t1 : Int32} (h_t1 : zs_in t1.toInt 0 7) {t2 : Int32} {t3 : Int32} (h_t3 : zs_in t3.toInt 3 3) {c : Int} (hc : x9.toInt = c + 0) : zs_ok (BX4_reckon_111 σ 1 27 x3 x4 x6 x7 x8 x9 t1 t2 t3) (fun r => zs_sum (fun v => ((zs_C σ0 v.1 ∧ zs_in (v.2).toInt 1 8)) ∧ v.2.toInt = c + 1) (fun v => False) r) := by
  unfold BX4_reckon_111
  obtain rfl : x3 = (2 : Int32) := zs_eqv h_x3 (by decide)
  obtain rfl : x4 = (-1 : Int32) := zs_eqv h_x4 (by decide)
  obtain rfl : x6 = (8 : Int32) := zs_eqv h_x6 (by decide)
  obtain rfl : x7 = (0 : Int32) := zs_eqv h_x7 (by decide)
  obtain rfl : x8 = (0 : Int32) := zs_eqv h_x8 (by decide)
  obtain rfl : t3 = (3 : Int32) := zs_eqv h_t3 (by decide)
  refine zs_gd (zs_gin h_t1 (by decide)) ?_
  refine zs_lt (Q := fun z => zs_C σ0 z) (zs_wrt h_σ (fun _ => rfl) (fun _ => rfl)) (fun σ_2 hσ_2 => ?_)
  refine zs_lt (Q := fun z => zs_in z.toInt 1 8 ∧ z.toInt = c + 1) ⟨(zs_addI 1 8 h_x9 zlI_1 (by decide)), (zs_syI 1 hc h_x9 zlI_1 (by decide) (by decide))⟩ (fun y_4 hy_4 => ?_)
  exact zs_some (zs_inl ⟨⟨hσ_2, hy_4.1⟩, hy_4.2⟩)
-- BX4_reckon_68
theorem zc_1450 {σ0 : sn_S} {σ : sn_S} (h_σ : zs_C σ0 σ) {x3 : Int32} (h_x3 : zs_in x3.toInt 2 2) {x4 : Int32} (h_x4 : zs_in x4.toInt (-1) (-1)) {x6 : Int32} (h_x6 : zs_in x6.toInt 8 8) {x7 : Int32} (h_x7 : zs_in x7.toInt 0 0) {x8 : Int32} (h_x8 : zs_in x8.toInt 0 0) {x9 : Int32} (h_x9 : zs_in x9.toInt 0 8) {c : Int} (hc : x9.toInt = c + 0) : zs_ok (BX4_reckon_68 σ 1 27 x3 x4 x6 x7 x8 x9) (fun r => zs_sum (fun v => ((zs_C σ0 v.1 ∧ zs_in (v.2).toInt 1 8)) ∧ v.2.toInt = c + 1) (fun v => zs_C σ0 v) r) := by
  unfold BX4_reckon_68
  obtain rfl : x3 = (2 : Int32) := zs_eqv h_x3 (by decide)
  obtain rfl : x4 = (-1 : Int32) := zs_eqv h_x4 (by decide)
  obtain rfl : x6 = (8 : Int32) := zs_eqv h_x6 (by decide)
  obtain rfl : x7 = (0 : Int32) := zs_eqv h_x7 (by decide)
  obtain rfl : x8 = (0 : Int32) := zs_eqv h_x8 (by decide)
  refine zs_ite (fun c1 => ?_) (fun c1 => ?_)
  · skip
    have r2 := (zs_I_le c1)
    have g3 : zs_in (x9).toInt 8 8 := (zs_ler 8 8 r2 h_x6 h_x9 (by decide))
    exact zs_some (zs_inr (h_σ))
  · skip
    have r4 := (zs_I_len c1)
    have g5 : zs_in (x9).toInt 0 7 := (zs_ltl 0 7 r4 h_x9 h_x6 (by decide))
    refine zs_gd (zs_gin g5 (by decide)) ?_
    refine zs_bd_ (zc_1088 h_x7 (zs_subI 0 7 (zs_subI 7 7 h_x6 zlI_1 (by decide)) g5 (by decide))) (fun t_3 pt_3 => ?_)
    refine zs_ite (fun c6 => ?_) (fun c6 => ?_)
    · skip
      have r7 := (zs_I_eq c6)
      have g8 : zs_in (t_3).toInt 0 0 := (zs_eql 0 0 r7 pt_3 zlI_0 (by decide))
      obtain ⟨ret, er, hr⟩ := zc_1448 h_σ h_x3 h_x4 h_x6 h_x7 h_x8 g5 g5 zlI_0 hc
      refine ⟨ret, er, ?_⟩
      exact (zs_sumw hr (fun v w => ⟨w.1, w.2⟩) (fun v w => w.elim))
    · skip
      have r9 := (zs_I_eqn c6)
      have g10 : zs_in (t_3).toInt 1 1 := (zs_nel 1 1 r9 pt_3 zlI_0 (by decide))
      obtain ⟨ret, er, hr⟩ := zc_1449 h_σ h_x3 h_x4 h_x6 h_x7 h_x8 g5 g5 zlI_3 hc
      refine ⟨ret, er, ?_⟩
      exact (zs_sumw hr (fun v w => ⟨w.1, w.2⟩) (fun v w => w.elim))
theorem zd_282 {σ0 : sn_S} {x3 : Int32} (h_x3 : zs_in x3.toInt 2 2) {x4 : Int32} (h_x4 : zs_in x4.toInt (-1) (-1)) {x6 : Int32} (h_x6 : zs_in x6.toInt 8 8) {x7 : Int32} (h_x7 : zs_in x7.toInt 0 0) {x8 : Int32} (h_x8 : zs_in x8.toInt 0 0) {s0 : (sn_S × Int32)} (h0 : (zs_C σ0 s0.1 ∧ zs_in (s0.2).toInt 0 8)) : zs_ok (sn_it (LX4_reckon_68 1 27 x3 x4 x6 x7 x8) 5000 s0) (fun t => zs_C σ0 t) := by
  refine zs_it (I := fun s => (zs_C σ0 s.1 ∧ zs_in (s.2).toInt 0 8)) (m := fun s => 8 - s.2.toInt) (fun s hs => ?_) (fun s hs => ?_) h0
  · have h1 := hs.2; unfold zs_in at h1
    omega
  · obtain ⟨b, eb, hb⟩ := zc_1450 hs.1 h_x3 h_x4 h_x6 h_x7 h_x8 hs.2 (c := s.2.toInt) (Int.add_zero _).symm
    exact ⟨b, eb, zs_sumw hb (fun v w => ⟨⟨w.1.1, (zs_w w.1.2 (by decide))⟩, by have := w.2; omega⟩) (fun v w => w)⟩
-- BX3_moneyAt_44
theorem zc_1451 {σ0 : sn_S} {σ : sn_S} (h_σ : zs_C σ0 σ) {x1 : Int32} (h_x1 : zs_in x1.toInt 0 7) {x2 : Int32} {x3 : Int32} (h_x3 : zs_in x3.toInt 0 5) {c : Int} (hc : x3.toInt = c + 0) : zs_ok (BX3_moneyAt_44 σ 70 x1 x2 x3) (fun r => zs_sum (fun v => ((True ∧ zs_in (v.2).toInt 1 6)) ∧ v.2.toInt = c + 1) (fun v => False) r) := by
  unfold BX3_moneyAt_44
  refine zs_lt (Q := fun z => zs_in z.toInt 1 6 ∧ z.toInt = c + 1) ⟨(zs_addI 1 6 h_x3 zlI_1 (by decide)), (zs_syI 1 hc h_x3 zlI_1 (by decide) (by decide))⟩ (fun y_1 hy_1 => ?_)
  exact zs_some (zs_inl ⟨⟨trivial, hy_1.1⟩, hy_1.2⟩)
-- BX3_moneyAt_7
theorem zc_1452 {σ0 : sn_S} {σ : sn_S} (h_σ : zs_C σ0 σ) {x1 : Int32} (h_x1 : zs_in x1.toInt 0 7) {x2 : Int32} {x3 : Int32} (h_x3 : zs_in x3.toInt 0 6) {c : Int} (hc : x3.toInt = c + 0) : zs_ok (BX3_moneyAt_7 σ 70 x1 x2 x3) (fun r => zs_sum (fun v => ((True ∧ zs_in (v.2).toInt 1 6)) ∧ v.2.toInt = c + 1) (fun v => True) r) := by
  unfold BX3_moneyAt_7
  refine zs_ite (fun c1 => ?_) (fun c1 => ?_)
  · skip
    have r2 := (zs_I_le c1)
    exact zs_some (zs_inr (trivial))
  · skip
    have r3 := (zs_I_len c1)
    have g4 : zs_in (x3).toInt 0 5 := (zs_ltl 0 5 r3 h_x3 (zs_rdk (q := 70) (k := 2) (z := (0, 6)) h_σ.1 rfl) (by decide))
    have g5 : zs_in ((sn_I σ 70 2)).toInt 1 6 := (zs_ltr 1 6 r3 h_x3 (zs_rdk (q := 70) (k := 2) (z := (0, 6)) h_σ.1 rfl) (by decide))
    refine zs_gd (zs_gin g4 (by decide)) ?_
    refine zs_ite (fun c6 => ?_) (fun c6 => ?_)
    · skip
      have r7 := (zs_I_eq c6)
      have g8 : zs_in ((sn_I σ (70 + 2) x3.toNatClampNeg)).toInt (-1) (-1) := (zs_eql (-1) (-1) r7 (zs_rdu (q := 72) (z := ((-1), 63)) h_σ.1 (fun _ => rfl)) zlI_m1 (by decide))
      obtain ⟨ret, er, hr⟩ := zc_1451 h_σ h_x1 g4 hc
      refine ⟨ret, er, ?_⟩
      exact (zs_sumw hr (fun v w => ⟨w.1, w.2⟩) (fun v w => w.elim))
    · skip
      have r9 := (zs_I_eqn c6)
      have g10 : zs_in ((sn_I σ (70 + 2) x3.toNatClampNeg)).toInt 0 63 := (zs_nel 0 63 r9 (zs_rdu (q := 72) (z := ((-1), 63)) h_σ.1 (fun _ => rfl)) zlI_m1 (by decide))
      refine zs_gd (zs_gin g4 (by decide)) ?_
      refine zs_ite (fun c11 => ?_) (fun c11 => ?_)
      · skip
        have r12 := (zs_I_lt c11)
        have g13 : zs_in ((sn_I σ (70 + 2) x3.toNatClampNeg)).toInt 1 63 := (zs_ltr 1 63 r12 h_x1 g10 (by decide))
        obtain ⟨ret, er, hr⟩ := zc_1451 h_σ h_x1 g4 hc
        refine ⟨ret, er, ?_⟩
        exact (zs_sumw hr (fun v w => ⟨w.1, w.2⟩) (fun v w => w.elim))
      · skip
        have r14 := (zs_I_ltn c11)
        have g15 : zs_in ((sn_I σ (70 + 2) x3.toNatClampNeg)).toInt 0 7 := (zs_lel 0 7 r14 g10 h_x1 (by decide))
        refine zs_gd (zs_gin g4 (by decide)) ?_
        refine zs_lt (Q := fun z => True) trivial (fun y_7 hy_7 => ?_)
        obtain ⟨ret, er, hr⟩ := zc_1451 h_σ h_x1 g4 hc
        refine ⟨ret, er, ?_⟩
        exact (zs_sumw hr (fun v w => ⟨w.1, w.2⟩) (fun v w => w.elim))
theorem zd_283 {σ0 : sn_S} {σ : sn_S} (h_σ : zs_C σ0 σ) {x1 : Int32} (h_x1 : zs_in x1.toInt 0 7) {s0 : (Int32 × Int32)} (h0 : (True ∧ zs_in (s0.2).toInt 0 6)) : zs_ok (sn_it (LX3_moneyAt_7 σ 70 x1) 5000 s0) (fun t => True) := by
  refine zs_it (I := fun s => (True ∧ zs_in (s.2).toInt 0 6)) (m := fun s => 6 - s.2.toInt) (fun s hs => ?_) (fun s hs => ?_) h0
  · have h1 := hs.2; unfold zs_in at h1
    omega
  · obtain ⟨b, eb, hb⟩ := zc_1452 h_σ h_x1 hs.2 (c := s.2.toInt) (Int.add_zero _).symm
    exact ⟨b, eb, zs_sumw hb (fun v w => ⟨⟨w.1.1, (zs_w w.1.2 (by decide))⟩, by have := w.2; omega⟩) (fun v w => w)⟩
-- fX3_moneyAt
theorem zc_1453 {σ0 : sn_S} {σ : sn_S} (h_σ : zs_C σ0 σ) {x1 : Int32} (h_x1 : zs_in x1.toInt 0 7) : zs_ok (fX3_moneyAt σ 70 x1) (fun r => True) := by
  unfold fX3_moneyAt
  refine zs_lt (Q := fun z => True) trivial (fun y_1 hy_1 => ?_)
  refine zs_bd_ (zd_283 h_σ h_x1 (s0 := (y_1, (0 : Int32))) ⟨trivial, (zs_w zlI_0 (by decide))⟩) (fun t_3 pt_3 => ?_)
  obtain ⟨ret, er, hr⟩ := zc_1293 h_σ
  refine ⟨ret, er, ?_⟩
  exact hr
-- BX3_firstBelow_2
theorem zc_1454 {σ0 : sn_S} {σ : sn_S} (h_σ : zs_C σ0 σ) {x1 : Int32} (h_x1 : zs_in x1.toInt 8 8) {x2 : Int32} (h_x2 : zs_in x2.toInt 0 8) {c : Int} (hc : x2.toInt = c + 0) : zs_ok (BX3_firstBelow_2 σ 70 x1 x2) (fun r => zs_sum (fun v => (zs_in (v).toInt 1 8) ∧ v.toInt = c + 1) (fun v => zs_sum (fun v => True) (fun v => zs_in (v).toInt 0 7) v) r) := by
  unfold BX3_firstBelow_2
  obtain rfl : x1 = (8 : Int32) := zs_eqv h_x1 (by decide)
  refine zs_ite (fun c1 => ?_) (fun c1 => ?_)
  · skip
    have r2 := (zs_I_le c1)
    have g3 : zs_in (x2).toInt 8 8 := (zs_ler 8 8 r2 h_x1 h_x2 (by decide))
    exact zs_some (zs_inr ((zs_inl (trivial))))
  · skip
    have r4 := (zs_I_len c1)
    have g5 : zs_in (x2).toInt 0 7 := (zs_ltl 0 7 r4 h_x2 h_x1 (by decide))
    refine zs_bd_ (zc_1453 h_σ g5) (fun t_2 pt_2 => ?_)
    refine zs_ite (fun c6 => ?_) (fun c6 => ?_)
    · skip
      have r7 := (zs_I_le c6)
      have g8 : zs_in (t_2).toInt 0 2147483647 := (zs_ler 0 2147483647 r7 zlI_0 (zs_topI _) (by decide))
      refine zs_lt (Q := fun z => zs_in z.toInt 1 8 ∧ z.toInt = c + 1) ⟨(zs_addI 1 8 g5 zlI_1 (by decide)), (zs_syI 1 hc g5 zlI_1 (by decide) (by decide))⟩ (fun y_5 hy_5 => ?_)
      exact zs_some (zs_inl ⟨hy_5.1, hy_5.2⟩)
    · skip
      have r9 := (zs_I_len c6)
      have g10 : zs_in (t_2).toInt (-2147483648) (-1) := (zs_ltl (-2147483648) (-1) r9 (zs_topI _) zlI_0 (by decide))
      exact zs_some (zs_inr ((zs_inr (g5))))
theorem zd_284 {σ0 : sn_S} {σ : sn_S} (h_σ : zs_C σ0 σ) {x1 : Int32} (h_x1 : zs_in x1.toInt 8 8) {s0 : Int32} (h0 : zs_in (s0).toInt 0 8) : zs_ok (sn_it (LX3_firstBelow_2 σ 70 x1) 5000 s0) (fun t => zs_sum (fun v => True) (fun v => zs_in (v).toInt 0 7) t) := by
  refine zs_it (I := fun s => zs_in (s).toInt 0 8) (m := fun s => 8 - s.toInt) (fun s hs => ?_) (fun s hs => ?_) h0
  · have h1 := hs; unfold zs_in at h1
    omega
  · obtain ⟨b, eb, hb⟩ := zc_1454 h_σ h_x1 hs (c := s.toInt) (Int.add_zero _).symm
    exact ⟨b, eb, zs_sumw hb (fun v w => ⟨(zs_w w.1 (by decide)), by have := w.2; omega⟩) (fun v w => w)⟩
-- fX3_firstBelow
theorem zc_1455 {σ0 : sn_S} {σ : sn_S} (h_σ : zs_C σ0 σ) {x1 : Int32} (h_x1 : zs_in x1.toInt 8 8) : zs_ok (fX3_firstBelow σ 70 x1) (fun r => zs_in (r).toInt (-1) 7) := by
  unfold fX3_firstBelow
  obtain rfl : x1 = (8 : Int32) := zs_eqv h_x1 (by decide)
  refine zs_bd_ (zd_284 h_σ h_x1 (s0 := (0 : Int32)) (zs_w zlI_0 (by decide))) (fun t_1 pt_1 => ?_)
  refine zs_elim pt_1 (fun v_3 pv_3 => ?_) (fun r_4 pr_4 => ?_)
  · skip
    obtain ⟨ret, er, hr⟩ := zc_1296 h_σ
    refine ⟨ret, er, ?_⟩
    exact (zs_w hr (by decide))
  · skip
    exact zs_some (zs_w pr_4 (by decide))
-- fX4_worth
theorem zc_1456 {σ0 : sn_S} {σ : sn_S} (h_σ : zs_C σ0 σ) {x2 : Int32} (h_x2 : zs_in x2.toInt 2 2) {x3 : Int32} (h_x3 : zs_in x3.toInt (-1) (-1)) {x4 : Int32} (h_x4 : zs_in x4.toInt 8 8) : zs_ok (fX4_worth σ 1 x2 x3 x4) (fun r => (zs_in (r.1).toInt 0 1 ∧ zs_C σ0 r.2)) := by
  unfold fX4_worth
  obtain rfl : x2 = (2 : Int32) := zs_eqv h_x2 (by decide)
  obtain rfl : x3 = (-1 : Int32) := zs_eqv h_x3 (by decide)
  obtain rfl : x4 = (8 : Int32) := zs_eqv h_x4 (by decide)
  refine zs_ite (fun c1 => ?_) (fun c1 => ?_)
  · skip
    have r2 := (zs_I_eq c1)
    exact (zs_botr r2 h_x2 zlI_0 (by decide)).elim
  · skip
    have r3 := (zs_I_eqn c1)
    refine zs_gd (zs_gin zlI_2 (by decide)) ?_
    refine zs_bd_ (zo_reckon_70_59_0_3 h_σ (zs_rdk (q := 2) (k := (2 : Int32).toNatClampNeg) (z := (0, 3)) h_σ.1 rfl)) (fun t_3 pt_3 => ?_)
    refine zs_ite (fun c4 => ?_) (fun c4 => ?_)
    · skip
      have r5 := (zs_I_eq c4)
      exact (zs_botr r5 h_x2 zlI_1 (by decide)).elim
    · skip
      have r6 := (zs_I_eqn c4)
      refine zs_bd_ (zc_1455 pt_3 h_x4) (fun t_6 pt_6 => ?_)
      refine zs_ite (fun c7 => ?_) (fun c7 => ?_)
      · skip
        have r8 := (zs_I_eq c7)
        have g9 : zs_in (t_6).toInt (-1) (-1) := (zs_eql (-1) (-1) r8 pt_6 zlI_m1 (by decide))
        exact zs_some ⟨(zs_w zlL_0 (by decide)), pt_3⟩
      · skip
        have r10 := (zs_I_eqn c7)
        have g11 : zs_in (t_6).toInt 0 7 := (zs_nel 0 7 r10 pt_6 zlI_m1 (by decide))
        exact zs_some ⟨(zs_w zlL_1 (by decide)), pt_3⟩
-- BX4_reckon_139
theorem zc_1457 {σ0 : sn_S} {σ : sn_S} (h_σ : zs_C σ0 σ) {x3 : Int32} (h_x3 : zs_in x3.toInt 2 2) {x4 : Int32} (h_x4 : zs_in x4.toInt (-1) (-1)) {x6 : Int32} (h_x6 : zs_in x6.toInt 8 8) {x7 : Int32} (h_x7 : zs_in x7.toInt 0 0) {t1 : Int32} (h_t1 : zs_in t1.toInt 0 0) {t2 : Int32} (h_t2 : zs_in t2.toInt 0 30) {c : Int} (hc : x7.toInt = c + 0) : zs_ok (BX4_reckon_139 σ 1 27 x3 x4 x6 x7 t1 t2) (fun r => zs_sum (fun v => ((zs_C σ0 v.1 ∧ zs_in (v.2).toInt 1 1)) ∧ v.2.toInt = c + 1) (fun v => False) r) := by
  unfold BX4_reckon_139
  obtain rfl : x3 = (2 : Int32) := zs_eqv h_x3 (by decide)
  obtain rfl : x4 = (-1 : Int32) := zs_eqv h_x4 (by decide)
  obtain rfl : x6 = (8 : Int32) := zs_eqv h_x6 (by decide)
  obtain rfl : t1 = (0 : Int32) := zs_eqv h_t1 (by decide)
  refine zs_bd_ (zc_1290 h_σ h_t1 h_t2) (fun t_1 pt_1 => ?_)
  refine zs_bd_ (zo_bc 0 0 (by decide) h_x7) (fun t_3 pt_3 => ?_)
  refine zs_gd (zs_gin pt_3 (by decide)) ?_
  refine zs_bd_ (zc_1456 pt_1 h_x3 h_x4 h_x6) (fun t_6 pt_6 => ?_)
  refine zs_lt (Q := fun z => zs_C σ0 z) (zs_wrL pt_6.2 rfl) (fun σ_8 hσ_8 => ?_)
  refine zs_lt (Q := fun z => zs_in z.toInt 1 1 ∧ z.toInt = c + 1) ⟨(zs_addI 1 1 h_x7 zlI_1 (by decide)), (zs_syI 1 hc h_x7 zlI_1 (by decide) (by decide))⟩ (fun y_10 hy_10 => ?_)
  exact zs_some (zs_inl ⟨⟨hσ_8, hy_10.1⟩, hy_10.2⟩)
-- BX4_reckon_119
theorem zc_1458 {σ0 : sn_S} {σ : sn_S} (h_σ : zs_C σ0 σ) {x3 : Int32} (h_x3 : zs_in x3.toInt 2 2) {x4 : Int32} (h_x4 : zs_in x4.toInt (-1) (-1)) {x6 : Int32} (h_x6 : zs_in x6.toInt 8 8) {x7 : Int32} (h_x7 : zs_in x7.toInt 0 0) {x8 : Int32} (h_x8 : zs_in x8.toInt 0 0) {c : Int} (hc : x7.toInt = c + 0) : zs_ok (BX4_reckon_119 σ 1 27 x3 x4 x6 x7 x8) (fun r => zs_sum (fun v => ((zs_C σ0 v.1 ∧ zs_in (v.2).toInt 1 1)) ∧ v.2.toInt = c + 1) (fun v => False) r) := by
  unfold BX4_reckon_119
  obtain rfl : x3 = (2 : Int32) := zs_eqv h_x3 (by decide)
  obtain rfl : x4 = (-1 : Int32) := zs_eqv h_x4 (by decide)
  obtain rfl : x6 = (8 : Int32) := zs_eqv h_x6 (by decide)
  obtain rfl : x8 = (0 : Int32) := zs_eqv h_x8 (by decide)
  refine zs_ite (fun c1 => ?_) (fun c1 => ?_)
  · skip
    have r2 := (zs_I_eq c1)
    obtain ⟨ret, er, hr⟩ := zc_1457 h_σ h_x3 h_x4 h_x6 h_x7 h_x8 (zs_rdk (q := 27) (k := 0) (z := (0, 30)) h_σ.1 rfl) hc
    refine ⟨ret, er, ?_⟩
    exact (zs_sumw hr (fun v w => ⟨w.1, w.2⟩) (fun v w => w.elim))
  · skip
    have r3 := (zs_I_eqn c1)
    exact (zs_botne r3 h_x3 zlI_2 (by decide)).elim
-- BX4_reckon_62
theorem zc_1459 {σ0 : sn_S} {σ : sn_S} (h_σ : zs_C σ0 σ) {x3 : Int32} (h_x3 : zs_in x3.toInt 2 2) {x4 : Int32} (h_x4 : zs_in x4.toInt (-1) (-1)) {x6 : Int32} (h_x6 : zs_in x6.toInt 8 8) {x7 : Int32} (h_x7 : zs_in x7.toInt 0 0) {t0 : Int32} (h_t0 : zs_in t0.toInt 0 0) {c : Int} (hc : x7.toInt = c + 0) : zs_ok (BX4_reckon_62 σ 1 27 x3 x4 x6 x7 t0) (fun r => zs_sum (fun v => ((zs_C σ0 v.1 ∧ zs_in (v.2).toInt 1 1)) ∧ v.2.toInt = c + 1) (fun v => False) r) := by
  unfold BX4_reckon_62
  obtain rfl : x3 = (2 : Int32) := zs_eqv h_x3 (by decide)
  obtain rfl : x4 = (-1 : Int32) := zs_eqv h_x4 (by decide)
  obtain rfl : x6 = (8 : Int32) := zs_eqv h_x6 (by decide)
  obtain rfl : t0 = (0 : Int32) := zs_eqv h_t0 (by decide)
  refine zs_bd_ (zd_282 h_x3 h_x4 h_x6 h_x7 h_t0 (s0 := (σ, (0 : Int32))) ⟨h_σ, (zs_w h_t0 (by decide))⟩) (fun t_1 pt_1 => ?_)
  obtain ⟨ret, er, hr⟩ := zc_1458 pt_1 h_x3 h_x4 h_x6 h_x7 h_t0 hc
  refine ⟨ret, er, ?_⟩
  exact (zs_sumw hr (fun v w => ⟨w.1, w.2⟩) (fun v w => w.elim))
-- BX4_reckon_111
theorem zc_1460 {σ0 : sn_S} {σ : sn_S} (h_σ : zs_C σ0 σ) {x3 : Int32} (h_x3 : zs_in x3.toInt 2 2) {x4 : Int32} (h_x4 : zs_in x4.toInt (-1) (-1)) {x6 : Int32} (h_x6 : zs_in x6.toInt 8 8) {x7 : Int32} (h_x7 : zs_in x7.toInt 1 255) {x8 : Int32} (h_x8 : zs_in x8.toInt 0 7) {x9 : Int32} (h_x9 : zs_in x9.toInt 0 7) {t1 : Int32} (h_t1 : zs_in t1.toInt 0 7) {t2 : Int32} {t3 : Int32} (h_t3 : zs_in t3.toInt 0 0) {c : Int} (hc : x9.toInt = c + 0) : zs_ok (BX4_reckon_111 σ 1 27 x3 x4 x6 x7 x8 x9 t1 t2 t3) (fun r => zs_sum (fun v => ((zs_C σ0 v.1 ∧ zs_in (v.2).toInt 1 8)) ∧ v.2.toInt = c + 1) (fun v => False) r) := by
  unfold BX4_reckon_111
  obtain rfl : x3 = (2 : Int32) := zs_eqv h_x3 (by decide)
  obtain rfl : x4 = (-1 : Int32) := zs_eqv h_x4 (by decide)
  obtain rfl : x6 = (8 : Int32) := zs_eqv h_x6 (by decide)
  obtain rfl : t3 = (0 : Int32) := zs_eqv h_t3 (by decide)
  refine zs_gd (zs_gin h_t1 (by decide)) ?_
  refine zs_lt (Q := fun z => zs_C σ0 z) (zs_wrt h_σ (fun _ => rfl) (fun _ => rfl)) (fun σ_2 hσ_2 => ?_)
  refine zs_lt (Q := fun z => zs_in z.toInt 1 8 ∧ z.toInt = c + 1) ⟨(zs_addI 1 8 h_x9 zlI_1 (by decide)), (zs_syI 1 hc h_x9 zlI_1 (by decide) (by decide))⟩ (fun y_4 hy_4 => ?_)
  exact zs_some (zs_inl ⟨⟨hσ_2, hy_4.1⟩, hy_4.2⟩)
-- BX4_reckon_111
theorem zc_1461 {σ0 : sn_S} {σ : sn_S} (h_σ : zs_C σ0 σ) {x3 : Int32} (h_x3 : zs_in x3.toInt 2 2) {x4 : Int32} (h_x4 : zs_in x4.toInt (-1) (-1)) {x6 : Int32} (h_x6 : zs_in x6.toInt 8 8) {x7 : Int32} (h_x7 : zs_in x7.toInt 1 255) {x8 : Int32} (h_x8 : zs_in x8.toInt 0 7) {x9 : Int32} (h_x9 : zs_in x9.toInt 0 7) {t1 : Int32} (h_t1 : zs_in t1.toInt 0 7) {t2 : Int32} {t3 : Int32} (h_t3 : zs_in t3.toInt 3 3) {c : Int} (hc : x9.toInt = c + 0) : zs_ok (BX4_reckon_111 σ 1 27 x3 x4 x6 x7 x8 x9 t1 t2 t3) (fun r => zs_sum (fun v => ((zs_C σ0 v.1 ∧ zs_in (v.2).toInt 1 8)) ∧ v.2.toInt = c + 1) (fun v => False) r) := by
  unfold BX4_reckon_111
  obtain rfl : x3 = (2 : Int32) := zs_eqv h_x3 (by decide)
  obtain rfl : x4 = (-1 : Int32) := zs_eqv h_x4 (by decide)
  obtain rfl : x6 = (8 : Int32) := zs_eqv h_x6 (by decide)
  obtain rfl : t3 = (3 : Int32) := zs_eqv h_t3 (by decide)
  refine zs_gd (zs_gin h_t1 (by decide)) ?_
  refine zs_lt (Q := fun z => zs_C σ0 z) (zs_wrt h_σ (fun _ => rfl) (fun _ => rfl)) (fun σ_2 hσ_2 => ?_)
  refine zs_lt (Q := fun z => zs_in z.toInt 1 8 ∧ z.toInt = c + 1) ⟨(zs_addI 1 8 h_x9 zlI_1 (by decide)), (zs_syI 1 hc h_x9 zlI_1 (by decide) (by decide))⟩ (fun y_4 hy_4 => ?_)
  exact zs_some (zs_inl ⟨⟨hσ_2, hy_4.1⟩, hy_4.2⟩)
-- BX4_reckon_68
theorem zc_1462 {σ0 : sn_S} {σ : sn_S} (h_σ : zs_C σ0 σ) {x3 : Int32} (h_x3 : zs_in x3.toInt 2 2) {x4 : Int32} (h_x4 : zs_in x4.toInt (-1) (-1)) {x6 : Int32} (h_x6 : zs_in x6.toInt 8 8) {x7 : Int32} (h_x7 : zs_in x7.toInt 1 255) {x8 : Int32} (h_x8 : zs_in x8.toInt 0 7) {x9 : Int32} (h_x9 : zs_in x9.toInt 0 8) {c : Int} (hc : x9.toInt = c + 0) : zs_ok (BX4_reckon_68 σ 1 27 x3 x4 x6 x7 x8 x9) (fun r => zs_sum (fun v => ((zs_C σ0 v.1 ∧ zs_in (v.2).toInt 1 8)) ∧ v.2.toInt = c + 1) (fun v => zs_C σ0 v) r) := by
  unfold BX4_reckon_68
  obtain rfl : x3 = (2 : Int32) := zs_eqv h_x3 (by decide)
  obtain rfl : x4 = (-1 : Int32) := zs_eqv h_x4 (by decide)
  obtain rfl : x6 = (8 : Int32) := zs_eqv h_x6 (by decide)
  refine zs_ite (fun c1 => ?_) (fun c1 => ?_)
  · skip
    have r2 := (zs_I_le c1)
    have g3 : zs_in (x9).toInt 8 8 := (zs_ler 8 8 r2 h_x6 h_x9 (by decide))
    exact zs_some (zs_inr (h_σ))
  · skip
    have r4 := (zs_I_len c1)
    have g5 : zs_in (x9).toInt 0 7 := (zs_ltl 0 7 r4 h_x9 h_x6 (by decide))
    refine zs_gd (zs_gin g5 (by decide)) ?_
    refine zs_bd_ (zc_1123 h_x7 (zs_subI 0 7 (zs_subI 7 7 h_x6 zlI_1 (by decide)) g5 (by decide))) (fun t_3 pt_3 => ?_)
    refine zs_ite (fun c6 => ?_) (fun c6 => ?_)
    · skip
      have r7 := (zs_I_eq c6)
      have g8 : zs_in (t_3).toInt 0 0 := (zs_eql 0 0 r7 pt_3 zlI_0 (by decide))
      obtain ⟨ret, er, hr⟩ := zc_1460 h_σ h_x3 h_x4 h_x6 h_x7 h_x8 g5 g5 zlI_0 hc
      refine ⟨ret, er, ?_⟩
      exact (zs_sumw hr (fun v w => ⟨w.1, w.2⟩) (fun v w => w.elim))
    · skip
      have r9 := (zs_I_eqn c6)
      have g10 : zs_in (t_3).toInt 1 1 := (zs_nel 1 1 r9 pt_3 zlI_0 (by decide))
      obtain ⟨ret, er, hr⟩ := zc_1461 h_σ h_x3 h_x4 h_x6 h_x7 h_x8 g5 g5 zlI_3 hc
      refine ⟨ret, er, ?_⟩
      exact (zs_sumw hr (fun v w => ⟨w.1, w.2⟩) (fun v w => w.elim))
theorem zd_285 {σ0 : sn_S} {x3 : Int32} (h_x3 : zs_in x3.toInt 2 2) {x4 : Int32} (h_x4 : zs_in x4.toInt (-1) (-1)) {x6 : Int32} (h_x6 : zs_in x6.toInt 8 8) {x7 : Int32} (h_x7 : zs_in x7.toInt 1 255) {x8 : Int32} (h_x8 : zs_in x8.toInt 0 7) {s0 : (sn_S × Int32)} (h0 : (zs_C σ0 s0.1 ∧ zs_in (s0.2).toInt 0 8)) : zs_ok (sn_it (LX4_reckon_68 1 27 x3 x4 x6 x7 x8) 5000 s0) (fun t => zs_C σ0 t) := by
  refine zs_it (I := fun s => (zs_C σ0 s.1 ∧ zs_in (s.2).toInt 0 8)) (m := fun s => 8 - s.2.toInt) (fun s hs => ?_) (fun s hs => ?_) h0
  · have h1 := hs.2; unfold zs_in at h1
    omega
  · obtain ⟨b, eb, hb⟩ := zc_1462 hs.1 h_x3 h_x4 h_x6 h_x7 h_x8 hs.2 (c := s.2.toInt) (Int.add_zero _).symm
    exact ⟨b, eb, zs_sumw hb (fun v w => ⟨⟨w.1.1, (zs_w w.1.2 (by decide))⟩, by have := w.2; omega⟩) (fun v w => w)⟩
-- BX0_live_2
theorem zc_1463 {σ0 : sn_S} {σ : sn_S} (h_σ : zs_C σ0 σ) {x1 : Int32} (h_x1 : zs_in x1.toInt 0 7) {x2 : Int32} (h_x2 : zs_in x2.toInt 0 30) {x3 : Int32} (h_x3 : zs_in x3.toInt 0 6) {c : Int} (hc : x3.toInt = c + 0) : zs_ok (BX0_live_2 σ 59 x1 x2 x3) (fun r => zs_sum (fun v => ((zs_C σ0 v.1 ∧ zs_in (v.2).toInt 1 6)) ∧ v.2.toInt = c + 1) (fun v => zs_C σ0 v) r) := by
  unfold BX0_live_2
  refine zs_ite (fun c1 => ?_) (fun c1 => ?_)
  · skip
    have r2 := (zs_I_le c1)
    exact zs_some (zs_inr (h_σ))
  · skip
    have r3 := (zs_I_len c1)
    have g4 : zs_in (x3).toInt 0 5 := (zs_ltl 0 5 r3 h_x3 (zs_rdk (q := 59) (k := 1) (z := (0, 6)) h_σ.1 rfl) (by decide))
    have g5 : zs_in ((sn_I σ 59 1)).toInt 1 6 := (zs_ltr 1 6 r3 h_x3 (zs_rdk (q := 59) (k := 1) (z := (0, 6)) h_σ.1 rfl) (by decide))
    refine zs_gd (zs_gin g4 (by decide)) ?_
    refine zs_bd_ (zc_1127 h_x1) (fun t_3 pt_3 => ?_)
    refine zs_gd (zs_gin g4 (by decide)) ?_
    refine zs_lt (Q := fun z => zs_C σ0 z) (zs_wru (z := (0, 1073741823)) h_σ (fun _ => rfl) (zs_and pt_3 (by decide)) (by decide) (fun _ => rfl)) (fun σ_6 hσ_6 => ?_)
    refine zs_lt (Q := fun z => zs_in z.toInt 1 6 ∧ z.toInt = c + 1) ⟨(zs_addI 1 6 g4 zlI_1 (by decide)), (zs_syI 1 hc g4 zlI_1 (by decide) (by decide))⟩ (fun y_8 hy_8 => ?_)
    exact zs_some (zs_inl ⟨⟨hσ_6, hy_8.1⟩, hy_8.2⟩)
theorem zd_286 {σ0 : sn_S} {x1 : Int32} (h_x1 : zs_in x1.toInt 0 7) {x2 : Int32} (h_x2 : zs_in x2.toInt 0 30) {s0 : (sn_S × Int32)} (h0 : (zs_C σ0 s0.1 ∧ zs_in (s0.2).toInt 0 6)) : zs_ok (sn_it (LX0_live_2 59 x1 x2) 5000 s0) (fun t => zs_C σ0 t) := by
  refine zs_it (I := fun s => (zs_C σ0 s.1 ∧ zs_in (s.2).toInt 0 6)) (m := fun s => 6 - s.2.toInt) (fun s hs => ?_) (fun s hs => ?_) h0
  · have h1 := hs.2; unfold zs_in at h1
    omega
  · obtain ⟨b, eb, hb⟩ := zc_1463 hs.1 h_x1 h_x2 hs.2 (c := s.2.toInt) (Int.add_zero _).symm
    exact ⟨b, eb, zs_sumw hb (fun v w => ⟨⟨w.1.1, (zs_w w.1.2 (by decide))⟩, by have := w.2; omega⟩) (fun v w => w)⟩
-- BX0_live_29
theorem zc_1464 {σ0 : sn_S} {σ : sn_S} (h_σ : zs_C σ0 σ) {x1 : Int32} (h_x1 : zs_in x1.toInt 0 7) {x2 : Int32} (h_x2 : zs_in x2.toInt 0 30) : zs_ok (BX0_live_29 σ 59 x1 x2) (fun r => zs_C σ0 r) := by
  unfold BX0_live_29
  refine zs_bd_ (zd_241 h_x2 (s0 := (σ, x1)) ⟨h_σ, (zs_w h_x1 (by decide))⟩) (fun t_1 pt_1 => ?_)
  obtain ⟨ret, er, hr⟩ := zc_724 pt_1
  refine ⟨ret, er, ?_⟩
  exact hr
-- fX0_live
theorem zc_1465 {σ0 : sn_S} {σ : sn_S} (h_σ : zs_C σ0 σ) {x1 : Int32} (h_x1 : zs_in x1.toInt 0 7) {x2 : Int32} (h_x2 : zs_in x2.toInt 0 30) : zs_ok (fX0_live σ 59 x1 x2) (fun r => zs_C σ0 r) := by
  unfold fX0_live
  refine zs_bd_ (zd_286 h_x1 h_x2 (s0 := (σ, (0 : Int32))) ⟨h_σ, (zs_w zlI_0 (by decide))⟩) (fun t_1 pt_1 => ?_)
  obtain ⟨ret, er, hr⟩ := zc_1464 pt_1 h_x1 h_x2
  refine ⟨ret, er, ?_⟩
  exact hr
-- BX4_reckon_139
theorem zc_1466 {σ0 : sn_S} {σ : sn_S} (h_σ : zs_C σ0 σ) {x3 : Int32} (h_x3 : zs_in x3.toInt 2 2) {x4 : Int32} (h_x4 : zs_in x4.toInt (-1) (-1)) {x6 : Int32} (h_x6 : zs_in x6.toInt 8 8) {x7 : Int32} (h_x7 : zs_in x7.toInt 1 255) {t1 : Int32} (h_t1 : zs_in t1.toInt 0 7) {t2 : Int32} (h_t2 : zs_in t2.toInt 0 30) {c : Int} (hc : x7.toInt = c + 0) : zs_ok (BX4_reckon_139 σ 1 27 x3 x4 x6 x7 t1 t2) (fun r => zs_sum (fun v => ((zs_C σ0 v.1 ∧ zs_in (v.2).toInt 2 256)) ∧ v.2.toInt = c + 1) (fun v => False) r) := by
  unfold BX4_reckon_139
  obtain rfl : x3 = (2 : Int32) := zs_eqv h_x3 (by decide)
  obtain rfl : x4 = (-1 : Int32) := zs_eqv h_x4 (by decide)
  obtain rfl : x6 = (8 : Int32) := zs_eqv h_x6 (by decide)
  refine zs_bd_ (zc_1465 h_σ h_t1 h_t2) (fun t_1 pt_1 => ?_)
  refine zs_bd_ (zo_bc 8 8 (by decide) h_x7) (fun t_3 pt_3 => ?_)
  refine zs_gd (zs_gin pt_3 (by decide)) ?_
  refine zs_bd_ (zc_1456 pt_1 h_x3 h_x4 h_x6) (fun t_6 pt_6 => ?_)
  refine zs_lt (Q := fun z => zs_C σ0 z) (zs_wrL pt_6.2 rfl) (fun σ_8 hσ_8 => ?_)
  refine zs_lt (Q := fun z => zs_in z.toInt 2 256 ∧ z.toInt = c + 1) ⟨(zs_addI 2 256 h_x7 zlI_1 (by decide)), (zs_syI 1 hc h_x7 zlI_1 (by decide) (by decide))⟩ (fun y_10 hy_10 => ?_)
  exact zs_some (zs_inl ⟨⟨hσ_8, hy_10.1⟩, hy_10.2⟩)
-- BX4_reckon_119
theorem zc_1467 {σ0 : sn_S} {σ : sn_S} (h_σ : zs_C σ0 σ) {x3 : Int32} (h_x3 : zs_in x3.toInt 2 2) {x4 : Int32} (h_x4 : zs_in x4.toInt (-1) (-1)) {x6 : Int32} (h_x6 : zs_in x6.toInt 8 8) {x7 : Int32} (h_x7 : zs_in x7.toInt 1 255) {x8 : Int32} (h_x8 : zs_in x8.toInt 0 7) {c : Int} (hc : x7.toInt = c + 0) : zs_ok (BX4_reckon_119 σ 1 27 x3 x4 x6 x7 x8) (fun r => zs_sum (fun v => ((zs_C σ0 v.1 ∧ zs_in (v.2).toInt 2 256)) ∧ v.2.toInt = c + 1) (fun v => False) r) := by
  unfold BX4_reckon_119
  obtain rfl : x3 = (2 : Int32) := zs_eqv h_x3 (by decide)
  obtain rfl : x4 = (-1 : Int32) := zs_eqv h_x4 (by decide)
  obtain rfl : x6 = (8 : Int32) := zs_eqv h_x6 (by decide)
  refine zs_ite (fun c1 => ?_) (fun c1 => ?_)
  · skip
    have r2 := (zs_I_eq c1)
    obtain ⟨ret, er, hr⟩ := zc_1466 h_σ h_x3 h_x4 h_x6 h_x7 h_x8 (zs_rdk (q := 27) (k := 0) (z := (0, 30)) h_σ.1 rfl) hc
    refine ⟨ret, er, ?_⟩
    exact (zs_sumw hr (fun v w => ⟨w.1, w.2⟩) (fun v w => w.elim))
  · skip
    have r3 := (zs_I_eqn c1)
    exact (zs_botne r3 h_x3 zlI_2 (by decide)).elim
-- BX4_reckon_62
theorem zc_1468 {σ0 : sn_S} {σ : sn_S} (h_σ : zs_C σ0 σ) {x3 : Int32} (h_x3 : zs_in x3.toInt 2 2) {x4 : Int32} (h_x4 : zs_in x4.toInt (-1) (-1)) {x6 : Int32} (h_x6 : zs_in x6.toInt 8 8) {x7 : Int32} (h_x7 : zs_in x7.toInt 1 255) {t0 : Int32} (h_t0 : zs_in t0.toInt 0 7) {c : Int} (hc : x7.toInt = c + 0) : zs_ok (BX4_reckon_62 σ 1 27 x3 x4 x6 x7 t0) (fun r => zs_sum (fun v => ((zs_C σ0 v.1 ∧ zs_in (v.2).toInt 2 256)) ∧ v.2.toInt = c + 1) (fun v => False) r) := by
  unfold BX4_reckon_62
  obtain rfl : x3 = (2 : Int32) := zs_eqv h_x3 (by decide)
  obtain rfl : x4 = (-1 : Int32) := zs_eqv h_x4 (by decide)
  obtain rfl : x6 = (8 : Int32) := zs_eqv h_x6 (by decide)
  refine zs_bd_ (zd_285 h_x3 h_x4 h_x6 h_x7 h_t0 (s0 := (σ, t0)) ⟨h_σ, (zs_w h_t0 (by decide))⟩) (fun t_1 pt_1 => ?_)
  obtain ⟨ret, er, hr⟩ := zc_1467 pt_1 h_x3 h_x4 h_x6 h_x7 h_t0 hc
  refine ⟨ret, er, ?_⟩
  exact (zs_sumw hr (fun v w => ⟨w.1, w.2⟩) (fun v w => w.elim))
-- BX4_reckon_34
theorem zc_1469 {σ0 : sn_S} {σ : sn_S} (h_σ : zs_C σ0 σ) {x3 : Int32} (h_x3 : zs_in x3.toInt 2 2) {x4 : Int32} (h_x4 : zs_in x4.toInt (-1) (-1)) {x6 : Int32} (h_x6 : zs_in x6.toInt 8 8) {x7 : Int32} (h_x7 : zs_in x7.toInt 0 256) {c : Int} (hc : x7.toInt = c + 0) : zs_ok (BX4_reckon_34 σ 1 27 x3 x4 x6 x7) (fun r => zs_sum (fun v => ((zs_C σ0 v.1 ∧ zs_in (v.2).toInt 1 256)) ∧ v.2.toInt = c + 1) (fun v => zs_C σ0 v) r) := by
  unfold BX4_reckon_34
  obtain rfl : x3 = (2 : Int32) := zs_eqv h_x3 (by decide)
  obtain rfl : x4 = (-1 : Int32) := zs_eqv h_x4 (by decide)
  obtain rfl : x6 = (8 : Int32) := zs_eqv h_x6 (by decide)
  refine zs_ite (fun c1 => ?_) (fun c1 => ?_)
  · skip
    have r2 := (zs_I_le c1)
    have g3 : zs_in (x7).toInt 256 256 := (zs_ler 256 256 r2 (zs_cases h_x6 (fun z => zs_in ((1 : Int32) <<< (z &&& 31)).toInt 256 256) (by decide +kernel)) h_x7 (by decide))
    exact zs_some (zs_inr (h_σ))
  · skip
    have r4 := (zs_I_len c1)
    have g5 : zs_in (x7).toInt 0 255 := (zs_ltl 0 255 r4 h_x7 (zs_cases h_x6 (fun z => zs_in ((1 : Int32) <<< (z &&& 31)).toInt 256 256) (by decide +kernel)) (by decide))
    refine zs_ite (fun c6 => ?_) (fun c6 => ?_)
    · skip
      have r7 := (zs_I_eq c6)
      have g8 : zs_in (x7).toInt 0 0 := (zs_eql 0 0 r7 g5 zlI_0 (by decide))
      obtain ⟨ret, er, hr⟩ := zc_1459 h_σ h_x3 h_x4 h_x6 g8 zlI_0 hc
      refine ⟨ret, er, ?_⟩
      exact (zs_sumw hr (fun v w => ⟨⟨w.1.1, (zs_w w.1.2 (by decide))⟩, w.2⟩) (fun v w => w.elim))
    · skip
      have r9 := (zs_I_eqn c6)
      have g10 : zs_in (x7).toInt 1 255 := (zs_nel 1 255 r9 g5 zlI_0 (by decide))
      refine zs_bd_ (zo_low1 8 7 (by decide) g10) (fun t_3 pt_3 => ?_)
      obtain ⟨ret, er, hr⟩ := zc_1468 h_σ h_x3 h_x4 h_x6 g10 (zs_subI 0 7 (zs_subI 7 7 h_x6 zlI_1 (by decide)) pt_3 (by decide)) hc
      refine ⟨ret, er, ?_⟩
      exact (zs_sumw hr (fun v w => ⟨⟨w.1.1, (zs_w w.1.2 (by decide))⟩, w.2⟩) (fun v w => w.elim))
theorem zd_287 {σ0 : sn_S} {x3 : Int32} (h_x3 : zs_in x3.toInt 2 2) {x4 : Int32} (h_x4 : zs_in x4.toInt (-1) (-1)) {x6 : Int32} (h_x6 : zs_in x6.toInt 8 8) {s0 : (sn_S × Int32)} (h0 : (zs_C σ0 s0.1 ∧ zs_in (s0.2).toInt 0 256)) : zs_ok (sn_it (LX4_reckon_34 1 27 x3 x4 x6) 5000 s0) (fun t => zs_C σ0 t) := by
  refine zs_it (I := fun s => (zs_C σ0 s.1 ∧ zs_in (s.2).toInt 0 256)) (m := fun s => 256 - s.2.toInt) (fun s hs => ?_) (fun s hs => ?_) h0
  · have h1 := hs.2; unfold zs_in at h1
    omega
  · obtain ⟨b, eb, hb⟩ := zc_1469 hs.1 h_x3 h_x4 h_x6 hs.2 (c := s.2.toInt) (Int.add_zero _).symm
    exact ⟨b, eb, zs_sumw hb (fun v w => ⟨⟨w.1.1, (zs_w w.1.2 (by decide))⟩, by have := w.2; omega⟩) (fun v w => w)⟩
-- fX4_reckon
theorem zc_1470 {σ0 : sn_S} {σ : sn_S} (h_σ : zs_C σ0 σ) {x3 : Int32} (h_x3 : zs_in x3.toInt 2 2) {x4 : Int32} (h_x4 : zs_in x4.toInt (-1) (-1)) {x5 : Int32} (h_x5 : zs_in x5.toInt 7 7) : zs_ok (fX4_reckon σ 1 27 x3 x4 x5) (fun r => zs_C σ0 r) := by
  unfold fX4_reckon
  obtain rfl : x3 = (2 : Int32) := zs_eqv h_x3 (by decide)
  obtain rfl : x4 = (-1 : Int32) := zs_eqv h_x4 (by decide)
  obtain rfl : x5 = (7 : Int32) := zs_eqv h_x5 (by decide)
  refine zs_lt (Q := fun z => zs_in z.toInt 8 8) (zs_addI 8 8 h_x5 zlI_1 (by decide)) (fun y_1 hy_1 => ?_)
  refine zs_gd (zs_gin zlI_4 (by decide)) ?_
  refine zs_bd_ (zc_1087 h_σ hy_1 (zs_rdk (q := 2) (k := (4 : Int32).toNatClampNeg) (z := (0, 10)) h_σ.1 rfl)) (fun t_4 pt_4 => ?_)
  refine zs_bd_ (zo_dcopy pt_4) (fun t_6 pt_6 => ?_)
  refine zs_lt (Q := fun z => zs_C σ0 z) (zs_wrL pt_6 rfl) (fun σ_8 hσ_8 => ?_)
  refine zs_bd_ (zd_287 h_x3 h_x4 hy_1 (s0 := (σ_8, (0 : Int32))) ⟨hσ_8, (zs_w zlI_0 (by decide))⟩) (fun t_10 pt_10 => ?_)
  obtain ⟨ret, er, hr⟩ := zc_1136 pt_10 hy_1
  refine ⟨ret, er, ?_⟩
  exact hr
-- fX4_reckon
theorem zc_1471 {σ0 : sn_S} {σ : sn_S} (h_σ : zs_C σ0 σ) {x3 : Int32} (h_x3 : zs_in x3.toInt 2 2) {x4 : Int32} (h_x4 : zs_in x4.toInt (-1) (-1)) {x5 : Int32} (h_x5 : zs_in x5.toInt 0 7) : zs_ok (fX4_reckon σ 1 27 x3 x4 x5) (fun r => zs_C σ0 r) := by
  obtain ⟨j, hj, rfl⟩ := zs_val h_x5 (by decide)
  have hj : j < 8 := hj
  match j, hj with
  | 0, _ =>
    obtain ⟨r, e, h⟩ := zc_1309 (x5 := nI 0) h_σ h_x3 h_x4 (by decide)
    exact ⟨r, e, h⟩
  | 1, _ =>
    obtain ⟨r, e, h⟩ := zc_1332 (x5 := nI 1) h_σ h_x3 h_x4 (by decide)
    exact ⟨r, e, h⟩
  | 2, _ =>
    obtain ⟨r, e, h⟩ := zc_1355 (x5 := nI 2) h_σ h_x3 h_x4 (by decide)
    exact ⟨r, e, h⟩
  | 3, _ =>
    obtain ⟨r, e, h⟩ := zc_1378 (x5 := nI 3) h_σ h_x3 h_x4 (by decide)
    exact ⟨r, e, h⟩
  | 4, _ =>
    obtain ⟨r, e, h⟩ := zc_1401 (x5 := nI 4) h_σ h_x3 h_x4 (by decide)
    exact ⟨r, e, h⟩
  | 5, _ =>
    obtain ⟨r, e, h⟩ := zc_1424 (x5 := nI 5) h_σ h_x3 h_x4 (by decide)
    exact ⟨r, e, h⟩
  | 6, _ =>
    obtain ⟨r, e, h⟩ := zc_1447 (x5 := nI 6) h_σ h_x3 h_x4 (by decide)
    exact ⟨r, e, h⟩
  | 7, _ =>
    obtain ⟨r, e, h⟩ := zc_1470 (x5 := nI 7) h_σ h_x3 h_x4 (by decide)
    exact ⟨r, e, h⟩

-- fX8_risk
theorem zc_1472 {σ0 : sn_S} {σ : sn_S} (h_σ : zs_C σ0 σ) {x1 : Int32} {x2 : Int32} : zs_ok (fX8_risk σ x1 x2) (fun r => ((True ∧ zs_C σ0 r.2)) ∧ ((r.1).toInt = (-2) ∨ (zs_in (x1).toInt 0 7 ∧ zs_in (x2).toInt 0 1))) := by
  unfold fX8_risk
  refine zs_bd_ (zc_695 h_σ) (fun t_1 pt_1 => ?_)
  refine zs_ite (fun c1 => ?_) (fun c1 => ?_)
  · skip
    have r2 := (zs_I_eq c1)
    have g3 : zs_in (t_1).toInt 0 0 := (zs_eql 0 0 r2 pt_1.1 zlI_0 (by decide))
    exact zs_some ⟨⟨trivial, h_σ⟩, Or.inl (zs_ptr zlI_m2)⟩
  · skip
    have r4 := (zs_I_eqn c1)
    have g5 : zs_in (t_1).toInt 1 1 := (zs_nel 1 1 r4 pt_1.1 zlI_0 (by decide))
    have q6 := (zs_or2 pt_1.2 g5 (by decide))
    have g7 : zs_in (x1).toInt 0 7 := q6
    refine zs_ite (fun c8 => ?_) (fun c8 => ?_)
    · skip
      have r9 := (zs_I_lt c8)
      have g10 : zs_in (x2).toInt (-2147483648) (-1) := (zs_ltl (-2147483648) (-1) r9 (zs_topI _) zlI_0 (by decide))
      exact zs_some ⟨⟨trivial, h_σ⟩, Or.inl (zs_ptr zlI_m2)⟩
    · skip
      have r11 := (zs_I_ltn c8)
      have g12 : zs_in (x2).toInt 0 2147483647 := (zs_ler 0 2147483647 r11 zlI_0 (zs_topI _) (by decide))
      refine zs_ite (fun c13 => ?_) (fun c13 => ?_)
      · skip
        have r14 := (zs_I_le c13)
        have g15 : zs_in (x2).toInt 0 1 := (zs_lel 0 1 r14 g12 zlI_1 (by decide))
        refine zs_bd_ (zc_1471 h_σ zlI_2 zlI_m1 g7) (fun t_6 pt_6 => ?_)
        refine zs_ite (fun c16 => ?_) (fun c16 => ?_)
        · skip
          have r17 := (zs_I_eq c16)
          have g18 : zs_in (x2).toInt 0 0 := (zs_eql 0 0 r17 g15 zlI_0 (by decide))
          exact zs_some ⟨⟨trivial, pt_6⟩, Or.inr ⟨g7, (zs_w g18 (by decide))⟩⟩
        · skip
          have r19 := (zs_I_eqn c16)
          have g20 : zs_in (x2).toInt 1 1 := (zs_nel 1 1 r19 g15 zlI_0 (by decide))
          exact zs_some ⟨⟨trivial, pt_6⟩, Or.inr ⟨g7, (zs_w g20 (by decide))⟩⟩
      · skip
        have r21 := (zs_I_len c13)
        have g22 : zs_in (x2).toInt 2 2147483647 := (zs_ltr 2 2147483647 r21 zlI_1 g12 (by decide))
        exact zs_some ⟨⟨trivial, h_σ⟩, Or.inl (zs_ptr zlI_m2)⟩
-- fX2_act
theorem zc_1473 {σ0 : sn_S} {σ : sn_S} (h_σ : zs_C σ0 σ) {x1 : Int32} (h_x1 : zs_in x1.toInt 0 0) {x2 : Int32} (h_x2 : zs_in x2.toInt 0 5) {x3 : Int32} (h_x3 : zs_in x3.toInt 0 29) : zs_ok (fX2_act σ 1 x1 x2 x3) (fun r => (zs_in (r.1).toInt 0 1 ∧ zs_C σ0 r.2)) := by
  unfold fX2_act
  obtain rfl : x1 = (0 : Int32) := zs_eqv h_x1 (by decide)
  refine zs_gd (zs_gin zlI_9 (by decide)) ?_
  refine zs_lt (Q := fun z => zs_in z.toInt 0 40) (zs_rdk (q := 2) (k := (9 : Int32).toNatClampNeg) (z := (0, 40)) h_σ.1 rfl) (fun y_2 hy_2 => ?_)
  refine zs_ite (fun c1 => ?_) (fun c1 => ?_)
  · skip
    have r2 := (zs_I_lt c1)
    have g3 : zs_in (y_2).toInt 0 39 := (zs_ltl 0 39 r2 hy_2 zlI_40 (by decide))
    refine zs_gd (zs_gin (zs_mulI 0 117 zlI_3 g3 (by decide)) (by decide)) ?_
    refine zs_lt (Q := fun z => zs_C σ0 z) (zs_wru (z := (0, 29)) h_σ (fun _ => rfl) h_x1 (by decide) (fun _ => rfl)) (fun σ_6 hσ_6 => ?_)
    refine zs_gd (zs_gin (zs_addI 1 118 (zs_mulI 0 117 zlI_3 g3 (by decide)) zlI_1 (by decide)) (by decide)) ?_
    refine zs_lt (Q := fun z => zs_C σ0 z) (zs_wru (z := (0, 29)) hσ_6 (fun _ => rfl) h_x2 (by decide) (fun _ => rfl)) (fun σ_9 hσ_9 => ?_)
    refine zs_gd (zs_gin (zs_addI 2 119 (zs_mulI 0 117 zlI_3 g3 (by decide)) zlI_2 (by decide)) (by decide)) ?_
    refine zs_lt (Q := fun z => zs_C σ0 z) (zs_wru (z := (0, 29)) hσ_9 (fun _ => rfl) h_x3 (by decide) (fun _ => rfl)) (fun σ_12 hσ_12 => ?_)
    refine zs_gd (zs_gin zlI_9 (by decide)) ?_
    refine zs_lt (Q := fun z => zs_C σ0 z) (zs_wrk (z := (0, 40)) hσ_12 rfl (zs_addI 1 40 g3 zlI_1 (by decide)) (by decide) rfl) (fun σ_15 hσ_15 => ?_)
    refine zs_gd (zs_b01 zlI_1 (by decide)) ?_
    exact zs_some ⟨(zs_w zlI_1 (by decide)), hσ_15⟩
  · skip
    have r4 := (zs_I_ltn c1)
    have g5 : zs_in (y_2).toInt 40 40 := (zs_ler 40 40 r4 zlI_40 hy_2 (by decide))
    refine zs_gd (zs_b01 zlI_0 (by decide)) ?_
    exact zs_some ⟨(zs_w zlI_0 (by decide)), h_σ⟩
-- BX2_minutesOfActs_61
theorem zc_1474 {σ0 : sn_S} {σ : sn_S} (h_σ : zs_C σ0 σ) {x1 : Int32} (h_x1 : zs_in x1.toInt 0 0) {x2 : Int32} (h_x2 : zs_in x2.toInt 0 5) {x3 : Int32} (h_x3 : zs_in x3.toInt 0 1073741823) {x4 : Int32} (h_x4 : zs_in x4.toInt 0 39) {c : Int} (hc : x4.toInt = c + 0) : zs_ok (BX2_minutesOfActs_61 σ 1 x1 x2 x3 x4) (fun r => zs_sum (fun v => ((zs_in (v.1).toInt 0 1073741823 ∧ zs_in (v.2).toInt 1 40)) ∧ v.2.toInt = c + 1) (fun v => False) r) := by
  unfold BX2_minutesOfActs_61
  obtain rfl : x1 = (0 : Int32) := zs_eqv h_x1 (by decide)
  refine zs_lt (Q := fun z => zs_in z.toInt 1 40 ∧ z.toInt = c + 1) ⟨(zs_addI 1 40 h_x4 zlI_1 (by decide)), (zs_syI 1 hc h_x4 zlI_1 (by decide) (by decide))⟩ (fun y_1 hy_1 => ?_)
  exact zs_some (zs_inl ⟨⟨h_x3, hy_1.1⟩, hy_1.2⟩)
-- BX2_minutesOfActs_5
theorem zc_1475 {σ0 : sn_S} {σ : sn_S} (h_σ : zs_C σ0 σ) {x1 : Int32} (h_x1 : zs_in x1.toInt 0 0) {x2 : Int32} (h_x2 : zs_in x2.toInt 0 5) {x3 : Int32} (h_x3 : zs_in x3.toInt 0 1073741823) {x4 : Int32} (h_x4 : zs_in x4.toInt 0 40) {c : Int} (hc : x4.toInt = c + 0) : zs_ok (BX2_minutesOfActs_5 σ 1 x1 x2 x3 x4) (fun r => zs_sum (fun v => ((zs_in (v.1).toInt 0 1073741823 ∧ zs_in (v.2).toInt 1 40)) ∧ v.2.toInt = c + 1) (fun v => zs_in (v).toInt 0 1073741823) r) := by
  unfold BX2_minutesOfActs_5
  obtain rfl : x1 = (0 : Int32) := zs_eqv h_x1 (by decide)
  refine zs_gd (zs_gin zlI_9 (by decide)) ?_
  refine zs_ite (fun c1 => ?_) (fun c1 => ?_)
  · skip
    have r2 := (zs_I_le c1)
    exact zs_some (zs_inr (h_x3))
  · skip
    have r3 := (zs_I_len c1)
    have g4 : zs_in (x4).toInt 0 39 := (zs_ltl 0 39 r3 h_x4 (zs_rdk (q := 2) (k := (9 : Int32).toNatClampNeg) (z := (0, 40)) h_σ.1 rfl) (by decide))
    have g5 : zs_in ((sn_I σ (1 + 1) (9 : Int32).toNatClampNeg)).toInt 1 40 := (zs_ltr 1 40 r3 h_x4 (zs_rdk (q := 2) (k := (9 : Int32).toNatClampNeg) (z := (0, 40)) h_σ.1 rfl) (by decide))
    refine zs_gd (zs_gin (zs_mulI 0 117 zlI_3 g4 (by decide)) (by decide)) ?_
    refine zs_ite (fun c6 => ?_) (fun c6 => ?_)
    · skip
      have r7 := (zs_I_eq c6)
      have g8 : zs_in ((sn_I σ (1 + 6) ((3 : Int32) * x4).toNatClampNeg)).toInt 0 0 := (zs_eql 0 0 r7 (zs_rdu (q := 7) (z := (0, 29)) h_σ.1 (fun _ => rfl)) h_x1 (by decide))
      refine zs_gd (zs_gin (zs_addI 1 118 (zs_mulI 0 117 zlI_3 g4 (by decide)) zlI_1 (by decide)) (by decide)) ?_
      refine zs_ite (fun c9 => ?_) (fun c9 => ?_)
      · skip
        have r10 := (zs_I_eq c9)
        have g11 : zs_in ((sn_I σ (1 + 6) (((3 : Int32) * x4) + (1 : Int32)).toNatClampNeg)).toInt 0 5 := (zs_eql 0 5 r10 (zs_rdu (q := 7) (z := (0, 29)) h_σ.1 (fun _ => rfl)) h_x2 (by decide))
        refine zs_gd (zs_gin (zs_addI 2 119 (zs_mulI 0 117 zlI_3 g4 (by decide)) zlI_2 (by decide)) (by decide)) ?_
        refine zs_lt (Q := fun z => zs_in z.toInt 0 1073741823) (zs_or 30 1073741823 h_x3 (zs_cases (zs_rdu (q := 7) (z := (0, 29)) h_σ.1 (fun _ => rfl)) (fun z => zs_in ((1 : Int32) <<< (z &&& 31)).toInt 1 536870912) (by decide +kernel)) (by decide)) (fun y_8 hy_8 => ?_)
        obtain ⟨ret, er, hr⟩ := zc_1474 h_σ h_x1 h_x2 hy_8 g4 hc
        refine ⟨ret, er, ?_⟩
        exact (zs_sumw hr (fun v w => ⟨w.1, w.2⟩) (fun v w => w.elim))
      · skip
        have r12 := (zs_I_eqn c9)
        obtain ⟨ret, er, hr⟩ := zc_1474 h_σ h_x1 h_x2 h_x3 g4 hc
        refine ⟨ret, er, ?_⟩
        exact (zs_sumw hr (fun v w => ⟨w.1, w.2⟩) (fun v w => w.elim))
    · skip
      have r13 := (zs_I_eqn c6)
      have g14 : zs_in ((sn_I σ (1 + 6) ((3 : Int32) * x4).toNatClampNeg)).toInt 1 29 := (zs_nel 1 29 r13 (zs_rdu (q := 7) (z := (0, 29)) h_σ.1 (fun _ => rfl)) h_x1 (by decide))
      obtain ⟨ret, er, hr⟩ := zc_1474 h_σ h_x1 h_x2 h_x3 g4 hc
      refine ⟨ret, er, ?_⟩
      exact (zs_sumw hr (fun v w => ⟨w.1, w.2⟩) (fun v w => w.elim))
theorem zd_288 {σ0 : sn_S} {σ : sn_S} (h_σ : zs_C σ0 σ) {x1 : Int32} (h_x1 : zs_in x1.toInt 0 0) {x2 : Int32} (h_x2 : zs_in x2.toInt 0 5) {s0 : (Int32 × Int32)} (h0 : (zs_in (s0.1).toInt 0 1073741823 ∧ zs_in (s0.2).toInt 0 40)) : zs_ok (sn_it (LX2_minutesOfActs_5 σ 1 x1 x2) 5000 s0) (fun t => zs_in (t).toInt 0 1073741823) := by
  refine zs_it (I := fun s => (zs_in (s.1).toInt 0 1073741823 ∧ zs_in (s.2).toInt 0 40)) (m := fun s => 40 - s.2.toInt) (fun s hs => ?_) (fun s hs => ?_) h0
  · have h1 := hs.2; unfold zs_in at h1
    omega
  · obtain ⟨b, eb, hb⟩ := zc_1475 h_σ h_x1 h_x2 hs.1 hs.2 (c := s.2.toInt) (Int.add_zero _).symm
    exact ⟨b, eb, zs_sumw hb (fun v w => ⟨⟨w.1.1, (zs_w w.1.2 (by decide))⟩, by have := w.2; omega⟩) (fun v w => w)⟩
-- BX2_minutesOfActs_67
theorem zc_1476 {σ0 : sn_S} {σ : sn_S} (h_σ : zs_C σ0 σ) {x3 : Int32} (h_x3 : zs_in x3.toInt 0 1073741823) : zs_ok (BX2_minutesOfActs_67 σ 1 x3) (fun r => zs_in (r).toInt 0 1073741823) := by
  unfold BX2_minutesOfActs_67
  exact zs_some h_x3
-- fX2_minutesOfActs
theorem zc_1477 {σ0 : sn_S} {σ : sn_S} (h_σ : zs_C σ0 σ) {x1 : Int32} (h_x1 : zs_in x1.toInt 0 0) {x2 : Int32} (h_x2 : zs_in x2.toInt 0 5) : zs_ok (fX2_minutesOfActs σ 1 x1 x2) (fun r => zs_in (r).toInt 0 1073741823) := by
  unfold fX2_minutesOfActs
  obtain rfl : x1 = (0 : Int32) := zs_eqv h_x1 (by decide)
  refine zs_bd_ (zd_288 h_σ h_x1 h_x2 (s0 := ((0 : Int32), (0 : Int32))) ⟨(zs_w zlI_0 (by decide)), (zs_w zlI_0 (by decide))⟩) (fun t_1 pt_1 => ?_)
  obtain ⟨ret, er, hr⟩ := zc_1476 h_σ pt_1
  refine ⟨ret, er, ?_⟩
  exact hr
-- BX2_minutesOfActs_61
theorem zc_1478 {σ0 : sn_S} {σ : sn_S} (h_σ : zs_C σ0 σ) {x1 : Int32} (h_x1 : zs_in x1.toInt 1 1) {x2 : Int32} (h_x2 : zs_in x2.toInt 0 5) {x3 : Int32} (h_x3 : zs_in x3.toInt 0 1073741823) {x4 : Int32} (h_x4 : zs_in x4.toInt 0 39) {c : Int} (hc : x4.toInt = c + 0) : zs_ok (BX2_minutesOfActs_61 σ 1 x1 x2 x3 x4) (fun r => zs_sum (fun v => ((zs_in (v.1).toInt 0 1073741823 ∧ zs_in (v.2).toInt 1 40)) ∧ v.2.toInt = c + 1) (fun v => False) r) := by
  unfold BX2_minutesOfActs_61
  obtain rfl : x1 = (1 : Int32) := zs_eqv h_x1 (by decide)
  refine zs_lt (Q := fun z => zs_in z.toInt 1 40 ∧ z.toInt = c + 1) ⟨(zs_addI 1 40 h_x4 zlI_1 (by decide)), (zs_syI 1 hc h_x4 zlI_1 (by decide) (by decide))⟩ (fun y_1 hy_1 => ?_)
  exact zs_some (zs_inl ⟨⟨h_x3, hy_1.1⟩, hy_1.2⟩)
-- BX2_minutesOfActs_5
theorem zc_1479 {σ0 : sn_S} {σ : sn_S} (h_σ : zs_C σ0 σ) {x1 : Int32} (h_x1 : zs_in x1.toInt 1 1) {x2 : Int32} (h_x2 : zs_in x2.toInt 0 5) {x3 : Int32} (h_x3 : zs_in x3.toInt 0 1073741823) {x4 : Int32} (h_x4 : zs_in x4.toInt 0 40) {c : Int} (hc : x4.toInt = c + 0) : zs_ok (BX2_minutesOfActs_5 σ 1 x1 x2 x3 x4) (fun r => zs_sum (fun v => ((zs_in (v.1).toInt 0 1073741823 ∧ zs_in (v.2).toInt 1 40)) ∧ v.2.toInt = c + 1) (fun v => zs_in (v).toInt 0 1073741823) r) := by
  unfold BX2_minutesOfActs_5
  obtain rfl : x1 = (1 : Int32) := zs_eqv h_x1 (by decide)
  refine zs_gd (zs_gin zlI_9 (by decide)) ?_
  refine zs_ite (fun c1 => ?_) (fun c1 => ?_)
  · skip
    have r2 := (zs_I_le c1)
    exact zs_some (zs_inr (h_x3))
  · skip
    have r3 := (zs_I_len c1)
    have g4 : zs_in (x4).toInt 0 39 := (zs_ltl 0 39 r3 h_x4 (zs_rdk (q := 2) (k := (9 : Int32).toNatClampNeg) (z := (0, 40)) h_σ.1 rfl) (by decide))
    have g5 : zs_in ((sn_I σ (1 + 1) (9 : Int32).toNatClampNeg)).toInt 1 40 := (zs_ltr 1 40 r3 h_x4 (zs_rdk (q := 2) (k := (9 : Int32).toNatClampNeg) (z := (0, 40)) h_σ.1 rfl) (by decide))
    refine zs_gd (zs_gin (zs_mulI 0 117 zlI_3 g4 (by decide)) (by decide)) ?_
    refine zs_ite (fun c6 => ?_) (fun c6 => ?_)
    · skip
      have r7 := (zs_I_eq c6)
      have g8 : zs_in ((sn_I σ (1 + 6) ((3 : Int32) * x4).toNatClampNeg)).toInt 1 1 := (zs_eql 1 1 r7 (zs_rdu (q := 7) (z := (0, 29)) h_σ.1 (fun _ => rfl)) h_x1 (by decide))
      refine zs_gd (zs_gin (zs_addI 1 118 (zs_mulI 0 117 zlI_3 g4 (by decide)) zlI_1 (by decide)) (by decide)) ?_
      refine zs_ite (fun c9 => ?_) (fun c9 => ?_)
      · skip
        have r10 := (zs_I_eq c9)
        have g11 : zs_in ((sn_I σ (1 + 6) (((3 : Int32) * x4) + (1 : Int32)).toNatClampNeg)).toInt 0 5 := (zs_eql 0 5 r10 (zs_rdu (q := 7) (z := (0, 29)) h_σ.1 (fun _ => rfl)) h_x2 (by decide))
        refine zs_gd (zs_gin (zs_addI 2 119 (zs_mulI 0 117 zlI_3 g4 (by decide)) zlI_2 (by decide)) (by decide)) ?_
        refine zs_lt (Q := fun z => zs_in z.toInt 0 1073741823) (zs_or 30 1073741823 h_x3 (zs_cases (zs_rdu (q := 7) (z := (0, 29)) h_σ.1 (fun _ => rfl)) (fun z => zs_in ((1 : Int32) <<< (z &&& 31)).toInt 1 536870912) (by decide +kernel)) (by decide)) (fun y_8 hy_8 => ?_)
        obtain ⟨ret, er, hr⟩ := zc_1478 h_σ h_x1 h_x2 hy_8 g4 hc
        refine ⟨ret, er, ?_⟩
        exact (zs_sumw hr (fun v w => ⟨w.1, w.2⟩) (fun v w => w.elim))
      · skip
        have r12 := (zs_I_eqn c9)
        obtain ⟨ret, er, hr⟩ := zc_1478 h_σ h_x1 h_x2 h_x3 g4 hc
        refine ⟨ret, er, ?_⟩
        exact (zs_sumw hr (fun v w => ⟨w.1, w.2⟩) (fun v w => w.elim))
    · skip
      have r13 := (zs_I_eqn c6)
      obtain ⟨ret, er, hr⟩ := zc_1478 h_σ h_x1 h_x2 h_x3 g4 hc
      refine ⟨ret, er, ?_⟩
      exact (zs_sumw hr (fun v w => ⟨w.1, w.2⟩) (fun v w => w.elim))
theorem zd_289 {σ0 : sn_S} {σ : sn_S} (h_σ : zs_C σ0 σ) {x1 : Int32} (h_x1 : zs_in x1.toInt 1 1) {x2 : Int32} (h_x2 : zs_in x2.toInt 0 5) {s0 : (Int32 × Int32)} (h0 : (zs_in (s0.1).toInt 0 1073741823 ∧ zs_in (s0.2).toInt 0 40)) : zs_ok (sn_it (LX2_minutesOfActs_5 σ 1 x1 x2) 5000 s0) (fun t => zs_in (t).toInt 0 1073741823) := by
  refine zs_it (I := fun s => (zs_in (s.1).toInt 0 1073741823 ∧ zs_in (s.2).toInt 0 40)) (m := fun s => 40 - s.2.toInt) (fun s hs => ?_) (fun s hs => ?_) h0
  · have h1 := hs.2; unfold zs_in at h1
    omega
  · obtain ⟨b, eb, hb⟩ := zc_1479 h_σ h_x1 h_x2 hs.1 hs.2 (c := s.2.toInt) (Int.add_zero _).symm
    exact ⟨b, eb, zs_sumw hb (fun v w => ⟨⟨w.1.1, (zs_w w.1.2 (by decide))⟩, by have := w.2; omega⟩) (fun v w => w)⟩
-- fX2_minutesOfActs
theorem zc_1480 {σ0 : sn_S} {σ : sn_S} (h_σ : zs_C σ0 σ) {x1 : Int32} (h_x1 : zs_in x1.toInt 1 1) {x2 : Int32} (h_x2 : zs_in x2.toInt 0 5) : zs_ok (fX2_minutesOfActs σ 1 x1 x2) (fun r => zs_in (r).toInt 0 1073741823) := by
  unfold fX2_minutesOfActs
  obtain rfl : x1 = (1 : Int32) := zs_eqv h_x1 (by decide)
  refine zs_bd_ (zd_289 h_σ h_x1 h_x2 (s0 := ((0 : Int32), (0 : Int32))) ⟨(zs_w zlI_0 (by decide)), (zs_w zlI_0 (by decide))⟩) (fun t_1 pt_1 => ?_)
  obtain ⟨ret, er, hr⟩ := zc_1476 h_σ pt_1
  refine ⟨ret, er, ?_⟩
  exact hr
-- BX0_tellFrom_56
theorem zc_1481 {σ0 : sn_S} {σ : sn_S} (h_σ : zs_C σ0 σ) {x2 : Int32} (h_x2 : zs_in x2.toInt 0 6) {c : Int} (hc : x2.toInt = c + 0) : zs_ok (BX0_tellFrom_56 σ 27 1 x2) (fun r => zs_sum (fun v => ((zs_C σ0 v.1 ∧ zs_in (v.2).toInt 1 6)) ∧ v.2.toInt = c + 1) (fun v => zs_C σ0 v) r) := by
  unfold BX0_tellFrom_56
  refine zs_ite (fun c1 => ?_) (fun c1 => ?_)
  · skip
    have r2 := (zs_I_le c1)
    exact zs_some (zs_inr (h_σ))
  · skip
    have r3 := (zs_I_len c1)
    have g4 : zs_in (x2).toInt 0 5 := (zs_ltl 0 5 r3 h_x2 (zs_rdk (q := 27) (k := 1) (z := (0, 6)) h_σ.1 rfl) (by decide))
    have g5 : zs_in ((sn_I σ 27 1)).toInt 1 6 := (zs_ltr 1 6 r3 h_x2 (zs_rdk (q := 27) (k := 1) (z := (0, 6)) h_σ.1 rfl) (by decide))
    refine zs_gd (zs_gin (zs_mulI 0 10 zlI_2 g4 (by decide)) (by decide)) ?_
    refine zs_gd (zs_gin g4 (by decide)) ?_
    refine zs_lt (Q := fun z => zs_C σ0 z) (zs_wrt h_σ (fun _ => rfl) (fun _ => rfl)) (fun σ_4 hσ_4 => ?_)
    refine zs_gd (zs_gin (zs_addI 1 11 (zs_mulI 0 10 zlI_2 g4 (by decide)) zlI_1 (by decide)) (by decide)) ?_
    refine zs_gd (zs_gin g4 (by decide)) ?_
    refine zs_lt (Q := fun z => zs_C σ0 z) (zs_wrt hσ_4 (fun _ => rfl) (fun _ => rfl)) (fun σ_8 hσ_8 => ?_)
    refine zs_bd_ (zc_1477 hσ_8 zlI_0 g4) (fun t_10 pt_10 => ?_)
    refine zs_gd (zs_gin g4 (by decide)) ?_
    refine zs_lt (Q := fun z => zs_C σ0 z) (zs_wrt hσ_8 (fun _ => rfl) (fun _ => rfl)) (fun σ_13 hσ_13 => ?_)
    refine zs_bd_ (zc_1480 hσ_13 zlI_1 g4) (fun t_15 pt_15 => ?_)
    refine zs_gd (zs_gin g4 (by decide)) ?_
    refine zs_lt (Q := fun z => zs_C σ0 z) (zs_wrt hσ_13 (fun _ => rfl) (fun _ => rfl)) (fun σ_18 hσ_18 => ?_)
    refine zs_lt (Q := fun z => zs_in z.toInt 1 6 ∧ z.toInt = c + 1) ⟨(zs_addI 1 6 g4 zlI_1 (by decide)), (zs_syI 1 hc g4 zlI_1 (by decide) (by decide))⟩ (fun y_20 hy_20 => ?_)
    exact zs_some (zs_inl ⟨⟨hσ_18, hy_20.1⟩, hy_20.2⟩)
theorem zd_290 {σ0 : sn_S}  {s0 : (sn_S × Int32)} (h0 : (zs_C σ0 s0.1 ∧ zs_in (s0.2).toInt 0 6)) : zs_ok (sn_it (LX0_tellFrom_56 27 1) 5000 s0) (fun t => zs_C σ0 t) := by
  refine zs_it (I := fun s => (zs_C σ0 s.1 ∧ zs_in (s.2).toInt 0 6)) (m := fun s => 6 - s.2.toInt) (fun s hs => ?_) (fun s hs => ?_) h0
  · have h1 := hs.2; unfold zs_in at h1
    omega
  · obtain ⟨b, eb, hb⟩ := zc_1481 hs.1 hs.2 (c := s.2.toInt) (Int.add_zero _).symm
    exact ⟨b, eb, zs_sumw hb (fun v w => ⟨⟨w.1.1, (zs_w w.1.2 (by decide))⟩, by have := w.2; omega⟩) (fun v w => w)⟩
-- BJ7_fill_53178_5
theorem zc_1482 {σ0 : sn_S} {σ : sn_S} (h_σ : zs_C σ0 σ) {x1 : Int32} (h_x1 : zs_in x1.toInt 0 9) {x2 : Int32} (h_x2 : zs_in x2.toInt 0 30) {x3 : Int32} (h_x3 : zs_in x3.toInt 30 30) {c : Int} (hc : x2.toInt = c + 0) : zs_ok (BJ7_fill_53178_5 σ 28 30 x1 x2 x3) (fun r => zs_sum (fun v => ((zs_C σ0 v.1 ∧ zs_in (v.2).toInt 1 30)) ∧ v.2.toInt = c + 1) (fun v => zs_C σ0 v) r) := by
  unfold BJ7_fill_53178_5
  obtain rfl : x3 = (30 : Int32) := zs_eqv h_x3 (by decide)
  refine zs_ite (fun c1 => ?_) (fun c1 => ?_)
  · skip
    have r2 := (zs_I_le c1)
    have g3 : zs_in (x2).toInt 30 30 := (zs_ler 30 30 r2 h_x3 h_x2 (by decide))
    exact zs_some (zs_inr (h_σ))
  · skip
    have r4 := (zs_I_len c1)
    have g5 : zs_in (x2).toInt 0 29 := (zs_ltl 0 29 r4 h_x2 h_x3 (by decide))
    refine zs_gd (zs_gin g5 (by decide)) ?_
    refine zs_lt (Q := fun z => zs_C σ0 z) (zs_wrt h_σ (fun _ => rfl) (fun _ => rfl)) (fun σ_3 hσ_3 => ?_)
    refine zs_lt (Q := fun z => zs_in z.toInt 1 30 ∧ z.toInt = c + 1) ⟨(zs_addI 1 30 g5 zlI_1 (by decide)), (zs_syI 1 hc g5 zlI_1 (by decide) (by decide))⟩ (fun y_5 hy_5 => ?_)
    exact zs_some (zs_inl ⟨⟨hσ_3, hy_5.1⟩, hy_5.2⟩)
theorem zd_291 {σ0 : sn_S} {x1 : Int32} (h_x1 : zs_in x1.toInt 0 9) {x3 : Int32} (h_x3 : zs_in x3.toInt 30 30) {s0 : (sn_S × Int32)} (h0 : (zs_C σ0 s0.1 ∧ zs_in (s0.2).toInt 0 30)) : zs_ok (sn_it (LJ7_fill_53178_5 28 30 x1 x3) 5000 s0) (fun t => zs_C σ0 t) := by
  refine zs_it (I := fun s => (zs_C σ0 s.1 ∧ zs_in (s.2).toInt 0 30)) (m := fun s => 30 - s.2.toInt) (fun s hs => ?_) (fun s hs => ?_) h0
  · have h1 := hs.2; unfold zs_in at h1
    omega
  · obtain ⟨b, eb, hb⟩ := zc_1482 hs.1 h_x1 hs.2 h_x3 (c := s.2.toInt) (Int.add_zero _).symm
    exact ⟨b, eb, zs_sumw hb (fun v w => ⟨⟨w.1.1, (zs_w w.1.2 (by decide))⟩, by have := w.2; omega⟩) (fun v w => w)⟩
-- BJ7_fill_53178_20
theorem zc_1483 {σ0 : sn_S} {σ : sn_S} (h_σ : zs_C σ0 σ) : zs_ok (BJ7_fill_53178_20 σ 28 30) (fun r => zs_C σ0 r) := by
  unfold BJ7_fill_53178_20
  exact zs_some h_σ
-- fJ7_fill_53178
theorem zc_1484 {σ0 : sn_S} {σ : sn_S} (h_σ : zs_C σ0 σ) {x1 : Int32} (h_x1 : zs_in x1.toInt 0 9) : zs_ok (fJ7_fill_53178 σ 28 30 x1) (fun r => zs_C σ0 r) := by
  unfold fJ7_fill_53178
  refine zs_lt (Q := fun z => zs_in z.toInt 30 30) zlI_30 (fun y_1 hy_1 => ?_)
  refine zs_bd_ (zd_291 h_x1 hy_1 (s0 := (σ, (0 : Int32))) ⟨h_σ, (zs_w zlI_0 (by decide))⟩) (fun t_3 pt_3 => ?_)
  obtain ⟨ret, er, hr⟩ := zc_1483 pt_3
  refine ⟨ret, er, ?_⟩
  exact hr
-- BX0_tellFrom_139
theorem zc_1485 {σ0 : sn_S} {σ : sn_S} (h_σ : zs_C σ0 σ) {x2 : Int32} (h_x2 : zs_in x2.toInt 0 5) {c : Int} (hc : x2.toInt = c + 0) : zs_ok (BX0_tellFrom_139 σ 27 1 x2) (fun r => zs_sum (fun v => ((zs_C σ0 v.1 ∧ zs_in (v.2).toInt 1 5)) ∧ v.2.toInt = c + 1) (fun v => zs_C σ0 v) r) := by
  unfold BX0_tellFrom_139
  refine zs_gd (zs_gin zlI_6 (by decide)) ?_
  refine zs_ite (fun c1 => ?_) (fun c1 => ?_)
  · skip
    have r2 := (zs_I_le c1)
    exact zs_some (zs_inr (h_σ))
  · skip
    have r3 := (zs_I_len c1)
    have g4 : zs_in (x2).toInt 0 4 := (zs_ltl 0 4 r3 h_x2 (zs_rdk (q := 2) (k := (6 : Int32).toNatClampNeg) (z := (0, 5)) h_σ.1 rfl) (by decide))
    have g5 : zs_in ((sn_I σ (1 + 1) (6 : Int32).toNatClampNeg)).toInt 1 5 := (zs_ltr 1 5 r3 h_x2 (zs_rdk (q := 2) (k := (6 : Int32).toNatClampNeg) (z := (0, 5)) h_σ.1 rfl) (by decide))
    refine zs_gd (zs_gin (zs_addI 1 9 (zs_mulI 0 8 zlI_2 g4 (by decide)) zlI_1 (by decide)) (by decide)) ?_
    refine zs_gd (zs_gin (zs_use (h_σ.1.2 rfl).1.1.1 g4 (by decide) r3 (zs_i21 g4 (by decide))) (by decide)) ?_
    refine zs_gd (zs_gin (zs_mulI 0 8 zlI_2 g4 (by decide)) (by decide)) ?_
    refine zs_gd (zs_gin (zs_use (h_σ.1.2 rfl).1.1.1 g4 (by decide) r3 (zs_i21 g4 (by decide))) (by decide)) ?_
    refine zs_lt (Q := fun z => zs_C σ0 z) (zs_wrt h_σ (fun _ => rfl) (fun _ => rfl)) (fun σ_7 hσ_7 => ?_)
    refine zs_lt (Q := fun z => zs_in z.toInt 1 5 ∧ z.toInt = c + 1) ⟨(zs_addI 1 5 g4 zlI_1 (by decide)), (zs_syI 1 hc g4 zlI_1 (by decide) (by decide))⟩ (fun y_9 hy_9 => ?_)
    exact zs_some (zs_inl ⟨⟨hσ_7, hy_9.1⟩, hy_9.2⟩)
theorem zd_292 {σ0 : sn_S}  {s0 : (sn_S × Int32)} (h0 : (zs_C σ0 s0.1 ∧ zs_in (s0.2).toInt 0 5)) : zs_ok (sn_it (LX0_tellFrom_139 27 1) 5000 s0) (fun t => zs_C σ0 t) := by
  refine zs_it (I := fun s => (zs_C σ0 s.1 ∧ zs_in (s.2).toInt 0 5)) (m := fun s => 5 - s.2.toInt) (fun s hs => ?_) (fun s hs => ?_) h0
  · have h1 := hs.2; unfold zs_in at h1
    omega
  · obtain ⟨b, eb, hb⟩ := zc_1485 hs.1 hs.2 (c := s.2.toInt) (Int.add_zero _).symm
    exact ⟨b, eb, zs_sumw hb (fun v w => ⟨⟨w.1.1, (zs_w w.1.2 (by decide))⟩, by have := w.2; omega⟩) (fun v w => w)⟩
-- BX0_tellFrom_182
theorem zc_1486 {σ0 : sn_S} {σ : sn_S} (h_σ : zs_C σ0 σ) : zs_ok (BX0_tellFrom_182 σ 27 1) (fun r => zs_C σ0 r) := by
  unfold BX0_tellFrom_182
  exact zs_some h_σ
-- BX0_tellFrom_124
theorem zc_1487 {σ0 : sn_S} {σ : sn_S} (h_σ : zs_C σ0 σ) : zs_ok (BX0_tellFrom_124 σ 27 1) (fun r => zs_C σ0 r) := by
  unfold BX0_tellFrom_124
  refine zs_gd (zs_gin zlI_1 (by decide)) ?_
  refine zs_bd_ (zc_1484 h_σ (zs_rdk (q := 2) (k := (1 : Int32).toNatClampNeg) (z := (0, 9)) h_σ.1 rfl)) (fun t_2 pt_2 => ?_)
  refine zs_bd_ (zd_292  (s0 := (t_2, (0 : Int32))) ⟨pt_2, (zs_w zlI_0 (by decide))⟩) (fun t_4 pt_4 => ?_)
  obtain ⟨ret, er, hr⟩ := zc_1486 pt_4
  refine ⟨ret, er, ?_⟩
  exact hr
-- fX0_tellFrom
theorem zc_1488 {σ0 : sn_S} {σ : sn_S} (h_σ : zs_C σ0 σ) : zs_ok (fX0_tellFrom σ 27 1) (fun r => zs_C σ0 r) := by
  unfold fX0_tellFrom
  refine zs_gd (zs_gin zlI_0 (by decide)) ?_
  refine zs_lt (Q := fun z => zs_C σ0 z) (zs_wrk (z := (0, 30)) h_σ rfl (zs_rdk (q := 2) (k := (0 : Int32).toNatClampNeg) (z := (0, 30)) h_σ.1 rfl) (by decide) rfl) (fun σ_2 hσ_2 => ?_)
  refine zs_gd (zs_gin zlI_5 (by decide)) ?_
  refine zs_lt (Q := fun z => zs_C σ0 z) (zs_wrk (z := (0, 6)) hσ_2 rfl (zs_rdk (q := 2) (k := (5 : Int32).toNatClampNeg) (z := (0, 6)) hσ_2.1 rfl) (by decide) rfl) (fun σ_5 hσ_5 => ?_)
  refine zs_gd (zs_gin zlI_7 (by decide)) ?_
  refine zs_lt (Q := fun z => z = (sn_pI σ_5 27 2 (sn_I σ_5 (1 + 1) (7 : Int32).toNatClampNeg))) rfl (fun σ_8 hσ_8 => ?_)
  refine zs_lt (Q := fun z => z = (sn_pI σ_8 27 3 (-1 : Int32))) rfl (fun σ_10 hσ_10 => ?_)
  refine zs_gd (by decide) ?_
  refine zs_lt (Q := fun z => zs_C σ0 z) (by subst hσ_10; subst hσ_8; exact zo_tell hσ_5) (fun σ_13 hσ_13 => ?_)
  refine zs_bd_ (zd_290  (s0 := (σ_13, (0 : Int32))) ⟨hσ_13, (zs_w zlI_0 (by decide))⟩) (fun t_15 pt_15 => ?_)
  obtain ⟨ret, er, hr⟩ := zc_1487 pt_15
  refine ⟨ret, er, ?_⟩
  exact hr
-- BX0_live_2
theorem zc_1489 {σ0 : sn_S} {σ : sn_S} (h_σ : zs_C σ0 σ) {x1 : Int32} (h_x1 : zs_in x1.toInt 0 0) {x2 : Int32} (h_x2 : zs_in x2.toInt 0 30) {x3 : Int32} (h_x3 : zs_in x3.toInt 0 6) {c : Int} (hc : x3.toInt = c + 0) : zs_ok (BX0_live_2 σ 27 x1 x2 x3) (fun r => zs_sum (fun v => ((zs_C σ0 v.1 ∧ zs_in (v.2).toInt 1 6)) ∧ v.2.toInt = c + 1) (fun v => zs_C σ0 v) r) := by
  unfold BX0_live_2
  obtain rfl : x1 = (0 : Int32) := zs_eqv h_x1 (by decide)
  refine zs_ite (fun c1 => ?_) (fun c1 => ?_)
  · skip
    have r2 := (zs_I_le c1)
    exact zs_some (zs_inr (h_σ))
  · skip
    have r3 := (zs_I_len c1)
    have g4 : zs_in (x3).toInt 0 5 := (zs_ltl 0 5 r3 h_x3 (zs_rdk (q := 27) (k := 1) (z := (0, 6)) h_σ.1 rfl) (by decide))
    have g5 : zs_in ((sn_I σ 27 1)).toInt 1 6 := (zs_ltr 1 6 r3 h_x3 (zs_rdk (q := 27) (k := 1) (z := (0, 6)) h_σ.1 rfl) (by decide))
    refine zs_gd (zs_gin g4 (by decide)) ?_
    refine zs_bd_ (zc_314 h_x1) (fun t_3 pt_3 => ?_)
    refine zs_gd (zs_gin g4 (by decide)) ?_
    refine zs_lt (Q := fun z => zs_C σ0 z) (zs_wru (z := (0, 1073741823)) h_σ (fun _ => rfl) (zs_and pt_3 (by decide)) (by decide) (fun _ => rfl)) (fun σ_6 hσ_6 => ?_)
    refine zs_lt (Q := fun z => zs_in z.toInt 1 6 ∧ z.toInt = c + 1) ⟨(zs_addI 1 6 g4 zlI_1 (by decide)), (zs_syI 1 hc g4 zlI_1 (by decide) (by decide))⟩ (fun y_8 hy_8 => ?_)
    exact zs_some (zs_inl ⟨⟨hσ_6, hy_8.1⟩, hy_8.2⟩)
theorem zd_293 {σ0 : sn_S} {x1 : Int32} (h_x1 : zs_in x1.toInt 0 0) {x2 : Int32} (h_x2 : zs_in x2.toInt 0 30) {s0 : (sn_S × Int32)} (h0 : (zs_C σ0 s0.1 ∧ zs_in (s0.2).toInt 0 6)) : zs_ok (sn_it (LX0_live_2 27 x1 x2) 5000 s0) (fun t => zs_C σ0 t) := by
  refine zs_it (I := fun s => (zs_C σ0 s.1 ∧ zs_in (s.2).toInt 0 6)) (m := fun s => 6 - s.2.toInt) (fun s hs => ?_) (fun s hs => ?_) h0
  · have h1 := hs.2; unfold zs_in at h1
    omega
  · obtain ⟨b, eb, hb⟩ := zc_1489 hs.1 h_x1 h_x2 hs.2 (c := s.2.toInt) (Int.add_zero _).symm
    exact ⟨b, eb, zs_sumw hb (fun v w => ⟨⟨w.1.1, (zs_w w.1.2 (by decide))⟩, by have := w.2; omega⟩) (fun v w => w)⟩
-- BX0_tickleByNets_7
theorem zc_1490 {σ0 : sn_S} {σ : sn_S} (h_σ : zs_C σ0 σ) {x1 : Int32} (h_x1 : zs_in x1.toInt 0 29) {x2 : Int32} (h_x2 : zs_in x2.toInt 0 174) {x3 : Int32} (h_x3 : zs_in x3.toInt 0 6) (hl_x1 : x2.toInt = 6 * x1.toInt) {c : Int} (hc : x3.toInt = c + 0) : zs_ok (BX0_tickleByNets_7 σ 27 x1 x2 x3) (fun r => zs_sum (fun v => ((zs_C σ0 v.1 ∧ zs_in (v.2).toInt 1 6)) ∧ v.2.toInt = c + 1) (fun v => zs_C σ0 v) r) := by
  unfold BX0_tickleByNets_7
  refine zs_ite (fun c1 => ?_) (fun c1 => ?_)
  · skip
    have r2 := (zs_I_le c1)
    exact zs_some (zs_inr (h_σ))
  · skip
    have r3 := (zs_I_len c1)
    have g4 : zs_in (x3).toInt 0 5 := (zs_ltl 0 5 r3 h_x3 (zs_rdk (q := 27) (k := 1) (z := (0, 6)) h_σ.1 rfl) (by decide))
    have g5 : zs_in ((sn_I σ 27 1)).toInt 1 6 := (zs_ltr 1 6 r3 h_x3 (zs_rdk (q := 27) (k := 1) (z := (0, 6)) h_σ.1 rfl) (by decide))
    refine zs_gd (zs_gin (zs_addI 0 179 h_x2 g4 (by decide)) (by decide)) ?_
    refine zs_lt (Q := fun z => zs_C σ0 z) (zs_wrt h_σ (fun _ => rfl) (fun _ => rfl)) (fun σ_3 hσ_3 => ?_)
    refine zs_lt (Q := fun z => zs_in z.toInt 1 6 ∧ z.toInt = c + 1) ⟨(zs_addI 1 6 g4 zlI_1 (by decide)), (zs_syI 1 hc g4 zlI_1 (by decide) (by decide))⟩ (fun y_5 hy_5 => ?_)
    exact zs_some (zs_inl ⟨⟨hσ_3, hy_5.1⟩, hy_5.2⟩)
theorem zd_294 {σ0 : sn_S} {x1 : Int32} (h_x1 : zs_in x1.toInt 0 29) {x2 : Int32} (h_x2 : zs_in x2.toInt 0 174) (hl_x1 : x2.toInt = 6 * x1.toInt) {s0 : (sn_S × Int32)} (h0 : (zs_C σ0 s0.1 ∧ zs_in (s0.2).toInt 0 6)) : zs_ok (sn_it (LX0_tickleByNets_7 27 x1 x2) 5000 s0) (fun t => zs_C σ0 t) := by
  refine zs_it (I := fun s => (zs_C σ0 s.1 ∧ zs_in (s.2).toInt 0 6)) (m := fun s => 6 - s.2.toInt) (fun s hs => ?_) (fun s hs => ?_) h0
  · have h1 := hs.2; unfold zs_in at h1
    omega
  · obtain ⟨b, eb, hb⟩ := zc_1490 hs.1 h_x1 h_x2 hs.2 hl_x1 (c := s.2.toInt) (Int.add_zero _).symm
    exact ⟨b, eb, zs_sumw hb (fun v w => ⟨⟨w.1.1, (zs_w w.1.2 (by decide))⟩, by have := w.2; omega⟩) (fun v w => w)⟩
-- BX0_tickleByNets_46
theorem zc_1491 {σ0 : sn_S} {σ : sn_S} (h_σ : zs_C σ0 σ) {x2 : Int32} (h_x2 : zs_in x2.toInt 0 0) {t0 : Int32} (h_t0 : zs_in t0.toInt 0 0) : zs_ok (BX0_tickleByNets_46 σ 27 x2 t0) (fun r => zs_C σ0 r) := by
  unfold BX0_tickleByNets_46
  obtain rfl : x2 = (0 : Int32) := zs_eqv h_x2 (by decide)
  obtain rfl : t0 = (0 : Int32) := zs_eqv h_t0 (by decide)
  refine zs_ite (fun c1 => ?_) (fun c1 => ?_)
  · skip
    have r2 := (zs_I_eq c1)
    exact zs_some h_σ
  · skip
    have r3 := (zs_I_eqn c1)
    exact (zs_botne r3 h_t0 zlI_0 (by decide)).elim
-- BX0_tickleByNets_149
theorem zc_1492 {σ0 : sn_S} {σ : sn_S} (h_σ : zs_C σ0 σ) {x2 : Int32} (h_x2 : zs_in x2.toInt 6 174) {x3 : Int32} {x4 : Int32} (h_x4 : zs_in x4.toInt 0 7) {c : Int} (hc : x4.toInt = c + 0) : zs_ok (BX0_tickleByNets_149 σ 27 x2 x3 x4) (fun r => zs_sum (fun v => ((zs_C σ0 v.1 ∧ zs_in (v.2).toInt 1 8)) ∧ v.2.toInt = c + 1) (fun v => False) r) := by
  unfold BX0_tickleByNets_149
  refine zs_lt (Q := fun z => zs_in z.toInt 1 8 ∧ z.toInt = c + 1) ⟨(zs_addI 1 8 h_x4 zlI_1 (by decide)), (zs_syI 1 hc h_x4 zlI_1 (by decide) (by decide))⟩ (fun y_1 hy_1 => ?_)
  exact zs_some (zs_inl ⟨⟨h_σ, hy_1.1⟩, hy_1.2⟩)
-- BX0_tickleByNets_147
theorem zc_1493 {σ0 : sn_S} {σ : sn_S} (h_σ : zs_C σ0 σ) {x2 : Int32} (h_x2 : zs_in x2.toInt 6 174) {x3 : Int32} {x4 : Int32} (h_x4 : zs_in x4.toInt 0 7) {t1 : Int32} (h_t1 : zs_in t1.toInt 6 179) {t2 : Int32} {t3 : Int32} (h_t3 : zs_in t3.toInt 0 0) {c : Int} (hc : x4.toInt = c + 0) : zs_ok (BX0_tickleByNets_147 σ 27 x2 x3 x4 t1 t2 t3) (fun r => zs_sum (fun v => ((zs_C σ0 v.1 ∧ zs_in (v.2).toInt 1 8)) ∧ v.2.toInt = c + 1) (fun v => False) r) := by
  unfold BX0_tickleByNets_147
  obtain rfl : t3 = (0 : Int32) := zs_eqv h_t3 (by decide)
  refine zs_gd (zs_gin h_t1 (by decide)) ?_
  refine zs_lt (Q := fun z => zs_C σ0 z) (zs_wrt h_σ (fun _ => rfl) (fun _ => rfl)) (fun σ_2 hσ_2 => ?_)
  obtain ⟨ret, er, hr⟩ := zc_1492 hσ_2 h_x2 h_x4 hc
  refine ⟨ret, er, ?_⟩
  exact (zs_sumw hr (fun v w => ⟨w.1, w.2⟩) (fun v w => w.elim))
-- BX0_tickleByNets_147
theorem zc_1494 {σ0 : sn_S} {σ : sn_S} (h_σ : zs_C σ0 σ) {x2 : Int32} (h_x2 : zs_in x2.toInt 6 174) {x3 : Int32} {x4 : Int32} (h_x4 : zs_in x4.toInt 0 7) {t1 : Int32} (h_t1 : zs_in t1.toInt 6 179) {t2 : Int32} {t3 : Int32} (h_t3 : zs_in t3.toInt 5 5) {c : Int} (hc : x4.toInt = c + 0) : zs_ok (BX0_tickleByNets_147 σ 27 x2 x3 x4 t1 t2 t3) (fun r => zs_sum (fun v => ((zs_C σ0 v.1 ∧ zs_in (v.2).toInt 1 8)) ∧ v.2.toInt = c + 1) (fun v => False) r) := by
  unfold BX0_tickleByNets_147
  obtain rfl : t3 = (5 : Int32) := zs_eqv h_t3 (by decide)
  refine zs_gd (zs_gin h_t1 (by decide)) ?_
  refine zs_lt (Q := fun z => zs_C σ0 z) (zs_wrt h_σ (fun _ => rfl) (fun _ => rfl)) (fun σ_2 hσ_2 => ?_)
  obtain ⟨ret, er, hr⟩ := zc_1492 hσ_2 h_x2 h_x4 hc
  refine ⟨ret, er, ?_⟩
  exact (zs_sumw hr (fun v w => ⟨w.1, w.2⟩) (fun v w => w.elim))
-- BX0_tickleByNets_121
theorem zc_1495 {σ0 : sn_S} {σ : sn_S} (h_σ : zs_C σ0 σ) {x2 : Int32} (h_x2 : zs_in x2.toInt 6 174) {x3 : Int32} {x4 : Int32} (h_x4 : zs_in x4.toInt 0 7) {x5 : Int32} (h_x5 : zs_in x5.toInt 0 5) {x6 : Int32} (h_x6 : zs_in x6.toInt 0 5) {t1 : Int32} (h_t1 : zs_in t1.toInt 6 179) {t2 : Int32} {t3 : Int32} (h_t3 : zs_in t3.toInt 0 0) {c : Int} (hc : x4.toInt = c + 0) : zs_ok (BX0_tickleByNets_121 σ 27 x2 x3 x4 x5 x6 t1 t2 t3) (fun r => zs_sum (fun v => ((zs_C σ0 v.1 ∧ zs_in (v.2).toInt 1 8)) ∧ v.2.toInt = c + 1) (fun v => False) r) := by
  unfold BX0_tickleByNets_121
  obtain rfl : t3 = (0 : Int32) := zs_eqv h_t3 (by decide)
  refine zs_gd (zs_gin h_t1 (by decide)) ?_
  refine zs_lt (Q := fun z => zs_C σ0 z) (zs_wrt h_σ (fun _ => rfl) (fun _ => rfl)) (fun σ_2 hσ_2 => ?_)
  refine zs_gd (zs_gin (zs_addI 6 179 h_x2 h_x6 (by decide)) (by decide)) ?_
  refine zs_bd_ (zc_319 h_x5) (fun t_5 pt_5 => ?_)
  refine zs_ite (fun c1 => ?_) (fun c1 => ?_)
  · skip
    have r2 := (zs_I_eq c1)
    have g3 : zs_in (t_5).toInt 0 0 := (zs_eql 0 0 r2 pt_5 zlI_0 (by decide))
    obtain ⟨ret, er, hr⟩ := zc_1493 hσ_2 h_x2 h_x4 (zs_addI 6 179 h_x2 h_x6 (by decide)) zlI_0 hc
    refine ⟨ret, er, ?_⟩
    exact (zs_sumw hr (fun v w => ⟨w.1, w.2⟩) (fun v w => w.elim))
  · skip
    have r4 := (zs_I_eqn c1)
    have g5 : zs_in (t_5).toInt 1 1 := (zs_nel 1 1 r4 pt_5 zlI_0 (by decide))
    obtain ⟨ret, er, hr⟩ := zc_1494 hσ_2 h_x2 h_x4 (zs_addI 6 179 h_x2 h_x6 (by decide)) zlI_5 hc
    refine ⟨ret, er, ?_⟩
    exact (zs_sumw hr (fun v w => ⟨w.1, w.2⟩) (fun v w => w.elim))
-- BX0_tickleByNets_121
theorem zc_1496 {σ0 : sn_S} {σ : sn_S} (h_σ : zs_C σ0 σ) {x2 : Int32} (h_x2 : zs_in x2.toInt 6 174) {x3 : Int32} {x4 : Int32} (h_x4 : zs_in x4.toInt 0 7) {x5 : Int32} (h_x5 : zs_in x5.toInt 0 5) {x6 : Int32} (h_x6 : zs_in x6.toInt 0 5) {t1 : Int32} (h_t1 : zs_in t1.toInt 6 179) {t2 : Int32} {t3 : Int32} (h_t3 : zs_in t3.toInt 5 5) {c : Int} (hc : x4.toInt = c + 0) : zs_ok (BX0_tickleByNets_121 σ 27 x2 x3 x4 x5 x6 t1 t2 t3) (fun r => zs_sum (fun v => ((zs_C σ0 v.1 ∧ zs_in (v.2).toInt 1 8)) ∧ v.2.toInt = c + 1) (fun v => False) r) := by
  unfold BX0_tickleByNets_121
  obtain rfl : t3 = (5 : Int32) := zs_eqv h_t3 (by decide)
  refine zs_gd (zs_gin h_t1 (by decide)) ?_
  refine zs_lt (Q := fun z => zs_C σ0 z) (zs_wrt h_σ (fun _ => rfl) (fun _ => rfl)) (fun σ_2 hσ_2 => ?_)
  refine zs_gd (zs_gin (zs_addI 6 179 h_x2 h_x6 (by decide)) (by decide)) ?_
  refine zs_bd_ (zc_319 h_x5) (fun t_5 pt_5 => ?_)
  refine zs_ite (fun c1 => ?_) (fun c1 => ?_)
  · skip
    have r2 := (zs_I_eq c1)
    have g3 : zs_in (t_5).toInt 0 0 := (zs_eql 0 0 r2 pt_5 zlI_0 (by decide))
    obtain ⟨ret, er, hr⟩ := zc_1493 hσ_2 h_x2 h_x4 (zs_addI 6 179 h_x2 h_x6 (by decide)) zlI_0 hc
    refine ⟨ret, er, ?_⟩
    exact (zs_sumw hr (fun v w => ⟨w.1, w.2⟩) (fun v w => w.elim))
  · skip
    have r4 := (zs_I_eqn c1)
    have g5 : zs_in (t_5).toInt 1 1 := (zs_nel 1 1 r4 pt_5 zlI_0 (by decide))
    obtain ⟨ret, er, hr⟩ := zc_1494 hσ_2 h_x2 h_x4 (zs_addI 6 179 h_x2 h_x6 (by decide)) zlI_5 hc
    refine ⟨ret, er, ?_⟩
    exact (zs_sumw hr (fun v w => ⟨w.1, w.2⟩) (fun v w => w.elim))
-- BX0_tickleByNets_55
theorem zc_1497 {σ0 : sn_S} {σ : sn_S} (h_σ : zs_C σ0 σ) {x2 : Int32} (h_x2 : zs_in x2.toInt 6 174) {x3 : Int32} {x4 : Int32} (h_x4 : zs_in x4.toInt 0 8) {c : Int} (hc : x4.toInt = c + 0) : zs_ok (BX0_tickleByNets_55 σ 27 x2 x3 x4) (fun r => zs_sum (fun v => ((zs_C σ0 v.1 ∧ zs_in (v.2).toInt 1 8)) ∧ v.2.toInt = c + 1) (fun v => zs_C σ0 v) r) := by
  unfold BX0_tickleByNets_55
  refine zs_ite (fun c1 => ?_) (fun c1 => ?_)
  · skip
    have r2 := (zs_I_le c1)
    exact zs_some (zs_inr (h_σ))
  · skip
    have r3 := (zs_I_len c1)
    have g4 : zs_in (x4).toInt 0 7 := (zs_ltl 0 7 r3 h_x4 (zs_rdk (q := 27) (k := 2) (z := (0, 8)) h_σ.1 rfl) (by decide))
    have g5 : zs_in ((sn_I σ 27 2)).toInt 1 8 := (zs_ltr 1 8 r3 h_x4 (zs_rdk (q := 27) (k := 2) (z := (0, 8)) h_σ.1 rfl) (by decide))
    refine zs_ite (fun c6 => ?_) (fun c6 => ?_)
    · skip
      have r7 := (zs_I_eq c6)
      have g8 : zs_in ((sn_I σ 27 3)).toInt 0 7 := (zs_eqr 0 7 r7 g4 (zs_topI _) (by decide))
      obtain ⟨ret, er, hr⟩ := zc_1492 h_σ h_x2 g4 hc
      refine ⟨ret, er, ?_⟩
      exact (zs_sumw hr (fun v w => ⟨w.1, w.2⟩) (fun v w => w.elim))
    · skip
      have r9 := (zs_I_eqn c6)
      refine zs_gd (zs_gin (zs_mulI 0 14 zlI_2 g4 (by decide)) (by decide)) ?_
      refine zs_lt (Q := fun z => zs_in z.toInt 0 5) (zs_use (h_σ.1.2 rfl).2.1.1 g4 (by decide) r3 (zs_i20 g4 (by decide))) (fun y_4 hy_4 => ?_)
      refine zs_gd (zs_gin (zs_addI 1 15 (zs_mulI 0 14 zlI_2 g4 (by decide)) zlI_1 (by decide)) (by decide)) ?_
      refine zs_lt (Q := fun z => zs_in z.toInt 0 5) (zs_use (h_σ.1.2 rfl).2.1.2 g4 (by decide) r3 (zs_i21 g4 (by decide))) (fun y_7 hy_7 => ?_)
      refine zs_gd (zs_gin (zs_addI 6 179 h_x2 hy_4 (by decide)) (by decide)) ?_
      refine zs_bd_ (zc_319 hy_7) (fun t_10 pt_10 => ?_)
      refine zs_ite (fun c10 => ?_) (fun c10 => ?_)
      · skip
        have r11 := (zs_I_eq c10)
        have g12 : zs_in (t_10).toInt 0 0 := (zs_eql 0 0 r11 pt_10 zlI_0 (by decide))
        obtain ⟨ret, er, hr⟩ := zc_1495 h_σ h_x2 g4 hy_4 hy_7 (zs_addI 6 179 h_x2 hy_4 (by decide)) zlI_0 hc
        refine ⟨ret, er, ?_⟩
        exact (zs_sumw hr (fun v w => ⟨w.1, w.2⟩) (fun v w => w.elim))
      · skip
        have r13 := (zs_I_eqn c10)
        have g14 : zs_in (t_10).toInt 1 1 := (zs_nel 1 1 r13 pt_10 zlI_0 (by decide))
        obtain ⟨ret, er, hr⟩ := zc_1496 h_σ h_x2 g4 hy_4 hy_7 (zs_addI 6 179 h_x2 hy_4 (by decide)) zlI_5 hc
        refine ⟨ret, er, ?_⟩
        exact (zs_sumw hr (fun v w => ⟨w.1, w.2⟩) (fun v w => w.elim))
theorem zd_295 {σ0 : sn_S} {x2 : Int32} (h_x2 : zs_in x2.toInt 6 174) {x3 : Int32} {s0 : (sn_S × Int32)} (h0 : (zs_C σ0 s0.1 ∧ zs_in (s0.2).toInt 0 8)) : zs_ok (sn_it (LX0_tickleByNets_55 27 x2 x3) 5000 s0) (fun t => zs_C σ0 t) := by
  refine zs_it (I := fun s => (zs_C σ0 s.1 ∧ zs_in (s.2).toInt 0 8)) (m := fun s => 8 - s.2.toInt) (fun s hs => ?_) (fun s hs => ?_) h0
  · have h1 := hs.2; unfold zs_in at h1
    omega
  · obtain ⟨b, eb, hb⟩ := zc_1497 hs.1 h_x2 hs.2 (c := s.2.toInt) (Int.add_zero _).symm
    exact ⟨b, eb, zs_sumw hb (fun v w => ⟨⟨w.1.1, (zs_w w.1.2 (by decide))⟩, by have := w.2; omega⟩) (fun v w => w)⟩
-- BX0_tickleByNets_155
theorem zc_1498 {σ0 : sn_S} {σ : sn_S} (h_σ : zs_C σ0 σ) : zs_ok (BX0_tickleByNets_155 σ 27) (fun r => zs_C σ0 r) := by
  unfold BX0_tickleByNets_155
  exact zs_some h_σ
-- BX0_tickleByNets_46
theorem zc_1499 {σ0 : sn_S} {σ : sn_S} (h_σ : zs_C σ0 σ) {x2 : Int32} (h_x2 : zs_in x2.toInt 6 174) {t0 : Int32} : zs_ok (BX0_tickleByNets_46 σ 27 x2 t0) (fun r => zs_C σ0 r) := by
  unfold BX0_tickleByNets_46
  refine zs_ite (fun c1 => ?_) (fun c1 => ?_)
  · skip
    have r2 := (zs_I_eq c1)
    have g3 : zs_in (t0).toInt 0 0 := (zs_eql 0 0 r2 (zs_topI _) zlI_0 (by decide))
    exact zs_some h_σ
  · skip
    have r4 := (zs_I_eqn c1)
    refine zs_bd_ (zd_295 h_x2 (s0 := (σ, (0 : Int32))) ⟨h_σ, (zs_w zlI_0 (by decide))⟩) (fun t_2 pt_2 => ?_)
    obtain ⟨ret, er, hr⟩ := zc_1498 pt_2
    refine ⟨ret, er, ?_⟩
    exact hr
-- BX0_tickleByNets_30
theorem zc_1500 {σ0 : sn_S} {σ : sn_S} (h_σ : zs_C σ0 σ) {x1 : Int32} (h_x1 : zs_in x1.toInt 0 29) {x2 : Int32} (h_x2 : zs_in x2.toInt 0 174) (hl_x1 : x2.toInt = 6 * x1.toInt) : zs_ok (BX0_tickleByNets_30 σ 27 x1 x2) (fun r => zs_C σ0 r) := by
  unfold BX0_tickleByNets_30
  refine zs_ite (fun c1 => ?_) (fun c1 => ?_)
  · skip
    have r2 := (zs_I_eq c1)
    have g3 : zs_in (x1).toInt 0 0 := (zs_eql 0 0 r2 h_x1 zlI_0 (by decide))
    have g4 : zs_in (x2).toInt 0 0 := (zs_lin 0 0 hl_x1 g3 (by decide))
    obtain ⟨ret, er, hr⟩ := zc_1491 h_σ g4 zlI_0
    refine ⟨ret, er, ?_⟩
    exact hr
  · skip
    have r5 := (zs_I_eqn c1)
    have g6 : zs_in (x1).toInt 1 29 := (zs_nel 1 29 r5 h_x1 zlI_0 (by decide))
    have g7 : zs_in (x2).toInt 6 174 := (zs_lin 6 174 hl_x1 g6 (by decide))
    refine zs_gd (zs_gin (zs_subI 0 28 g6 zlI_1 (by decide)) (by decide)) ?_
    obtain ⟨ret, er, hr⟩ := zc_1499 h_σ g7
    refine ⟨ret, er, ?_⟩
    exact hr
-- fX0_tickleByNets
theorem zc_1501 {σ0 : sn_S} {σ : sn_S} (h_σ : zs_C σ0 σ) {x1 : Int32} (h_x1 : zs_in x1.toInt 0 29) : zs_ok (fX0_tickleByNets σ 27 x1) (fun r => zs_C σ0 r) := by
  unfold fX0_tickleByNets
  refine zs_lt (Q := fun z => zs_in z.toInt 0 174 ∧ z = ((6 : Int32) * x1)) ⟨(zs_mulI 0 174 zlI_6 h_x1 (by decide)), rfl⟩ (fun y_1 hy_1 => ?_)
  refine zs_bd_ (zd_294 h_x1 hy_1.1 (zs_linv hy_1.2 zlI_6 h_x1 (by decide)) (s0 := (σ, (0 : Int32))) ⟨h_σ, (zs_w zlI_0 (by decide))⟩) (fun t_3 pt_3 => ?_)
  obtain ⟨ret, er, hr⟩ := zc_1500 pt_3 h_x1 hy_1.1 (zs_linv hy_1.2 zlI_6 h_x1 (by decide))
  refine ⟨ret, er, ?_⟩
  exact hr
-- BX0_liveMinute_98
theorem zc_1502 {σ0 : sn_S} {σ : sn_S} (h_σ : zs_C σ0 σ) {x1 : Int32} (h_x1 : zs_in x1.toInt 0 0) {x2 : Int32} (h_x2 : zs_in x2.toInt 0 0) {x3 : Int32} {x4 : Int32} (h_x4 : zs_in x4.toInt 0 5) {x5 : Int32} (h_x5 : zs_in x5.toInt (-2147483648) 2147483646) (hl_x1 : x2.toInt = 6 * x1.toInt) {c : Int} (hc : x4.toInt = c + 0) : zs_ok (BX0_liveMinute_98 σ 27 x1 x2 x3 x4 x5) (fun r => zs_sum (fun v => ((zs_C σ0 v.1 ∧ (True ∧ zs_in (v.2.2).toInt 1 6))) ∧ v.2.2.toInt = c + 1) (fun v => False) r) := by
  unfold BX0_liveMinute_98
  refine zs_gd (zs_gin (zs_addI 0 5 h_x2 h_x4 (by decide)) (by decide)) ?_
  refine zs_lt (Q := fun z => zs_C σ0 z) (zs_wrt h_σ (fun _ => rfl) (fun _ => rfl)) (fun σ_2 hσ_2 => ?_)
  refine zs_lt (Q := fun z => zs_in z.toInt 1 6 ∧ z.toInt = c + 1) ⟨(zs_addI 1 6 h_x4 zlI_1 (by decide)), (zs_syI 1 hc h_x4 zlI_1 (by decide) (by decide))⟩ (fun y_4 hy_4 => ?_)
  exact zs_some (zs_inl ⟨⟨hσ_2, ⟨trivial, hy_4.1⟩⟩, hy_4.2⟩)
-- BX0_liveMinute_98
theorem zc_1503 {σ0 : sn_S} {σ : sn_S} (h_σ : zs_C σ0 σ) {x1 : Int32} (h_x1 : zs_in x1.toInt 0 0) {x2 : Int32} (h_x2 : zs_in x2.toInt 0 0) {x3 : Int32} {x4 : Int32} (h_x4 : zs_in x4.toInt 0 5) {x5 : Int32} (h_x5 : zs_in x5.toInt 0 0) (hl_x1 : x2.toInt = 6 * x1.toInt) {c : Int} (hc : x4.toInt = c + 0) : zs_ok (BX0_liveMinute_98 σ 27 x1 x2 x3 x4 x5) (fun r => zs_sum (fun v => ((zs_C σ0 v.1 ∧ (True ∧ zs_in (v.2.2).toInt 1 6))) ∧ v.2.2.toInt = c + 1) (fun v => False) r) := by
  unfold BX0_liveMinute_98
  obtain rfl : x5 = (0 : Int32) := zs_eqv h_x5 (by decide)
  refine zs_gd (zs_gin (zs_addI 0 5 h_x2 h_x4 (by decide)) (by decide)) ?_
  refine zs_lt (Q := fun z => zs_C σ0 z) (zs_wrt h_σ (fun _ => rfl) (fun _ => rfl)) (fun σ_2 hσ_2 => ?_)
  refine zs_lt (Q := fun z => zs_in z.toInt 1 6 ∧ z.toInt = c + 1) ⟨(zs_addI 1 6 h_x4 zlI_1 (by decide)), (zs_syI 1 hc h_x4 zlI_1 (by decide) (by decide))⟩ (fun y_4 hy_4 => ?_)
  exact zs_some (zs_inl ⟨⟨hσ_2, ⟨trivial, hy_4.1⟩⟩, hy_4.2⟩)
-- BX0_liveMinute_98
theorem zc_1504 {σ0 : sn_S} {σ : sn_S} (h_σ : zs_C σ0 σ) {x1 : Int32} (h_x1 : zs_in x1.toInt 0 0) {x2 : Int32} (h_x2 : zs_in x2.toInt 0 0) {x3 : Int32} {x4 : Int32} (h_x4 : zs_in x4.toInt 0 5) {x5 : Int32} (hl_x1 : x2.toInt = 6 * x1.toInt) {c : Int} (hc : x4.toInt = c + 0) : zs_ok (BX0_liveMinute_98 σ 27 x1 x2 x3 x4 x5) (fun r => zs_sum (fun v => ((zs_C σ0 v.1 ∧ (True ∧ zs_in (v.2.2).toInt 1 6))) ∧ v.2.2.toInt = c + 1) (fun v => False) r) := by
  unfold BX0_liveMinute_98
  refine zs_gd (zs_gin (zs_addI 0 5 h_x2 h_x4 (by decide)) (by decide)) ?_
  refine zs_lt (Q := fun z => zs_C σ0 z) (zs_wrt h_σ (fun _ => rfl) (fun _ => rfl)) (fun σ_2 hσ_2 => ?_)
  refine zs_lt (Q := fun z => zs_in z.toInt 1 6 ∧ z.toInt = c + 1) ⟨(zs_addI 1 6 h_x4 zlI_1 (by decide)), (zs_syI 1 hc h_x4 zlI_1 (by decide) (by decide))⟩ (fun y_4 hy_4 => ?_)
  exact zs_some (zs_inl ⟨⟨hσ_2, ⟨trivial, hy_4.1⟩⟩, hy_4.2⟩)
-- BX0_liveMinute_46
theorem zc_1505 {σ0 : sn_S} {σ : sn_S} (h_σ : zs_C σ0 σ) {x1 : Int32} (h_x1 : zs_in x1.toInt 0 0) {x2 : Int32} (h_x2 : zs_in x2.toInt 0 0) {x3 : Int32} {x4 : Int32} (h_x4 : zs_in x4.toInt 0 5) {t0 : Int32} {t1 : Int32} (h_t1 : zs_in t1.toInt 0 0) (hl_x1 : x2.toInt = 6 * x1.toInt) {c : Int} (hc : x4.toInt = c + 0) : zs_ok (BX0_liveMinute_46 σ 27 x1 x2 x3 x4 t0 t1) (fun r => zs_sum (fun v => ((zs_C σ0 v.1 ∧ (True ∧ zs_in (v.2.2).toInt 1 6))) ∧ v.2.2.toInt = c + 1) (fun v => False) r) := by
  unfold BX0_liveMinute_46
  obtain rfl : t1 = (0 : Int32) := zs_eqv h_t1 (by decide)
  refine zs_lt (Q := fun z => True) trivial (fun y_1 hy_1 => ?_)
  refine zs_gd (zs_gin h_x4 (by decide)) ?_
  refine zs_ite (fun c1 => ?_) (fun c1 => ?_)
  · skip
    have r2 := (zs_I_lt c1)
    have g3 : zs_in (y_1).toInt (-2147483648) 2147483646 := (zs_ltl (-2147483648) 2147483646 r2 (zs_topI _) (zs_topI _) (by decide))
    have g4 : zs_in ((sn_I σ (27 + 3) x4.toNatClampNeg)).toInt (-2147483647) 2147483647 := (zs_ltr (-2147483647) 2147483647 r2 (zs_topI _) (zs_topI _) (by decide))
    obtain ⟨ret, er, hr⟩ := zc_1502 h_σ h_x1 h_x2 h_x4 g3 hl_x1 hc
    refine ⟨ret, er, ?_⟩
    exact (zs_sumw hr (fun v w => ⟨w.1, w.2⟩) (fun v w => w.elim))
  · skip
    have r5 := (zs_I_ltn c1)
    refine zs_gd (zs_gin h_x4 (by decide)) ?_
    refine zs_bd_ (zc_334 h_x1) (fun t_6 pt_6 => ?_)
    refine zs_ite (fun c6 => ?_) (fun c6 => ?_)
    · skip
      have r7 := (zs_I_eq c6)
      have g8 : zs_in (t_6).toInt 0 0 := (zs_eql 0 0 r7 pt_6 zlI_0 (by decide))
      refine zs_lt (Q := fun z => True) trivial (fun y_9 hy_9 => ?_)
      refine zs_gd (zs_gin h_x4 (by decide)) ?_
      refine zs_gd (zs_gin h_x4 (by decide)) ?_
      refine zs_lt (Q := fun z => zs_C σ0 z) (zs_wru (z := (0, 1073741823)) h_σ (fun _ => rfl) (zs_or 30 1073741823 (zs_rdu (q := 37) (z := (0, 1073741823)) h_σ.1 (fun _ => rfl)) (zs_cases h_x1 (fun z => zs_in ((1 : Int32) <<< (z &&& 31)).toInt 1 1) (by decide +kernel)) (by decide)) (by decide) (fun _ => rfl)) (fun σ_13 hσ_13 => ?_)
      obtain ⟨ret, er, hr⟩ := zc_1503 hσ_13 h_x1 h_x2 h_x4 zlI_0 hl_x1 hc
      refine ⟨ret, er, ?_⟩
      exact (zs_sumw hr (fun v w => ⟨w.1, w.2⟩) (fun v w => w.elim))
    · skip
      have r9 := (zs_I_eqn c6)
      have g10 : zs_in (t_6).toInt 1 1 := (zs_nel 1 1 r9 pt_6 zlI_0 (by decide))
      obtain ⟨ret, er, hr⟩ := zc_1504 h_σ h_x1 h_x2 h_x4 hl_x1 hc
      refine ⟨ret, er, ?_⟩
      exact (zs_sumw hr (fun v w => ⟨w.1, w.2⟩) (fun v w => w.elim))
