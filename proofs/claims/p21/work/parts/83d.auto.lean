theorem zd_55 {σ0 : sn_S} {x1 : Int32} (h_x1 : zs_in x1.toInt 0 29) {x2 : Int32} (h_x2 : zs_in x2.toInt 0 174) (hl_x1 : x2.toInt = 6 * x1.toInt) {s0 : (sn_S × Int32)} (h0 : (zs_C σ0 s0.1 ∧ zs_in (s0.2).toInt 0 6)) : zs_ok (sn_it (LX0_tickleByNets_7 38 x1 x2) 5000 s0) (fun t => zs_C σ0 t) := by
  refine zs_it (I := fun s => (zs_C σ0 s.1 ∧ zs_in (s.2).toInt 0 6)) (m := fun s => 6 - s.2.toInt) (fun s hs => ?_) (fun s hs => ?_) (by exact h0)
  · have h1 := hs.2; unfold zs_in at h1
    omega
  · obtain ⟨b, eb, hb⟩ := zc_316 hs.1 h_x1 h_x2 hs.2 hl_x1 (c := s.2.toInt) (Int.add_zero _).symm
    exact ⟨b, eb, zs_sumw hb (fun v w => ⟨⟨w.1.1, (zs_w w.1.2 (by decide))⟩, by have := w.2; omega⟩) (fun v w => w)⟩
-- BX0_tickleByNets_46
theorem zc_317 {σ0 : sn_S} {σ : sn_S} (h_σ : zs_C σ0 σ) {x2 : Int32} (h_x2 : zs_in x2.toInt 0 0) {t0 : Int32} (h_t0 : zs_in t0.toInt 0 0) : zs_ok (BX0_tickleByNets_46 σ 38 x2 t0) (fun r => zs_C σ0 r) := by
  unfold BX0_tickleByNets_46
  obtain rfl : x2 = (0 : Int32) := zs_eqv h_x2 (by decide)
  obtain rfl : t0 = (0 : Int32) := zs_eqv h_t0 (by decide)
  refine zs_ite (fun c1 => ?_) (fun c1 => ?_)
  · skip
    have r2 := (zs_I_eq c1)
    exact zs_some h_σ
  · skip
    have r3 := (zs_I_eqn c1)
    exact (zs_botne r3 h_t0 zlI_0 (by decide)).elim
-- BX0_tickleByNets_149
theorem zc_318 {σ0 : sn_S} {σ : sn_S} (h_σ : zs_C σ0 σ) {x2 : Int32} (h_x2 : zs_in x2.toInt 6 174) {x3 : Int32} {x4 : Int32} (h_x4 : zs_in x4.toInt 0 7) {c : Int} (hc : x4.toInt = c + 0) : zs_ok (BX0_tickleByNets_149 σ 38 x2 x3 x4) (fun r => zs_sum (fun v => ((zs_C σ0 v.1 ∧ zs_in (v.2).toInt 1 8)) ∧ v.2.toInt = c + 1) (fun v => False) r) := by
  unfold BX0_tickleByNets_149
  refine zs_lt (Q := fun z => zs_in z.toInt 1 8 ∧ z.toInt = c + 1) ⟨(zs_addI 1 8 h_x4 zlI_1 (by decide)), (zs_syI 1 hc h_x4 zlI_1 (by decide) (by decide))⟩ (fun y_1 hy_1 => ?_)
  exact zs_some (zs_inl ⟨⟨h_σ, hy_1.1⟩, hy_1.2⟩)
-- fX8_hasBit
theorem zc_319 {x0 : Int32} {x1 : Int32} (h_x1 : zs_in x1.toInt 0 5) : zs_ok (fX8_hasBit x0 x1) (fun r => zs_in (r).toInt 0 1) := by
  unfold fX8_hasBit
  refine zs_ite (fun c1 => ?_) (fun c1 => ?_)
  · skip
    have r2 := (zs_I_eq c1)
    have g3 : zs_in (((x0 >>> (x1 &&& 31)) &&& (1 : Int32))).toInt 1 1 := (zs_eql 1 1 r2 (zs_and zlI_1 (by decide)) zlI_1 (by decide))
    refine zs_gd (zs_b01 zlI_1 (by decide)) ?_
    exact zs_some (zs_w zlI_1 (by decide))
  · skip
    have r4 := (zs_I_eqn c1)
    have g5 : zs_in (((x0 >>> (x1 &&& 31)) &&& (1 : Int32))).toInt 0 0 := (zs_neh 0 0 r4 (zs_and zlI_1 (by decide)) zlI_1 (by decide))
    refine zs_gd (zs_b01 zlI_0 (by decide)) ?_
    exact zs_some (zs_w zlI_0 (by decide))
-- BX0_tickleByNets_147
theorem zc_320 {σ0 : sn_S} {σ : sn_S} (h_σ : zs_C σ0 σ) {x2 : Int32} (h_x2 : zs_in x2.toInt 6 174) {x3 : Int32} {x4 : Int32} (h_x4 : zs_in x4.toInt 0 7) {t1 : Int32} (h_t1 : zs_in t1.toInt 6 179) {t2 : Int32} {t3 : Int32} (h_t3 : zs_in t3.toInt 0 0) {c : Int} (hc : x4.toInt = c + 0) : zs_ok (BX0_tickleByNets_147 σ 38 x2 x3 x4 t1 t2 t3) (fun r => zs_sum (fun v => ((zs_C σ0 v.1 ∧ zs_in (v.2).toInt 1 8)) ∧ v.2.toInt = c + 1) (fun v => False) r) := by
  unfold BX0_tickleByNets_147
  obtain rfl : t3 = (0 : Int32) := zs_eqv h_t3 (by decide)
  refine zs_gd (zs_gin h_t1 (by decide)) ?_
  refine zs_lt (Q := fun z => zs_C σ0 z) (zs_wrt h_σ (fun _ => rfl) (fun _ => rfl)) (fun σ_2 hσ_2 => ?_)
  obtain ⟨ret, er, hr⟩ := zc_318 hσ_2 h_x2 h_x4 hc
  refine ⟨ret, er, ?_⟩
  exact (zs_sumw hr (fun v w => ⟨w.1, w.2⟩) (fun v w => w.elim))
-- BX0_tickleByNets_147
theorem zc_321 {σ0 : sn_S} {σ : sn_S} (h_σ : zs_C σ0 σ) {x2 : Int32} (h_x2 : zs_in x2.toInt 6 174) {x3 : Int32} {x4 : Int32} (h_x4 : zs_in x4.toInt 0 7) {t1 : Int32} (h_t1 : zs_in t1.toInt 6 179) {t2 : Int32} {t3 : Int32} (h_t3 : zs_in t3.toInt 5 5) {c : Int} (hc : x4.toInt = c + 0) : zs_ok (BX0_tickleByNets_147 σ 38 x2 x3 x4 t1 t2 t3) (fun r => zs_sum (fun v => ((zs_C σ0 v.1 ∧ zs_in (v.2).toInt 1 8)) ∧ v.2.toInt = c + 1) (fun v => False) r) := by
  unfold BX0_tickleByNets_147
  obtain rfl : t3 = (5 : Int32) := zs_eqv h_t3 (by decide)
  refine zs_gd (zs_gin h_t1 (by decide)) ?_
  refine zs_lt (Q := fun z => zs_C σ0 z) (zs_wrt h_σ (fun _ => rfl) (fun _ => rfl)) (fun σ_2 hσ_2 => ?_)
  obtain ⟨ret, er, hr⟩ := zc_318 hσ_2 h_x2 h_x4 hc
  refine ⟨ret, er, ?_⟩
  exact (zs_sumw hr (fun v w => ⟨w.1, w.2⟩) (fun v w => w.elim))
-- BX0_tickleByNets_121
theorem zc_322 {σ0 : sn_S} {σ : sn_S} (h_σ : zs_C σ0 σ) {x2 : Int32} (h_x2 : zs_in x2.toInt 6 174) {x3 : Int32} {x4 : Int32} (h_x4 : zs_in x4.toInt 0 7) {x5 : Int32} (h_x5 : zs_in x5.toInt 0 5) {x6 : Int32} (h_x6 : zs_in x6.toInt 0 5) {t1 : Int32} (h_t1 : zs_in t1.toInt 6 179) {t2 : Int32} {t3 : Int32} (h_t3 : zs_in t3.toInt 0 0) {c : Int} (hc : x4.toInt = c + 0) : zs_ok (BX0_tickleByNets_121 σ 38 x2 x3 x4 x5 x6 t1 t2 t3) (fun r => zs_sum (fun v => ((zs_C σ0 v.1 ∧ zs_in (v.2).toInt 1 8)) ∧ v.2.toInt = c + 1) (fun v => False) r) := by
  unfold BX0_tickleByNets_121
  obtain rfl : t3 = (0 : Int32) := zs_eqv h_t3 (by decide)
  refine zs_gd (zs_gin h_t1 (by decide)) ?_
  refine zs_lt (Q := fun z => zs_C σ0 z) (zs_wrt h_σ (fun _ => rfl) (fun _ => rfl)) (fun σ_2 hσ_2 => ?_)
  refine zs_gd (zs_gin (zs_addI 6 179 h_x2 h_x6 (by decide)) (by decide)) ?_
  refine zs_bd_ (zc_319 h_x5) (fun t_5 pt_5 => ?_)
  refine zs_ite (fun c1 => ?_) (fun c1 => ?_)
  · skip
    have r2 := (zs_I_eq c1)
    have g3 : zs_in (t_5).toInt 0 0 := (zs_eql 0 0 r2 pt_5 zlI_0 (by decide))
    obtain ⟨ret, er, hr⟩ := zc_320 hσ_2 h_x2 h_x4 (zs_addI 6 179 h_x2 h_x6 (by decide)) zlI_0 hc
    refine ⟨ret, er, ?_⟩
    exact (zs_sumw hr (fun v w => ⟨w.1, w.2⟩) (fun v w => w.elim))
  · skip
    have r4 := (zs_I_eqn c1)
    have g5 : zs_in (t_5).toInt 1 1 := (zs_nel 1 1 r4 pt_5 zlI_0 (by decide))
    obtain ⟨ret, er, hr⟩ := zc_321 hσ_2 h_x2 h_x4 (zs_addI 6 179 h_x2 h_x6 (by decide)) zlI_5 hc
    refine ⟨ret, er, ?_⟩
    exact (zs_sumw hr (fun v w => ⟨w.1, w.2⟩) (fun v w => w.elim))
-- BX0_tickleByNets_121
theorem zc_323 {σ0 : sn_S} {σ : sn_S} (h_σ : zs_C σ0 σ) {x2 : Int32} (h_x2 : zs_in x2.toInt 6 174) {x3 : Int32} {x4 : Int32} (h_x4 : zs_in x4.toInt 0 7) {x5 : Int32} (h_x5 : zs_in x5.toInt 0 5) {x6 : Int32} (h_x6 : zs_in x6.toInt 0 5) {t1 : Int32} (h_t1 : zs_in t1.toInt 6 179) {t2 : Int32} {t3 : Int32} (h_t3 : zs_in t3.toInt 5 5) {c : Int} (hc : x4.toInt = c + 0) : zs_ok (BX0_tickleByNets_121 σ 38 x2 x3 x4 x5 x6 t1 t2 t3) (fun r => zs_sum (fun v => ((zs_C σ0 v.1 ∧ zs_in (v.2).toInt 1 8)) ∧ v.2.toInt = c + 1) (fun v => False) r) := by
  unfold BX0_tickleByNets_121
  obtain rfl : t3 = (5 : Int32) := zs_eqv h_t3 (by decide)
  refine zs_gd (zs_gin h_t1 (by decide)) ?_
  refine zs_lt (Q := fun z => zs_C σ0 z) (zs_wrt h_σ (fun _ => rfl) (fun _ => rfl)) (fun σ_2 hσ_2 => ?_)
  refine zs_gd (zs_gin (zs_addI 6 179 h_x2 h_x6 (by decide)) (by decide)) ?_
  refine zs_bd_ (zc_319 h_x5) (fun t_5 pt_5 => ?_)
  refine zs_ite (fun c1 => ?_) (fun c1 => ?_)
  · skip
    have r2 := (zs_I_eq c1)
    have g3 : zs_in (t_5).toInt 0 0 := (zs_eql 0 0 r2 pt_5 zlI_0 (by decide))
    obtain ⟨ret, er, hr⟩ := zc_320 hσ_2 h_x2 h_x4 (zs_addI 6 179 h_x2 h_x6 (by decide)) zlI_0 hc
    refine ⟨ret, er, ?_⟩
    exact (zs_sumw hr (fun v w => ⟨w.1, w.2⟩) (fun v w => w.elim))
  · skip
    have r4 := (zs_I_eqn c1)
    have g5 : zs_in (t_5).toInt 1 1 := (zs_nel 1 1 r4 pt_5 zlI_0 (by decide))
    obtain ⟨ret, er, hr⟩ := zc_321 hσ_2 h_x2 h_x4 (zs_addI 6 179 h_x2 h_x6 (by decide)) zlI_5 hc
    refine ⟨ret, er, ?_⟩
    exact (zs_sumw hr (fun v w => ⟨w.1, w.2⟩) (fun v w => w.elim))
-- BX0_tickleByNets_55
theorem zc_324 {σ0 : sn_S} {σ : sn_S} (h_σ : zs_C σ0 σ) {x2 : Int32} (h_x2 : zs_in x2.toInt 6 174) {x3 : Int32} {x4 : Int32} (h_x4 : zs_in x4.toInt 0 8) {c : Int} (hc : x4.toInt = c + 0) : zs_ok (BX0_tickleByNets_55 σ 38 x2 x3 x4) (fun r => zs_sum (fun v => ((zs_C σ0 v.1 ∧ zs_in (v.2).toInt 1 8)) ∧ v.2.toInt = c + 1) (fun v => zs_C σ0 v) r) := by
  unfold BX0_tickleByNets_55
  refine zs_ite (fun c1 => ?_) (fun c1 => ?_)
  · skip
    have r2 := (zs_I_le c1)
    exact zs_some (zs_inr (h_σ))
  · skip
    have r3 := (zs_I_len c1)
    have g4 : zs_in (x4).toInt 0 7 := (zs_ltl 0 7 r3 h_x4 (zs_rdk (q := 38) (k := 2) (z := (0, 8)) h_σ.1 rfl) (by decide))
    have g5 : zs_in ((sn_I σ 38 2)).toInt 1 8 := (zs_ltr 1 8 r3 h_x4 (zs_rdk (q := 38) (k := 2) (z := (0, 8)) h_σ.1 rfl) (by decide))
    refine zs_ite (fun c6 => ?_) (fun c6 => ?_)
    · skip
      have r7 := (zs_I_eq c6)
      have g8 : zs_in ((sn_I σ 38 3)).toInt 0 7 := (zs_eqr 0 7 r7 g4 (zs_topI _) (by decide))
      obtain ⟨ret, er, hr⟩ := zc_318 h_σ h_x2 g4 hc
      refine ⟨ret, er, ?_⟩
      exact (zs_sumw hr (fun v w => ⟨w.1, w.2⟩) (fun v w => w.elim))
    · skip
      have r9 := (zs_I_eqn c6)
      refine zs_gd (zs_gin (zs_mulI 0 14 zlI_2 g4 (by decide)) (by decide)) ?_
      refine zs_lt (Q := fun z => zs_in z.toInt 0 5) (zs_use (h_σ.1.2 rfl).2.2.1.1 g4 (by decide) r3 (zs_i20 g4 (by decide))) (fun y_4 hy_4 => ?_)
      refine zs_gd (zs_gin (zs_addI 1 15 (zs_mulI 0 14 zlI_2 g4 (by decide)) zlI_1 (by decide)) (by decide)) ?_
      refine zs_lt (Q := fun z => zs_in z.toInt 0 5) (zs_use (h_σ.1.2 rfl).2.2.1.2 g4 (by decide) r3 (zs_i21 g4 (by decide))) (fun y_7 hy_7 => ?_)
      refine zs_gd (zs_gin (zs_addI 6 179 h_x2 hy_4 (by decide)) (by decide)) ?_
      refine zs_bd_ (zc_319 hy_7) (fun t_10 pt_10 => ?_)
      refine zs_ite (fun c10 => ?_) (fun c10 => ?_)
      · skip
        have r11 := (zs_I_eq c10)
        have g12 : zs_in (t_10).toInt 0 0 := (zs_eql 0 0 r11 pt_10 zlI_0 (by decide))
        obtain ⟨ret, er, hr⟩ := zc_322 h_σ h_x2 g4 hy_4 hy_7 (zs_addI 6 179 h_x2 hy_4 (by decide)) zlI_0 hc
        refine ⟨ret, er, ?_⟩
        exact (zs_sumw hr (fun v w => ⟨w.1, w.2⟩) (fun v w => w.elim))
      · skip
        have r13 := (zs_I_eqn c10)
        have g14 : zs_in (t_10).toInt 1 1 := (zs_nel 1 1 r13 pt_10 zlI_0 (by decide))
        obtain ⟨ret, er, hr⟩ := zc_323 h_σ h_x2 g4 hy_4 hy_7 (zs_addI 6 179 h_x2 hy_4 (by decide)) zlI_5 hc
        refine ⟨ret, er, ?_⟩
        exact (zs_sumw hr (fun v w => ⟨w.1, w.2⟩) (fun v w => w.elim))
theorem zd_56 {σ0 : sn_S} {x2 : Int32} (h_x2 : zs_in x2.toInt 6 174) {x3 : Int32} {s0 : (sn_S × Int32)} (h0 : (zs_C σ0 s0.1 ∧ zs_in (s0.2).toInt 0 8)) : zs_ok (sn_it (LX0_tickleByNets_55 38 x2 x3) 5000 s0) (fun t => zs_C σ0 t) := by
  refine zs_it (I := fun s => (zs_C σ0 s.1 ∧ zs_in (s.2).toInt 0 8)) (m := fun s => 8 - s.2.toInt) (fun s hs => ?_) (fun s hs => ?_) (by exact h0)
  · have h1 := hs.2; unfold zs_in at h1
    omega
  · obtain ⟨b, eb, hb⟩ := zc_324 hs.1 h_x2 hs.2 (c := s.2.toInt) (Int.add_zero _).symm
    exact ⟨b, eb, zs_sumw hb (fun v w => ⟨⟨w.1.1, (zs_w w.1.2 (by decide))⟩, by have := w.2; omega⟩) (fun v w => w)⟩
-- BX0_tickleByNets_155
theorem zc_325 {σ0 : sn_S} {σ : sn_S} (h_σ : zs_C σ0 σ) : zs_ok (BX0_tickleByNets_155 σ 38) (fun r => zs_C σ0 r) := by
  unfold BX0_tickleByNets_155
  exact zs_some h_σ
-- BX0_tickleByNets_46
theorem zc_326 {σ0 : sn_S} {σ : sn_S} (h_σ : zs_C σ0 σ) {x2 : Int32} (h_x2 : zs_in x2.toInt 6 174) {t0 : Int32} : zs_ok (BX0_tickleByNets_46 σ 38 x2 t0) (fun r => zs_C σ0 r) := by
  unfold BX0_tickleByNets_46
  refine zs_ite (fun c1 => ?_) (fun c1 => ?_)
  · skip
    have r2 := (zs_I_eq c1)
    have g3 : zs_in (t0).toInt 0 0 := (zs_eql 0 0 r2 (zs_topI _) zlI_0 (by decide))
    exact zs_some h_σ
  · skip
    have r4 := (zs_I_eqn c1)
    refine zs_bd_ (zd_56 h_x2 (s0 := (σ, (0 : Int32))) ⟨h_σ, (zs_w zlI_0 (by decide))⟩) (fun t_2 pt_2 => ?_)
    obtain ⟨ret, er, hr⟩ := zc_325 pt_2
    refine ⟨ret, er, ?_⟩
    exact hr
-- BX0_tickleByNets_30
theorem zc_327 {σ0 : sn_S} {σ : sn_S} (h_σ : zs_C σ0 σ) {x1 : Int32} (h_x1 : zs_in x1.toInt 0 29) {x2 : Int32} (h_x2 : zs_in x2.toInt 0 174) (hl_x1 : x2.toInt = 6 * x1.toInt) : zs_ok (BX0_tickleByNets_30 σ 38 x1 x2) (fun r => zs_C σ0 r) := by
  unfold BX0_tickleByNets_30
  refine zs_ite (fun c1 => ?_) (fun c1 => ?_)
  · skip
    have r2 := (zs_I_eq c1)
    have g3 : zs_in (x1).toInt 0 0 := (zs_eql 0 0 r2 h_x1 zlI_0 (by decide))
    have g4 : zs_in (x2).toInt 0 0 := (zs_lin 0 0 hl_x1 g3 (by decide))
    obtain ⟨ret, er, hr⟩ := zc_317 h_σ g4 zlI_0
    refine ⟨ret, er, ?_⟩
    exact hr
  · skip
    have r5 := (zs_I_eqn c1)
    have g6 : zs_in (x1).toInt 1 29 := (zs_nel 1 29 r5 h_x1 zlI_0 (by decide))
    have g7 : zs_in (x2).toInt 6 174 := (zs_lin 6 174 hl_x1 g6 (by decide))
    refine zs_gd (zs_gin (zs_subI 0 28 g6 zlI_1 (by decide)) (by decide)) ?_
    obtain ⟨ret, er, hr⟩ := zc_326 h_σ g7
    refine ⟨ret, er, ?_⟩
    exact hr
-- fX0_tickleByNets
theorem zc_328 {σ0 : sn_S} {σ : sn_S} (h_σ : zs_C σ0 σ) {x1 : Int32} (h_x1 : zs_in x1.toInt 0 29) : zs_ok (fX0_tickleByNets σ 38 x1) (fun r => zs_C σ0 r) := by
  unfold fX0_tickleByNets
  refine zs_lt (Q := fun z => zs_in z.toInt 0 174 ∧ z = ((6 : Int32) * x1)) ⟨(zs_mulI 0 174 zlI_6 h_x1 (by decide)), rfl⟩ (fun y_1 hy_1 => ?_)
  refine zs_bd_ (zd_55 h_x1 hy_1.1 (zs_linv hy_1.2 zlI_6 h_x1 (by decide)) (s0 := (σ, (0 : Int32))) ⟨h_σ, (zs_w zlI_0 (by decide))⟩) (fun t_3 pt_3 => ?_)
  obtain ⟨ret, er, hr⟩ := zc_327 pt_3 h_x1 hy_1.1 (zs_linv hy_1.2 zlI_6 h_x1 (by decide))
  refine ⟨ret, er, ?_⟩
  exact hr
-- fX0_cameAt
theorem zc_329 {σ0 : sn_S} {σ : sn_S} (h_σ : zs_C σ0 σ) {x1 : Int32} (h_x1 : zs_in x1.toInt 0 5) {x2 : Int32} (h_x2 : zs_in x2.toInt 0 29) : zs_ok (fX0_cameAt σ 38 x1 x2) (fun r => True) := by
  unfold fX0_cameAt
  refine zs_gd (zs_gin (zs_addI 0 179 (zs_mulI 0 174 zlI_6 h_x2 (by decide)) h_x1 (by decide)) (by decide)) ?_
  exact zs_some trivial
-- BX0_comesTo_19
theorem zc_330 {σ0 : sn_S} {σ : sn_S} (h_σ : zs_C σ0 σ) {x1 : Int32} (h_x1 : zs_in x1.toInt 0 5) {x2 : Int32} (h_x2 : zs_in x2.toInt 0 29) {t0 : Int32} (h_t0 : zs_in t0.toInt 0 0) : zs_ok (BX0_comesTo_19 σ 38 x1 x2 t0) (fun r => True) := by
  unfold BX0_comesTo_19
  obtain rfl : t0 = (0 : Int32) := zs_eqv h_t0 (by decide)
  refine zs_gd (zs_gin h_x1 (by decide)) ?_
  refine zs_gd (zs_gin h_x2 (by decide)) ?_
  refine zs_bd_ (zc_329 h_σ h_x1 h_x2) (fun t_3 pt_3 => ?_)
  exact zs_some trivial
-- BX0_comesTo_19
theorem zc_331 {σ0 : sn_S} {σ : sn_S} (h_σ : zs_C σ0 σ) {x1 : Int32} (h_x1 : zs_in x1.toInt 0 5) {x2 : Int32} (h_x2 : zs_in x2.toInt 0 29) {t0 : Int32} (h_t0 : zs_in t0.toInt 40 40) : zs_ok (BX0_comesTo_19 σ 38 x1 x2 t0) (fun r => True) := by
  unfold BX0_comesTo_19
  obtain rfl : t0 = (40 : Int32) := zs_eqv h_t0 (by decide)
  refine zs_gd (zs_gin h_x1 (by decide)) ?_
  refine zs_gd (zs_gin h_x2 (by decide)) ?_
  refine zs_bd_ (zc_329 h_σ h_x1 h_x2) (fun t_3 pt_3 => ?_)
  exact zs_some trivial
-- fX0_comesTo
theorem zc_332 {σ0 : sn_S} {σ : sn_S} (h_σ : zs_C σ0 σ) {x1 : Int32} (h_x1 : zs_in x1.toInt 0 5) {x2 : Int32} (h_x2 : zs_in x2.toInt 0 29) : zs_ok (fX0_comesTo σ 38 x1 x2) (fun r => True) := by
  unfold fX0_comesTo
  refine zs_gd (zs_gin h_x1 (by decide)) ?_
  refine zs_bd_ (zc_221 h_x2) (fun t_2 pt_2 => ?_)
  refine zs_ite (fun c1 => ?_) (fun c1 => ?_)
  · skip
    have r2 := (zs_I_eq c1)
    have g3 : zs_in (t_2).toInt 0 0 := (zs_eql 0 0 r2 pt_2 zlI_0 (by decide))
    obtain ⟨ret, er, hr⟩ := zc_330 h_σ h_x1 h_x2 zlI_0
    refine ⟨ret, er, ?_⟩
    exact hr
  · skip
    have r4 := (zs_I_eqn c1)
    have g5 : zs_in (t_2).toInt 1 1 := (zs_nel 1 1 r4 pt_2 zlI_0 (by decide))
    obtain ⟨ret, er, hr⟩ := zc_331 h_σ h_x1 h_x2 zlI_40
    refine ⟨ret, er, ?_⟩
    exact hr
-- BX0_liveMinute_98
theorem zc_333 {σ0 : sn_S} {σ : sn_S} (h_σ : zs_C σ0 σ) {x1 : Int32} (h_x1 : zs_in x1.toInt 0 0) {x2 : Int32} (h_x2 : zs_in x2.toInt 0 0) {x3 : Int32} {x4 : Int32} (h_x4 : zs_in x4.toInt 0 5) {x5 : Int32} (h_x5 : zs_in x5.toInt (-2147483648) 2147483646) (hl_x1 : x2.toInt = 6 * x1.toInt) {c : Int} (hc : x4.toInt = c + 0) : zs_ok (BX0_liveMinute_98 σ 38 x1 x2 x3 x4 x5) (fun r => zs_sum (fun v => ((zs_C σ0 v.1 ∧ (True ∧ zs_in (v.2.2).toInt 1 6))) ∧ v.2.2.toInt = c + 1) (fun v => False) r) := by
  unfold BX0_liveMinute_98
  refine zs_gd (zs_gin (zs_addI 0 5 h_x2 h_x4 (by decide)) (by decide)) ?_
  refine zs_lt (Q := fun z => zs_C σ0 z) (zs_wrt h_σ (fun _ => rfl) (fun _ => rfl)) (fun σ_2 hσ_2 => ?_)
  refine zs_lt (Q := fun z => zs_in z.toInt 1 6 ∧ z.toInt = c + 1) ⟨(zs_addI 1 6 h_x4 zlI_1 (by decide)), (zs_syI 1 hc h_x4 zlI_1 (by decide) (by decide))⟩ (fun y_4 hy_4 => ?_)
  exact zs_some (zs_inl ⟨⟨hσ_2, ⟨trivial, hy_4.1⟩⟩, hy_4.2⟩)
-- fX8_hasBit
theorem zc_334 {x0 : Int32} {x1 : Int32} (h_x1 : zs_in x1.toInt 0 0) : zs_ok (fX8_hasBit x0 x1) (fun r => zs_in (r).toInt 0 1) := by
  unfold fX8_hasBit
  obtain rfl : x1 = (0 : Int32) := zs_eqv h_x1 (by decide)
  refine zs_ite (fun c1 => ?_) (fun c1 => ?_)
  · skip
    have r2 := (zs_I_eq c1)
    have g3 : zs_in (((x0 >>> ((0 : Int32) &&& 31)) &&& (1 : Int32))).toInt 1 1 := (zs_eql 1 1 r2 (zs_and zlI_1 (by decide)) zlI_1 (by decide))
    refine zs_gd (zs_b01 zlI_1 (by decide)) ?_
    exact zs_some (zs_w zlI_1 (by decide))
  · skip
    have r4 := (zs_I_eqn c1)
    have g5 : zs_in (((x0 >>> ((0 : Int32) &&& 31)) &&& (1 : Int32))).toInt 0 0 := (zs_neh 0 0 r4 (zs_and zlI_1 (by decide)) zlI_1 (by decide))
    refine zs_gd (zs_b01 zlI_0 (by decide)) ?_
    exact zs_some (zs_w zlI_0 (by decide))
-- BX0_liveMinute_98
theorem zc_335 {σ0 : sn_S} {σ : sn_S} (h_σ : zs_C σ0 σ) {x1 : Int32} (h_x1 : zs_in x1.toInt 0 0) {x2 : Int32} (h_x2 : zs_in x2.toInt 0 0) {x3 : Int32} {x4 : Int32} (h_x4 : zs_in x4.toInt 0 5) {x5 : Int32} (h_x5 : zs_in x5.toInt 0 0) (hl_x1 : x2.toInt = 6 * x1.toInt) {c : Int} (hc : x4.toInt = c + 0) : zs_ok (BX0_liveMinute_98 σ 38 x1 x2 x3 x4 x5) (fun r => zs_sum (fun v => ((zs_C σ0 v.1 ∧ (True ∧ zs_in (v.2.2).toInt 1 6))) ∧ v.2.2.toInt = c + 1) (fun v => False) r) := by
  unfold BX0_liveMinute_98
  obtain rfl : x5 = (0 : Int32) := zs_eqv h_x5 (by decide)
  refine zs_gd (zs_gin (zs_addI 0 5 h_x2 h_x4 (by decide)) (by decide)) ?_
  refine zs_lt (Q := fun z => zs_C σ0 z) (zs_wrt h_σ (fun _ => rfl) (fun _ => rfl)) (fun σ_2 hσ_2 => ?_)
  refine zs_lt (Q := fun z => zs_in z.toInt 1 6 ∧ z.toInt = c + 1) ⟨(zs_addI 1 6 h_x4 zlI_1 (by decide)), (zs_syI 1 hc h_x4 zlI_1 (by decide) (by decide))⟩ (fun y_4 hy_4 => ?_)
  exact zs_some (zs_inl ⟨⟨hσ_2, ⟨trivial, hy_4.1⟩⟩, hy_4.2⟩)
-- BX0_liveMinute_98
theorem zc_336 {σ0 : sn_S} {σ : sn_S} (h_σ : zs_C σ0 σ) {x1 : Int32} (h_x1 : zs_in x1.toInt 0 0) {x2 : Int32} (h_x2 : zs_in x2.toInt 0 0) {x3 : Int32} {x4 : Int32} (h_x4 : zs_in x4.toInt 0 5) {x5 : Int32} (hl_x1 : x2.toInt = 6 * x1.toInt) {c : Int} (hc : x4.toInt = c + 0) : zs_ok (BX0_liveMinute_98 σ 38 x1 x2 x3 x4 x5) (fun r => zs_sum (fun v => ((zs_C σ0 v.1 ∧ (True ∧ zs_in (v.2.2).toInt 1 6))) ∧ v.2.2.toInt = c + 1) (fun v => False) r) := by
  unfold BX0_liveMinute_98
  refine zs_gd (zs_gin (zs_addI 0 5 h_x2 h_x4 (by decide)) (by decide)) ?_
  refine zs_lt (Q := fun z => zs_C σ0 z) (zs_wrt h_σ (fun _ => rfl) (fun _ => rfl)) (fun σ_2 hσ_2 => ?_)
  refine zs_lt (Q := fun z => zs_in z.toInt 1 6 ∧ z.toInt = c + 1) ⟨(zs_addI 1 6 h_x4 zlI_1 (by decide)), (zs_syI 1 hc h_x4 zlI_1 (by decide) (by decide))⟩ (fun y_4 hy_4 => ?_)
  exact zs_some (zs_inl ⟨⟨hσ_2, ⟨trivial, hy_4.1⟩⟩, hy_4.2⟩)
-- BX0_liveMinute_46
theorem zc_337 {σ0 : sn_S} {σ : sn_S} (h_σ : zs_C σ0 σ) {x1 : Int32} (h_x1 : zs_in x1.toInt 0 0) {x2 : Int32} (h_x2 : zs_in x2.toInt 0 0) {x3 : Int32} {x4 : Int32} (h_x4 : zs_in x4.toInt 0 5) {t0 : Int32} {t1 : Int32} (h_t1 : zs_in t1.toInt 0 0) (hl_x1 : x2.toInt = 6 * x1.toInt) {c : Int} (hc : x4.toInt = c + 0) : zs_ok (BX0_liveMinute_46 σ 38 x1 x2 x3 x4 t0 t1) (fun r => zs_sum (fun v => ((zs_C σ0 v.1 ∧ (True ∧ zs_in (v.2.2).toInt 1 6))) ∧ v.2.2.toInt = c + 1) (fun v => False) r) := by
  unfold BX0_liveMinute_46
  obtain rfl : t1 = (0 : Int32) := zs_eqv h_t1 (by decide)
  refine zs_lt (Q := fun z => True) trivial (fun y_1 hy_1 => ?_)
  refine zs_gd (zs_gin h_x4 (by decide)) ?_
  refine zs_ite (fun c1 => ?_) (fun c1 => ?_)
  · skip
    have r2 := (zs_I_lt c1)
    have g3 : zs_in (y_1).toInt (-2147483648) 2147483646 := (zs_ltl (-2147483648) 2147483646 r2 (zs_topI _) (zs_topI _) (by decide))
    have g4 : zs_in ((sn_I σ (38 + 3) x4.toNatClampNeg)).toInt (-2147483647) 2147483647 := (zs_ltr (-2147483647) 2147483647 r2 (zs_topI _) (zs_topI _) (by decide))
    obtain ⟨ret, er, hr⟩ := zc_333 h_σ h_x1 h_x2 h_x4 g3 hl_x1 hc
    refine ⟨ret, er, ?_⟩
    exact (zs_sumw hr (fun v w => ⟨w.1, w.2⟩) (fun v w => w.elim))
  · skip
    have r5 := (zs_I_ltn c1)
    refine zs_gd (zs_gin h_x4 (by decide)) ?_
    refine zs_bd_ (zc_334 h_x1) (fun t_6 pt_6 => ?_)
    refine zs_ite (fun c6 => ?_) (fun c6 => ?_)
    · skip
      have r7 := (zs_I_eq c6)
      have g8 : zs_in (t_6).toInt 0 0 := (zs_eql 0 0 r7 pt_6 zlI_0 (by decide))
      refine zs_lt (Q := fun z => True) trivial (fun y_9 hy_9 => ?_)
      refine zs_gd (zs_gin h_x4 (by decide)) ?_
      refine zs_gd (zs_gin h_x4 (by decide)) ?_
      refine zs_lt (Q := fun z => zs_C σ0 z) (zs_wru (z := (0, 1073741823)) h_σ (fun _ => rfl) (zs_or 30 1073741823 (zs_rdu (q := 48) (z := (0, 1073741823)) h_σ.1 (fun _ => rfl)) (zs_cases h_x1 (fun z => zs_in ((1 : Int32) <<< (z &&& 31)).toInt 1 1) (by decide +kernel)) (by decide)) (by decide) (fun _ => rfl)) (fun σ_13 hσ_13 => ?_)
      obtain ⟨ret, er, hr⟩ := zc_335 hσ_13 h_x1 h_x2 h_x4 zlI_0 hl_x1 hc
      refine ⟨ret, er, ?_⟩
      exact (zs_sumw hr (fun v w => ⟨w.1, w.2⟩) (fun v w => w.elim))
    · skip
      have r9 := (zs_I_eqn c6)
      have g10 : zs_in (t_6).toInt 1 1 := (zs_nel 1 1 r9 pt_6 zlI_0 (by decide))
      obtain ⟨ret, er, hr⟩ := zc_336 h_σ h_x1 h_x2 h_x4 hl_x1 hc
      refine ⟨ret, er, ?_⟩
      exact (zs_sumw hr (fun v w => ⟨w.1, w.2⟩) (fun v w => w.elim))
-- BX0_liveMinute_98
theorem zc_338 {σ0 : sn_S} {σ : sn_S} (h_σ : zs_C σ0 σ) {x1 : Int32} (h_x1 : zs_in x1.toInt 1 29) {x2 : Int32} (h_x2 : zs_in x2.toInt 6 174) {x3 : Int32} {x4 : Int32} (h_x4 : zs_in x4.toInt 0 5) {x5 : Int32} (h_x5 : zs_in x5.toInt (-2147483648) 2147483646) (hl_x1 : x2.toInt = 6 * x1.toInt) {c : Int} (hc : x4.toInt = c + 0) : zs_ok (BX0_liveMinute_98 σ 38 x1 x2 x3 x4 x5) (fun r => zs_sum (fun v => ((zs_C σ0 v.1 ∧ (True ∧ zs_in (v.2.2).toInt 1 6))) ∧ v.2.2.toInt = c + 1) (fun v => False) r) := by
  unfold BX0_liveMinute_98
  refine zs_gd (zs_gin (zs_addI 6 179 h_x2 h_x4 (by decide)) (by decide)) ?_
  refine zs_lt (Q := fun z => zs_C σ0 z) (zs_wrt h_σ (fun _ => rfl) (fun _ => rfl)) (fun σ_2 hσ_2 => ?_)
  refine zs_lt (Q := fun z => zs_in z.toInt 1 6 ∧ z.toInt = c + 1) ⟨(zs_addI 1 6 h_x4 zlI_1 (by decide)), (zs_syI 1 hc h_x4 zlI_1 (by decide) (by decide))⟩ (fun y_4 hy_4 => ?_)
  exact zs_some (zs_inl ⟨⟨hσ_2, ⟨trivial, hy_4.1⟩⟩, hy_4.2⟩)
-- fX8_hasBit
theorem zc_339 {x0 : Int32} {x1 : Int32} (h_x1 : zs_in x1.toInt 1 29) : zs_ok (fX8_hasBit x0 x1) (fun r => zs_in (r).toInt 0 1) := by
  unfold fX8_hasBit
  refine zs_ite (fun c1 => ?_) (fun c1 => ?_)
  · skip
    have r2 := (zs_I_eq c1)
    have g3 : zs_in (((x0 >>> (x1 &&& 31)) &&& (1 : Int32))).toInt 1 1 := (zs_eql 1 1 r2 (zs_and zlI_1 (by decide)) zlI_1 (by decide))
    refine zs_gd (zs_b01 zlI_1 (by decide)) ?_
    exact zs_some (zs_w zlI_1 (by decide))
  · skip
    have r4 := (zs_I_eqn c1)
    have g5 : zs_in (((x0 >>> (x1 &&& 31)) &&& (1 : Int32))).toInt 0 0 := (zs_neh 0 0 r4 (zs_and zlI_1 (by decide)) zlI_1 (by decide))
    refine zs_gd (zs_b01 zlI_0 (by decide)) ?_
    exact zs_some (zs_w zlI_0 (by decide))
-- BX0_liveMinute_98
theorem zc_340 {σ0 : sn_S} {σ : sn_S} (h_σ : zs_C σ0 σ) {x1 : Int32} (h_x1 : zs_in x1.toInt 1 29) {x2 : Int32} (h_x2 : zs_in x2.toInt 6 174) {x3 : Int32} {x4 : Int32} (h_x4 : zs_in x4.toInt 0 5) {x5 : Int32} (h_x5 : zs_in x5.toInt 0 0) (hl_x1 : x2.toInt = 6 * x1.toInt) {c : Int} (hc : x4.toInt = c + 0) : zs_ok (BX0_liveMinute_98 σ 38 x1 x2 x3 x4 x5) (fun r => zs_sum (fun v => ((zs_C σ0 v.1 ∧ (True ∧ zs_in (v.2.2).toInt 1 6))) ∧ v.2.2.toInt = c + 1) (fun v => False) r) := by
  unfold BX0_liveMinute_98
  obtain rfl : x5 = (0 : Int32) := zs_eqv h_x5 (by decide)
  refine zs_gd (zs_gin (zs_addI 6 179 h_x2 h_x4 (by decide)) (by decide)) ?_
  refine zs_lt (Q := fun z => zs_C σ0 z) (zs_wrt h_σ (fun _ => rfl) (fun _ => rfl)) (fun σ_2 hσ_2 => ?_)
  refine zs_lt (Q := fun z => zs_in z.toInt 1 6 ∧ z.toInt = c + 1) ⟨(zs_addI 1 6 h_x4 zlI_1 (by decide)), (zs_syI 1 hc h_x4 zlI_1 (by decide) (by decide))⟩ (fun y_4 hy_4 => ?_)
  exact zs_some (zs_inl ⟨⟨hσ_2, ⟨trivial, hy_4.1⟩⟩, hy_4.2⟩)
-- BX0_liveMinute_98
theorem zc_341 {σ0 : sn_S} {σ : sn_S} (h_σ : zs_C σ0 σ) {x1 : Int32} (h_x1 : zs_in x1.toInt 1 29) {x2 : Int32} (h_x2 : zs_in x2.toInt 6 174) {x3 : Int32} {x4 : Int32} (h_x4 : zs_in x4.toInt 0 5) {x5 : Int32} (hl_x1 : x2.toInt = 6 * x1.toInt) {c : Int} (hc : x4.toInt = c + 0) : zs_ok (BX0_liveMinute_98 σ 38 x1 x2 x3 x4 x5) (fun r => zs_sum (fun v => ((zs_C σ0 v.1 ∧ (True ∧ zs_in (v.2.2).toInt 1 6))) ∧ v.2.2.toInt = c + 1) (fun v => False) r) := by
  unfold BX0_liveMinute_98
  refine zs_gd (zs_gin (zs_addI 6 179 h_x2 h_x4 (by decide)) (by decide)) ?_
  refine zs_lt (Q := fun z => zs_C σ0 z) (zs_wrt h_σ (fun _ => rfl) (fun _ => rfl)) (fun σ_2 hσ_2 => ?_)
  refine zs_lt (Q := fun z => zs_in z.toInt 1 6 ∧ z.toInt = c + 1) ⟨(zs_addI 1 6 h_x4 zlI_1 (by decide)), (zs_syI 1 hc h_x4 zlI_1 (by decide) (by decide))⟩ (fun y_4 hy_4 => ?_)
  exact zs_some (zs_inl ⟨⟨hσ_2, ⟨trivial, hy_4.1⟩⟩, hy_4.2⟩)
-- BX0_liveMinute_46
theorem zc_342 {σ0 : sn_S} {σ : sn_S} (h_σ : zs_C σ0 σ) {x1 : Int32} (h_x1 : zs_in x1.toInt 1 29) {x2 : Int32} (h_x2 : zs_in x2.toInt 6 174) {x3 : Int32} {x4 : Int32} (h_x4 : zs_in x4.toInt 0 5) {t0 : Int32} {t1 : Int32} (hl_x1 : x2.toInt = 6 * x1.toInt) {c : Int} (hc : x4.toInt = c + 0) : zs_ok (BX0_liveMinute_46 σ 38 x1 x2 x3 x4 t0 t1) (fun r => zs_sum (fun v => ((zs_C σ0 v.1 ∧ (True ∧ zs_in (v.2.2).toInt 1 6))) ∧ v.2.2.toInt = c + 1) (fun v => False) r) := by
  unfold BX0_liveMinute_46
  refine zs_lt (Q := fun z => True) trivial (fun y_1 hy_1 => ?_)
  refine zs_gd (zs_gin h_x4 (by decide)) ?_
  refine zs_ite (fun c1 => ?_) (fun c1 => ?_)
  · skip
    have r2 := (zs_I_lt c1)
    have g3 : zs_in (y_1).toInt (-2147483648) 2147483646 := (zs_ltl (-2147483648) 2147483646 r2 (zs_topI _) (zs_topI _) (by decide))
    have g4 : zs_in ((sn_I σ (38 + 3) x4.toNatClampNeg)).toInt (-2147483647) 2147483647 := (zs_ltr (-2147483647) 2147483647 r2 (zs_topI _) (zs_topI _) (by decide))
    obtain ⟨ret, er, hr⟩ := zc_338 h_σ h_x1 h_x2 h_x4 g3 hl_x1 hc
    refine ⟨ret, er, ?_⟩
    exact (zs_sumw hr (fun v w => ⟨w.1, w.2⟩) (fun v w => w.elim))
  · skip
    have r5 := (zs_I_ltn c1)
    refine zs_gd (zs_gin h_x4 (by decide)) ?_
    refine zs_bd_ (zc_339 h_x1) (fun t_6 pt_6 => ?_)
    refine zs_ite (fun c6 => ?_) (fun c6 => ?_)
    · skip
      have r7 := (zs_I_eq c6)
      have g8 : zs_in (t_6).toInt 0 0 := (zs_eql 0 0 r7 pt_6 zlI_0 (by decide))
      refine zs_lt (Q := fun z => True) trivial (fun y_9 hy_9 => ?_)
      refine zs_gd (zs_gin h_x4 (by decide)) ?_
      refine zs_gd (zs_gin h_x4 (by decide)) ?_
      refine zs_lt (Q := fun z => zs_C σ0 z) (zs_wru (z := (0, 1073741823)) h_σ (fun _ => rfl) (zs_or 30 1073741823 (zs_rdu (q := 48) (z := (0, 1073741823)) h_σ.1 (fun _ => rfl)) (zs_cases h_x1 (fun z => zs_in ((1 : Int32) <<< (z &&& 31)).toInt 2 536870912) (by decide +kernel)) (by decide)) (by decide) (fun _ => rfl)) (fun σ_13 hσ_13 => ?_)
      obtain ⟨ret, er, hr⟩ := zc_340 hσ_13 h_x1 h_x2 h_x4 zlI_0 hl_x1 hc
      refine ⟨ret, er, ?_⟩
      exact (zs_sumw hr (fun v w => ⟨w.1, w.2⟩) (fun v w => w.elim))
    · skip
      have r9 := (zs_I_eqn c6)
      have g10 : zs_in (t_6).toInt 1 1 := (zs_nel 1 1 r9 pt_6 zlI_0 (by decide))
      obtain ⟨ret, er, hr⟩ := zc_341 h_σ h_x1 h_x2 h_x4 hl_x1 hc
      refine ⟨ret, er, ?_⟩
      exact (zs_sumw hr (fun v w => ⟨w.1, w.2⟩) (fun v w => w.elim))
-- BX0_liveMinute_10
theorem zc_343 {σ0 : sn_S} {σ : sn_S} (h_σ : zs_C σ0 σ) {x1 : Int32} (h_x1 : zs_in x1.toInt 0 29) {x2 : Int32} (h_x2 : zs_in x2.toInt 0 174) {x3 : Int32} {x4 : Int32} (h_x4 : zs_in x4.toInt 0 6) (hl_x1 : x2.toInt = 6 * x1.toInt) {c : Int} (hc : x4.toInt = c + 0) : zs_ok (BX0_liveMinute_10 σ 38 x1 x2 x3 x4) (fun r => zs_sum (fun v => ((zs_C σ0 v.1 ∧ (True ∧ zs_in (v.2.2).toInt 1 6))) ∧ v.2.2.toInt = c + 1) (fun v => (zs_C σ0 v.1 ∧ True)) r) := by
  unfold BX0_liveMinute_10
  refine zs_ite (fun c1 => ?_) (fun c1 => ?_)
  · skip
    have r2 := (zs_I_le c1)
    exact zs_some (zs_inr (⟨h_σ, trivial⟩))
  · skip
    have r3 := (zs_I_len c1)
    have g4 : zs_in (x4).toInt 0 5 := (zs_ltl 0 5 r3 h_x4 (zs_rdk (q := 38) (k := 1) (z := (0, 6)) h_σ.1 rfl) (by decide))
    have g5 : zs_in ((sn_I σ 38 1)).toInt 1 6 := (zs_ltr 1 6 r3 h_x4 (zs_rdk (q := 38) (k := 1) (z := (0, 6)) h_σ.1 rfl) (by decide))
    refine zs_bd_ (zc_332 h_σ g4 h_x1) (fun t_2 pt_2 => ?_)
    refine zs_ite (fun c6 => ?_) (fun c6 => ?_)
    · skip
      have r7 := (zs_I_eq c6)
      have g8 : zs_in (x1).toInt 0 0 := (zs_eql 0 0 r7 h_x1 zlI_0 (by decide))
      have g9 : zs_in (x2).toInt 0 0 := (zs_lin 0 0 hl_x1 g8 (by decide))
      obtain ⟨ret, er, hr⟩ := zc_337 h_σ g8 g9 g4 zlI_0 hl_x1 hc
      refine ⟨ret, er, ?_⟩
      exact (zs_sumw hr (fun v w => ⟨w.1, w.2⟩) (fun v w => w.elim))
    · skip
      have r10 := (zs_I_eqn c6)
      have g11 : zs_in (x1).toInt 1 29 := (zs_nel 1 29 r10 h_x1 zlI_0 (by decide))
      have g12 : zs_in (x2).toInt 6 174 := (zs_lin 6 174 hl_x1 g11 (by decide))
      refine zs_gd (zs_gin (zs_addI 0 173 (zs_subI 0 168 g12 zlI_6 (by decide)) g4 (by decide)) (by decide)) ?_
      obtain ⟨ret, er, hr⟩ := zc_342 h_σ g11 g12 g4 hl_x1 hc
      refine ⟨ret, er, ?_⟩
      exact (zs_sumw hr (fun v w => ⟨w.1, w.2⟩) (fun v w => w.elim))
theorem zd_57 {σ0 : sn_S} {x1 : Int32} (h_x1 : zs_in x1.toInt 0 29) {x2 : Int32} (h_x2 : zs_in x2.toInt 0 174) (hl_x1 : x2.toInt = 6 * x1.toInt) {s0 : (sn_S × (Int32 × Int32))} (h0 : (zs_C σ0 s0.1 ∧ (True ∧ zs_in (s0.2.2).toInt 0 6))) : zs_ok (sn_it (LX0_liveMinute_10 38 x1 x2) 5000 s0) (fun t => (zs_C σ0 t.1 ∧ True)) := by
  refine zs_it (I := fun s => (zs_C σ0 s.1 ∧ (True ∧ zs_in (s.2.2).toInt 0 6))) (m := fun s => 6 - s.2.2.toInt) (fun s hs => ?_) (fun s hs => ?_) (by exact h0)
  · have h1 := hs.2.2; unfold zs_in at h1
    omega
  · obtain ⟨b, eb, hb⟩ := zc_343 hs.1 h_x1 h_x2 hs.2.2 hl_x1 (c := s.2.2.toInt) (Int.add_zero _).symm
    exact ⟨b, eb, zs_sumw hb (fun v w => ⟨⟨w.1.1, ⟨w.1.2.1, (zs_w w.1.2.2 (by decide))⟩⟩, by have := w.2; omega⟩) (fun v w => w)⟩
-- BX0_liveMinute_115
theorem zc_344 {σ0 : sn_S} {σ : sn_S} (h_σ : zs_C σ0 σ) {x1 : Int32} (h_x1 : zs_in x1.toInt 0 29) {x3 : Int32} : zs_ok (BX0_liveMinute_115 σ 38 x1 x3) (fun r => zs_C σ0 r) := by
  unfold BX0_liveMinute_115
  refine zs_gd (zs_gin h_x1 (by decide)) ?_
  refine zs_lt (Q := fun z => zs_C σ0 z) (zs_wrt h_σ (fun _ => rfl) (fun _ => rfl)) (fun σ_2 hσ_2 => ?_)
  exact zs_some hσ_2
-- fX0_liveMinute
theorem zc_345 {σ0 : sn_S} {σ : sn_S} (h_σ : zs_C σ0 σ) {x1 : Int32} (h_x1 : zs_in x1.toInt 0 29) : zs_ok (fX0_liveMinute σ 38 x1) (fun r => zs_C σ0 r) := by
  unfold fX0_liveMinute
  refine zs_lt (Q := fun z => zs_in z.toInt 0 174 ∧ z = ((6 : Int32) * x1)) ⟨(zs_mulI 0 174 zlI_6 h_x1 (by decide)), rfl⟩ (fun y_1 hy_1 => ?_)
  refine zs_bd_ (zd_57 h_x1 hy_1.1 (zs_linv hy_1.2 zlI_6 h_x1 (by decide)) (s0 := (σ, ((0 : Int32), (0 : Int32)))) ⟨h_σ, ⟨trivial, (zs_w zlI_0 (by decide))⟩⟩) (fun t_3 pt_3 => ?_)
  obtain ⟨ret, er, hr⟩ := zc_344 pt_3.1 h_x1
  refine ⟨ret, er, ?_⟩
  exact hr
-- BX0_live_31
theorem zc_346 {σ0 : sn_S} {σ : sn_S} (h_σ : zs_C σ0 σ) {x2 : Int32} (h_x2 : zs_in x2.toInt 0 30) {x3 : Int32} (h_x3 : zs_in x3.toInt 0 30) {c : Int} (hc : x3.toInt = c + 0) : zs_ok (BX0_live_31 σ 38 x2 x3) (fun r => zs_sum (fun v => ((zs_C σ0 v.1 ∧ zs_in (v.2).toInt 1 30)) ∧ v.2.toInt = c + 1) (fun v => zs_C σ0 v) r) := by
  unfold BX0_live_31
  refine zs_ite (fun c1 => ?_) (fun c1 => ?_)
  · skip
    have r2 := (zs_I_le c1)
    exact zs_some (zs_inr (h_σ))
  · skip
    have r3 := (zs_I_len c1)
    have g4 : zs_in (x3).toInt 0 29 := (zs_ltl 0 29 r3 h_x3 h_x2 (by decide))
    have g5 : zs_in (x2).toInt 1 30 := (zs_ltr 1 30 r3 h_x3 h_x2 (by decide))
    refine zs_ite (fun c6 => ?_) (fun c6 => ?_)
    · skip
      have r7 := (zs_I_le c6)
      have g8 : zs_in ((sn_I σ 38 0)).toInt 0 29 := (zs_lel 0 29 r7 (zs_rdk (q := 38) (k := 0) (z := (0, 30)) h_σ.1 rfl) g4 (by decide))
      exact zs_some (zs_inr (h_σ))
    · skip
      have r9 := (zs_I_len c6)
      have g10 : zs_in ((sn_I σ 38 0)).toInt 1 30 := (zs_ltr 1 30 r9 g4 (zs_rdk (q := 38) (k := 0) (z := (0, 30)) h_σ.1 rfl) (by decide))
      refine zs_bd_ (zc_328 h_σ g4) (fun t_3 pt_3 => ?_)
      refine zs_bd_ (zc_345 pt_3 g4) (fun t_5 pt_5 => ?_)
      refine zs_lt (Q := fun z => zs_in z.toInt 1 30 ∧ z.toInt = c + 1) ⟨(zs_addI 1 30 g4 zlI_1 (by decide)), (zs_syI 1 hc g4 zlI_1 (by decide) (by decide))⟩ (fun y_7 hy_7 => ?_)
      exact zs_some (zs_inl ⟨⟨pt_5, hy_7.1⟩, hy_7.2⟩)
theorem zd_58 {σ0 : sn_S} {x2 : Int32} (h_x2 : zs_in x2.toInt 0 30) {s0 : (sn_S × Int32)} (h0 : (zs_C σ0 s0.1 ∧ zs_in (s0.2).toInt 0 30)) : zs_ok (sn_it (LX0_live_31 38 x2) 5000 s0) (fun t => zs_C σ0 t) := by
  refine zs_it (I := fun s => (zs_C σ0 s.1 ∧ zs_in (s.2).toInt 0 30)) (m := fun s => 30 - s.2.toInt) (fun s hs => ?_) (fun s hs => ?_) (by exact h0)
  · have h1 := hs.2; unfold zs_in at h1
    omega
  · obtain ⟨b, eb, hb⟩ := zc_346 hs.1 h_x2 hs.2 (c := s.2.toInt) (Int.add_zero _).symm
    exact ⟨b, eb, zs_sumw hb (fun v w => ⟨⟨w.1.1, (zs_w w.1.2 (by decide))⟩, by have := w.2; omega⟩) (fun v w => w)⟩
-- BX0_live_60
theorem zc_347 {σ0 : sn_S} {σ : sn_S} (h_σ : zs_C σ0 σ) : zs_ok (BX0_live_60 σ 38) (fun r => zs_C σ0 r) := by
  unfold BX0_live_60
  exact zs_some h_σ
-- BX0_live_29
theorem zc_348 {σ0 : sn_S} {σ : sn_S} (h_σ : zs_C σ0 σ) {x1 : Int32} (h_x1 : zs_in x1.toInt 0 0) {x2 : Int32} (h_x2 : zs_in x2.toInt 0 30) : zs_ok (BX0_live_29 σ 38 x1 x2) (fun r => zs_C σ0 r) := by
  unfold BX0_live_29
  obtain rfl : x1 = (0 : Int32) := zs_eqv h_x1 (by decide)
  refine zs_bd_ (zd_58 h_x2 (s0 := (σ, (0 : Int32))) ⟨h_σ, (zs_w h_x1 (by decide))⟩) (fun t_1 pt_1 => ?_)
  obtain ⟨ret, er, hr⟩ := zc_347 pt_1
  refine ⟨ret, er, ?_⟩
  exact hr
-- fX0_live
theorem zc_349 {σ0 : sn_S} {σ : sn_S} (h_σ : zs_C σ0 σ) {x1 : Int32} (h_x1 : zs_in x1.toInt 0 0) {x2 : Int32} (h_x2 : zs_in x2.toInt 0 30) : zs_ok (fX0_live σ 38 x1 x2) (fun r => zs_C σ0 r) := by
  unfold fX0_live
  obtain rfl : x1 = (0 : Int32) := zs_eqv h_x1 (by decide)
  refine zs_bd_ (zd_54 h_x1 h_x2 (s0 := (σ, (0 : Int32))) ⟨h_σ, (zs_w zlI_0 (by decide))⟩) (fun t_1 pt_1 => ?_)
  obtain ⟨ret, er, hr⟩ := zc_348 pt_1 h_x1 h_x2
  refine ⟨ret, er, ?_⟩
  exact hr
-- fX0_liveWhole
theorem zc_350 {σ0 : sn_S} {σ : sn_S} (h_σ : zs_C σ0 σ) : zs_ok (fX0_liveWhole σ 38) (fun r => zs_C σ0 r) := by
  unfold fX0_liveWhole
  refine zs_bd_ (zc_349 h_σ zlI_0 (zs_rdk (q := 38) (k := 0) (z := (0, 30)) h_σ.1 rfl)) (fun t_1 pt_1 => ?_)
  exact zs_some pt_1
-- BX8_dull_25
theorem zc_351 {σ0 : sn_S} {σ : sn_S} (h_σ : zs_C σ0 σ) {x1 : Int32} (h_x1 : zs_in x1.toInt 0 5) {x2 : Int32} (h_x2 : zs_in x2.toInt (-1) 9) {c : Int} (hc : x2.toInt = c + 0) : zs_ok (BX8_dull_25 σ x1 x2) (fun r => zs_sum (fun v => ((zs_C σ0 v.1 ∧ zs_in (v.2).toInt (-1) 8)) ∧ v.2.toInt = c + (-1)) (fun v => zs_sum (fun v => zs_C σ0 v) (fun v => (zs_in (v.1).toInt 0 9 ∧ zs_C σ0 v.2)) v) r) := by
  unfold BX8_dull_25
  refine zs_ite (fun c1 => ?_) (fun c1 => ?_)
  · skip
    have r2 := (zs_I_lt c1)
    have g3 : zs_in (x2).toInt (-1) (-1) := (zs_ltl (-1) (-1) r2 h_x2 zlI_0 (by decide))
    exact zs_some (zs_inr ((zs_inl (h_σ))))
  · skip
    have r4 := (zs_I_ltn c1)
    have g5 : zs_in (x2).toInt 0 9 := (zs_ler 0 9 r4 zlI_0 h_x2 (by decide))
    refine zs_gd (zs_gin h_x1 (by decide)) ?_
    refine zs_lt (Q := fun z => zs_C σ0 z) (zs_wrt h_σ (fun _ => rfl) (fun _ => rfl)) (fun σ_3 hσ_3 => ?_)
    refine zs_bd_ (zc_350 hσ_3) (fun t_5 pt_5 => ?_)
    refine zs_gd (zs_gin h_x1 (by decide)) ?_
    refine zs_ite (fun c6 => ?_) (fun c6 => ?_)
    · skip
      have r7 := (zs_I_eq c6)
      have g8 : zs_in ((sn_I t_5 (38 + 10) x1.toNatClampNeg)).toInt 0 0 := (zs_eql 0 0 r7 (zs_rdu (q := 48) (z := (0, 1073741823)) pt_5.1 (fun _ => rfl)) zlI_0 (by decide))
      exact zs_some (zs_inr ((zs_inr (⟨g5, pt_5⟩))))
    · skip
      have r9 := (zs_I_eqn c6)
      have g10 : zs_in ((sn_I t_5 (38 + 10) x1.toNatClampNeg)).toInt 1 1073741823 := (zs_nel 1 1073741823 r9 (zs_rdu (q := 48) (z := (0, 1073741823)) pt_5.1 (fun _ => rfl)) zlI_0 (by decide))
      refine zs_lt (Q := fun z => zs_in z.toInt (-1) 8 ∧ z.toInt = c + (-1)) ⟨(zs_addI (-1) 8 g5 zlI_m1 (by decide)), (zs_syI (-1) hc g5 zlI_m1 (by decide) (by decide))⟩ (fun y_9 hy_9 => ?_)
      exact zs_some (zs_inl ⟨⟨pt_5, hy_9.1⟩, hy_9.2⟩)
theorem zd_59 {σ0 : sn_S} {x1 : Int32} (h_x1 : zs_in x1.toInt 0 5) {s0 : (sn_S × Int32)} (h0 : (zs_C σ0 s0.1 ∧ zs_in (s0.2).toInt (-1) 9)) : zs_ok (sn_it (LX8_dull_25 x1) 5000 s0) (fun t => zs_sum (fun v => zs_C σ0 v) (fun v => (zs_in (v.1).toInt 0 9 ∧ zs_C σ0 v.2)) t) := by
  refine zs_it (I := fun s => (zs_C σ0 s.1 ∧ zs_in (s.2).toInt (-1) 9)) (m := fun s => s.2.toInt - (-1)) (fun s hs => ?_) (fun s hs => ?_) (by exact h0)
  · have h1 := hs.2; unfold zs_in at h1
    omega
  · obtain ⟨b, eb, hb⟩ := zc_351 hs.1 h_x1 hs.2 (c := s.2.toInt) (Int.add_zero _).symm
    exact ⟨b, eb, zs_sumw hb (fun v w => ⟨⟨w.1.1, (zs_w w.1.2 (by decide))⟩, by have := w.2; omega⟩) (fun v w => w)⟩
-- BX8_dull_66
theorem zc_352 {σ0 : sn_S} {σ : sn_S} (h_σ : zs_C σ0 σ) : zs_ok (BX8_dull_66 σ) (fun r => (zs_in (r.1).toInt (-1) (-1) ∧ zs_C σ0 r.2)) := by
  unfold BX8_dull_66
  exact zs_some ⟨zlI_m1, h_σ⟩
-- fX8_dull
theorem zc_353 {σ0 : sn_S} {σ : sn_S} (h_σ : zs_C σ0 σ) {x1 : Int32} : zs_ok (fX8_dull σ x1) (fun r => ((zs_in (r.1).toInt (-2) 9 ∧ zs_C σ0 r.2)) ∧ ((r.1).toInt = (-2) ∨ (zs_in (x1).toInt 0 5))) := by
  unfold fX8_dull
  refine zs_bd_ (zc_3 h_σ) (fun t_1 pt_1 => ?_)
  refine zs_ite (fun c1 => ?_) (fun c1 => ?_)
  · skip
    have r2 := (zs_I_eq c1)
    have g3 : zs_in (t_1).toInt 0 0 := (zs_eql 0 0 r2 pt_1.1 zlI_0 (by decide))
    exact zs_some ⟨⟨(zs_w zlI_m2 (by decide)), h_σ⟩, Or.inl (zs_ptr zlI_m2)⟩
  · skip
    have r4 := (zs_I_eqn c1)
    have g5 : zs_in (t_1).toInt 1 1 := (zs_nel 1 1 r4 pt_1.1 zlI_0 (by decide))
    have q6 := (zs_or2 pt_1.2 g5 (by decide))
    have g7 : zs_in (x1).toInt 0 5 := q6
    refine zs_bd_ (zo_dcopy h_σ) (fun t_4 pt_4 => ?_)
    refine zs_bd_ (zd_59 g7 (s0 := (t_4, (9 : Int32))) ⟨pt_4, (zs_w zlI_9 (by decide))⟩) (fun t_6 pt_6 => ?_)
    refine zs_elim pt_6 (fun v_8 pv_8 => ?_) (fun r_9 pr_9 => ?_)
    · skip
      obtain ⟨ret, er, hr⟩ := zc_352 pv_8
      refine ⟨ret, er, ?_⟩
      exact ⟨⟨(zs_w hr.1 (by decide)), hr.2⟩, Or.inr g7⟩
    · skip
      exact zs_some ⟨⟨(zs_w pr_9.1 (by decide)), pr_9.2⟩, Or.inr g7⟩
-- fX0_tickleAt
theorem zc_354 {σ0 : sn_S} {σ : sn_S} (h_σ : zs_C σ0 σ) {x1 : Int32} (h_x1 : zs_in x1.toInt 0 5) {x2 : Int32} (h_x2 : zs_in x2.toInt 0 29) : zs_ok (fX0_tickleAt σ 38 x1 x2) (fun r => True) := by
  unfold fX0_tickleAt
  refine zs_gd (zs_gin (zs_addI 0 179 (zs_mulI 0 174 zlI_6 h_x2 (by decide)) h_x1 (by decide)) (by decide)) ?_
  exact zs_some trivial
-- BX8_bears_87
theorem zc_355 {σ0 : sn_S} {σ : sn_S} (h_σ : zs_C σ0 σ) {x1 : Int32} (h_x1 : zs_in x1.toInt 0 5) {x2 : Int32} (h_x2 : zs_in x2.toInt 1 2147483647) {x3 : Int32} (h_x3 : zs_in x3.toInt 0 29) {c : Int} (hc : x3.toInt = c + 0) : zs_ok (BX8_bears_87 σ x1 x2 x3) (fun r => zs_sum (fun v => ((zs_in (v.1).toInt 1 2147483647 ∧ zs_in (v.2).toInt 1 30)) ∧ v.2.toInt = c + 1) (fun v => False) r) := by
  unfold BX8_bears_87
  refine zs_lt (Q := fun z => zs_in z.toInt 1 30 ∧ z.toInt = c + 1) ⟨(zs_addI 1 30 h_x3 zlI_1 (by decide)), (zs_syI 1 hc h_x3 zlI_1 (by decide) (by decide))⟩ (fun y_1 hy_1 => ?_)
  exact zs_some (zs_inl ⟨⟨h_x2, hy_1.1⟩, hy_1.2⟩)
-- BX8_bears_44
theorem zc_356 {σ0 : sn_S} {σ : sn_S} (h_σ : zs_C σ0 σ) {x1 : Int32} (h_x1 : zs_in x1.toInt 0 5) {x2 : Int32} (h_x2 : zs_in x2.toInt 1 2147483647) {x3 : Int32} (h_x3 : zs_in x3.toInt 0 30) {c : Int} (hc : x3.toInt = c + 0) : zs_ok (BX8_bears_44 σ x1 x2 x3) (fun r => zs_sum (fun v => ((zs_in (v.1).toInt 1 2147483647 ∧ zs_in (v.2).toInt 1 30)) ∧ v.2.toInt = c + 1) (fun v => zs_in (v).toInt 1 2147483647) r) := by
  unfold BX8_bears_44
  refine zs_ite (fun c1 => ?_) (fun c1 => ?_)
  · skip
    have r2 := (zs_I_le c1)
    exact zs_some (zs_inr (h_x2))
  · skip
    have r3 := (zs_I_len c1)
    have g4 : zs_in (x3).toInt 0 29 := (zs_ltl 0 29 r3 h_x3 (zs_rdk (q := 38) (k := 0) (z := (0, 30)) h_σ.1 rfl) (by decide))
    have g5 : zs_in ((sn_I σ 38 0)).toInt 1 30 := (zs_ltr 1 30 r3 h_x3 (zs_rdk (q := 38) (k := 0) (z := (0, 30)) h_σ.1 rfl) (by decide))
    refine zs_gd (zs_gin h_x1 (by decide)) ?_
    refine zs_bd_ (zc_221 g4) (fun t_3 pt_3 => ?_)
    refine zs_ite (fun c6 => ?_) (fun c6 => ?_)
    · skip
      have r7 := (zs_I_eq c6)
      have g8 : zs_in (t_3).toInt 0 0 := (zs_eql 0 0 r7 pt_3 zlI_0 (by decide))
      refine zs_bd_ (zc_354 h_σ h_x1 g4) (fun t_6 pt_6 => ?_)
      refine zs_lt (Q := fun z => zs_in z.toInt 1 2147483647) (zs_max 1 2147483647 h_x2 (zs_topI _) (by decide)) (fun y_8 hy_8 => ?_)
      obtain ⟨ret, er, hr⟩ := zc_355 h_σ h_x1 hy_8 g4 hc
      refine ⟨ret, er, ?_⟩
      exact (zs_sumw hr (fun v w => ⟨w.1, w.2⟩) (fun v w => w.elim))
    · skip
      have r9 := (zs_I_eqn c6)
      have g10 : zs_in (t_3).toInt 1 1 := (zs_nel 1 1 r9 pt_3 zlI_0 (by decide))
      obtain ⟨ret, er, hr⟩ := zc_355 h_σ h_x1 h_x2 g4 hc
      refine ⟨ret, er, ?_⟩
      exact (zs_sumw hr (fun v w => ⟨w.1, w.2⟩) (fun v w => w.elim))
theorem zd_60 {σ0 : sn_S} {σ : sn_S} (h_σ : zs_C σ0 σ) {x1 : Int32} (h_x1 : zs_in x1.toInt 0 5) {s0 : (Int32 × Int32)} (h0 : (zs_in (s0.1).toInt 1 2147483647 ∧ zs_in (s0.2).toInt 0 30)) : zs_ok (sn_it (LX8_bears_44 σ x1) 5000 s0) (fun t => zs_in (t).toInt 1 2147483647) := by
  refine zs_it (I := fun s => (zs_in (s.1).toInt 1 2147483647 ∧ zs_in (s.2).toInt 0 30)) (m := fun s => 30 - s.2.toInt) (fun s hs => ?_) (fun s hs => ?_) (by exact h0)
  · have h1 := hs.2; unfold zs_in at h1
    omega
  · obtain ⟨b, eb, hb⟩ := zc_356 h_σ h_x1 hs.1 hs.2 (c := s.2.toInt) (Int.add_zero _).symm
    exact ⟨b, eb, zs_sumw hb (fun v w => ⟨⟨w.1.1, (zs_w w.1.2 (by decide))⟩, by have := w.2; omega⟩) (fun v w => w)⟩
-- BX8_bears_93
theorem zc_357 {σ0 : sn_S} {σ : sn_S} (h_σ : zs_C σ0 σ) {x2 : Int32} (h_x2 : zs_in x2.toInt 1 2147483647) : zs_ok (BX8_bears_93 σ x2) (fun r => ((zs_in (r.1).toInt (-1) 99 ∧ zs_C σ0 r.2)) ∧ ((r.1).toInt = (-1) ∨ (zs_in (x2).toInt 1 99))) := by
  unfold BX8_bears_93
  refine zs_ite (fun c1 => ?_) (fun c1 => ?_)
  · skip
    have r2 := (zs_I_le c1)
    have g3 : zs_in (x2).toInt 1 99 := (zs_lel 1 99 r2 h_x2 zlI_99 (by decide))
    exact zs_some ⟨⟨(zs_w g3 (by decide)), h_σ⟩, Or.inr g3⟩
  · skip
    have r4 := (zs_I_len c1)
    have g5 : zs_in (x2).toInt 100 2147483647 := (zs_ltr 100 2147483647 r4 zlI_99 h_x2 (by decide))
    exact zs_some ⟨⟨(zs_w zlI_m1 (by decide)), h_σ⟩, Or.inl (zs_ptr zlI_m1)⟩
-- fX8_bears
theorem zc_358 {σ0 : sn_S} {σ : sn_S} (h_σ : zs_C σ0 σ) {x1 : Int32} : zs_ok (fX8_bears σ x1) (fun r => ((zs_in (r.1).toInt (-2) 99 ∧ zs_C σ0 r.2)) ∧ ((r.1).toInt = (-2) ∨ (zs_in (x1).toInt 0 5))) := by
  unfold fX8_bears
  refine zs_bd_ (zc_3 h_σ) (fun t_1 pt_1 => ?_)
  refine zs_ite (fun c1 => ?_) (fun c1 => ?_)
  · skip
    have r2 := (zs_I_eq c1)
    have g3 : zs_in (t_1).toInt 0 0 := (zs_eql 0 0 r2 pt_1.1 zlI_0 (by decide))
    exact zs_some ⟨⟨(zs_w zlI_m2 (by decide)), h_σ⟩, Or.inl (zs_ptr zlI_m2)⟩
  · skip
    have r4 := (zs_I_eqn c1)
    have g5 : zs_in (t_1).toInt 1 1 := (zs_nel 1 1 r4 pt_1.1 zlI_0 (by decide))
    have q6 := (zs_or2 pt_1.2 g5 (by decide))
    have g7 : zs_in (x1).toInt 0 5 := q6
    refine zs_bd_ (zo_dcopy h_σ) (fun t_4 pt_4 => ?_)
    refine zs_gd (zs_gin g7 (by decide)) ?_
    refine zs_lt (Q := fun z => zs_C σ0 z) (zs_wrt pt_4 (fun _ => rfl) (fun _ => rfl)) (fun σ_7 hσ_7 => ?_)
    refine zs_bd_ (zc_350 hσ_7) (fun t_9 pt_9 => ?_)
    refine zs_bd_ (zd_60 pt_9 g7 (s0 := ((1 : Int32), (0 : Int32))) ⟨(zs_w zlI_1 (by decide)), (zs_w zlI_0 (by decide))⟩) (fun t_11 pt_11 => ?_)
    obtain ⟨ret, er, hr⟩ := zc_357 pt_9 pt_11
    refine ⟨ret, er, ?_⟩
    refine ⟨⟨(zs_w hr.1.1 (by decide)), hr.1.2⟩, ?_⟩
    rcases hr.2 with z0 | z0
    · exact Or.inr g7
    · skip
      have q8 := z0
      have g9 : zs_in (t_11).toInt 1 99 := q8
      exact Or.inr g7
-- BX8_clean_30
theorem zc_359 {σ0 : sn_S} {σ : sn_S} (h_σ : zs_C σ0 σ) {x1 : Int32} (h_x1 : zs_in x1.toInt 0 9) {x2 : Int32} (h_x2 : zs_in x2.toInt 0 30) {c : Int} (hc : x2.toInt = c + 0) : zs_ok (BX8_clean_30 σ x1 x2) (fun r => zs_sum (fun v => ((zs_C σ0 v.1 ∧ zs_in (v.2).toInt 1 30)) ∧ v.2.toInt = c + 1) (fun v => zs_C σ0 v) r) := by
  unfold BX8_clean_30
  refine zs_ite (fun c1 => ?_) (fun c1 => ?_)
  · skip
    have r2 := (zs_I_le c1)
    exact zs_some (zs_inr (h_σ))
  · skip
    have r3 := (zs_I_len c1)
    have g4 : zs_in (x2).toInt 0 29 := (zs_ltl 0 29 r3 h_x2 (zs_rdk (q := 27) (k := 0) (z := (0, 30)) h_σ.1 rfl) (by decide))
    have g5 : zs_in ((sn_I σ 27 0)).toInt 1 30 := (zs_ltr 1 30 r3 h_x2 (zs_rdk (q := 27) (k := 0) (z := (0, 30)) h_σ.1 rfl) (by decide))
    refine zs_gd (zs_gin g4 (by decide)) ?_
    refine zs_gd (zs_gin zlI_1 (by decide)) ?_
    refine zs_gd (zs_gin g4 (by decide)) ?_
    refine zs_lt (Q := fun z => zs_C σ0 z) (zs_wrt h_σ (fun _ => rfl) (fun _ => rfl)) (fun σ_5 hσ_5 => ?_)
    refine zs_lt (Q := fun z => zs_in z.toInt 1 30 ∧ z.toInt = c + 1) ⟨(zs_addI 1 30 g4 zlI_1 (by decide)), (zs_syI 1 hc g4 zlI_1 (by decide) (by decide))⟩ (fun y_7 hy_7 => ?_)
    exact zs_some (zs_inl ⟨⟨hσ_5, hy_7.1⟩, hy_7.2⟩)
theorem zd_61 {σ0 : sn_S} {x1 : Int32} (h_x1 : zs_in x1.toInt 0 9) {s0 : (sn_S × Int32)} (h0 : (zs_C σ0 s0.1 ∧ zs_in (s0.2).toInt 0 30)) : zs_ok (sn_it (LX8_clean_30 x1) 5000 s0) (fun t => zs_C σ0 t) := by
  refine zs_it (I := fun s => (zs_C σ0 s.1 ∧ zs_in (s.2).toInt 0 30)) (m := fun s => 30 - s.2.toInt) (fun s hs => ?_) (fun s hs => ?_) (by exact h0)
  · have h1 := hs.2; unfold zs_in at h1
    omega
  · obtain ⟨b, eb, hb⟩ := zc_359 hs.1 h_x1 hs.2 (c := s.2.toInt) (Int.add_zero _).symm
    exact ⟨b, eb, zs_sumw hb (fun v w => ⟨⟨w.1.1, (zs_w w.1.2 (by decide))⟩, by have := w.2; omega⟩) (fun v w => w)⟩
-- BX0_total_4
theorem zc_360 {σ0 : sn_S} {σ : sn_S} (h_σ : zs_C σ0 σ) {x1 : Int32} {x2 : Int32} (h_x2 : zs_in x2.toInt 0 6) {c : Int} (hc : x2.toInt = c + 0) : zs_ok (BX0_total_4 σ 38 x1 x2) (fun r => zs_sum (fun v => ((True ∧ zs_in (v.2).toInt 1 6)) ∧ v.2.toInt = c + 1) (fun v => True) r) := by
  unfold BX0_total_4
  refine zs_ite (fun c1 => ?_) (fun c1 => ?_)
  · skip
    have r2 := (zs_I_le c1)
    exact zs_some (zs_inr (trivial))
  · skip
    have r3 := (zs_I_len c1)
    have g4 : zs_in (x2).toInt 0 5 := (zs_ltl 0 5 r3 h_x2 (zs_rdk (q := 38) (k := 1) (z := (0, 6)) h_σ.1 rfl) (by decide))
    have g5 : zs_in ((sn_I σ 38 1)).toInt 1 6 := (zs_ltr 1 6 r3 h_x2 (zs_rdk (q := 38) (k := 1) (z := (0, 6)) h_σ.1 rfl) (by decide))
    refine zs_gd (zs_gin g4 (by decide)) ?_
    refine zs_bd_ (zo_bc 30 30 (by decide) (zs_rdu (q := 48) (z := (0, 1073741823)) h_σ.1 (fun _ => rfl))) (fun t_3 pt_3 => ?_)
    refine zs_lt (Q := fun z => True) trivial (fun y_5 hy_5 => ?_)
    refine zs_lt (Q := fun z => zs_in z.toInt 1 6 ∧ z.toInt = c + 1) ⟨(zs_addI 1 6 g4 zlI_1 (by decide)), (zs_syI 1 hc g4 zlI_1 (by decide) (by decide))⟩ (fun y_7 hy_7 => ?_)
    exact zs_some (zs_inl ⟨⟨trivial, hy_7.1⟩, hy_7.2⟩)
theorem zd_62 {σ0 : sn_S} {σ : sn_S} (h_σ : zs_C σ0 σ) {s0 : (Int32 × Int32)} (h0 : (True ∧ zs_in (s0.2).toInt 0 6)) : zs_ok (sn_it (LX0_total_4 σ 38) 5000 s0) (fun t => True) := by
  refine zs_it (I := fun s => (True ∧ zs_in (s.2).toInt 0 6)) (m := fun s => 6 - s.2.toInt) (fun s hs => ?_) (fun s hs => ?_) (by exact h0)
  · have h1 := hs.2; unfold zs_in at h1
    omega
  · obtain ⟨b, eb, hb⟩ := zc_360 h_σ hs.2 (c := s.2.toInt) (Int.add_zero _).symm
    exact ⟨b, eb, zs_sumw hb (fun v w => ⟨⟨w.1.1, (zs_w w.1.2 (by decide))⟩, by have := w.2; omega⟩) (fun v w => w)⟩
-- BX0_total_30
theorem zc_361 {σ0 : sn_S} {σ : sn_S} (h_σ : zs_C σ0 σ) {x1 : Int32} : zs_ok (BX0_total_30 σ 38 x1) (fun r => True) := by
  unfold BX0_total_30
  exact zs_some trivial
-- fX0_total
theorem zc_362 {σ0 : sn_S} {σ : sn_S} (h_σ : zs_C σ0 σ) : zs_ok (fX0_total σ 38) (fun r => True) := by
  unfold fX0_total
  refine zs_bd_ (zd_62 h_σ (s0 := ((0 : Int32), (0 : Int32))) ⟨trivial, (zs_w zlI_0 (by decide))⟩) (fun t_1 pt_1 => ?_)
  obtain ⟨ret, er, hr⟩ := zc_361 h_σ
  refine ⟨ret, er, ?_⟩
  exact hr
-- BX8_clean_77
theorem zc_363 {σ0 : sn_S} {σ : sn_S} (h_σ : zs_C σ0 σ) {x1 : Int32} (h_x1 : zs_in x1.toInt 0 9) {c : Int} (hc : x1.toInt = c + 0) : zs_ok (BX8_clean_77 σ x1) (fun r => zs_sum (fun v => ((zs_C σ0 v.1 ∧ zs_in (v.2).toInt (-1) 8)) ∧ v.2.toInt = c + (-1)) (fun v => zs_sum (fun v => False) (fun v => (zs_in (v.1).toInt 0 9 ∧ zs_C σ0 v.2)) v) r) := by
  unfold BX8_clean_77
  refine zs_bd_ (zc_350 h_σ) (fun t_1 pt_1 => ?_)
  refine zs_bd_ (zc_362 pt_1) (fun t_3 pt_3 => ?_)
  refine zs_ite (fun c1 => ?_) (fun c1 => ?_)
  · skip
    have r2 := (zs_I_eq c1)
    have g3 : zs_in (t_3).toInt 0 0 := (zs_eql 0 0 r2 (zs_topI _) zlI_0 (by decide))
    exact zs_some (zs_inr ((zs_inr (⟨h_x1, pt_1⟩))))
  · skip
    have r4 := (zs_I_eqn c1)
    refine zs_lt (Q := fun z => zs_in z.toInt (-1) 8 ∧ z.toInt = c + (-1)) ⟨(zs_addI (-1) 8 h_x1 zlI_m1 (by decide)), (zs_syI (-1) hc h_x1 zlI_m1 (by decide) (by decide))⟩ (fun y_6 hy_6 => ?_)
    exact zs_some (zs_inl ⟨⟨pt_1, hy_6.1⟩, hy_6.2⟩)
-- BX8_clean_24
theorem zc_364 {σ0 : sn_S} {σ : sn_S} (h_σ : zs_C σ0 σ) {x1 : Int32} (h_x1 : zs_in x1.toInt (-1) 9) {c : Int} (hc : x1.toInt = c + 0) : zs_ok (BX8_clean_24 σ x1) (fun r => zs_sum (fun v => ((zs_C σ0 v.1 ∧ zs_in (v.2).toInt (-1) 8)) ∧ v.2.toInt = c + (-1)) (fun v => zs_sum (fun v => zs_C σ0 v) (fun v => (zs_in (v.1).toInt 0 9 ∧ zs_C σ0 v.2)) v) r) := by
  unfold BX8_clean_24
  refine zs_ite (fun c1 => ?_) (fun c1 => ?_)
  · skip
    have r2 := (zs_I_lt c1)
    have g3 : zs_in (x1).toInt (-1) (-1) := (zs_ltl (-1) (-1) r2 h_x1 zlI_0 (by decide))
    exact zs_some (zs_inr ((zs_inl (h_σ))))
  · skip
    have r4 := (zs_I_ltn c1)
    have g5 : zs_in (x1).toInt 0 9 := (zs_ler 0 9 r4 zlI_0 h_x1 (by decide))
    refine zs_bd_ (zd_61 g5 (s0 := (σ, (0 : Int32))) ⟨h_σ, (zs_w zlI_0 (by decide))⟩) (fun t_2 pt_2 => ?_)
    obtain ⟨ret, er, hr⟩ := zc_363 pt_2 g5 hc
    refine ⟨ret, er, ?_⟩
    exact (zs_sumw hr (fun v w => ⟨w.1, w.2⟩) (fun v w => (zs_sumw w (fun v w => w.elim) (fun v w => w))))
theorem zd_63 {σ0 : sn_S}  {s0 : (sn_S × Int32)} (h0 : (zs_C σ0 s0.1 ∧ zs_in (s0.2).toInt (-1) 9)) : zs_ok (sn_it (LX8_clean_24) 5000 s0) (fun t => zs_sum (fun v => zs_C σ0 v) (fun v => (zs_in (v.1).toInt 0 9 ∧ zs_C σ0 v.2)) t) := by
  refine zs_it (I := fun s => (zs_C σ0 s.1 ∧ zs_in (s.2).toInt (-1) 9)) (m := fun s => s.2.toInt - (-1)) (fun s hs => ?_) (fun s hs => ?_) (by exact h0)
  · have h1 := hs.2; unfold zs_in at h1
    omega
  · obtain ⟨b, eb, hb⟩ := zc_364 hs.1 hs.2 (c := s.2.toInt) (Int.add_zero _).symm
    exact ⟨b, eb, zs_sumw hb (fun v w => ⟨⟨w.1.1, (zs_w w.1.2 (by decide))⟩, by have := w.2; omega⟩) (fun v w => w)⟩
-- BX8_clean_102
theorem zc_365 {σ0 : sn_S} {σ : sn_S} (h_σ : zs_C σ0 σ) : zs_ok (BX8_clean_102 σ) (fun r => (zs_in (r.1).toInt (-1) (-1) ∧ zs_C σ0 r.2)) := by
  unfold BX8_clean_102
  exact zs_some ⟨zlI_m1, h_σ⟩
-- fX8_clean
theorem zc_366 {σ0 : sn_S} {σ : sn_S} (h_σ : zs_C σ0 σ) : zs_ok (fX8_clean σ) (fun r => (zs_in (r.1).toInt (-2) 9 ∧ zs_C σ0 r.2)) := by
  unfold fX8_clean
  refine zs_bd_ (zc_102 h_σ) (fun t_1 pt_1 => ?_)
  refine zs_ite (fun c1 => ?_) (fun c1 => ?_)
  · skip
    have r2 := (zs_I_eq c1)
    have g3 : zs_in (t_1).toInt 0 0 := (zs_eql 0 0 r2 pt_1 zlI_0 (by decide))
    exact zs_some ⟨(zs_w zlI_m2 (by decide)), h_σ⟩
  · skip
    have r4 := (zs_I_eqn c1)
    have g5 : zs_in (t_1).toInt 1 1 := (zs_nel 1 1 r4 pt_1 zlI_0 (by decide))
    refine zs_bd_ (zo_dcopy h_σ) (fun t_4 pt_4 => ?_)
    refine zs_bd_ (zd_63  (s0 := (t_4, (9 : Int32))) ⟨pt_4, (zs_w zlI_9 (by decide))⟩) (fun t_6 pt_6 => ?_)
    refine zs_elim pt_6 (fun v_8 pv_8 => ?_) (fun r_9 pr_9 => ?_)
    · skip
      obtain ⟨ret, er, hr⟩ := zc_365 pv_8
      refine ⟨ret, er, ?_⟩
      exact ⟨(zs_w hr.1 (by decide)), hr.2⟩
    · skip
      exact zs_some ⟨(zs_w pr_9.1 (by decide)), pr_9.2⟩
-- BX8_spreads_101
theorem zc_367 {σ0 : sn_S} {σ : sn_S} (h_σ : zs_C σ0 σ) {x1 : Int32} (h_x1 : zs_in x1.toInt 0 5) {x2 : Int32} {x3 : Int32} (h_x3 : zs_in x3.toInt 0 5) {c : Int} (hc : x3.toInt = c + 0) : zs_ok (BX8_spreads_101 σ x1 x2 x3) (fun r => zs_sum (fun v => ((True ∧ zs_in (v.2).toInt 1 6)) ∧ v.2.toInt = c + 1) (fun v => False) r) := by
  unfold BX8_spreads_101
  refine zs_lt (Q := fun z => zs_in z.toInt 1 6 ∧ z.toInt = c + 1) ⟨(zs_addI 1 6 h_x3 zlI_1 (by decide)), (zs_syI 1 hc h_x3 zlI_1 (by decide) (by decide))⟩ (fun y_1 hy_1 => ?_)
  exact zs_some (zs_inl ⟨⟨trivial, hy_1.1⟩, hy_1.2⟩)
-- BX8_spreads_52
theorem zc_368 {σ0 : sn_S} {σ : sn_S} (h_σ : zs_C σ0 σ) {x1 : Int32} (h_x1 : zs_in x1.toInt 0 5) {x2 : Int32} {x3 : Int32} (h_x3 : zs_in x3.toInt 0 6) {c : Int} (hc : x3.toInt = c + 0) : zs_ok (BX8_spreads_52 σ x1 x2 x3) (fun r => zs_sum (fun v => ((True ∧ zs_in (v.2).toInt 1 6)) ∧ v.2.toInt = c + 1) (fun v => True) r) := by
  unfold BX8_spreads_52
  refine zs_ite (fun c1 => ?_) (fun c1 => ?_)
  · skip
    have r2 := (zs_I_le c1)
    exact zs_some (zs_inr (trivial))
  · skip
    have r3 := (zs_I_len c1)
    have g4 : zs_in (x3).toInt 0 5 := (zs_ltl 0 5 r3 h_x3 (zs_rdk (q := 27) (k := 1) (z := (0, 6)) h_σ.1 rfl) (by decide))
    have g5 : zs_in ((sn_I σ 27 1)).toInt 1 6 := (zs_ltr 1 6 r3 h_x3 (zs_rdk (q := 27) (k := 1) (z := (0, 6)) h_σ.1 rfl) (by decide))
    refine zs_ite (fun c6 => ?_) (fun c6 => ?_)
    · skip
      have r7 := (zs_I_eq c6)
      obtain ⟨ret, er, hr⟩ := zc_367 h_σ h_x1 g4 hc
      refine ⟨ret, er, ?_⟩
      exact (zs_sumw hr (fun v w => ⟨w.1, w.2⟩) (fun v w => w.elim))
    · skip
      have r8 := (zs_I_eqn c6)
      refine zs_gd (zs_gin g4 (by decide)) ?_
      refine zs_bd_ (zo_bc 30 30 (by decide) (zs_rdu (q := 48) (z := (0, 1073741823)) h_σ.1 (fun _ => rfl))) (fun t_4 pt_4 => ?_)
      refine zs_gd (zs_gin g4 (by decide)) ?_
      refine zs_bd_ (zo_bc 30 30 (by decide) (zs_rdu (q := 37) (z := (0, 1073741823)) h_σ.1 (fun _ => rfl))) (fun t_7 pt_7 => ?_)
      refine zs_ite (fun c9 => ?_) (fun c9 => ?_)
      · skip
        have r10 := (zs_I_le c9)
        obtain ⟨ret, er, hr⟩ := zc_367 h_σ h_x1 g4 hc
        refine ⟨ret, er, ?_⟩
        exact (zs_sumw hr (fun v w => ⟨w.1, w.2⟩) (fun v w => w.elim))
      · skip
        have r11 := (zs_I_len c9)
        have g12 : zs_in (t_4).toInt 0 29 := (zs_ltl 0 29 r11 pt_4 pt_7 (by decide))
        have g13 : zs_in (t_7).toInt 1 30 := (zs_ltr 1 30 r11 pt_4 pt_7 (by decide))
        refine zs_lt (Q := fun z => True) trivial (fun y_10 hy_10 => ?_)
        obtain ⟨ret, er, hr⟩ := zc_367 h_σ h_x1 g4 hc
        refine ⟨ret, er, ?_⟩
        exact (zs_sumw hr (fun v w => ⟨w.1, w.2⟩) (fun v w => w.elim))
theorem zd_64 {σ0 : sn_S} {σ : sn_S} (h_σ : zs_C σ0 σ) {x1 : Int32} (h_x1 : zs_in x1.toInt 0 5) {s0 : (Int32 × Int32)} (h0 : (True ∧ zs_in (s0.2).toInt 0 6)) : zs_ok (sn_it (LX8_spreads_52 σ x1) 5000 s0) (fun t => True) := by
  refine zs_it (I := fun s => (True ∧ zs_in (s.2).toInt 0 6)) (m := fun s => 6 - s.2.toInt) (fun s hs => ?_) (fun s hs => ?_) (by exact h0)
  · have h1 := hs.2; unfold zs_in at h1
    omega
  · obtain ⟨b, eb, hb⟩ := zc_368 h_σ h_x1 hs.2 (c := s.2.toInt) (Int.add_zero _).symm
    exact ⟨b, eb, zs_sumw hb (fun v w => ⟨⟨w.1.1, (zs_w w.1.2 (by decide))⟩, by have := w.2; omega⟩) (fun v w => w)⟩
-- BX8_spreads_107
theorem zc_369 {σ0 : sn_S} {σ : sn_S} (h_σ : zs_C σ0 σ) {x2 : Int32} : zs_ok (BX8_spreads_107 σ x2) (fun r => (True ∧ zs_C σ0 r.2)) := by
  unfold BX8_spreads_107
  exact zs_some ⟨trivial, h_σ⟩
-- fX8_spreads
theorem zc_370 {σ0 : sn_S} {σ : sn_S} (h_σ : zs_C σ0 σ) {x1 : Int32} : zs_ok (fX8_spreads σ x1) (fun r => ((True ∧ zs_C σ0 r.2)) ∧ ((r.1).toInt = (-2) ∨ (zs_in (x1).toInt 0 5))) := by
  unfold fX8_spreads
  refine zs_bd_ (zc_3 h_σ) (fun t_1 pt_1 => ?_)
  refine zs_ite (fun c1 => ?_) (fun c1 => ?_)
  · skip
    have r2 := (zs_I_eq c1)
    have g3 : zs_in (t_1).toInt 0 0 := (zs_eql 0 0 r2 pt_1.1 zlI_0 (by decide))
    exact zs_some ⟨⟨trivial, h_σ⟩, Or.inl (zs_ptr zlI_m2)⟩
  · skip
    have r4 := (zs_I_eqn c1)
    have g5 : zs_in (t_1).toInt 1 1 := (zs_nel 1 1 r4 pt_1.1 zlI_0 (by decide))
    have q6 := (zs_or2 pt_1.2 g5 (by decide))
    have g7 : zs_in (x1).toInt 0 5 := q6
    refine zs_bd_ (zo_dcopy h_σ) (fun t_4 pt_4 => ?_)
    refine zs_bd_ (zc_196 (zs_rdk (q := 27) (k := 0) (z := (0, 30)) pt_4.1 rfl)) (fun t_6 pt_6 => ?_)
    refine zs_gd (zs_gin g7 (by decide)) ?_
    refine zs_lt (Q := fun z => zs_C σ0 z) (zs_wrt pt_4 (fun _ => rfl) (fun _ => rfl)) (fun σ_9 hσ_9 => ?_)
    refine zs_bd_ (zc_350 hσ_9) (fun t_11 pt_11 => ?_)
    refine zs_bd_ (zd_64 pt_11 g7 (s0 := ((0 : Int32), (0 : Int32))) ⟨trivial, (zs_w zlI_0 (by decide))⟩) (fun t_13 pt_13 => ?_)
    obtain ⟨ret, er, hr⟩ := zc_369 pt_11
    refine ⟨ret, er, ?_⟩
    exact ⟨hr, Or.inr g7⟩
-- BX9_spreads_13
theorem zc_371 {σ0 : sn_S} {σ : sn_S} (h_σ : zs_M σ0 σ) {x1 : Int32} (h_x1 : zs_in x1.toInt 0 5) {x2 : Int32} (h_x2 : zs_in x2.toInt 0 6) {c : Int} (hc : x2.toInt = c + 0) : zs_ok (BX9_spreads_13 σ x1 x2) (fun r => zs_sum (fun v => ((zs_M σ0 v.1 ∧ zs_in (v.2).toInt 1 6)) ∧ v.2.toInt = c + 1) (fun v => zs_M σ0 v) r) := by
  unfold BX9_spreads_13
  refine zs_ite (fun c1 => ?_) (fun c1 => ?_)
  · skip
    have r2 := (zs_I_le c1)
    have g3 : zs_in (x2).toInt 6 6 := (zs_ler 6 6 r2 zlI_6 h_x2 (by decide))
    exact zs_some (zs_inr (h_σ))
  · skip
    have r4 := (zs_I_len c1)
    have g5 : zs_in (x2).toInt 0 5 := (zs_ltl 0 5 r4 h_x2 zlI_6 (by decide))
    refine zs_gd (zs_gin g5 (by decide)) ?_
    refine zs_bd_ (zc_109 (zs_rdu (q := 10) (z := (0, 1073741823)) h_σ.1 (fun _ => rfl))) (fun t_3 pt_3 => ?_)
    refine zs_gd (zs_gin g5 (by decide)) ?_
    refine zs_lt (Q := fun z => zs_M σ0 z) (zs_wrt h_σ (fun _ => rfl) (fun _ => rfl)) (fun σ_6 hσ_6 => ?_)
    refine zs_lt (Q := fun z => zs_in z.toInt 1 6 ∧ z.toInt = c + 1) ⟨(zs_addI 1 6 g5 zlI_1 (by decide)), (zs_syI 1 hc g5 zlI_1 (by decide) (by decide))⟩ (fun y_8 hy_8 => ?_)
    exact zs_some (zs_inl ⟨⟨hσ_6, hy_8.1⟩, hy_8.2⟩)
theorem zd_65 {σ0 : sn_S} {x1 : Int32} (h_x1 : zs_in x1.toInt 0 5) {s0 : (sn_S × Int32)} (h0 : (zs_M σ0 s0.1 ∧ zs_in (s0.2).toInt 0 6)) : zs_ok (sn_it (LX9_spreads_13 x1) 5000 s0) (fun t => zs_M σ0 t) := by
  refine zs_it (I := fun s => (zs_M σ0 s.1 ∧ zs_in (s.2).toInt 0 6)) (m := fun s => 6 - s.2.toInt) (fun s hs => ?_) (fun s hs => ?_) (by exact h0)
  · have h1 := hs.2; unfold zs_in at h1
    omega
  · obtain ⟨b, eb, hb⟩ := zc_371 hs.1 h_x1 hs.2 (c := s.2.toInt) (Int.add_zero _).symm
    exact ⟨b, eb, zs_sumw hb (fun v w => ⟨⟨w.1.1, (zs_w w.1.2 (by decide))⟩, by have := w.2; omega⟩) (fun v w => w)⟩
-- BX9_spreads_103
theorem zc_372 {σ0 : sn_S} {σ : sn_S} (h_σ : zs_M σ0 σ) {x1 : Int32} (h_x1 : zs_in x1.toInt 0 5) {x2 : Int32} {x3 : Int32} (h_x3 : zs_in x3.toInt 0 5) {t0 : Int32} {t1 : Int32} (h_t1 : zs_in t1.toInt 0 0) {c : Int} (hc : x3.toInt = c + 0) : zs_ok (BX9_spreads_103 σ x1 x2 x3 t0 t1) (fun r => zs_sum (fun v => ((True ∧ zs_in (v.2).toInt 1 6)) ∧ v.2.toInt = c + 1) (fun v => False) r) := by
  unfold BX9_spreads_103
  obtain rfl : t1 = (0 : Int32) := zs_eqv h_t1 (by decide)
  refine zs_lt (Q := fun z => True) trivial (fun y_1 hy_1 => ?_)
  refine zs_lt (Q := fun z => zs_in z.toInt 1 6 ∧ z.toInt = c + 1) ⟨(zs_addI 1 6 h_x3 zlI_1 (by decide)), (zs_syI 1 hc h_x3 zlI_1 (by decide) (by decide))⟩ (fun y_3 hy_3 => ?_)
  exact zs_some (zs_inl ⟨⟨trivial, hy_3.1⟩, hy_3.2⟩)
-- BX9_spreads_102
theorem zc_373 {σ0 : sn_S} {σ : sn_S} (h_σ : zs_M σ0 σ) {x1 : Int32} (h_x1 : zs_in x1.toInt 0 5) {x2 : Int32} {x3 : Int32} (h_x3 : zs_in x3.toInt 0 5) {t0 : Int32} {c : Int} (hc : x3.toInt = c + 0) : zs_ok (BX9_spreads_102 σ x1 x2 x3 t0) (fun r => zs_sum (fun v => ((True ∧ zs_in (v.2).toInt 1 6)) ∧ v.2.toInt = c + 1) (fun v => False) r) := by
  unfold BX9_spreads_102
  obtain ⟨ret, er, hr⟩ := zc_372 h_σ h_x1 h_x3 zlI_0 hc
  refine ⟨ret, er, ?_⟩
  exact (zs_sumw hr (fun v w => ⟨w.1, w.2⟩) (fun v w => w.elim))
-- BX9_spreads_103
theorem zc_374 {σ0 : sn_S} {σ : sn_S} (h_σ : zs_M σ0 σ) {x1 : Int32} (h_x1 : zs_in x1.toInt 0 5) {x2 : Int32} {x3 : Int32} (h_x3 : zs_in x3.toInt 0 5) {t0 : Int32} {t1 : Int32} (h_t1 : zs_in t1.toInt 1 32) {c : Int} (hc : x3.toInt = c + 0) : zs_ok (BX9_spreads_103 σ x1 x2 x3 t0 t1) (fun r => zs_sum (fun v => ((True ∧ zs_in (v.2).toInt 1 6)) ∧ v.2.toInt = c + 1) (fun v => False) r) := by
  unfold BX9_spreads_103
  refine zs_lt (Q := fun z => True) trivial (fun y_1 hy_1 => ?_)
  refine zs_lt (Q := fun z => zs_in z.toInt 1 6 ∧ z.toInt = c + 1) ⟨(zs_addI 1 6 h_x3 zlI_1 (by decide)), (zs_syI 1 hc h_x3 zlI_1 (by decide) (by decide))⟩ (fun y_3 hy_3 => ?_)
  exact zs_some (zs_inl ⟨⟨trivial, hy_3.1⟩, hy_3.2⟩)
-- BX9_spreads_62
theorem zc_375 {σ0 : sn_S} {σ : sn_S} (h_σ : zs_M σ0 σ) {x1 : Int32} (h_x1 : zs_in x1.toInt 0 5) {x2 : Int32} {x3 : Int32} (h_x3 : zs_in x3.toInt 0 6) {c : Int} (hc : x3.toInt = c + 0) : zs_ok (BX9_spreads_62 σ x1 x2 x3) (fun r => zs_sum (fun v => ((True ∧ zs_in (v.2).toInt 1 6)) ∧ v.2.toInt = c + 1) (fun v => True) r) := by
  unfold BX9_spreads_62
  refine zs_gd (zs_gin zlI_5 (by decide)) ?_
  refine zs_ite (fun c1 => ?_) (fun c1 => ?_)
  · skip
    have r2 := (zs_I_le c1)
    exact zs_some (zs_inr (trivial))
  · skip
    have r3 := (zs_I_len c1)
    have g4 : zs_in (x3).toInt 0 5 := (zs_ltl 0 5 r3 h_x3 (zs_rdk (q := 1) (k := (5 : Int32).toNatClampNeg) (z := (0, 6)) h_σ.1 rfl) (by decide))
    have g5 : zs_in ((sn_I σ 1 (5 : Int32).toNatClampNeg)).toInt 1 6 := (zs_ltr 1 6 r3 h_x3 (zs_rdk (q := 1) (k := (5 : Int32).toNatClampNeg) (z := (0, 6)) h_σ.1 rfl) (by decide))
    refine zs_ite (fun c6 => ?_) (fun c6 => ?_)
    · skip
      have r7 := (zs_I_eq c6)
      obtain ⟨ret, er, hr⟩ := zc_373 h_σ h_x1 g4 hc
      refine ⟨ret, er, ?_⟩
      exact (zs_sumw hr (fun v w => ⟨w.1, w.2⟩) (fun v w => w.elim))
    · skip
      have r8 := (zs_I_eqn c6)
      refine zs_gd (zs_gin g4 (by decide)) ?_
      refine zs_bd_ (zc_109 (zs_rdu (q := 10) (z := (0, 1073741823)) h_σ.1 (fun _ => rfl))) (fun t_5 pt_5 => ?_)
      refine zs_gd (zs_gin g4 (by decide)) ?_
      refine zs_ite (fun c9 => ?_) (fun c9 => ?_)
      · skip
        have r10 := (zs_I_le c9)
        obtain ⟨ret, er, hr⟩ := zc_373 h_σ h_x1 g4 hc
        refine ⟨ret, er, ?_⟩
        exact (zs_sumw hr (fun v w => ⟨w.1, w.2⟩) (fun v w => w.elim))
      · skip
        have r11 := (zs_I_len c9)
        have g12 : zs_in (t_5).toInt (-2147483648) 2147483646 := (zs_ltl (-2147483648) 2147483646 r11 (zs_topI _) (zs_topI _) (by decide))
        have g13 : zs_in ((sn_I σ 15 x3.toNatClampNeg)).toInt (-2147483647) 2147483647 := (zs_ltr (-2147483647) 2147483647 r11 (zs_topI _) (zs_topI _) (by decide))
        obtain ⟨ret, er, hr⟩ := zc_374 h_σ h_x1 g4 (zs_cases g4 (fun z => zs_in ((1 : Int32) <<< (z &&& 31)).toInt 1 32) (by decide +kernel)) hc
        refine ⟨ret, er, ?_⟩
        exact (zs_sumw hr (fun v w => ⟨w.1, w.2⟩) (fun v w => w.elim))
theorem zd_66 {σ0 : sn_S} {σ : sn_S} (h_σ : zs_M σ0 σ) {x1 : Int32} (h_x1 : zs_in x1.toInt 0 5) {s0 : (Int32 × Int32)} (h0 : (True ∧ zs_in (s0.2).toInt 0 6)) : zs_ok (sn_it (LX9_spreads_62 σ x1) 5000 s0) (fun t => True) := by
  refine zs_it (I := fun s => (True ∧ zs_in (s.2).toInt 0 6)) (m := fun s => 6 - s.2.toInt) (fun s hs => ?_) (fun s hs => ?_) (by exact h0)
  · have h1 := hs.2; unfold zs_in at h1
    omega
  · obtain ⟨b, eb, hb⟩ := zc_375 h_σ h_x1 hs.2 (c := s.2.toInt) (Int.add_zero _).symm
    exact ⟨b, eb, zs_sumw hb (fun v w => ⟨⟨w.1.1, (zs_w w.1.2 (by decide))⟩, by have := w.2; omega⟩) (fun v w => w)⟩
-- BX9_spreads_111
theorem zc_376 {σ0 : sn_S} {σ : sn_S} (h_σ : zs_M σ0 σ) {x2 : Int32} : zs_ok (BX9_spreads_111 σ x2) (fun r => (True ∧ zs_M σ0 r.2)) := by
  unfold BX9_spreads_111
  exact zs_some ⟨trivial, h_σ⟩
-- BX9_spreads_40
theorem zc_377 {σ0 : sn_S} {σ : sn_S} (h_σ : zs_M σ0 σ) {x1 : Int32} (h_x1 : zs_in x1.toInt 0 5) : zs_ok (BX9_spreads_40 σ x1) (fun r => (True ∧ zs_M σ0 r.2)) := by
  unfold BX9_spreads_40
  refine zs_bd_ (zc_21 h_σ) (fun t_1 pt_1 => ?_)
  refine zs_gd (zs_gin h_x1 (by decide)) ?_
  refine zs_lt (Q := fun z => zs_M σ0 z) (zs_wrt h_σ (fun _ => rfl) (fun _ => rfl)) (fun σ_4 hσ_4 => ?_)
  refine zs_bd_ (zc_90 hσ_4) (fun t_6 pt_6 => ?_)
  refine zs_bd_ (zd_66 pt_6 h_x1 (s0 := ((0 : Int32), (0 : Int32))) ⟨trivial, (zs_w zlI_0 (by decide))⟩) (fun t_8 pt_8 => ?_)
  obtain ⟨ret, er, hr⟩ := zc_376 pt_6
  refine ⟨ret, er, ?_⟩
  exact hr
-- fX9_spreads
theorem zc_378 {σ0 : sn_S} {σ : sn_S} (h_σ : zs_M σ0 σ) {x1 : Int32} : zs_ok (fX9_spreads σ x1) (fun r => ((True ∧ zs_M σ0 r.2)) ∧ ((r.1).toInt = (-2) ∨ (zs_in (x1).toInt 0 5))) := by
  unfold fX9_spreads
  refine zs_bd_ (zc_98 h_σ) (fun t_1 pt_1 => ?_)
  refine zs_ite (fun c1 => ?_) (fun c1 => ?_)
  · skip
    have r2 := (zs_I_eq c1)
    have g3 : zs_in (t_1.1).toInt 0 0 := (zs_eql 0 0 r2 pt_1.1.1 zlI_0 (by decide))
    exact zs_some ⟨⟨trivial, pt_1.1.2⟩, Or.inl (zs_ptr zlI_m2)⟩
  · skip
    have r4 := (zs_I_eqn c1)
    have g5 : zs_in (t_1.1).toInt 1 1 := (zs_nel 1 1 r4 pt_1.1.1 zlI_0 (by decide))
    have q6 := (zs_or2 pt_1.2 g5 (by decide))
    have g7 : zs_in (x1).toInt 0 5 := q6
    refine zs_bd_ (zd_65 g7 (s0 := (t_1.2, (0 : Int32))) ⟨pt_1.1.2, (zs_w zlI_0 (by decide))⟩) (fun t_4 pt_4 => ?_)
    obtain ⟨ret, er, hr⟩ := zc_377 pt_4 g7
    refine ⟨ret, er, ?_⟩
    exact ⟨hr, Or.inr g7⟩
-- BX8_web_64
theorem zc_379 {σ0 : sn_S} {σ : sn_S} (h_σ : zs_C σ0 σ) {x2 : Int32} {x3 : Int32} (h_x3 : zs_in x3.toInt 1 5) {x4 : Int32} {x5 : Int32} (h_x5 : zs_in x5.toInt 0 5) {c : Int} (hc : x5.toInt = c + 0) : zs_ok (BX8_web_64 σ x2 x3 x4 x5) (fun r => zs_sum (fun v => ((True ∧ zs_in (v.2).toInt 1 6)) ∧ v.2.toInt = c + 1) (fun v => False) r) := by
  unfold BX8_web_64
  refine zs_lt (Q := fun z => zs_in z.toInt 1 6 ∧ z.toInt = c + 1) ⟨(zs_addI 1 6 h_x5 zlI_1 (by decide)), (zs_syI 1 hc h_x5 zlI_1 (by decide) (by decide))⟩ (fun y_1 hy_1 => ?_)
  exact zs_some (zs_inl ⟨⟨trivial, hy_1.1⟩, hy_1.2⟩)
-- BX8_web_29
theorem zc_380 {σ0 : sn_S} {σ : sn_S} (h_σ : zs_C σ0 σ) {x2 : Int32} {x3 : Int32} (h_x3 : zs_in x3.toInt 1 5) {x4 : Int32} {x5 : Int32} (h_x5 : zs_in x5.toInt 0 6) {c : Int} (hc : x5.toInt = c + 0) : zs_ok (BX8_web_29 σ x2 x3 x4 x5) (fun r => zs_sum (fun v => ((True ∧ zs_in (v.2).toInt 1 6)) ∧ v.2.toInt = c + 1) (fun v => True) r) := by
  unfold BX8_web_29
  refine zs_ite (fun c1 => ?_) (fun c1 => ?_)
  · skip
    have r2 := (zs_I_le c1)
    exact zs_some (zs_inr (trivial))
  · skip
    have r3 := (zs_I_len c1)
    have g4 : zs_in (x5).toInt 0 5 := (zs_ltl 0 5 r3 h_x5 (zs_rdk (q := 27) (k := 1) (z := (0, 6)) h_σ.1 rfl) (by decide))
    have g5 : zs_in ((sn_I σ 27 1)).toInt 1 6 := (zs_ltr 1 6 r3 h_x5 (zs_rdk (q := 27) (k := 1) (z := (0, 6)) h_σ.1 rfl) (by decide))
    refine zs_bd_ (zc_319 g4) (fun t_2 pt_2 => ?_)
    refine zs_ite (fun c6 => ?_) (fun c6 => ?_)
    · skip
      have r7 := (zs_I_eq c6)
      have g8 : zs_in (t_2).toInt 0 0 := (zs_eql 0 0 r7 pt_2 zlI_0 (by decide))
      obtain ⟨ret, er, hr⟩ := zc_379 h_σ h_x3 g4 hc
      refine ⟨ret, er, ?_⟩
      exact (zs_sumw hr (fun v w => ⟨w.1, w.2⟩) (fun v w => w.elim))
    · skip
      have r9 := (zs_I_eqn c6)
      have g10 : zs_in (t_2).toInt 1 1 := (zs_nel 1 1 r9 pt_2 zlI_0 (by decide))
      refine zs_bd_ (zc_19 h_σ g4) (fun t_5 pt_5 => ?_)
      refine zs_lt (Q := fun z => True) trivial (fun y_7 hy_7 => ?_)
      obtain ⟨ret, er, hr⟩ := zc_379 h_σ h_x3 g4 hc
      refine ⟨ret, er, ?_⟩
      exact (zs_sumw hr (fun v w => ⟨w.1, w.2⟩) (fun v w => w.elim))
theorem zd_67 {σ0 : sn_S} {σ : sn_S} (h_σ : zs_C σ0 σ) {x2 : Int32} {x3 : Int32} (h_x3 : zs_in x3.toInt 1 5) {s0 : (Int32 × Int32)} (h0 : (True ∧ zs_in (s0.2).toInt 0 6)) : zs_ok (sn_it (LX8_web_29 σ x2 x3) 5000 s0) (fun t => True) := by
  refine zs_it (I := fun s => (True ∧ zs_in (s.2).toInt 0 6)) (m := fun s => 6 - s.2.toInt) (fun s hs => ?_) (fun s hs => ?_) (by exact h0)
  · have h1 := hs.2; unfold zs_in at h1
    omega
  · obtain ⟨b, eb, hb⟩ := zc_380 h_σ h_x3 hs.2 (c := s.2.toInt) (Int.add_zero _).symm
    exact ⟨b, eb, zs_sumw hb (fun v w => ⟨⟨w.1.1, (zs_w w.1.2 (by decide))⟩, by have := w.2; omega⟩) (fun v w => w)⟩
-- BX8_web_70
theorem zc_381 {σ0 : sn_S} {σ : sn_S} (h_σ : zs_C σ0 σ) {x2 : Int32} {x3 : Int32} (h_x3 : zs_in x3.toInt 1 5) {x4 : Int32} {c : Int} (hc : x3.toInt = c + 0) : zs_ok (BX8_web_70 σ x2 x3 x4) (fun r => zs_sum (fun v => ((True ∧ zs_in (v.2).toInt 2 6)) ∧ v.2.toInt = c + 1) (fun v => False) r) := by
  unfold BX8_web_70
  refine zs_lt (Q := fun z => zs_in z.toInt 2 6 ∧ z.toInt = c + 1) ⟨(zs_addI 2 6 h_x3 zlI_1 (by decide)), (zs_syI 1 hc h_x3 zlI_1 (by decide) (by decide))⟩ (fun y_1 hy_1 => ?_)
  exact zs_some (zs_inl ⟨⟨trivial, hy_1.1⟩, hy_1.2⟩)
-- BX8_web_17
theorem zc_382 {σ0 : sn_S} {σ : sn_S} (h_σ : zs_C σ0 σ) {x2 : Int32} {x3 : Int32} (h_x3 : zs_in x3.toInt 1 6) {c : Int} (hc : x3.toInt = c + 0) : zs_ok (BX8_web_17 σ x2 x3) (fun r => zs_sum (fun v => ((True ∧ zs_in (v.2).toInt 2 6)) ∧ v.2.toInt = c + 1) (fun v => True) r) := by
  unfold BX8_web_17
  refine zs_ite (fun c1 => ?_) (fun c1 => ?_)
  · skip
    have r2 := (zs_I_le c1)
    have g3 : zs_in (x3).toInt 6 6 := (zs_ler 6 6 r2 zlI_6 h_x3 (by decide))
    exact zs_some (zs_inr (trivial))
  · skip
    have r4 := (zs_I_len c1)
    have g5 : zs_in (x3).toInt 1 5 := (zs_ltl 1 5 r4 h_x3 zlI_6 (by decide))
    refine zs_bd_ (zd_67 h_σ g5 (s0 := (x2, (0 : Int32))) ⟨trivial, (zs_w zlI_0 (by decide))⟩) (fun t_2 pt_2 => ?_)
    obtain ⟨ret, er, hr⟩ := zc_381 h_σ g5 hc
    refine ⟨ret, er, ?_⟩
    exact (zs_sumw hr (fun v w => ⟨w.1, w.2⟩) (fun v w => w.elim))
theorem zd_68 {σ0 : sn_S} {σ : sn_S} (h_σ : zs_C σ0 σ) {s0 : (Int32 × Int32)} (h0 : (True ∧ zs_in (s0.2).toInt 1 6)) : zs_ok (sn_it (LX8_web_17 σ) 5000 s0) (fun t => True) := by
  refine zs_it (I := fun s => (True ∧ zs_in (s.2).toInt 1 6)) (m := fun s => 6 - s.2.toInt) (fun s hs => ?_) (fun s hs => ?_) (by exact h0)
  · have h1 := hs.2; unfold zs_in at h1
    omega
  · obtain ⟨b, eb, hb⟩ := zc_382 h_σ hs.2 (c := s.2.toInt) (Int.add_zero _).symm
    exact ⟨b, eb, zs_sumw hb (fun v w => ⟨⟨w.1.1, (zs_w w.1.2 (by decide))⟩, by have := w.2; omega⟩) (fun v w => w)⟩
-- BX8_web_79
theorem zc_383 {σ0 : sn_S} {σ : sn_S} (h_σ : zs_C σ0 σ) {x2 : Int32} : zs_ok (BX8_web_79 σ x2) (fun r => True) := by
  unfold BX8_web_79
  exact zs_some trivial
-- fX8_web
theorem zc_384 {σ0 : sn_S} {σ : sn_S} (h_σ : zs_C σ0 σ) {x1 : Int32} : zs_ok (fX8_web σ x1) (fun r => (True) ∧ ((r).toInt = (-2) ∨ (zs_in (x1).toInt 0 5))) := by
  unfold fX8_web
  refine zs_bd_ (zc_3 h_σ) (fun t_1 pt_1 => ?_)
  refine zs_ite (fun c1 => ?_) (fun c1 => ?_)
  · skip
    have r2 := (zs_I_eq c1)
    have g3 : zs_in (t_1).toInt 0 0 := (zs_eql 0 0 r2 pt_1.1 zlI_0 (by decide))
    exact zs_some ⟨trivial, Or.inl (zs_ptr zlI_m2)⟩
  · skip
    have r4 := (zs_I_eqn c1)
    have g5 : zs_in (t_1).toInt 1 1 := (zs_nel 1 1 r4 pt_1.1 zlI_0 (by decide))
    have q6 := (zs_or2 pt_1.2 g5 (by decide))
    have g7 : zs_in (x1).toInt 0 5 := q6
    refine zs_lt (Q := fun z => zs_in z.toInt 1 32) (zs_cases g7 (fun z => zs_in ((1 : Int32) <<< (z &&& 31)).toInt 1 32) (by decide +kernel)) (fun y_4 hy_4 => ?_)
    refine zs_bd_ (zd_68 h_σ (s0 := (y_4, (1 : Int32))) ⟨trivial, (zs_w zlI_1 (by decide))⟩) (fun t_6 pt_6 => ?_)
    obtain ⟨ret, er, hr⟩ := zc_383 h_σ
    refine ⟨ret, er, ?_⟩
    exact ⟨hr, Or.inr g7⟩
-- BX9_netsTo_91
theorem zc_385 {σ0 : sn_S} {σ : sn_S} (h_σ : zs_M σ0 σ) {x1 : Int32} (h_x1 : zs_in x1.toInt 0 5) {x2 : Int32} (h_x2 : zs_in x2.toInt 0 63) {x3 : Int32} {x4 : Int32} (h_x4 : zs_in x4.toInt 0 7) {c : Int} (hc : x4.toInt = c + 0) : zs_ok (BX9_netsTo_91 σ x1 x2 x3 x4) (fun r => zs_sum (fun v => ((True ∧ zs_in (v.2).toInt 1 8)) ∧ v.2.toInt = c + 1) (fun v => False) r) := by
  unfold BX9_netsTo_91
  refine zs_lt (Q := fun z => zs_in z.toInt 1 8 ∧ z.toInt = c + 1) ⟨(zs_addI 1 8 h_x4 zlI_1 (by decide)), (zs_syI 1 hc h_x4 zlI_1 (by decide) (by decide))⟩ (fun y_1 hy_1 => ?_)
  exact zs_some (zs_inl ⟨⟨trivial, hy_1.1⟩, hy_1.2⟩)
-- fX9_bit
theorem zc_386 {x0 : Int32} (h_x0 : zs_in x0.toInt 0 63) {x1 : Int32} (h_x1 : zs_in x1.toInt 0 5) : zs_ok (fX9_bit x0 x1) (fun r => zs_in (r).toInt 0 1) := by
  unfold fX9_bit
  exact zs_some (zs_and zlI_1 (by decide))
-- BX9_netsTo_88
theorem zc_387 {σ0 : sn_S} {σ : sn_S} (h_σ : zs_M σ0 σ) {x1 : Int32} (h_x1 : zs_in x1.toInt 0 5) {x2 : Int32} (h_x2 : zs_in x2.toInt 0 63) {x3 : Int32} {x4 : Int32} (h_x4 : zs_in x4.toInt 0 7) {c : Int} (hc : x4.toInt = c + 0) : zs_ok (BX9_netsTo_88 σ x1 x2 x3 x4) (fun r => zs_sum (fun v => ((True ∧ zs_in (v.2).toInt 1 8)) ∧ v.2.toInt = c + 1) (fun v => False) r) := by
  unfold BX9_netsTo_88
  refine zs_lt (Q := fun z => True) trivial (fun y_1 hy_1 => ?_)
  obtain ⟨ret, er, hr⟩ := zc_385 h_σ h_x1 h_x2 h_x4 hc
  refine ⟨ret, er, ?_⟩
  exact (zs_sumw hr (fun v w => ⟨w.1, w.2⟩) (fun v w => w.elim))
-- BX9_netsTo_72
theorem zc_388 {σ0 : sn_S} {σ : sn_S} (h_σ : zs_M σ0 σ) {x1 : Int32} (h_x1 : zs_in x1.toInt 0 5) {x2 : Int32} (h_x2 : zs_in x2.toInt 0 63) {x3 : Int32} {x4 : Int32} (h_x4 : zs_in x4.toInt 0 7) {x5 : Int32} (h_x5 : zs_in x5.toInt 0 5) {x6 : Int32} (h_x6 : zs_in x6.toInt 0 5) {c : Int} (hc : x4.toInt = c + 0) : zs_ok (BX9_netsTo_72 σ x1 x2 x3 x4 x5 x6) (fun r => zs_sum (fun v => ((True ∧ zs_in (v.2).toInt 1 8)) ∧ v.2.toInt = c + 1) (fun v => False) r) := by
  unfold BX9_netsTo_72
  refine zs_ite (fun c1 => ?_) (fun c1 => ?_)
  · skip
    have r2 := (zs_I_eq c1)
    refine zs_bd_ (zc_386 h_x2 h_x5) (fun t_2 pt_2 => ?_)
    refine zs_ite (fun c3 => ?_) (fun c3 => ?_)
    · skip
      have r4 := (zs_I_eq c3)
      have g5 : zs_in (t_2).toInt 1 1 := (zs_eql 1 1 r4 pt_2 zlI_1 (by decide))
      obtain ⟨ret, er, hr⟩ := zc_387 h_σ h_x1 h_x2 h_x4 hc
      refine ⟨ret, er, ?_⟩
      exact (zs_sumw hr (fun v w => ⟨w.1, w.2⟩) (fun v w => w.elim))
    · skip
      have r6 := (zs_I_eqn c3)
      have g7 : zs_in (t_2).toInt 0 0 := (zs_neh 0 0 r6 pt_2 zlI_1 (by decide))
      obtain ⟨ret, er, hr⟩ := zc_385 h_σ h_x1 h_x2 h_x4 hc
      refine ⟨ret, er, ?_⟩
      exact (zs_sumw hr (fun v w => ⟨w.1, w.2⟩) (fun v w => w.elim))
  · skip
    have r8 := (zs_I_eqn c1)
    obtain ⟨ret, er, hr⟩ := zc_385 h_σ h_x1 h_x2 h_x4 hc
    refine ⟨ret, er, ?_⟩
    exact (zs_sumw hr (fun v w => ⟨w.1, w.2⟩) (fun v w => w.elim))
-- BX9_netsTo_5
theorem zc_389 {σ0 : sn_S} {σ : sn_S} (h_σ : zs_M σ0 σ) {x1 : Int32} (h_x1 : zs_in x1.toInt 0 5) {x2 : Int32} (h_x2 : zs_in x2.toInt 0 63) {x3 : Int32} {x4 : Int32} (h_x4 : zs_in x4.toInt 0 8) {c : Int} (hc : x4.toInt = c + 0) : zs_ok (BX9_netsTo_5 σ x1 x2 x3 x4) (fun r => zs_sum (fun v => ((True ∧ zs_in (v.2).toInt 1 8)) ∧ v.2.toInt = c + 1) (fun v => True) r) := by
  unfold BX9_netsTo_5
  refine zs_gd (zs_gin zlI_7 (by decide)) ?_
  refine zs_ite (fun c1 => ?_) (fun c1 => ?_)
  · skip
    have r2 := (zs_I_le c1)
    exact zs_some (zs_inr (trivial))
  · skip
    have r3 := (zs_I_len c1)
    have g4 : zs_in (x4).toInt 0 7 := (zs_ltl 0 7 r3 h_x4 (zs_rdk (q := 1) (k := (7 : Int32).toNatClampNeg) (z := (0, 8)) h_σ.1 rfl) (by decide))
    have g5 : zs_in ((sn_I σ 1 (7 : Int32).toNatClampNeg)).toInt 1 8 := (zs_ltr 1 8 r3 h_x4 (zs_rdk (q := 1) (k := (7 : Int32).toNatClampNeg) (z := (0, 8)) h_σ.1 rfl) (by decide))
    refine zs_gd (zs_gin (zs_addI 33 47 zlI_33 (zs_mulI 0 14 zlI_2 g4 (by decide)) (by decide)) (by decide)) ?_
    refine zs_lt (Q := fun z => zs_in z.toInt 0 5) (zs_rdb (q := 1) (lo := 0) (hi := 5) h_σ.1 (zs_cases g4 (fun z => zs_bd (zs_tM 1 ((33 : Int32) + ((2 : Int32) * z)).toNatClampNeg) 0 5) (by decide +kernel))) (fun y_4 hy_4 => ?_)
    refine zs_gd (zs_gin (zs_addI 34 48 (zs_addI 33 47 zlI_33 (zs_mulI 0 14 zlI_2 g4 (by decide)) (by decide)) zlI_1 (by decide)) (by decide)) ?_
    refine zs_lt (Q := fun z => zs_in z.toInt 0 5) (zs_rdb (q := 1) (lo := 0) (hi := 5) h_σ.1 (zs_cases g4 (fun z => zs_bd (zs_tM 1 (((33 : Int32) + ((2 : Int32) * z)) + (1 : Int32)).toNatClampNeg) 0 5) (by decide +kernel))) (fun y_7 hy_7 => ?_)
    refine zs_ite (fun c6 => ?_) (fun c6 => ?_)
    · skip
      have r7 := (zs_I_eq c6)
      have g8 : zs_in ((sn_I σ 0 19)).toInt 0 7 := (zs_eqr 0 7 r7 g4 (zs_topI _) (by decide))
      obtain ⟨ret, er, hr⟩ := zc_385 h_σ h_x1 h_x2 g4 hc
      refine ⟨ret, er, ?_⟩
      exact (zs_sumw hr (fun v w => ⟨w.1, w.2⟩) (fun v w => w.elim))
    · skip
      have r9 := (zs_I_eqn c6)
      refine zs_ite (fun c10 => ?_) (fun c10 => ?_)
      · skip
        have r11 := (zs_I_eq c10)
        refine zs_bd_ (zc_386 h_x2 hy_7) (fun t_11 pt_11 => ?_)
        refine zs_ite (fun c12 => ?_) (fun c12 => ?_)
        · skip
          have r13 := (zs_I_eq c12)
          have g14 : zs_in (t_11).toInt 1 1 := (zs_eql 1 1 r13 pt_11 zlI_1 (by decide))
          obtain ⟨ret, er, hr⟩ := zc_387 h_σ h_x1 h_x2 g4 hc
          refine ⟨ret, er, ?_⟩
          exact (zs_sumw hr (fun v w => ⟨w.1, w.2⟩) (fun v w => w.elim))
        · skip
          have r15 := (zs_I_eqn c12)
          have g16 : zs_in (t_11).toInt 0 0 := (zs_neh 0 0 r15 pt_11 zlI_1 (by decide))
          obtain ⟨ret, er, hr⟩ := zc_388 h_σ h_x1 h_x2 g4 hy_4 hy_7 hc
          refine ⟨ret, er, ?_⟩
          exact (zs_sumw hr (fun v w => ⟨w.1, w.2⟩) (fun v w => w.elim))
      · skip
        have r17 := (zs_I_eqn c10)
        obtain ⟨ret, er, hr⟩ := zc_388 h_σ h_x1 h_x2 g4 hy_4 hy_7 hc
        refine ⟨ret, er, ?_⟩
        exact (zs_sumw hr (fun v w => ⟨w.1, w.2⟩) (fun v w => w.elim))
theorem zd_69 {σ0 : sn_S} {σ : sn_S} (h_σ : zs_M σ0 σ) {x1 : Int32} (h_x1 : zs_in x1.toInt 0 5) {x2 : Int32} (h_x2 : zs_in x2.toInt 0 63) {s0 : (Int32 × Int32)} (h0 : (True ∧ zs_in (s0.2).toInt 0 8)) : zs_ok (sn_it (LX9_netsTo_5 σ x1 x2) 5000 s0) (fun t => True) := by
  refine zs_it (I := fun s => (True ∧ zs_in (s.2).toInt 0 8)) (m := fun s => 8 - s.2.toInt) (fun s hs => ?_) (fun s hs => ?_) (by exact h0)
  · have h1 := hs.2; unfold zs_in at h1
    omega
  · obtain ⟨b, eb, hb⟩ := zc_389 h_σ h_x1 h_x2 hs.2 (c := s.2.toInt) (Int.add_zero _).symm
    exact ⟨b, eb, zs_sumw hb (fun v w => ⟨⟨w.1.1, (zs_w w.1.2 (by decide))⟩, by have := w.2; omega⟩) (fun v w => w)⟩
-- fX9_netsTo
theorem zc_390 {σ0 : sn_S} {σ : sn_S} (h_σ : zs_M σ0 σ) {x1 : Int32} (h_x1 : zs_in x1.toInt 0 5) {x2 : Int32} (h_x2 : zs_in x2.toInt 0 63) : zs_ok (fX9_netsTo σ x1 x2) (fun r => True) := by
  unfold fX9_netsTo
  refine zs_bd_ (zd_69 h_σ h_x1 h_x2 (s0 := ((0 : Int32), (0 : Int32))) ⟨trivial, (zs_w zlI_0 (by decide))⟩) (fun t_1 pt_1 => ?_)
  obtain ⟨ret, er, hr⟩ := zc_37 h_σ
  refine ⟨ret, er, ?_⟩
  exact hr
-- BX9_web_65
theorem zc_391 {σ0 : sn_S} {σ : sn_S} (h_σ : zs_M σ0 σ) {x2 : Int32} (h_x2 : zs_in x2.toInt 0 63) {x3 : Int32} (h_x3 : zs_in x3.toInt 0 5) {x4 : Int32} (h_x4 : zs_in x4.toInt 0 63) {x5 : Int32} (h_x5 : zs_in x5.toInt 0 5) {t0 : Int32} (h_t0 : zs_in t0.toInt 0 63) {t1 : Int32} (h_t1 : zs_in t1.toInt 0 0) {c : Int} (hc : x5.toInt = c + 0) : zs_ok (BX9_web_65 σ x2 x3 x4 x5 t0 t1) (fun r => zs_sum (fun v => ((zs_in (v.1).toInt 0 63 ∧ zs_in (v.2).toInt 1 6)) ∧ v.2.toInt = c + 1) (fun v => False) r) := by
  unfold BX9_web_65
  obtain rfl : t1 = (0 : Int32) := zs_eqv h_t1 (by decide)
  refine zs_lt (Q := fun z => zs_in z.toInt 0 63) (zs_or 6 63 h_t0 h_t1 (by decide)) (fun y_1 hy_1 => ?_)
  refine zs_lt (Q := fun z => zs_in z.toInt 1 6 ∧ z.toInt = c + 1) ⟨(zs_addI 1 6 h_x5 zlI_1 (by decide)), (zs_syI 1 hc h_x5 zlI_1 (by decide) (by decide))⟩ (fun y_3 hy_3 => ?_)
  exact zs_some (zs_inl ⟨⟨hy_1, hy_3.1⟩, hy_3.2⟩)
-- BX9_web_65
theorem zc_392 {σ0 : sn_S} {σ : sn_S} (h_σ : zs_M σ0 σ) {x2 : Int32} (h_x2 : zs_in x2.toInt 0 63) {x3 : Int32} (h_x3 : zs_in x3.toInt 0 5) {x4 : Int32} (h_x4 : zs_in x4.toInt 0 63) {x5 : Int32} (h_x5 : zs_in x5.toInt 0 5) {t0 : Int32} (h_t0 : zs_in t0.toInt 0 63) {t1 : Int32} (h_t1 : zs_in t1.toInt 1 32) {c : Int} (hc : x5.toInt = c + 0) : zs_ok (BX9_web_65 σ x2 x3 x4 x5 t0 t1) (fun r => zs_sum (fun v => ((zs_in (v.1).toInt 0 63 ∧ zs_in (v.2).toInt 1 6)) ∧ v.2.toInt = c + 1) (fun v => False) r) := by
  unfold BX9_web_65
  refine zs_lt (Q := fun z => zs_in z.toInt 0 63) (zs_or 6 63 h_t0 h_t1 (by decide)) (fun y_1 hy_1 => ?_)
  refine zs_lt (Q := fun z => zs_in z.toInt 1 6 ∧ z.toInt = c + 1) ⟨(zs_addI 1 6 h_x5 zlI_1 (by decide)), (zs_syI 1 hc h_x5 zlI_1 (by decide) (by decide))⟩ (fun y_3 hy_3 => ?_)
  exact zs_some (zs_inl ⟨⟨hy_1, hy_3.1⟩, hy_3.2⟩)
-- BX9_web_34
theorem zc_393 {σ0 : sn_S} {σ : sn_S} (h_σ : zs_M σ0 σ) {x2 : Int32} (h_x2 : zs_in x2.toInt 0 63) {x3 : Int32} (h_x3 : zs_in x3.toInt 0 5) {x4 : Int32} (h_x4 : zs_in x4.toInt 0 63) {x5 : Int32} (h_x5 : zs_in x5.toInt 0 6) {c : Int} (hc : x5.toInt = c + 0) : zs_ok (BX9_web_34 σ x2 x3 x4 x5) (fun r => zs_sum (fun v => ((zs_in (v.1).toInt 0 63 ∧ zs_in (v.2).toInt 1 6)) ∧ v.2.toInt = c + 1) (fun v => zs_in (v).toInt 0 63) r) := by
  unfold BX9_web_34
  refine zs_gd (zs_gin zlI_5 (by decide)) ?_
  refine zs_ite (fun c1 => ?_) (fun c1 => ?_)
  · skip
    have r2 := (zs_I_le c1)
    exact zs_some (zs_inr (h_x4))
  · skip
    have r3 := (zs_I_len c1)
    have g4 : zs_in (x5).toInt 0 5 := (zs_ltl 0 5 r3 h_x5 (zs_rdk (q := 1) (k := (5 : Int32).toNatClampNeg) (z := (0, 6)) h_σ.1 rfl) (by decide))
    have g5 : zs_in ((sn_I σ 1 (5 : Int32).toNatClampNeg)).toInt 1 6 := (zs_ltr 1 6 r3 h_x5 (zs_rdk (q := 1) (k := (5 : Int32).toNatClampNeg) (z := (0, 6)) h_σ.1 rfl) (by decide))
    refine zs_bd_ (zc_390 h_σ g4 h_x2) (fun t_3 pt_3 => ?_)
    refine zs_ite (fun c6 => ?_) (fun c6 => ?_)
    · skip
      have r7 := (zs_I_le c6)
      have g8 : zs_in (t_3).toInt (-2147483648) 0 := (zs_lel (-2147483648) 0 r7 (zs_topI _) zlI_0 (by decide))
      obtain ⟨ret, er, hr⟩ := zc_391 h_σ h_x2 h_x3 h_x4 g4 h_x4 zlI_0 hc
      refine ⟨ret, er, ?_⟩
      exact (zs_sumw hr (fun v w => ⟨w.1, w.2⟩) (fun v w => w.elim))
    · skip
      have r9 := (zs_I_len c6)
      have g10 : zs_in (t_3).toInt 1 2147483647 := (zs_ltr 1 2147483647 r9 zlI_0 (zs_topI _) (by decide))
      obtain ⟨ret, er, hr⟩ := zc_392 h_σ h_x2 h_x3 h_x4 g4 h_x4 (zs_cases g4 (fun z => zs_in ((1 : Int32) <<< (z &&& 31)).toInt 1 32) (by decide +kernel)) hc
      refine ⟨ret, er, ?_⟩
      exact (zs_sumw hr (fun v w => ⟨w.1, w.2⟩) (fun v w => w.elim))
theorem zd_70 {σ0 : sn_S} {σ : sn_S} (h_σ : zs_M σ0 σ) {x2 : Int32} (h_x2 : zs_in x2.toInt 0 63) {x3 : Int32} (h_x3 : zs_in x3.toInt 0 5) {s0 : (Int32 × Int32)} (h0 : (zs_in (s0.1).toInt 0 63 ∧ zs_in (s0.2).toInt 0 6)) : zs_ok (sn_it (LX9_web_34 σ x2 x3) 5000 s0) (fun t => zs_in (t).toInt 0 63) := by
  refine zs_it (I := fun s => (zs_in (s.1).toInt 0 63 ∧ zs_in (s.2).toInt 0 6)) (m := fun s => 6 - s.2.toInt) (fun s hs => ?_) (fun s hs => ?_) (by exact h0)
  · have h1 := hs.2; unfold zs_in at h1
    omega
  · obtain ⟨b, eb, hb⟩ := zc_393 h_σ h_x2 h_x3 hs.1 hs.2 (c := s.2.toInt) (Int.add_zero _).symm
    exact ⟨b, eb, zs_sumw hb (fun v w => ⟨⟨w.1.1, (zs_w w.1.2 (by decide))⟩, by have := w.2; omega⟩) (fun v w => w)⟩
-- BX9_web_74
theorem zc_394 {σ0 : sn_S} {σ : sn_S} (h_σ : zs_M σ0 σ) {x2 : Int32} (h_x2 : zs_in x2.toInt 0 63) {x3 : Int32} (h_x3 : zs_in x3.toInt 0 5) {x4 : Int32} (h_x4 : zs_in x4.toInt 0 63) {c : Int} (hc : x3.toInt = c + 0) : zs_ok (BX9_web_74 σ x2 x3 x4) (fun r => zs_sum (fun v => ((zs_in (v.1).toInt 0 63 ∧ zs_in (v.2).toInt 1 6)) ∧ v.2.toInt = c + 1) (fun v => False) r) := by
  unfold BX9_web_74
  refine zs_lt (Q := fun z => zs_in z.toInt 1 6 ∧ z.toInt = c + 1) ⟨(zs_addI 1 6 h_x3 zlI_1 (by decide)), (zs_syI 1 hc h_x3 zlI_1 (by decide) (by decide))⟩ (fun y_1 hy_1 => ?_)
  exact zs_some (zs_inl ⟨⟨h_x4, hy_1.1⟩, hy_1.2⟩)
-- BX9_web_22
theorem zc_395 {σ0 : sn_S} {σ : sn_S} (h_σ : zs_M σ0 σ) {x2 : Int32} (h_x2 : zs_in x2.toInt 0 63) {x3 : Int32} (h_x3 : zs_in x3.toInt 0 6) {c : Int} (hc : x3.toInt = c + 0) : zs_ok (BX9_web_22 σ x2 x3) (fun r => zs_sum (fun v => ((zs_in (v.1).toInt 0 63 ∧ zs_in (v.2).toInt 1 6)) ∧ v.2.toInt = c + 1) (fun v => zs_in (v).toInt 0 63) r) := by
  unfold BX9_web_22
  refine zs_ite (fun c1 => ?_) (fun c1 => ?_)
  · skip
    have r2 := (zs_I_le c1)
    have g3 : zs_in (x3).toInt 6 6 := (zs_ler 6 6 r2 zlI_6 h_x3 (by decide))
    exact zs_some (zs_inr (h_x2))
  · skip
    have r4 := (zs_I_len c1)
    have g5 : zs_in (x3).toInt 0 5 := (zs_ltl 0 5 r4 h_x3 zlI_6 (by decide))
    refine zs_bd_ (zd_70 h_σ h_x2 g5 (s0 := (x2, (0 : Int32))) ⟨h_x2, (zs_w zlI_0 (by decide))⟩) (fun t_2 pt_2 => ?_)
    obtain ⟨ret, er, hr⟩ := zc_394 h_σ h_x2 g5 pt_2 hc
    refine ⟨ret, er, ?_⟩
    exact (zs_sumw hr (fun v w => ⟨w.1, w.2⟩) (fun v w => w.elim))
theorem zd_71 {σ0 : sn_S} {σ : sn_S} (h_σ : zs_M σ0 σ) {s0 : (Int32 × Int32)} (h0 : (zs_in (s0.1).toInt 0 63 ∧ zs_in (s0.2).toInt 0 6)) : zs_ok (sn_it (LX9_web_22 σ) 5000 s0) (fun t => zs_in (t).toInt 0 63) := by
  refine zs_it (I := fun s => (zs_in (s.1).toInt 0 63 ∧ zs_in (s.2).toInt 0 6)) (m := fun s => 6 - s.2.toInt) (fun s hs => ?_) (fun s hs => ?_) (by exact h0)
  · have h1 := hs.2; unfold zs_in at h1
    omega
  · obtain ⟨b, eb, hb⟩ := zc_395 h_σ hs.1 hs.2 (c := s.2.toInt) (Int.add_zero _).symm
    exact ⟨b, eb, zs_sumw hb (fun v w => ⟨⟨w.1.1, (zs_w w.1.2 (by decide))⟩, by have := w.2; omega⟩) (fun v w => w)⟩
-- BX9_web_83
theorem zc_396 {σ0 : sn_S} {σ : sn_S} (h_σ : zs_M σ0 σ) {x2 : Int32} (h_x2 : zs_in x2.toInt 0 63) : zs_ok (BX9_web_83 σ x2) (fun r => (zs_in (r.1).toInt 0 63 ∧ zs_M σ0 r.2)) := by
  unfold BX9_web_83
  exact zs_some ⟨h_x2, h_σ⟩
-- fX9_web
theorem zc_397 {σ0 : sn_S} {σ : sn_S} (h_σ : zs_M σ0 σ) {x1 : Int32} : zs_ok (fX9_web σ x1) (fun r => ((zs_in (r.1).toInt (-2) 63 ∧ zs_M σ0 r.2)) ∧ ((r.1).toInt = (-2) ∨ (zs_in (x1).toInt 0 5))) := by
  unfold fX9_web
  refine zs_bd_ (zc_31 h_σ) (fun t_1 pt_1 => ?_)
  refine zs_bd_ (zc_6 pt_1 (zs_64 (zs_topI _))) (fun t_3 pt_3 => ?_)
  refine zs_ite (fun c1 => ?_) (fun c1 => ?_)
  · skip
    have r2 := (zs_I_eq c1)
    have g3 : zs_in (t_3).toInt 0 0 := (zs_eql 0 0 r2 pt_3.1 zlI_0 (by decide))
    exact zs_some ⟨⟨(zs_w zlI_m2 (by decide)), pt_1⟩, Or.inl (zs_ptr zlI_m2)⟩
  · skip
    have r4 := (zs_I_eqn c1)
    have g5 : zs_in (t_3).toInt 1 1 := (zs_nel 1 1 r4 pt_3.1 zlI_0 (by decide))
    have q6 := (zs_or2 pt_3.2 g5 (by decide))
    have g7 : zs_in (x1.toInt64).toInt 0 5 := q6
    have g8 : zs_in (x1).toInt 0 5 := (zs_64r g7)
    refine zs_lt (Q := fun z => zs_in z.toInt 1 32) (zs_cases g8 (fun z => zs_in ((1 : Int32) <<< (z &&& 31)).toInt 1 32) (by decide +kernel)) (fun y_6 hy_6 => ?_)
    refine zs_bd_ (zd_71 pt_1 (s0 := (y_6, (0 : Int32))) ⟨(zs_w hy_6 (by decide)), (zs_w zlI_0 (by decide))⟩) (fun t_8 pt_8 => ?_)
    obtain ⟨ret, er, hr⟩ := zc_396 pt_1 pt_8
    refine ⟨ret, er, ?_⟩
    exact ⟨⟨(zs_w hr.1 (by decide)), hr.2⟩, Or.inr g8⟩
-- fX8_claim
theorem zc_398 {σ0 : sn_S} {σ : sn_S} (h_σ : zs_C σ0 σ) {x1 : Int32} : zs_ok (fX8_claim σ x1) (fun r => ((True ∧ zs_C σ0 r.2)) ∧ ((r.1).toInt = (-2) ∨ (zs_in (x1).toInt 0 5))) := by
  unfold fX8_claim
  refine zs_bd_ (zo_isPolicy h_σ) (fun t_1 pt_1 => ?_)
  refine zs_ite (fun c1 => ?_) (fun c1 => ?_)
  · skip
    have r2 := (zs_I_eq c1)
    have g3 : zs_in (t_1).toInt 0 0 := (zs_eql 0 0 r2 pt_1.1 zlI_0 (by decide))
    exact zs_some ⟨⟨trivial, h_σ⟩, Or.inl (zs_ptr zlI_m2)⟩
  · skip
    have r4 := (zs_I_eqn c1)
    have g5 : zs_in (t_1).toInt 1 1 := (zs_nel 1 1 r4 pt_1.1 zlI_0 (by decide))
    have q6 := (zs_or2 pt_1.2.1 g5 (by decide))
    have g7 : zs_in (x1).toInt 0 5 := q6
    haveI := zs_or2 pt_1.2.2 g5 (by decide)
    refine zs_bd_ (zc_237 h_σ) (fun t_4 pt_4 => ?_)
    refine zs_gd (zs_gin g7 (by decide)) ?_
    exact zs_some ⟨⟨trivial, pt_4⟩, Or.inr g7⟩
-- fX9_claim
theorem zc_399 {σ0 : sn_S} {σ : sn_S} (h_σ : zs_M σ0 σ) {x1 : Int32} : zs_ok (fX9_claim σ x1) (fun r => ((True ∧ zs_M σ0 r.2)) ∧ ((r.1).toInt = (-2) ∨ (zs_in (x1).toInt 0 5))) := by
  unfold fX9_claim
  refine zs_bd_ (zc_239 h_σ) (fun t_1 pt_1 => ?_)
  refine zs_ite (fun c1 => ?_) (fun c1 => ?_)
  · skip
    have r2 := (zs_I_eq c1)
    have g3 : zs_in (t_1.1).toInt 0 0 := (zs_eql 0 0 r2 pt_1.1.1 zlI_0 (by decide))
    exact zs_some ⟨⟨trivial, pt_1.1.2⟩, Or.inl (zs_ptr zlI_m2)⟩
  · skip
    have r4 := (zs_I_eqn c1)
    have g5 : zs_in (t_1.1).toInt 1 1 := (zs_nel 1 1 r4 pt_1.1.1 zlI_0 (by decide))
    have q6 := (zs_or2 pt_1.2 g5 (by decide))
    have g7 : zs_in (x1).toInt 0 5 := q6
    refine zs_bd_ (zc_262 pt_1.1.2 g7) (fun t_4 pt_4 => ?_)
    exact zs_some ⟨⟨trivial, pt_4.2⟩, Or.inr g7⟩
-- fX8_paid
theorem zc_400 {σ0 : sn_S} {σ : sn_S} (h_σ : zs_C σ0 σ) {x1 : Int32} : zs_ok (fX8_paid σ x1) (fun r => ((zs_in (r.1).toInt (-2) 63 ∧ zs_C σ0 r.2)) ∧ ((r.1).toInt = (-2) ∨ (zs_in (x1).toInt 0 5))) := by
  unfold fX8_paid
  refine zs_bd_ (zo_isPolicy h_σ) (fun t_1 pt_1 => ?_)
  refine zs_ite (fun c1 => ?_) (fun c1 => ?_)
  · skip
    have r2 := (zs_I_eq c1)
    have g3 : zs_in (t_1).toInt 0 0 := (zs_eql 0 0 r2 pt_1.1 zlI_0 (by decide))
    exact zs_some ⟨⟨(zs_w zlI_m2 (by decide)), h_σ⟩, Or.inl (zs_ptr zlI_m2)⟩
  · skip
    have r4 := (zs_I_eqn c1)
    have g5 : zs_in (t_1).toInt 1 1 := (zs_nel 1 1 r4 pt_1.1 zlI_0 (by decide))
    have q6 := (zs_or2 pt_1.2.1 g5 (by decide))
    have g7 : zs_in (x1).toInt 0 5 := q6
    haveI := zs_or2 pt_1.2.2 g5 (by decide)
    refine zs_bd_ (zc_237 h_σ) (fun t_4 pt_4 => ?_)
    refine zs_gd (zs_gin g7 (by decide)) ?_
    exact zs_some ⟨⟨(zs_w (zs_rdu (q := 51) (z := ((-1), 63)) pt_4.1 (fun _ => rfl)) (by decide)), pt_4⟩, Or.inr g7⟩
-- fX9_paid
theorem zc_401 {σ0 : sn_S} {σ : sn_S} (h_σ : zs_M σ0 σ) {x1 : Int32} : zs_ok (fX9_paid σ x1) (fun r => ((True ∧ zs_M σ0 r.2)) ∧ ((r.1).toInt = (-2) ∨ (zs_in (x1).toInt 0 5))) := by
  unfold fX9_paid
  refine zs_bd_ (zc_239 h_σ) (fun t_1 pt_1 => ?_)
  refine zs_ite (fun c1 => ?_) (fun c1 => ?_)
  · skip
    have r2 := (zs_I_eq c1)
    have g3 : zs_in (t_1.1).toInt 0 0 := (zs_eql 0 0 r2 pt_1.1.1 zlI_0 (by decide))
    exact zs_some ⟨⟨trivial, pt_1.1.2⟩, Or.inl (zs_ptr zlI_m2)⟩
  · skip
    have r4 := (zs_I_eqn c1)
    have g5 : zs_in (t_1.1).toInt 1 1 := (zs_nel 1 1 r4 pt_1.1.1 zlI_0 (by decide))
    have q6 := (zs_or2 pt_1.2 g5 (by decide))
    have g7 : zs_in (x1).toInt 0 5 := q6
    refine zs_bd_ (zc_262 pt_1.1.2 g7) (fun t_4 pt_4 => ?_)
    exact zs_some ⟨⟨trivial, pt_4.2⟩, Or.inr g7⟩
-- BX8_claims_42
theorem zc_402 {σ0 : sn_S} {σ : sn_S} (h_σ : zs_C σ0 σ) {x2 : Int32} {x3 : Int32} (h_x3 : zs_in x3.toInt 0 5) {c : Int} (hc : x3.toInt = c + 0) : zs_ok (BX8_claims_42 σ x2 x3) (fun r => zs_sum (fun v => ((True ∧ zs_in (v.2).toInt 1 6)) ∧ v.2.toInt = c + 1) (fun v => False) r) := by
  unfold BX8_claims_42
  refine zs_lt (Q := fun z => zs_in z.toInt 1 6 ∧ z.toInt = c + 1) ⟨(zs_addI 1 6 h_x3 zlI_1 (by decide)), (zs_syI 1 hc h_x3 zlI_1 (by decide) (by decide))⟩ (fun y_1 hy_1 => ?_)
  exact zs_some (zs_inl ⟨⟨trivial, hy_1.1⟩, hy_1.2⟩)
-- BX8_claims_19
theorem zc_403 {σ0 : sn_S} {σ : sn_S} (h_σ : zs_C σ0 σ) {x2 : Int32} {x3 : Int32} (h_x3 : zs_in x3.toInt 0 6) {c : Int} (hc : x3.toInt = c + 0) : zs_ok (BX8_claims_19 σ x2 x3) (fun r => zs_sum (fun v => ((True ∧ zs_in (v.2).toInt 1 6)) ∧ v.2.toInt = c + 1) (fun v => True) r) := by
  unfold BX8_claims_19
  refine zs_ite (fun c1 => ?_) (fun c1 => ?_)
  · skip
    have r2 := (zs_I_le c1)
    exact zs_some (zs_inr (trivial))
  · skip
    have r3 := (zs_I_len c1)
    have g4 : zs_in (x3).toInt 0 5 := (zs_ltl 0 5 r3 h_x3 (zs_rdk (q := 49) (k := 2) (z := (0, 6)) h_σ.1 rfl) (by decide))
    have g5 : zs_in ((sn_I σ 49 2)).toInt 1 6 := (zs_ltr 1 6 r3 h_x3 (zs_rdk (q := 49) (k := 2) (z := (0, 6)) h_σ.1 rfl) (by decide))
    refine zs_gd (zs_gin g4 (by decide)) ?_
    refine zs_ite (fun c6 => ?_) (fun c6 => ?_)
    · skip
      have r7 := (zs_I_le c6)
      have g8 : zs_in ((sn_I σ (49 + 1) x3.toNatClampNeg)).toInt (-2147483648) 0 := (zs_lel (-2147483648) 0 r7 (zs_topI _) zlI_0 (by decide))
      obtain ⟨ret, er, hr⟩ := zc_402 h_σ g4 hc
      refine ⟨ret, er, ?_⟩
      exact (zs_sumw hr (fun v w => ⟨w.1, w.2⟩) (fun v w => w.elim))
    · skip
      have r9 := (zs_I_len c6)
      have g10 : zs_in ((sn_I σ (49 + 1) x3.toNatClampNeg)).toInt 1 2147483647 := (zs_ltr 1 2147483647 r9 zlI_0 (zs_topI _) (by decide))
      refine zs_lt (Q := fun z => True) trivial (fun y_4 hy_4 => ?_)
      obtain ⟨ret, er, hr⟩ := zc_402 h_σ g4 hc
      refine ⟨ret, er, ?_⟩
      exact (zs_sumw hr (fun v w => ⟨w.1, w.2⟩) (fun v w => w.elim))
theorem zd_72 {σ0 : sn_S} {σ : sn_S} (h_σ : zs_C σ0 σ) {s0 : (Int32 × Int32)} (h0 : (True ∧ zs_in (s0.2).toInt 0 6)) : zs_ok (sn_it (LX8_claims_19 σ) 5000 s0) (fun t => True) := by
  refine zs_it (I := fun s => (True ∧ zs_in (s.2).toInt 0 6)) (m := fun s => 6 - s.2.toInt) (fun s hs => ?_) (fun s hs => ?_) (by exact h0)
  · have h1 := hs.2; unfold zs_in at h1
    omega
  · obtain ⟨b, eb, hb⟩ := zc_403 h_σ hs.2 (c := s.2.toInt) (Int.add_zero _).symm
    exact ⟨b, eb, zs_sumw hb (fun v w => ⟨⟨w.1.1, (zs_w w.1.2 (by decide))⟩, by have := w.2; omega⟩) (fun v w => w)⟩
-- BX8_claims_48
theorem zc_404 {σ0 : sn_S} {σ : sn_S} (h_σ : zs_C σ0 σ) {x2 : Int32} : zs_ok (BX8_claims_48 σ x2) (fun r => (True ∧ zs_C σ0 r.2)) := by
  unfold BX8_claims_48
  exact zs_some ⟨trivial, h_σ⟩
-- fX8_claims
theorem zc_405 {σ0 : sn_S} {σ : sn_S} (h_σ : zs_C σ0 σ) : zs_ok (fX8_claims σ) (fun r => (True ∧ zs_C σ0 r.2)) := by
  unfold fX8_claims
  refine zs_bd_ (zc_102 h_σ) (fun t_1 pt_1 => ?_)
  refine zs_ite (fun c1 => ?_) (fun c1 => ?_)
  · skip
    have r2 := (zs_I_eq c1)
    have g3 : zs_in (t_1).toInt 0 0 := (zs_eql 0 0 r2 pt_1 zlI_0 (by decide))
    exact zs_some ⟨trivial, h_σ⟩
  · skip
    have r4 := (zs_I_eqn c1)
    have g5 : zs_in (t_1).toInt 1 1 := (zs_nel 1 1 r4 pt_1 zlI_0 (by decide))
    refine zs_bd_ (zc_237 h_σ) (fun t_4 pt_4 => ?_)
    refine zs_bd_ (zd_72 pt_4 (s0 := ((0 : Int32), (0 : Int32))) ⟨trivial, (zs_w zlI_0 (by decide))⟩) (fun t_6 pt_6 => ?_)
    obtain ⟨ret, er, hr⟩ := zc_404 pt_4
    refine ⟨ret, er, ?_⟩
    exact hr
-- BX9_claims_41
theorem zc_406 {σ0 : sn_S} {σ : sn_S} (h_σ : zs_M σ0 σ) {x1 : Int32} {x2 : Int32} (h_x2 : zs_in x2.toInt 0 5) {t0 : Int32} {t1 : Int32} (h_t1 : zs_in t1.toInt 0 0) {c : Int} (hc : x2.toInt = c + 0) : zs_ok (BX9_claims_41 σ x1 x2 t0 t1) (fun r => zs_sum (fun v => ((zs_M σ0 v.1 ∧ (True ∧ zs_in (v.2.2).toInt 1 6))) ∧ v.2.2.toInt = c + 1) (fun v => False) r) := by
  unfold BX9_claims_41
  obtain rfl : t1 = (0 : Int32) := zs_eqv h_t1 (by decide)
  refine zs_lt (Q := fun z => True) trivial (fun y_1 hy_1 => ?_)
  refine zs_lt (Q := fun z => zs_in z.toInt 1 6 ∧ z.toInt = c + 1) ⟨(zs_addI 1 6 h_x2 zlI_1 (by decide)), (zs_syI 1 hc h_x2 zlI_1 (by decide) (by decide))⟩ (fun y_3 hy_3 => ?_)
  exact zs_some (zs_inl ⟨⟨h_σ, ⟨trivial, hy_3.1⟩⟩, hy_3.2⟩)
-- BX9_claims_41
theorem zc_407 {σ0 : sn_S} {σ : sn_S} (h_σ : zs_M σ0 σ) {x1 : Int32} {x2 : Int32} (h_x2 : zs_in x2.toInt 0 5) {t0 : Int32} {t1 : Int32} (h_t1 : zs_in t1.toInt 1 32) {c : Int} (hc : x2.toInt = c + 0) : zs_ok (BX9_claims_41 σ x1 x2 t0 t1) (fun r => zs_sum (fun v => ((zs_M σ0 v.1 ∧ (True ∧ zs_in (v.2.2).toInt 1 6))) ∧ v.2.2.toInt = c + 1) (fun v => False) r) := by
  unfold BX9_claims_41
  refine zs_lt (Q := fun z => True) trivial (fun y_1 hy_1 => ?_)
  refine zs_lt (Q := fun z => zs_in z.toInt 1 6 ∧ z.toInt = c + 1) ⟨(zs_addI 1 6 h_x2 zlI_1 (by decide)), (zs_syI 1 hc h_x2 zlI_1 (by decide) (by decide))⟩ (fun y_3 hy_3 => ?_)
  exact zs_some (zs_inl ⟨⟨h_σ, ⟨trivial, hy_3.1⟩⟩, hy_3.2⟩)
-- BX9_claims_14
theorem zc_408 {σ0 : sn_S} {σ : sn_S} (h_σ : zs_M σ0 σ) {x1 : Int32} {x2 : Int32} (h_x2 : zs_in x2.toInt 0 6) {c : Int} (hc : x2.toInt = c + 0) : zs_ok (BX9_claims_14 σ x1 x2) (fun r => zs_sum (fun v => ((zs_M σ0 v.1 ∧ (True ∧ zs_in (v.2.2).toInt 1 6))) ∧ v.2.2.toInt = c + 1) (fun v => (zs_M σ0 v.1 ∧ True)) r) := by
  unfold BX9_claims_14
  refine zs_gd (zs_gin zlI_8 (by decide)) ?_
  refine zs_ite (fun c1 => ?_) (fun c1 => ?_)
  · skip
    have r2 := (zs_I_le c1)
    exact zs_some (zs_inr (⟨h_σ, trivial⟩))
  · skip
    have r3 := (zs_I_len c1)
    have g4 : zs_in (x2).toInt 0 5 := (zs_ltl 0 5 r3 h_x2 (zs_rdk (q := 1) (k := (8 : Int32).toNatClampNeg) (z := (0, 6)) h_σ.1 rfl) (by decide))
    have g5 : zs_in ((sn_I σ 1 (8 : Int32).toNatClampNeg)).toInt 1 6 := (zs_ltr 1 6 r3 h_x2 (zs_rdk (q := 1) (k := (8 : Int32).toNatClampNeg) (z := (0, 6)) h_σ.1 rfl) (by decide))
    refine zs_bd_ (zc_262 h_σ g4) (fun t_3 pt_3 => ?_)
    refine zs_ite (fun c6 => ?_) (fun c6 => ?_)
    · skip
      have r7 := (zs_I_le c6)
      have g8 : zs_in (t_3.1).toInt (-2147483648) 0 := (zs_lel (-2147483648) 0 r7 (zs_topI _) zlI_0 (by decide))
      obtain ⟨ret, er, hr⟩ := zc_406 pt_3.2 g4 zlI_0 hc
      refine ⟨ret, er, ?_⟩
      exact (zs_sumw hr (fun v w => ⟨w.1, w.2⟩) (fun v w => w.elim))
    · skip
      have r9 := (zs_I_len c6)
      have g10 : zs_in (t_3.1).toInt 1 2147483647 := (zs_ltr 1 2147483647 r9 zlI_0 (zs_topI _) (by decide))
      obtain ⟨ret, er, hr⟩ := zc_407 pt_3.2 g4 (zs_cases g4 (fun z => zs_in ((1 : Int32) <<< (z &&& 31)).toInt 1 32) (by decide +kernel)) hc
      refine ⟨ret, er, ?_⟩
      exact (zs_sumw hr (fun v w => ⟨w.1, w.2⟩) (fun v w => w.elim))
theorem zd_73 {σ0 : sn_S}  {s0 : (sn_S × (Int32 × Int32))} (h0 : (zs_M σ0 s0.1 ∧ (True ∧ zs_in (s0.2.2).toInt 0 6))) : zs_ok (sn_it (LX9_claims_14) 5000 s0) (fun t => (zs_M σ0 t.1 ∧ True)) := by
  refine zs_it (I := fun s => (zs_M σ0 s.1 ∧ (True ∧ zs_in (s.2.2).toInt 0 6))) (m := fun s => 6 - s.2.2.toInt) (fun s hs => ?_) (fun s hs => ?_) (by exact h0)
  · have h1 := hs.2.2; unfold zs_in at h1
    omega
  · obtain ⟨b, eb, hb⟩ := zc_408 hs.1 hs.2.2 (c := s.2.2.toInt) (Int.add_zero _).symm
    exact ⟨b, eb, zs_sumw hb (fun v w => ⟨⟨w.1.1, ⟨w.1.2.1, (zs_w w.1.2.2 (by decide))⟩⟩, by have := w.2; omega⟩) (fun v w => w)⟩
-- BX9_claims_49
theorem zc_409 {σ0 : sn_S} {σ : sn_S} (h_σ : zs_M σ0 σ) {x1 : Int32} : zs_ok (BX9_claims_49 σ x1) (fun r => (True ∧ zs_M σ0 r.2)) := by
  unfold BX9_claims_49
  exact zs_some ⟨trivial, h_σ⟩
-- fX9_claims
theorem zc_410 {σ0 : sn_S} {σ : sn_S} (h_σ : zs_M σ0 σ) : zs_ok (fX9_claims σ) (fun r => (True ∧ zs_M σ0 r.2)) := by
  unfold fX9_claims
  refine zs_bd_ (zc_92 h_σ) (fun t_1 pt_1 => ?_)
  refine zs_ite (fun c1 => ?_) (fun c1 => ?_)
  · skip
    have r2 := (zs_I_eq c1)
    have g3 : zs_in (t_1.1).toInt 0 0 := (zs_eql 0 0 r2 pt_1.1 zlI_0 (by decide))
    exact zs_some ⟨trivial, pt_1.2⟩
  · skip
    have r4 := (zs_I_eqn c1)
    have g5 : zs_in (t_1.1).toInt 1 1 := (zs_nel 1 1 r4 pt_1.1 zlI_0 (by decide))
    refine zs_bd_ (zd_73  (s0 := (t_1.2, ((0 : Int32), (0 : Int32)))) ⟨pt_1.2, ⟨trivial, (zs_w zlI_0 (by decide))⟩⟩) (fun t_4 pt_4 => ?_)
    obtain ⟨ret, er, hr⟩ := zc_409 pt_4.1
    refine ⟨ret, er, ?_⟩
    exact hr
-- fX8_money
theorem zc_411 {σ0 : sn_S} {σ : sn_S} (h_σ : zs_C σ0 σ) {x1 : Int32} : zs_ok (fX8_money σ x1) (fun r => (True ∧ zs_C σ0 r.2)) := by
  unfold fX8_money
  refine zs_bd_ (zc_44 h_σ) (fun t_1 pt_1 => ?_)
  refine zs_ite (fun c1 => ?_) (fun c1 => ?_)
  · skip
    have r2 := (zs_I_eq c1)
    have g3 : zs_in (t_1).toInt 0 0 := (zs_eql 0 0 r2 pt_1.1 zlI_0 (by decide))
    exact zs_some ⟨trivial, h_σ⟩
  · skip
    have r4 := (zs_I_eqn c1)
    have g5 : zs_in (t_1).toInt 1 1 := (zs_nel 1 1 r4 pt_1.1 zlI_0 (by decide))
    have q6 := (zs_or2 pt_1.2 g5 (by decide))
    have g7 : zs_in (x1).toInt 0 29 := q6
    refine zs_bd_ (zc_237 h_σ) (fun t_4 pt_4 => ?_)
    refine zs_bd_ (zc_270 pt_4 g7) (fun t_6 pt_6 => ?_)
    exact zs_some ⟨trivial, pt_4⟩
-- fX9_money
theorem zc_412 {σ0 : sn_S} {σ : sn_S} (h_σ : zs_M σ0 σ) {x1 : Int32} : zs_ok (fX9_money σ x1) (fun r => (True ∧ zs_M σ0 r.2)) := by
  unfold fX9_money
  refine zs_bd_ (zc_95 h_σ) (fun t_1 pt_1 => ?_)
  refine zs_ite (fun c1 => ?_) (fun c1 => ?_)
  · skip
    have r2 := (zs_I_eq c1)
    have g3 : zs_in (t_1.1).toInt 0 0 := (zs_eql 0 0 r2 pt_1.1.1 zlI_0 (by decide))
    exact zs_some ⟨trivial, pt_1.1.2⟩
  · skip
    have r4 := (zs_I_eqn c1)
    have g5 : zs_in (t_1.1).toInt 1 1 := (zs_nel 1 1 r4 pt_1.1.1 zlI_0 (by decide))
    have q6 := (zs_or2 pt_1.2 g5 (by decide))
    have g7 : zs_in (x1).toInt 0 29 := q6
    refine zs_bd_ (zc_299 pt_1.1.2) (fun t_4 pt_4 => ?_)
    refine zs_bd_ (zc_308 pt_4 g7) (fun t_6 pt_6 => ?_)
    exact zs_some ⟨trivial, pt_4⟩
-- BX3_firstBelow_2
theorem zc_413 {σ0 : sn_S} {σ : sn_S} (h_σ : zs_C σ0 σ) {x1 : Int32} (h_x1 : zs_in x1.toInt 0 30) {x2 : Int32} (h_x2 : zs_in x2.toInt 0 30) {c : Int} (hc : x2.toInt = c + 0) : zs_ok (BX3_firstBelow_2 σ 49 x1 x2) (fun r => zs_sum (fun v => (zs_in (v).toInt 1 30) ∧ v.toInt = c + 1) (fun v => zs_sum (fun v => True) (fun v => zs_in (v).toInt 0 29) v) r) := by
  unfold BX3_firstBelow_2
  refine zs_ite (fun c1 => ?_) (fun c1 => ?_)
  · skip
    have r2 := (zs_I_le c1)
    exact zs_some (zs_inr ((zs_inl (trivial))))
  · skip
    have r3 := (zs_I_len c1)
    have g4 : zs_in (x2).toInt 0 29 := (zs_ltl 0 29 r3 h_x2 h_x1 (by decide))
    have g5 : zs_in (x1).toInt 1 30 := (zs_ltr 1 30 r3 h_x2 h_x1 (by decide))
    refine zs_bd_ (zc_270 h_σ g4) (fun t_2 pt_2 => ?_)
    refine zs_ite (fun c6 => ?_) (fun c6 => ?_)
    · skip
      have r7 := (zs_I_le c6)
      have g8 : zs_in (t_2).toInt 0 2147483647 := (zs_ler 0 2147483647 r7 zlI_0 (zs_topI _) (by decide))
      refine zs_lt (Q := fun z => zs_in z.toInt 1 30 ∧ z.toInt = c + 1) ⟨(zs_addI 1 30 g4 zlI_1 (by decide)), (zs_syI 1 hc g4 zlI_1 (by decide) (by decide))⟩ (fun y_5 hy_5 => ?_)
      exact zs_some (zs_inl ⟨hy_5.1, hy_5.2⟩)
    · skip
      have r9 := (zs_I_len c6)
      have g10 : zs_in (t_2).toInt (-2147483648) (-1) := (zs_ltl (-2147483648) (-1) r9 (zs_topI _) zlI_0 (by decide))
      exact zs_some (zs_inr ((zs_inr (g4))))
theorem zd_74 {σ0 : sn_S} {σ : sn_S} (h_σ : zs_C σ0 σ) {x1 : Int32} (h_x1 : zs_in x1.toInt 0 30) {s0 : Int32} (h0 : zs_in (s0).toInt 0 30) : zs_ok (sn_it (LX3_firstBelow_2 σ 49 x1) 5000 s0) (fun t => zs_sum (fun v => True) (fun v => zs_in (v).toInt 0 29) t) := by
  refine zs_it (I := fun s => zs_in (s).toInt 0 30) (m := fun s => 30 - s.toInt) (fun s hs => ?_) (fun s hs => ?_) (by exact h0)
  · have h1 := hs; unfold zs_in at h1
    omega
  · obtain ⟨b, eb, hb⟩ := zc_413 h_σ h_x1 hs (c := s.toInt) (Int.add_zero _).symm
    exact ⟨b, eb, zs_sumw hb (fun v w => ⟨(zs_w w.1 (by decide)), by have := w.2; omega⟩) (fun v w => w)⟩
-- BX3_firstBelow_23
theorem zc_414 {σ0 : sn_S} {σ : sn_S} (h_σ : zs_C σ0 σ) : zs_ok (BX3_firstBelow_23 σ 49) (fun r => zs_in (r).toInt (-1) (-1)) := by
  unfold BX3_firstBelow_23
  exact zs_some zlI_m1
-- fX3_firstBelow
theorem zc_415 {σ0 : sn_S} {σ : sn_S} (h_σ : zs_C σ0 σ) {x1 : Int32} (h_x1 : zs_in x1.toInt 0 30) : zs_ok (fX3_firstBelow σ 49 x1) (fun r => zs_in (r).toInt (-1) 29) := by
  unfold fX3_firstBelow
  refine zs_bd_ (zd_74 h_σ h_x1 (s0 := (0 : Int32)) (zs_w zlI_0 (by decide))) (fun t_1 pt_1 => ?_)
  refine zs_elim pt_1 (fun v_3 pv_3 => ?_) (fun r_4 pr_4 => ?_)
  · skip
    obtain ⟨ret, er, hr⟩ := zc_414 h_σ
    refine ⟨ret, er, ?_⟩
    exact (zs_w hr (by decide))
  · skip
    exact zs_some (zs_w pr_4 (by decide))
-- fX8_ruin
theorem zc_416 {σ0 : sn_S} {σ : sn_S} (h_σ : zs_C σ0 σ) : zs_ok (fX8_ruin σ) (fun r => (zs_in (r.1).toInt (-2) 29 ∧ zs_C σ0 r.2)) := by
  unfold fX8_ruin
  refine zs_bd_ (zc_102 h_σ) (fun t_1 pt_1 => ?_)
  refine zs_ite (fun c1 => ?_) (fun c1 => ?_)
  · skip
    have r2 := (zs_I_eq c1)
    have g3 : zs_in (t_1).toInt 0 0 := (zs_eql 0 0 r2 pt_1 zlI_0 (by decide))
    exact zs_some ⟨(zs_w zlI_m2 (by decide)), h_σ⟩
  · skip
    have r4 := (zs_I_eqn c1)
    have g5 : zs_in (t_1).toInt 1 1 := (zs_nel 1 1 r4 pt_1 zlI_0 (by decide))
    refine zs_bd_ (zc_237 h_σ) (fun t_4 pt_4 => ?_)
    refine zs_bd_ (zc_415 pt_4 (zs_rdk (q := 27) (k := 0) (z := (0, 30)) pt_4.1 rfl)) (fun t_6 pt_6 => ?_)
    exact zs_some ⟨(zs_w pt_6 (by decide)), pt_4⟩
-- BX9_ruinOf_6
theorem zc_417 {σ0 : sn_S} {σ : sn_S} (h_σ : zs_M σ0 σ) {x1 : Int32} (h_x1 : zs_in x1.toInt 0 30) {c : Int} (hc : x1.toInt = c + 0) : zs_ok (BX9_ruinOf_6 σ x1) (fun r => zs_sum (fun v => (zs_in (v).toInt 1 30) ∧ v.toInt = c + 1) (fun v => zs_sum (fun v => True) (fun v => (zs_in (v.1).toInt 0 29 ∧ zs_M σ0 v.2)) v) r) := by
  unfold BX9_ruinOf_6
  refine zs_ite (fun c1 => ?_) (fun c1 => ?_)
  · skip
    have r2 := (zs_I_lt c1)
    exact zs_some (zs_inr ((zs_inl (trivial))))
  · skip
    have r3 := (zs_I_ltn c1)
    have g4 : zs_in (x1).toInt 0 29 := (zs_lel 0 29 r3 h_x1 (zs_rdk (q := 0) (k := 22) (z := ((-1), 29)) h_σ.1 rfl) (by decide))
    have g5 : zs_in ((sn_I σ 0 22)).toInt 0 29 := (zs_ler 0 29 r3 h_x1 (zs_rdk (q := 0) (k := 22) (z := ((-1), 29)) h_σ.1 rfl) (by decide))
    refine zs_bd_ (zc_308 h_σ g4) (fun t_2 pt_2 => ?_)
    refine zs_ite (fun c6 => ?_) (fun c6 => ?_)
    · skip
      have r7 := (zs_I_le c6)
      have g8 : zs_in (t_2).toInt 0 2147483647 := (zs_ler 0 2147483647 r7 zlI_0 (zs_topI _) (by decide))
      refine zs_lt (Q := fun z => zs_in z.toInt 1 30 ∧ z.toInt = c + 1) ⟨(zs_addI 1 30 g4 zlI_1 (by decide)), (zs_syI 1 hc g4 zlI_1 (by decide) (by decide))⟩ (fun y_5 hy_5 => ?_)
      exact zs_some (zs_inl ⟨hy_5.1, hy_5.2⟩)
    · skip
      have r9 := (zs_I_len c6)
      have g10 : zs_in (t_2).toInt (-2147483648) (-1) := (zs_ltl (-2147483648) (-1) r9 (zs_topI _) zlI_0 (by decide))
      exact zs_some (zs_inr ((zs_inr (⟨g4, h_σ⟩))))
theorem zd_75 {σ0 : sn_S} {σ : sn_S} (h_σ : zs_M σ0 σ) {s0 : Int32} (h0 : zs_in (s0).toInt 0 30) : zs_ok (sn_it (LX9_ruinOf_6 σ) 5000 s0) (fun t => zs_sum (fun v => True) (fun v => (zs_in (v.1).toInt 0 29 ∧ zs_M σ0 v.2)) t) := by
  refine zs_it (I := fun s => zs_in (s).toInt 0 30) (m := fun s => 30 - s.toInt) (fun s hs => ?_) (fun s hs => ?_) (by exact h0)
  · have h1 := hs; unfold zs_in at h1
    omega
  · obtain ⟨b, eb, hb⟩ := zc_417 h_σ hs (c := s.toInt) (Int.add_zero _).symm
    exact ⟨b, eb, zs_sumw hb (fun v w => ⟨(zs_w w.1 (by decide)), by have := w.2; omega⟩) (fun v w => w)⟩
-- BX9_ruinOf_30
theorem zc_418 {σ0 : sn_S} {σ : sn_S} (h_σ : zs_M σ0 σ) : zs_ok (BX9_ruinOf_30 σ) (fun r => (zs_in (r.1).toInt (-1) (-1) ∧ zs_M σ0 r.2)) := by
  unfold BX9_ruinOf_30
  exact zs_some ⟨zlI_m1, h_σ⟩
-- fX9_ruinOf
theorem zc_419 {σ0 : sn_S} {σ : sn_S} (h_σ : zs_M σ0 σ) : zs_ok (fX9_ruinOf σ) (fun r => (zs_in (r.1).toInt (-1) 29 ∧ zs_M σ0 r.2)) := by
  unfold fX9_ruinOf
  refine zs_bd_ (zc_299 h_σ) (fun t_1 pt_1 => ?_)
  refine zs_bd_ (zd_75 pt_1 (s0 := (0 : Int32)) (zs_w zlI_0 (by decide))) (fun t_3 pt_3 => ?_)
  refine zs_elim pt_3 (fun v_5 pv_5 => ?_) (fun r_6 pr_6 => ?_)
  · skip
    obtain ⟨ret, er, hr⟩ := zc_418 pt_1
    refine ⟨ret, er, ?_⟩
    exact ⟨(zs_w hr.1 (by decide)), hr.2⟩
  · skip
    exact zs_some ⟨(zs_w pr_6.1 (by decide)), pr_6.2⟩
-- fX9_ruin
theorem zc_420 {σ0 : sn_S} {σ : sn_S} (h_σ : zs_M σ0 σ) : zs_ok (fX9_ruin σ) (fun r => (zs_in (r.1).toInt (-2) 29 ∧ zs_M σ0 r.2)) := by
  unfold fX9_ruin
  refine zs_bd_ (zc_92 h_σ) (fun t_1 pt_1 => ?_)
  refine zs_ite (fun c1 => ?_) (fun c1 => ?_)
  · skip
    have r2 := (zs_I_eq c1)
    have g3 : zs_in (t_1.1).toInt 0 0 := (zs_eql 0 0 r2 pt_1.1 zlI_0 (by decide))
    exact zs_some ⟨(zs_w zlI_m2 (by decide)), pt_1.2⟩
  · skip
    have r4 := (zs_I_eqn c1)
    have g5 : zs_in (t_1.1).toInt 1 1 := (zs_nel 1 1 r4 pt_1.1 zlI_0 (by decide))
    refine zs_bd_ (zc_419 pt_1.2) (fun t_4 pt_4 => ?_)
    exact zs_some ⟨(zs_w pt_4.1 (by decide)), pt_4.2⟩
-- BX8_dear_63
theorem zc_421 {σ0 : sn_S} {σ : sn_S} (h_σ : zs_C σ0 σ) {x2 : Int32} (h_x2 : zs_in x2.toInt (-1) 5) {x3 : Int32} (h_x3 : zs_in x3.toInt 0 2147483647) {x4 : Int32} (h_x4 : zs_in x4.toInt 0 5) {c : Int} (hc : x4.toInt = c + 0) : zs_ok (BX8_dear_63 σ x2 x3 x4) (fun r => zs_sum (fun v => ((zs_in (v.1).toInt (-1) 5 ∧ (zs_in (v.2.1).toInt 0 2147483647 ∧ zs_in (v.2.2).toInt 1 6))) ∧ v.2.2.toInt = c + 1) (fun v => False) r) := by
  unfold BX8_dear_63
  refine zs_lt (Q := fun z => zs_in z.toInt 1 6 ∧ z.toInt = c + 1) ⟨(zs_addI 1 6 h_x4 zlI_1 (by decide)), (zs_syI 1 hc h_x4 zlI_1 (by decide) (by decide))⟩ (fun y_1 hy_1 => ?_)
  exact zs_some (zs_inl ⟨⟨h_x2, ⟨h_x3, hy_1.1⟩⟩, hy_1.2⟩)
-- BX8_dear_63
theorem zc_422 {σ0 : sn_S} {σ : sn_S} (h_σ : zs_C σ0 σ) {x2 : Int32} (h_x2 : zs_in x2.toInt 0 5) {x3 : Int32} (h_x3 : zs_in x3.toInt 1 2147483647) {x4 : Int32} (h_x4 : zs_in x4.toInt 0 5) {c : Int} (hc : x4.toInt = c + 0) : zs_ok (BX8_dear_63 σ x2 x3 x4) (fun r => zs_sum (fun v => ((zs_in (v.1).toInt 0 5 ∧ (zs_in (v.2.1).toInt 1 2147483647 ∧ zs_in (v.2.2).toInt 1 6))) ∧ v.2.2.toInt = c + 1) (fun v => False) r) := by
  unfold BX8_dear_63
  refine zs_lt (Q := fun z => zs_in z.toInt 1 6 ∧ z.toInt = c + 1) ⟨(zs_addI 1 6 h_x4 zlI_1 (by decide)), (zs_syI 1 hc h_x4 zlI_1 (by decide) (by decide))⟩ (fun y_1 hy_1 => ?_)
  exact zs_some (zs_inl ⟨⟨h_x2, ⟨h_x3, hy_1.1⟩⟩, hy_1.2⟩)
-- BX8_dear_22
theorem zc_423 {σ0 : sn_S} {σ : sn_S} (h_σ : zs_C σ0 σ) {x2 : Int32} (h_x2 : zs_in x2.toInt (-1) 5) {x3 : Int32} (h_x3 : zs_in x3.toInt 0 2147483647) {x4 : Int32} (h_x4 : zs_in x4.toInt 0 6) {c : Int} (hc : x4.toInt = c + 0) : zs_ok (BX8_dear_22 σ x2 x3 x4) (fun r => zs_sum (fun v => ((zs_in (v.1).toInt (-1) 5 ∧ (zs_in (v.2.1).toInt 0 2147483647 ∧ zs_in (v.2.2).toInt 1 6))) ∧ v.2.2.toInt = c + 1) (fun v => zs_in (v).toInt (-1) 5) r) := by
  unfold BX8_dear_22
  refine zs_ite (fun c1 => ?_) (fun c1 => ?_)
  · skip
    have r2 := (zs_I_le c1)
    exact zs_some (zs_inr (h_x2))
  · skip
    have r3 := (zs_I_len c1)
    have g4 : zs_in (x4).toInt 0 5 := (zs_ltl 0 5 r3 h_x4 (zs_rdk (q := 49) (k := 2) (z := (0, 6)) h_σ.1 rfl) (by decide))
    have g5 : zs_in ((sn_I σ 49 2)).toInt 1 6 := (zs_ltr 1 6 r3 h_x4 (zs_rdk (q := 49) (k := 2) (z := (0, 6)) h_σ.1 rfl) (by decide))
    refine zs_gd (zs_gin g4 (by decide)) ?_
    refine zs_bd_ (zc_229 h_σ g4 zlI_4) (fun t_3 pt_3 => ?_)
    refine zs_lt (Q := fun z => True) trivial (fun y_5 hy_5 => ?_)
    refine zs_ite (fun c6 => ?_) (fun c6 => ?_)
    · skip
      have r7 := (zs_I_le c6)
      obtain ⟨ret, er, hr⟩ := zc_421 h_σ h_x2 h_x3 g4 hc
      refine ⟨ret, er, ?_⟩
      exact (zs_sumw hr (fun v w => ⟨w.1, w.2⟩) (fun v w => w.elim))
    · skip
      have r8 := (zs_I_len c6)
      have g9 : zs_in (x3).toInt 0 2147483646 := (zs_ltl 0 2147483646 r8 h_x3 (zs_topI _) (by decide))
      have g10 : zs_in (y_5).toInt 1 2147483647 := (zs_ltr 1 2147483647 r8 h_x3 (zs_topI _) (by decide))
      obtain ⟨ret, er, hr⟩ := zc_422 h_σ g4 g10 g4 hc
      refine ⟨ret, er, ?_⟩
      exact (zs_sumw hr (fun v w => ⟨⟨(zs_w w.1.1 (by decide)), ⟨(zs_w w.1.2.1 (by decide)), w.1.2.2⟩⟩, w.2⟩) (fun v w => w.elim))
