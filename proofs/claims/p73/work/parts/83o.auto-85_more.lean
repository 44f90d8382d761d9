section
-- BX4_reckon_62
theorem zc_1340 {σ0 : sn_S} {σ : sn_S} (h_σ : zs_C σ0 σ) {x3 : Int32} (h_x3 : zs_in x3.toInt 2 2) {x4 : Int32} (h_x4 : zs_in x4.toInt (-1) (-1)) {x6 : Int32} (h_x6 : zs_in x6.toInt 4 4) {x7 : Int32} (h_x7 : zs_in x7.toInt 0 0) {t0 : Int32} (h_t0 : zs_in t0.toInt 0 0) {c : Int} (hc : x7.toInt = c + 0) : zs_ok (BX4_reckon_62 σ 1 27 x3 x4 x6 x7 t0) (fun r => zs_sum (fun v => ((zs_C σ0 v.1 ∧ zs_in (v.2).toInt 1 1)) ∧ v.2.toInt = c + 1) (fun v => False) r) := by
  unfold BX4_reckon_62
  obtain rfl : x3 = (2 : Int32) := zs_eqv h_x3 (by decide)
  obtain rfl : x4 = (-1 : Int32) := zs_eqv h_x4 (by decide)
  obtain rfl : x6 = (4 : Int32) := zs_eqv h_x6 (by decide)
  obtain rfl : t0 = (0 : Int32) := zs_eqv h_t0 (by decide)
  refine zs_bd_ (zd_255 h_x3 h_x4 h_x6 h_x7 h_t0 (s0 := (σ, (0 : Int32))) ⟨h_σ, (zs_w h_t0 (by decide))⟩) (fun t_1 pt_1 => ?_)
  obtain ⟨ret, er, hr⟩ := zc_1339 pt_1 h_x3 h_x4 h_x6 h_x7 h_t0 hc
  refine ⟨ret, er, ?_⟩
  exact (zs_sumw hr (fun v w => ⟨w.1, w.2⟩) (fun v w => w.elim))
-- BX4_reckon_111
theorem zc_1341 {σ0 : sn_S} {σ : sn_S} (h_σ : zs_C σ0 σ) {x3 : Int32} (h_x3 : zs_in x3.toInt 2 2) {x4 : Int32} (h_x4 : zs_in x4.toInt (-1) (-1)) {x6 : Int32} (h_x6 : zs_in x6.toInt 4 4) {x7 : Int32} (h_x7 : zs_in x7.toInt 1 15) {x8 : Int32} (h_x8 : zs_in x8.toInt 0 3) {x9 : Int32} (h_x9 : zs_in x9.toInt 0 3) {t1 : Int32} (h_t1 : zs_in t1.toInt 0 3) {t2 : Int32} {t3 : Int32} (h_t3 : zs_in t3.toInt 0 0) {c : Int} (hc : x9.toInt = c + 0) : zs_ok (BX4_reckon_111 σ 1 27 x3 x4 x6 x7 x8 x9 t1 t2 t3) (fun r => zs_sum (fun v => ((zs_C σ0 v.1 ∧ zs_in (v.2).toInt 1 4)) ∧ v.2.toInt = c + 1) (fun v => False) r) := by
  unfold BX4_reckon_111
  obtain rfl : x3 = (2 : Int32) := zs_eqv h_x3 (by decide)
  obtain rfl : x4 = (-1 : Int32) := zs_eqv h_x4 (by decide)
  obtain rfl : x6 = (4 : Int32) := zs_eqv h_x6 (by decide)
  obtain rfl : t3 = (0 : Int32) := zs_eqv h_t3 (by decide)
  refine zs_gd (zs_gin h_t1 (by decide)) ?_
  refine zs_lt (Q := fun z => zs_C σ0 z) (zs_wrt h_σ (fun _ => rfl) (fun _ => rfl)) (fun σ_2 hσ_2 => ?_)
  refine zs_lt (Q := fun z => zs_in z.toInt 1 4 ∧ z.toInt = c + 1) ⟨(zs_addI 1 4 h_x9 zlI_1 (by decide)), (zs_syI 1 hc h_x9 zlI_1 (by decide) (by decide))⟩ (fun y_4 hy_4 => ?_)
  exact zs_some (zs_inl ⟨⟨hσ_2, hy_4.1⟩, hy_4.2⟩)
-- BX4_reckon_111
theorem zc_1342 {σ0 : sn_S} {σ : sn_S} (h_σ : zs_C σ0 σ) {x3 : Int32} (h_x3 : zs_in x3.toInt 2 2) {x4 : Int32} (h_x4 : zs_in x4.toInt (-1) (-1)) {x6 : Int32} (h_x6 : zs_in x6.toInt 4 4) {x7 : Int32} (h_x7 : zs_in x7.toInt 1 15) {x8 : Int32} (h_x8 : zs_in x8.toInt 0 3) {x9 : Int32} (h_x9 : zs_in x9.toInt 0 3) {t1 : Int32} (h_t1 : zs_in t1.toInt 0 3) {t2 : Int32} {t3 : Int32} (h_t3 : zs_in t3.toInt 3 3) {c : Int} (hc : x9.toInt = c + 0) : zs_ok (BX4_reckon_111 σ 1 27 x3 x4 x6 x7 x8 x9 t1 t2 t3) (fun r => zs_sum (fun v => ((zs_C σ0 v.1 ∧ zs_in (v.2).toInt 1 4)) ∧ v.2.toInt = c + 1) (fun v => False) r) := by
  unfold BX4_reckon_111
  obtain rfl : x3 = (2 : Int32) := zs_eqv h_x3 (by decide)
  obtain rfl : x4 = (-1 : Int32) := zs_eqv h_x4 (by decide)
  obtain rfl : x6 = (4 : Int32) := zs_eqv h_x6 (by decide)
  obtain rfl : t3 = (3 : Int32) := zs_eqv h_t3 (by decide)
  refine zs_gd (zs_gin h_t1 (by decide)) ?_
  refine zs_lt (Q := fun z => zs_C σ0 z) (zs_wrt h_σ (fun _ => rfl) (fun _ => rfl)) (fun σ_2 hσ_2 => ?_)
  refine zs_lt (Q := fun z => zs_in z.toInt 1 4 ∧ z.toInt = c + 1) ⟨(zs_addI 1 4 h_x9 zlI_1 (by decide)), (zs_syI 1 hc h_x9 zlI_1 (by decide) (by decide))⟩ (fun y_4 hy_4 => ?_)
  exact zs_some (zs_inl ⟨⟨hσ_2, hy_4.1⟩, hy_4.2⟩)
-- BX4_reckon_68
theorem zc_1343 {σ0 : sn_S} {σ : sn_S} (h_σ : zs_C σ0 σ) {x3 : Int32} (h_x3 : zs_in x3.toInt 2 2) {x4 : Int32} (h_x4 : zs_in x4.toInt (-1) (-1)) {x6 : Int32} (h_x6 : zs_in x6.toInt 4 4) {x7 : Int32} (h_x7 : zs_in x7.toInt 1 15) {x8 : Int32} (h_x8 : zs_in x8.toInt 0 3) {x9 : Int32} (h_x9 : zs_in x9.toInt 0 4) {c : Int} (hc : x9.toInt = c + 0) : zs_ok (BX4_reckon_68 σ 1 27 x3 x4 x6 x7 x8 x9) (fun r => zs_sum (fun v => ((zs_C σ0 v.1 ∧ zs_in (v.2).toInt 1 4)) ∧ v.2.toInt = c + 1) (fun v => zs_C σ0 v) r) := by
  unfold BX4_reckon_68
  obtain rfl : x3 = (2 : Int32) := zs_eqv h_x3 (by decide)
  obtain rfl : x4 = (-1 : Int32) := zs_eqv h_x4 (by decide)
  obtain rfl : x6 = (4 : Int32) := zs_eqv h_x6 (by decide)
  refine zs_ite (fun c1 => ?_) (fun c1 => ?_)
  · skip
    have r2 := (zs_I_le c1)
    have g3 : zs_in (x9).toInt 4 4 := (zs_ler 4 4 r2 h_x6 h_x9 (by decide))
    exact zs_some (zs_inr (h_σ))
  · skip
    have r4 := (zs_I_len c1)
    have g5 : zs_in (x9).toInt 0 3 := (zs_ltl 0 3 r4 h_x9 h_x6 (by decide))
    refine zs_gd (zs_gin g5 (by decide)) ?_
    refine zs_bd_ (zc_873 h_x7 (zs_subI 0 3 (zs_subI 3 3 h_x6 zlI_1 (by decide)) g5 (by decide))) (fun t_3 pt_3 => ?_)
    refine zs_ite (fun c6 => ?_) (fun c6 => ?_)
    · skip
      have r7 := (zs_I_eq c6)
      have g8 : zs_in (t_3).toInt 0 0 := (zs_eql 0 0 r7 pt_3 zlI_0 (by decide))
      obtain ⟨ret, er, hr⟩ := zc_1341 h_σ h_x3 h_x4 h_x6 h_x7 h_x8 g5 g5 zlI_0 hc
      refine ⟨ret, er, ?_⟩
      exact (zs_sumw hr (fun v w => ⟨w.1, w.2⟩) (fun v w => w.elim))
    · skip
      have r9 := (zs_I_eqn c6)
      have g10 : zs_in (t_3).toInt 1 1 := (zs_nel 1 1 r9 pt_3 zlI_0 (by decide))
      obtain ⟨ret, er, hr⟩ := zc_1342 h_σ h_x3 h_x4 h_x6 h_x7 h_x8 g5 g5 zlI_3 hc
      refine ⟨ret, er, ?_⟩
      exact (zs_sumw hr (fun v w => ⟨w.1, w.2⟩) (fun v w => w.elim))
theorem zd_258 {σ0 : sn_S} {x3 : Int32} (h_x3 : zs_in x3.toInt 2 2) {x4 : Int32} (h_x4 : zs_in x4.toInt (-1) (-1)) {x6 : Int32} (h_x6 : zs_in x6.toInt 4 4) {x7 : Int32} (h_x7 : zs_in x7.toInt 1 15) {x8 : Int32} (h_x8 : zs_in x8.toInt 0 3) {s0 : (sn_S × Int32)} (h0 : (zs_C σ0 s0.1 ∧ zs_in (s0.2).toInt 0 4)) : zs_ok (sn_it (LX4_reckon_68 1 27 x3 x4 x6 x7 x8) 5000 s0) (fun t => zs_C σ0 t) := by
  refine zs_it (I := fun s => (zs_C σ0 s.1 ∧ zs_in (s.2).toInt 0 4)) (m := fun s => 4 - s.2.toInt) (fun s hs => ?_) (fun s hs => ?_) (by exact h0)
  · have h1 := hs.2; unfold zs_in at h1
    omega
  · obtain ⟨b, eb, hb⟩ := zc_1343 hs.1 h_x3 h_x4 h_x6 h_x7 h_x8 hs.2 (c := s.2.toInt) (Int.add_zero _).symm
    exact ⟨b, eb, zs_sumw hb (fun v w => ⟨⟨w.1.1, (zs_w w.1.2 (by decide))⟩, by have := w.2; omega⟩) (fun v w => w)⟩
-- BX0_live_2
theorem zc_1344 {σ0 : sn_S} {σ : sn_S} (h_σ : zs_C σ0 σ) {x1 : Int32} (h_x1 : zs_in x1.toInt 0 3) {x2 : Int32} (h_x2 : zs_in x2.toInt 0 30) {x3 : Int32} (h_x3 : zs_in x3.toInt 0 6) {c : Int} (hc : x3.toInt = c + 0) : zs_ok (BX0_live_2 σ 59 x1 x2 x3) (fun r => zs_sum (fun v => ((zs_C σ0 v.1 ∧ zs_in (v.2).toInt 1 6)) ∧ v.2.toInt = c + 1) (fun v => zs_C σ0 v) r) := by
  unfold BX0_live_2
  refine zs_ite (fun c1 => ?_) (fun c1 => ?_)
  · skip
    have r2 := (zs_I_le c1)
    exact zs_some (zs_inr (h_σ))
  · skip
    have r3 := (zs_I_len c1)
    have g4 : zs_in (x3).toInt 0 5 := (zs_ltl 0 5 r3 h_x3 (zs_rdk (q := 59) (k := 1) (z := (0, 6)) h_σ.1 rfl) (by decide))
    have g5 : zs_in ((sn_I σ 59 1)).toInt 1 6 := (zs_ltr 1 6 r3 h_x3 (zs_rdk (q := 59) (k := 1) (z := (0, 6)) h_σ.1 rfl) (by decide))
    refine zs_gd (zs_gin g4 (by decide)) ?_
    refine zs_bd_ (zc_877 h_x1) (fun t_3 pt_3 => ?_)
    refine zs_gd (zs_gin g4 (by decide)) ?_
    refine zs_lt (Q := fun z => zs_C σ0 z) (zs_wru (z := (0, 1073741823)) h_σ (fun _ => rfl) (zs_and pt_3 (by decide)) (by decide) (fun _ => rfl)) (fun σ_6 hσ_6 => ?_)
    refine zs_lt (Q := fun z => zs_in z.toInt 1 6 ∧ z.toInt = c + 1) ⟨(zs_addI 1 6 g4 zlI_1 (by decide)), (zs_syI 1 hc g4 zlI_1 (by decide) (by decide))⟩ (fun y_8 hy_8 => ?_)
    exact zs_some (zs_inl ⟨⟨hσ_6, hy_8.1⟩, hy_8.2⟩)
theorem zd_259 {σ0 : sn_S} {x1 : Int32} (h_x1 : zs_in x1.toInt 0 3) {x2 : Int32} (h_x2 : zs_in x2.toInt 0 30) {s0 : (sn_S × Int32)} (h0 : (zs_C σ0 s0.1 ∧ zs_in (s0.2).toInt 0 6)) : zs_ok (sn_it (LX0_live_2 59 x1 x2) 5000 s0) (fun t => zs_C σ0 t) := by
  refine zs_it (I := fun s => (zs_C σ0 s.1 ∧ zs_in (s.2).toInt 0 6)) (m := fun s => 6 - s.2.toInt) (fun s hs => ?_) (fun s hs => ?_) (by exact h0)
  · have h1 := hs.2; unfold zs_in at h1
    omega
  · obtain ⟨b, eb, hb⟩ := zc_1344 hs.1 h_x1 h_x2 hs.2 (c := s.2.toInt) (Int.add_zero _).symm
    exact ⟨b, eb, zs_sumw hb (fun v w => ⟨⟨w.1.1, (zs_w w.1.2 (by decide))⟩, by have := w.2; omega⟩) (fun v w => w)⟩
-- BX0_live_29
theorem zc_1345 {σ0 : sn_S} {σ : sn_S} (h_σ : zs_C σ0 σ) {x1 : Int32} (h_x1 : zs_in x1.toInt 0 3) {x2 : Int32} (h_x2 : zs_in x2.toInt 0 30) : zs_ok (BX0_live_29 σ 59 x1 x2) (fun r => zs_C σ0 r) := by
  unfold BX0_live_29
  refine zs_bd_ (zd_238 h_x2 (s0 := (σ, x1)) ⟨h_σ, (zs_w h_x1 (by decide))⟩) (fun t_1 pt_1 => ?_)
  obtain ⟨ret, er, hr⟩ := zc_697 pt_1
  refine ⟨ret, er, ?_⟩
  exact hr
-- fX0_live
theorem zc_1346 {σ0 : sn_S} {σ : sn_S} (h_σ : zs_C σ0 σ) {x1 : Int32} (h_x1 : zs_in x1.toInt 0 3) {x2 : Int32} (h_x2 : zs_in x2.toInt 0 30) : zs_ok (fX0_live σ 59 x1 x2) (fun r => zs_C σ0 r) := by
  unfold fX0_live
  refine zs_bd_ (zd_259 h_x1 h_x2 (s0 := (σ, (0 : Int32))) ⟨h_σ, (zs_w zlI_0 (by decide))⟩) (fun t_1 pt_1 => ?_)
  obtain ⟨ret, er, hr⟩ := zc_1345 pt_1 h_x1 h_x2
  refine ⟨ret, er, ?_⟩
  exact hr
-- BX4_reckon_139
theorem zc_1347 {σ0 : sn_S} {σ : sn_S} (h_σ : zs_C σ0 σ) {x3 : Int32} (h_x3 : zs_in x3.toInt 2 2) {x4 : Int32} (h_x4 : zs_in x4.toInt (-1) (-1)) {x6 : Int32} (h_x6 : zs_in x6.toInt 4 4) {x7 : Int32} (h_x7 : zs_in x7.toInt 1 15) {t1 : Int32} (h_t1 : zs_in t1.toInt 0 3) {t2 : Int32} (h_t2 : zs_in t2.toInt 0 30) {c : Int} (hc : x7.toInt = c + 0) : zs_ok (BX4_reckon_139 σ 1 27 x3 x4 x6 x7 t1 t2) (fun r => zs_sum (fun v => ((zs_C σ0 v.1 ∧ zs_in (v.2).toInt 2 16)) ∧ v.2.toInt = c + 1) (fun v => False) r) := by
  unfold BX4_reckon_139
  obtain rfl : x3 = (2 : Int32) := zs_eqv h_x3 (by decide)
  obtain rfl : x4 = (-1 : Int32) := zs_eqv h_x4 (by decide)
  obtain rfl : x6 = (4 : Int32) := zs_eqv h_x6 (by decide)
  refine zs_bd_ (zc_1346 h_σ h_t1 h_t2) (fun t_1 pt_1 => ?_)
  refine zs_bd_ (zo_bc 4 4 (by decide) h_x7) (fun t_3 pt_3 => ?_)
  refine zs_gd (zs_gin pt_3 (by decide)) ?_
  refine zs_bd_ (zc_1337 pt_1 h_x3 h_x4 h_x6) (fun t_6 pt_6 => ?_)
  refine zs_lt (Q := fun z => zs_C σ0 z) (zs_wrL pt_6.2 rfl) (fun σ_8 hσ_8 => ?_)
  refine zs_lt (Q := fun z => zs_in z.toInt 2 16 ∧ z.toInt = c + 1) ⟨(zs_addI 2 16 h_x7 zlI_1 (by decide)), (zs_syI 1 hc h_x7 zlI_1 (by decide) (by decide))⟩ (fun y_10 hy_10 => ?_)
  exact zs_some (zs_inl ⟨⟨hσ_8, hy_10.1⟩, hy_10.2⟩)
-- BX4_reckon_119
theorem zc_1348 {σ0 : sn_S} {σ : sn_S} (h_σ : zs_C σ0 σ) {x3 : Int32} (h_x3 : zs_in x3.toInt 2 2) {x4 : Int32} (h_x4 : zs_in x4.toInt (-1) (-1)) {x6 : Int32} (h_x6 : zs_in x6.toInt 4 4) {x7 : Int32} (h_x7 : zs_in x7.toInt 1 15) {x8 : Int32} (h_x8 : zs_in x8.toInt 0 3) {c : Int} (hc : x7.toInt = c + 0) : zs_ok (BX4_reckon_119 σ 1 27 x3 x4 x6 x7 x8) (fun r => zs_sum (fun v => ((zs_C σ0 v.1 ∧ zs_in (v.2).toInt 2 16)) ∧ v.2.toInt = c + 1) (fun v => False) r) := by
  unfold BX4_reckon_119
  obtain rfl : x3 = (2 : Int32) := zs_eqv h_x3 (by decide)
  obtain rfl : x4 = (-1 : Int32) := zs_eqv h_x4 (by decide)
  obtain rfl : x6 = (4 : Int32) := zs_eqv h_x6 (by decide)
  refine zs_ite (fun c1 => ?_) (fun c1 => ?_)
  · skip
    have r2 := (zs_I_eq c1)
    obtain ⟨ret, er, hr⟩ := zc_1347 h_σ h_x3 h_x4 h_x6 h_x7 h_x8 (zs_rdk (q := 27) (k := 0) (z := (0, 30)) h_σ.1 rfl) hc
    refine ⟨ret, er, ?_⟩
    exact (zs_sumw hr (fun v w => ⟨w.1, w.2⟩) (fun v w => w.elim))
  · skip
    have r3 := (zs_I_eqn c1)
    exact (zs_botne r3 h_x3 zlI_2 (by decide)).elim
-- BX4_reckon_62
theorem zc_1349 {σ0 : sn_S} {σ : sn_S} (h_σ : zs_C σ0 σ) {x3 : Int32} (h_x3 : zs_in x3.toInt 2 2) {x4 : Int32} (h_x4 : zs_in x4.toInt (-1) (-1)) {x6 : Int32} (h_x6 : zs_in x6.toInt 4 4) {x7 : Int32} (h_x7 : zs_in x7.toInt 1 15) {t0 : Int32} (h_t0 : zs_in t0.toInt 0 3) {c : Int} (hc : x7.toInt = c + 0) : zs_ok (BX4_reckon_62 σ 1 27 x3 x4 x6 x7 t0) (fun r => zs_sum (fun v => ((zs_C σ0 v.1 ∧ zs_in (v.2).toInt 2 16)) ∧ v.2.toInt = c + 1) (fun v => False) r) := by
  unfold BX4_reckon_62
  obtain rfl : x3 = (2 : Int32) := zs_eqv h_x3 (by decide)
  obtain rfl : x4 = (-1 : Int32) := zs_eqv h_x4 (by decide)
  obtain rfl : x6 = (4 : Int32) := zs_eqv h_x6 (by decide)
  refine zs_bd_ (zd_258 h_x3 h_x4 h_x6 h_x7 h_t0 (s0 := (σ, t0)) ⟨h_σ, (zs_w h_t0 (by decide))⟩) (fun t_1 pt_1 => ?_)
  obtain ⟨ret, er, hr⟩ := zc_1348 pt_1 h_x3 h_x4 h_x6 h_x7 h_t0 hc
  refine ⟨ret, er, ?_⟩
  exact (zs_sumw hr (fun v w => ⟨w.1, w.2⟩) (fun v w => w.elim))
-- BX4_reckon_34
theorem zc_1350 {σ0 : sn_S} {σ : sn_S} (h_σ : zs_C σ0 σ) {x3 : Int32} (h_x3 : zs_in x3.toInt 2 2) {x4 : Int32} (h_x4 : zs_in x4.toInt (-1) (-1)) {x6 : Int32} (h_x6 : zs_in x6.toInt 4 4) {x7 : Int32} (h_x7 : zs_in x7.toInt 0 16) {c : Int} (hc : x7.toInt = c + 0) : zs_ok (BX4_reckon_34 σ 1 27 x3 x4 x6 x7) (fun r => zs_sum (fun v => ((zs_C σ0 v.1 ∧ zs_in (v.2).toInt 1 16)) ∧ v.2.toInt = c + 1) (fun v => zs_C σ0 v) r) := by
  unfold BX4_reckon_34
  obtain rfl : x3 = (2 : Int32) := zs_eqv h_x3 (by decide)
  obtain rfl : x4 = (-1 : Int32) := zs_eqv h_x4 (by decide)
  obtain rfl : x6 = (4 : Int32) := zs_eqv h_x6 (by decide)
  refine zs_ite (fun c1 => ?_) (fun c1 => ?_)
  · skip
    have r2 := (zs_I_le c1)
    have g3 : zs_in (x7).toInt 16 16 := (zs_ler 16 16 r2 (zs_cases h_x6 (fun z => zs_in ((1 : Int32) <<< (z &&& 31)).toInt 16 16) (by decide +kernel)) h_x7 (by decide))
    exact zs_some (zs_inr (h_σ))
  · skip
    have r4 := (zs_I_len c1)
    have g5 : zs_in (x7).toInt 0 15 := (zs_ltl 0 15 r4 h_x7 (zs_cases h_x6 (fun z => zs_in ((1 : Int32) <<< (z &&& 31)).toInt 16 16) (by decide +kernel)) (by decide))
    refine zs_ite (fun c6 => ?_) (fun c6 => ?_)
    · skip
      have r7 := (zs_I_eq c6)
      have g8 : zs_in (x7).toInt 0 0 := (zs_eql 0 0 r7 g5 zlI_0 (by decide))
      obtain ⟨ret, er, hr⟩ := zc_1340 h_σ h_x3 h_x4 h_x6 g8 zlI_0 hc
      refine ⟨ret, er, ?_⟩
      exact (zs_sumw hr (fun v w => ⟨⟨w.1.1, (zs_w w.1.2 (by decide))⟩, w.2⟩) (fun v w => w.elim))
    · skip
      have r9 := (zs_I_eqn c6)
      have g10 : zs_in (x7).toInt 1 15 := (zs_nel 1 15 r9 g5 zlI_0 (by decide))
      refine zs_bd_ (zo_low1 4 3 (by decide) g10) (fun t_3 pt_3 => ?_)
      obtain ⟨ret, er, hr⟩ := zc_1349 h_σ h_x3 h_x4 h_x6 g10 (zs_subI 0 3 (zs_subI 3 3 h_x6 zlI_1 (by decide)) pt_3 (by decide)) hc
      refine ⟨ret, er, ?_⟩
      exact (zs_sumw hr (fun v w => ⟨⟨w.1.1, (zs_w w.1.2 (by decide))⟩, w.2⟩) (fun v w => w.elim))
theorem zd_260 {σ0 : sn_S} {x3 : Int32} (h_x3 : zs_in x3.toInt 2 2) {x4 : Int32} (h_x4 : zs_in x4.toInt (-1) (-1)) {x6 : Int32} (h_x6 : zs_in x6.toInt 4 4) {s0 : (sn_S × Int32)} (h0 : (zs_C σ0 s0.1 ∧ zs_in (s0.2).toInt 0 16)) : zs_ok (sn_it (LX4_reckon_34 1 27 x3 x4 x6) 5000 s0) (fun t => zs_C σ0 t) := by
  refine zs_it (I := fun s => (zs_C σ0 s.1 ∧ zs_in (s.2).toInt 0 16)) (m := fun s => 16 - s.2.toInt) (fun s hs => ?_) (fun s hs => ?_) (by exact h0)
  · have h1 := hs.2; unfold zs_in at h1
    omega
  · obtain ⟨b, eb, hb⟩ := zc_1350 hs.1 h_x3 h_x4 h_x6 hs.2 (c := s.2.toInt) (Int.add_zero _).symm
    exact ⟨b, eb, zs_sumw hb (fun v w => ⟨⟨w.1.1, (zs_w w.1.2 (by decide))⟩, by have := w.2; omega⟩) (fun v w => w)⟩
-- fX4_reckon
theorem zc_1351 {σ0 : sn_S} {σ : sn_S} (h_σ : zs_C σ0 σ) {x3 : Int32} (h_x3 : zs_in x3.toInt 2 2) {x4 : Int32} (h_x4 : zs_in x4.toInt (-1) (-1)) {x5 : Int32} (h_x5 : zs_in x5.toInt 3 3) : zs_ok (fX4_reckon σ 1 27 x3 x4 x5) (fun r => zs_C σ0 r) := by
  unfold fX4_reckon
  obtain rfl : x3 = (2 : Int32) := zs_eqv h_x3 (by decide)
  obtain rfl : x4 = (-1 : Int32) := zs_eqv h_x4 (by decide)
  obtain rfl : x5 = (3 : Int32) := zs_eqv h_x5 (by decide)
  refine zs_lt (Q := fun z => zs_in z.toInt 4 4) (zs_addI 4 4 h_x5 zlI_1 (by decide)) (fun y_1 hy_1 => ?_)
  refine zs_gd (zs_gin zlI_4 (by decide)) ?_
  refine zs_bd_ (zc_837 h_σ hy_1 (zs_rdk (q := 2) (k := (4 : Int32).toNatClampNeg) (z := (0, 10)) h_σ.1 rfl)) (fun t_4 pt_4 => ?_)
  refine zs_bd_ (zo_dcopy pt_4) (fun t_6 pt_6 => ?_)
  refine zs_lt (Q := fun z => zs_C σ0 z) (zs_wrL pt_6 rfl) (fun σ_8 hσ_8 => ?_)
  refine zs_bd_ (zd_260 h_x3 h_x4 hy_1 (s0 := (σ_8, (0 : Int32))) ⟨hσ_8, (zs_w zlI_0 (by decide))⟩) (fun t_10 pt_10 => ?_)
  obtain ⟨ret, er, hr⟩ := zc_886 pt_10 hy_1
  refine ⟨ret, er, ?_⟩
  exact hr
-- BX4_reckon_111
theorem zc_1352 {σ0 : sn_S} {σ : sn_S} (h_σ : zs_C σ0 σ) {x3 : Int32} (h_x3 : zs_in x3.toInt 2 2) {x4 : Int32} (h_x4 : zs_in x4.toInt (-1) (-1)) {x6 : Int32} (h_x6 : zs_in x6.toInt 5 5) {x7 : Int32} (h_x7 : zs_in x7.toInt 0 0) {x8 : Int32} (h_x8 : zs_in x8.toInt 0 0) {x9 : Int32} (h_x9 : zs_in x9.toInt 0 4) {t1 : Int32} (h_t1 : zs_in t1.toInt 0 4) {t2 : Int32} {t3 : Int32} (h_t3 : zs_in t3.toInt 0 0) {c : Int} (hc : x9.toInt = c + 0) : zs_ok (BX4_reckon_111 σ 1 27 x3 x4 x6 x7 x8 x9 t1 t2 t3) (fun r => zs_sum (fun v => ((zs_C σ0 v.1 ∧ zs_in (v.2).toInt 1 5)) ∧ v.2.toInt = c + 1) (fun v => False) r) := by
  unfold BX4_reckon_111
  obtain rfl : x3 = (2 : Int32) := zs_eqv h_x3 (by decide)
  obtain rfl : x4 = (-1 : Int32) := zs_eqv h_x4 (by decide)
  obtain rfl : x6 = (5 : Int32) := zs_eqv h_x6 (by decide)
  obtain rfl : x7 = (0 : Int32) := zs_eqv h_x7 (by decide)
  obtain rfl : x8 = (0 : Int32) := zs_eqv h_x8 (by decide)
  obtain rfl : t3 = (0 : Int32) := zs_eqv h_t3 (by decide)
  refine zs_gd (zs_gin h_t1 (by decide)) ?_
  refine zs_lt (Q := fun z => zs_C σ0 z) (zs_wrt h_σ (fun _ => rfl) (fun _ => rfl)) (fun σ_2 hσ_2 => ?_)
  refine zs_lt (Q := fun z => zs_in z.toInt 1 5 ∧ z.toInt = c + 1) ⟨(zs_addI 1 5 h_x9 zlI_1 (by decide)), (zs_syI 1 hc h_x9 zlI_1 (by decide) (by decide))⟩ (fun y_4 hy_4 => ?_)
  exact zs_some (zs_inl ⟨⟨hσ_2, hy_4.1⟩, hy_4.2⟩)
-- BX4_reckon_111
theorem zc_1353 {σ0 : sn_S} {σ : sn_S} (h_σ : zs_C σ0 σ) {x3 : Int32} (h_x3 : zs_in x3.toInt 2 2) {x4 : Int32} (h_x4 : zs_in x4.toInt (-1) (-1)) {x6 : Int32} (h_x6 : zs_in x6.toInt 5 5) {x7 : Int32} (h_x7 : zs_in x7.toInt 0 0) {x8 : Int32} (h_x8 : zs_in x8.toInt 0 0) {x9 : Int32} (h_x9 : zs_in x9.toInt 0 4) {t1 : Int32} (h_t1 : zs_in t1.toInt 0 4) {t2 : Int32} {t3 : Int32} (h_t3 : zs_in t3.toInt 3 3) {c : Int} (hc : x9.toInt = c + 0) : zs_ok (BX4_reckon_111 σ 1 27 x3 x4 x6 x7 x8 x9 t1 t2 t3) (fun r => zs_sum (fun v => ((zs_C σ0 v.1 ∧ zs_in (v.2).toInt 1 5)) ∧ v.2.toInt = c + 1) (fun v => False) r) := by
  unfold BX4_reckon_111
  obtain rfl : x3 = (2 : Int32) := zs_eqv h_x3 (by decide)
  obtain rfl : x4 = (-1 : Int32) := zs_eqv h_x4 (by decide)
  obtain rfl : x6 = (5 : Int32) := zs_eqv h_x6 (by decide)
  obtain rfl : x7 = (0 : Int32) := zs_eqv h_x7 (by decide)
  obtain rfl : x8 = (0 : Int32) := zs_eqv h_x8 (by decide)
  obtain rfl : t3 = (3 : Int32) := zs_eqv h_t3 (by decide)
  refine zs_gd (zs_gin h_t1 (by decide)) ?_
  refine zs_lt (Q := fun z => zs_C σ0 z) (zs_wrt h_σ (fun _ => rfl) (fun _ => rfl)) (fun σ_2 hσ_2 => ?_)
  refine zs_lt (Q := fun z => zs_in z.toInt 1 5 ∧ z.toInt = c + 1) ⟨(zs_addI 1 5 h_x9 zlI_1 (by decide)), (zs_syI 1 hc h_x9 zlI_1 (by decide) (by decide))⟩ (fun y_4 hy_4 => ?_)
  exact zs_some (zs_inl ⟨⟨hσ_2, hy_4.1⟩, hy_4.2⟩)
-- BX4_reckon_68
theorem zc_1354 {σ0 : sn_S} {σ : sn_S} (h_σ : zs_C σ0 σ) {x3 : Int32} (h_x3 : zs_in x3.toInt 2 2) {x4 : Int32} (h_x4 : zs_in x4.toInt (-1) (-1)) {x6 : Int32} (h_x6 : zs_in x6.toInt 5 5) {x7 : Int32} (h_x7 : zs_in x7.toInt 0 0) {x8 : Int32} (h_x8 : zs_in x8.toInt 0 0) {x9 : Int32} (h_x9 : zs_in x9.toInt 0 5) {c : Int} (hc : x9.toInt = c + 0) : zs_ok (BX4_reckon_68 σ 1 27 x3 x4 x6 x7 x8 x9) (fun r => zs_sum (fun v => ((zs_C σ0 v.1 ∧ zs_in (v.2).toInt 1 5)) ∧ v.2.toInt = c + 1) (fun v => zs_C σ0 v) r) := by
  unfold BX4_reckon_68
  obtain rfl : x3 = (2 : Int32) := zs_eqv h_x3 (by decide)
  obtain rfl : x4 = (-1 : Int32) := zs_eqv h_x4 (by decide)
  obtain rfl : x6 = (5 : Int32) := zs_eqv h_x6 (by decide)
  obtain rfl : x7 = (0 : Int32) := zs_eqv h_x7 (by decide)
  obtain rfl : x8 = (0 : Int32) := zs_eqv h_x8 (by decide)
  refine zs_ite (fun c1 => ?_) (fun c1 => ?_)
  · skip
    have r2 := (zs_I_le c1)
    have g3 : zs_in (x9).toInt 5 5 := (zs_ler 5 5 r2 h_x6 h_x9 (by decide))
    exact zs_some (zs_inr (h_σ))
  · skip
    have r4 := (zs_I_len c1)
    have g5 : zs_in (x9).toInt 0 4 := (zs_ltl 0 4 r4 h_x9 h_x6 (by decide))
    refine zs_gd (zs_gin g5 (by decide)) ?_
    refine zs_bd_ (zc_894 h_x7 (zs_subI 0 4 (zs_subI 4 4 h_x6 zlI_1 (by decide)) g5 (by decide))) (fun t_3 pt_3 => ?_)
    refine zs_ite (fun c6 => ?_) (fun c6 => ?_)
    · skip
      have r7 := (zs_I_eq c6)
      have g8 : zs_in (t_3).toInt 0 0 := (zs_eql 0 0 r7 pt_3 zlI_0 (by decide))
      obtain ⟨ret, er, hr⟩ := zc_1352 h_σ h_x3 h_x4 h_x6 h_x7 h_x8 g5 g5 zlI_0 hc
      refine ⟨ret, er, ?_⟩
      exact (zs_sumw hr (fun v w => ⟨w.1, w.2⟩) (fun v w => w.elim))
    · skip
      have r9 := (zs_I_eqn c6)
      have g10 : zs_in (t_3).toInt 1 1 := (zs_nel 1 1 r9 pt_3 zlI_0 (by decide))
      obtain ⟨ret, er, hr⟩ := zc_1353 h_σ h_x3 h_x4 h_x6 h_x7 h_x8 g5 g5 zlI_3 hc
      refine ⟨ret, er, ?_⟩
      exact (zs_sumw hr (fun v w => ⟨w.1, w.2⟩) (fun v w => w.elim))
theorem zd_261 {σ0 : sn_S} {x3 : Int32} (h_x3 : zs_in x3.toInt 2 2) {x4 : Int32} (h_x4 : zs_in x4.toInt (-1) (-1)) {x6 : Int32} (h_x6 : zs_in x6.toInt 5 5) {x7 : Int32} (h_x7 : zs_in x7.toInt 0 0) {x8 : Int32} (h_x8 : zs_in x8.toInt 0 0) {s0 : (sn_S × Int32)} (h0 : (zs_C σ0 s0.1 ∧ zs_in (s0.2).toInt 0 5)) : zs_ok (sn_it (LX4_reckon_68 1 27 x3 x4 x6 x7 x8) 5000 s0) (fun t => zs_C σ0 t) := by
  refine zs_it (I := fun s => (zs_C σ0 s.1 ∧ zs_in (s.2).toInt 0 5)) (m := fun s => 5 - s.2.toInt) (fun s hs => ?_) (fun s hs => ?_) (by exact h0)
  · have h1 := hs.2; unfold zs_in at h1
    omega
  · obtain ⟨b, eb, hb⟩ := zc_1354 hs.1 h_x3 h_x4 h_x6 h_x7 h_x8 hs.2 (c := s.2.toInt) (Int.add_zero _).symm
    exact ⟨b, eb, zs_sumw hb (fun v w => ⟨⟨w.1.1, (zs_w w.1.2 (by decide))⟩, by have := w.2; omega⟩) (fun v w => w)⟩
-- BX3_moneyAt_44
theorem zc_1355 {σ0 : sn_S} {σ : sn_S} (h_σ : zs_C σ0 σ) {x1 : Int32} (h_x1 : zs_in x1.toInt 0 4) {x2 : Int32} {x3 : Int32} (h_x3 : zs_in x3.toInt 0 5) {c : Int} (hc : x3.toInt = c + 0) : zs_ok (BX3_moneyAt_44 σ 70 x1 x2 x3) (fun r => zs_sum (fun v => ((True ∧ zs_in (v.2).toInt 1 6)) ∧ v.2.toInt = c + 1) (fun v => False) r) := by
  unfold BX3_moneyAt_44
  refine zs_lt (Q := fun z => zs_in z.toInt 1 6 ∧ z.toInt = c + 1) ⟨(zs_addI 1 6 h_x3 zlI_1 (by decide)), (zs_syI 1 hc h_x3 zlI_1 (by decide) (by decide))⟩ (fun y_1 hy_1 => ?_)
  exact zs_some (zs_inl ⟨⟨trivial, hy_1.1⟩, hy_1.2⟩)
-- BX3_moneyAt_7
theorem zc_1356 {σ0 : sn_S} {σ : sn_S} (h_σ : zs_C σ0 σ) {x1 : Int32} (h_x1 : zs_in x1.toInt 0 4) {x2 : Int32} {x3 : Int32} (h_x3 : zs_in x3.toInt 0 6) {c : Int} (hc : x3.toInt = c + 0) : zs_ok (BX3_moneyAt_7 σ 70 x1 x2 x3) (fun r => zs_sum (fun v => ((True ∧ zs_in (v.2).toInt 1 6)) ∧ v.2.toInt = c + 1) (fun v => True) r) := by
  unfold BX3_moneyAt_7
  refine zs_ite (fun c1 => ?_) (fun c1 => ?_)
  · skip
    have r2 := (zs_I_le c1)
    exact zs_some (zs_inr (trivial))
  · skip
    have r3 := (zs_I_len c1)
    have g4 : zs_in (x3).toInt 0 5 := (zs_ltl 0 5 r3 h_x3 (zs_rdk (q := 70) (k := 2) (z := (0, 6)) h_σ.1 rfl) (by decide))
    have g5 : zs_in ((sn_I σ 70 2)).toInt 1 6 := (zs_ltr 1 6 r3 h_x3 (zs_rdk (q := 70) (k := 2) (z := (0, 6)) h_σ.1 rfl) (by decide))
    refine zs_gd (zs_gin g4 (by decide)) ?_
    refine zs_ite (fun c6 => ?_) (fun c6 => ?_)
    · skip
      have r7 := (zs_I_eq c6)
      have g8 : zs_in ((sn_I σ (70 + 2) x3.toNatClampNeg)).toInt (-1) (-1) := (zs_eql (-1) (-1) r7 (zs_rdu (q := 72) (z := ((-1), 63)) h_σ.1 (fun _ => rfl)) zlI_m1 (by decide))
      obtain ⟨ret, er, hr⟩ := zc_1355 h_σ h_x1 g4 hc
      refine ⟨ret, er, ?_⟩
      exact (zs_sumw hr (fun v w => ⟨w.1, w.2⟩) (fun v w => w.elim))
    · skip
      have r9 := (zs_I_eqn c6)
      have g10 : zs_in ((sn_I σ (70 + 2) x3.toNatClampNeg)).toInt 0 63 := (zs_nel 0 63 r9 (zs_rdu (q := 72) (z := ((-1), 63)) h_σ.1 (fun _ => rfl)) zlI_m1 (by decide))
      refine zs_gd (zs_gin g4 (by decide)) ?_
      refine zs_ite (fun c11 => ?_) (fun c11 => ?_)
      · skip
        have r12 := (zs_I_lt c11)
        have g13 : zs_in ((sn_I σ (70 + 2) x3.toNatClampNeg)).toInt 1 63 := (zs_ltr 1 63 r12 h_x1 g10 (by decide))
        obtain ⟨ret, er, hr⟩ := zc_1355 h_σ h_x1 g4 hc
        refine ⟨ret, er, ?_⟩
        exact (zs_sumw hr (fun v w => ⟨w.1, w.2⟩) (fun v w => w.elim))
      · skip
        have r14 := (zs_I_ltn c11)
        have g15 : zs_in ((sn_I σ (70 + 2) x3.toNatClampNeg)).toInt 0 4 := (zs_lel 0 4 r14 g10 h_x1 (by decide))
        refine zs_gd (zs_gin g4 (by decide)) ?_
        refine zs_lt (Q := fun z => True) trivial (fun y_7 hy_7 => ?_)
        obtain ⟨ret, er, hr⟩ := zc_1355 h_σ h_x1 g4 hc
        refine ⟨ret, er, ?_⟩
        exact (zs_sumw hr (fun v w => ⟨w.1, w.2⟩) (fun v w => w.elim))
theorem zd_262 {σ0 : sn_S} {σ : sn_S} (h_σ : zs_C σ0 σ) {x1 : Int32} (h_x1 : zs_in x1.toInt 0 4) {s0 : (Int32 × Int32)} (h0 : (True ∧ zs_in (s0.2).toInt 0 6)) : zs_ok (sn_it (LX3_moneyAt_7 σ 70 x1) 5000 s0) (fun t => True) := by
  refine zs_it (I := fun s => (True ∧ zs_in (s.2).toInt 0 6)) (m := fun s => 6 - s.2.toInt) (fun s hs => ?_) (fun s hs => ?_) (by exact h0)
  · have h1 := hs.2; unfold zs_in at h1
    omega
  · obtain ⟨b, eb, hb⟩ := zc_1356 h_σ h_x1 hs.2 (c := s.2.toInt) (Int.add_zero _).symm
    exact ⟨b, eb, zs_sumw hb (fun v w => ⟨⟨w.1.1, (zs_w w.1.2 (by decide))⟩, by have := w.2; omega⟩) (fun v w => w)⟩
-- fX3_moneyAt
theorem zc_1357 {σ0 : sn_S} {σ : sn_S} (h_σ : zs_C σ0 σ) {x1 : Int32} (h_x1 : zs_in x1.toInt 0 4) : zs_ok (fX3_moneyAt σ 70 x1) (fun r => True) := by
  unfold fX3_moneyAt
  refine zs_lt (Q := fun z => True) trivial (fun y_1 hy_1 => ?_)
  refine zs_bd_ (zd_262 h_σ h_x1 (s0 := (y_1, (0 : Int32))) ⟨trivial, (zs_w zlI_0 (by decide))⟩) (fun t_3 pt_3 => ?_)
  obtain ⟨ret, er, hr⟩ := zc_1266 h_σ
  refine ⟨ret, er, ?_⟩
  exact hr
-- BX3_firstBelow_2
theorem zc_1358 {σ0 : sn_S} {σ : sn_S} (h_σ : zs_C σ0 σ) {x1 : Int32} (h_x1 : zs_in x1.toInt 5 5) {x2 : Int32} (h_x2 : zs_in x2.toInt 0 5) {c : Int} (hc : x2.toInt = c + 0) : zs_ok (BX3_firstBelow_2 σ 70 x1 x2) (fun r => zs_sum (fun v => (zs_in (v).toInt 1 5) ∧ v.toInt = c + 1) (fun v => zs_sum (fun v => True) (fun v => zs_in (v).toInt 0 4) v) r) := by
  unfold BX3_firstBelow_2
  obtain rfl : x1 = (5 : Int32) := zs_eqv h_x1 (by decide)
  refine zs_ite (fun c1 => ?_) (fun c1 => ?_)
  · skip
    have r2 := (zs_I_le c1)
    have g3 : zs_in (x2).toInt 5 5 := (zs_ler 5 5 r2 h_x1 h_x2 (by decide))
    exact zs_some (zs_inr ((zs_inl (trivial))))
  · skip
    have r4 := (zs_I_len c1)
    have g5 : zs_in (x2).toInt 0 4 := (zs_ltl 0 4 r4 h_x2 h_x1 (by decide))
    refine zs_bd_ (zc_1357 h_σ g5) (fun t_2 pt_2 => ?_)
    refine zs_ite (fun c6 => ?_) (fun c6 => ?_)
    · skip
      have r7 := (zs_I_le c6)
      have g8 : zs_in (t_2).toInt 0 2147483647 := (zs_ler 0 2147483647 r7 zlI_0 (zs_topI _) (by decide))
      refine zs_lt (Q := fun z => zs_in z.toInt 1 5 ∧ z.toInt = c + 1) ⟨(zs_addI 1 5 g5 zlI_1 (by decide)), (zs_syI 1 hc g5 zlI_1 (by decide) (by decide))⟩ (fun y_5 hy_5 => ?_)
      exact zs_some (zs_inl ⟨hy_5.1, hy_5.2⟩)
    · skip
      have r9 := (zs_I_len c6)
      have g10 : zs_in (t_2).toInt (-2147483648) (-1) := (zs_ltl (-2147483648) (-1) r9 (zs_topI _) zlI_0 (by decide))
      exact zs_some (zs_inr ((zs_inr (g5))))
theorem zd_263 {σ0 : sn_S} {σ : sn_S} (h_σ : zs_C σ0 σ) {x1 : Int32} (h_x1 : zs_in x1.toInt 5 5) {s0 : Int32} (h0 : zs_in (s0).toInt 0 5) : zs_ok (sn_it (LX3_firstBelow_2 σ 70 x1) 5000 s0) (fun t => zs_sum (fun v => True) (fun v => zs_in (v).toInt 0 4) t) := by
  refine zs_it (I := fun s => zs_in (s).toInt 0 5) (m := fun s => 5 - s.toInt) (fun s hs => ?_) (fun s hs => ?_) (by exact h0)
  · have h1 := hs; unfold zs_in at h1
    omega
  · obtain ⟨b, eb, hb⟩ := zc_1358 h_σ h_x1 hs (c := s.toInt) (Int.add_zero _).symm
    exact ⟨b, eb, zs_sumw hb (fun v w => ⟨(zs_w w.1 (by decide)), by have := w.2; omega⟩) (fun v w => w)⟩
-- fX3_firstBelow
theorem zc_1359 {σ0 : sn_S} {σ : sn_S} (h_σ : zs_C σ0 σ) {x1 : Int32} (h_x1 : zs_in x1.toInt 5 5) : zs_ok (fX3_firstBelow σ 70 x1) (fun r => zs_in (r).toInt (-1) 4) := by
  unfold fX3_firstBelow
  obtain rfl : x1 = (5 : Int32) := zs_eqv h_x1 (by decide)
  refine zs_bd_ (zd_263 h_σ h_x1 (s0 := (0 : Int32)) (zs_w zlI_0 (by decide))) (fun t_1 pt_1 => ?_)
  refine zs_elim pt_1 (fun v_3 pv_3 => ?_) (fun r_4 pr_4 => ?_)
  · skip
    obtain ⟨ret, er, hr⟩ := zc_1269 h_σ
    refine ⟨ret, er, ?_⟩
    exact (zs_w hr (by decide))
  · skip
    exact zs_some (zs_w pr_4 (by decide))
-- fX4_worth
theorem zc_1360 {σ0 : sn_S} {σ : sn_S} (h_σ : zs_C σ0 σ) {x2 : Int32} (h_x2 : zs_in x2.toInt 2 2) {x3 : Int32} (h_x3 : zs_in x3.toInt (-1) (-1)) {x4 : Int32} (h_x4 : zs_in x4.toInt 5 5) : zs_ok (fX4_worth σ 1 x2 x3 x4) (fun r => (zs_in (r.1).toInt 0 1 ∧ zs_C σ0 r.2)) := by
  unfold fX4_worth
  obtain rfl : x2 = (2 : Int32) := zs_eqv h_x2 (by decide)
  obtain rfl : x3 = (-1 : Int32) := zs_eqv h_x3 (by decide)
  obtain rfl : x4 = (5 : Int32) := zs_eqv h_x4 (by decide)
  refine zs_ite (fun c1 => ?_) (fun c1 => ?_)
  · skip
    have r2 := (zs_I_eq c1)
    exact (zs_botr r2 h_x2 zlI_0 (by decide)).elim
  · skip
    have r3 := (zs_I_eqn c1)
    refine zs_gd (zs_gin zlI_2 (by decide)) ?_
    refine zs_bd_ (zo_reckon_70_59_0_3 h_σ (zs_rdk (q := 2) (k := (2 : Int32).toNatClampNeg) (z := (0, 3)) h_σ.1 rfl)) (fun t_3 pt_3 => ?_)
    refine zs_ite (fun c4 => ?_) (fun c4 => ?_)
    · skip
      have r5 := (zs_I_eq c4)
      exact (zs_botr r5 h_x2 zlI_1 (by decide)).elim
    · skip
      have r6 := (zs_I_eqn c4)
      refine zs_bd_ (zc_1359 pt_3 h_x4) (fun t_6 pt_6 => ?_)
      refine zs_ite (fun c7 => ?_) (fun c7 => ?_)
      · skip
        have r8 := (zs_I_eq c7)
        have g9 : zs_in (t_6).toInt (-1) (-1) := (zs_eql (-1) (-1) r8 pt_6 zlI_m1 (by decide))
        exact zs_some ⟨(zs_w zlL_0 (by decide)), pt_3⟩
      · skip
        have r10 := (zs_I_eqn c7)
        have g11 : zs_in (t_6).toInt 0 4 := (zs_nel 0 4 r10 pt_6 zlI_m1 (by decide))
        exact zs_some ⟨(zs_w zlL_1 (by decide)), pt_3⟩
-- BX4_reckon_139
theorem zc_1361 {σ0 : sn_S} {σ : sn_S} (h_σ : zs_C σ0 σ) {x3 : Int32} (h_x3 : zs_in x3.toInt 2 2) {x4 : Int32} (h_x4 : zs_in x4.toInt (-1) (-1)) {x6 : Int32} (h_x6 : zs_in x6.toInt 5 5) {x7 : Int32} (h_x7 : zs_in x7.toInt 0 0) {t1 : Int32} (h_t1 : zs_in t1.toInt 0 0) {t2 : Int32} (h_t2 : zs_in t2.toInt 0 30) {c : Int} (hc : x7.toInt = c + 0) : zs_ok (BX4_reckon_139 σ 1 27 x3 x4 x6 x7 t1 t2) (fun r => zs_sum (fun v => ((zs_C σ0 v.1 ∧ zs_in (v.2).toInt 1 1)) ∧ v.2.toInt = c + 1) (fun v => False) r) := by
  unfold BX4_reckon_139
  obtain rfl : x3 = (2 : Int32) := zs_eqv h_x3 (by decide)
  obtain rfl : x4 = (-1 : Int32) := zs_eqv h_x4 (by decide)
  obtain rfl : x6 = (5 : Int32) := zs_eqv h_x6 (by decide)
  obtain rfl : t1 = (0 : Int32) := zs_eqv h_t1 (by decide)
  refine zs_bd_ (zc_1263 h_σ h_t1 h_t2) (fun t_1 pt_1 => ?_)
  refine zs_bd_ (zo_bc 0 0 (by decide) h_x7) (fun t_3 pt_3 => ?_)
  refine zs_gd (zs_gin pt_3 (by decide)) ?_
  refine zs_bd_ (zc_1360 pt_1 h_x3 h_x4 h_x6) (fun t_6 pt_6 => ?_)
  refine zs_lt (Q := fun z => zs_C σ0 z) (zs_wrL pt_6.2 rfl) (fun σ_8 hσ_8 => ?_)
  refine zs_lt (Q := fun z => zs_in z.toInt 1 1 ∧ z.toInt = c + 1) ⟨(zs_addI 1 1 h_x7 zlI_1 (by decide)), (zs_syI 1 hc h_x7 zlI_1 (by decide) (by decide))⟩ (fun y_10 hy_10 => ?_)
  exact zs_some (zs_inl ⟨⟨hσ_8, hy_10.1⟩, hy_10.2⟩)
-- BX4_reckon_119
theorem zc_1362 {σ0 : sn_S} {σ : sn_S} (h_σ : zs_C σ0 σ) {x3 : Int32} (h_x3 : zs_in x3.toInt 2 2) {x4 : Int32} (h_x4 : zs_in x4.toInt (-1) (-1)) {x6 : Int32} (h_x6 : zs_in x6.toInt 5 5) {x7 : Int32} (h_x7 : zs_in x7.toInt 0 0) {x8 : Int32} (h_x8 : zs_in x8.toInt 0 0) {c : Int} (hc : x7.toInt = c + 0) : zs_ok (BX4_reckon_119 σ 1 27 x3 x4 x6 x7 x8) (fun r => zs_sum (fun v => ((zs_C σ0 v.1 ∧ zs_in (v.2).toInt 1 1)) ∧ v.2.toInt = c + 1) (fun v => False) r) := by
  unfold BX4_reckon_119
  obtain rfl : x3 = (2 : Int32) := zs_eqv h_x3 (by decide)
  obtain rfl : x4 = (-1 : Int32) := zs_eqv h_x4 (by decide)
  obtain rfl : x6 = (5 : Int32) := zs_eqv h_x6 (by decide)
  obtain rfl : x8 = (0 : Int32) := zs_eqv h_x8 (by decide)
  refine zs_ite (fun c1 => ?_) (fun c1 => ?_)
  · skip
    have r2 := (zs_I_eq c1)
    obtain ⟨ret, er, hr⟩ := zc_1361 h_σ h_x3 h_x4 h_x6 h_x7 h_x8 (zs_rdk (q := 27) (k := 0) (z := (0, 30)) h_σ.1 rfl) hc
    refine ⟨ret, er, ?_⟩
    exact (zs_sumw hr (fun v w => ⟨w.1, w.2⟩) (fun v w => w.elim))
  · skip
    have r3 := (zs_I_eqn c1)
    exact (zs_botne r3 h_x3 zlI_2 (by decide)).elim
-- BX4_reckon_62
theorem zc_1363 {σ0 : sn_S} {σ : sn_S} (h_σ : zs_C σ0 σ) {x3 : Int32} (h_x3 : zs_in x3.toInt 2 2) {x4 : Int32} (h_x4 : zs_in x4.toInt (-1) (-1)) {x6 : Int32} (h_x6 : zs_in x6.toInt 5 5) {x7 : Int32} (h_x7 : zs_in x7.toInt 0 0) {t0 : Int32} (h_t0 : zs_in t0.toInt 0 0) {c : Int} (hc : x7.toInt = c + 0) : zs_ok (BX4_reckon_62 σ 1 27 x3 x4 x6 x7 t0) (fun r => zs_sum (fun v => ((zs_C σ0 v.1 ∧ zs_in (v.2).toInt 1 1)) ∧ v.2.toInt = c + 1) (fun v => False) r) := by
  unfold BX4_reckon_62
  obtain rfl : x3 = (2 : Int32) := zs_eqv h_x3 (by decide)
  obtain rfl : x4 = (-1 : Int32) := zs_eqv h_x4 (by decide)
  obtain rfl : x6 = (5 : Int32) := zs_eqv h_x6 (by decide)
  obtain rfl : t0 = (0 : Int32) := zs_eqv h_t0 (by decide)
  refine zs_bd_ (zd_261 h_x3 h_x4 h_x6 h_x7 h_t0 (s0 := (σ, (0 : Int32))) ⟨h_σ, (zs_w h_t0 (by decide))⟩) (fun t_1 pt_1 => ?_)
  obtain ⟨ret, er, hr⟩ := zc_1362 pt_1 h_x3 h_x4 h_x6 h_x7 h_t0 hc
  refine ⟨ret, er, ?_⟩
  exact (zs_sumw hr (fun v w => ⟨w.1, w.2⟩) (fun v w => w.elim))
-- BX4_reckon_111
theorem zc_1364 {σ0 : sn_S} {σ : sn_S} (h_σ : zs_C σ0 σ) {x3 : Int32} (h_x3 : zs_in x3.toInt 2 2) {x4 : Int32} (h_x4 : zs_in x4.toInt (-1) (-1)) {x6 : Int32} (h_x6 : zs_in x6.toInt 5 5) {x7 : Int32} (h_x7 : zs_in x7.toInt 1 31) {x8 : Int32} (h_x8 : zs_in x8.toInt 0 4) {x9 : Int32} (h_x9 : zs_in x9.toInt 0 4) {t1 : Int32} (h_t1 : zs_in t1.toInt 0 4) {t2 : Int32} {t3 : Int32} (h_t3 : zs_in t3.toInt 0 0) {c : Int} (hc : x9.toInt = c + 0) : zs_ok (BX4_reckon_111 σ 1 27 x3 x4 x6 x7 x8 x9 t1 t2 t3) (fun r => zs_sum (fun v => ((zs_C σ0 v.1 ∧ zs_in (v.2).toInt 1 5)) ∧ v.2.toInt = c + 1) (fun v => False) r) := by
  unfold BX4_reckon_111
  obtain rfl : x3 = (2 : Int32) := zs_eqv h_x3 (by decide)
  obtain rfl : x4 = (-1 : Int32) := zs_eqv h_x4 (by decide)
  obtain rfl : x6 = (5 : Int32) := zs_eqv h_x6 (by decide)
  obtain rfl : t3 = (0 : Int32) := zs_eqv h_t3 (by decide)
  refine zs_gd (zs_gin h_t1 (by decide)) ?_
  refine zs_lt (Q := fun z => zs_C σ0 z) (zs_wrt h_σ (fun _ => rfl) (fun _ => rfl)) (fun σ_2 hσ_2 => ?_)
  refine zs_lt (Q := fun z => zs_in z.toInt 1 5 ∧ z.toInt = c + 1) ⟨(zs_addI 1 5 h_x9 zlI_1 (by decide)), (zs_syI 1 hc h_x9 zlI_1 (by decide) (by decide))⟩ (fun y_4 hy_4 => ?_)
  exact zs_some (zs_inl ⟨⟨hσ_2, hy_4.1⟩, hy_4.2⟩)
-- BX4_reckon_111
theorem zc_1365 {σ0 : sn_S} {σ : sn_S} (h_σ : zs_C σ0 σ) {x3 : Int32} (h_x3 : zs_in x3.toInt 2 2) {x4 : Int32} (h_x4 : zs_in x4.toInt (-1) (-1)) {x6 : Int32} (h_x6 : zs_in x6.toInt 5 5) {x7 : Int32} (h_x7 : zs_in x7.toInt 1 31) {x8 : Int32} (h_x8 : zs_in x8.toInt 0 4) {x9 : Int32} (h_x9 : zs_in x9.toInt 0 4) {t1 : Int32} (h_t1 : zs_in t1.toInt 0 4) {t2 : Int32} {t3 : Int32} (h_t3 : zs_in t3.toInt 3 3) {c : Int} (hc : x9.toInt = c + 0) : zs_ok (BX4_reckon_111 σ 1 27 x3 x4 x6 x7 x8 x9 t1 t2 t3) (fun r => zs_sum (fun v => ((zs_C σ0 v.1 ∧ zs_in (v.2).toInt 1 5)) ∧ v.2.toInt = c + 1) (fun v => False) r) := by
  unfold BX4_reckon_111
  obtain rfl : x3 = (2 : Int32) := zs_eqv h_x3 (by decide)
  obtain rfl : x4 = (-1 : Int32) := zs_eqv h_x4 (by decide)
  obtain rfl : x6 = (5 : Int32) := zs_eqv h_x6 (by decide)
  obtain rfl : t3 = (3 : Int32) := zs_eqv h_t3 (by decide)
  refine zs_gd (zs_gin h_t1 (by decide)) ?_
  refine zs_lt (Q := fun z => zs_C σ0 z) (zs_wrt h_σ (fun _ => rfl) (fun _ => rfl)) (fun σ_2 hσ_2 => ?_)
  refine zs_lt (Q := fun z => zs_in z.toInt 1 5 ∧ z.toInt = c + 1) ⟨(zs_addI 1 5 h_x9 zlI_1 (by decide)), (zs_syI 1 hc h_x9 zlI_1 (by decide) (by decide))⟩ (fun y_4 hy_4 => ?_)
  exact zs_some (zs_inl ⟨⟨hσ_2, hy_4.1⟩, hy_4.2⟩)
-- BX4_reckon_68
theorem zc_1366 {σ0 : sn_S} {σ : sn_S} (h_σ : zs_C σ0 σ) {x3 : Int32} (h_x3 : zs_in x3.toInt 2 2) {x4 : Int32} (h_x4 : zs_in x4.toInt (-1) (-1)) {x6 : Int32} (h_x6 : zs_in x6.toInt 5 5) {x7 : Int32} (h_x7 : zs_in x7.toInt 1 31) {x8 : Int32} (h_x8 : zs_in x8.toInt 0 4) {x9 : Int32} (h_x9 : zs_in x9.toInt 0 5) {c : Int} (hc : x9.toInt = c + 0) : zs_ok (BX4_reckon_68 σ 1 27 x3 x4 x6 x7 x8 x9) (fun r => zs_sum (fun v => ((zs_C σ0 v.1 ∧ zs_in (v.2).toInt 1 5)) ∧ v.2.toInt = c + 1) (fun v => zs_C σ0 v) r) := by
  unfold BX4_reckon_68
  obtain rfl : x3 = (2 : Int32) := zs_eqv h_x3 (by decide)
  obtain rfl : x4 = (-1 : Int32) := zs_eqv h_x4 (by decide)
  obtain rfl : x6 = (5 : Int32) := zs_eqv h_x6 (by decide)
  refine zs_ite (fun c1 => ?_) (fun c1 => ?_)
  · skip
    have r2 := (zs_I_le c1)
    have g3 : zs_in (x9).toInt 5 5 := (zs_ler 5 5 r2 h_x6 h_x9 (by decide))
    exact zs_some (zs_inr (h_σ))
  · skip
    have r4 := (zs_I_len c1)
    have g5 : zs_in (x9).toInt 0 4 := (zs_ltl 0 4 r4 h_x9 h_x6 (by decide))
    refine zs_gd (zs_gin g5 (by decide)) ?_
    refine zs_bd_ (zc_929 h_x7 (zs_subI 0 4 (zs_subI 4 4 h_x6 zlI_1 (by decide)) g5 (by decide))) (fun t_3 pt_3 => ?_)
    refine zs_ite (fun c6 => ?_) (fun c6 => ?_)
    · skip
      have r7 := (zs_I_eq c6)
      have g8 : zs_in (t_3).toInt 0 0 := (zs_eql 0 0 r7 pt_3 zlI_0 (by decide))
      obtain ⟨ret, er, hr⟩ := zc_1364 h_σ h_x3 h_x4 h_x6 h_x7 h_x8 g5 g5 zlI_0 hc
      refine ⟨ret, er, ?_⟩
      exact (zs_sumw hr (fun v w => ⟨w.1, w.2⟩) (fun v w => w.elim))
    · skip
      have r9 := (zs_I_eqn c6)
      have g10 : zs_in (t_3).toInt 1 1 := (zs_nel 1 1 r9 pt_3 zlI_0 (by decide))
      obtain ⟨ret, er, hr⟩ := zc_1365 h_σ h_x3 h_x4 h_x6 h_x7 h_x8 g5 g5 zlI_3 hc
      refine ⟨ret, er, ?_⟩
      exact (zs_sumw hr (fun v w => ⟨w.1, w.2⟩) (fun v w => w.elim))
theorem zd_264 {σ0 : sn_S} {x3 : Int32} (h_x3 : zs_in x3.toInt 2 2) {x4 : Int32} (h_x4 : zs_in x4.toInt (-1) (-1)) {x6 : Int32} (h_x6 : zs_in x6.toInt 5 5) {x7 : Int32} (h_x7 : zs_in x7.toInt 1 31) {x8 : Int32} (h_x8 : zs_in x8.toInt 0 4) {s0 : (sn_S × Int32)} (h0 : (zs_C σ0 s0.1 ∧ zs_in (s0.2).toInt 0 5)) : zs_ok (sn_it (LX4_reckon_68 1 27 x3 x4 x6 x7 x8) 5000 s0) (fun t => zs_C σ0 t) := by
  refine zs_it (I := fun s => (zs_C σ0 s.1 ∧ zs_in (s.2).toInt 0 5)) (m := fun s => 5 - s.2.toInt) (fun s hs => ?_) (fun s hs => ?_) (by exact h0)
  · have h1 := hs.2; unfold zs_in at h1
    omega
  · obtain ⟨b, eb, hb⟩ := zc_1366 hs.1 h_x3 h_x4 h_x6 h_x7 h_x8 hs.2 (c := s.2.toInt) (Int.add_zero _).symm
    exact ⟨b, eb, zs_sumw hb (fun v w => ⟨⟨w.1.1, (zs_w w.1.2 (by decide))⟩, by have := w.2; omega⟩) (fun v w => w)⟩
-- BX0_live_2
theorem zc_1367 {σ0 : sn_S} {σ : sn_S} (h_σ : zs_C σ0 σ) {x1 : Int32} (h_x1 : zs_in x1.toInt 0 4) {x2 : Int32} (h_x2 : zs_in x2.toInt 0 30) {x3 : Int32} (h_x3 : zs_in x3.toInt 0 6) {c : Int} (hc : x3.toInt = c + 0) : zs_ok (BX0_live_2 σ 59 x1 x2 x3) (fun r => zs_sum (fun v => ((zs_C σ0 v.1 ∧ zs_in (v.2).toInt 1 6)) ∧ v.2.toInt = c + 1) (fun v => zs_C σ0 v) r) := by
  unfold BX0_live_2
  refine zs_ite (fun c1 => ?_) (fun c1 => ?_)
  · skip
    have r2 := (zs_I_le c1)
    exact zs_some (zs_inr (h_σ))
  · skip
    have r3 := (zs_I_len c1)
    have g4 : zs_in (x3).toInt 0 5 := (zs_ltl 0 5 r3 h_x3 (zs_rdk (q := 59) (k := 1) (z := (0, 6)) h_σ.1 rfl) (by decide))
    have g5 : zs_in ((sn_I σ 59 1)).toInt 1 6 := (zs_ltr 1 6 r3 h_x3 (zs_rdk (q := 59) (k := 1) (z := (0, 6)) h_σ.1 rfl) (by decide))
    refine zs_gd (zs_gin g4 (by decide)) ?_
    refine zs_bd_ (zc_933 h_x1) (fun t_3 pt_3 => ?_)
    refine zs_gd (zs_gin g4 (by decide)) ?_
    refine zs_lt (Q := fun z => zs_C σ0 z) (zs_wru (z := (0, 1073741823)) h_σ (fun _ => rfl) (zs_and pt_3 (by decide)) (by decide) (fun _ => rfl)) (fun σ_6 hσ_6 => ?_)
    refine zs_lt (Q := fun z => zs_in z.toInt 1 6 ∧ z.toInt = c + 1) ⟨(zs_addI 1 6 g4 zlI_1 (by decide)), (zs_syI 1 hc g4 zlI_1 (by decide) (by decide))⟩ (fun y_8 hy_8 => ?_)
    exact zs_some (zs_inl ⟨⟨hσ_6, hy_8.1⟩, hy_8.2⟩)
theorem zd_265 {σ0 : sn_S} {x1 : Int32} (h_x1 : zs_in x1.toInt 0 4) {x2 : Int32} (h_x2 : zs_in x2.toInt 0 30) {s0 : (sn_S × Int32)} (h0 : (zs_C σ0 s0.1 ∧ zs_in (s0.2).toInt 0 6)) : zs_ok (sn_it (LX0_live_2 59 x1 x2) 5000 s0) (fun t => zs_C σ0 t) := by
  refine zs_it (I := fun s => (zs_C σ0 s.1 ∧ zs_in (s.2).toInt 0 6)) (m := fun s => 6 - s.2.toInt) (fun s hs => ?_) (fun s hs => ?_) (by exact h0)
  · have h1 := hs.2; unfold zs_in at h1
    omega
  · obtain ⟨b, eb, hb⟩ := zc_1367 hs.1 h_x1 h_x2 hs.2 (c := s.2.toInt) (Int.add_zero _).symm
    exact ⟨b, eb, zs_sumw hb (fun v w => ⟨⟨w.1.1, (zs_w w.1.2 (by decide))⟩, by have := w.2; omega⟩) (fun v w => w)⟩
-- BX0_live_29
theorem zc_1368 {σ0 : sn_S} {σ : sn_S} (h_σ : zs_C σ0 σ) {x1 : Int32} (h_x1 : zs_in x1.toInt 0 4) {x2 : Int32} (h_x2 : zs_in x2.toInt 0 30) : zs_ok (BX0_live_29 σ 59 x1 x2) (fun r => zs_C σ0 r) := by
  unfold BX0_live_29
  refine zs_bd_ (zd_238 h_x2 (s0 := (σ, x1)) ⟨h_σ, (zs_w h_x1 (by decide))⟩) (fun t_1 pt_1 => ?_)
  obtain ⟨ret, er, hr⟩ := zc_697 pt_1
  refine ⟨ret, er, ?_⟩
  exact hr
-- fX0_live
theorem zc_1369 {σ0 : sn_S} {σ : sn_S} (h_σ : zs_C σ0 σ) {x1 : Int32} (h_x1 : zs_in x1.toInt 0 4) {x2 : Int32} (h_x2 : zs_in x2.toInt 0 30) : zs_ok (fX0_live σ 59 x1 x2) (fun r => zs_C σ0 r) := by
  unfold fX0_live
  refine zs_bd_ (zd_265 h_x1 h_x2 (s0 := (σ, (0 : Int32))) ⟨h_σ, (zs_w zlI_0 (by decide))⟩) (fun t_1 pt_1 => ?_)
  obtain ⟨ret, er, hr⟩ := zc_1368 pt_1 h_x1 h_x2
  refine ⟨ret, er, ?_⟩
  exact hr
-- BX4_reckon_139
theorem zc_1370 {σ0 : sn_S} {σ : sn_S} (h_σ : zs_C σ0 σ) {x3 : Int32} (h_x3 : zs_in x3.toInt 2 2) {x4 : Int32} (h_x4 : zs_in x4.toInt (-1) (-1)) {x6 : Int32} (h_x6 : zs_in x6.toInt 5 5) {x7 : Int32} (h_x7 : zs_in x7.toInt 1 31) {t1 : Int32} (h_t1 : zs_in t1.toInt 0 4) {t2 : Int32} (h_t2 : zs_in t2.toInt 0 30) {c : Int} (hc : x7.toInt = c + 0) : zs_ok (BX4_reckon_139 σ 1 27 x3 x4 x6 x7 t1 t2) (fun r => zs_sum (fun v => ((zs_C σ0 v.1 ∧ zs_in (v.2).toInt 2 32)) ∧ v.2.toInt = c + 1) (fun v => False) r) := by
  unfold BX4_reckon_139
  obtain rfl : x3 = (2 : Int32) := zs_eqv h_x3 (by decide)
  obtain rfl : x4 = (-1 : Int32) := zs_eqv h_x4 (by decide)
  obtain rfl : x6 = (5 : Int32) := zs_eqv h_x6 (by decide)
  refine zs_bd_ (zc_1369 h_σ h_t1 h_t2) (fun t_1 pt_1 => ?_)
  refine zs_bd_ (zo_bc 5 5 (by decide) h_x7) (fun t_3 pt_3 => ?_)
  refine zs_gd (zs_gin pt_3 (by decide)) ?_
  refine zs_bd_ (zc_1360 pt_1 h_x3 h_x4 h_x6) (fun t_6 pt_6 => ?_)
  refine zs_lt (Q := fun z => zs_C σ0 z) (zs_wrL pt_6.2 rfl) (fun σ_8 hσ_8 => ?_)
  refine zs_lt (Q := fun z => zs_in z.toInt 2 32 ∧ z.toInt = c + 1) ⟨(zs_addI 2 32 h_x7 zlI_1 (by decide)), (zs_syI 1 hc h_x7 zlI_1 (by decide) (by decide))⟩ (fun y_10 hy_10 => ?_)
  exact zs_some (zs_inl ⟨⟨hσ_8, hy_10.1⟩, hy_10.2⟩)
-- BX4_reckon_119
theorem zc_1371 {σ0 : sn_S} {σ : sn_S} (h_σ : zs_C σ0 σ) {x3 : Int32} (h_x3 : zs_in x3.toInt 2 2) {x4 : Int32} (h_x4 : zs_in x4.toInt (-1) (-1)) {x6 : Int32} (h_x6 : zs_in x6.toInt 5 5) {x7 : Int32} (h_x7 : zs_in x7.toInt 1 31) {x8 : Int32} (h_x8 : zs_in x8.toInt 0 4) {c : Int} (hc : x7.toInt = c + 0) : zs_ok (BX4_reckon_119 σ 1 27 x3 x4 x6 x7 x8) (fun r => zs_sum (fun v => ((zs_C σ0 v.1 ∧ zs_in (v.2).toInt 2 32)) ∧ v.2.toInt = c + 1) (fun v => False) r) := by
  unfold BX4_reckon_119
  obtain rfl : x3 = (2 : Int32) := zs_eqv h_x3 (by decide)
  obtain rfl : x4 = (-1 : Int32) := zs_eqv h_x4 (by decide)
  obtain rfl : x6 = (5 : Int32) := zs_eqv h_x6 (by decide)
  refine zs_ite (fun c1 => ?_) (fun c1 => ?_)
  · skip
    have r2 := (zs_I_eq c1)
    obtain ⟨ret, er, hr⟩ := zc_1370 h_σ h_x3 h_x4 h_x6 h_x7 h_x8 (zs_rdk (q := 27) (k := 0) (z := (0, 30)) h_σ.1 rfl) hc
    refine ⟨ret, er, ?_⟩
    exact (zs_sumw hr (fun v w => ⟨w.1, w.2⟩) (fun v w => w.elim))
  · skip
    have r3 := (zs_I_eqn c1)
    exact (zs_botne r3 h_x3 zlI_2 (by decide)).elim
-- BX4_reckon_62
theorem zc_1372 {σ0 : sn_S} {σ : sn_S} (h_σ : zs_C σ0 σ) {x3 : Int32} (h_x3 : zs_in x3.toInt 2 2) {x4 : Int32} (h_x4 : zs_in x4.toInt (-1) (-1)) {x6 : Int32} (h_x6 : zs_in x6.toInt 5 5) {x7 : Int32} (h_x7 : zs_in x7.toInt 1 31) {t0 : Int32} (h_t0 : zs_in t0.toInt 0 4) {c : Int} (hc : x7.toInt = c + 0) : zs_ok (BX4_reckon_62 σ 1 27 x3 x4 x6 x7 t0) (fun r => zs_sum (fun v => ((zs_C σ0 v.1 ∧ zs_in (v.2).toInt 2 32)) ∧ v.2.toInt = c + 1) (fun v => False) r) := by
  unfold BX4_reckon_62
  obtain rfl : x3 = (2 : Int32) := zs_eqv h_x3 (by decide)
  obtain rfl : x4 = (-1 : Int32) := zs_eqv h_x4 (by decide)
  obtain rfl : x6 = (5 : Int32) := zs_eqv h_x6 (by decide)
  refine zs_bd_ (zd_264 h_x3 h_x4 h_x6 h_x7 h_t0 (s0 := (σ, t0)) ⟨h_σ, (zs_w h_t0 (by decide))⟩) (fun t_1 pt_1 => ?_)
  obtain ⟨ret, er, hr⟩ := zc_1371 pt_1 h_x3 h_x4 h_x6 h_x7 h_t0 hc
  refine ⟨ret, er, ?_⟩
  exact (zs_sumw hr (fun v w => ⟨w.1, w.2⟩) (fun v w => w.elim))
-- BX4_reckon_34
theorem zc_1373 {σ0 : sn_S} {σ : sn_S} (h_σ : zs_C σ0 σ) {x3 : Int32} (h_x3 : zs_in x3.toInt 2 2) {x4 : Int32} (h_x4 : zs_in x4.toInt (-1) (-1)) {x6 : Int32} (h_x6 : zs_in x6.toInt 5 5) {x7 : Int32} (h_x7 : zs_in x7.toInt 0 32) {c : Int} (hc : x7.toInt = c + 0) : zs_ok (BX4_reckon_34 σ 1 27 x3 x4 x6 x7) (fun r => zs_sum (fun v => ((zs_C σ0 v.1 ∧ zs_in (v.2).toInt 1 32)) ∧ v.2.toInt = c + 1) (fun v => zs_C σ0 v) r) := by
  unfold BX4_reckon_34
  obtain rfl : x3 = (2 : Int32) := zs_eqv h_x3 (by decide)
  obtain rfl : x4 = (-1 : Int32) := zs_eqv h_x4 (by decide)
  obtain rfl : x6 = (5 : Int32) := zs_eqv h_x6 (by decide)
  refine zs_ite (fun c1 => ?_) (fun c1 => ?_)
  · skip
    have r2 := (zs_I_le c1)
    have g3 : zs_in (x7).toInt 32 32 := (zs_ler 32 32 r2 (zs_cases h_x6 (fun z => zs_in ((1 : Int32) <<< (z &&& 31)).toInt 32 32) (by decide +kernel)) h_x7 (by decide))
    exact zs_some (zs_inr (h_σ))
  · skip
    have r4 := (zs_I_len c1)
    have g5 : zs_in (x7).toInt 0 31 := (zs_ltl 0 31 r4 h_x7 (zs_cases h_x6 (fun z => zs_in ((1 : Int32) <<< (z &&& 31)).toInt 32 32) (by decide +kernel)) (by decide))
    refine zs_ite (fun c6 => ?_) (fun c6 => ?_)
    · skip
      have r7 := (zs_I_eq c6)
      have g8 : zs_in (x7).toInt 0 0 := (zs_eql 0 0 r7 g5 zlI_0 (by decide))
      obtain ⟨ret, er, hr⟩ := zc_1363 h_σ h_x3 h_x4 h_x6 g8 zlI_0 hc
      refine ⟨ret, er, ?_⟩
      exact (zs_sumw hr (fun v w => ⟨⟨w.1.1, (zs_w w.1.2 (by decide))⟩, w.2⟩) (fun v w => w.elim))
    · skip
      have r9 := (zs_I_eqn c6)
      have g10 : zs_in (x7).toInt 1 31 := (zs_nel 1 31 r9 g5 zlI_0 (by decide))
      refine zs_bd_ (zo_low1 5 4 (by decide) g10) (fun t_3 pt_3 => ?_)
      obtain ⟨ret, er, hr⟩ := zc_1372 h_σ h_x3 h_x4 h_x6 g10 (zs_subI 0 4 (zs_subI 4 4 h_x6 zlI_1 (by decide)) pt_3 (by decide)) hc
      refine ⟨ret, er, ?_⟩
      exact (zs_sumw hr (fun v w => ⟨⟨w.1.1, (zs_w w.1.2 (by decide))⟩, w.2⟩) (fun v w => w.elim))
theorem zd_266 {σ0 : sn_S} {x3 : Int32} (h_x3 : zs_in x3.toInt 2 2) {x4 : Int32} (h_x4 : zs_in x4.toInt (-1) (-1)) {x6 : Int32} (h_x6 : zs_in x6.toInt 5 5) {s0 : (sn_S × Int32)} (h0 : (zs_C σ0 s0.1 ∧ zs_in (s0.2).toInt 0 32)) : zs_ok (sn_it (LX4_reckon_34 1 27 x3 x4 x6) 5000 s0) (fun t => zs_C σ0 t) := by
  refine zs_it (I := fun s => (zs_C σ0 s.1 ∧ zs_in (s.2).toInt 0 32)) (m := fun s => 32 - s.2.toInt) (fun s hs => ?_) (fun s hs => ?_) (by exact h0)
  · have h1 := hs.2; unfold zs_in at h1
    omega
  · obtain ⟨b, eb, hb⟩ := zc_1373 hs.1 h_x3 h_x4 h_x6 hs.2 (c := s.2.toInt) (Int.add_zero _).symm
    exact ⟨b, eb, zs_sumw hb (fun v w => ⟨⟨w.1.1, (zs_w w.1.2 (by decide))⟩, by have := w.2; omega⟩) (fun v w => w)⟩
-- fX4_reckon
theorem zc_1374 {σ0 : sn_S} {σ : sn_S} (h_σ : zs_C σ0 σ) {x3 : Int32} (h_x3 : zs_in x3.toInt 2 2) {x4 : Int32} (h_x4 : zs_in x4.toInt (-1) (-1)) {x5 : Int32} (h_x5 : zs_in x5.toInt 4 4) : zs_ok (fX4_reckon σ 1 27 x3 x4 x5) (fun r => zs_C σ0 r) := by
  unfold fX4_reckon
  obtain rfl : x3 = (2 : Int32) := zs_eqv h_x3 (by decide)
  obtain rfl : x4 = (-1 : Int32) := zs_eqv h_x4 (by decide)
  obtain rfl : x5 = (4 : Int32) := zs_eqv h_x5 (by decide)
  refine zs_lt (Q := fun z => zs_in z.toInt 5 5) (zs_addI 5 5 h_x5 zlI_1 (by decide)) (fun y_1 hy_1 => ?_)
  refine zs_gd (zs_gin zlI_4 (by decide)) ?_
  refine zs_bd_ (zc_893 h_σ hy_1 (zs_rdk (q := 2) (k := (4 : Int32).toNatClampNeg) (z := (0, 10)) h_σ.1 rfl)) (fun t_4 pt_4 => ?_)
  refine zs_bd_ (zo_dcopy pt_4) (fun t_6 pt_6 => ?_)
  refine zs_lt (Q := fun z => zs_C σ0 z) (zs_wrL pt_6 rfl) (fun σ_8 hσ_8 => ?_)
  refine zs_bd_ (zd_266 h_x3 h_x4 hy_1 (s0 := (σ_8, (0 : Int32))) ⟨hσ_8, (zs_w zlI_0 (by decide))⟩) (fun t_10 pt_10 => ?_)
  obtain ⟨ret, er, hr⟩ := zc_942 pt_10 hy_1
  refine ⟨ret, er, ?_⟩
  exact hr
-- BX4_reckon_111
theorem zc_1375 {σ0 : sn_S} {σ : sn_S} (h_σ : zs_C σ0 σ) {x3 : Int32} (h_x3 : zs_in x3.toInt 2 2) {x4 : Int32} (h_x4 : zs_in x4.toInt (-1) (-1)) {x6 : Int32} (h_x6 : zs_in x6.toInt 6 6) {x7 : Int32} (h_x7 : zs_in x7.toInt 0 0) {x8 : Int32} (h_x8 : zs_in x8.toInt 0 0) {x9 : Int32} (h_x9 : zs_in x9.toInt 0 5) {t1 : Int32} (h_t1 : zs_in t1.toInt 0 5) {t2 : Int32} {t3 : Int32} (h_t3 : zs_in t3.toInt 0 0) {c : Int} (hc : x9.toInt = c + 0) : zs_ok (BX4_reckon_111 σ 1 27 x3 x4 x6 x7 x8 x9 t1 t2 t3) (fun r => zs_sum (fun v => ((zs_C σ0 v.1 ∧ zs_in (v.2).toInt 1 6)) ∧ v.2.toInt = c + 1) (fun v => False) r) := by
  unfold BX4_reckon_111
  obtain rfl : x3 = (2 : Int32) := zs_eqv h_x3 (by decide)
  obtain rfl : x4 = (-1 : Int32) := zs_eqv h_x4 (by decide)
  obtain rfl : x6 = (6 : Int32) := zs_eqv h_x6 (by decide)
  obtain rfl : x7 = (0 : Int32) := zs_eqv h_x7 (by decide)
  obtain rfl : x8 = (0 : Int32) := zs_eqv h_x8 (by decide)
  obtain rfl : t3 = (0 : Int32) := zs_eqv h_t3 (by decide)
  refine zs_gd (zs_gin h_t1 (by decide)) ?_
  refine zs_lt (Q := fun z => zs_C σ0 z) (zs_wrt h_σ (fun _ => rfl) (fun _ => rfl)) (fun σ_2 hσ_2 => ?_)
  refine zs_lt (Q := fun z => zs_in z.toInt 1 6 ∧ z.toInt = c + 1) ⟨(zs_addI 1 6 h_x9 zlI_1 (by decide)), (zs_syI 1 hc h_x9 zlI_1 (by decide) (by decide))⟩ (fun y_4 hy_4 => ?_)
  exact zs_some (zs_inl ⟨⟨hσ_2, hy_4.1⟩, hy_4.2⟩)
-- BX4_reckon_111
theorem zc_1376 {σ0 : sn_S} {σ : sn_S} (h_σ : zs_C σ0 σ) {x3 : Int32} (h_x3 : zs_in x3.toInt 2 2) {x4 : Int32} (h_x4 : zs_in x4.toInt (-1) (-1)) {x6 : Int32} (h_x6 : zs_in x6.toInt 6 6) {x7 : Int32} (h_x7 : zs_in x7.toInt 0 0) {x8 : Int32} (h_x8 : zs_in x8.toInt 0 0) {x9 : Int32} (h_x9 : zs_in x9.toInt 0 5) {t1 : Int32} (h_t1 : zs_in t1.toInt 0 5) {t2 : Int32} {t3 : Int32} (h_t3 : zs_in t3.toInt 3 3) {c : Int} (hc : x9.toInt = c + 0) : zs_ok (BX4_reckon_111 σ 1 27 x3 x4 x6 x7 x8 x9 t1 t2 t3) (fun r => zs_sum (fun v => ((zs_C σ0 v.1 ∧ zs_in (v.2).toInt 1 6)) ∧ v.2.toInt = c + 1) (fun v => False) r) := by
  unfold BX4_reckon_111
  obtain rfl : x3 = (2 : Int32) := zs_eqv h_x3 (by decide)
  obtain rfl : x4 = (-1 : Int32) := zs_eqv h_x4 (by decide)
  obtain rfl : x6 = (6 : Int32) := zs_eqv h_x6 (by decide)
  obtain rfl : x7 = (0 : Int32) := zs_eqv h_x7 (by decide)
  obtain rfl : x8 = (0 : Int32) := zs_eqv h_x8 (by decide)
  obtain rfl : t3 = (3 : Int32) := zs_eqv h_t3 (by decide)
  refine zs_gd (zs_gin h_t1 (by decide)) ?_
  refine zs_lt (Q := fun z => zs_C σ0 z) (zs_wrt h_σ (fun _ => rfl) (fun _ => rfl)) (fun σ_2 hσ_2 => ?_)
  refine zs_lt (Q := fun z => zs_in z.toInt 1 6 ∧ z.toInt = c + 1) ⟨(zs_addI 1 6 h_x9 zlI_1 (by decide)), (zs_syI 1 hc h_x9 zlI_1 (by decide) (by decide))⟩ (fun y_4 hy_4 => ?_)
  exact zs_some (zs_inl ⟨⟨hσ_2, hy_4.1⟩, hy_4.2⟩)
-- BX4_reckon_68
theorem zc_1377 {σ0 : sn_S} {σ : sn_S} (h_σ : zs_C σ0 σ) {x3 : Int32} (h_x3 : zs_in x3.toInt 2 2) {x4 : Int32} (h_x4 : zs_in x4.toInt (-1) (-1)) {x6 : Int32} (h_x6 : zs_in x6.toInt 6 6) {x7 : Int32} (h_x7 : zs_in x7.toInt 0 0) {x8 : Int32} (h_x8 : zs_in x8.toInt 0 0) {x9 : Int32} (h_x9 : zs_in x9.toInt 0 6) {c : Int} (hc : x9.toInt = c + 0) : zs_ok (BX4_reckon_68 σ 1 27 x3 x4 x6 x7 x8 x9) (fun r => zs_sum (fun v => ((zs_C σ0 v.1 ∧ zs_in (v.2).toInt 1 6)) ∧ v.2.toInt = c + 1) (fun v => zs_C σ0 v) r) := by
  unfold BX4_reckon_68
  obtain rfl : x3 = (2 : Int32) := zs_eqv h_x3 (by decide)
  obtain rfl : x4 = (-1 : Int32) := zs_eqv h_x4 (by decide)
  obtain rfl : x6 = (6 : Int32) := zs_eqv h_x6 (by decide)
  obtain rfl : x7 = (0 : Int32) := zs_eqv h_x7 (by decide)
  obtain rfl : x8 = (0 : Int32) := zs_eqv h_x8 (by decide)
  refine zs_ite (fun c1 => ?_) (fun c1 => ?_)
  · skip
    have r2 := (zs_I_le c1)
    have g3 : zs_in (x9).toInt 6 6 := (zs_ler 6 6 r2 h_x6 h_x9 (by decide))
    exact zs_some (zs_inr (h_σ))
  · skip
    have r4 := (zs_I_len c1)
    have g5 : zs_in (x9).toInt 0 5 := (zs_ltl 0 5 r4 h_x9 h_x6 (by decide))
    refine zs_gd (zs_gin g5 (by decide)) ?_
    refine zs_bd_ (zc_950 h_x7 (zs_subI 0 5 (zs_subI 5 5 h_x6 zlI_1 (by decide)) g5 (by decide))) (fun t_3 pt_3 => ?_)
    refine zs_ite (fun c6 => ?_) (fun c6 => ?_)
    · skip
      have r7 := (zs_I_eq c6)
      have g8 : zs_in (t_3).toInt 0 0 := (zs_eql 0 0 r7 pt_3 zlI_0 (by decide))
      obtain ⟨ret, er, hr⟩ := zc_1375 h_σ h_x3 h_x4 h_x6 h_x7 h_x8 g5 g5 zlI_0 hc
      refine ⟨ret, er, ?_⟩
      exact (zs_sumw hr (fun v w => ⟨w.1, w.2⟩) (fun v w => w.elim))
    · skip
      have r9 := (zs_I_eqn c6)
      have g10 : zs_in (t_3).toInt 1 1 := (zs_nel 1 1 r9 pt_3 zlI_0 (by decide))
      obtain ⟨ret, er, hr⟩ := zc_1376 h_σ h_x3 h_x4 h_x6 h_x7 h_x8 g5 g5 zlI_3 hc
      refine ⟨ret, er, ?_⟩
      exact (zs_sumw hr (fun v w => ⟨w.1, w.2⟩) (fun v w => w.elim))
theorem zd_267 {σ0 : sn_S} {x3 : Int32} (h_x3 : zs_in x3.toInt 2 2) {x4 : Int32} (h_x4 : zs_in x4.toInt (-1) (-1)) {x6 : Int32} (h_x6 : zs_in x6.toInt 6 6) {x7 : Int32} (h_x7 : zs_in x7.toInt 0 0) {x8 : Int32} (h_x8 : zs_in x8.toInt 0 0) {s0 : (sn_S × Int32)} (h0 : (zs_C σ0 s0.1 ∧ zs_in (s0.2).toInt 0 6)) : zs_ok (sn_it (LX4_reckon_68 1 27 x3 x4 x6 x7 x8) 5000 s0) (fun t => zs_C σ0 t) := by
  refine zs_it (I := fun s => (zs_C σ0 s.1 ∧ zs_in (s.2).toInt 0 6)) (m := fun s => 6 - s.2.toInt) (fun s hs => ?_) (fun s hs => ?_) (by exact h0)
  · have h1 := hs.2; unfold zs_in at h1
    omega
  · obtain ⟨b, eb, hb⟩ := zc_1377 hs.1 h_x3 h_x4 h_x6 h_x7 h_x8 hs.2 (c := s.2.toInt) (Int.add_zero _).symm
    exact ⟨b, eb, zs_sumw hb (fun v w => ⟨⟨w.1.1, (zs_w w.1.2 (by decide))⟩, by have := w.2; omega⟩) (fun v w => w)⟩
-- BX3_moneyAt_44
theorem zc_1378 {σ0 : sn_S} {σ : sn_S} (h_σ : zs_C σ0 σ) {x1 : Int32} (h_x1 : zs_in x1.toInt 0 5) {x2 : Int32} {x3 : Int32} (h_x3 : zs_in x3.toInt 0 5) {c : Int} (hc : x3.toInt = c + 0) : zs_ok (BX3_moneyAt_44 σ 70 x1 x2 x3) (fun r => zs_sum (fun v => ((True ∧ zs_in (v.2).toInt 1 6)) ∧ v.2.toInt = c + 1) (fun v => False) r) := by
  unfold BX3_moneyAt_44
  refine zs_lt (Q := fun z => zs_in z.toInt 1 6 ∧ z.toInt = c + 1) ⟨(zs_addI 1 6 h_x3 zlI_1 (by decide)), (zs_syI 1 hc h_x3 zlI_1 (by decide) (by decide))⟩ (fun y_1 hy_1 => ?_)
  exact zs_some (zs_inl ⟨⟨trivial, hy_1.1⟩, hy_1.2⟩)
-- BX3_moneyAt_7
theorem zc_1379 {σ0 : sn_S} {σ : sn_S} (h_σ : zs_C σ0 σ) {x1 : Int32} (h_x1 : zs_in x1.toInt 0 5) {x2 : Int32} {x3 : Int32} (h_x3 : zs_in x3.toInt 0 6) {c : Int} (hc : x3.toInt = c + 0) : zs_ok (BX3_moneyAt_7 σ 70 x1 x2 x3) (fun r => zs_sum (fun v => ((True ∧ zs_in (v.2).toInt 1 6)) ∧ v.2.toInt = c + 1) (fun v => True) r) := by
  unfold BX3_moneyAt_7
  refine zs_ite (fun c1 => ?_) (fun c1 => ?_)
  · skip
    have r2 := (zs_I_le c1)
    exact zs_some (zs_inr (trivial))
  · skip
    have r3 := (zs_I_len c1)
    have g4 : zs_in (x3).toInt 0 5 := (zs_ltl 0 5 r3 h_x3 (zs_rdk (q := 70) (k := 2) (z := (0, 6)) h_σ.1 rfl) (by decide))
    have g5 : zs_in ((sn_I σ 70 2)).toInt 1 6 := (zs_ltr 1 6 r3 h_x3 (zs_rdk (q := 70) (k := 2) (z := (0, 6)) h_σ.1 rfl) (by decide))
    refine zs_gd (zs_gin g4 (by decide)) ?_
    refine zs_ite (fun c6 => ?_) (fun c6 => ?_)
    · skip
      have r7 := (zs_I_eq c6)
      have g8 : zs_in ((sn_I σ (70 + 2) x3.toNatClampNeg)).toInt (-1) (-1) := (zs_eql (-1) (-1) r7 (zs_rdu (q := 72) (z := ((-1), 63)) h_σ.1 (fun _ => rfl)) zlI_m1 (by decide))
      obtain ⟨ret, er, hr⟩ := zc_1378 h_σ h_x1 g4 hc
      refine ⟨ret, er, ?_⟩
      exact (zs_sumw hr (fun v w => ⟨w.1, w.2⟩) (fun v w => w.elim))
    · skip
      have r9 := (zs_I_eqn c6)
      have g10 : zs_in ((sn_I σ (70 + 2) x3.toNatClampNeg)).toInt 0 63 := (zs_nel 0 63 r9 (zs_rdu (q := 72) (z := ((-1), 63)) h_σ.1 (fun _ => rfl)) zlI_m1 (by decide))
      refine zs_gd (zs_gin g4 (by decide)) ?_
      refine zs_ite (fun c11 => ?_) (fun c11 => ?_)
      · skip
        have r12 := (zs_I_lt c11)
        have g13 : zs_in ((sn_I σ (70 + 2) x3.toNatClampNeg)).toInt 1 63 := (zs_ltr 1 63 r12 h_x1 g10 (by decide))
        obtain ⟨ret, er, hr⟩ := zc_1378 h_σ h_x1 g4 hc
        refine ⟨ret, er, ?_⟩
        exact (zs_sumw hr (fun v w => ⟨w.1, w.2⟩) (fun v w => w.elim))
      · skip
        have r14 := (zs_I_ltn c11)
        have g15 : zs_in ((sn_I σ (70 + 2) x3.toNatClampNeg)).toInt 0 5 := (zs_lel 0 5 r14 g10 h_x1 (by decide))
        refine zs_gd (zs_gin g4 (by decide)) ?_
        refine zs_lt (Q := fun z => True) trivial (fun y_7 hy_7 => ?_)
        obtain ⟨ret, er, hr⟩ := zc_1378 h_σ h_x1 g4 hc
        refine ⟨ret, er, ?_⟩
        exact (zs_sumw hr (fun v w => ⟨w.1, w.2⟩) (fun v w => w.elim))
theorem zd_268 {σ0 : sn_S} {σ : sn_S} (h_σ : zs_C σ0 σ) {x1 : Int32} (h_x1 : zs_in x1.toInt 0 5) {s0 : (Int32 × Int32)} (h0 : (True ∧ zs_in (s0.2).toInt 0 6)) : zs_ok (sn_it (LX3_moneyAt_7 σ 70 x1) 5000 s0) (fun t => True) := by
  refine zs_it (I := fun s => (True ∧ zs_in (s.2).toInt 0 6)) (m := fun s => 6 - s.2.toInt) (fun s hs => ?_) (fun s hs => ?_) (by exact h0)
  · have h1 := hs.2; unfold zs_in at h1
    omega
  · obtain ⟨b, eb, hb⟩ := zc_1379 h_σ h_x1 hs.2 (c := s.2.toInt) (Int.add_zero _).symm
    exact ⟨b, eb, zs_sumw hb (fun v w => ⟨⟨w.1.1, (zs_w w.1.2 (by decide))⟩, by have := w.2; omega⟩) (fun v w => w)⟩
-- fX3_moneyAt
theorem zc_1380 {σ0 : sn_S} {σ : sn_S} (h_σ : zs_C σ0 σ) {x1 : Int32} (h_x1 : zs_in x1.toInt 0 5) : zs_ok (fX3_moneyAt σ 70 x1) (fun r => True) := by
  unfold fX3_moneyAt
  refine zs_lt (Q := fun z => True) trivial (fun y_1 hy_1 => ?_)
  refine zs_bd_ (zd_268 h_σ h_x1 (s0 := (y_1, (0 : Int32))) ⟨trivial, (zs_w zlI_0 (by decide))⟩) (fun t_3 pt_3 => ?_)
  obtain ⟨ret, er, hr⟩ := zc_1266 h_σ
  refine ⟨ret, er, ?_⟩
  exact hr
-- BX3_firstBelow_2
theorem zc_1381 {σ0 : sn_S} {σ : sn_S} (h_σ : zs_C σ0 σ) {x1 : Int32} (h_x1 : zs_in x1.toInt 6 6) {x2 : Int32} (h_x2 : zs_in x2.toInt 0 6) {c : Int} (hc : x2.toInt = c + 0) : zs_ok (BX3_firstBelow_2 σ 70 x1 x2) (fun r => zs_sum (fun v => (zs_in (v).toInt 1 6) ∧ v.toInt = c + 1) (fun v => zs_sum (fun v => True) (fun v => zs_in (v).toInt 0 5) v) r) := by
  unfold BX3_firstBelow_2
  obtain rfl : x1 = (6 : Int32) := zs_eqv h_x1 (by decide)
  refine zs_ite (fun c1 => ?_) (fun c1 => ?_)
  · skip
    have r2 := (zs_I_le c1)
    have g3 : zs_in (x2).toInt 6 6 := (zs_ler 6 6 r2 h_x1 h_x2 (by decide))
    exact zs_some (zs_inr ((zs_inl (trivial))))
  · skip
    have r4 := (zs_I_len c1)
    have g5 : zs_in (x2).toInt 0 5 := (zs_ltl 0 5 r4 h_x2 h_x1 (by decide))
    refine zs_bd_ (zc_1380 h_σ g5) (fun t_2 pt_2 => ?_)
    refine zs_ite (fun c6 => ?_) (fun c6 => ?_)
    · skip
      have r7 := (zs_I_le c6)
      have g8 : zs_in (t_2).toInt 0 2147483647 := (zs_ler 0 2147483647 r7 zlI_0 (zs_topI _) (by decide))
      refine zs_lt (Q := fun z => zs_in z.toInt 1 6 ∧ z.toInt = c + 1) ⟨(zs_addI 1 6 g5 zlI_1 (by decide)), (zs_syI 1 hc g5 zlI_1 (by decide) (by decide))⟩ (fun y_5 hy_5 => ?_)
      exact zs_some (zs_inl ⟨hy_5.1, hy_5.2⟩)
    · skip
      have r9 := (zs_I_len c6)
      have g10 : zs_in (t_2).toInt (-2147483648) (-1) := (zs_ltl (-2147483648) (-1) r9 (zs_topI _) zlI_0 (by decide))
      exact zs_some (zs_inr ((zs_inr (g5))))
theorem zd_269 {σ0 : sn_S} {σ : sn_S} (h_σ : zs_C σ0 σ) {x1 : Int32} (h_x1 : zs_in x1.toInt 6 6) {s0 : Int32} (h0 : zs_in (s0).toInt 0 6) : zs_ok (sn_it (LX3_firstBelow_2 σ 70 x1) 5000 s0) (fun t => zs_sum (fun v => True) (fun v => zs_in (v).toInt 0 5) t) := by
  refine zs_it (I := fun s => zs_in (s).toInt 0 6) (m := fun s => 6 - s.toInt) (fun s hs => ?_) (fun s hs => ?_) (by exact h0)
  · have h1 := hs; unfold zs_in at h1
    omega
  · obtain ⟨b, eb, hb⟩ := zc_1381 h_σ h_x1 hs (c := s.toInt) (Int.add_zero _).symm
    exact ⟨b, eb, zs_sumw hb (fun v w => ⟨(zs_w w.1 (by decide)), by have := w.2; omega⟩) (fun v w => w)⟩
-- fX3_firstBelow
theorem zc_1382 {σ0 : sn_S} {σ : sn_S} (h_σ : zs_C σ0 σ) {x1 : Int32} (h_x1 : zs_in x1.toInt 6 6) : zs_ok (fX3_firstBelow σ 70 x1) (fun r => zs_in (r).toInt (-1) 5) := by
  unfold fX3_firstBelow
  obtain rfl : x1 = (6 : Int32) := zs_eqv h_x1 (by decide)
  refine zs_bd_ (zd_269 h_σ h_x1 (s0 := (0 : Int32)) (zs_w zlI_0 (by decide))) (fun t_1 pt_1 => ?_)
  refine zs_elim pt_1 (fun v_3 pv_3 => ?_) (fun r_4 pr_4 => ?_)
  · skip
    obtain ⟨ret, er, hr⟩ := zc_1269 h_σ
    refine ⟨ret, er, ?_⟩
    exact (zs_w hr (by decide))
  · skip
    exact zs_some (zs_w pr_4 (by decide))
-- fX4_worth
theorem zc_1383 {σ0 : sn_S} {σ : sn_S} (h_σ : zs_C σ0 σ) {x2 : Int32} (h_x2 : zs_in x2.toInt 2 2) {x3 : Int32} (h_x3 : zs_in x3.toInt (-1) (-1)) {x4 : Int32} (h_x4 : zs_in x4.toInt 6 6) : zs_ok (fX4_worth σ 1 x2 x3 x4) (fun r => (zs_in (r.1).toInt 0 1 ∧ zs_C σ0 r.2)) := by
  unfold fX4_worth
  obtain rfl : x2 = (2 : Int32) := zs_eqv h_x2 (by decide)
  obtain rfl : x3 = (-1 : Int32) := zs_eqv h_x3 (by decide)
  obtain rfl : x4 = (6 : Int32) := zs_eqv h_x4 (by decide)
  refine zs_ite (fun c1 => ?_) (fun c1 => ?_)
  · skip
    have r2 := (zs_I_eq c1)
    exact (zs_botr r2 h_x2 zlI_0 (by decide)).elim
  · skip
    have r3 := (zs_I_eqn c1)
    refine zs_gd (zs_gin zlI_2 (by decide)) ?_
    refine zs_bd_ (zo_reckon_70_59_0_3 h_σ (zs_rdk (q := 2) (k := (2 : Int32).toNatClampNeg) (z := (0, 3)) h_σ.1 rfl)) (fun t_3 pt_3 => ?_)
    refine zs_ite (fun c4 => ?_) (fun c4 => ?_)
    · skip
      have r5 := (zs_I_eq c4)
      exact (zs_botr r5 h_x2 zlI_1 (by decide)).elim
    · skip
      have r6 := (zs_I_eqn c4)
      refine zs_bd_ (zc_1382 pt_3 h_x4) (fun t_6 pt_6 => ?_)
      refine zs_ite (fun c7 => ?_) (fun c7 => ?_)
      · skip
        have r8 := (zs_I_eq c7)
        have g9 : zs_in (t_6).toInt (-1) (-1) := (zs_eql (-1) (-1) r8 pt_6 zlI_m1 (by decide))
        exact zs_some ⟨(zs_w zlL_0 (by decide)), pt_3⟩
      · skip
        have r10 := (zs_I_eqn c7)
        have g11 : zs_in (t_6).toInt 0 5 := (zs_nel 0 5 r10 pt_6 zlI_m1 (by decide))
        exact zs_some ⟨(zs_w zlL_1 (by decide)), pt_3⟩
-- BX4_reckon_139
theorem zc_1384 {σ0 : sn_S} {σ : sn_S} (h_σ : zs_C σ0 σ) {x3 : Int32} (h_x3 : zs_in x3.toInt 2 2) {x4 : Int32} (h_x4 : zs_in x4.toInt (-1) (-1)) {x6 : Int32} (h_x6 : zs_in x6.toInt 6 6) {x7 : Int32} (h_x7 : zs_in x7.toInt 0 0) {t1 : Int32} (h_t1 : zs_in t1.toInt 0 0) {t2 : Int32} (h_t2 : zs_in t2.toInt 0 30) {c : Int} (hc : x7.toInt = c + 0) : zs_ok (BX4_reckon_139 σ 1 27 x3 x4 x6 x7 t1 t2) (fun r => zs_sum (fun v => ((zs_C σ0 v.1 ∧ zs_in (v.2).toInt 1 1)) ∧ v.2.toInt = c + 1) (fun v => False) r) := by
  unfold BX4_reckon_139
  obtain rfl : x3 = (2 : Int32) := zs_eqv h_x3 (by decide)
  obtain rfl : x4 = (-1 : Int32) := zs_eqv h_x4 (by decide)
  obtain rfl : x6 = (6 : Int32) := zs_eqv h_x6 (by decide)
  obtain rfl : t1 = (0 : Int32) := zs_eqv h_t1 (by decide)
  refine zs_bd_ (zc_1263 h_σ h_t1 h_t2) (fun t_1 pt_1 => ?_)
  refine zs_bd_ (zo_bc 0 0 (by decide) h_x7) (fun t_3 pt_3 => ?_)
  refine zs_gd (zs_gin pt_3 (by decide)) ?_
  refine zs_bd_ (zc_1383 pt_1 h_x3 h_x4 h_x6) (fun t_6 pt_6 => ?_)
  refine zs_lt (Q := fun z => zs_C σ0 z) (zs_wrL pt_6.2 rfl) (fun σ_8 hσ_8 => ?_)
  refine zs_lt (Q := fun z => zs_in z.toInt 1 1 ∧ z.toInt = c + 1) ⟨(zs_addI 1 1 h_x7 zlI_1 (by decide)), (zs_syI 1 hc h_x7 zlI_1 (by decide) (by decide))⟩ (fun y_10 hy_10 => ?_)
  exact zs_some (zs_inl ⟨⟨hσ_8, hy_10.1⟩, hy_10.2⟩)
-- BX4_reckon_119
theorem zc_1385 {σ0 : sn_S} {σ : sn_S} (h_σ : zs_C σ0 σ) {x3 : Int32} (h_x3 : zs_in x3.toInt 2 2) {x4 : Int32} (h_x4 : zs_in x4.toInt (-1) (-1)) {x6 : Int32} (h_x6 : zs_in x6.toInt 6 6) {x7 : Int32} (h_x7 : zs_in x7.toInt 0 0) {x8 : Int32} (h_x8 : zs_in x8.toInt 0 0) {c : Int} (hc : x7.toInt = c + 0) : zs_ok (BX4_reckon_119 σ 1 27 x3 x4 x6 x7 x8) (fun r => zs_sum (fun v => ((zs_C σ0 v.1 ∧ zs_in (v.2).toInt 1 1)) ∧ v.2.toInt = c + 1) (fun v => False) r) := by
  unfold BX4_reckon_119
  obtain rfl : x3 = (2 : Int32) := zs_eqv h_x3 (by decide)
  obtain rfl : x4 = (-1 : Int32) := zs_eqv h_x4 (by decide)
  obtain rfl : x6 = (6 : Int32) := zs_eqv h_x6 (by decide)
  obtain rfl : x8 = (0 : Int32) := zs_eqv h_x8 (by decide)
  refine zs_ite (fun c1 => ?_) (fun c1 => ?_)
  · skip
    have r2 := (zs_I_eq c1)
    obtain ⟨ret, er, hr⟩ := zc_1384 h_σ h_x3 h_x4 h_x6 h_x7 h_x8 (zs_rdk (q := 27) (k := 0) (z := (0, 30)) h_σ.1 rfl) hc
    refine ⟨ret, er, ?_⟩
    exact (zs_sumw hr (fun v w => ⟨w.1, w.2⟩) (fun v w => w.elim))
  · skip
    have r3 := (zs_I_eqn c1)
    exact (zs_botne r3 h_x3 zlI_2 (by decide)).elim
-- BX4_reckon_62
theorem zc_1386 {σ0 : sn_S} {σ : sn_S} (h_σ : zs_C σ0 σ) {x3 : Int32} (h_x3 : zs_in x3.toInt 2 2) {x4 : Int32} (h_x4 : zs_in x4.toInt (-1) (-1)) {x6 : Int32} (h_x6 : zs_in x6.toInt 6 6) {x7 : Int32} (h_x7 : zs_in x7.toInt 0 0) {t0 : Int32} (h_t0 : zs_in t0.toInt 0 0) {c : Int} (hc : x7.toInt = c + 0) : zs_ok (BX4_reckon_62 σ 1 27 x3 x4 x6 x7 t0) (fun r => zs_sum (fun v => ((zs_C σ0 v.1 ∧ zs_in (v.2).toInt 1 1)) ∧ v.2.toInt = c + 1) (fun v => False) r) := by
  unfold BX4_reckon_62
  obtain rfl : x3 = (2 : Int32) := zs_eqv h_x3 (by decide)
  obtain rfl : x4 = (-1 : Int32) := zs_eqv h_x4 (by decide)
  obtain rfl : x6 = (6 : Int32) := zs_eqv h_x6 (by decide)
  obtain rfl : t0 = (0 : Int32) := zs_eqv h_t0 (by decide)
  refine zs_bd_ (zd_267 h_x3 h_x4 h_x6 h_x7 h_t0 (s0 := (σ, (0 : Int32))) ⟨h_σ, (zs_w h_t0 (by decide))⟩) (fun t_1 pt_1 => ?_)
  obtain ⟨ret, er, hr⟩ := zc_1385 pt_1 h_x3 h_x4 h_x6 h_x7 h_t0 hc
  refine ⟨ret, er, ?_⟩
  exact (zs_sumw hr (fun v w => ⟨w.1, w.2⟩) (fun v w => w.elim))
-- BX4_reckon_111
theorem zc_1387 {σ0 : sn_S} {σ : sn_S} (h_σ : zs_C σ0 σ) {x3 : Int32} (h_x3 : zs_in x3.toInt 2 2) {x4 : Int32} (h_x4 : zs_in x4.toInt (-1) (-1)) {x6 : Int32} (h_x6 : zs_in x6.toInt 6 6) {x7 : Int32} (h_x7 : zs_in x7.toInt 1 63) {x8 : Int32} (h_x8 : zs_in x8.toInt 0 5) {x9 : Int32} (h_x9 : zs_in x9.toInt 0 5) {t1 : Int32} (h_t1 : zs_in t1.toInt 0 5) {t2 : Int32} {t3 : Int32} (h_t3 : zs_in t3.toInt 0 0) {c : Int} (hc : x9.toInt = c + 0) : zs_ok (BX4_reckon_111 σ 1 27 x3 x4 x6 x7 x8 x9 t1 t2 t3) (fun r => zs_sum (fun v => ((zs_C σ0 v.1 ∧ zs_in (v.2).toInt 1 6)) ∧ v.2.toInt = c + 1) (fun v => False) r) := by
  unfold BX4_reckon_111
  obtain rfl : x3 = (2 : Int32) := zs_eqv h_x3 (by decide)
  obtain rfl : x4 = (-1 : Int32) := zs_eqv h_x4 (by decide)
  obtain rfl : x6 = (6 : Int32) := zs_eqv h_x6 (by decide)
  obtain rfl : t3 = (0 : Int32) := zs_eqv h_t3 (by decide)
  refine zs_gd (zs_gin h_t1 (by decide)) ?_
  refine zs_lt (Q := fun z => zs_C σ0 z) (zs_wrt h_σ (fun _ => rfl) (fun _ => rfl)) (fun σ_2 hσ_2 => ?_)
  refine zs_lt (Q := fun z => zs_in z.toInt 1 6 ∧ z.toInt = c + 1) ⟨(zs_addI 1 6 h_x9 zlI_1 (by decide)), (zs_syI 1 hc h_x9 zlI_1 (by decide) (by decide))⟩ (fun y_4 hy_4 => ?_)
  exact zs_some (zs_inl ⟨⟨hσ_2, hy_4.1⟩, hy_4.2⟩)
-- BX4_reckon_111
theorem zc_1388 {σ0 : sn_S} {σ : sn_S} (h_σ : zs_C σ0 σ) {x3 : Int32} (h_x3 : zs_in x3.toInt 2 2) {x4 : Int32} (h_x4 : zs_in x4.toInt (-1) (-1)) {x6 : Int32} (h_x6 : zs_in x6.toInt 6 6) {x7 : Int32} (h_x7 : zs_in x7.toInt 1 63) {x8 : Int32} (h_x8 : zs_in x8.toInt 0 5) {x9 : Int32} (h_x9 : zs_in x9.toInt 0 5) {t1 : Int32} (h_t1 : zs_in t1.toInt 0 5) {t2 : Int32} {t3 : Int32} (h_t3 : zs_in t3.toInt 3 3) {c : Int} (hc : x9.toInt = c + 0) : zs_ok (BX4_reckon_111 σ 1 27 x3 x4 x6 x7 x8 x9 t1 t2 t3) (fun r => zs_sum (fun v => ((zs_C σ0 v.1 ∧ zs_in (v.2).toInt 1 6)) ∧ v.2.toInt = c + 1) (fun v => False) r) := by
  unfold BX4_reckon_111
  obtain rfl : x3 = (2 : Int32) := zs_eqv h_x3 (by decide)
  obtain rfl : x4 = (-1 : Int32) := zs_eqv h_x4 (by decide)
  obtain rfl : x6 = (6 : Int32) := zs_eqv h_x6 (by decide)
  obtain rfl : t3 = (3 : Int32) := zs_eqv h_t3 (by decide)
  refine zs_gd (zs_gin h_t1 (by decide)) ?_
  refine zs_lt (Q := fun z => zs_C σ0 z) (zs_wrt h_σ (fun _ => rfl) (fun _ => rfl)) (fun σ_2 hσ_2 => ?_)
  refine zs_lt (Q := fun z => zs_in z.toInt 1 6 ∧ z.toInt = c + 1) ⟨(zs_addI 1 6 h_x9 zlI_1 (by decide)), (zs_syI 1 hc h_x9 zlI_1 (by decide) (by decide))⟩ (fun y_4 hy_4 => ?_)
  exact zs_some (zs_inl ⟨⟨hσ_2, hy_4.1⟩, hy_4.2⟩)
-- BX4_reckon_68
theorem zc_1389 {σ0 : sn_S} {σ : sn_S} (h_σ : zs_C σ0 σ) {x3 : Int32} (h_x3 : zs_in x3.toInt 2 2) {x4 : Int32} (h_x4 : zs_in x4.toInt (-1) (-1)) {x6 : Int32} (h_x6 : zs_in x6.toInt 6 6) {x7 : Int32} (h_x7 : zs_in x7.toInt 1 63) {x8 : Int32} (h_x8 : zs_in x8.toInt 0 5) {x9 : Int32} (h_x9 : zs_in x9.toInt 0 6) {c : Int} (hc : x9.toInt = c + 0) : zs_ok (BX4_reckon_68 σ 1 27 x3 x4 x6 x7 x8 x9) (fun r => zs_sum (fun v => ((zs_C σ0 v.1 ∧ zs_in (v.2).toInt 1 6)) ∧ v.2.toInt = c + 1) (fun v => zs_C σ0 v) r) := by
  unfold BX4_reckon_68
  obtain rfl : x3 = (2 : Int32) := zs_eqv h_x3 (by decide)
  obtain rfl : x4 = (-1 : Int32) := zs_eqv h_x4 (by decide)
  obtain rfl : x6 = (6 : Int32) := zs_eqv h_x6 (by decide)
  refine zs_ite (fun c1 => ?_) (fun c1 => ?_)
  · skip
    have r2 := (zs_I_le c1)
    have g3 : zs_in (x9).toInt 6 6 := (zs_ler 6 6 r2 h_x6 h_x9 (by decide))
    exact zs_some (zs_inr (h_σ))
  · skip
    have r4 := (zs_I_len c1)
    have g5 : zs_in (x9).toInt 0 5 := (zs_ltl 0 5 r4 h_x9 h_x6 (by decide))
    refine zs_gd (zs_gin g5 (by decide)) ?_
    refine zs_bd_ (zc_984 h_x7 (zs_subI 0 5 (zs_subI 5 5 h_x6 zlI_1 (by decide)) g5 (by decide))) (fun t_3 pt_3 => ?_)
    refine zs_ite (fun c6 => ?_) (fun c6 => ?_)
    · skip
      have r7 := (zs_I_eq c6)
      have g8 : zs_in (t_3).toInt 0 0 := (zs_eql 0 0 r7 pt_3 zlI_0 (by decide))
      obtain ⟨ret, er, hr⟩ := zc_1387 h_σ h_x3 h_x4 h_x6 h_x7 h_x8 g5 g5 zlI_0 hc
      refine ⟨ret, er, ?_⟩
      exact (zs_sumw hr (fun v w => ⟨w.1, w.2⟩) (fun v w => w.elim))
    · skip
      have r9 := (zs_I_eqn c6)
      have g10 : zs_in (t_3).toInt 1 1 := (zs_nel 1 1 r9 pt_3 zlI_0 (by decide))
      obtain ⟨ret, er, hr⟩ := zc_1388 h_σ h_x3 h_x4 h_x6 h_x7 h_x8 g5 g5 zlI_3 hc
      refine ⟨ret, er, ?_⟩
      exact (zs_sumw hr (fun v w => ⟨w.1, w.2⟩) (fun v w => w.elim))
theorem zd_270 {σ0 : sn_S} {x3 : Int32} (h_x3 : zs_in x3.toInt 2 2) {x4 : Int32} (h_x4 : zs_in x4.toInt (-1) (-1)) {x6 : Int32} (h_x6 : zs_in x6.toInt 6 6) {x7 : Int32} (h_x7 : zs_in x7.toInt 1 63) {x8 : Int32} (h_x8 : zs_in x8.toInt 0 5) {s0 : (sn_S × Int32)} (h0 : (zs_C σ0 s0.1 ∧ zs_in (s0.2).toInt 0 6)) : zs_ok (sn_it (LX4_reckon_68 1 27 x3 x4 x6 x7 x8) 5000 s0) (fun t => zs_C σ0 t) := by
  refine zs_it (I := fun s => (zs_C σ0 s.1 ∧ zs_in (s.2).toInt 0 6)) (m := fun s => 6 - s.2.toInt) (fun s hs => ?_) (fun s hs => ?_) (by exact h0)
  · have h1 := hs.2; unfold zs_in at h1
    omega
  · obtain ⟨b, eb, hb⟩ := zc_1389 hs.1 h_x3 h_x4 h_x6 h_x7 h_x8 hs.2 (c := s.2.toInt) (Int.add_zero _).symm
    exact ⟨b, eb, zs_sumw hb (fun v w => ⟨⟨w.1.1, (zs_w w.1.2 (by decide))⟩, by have := w.2; omega⟩) (fun v w => w)⟩
-- BX0_live_2
theorem zc_1390 {σ0 : sn_S} {σ : sn_S} (h_σ : zs_C σ0 σ) {x1 : Int32} (h_x1 : zs_in x1.toInt 0 5) {x2 : Int32} (h_x2 : zs_in x2.toInt 0 30) {x3 : Int32} (h_x3 : zs_in x3.toInt 0 6) {c : Int} (hc : x3.toInt = c + 0) : zs_ok (BX0_live_2 σ 59 x1 x2 x3) (fun r => zs_sum (fun v => ((zs_C σ0 v.1 ∧ zs_in (v.2).toInt 1 6)) ∧ v.2.toInt = c + 1) (fun v => zs_C σ0 v) r) := by
  unfold BX0_live_2
  refine zs_ite (fun c1 => ?_) (fun c1 => ?_)
  · skip
    have r2 := (zs_I_le c1)
    exact zs_some (zs_inr (h_σ))
  · skip
    have r3 := (zs_I_len c1)
    have g4 : zs_in (x3).toInt 0 5 := (zs_ltl 0 5 r3 h_x3 (zs_rdk (q := 59) (k := 1) (z := (0, 6)) h_σ.1 rfl) (by decide))
    have g5 : zs_in ((sn_I σ 59 1)).toInt 1 6 := (zs_ltr 1 6 r3 h_x3 (zs_rdk (q := 59) (k := 1) (z := (0, 6)) h_σ.1 rfl) (by decide))
    refine zs_gd (zs_gin g4 (by decide)) ?_
    refine zs_bd_ (zc_988 h_x1) (fun t_3 pt_3 => ?_)
    refine zs_gd (zs_gin g4 (by decide)) ?_
    refine zs_lt (Q := fun z => zs_C σ0 z) (zs_wru (z := (0, 1073741823)) h_σ (fun _ => rfl) (zs_and pt_3 (by decide)) (by decide) (fun _ => rfl)) (fun σ_6 hσ_6 => ?_)
    refine zs_lt (Q := fun z => zs_in z.toInt 1 6 ∧ z.toInt = c + 1) ⟨(zs_addI 1 6 g4 zlI_1 (by decide)), (zs_syI 1 hc g4 zlI_1 (by decide) (by decide))⟩ (fun y_8 hy_8 => ?_)
    exact zs_some (zs_inl ⟨⟨hσ_6, hy_8.1⟩, hy_8.2⟩)
theorem zd_271 {σ0 : sn_S} {x1 : Int32} (h_x1 : zs_in x1.toInt 0 5) {x2 : Int32} (h_x2 : zs_in x2.toInt 0 30) {s0 : (sn_S × Int32)} (h0 : (zs_C σ0 s0.1 ∧ zs_in (s0.2).toInt 0 6)) : zs_ok (sn_it (LX0_live_2 59 x1 x2) 5000 s0) (fun t => zs_C σ0 t) := by
  refine zs_it (I := fun s => (zs_C σ0 s.1 ∧ zs_in (s.2).toInt 0 6)) (m := fun s => 6 - s.2.toInt) (fun s hs => ?_) (fun s hs => ?_) (by exact h0)
  · have h1 := hs.2; unfold zs_in at h1
    omega
  · obtain ⟨b, eb, hb⟩ := zc_1390 hs.1 h_x1 h_x2 hs.2 (c := s.2.toInt) (Int.add_zero _).symm
    exact ⟨b, eb, zs_sumw hb (fun v w => ⟨⟨w.1.1, (zs_w w.1.2 (by decide))⟩, by have := w.2; omega⟩) (fun v w => w)⟩
-- BX0_live_29
theorem zc_1391 {σ0 : sn_S} {σ : sn_S} (h_σ : zs_C σ0 σ) {x1 : Int32} (h_x1 : zs_in x1.toInt 0 5) {x2 : Int32} (h_x2 : zs_in x2.toInt 0 30) : zs_ok (BX0_live_29 σ 59 x1 x2) (fun r => zs_C σ0 r) := by
  unfold BX0_live_29
  refine zs_bd_ (zd_238 h_x2 (s0 := (σ, x1)) ⟨h_σ, (zs_w h_x1 (by decide))⟩) (fun t_1 pt_1 => ?_)
  obtain ⟨ret, er, hr⟩ := zc_697 pt_1
  refine ⟨ret, er, ?_⟩
  exact hr
-- fX0_live
theorem zc_1392 {σ0 : sn_S} {σ : sn_S} (h_σ : zs_C σ0 σ) {x1 : Int32} (h_x1 : zs_in x1.toInt 0 5) {x2 : Int32} (h_x2 : zs_in x2.toInt 0 30) : zs_ok (fX0_live σ 59 x1 x2) (fun r => zs_C σ0 r) := by
  unfold fX0_live
  refine zs_bd_ (zd_271 h_x1 h_x2 (s0 := (σ, (0 : Int32))) ⟨h_σ, (zs_w zlI_0 (by decide))⟩) (fun t_1 pt_1 => ?_)
  obtain ⟨ret, er, hr⟩ := zc_1391 pt_1 h_x1 h_x2
  refine ⟨ret, er, ?_⟩
  exact hr
-- BX4_reckon_139
theorem zc_1393 {σ0 : sn_S} {σ : sn_S} (h_σ : zs_C σ0 σ) {x3 : Int32} (h_x3 : zs_in x3.toInt 2 2) {x4 : Int32} (h_x4 : zs_in x4.toInt (-1) (-1)) {x6 : Int32} (h_x6 : zs_in x6.toInt 6 6) {x7 : Int32} (h_x7 : zs_in x7.toInt 1 63) {t1 : Int32} (h_t1 : zs_in t1.toInt 0 5) {t2 : Int32} (h_t2 : zs_in t2.toInt 0 30) {c : Int} (hc : x7.toInt = c + 0) : zs_ok (BX4_reckon_139 σ 1 27 x3 x4 x6 x7 t1 t2) (fun r => zs_sum (fun v => ((zs_C σ0 v.1 ∧ zs_in (v.2).toInt 2 64)) ∧ v.2.toInt = c + 1) (fun v => False) r) := by
  unfold BX4_reckon_139
  obtain rfl : x3 = (2 : Int32) := zs_eqv h_x3 (by decide)
  obtain rfl : x4 = (-1 : Int32) := zs_eqv h_x4 (by decide)
  obtain rfl : x6 = (6 : Int32) := zs_eqv h_x6 (by decide)
  refine zs_bd_ (zc_1392 h_σ h_t1 h_t2) (fun t_1 pt_1 => ?_)
  refine zs_bd_ (zo_bc 6 6 (by decide) h_x7) (fun t_3 pt_3 => ?_)
  refine zs_gd (zs_gin pt_3 (by decide)) ?_
  refine zs_bd_ (zc_1383 pt_1 h_x3 h_x4 h_x6) (fun t_6 pt_6 => ?_)
  refine zs_lt (Q := fun z => zs_C σ0 z) (zs_wrL pt_6.2 rfl) (fun σ_8 hσ_8 => ?_)
  refine zs_lt (Q := fun z => zs_in z.toInt 2 64 ∧ z.toInt = c + 1) ⟨(zs_addI 2 64 h_x7 zlI_1 (by decide)), (zs_syI 1 hc h_x7 zlI_1 (by decide) (by decide))⟩ (fun y_10 hy_10 => ?_)
  exact zs_some (zs_inl ⟨⟨hσ_8, hy_10.1⟩, hy_10.2⟩)
-- BX4_reckon_119
theorem zc_1394 {σ0 : sn_S} {σ : sn_S} (h_σ : zs_C σ0 σ) {x3 : Int32} (h_x3 : zs_in x3.toInt 2 2) {x4 : Int32} (h_x4 : zs_in x4.toInt (-1) (-1)) {x6 : Int32} (h_x6 : zs_in x6.toInt 6 6) {x7 : Int32} (h_x7 : zs_in x7.toInt 1 63) {x8 : Int32} (h_x8 : zs_in x8.toInt 0 5) {c : Int} (hc : x7.toInt = c + 0) : zs_ok (BX4_reckon_119 σ 1 27 x3 x4 x6 x7 x8) (fun r => zs_sum (fun v => ((zs_C σ0 v.1 ∧ zs_in (v.2).toInt 2 64)) ∧ v.2.toInt = c + 1) (fun v => False) r) := by
  unfold BX4_reckon_119
  obtain rfl : x3 = (2 : Int32) := zs_eqv h_x3 (by decide)
  obtain rfl : x4 = (-1 : Int32) := zs_eqv h_x4 (by decide)
  obtain rfl : x6 = (6 : Int32) := zs_eqv h_x6 (by decide)
  refine zs_ite (fun c1 => ?_) (fun c1 => ?_)
  · skip
    have r2 := (zs_I_eq c1)
    obtain ⟨ret, er, hr⟩ := zc_1393 h_σ h_x3 h_x4 h_x6 h_x7 h_x8 (zs_rdk (q := 27) (k := 0) (z := (0, 30)) h_σ.1 rfl) hc
    refine ⟨ret, er, ?_⟩
    exact (zs_sumw hr (fun v w => ⟨w.1, w.2⟩) (fun v w => w.elim))
  · skip
    have r3 := (zs_I_eqn c1)
    exact (zs_botne r3 h_x3 zlI_2 (by decide)).elim
-- BX4_reckon_62
theorem zc_1395 {σ0 : sn_S} {σ : sn_S} (h_σ : zs_C σ0 σ) {x3 : Int32} (h_x3 : zs_in x3.toInt 2 2) {x4 : Int32} (h_x4 : zs_in x4.toInt (-1) (-1)) {x6 : Int32} (h_x6 : zs_in x6.toInt 6 6) {x7 : Int32} (h_x7 : zs_in x7.toInt 1 63) {t0 : Int32} (h_t0 : zs_in t0.toInt 0 5) {c : Int} (hc : x7.toInt = c + 0) : zs_ok (BX4_reckon_62 σ 1 27 x3 x4 x6 x7 t0) (fun r => zs_sum (fun v => ((zs_C σ0 v.1 ∧ zs_in (v.2).toInt 2 64)) ∧ v.2.toInt = c + 1) (fun v => False) r) := by
  unfold BX4_reckon_62
  obtain rfl : x3 = (2 : Int32) := zs_eqv h_x3 (by decide)
  obtain rfl : x4 = (-1 : Int32) := zs_eqv h_x4 (by decide)
  obtain rfl : x6 = (6 : Int32) := zs_eqv h_x6 (by decide)
  refine zs_bd_ (zd_270 h_x3 h_x4 h_x6 h_x7 h_t0 (s0 := (σ, t0)) ⟨h_σ, (zs_w h_t0 (by decide))⟩) (fun t_1 pt_1 => ?_)
  obtain ⟨ret, er, hr⟩ := zc_1394 pt_1 h_x3 h_x4 h_x6 h_x7 h_t0 hc
  refine ⟨ret, er, ?_⟩
  exact (zs_sumw hr (fun v w => ⟨w.1, w.2⟩) (fun v w => w.elim))
-- BX4_reckon_34
theorem zc_1396 {σ0 : sn_S} {σ : sn_S} (h_σ : zs_C σ0 σ) {x3 : Int32} (h_x3 : zs_in x3.toInt 2 2) {x4 : Int32} (h_x4 : zs_in x4.toInt (-1) (-1)) {x6 : Int32} (h_x6 : zs_in x6.toInt 6 6) {x7 : Int32} (h_x7 : zs_in x7.toInt 0 64) {c : Int} (hc : x7.toInt = c + 0) : zs_ok (BX4_reckon_34 σ 1 27 x3 x4 x6 x7) (fun r => zs_sum (fun v => ((zs_C σ0 v.1 ∧ zs_in (v.2).toInt 1 64)) ∧ v.2.toInt = c + 1) (fun v => zs_C σ0 v) r) := by
  unfold BX4_reckon_34
  obtain rfl : x3 = (2 : Int32) := zs_eqv h_x3 (by decide)
  obtain rfl : x4 = (-1 : Int32) := zs_eqv h_x4 (by decide)
  obtain rfl : x6 = (6 : Int32) := zs_eqv h_x6 (by decide)
  refine zs_ite (fun c1 => ?_) (fun c1 => ?_)
  · skip
    have r2 := (zs_I_le c1)
    have g3 : zs_in (x7).toInt 64 64 := (zs_ler 64 64 r2 (zs_cases h_x6 (fun z => zs_in ((1 : Int32) <<< (z &&& 31)).toInt 64 64) (by decide +kernel)) h_x7 (by decide))
    exact zs_some (zs_inr (h_σ))
  · skip
    have r4 := (zs_I_len c1)
    have g5 : zs_in (x7).toInt 0 63 := (zs_ltl 0 63 r4 h_x7 (zs_cases h_x6 (fun z => zs_in ((1 : Int32) <<< (z &&& 31)).toInt 64 64) (by decide +kernel)) (by decide))
    refine zs_ite (fun c6 => ?_) (fun c6 => ?_)
    · skip
      have r7 := (zs_I_eq c6)
      have g8 : zs_in (x7).toInt 0 0 := (zs_eql 0 0 r7 g5 zlI_0 (by decide))
      obtain ⟨ret, er, hr⟩ := zc_1386 h_σ h_x3 h_x4 h_x6 g8 zlI_0 hc
      refine ⟨ret, er, ?_⟩
      exact (zs_sumw hr (fun v w => ⟨⟨w.1.1, (zs_w w.1.2 (by decide))⟩, w.2⟩) (fun v w => w.elim))
    · skip
      have r9 := (zs_I_eqn c6)
      have g10 : zs_in (x7).toInt 1 63 := (zs_nel 1 63 r9 g5 zlI_0 (by decide))
      refine zs_bd_ (zo_low1 6 5 (by decide) g10) (fun t_3 pt_3 => ?_)
      obtain ⟨ret, er, hr⟩ := zc_1395 h_σ h_x3 h_x4 h_x6 g10 (zs_subI 0 5 (zs_subI 5 5 h_x6 zlI_1 (by decide)) pt_3 (by decide)) hc
      refine ⟨ret, er, ?_⟩
      exact (zs_sumw hr (fun v w => ⟨⟨w.1.1, (zs_w w.1.2 (by decide))⟩, w.2⟩) (fun v w => w.elim))
theorem zd_272 {σ0 : sn_S} {x3 : Int32} (h_x3 : zs_in x3.toInt 2 2) {x4 : Int32} (h_x4 : zs_in x4.toInt (-1) (-1)) {x6 : Int32} (h_x6 : zs_in x6.toInt 6 6) {s0 : (sn_S × Int32)} (h0 : (zs_C σ0 s0.1 ∧ zs_in (s0.2).toInt 0 64)) : zs_ok (sn_it (LX4_reckon_34 1 27 x3 x4 x6) 5000 s0) (fun t => zs_C σ0 t) := by
  refine zs_it (I := fun s => (zs_C σ0 s.1 ∧ zs_in (s.2).toInt 0 64)) (m := fun s => 64 - s.2.toInt) (fun s hs => ?_) (fun s hs => ?_) (by exact h0)
  · have h1 := hs.2; unfold zs_in at h1
    omega
  · obtain ⟨b, eb, hb⟩ := zc_1396 hs.1 h_x3 h_x4 h_x6 hs.2 (c := s.2.toInt) (Int.add_zero _).symm
    exact ⟨b, eb, zs_sumw hb (fun v w => ⟨⟨w.1.1, (zs_w w.1.2 (by decide))⟩, by have := w.2; omega⟩) (fun v w => w)⟩
-- fX4_reckon
theorem zc_1397 {σ0 : sn_S} {σ : sn_S} (h_σ : zs_C σ0 σ) {x3 : Int32} (h_x3 : zs_in x3.toInt 2 2) {x4 : Int32} (h_x4 : zs_in x4.toInt (-1) (-1)) {x5 : Int32} (h_x5 : zs_in x5.toInt 5 5) : zs_ok (fX4_reckon σ 1 27 x3 x4 x5) (fun r => zs_C σ0 r) := by
  unfold fX4_reckon
  obtain rfl : x3 = (2 : Int32) := zs_eqv h_x3 (by decide)
  obtain rfl : x4 = (-1 : Int32) := zs_eqv h_x4 (by decide)
  obtain rfl : x5 = (5 : Int32) := zs_eqv h_x5 (by decide)
  refine zs_lt (Q := fun z => zs_in z.toInt 6 6) (zs_addI 6 6 h_x5 zlI_1 (by decide)) (fun y_1 hy_1 => ?_)
  refine zs_gd (zs_gin zlI_4 (by decide)) ?_
  refine zs_bd_ (zc_949 h_σ hy_1 (zs_rdk (q := 2) (k := (4 : Int32).toNatClampNeg) (z := (0, 10)) h_σ.1 rfl)) (fun t_4 pt_4 => ?_)
  refine zs_bd_ (zo_dcopy pt_4) (fun t_6 pt_6 => ?_)
  refine zs_lt (Q := fun z => zs_C σ0 z) (zs_wrL pt_6 rfl) (fun σ_8 hσ_8 => ?_)
  refine zs_bd_ (zd_272 h_x3 h_x4 hy_1 (s0 := (σ_8, (0 : Int32))) ⟨hσ_8, (zs_w zlI_0 (by decide))⟩) (fun t_10 pt_10 => ?_)
  obtain ⟨ret, er, hr⟩ := zc_997 pt_10 hy_1
  refine ⟨ret, er, ?_⟩
  exact hr
-- BX4_reckon_111
theorem zc_1398 {σ0 : sn_S} {σ : sn_S} (h_σ : zs_C σ0 σ) {x3 : Int32} (h_x3 : zs_in x3.toInt 2 2) {x4 : Int32} (h_x4 : zs_in x4.toInt (-1) (-1)) {x6 : Int32} (h_x6 : zs_in x6.toInt 7 7) {x7 : Int32} (h_x7 : zs_in x7.toInt 0 0) {x8 : Int32} (h_x8 : zs_in x8.toInt 0 0) {x9 : Int32} (h_x9 : zs_in x9.toInt 0 6) {t1 : Int32} (h_t1 : zs_in t1.toInt 0 6) {t2 : Int32} {t3 : Int32} (h_t3 : zs_in t3.toInt 0 0) {c : Int} (hc : x9.toInt = c + 0) : zs_ok (BX4_reckon_111 σ 1 27 x3 x4 x6 x7 x8 x9 t1 t2 t3) (fun r => zs_sum (fun v => ((zs_C σ0 v.1 ∧ zs_in (v.2).toInt 1 7)) ∧ v.2.toInt = c + 1) (fun v => False) r) := by
  unfold BX4_reckon_111
  obtain rfl : x3 = (2 : Int32) := zs_eqv h_x3 (by decide)
  obtain rfl : x4 = (-1 : Int32) := zs_eqv h_x4 (by decide)
  obtain rfl : x6 = (7 : Int32) := zs_eqv h_x6 (by decide)
  obtain rfl : x7 = (0 : Int32) := zs_eqv h_x7 (by decide)
  obtain rfl : x8 = (0 : Int32) := zs_eqv h_x8 (by decide)
  obtain rfl : t3 = (0 : Int32) := zs_eqv h_t3 (by decide)
  refine zs_gd (zs_gin h_t1 (by decide)) ?_
  refine zs_lt (Q := fun z => zs_C σ0 z) (zs_wrt h_σ (fun _ => rfl) (fun _ => rfl)) (fun σ_2 hσ_2 => ?_)
  refine zs_lt (Q := fun z => zs_in z.toInt 1 7 ∧ z.toInt = c + 1) ⟨(zs_addI 1 7 h_x9 zlI_1 (by decide)), (zs_syI 1 hc h_x9 zlI_1 (by decide) (by decide))⟩ (fun y_4 hy_4 => ?_)
  exact zs_some (zs_inl ⟨⟨hσ_2, hy_4.1⟩, hy_4.2⟩)
-- BX4_reckon_111
theorem zc_1399 {σ0 : sn_S} {σ : sn_S} (h_σ : zs_C σ0 σ) {x3 : Int32} (h_x3 : zs_in x3.toInt 2 2) {x4 : Int32} (h_x4 : zs_in x4.toInt (-1) (-1)) {x6 : Int32} (h_x6 : zs_in x6.toInt 7 7) {x7 : Int32} (h_x7 : zs_in x7.toInt 0 0) {x8 : Int32} (h_x8 : zs_in x8.toInt 0 0) {x9 : Int32} (h_x9 : zs_in x9.toInt 0 6) {t1 : Int32} (h_t1 : zs_in t1.toInt 0 6) {t2 : Int32} {t3 : Int32} (h_t3 : zs_in t3.toInt 3 3) {c : Int} (hc : x9.toInt = c + 0) : zs_ok (BX4_reckon_111 σ 1 27 x3 x4 x6 x7 x8 x9 t1 t2 t3) (fun r => zs_sum (fun v => ((zs_C σ0 v.1 ∧ zs_in (v.2).toInt 1 7)) ∧ v.2.toInt = c + 1) (fun v => False) r) := by
  unfold BX4_reckon_111
  obtain rfl : x3 = (2 : Int32) := zs_eqv h_x3 (by decide)
  obtain rfl : x4 = (-1 : Int32) := zs_eqv h_x4 (by decide)
  obtain rfl : x6 = (7 : Int32) := zs_eqv h_x6 (by decide)
  obtain rfl : x7 = (0 : Int32) := zs_eqv h_x7 (by decide)
  obtain rfl : x8 = (0 : Int32) := zs_eqv h_x8 (by decide)
  obtain rfl : t3 = (3 : Int32) := zs_eqv h_t3 (by decide)
  refine zs_gd (zs_gin h_t1 (by decide)) ?_
  refine zs_lt (Q := fun z => zs_C σ0 z) (zs_wrt h_σ (fun _ => rfl) (fun _ => rfl)) (fun σ_2 hσ_2 => ?_)
  refine zs_lt (Q := fun z => zs_in z.toInt 1 7 ∧ z.toInt = c + 1) ⟨(zs_addI 1 7 h_x9 zlI_1 (by decide)), (zs_syI 1 hc h_x9 zlI_1 (by decide) (by decide))⟩ (fun y_4 hy_4 => ?_)
  exact zs_some (zs_inl ⟨⟨hσ_2, hy_4.1⟩, hy_4.2⟩)
-- BX4_reckon_68
theorem zc_1400 {σ0 : sn_S} {σ : sn_S} (h_σ : zs_C σ0 σ) {x3 : Int32} (h_x3 : zs_in x3.toInt 2 2) {x4 : Int32} (h_x4 : zs_in x4.toInt (-1) (-1)) {x6 : Int32} (h_x6 : zs_in x6.toInt 7 7) {x7 : Int32} (h_x7 : zs_in x7.toInt 0 0) {x8 : Int32} (h_x8 : zs_in x8.toInt 0 0) {x9 : Int32} (h_x9 : zs_in x9.toInt 0 7) {c : Int} (hc : x9.toInt = c + 0) : zs_ok (BX4_reckon_68 σ 1 27 x3 x4 x6 x7 x8 x9) (fun r => zs_sum (fun v => ((zs_C σ0 v.1 ∧ zs_in (v.2).toInt 1 7)) ∧ v.2.toInt = c + 1) (fun v => zs_C σ0 v) r) := by
  unfold BX4_reckon_68
  obtain rfl : x3 = (2 : Int32) := zs_eqv h_x3 (by decide)
  obtain rfl : x4 = (-1 : Int32) := zs_eqv h_x4 (by decide)
  obtain rfl : x6 = (7 : Int32) := zs_eqv h_x6 (by decide)
  obtain rfl : x7 = (0 : Int32) := zs_eqv h_x7 (by decide)
  obtain rfl : x8 = (0 : Int32) := zs_eqv h_x8 (by decide)
  refine zs_ite (fun c1 => ?_) (fun c1 => ?_)
  · skip
    have r2 := (zs_I_le c1)
    have g3 : zs_in (x9).toInt 7 7 := (zs_ler 7 7 r2 h_x6 h_x9 (by decide))
    exact zs_some (zs_inr (h_σ))
  · skip
    have r4 := (zs_I_len c1)
    have g5 : zs_in (x9).toInt 0 6 := (zs_ltl 0 6 r4 h_x9 h_x6 (by decide))
    refine zs_gd (zs_gin g5 (by decide)) ?_
    refine zs_bd_ (zc_1005 h_x7 (zs_subI 0 6 (zs_subI 6 6 h_x6 zlI_1 (by decide)) g5 (by decide))) (fun t_3 pt_3 => ?_)
    refine zs_ite (fun c6 => ?_) (fun c6 => ?_)
    · skip
      have r7 := (zs_I_eq c6)
      have g8 : zs_in (t_3).toInt 0 0 := (zs_eql 0 0 r7 pt_3 zlI_0 (by decide))
      obtain ⟨ret, er, hr⟩ := zc_1398 h_σ h_x3 h_x4 h_x6 h_x7 h_x8 g5 g5 zlI_0 hc
      refine ⟨ret, er, ?_⟩
      exact (zs_sumw hr (fun v w => ⟨w.1, w.2⟩) (fun v w => w.elim))
    · skip
      have r9 := (zs_I_eqn c6)
      have g10 : zs_in (t_3).toInt 1 1 := (zs_nel 1 1 r9 pt_3 zlI_0 (by decide))
      obtain ⟨ret, er, hr⟩ := zc_1399 h_σ h_x3 h_x4 h_x6 h_x7 h_x8 g5 g5 zlI_3 hc
      refine ⟨ret, er, ?_⟩
      exact (zs_sumw hr (fun v w => ⟨w.1, w.2⟩) (fun v w => w.elim))
theorem zd_273 {σ0 : sn_S} {x3 : Int32} (h_x3 : zs_in x3.toInt 2 2) {x4 : Int32} (h_x4 : zs_in x4.toInt (-1) (-1)) {x6 : Int32} (h_x6 : zs_in x6.toInt 7 7) {x7 : Int32} (h_x7 : zs_in x7.toInt 0 0) {x8 : Int32} (h_x8 : zs_in x8.toInt 0 0) {s0 : (sn_S × Int32)} (h0 : (zs_C σ0 s0.1 ∧ zs_in (s0.2).toInt 0 7)) : zs_ok (sn_it (LX4_reckon_68 1 27 x3 x4 x6 x7 x8) 5000 s0) (fun t => zs_C σ0 t) := by
  refine zs_it (I := fun s => (zs_C σ0 s.1 ∧ zs_in (s.2).toInt 0 7)) (m := fun s => 7 - s.2.toInt) (fun s hs => ?_) (fun s hs => ?_) (by exact h0)
  · have h1 := hs.2; unfold zs_in at h1
    omega
  · obtain ⟨b, eb, hb⟩ := zc_1400 hs.1 h_x3 h_x4 h_x6 h_x7 h_x8 hs.2 (c := s.2.toInt) (Int.add_zero _).symm
    exact ⟨b, eb, zs_sumw hb (fun v w => ⟨⟨w.1.1, (zs_w w.1.2 (by decide))⟩, by have := w.2; omega⟩) (fun v w => w)⟩
-- BX3_moneyAt_44
theorem zc_1401 {σ0 : sn_S} {σ : sn_S} (h_σ : zs_C σ0 σ) {x1 : Int32} (h_x1 : zs_in x1.toInt 0 6) {x2 : Int32} {x3 : Int32} (h_x3 : zs_in x3.toInt 0 5) {c : Int} (hc : x3.toInt = c + 0) : zs_ok (BX3_moneyAt_44 σ 70 x1 x2 x3) (fun r => zs_sum (fun v => ((True ∧ zs_in (v.2).toInt 1 6)) ∧ v.2.toInt = c + 1) (fun v => False) r) := by
  unfold BX3_moneyAt_44
  refine zs_lt (Q := fun z => zs_in z.toInt 1 6 ∧ z.toInt = c + 1) ⟨(zs_addI 1 6 h_x3 zlI_1 (by decide)), (zs_syI 1 hc h_x3 zlI_1 (by decide) (by decide))⟩ (fun y_1 hy_1 => ?_)
  exact zs_some (zs_inl ⟨⟨trivial, hy_1.1⟩, hy_1.2⟩)
-- BX3_moneyAt_7
theorem zc_1402 {σ0 : sn_S} {σ : sn_S} (h_σ : zs_C σ0 σ) {x1 : Int32} (h_x1 : zs_in x1.toInt 0 6) {x2 : Int32} {x3 : Int32} (h_x3 : zs_in x3.toInt 0 6) {c : Int} (hc : x3.toInt = c + 0) : zs_ok (BX3_moneyAt_7 σ 70 x1 x2 x3) (fun r => zs_sum (fun v => ((True ∧ zs_in (v.2).toInt 1 6)) ∧ v.2.toInt = c + 1) (fun v => True) r) := by
  unfold BX3_moneyAt_7
  refine zs_ite (fun c1 => ?_) (fun c1 => ?_)
  · skip
    have r2 := (zs_I_le c1)
    exact zs_some (zs_inr (trivial))
  · skip
    have r3 := (zs_I_len c1)
    have g4 : zs_in (x3).toInt 0 5 := (zs_ltl 0 5 r3 h_x3 (zs_rdk (q := 70) (k := 2) (z := (0, 6)) h_σ.1 rfl) (by decide))
    have g5 : zs_in ((sn_I σ 70 2)).toInt 1 6 := (zs_ltr 1 6 r3 h_x3 (zs_rdk (q := 70) (k := 2) (z := (0, 6)) h_σ.1 rfl) (by decide))
    refine zs_gd (zs_gin g4 (by decide)) ?_
    refine zs_ite (fun c6 => ?_) (fun c6 => ?_)
    · skip
      have r7 := (zs_I_eq c6)
      have g8 : zs_in ((sn_I σ (70 + 2) x3.toNatClampNeg)).toInt (-1) (-1) := (zs_eql (-1) (-1) r7 (zs_rdu (q := 72) (z := ((-1), 63)) h_σ.1 (fun _ => rfl)) zlI_m1 (by decide))
      obtain ⟨ret, er, hr⟩ := zc_1401 h_σ h_x1 g4 hc
      refine ⟨ret, er, ?_⟩
      exact (zs_sumw hr (fun v w => ⟨w.1, w.2⟩) (fun v w => w.elim))
    · skip
      have r9 := (zs_I_eqn c6)
      have g10 : zs_in ((sn_I σ (70 + 2) x3.toNatClampNeg)).toInt 0 63 := (zs_nel 0 63 r9 (zs_rdu (q := 72) (z := ((-1), 63)) h_σ.1 (fun _ => rfl)) zlI_m1 (by decide))
      refine zs_gd (zs_gin g4 (by decide)) ?_
      refine zs_ite (fun c11 => ?_) (fun c11 => ?_)
      · skip
        have r12 := (zs_I_lt c11)
        have g13 : zs_in ((sn_I σ (70 + 2) x3.toNatClampNeg)).toInt 1 63 := (zs_ltr 1 63 r12 h_x1 g10 (by decide))
        obtain ⟨ret, er, hr⟩ := zc_1401 h_σ h_x1 g4 hc
        refine ⟨ret, er, ?_⟩
        exact (zs_sumw hr (fun v w => ⟨w.1, w.2⟩) (fun v w => w.elim))
      · skip
        have r14 := (zs_I_ltn c11)
        have g15 : zs_in ((sn_I σ (70 + 2) x3.toNatClampNeg)).toInt 0 6 := (zs_lel 0 6 r14 g10 h_x1 (by decide))
        refine zs_gd (zs_gin g4 (by decide)) ?_
        refine zs_lt (Q := fun z => True) trivial (fun y_7 hy_7 => ?_)
        obtain ⟨ret, er, hr⟩ := zc_1401 h_σ h_x1 g4 hc
        refine ⟨ret, er, ?_⟩
        exact (zs_sumw hr (fun v w => ⟨w.1, w.2⟩) (fun v w => w.elim))
theorem zd_274 {σ0 : sn_S} {σ : sn_S} (h_σ : zs_C σ0 σ) {x1 : Int32} (h_x1 : zs_in x1.toInt 0 6) {s0 : (Int32 × Int32)} (h0 : (True ∧ zs_in (s0.2).toInt 0 6)) : zs_ok (sn_it (LX3_moneyAt_7 σ 70 x1) 5000 s0) (fun t => True) := by
  refine zs_it (I := fun s => (True ∧ zs_in (s.2).toInt 0 6)) (m := fun s => 6 - s.2.toInt) (fun s hs => ?_) (fun s hs => ?_) (by exact h0)
  · have h1 := hs.2; unfold zs_in at h1
    omega
  · obtain ⟨b, eb, hb⟩ := zc_1402 h_σ h_x1 hs.2 (c := s.2.toInt) (Int.add_zero _).symm
    exact ⟨b, eb, zs_sumw hb (fun v w => ⟨⟨w.1.1, (zs_w w.1.2 (by decide))⟩, by have := w.2; omega⟩) (fun v w => w)⟩
-- fX3_moneyAt
theorem zc_1403 {σ0 : sn_S} {σ : sn_S} (h_σ : zs_C σ0 σ) {x1 : Int32} (h_x1 : zs_in x1.toInt 0 6) : zs_ok (fX3_moneyAt σ 70 x1) (fun r => True) := by
  unfold fX3_moneyAt
  refine zs_lt (Q := fun z => True) trivial (fun y_1 hy_1 => ?_)
  refine zs_bd_ (zd_274 h_σ h_x1 (s0 := (y_1, (0 : Int32))) ⟨trivial, (zs_w zlI_0 (by decide))⟩) (fun t_3 pt_3 => ?_)
  obtain ⟨ret, er, hr⟩ := zc_1266 h_σ
  refine ⟨ret, er, ?_⟩
  exact hr
-- BX3_firstBelow_2
theorem zc_1404 {σ0 : sn_S} {σ : sn_S} (h_σ : zs_C σ0 σ) {x1 : Int32} (h_x1 : zs_in x1.toInt 7 7) {x2 : Int32} (h_x2 : zs_in x2.toInt 0 7) {c : Int} (hc : x2.toInt = c + 0) : zs_ok (BX3_firstBelow_2 σ 70 x1 x2) (fun r => zs_sum (fun v => (zs_in (v).toInt 1 7) ∧ v.toInt = c + 1) (fun v => zs_sum (fun v => True) (fun v => zs_in (v).toInt 0 6) v) r) := by
  unfold BX3_firstBelow_2
  obtain rfl : x1 = (7 : Int32) := zs_eqv h_x1 (by decide)
  refine zs_ite (fun c1 => ?_) (fun c1 => ?_)
  · skip
    have r2 := (zs_I_le c1)
    have g3 : zs_in (x2).toInt 7 7 := (zs_ler 7 7 r2 h_x1 h_x2 (by decide))
    exact zs_some (zs_inr ((zs_inl (trivial))))
  · skip
    have r4 := (zs_I_len c1)
    have g5 : zs_in (x2).toInt 0 6 := (zs_ltl 0 6 r4 h_x2 h_x1 (by decide))
    refine zs_bd_ (zc_1403 h_σ g5) (fun t_2 pt_2 => ?_)
    refine zs_ite (fun c6 => ?_) (fun c6 => ?_)
    · skip
      have r7 := (zs_I_le c6)
      have g8 : zs_in (t_2).toInt 0 2147483647 := (zs_ler 0 2147483647 r7 zlI_0 (zs_topI _) (by decide))
      refine zs_lt (Q := fun z => zs_in z.toInt 1 7 ∧ z.toInt = c + 1) ⟨(zs_addI 1 7 g5 zlI_1 (by decide)), (zs_syI 1 hc g5 zlI_1 (by decide) (by decide))⟩ (fun y_5 hy_5 => ?_)
      exact zs_some (zs_inl ⟨hy_5.1, hy_5.2⟩)
    · skip
      have r9 := (zs_I_len c6)
      have g10 : zs_in (t_2).toInt (-2147483648) (-1) := (zs_ltl (-2147483648) (-1) r9 (zs_topI _) zlI_0 (by decide))
      exact zs_some (zs_inr ((zs_inr (g5))))
theorem zd_275 {σ0 : sn_S} {σ : sn_S} (h_σ : zs_C σ0 σ) {x1 : Int32} (h_x1 : zs_in x1.toInt 7 7) {s0 : Int32} (h0 : zs_in (s0).toInt 0 7) : zs_ok (sn_it (LX3_firstBelow_2 σ 70 x1) 5000 s0) (fun t => zs_sum (fun v => True) (fun v => zs_in (v).toInt 0 6) t) := by
  refine zs_it (I := fun s => zs_in (s).toInt 0 7) (m := fun s => 7 - s.toInt) (fun s hs => ?_) (fun s hs => ?_) (by exact h0)
  · have h1 := hs; unfold zs_in at h1
    omega
  · obtain ⟨b, eb, hb⟩ := zc_1404 h_σ h_x1 hs (c := s.toInt) (Int.add_zero _).symm
    exact ⟨b, eb, zs_sumw hb (fun v w => ⟨(zs_w w.1 (by decide)), by have := w.2; omega⟩) (fun v w => w)⟩
-- fX3_firstBelow
theorem zc_1405 {σ0 : sn_S} {σ : sn_S} (h_σ : zs_C σ0 σ) {x1 : Int32} (h_x1 : zs_in x1.toInt 7 7) : zs_ok (fX3_firstBelow σ 70 x1) (fun r => zs_in (r).toInt (-1) 6) := by
  unfold fX3_firstBelow
  obtain rfl : x1 = (7 : Int32) := zs_eqv h_x1 (by decide)
  refine zs_bd_ (zd_275 h_σ h_x1 (s0 := (0 : Int32)) (zs_w zlI_0 (by decide))) (fun t_1 pt_1 => ?_)
  refine zs_elim pt_1 (fun v_3 pv_3 => ?_) (fun r_4 pr_4 => ?_)
  · skip
    obtain ⟨ret, er, hr⟩ := zc_1269 h_σ
    refine ⟨ret, er, ?_⟩
    exact (zs_w hr (by decide))
  · skip
    exact zs_some (zs_w pr_4 (by decide))
-- fX4_worth
theorem zc_1406 {σ0 : sn_S} {σ : sn_S} (h_σ : zs_C σ0 σ) {x2 : Int32} (h_x2 : zs_in x2.toInt 2 2) {x3 : Int32} (h_x3 : zs_in x3.toInt (-1) (-1)) {x4 : Int32} (h_x4 : zs_in x4.toInt 7 7) : zs_ok (fX4_worth σ 1 x2 x3 x4) (fun r => (zs_in (r.1).toInt 0 1 ∧ zs_C σ0 r.2)) := by
  unfold fX4_worth
  obtain rfl : x2 = (2 : Int32) := zs_eqv h_x2 (by decide)
  obtain rfl : x3 = (-1 : Int32) := zs_eqv h_x3 (by decide)
  obtain rfl : x4 = (7 : Int32) := zs_eqv h_x4 (by decide)
  refine zs_ite (fun c1 => ?_) (fun c1 => ?_)
  · skip
    have r2 := (zs_I_eq c1)
    exact (zs_botr r2 h_x2 zlI_0 (by decide)).elim
  · skip
    have r3 := (zs_I_eqn c1)
    refine zs_gd (zs_gin zlI_2 (by decide)) ?_
    refine zs_bd_ (zo_reckon_70_59_0_3 h_σ (zs_rdk (q := 2) (k := (2 : Int32).toNatClampNeg) (z := (0, 3)) h_σ.1 rfl)) (fun t_3 pt_3 => ?_)
    refine zs_ite (fun c4 => ?_) (fun c4 => ?_)
    · skip
      have r5 := (zs_I_eq c4)
      exact (zs_botr r5 h_x2 zlI_1 (by decide)).elim
    · skip
      have r6 := (zs_I_eqn c4)
      refine zs_bd_ (zc_1405 pt_3 h_x4) (fun t_6 pt_6 => ?_)
      refine zs_ite (fun c7 => ?_) (fun c7 => ?_)
      · skip
        have r8 := (zs_I_eq c7)
        have g9 : zs_in (t_6).toInt (-1) (-1) := (zs_eql (-1) (-1) r8 pt_6 zlI_m1 (by decide))
        exact zs_some ⟨(zs_w zlL_0 (by decide)), pt_3⟩
      · skip
        have r10 := (zs_I_eqn c7)
        have g11 : zs_in (t_6).toInt 0 6 := (zs_nel 0 6 r10 pt_6 zlI_m1 (by decide))
        exact zs_some ⟨(zs_w zlL_1 (by decide)), pt_3⟩
-- BX4_reckon_139
theorem zc_1407 {σ0 : sn_S} {σ : sn_S} (h_σ : zs_C σ0 σ) {x3 : Int32} (h_x3 : zs_in x3.toInt 2 2) {x4 : Int32} (h_x4 : zs_in x4.toInt (-1) (-1)) {x6 : Int32} (h_x6 : zs_in x6.toInt 7 7) {x7 : Int32} (h_x7 : zs_in x7.toInt 0 0) {t1 : Int32} (h_t1 : zs_in t1.toInt 0 0) {t2 : Int32} (h_t2 : zs_in t2.toInt 0 30) {c : Int} (hc : x7.toInt = c + 0) : zs_ok (BX4_reckon_139 σ 1 27 x3 x4 x6 x7 t1 t2) (fun r => zs_sum (fun v => ((zs_C σ0 v.1 ∧ zs_in (v.2).toInt 1 1)) ∧ v.2.toInt = c + 1) (fun v => False) r) := by
  unfold BX4_reckon_139
  obtain rfl : x3 = (2 : Int32) := zs_eqv h_x3 (by decide)
  obtain rfl : x4 = (-1 : Int32) := zs_eqv h_x4 (by decide)
  obtain rfl : x6 = (7 : Int32) := zs_eqv h_x6 (by decide)
  obtain rfl : t1 = (0 : Int32) := zs_eqv h_t1 (by decide)
  refine zs_bd_ (zc_1263 h_σ h_t1 h_t2) (fun t_1 pt_1 => ?_)
  refine zs_bd_ (zo_bc 0 0 (by decide) h_x7) (fun t_3 pt_3 => ?_)
  refine zs_gd (zs_gin pt_3 (by decide)) ?_
  refine zs_bd_ (zc_1406 pt_1 h_x3 h_x4 h_x6) (fun t_6 pt_6 => ?_)
  refine zs_lt (Q := fun z => zs_C σ0 z) (zs_wrL pt_6.2 rfl) (fun σ_8 hσ_8 => ?_)
  refine zs_lt (Q := fun z => zs_in z.toInt 1 1 ∧ z.toInt = c + 1) ⟨(zs_addI 1 1 h_x7 zlI_1 (by decide)), (zs_syI 1 hc h_x7 zlI_1 (by decide) (by decide))⟩ (fun y_10 hy_10 => ?_)
  exact zs_some (zs_inl ⟨⟨hσ_8, hy_10.1⟩, hy_10.2⟩)
-- BX4_reckon_119
theorem zc_1408 {σ0 : sn_S} {σ : sn_S} (h_σ : zs_C σ0 σ) {x3 : Int32} (h_x3 : zs_in x3.toInt 2 2) {x4 : Int32} (h_x4 : zs_in x4.toInt (-1) (-1)) {x6 : Int32} (h_x6 : zs_in x6.toInt 7 7) {x7 : Int32} (h_x7 : zs_in x7.toInt 0 0) {x8 : Int32} (h_x8 : zs_in x8.toInt 0 0) {c : Int} (hc : x7.toInt = c + 0) : zs_ok (BX4_reckon_119 σ 1 27 x3 x4 x6 x7 x8) (fun r => zs_sum (fun v => ((zs_C σ0 v.1 ∧ zs_in (v.2).toInt 1 1)) ∧ v.2.toInt = c + 1) (fun v => False) r) := by
  unfold BX4_reckon_119
  obtain rfl : x3 = (2 : Int32) := zs_eqv h_x3 (by decide)
  obtain rfl : x4 = (-1 : Int32) := zs_eqv h_x4 (by decide)
  obtain rfl : x6 = (7 : Int32) := zs_eqv h_x6 (by decide)
  obtain rfl : x8 = (0 : Int32) := zs_eqv h_x8 (by decide)
  refine zs_ite (fun c1 => ?_) (fun c1 => ?_)
  · skip
    have r2 := (zs_I_eq c1)
    obtain ⟨ret, er, hr⟩ := zc_1407 h_σ h_x3 h_x4 h_x6 h_x7 h_x8 (zs_rdk (q := 27) (k := 0) (z := (0, 30)) h_σ.1 rfl) hc
    refine ⟨ret, er, ?_⟩
    exact (zs_sumw hr (fun v w => ⟨w.1, w.2⟩) (fun v w => w.elim))
  · skip
    have r3 := (zs_I_eqn c1)
    exact (zs_botne r3 h_x3 zlI_2 (by decide)).elim
-- BX4_reckon_62
theorem zc_1409 {σ0 : sn_S} {σ : sn_S} (h_σ : zs_C σ0 σ) {x3 : Int32} (h_x3 : zs_in x3.toInt 2 2) {x4 : Int32} (h_x4 : zs_in x4.toInt (-1) (-1)) {x6 : Int32} (h_x6 : zs_in x6.toInt 7 7) {x7 : Int32} (h_x7 : zs_in x7.toInt 0 0) {t0 : Int32} (h_t0 : zs_in t0.toInt 0 0) {c : Int} (hc : x7.toInt = c + 0) : zs_ok (BX4_reckon_62 σ 1 27 x3 x4 x6 x7 t0) (fun r => zs_sum (fun v => ((zs_C σ0 v.1 ∧ zs_in (v.2).toInt 1 1)) ∧ v.2.toInt = c + 1) (fun v => False) r) := by
  unfold BX4_reckon_62
  obtain rfl : x3 = (2 : Int32) := zs_eqv h_x3 (by decide)
  obtain rfl : x4 = (-1 : Int32) := zs_eqv h_x4 (by decide)
  obtain rfl : x6 = (7 : Int32) := zs_eqv h_x6 (by decide)
  obtain rfl : t0 = (0 : Int32) := zs_eqv h_t0 (by decide)
  refine zs_bd_ (zd_273 h_x3 h_x4 h_x6 h_x7 h_t0 (s0 := (σ, (0 : Int32))) ⟨h_σ, (zs_w h_t0 (by decide))⟩) (fun t_1 pt_1 => ?_)
  obtain ⟨ret, er, hr⟩ := zc_1408 pt_1 h_x3 h_x4 h_x6 h_x7 h_t0 hc
  refine ⟨ret, er, ?_⟩
  exact (zs_sumw hr (fun v w => ⟨w.1, w.2⟩) (fun v w => w.elim))
-- BX4_reckon_111
theorem zc_1410 {σ0 : sn_S} {σ : sn_S} (h_σ : zs_C σ0 σ) {x3 : Int32} (h_x3 : zs_in x3.toInt 2 2) {x4 : Int32} (h_x4 : zs_in x4.toInt (-1) (-1)) {x6 : Int32} (h_x6 : zs_in x6.toInt 7 7) {x7 : Int32} (h_x7 : zs_in x7.toInt 1 127) {x8 : Int32} (h_x8 : zs_in x8.toInt 0 6) {x9 : Int32} (h_x9 : zs_in x9.toInt 0 6) {t1 : Int32} (h_t1 : zs_in t1.toInt 0 6) {t2 : Int32} {t3 : Int32} (h_t3 : zs_in t3.toInt 0 0) {c : Int} (hc : x9.toInt = c + 0) : zs_ok (BX4_reckon_111 σ 1 27 x3 x4 x6 x7 x8 x9 t1 t2 t3) (fun r => zs_sum (fun v => ((zs_C σ0 v.1 ∧ zs_in (v.2).toInt 1 7)) ∧ v.2.toInt = c + 1) (fun v => False) r) := by
  unfold BX4_reckon_111
  obtain rfl : x3 = (2 : Int32) := zs_eqv h_x3 (by decide)
  obtain rfl : x4 = (-1 : Int32) := zs_eqv h_x4 (by decide)
  obtain rfl : x6 = (7 : Int32) := zs_eqv h_x6 (by decide)
  obtain rfl : t3 = (0 : Int32) := zs_eqv h_t3 (by decide)
  refine zs_gd (zs_gin h_t1 (by decide)) ?_
  refine zs_lt (Q := fun z => zs_C σ0 z) (zs_wrt h_σ (fun _ => rfl) (fun _ => rfl)) (fun σ_2 hσ_2 => ?_)
  refine zs_lt (Q := fun z => zs_in z.toInt 1 7 ∧ z.toInt = c + 1) ⟨(zs_addI 1 7 h_x9 zlI_1 (by decide)), (zs_syI 1 hc h_x9 zlI_1 (by decide) (by decide))⟩ (fun y_4 hy_4 => ?_)
  exact zs_some (zs_inl ⟨⟨hσ_2, hy_4.1⟩, hy_4.2⟩)
-- BX4_reckon_111
theorem zc_1411 {σ0 : sn_S} {σ : sn_S} (h_σ : zs_C σ0 σ) {x3 : Int32} (h_x3 : zs_in x3.toInt 2 2) {x4 : Int32} (h_x4 : zs_in x4.toInt (-1) (-1)) {x6 : Int32} (h_x6 : zs_in x6.toInt 7 7) {x7 : Int32} (h_x7 : zs_in x7.toInt 1 127) {x8 : Int32} (h_x8 : zs_in x8.toInt 0 6) {x9 : Int32} (h_x9 : zs_in x9.toInt 0 6) {t1 : Int32} (h_t1 : zs_in t1.toInt 0 6) {t2 : Int32} {t3 : Int32} (h_t3 : zs_in t3.toInt 3 3) {c : Int} (hc : x9.toInt = c + 0) : zs_ok (BX4_reckon_111 σ 1 27 x3 x4 x6 x7 x8 x9 t1 t2 t3) (fun r => zs_sum (fun v => ((zs_C σ0 v.1 ∧ zs_in (v.2).toInt 1 7)) ∧ v.2.toInt = c + 1) (fun v => False) r) := by
  unfold BX4_reckon_111
  obtain rfl : x3 = (2 : Int32) := zs_eqv h_x3 (by decide)
  obtain rfl : x4 = (-1 : Int32) := zs_eqv h_x4 (by decide)
  obtain rfl : x6 = (7 : Int32) := zs_eqv h_x6 (by decide)
  obtain rfl : t3 = (3 : Int32) := zs_eqv h_t3 (by decide)
  refine zs_gd (zs_gin h_t1 (by decide)) ?_
  refine zs_lt (Q := fun z => zs_C σ0 z) (zs_wrt h_σ (fun _ => rfl) (fun _ => rfl)) (fun σ_2 hσ_2 => ?_)
  refine zs_lt (Q := fun z => zs_in z.toInt 1 7 ∧ z.toInt = c + 1) ⟨(zs_addI 1 7 h_x9 zlI_1 (by decide)), (zs_syI 1 hc h_x9 zlI_1 (by decide) (by decide))⟩ (fun y_4 hy_4 => ?_)
  exact zs_some (zs_inl ⟨⟨hσ_2, hy_4.1⟩, hy_4.2⟩)
-- BX4_reckon_68
theorem zc_1412 {σ0 : sn_S} {σ : sn_S} (h_σ : zs_C σ0 σ) {x3 : Int32} (h_x3 : zs_in x3.toInt 2 2) {x4 : Int32} (h_x4 : zs_in x4.toInt (-1) (-1)) {x6 : Int32} (h_x6 : zs_in x6.toInt 7 7) {x7 : Int32} (h_x7 : zs_in x7.toInt 1 127) {x8 : Int32} (h_x8 : zs_in x8.toInt 0 6) {x9 : Int32} (h_x9 : zs_in x9.toInt 0 7) {c : Int} (hc : x9.toInt = c + 0) : zs_ok (BX4_reckon_68 σ 1 27 x3 x4 x6 x7 x8 x9) (fun r => zs_sum (fun v => ((zs_C σ0 v.1 ∧ zs_in (v.2).toInt 1 7)) ∧ v.2.toInt = c + 1) (fun v => zs_C σ0 v) r) := by
  unfold BX4_reckon_68
  obtain rfl : x3 = (2 : Int32) := zs_eqv h_x3 (by decide)
  obtain rfl : x4 = (-1 : Int32) := zs_eqv h_x4 (by decide)
  obtain rfl : x6 = (7 : Int32) := zs_eqv h_x6 (by decide)
  refine zs_ite (fun c1 => ?_) (fun c1 => ?_)
  · skip
    have r2 := (zs_I_le c1)
    have g3 : zs_in (x9).toInt 7 7 := (zs_ler 7 7 r2 h_x6 h_x9 (by decide))
    exact zs_some (zs_inr (h_σ))
  · skip
    have r4 := (zs_I_len c1)
    have g5 : zs_in (x9).toInt 0 6 := (zs_ltl 0 6 r4 h_x9 h_x6 (by decide))
    refine zs_gd (zs_gin g5 (by decide)) ?_
    refine zs_bd_ (zc_1040 h_x7 (zs_subI 0 6 (zs_subI 6 6 h_x6 zlI_1 (by decide)) g5 (by decide))) (fun t_3 pt_3 => ?_)
    refine zs_ite (fun c6 => ?_) (fun c6 => ?_)
    · skip
      have r7 := (zs_I_eq c6)
      have g8 : zs_in (t_3).toInt 0 0 := (zs_eql 0 0 r7 pt_3 zlI_0 (by decide))
      obtain ⟨ret, er, hr⟩ := zc_1410 h_σ h_x3 h_x4 h_x6 h_x7 h_x8 g5 g5 zlI_0 hc
      refine ⟨ret, er, ?_⟩
      exact (zs_sumw hr (fun v w => ⟨w.1, w.2⟩) (fun v w => w.elim))
    · skip
      have r9 := (zs_I_eqn c6)
      have g10 : zs_in (t_3).toInt 1 1 := (zs_nel 1 1 r9 pt_3 zlI_0 (by decide))
      obtain ⟨ret, er, hr⟩ := zc_1411 h_σ h_x3 h_x4 h_x6 h_x7 h_x8 g5 g5 zlI_3 hc
      refine ⟨ret, er, ?_⟩
      exact (zs_sumw hr (fun v w => ⟨w.1, w.2⟩) (fun v w => w.elim))
theorem zd_276 {σ0 : sn_S} {x3 : Int32} (h_x3 : zs_in x3.toInt 2 2) {x4 : Int32} (h_x4 : zs_in x4.toInt (-1) (-1)) {x6 : Int32} (h_x6 : zs_in x6.toInt 7 7) {x7 : Int32} (h_x7 : zs_in x7.toInt 1 127) {x8 : Int32} (h_x8 : zs_in x8.toInt 0 6) {s0 : (sn_S × Int32)} (h0 : (zs_C σ0 s0.1 ∧ zs_in (s0.2).toInt 0 7)) : zs_ok (sn_it (LX4_reckon_68 1 27 x3 x4 x6 x7 x8) 5000 s0) (fun t => zs_C σ0 t) := by
  refine zs_it (I := fun s => (zs_C σ0 s.1 ∧ zs_in (s.2).toInt 0 7)) (m := fun s => 7 - s.2.toInt) (fun s hs => ?_) (fun s hs => ?_) (by exact h0)
  · have h1 := hs.2; unfold zs_in at h1
    omega
  · obtain ⟨b, eb, hb⟩ := zc_1412 hs.1 h_x3 h_x4 h_x6 h_x7 h_x8 hs.2 (c := s.2.toInt) (Int.add_zero _).symm
    exact ⟨b, eb, zs_sumw hb (fun v w => ⟨⟨w.1.1, (zs_w w.1.2 (by decide))⟩, by have := w.2; omega⟩) (fun v w => w)⟩
-- BX0_live_2
theorem zc_1413 {σ0 : sn_S} {σ : sn_S} (h_σ : zs_C σ0 σ) {x1 : Int32} (h_x1 : zs_in x1.toInt 0 6) {x2 : Int32} (h_x2 : zs_in x2.toInt 0 30) {x3 : Int32} (h_x3 : zs_in x3.toInt 0 6) {c : Int} (hc : x3.toInt = c + 0) : zs_ok (BX0_live_2 σ 59 x1 x2 x3) (fun r => zs_sum (fun v => ((zs_C σ0 v.1 ∧ zs_in (v.2).toInt 1 6)) ∧ v.2.toInt = c + 1) (fun v => zs_C σ0 v) r) := by
  unfold BX0_live_2
  refine zs_ite (fun c1 => ?_) (fun c1 => ?_)
  · skip
    have r2 := (zs_I_le c1)
    exact zs_some (zs_inr (h_σ))
  · skip
    have r3 := (zs_I_len c1)
    have g4 : zs_in (x3).toInt 0 5 := (zs_ltl 0 5 r3 h_x3 (zs_rdk (q := 59) (k := 1) (z := (0, 6)) h_σ.1 rfl) (by decide))
    have g5 : zs_in ((sn_I σ 59 1)).toInt 1 6 := (zs_ltr 1 6 r3 h_x3 (zs_rdk (q := 59) (k := 1) (z := (0, 6)) h_σ.1 rfl) (by decide))
    refine zs_gd (zs_gin g4 (by decide)) ?_
    refine zs_bd_ (zc_1044 h_x1) (fun t_3 pt_3 => ?_)
    refine zs_gd (zs_gin g4 (by decide)) ?_
    refine zs_lt (Q := fun z => zs_C σ0 z) (zs_wru (z := (0, 1073741823)) h_σ (fun _ => rfl) (zs_and pt_3 (by decide)) (by decide) (fun _ => rfl)) (fun σ_6 hσ_6 => ?_)
    refine zs_lt (Q := fun z => zs_in z.toInt 1 6 ∧ z.toInt = c + 1) ⟨(zs_addI 1 6 g4 zlI_1 (by decide)), (zs_syI 1 hc g4 zlI_1 (by decide) (by decide))⟩ (fun y_8 hy_8 => ?_)
    exact zs_some (zs_inl ⟨⟨hσ_6, hy_8.1⟩, hy_8.2⟩)
theorem zd_277 {σ0 : sn_S} {x1 : Int32} (h_x1 : zs_in x1.toInt 0 6) {x2 : Int32} (h_x2 : zs_in x2.toInt 0 30) {s0 : (sn_S × Int32)} (h0 : (zs_C σ0 s0.1 ∧ zs_in (s0.2).toInt 0 6)) : zs_ok (sn_it (LX0_live_2 59 x1 x2) 5000 s0) (fun t => zs_C σ0 t) := by
  refine zs_it (I := fun s => (zs_C σ0 s.1 ∧ zs_in (s.2).toInt 0 6)) (m := fun s => 6 - s.2.toInt) (fun s hs => ?_) (fun s hs => ?_) (by exact h0)
  · have h1 := hs.2; unfold zs_in at h1
    omega
  · obtain ⟨b, eb, hb⟩ := zc_1413 hs.1 h_x1 h_x2 hs.2 (c := s.2.toInt) (Int.add_zero _).symm
    exact ⟨b, eb, zs_sumw hb (fun v w => ⟨⟨w.1.1, (zs_w w.1.2 (by decide))⟩, by have := w.2; omega⟩) (fun v w => w)⟩
-- BX0_live_29
theorem zc_1414 {σ0 : sn_S} {σ : sn_S} (h_σ : zs_C σ0 σ) {x1 : Int32} (h_x1 : zs_in x1.toInt 0 6) {x2 : Int32} (h_x2 : zs_in x2.toInt 0 30) : zs_ok (BX0_live_29 σ 59 x1 x2) (fun r => zs_C σ0 r) := by
  unfold BX0_live_29
  refine zs_bd_ (zd_238 h_x2 (s0 := (σ, x1)) ⟨h_σ, (zs_w h_x1 (by decide))⟩) (fun t_1 pt_1 => ?_)
  obtain ⟨ret, er, hr⟩ := zc_697 pt_1
  refine ⟨ret, er, ?_⟩
  exact hr
-- fX0_live
theorem zc_1415 {σ0 : sn_S} {σ : sn_S} (h_σ : zs_C σ0 σ) {x1 : Int32} (h_x1 : zs_in x1.toInt 0 6) {x2 : Int32} (h_x2 : zs_in x2.toInt 0 30) : zs_ok (fX0_live σ 59 x1 x2) (fun r => zs_C σ0 r) := by
  unfold fX0_live
  refine zs_bd_ (zd_277 h_x1 h_x2 (s0 := (σ, (0 : Int32))) ⟨h_σ, (zs_w zlI_0 (by decide))⟩) (fun t_1 pt_1 => ?_)
  obtain ⟨ret, er, hr⟩ := zc_1414 pt_1 h_x1 h_x2
  refine ⟨ret, er, ?_⟩
  exact hr
-- BX4_reckon_139
theorem zc_1416 {σ0 : sn_S} {σ : sn_S} (h_σ : zs_C σ0 σ) {x3 : Int32} (h_x3 : zs_in x3.toInt 2 2) {x4 : Int32} (h_x4 : zs_in x4.toInt (-1) (-1)) {x6 : Int32} (h_x6 : zs_in x6.toInt 7 7) {x7 : Int32} (h_x7 : zs_in x7.toInt 1 127) {t1 : Int32} (h_t1 : zs_in t1.toInt 0 6) {t2 : Int32} (h_t2 : zs_in t2.toInt 0 30) {c : Int} (hc : x7.toInt = c + 0) : zs_ok (BX4_reckon_139 σ 1 27 x3 x4 x6 x7 t1 t2) (fun r => zs_sum (fun v => ((zs_C σ0 v.1 ∧ zs_in (v.2).toInt 2 128)) ∧ v.2.toInt = c + 1) (fun v => False) r) := by
  unfold BX4_reckon_139
  obtain rfl : x3 = (2 : Int32) := zs_eqv h_x3 (by decide)
  obtain rfl : x4 = (-1 : Int32) := zs_eqv h_x4 (by decide)
  obtain rfl : x6 = (7 : Int32) := zs_eqv h_x6 (by decide)
  refine zs_bd_ (zc_1415 h_σ h_t1 h_t2) (fun t_1 pt_1 => ?_)
  refine zs_bd_ (zo_bc 7 7 (by decide) h_x7) (fun t_3 pt_3 => ?_)
  refine zs_gd (zs_gin pt_3 (by decide)) ?_
  refine zs_bd_ (zc_1406 pt_1 h_x3 h_x4 h_x6) (fun t_6 pt_6 => ?_)
  refine zs_lt (Q := fun z => zs_C σ0 z) (zs_wrL pt_6.2 rfl) (fun σ_8 hσ_8 => ?_)
  refine zs_lt (Q := fun z => zs_in z.toInt 2 128 ∧ z.toInt = c + 1) ⟨(zs_addI 2 128 h_x7 zlI_1 (by decide)), (zs_syI 1 hc h_x7 zlI_1 (by decide) (by decide))⟩ (fun y_10 hy_10 => ?_)
  exact zs_some (zs_inl ⟨⟨hσ_8, hy_10.1⟩, hy_10.2⟩)
-- BX4_reckon_119
theorem zc_1417 {σ0 : sn_S} {σ : sn_S} (h_σ : zs_C σ0 σ) {x3 : Int32} (h_x3 : zs_in x3.toInt 2 2) {x4 : Int32} (h_x4 : zs_in x4.toInt (-1) (-1)) {x6 : Int32} (h_x6 : zs_in x6.toInt 7 7) {x7 : Int32} (h_x7 : zs_in x7.toInt 1 127) {x8 : Int32} (h_x8 : zs_in x8.toInt 0 6) {c : Int} (hc : x7.toInt = c + 0) : zs_ok (BX4_reckon_119 σ 1 27 x3 x4 x6 x7 x8) (fun r => zs_sum (fun v => ((zs_C σ0 v.1 ∧ zs_in (v.2).toInt 2 128)) ∧ v.2.toInt = c + 1) (fun v => False) r) := by
  unfold BX4_reckon_119
  obtain rfl : x3 = (2 : Int32) := zs_eqv h_x3 (by decide)
  obtain rfl : x4 = (-1 : Int32) := zs_eqv h_x4 (by decide)
  obtain rfl : x6 = (7 : Int32) := zs_eqv h_x6 (by decide)
  refine zs_ite (fun c1 => ?_) (fun c1 => ?_)
  · skip
    have r2 := (zs_I_eq c1)
    obtain ⟨ret, er, hr⟩ := zc_1416 h_σ h_x3 h_x4 h_x6 h_x7 h_x8 (zs_rdk (q := 27) (k := 0) (z := (0, 30)) h_σ.1 rfl) hc
    refine ⟨ret, er, ?_⟩
    exact (zs_sumw hr (fun v w => ⟨w.1, w.2⟩) (fun v w => w.elim))
  · skip
    have r3 := (zs_I_eqn c1)
    exact (zs_botne r3 h_x3 zlI_2 (by decide)).elim
-- BX4_reckon_62
theorem zc_1418 {σ0 : sn_S} {σ : sn_S} (h_σ : zs_C σ0 σ) {x3 : Int32} (h_x3 : zs_in x3.toInt 2 2) {x4 : Int32} (h_x4 : zs_in x4.toInt (-1) (-1)) {x6 : Int32} (h_x6 : zs_in x6.toInt 7 7) {x7 : Int32} (h_x7 : zs_in x7.toInt 1 127) {t0 : Int32} (h_t0 : zs_in t0.toInt 0 6) {c : Int} (hc : x7.toInt = c + 0) : zs_ok (BX4_reckon_62 σ 1 27 x3 x4 x6 x7 t0) (fun r => zs_sum (fun v => ((zs_C σ0 v.1 ∧ zs_in (v.2).toInt 2 128)) ∧ v.2.toInt = c + 1) (fun v => False) r) := by
  unfold BX4_reckon_62
  obtain rfl : x3 = (2 : Int32) := zs_eqv h_x3 (by decide)
  obtain rfl : x4 = (-1 : Int32) := zs_eqv h_x4 (by decide)
  obtain rfl : x6 = (7 : Int32) := zs_eqv h_x6 (by decide)
  refine zs_bd_ (zd_276 h_x3 h_x4 h_x6 h_x7 h_t0 (s0 := (σ, t0)) ⟨h_σ, (zs_w h_t0 (by decide))⟩) (fun t_1 pt_1 => ?_)
  obtain ⟨ret, er, hr⟩ := zc_1417 pt_1 h_x3 h_x4 h_x6 h_x7 h_t0 hc
  refine ⟨ret, er, ?_⟩
  exact (zs_sumw hr (fun v w => ⟨w.1, w.2⟩) (fun v w => w.elim))
-- BX4_reckon_34
theorem zc_1419 {σ0 : sn_S} {σ : sn_S} (h_σ : zs_C σ0 σ) {x3 : Int32} (h_x3 : zs_in x3.toInt 2 2) {x4 : Int32} (h_x4 : zs_in x4.toInt (-1) (-1)) {x6 : Int32} (h_x6 : zs_in x6.toInt 7 7) {x7 : Int32} (h_x7 : zs_in x7.toInt 0 128) {c : Int} (hc : x7.toInt = c + 0) : zs_ok (BX4_reckon_34 σ 1 27 x3 x4 x6 x7) (fun r => zs_sum (fun v => ((zs_C σ0 v.1 ∧ zs_in (v.2).toInt 1 128)) ∧ v.2.toInt = c + 1) (fun v => zs_C σ0 v) r) := by
  unfold BX4_reckon_34
  obtain rfl : x3 = (2 : Int32) := zs_eqv h_x3 (by decide)
  obtain rfl : x4 = (-1 : Int32) := zs_eqv h_x4 (by decide)
  obtain rfl : x6 = (7 : Int32) := zs_eqv h_x6 (by decide)
  refine zs_ite (fun c1 => ?_) (fun c1 => ?_)
  · skip
    have r2 := (zs_I_le c1)
    have g3 : zs_in (x7).toInt 128 128 := (zs_ler 128 128 r2 (zs_cases h_x6 (fun z => zs_in ((1 : Int32) <<< (z &&& 31)).toInt 128 128) (by decide +kernel)) h_x7 (by decide))
    exact zs_some (zs_inr (h_σ))
  · skip
    have r4 := (zs_I_len c1)
    have g5 : zs_in (x7).toInt 0 127 := (zs_ltl 0 127 r4 h_x7 (zs_cases h_x6 (fun z => zs_in ((1 : Int32) <<< (z &&& 31)).toInt 128 128) (by decide +kernel)) (by decide))
    refine zs_ite (fun c6 => ?_) (fun c6 => ?_)
    · skip
      have r7 := (zs_I_eq c6)
      have g8 : zs_in (x7).toInt 0 0 := (zs_eql 0 0 r7 g5 zlI_0 (by decide))
      obtain ⟨ret, er, hr⟩ := zc_1409 h_σ h_x3 h_x4 h_x6 g8 zlI_0 hc
      refine ⟨ret, er, ?_⟩
      exact (zs_sumw hr (fun v w => ⟨⟨w.1.1, (zs_w w.1.2 (by decide))⟩, w.2⟩) (fun v w => w.elim))
    · skip
      have r9 := (zs_I_eqn c6)
      have g10 : zs_in (x7).toInt 1 127 := (zs_nel 1 127 r9 g5 zlI_0 (by decide))
      refine zs_bd_ (zo_low1 7 6 (by decide) g10) (fun t_3 pt_3 => ?_)
      obtain ⟨ret, er, hr⟩ := zc_1418 h_σ h_x3 h_x4 h_x6 g10 (zs_subI 0 6 (zs_subI 6 6 h_x6 zlI_1 (by decide)) pt_3 (by decide)) hc
      refine ⟨ret, er, ?_⟩
      exact (zs_sumw hr (fun v w => ⟨⟨w.1.1, (zs_w w.1.2 (by decide))⟩, w.2⟩) (fun v w => w.elim))
end
section
theorem zd_278 {σ0 : sn_S} {x3 : Int32} (h_x3 : zs_in x3.toInt 2 2) {x4 : Int32} (h_x4 : zs_in x4.toInt (-1) (-1)) {x6 : Int32} (h_x6 : zs_in x6.toInt 7 7) {s0 : (sn_S × Int32)} (h0 : (zs_C σ0 s0.1 ∧ zs_in (s0.2).toInt 0 128)) : zs_ok (sn_it (LX4_reckon_34 1 27 x3 x4 x6) 5000 s0) (fun t => zs_C σ0 t) := by
  refine zs_it (I := fun s => (zs_C σ0 s.1 ∧ zs_in (s.2).toInt 0 128)) (m := fun s => 128 - s.2.toInt) (fun s hs => ?_) (fun s hs => ?_) (by exact h0)
  · have h1 := hs.2; unfold zs_in at h1
    omega
  · obtain ⟨b, eb, hb⟩ := zc_1419 hs.1 h_x3 h_x4 h_x6 hs.2 (c := s.2.toInt) (Int.add_zero _).symm
    exact ⟨b, eb, zs_sumw hb (fun v w => ⟨⟨w.1.1, (zs_w w.1.2 (by decide))⟩, by have := w.2; omega⟩) (fun v w => w)⟩
-- fX4_reckon
theorem zc_1420 {σ0 : sn_S} {σ : sn_S} (h_σ : zs_C σ0 σ) {x3 : Int32} (h_x3 : zs_in x3.toInt 2 2) {x4 : Int32} (h_x4 : zs_in x4.toInt (-1) (-1)) {x5 : Int32} (h_x5 : zs_in x5.toInt 6 6) : zs_ok (fX4_reckon σ 1 27 x3 x4 x5) (fun r => zs_C σ0 r) := by
  unfold fX4_reckon
  obtain rfl : x3 = (2 : Int32) := zs_eqv h_x3 (by decide)
  obtain rfl : x4 = (-1 : Int32) := zs_eqv h_x4 (by decide)
  obtain rfl : x5 = (6 : Int32) := zs_eqv h_x5 (by decide)
  refine zs_lt (Q := fun z => zs_in z.toInt 7 7) (zs_addI 7 7 h_x5 zlI_1 (by decide)) (fun y_1 hy_1 => ?_)
  refine zs_gd (zs_gin zlI_4 (by decide)) ?_
  refine zs_bd_ (zc_1004 h_σ hy_1 (zs_rdk (q := 2) (k := (4 : Int32).toNatClampNeg) (z := (0, 10)) h_σ.1 rfl)) (fun t_4 pt_4 => ?_)
  refine zs_bd_ (zo_dcopy pt_4) (fun t_6 pt_6 => ?_)
  refine zs_lt (Q := fun z => zs_C σ0 z) (zs_wrL pt_6 rfl) (fun σ_8 hσ_8 => ?_)
  refine zs_bd_ (zd_278 h_x3 h_x4 hy_1 (s0 := (σ_8, (0 : Int32))) ⟨hσ_8, (zs_w zlI_0 (by decide))⟩) (fun t_10 pt_10 => ?_)
  obtain ⟨ret, er, hr⟩ := zc_1053 pt_10 hy_1
  refine ⟨ret, er, ?_⟩
  exact hr
-- BX4_reckon_111
theorem zc_1421 {σ0 : sn_S} {σ : sn_S} (h_σ : zs_C σ0 σ) {x3 : Int32} (h_x3 : zs_in x3.toInt 2 2) {x4 : Int32} (h_x4 : zs_in x4.toInt (-1) (-1)) {x6 : Int32} (h_x6 : zs_in x6.toInt 8 8) {x7 : Int32} (h_x7 : zs_in x7.toInt 0 0) {x8 : Int32} (h_x8 : zs_in x8.toInt 0 0) {x9 : Int32} (h_x9 : zs_in x9.toInt 0 7) {t1 : Int32} (h_t1 : zs_in t1.toInt 0 7) {t2 : Int32} {t3 : Int32} (h_t3 : zs_in t3.toInt 0 0) {c : Int} (hc : x9.toInt = c + 0) : zs_ok (BX4_reckon_111 σ 1 27 x3 x4 x6 x7 x8 x9 t1 t2 t3) (fun r => zs_sum (fun v => ((zs_C σ0 v.1 ∧ zs_in (v.2).toInt 1 8)) ∧ v.2.toInt = c + 1) (fun v => False) r) := by
  unfold BX4_reckon_111
  obtain rfl : x3 = (2 : Int32) := zs_eqv h_x3 (by decide)
  obtain rfl : x4 = (-1 : Int32) := zs_eqv h_x4 (by decide)
  obtain rfl : x6 = (8 : Int32) := zs_eqv h_x6 (by decide)
  obtain rfl : x7 = (0 : Int32) := zs_eqv h_x7 (by decide)
  obtain rfl : x8 = (0 : Int32) := zs_eqv h_x8 (by decide)
  obtain rfl : t3 = (0 : Int32) := zs_eqv h_t3 (by decide)
  refine zs_gd (zs_gin h_t1 (by decide)) ?_
  refine zs_lt (Q := fun z => zs_C σ0 z) (zs_wrt h_σ (fun _ => rfl) (fun _ => rfl)) (fun σ_2 hσ_2 => ?_)
  refine zs_lt (Q := fun z => zs_in z.toInt 1 8 ∧ z.toInt = c + 1) ⟨(zs_addI 1 8 h_x9 zlI_1 (by decide)), (zs_syI 1 hc h_x9 zlI_1 (by decide) (by decide))⟩ (fun y_4 hy_4 => ?_)
  exact zs_some (zs_inl ⟨⟨hσ_2, hy_4.1⟩, hy_4.2⟩)
-- BX4_reckon_111
theorem zc_1422 {σ0 : sn_S} {σ : sn_S} (h_σ : zs_C σ0 σ) {x3 : Int32} (h_x3 : zs_in x3.toInt 2 2) {x4 : Int32} (h_x4 : zs_in x4.toInt (-1) (-1)) {x6 : Int32} (h_x6 : zs_in x6.toInt 8 8) {x7 : Int32} (h_x7 : zs_in x7.toInt 0 0) {x8 : Int32} (h_x8 : zs_in x8.toInt 0 0) {x9 : Int32} (h_x9 : zs_in x9.toInt 0 7) {t1 : Int32} (h_t1 : zs_in t1.toInt 0 7) {t2 : Int32} {t3 : Int32} (h_t3 : zs_in t3.toInt 3 3) {c : Int} (hc : x9.toInt = c + 0) : zs_ok (BX4_reckon_111 σ 1 27 x3 x4 x6 x7 x8 x9 t1 t2 t3) (fun r => zs_sum (fun v => ((zs_C σ0 v.1 ∧ zs_in (v.2).toInt 1 8)) ∧ v.2.toInt = c + 1) (fun v => False) r) := by
  unfold BX4_reckon_111
  obtain rfl : x3 = (2 : Int32) := zs_eqv h_x3 (by decide)
  obtain rfl : x4 = (-1 : Int32) := zs_eqv h_x4 (by decide)
  obtain rfl : x6 = (8 : Int32) := zs_eqv h_x6 (by decide)
  obtain rfl : x7 = (0 : Int32) := zs_eqv h_x7 (by decide)
  obtain rfl : x8 = (0 : Int32) := zs_eqv h_x8 (by decide)
  obtain rfl : t3 = (3 : Int32) := zs_eqv h_t3 (by decide)
  refine zs_gd (zs_gin h_t1 (by decide)) ?_
  refine zs_lt (Q := fun z => zs_C σ0 z) (zs_wrt h_σ (fun _ => rfl) (fun _ => rfl)) (fun σ_2 hσ_2 => ?_)
  refine zs_lt (Q := fun z => zs_in z.toInt 1 8 ∧ z.toInt = c + 1) ⟨(zs_addI 1 8 h_x9 zlI_1 (by decide)), (zs_syI 1 hc h_x9 zlI_1 (by decide) (by decide))⟩ (fun y_4 hy_4 => ?_)
  exact zs_some (zs_inl ⟨⟨hσ_2, hy_4.1⟩, hy_4.2⟩)
-- BX4_reckon_68
theorem zc_1423 {σ0 : sn_S} {σ : sn_S} (h_σ : zs_C σ0 σ) {x3 : Int32} (h_x3 : zs_in x3.toInt 2 2) {x4 : Int32} (h_x4 : zs_in x4.toInt (-1) (-1)) {x6 : Int32} (h_x6 : zs_in x6.toInt 8 8) {x7 : Int32} (h_x7 : zs_in x7.toInt 0 0) {x8 : Int32} (h_x8 : zs_in x8.toInt 0 0) {x9 : Int32} (h_x9 : zs_in x9.toInt 0 8) {c : Int} (hc : x9.toInt = c + 0) : zs_ok (BX4_reckon_68 σ 1 27 x3 x4 x6 x7 x8 x9) (fun r => zs_sum (fun v => ((zs_C σ0 v.1 ∧ zs_in (v.2).toInt 1 8)) ∧ v.2.toInt = c + 1) (fun v => zs_C σ0 v) r) := by
  unfold BX4_reckon_68
  obtain rfl : x3 = (2 : Int32) := zs_eqv h_x3 (by decide)
  obtain rfl : x4 = (-1 : Int32) := zs_eqv h_x4 (by decide)
  obtain rfl : x6 = (8 : Int32) := zs_eqv h_x6 (by decide)
  obtain rfl : x7 = (0 : Int32) := zs_eqv h_x7 (by decide)
  obtain rfl : x8 = (0 : Int32) := zs_eqv h_x8 (by decide)
  refine zs_ite (fun c1 => ?_) (fun c1 => ?_)
  · skip
    have r2 := (zs_I_le c1)
    have g3 : zs_in (x9).toInt 8 8 := (zs_ler 8 8 r2 h_x6 h_x9 (by decide))
    exact zs_some (zs_inr (h_σ))
  · skip
    have r4 := (zs_I_len c1)
    have g5 : zs_in (x9).toInt 0 7 := (zs_ltl 0 7 r4 h_x9 h_x6 (by decide))
    refine zs_gd (zs_gin g5 (by decide)) ?_
    refine zs_bd_ (zc_1061 h_x7 (zs_subI 0 7 (zs_subI 7 7 h_x6 zlI_1 (by decide)) g5 (by decide))) (fun t_3 pt_3 => ?_)
    refine zs_ite (fun c6 => ?_) (fun c6 => ?_)
    · skip
      have r7 := (zs_I_eq c6)
      have g8 : zs_in (t_3).toInt 0 0 := (zs_eql 0 0 r7 pt_3 zlI_0 (by decide))
      obtain ⟨ret, er, hr⟩ := zc_1421 h_σ h_x3 h_x4 h_x6 h_x7 h_x8 g5 g5 zlI_0 hc
      refine ⟨ret, er, ?_⟩
      exact (zs_sumw hr (fun v w => ⟨w.1, w.2⟩) (fun v w => w.elim))
    · skip
      have r9 := (zs_I_eqn c6)
      have g10 : zs_in (t_3).toInt 1 1 := (zs_nel 1 1 r9 pt_3 zlI_0 (by decide))
      obtain ⟨ret, er, hr⟩ := zc_1422 h_σ h_x3 h_x4 h_x6 h_x7 h_x8 g5 g5 zlI_3 hc
      refine ⟨ret, er, ?_⟩
      exact (zs_sumw hr (fun v w => ⟨w.1, w.2⟩) (fun v w => w.elim))
theorem zd_279 {σ0 : sn_S} {x3 : Int32} (h_x3 : zs_in x3.toInt 2 2) {x4 : Int32} (h_x4 : zs_in x4.toInt (-1) (-1)) {x6 : Int32} (h_x6 : zs_in x6.toInt 8 8) {x7 : Int32} (h_x7 : zs_in x7.toInt 0 0) {x8 : Int32} (h_x8 : zs_in x8.toInt 0 0) {s0 : (sn_S × Int32)} (h0 : (zs_C σ0 s0.1 ∧ zs_in (s0.2).toInt 0 8)) : zs_ok (sn_it (LX4_reckon_68 1 27 x3 x4 x6 x7 x8) 5000 s0) (fun t => zs_C σ0 t) := by
  refine zs_it (I := fun s => (zs_C σ0 s.1 ∧ zs_in (s.2).toInt 0 8)) (m := fun s => 8 - s.2.toInt) (fun s hs => ?_) (fun s hs => ?_) (by exact h0)
  · have h1 := hs.2; unfold zs_in at h1
    omega
  · obtain ⟨b, eb, hb⟩ := zc_1423 hs.1 h_x3 h_x4 h_x6 h_x7 h_x8 hs.2 (c := s.2.toInt) (Int.add_zero _).symm
    exact ⟨b, eb, zs_sumw hb (fun v w => ⟨⟨w.1.1, (zs_w w.1.2 (by decide))⟩, by have := w.2; omega⟩) (fun v w => w)⟩
-- BX3_moneyAt_44
theorem zc_1424 {σ0 : sn_S} {σ : sn_S} (h_σ : zs_C σ0 σ) {x1 : Int32} (h_x1 : zs_in x1.toInt 0 7) {x2 : Int32} {x3 : Int32} (h_x3 : zs_in x3.toInt 0 5) {c : Int} (hc : x3.toInt = c + 0) : zs_ok (BX3_moneyAt_44 σ 70 x1 x2 x3) (fun r => zs_sum (fun v => ((True ∧ zs_in (v.2).toInt 1 6)) ∧ v.2.toInt = c + 1) (fun v => False) r) := by
  unfold BX3_moneyAt_44
  refine zs_lt (Q := fun z => zs_in z.toInt 1 6 ∧ z.toInt = c + 1) ⟨(zs_addI 1 6 h_x3 zlI_1 (by decide)), (zs_syI 1 hc h_x3 zlI_1 (by decide) (by decide))⟩ (fun y_1 hy_1 => ?_)
  exact zs_some (zs_inl ⟨⟨trivial, hy_1.1⟩, hy_1.2⟩)
-- BX3_moneyAt_7
theorem zc_1425 {σ0 : sn_S} {σ : sn_S} (h_σ : zs_C σ0 σ) {x1 : Int32} (h_x1 : zs_in x1.toInt 0 7) {x2 : Int32} {x3 : Int32} (h_x3 : zs_in x3.toInt 0 6) {c : Int} (hc : x3.toInt = c + 0) : zs_ok (BX3_moneyAt_7 σ 70 x1 x2 x3) (fun r => zs_sum (fun v => ((True ∧ zs_in (v.2).toInt 1 6)) ∧ v.2.toInt = c + 1) (fun v => True) r) := by
  unfold BX3_moneyAt_7
  refine zs_ite (fun c1 => ?_) (fun c1 => ?_)
  · skip
    have r2 := (zs_I_le c1)
    exact zs_some (zs_inr (trivial))
  · skip
    have r3 := (zs_I_len c1)
    have g4 : zs_in (x3).toInt 0 5 := (zs_ltl 0 5 r3 h_x3 (zs_rdk (q := 70) (k := 2) (z := (0, 6)) h_σ.1 rfl) (by decide))
    have g5 : zs_in ((sn_I σ 70 2)).toInt 1 6 := (zs_ltr 1 6 r3 h_x3 (zs_rdk (q := 70) (k := 2) (z := (0, 6)) h_σ.1 rfl) (by decide))
    refine zs_gd (zs_gin g4 (by decide)) ?_
    refine zs_ite (fun c6 => ?_) (fun c6 => ?_)
    · skip
      have r7 := (zs_I_eq c6)
      have g8 : zs_in ((sn_I σ (70 + 2) x3.toNatClampNeg)).toInt (-1) (-1) := (zs_eql (-1) (-1) r7 (zs_rdu (q := 72) (z := ((-1), 63)) h_σ.1 (fun _ => rfl)) zlI_m1 (by decide))
      obtain ⟨ret, er, hr⟩ := zc_1424 h_σ h_x1 g4 hc
      refine ⟨ret, er, ?_⟩
      exact (zs_sumw hr (fun v w => ⟨w.1, w.2⟩) (fun v w => w.elim))
    · skip
      have r9 := (zs_I_eqn c6)
      have g10 : zs_in ((sn_I σ (70 + 2) x3.toNatClampNeg)).toInt 0 63 := (zs_nel 0 63 r9 (zs_rdu (q := 72) (z := ((-1), 63)) h_σ.1 (fun _ => rfl)) zlI_m1 (by decide))
      refine zs_gd (zs_gin g4 (by decide)) ?_
      refine zs_ite (fun c11 => ?_) (fun c11 => ?_)
      · skip
        have r12 := (zs_I_lt c11)
        have g13 : zs_in ((sn_I σ (70 + 2) x3.toNatClampNeg)).toInt 1 63 := (zs_ltr 1 63 r12 h_x1 g10 (by decide))
        obtain ⟨ret, er, hr⟩ := zc_1424 h_σ h_x1 g4 hc
        refine ⟨ret, er, ?_⟩
        exact (zs_sumw hr (fun v w => ⟨w.1, w.2⟩) (fun v w => w.elim))
      · skip
        have r14 := (zs_I_ltn c11)
        have g15 : zs_in ((sn_I σ (70 + 2) x3.toNatClampNeg)).toInt 0 7 := (zs_lel 0 7 r14 g10 h_x1 (by decide))
        refine zs_gd (zs_gin g4 (by decide)) ?_
        refine zs_lt (Q := fun z => True) trivial (fun y_7 hy_7 => ?_)
        obtain ⟨ret, er, hr⟩ := zc_1424 h_σ h_x1 g4 hc
        refine ⟨ret, er, ?_⟩
        exact (zs_sumw hr (fun v w => ⟨w.1, w.2⟩) (fun v w => w.elim))
theorem zd_280 {σ0 : sn_S} {σ : sn_S} (h_σ : zs_C σ0 σ) {x1 : Int32} (h_x1 : zs_in x1.toInt 0 7) {s0 : (Int32 × Int32)} (h0 : (True ∧ zs_in (s0.2).toInt 0 6)) : zs_ok (sn_it (LX3_moneyAt_7 σ 70 x1) 5000 s0) (fun t => True) := by
  refine zs_it (I := fun s => (True ∧ zs_in (s.2).toInt 0 6)) (m := fun s => 6 - s.2.toInt) (fun s hs => ?_) (fun s hs => ?_) (by exact h0)
  · have h1 := hs.2; unfold zs_in at h1
    omega
  · obtain ⟨b, eb, hb⟩ := zc_1425 h_σ h_x1 hs.2 (c := s.2.toInt) (Int.add_zero _).symm
    exact ⟨b, eb, zs_sumw hb (fun v w => ⟨⟨w.1.1, (zs_w w.1.2 (by decide))⟩, by have := w.2; omega⟩) (fun v w => w)⟩
-- fX3_moneyAt
theorem zc_1426 {σ0 : sn_S} {σ : sn_S} (h_σ : zs_C σ0 σ) {x1 : Int32} (h_x1 : zs_in x1.toInt 0 7) : zs_ok (fX3_moneyAt σ 70 x1) (fun r => True) := by
  unfold fX3_moneyAt
  refine zs_lt (Q := fun z => True) trivial (fun y_1 hy_1 => ?_)
  refine zs_bd_ (zd_280 h_σ h_x1 (s0 := (y_1, (0 : Int32))) ⟨trivial, (zs_w zlI_0 (by decide))⟩) (fun t_3 pt_3 => ?_)
  obtain ⟨ret, er, hr⟩ := zc_1266 h_σ
  refine ⟨ret, er, ?_⟩
  exact hr
-- BX3_firstBelow_2
theorem zc_1427 {σ0 : sn_S} {σ : sn_S} (h_σ : zs_C σ0 σ) {x1 : Int32} (h_x1 : zs_in x1.toInt 8 8) {x2 : Int32} (h_x2 : zs_in x2.toInt 0 8) {c : Int} (hc : x2.toInt = c + 0) : zs_ok (BX3_firstBelow_2 σ 70 x1 x2) (fun r => zs_sum (fun v => (zs_in (v).toInt 1 8) ∧ v.toInt = c + 1) (fun v => zs_sum (fun v => True) (fun v => zs_in (v).toInt 0 7) v) r) := by
  unfold BX3_firstBelow_2
  obtain rfl : x1 = (8 : Int32) := zs_eqv h_x1 (by decide)
  refine zs_ite (fun c1 => ?_) (fun c1 => ?_)
  · skip
    have r2 := (zs_I_le c1)
    have g3 : zs_in (x2).toInt 8 8 := (zs_ler 8 8 r2 h_x1 h_x2 (by decide))
    exact zs_some (zs_inr ((zs_inl (trivial))))
  · skip
    have r4 := (zs_I_len c1)
    have g5 : zs_in (x2).toInt 0 7 := (zs_ltl 0 7 r4 h_x2 h_x1 (by decide))
    refine zs_bd_ (zc_1426 h_σ g5) (fun t_2 pt_2 => ?_)
    refine zs_ite (fun c6 => ?_) (fun c6 => ?_)
    · skip
      have r7 := (zs_I_le c6)
      have g8 : zs_in (t_2).toInt 0 2147483647 := (zs_ler 0 2147483647 r7 zlI_0 (zs_topI _) (by decide))
      refine zs_lt (Q := fun z => zs_in z.toInt 1 8 ∧ z.toInt = c + 1) ⟨(zs_addI 1 8 g5 zlI_1 (by decide)), (zs_syI 1 hc g5 zlI_1 (by decide) (by decide))⟩ (fun y_5 hy_5 => ?_)
      exact zs_some (zs_inl ⟨hy_5.1, hy_5.2⟩)
    · skip
      have r9 := (zs_I_len c6)
      have g10 : zs_in (t_2).toInt (-2147483648) (-1) := (zs_ltl (-2147483648) (-1) r9 (zs_topI _) zlI_0 (by decide))
      exact zs_some (zs_inr ((zs_inr (g5))))
theorem zd_281 {σ0 : sn_S} {σ : sn_S} (h_σ : zs_C σ0 σ) {x1 : Int32} (h_x1 : zs_in x1.toInt 8 8) {s0 : Int32} (h0 : zs_in (s0).toInt 0 8) : zs_ok (sn_it (LX3_firstBelow_2 σ 70 x1) 5000 s0) (fun t => zs_sum (fun v => True) (fun v => zs_in (v).toInt 0 7) t) := by
  refine zs_it (I := fun s => zs_in (s).toInt 0 8) (m := fun s => 8 - s.toInt) (fun s hs => ?_) (fun s hs => ?_) (by exact h0)
  · have h1 := hs; unfold zs_in at h1
    omega
  · obtain ⟨b, eb, hb⟩ := zc_1427 h_σ h_x1 hs (c := s.toInt) (Int.add_zero _).symm
    exact ⟨b, eb, zs_sumw hb (fun v w => ⟨(zs_w w.1 (by decide)), by have := w.2; omega⟩) (fun v w => w)⟩
-- fX3_firstBelow
theorem zc_1428 {σ0 : sn_S} {σ : sn_S} (h_σ : zs_C σ0 σ) {x1 : Int32} (h_x1 : zs_in x1.toInt 8 8) : zs_ok (fX3_firstBelow σ 70 x1) (fun r => zs_in (r).toInt (-1) 7) := by
  unfold fX3_firstBelow
  obtain rfl : x1 = (8 : Int32) := zs_eqv h_x1 (by decide)
  refine zs_bd_ (zd_281 h_σ h_x1 (s0 := (0 : Int32)) (zs_w zlI_0 (by decide))) (fun t_1 pt_1 => ?_)
  refine zs_elim pt_1 (fun v_3 pv_3 => ?_) (fun r_4 pr_4 => ?_)
  · skip
    obtain ⟨ret, er, hr⟩ := zc_1269 h_σ
    refine ⟨ret, er, ?_⟩
    exact (zs_w hr (by decide))
  · skip
    exact zs_some (zs_w pr_4 (by decide))
-- fX4_worth
theorem zc_1429 {σ0 : sn_S} {σ : sn_S} (h_σ : zs_C σ0 σ) {x2 : Int32} (h_x2 : zs_in x2.toInt 2 2) {x3 : Int32} (h_x3 : zs_in x3.toInt (-1) (-1)) {x4 : Int32} (h_x4 : zs_in x4.toInt 8 8) : zs_ok (fX4_worth σ 1 x2 x3 x4) (fun r => (zs_in (r.1).toInt 0 1 ∧ zs_C σ0 r.2)) := by
  unfold fX4_worth
  obtain rfl : x2 = (2 : Int32) := zs_eqv h_x2 (by decide)
  obtain rfl : x3 = (-1 : Int32) := zs_eqv h_x3 (by decide)
  obtain rfl : x4 = (8 : Int32) := zs_eqv h_x4 (by decide)
  refine zs_ite (fun c1 => ?_) (fun c1 => ?_)
  · skip
    have r2 := (zs_I_eq c1)
    exact (zs_botr r2 h_x2 zlI_0 (by decide)).elim
  · skip
    have r3 := (zs_I_eqn c1)
    refine zs_gd (zs_gin zlI_2 (by decide)) ?_
    refine zs_bd_ (zo_reckon_70_59_0_3 h_σ (zs_rdk (q := 2) (k := (2 : Int32).toNatClampNeg) (z := (0, 3)) h_σ.1 rfl)) (fun t_3 pt_3 => ?_)
    refine zs_ite (fun c4 => ?_) (fun c4 => ?_)
    · skip
      have r5 := (zs_I_eq c4)
      exact (zs_botr r5 h_x2 zlI_1 (by decide)).elim
    · skip
      have r6 := (zs_I_eqn c4)
      refine zs_bd_ (zc_1428 pt_3 h_x4) (fun t_6 pt_6 => ?_)
      refine zs_ite (fun c7 => ?_) (fun c7 => ?_)
      · skip
        have r8 := (zs_I_eq c7)
        have g9 : zs_in (t_6).toInt (-1) (-1) := (zs_eql (-1) (-1) r8 pt_6 zlI_m1 (by decide))
        exact zs_some ⟨(zs_w zlL_0 (by decide)), pt_3⟩
      · skip
        have r10 := (zs_I_eqn c7)
        have g11 : zs_in (t_6).toInt 0 7 := (zs_nel 0 7 r10 pt_6 zlI_m1 (by decide))
        exact zs_some ⟨(zs_w zlL_1 (by decide)), pt_3⟩
-- BX4_reckon_139
theorem zc_1430 {σ0 : sn_S} {σ : sn_S} (h_σ : zs_C σ0 σ) {x3 : Int32} (h_x3 : zs_in x3.toInt 2 2) {x4 : Int32} (h_x4 : zs_in x4.toInt (-1) (-1)) {x6 : Int32} (h_x6 : zs_in x6.toInt 8 8) {x7 : Int32} (h_x7 : zs_in x7.toInt 0 0) {t1 : Int32} (h_t1 : zs_in t1.toInt 0 0) {t2 : Int32} (h_t2 : zs_in t2.toInt 0 30) {c : Int} (hc : x7.toInt = c + 0) : zs_ok (BX4_reckon_139 σ 1 27 x3 x4 x6 x7 t1 t2) (fun r => zs_sum (fun v => ((zs_C σ0 v.1 ∧ zs_in (v.2).toInt 1 1)) ∧ v.2.toInt = c + 1) (fun v => False) r) := by
  unfold BX4_reckon_139
  obtain rfl : x3 = (2 : Int32) := zs_eqv h_x3 (by decide)
  obtain rfl : x4 = (-1 : Int32) := zs_eqv h_x4 (by decide)
  obtain rfl : x6 = (8 : Int32) := zs_eqv h_x6 (by decide)
  obtain rfl : t1 = (0 : Int32) := zs_eqv h_t1 (by decide)
  refine zs_bd_ (zc_1263 h_σ h_t1 h_t2) (fun t_1 pt_1 => ?_)
  refine zs_bd_ (zo_bc 0 0 (by decide) h_x7) (fun t_3 pt_3 => ?_)
  refine zs_gd (zs_gin pt_3 (by decide)) ?_
  refine zs_bd_ (zc_1429 pt_1 h_x3 h_x4 h_x6) (fun t_6 pt_6 => ?_)
  refine zs_lt (Q := fun z => zs_C σ0 z) (zs_wrL pt_6.2 rfl) (fun σ_8 hσ_8 => ?_)
  refine zs_lt (Q := fun z => zs_in z.toInt 1 1 ∧ z.toInt = c + 1) ⟨(zs_addI 1 1 h_x7 zlI_1 (by decide)), (zs_syI 1 hc h_x7 zlI_1 (by decide) (by decide))⟩ (fun y_10 hy_10 => ?_)
  exact zs_some (zs_inl ⟨⟨hσ_8, hy_10.1⟩, hy_10.2⟩)
-- BX4_reckon_119
theorem zc_1431 {σ0 : sn_S} {σ : sn_S} (h_σ : zs_C σ0 σ) {x3 : Int32} (h_x3 : zs_in x3.toInt 2 2) {x4 : Int32} (h_x4 : zs_in x4.toInt (-1) (-1)) {x6 : Int32} (h_x6 : zs_in x6.toInt 8 8) {x7 : Int32} (h_x7 : zs_in x7.toInt 0 0) {x8 : Int32} (h_x8 : zs_in x8.toInt 0 0) {c : Int} (hc : x7.toInt = c + 0) : zs_ok (BX4_reckon_119 σ 1 27 x3 x4 x6 x7 x8) (fun r => zs_sum (fun v => ((zs_C σ0 v.1 ∧ zs_in (v.2).toInt 1 1)) ∧ v.2.toInt = c + 1) (fun v => False) r) := by
  unfold BX4_reckon_119
  obtain rfl : x3 = (2 : Int32) := zs_eqv h_x3 (by decide)
  obtain rfl : x4 = (-1 : Int32) := zs_eqv h_x4 (by decide)
  obtain rfl : x6 = (8 : Int32) := zs_eqv h_x6 (by decide)
  obtain rfl : x8 = (0 : Int32) := zs_eqv h_x8 (by decide)
  refine zs_ite (fun c1 => ?_) (fun c1 => ?_)
  · skip
    have r2 := (zs_I_eq c1)
    obtain ⟨ret, er, hr⟩ := zc_1430 h_σ h_x3 h_x4 h_x6 h_x7 h_x8 (zs_rdk (q := 27) (k := 0) (z := (0, 30)) h_σ.1 rfl) hc
    refine ⟨ret, er, ?_⟩
    exact (zs_sumw hr (fun v w => ⟨w.1, w.2⟩) (fun v w => w.elim))
  · skip
    have r3 := (zs_I_eqn c1)
    exact (zs_botne r3 h_x3 zlI_2 (by decide)).elim
-- BX4_reckon_62
theorem zc_1432 {σ0 : sn_S} {σ : sn_S} (h_σ : zs_C σ0 σ) {x3 : Int32} (h_x3 : zs_in x3.toInt 2 2) {x4 : Int32} (h_x4 : zs_in x4.toInt (-1) (-1)) {x6 : Int32} (h_x6 : zs_in x6.toInt 8 8) {x7 : Int32} (h_x7 : zs_in x7.toInt 0 0) {t0 : Int32} (h_t0 : zs_in t0.toInt 0 0) {c : Int} (hc : x7.toInt = c + 0) : zs_ok (BX4_reckon_62 σ 1 27 x3 x4 x6 x7 t0) (fun r => zs_sum (fun v => ((zs_C σ0 v.1 ∧ zs_in (v.2).toInt 1 1)) ∧ v.2.toInt = c + 1) (fun v => False) r) := by
  unfold BX4_reckon_62
  obtain rfl : x3 = (2 : Int32) := zs_eqv h_x3 (by decide)
  obtain rfl : x4 = (-1 : Int32) := zs_eqv h_x4 (by decide)
  obtain rfl : x6 = (8 : Int32) := zs_eqv h_x6 (by decide)
  obtain rfl : t0 = (0 : Int32) := zs_eqv h_t0 (by decide)
  refine zs_bd_ (zd_279 h_x3 h_x4 h_x6 h_x7 h_t0 (s0 := (σ, (0 : Int32))) ⟨h_σ, (zs_w h_t0 (by decide))⟩) (fun t_1 pt_1 => ?_)
  obtain ⟨ret, er, hr⟩ := zc_1431 pt_1 h_x3 h_x4 h_x6 h_x7 h_t0 hc
  refine ⟨ret, er, ?_⟩
  exact (zs_sumw hr (fun v w => ⟨w.1, w.2⟩) (fun v w => w.elim))
-- BX4_reckon_111
theorem zc_1433 {σ0 : sn_S} {σ : sn_S} (h_σ : zs_C σ0 σ) {x3 : Int32} (h_x3 : zs_in x3.toInt 2 2) {x4 : Int32} (h_x4 : zs_in x4.toInt (-1) (-1)) {x6 : Int32} (h_x6 : zs_in x6.toInt 8 8) {x7 : Int32} (h_x7 : zs_in x7.toInt 1 255) {x8 : Int32} (h_x8 : zs_in x8.toInt 0 7) {x9 : Int32} (h_x9 : zs_in x9.toInt 0 7) {t1 : Int32} (h_t1 : zs_in t1.toInt 0 7) {t2 : Int32} {t3 : Int32} (h_t3 : zs_in t3.toInt 0 0) {c : Int} (hc : x9.toInt = c + 0) : zs_ok (BX4_reckon_111 σ 1 27 x3 x4 x6 x7 x8 x9 t1 t2 t3) (fun r => zs_sum (fun v => ((zs_C σ0 v.1 ∧ zs_in (v.2).toInt 1 8)) ∧ v.2.toInt = c + 1) (fun v => False) r) := by
  unfold BX4_reckon_111
  obtain rfl : x3 = (2 : Int32) := zs_eqv h_x3 (by decide)
  obtain rfl : x4 = (-1 : Int32) := zs_eqv h_x4 (by decide)
  obtain rfl : x6 = (8 : Int32) := zs_eqv h_x6 (by decide)
  obtain rfl : t3 = (0 : Int32) := zs_eqv h_t3 (by decide)
  refine zs_gd (zs_gin h_t1 (by decide)) ?_
  refine zs_lt (Q := fun z => zs_C σ0 z) (zs_wrt h_σ (fun _ => rfl) (fun _ => rfl)) (fun σ_2 hσ_2 => ?_)
  refine zs_lt (Q := fun z => zs_in z.toInt 1 8 ∧ z.toInt = c + 1) ⟨(zs_addI 1 8 h_x9 zlI_1 (by decide)), (zs_syI 1 hc h_x9 zlI_1 (by decide) (by decide))⟩ (fun y_4 hy_4 => ?_)
  exact zs_some (zs_inl ⟨⟨hσ_2, hy_4.1⟩, hy_4.2⟩)
-- BX4_reckon_111
theorem zc_1434 {σ0 : sn_S} {σ : sn_S} (h_σ : zs_C σ0 σ) {x3 : Int32} (h_x3 : zs_in x3.toInt 2 2) {x4 : Int32} (h_x4 : zs_in x4.toInt (-1) (-1)) {x6 : Int32} (h_x6 : zs_in x6.toInt 8 8) {x7 : Int32} (h_x7 : zs_in x7.toInt 1 255) {x8 : Int32} (h_x8 : zs_in x8.toInt 0 7) {x9 : Int32} (h_x9 : zs_in x9.toInt 0 7) {t1 : Int32} (h_t1 : zs_in t1.toInt 0 7) {t2 : Int32} {t3 : Int32} (h_t3 : zs_in t3.toInt 3 3) {c : Int} (hc : x9.toInt = c + 0) : zs_ok (BX4_reckon_111 σ 1 27 x3 x4 x6 x7 x8 x9 t1 t2 t3) (fun r => zs_sum (fun v => ((zs_C σ0 v.1 ∧ zs_in (v.2).toInt 1 8)) ∧ v.2.toInt = c + 1) (fun v => False) r) := by
  unfold BX4_reckon_111
  obtain rfl : x3 = (2 : Int32) := zs_eqv h_x3 (by decide)
  obtain rfl : x4 = (-1 : Int32) := zs_eqv h_x4 (by decide)
  obtain rfl : x6 = (8 : Int32) := zs_eqv h_x6 (by decide)
  obtain rfl : t3 = (3 : Int32) := zs_eqv h_t3 (by decide)
  refine zs_gd (zs_gin h_t1 (by decide)) ?_
  refine zs_lt (Q := fun z => zs_C σ0 z) (zs_wrt h_σ (fun _ => rfl) (fun _ => rfl)) (fun σ_2 hσ_2 => ?_)
  refine zs_lt (Q := fun z => zs_in z.toInt 1 8 ∧ z.toInt = c + 1) ⟨(zs_addI 1 8 h_x9 zlI_1 (by decide)), (zs_syI 1 hc h_x9 zlI_1 (by decide) (by decide))⟩ (fun y_4 hy_4 => ?_)
  exact zs_some (zs_inl ⟨⟨hσ_2, hy_4.1⟩, hy_4.2⟩)
-- BX4_reckon_68
theorem zc_1435 {σ0 : sn_S} {σ : sn_S} (h_σ : zs_C σ0 σ) {x3 : Int32} (h_x3 : zs_in x3.toInt 2 2) {x4 : Int32} (h_x4 : zs_in x4.toInt (-1) (-1)) {x6 : Int32} (h_x6 : zs_in x6.toInt 8 8) {x7 : Int32} (h_x7 : zs_in x7.toInt 1 255) {x8 : Int32} (h_x8 : zs_in x8.toInt 0 7) {x9 : Int32} (h_x9 : zs_in x9.toInt 0 8) {c : Int} (hc : x9.toInt = c + 0) : zs_ok (BX4_reckon_68 σ 1 27 x3 x4 x6 x7 x8 x9) (fun r => zs_sum (fun v => ((zs_C σ0 v.1 ∧ zs_in (v.2).toInt 1 8)) ∧ v.2.toInt = c + 1) (fun v => zs_C σ0 v) r) := by
  unfold BX4_reckon_68
  obtain rfl : x3 = (2 : Int32) := zs_eqv h_x3 (by decide)
  obtain rfl : x4 = (-1 : Int32) := zs_eqv h_x4 (by decide)
  obtain rfl : x6 = (8 : Int32) := zs_eqv h_x6 (by decide)
  refine zs_ite (fun c1 => ?_) (fun c1 => ?_)
  · skip
    have r2 := (zs_I_le c1)
    have g3 : zs_in (x9).toInt 8 8 := (zs_ler 8 8 r2 h_x6 h_x9 (by decide))
    exact zs_some (zs_inr (h_σ))
  · skip
    have r4 := (zs_I_len c1)
    have g5 : zs_in (x9).toInt 0 7 := (zs_ltl 0 7 r4 h_x9 h_x6 (by decide))
    refine zs_gd (zs_gin g5 (by decide)) ?_
    refine zs_bd_ (zc_1096 h_x7 (zs_subI 0 7 (zs_subI 7 7 h_x6 zlI_1 (by decide)) g5 (by decide))) (fun t_3 pt_3 => ?_)
    refine zs_ite (fun c6 => ?_) (fun c6 => ?_)
    · skip
      have r7 := (zs_I_eq c6)
      have g8 : zs_in (t_3).toInt 0 0 := (zs_eql 0 0 r7 pt_3 zlI_0 (by decide))
      obtain ⟨ret, er, hr⟩ := zc_1433 h_σ h_x3 h_x4 h_x6 h_x7 h_x8 g5 g5 zlI_0 hc
      refine ⟨ret, er, ?_⟩
      exact (zs_sumw hr (fun v w => ⟨w.1, w.2⟩) (fun v w => w.elim))
    · skip
      have r9 := (zs_I_eqn c6)
      have g10 : zs_in (t_3).toInt 1 1 := (zs_nel 1 1 r9 pt_3 zlI_0 (by decide))
      obtain ⟨ret, er, hr⟩ := zc_1434 h_σ h_x3 h_x4 h_x6 h_x7 h_x8 g5 g5 zlI_3 hc
      refine ⟨ret, er, ?_⟩
      exact (zs_sumw hr (fun v w => ⟨w.1, w.2⟩) (fun v w => w.elim))
theorem zd_282 {σ0 : sn_S} {x3 : Int32} (h_x3 : zs_in x3.toInt 2 2) {x4 : Int32} (h_x4 : zs_in x4.toInt (-1) (-1)) {x6 : Int32} (h_x6 : zs_in x6.toInt 8 8) {x7 : Int32} (h_x7 : zs_in x7.toInt 1 255) {x8 : Int32} (h_x8 : zs_in x8.toInt 0 7) {s0 : (sn_S × Int32)} (h0 : (zs_C σ0 s0.1 ∧ zs_in (s0.2).toInt 0 8)) : zs_ok (sn_it (LX4_reckon_68 1 27 x3 x4 x6 x7 x8) 5000 s0) (fun t => zs_C σ0 t) := by
  refine zs_it (I := fun s => (zs_C σ0 s.1 ∧ zs_in (s.2).toInt 0 8)) (m := fun s => 8 - s.2.toInt) (fun s hs => ?_) (fun s hs => ?_) (by exact h0)
  · have h1 := hs.2; unfold zs_in at h1
    omega
  · obtain ⟨b, eb, hb⟩ := zc_1435 hs.1 h_x3 h_x4 h_x6 h_x7 h_x8 hs.2 (c := s.2.toInt) (Int.add_zero _).symm
    exact ⟨b, eb, zs_sumw hb (fun v w => ⟨⟨w.1.1, (zs_w w.1.2 (by decide))⟩, by have := w.2; omega⟩) (fun v w => w)⟩
-- BX0_live_2
theorem zc_1436 {σ0 : sn_S} {σ : sn_S} (h_σ : zs_C σ0 σ) {x1 : Int32} (h_x1 : zs_in x1.toInt 0 7) {x2 : Int32} (h_x2 : zs_in x2.toInt 0 30) {x3 : Int32} (h_x3 : zs_in x3.toInt 0 6) {c : Int} (hc : x3.toInt = c + 0) : zs_ok (BX0_live_2 σ 59 x1 x2 x3) (fun r => zs_sum (fun v => ((zs_C σ0 v.1 ∧ zs_in (v.2).toInt 1 6)) ∧ v.2.toInt = c + 1) (fun v => zs_C σ0 v) r) := by
  unfold BX0_live_2
  refine zs_ite (fun c1 => ?_) (fun c1 => ?_)
  · skip
    have r2 := (zs_I_le c1)
    exact zs_some (zs_inr (h_σ))
  · skip
    have r3 := (zs_I_len c1)
    have g4 : zs_in (x3).toInt 0 5 := (zs_ltl 0 5 r3 h_x3 (zs_rdk (q := 59) (k := 1) (z := (0, 6)) h_σ.1 rfl) (by decide))
    have g5 : zs_in ((sn_I σ 59 1)).toInt 1 6 := (zs_ltr 1 6 r3 h_x3 (zs_rdk (q := 59) (k := 1) (z := (0, 6)) h_σ.1 rfl) (by decide))
    refine zs_gd (zs_gin g4 (by decide)) ?_
    refine zs_bd_ (zc_1100 h_x1) (fun t_3 pt_3 => ?_)
    refine zs_gd (zs_gin g4 (by decide)) ?_
    refine zs_lt (Q := fun z => zs_C σ0 z) (zs_wru (z := (0, 1073741823)) h_σ (fun _ => rfl) (zs_and pt_3 (by decide)) (by decide) (fun _ => rfl)) (fun σ_6 hσ_6 => ?_)
    refine zs_lt (Q := fun z => zs_in z.toInt 1 6 ∧ z.toInt = c + 1) ⟨(zs_addI 1 6 g4 zlI_1 (by decide)), (zs_syI 1 hc g4 zlI_1 (by decide) (by decide))⟩ (fun y_8 hy_8 => ?_)
    exact zs_some (zs_inl ⟨⟨hσ_6, hy_8.1⟩, hy_8.2⟩)
theorem zd_283 {σ0 : sn_S} {x1 : Int32} (h_x1 : zs_in x1.toInt 0 7) {x2 : Int32} (h_x2 : zs_in x2.toInt 0 30) {s0 : (sn_S × Int32)} (h0 : (zs_C σ0 s0.1 ∧ zs_in (s0.2).toInt 0 6)) : zs_ok (sn_it (LX0_live_2 59 x1 x2) 5000 s0) (fun t => zs_C σ0 t) := by
  refine zs_it (I := fun s => (zs_C σ0 s.1 ∧ zs_in (s.2).toInt 0 6)) (m := fun s => 6 - s.2.toInt) (fun s hs => ?_) (fun s hs => ?_) (by exact h0)
  · have h1 := hs.2; unfold zs_in at h1
    omega
  · obtain ⟨b, eb, hb⟩ := zc_1436 hs.1 h_x1 h_x2 hs.2 (c := s.2.toInt) (Int.add_zero _).symm
    exact ⟨b, eb, zs_sumw hb (fun v w => ⟨⟨w.1.1, (zs_w w.1.2 (by decide))⟩, by have := w.2; omega⟩) (fun v w => w)⟩
-- BX0_live_29
theorem zc_1437 {σ0 : sn_S} {σ : sn_S} (h_σ : zs_C σ0 σ) {x1 : Int32} (h_x1 : zs_in x1.toInt 0 7) {x2 : Int32} (h_x2 : zs_in x2.toInt 0 30) : zs_ok (BX0_live_29 σ 59 x1 x2) (fun r => zs_C σ0 r) := by
  unfold BX0_live_29
  refine zs_bd_ (zd_238 h_x2 (s0 := (σ, x1)) ⟨h_σ, (zs_w h_x1 (by decide))⟩) (fun t_1 pt_1 => ?_)
  obtain ⟨ret, er, hr⟩ := zc_697 pt_1
  refine ⟨ret, er, ?_⟩
  exact hr
-- fX0_live
theorem zc_1438 {σ0 : sn_S} {σ : sn_S} (h_σ : zs_C σ0 σ) {x1 : Int32} (h_x1 : zs_in x1.toInt 0 7) {x2 : Int32} (h_x2 : zs_in x2.toInt 0 30) : zs_ok (fX0_live σ 59 x1 x2) (fun r => zs_C σ0 r) := by
  unfold fX0_live
  refine zs_bd_ (zd_283 h_x1 h_x2 (s0 := (σ, (0 : Int32))) ⟨h_σ, (zs_w zlI_0 (by decide))⟩) (fun t_1 pt_1 => ?_)
  obtain ⟨ret, er, hr⟩ := zc_1437 pt_1 h_x1 h_x2
  refine ⟨ret, er, ?_⟩
  exact hr
-- BX4_reckon_139
theorem zc_1439 {σ0 : sn_S} {σ : sn_S} (h_σ : zs_C σ0 σ) {x3 : Int32} (h_x3 : zs_in x3.toInt 2 2) {x4 : Int32} (h_x4 : zs_in x4.toInt (-1) (-1)) {x6 : Int32} (h_x6 : zs_in x6.toInt 8 8) {x7 : Int32} (h_x7 : zs_in x7.toInt 1 255) {t1 : Int32} (h_t1 : zs_in t1.toInt 0 7) {t2 : Int32} (h_t2 : zs_in t2.toInt 0 30) {c : Int} (hc : x7.toInt = c + 0) : zs_ok (BX4_reckon_139 σ 1 27 x3 x4 x6 x7 t1 t2) (fun r => zs_sum (fun v => ((zs_C σ0 v.1 ∧ zs_in (v.2).toInt 2 256)) ∧ v.2.toInt = c + 1) (fun v => False) r) := by
  unfold BX4_reckon_139
  obtain rfl : x3 = (2 : Int32) := zs_eqv h_x3 (by decide)
  obtain rfl : x4 = (-1 : Int32) := zs_eqv h_x4 (by decide)
  obtain rfl : x6 = (8 : Int32) := zs_eqv h_x6 (by decide)
  refine zs_bd_ (zc_1438 h_σ h_t1 h_t2) (fun t_1 pt_1 => ?_)
  refine zs_bd_ (zo_bc 8 8 (by decide) h_x7) (fun t_3 pt_3 => ?_)
  refine zs_gd (zs_gin pt_3 (by decide)) ?_
  refine zs_bd_ (zc_1429 pt_1 h_x3 h_x4 h_x6) (fun t_6 pt_6 => ?_)
  refine zs_lt (Q := fun z => zs_C σ0 z) (zs_wrL pt_6.2 rfl) (fun σ_8 hσ_8 => ?_)
  refine zs_lt (Q := fun z => zs_in z.toInt 2 256 ∧ z.toInt = c + 1) ⟨(zs_addI 2 256 h_x7 zlI_1 (by decide)), (zs_syI 1 hc h_x7 zlI_1 (by decide) (by decide))⟩ (fun y_10 hy_10 => ?_)
  exact zs_some (zs_inl ⟨⟨hσ_8, hy_10.1⟩, hy_10.2⟩)
-- BX4_reckon_119
theorem zc_1440 {σ0 : sn_S} {σ : sn_S} (h_σ : zs_C σ0 σ) {x3 : Int32} (h_x3 : zs_in x3.toInt 2 2) {x4 : Int32} (h_x4 : zs_in x4.toInt (-1) (-1)) {x6 : Int32} (h_x6 : zs_in x6.toInt 8 8) {x7 : Int32} (h_x7 : zs_in x7.toInt 1 255) {x8 : Int32} (h_x8 : zs_in x8.toInt 0 7) {c : Int} (hc : x7.toInt = c + 0) : zs_ok (BX4_reckon_119 σ 1 27 x3 x4 x6 x7 x8) (fun r => zs_sum (fun v => ((zs_C σ0 v.1 ∧ zs_in (v.2).toInt 2 256)) ∧ v.2.toInt = c + 1) (fun v => False) r) := by
  unfold BX4_reckon_119
  obtain rfl : x3 = (2 : Int32) := zs_eqv h_x3 (by decide)
  obtain rfl : x4 = (-1 : Int32) := zs_eqv h_x4 (by decide)
  obtain rfl : x6 = (8 : Int32) := zs_eqv h_x6 (by decide)
  refine zs_ite (fun c1 => ?_) (fun c1 => ?_)
  · skip
    have r2 := (zs_I_eq c1)
    obtain ⟨ret, er, hr⟩ := zc_1439 h_σ h_x3 h_x4 h_x6 h_x7 h_x8 (zs_rdk (q := 27) (k := 0) (z := (0, 30)) h_σ.1 rfl) hc
    refine ⟨ret, er, ?_⟩
    exact (zs_sumw hr (fun v w => ⟨w.1, w.2⟩) (fun v w => w.elim))
  · skip
    have r3 := (zs_I_eqn c1)
    exact (zs_botne r3 h_x3 zlI_2 (by decide)).elim
-- BX4_reckon_62
theorem zc_1441 {σ0 : sn_S} {σ : sn_S} (h_σ : zs_C σ0 σ) {x3 : Int32} (h_x3 : zs_in x3.toInt 2 2) {x4 : Int32} (h_x4 : zs_in x4.toInt (-1) (-1)) {x6 : Int32} (h_x6 : zs_in x6.toInt 8 8) {x7 : Int32} (h_x7 : zs_in x7.toInt 1 255) {t0 : Int32} (h_t0 : zs_in t0.toInt 0 7) {c : Int} (hc : x7.toInt = c + 0) : zs_ok (BX4_reckon_62 σ 1 27 x3 x4 x6 x7 t0) (fun r => zs_sum (fun v => ((zs_C σ0 v.1 ∧ zs_in (v.2).toInt 2 256)) ∧ v.2.toInt = c + 1) (fun v => False) r) := by
  unfold BX4_reckon_62
  obtain rfl : x3 = (2 : Int32) := zs_eqv h_x3 (by decide)
  obtain rfl : x4 = (-1 : Int32) := zs_eqv h_x4 (by decide)
  obtain rfl : x6 = (8 : Int32) := zs_eqv h_x6 (by decide)
  refine zs_bd_ (zd_282 h_x3 h_x4 h_x6 h_x7 h_t0 (s0 := (σ, t0)) ⟨h_σ, (zs_w h_t0 (by decide))⟩) (fun t_1 pt_1 => ?_)
  obtain ⟨ret, er, hr⟩ := zc_1440 pt_1 h_x3 h_x4 h_x6 h_x7 h_t0 hc
  refine ⟨ret, er, ?_⟩
  exact (zs_sumw hr (fun v w => ⟨w.1, w.2⟩) (fun v w => w.elim))
-- BX4_reckon_34
theorem zc_1442 {σ0 : sn_S} {σ : sn_S} (h_σ : zs_C σ0 σ) {x3 : Int32} (h_x3 : zs_in x3.toInt 2 2) {x4 : Int32} (h_x4 : zs_in x4.toInt (-1) (-1)) {x6 : Int32} (h_x6 : zs_in x6.toInt 8 8) {x7 : Int32} (h_x7 : zs_in x7.toInt 0 256) {c : Int} (hc : x7.toInt = c + 0) : zs_ok (BX4_reckon_34 σ 1 27 x3 x4 x6 x7) (fun r => zs_sum (fun v => ((zs_C σ0 v.1 ∧ zs_in (v.2).toInt 1 256)) ∧ v.2.toInt = c + 1) (fun v => zs_C σ0 v) r) := by
  unfold BX4_reckon_34
  obtain rfl : x3 = (2 : Int32) := zs_eqv h_x3 (by decide)
  obtain rfl : x4 = (-1 : Int32) := zs_eqv h_x4 (by decide)
  obtain rfl : x6 = (8 : Int32) := zs_eqv h_x6 (by decide)
  refine zs_ite (fun c1 => ?_) (fun c1 => ?_)
  · skip
    have r2 := (zs_I_le c1)
    have g3 : zs_in (x7).toInt 256 256 := (zs_ler 256 256 r2 (zs_cases h_x6 (fun z => zs_in ((1 : Int32) <<< (z &&& 31)).toInt 256 256) (by decide +kernel)) h_x7 (by decide))
    exact zs_some (zs_inr (h_σ))
  · skip
    have r4 := (zs_I_len c1)
    have g5 : zs_in (x7).toInt 0 255 := (zs_ltl 0 255 r4 h_x7 (zs_cases h_x6 (fun z => zs_in ((1 : Int32) <<< (z &&& 31)).toInt 256 256) (by decide +kernel)) (by decide))
    refine zs_ite (fun c6 => ?_) (fun c6 => ?_)
    · skip
      have r7 := (zs_I_eq c6)
      have g8 : zs_in (x7).toInt 0 0 := (zs_eql 0 0 r7 g5 zlI_0 (by decide))
      obtain ⟨ret, er, hr⟩ := zc_1432 h_σ h_x3 h_x4 h_x6 g8 zlI_0 hc
      refine ⟨ret, er, ?_⟩
      exact (zs_sumw hr (fun v w => ⟨⟨w.1.1, (zs_w w.1.2 (by decide))⟩, w.2⟩) (fun v w => w.elim))
    · skip
      have r9 := (zs_I_eqn c6)
      have g10 : zs_in (x7).toInt 1 255 := (zs_nel 1 255 r9 g5 zlI_0 (by decide))
      refine zs_bd_ (zo_low1 8 7 (by decide) g10) (fun t_3 pt_3 => ?_)
      obtain ⟨ret, er, hr⟩ := zc_1441 h_σ h_x3 h_x4 h_x6 g10 (zs_subI 0 7 (zs_subI 7 7 h_x6 zlI_1 (by decide)) pt_3 (by decide)) hc
      refine ⟨ret, er, ?_⟩
      exact (zs_sumw hr (fun v w => ⟨⟨w.1.1, (zs_w w.1.2 (by decide))⟩, w.2⟩) (fun v w => w.elim))
theorem zd_284 {σ0 : sn_S} {x3 : Int32} (h_x3 : zs_in x3.toInt 2 2) {x4 : Int32} (h_x4 : zs_in x4.toInt (-1) (-1)) {x6 : Int32} (h_x6 : zs_in x6.toInt 8 8) {s0 : (sn_S × Int32)} (h0 : (zs_C σ0 s0.1 ∧ zs_in (s0.2).toInt 0 256)) : zs_ok (sn_it (LX4_reckon_34 1 27 x3 x4 x6) 5000 s0) (fun t => zs_C σ0 t) := by
  refine zs_it (I := fun s => (zs_C σ0 s.1 ∧ zs_in (s.2).toInt 0 256)) (m := fun s => 256 - s.2.toInt) (fun s hs => ?_) (fun s hs => ?_) (by exact h0)
  · have h1 := hs.2; unfold zs_in at h1
    omega
  · obtain ⟨b, eb, hb⟩ := zc_1442 hs.1 h_x3 h_x4 h_x6 hs.2 (c := s.2.toInt) (Int.add_zero _).symm
    exact ⟨b, eb, zs_sumw hb (fun v w => ⟨⟨w.1.1, (zs_w w.1.2 (by decide))⟩, by have := w.2; omega⟩) (fun v w => w)⟩
-- fX4_reckon
theorem zc_1443 {σ0 : sn_S} {σ : sn_S} (h_σ : zs_C σ0 σ) {x3 : Int32} (h_x3 : zs_in x3.toInt 2 2) {x4 : Int32} (h_x4 : zs_in x4.toInt (-1) (-1)) {x5 : Int32} (h_x5 : zs_in x5.toInt 7 7) : zs_ok (fX4_reckon σ 1 27 x3 x4 x5) (fun r => zs_C σ0 r) := by
  unfold fX4_reckon
  obtain rfl : x3 = (2 : Int32) := zs_eqv h_x3 (by decide)
  obtain rfl : x4 = (-1 : Int32) := zs_eqv h_x4 (by decide)
  obtain rfl : x5 = (7 : Int32) := zs_eqv h_x5 (by decide)
  refine zs_lt (Q := fun z => zs_in z.toInt 8 8) (zs_addI 8 8 h_x5 zlI_1 (by decide)) (fun y_1 hy_1 => ?_)
  refine zs_gd (zs_gin zlI_4 (by decide)) ?_
  refine zs_bd_ (zc_1060 h_σ hy_1 (zs_rdk (q := 2) (k := (4 : Int32).toNatClampNeg) (z := (0, 10)) h_σ.1 rfl)) (fun t_4 pt_4 => ?_)
  refine zs_bd_ (zo_dcopy pt_4) (fun t_6 pt_6 => ?_)
  refine zs_lt (Q := fun z => zs_C σ0 z) (zs_wrL pt_6 rfl) (fun σ_8 hσ_8 => ?_)
  refine zs_bd_ (zd_284 h_x3 h_x4 hy_1 (s0 := (σ_8, (0 : Int32))) ⟨hσ_8, (zs_w zlI_0 (by decide))⟩) (fun t_10 pt_10 => ?_)
  obtain ⟨ret, er, hr⟩ := zc_1109 pt_10 hy_1
  refine ⟨ret, er, ?_⟩
  exact hr
-- fX4_reckon
theorem zc_1444 {σ0 : sn_S} {σ : sn_S} (h_σ : zs_C σ0 σ) {x3 : Int32} (h_x3 : zs_in x3.toInt 2 2) {x4 : Int32} (h_x4 : zs_in x4.toInt (-1) (-1)) {x5 : Int32} (h_x5 : zs_in x5.toInt 0 7) : zs_ok (fX4_reckon σ 1 27 x3 x4 x5) (fun r => zs_C σ0 r) := by
  obtain ⟨j, hj, rfl⟩ := zs_val h_x5 (by decide)
  have hj : j < 8 := hj
  match j, hj with
  | 0, _ =>
    obtain ⟨r, e, h⟩ := zc_1282 (x5 := nI 0) h_σ h_x3 h_x4 (by decide)
    exact ⟨r, e, h⟩
  | 1, _ =>
    obtain ⟨r, e, h⟩ := zc_1305 (x5 := nI 1) h_σ h_x3 h_x4 (by decide)
    exact ⟨r, e, h⟩
  | 2, _ =>
    obtain ⟨r, e, h⟩ := zc_1328 (x5 := nI 2) h_σ h_x3 h_x4 (by decide)
    exact ⟨r, e, h⟩
  | 3, _ =>
    obtain ⟨r, e, h⟩ := zc_1351 (x5 := nI 3) h_σ h_x3 h_x4 (by decide)
    exact ⟨r, e, h⟩
  | 4, _ =>
    obtain ⟨r, e, h⟩ := zc_1374 (x5 := nI 4) h_σ h_x3 h_x4 (by decide)
    exact ⟨r, e, h⟩
  | 5, _ =>
    obtain ⟨r, e, h⟩ := zc_1397 (x5 := nI 5) h_σ h_x3 h_x4 (by decide)
    exact ⟨r, e, h⟩
  | 6, _ =>
    obtain ⟨r, e, h⟩ := zc_1420 (x5 := nI 6) h_σ h_x3 h_x4 (by decide)
    exact ⟨r, e, h⟩
  | 7, _ =>
    obtain ⟨r, e, h⟩ := zc_1443 (x5 := nI 7) h_σ h_x3 h_x4 (by decide)
    exact ⟨r, e, h⟩

-- fX8_risk
theorem zc_1445 {σ0 : sn_S} {σ : sn_S} (h_σ : zs_C σ0 σ) {x1 : Int32} {x2 : Int32} : zs_ok (fX8_risk σ x1 x2) (fun r => ((True ∧ zs_C σ0 r.2)) ∧ ((r.1).toInt = (-2) ∨ (zs_in (x1).toInt 0 7 ∧ zs_in (x2).toInt 0 1))) := by
  unfold fX8_risk
  refine zs_bd_ (zc_668 h_σ) (fun t_1 pt_1 => ?_)
  refine zs_ite (fun c1 => ?_) (fun c1 => ?_)
  · skip
    have r2 := (zs_I_eq c1)
    have g3 : zs_in (t_1).toInt 0 0 := (zs_eql 0 0 r2 pt_1.1 zlI_0 (by decide))
    exact zs_some ⟨⟨trivial, h_σ⟩, Or.inl (zs_ptr zlI_m2)⟩
  · skip
    have r4 := (zs_I_eqn c1)
    have g5 : zs_in (t_1).toInt 1 1 := (zs_nel 1 1 r4 pt_1.1 zlI_0 (by decide))
    have q6 := (zs_or2 pt_1.2 g5 (by decide))
    have g7 : zs_in (x1).toInt 0 7 := q6
    refine zs_ite (fun c8 => ?_) (fun c8 => ?_)
    · skip
      have r9 := (zs_I_lt c8)
      have g10 : zs_in (x2).toInt (-2147483648) (-1) := (zs_ltl (-2147483648) (-1) r9 (zs_topI _) zlI_0 (by decide))
      exact zs_some ⟨⟨trivial, h_σ⟩, Or.inl (zs_ptr zlI_m2)⟩
    · skip
      have r11 := (zs_I_ltn c8)
      have g12 : zs_in (x2).toInt 0 2147483647 := (zs_ler 0 2147483647 r11 zlI_0 (zs_topI _) (by decide))
      refine zs_ite (fun c13 => ?_) (fun c13 => ?_)
      · skip
        have r14 := (zs_I_le c13)
        have g15 : zs_in (x2).toInt 0 1 := (zs_lel 0 1 r14 g12 zlI_1 (by decide))
        refine zs_bd_ (zc_1444 h_σ zlI_2 zlI_m1 g7) (fun t_6 pt_6 => ?_)
        refine zs_ite (fun c16 => ?_) (fun c16 => ?_)
        · skip
          have r17 := (zs_I_eq c16)
          have g18 : zs_in (x2).toInt 0 0 := (zs_eql 0 0 r17 g15 zlI_0 (by decide))
          exact zs_some ⟨⟨trivial, pt_6⟩, Or.inr ⟨g7, (zs_w g18 (by decide))⟩⟩
        · skip
          have r19 := (zs_I_eqn c16)
          have g20 : zs_in (x2).toInt 1 1 := (zs_nel 1 1 r19 g15 zlI_0 (by decide))
          exact zs_some ⟨⟨trivial, pt_6⟩, Or.inr ⟨g7, (zs_w g20 (by decide))⟩⟩
      · skip
        have r21 := (zs_I_len c13)
        have g22 : zs_in (x2).toInt 2 2147483647 := (zs_ltr 2 2147483647 r21 zlI_1 g12 (by decide))
        exact zs_some ⟨⟨trivial, h_σ⟩, Or.inl (zs_ptr zlI_m2)⟩
-- fX8_isSeed
theorem zc_1446 {x0 : Int32} : zs_ok (fX8_isSeed x0) (fun r => (zs_in (r).toInt 0 1) ∧ ((r).toInt = 0 ∨ (zs_in (x0).toInt 0 2000000000))) := by
  unfold fX8_isSeed
  refine zs_ite (fun c1 => ?_) (fun c1 => ?_)
  · skip
    have r2 := (zs_I_lt c1)
    have g3 : zs_in (x0).toInt (-2147483648) (-1) := (zs_ltl (-2147483648) (-1) r2 (zs_topI _) zlI_0 (by decide))
    refine zs_gd (zs_b01 zlI_0 (by decide)) ?_
    exact zs_some ⟨(zs_w zlI_0 (by decide)), Or.inl (zs_ptr zlI_0)⟩
  · skip
    have r4 := (zs_I_ltn c1)
    have g5 : zs_in (x0).toInt 0 2147483647 := (zs_ler 0 2147483647 r4 zlI_0 (zs_topI _) (by decide))
    refine zs_ite (fun c6 => ?_) (fun c6 => ?_)
    · skip
      have r7 := (zs_I_lt c6)
      have g8 : zs_in (x0).toInt 2000000001 2147483647 := (zs_ltr 2000000001 2147483647 r7 zlI_2000000000 g5 (by decide))
      refine zs_gd (zs_b01 zlI_0 (by decide)) ?_
      exact zs_some ⟨(zs_w zlI_0 (by decide)), Or.inl (zs_ptr zlI_0)⟩
    · skip
      have r9 := (zs_I_ltn c6)
      have g10 : zs_in (x0).toInt 0 2000000000 := (zs_lel 0 2000000000 r9 g5 zlI_2000000000 (by decide))
      refine zs_gd (zs_b01 zlI_1 (by decide)) ?_
      exact zs_some ⟨(zs_w zlI_1 (by decide)), Or.inr g10⟩
-- BX8_liveDrawn_89
theorem zc_1447 {σ0 : sn_S} {σ : sn_S} (h_σ : zs_C σ0 σ) {x2 : Int32} {x3 : Int64} {x5 : Int32} (h_x5 : zs_in x5.toInt 0 29) {c : Int} (hc : x5.toInt = c + 0) : zs_ok (BX8_liveDrawn_89 σ x2 x3 x5) (fun r => zs_sum (fun v => ((zs_C σ0 v.1 ∧ (True ∧ (True ∧ zs_in (v.2.2.2).toInt 1 30)))) ∧ v.2.2.2.toInt = c + 1) (fun v => False) r) := by
  unfold BX8_liveDrawn_89
  refine zs_lt (Q := fun z => zs_in z.toInt 1 30 ∧ z.toInt = c + 1) ⟨(zs_addI 1 30 h_x5 zlI_1 (by decide)), (zs_syI 1 hc h_x5 zlI_1 (by decide) (by decide))⟩ (fun y_1 hy_1 => ?_)
  exact zs_some (zs_inl ⟨⟨h_σ, ⟨trivial, ⟨trivial, hy_1.1⟩⟩⟩, hy_1.2⟩)
-- BX8_liveDrawn_19
theorem zc_1448 {σ0 : sn_S} {σ : sn_S} (h_σ : zs_C σ0 σ) {x2 : Int32} {x3 : Int64} {x5 : Int32} (h_x5 : zs_in x5.toInt 0 30) {c : Int} (hc : x5.toInt = c + 0) : zs_ok (BX8_liveDrawn_19 σ x2 x3 x5) (fun r => zs_sum (fun v => ((zs_C σ0 v.1 ∧ (True ∧ (True ∧ zs_in (v.2.2.2).toInt 1 30)))) ∧ v.2.2.2.toInt = c + 1) (fun v => (zs_C σ0 v.1 ∧ True)) r) := by
  unfold BX8_liveDrawn_19
  refine zs_ite (fun c1 => ?_) (fun c1 => ?_)
  · skip
    have r2 := (zs_I_le c1)
    exact zs_some (zs_inr (⟨h_σ, trivial⟩))
  · skip
    have r3 := (zs_I_len c1)
    have g4 : zs_in (x5).toInt 0 29 := (zs_ltl 0 29 r3 h_x5 (zs_rdk (q := 27) (k := 0) (z := (0, 30)) h_σ.1 rfl) (by decide))
    have g5 : zs_in ((sn_I σ 27 0)).toInt 1 30 := (zs_ltr 1 30 r3 h_x5 (zs_rdk (q := 27) (k := 0) (z := (0, 30)) h_σ.1 rfl) (by decide))
    refine zs_lt (Q := fun z => True) trivial (fun y_2 hy_2 => ?_)
    refine zs_gd (zs_gin zlI_4 (by decide)) ?_
    refine zs_ite (fun c6 => ?_) (fun c6 => ?_)
    · skip
      have r7 := (zs_lg_lef c6)
      have g8 : zs_in (((y_2 / (65536 : Int64)) - (((y_2 / (65536 : Int64)) / (10 : Int64)) * (10 : Int64)))).toInt 0 9223372036854775807 := (zs_ler 0 9223372036854775807 r7 (zs_64 (zs_rdk (q := 2) (k := (4 : Int32).toNatClampNeg) (z := (0, 10)) h_σ.1 rfl)) (zs_topL _) (by decide))
      obtain ⟨ret, er, hr⟩ := zc_1447 h_σ g4 hc
      refine ⟨ret, er, ?_⟩
      exact (zs_sumw hr (fun v w => ⟨w.1, w.2⟩) (fun v w => w.elim))
    · skip
      have r9 := (zs_lg_lefn c6)
      have g10 : zs_in (((y_2 / (65536 : Int64)) - (((y_2 / (65536 : Int64)) / (10 : Int64)) * (10 : Int64)))).toInt (-9223372036854775808) 9 := (zs_ltl (-9223372036854775808) 9 r9 (zs_topL _) (zs_64 (zs_rdk (q := 2) (k := (4 : Int32).toNatClampNeg) (z := (0, 10)) h_σ.1 rfl)) (by decide))
      refine zs_lt (Q := fun z => True) trivial (fun y_6 hy_6 => ?_)
      refine zs_gd (zs_gin g4 (by decide)) ?_
      refine zs_gd (zs_gin g4 (by decide)) ?_
      refine zs_lt (Q := fun z => zs_C σ0 z) (zs_wrt h_σ (fun _ => rfl) (fun _ => rfl)) (fun σ_10 hσ_10 => ?_)
      obtain ⟨ret, er, hr⟩ := zc_1447 hσ_10 g4 hc
      refine ⟨ret, er, ?_⟩
      exact (zs_sumw hr (fun v w => ⟨w.1, w.2⟩) (fun v w => w.elim))
theorem zd_285 {σ0 : sn_S}  {s0 : (sn_S × (Int32 × (Int64 × Int32)))} (h0 : (zs_C σ0 s0.1 ∧ (True ∧ (True ∧ zs_in (s0.2.2.2).toInt 0 30)))) : zs_ok (sn_it (LX8_liveDrawn_19) 5000 s0) (fun t => (zs_C σ0 t.1 ∧ True)) := by
  refine zs_it (I := fun s => (zs_C σ0 s.1 ∧ (True ∧ (True ∧ zs_in (s.2.2.2).toInt 0 30)))) (m := fun s => 30 - s.2.2.2.toInt) (fun s hs => ?_) (fun s hs => ?_) (by exact h0)
  · have h1 := hs.2.2.2; unfold zs_in at h1
    omega
  · obtain ⟨b, eb, hb⟩ := zc_1448 hs.1 hs.2.2.2 (c := s.2.2.2.toInt) (Int.add_zero _).symm
    exact ⟨b, eb, zs_sumw hb (fun v w => ⟨⟨w.1.1, ⟨w.1.2.1, ⟨w.1.2.2.1, (zs_w w.1.2.2.2 (by decide))⟩⟩⟩, by have := w.2; omega⟩) (fun v w => w)⟩
-- BX8_liveDrawn_95
theorem zc_1449 {σ0 : sn_S} {σ : sn_S} (h_σ : zs_C σ0 σ) {x2 : Int32} : zs_ok (BX8_liveDrawn_95 σ x2) (fun r => (True ∧ zs_C σ0 r.2)) := by
  unfold BX8_liveDrawn_95
  refine zs_bd_ (zc_350 h_σ) (fun t_1 pt_1 => ?_)
  exact zs_some ⟨trivial, pt_1⟩
-- fX8_liveDrawn
theorem zc_1450 {σ0 : sn_S} {σ : sn_S} (h_σ : zs_C σ0 σ) {x1 : Int32} (h_x1 : zs_in x1.toInt 0 2000000000) : zs_ok (fX8_liveDrawn σ x1) (fun r => (True ∧ zs_C σ0 r.2)) := by
  unfold fX8_liveDrawn
  refine zs_bd_ (zo_dcopy h_σ) (fun t_1 pt_1 => ?_)
  refine zs_bd_ (zd_285  (s0 := (t_1, ((0 : Int32), (x1.toInt64, (0 : Int32))))) ⟨pt_1, ⟨trivial, ⟨trivial, (zs_w zlI_0 (by decide))⟩⟩⟩) (fun t_3 pt_3 => ?_)
  obtain ⟨ret, er, hr⟩ := zc_1449 pt_3.1
  refine ⟨ret, er, ?_⟩
  exact hr
-- BX3_reckon_115
theorem zc_1451 {σ0 : sn_S} {σ : sn_S} (h_σ : zs_C σ0 σ) : zs_ok (BX3_reckon_115 σ 49 1 38) (fun r => zs_C σ0 r) := by
  unfold BX3_reckon_115
  exact zs_some h_σ
theorem zo_reckon_49_38_0_3_l {σ0 : sn_S} {x3 : Int32} (h_x3 : zs_in x3.toInt 0 3) {s0 : sn_S × Int32} (h0 : zs_C σ0 s0.1 ∧ zs_in s0.2.toInt 0 6 ∧ (sn_I s0.1 49 2).toInt = (σ0.1 2 8).toInt) : zs_ok (sn_it (LX3_reckon_24 49 1 38 x3) 5000 s0) (fun t => zs_C σ0 t) := by
  refine zs_it (I := fun s => zs_C σ0 s.1 ∧ zs_in s.2.toInt 0 6 ∧ (sn_I s.1 49 2).toInt = (σ0.1 2 8).toInt) (m := fun s => 6 - s.2.toInt) (fun s hs => ⟨by have := hs.2.1; omega, by have := hs.2.1; omega⟩) (fun s hs => ?_) h0
  obtain ⟨σ, x4⟩ := s
  obtain ⟨h_σ, h_x4, hq⟩ := hs
  unfold LX3_reckon_24 BX3_reckon_24
  refine zs_ite (fun c1 => zs_some (zs_inr h_σ)) (fun c1 => ?_)
  have r3 := (zs_I_len c1)
  have g4 : zs_in (x4).toInt 0 5 := (zs_ltl 0 5 r3 h_x4 (zs_rdk (q := 49) (k := 2) (z := (0, 6)) h_σ.1 rfl) (by decide))
  haveI : zs_Ws σ0 x4 := ⟨⟨by have h1 : x4.toInt < (sn_I σ 49 2).toInt := r3; have h2 : (sn_I σ 49 2).toInt = (σ0.1 2 8).toInt := hq; omega⟩⟩
  refine zs_bd_ (zo_whose h_σ g4) (fun t_2 pt_2 => ?_)
  refine zs_gd (zs_gin pt_2 (by decide)) ?_
  refine zs_lt (Q := fun z => zs_in z.toInt 0 1073741823) (zs_rdu (q := 48) (z := (0, 1073741823)) h_σ.1 (fun _ => rfl)) (fun y_5 hy_5 => ?_)
  refine zs_bd_ (zc_229 h_σ g4 zlI_4) (fun t_7 pt_7 => ?_)
  refine zs_lt (Q := fun z => zs_C σ0 z ∧ (sn_I z 49 2).toInt = (σ0.1 2 8).toInt) ⟨zs_wrkt h_σ rfl rfl, hq⟩ (fun σ_9 hσ_9 => ?_)
  refine zs_gd (zs_gin pt_2 (by decide)) ?_
  refine zs_bd_ (zc_235 hσ_9.1 h_x3 g4 hy_5) (fun t_12 pt_12 => ?_)
  refine zs_gd (zs_gin g4 (by decide)) ?_
  refine zs_lt (Q := fun z => zs_C σ0 z ∧ (sn_I z 49 2).toInt = (σ0.1 2 8).toInt) ⟨zs_wrt hσ_9.1 (fun _ => rfl) (fun _ => rfl), hσ_9.2⟩ (fun σ_15 hσ_15 => ?_)
  refine zs_bd_ (zc_233 hσ_15.1 h_x3 g4 hy_5) (fun t_17 pt_17 => ?_)
  refine zs_bd_ (zo_low 30 29 (by decide) pt_17) (fun t_19 pt_19 => ?_)
  refine zs_gd (zs_gin g4 (by decide)) ?_
  refine zs_lt (Q := fun z => zs_C σ0 z ∧ (sn_I z 49 2).toInt = (σ0.1 2 8).toInt) ⟨zs_wru (z := ((-1), 63)) hσ_15.1 (fun _ => rfl) pt_19 (by decide) (fun _ => rfl), hσ_15.2⟩ (fun σ_22 hσ_22 => ?_)
  refine zs_lt (Q := fun z => zs_in z.toInt 1 6 ∧ z.toInt = x4.toInt + 1) ⟨(zs_addI 1 6 g4 zlI_1 (by decide)), (zs_syI 1 (show x4.toInt = x4.toInt + 0 by omega) g4 zlI_1 (by decide) (by decide))⟩ (fun y_24 hy_24 => ?_)
  exact zs_some (zs_inl ⟨⟨hσ_22.1, zs_w hy_24.1 (by decide), hσ_22.2⟩, by show 6 - y_24.toInt < 6 - x4.toInt; have := hy_24.2; omega⟩)
theorem zo_reckon_49_38_0_3 {σ0 : sn_S} {σ : sn_S} (h_σ : zs_C σ0 σ) {x3 : Int32} (h_x3 : zs_in x3.toInt 0 3) : zs_ok (fX3_reckon σ 49 1 38 x3) (fun r => zs_C σ0 r) := by
  unfold fX3_reckon
  have e8 : sn_I σ (1 + 1) (8 : Int32).toNatClampNeg = σ0.1 2 8 := h_σ.2.1 2 8 rfl
  refine zs_gd (by decide) ?_
  refine zs_lt (Q := fun z => zs_C σ0 z ∧ (sn_I z 49 2).toInt = (σ0.1 2 8).toInt) ⟨zs_wrk (z := (0, 6)) h_σ rfl (zs_rdk (q := 2) (k := (8 : Int32).toNatClampNeg) (z := (0, 6)) h_σ.1 rfl) (by decide) rfl, by
    show (sn_I σ (1 + 1) (8 : Int32).toNatClampNeg).toInt = _
    rw [e8]⟩ (fun σ_2 h2 => ?_)
  refine zs_gd (by decide) ?_
  refine zs_lt (Q := fun z => zs_C σ0 z ∧ (sn_I z 49 2).toInt = (σ0.1 2 8).toInt) ⟨zs_wrkt h2.1 rfl rfl, h2.2⟩ (fun σ_5 h5 => ?_)
  refine zs_bd_ (zo_reckon_49_38_0_3_l h_x3 (s0 := (σ_5, (0 : Int32))) ⟨h5.1, (by decide : zs_in (0 : Int32).toInt 0 6), h5.2⟩) (fun t_7 p7 => ?_)
  exact zc_1451 p7
-- fX8_drawn
theorem zc_1452 {σ0 : sn_S} {σ : sn_S} (h_σ : zs_C σ0 σ) {x1 : Int32} {x2 : Int32} : zs_ok (fX8_drawn σ x1 x2) (fun r => ((True ∧ zs_C σ0 r.2)) ∧ ((r.1).toInt = (-2) ∨ (zs_in (x1).toInt 0 2000000000 ∧ zs_in (x2).toInt 0 2))) := by
  unfold fX8_drawn
  refine zs_bd_ (zc_102 h_σ) (fun t_1 pt_1 => ?_)
  refine zs_ite (fun c1 => ?_) (fun c1 => ?_)
  · skip
    have r2 := (zs_I_eq c1)
    have g3 : zs_in (t_1).toInt 0 0 := (zs_eql 0 0 r2 pt_1 zlI_0 (by decide))
    exact zs_some ⟨⟨trivial, h_σ⟩, Or.inl (zs_ptr zlI_m2)⟩
  · skip
    have r4 := (zs_I_eqn c1)
    have g5 : zs_in (t_1).toInt 1 1 := (zs_nel 1 1 r4 pt_1 zlI_0 (by decide))
    refine zs_bd_ (zc_1446) (fun t_4 pt_4 => ?_)
    refine zs_ite (fun c6 => ?_) (fun c6 => ?_)
    · skip
      have r7 := (zs_I_eq c6)
      have g8 : zs_in (t_4).toInt 0 0 := (zs_eql 0 0 r7 pt_4.1 zlI_0 (by decide))
      exact zs_some ⟨⟨trivial, h_σ⟩, Or.inl (zs_ptr zlI_m2)⟩
    · skip
      have r9 := (zs_I_eqn c6)
      have g10 : zs_in (t_4).toInt 1 1 := (zs_nel 1 1 r9 pt_4.1 zlI_0 (by decide))
      have q11 := (zs_or2 pt_4.2 g10 (by decide))
      have g12 : zs_in (x1).toInt 0 2000000000 := q11
      refine zs_ite (fun c13 => ?_) (fun c13 => ?_)
      · skip
        have r14 := (zs_I_lt c13)
        have g15 : zs_in (x2).toInt (-2147483648) (-1) := (zs_ltl (-2147483648) (-1) r14 (zs_topI _) zlI_0 (by decide))
        exact zs_some ⟨⟨trivial, h_σ⟩, Or.inl (zs_ptr zlI_m2)⟩
      · skip
        have r16 := (zs_I_ltn c13)
        have g17 : zs_in (x2).toInt 0 2147483647 := (zs_ler 0 2147483647 r16 zlI_0 (zs_topI _) (by decide))
        refine zs_ite (fun c18 => ?_) (fun c18 => ?_)
        · skip
          have r19 := (zs_I_le c18)
          have g20 : zs_in (x2).toInt 0 2 := (zs_lel 0 2 r19 g17 zlI_2 (by decide))
          refine zs_bd_ (zc_1450 h_σ g12) (fun t_9 pt_9 => ?_)
          refine zs_ite (fun c21 => ?_) (fun c21 => ?_)
          · skip
            have r22 := (zs_I_eq c21)
            have g23 : zs_in (x2).toInt 0 0 := (zs_eql 0 0 r22 g20 zlI_0 (by decide))
            exact zs_some ⟨⟨trivial, pt_9.2⟩, Or.inr ⟨g12, (zs_w g23 (by decide))⟩⟩
          · skip
            have r24 := (zs_I_eqn c21)
            have g25 : zs_in (x2).toInt 1 2 := (zs_nel 1 2 r24 g20 zlI_0 (by decide))
            refine zs_ite (fun c26 => ?_) (fun c26 => ?_)
            · skip
              have r27 := (zs_I_eq c26)
              have g28 : zs_in (x2).toInt 1 1 := (zs_eql 1 1 r27 g25 zlI_1 (by decide))
              refine zs_bd_ (zc_362 pt_9.2) (fun t_18 pt_18 => ?_)
              exact zs_some ⟨⟨trivial, pt_9.2⟩, Or.inr ⟨g12, (zs_w g28 (by decide))⟩⟩
            · skip
              have r29 := (zs_I_eqn c26)
              have g30 : zs_in (x2).toInt 2 2 := (zs_nel 2 2 r29 g25 zlI_1 (by decide))
              refine zs_gd (zs_gin zlI_2 (by decide)) ?_
              refine zs_bd_ (zo_reckon_49_38_0_3 pt_9.2 (zs_rdk (q := 2) (k := (2 : Int32).toNatClampNeg) (z := (0, 3)) pt_9.2.1 rfl)) (fun t_14 pt_14 => ?_)
              refine zs_bd_ (zc_415 pt_14 (zs_rdk (q := 38) (k := 0) (z := (0, 30)) pt_14.1 rfl)) (fun t_16 pt_16 => ?_)
              exact zs_some ⟨⟨trivial, pt_14⟩, Or.inr ⟨g12, (zs_w g30 (by decide))⟩⟩
        · skip
          have r31 := (zs_I_len c18)
          have g32 : zs_in (x2).toInt 3 2147483647 := (zs_ltr 3 2147483647 r31 zlI_2 g17 (by decide))
          exact zs_some ⟨⟨trivial, h_σ⟩, Or.inl (zs_ptr zlI_m2)⟩
-- fX9_in
theorem zc_1453 {x0 : Int64} (h_x0 : zs_in x0.toInt (-2147483648) 2147483647) {x2 : Int64} (h_x2 : zs_in x2.toInt 0 0) {x4 : Int64} (h_x4 : zs_in x4.toInt 2000000000 2000000000) : zs_ok (fX9_in x0 x2 x4) (fun r => (zs_in (r).toInt 0 1) ∧ ((r).toInt = 0 ∨ (zs_in (x0).toInt 0 2000000000))) := by
  unfold fX9_in
  refine zs_ite (fun c1 => ?_) (fun c1 => ?_)
  · skip
    have r2 := (zs_lg_lt c1)
    have g3 : zs_in (x0).toInt (-2147483648) (-1) := (zs_ltl (-2147483648) (-1) r2 h_x0 h_x2 (by decide))
    refine zs_gd (zs_b01 zlI_0 (by decide)) ?_
    exact zs_some ⟨(zs_w zlI_0 (by decide)), Or.inl (zs_ptr zlI_0)⟩
  · skip
    have r4 := (zs_lg_ltn c1)
    have g5 : zs_in (x0).toInt 0 2147483647 := (zs_ler 0 2147483647 r4 h_x2 h_x0 (by decide))
    refine zs_ite (fun c6 => ?_) (fun c6 => ?_)
    · skip
      have r7 := (zs_lg_ltf c6)
      have g8 : zs_in (x0).toInt 2000000001 2147483647 := (zs_ltr 2000000001 2147483647 r7 h_x4 g5 (by decide))
      refine zs_gd (zs_b01 zlI_0 (by decide)) ?_
      exact zs_some ⟨(zs_w zlI_0 (by decide)), Or.inl (zs_ptr zlI_0)⟩
    · skip
      have r9 := (zs_lg_ltfn c6)
      have g10 : zs_in (x0).toInt 0 2000000000 := (zs_lel 0 2000000000 r9 g5 h_x4 (by decide))
      refine zs_gd (zs_b01 zlI_1 (by decide)) ?_
      exact zs_some ⟨(zs_w zlI_1 (by decide)), Or.inr g10⟩
-- fX9_isSeed
theorem zc_1454 {x0 : Int32} : zs_ok (fX9_isSeed x0) (fun r => (zs_in (r).toInt 0 1) ∧ ((r).toInt = 0 ∨ (zs_in (x0).toInt 0 2000000000))) := by
  unfold fX9_isSeed
  refine zs_bd_ (zc_1453 (zs_64 (zs_topI _)) zlL_0 zlL_2000000000) (fun t_1 pt_1 => ?_)
  refine zs_gd (zs_b01 pt_1.1 (by decide)) ?_
  rcases pt_1.2 with z0 | z0
  · skip
    have g1 : zs_in (t_1).toInt 0 0 := (zs_pt z0)
    exact zs_some ⟨(zs_w g1 (by decide)), Or.inl (zs_ptr g1)⟩
  · skip
    have q2 := z0
    have g3 : zs_in (x0.toInt64).toInt 0 2000000000 := q2
    have g4 : zs_in (x0).toInt 0 2000000000 := (zs_64r g3)
    exact zs_some ⟨pt_1.1, Or.inr g4⟩
-- fX9_in
theorem zc_1455 {x0 : Int64} (h_x0 : zs_in x0.toInt (-2147483648) 2147483647) {x2 : Int64} (h_x2 : zs_in x2.toInt 0 0) {x4 : Int64} (h_x4 : zs_in x4.toInt 2 2) : zs_ok (fX9_in x0 x2 x4) (fun r => (zs_in (r).toInt 0 1) ∧ ((r).toInt = 0 ∨ (zs_in (x0).toInt 0 2))) := by
  unfold fX9_in
  refine zs_ite (fun c1 => ?_) (fun c1 => ?_)
  · skip
    have r2 := (zs_lg_lt c1)
    have g3 : zs_in (x0).toInt (-2147483648) (-1) := (zs_ltl (-2147483648) (-1) r2 h_x0 h_x2 (by decide))
    refine zs_gd (zs_b01 zlI_0 (by decide)) ?_
    exact zs_some ⟨(zs_w zlI_0 (by decide)), Or.inl (zs_ptr zlI_0)⟩
  · skip
    have r4 := (zs_lg_ltn c1)
    have g5 : zs_in (x0).toInt 0 2147483647 := (zs_ler 0 2147483647 r4 h_x2 h_x0 (by decide))
    refine zs_ite (fun c6 => ?_) (fun c6 => ?_)
    · skip
      have r7 := (zs_lg_ltf c6)
      have g8 : zs_in (x0).toInt 3 2147483647 := (zs_ltr 3 2147483647 r7 h_x4 g5 (by decide))
      refine zs_gd (zs_b01 zlI_0 (by decide)) ?_
      exact zs_some ⟨(zs_w zlI_0 (by decide)), Or.inl (zs_ptr zlI_0)⟩
    · skip
      have r9 := (zs_lg_ltfn c6)
      have g10 : zs_in (x0).toInt 0 2 := (zs_lel 0 2 r9 g5 h_x4 (by decide))
      refine zs_gd (zs_b01 zlI_1 (by decide)) ?_
      exact zs_some ⟨(zs_w zlI_1 (by decide)), Or.inr g10⟩
-- BX9_goDrawn_78
theorem zc_1456 {σ0 : sn_S} {σ : sn_S} (h_σ : zs_M σ0 σ) {x3 : Int64} {x5 : Int32} {x6 : Int32} (h_x6 : zs_in x6.toInt 0 29) {c : Int} (hc : x6.toInt = c + 0) : zs_ok (BX9_goDrawn_78 σ x3 x5 x6) (fun r => zs_sum (fun v => ((zs_M σ0 v.1 ∧ (True ∧ (True ∧ zs_in (v.2.2.2).toInt 1 30)))) ∧ v.2.2.2.toInt = c + 1) (fun v => False) r) := by
  unfold BX9_goDrawn_78
  refine zs_lt (Q := fun z => zs_in z.toInt 1 30 ∧ z.toInt = c + 1) ⟨(zs_addI 1 30 h_x6 zlI_1 (by decide)), (zs_syI 1 hc h_x6 zlI_1 (by decide) (by decide))⟩ (fun y_1 hy_1 => ?_)
  exact zs_some (zs_inl ⟨⟨h_σ, ⟨trivial, ⟨trivial, hy_1.1⟩⟩⟩, hy_1.2⟩)
-- BX9_goDrawn_12
theorem zc_1457 {σ0 : sn_S} {σ : sn_S} (h_σ : zs_M σ0 σ) {x3 : Int64} {x5 : Int32} {x6 : Int32} (h_x6 : zs_in x6.toInt 0 30) {c : Int} (hc : x6.toInt = c + 0) : zs_ok (BX9_goDrawn_12 σ x3 x5 x6) (fun r => zs_sum (fun v => ((zs_M σ0 v.1 ∧ (True ∧ (True ∧ zs_in (v.2.2.2).toInt 1 30)))) ∧ v.2.2.2.toInt = c + 1) (fun v => (zs_M σ0 v.1 ∧ True)) r) := by
  unfold BX9_goDrawn_12
  refine zs_bd_ (zc_21 h_σ) (fun t_1 pt_1 => ?_)
  refine zs_ite (fun c1 => ?_) (fun c1 => ?_)
  · skip
    have r2 := (zs_I_le c1)
    exact zs_some (zs_inr (⟨h_σ, trivial⟩))
  · skip
    have r3 := (zs_I_len c1)
    have g4 : zs_in (x6).toInt 0 29 := (zs_ltl 0 29 r3 h_x6 pt_1 (by decide))
    have g5 : zs_in (t_1).toInt 1 30 := (zs_ltr 1 30 r3 h_x6 pt_1 (by decide))
    refine zs_lt (Q := fun z => True) trivial (fun y_4 hy_4 => ?_)
    refine zs_gd (zs_gin zlI_4 (by decide)) ?_
    refine zs_ite (fun c6 => ?_) (fun c6 => ?_)
    · skip
      have r7 := (zs_lg_lt c6)
      have g8 : zs_in (((y_4 / (65536 : Int64)) - (((y_4 / (65536 : Int64)) / (10 : Int64)) * (10 : Int64)))).toInt (-9223372036854775808) 9 := (zs_ltl (-9223372036854775808) 9 r7 (zs_topL _) (zs_64 (zs_rdk (q := 1) (k := (4 : Int32).toNatClampNeg) (z := (0, 10)) h_σ.1 rfl)) (by decide))
      refine zs_gd (zs_gin g4 (by decide)) ?_
      refine zs_gd (zs_gin g4 (by decide)) ?_
      refine zs_lt (Q := fun z => zs_M σ0 z) (zs_wrt h_σ (fun _ => rfl) (fun _ => rfl)) (fun σ_10 hσ_10 => ?_)
      refine zs_lt (Q := fun z => True) trivial (fun y_12 hy_12 => ?_)
      obtain ⟨ret, er, hr⟩ := zc_1456 hσ_10 g4 hc
      refine ⟨ret, er, ?_⟩
      exact (zs_sumw hr (fun v w => ⟨w.1, w.2⟩) (fun v w => w.elim))
    · skip
      have r9 := (zs_lg_ltn c6)
      have g10 : zs_in (((y_4 / (65536 : Int64)) - (((y_4 / (65536 : Int64)) / (10 : Int64)) * (10 : Int64)))).toInt 0 9223372036854775807 := (zs_ler 0 9223372036854775807 r9 (zs_64 (zs_rdk (q := 1) (k := (4 : Int32).toNatClampNeg) (z := (0, 10)) h_σ.1 rfl)) (zs_topL _) (by decide))
      obtain ⟨ret, er, hr⟩ := zc_1456 h_σ g4 hc
      refine ⟨ret, er, ?_⟩
      exact (zs_sumw hr (fun v w => ⟨w.1, w.2⟩) (fun v w => w.elim))
theorem zd_286 {σ0 : sn_S}  {s0 : (sn_S × (Int64 × (Int32 × Int32)))} (h0 : (zs_M σ0 s0.1 ∧ (True ∧ (True ∧ zs_in (s0.2.2.2).toInt 0 30)))) : zs_ok (sn_it (LX9_goDrawn_12) 5000 s0) (fun t => (zs_M σ0 t.1 ∧ True)) := by
  refine zs_it (I := fun s => (zs_M σ0 s.1 ∧ (True ∧ (True ∧ zs_in (s.2.2.2).toInt 0 30)))) (m := fun s => 30 - s.2.2.2.toInt) (fun s hs => ?_) (fun s hs => ?_) (by exact h0)
  · have h1 := hs.2.2.2; unfold zs_in at h1
    omega
  · obtain ⟨b, eb, hb⟩ := zc_1457 hs.1 hs.2.2.2 (c := s.2.2.2.toInt) (Int.add_zero _).symm
    exact ⟨b, eb, zs_sumw hb (fun v w => ⟨⟨w.1.1, ⟨w.1.2.1, ⟨w.1.2.2.1, (zs_w w.1.2.2.2 (by decide))⟩⟩⟩, by have := w.2; omega⟩) (fun v w => w)⟩
-- BX9_goDrawn_84
theorem zc_1458 {σ0 : sn_S} {σ : sn_S} (h_σ : zs_M σ0 σ) {x5 : Int32} : zs_ok (BX9_goDrawn_84 σ x5) (fun r => (True ∧ zs_M σ0 r.2)) := by
  unfold BX9_goDrawn_84
  refine zs_bd_ (zc_90 h_σ) (fun t_1 pt_1 => ?_)
  exact zs_some ⟨trivial, pt_1⟩
-- fX9_goDrawn
theorem zc_1459 {σ0 : sn_S} {σ : sn_S} (h_σ : zs_M σ0 σ) {x1 : Int64} (h_x1 : zs_in x1.toInt 0 2000000000) : zs_ok (fX9_goDrawn σ x1) (fun r => (True ∧ zs_M σ0 r.2)) := by
  unfold fX9_goDrawn
  refine zs_bd_ (zc_31 h_σ) (fun t_1 pt_1 => ?_)
  refine zs_bd_ (zd_286  (s0 := (t_1, (x1, ((0 : Int32), (0 : Int32))))) ⟨pt_1, ⟨trivial, ⟨trivial, (zs_w zlI_0 (by decide))⟩⟩⟩) (fun t_3 pt_3 => ?_)
  obtain ⟨ret, er, hr⟩ := zc_1458 pt_3.1
  refine ⟨ret, er, ?_⟩
  exact hr
-- fX9_drawn
theorem zc_1460 {σ0 : sn_S} {σ : sn_S} (h_σ : zs_M σ0 σ) {x1 : Int32} {x2 : Int32} : zs_ok (fX9_drawn σ x1 x2) (fun r => ((True ∧ zs_M σ0 r.2)) ∧ ((r.1).toInt = (-2) ∨ (zs_in (x1).toInt 0 2000000000 ∧ zs_in (x2).toInt 0 2))) := by
  unfold fX9_drawn
  refine zs_bd_ (zc_91 h_σ) (fun t_1 pt_1 => ?_)
  refine zs_ite (fun c1 => ?_) (fun c1 => ?_)
  · skip
    have r2 := (zs_I_eq c1)
    have g3 : zs_in (t_1).toInt 0 0 := (zs_eql 0 0 r2 pt_1 zlI_0 (by decide))
    exact zs_some ⟨⟨trivial, h_σ⟩, Or.inl (zs_ptr zlI_m2)⟩
  · skip
    have r4 := (zs_I_eqn c1)
    have g5 : zs_in (t_1).toInt 1 1 := (zs_nel 1 1 r4 pt_1 zlI_0 (by decide))
    refine zs_bd_ (zc_1454) (fun t_4 pt_4 => ?_)
    refine zs_ite (fun c6 => ?_) (fun c6 => ?_)
    · skip
      have r7 := (zs_I_eq c6)
      have g8 : zs_in (t_4).toInt 0 0 := (zs_eql 0 0 r7 pt_4.1 zlI_0 (by decide))
      exact zs_some ⟨⟨trivial, h_σ⟩, Or.inl (zs_ptr zlI_m2)⟩
    · skip
      have r9 := (zs_I_eqn c6)
      have g10 : zs_in (t_4).toInt 1 1 := (zs_nel 1 1 r9 pt_4.1 zlI_0 (by decide))
      have q11 := (zs_or2 pt_4.2 g10 (by decide))
      have g12 : zs_in (x1).toInt 0 2000000000 := q11
      refine zs_bd_ (zc_1455 (zs_64 (zs_topI _)) zlL_0 zlL_2) (fun t_7 pt_7 => ?_)
      refine zs_ite (fun c13 => ?_) (fun c13 => ?_)
      · skip
        have r14 := (zs_I_eq c13)
        have g15 : zs_in (t_7).toInt 0 0 := (zs_eql 0 0 r14 pt_7.1 zlI_0 (by decide))
        exact zs_some ⟨⟨trivial, h_σ⟩, Or.inl (zs_ptr zlI_m2)⟩
      · skip
        have r16 := (zs_I_eqn c13)
        have g17 : zs_in (t_7).toInt 1 1 := (zs_nel 1 1 r16 pt_7.1 zlI_0 (by decide))
        have q18 := (zs_or2 pt_7.2 g17 (by decide))
        have g19 : zs_in (x2.toInt64).toInt 0 2 := q18
        have g20 : zs_in (x2).toInt 0 2 := (zs_64r g19)
        refine zs_bd_ (zc_1459 h_σ (zs_64 g12)) (fun t_10 pt_10 => ?_)
        refine zs_ite (fun c21 => ?_) (fun c21 => ?_)
        · skip
          have r22 := (zs_I_eq c21)
          have g23 : zs_in (x2).toInt 0 0 := (zs_eql 0 0 r22 g20 zlI_0 (by decide))
          exact zs_some ⟨⟨trivial, pt_10.2⟩, Or.inr ⟨g12, (zs_w g23 (by decide))⟩⟩
        · skip
          have r24 := (zs_I_eqn c21)
          have g25 : zs_in (x2).toInt 1 2 := (zs_nel 1 2 r24 g20 zlI_0 (by decide))
          refine zs_ite (fun c26 => ?_) (fun c26 => ?_)
          · skip
            have r27 := (zs_I_eq c26)
            have g28 : zs_in (x2).toInt 1 1 := (zs_eql 1 1 r27 g25 zlI_1 (by decide))
            refine zs_bd_ (zc_112 pt_10.2) (fun t_16 pt_16 => ?_)
            exact zs_some ⟨⟨trivial, pt_10.2⟩, Or.inr ⟨g12, (zs_w g28 (by decide))⟩⟩
          · skip
            have r29 := (zs_I_eqn c26)
            have g30 : zs_in (x2).toInt 2 2 := (zs_nel 2 2 r29 g25 zlI_1 (by decide))
            refine zs_bd_ (zc_419 pt_10.2) (fun t_14 pt_14 => ?_)
            exact zs_some ⟨⟨trivial, pt_14.2⟩, Or.inr ⟨g12, (zs_w g30 (by decide))⟩⟩
-- fX8_liveDrawn
theorem zc_1461 {σ0 : sn_S} {σ : sn_S} (h_σ : zs_C σ0 σ) {x1 : Int32} (h_x1 : zs_in x1.toInt 0 2000000019) : zs_ok (fX8_liveDrawn σ x1) (fun r => (True ∧ zs_C σ0 r.2)) := by
  unfold fX8_liveDrawn
  refine zs_bd_ (zo_dcopy h_σ) (fun t_1 pt_1 => ?_)
  refine zs_bd_ (zd_285  (s0 := (t_1, ((0 : Int32), (x1.toInt64, (0 : Int32))))) ⟨pt_1, ⟨trivial, ⟨trivial, (zs_w zlI_0 (by decide))⟩⟩⟩) (fun t_3 pt_3 => ?_)
  obtain ⟨ret, er, hr⟩ := zc_1449 pt_3.1
  refine ⟨ret, er, ?_⟩
  exact hr
-- BX8_luck_89
theorem zc_1462 {σ0 : sn_S} {σ : sn_S} (h_σ : zs_C σ0 σ) {x1 : Int32} (h_x1 : zs_in x1.toInt 0 2000000000) {x2 : Int32} (h_x2 : zs_in x2.toInt 1 20) {x3 : Int32} (h_x3 : zs_in x3.toInt 0 5) {x4 : Int32} {x5 : Int32} (h_x5 : zs_in x5.toInt 0 19) {c : Int} (hc : x5.toInt = c + 0) : zs_ok (BX8_luck_89 σ x1 x2 x3 x4 x5) (fun r => zs_sum (fun v => ((zs_C σ0 v.1 ∧ (True ∧ zs_in (v.2.2).toInt 1 20))) ∧ v.2.2.toInt = c + 1) (fun v => False) r) := by
  unfold BX8_luck_89
  refine zs_lt (Q := fun z => zs_in z.toInt 1 20 ∧ z.toInt = c + 1) ⟨(zs_addI 1 20 h_x5 zlI_1 (by decide)), (zs_syI 1 hc h_x5 zlI_1 (by decide) (by decide))⟩ (fun y_1 hy_1 => ?_)
  exact zs_some (zs_inl ⟨⟨h_σ, ⟨trivial, hy_1.1⟩⟩, hy_1.2⟩)
-- BX8_luck_35
theorem zc_1463 {σ0 : sn_S} {σ : sn_S} (h_σ : zs_C σ0 σ) {x1 : Int32} (h_x1 : zs_in x1.toInt 0 2000000000) {x2 : Int32} (h_x2 : zs_in x2.toInt 1 20) {x3 : Int32} (h_x3 : zs_in x3.toInt 0 5) {x4 : Int32} {x5 : Int32} (h_x5 : zs_in x5.toInt 0 20) {c : Int} (hc : x5.toInt = c + 0) : zs_ok (BX8_luck_35 σ x1 x2 x3 x4 x5) (fun r => zs_sum (fun v => ((zs_C σ0 v.1 ∧ (True ∧ zs_in (v.2.2).toInt 1 20))) ∧ v.2.2.toInt = c + 1) (fun v => (zs_C σ0 v.1 ∧ True)) r) := by
  unfold BX8_luck_35
  refine zs_ite (fun c1 => ?_) (fun c1 => ?_)
  · skip
    have r2 := (zs_I_le c1)
    have g3 : zs_in (x5).toInt 1 20 := (zs_ler 1 20 r2 h_x2 h_x5 (by decide))
    exact zs_some (zs_inr (⟨h_σ, trivial⟩))
  · skip
    have r4 := (zs_I_len c1)
    have g5 : zs_in (x5).toInt 0 19 := (zs_ltl 0 19 r4 h_x5 h_x2 (by decide))
    refine zs_bd_ (zc_1461 h_σ (zs_addI 0 2000000019 h_x1 g5 (by decide))) (fun t_2 pt_2 => ?_)
    refine zs_gd (zs_gin zlI_2 (by decide)) ?_
    refine zs_bd_ (zo_reckon_49_38_0_3 pt_2.2 (zs_rdk (q := 2) (k := (2 : Int32).toNatClampNeg) (z := (0, 3)) pt_2.2.1 rfl)) (fun t_5 pt_5 => ?_)
    refine zs_gd (zs_gin h_x3 (by decide)) ?_
    refine zs_ite (fun c6 => ?_) (fun c6 => ?_)
    · skip
      have r7 := (zs_I_le c6)
      have g8 : zs_in ((sn_I t_5 (49 + 1) x3.toNatClampNeg)).toInt (-2147483648) 0 := (zs_lel (-2147483648) 0 r7 (zs_topI _) zlI_0 (by decide))
      obtain ⟨ret, er, hr⟩ := zc_1462 pt_5 h_x1 h_x2 h_x3 g5 hc
      refine ⟨ret, er, ?_⟩
      exact (zs_sumw hr (fun v w => ⟨w.1, w.2⟩) (fun v w => w.elim))
    · skip
      have r9 := (zs_I_len c6)
      have g10 : zs_in ((sn_I t_5 (49 + 1) x3.toNatClampNeg)).toInt 1 2147483647 := (zs_ltr 1 2147483647 r9 zlI_0 (zs_topI _) (by decide))
      refine zs_lt (Q := fun z => True) trivial (fun y_9 hy_9 => ?_)
      obtain ⟨ret, er, hr⟩ := zc_1462 pt_5 h_x1 h_x2 h_x3 g5 hc
      refine ⟨ret, er, ?_⟩
      exact (zs_sumw hr (fun v w => ⟨w.1, w.2⟩) (fun v w => w.elim))
theorem zd_287 {σ0 : sn_S} {x1 : Int32} (h_x1 : zs_in x1.toInt 0 2000000000) {x2 : Int32} (h_x2 : zs_in x2.toInt 1 20) {x3 : Int32} (h_x3 : zs_in x3.toInt 0 5) {s0 : (sn_S × (Int32 × Int32))} (h0 : (zs_C σ0 s0.1 ∧ (True ∧ zs_in (s0.2.2).toInt 0 20))) : zs_ok (sn_it (LX8_luck_35 x1 x2 x3) 5000 s0) (fun t => (zs_C σ0 t.1 ∧ True)) := by
  refine zs_it (I := fun s => (zs_C σ0 s.1 ∧ (True ∧ zs_in (s.2.2).toInt 0 20))) (m := fun s => 20 - s.2.2.toInt) (fun s hs => ?_) (fun s hs => ?_) (by exact h0)
  · have h1 := hs.2.2; unfold zs_in at h1
    omega
  · obtain ⟨b, eb, hb⟩ := zc_1463 hs.1 h_x1 h_x2 h_x3 hs.2.2 (c := s.2.2.toInt) (Int.add_zero _).symm
    exact ⟨b, eb, zs_sumw hb (fun v w => ⟨⟨w.1.1, ⟨w.1.2.1, (zs_w w.1.2.2 (by decide))⟩⟩, by have := w.2; omega⟩) (fun v w => w)⟩
-- BX8_luck_95
theorem zc_1464 {σ0 : sn_S} {σ : sn_S} (h_σ : zs_C σ0 σ) {x4 : Int32} : zs_ok (BX8_luck_95 σ x4) (fun r => (True ∧ zs_C σ0 r.2)) := by
  unfold BX8_luck_95
  exact zs_some ⟨trivial, h_σ⟩
-- fX8_luck
theorem zc_1465 {σ0 : sn_S} {σ : sn_S} (h_σ : zs_C σ0 σ) {x1 : Int32} {x2 : Int32} {x3 : Int32} : zs_ok (fX8_luck σ x1 x2 x3) (fun r => ((True ∧ zs_C σ0 r.2)) ∧ ((r.1).toInt = (-2) ∨ (zs_in (x1).toInt 0 2000000000 ∧ zs_in (x2).toInt 1 20 ∧ zs_in (x3).toInt 0 5))) := by
  unfold fX8_luck
  refine zs_bd_ (zo_isPolicy h_σ) (fun t_1 pt_1 => ?_)
  refine zs_ite (fun c1 => ?_) (fun c1 => ?_)
  · skip
    have r2 := (zs_I_eq c1)
    have g3 : zs_in (t_1).toInt 0 0 := (zs_eql 0 0 r2 pt_1.1 zlI_0 (by decide))
    exact zs_some ⟨⟨trivial, h_σ⟩, Or.inl (zs_ptr zlI_m2)⟩
  · skip
    have r4 := (zs_I_eqn c1)
    have g5 : zs_in (t_1).toInt 1 1 := (zs_nel 1 1 r4 pt_1.1 zlI_0 (by decide))
    have q6 := (zs_or2 pt_1.2.1 g5 (by decide))
    have g7 : zs_in (x3).toInt 0 5 := q6
    haveI := zs_or2 pt_1.2.2 g5 (by decide)
    refine zs_bd_ (zc_1446) (fun t_4 pt_4 => ?_)
    refine zs_ite (fun c8 => ?_) (fun c8 => ?_)
    · skip
      have r9 := (zs_I_eq c8)
      have g10 : zs_in (t_4).toInt 0 0 := (zs_eql 0 0 r9 pt_4.1 zlI_0 (by decide))
      exact zs_some ⟨⟨trivial, h_σ⟩, Or.inl (zs_ptr zlI_m2)⟩
    · skip
      have r11 := (zs_I_eqn c8)
      have g12 : zs_in (t_4).toInt 1 1 := (zs_nel 1 1 r11 pt_4.1 zlI_0 (by decide))
      have q13 := (zs_or2 pt_4.2 g12 (by decide))
      have g14 : zs_in (x1).toInt 0 2000000000 := q13
      refine zs_ite (fun c15 => ?_) (fun c15 => ?_)
      · skip
        have r16 := (zs_I_lt c15)
        have g17 : zs_in (x2).toInt (-2147483648) 0 := (zs_ltl (-2147483648) 0 r16 (zs_topI _) zlI_1 (by decide))
        exact zs_some ⟨⟨trivial, h_σ⟩, Or.inl (zs_ptr zlI_m2)⟩
      · skip
        have r18 := (zs_I_ltn c15)
        have g19 : zs_in (x2).toInt 1 2147483647 := (zs_ler 1 2147483647 r18 zlI_1 (zs_topI _) (by decide))
        refine zs_ite (fun c20 => ?_) (fun c20 => ?_)
        · skip
          have r21 := (zs_I_le c20)
          have g22 : zs_in (x2).toInt 1 20 := (zs_lel 1 20 r21 g19 zlI_20 (by decide))
          refine zs_bd_ (zd_287 g14 g22 g7 (s0 := (σ, ((0 : Int32), (0 : Int32)))) ⟨h_σ, ⟨trivial, (zs_w zlI_0 (by decide))⟩⟩) (fun t_9 pt_9 => ?_)
          obtain ⟨ret, er, hr⟩ := zc_1464 pt_9.1
          refine ⟨ret, er, ?_⟩
          exact ⟨hr, Or.inr ⟨g14, g22, g7⟩⟩
        · skip
          have r23 := (zs_I_len c20)
          have g24 : zs_in (x2).toInt 21 2147483647 := (zs_ltr 21 2147483647 r23 zlI_20 g19 (by decide))
          exact zs_some ⟨⟨trivial, h_σ⟩, Or.inl (zs_ptr zlI_m2)⟩
-- fX9_in
theorem zc_1466 {x0 : Int64} (h_x0 : zs_in x0.toInt (-2147483648) 2147483647) {x2 : Int64} (h_x2 : zs_in x2.toInt 1 1) {x4 : Int64} (h_x4 : zs_in x4.toInt 20 20) : zs_ok (fX9_in x0 x2 x4) (fun r => (zs_in (r).toInt 0 1) ∧ ((r).toInt = 0 ∨ (zs_in (x0).toInt 1 20))) := by
  unfold fX9_in
  refine zs_ite (fun c1 => ?_) (fun c1 => ?_)
  · skip
    have r2 := (zs_lg_lt c1)
    have g3 : zs_in (x0).toInt (-2147483648) 0 := (zs_ltl (-2147483648) 0 r2 h_x0 h_x2 (by decide))
    refine zs_gd (zs_b01 zlI_0 (by decide)) ?_
    exact zs_some ⟨(zs_w zlI_0 (by decide)), Or.inl (zs_ptr zlI_0)⟩
  · skip
    have r4 := (zs_lg_ltn c1)
    have g5 : zs_in (x0).toInt 1 2147483647 := (zs_ler 1 2147483647 r4 h_x2 h_x0 (by decide))
    refine zs_ite (fun c6 => ?_) (fun c6 => ?_)
    · skip
      have r7 := (zs_lg_ltf c6)
      have g8 : zs_in (x0).toInt 21 2147483647 := (zs_ltr 21 2147483647 r7 h_x4 g5 (by decide))
      refine zs_gd (zs_b01 zlI_0 (by decide)) ?_
      exact zs_some ⟨(zs_w zlI_0 (by decide)), Or.inl (zs_ptr zlI_0)⟩
    · skip
      have r9 := (zs_lg_ltfn c6)
      have g10 : zs_in (x0).toInt 1 20 := (zs_lel 1 20 r9 g5 h_x4 (by decide))
      refine zs_gd (zs_b01 zlI_1 (by decide)) ?_
      exact zs_some ⟨(zs_w zlI_1 (by decide)), Or.inr g10⟩
-- fX9_goDrawn
theorem zc_1467 {σ0 : sn_S} {σ : sn_S} (h_σ : zs_M σ0 σ) {x1 : Int64} (h_x1 : zs_in x1.toInt 0 2000000019) : zs_ok (fX9_goDrawn σ x1) (fun r => (True ∧ zs_M σ0 r.2)) := by
  unfold fX9_goDrawn
  refine zs_bd_ (zc_31 h_σ) (fun t_1 pt_1 => ?_)
  refine zs_bd_ (zd_286  (s0 := (t_1, (x1, ((0 : Int32), (0 : Int32))))) ⟨pt_1, ⟨trivial, ⟨trivial, (zs_w zlI_0 (by decide))⟩⟩⟩) (fun t_3 pt_3 => ?_)
  obtain ⟨ret, er, hr⟩ := zc_1458 pt_3.1
  refine ⟨ret, er, ?_⟩
  exact hr
-- BX9_luck_68
theorem zc_1468 {σ0 : sn_S} {σ : sn_S} (h_σ : zs_M σ0 σ) {x1 : Int32} (h_x1 : zs_in x1.toInt 0 2000000000) {x2 : Int32} (h_x2 : zs_in x2.toInt 1 20) {x3 : Int32} (h_x3 : zs_in x3.toInt 0 5) {x4 : Int32} {x5 : Int32} (h_x5 : zs_in x5.toInt 0 19) {t0 : Int32} {t1 : Int32} (h_t1 : zs_in t1.toInt 0 0) {c : Int} (hc : x5.toInt = c + 0) : zs_ok (BX9_luck_68 σ x1 x2 x3 x4 x5 t0 t1) (fun r => zs_sum (fun v => ((zs_M σ0 v.1 ∧ (True ∧ zs_in (v.2.2).toInt 1 20))) ∧ v.2.2.toInt = c + 1) (fun v => False) r) := by
  unfold BX9_luck_68
  obtain rfl : t1 = (0 : Int32) := zs_eqv h_t1 (by decide)
  refine zs_lt (Q := fun z => True) trivial (fun y_1 hy_1 => ?_)
  refine zs_lt (Q := fun z => zs_in z.toInt 1 20 ∧ z.toInt = c + 1) ⟨(zs_addI 1 20 h_x5 zlI_1 (by decide)), (zs_syI 1 hc h_x5 zlI_1 (by decide) (by decide))⟩ (fun y_3 hy_3 => ?_)
  exact zs_some (zs_inl ⟨⟨h_σ, ⟨trivial, hy_3.1⟩⟩, hy_3.2⟩)
-- BX9_luck_68
theorem zc_1469 {σ0 : sn_S} {σ : sn_S} (h_σ : zs_M σ0 σ) {x1 : Int32} (h_x1 : zs_in x1.toInt 0 2000000000) {x2 : Int32} (h_x2 : zs_in x2.toInt 1 20) {x3 : Int32} (h_x3 : zs_in x3.toInt 0 5) {x4 : Int32} {x5 : Int32} (h_x5 : zs_in x5.toInt 0 19) {t0 : Int32} {t1 : Int32} (h_t1 : zs_in t1.toInt 1 1) {c : Int} (hc : x5.toInt = c + 0) : zs_ok (BX9_luck_68 σ x1 x2 x3 x4 x5 t0 t1) (fun r => zs_sum (fun v => ((zs_M σ0 v.1 ∧ (True ∧ zs_in (v.2.2).toInt 1 20))) ∧ v.2.2.toInt = c + 1) (fun v => False) r) := by
  unfold BX9_luck_68
  obtain rfl : t1 = (1 : Int32) := zs_eqv h_t1 (by decide)
  refine zs_lt (Q := fun z => True) trivial (fun y_1 hy_1 => ?_)
  refine zs_lt (Q := fun z => zs_in z.toInt 1 20 ∧ z.toInt = c + 1) ⟨(zs_addI 1 20 h_x5 zlI_1 (by decide)), (zs_syI 1 hc h_x5 zlI_1 (by decide) (by decide))⟩ (fun y_3 hy_3 => ?_)
  exact zs_some (zs_inl ⟨⟨h_σ, ⟨trivial, hy_3.1⟩⟩, hy_3.2⟩)
-- BX9_luck_36
theorem zc_1470 {σ0 : sn_S} {σ : sn_S} (h_σ : zs_M σ0 σ) {x1 : Int32} (h_x1 : zs_in x1.toInt 0 2000000000) {x2 : Int32} (h_x2 : zs_in x2.toInt 1 20) {x3 : Int32} (h_x3 : zs_in x3.toInt 0 5) {x4 : Int32} {x5 : Int32} (h_x5 : zs_in x5.toInt 0 20) {c : Int} (hc : x5.toInt = c + 0) : zs_ok (BX9_luck_36 σ x1 x2 x3 x4 x5) (fun r => zs_sum (fun v => ((zs_M σ0 v.1 ∧ (True ∧ zs_in (v.2.2).toInt 1 20))) ∧ v.2.2.toInt = c + 1) (fun v => (zs_M σ0 v.1 ∧ True)) r) := by
  unfold BX9_luck_36
  refine zs_ite (fun c1 => ?_) (fun c1 => ?_)
  · skip
    have r2 := (zs_I_le c1)
    have g3 : zs_in (x5).toInt 1 20 := (zs_ler 1 20 r2 h_x2 h_x5 (by decide))
    exact zs_some (zs_inr (⟨h_σ, trivial⟩))
  · skip
    have r4 := (zs_I_len c1)
    have g5 : zs_in (x5).toInt 0 19 := (zs_ltl 0 19 r4 h_x5 h_x2 (by decide))
    refine zs_bd_ (zc_1467 h_σ (zs_addL 0 2000000019 (zs_64 h_x1) (zs_64 g5) (by decide))) (fun t_2 pt_2 => ?_)
    refine zs_bd_ (zc_262 pt_2.2 h_x3) (fun t_4 pt_4 => ?_)
    refine zs_ite (fun c6 => ?_) (fun c6 => ?_)
    · skip
      have r7 := (zs_I_le c6)
      have g8 : zs_in (t_4.1).toInt (-2147483648) 0 := (zs_lel (-2147483648) 0 r7 (zs_topI _) zlI_0 (by decide))
      obtain ⟨ret, er, hr⟩ := zc_1468 pt_4.2 h_x1 h_x2 h_x3 g5 zlI_0 hc
      refine ⟨ret, er, ?_⟩
      exact (zs_sumw hr (fun v w => ⟨w.1, w.2⟩) (fun v w => w.elim))
    · skip
      have r9 := (zs_I_len c6)
      have g10 : zs_in (t_4.1).toInt 1 2147483647 := (zs_ltr 1 2147483647 r9 zlI_0 (zs_topI _) (by decide))
      obtain ⟨ret, er, hr⟩ := zc_1469 pt_4.2 h_x1 h_x2 h_x3 g5 zlI_1 hc
      refine ⟨ret, er, ?_⟩
      exact (zs_sumw hr (fun v w => ⟨w.1, w.2⟩) (fun v w => w.elim))
theorem zd_288 {σ0 : sn_S} {x1 : Int32} (h_x1 : zs_in x1.toInt 0 2000000000) {x2 : Int32} (h_x2 : zs_in x2.toInt 1 20) {x3 : Int32} (h_x3 : zs_in x3.toInt 0 5) {s0 : (sn_S × (Int32 × Int32))} (h0 : (zs_M σ0 s0.1 ∧ (True ∧ zs_in (s0.2.2).toInt 0 20))) : zs_ok (sn_it (LX9_luck_36 x1 x2 x3) 5000 s0) (fun t => (zs_M σ0 t.1 ∧ True)) := by
  refine zs_it (I := fun s => (zs_M σ0 s.1 ∧ (True ∧ zs_in (s.2.2).toInt 0 20))) (m := fun s => 20 - s.2.2.toInt) (fun s hs => ?_) (fun s hs => ?_) (by exact h0)
  · have h1 := hs.2.2; unfold zs_in at h1
    omega
  · obtain ⟨b, eb, hb⟩ := zc_1470 hs.1 h_x1 h_x2 h_x3 hs.2.2 (c := s.2.2.toInt) (Int.add_zero _).symm
    exact ⟨b, eb, zs_sumw hb (fun v w => ⟨⟨w.1.1, ⟨w.1.2.1, (zs_w w.1.2.2 (by decide))⟩⟩, by have := w.2; omega⟩) (fun v w => w)⟩
-- BX9_luck_77
theorem zc_1471 {σ0 : sn_S} {σ : sn_S} (h_σ : zs_M σ0 σ) {x4 : Int32} : zs_ok (BX9_luck_77 σ x4) (fun r => (True ∧ zs_M σ0 r.2)) := by
  unfold BX9_luck_77
  exact zs_some ⟨trivial, h_σ⟩
-- fX9_luck
theorem zc_1472 {σ0 : sn_S} {σ : sn_S} (h_σ : zs_M σ0 σ) {x1 : Int32} {x2 : Int32} {x3 : Int32} : zs_ok (fX9_luck σ x1 x2 x3) (fun r => ((True ∧ zs_M σ0 r.2)) ∧ ((r.1).toInt = (-2) ∨ (zs_in (x1).toInt 0 2000000000 ∧ zs_in (x2).toInt 1 20 ∧ zs_in (x3).toInt 0 5))) := by
  unfold fX9_luck
  refine zs_bd_ (zc_1454) (fun t_1 pt_1 => ?_)
  refine zs_ite (fun c1 => ?_) (fun c1 => ?_)
  · skip
    have r2 := (zs_I_eq c1)
    have g3 : zs_in (t_1).toInt 0 0 := (zs_eql 0 0 r2 pt_1.1 zlI_0 (by decide))
    exact zs_some ⟨⟨trivial, h_σ⟩, Or.inl (zs_ptr zlI_m2)⟩
  · skip
    have r4 := (zs_I_eqn c1)
    have g5 : zs_in (t_1).toInt 1 1 := (zs_nel 1 1 r4 pt_1.1 zlI_0 (by decide))
    have q6 := (zs_or2 pt_1.2 g5 (by decide))
    have g7 : zs_in (x1).toInt 0 2000000000 := q6
    refine zs_bd_ (zc_1466 (zs_64 (zs_topI _)) zlL_1 zlL_20) (fun t_4 pt_4 => ?_)
    refine zs_ite (fun c8 => ?_) (fun c8 => ?_)
    · skip
      have r9 := (zs_I_eq c8)
      have g10 : zs_in (t_4).toInt 0 0 := (zs_eql 0 0 r9 pt_4.1 zlI_0 (by decide))
      exact zs_some ⟨⟨trivial, h_σ⟩, Or.inl (zs_ptr zlI_m2)⟩
    · skip
      have r11 := (zs_I_eqn c8)
      have g12 : zs_in (t_4).toInt 1 1 := (zs_nel 1 1 r11 pt_4.1 zlI_0 (by decide))
      have q13 := (zs_or2 pt_4.2 g12 (by decide))
      have g14 : zs_in (x2.toInt64).toInt 1 20 := q13
      have g15 : zs_in (x2).toInt 1 20 := (zs_64r g14)
      refine zs_bd_ (zc_11 h_σ) (fun t_7 pt_7 => ?_)
      refine zs_ite (fun c16 => ?_) (fun c16 => ?_)
      · skip
        have r17 := (zs_I_eq c16)
        have g18 : zs_in (t_7).toInt 0 0 := (zs_eql 0 0 r17 pt_7.1 zlI_0 (by decide))
        exact zs_some ⟨⟨trivial, h_σ⟩, Or.inl (zs_ptr zlI_m2)⟩
      · skip
        have r19 := (zs_I_eqn c16)
        have g20 : zs_in (t_7).toInt 1 1 := (zs_nel 1 1 r19 pt_7.1 zlI_0 (by decide))
        have q21 := (zs_or2 pt_7.2 g20 (by decide))
        have g22 : zs_in (x3).toInt 0 5 := q21
        refine zs_bd_ (zd_288 g7 g15 g22 (s0 := (σ, ((0 : Int32), (0 : Int32)))) ⟨h_σ, ⟨trivial, (zs_w zlI_0 (by decide))⟩⟩) (fun t_10 pt_10 => ?_)
        obtain ⟨ret, er, hr⟩ := zc_1471 pt_10.1
        refine ⟨ret, er, ?_⟩
        exact ⟨hr, Or.inr ⟨g7, g15, g22⟩⟩
-- BX6_howMany_23
end
section
def zs_kN (q k : Nat) : Bool := bif (Nat.beq q 10 || Nat.beq q 11 || Nat.beq q 12 || Nat.beq q 13 || Nat.beq q 14 || Nat.beq q 16) then false else (bif Nat.beq q 0 then (bif (Nat.beq k 30 || Nat.beq k 31) then false else true) else true)
def zs_lN (_ : Nat) : Bool := true
abbrev zs_N := zs_G zs_tM zs_kN zs_lN
def zs_kV (q k : Nat) : Bool := bif Nat.beq q 16 then false else (bif Nat.beq q 0 then (bif Nat.beq k 30 then false else true) else true)
abbrev zs_V := zs_G zs_tM zs_kV zs_lN
def zs_kW (q k : Nat) : Bool := zs_kM q k || Nat.beq q 1
abbrev zs_W := zs_G zs_tM zs_kW zs_lN
theorem zlL_7 : zs_in (7 : Int64).toInt 7 7 := by decide
-- BX2_minutesOfActs_61
theorem zc_1485 {σ0 : sn_S} {σ : sn_S} (h_σ : zs_C σ0 σ) {x1 : Int32} (h_x1 : zs_in x1.toInt 0 0) {x2 : Int32} (h_x2 : zs_in x2.toInt 0 5) {x3 : Int32} (h_x3 : zs_in x3.toInt 0 1073741823) {x4 : Int32} (h_x4 : zs_in x4.toInt 0 39) {c : Int} (hc : x4.toInt = c + 0) : zs_ok (BX2_minutesOfActs_61 σ 1 x1 x2 x3 x4) (fun r => zs_sum (fun v => ((zs_in (v.1).toInt 0 1073741823 ∧ zs_in (v.2).toInt 1 40)) ∧ v.2.toInt = c + 1) (fun v => False) r) := by
  unfold BX2_minutesOfActs_61
  obtain rfl : x1 = (0 : Int32) := zs_eqv h_x1 (by decide)
  refine zs_lt (Q := fun z => zs_in z.toInt 1 40 ∧ z.toInt = c + 1) ⟨(zs_addI 1 40 h_x4 zlI_1 (by decide)), (zs_syI 1 hc h_x4 zlI_1 (by decide) (by decide))⟩ (fun y_1 hy_1 => ?_)
  exact zs_some (zs_inl ⟨⟨h_x3, hy_1.1⟩, hy_1.2⟩)
-- BX2_minutesOfActs_5
theorem zc_1486 {σ0 : sn_S} {σ : sn_S} (h_σ : zs_C σ0 σ) {x1 : Int32} (h_x1 : zs_in x1.toInt 0 0) {x2 : Int32} (h_x2 : zs_in x2.toInt 0 5) {x3 : Int32} (h_x3 : zs_in x3.toInt 0 1073741823) {x4 : Int32} (h_x4 : zs_in x4.toInt 0 40) {c : Int} (hc : x4.toInt = c + 0) : zs_ok (BX2_minutesOfActs_5 σ 1 x1 x2 x3 x4) (fun r => zs_sum (fun v => ((zs_in (v.1).toInt 0 1073741823 ∧ zs_in (v.2).toInt 1 40)) ∧ v.2.toInt = c + 1) (fun v => zs_in (v).toInt 0 1073741823) r) := by
  unfold BX2_minutesOfActs_5
  obtain rfl : x1 = (0 : Int32) := zs_eqv h_x1 (by decide)
  refine zs_gd (zs_gin zlI_9 (by decide)) ?_
  refine zs_ite (fun c1 => ?_) (fun c1 => ?_)
  · skip
    have r2 := (zs_I_le c1)
    exact zs_some (zs_inr (h_x3))
  · skip
    have r3 := (zs_I_len c1)
    have g4 : zs_in (x4).toInt 0 39 := (zs_ltl 0 39 r3 h_x4 (zs_rdk (q := 2) (k := (9 : Int32).toNatClampNeg) (z := (0, 40)) h_σ.1 rfl) (by decide))
    have g5 : zs_in ((sn_I σ (1 + 1) (9 : Int32).toNatClampNeg)).toInt 1 40 := (zs_ltr 1 40 r3 h_x4 (zs_rdk (q := 2) (k := (9 : Int32).toNatClampNeg) (z := (0, 40)) h_σ.1 rfl) (by decide))
    refine zs_gd (zs_gin (zs_mulI 0 117 zlI_3 g4 (by decide)) (by decide)) ?_
    refine zs_ite (fun c6 => ?_) (fun c6 => ?_)
    · skip
      have r7 := (zs_I_eq c6)
      have g8 : zs_in ((sn_I σ (1 + 6) ((3 : Int32) * x4).toNatClampNeg)).toInt 0 0 := (zs_eql 0 0 r7 (zs_rdu (q := 7) (z := (0, 29)) h_σ.1 (fun _ => rfl)) h_x1 (by decide))
      refine zs_gd (zs_gin (zs_addI 1 118 (zs_mulI 0 117 zlI_3 g4 (by decide)) zlI_1 (by decide)) (by decide)) ?_
      refine zs_ite (fun c9 => ?_) (fun c9 => ?_)
      · skip
        have r10 := (zs_I_eq c9)
        have g11 : zs_in ((sn_I σ (1 + 6) (((3 : Int32) * x4) + (1 : Int32)).toNatClampNeg)).toInt 0 5 := (zs_eql 0 5 r10 (zs_rdu (q := 7) (z := (0, 29)) h_σ.1 (fun _ => rfl)) h_x2 (by decide))
        refine zs_gd (zs_gin (zs_addI 2 119 (zs_mulI 0 117 zlI_3 g4 (by decide)) zlI_2 (by decide)) (by decide)) ?_
        refine zs_lt (Q := fun z => zs_in z.toInt 0 1073741823) (zs_or 30 1073741823 h_x3 (zs_cases (zs_rdu (q := 7) (z := (0, 29)) h_σ.1 (fun _ => rfl)) (fun z => zs_in ((1 : Int32) <<< (z &&& 31)).toInt 1 536870912) (by decide +kernel)) (by decide)) (fun y_8 hy_8 => ?_)
        obtain ⟨ret, er, hr⟩ := zc_1485 h_σ h_x1 h_x2 hy_8 g4 hc
        refine ⟨ret, er, ?_⟩
        exact (zs_sumw hr (fun v w => ⟨w.1, w.2⟩) (fun v w => w.elim))
      · skip
        have r12 := (zs_I_eqn c9)
        obtain ⟨ret, er, hr⟩ := zc_1485 h_σ h_x1 h_x2 h_x3 g4 hc
        refine ⟨ret, er, ?_⟩
        exact (zs_sumw hr (fun v w => ⟨w.1, w.2⟩) (fun v w => w.elim))
    · skip
      have r13 := (zs_I_eqn c6)
      have g14 : zs_in ((sn_I σ (1 + 6) ((3 : Int32) * x4).toNatClampNeg)).toInt 1 29 := (zs_nel 1 29 r13 (zs_rdu (q := 7) (z := (0, 29)) h_σ.1 (fun _ => rfl)) h_x1 (by decide))
      obtain ⟨ret, er, hr⟩ := zc_1485 h_σ h_x1 h_x2 h_x3 g4 hc
      refine ⟨ret, er, ?_⟩
      exact (zs_sumw hr (fun v w => ⟨w.1, w.2⟩) (fun v w => w.elim))
theorem zd_291 {σ0 : sn_S} {σ : sn_S} (h_σ : zs_C σ0 σ) {x1 : Int32} (h_x1 : zs_in x1.toInt 0 0) {x2 : Int32} (h_x2 : zs_in x2.toInt 0 5) {s0 : (Int32 × Int32)} (h0 : (zs_in (s0.1).toInt 0 1073741823 ∧ zs_in (s0.2).toInt 0 40)) : zs_ok (sn_it (LX2_minutesOfActs_5 σ 1 x1 x2) 5000 s0) (fun t => zs_in (t).toInt 0 1073741823) := by
  refine zs_it (I := fun s => (zs_in (s.1).toInt 0 1073741823 ∧ zs_in (s.2).toInt 0 40)) (m := fun s => 40 - s.2.toInt) (fun s hs => ?_) (fun s hs => ?_) (by exact h0)
  · have h1 := hs.2; unfold zs_in at h1
    omega
  · obtain ⟨b, eb, hb⟩ := zc_1486 h_σ h_x1 h_x2 hs.1 hs.2 (c := s.2.toInt) (Int.add_zero _).symm
    exact ⟨b, eb, zs_sumw hb (fun v w => ⟨⟨w.1.1, (zs_w w.1.2 (by decide))⟩, by have := w.2; omega⟩) (fun v w => w)⟩
-- BX2_minutesOfActs_67
theorem zc_1487 {σ0 : sn_S} {σ : sn_S} (h_σ : zs_C σ0 σ) {x3 : Int32} (h_x3 : zs_in x3.toInt 0 1073741823) : zs_ok (BX2_minutesOfActs_67 σ 1 x3) (fun r => zs_in (r).toInt 0 1073741823) := by
  unfold BX2_minutesOfActs_67
  exact zs_some h_x3
-- fX2_minutesOfActs
theorem zc_1488 {σ0 : sn_S} {σ : sn_S} (h_σ : zs_C σ0 σ) {x1 : Int32} (h_x1 : zs_in x1.toInt 0 0) {x2 : Int32} (h_x2 : zs_in x2.toInt 0 5) : zs_ok (fX2_minutesOfActs σ 1 x1 x2) (fun r => zs_in (r).toInt 0 1073741823) := by
  unfold fX2_minutesOfActs
  obtain rfl : x1 = (0 : Int32) := zs_eqv h_x1 (by decide)
  refine zs_bd_ (zd_291 h_σ h_x1 h_x2 (s0 := ((0 : Int32), (0 : Int32))) ⟨(zs_w zlI_0 (by decide)), (zs_w zlI_0 (by decide))⟩) (fun t_1 pt_1 => ?_)
  obtain ⟨ret, er, hr⟩ := zc_1487 h_σ pt_1
  refine ⟨ret, er, ?_⟩
  exact hr
-- BX2_minutesOfActs_61
theorem zc_1489 {σ0 : sn_S} {σ : sn_S} (h_σ : zs_C σ0 σ) {x1 : Int32} (h_x1 : zs_in x1.toInt 1 1) {x2 : Int32} (h_x2 : zs_in x2.toInt 0 5) {x3 : Int32} (h_x3 : zs_in x3.toInt 0 1073741823) {x4 : Int32} (h_x4 : zs_in x4.toInt 0 39) {c : Int} (hc : x4.toInt = c + 0) : zs_ok (BX2_minutesOfActs_61 σ 1 x1 x2 x3 x4) (fun r => zs_sum (fun v => ((zs_in (v.1).toInt 0 1073741823 ∧ zs_in (v.2).toInt 1 40)) ∧ v.2.toInt = c + 1) (fun v => False) r) := by
  unfold BX2_minutesOfActs_61
  obtain rfl : x1 = (1 : Int32) := zs_eqv h_x1 (by decide)
  refine zs_lt (Q := fun z => zs_in z.toInt 1 40 ∧ z.toInt = c + 1) ⟨(zs_addI 1 40 h_x4 zlI_1 (by decide)), (zs_syI 1 hc h_x4 zlI_1 (by decide) (by decide))⟩ (fun y_1 hy_1 => ?_)
  exact zs_some (zs_inl ⟨⟨h_x3, hy_1.1⟩, hy_1.2⟩)
-- BX2_minutesOfActs_5
theorem zc_1490 {σ0 : sn_S} {σ : sn_S} (h_σ : zs_C σ0 σ) {x1 : Int32} (h_x1 : zs_in x1.toInt 1 1) {x2 : Int32} (h_x2 : zs_in x2.toInt 0 5) {x3 : Int32} (h_x3 : zs_in x3.toInt 0 1073741823) {x4 : Int32} (h_x4 : zs_in x4.toInt 0 40) {c : Int} (hc : x4.toInt = c + 0) : zs_ok (BX2_minutesOfActs_5 σ 1 x1 x2 x3 x4) (fun r => zs_sum (fun v => ((zs_in (v.1).toInt 0 1073741823 ∧ zs_in (v.2).toInt 1 40)) ∧ v.2.toInt = c + 1) (fun v => zs_in (v).toInt 0 1073741823) r) := by
  unfold BX2_minutesOfActs_5
  obtain rfl : x1 = (1 : Int32) := zs_eqv h_x1 (by decide)
  refine zs_gd (zs_gin zlI_9 (by decide)) ?_
  refine zs_ite (fun c1 => ?_) (fun c1 => ?_)
  · skip
    have r2 := (zs_I_le c1)
    exact zs_some (zs_inr (h_x3))
  · skip
    have r3 := (zs_I_len c1)
    have g4 : zs_in (x4).toInt 0 39 := (zs_ltl 0 39 r3 h_x4 (zs_rdk (q := 2) (k := (9 : Int32).toNatClampNeg) (z := (0, 40)) h_σ.1 rfl) (by decide))
    have g5 : zs_in ((sn_I σ (1 + 1) (9 : Int32).toNatClampNeg)).toInt 1 40 := (zs_ltr 1 40 r3 h_x4 (zs_rdk (q := 2) (k := (9 : Int32).toNatClampNeg) (z := (0, 40)) h_σ.1 rfl) (by decide))
    refine zs_gd (zs_gin (zs_mulI 0 117 zlI_3 g4 (by decide)) (by decide)) ?_
    refine zs_ite (fun c6 => ?_) (fun c6 => ?_)
    · skip
      have r7 := (zs_I_eq c6)
      have g8 : zs_in ((sn_I σ (1 + 6) ((3 : Int32) * x4).toNatClampNeg)).toInt 1 1 := (zs_eql 1 1 r7 (zs_rdu (q := 7) (z := (0, 29)) h_σ.1 (fun _ => rfl)) h_x1 (by decide))
      refine zs_gd (zs_gin (zs_addI 1 118 (zs_mulI 0 117 zlI_3 g4 (by decide)) zlI_1 (by decide)) (by decide)) ?_
      refine zs_ite (fun c9 => ?_) (fun c9 => ?_)
      · skip
        have r10 := (zs_I_eq c9)
        have g11 : zs_in ((sn_I σ (1 + 6) (((3 : Int32) * x4) + (1 : Int32)).toNatClampNeg)).toInt 0 5 := (zs_eql 0 5 r10 (zs_rdu (q := 7) (z := (0, 29)) h_σ.1 (fun _ => rfl)) h_x2 (by decide))
        refine zs_gd (zs_gin (zs_addI 2 119 (zs_mulI 0 117 zlI_3 g4 (by decide)) zlI_2 (by decide)) (by decide)) ?_
        refine zs_lt (Q := fun z => zs_in z.toInt 0 1073741823) (zs_or 30 1073741823 h_x3 (zs_cases (zs_rdu (q := 7) (z := (0, 29)) h_σ.1 (fun _ => rfl)) (fun z => zs_in ((1 : Int32) <<< (z &&& 31)).toInt 1 536870912) (by decide +kernel)) (by decide)) (fun y_8 hy_8 => ?_)
        obtain ⟨ret, er, hr⟩ := zc_1489 h_σ h_x1 h_x2 hy_8 g4 hc
        refine ⟨ret, er, ?_⟩
        exact (zs_sumw hr (fun v w => ⟨w.1, w.2⟩) (fun v w => w.elim))
      · skip
        have r12 := (zs_I_eqn c9)
        obtain ⟨ret, er, hr⟩ := zc_1489 h_σ h_x1 h_x2 h_x3 g4 hc
        refine ⟨ret, er, ?_⟩
        exact (zs_sumw hr (fun v w => ⟨w.1, w.2⟩) (fun v w => w.elim))
    · skip
      have r13 := (zs_I_eqn c6)
      obtain ⟨ret, er, hr⟩ := zc_1489 h_σ h_x1 h_x2 h_x3 g4 hc
      refine ⟨ret, er, ?_⟩
      exact (zs_sumw hr (fun v w => ⟨w.1, w.2⟩) (fun v w => w.elim))
theorem zd_292 {σ0 : sn_S} {σ : sn_S} (h_σ : zs_C σ0 σ) {x1 : Int32} (h_x1 : zs_in x1.toInt 1 1) {x2 : Int32} (h_x2 : zs_in x2.toInt 0 5) {s0 : (Int32 × Int32)} (h0 : (zs_in (s0.1).toInt 0 1073741823 ∧ zs_in (s0.2).toInt 0 40)) : zs_ok (sn_it (LX2_minutesOfActs_5 σ 1 x1 x2) 5000 s0) (fun t => zs_in (t).toInt 0 1073741823) := by
  refine zs_it (I := fun s => (zs_in (s.1).toInt 0 1073741823 ∧ zs_in (s.2).toInt 0 40)) (m := fun s => 40 - s.2.toInt) (fun s hs => ?_) (fun s hs => ?_) (by exact h0)
  · have h1 := hs.2; unfold zs_in at h1
    omega
  · obtain ⟨b, eb, hb⟩ := zc_1490 h_σ h_x1 h_x2 hs.1 hs.2 (c := s.2.toInt) (Int.add_zero _).symm
    exact ⟨b, eb, zs_sumw hb (fun v w => ⟨⟨w.1.1, (zs_w w.1.2 (by decide))⟩, by have := w.2; omega⟩) (fun v w => w)⟩
-- fX2_minutesOfActs
theorem zc_1491 {σ0 : sn_S} {σ : sn_S} (h_σ : zs_C σ0 σ) {x1 : Int32} (h_x1 : zs_in x1.toInt 1 1) {x2 : Int32} (h_x2 : zs_in x2.toInt 0 5) : zs_ok (fX2_minutesOfActs σ 1 x1 x2) (fun r => zs_in (r).toInt 0 1073741823) := by
  unfold fX2_minutesOfActs
  obtain rfl : x1 = (1 : Int32) := zs_eqv h_x1 (by decide)
  refine zs_bd_ (zd_292 h_σ h_x1 h_x2 (s0 := ((0 : Int32), (0 : Int32))) ⟨(zs_w zlI_0 (by decide)), (zs_w zlI_0 (by decide))⟩) (fun t_1 pt_1 => ?_)
  obtain ⟨ret, er, hr⟩ := zc_1487 h_σ pt_1
  refine ⟨ret, er, ?_⟩
  exact hr
-- BX0_tellFrom_56
theorem zc_1492 {σ0 : sn_S} {σ : sn_S} (h_σ : zs_C σ0 σ) {x2 : Int32} (h_x2 : zs_in x2.toInt 0 6) {c : Int} (hc : x2.toInt = c + 0) : zs_ok (BX0_tellFrom_56 σ 27 1 x2) (fun r => zs_sum (fun v => ((zs_C σ0 v.1 ∧ zs_in (v.2).toInt 1 6)) ∧ v.2.toInt = c + 1) (fun v => zs_C σ0 v) r) := by
  unfold BX0_tellFrom_56
  refine zs_ite (fun c1 => ?_) (fun c1 => ?_)
  · skip
    have r2 := (zs_I_le c1)
    exact zs_some (zs_inr (h_σ))
  · skip
    have r3 := (zs_I_len c1)
    have g4 : zs_in (x2).toInt 0 5 := (zs_ltl 0 5 r3 h_x2 (zs_rdk (q := 27) (k := 1) (z := (0, 6)) h_σ.1 rfl) (by decide))
    have g5 : zs_in ((sn_I σ 27 1)).toInt 1 6 := (zs_ltr 1 6 r3 h_x2 (zs_rdk (q := 27) (k := 1) (z := (0, 6)) h_σ.1 rfl) (by decide))
    refine zs_gd (zs_gin (zs_mulI 0 10 zlI_2 g4 (by decide)) (by decide)) ?_
    refine zs_gd (zs_gin g4 (by decide)) ?_
    refine zs_lt (Q := fun z => zs_C σ0 z) (zs_wrt h_σ (fun _ => rfl) (fun _ => rfl)) (fun σ_4 hσ_4 => ?_)
    refine zs_gd (zs_gin (zs_addI 1 11 (zs_mulI 0 10 zlI_2 g4 (by decide)) zlI_1 (by decide)) (by decide)) ?_
    refine zs_gd (zs_gin g4 (by decide)) ?_
    refine zs_lt (Q := fun z => zs_C σ0 z) (zs_wrt hσ_4 (fun _ => rfl) (fun _ => rfl)) (fun σ_8 hσ_8 => ?_)
    refine zs_bd_ (zc_1488 hσ_8 zlI_0 g4) (fun t_10 pt_10 => ?_)
    refine zs_gd (zs_gin g4 (by decide)) ?_
    refine zs_lt (Q := fun z => zs_C σ0 z) (zs_wrt hσ_8 (fun _ => rfl) (fun _ => rfl)) (fun σ_13 hσ_13 => ?_)
    refine zs_bd_ (zc_1491 hσ_13 zlI_1 g4) (fun t_15 pt_15 => ?_)
    refine zs_gd (zs_gin g4 (by decide)) ?_
    refine zs_lt (Q := fun z => zs_C σ0 z) (zs_wrt hσ_13 (fun _ => rfl) (fun _ => rfl)) (fun σ_18 hσ_18 => ?_)
    refine zs_lt (Q := fun z => zs_in z.toInt 1 6 ∧ z.toInt = c + 1) ⟨(zs_addI 1 6 g4 zlI_1 (by decide)), (zs_syI 1 hc g4 zlI_1 (by decide) (by decide))⟩ (fun y_20 hy_20 => ?_)
    exact zs_some (zs_inl ⟨⟨hσ_18, hy_20.1⟩, hy_20.2⟩)
theorem zd_293 {σ0 : sn_S}  {s0 : (sn_S × Int32)} (h0 : (zs_C σ0 s0.1 ∧ zs_in (s0.2).toInt 0 6)) : zs_ok (sn_it (LX0_tellFrom_56 27 1) 5000 s0) (fun t => zs_C σ0 t) := by
  refine zs_it (I := fun s => (zs_C σ0 s.1 ∧ zs_in (s.2).toInt 0 6)) (m := fun s => 6 - s.2.toInt) (fun s hs => ?_) (fun s hs => ?_) (by exact h0)
  · have h1 := hs.2; unfold zs_in at h1
    omega
  · obtain ⟨b, eb, hb⟩ := zc_1492 hs.1 hs.2 (c := s.2.toInt) (Int.add_zero _).symm
    exact ⟨b, eb, zs_sumw hb (fun v w => ⟨⟨w.1.1, (zs_w w.1.2 (by decide))⟩, by have := w.2; omega⟩) (fun v w => w)⟩
-- BJ7_fill_53178_5
theorem zc_1493 {σ0 : sn_S} {σ : sn_S} (h_σ : zs_C σ0 σ) {x1 : Int32} (h_x1 : zs_in x1.toInt 0 9) {x2 : Int32} (h_x2 : zs_in x2.toInt 0 30) {x3 : Int32} (h_x3 : zs_in x3.toInt 30 30) {c : Int} (hc : x2.toInt = c + 0) : zs_ok (BJ7_fill_53178_5 σ 28 30 x1 x2 x3) (fun r => zs_sum (fun v => ((zs_C σ0 v.1 ∧ zs_in (v.2).toInt 1 30)) ∧ v.2.toInt = c + 1) (fun v => zs_C σ0 v) r) := by
  unfold BJ7_fill_53178_5
  obtain rfl : x3 = (30 : Int32) := zs_eqv h_x3 (by decide)
  refine zs_ite (fun c1 => ?_) (fun c1 => ?_)
  · skip
    have r2 := (zs_I_le c1)
    have g3 : zs_in (x2).toInt 30 30 := (zs_ler 30 30 r2 h_x3 h_x2 (by decide))
    exact zs_some (zs_inr (h_σ))
  · skip
    have r4 := (zs_I_len c1)
    have g5 : zs_in (x2).toInt 0 29 := (zs_ltl 0 29 r4 h_x2 h_x3 (by decide))
    refine zs_gd (zs_gin g5 (by decide)) ?_
    refine zs_lt (Q := fun z => zs_C σ0 z) (zs_wrt h_σ (fun _ => rfl) (fun _ => rfl)) (fun σ_3 hσ_3 => ?_)
    refine zs_lt (Q := fun z => zs_in z.toInt 1 30 ∧ z.toInt = c + 1) ⟨(zs_addI 1 30 g5 zlI_1 (by decide)), (zs_syI 1 hc g5 zlI_1 (by decide) (by decide))⟩ (fun y_5 hy_5 => ?_)
    exact zs_some (zs_inl ⟨⟨hσ_3, hy_5.1⟩, hy_5.2⟩)
theorem zd_294 {σ0 : sn_S} {x1 : Int32} (h_x1 : zs_in x1.toInt 0 9) {x3 : Int32} (h_x3 : zs_in x3.toInt 30 30) {s0 : (sn_S × Int32)} (h0 : (zs_C σ0 s0.1 ∧ zs_in (s0.2).toInt 0 30)) : zs_ok (sn_it (LJ7_fill_53178_5 28 30 x1 x3) 5000 s0) (fun t => zs_C σ0 t) := by
  refine zs_it (I := fun s => (zs_C σ0 s.1 ∧ zs_in (s.2).toInt 0 30)) (m := fun s => 30 - s.2.toInt) (fun s hs => ?_) (fun s hs => ?_) (by exact h0)
  · have h1 := hs.2; unfold zs_in at h1
    omega
  · obtain ⟨b, eb, hb⟩ := zc_1493 hs.1 h_x1 hs.2 h_x3 (c := s.2.toInt) (Int.add_zero _).symm
    exact ⟨b, eb, zs_sumw hb (fun v w => ⟨⟨w.1.1, (zs_w w.1.2 (by decide))⟩, by have := w.2; omega⟩) (fun v w => w)⟩
-- BJ7_fill_53178_20
theorem zc_1494 {σ0 : sn_S} {σ : sn_S} (h_σ : zs_C σ0 σ) : zs_ok (BJ7_fill_53178_20 σ 28 30) (fun r => zs_C σ0 r) := by
  unfold BJ7_fill_53178_20
  exact zs_some h_σ
-- fJ7_fill_53178
theorem zc_1495 {σ0 : sn_S} {σ : sn_S} (h_σ : zs_C σ0 σ) {x1 : Int32} (h_x1 : zs_in x1.toInt 0 9) : zs_ok (fJ7_fill_53178 σ 28 30 x1) (fun r => zs_C σ0 r) := by
  unfold fJ7_fill_53178
  refine zs_lt (Q := fun z => zs_in z.toInt 30 30) zlI_30 (fun y_1 hy_1 => ?_)
  refine zs_bd_ (zd_294 h_x1 hy_1 (s0 := (σ, (0 : Int32))) ⟨h_σ, (zs_w zlI_0 (by decide))⟩) (fun t_3 pt_3 => ?_)
  obtain ⟨ret, er, hr⟩ := zc_1494 pt_3
  refine ⟨ret, er, ?_⟩
  exact hr
-- BX0_tellFrom_139
theorem zc_1496 {σ0 : sn_S} {σ : sn_S} (h_σ : zs_C σ0 σ) {x2 : Int32} (h_x2 : zs_in x2.toInt 0 5) {c : Int} (hc : x2.toInt = c + 0) : zs_ok (BX0_tellFrom_139 σ 27 1 x2) (fun r => zs_sum (fun v => ((zs_C σ0 v.1 ∧ zs_in (v.2).toInt 1 5)) ∧ v.2.toInt = c + 1) (fun v => zs_C σ0 v) r) := by
  unfold BX0_tellFrom_139
  refine zs_gd (zs_gin zlI_6 (by decide)) ?_
  refine zs_ite (fun c1 => ?_) (fun c1 => ?_)
  · skip
    have r2 := (zs_I_le c1)
    exact zs_some (zs_inr (h_σ))
  · skip
    have r3 := (zs_I_len c1)
    have g4 : zs_in (x2).toInt 0 4 := (zs_ltl 0 4 r3 h_x2 (zs_rdk (q := 2) (k := (6 : Int32).toNatClampNeg) (z := (0, 5)) h_σ.1 rfl) (by decide))
    have g5 : zs_in ((sn_I σ (1 + 1) (6 : Int32).toNatClampNeg)).toInt 1 5 := (zs_ltr 1 5 r3 h_x2 (zs_rdk (q := 2) (k := (6 : Int32).toNatClampNeg) (z := (0, 5)) h_σ.1 rfl) (by decide))
    refine zs_gd (zs_gin (zs_addI 1 9 (zs_mulI 0 8 zlI_2 g4 (by decide)) zlI_1 (by decide)) (by decide)) ?_
    refine zs_gd (zs_gin (zs_use (h_σ.1.2 rfl).1.1.1 g4 (by decide) r3 (zs_i21 g4 (by decide))) (by decide)) ?_
    refine zs_gd (zs_gin (zs_mulI 0 8 zlI_2 g4 (by decide)) (by decide)) ?_
    refine zs_gd (zs_gin (zs_use (h_σ.1.2 rfl).1.1.1 g4 (by decide) r3 (zs_i21 g4 (by decide))) (by decide)) ?_
    refine zs_lt (Q := fun z => zs_C σ0 z) (zs_wrt h_σ (fun _ => rfl) (fun _ => rfl)) (fun σ_7 hσ_7 => ?_)
    refine zs_lt (Q := fun z => zs_in z.toInt 1 5 ∧ z.toInt = c + 1) ⟨(zs_addI 1 5 g4 zlI_1 (by decide)), (zs_syI 1 hc g4 zlI_1 (by decide) (by decide))⟩ (fun y_9 hy_9 => ?_)
    exact zs_some (zs_inl ⟨⟨hσ_7, hy_9.1⟩, hy_9.2⟩)
theorem zd_295 {σ0 : sn_S}  {s0 : (sn_S × Int32)} (h0 : (zs_C σ0 s0.1 ∧ zs_in (s0.2).toInt 0 5)) : zs_ok (sn_it (LX0_tellFrom_139 27 1) 5000 s0) (fun t => zs_C σ0 t) := by
  refine zs_it (I := fun s => (zs_C σ0 s.1 ∧ zs_in (s.2).toInt 0 5)) (m := fun s => 5 - s.2.toInt) (fun s hs => ?_) (fun s hs => ?_) (by exact h0)
  · have h1 := hs.2; unfold zs_in at h1
    omega
  · obtain ⟨b, eb, hb⟩ := zc_1496 hs.1 hs.2 (c := s.2.toInt) (Int.add_zero _).symm
    exact ⟨b, eb, zs_sumw hb (fun v w => ⟨⟨w.1.1, (zs_w w.1.2 (by decide))⟩, by have := w.2; omega⟩) (fun v w => w)⟩
-- BX0_tellFrom_182
theorem zc_1497 {σ0 : sn_S} {σ : sn_S} (h_σ : zs_C σ0 σ) : zs_ok (BX0_tellFrom_182 σ 27 1) (fun r => zs_C σ0 r) := by
  unfold BX0_tellFrom_182
  exact zs_some h_σ
-- BX0_tellFrom_124
theorem zc_1498 {σ0 : sn_S} {σ : sn_S} (h_σ : zs_C σ0 σ) : zs_ok (BX0_tellFrom_124 σ 27 1) (fun r => zs_C σ0 r) := by
  unfold BX0_tellFrom_124
  refine zs_gd (zs_gin zlI_1 (by decide)) ?_
  refine zs_bd_ (zc_1495 h_σ (zs_rdk (q := 2) (k := (1 : Int32).toNatClampNeg) (z := (0, 9)) h_σ.1 rfl)) (fun t_2 pt_2 => ?_)
  refine zs_bd_ (zd_295  (s0 := (t_2, (0 : Int32))) ⟨pt_2, (zs_w zlI_0 (by decide))⟩) (fun t_4 pt_4 => ?_)
  obtain ⟨ret, er, hr⟩ := zc_1497 pt_4
  refine ⟨ret, er, ?_⟩
  exact hr
-- fX0_tellFrom
theorem zc_1499 {σ0 : sn_S} {σ : sn_S} (h_σ : zs_C σ0 σ) : zs_ok (fX0_tellFrom σ 27 1) (fun r => zs_C σ0 r) := by
  unfold fX0_tellFrom
  refine zs_gd (zs_gin zlI_0 (by decide)) ?_
  refine zs_lt (Q := fun z => zs_C σ0 z) (zs_wrk (z := (0, 30)) h_σ rfl (zs_rdk (q := 2) (k := (0 : Int32).toNatClampNeg) (z := (0, 30)) h_σ.1 rfl) (by decide) rfl) (fun σ_2 hσ_2 => ?_)
  refine zs_gd (zs_gin zlI_5 (by decide)) ?_
  refine zs_lt (Q := fun z => zs_C σ0 z) (zs_wrk (z := (0, 6)) hσ_2 rfl (zs_rdk (q := 2) (k := (5 : Int32).toNatClampNeg) (z := (0, 6)) hσ_2.1 rfl) (by decide) rfl) (fun σ_5 hσ_5 => ?_)
  refine zs_gd (zs_gin zlI_7 (by decide)) ?_
  refine zs_lt (Q := fun z => z = (sn_pI σ_5 27 2 (sn_I σ_5 (1 + 1) (7 : Int32).toNatClampNeg))) rfl (fun σ_8 hσ_8 => ?_)
  refine zs_lt (Q := fun z => z = (sn_pI σ_8 27 3 (-1 : Int32))) rfl (fun σ_10 hσ_10 => ?_)
  refine zs_gd (by decide) ?_
  refine zs_lt (Q := fun z => zs_C σ0 z) (by subst hσ_10; subst hσ_8; exact zo_tell hσ_5) (fun σ_13 hσ_13 => ?_)
  refine zs_bd_ (zd_293  (s0 := (σ_13, (0 : Int32))) ⟨hσ_13, (zs_w zlI_0 (by decide))⟩) (fun t_15 pt_15 => ?_)
  obtain ⟨ret, er, hr⟩ := zc_1498 pt_15
  refine ⟨ret, er, ?_⟩
  exact hr
-- BX0_live_2
theorem zc_1500 {σ0 : sn_S} {σ : sn_S} (h_σ : zs_C σ0 σ) {x1 : Int32} (h_x1 : zs_in x1.toInt 0 0) {x2 : Int32} (h_x2 : zs_in x2.toInt 0 30) {x3 : Int32} (h_x3 : zs_in x3.toInt 0 6) {c : Int} (hc : x3.toInt = c + 0) : zs_ok (BX0_live_2 σ 27 x1 x2 x3) (fun r => zs_sum (fun v => ((zs_C σ0 v.1 ∧ zs_in (v.2).toInt 1 6)) ∧ v.2.toInt = c + 1) (fun v => zs_C σ0 v) r) := by
  unfold BX0_live_2
  obtain rfl : x1 = (0 : Int32) := zs_eqv h_x1 (by decide)
  refine zs_ite (fun c1 => ?_) (fun c1 => ?_)
  · skip
    have r2 := (zs_I_le c1)
    exact zs_some (zs_inr (h_σ))
  · skip
    have r3 := (zs_I_len c1)
    have g4 : zs_in (x3).toInt 0 5 := (zs_ltl 0 5 r3 h_x3 (zs_rdk (q := 27) (k := 1) (z := (0, 6)) h_σ.1 rfl) (by decide))
    have g5 : zs_in ((sn_I σ 27 1)).toInt 1 6 := (zs_ltr 1 6 r3 h_x3 (zs_rdk (q := 27) (k := 1) (z := (0, 6)) h_σ.1 rfl) (by decide))
    refine zs_gd (zs_gin g4 (by decide)) ?_
    refine zs_bd_ (zc_314 h_x1) (fun t_3 pt_3 => ?_)
    refine zs_gd (zs_gin g4 (by decide)) ?_
    refine zs_lt (Q := fun z => zs_C σ0 z) (zs_wru (z := (0, 1073741823)) h_σ (fun _ => rfl) (zs_and pt_3 (by decide)) (by decide) (fun _ => rfl)) (fun σ_6 hσ_6 => ?_)
    refine zs_lt (Q := fun z => zs_in z.toInt 1 6 ∧ z.toInt = c + 1) ⟨(zs_addI 1 6 g4 zlI_1 (by decide)), (zs_syI 1 hc g4 zlI_1 (by decide) (by decide))⟩ (fun y_8 hy_8 => ?_)
    exact zs_some (zs_inl ⟨⟨hσ_6, hy_8.1⟩, hy_8.2⟩)
theorem zd_296 {σ0 : sn_S} {x1 : Int32} (h_x1 : zs_in x1.toInt 0 0) {x2 : Int32} (h_x2 : zs_in x2.toInt 0 30) {s0 : (sn_S × Int32)} (h0 : (zs_C σ0 s0.1 ∧ zs_in (s0.2).toInt 0 6)) : zs_ok (sn_it (LX0_live_2 27 x1 x2) 5000 s0) (fun t => zs_C σ0 t) := by
  refine zs_it (I := fun s => (zs_C σ0 s.1 ∧ zs_in (s.2).toInt 0 6)) (m := fun s => 6 - s.2.toInt) (fun s hs => ?_) (fun s hs => ?_) (by exact h0)
  · have h1 := hs.2; unfold zs_in at h1
    omega
  · obtain ⟨b, eb, hb⟩ := zc_1500 hs.1 h_x1 h_x2 hs.2 (c := s.2.toInt) (Int.add_zero _).symm
    exact ⟨b, eb, zs_sumw hb (fun v w => ⟨⟨w.1.1, (zs_w w.1.2 (by decide))⟩, by have := w.2; omega⟩) (fun v w => w)⟩
-- BX0_tickleByNets_7
theorem zc_1501 {σ0 : sn_S} {σ : sn_S} (h_σ : zs_C σ0 σ) {x1 : Int32} (h_x1 : zs_in x1.toInt 0 29) {x2 : Int32} (h_x2 : zs_in x2.toInt 0 174) {x3 : Int32} (h_x3 : zs_in x3.toInt 0 6) (hl_x1 : x2.toInt = 6 * x1.toInt) {c : Int} (hc : x3.toInt = c + 0) : zs_ok (BX0_tickleByNets_7 σ 27 x1 x2 x3) (fun r => zs_sum (fun v => ((zs_C σ0 v.1 ∧ zs_in (v.2).toInt 1 6)) ∧ v.2.toInt = c + 1) (fun v => zs_C σ0 v) r) := by
  unfold BX0_tickleByNets_7
  refine zs_ite (fun c1 => ?_) (fun c1 => ?_)
  · skip
    have r2 := (zs_I_le c1)
    exact zs_some (zs_inr (h_σ))
  · skip
    have r3 := (zs_I_len c1)
    have g4 : zs_in (x3).toInt 0 5 := (zs_ltl 0 5 r3 h_x3 (zs_rdk (q := 27) (k := 1) (z := (0, 6)) h_σ.1 rfl) (by decide))
    have g5 : zs_in ((sn_I σ 27 1)).toInt 1 6 := (zs_ltr 1 6 r3 h_x3 (zs_rdk (q := 27) (k := 1) (z := (0, 6)) h_σ.1 rfl) (by decide))
    refine zs_gd (zs_gin (zs_addI 0 179 h_x2 g4 (by decide)) (by decide)) ?_
    refine zs_lt (Q := fun z => zs_C σ0 z) (zs_wrt h_σ (fun _ => rfl) (fun _ => rfl)) (fun σ_3 hσ_3 => ?_)
    refine zs_lt (Q := fun z => zs_in z.toInt 1 6 ∧ z.toInt = c + 1) ⟨(zs_addI 1 6 g4 zlI_1 (by decide)), (zs_syI 1 hc g4 zlI_1 (by decide) (by decide))⟩ (fun y_5 hy_5 => ?_)
    exact zs_some (zs_inl ⟨⟨hσ_3, hy_5.1⟩, hy_5.2⟩)
theorem zd_297 {σ0 : sn_S} {x1 : Int32} (h_x1 : zs_in x1.toInt 0 29) {x2 : Int32} (h_x2 : zs_in x2.toInt 0 174) (hl_x1 : x2.toInt = 6 * x1.toInt) {s0 : (sn_S × Int32)} (h0 : (zs_C σ0 s0.1 ∧ zs_in (s0.2).toInt 0 6)) : zs_ok (sn_it (LX0_tickleByNets_7 27 x1 x2) 5000 s0) (fun t => zs_C σ0 t) := by
  refine zs_it (I := fun s => (zs_C σ0 s.1 ∧ zs_in (s.2).toInt 0 6)) (m := fun s => 6 - s.2.toInt) (fun s hs => ?_) (fun s hs => ?_) (by exact h0)
  · have h1 := hs.2; unfold zs_in at h1
    omega
  · obtain ⟨b, eb, hb⟩ := zc_1501 hs.1 h_x1 h_x2 hs.2 hl_x1 (c := s.2.toInt) (Int.add_zero _).symm
    exact ⟨b, eb, zs_sumw hb (fun v w => ⟨⟨w.1.1, (zs_w w.1.2 (by decide))⟩, by have := w.2; omega⟩) (fun v w => w)⟩
-- BX0_tickleByNets_46
theorem zc_1502 {σ0 : sn_S} {σ : sn_S} (h_σ : zs_C σ0 σ) {x2 : Int32} (h_x2 : zs_in x2.toInt 0 0) {t0 : Int32} (h_t0 : zs_in t0.toInt 0 0) : zs_ok (BX0_tickleByNets_46 σ 27 x2 t0) (fun r => zs_C σ0 r) := by
  unfold BX0_tickleByNets_46
  obtain rfl : x2 = (0 : Int32) := zs_eqv h_x2 (by decide)
  obtain rfl : t0 = (0 : Int32) := zs_eqv h_t0 (by decide)
  refine zs_ite (fun c1 => ?_) (fun c1 => ?_)
  · skip
    have r2 := (zs_I_eq c1)
    exact zs_some h_σ
  · skip
    have r3 := (zs_I_eqn c1)
    exact (zs_botne r3 h_t0 zlI_0 (by decide)).elim
-- BX0_tickleByNets_149
theorem zc_1503 {σ0 : sn_S} {σ : sn_S} (h_σ : zs_C σ0 σ) {x2 : Int32} (h_x2 : zs_in x2.toInt 6 174) {x3 : Int32} {x4 : Int32} (h_x4 : zs_in x4.toInt 0 7) {c : Int} (hc : x4.toInt = c + 0) : zs_ok (BX0_tickleByNets_149 σ 27 x2 x3 x4) (fun r => zs_sum (fun v => ((zs_C σ0 v.1 ∧ zs_in (v.2).toInt 1 8)) ∧ v.2.toInt = c + 1) (fun v => False) r) := by
  unfold BX0_tickleByNets_149
  refine zs_lt (Q := fun z => zs_in z.toInt 1 8 ∧ z.toInt = c + 1) ⟨(zs_addI 1 8 h_x4 zlI_1 (by decide)), (zs_syI 1 hc h_x4 zlI_1 (by decide) (by decide))⟩ (fun y_1 hy_1 => ?_)
  exact zs_some (zs_inl ⟨⟨h_σ, hy_1.1⟩, hy_1.2⟩)
-- BX0_tickleByNets_147
theorem zc_1504 {σ0 : sn_S} {σ : sn_S} (h_σ : zs_C σ0 σ) {x2 : Int32} (h_x2 : zs_in x2.toInt 6 174) {x3 : Int32} {x4 : Int32} (h_x4 : zs_in x4.toInt 0 7) {t1 : Int32} (h_t1 : zs_in t1.toInt 6 179) {t2 : Int32} {t3 : Int32} (h_t3 : zs_in t3.toInt 0 0) {c : Int} (hc : x4.toInt = c + 0) : zs_ok (BX0_tickleByNets_147 σ 27 x2 x3 x4 t1 t2 t3) (fun r => zs_sum (fun v => ((zs_C σ0 v.1 ∧ zs_in (v.2).toInt 1 8)) ∧ v.2.toInt = c + 1) (fun v => False) r) := by
  unfold BX0_tickleByNets_147
  obtain rfl : t3 = (0 : Int32) := zs_eqv h_t3 (by decide)
  refine zs_gd (zs_gin h_t1 (by decide)) ?_
  refine zs_lt (Q := fun z => zs_C σ0 z) (zs_wrt h_σ (fun _ => rfl) (fun _ => rfl)) (fun σ_2 hσ_2 => ?_)
  obtain ⟨ret, er, hr⟩ := zc_1503 hσ_2 h_x2 h_x4 hc
  refine ⟨ret, er, ?_⟩
  exact (zs_sumw hr (fun v w => ⟨w.1, w.2⟩) (fun v w => w.elim))
-- BX0_tickleByNets_147
theorem zc_1505 {σ0 : sn_S} {σ : sn_S} (h_σ : zs_C σ0 σ) {x2 : Int32} (h_x2 : zs_in x2.toInt 6 174) {x3 : Int32} {x4 : Int32} (h_x4 : zs_in x4.toInt 0 7) {t1 : Int32} (h_t1 : zs_in t1.toInt 6 179) {t2 : Int32} {t3 : Int32} (h_t3 : zs_in t3.toInt 5 5) {c : Int} (hc : x4.toInt = c + 0) : zs_ok (BX0_tickleByNets_147 σ 27 x2 x3 x4 t1 t2 t3) (fun r => zs_sum (fun v => ((zs_C σ0 v.1 ∧ zs_in (v.2).toInt 1 8)) ∧ v.2.toInt = c + 1) (fun v => False) r) := by
  unfold BX0_tickleByNets_147
  obtain rfl : t3 = (5 : Int32) := zs_eqv h_t3 (by decide)
  refine zs_gd (zs_gin h_t1 (by decide)) ?_
  refine zs_lt (Q := fun z => zs_C σ0 z) (zs_wrt h_σ (fun _ => rfl) (fun _ => rfl)) (fun σ_2 hσ_2 => ?_)
  obtain ⟨ret, er, hr⟩ := zc_1503 hσ_2 h_x2 h_x4 hc
  refine ⟨ret, er, ?_⟩
  exact (zs_sumw hr (fun v w => ⟨w.1, w.2⟩) (fun v w => w.elim))
-- BX0_tickleByNets_121
theorem zc_1506 {σ0 : sn_S} {σ : sn_S} (h_σ : zs_C σ0 σ) {x2 : Int32} (h_x2 : zs_in x2.toInt 6 174) {x3 : Int32} {x4 : Int32} (h_x4 : zs_in x4.toInt 0 7) {x5 : Int32} (h_x5 : zs_in x5.toInt 0 5) {x6 : Int32} (h_x6 : zs_in x6.toInt 0 5) {t1 : Int32} (h_t1 : zs_in t1.toInt 6 179) {t2 : Int32} {t3 : Int32} (h_t3 : zs_in t3.toInt 0 0) {c : Int} (hc : x4.toInt = c + 0) : zs_ok (BX0_tickleByNets_121 σ 27 x2 x3 x4 x5 x6 t1 t2 t3) (fun r => zs_sum (fun v => ((zs_C σ0 v.1 ∧ zs_in (v.2).toInt 1 8)) ∧ v.2.toInt = c + 1) (fun v => False) r) := by
  unfold BX0_tickleByNets_121
  obtain rfl : t3 = (0 : Int32) := zs_eqv h_t3 (by decide)
  refine zs_gd (zs_gin h_t1 (by decide)) ?_
  refine zs_lt (Q := fun z => zs_C σ0 z) (zs_wrt h_σ (fun _ => rfl) (fun _ => rfl)) (fun σ_2 hσ_2 => ?_)
  refine zs_gd (zs_gin (zs_addI 6 179 h_x2 h_x6 (by decide)) (by decide)) ?_
  refine zs_bd_ (zc_319 h_x5) (fun t_5 pt_5 => ?_)
  refine zs_ite (fun c1 => ?_) (fun c1 => ?_)
  · skip
    have r2 := (zs_I_eq c1)
    have g3 : zs_in (t_5).toInt 0 0 := (zs_eql 0 0 r2 pt_5 zlI_0 (by decide))
    obtain ⟨ret, er, hr⟩ := zc_1504 hσ_2 h_x2 h_x4 (zs_addI 6 179 h_x2 h_x6 (by decide)) zlI_0 hc
    refine ⟨ret, er, ?_⟩
    exact (zs_sumw hr (fun v w => ⟨w.1, w.2⟩) (fun v w => w.elim))
  · skip
    have r4 := (zs_I_eqn c1)
    have g5 : zs_in (t_5).toInt 1 1 := (zs_nel 1 1 r4 pt_5 zlI_0 (by decide))
    obtain ⟨ret, er, hr⟩ := zc_1505 hσ_2 h_x2 h_x4 (zs_addI 6 179 h_x2 h_x6 (by decide)) zlI_5 hc
    refine ⟨ret, er, ?_⟩
    exact (zs_sumw hr (fun v w => ⟨w.1, w.2⟩) (fun v w => w.elim))
-- BX0_tickleByNets_121
theorem zc_1507 {σ0 : sn_S} {σ : sn_S} (h_σ : zs_C σ0 σ) {x2 : Int32} (h_x2 : zs_in x2.toInt 6 174) {x3 : Int32} {x4 : Int32} (h_x4 : zs_in x4.toInt 0 7) {x5 : Int32} (h_x5 : zs_in x5.toInt 0 5) {x6 : Int32} (h_x6 : zs_in x6.toInt 0 5) {t1 : Int32} (h_t1 : zs_in t1.toInt 6 179) {t2 : Int32} {t3 : Int32} (h_t3 : zs_in t3.toInt 5 5) {c : Int} (hc : x4.toInt = c + 0) : zs_ok (BX0_tickleByNets_121 σ 27 x2 x3 x4 x5 x6 t1 t2 t3) (fun r => zs_sum (fun v => ((zs_C σ0 v.1 ∧ zs_in (v.2).toInt 1 8)) ∧ v.2.toInt = c + 1) (fun v => False) r) := by
  unfold BX0_tickleByNets_121
  obtain rfl : t3 = (5 : Int32) := zs_eqv h_t3 (by decide)
  refine zs_gd (zs_gin h_t1 (by decide)) ?_
  refine zs_lt (Q := fun z => zs_C σ0 z) (zs_wrt h_σ (fun _ => rfl) (fun _ => rfl)) (fun σ_2 hσ_2 => ?_)
  refine zs_gd (zs_gin (zs_addI 6 179 h_x2 h_x6 (by decide)) (by decide)) ?_
  refine zs_bd_ (zc_319 h_x5) (fun t_5 pt_5 => ?_)
  refine zs_ite (fun c1 => ?_) (fun c1 => ?_)
  · skip
    have r2 := (zs_I_eq c1)
    have g3 : zs_in (t_5).toInt 0 0 := (zs_eql 0 0 r2 pt_5 zlI_0 (by decide))
    obtain ⟨ret, er, hr⟩ := zc_1504 hσ_2 h_x2 h_x4 (zs_addI 6 179 h_x2 h_x6 (by decide)) zlI_0 hc
    refine ⟨ret, er, ?_⟩
    exact (zs_sumw hr (fun v w => ⟨w.1, w.2⟩) (fun v w => w.elim))
  · skip
    have r4 := (zs_I_eqn c1)
    have g5 : zs_in (t_5).toInt 1 1 := (zs_nel 1 1 r4 pt_5 zlI_0 (by decide))
    obtain ⟨ret, er, hr⟩ := zc_1505 hσ_2 h_x2 h_x4 (zs_addI 6 179 h_x2 h_x6 (by decide)) zlI_5 hc
    refine ⟨ret, er, ?_⟩
    exact (zs_sumw hr (fun v w => ⟨w.1, w.2⟩) (fun v w => w.elim))
-- BX0_tickleByNets_55
theorem zc_1508 {σ0 : sn_S} {σ : sn_S} (h_σ : zs_C σ0 σ) {x2 : Int32} (h_x2 : zs_in x2.toInt 6 174) {x3 : Int32} {x4 : Int32} (h_x4 : zs_in x4.toInt 0 8) {c : Int} (hc : x4.toInt = c + 0) : zs_ok (BX0_tickleByNets_55 σ 27 x2 x3 x4) (fun r => zs_sum (fun v => ((zs_C σ0 v.1 ∧ zs_in (v.2).toInt 1 8)) ∧ v.2.toInt = c + 1) (fun v => zs_C σ0 v) r) := by
  unfold BX0_tickleByNets_55
  refine zs_ite (fun c1 => ?_) (fun c1 => ?_)
  · skip
    have r2 := (zs_I_le c1)
    exact zs_some (zs_inr (h_σ))
  · skip
    have r3 := (zs_I_len c1)
    have g4 : zs_in (x4).toInt 0 7 := (zs_ltl 0 7 r3 h_x4 (zs_rdk (q := 27) (k := 2) (z := (0, 8)) h_σ.1 rfl) (by decide))
    have g5 : zs_in ((sn_I σ 27 2)).toInt 1 8 := (zs_ltr 1 8 r3 h_x4 (zs_rdk (q := 27) (k := 2) (z := (0, 8)) h_σ.1 rfl) (by decide))
    refine zs_ite (fun c6 => ?_) (fun c6 => ?_)
    · skip
      have r7 := (zs_I_eq c6)
      have g8 : zs_in ((sn_I σ 27 3)).toInt 0 7 := (zs_eqr 0 7 r7 g4 (zs_topI _) (by decide))
      obtain ⟨ret, er, hr⟩ := zc_1503 h_σ h_x2 g4 hc
      refine ⟨ret, er, ?_⟩
      exact (zs_sumw hr (fun v w => ⟨w.1, w.2⟩) (fun v w => w.elim))
    · skip
      have r9 := (zs_I_eqn c6)
      refine zs_gd (zs_gin (zs_mulI 0 14 zlI_2 g4 (by decide)) (by decide)) ?_
      refine zs_lt (Q := fun z => zs_in z.toInt 0 5) (zs_use (h_σ.1.2 rfl).2.1.1 g4 (by decide) r3 (zs_i20 g4 (by decide))) (fun y_4 hy_4 => ?_)
      refine zs_gd (zs_gin (zs_addI 1 15 (zs_mulI 0 14 zlI_2 g4 (by decide)) zlI_1 (by decide)) (by decide)) ?_
      refine zs_lt (Q := fun z => zs_in z.toInt 0 5) (zs_use (h_σ.1.2 rfl).2.1.2 g4 (by decide) r3 (zs_i21 g4 (by decide))) (fun y_7 hy_7 => ?_)
      refine zs_gd (zs_gin (zs_addI 6 179 h_x2 hy_4 (by decide)) (by decide)) ?_
      refine zs_bd_ (zc_319 hy_7) (fun t_10 pt_10 => ?_)
      refine zs_ite (fun c10 => ?_) (fun c10 => ?_)
      · skip
        have r11 := (zs_I_eq c10)
        have g12 : zs_in (t_10).toInt 0 0 := (zs_eql 0 0 r11 pt_10 zlI_0 (by decide))
        obtain ⟨ret, er, hr⟩ := zc_1506 h_σ h_x2 g4 hy_4 hy_7 (zs_addI 6 179 h_x2 hy_4 (by decide)) zlI_0 hc
        refine ⟨ret, er, ?_⟩
        exact (zs_sumw hr (fun v w => ⟨w.1, w.2⟩) (fun v w => w.elim))
      · skip
        have r13 := (zs_I_eqn c10)
        have g14 : zs_in (t_10).toInt 1 1 := (zs_nel 1 1 r13 pt_10 zlI_0 (by decide))
        obtain ⟨ret, er, hr⟩ := zc_1507 h_σ h_x2 g4 hy_4 hy_7 (zs_addI 6 179 h_x2 hy_4 (by decide)) zlI_5 hc
        refine ⟨ret, er, ?_⟩
        exact (zs_sumw hr (fun v w => ⟨w.1, w.2⟩) (fun v w => w.elim))
theorem zd_298 {σ0 : sn_S} {x2 : Int32} (h_x2 : zs_in x2.toInt 6 174) {x3 : Int32} {s0 : (sn_S × Int32)} (h0 : (zs_C σ0 s0.1 ∧ zs_in (s0.2).toInt 0 8)) : zs_ok (sn_it (LX0_tickleByNets_55 27 x2 x3) 5000 s0) (fun t => zs_C σ0 t) := by
  refine zs_it (I := fun s => (zs_C σ0 s.1 ∧ zs_in (s.2).toInt 0 8)) (m := fun s => 8 - s.2.toInt) (fun s hs => ?_) (fun s hs => ?_) (by exact h0)
  · have h1 := hs.2; unfold zs_in at h1
    omega
  · obtain ⟨b, eb, hb⟩ := zc_1508 hs.1 h_x2 hs.2 (c := s.2.toInt) (Int.add_zero _).symm
    exact ⟨b, eb, zs_sumw hb (fun v w => ⟨⟨w.1.1, (zs_w w.1.2 (by decide))⟩, by have := w.2; omega⟩) (fun v w => w)⟩
-- BX0_tickleByNets_155
theorem zc_1509 {σ0 : sn_S} {σ : sn_S} (h_σ : zs_C σ0 σ) : zs_ok (BX0_tickleByNets_155 σ 27) (fun r => zs_C σ0 r) := by
  unfold BX0_tickleByNets_155
  exact zs_some h_σ
-- BX0_tickleByNets_46
theorem zc_1510 {σ0 : sn_S} {σ : sn_S} (h_σ : zs_C σ0 σ) {x2 : Int32} (h_x2 : zs_in x2.toInt 6 174) {t0 : Int32} : zs_ok (BX0_tickleByNets_46 σ 27 x2 t0) (fun r => zs_C σ0 r) := by
  unfold BX0_tickleByNets_46
  refine zs_ite (fun c1 => ?_) (fun c1 => ?_)
  · skip
    have r2 := (zs_I_eq c1)
    have g3 : zs_in (t0).toInt 0 0 := (zs_eql 0 0 r2 (zs_topI _) zlI_0 (by decide))
    exact zs_some h_σ
  · skip
    have r4 := (zs_I_eqn c1)
    refine zs_bd_ (zd_298 h_x2 (s0 := (σ, (0 : Int32))) ⟨h_σ, (zs_w zlI_0 (by decide))⟩) (fun t_2 pt_2 => ?_)
    obtain ⟨ret, er, hr⟩ := zc_1509 pt_2
    refine ⟨ret, er, ?_⟩
    exact hr
-- BX0_tickleByNets_30
theorem zc_1511 {σ0 : sn_S} {σ : sn_S} (h_σ : zs_C σ0 σ) {x1 : Int32} (h_x1 : zs_in x1.toInt 0 29) {x2 : Int32} (h_x2 : zs_in x2.toInt 0 174) (hl_x1 : x2.toInt = 6 * x1.toInt) : zs_ok (BX0_tickleByNets_30 σ 27 x1 x2) (fun r => zs_C σ0 r) := by
  unfold BX0_tickleByNets_30
  refine zs_ite (fun c1 => ?_) (fun c1 => ?_)
  · skip
    have r2 := (zs_I_eq c1)
    have g3 : zs_in (x1).toInt 0 0 := (zs_eql 0 0 r2 h_x1 zlI_0 (by decide))
    have g4 : zs_in (x2).toInt 0 0 := (zs_lin 0 0 hl_x1 g3 (by decide))
    obtain ⟨ret, er, hr⟩ := zc_1502 h_σ g4 zlI_0
    refine ⟨ret, er, ?_⟩
    exact hr
  · skip
    have r5 := (zs_I_eqn c1)
    have g6 : zs_in (x1).toInt 1 29 := (zs_nel 1 29 r5 h_x1 zlI_0 (by decide))
    have g7 : zs_in (x2).toInt 6 174 := (zs_lin 6 174 hl_x1 g6 (by decide))
    refine zs_gd (zs_gin (zs_subI 0 28 g6 zlI_1 (by decide)) (by decide)) ?_
    obtain ⟨ret, er, hr⟩ := zc_1510 h_σ g7
    refine ⟨ret, er, ?_⟩
    exact hr
-- fX0_tickleByNets
theorem zc_1512 {σ0 : sn_S} {σ : sn_S} (h_σ : zs_C σ0 σ) {x1 : Int32} (h_x1 : zs_in x1.toInt 0 29) : zs_ok (fX0_tickleByNets σ 27 x1) (fun r => zs_C σ0 r) := by
  unfold fX0_tickleByNets
  refine zs_lt (Q := fun z => zs_in z.toInt 0 174 ∧ z = ((6 : Int32) * x1)) ⟨(zs_mulI 0 174 zlI_6 h_x1 (by decide)), rfl⟩ (fun y_1 hy_1 => ?_)
  refine zs_bd_ (zd_297 h_x1 hy_1.1 (zs_linv hy_1.2 zlI_6 h_x1 (by decide)) (s0 := (σ, (0 : Int32))) ⟨h_σ, (zs_w zlI_0 (by decide))⟩) (fun t_3 pt_3 => ?_)
  obtain ⟨ret, er, hr⟩ := zc_1511 pt_3 h_x1 hy_1.1 (zs_linv hy_1.2 zlI_6 h_x1 (by decide))
  refine ⟨ret, er, ?_⟩
  exact hr
-- BX0_liveMinute_98
theorem zc_1513 {σ0 : sn_S} {σ : sn_S} (h_σ : zs_C σ0 σ) {x1 : Int32} (h_x1 : zs_in x1.toInt 0 0) {x2 : Int32} (h_x2 : zs_in x2.toInt 0 0) {x3 : Int32} {x4 : Int32} (h_x4 : zs_in x4.toInt 0 5) {x5 : Int32} (h_x5 : zs_in x5.toInt (-2147483648) 2147483646) (hl_x1 : x2.toInt = 6 * x1.toInt) {c : Int} (hc : x4.toInt = c + 0) : zs_ok (BX0_liveMinute_98 σ 27 x1 x2 x3 x4 x5) (fun r => zs_sum (fun v => ((zs_C σ0 v.1 ∧ (True ∧ zs_in (v.2.2).toInt 1 6))) ∧ v.2.2.toInt = c + 1) (fun v => False) r) := by
  unfold BX0_liveMinute_98
  refine zs_gd (zs_gin (zs_addI 0 5 h_x2 h_x4 (by decide)) (by decide)) ?_
  refine zs_lt (Q := fun z => zs_C σ0 z) (zs_wrt h_σ (fun _ => rfl) (fun _ => rfl)) (fun σ_2 hσ_2 => ?_)
  refine zs_lt (Q := fun z => zs_in z.toInt 1 6 ∧ z.toInt = c + 1) ⟨(zs_addI 1 6 h_x4 zlI_1 (by decide)), (zs_syI 1 hc h_x4 zlI_1 (by decide) (by decide))⟩ (fun y_4 hy_4 => ?_)
  exact zs_some (zs_inl ⟨⟨hσ_2, ⟨trivial, hy_4.1⟩⟩, hy_4.2⟩)
-- BX0_liveMinute_98
theorem zc_1514 {σ0 : sn_S} {σ : sn_S} (h_σ : zs_C σ0 σ) {x1 : Int32} (h_x1 : zs_in x1.toInt 0 0) {x2 : Int32} (h_x2 : zs_in x2.toInt 0 0) {x3 : Int32} {x4 : Int32} (h_x4 : zs_in x4.toInt 0 5) {x5 : Int32} (h_x5 : zs_in x5.toInt 0 0) (hl_x1 : x2.toInt = 6 * x1.toInt) {c : Int} (hc : x4.toInt = c + 0) : zs_ok (BX0_liveMinute_98 σ 27 x1 x2 x3 x4 x5) (fun r => zs_sum (fun v => ((zs_C σ0 v.1 ∧ (True ∧ zs_in (v.2.2).toInt 1 6))) ∧ v.2.2.toInt = c + 1) (fun v => False) r) := by
  unfold BX0_liveMinute_98
  obtain rfl : x5 = (0 : Int32) := zs_eqv h_x5 (by decide)
  refine zs_gd (zs_gin (zs_addI 0 5 h_x2 h_x4 (by decide)) (by decide)) ?_
  refine zs_lt (Q := fun z => zs_C σ0 z) (zs_wrt h_σ (fun _ => rfl) (fun _ => rfl)) (fun σ_2 hσ_2 => ?_)
  refine zs_lt (Q := fun z => zs_in z.toInt 1 6 ∧ z.toInt = c + 1) ⟨(zs_addI 1 6 h_x4 zlI_1 (by decide)), (zs_syI 1 hc h_x4 zlI_1 (by decide) (by decide))⟩ (fun y_4 hy_4 => ?_)
  exact zs_some (zs_inl ⟨⟨hσ_2, ⟨trivial, hy_4.1⟩⟩, hy_4.2⟩)
-- BX0_liveMinute_98
theorem zc_1515 {σ0 : sn_S} {σ : sn_S} (h_σ : zs_C σ0 σ) {x1 : Int32} (h_x1 : zs_in x1.toInt 0 0) {x2 : Int32} (h_x2 : zs_in x2.toInt 0 0) {x3 : Int32} {x4 : Int32} (h_x4 : zs_in x4.toInt 0 5) {x5 : Int32} (hl_x1 : x2.toInt = 6 * x1.toInt) {c : Int} (hc : x4.toInt = c + 0) : zs_ok (BX0_liveMinute_98 σ 27 x1 x2 x3 x4 x5) (fun r => zs_sum (fun v => ((zs_C σ0 v.1 ∧ (True ∧ zs_in (v.2.2).toInt 1 6))) ∧ v.2.2.toInt = c + 1) (fun v => False) r) := by
  unfold BX0_liveMinute_98
  refine zs_gd (zs_gin (zs_addI 0 5 h_x2 h_x4 (by decide)) (by decide)) ?_
  refine zs_lt (Q := fun z => zs_C σ0 z) (zs_wrt h_σ (fun _ => rfl) (fun _ => rfl)) (fun σ_2 hσ_2 => ?_)
  refine zs_lt (Q := fun z => zs_in z.toInt 1 6 ∧ z.toInt = c + 1) ⟨(zs_addI 1 6 h_x4 zlI_1 (by decide)), (zs_syI 1 hc h_x4 zlI_1 (by decide) (by decide))⟩ (fun y_4 hy_4 => ?_)
  exact zs_some (zs_inl ⟨⟨hσ_2, ⟨trivial, hy_4.1⟩⟩, hy_4.2⟩)
-- BX0_liveMinute_46
theorem zc_1516 {σ0 : sn_S} {σ : sn_S} (h_σ : zs_C σ0 σ) {x1 : Int32} (h_x1 : zs_in x1.toInt 0 0) {x2 : Int32} (h_x2 : zs_in x2.toInt 0 0) {x3 : Int32} {x4 : Int32} (h_x4 : zs_in x4.toInt 0 5) {t0 : Int32} {t1 : Int32} (h_t1 : zs_in t1.toInt 0 0) (hl_x1 : x2.toInt = 6 * x1.toInt) {c : Int} (hc : x4.toInt = c + 0) : zs_ok (BX0_liveMinute_46 σ 27 x1 x2 x3 x4 t0 t1) (fun r => zs_sum (fun v => ((zs_C σ0 v.1 ∧ (True ∧ zs_in (v.2.2).toInt 1 6))) ∧ v.2.2.toInt = c + 1) (fun v => False) r) := by
  unfold BX0_liveMinute_46
  obtain rfl : t1 = (0 : Int32) := zs_eqv h_t1 (by decide)
  refine zs_lt (Q := fun z => True) trivial (fun y_1 hy_1 => ?_)
  refine zs_gd (zs_gin h_x4 (by decide)) ?_
  refine zs_ite (fun c1 => ?_) (fun c1 => ?_)
  · skip
    have r2 := (zs_I_lt c1)
    have g3 : zs_in (y_1).toInt (-2147483648) 2147483646 := (zs_ltl (-2147483648) 2147483646 r2 (zs_topI _) (zs_topI _) (by decide))
    have g4 : zs_in ((sn_I σ (27 + 3) x4.toNatClampNeg)).toInt (-2147483647) 2147483647 := (zs_ltr (-2147483647) 2147483647 r2 (zs_topI _) (zs_topI _) (by decide))
    obtain ⟨ret, er, hr⟩ := zc_1513 h_σ h_x1 h_x2 h_x4 g3 hl_x1 hc
    refine ⟨ret, er, ?_⟩
    exact (zs_sumw hr (fun v w => ⟨w.1, w.2⟩) (fun v w => w.elim))
  · skip
    have r5 := (zs_I_ltn c1)
    refine zs_gd (zs_gin h_x4 (by decide)) ?_
    refine zs_bd_ (zc_334 h_x1) (fun t_6 pt_6 => ?_)
    refine zs_ite (fun c6 => ?_) (fun c6 => ?_)
    · skip
      have r7 := (zs_I_eq c6)
      have g8 : zs_in (t_6).toInt 0 0 := (zs_eql 0 0 r7 pt_6 zlI_0 (by decide))
      refine zs_lt (Q := fun z => True) trivial (fun y_9 hy_9 => ?_)
      refine zs_gd (zs_gin h_x4 (by decide)) ?_
      refine zs_gd (zs_gin h_x4 (by decide)) ?_
      refine zs_lt (Q := fun z => zs_C σ0 z) (zs_wru (z := (0, 1073741823)) h_σ (fun _ => rfl) (zs_or 30 1073741823 (zs_rdu (q := 37) (z := (0, 1073741823)) h_σ.1 (fun _ => rfl)) (zs_cases h_x1 (fun z => zs_in ((1 : Int32) <<< (z &&& 31)).toInt 1 1) (by decide +kernel)) (by decide)) (by decide) (fun _ => rfl)) (fun σ_13 hσ_13 => ?_)
      obtain ⟨ret, er, hr⟩ := zc_1514 hσ_13 h_x1 h_x2 h_x4 zlI_0 hl_x1 hc
      refine ⟨ret, er, ?_⟩
      exact (zs_sumw hr (fun v w => ⟨w.1, w.2⟩) (fun v w => w.elim))
    · skip
      have r9 := (zs_I_eqn c6)
      have g10 : zs_in (t_6).toInt 1 1 := (zs_nel 1 1 r9 pt_6 zlI_0 (by decide))
      obtain ⟨ret, er, hr⟩ := zc_1515 h_σ h_x1 h_x2 h_x4 hl_x1 hc
      refine ⟨ret, er, ?_⟩
      exact (zs_sumw hr (fun v w => ⟨w.1, w.2⟩) (fun v w => w.elim))
-- BX0_liveMinute_98
theorem zc_1517 {σ0 : sn_S} {σ : sn_S} (h_σ : zs_C σ0 σ) {x1 : Int32} (h_x1 : zs_in x1.toInt 1 29) {x2 : Int32} (h_x2 : zs_in x2.toInt 6 174) {x3 : Int32} {x4 : Int32} (h_x4 : zs_in x4.toInt 0 5) {x5 : Int32} (h_x5 : zs_in x5.toInt (-2147483648) 2147483646) (hl_x1 : x2.toInt = 6 * x1.toInt) {c : Int} (hc : x4.toInt = c + 0) : zs_ok (BX0_liveMinute_98 σ 27 x1 x2 x3 x4 x5) (fun r => zs_sum (fun v => ((zs_C σ0 v.1 ∧ (True ∧ zs_in (v.2.2).toInt 1 6))) ∧ v.2.2.toInt = c + 1) (fun v => False) r) := by
  unfold BX0_liveMinute_98
  refine zs_gd (zs_gin (zs_addI 6 179 h_x2 h_x4 (by decide)) (by decide)) ?_
  refine zs_lt (Q := fun z => zs_C σ0 z) (zs_wrt h_σ (fun _ => rfl) (fun _ => rfl)) (fun σ_2 hσ_2 => ?_)
  refine zs_lt (Q := fun z => zs_in z.toInt 1 6 ∧ z.toInt = c + 1) ⟨(zs_addI 1 6 h_x4 zlI_1 (by decide)), (zs_syI 1 hc h_x4 zlI_1 (by decide) (by decide))⟩ (fun y_4 hy_4 => ?_)
  exact zs_some (zs_inl ⟨⟨hσ_2, ⟨trivial, hy_4.1⟩⟩, hy_4.2⟩)
-- BX0_liveMinute_98
theorem zc_1518 {σ0 : sn_S} {σ : sn_S} (h_σ : zs_C σ0 σ) {x1 : Int32} (h_x1 : zs_in x1.toInt 1 29) {x2 : Int32} (h_x2 : zs_in x2.toInt 6 174) {x3 : Int32} {x4 : Int32} (h_x4 : zs_in x4.toInt 0 5) {x5 : Int32} (h_x5 : zs_in x5.toInt 0 0) (hl_x1 : x2.toInt = 6 * x1.toInt) {c : Int} (hc : x4.toInt = c + 0) : zs_ok (BX0_liveMinute_98 σ 27 x1 x2 x3 x4 x5) (fun r => zs_sum (fun v => ((zs_C σ0 v.1 ∧ (True ∧ zs_in (v.2.2).toInt 1 6))) ∧ v.2.2.toInt = c + 1) (fun v => False) r) := by
  unfold BX0_liveMinute_98
  obtain rfl : x5 = (0 : Int32) := zs_eqv h_x5 (by decide)
  refine zs_gd (zs_gin (zs_addI 6 179 h_x2 h_x4 (by decide)) (by decide)) ?_
  refine zs_lt (Q := fun z => zs_C σ0 z) (zs_wrt h_σ (fun _ => rfl) (fun _ => rfl)) (fun σ_2 hσ_2 => ?_)
  refine zs_lt (Q := fun z => zs_in z.toInt 1 6 ∧ z.toInt = c + 1) ⟨(zs_addI 1 6 h_x4 zlI_1 (by decide)), (zs_syI 1 hc h_x4 zlI_1 (by decide) (by decide))⟩ (fun y_4 hy_4 => ?_)
  exact zs_some (zs_inl ⟨⟨hσ_2, ⟨trivial, hy_4.1⟩⟩, hy_4.2⟩)
-- BX0_liveMinute_98
theorem zc_1519 {σ0 : sn_S} {σ : sn_S} (h_σ : zs_C σ0 σ) {x1 : Int32} (h_x1 : zs_in x1.toInt 1 29) {x2 : Int32} (h_x2 : zs_in x2.toInt 6 174) {x3 : Int32} {x4 : Int32} (h_x4 : zs_in x4.toInt 0 5) {x5 : Int32} (hl_x1 : x2.toInt = 6 * x1.toInt) {c : Int} (hc : x4.toInt = c + 0) : zs_ok (BX0_liveMinute_98 σ 27 x1 x2 x3 x4 x5) (fun r => zs_sum (fun v => ((zs_C σ0 v.1 ∧ (True ∧ zs_in (v.2.2).toInt 1 6))) ∧ v.2.2.toInt = c + 1) (fun v => False) r) := by
  unfold BX0_liveMinute_98
  refine zs_gd (zs_gin (zs_addI 6 179 h_x2 h_x4 (by decide)) (by decide)) ?_
  refine zs_lt (Q := fun z => zs_C σ0 z) (zs_wrt h_σ (fun _ => rfl) (fun _ => rfl)) (fun σ_2 hσ_2 => ?_)
  refine zs_lt (Q := fun z => zs_in z.toInt 1 6 ∧ z.toInt = c + 1) ⟨(zs_addI 1 6 h_x4 zlI_1 (by decide)), (zs_syI 1 hc h_x4 zlI_1 (by decide) (by decide))⟩ (fun y_4 hy_4 => ?_)
  exact zs_some (zs_inl ⟨⟨hσ_2, ⟨trivial, hy_4.1⟩⟩, hy_4.2⟩)
-- BX0_liveMinute_46
theorem zc_1520 {σ0 : sn_S} {σ : sn_S} (h_σ : zs_C σ0 σ) {x1 : Int32} (h_x1 : zs_in x1.toInt 1 29) {x2 : Int32} (h_x2 : zs_in x2.toInt 6 174) {x3 : Int32} {x4 : Int32} (h_x4 : zs_in x4.toInt 0 5) {t0 : Int32} {t1 : Int32} (hl_x1 : x2.toInt = 6 * x1.toInt) {c : Int} (hc : x4.toInt = c + 0) : zs_ok (BX0_liveMinute_46 σ 27 x1 x2 x3 x4 t0 t1) (fun r => zs_sum (fun v => ((zs_C σ0 v.1 ∧ (True ∧ zs_in (v.2.2).toInt 1 6))) ∧ v.2.2.toInt = c + 1) (fun v => False) r) := by
  unfold BX0_liveMinute_46
  refine zs_lt (Q := fun z => True) trivial (fun y_1 hy_1 => ?_)
  refine zs_gd (zs_gin h_x4 (by decide)) ?_
  refine zs_ite (fun c1 => ?_) (fun c1 => ?_)
  · skip
    have r2 := (zs_I_lt c1)
    have g3 : zs_in (y_1).toInt (-2147483648) 2147483646 := (zs_ltl (-2147483648) 2147483646 r2 (zs_topI _) (zs_topI _) (by decide))
    have g4 : zs_in ((sn_I σ (27 + 3) x4.toNatClampNeg)).toInt (-2147483647) 2147483647 := (zs_ltr (-2147483647) 2147483647 r2 (zs_topI _) (zs_topI _) (by decide))
    obtain ⟨ret, er, hr⟩ := zc_1517 h_σ h_x1 h_x2 h_x4 g3 hl_x1 hc
    refine ⟨ret, er, ?_⟩
    exact (zs_sumw hr (fun v w => ⟨w.1, w.2⟩) (fun v w => w.elim))
  · skip
    have r5 := (zs_I_ltn c1)
    refine zs_gd (zs_gin h_x4 (by decide)) ?_
    refine zs_bd_ (zc_339 h_x1) (fun t_6 pt_6 => ?_)
    refine zs_ite (fun c6 => ?_) (fun c6 => ?_)
    · skip
      have r7 := (zs_I_eq c6)
      have g8 : zs_in (t_6).toInt 0 0 := (zs_eql 0 0 r7 pt_6 zlI_0 (by decide))
      refine zs_lt (Q := fun z => True) trivial (fun y_9 hy_9 => ?_)
      refine zs_gd (zs_gin h_x4 (by decide)) ?_
      refine zs_gd (zs_gin h_x4 (by decide)) ?_
      refine zs_lt (Q := fun z => zs_C σ0 z) (zs_wru (z := (0, 1073741823)) h_σ (fun _ => rfl) (zs_or 30 1073741823 (zs_rdu (q := 37) (z := (0, 1073741823)) h_σ.1 (fun _ => rfl)) (zs_cases h_x1 (fun z => zs_in ((1 : Int32) <<< (z &&& 31)).toInt 2 536870912) (by decide +kernel)) (by decide)) (by decide) (fun _ => rfl)) (fun σ_13 hσ_13 => ?_)
      obtain ⟨ret, er, hr⟩ := zc_1518 hσ_13 h_x1 h_x2 h_x4 zlI_0 hl_x1 hc
      refine ⟨ret, er, ?_⟩
      exact (zs_sumw hr (fun v w => ⟨w.1, w.2⟩) (fun v w => w.elim))
    · skip
      have r9 := (zs_I_eqn c6)
      have g10 : zs_in (t_6).toInt 1 1 := (zs_nel 1 1 r9 pt_6 zlI_0 (by decide))
      obtain ⟨ret, er, hr⟩ := zc_1519 h_σ h_x1 h_x2 h_x4 hl_x1 hc
      refine ⟨ret, er, ?_⟩
      exact (zs_sumw hr (fun v w => ⟨w.1, w.2⟩) (fun v w => w.elim))
-- BX0_liveMinute_10
theorem zc_1521 {σ0 : sn_S} {σ : sn_S} (h_σ : zs_C σ0 σ) {x1 : Int32} (h_x1 : zs_in x1.toInt 0 29) {x2 : Int32} (h_x2 : zs_in x2.toInt 0 174) {x3 : Int32} {x4 : Int32} (h_x4 : zs_in x4.toInt 0 6) (hl_x1 : x2.toInt = 6 * x1.toInt) {c : Int} (hc : x4.toInt = c + 0) : zs_ok (BX0_liveMinute_10 σ 27 x1 x2 x3 x4) (fun r => zs_sum (fun v => ((zs_C σ0 v.1 ∧ (True ∧ zs_in (v.2.2).toInt 1 6))) ∧ v.2.2.toInt = c + 1) (fun v => (zs_C σ0 v.1 ∧ True)) r) := by
  unfold BX0_liveMinute_10
  refine zs_ite (fun c1 => ?_) (fun c1 => ?_)
  · skip
    have r2 := (zs_I_le c1)
    exact zs_some (zs_inr (⟨h_σ, trivial⟩))
  · skip
    have r3 := (zs_I_len c1)
    have g4 : zs_in (x4).toInt 0 5 := (zs_ltl 0 5 r3 h_x4 (zs_rdk (q := 27) (k := 1) (z := (0, 6)) h_σ.1 rfl) (by decide))
    have g5 : zs_in ((sn_I σ 27 1)).toInt 1 6 := (zs_ltr 1 6 r3 h_x4 (zs_rdk (q := 27) (k := 1) (z := (0, 6)) h_σ.1 rfl) (by decide))
    refine zs_bd_ (zc_498 h_σ g4 h_x1) (fun t_2 pt_2 => ?_)
    refine zs_ite (fun c6 => ?_) (fun c6 => ?_)
    · skip
      have r7 := (zs_I_eq c6)
      have g8 : zs_in (x1).toInt 0 0 := (zs_eql 0 0 r7 h_x1 zlI_0 (by decide))
      have g9 : zs_in (x2).toInt 0 0 := (zs_lin 0 0 hl_x1 g8 (by decide))
      obtain ⟨ret, er, hr⟩ := zc_1516 h_σ g8 g9 g4 zlI_0 hl_x1 hc
      refine ⟨ret, er, ?_⟩
      exact (zs_sumw hr (fun v w => ⟨w.1, w.2⟩) (fun v w => w.elim))
    · skip
      have r10 := (zs_I_eqn c6)
      have g11 : zs_in (x1).toInt 1 29 := (zs_nel 1 29 r10 h_x1 zlI_0 (by decide))
      have g12 : zs_in (x2).toInt 6 174 := (zs_lin 6 174 hl_x1 g11 (by decide))
      refine zs_gd (zs_gin (zs_addI 0 173 (zs_subI 0 168 g12 zlI_6 (by decide)) g4 (by decide)) (by decide)) ?_
      obtain ⟨ret, er, hr⟩ := zc_1520 h_σ g11 g12 g4 hl_x1 hc
      refine ⟨ret, er, ?_⟩
      exact (zs_sumw hr (fun v w => ⟨w.1, w.2⟩) (fun v w => w.elim))
theorem zd_299 {σ0 : sn_S} {x1 : Int32} (h_x1 : zs_in x1.toInt 0 29) {x2 : Int32} (h_x2 : zs_in x2.toInt 0 174) (hl_x1 : x2.toInt = 6 * x1.toInt) {s0 : (sn_S × (Int32 × Int32))} (h0 : (zs_C σ0 s0.1 ∧ (True ∧ zs_in (s0.2.2).toInt 0 6))) : zs_ok (sn_it (LX0_liveMinute_10 27 x1 x2) 5000 s0) (fun t => (zs_C σ0 t.1 ∧ True)) := by
  refine zs_it (I := fun s => (zs_C σ0 s.1 ∧ (True ∧ zs_in (s.2.2).toInt 0 6))) (m := fun s => 6 - s.2.2.toInt) (fun s hs => ?_) (fun s hs => ?_) (by exact h0)
  · have h1 := hs.2.2; unfold zs_in at h1
    omega
  · obtain ⟨b, eb, hb⟩ := zc_1521 hs.1 h_x1 h_x2 hs.2.2 hl_x1 (c := s.2.2.toInt) (Int.add_zero _).symm
    exact ⟨b, eb, zs_sumw hb (fun v w => ⟨⟨w.1.1, ⟨w.1.2.1, (zs_w w.1.2.2 (by decide))⟩⟩, by have := w.2; omega⟩) (fun v w => w)⟩
-- BX0_liveMinute_115
theorem zc_1522 {σ0 : sn_S} {σ : sn_S} (h_σ : zs_C σ0 σ) {x1 : Int32} (h_x1 : zs_in x1.toInt 0 29) {x3 : Int32} : zs_ok (BX0_liveMinute_115 σ 27 x1 x3) (fun r => zs_C σ0 r) := by
  unfold BX0_liveMinute_115
  refine zs_gd (zs_gin h_x1 (by decide)) ?_
  refine zs_lt (Q := fun z => zs_C σ0 z) (zs_wrt h_σ (fun _ => rfl) (fun _ => rfl)) (fun σ_2 hσ_2 => ?_)
  exact zs_some hσ_2
-- fX0_liveMinute
theorem zc_1523 {σ0 : sn_S} {σ : sn_S} (h_σ : zs_C σ0 σ) {x1 : Int32} (h_x1 : zs_in x1.toInt 0 29) : zs_ok (fX0_liveMinute σ 27 x1) (fun r => zs_C σ0 r) := by
  unfold fX0_liveMinute
  refine zs_lt (Q := fun z => zs_in z.toInt 0 174 ∧ z = ((6 : Int32) * x1)) ⟨(zs_mulI 0 174 zlI_6 h_x1 (by decide)), rfl⟩ (fun y_1 hy_1 => ?_)
  refine zs_bd_ (zd_299 h_x1 hy_1.1 (zs_linv hy_1.2 zlI_6 h_x1 (by decide)) (s0 := (σ, ((0 : Int32), (0 : Int32)))) ⟨h_σ, ⟨trivial, (zs_w zlI_0 (by decide))⟩⟩) (fun t_3 pt_3 => ?_)
  obtain ⟨ret, er, hr⟩ := zc_1522 pt_3.1 h_x1
  refine ⟨ret, er, ?_⟩
  exact hr
-- BX0_live_31
theorem zc_1524 {σ0 : sn_S} {σ : sn_S} (h_σ : zs_C σ0 σ) {x2 : Int32} (h_x2 : zs_in x2.toInt 0 30) {x3 : Int32} (h_x3 : zs_in x3.toInt 0 30) {c : Int} (hc : x3.toInt = c + 0) : zs_ok (BX0_live_31 σ 27 x2 x3) (fun r => zs_sum (fun v => ((zs_C σ0 v.1 ∧ zs_in (v.2).toInt 1 30)) ∧ v.2.toInt = c + 1) (fun v => zs_C σ0 v) r) := by
  unfold BX0_live_31
  refine zs_ite (fun c1 => ?_) (fun c1 => ?_)
  · skip
    have r2 := (zs_I_le c1)
    exact zs_some (zs_inr (h_σ))
  · skip
    have r3 := (zs_I_len c1)
    have g4 : zs_in (x3).toInt 0 29 := (zs_ltl 0 29 r3 h_x3 h_x2 (by decide))
    have g5 : zs_in (x2).toInt 1 30 := (zs_ltr 1 30 r3 h_x3 h_x2 (by decide))
    refine zs_ite (fun c6 => ?_) (fun c6 => ?_)
    · skip
      have r7 := (zs_I_le c6)
      have g8 : zs_in ((sn_I σ 27 0)).toInt 0 29 := (zs_lel 0 29 r7 (zs_rdk (q := 27) (k := 0) (z := (0, 30)) h_σ.1 rfl) g4 (by decide))
      exact zs_some (zs_inr (h_σ))
    · skip
      have r9 := (zs_I_len c6)
      have g10 : zs_in ((sn_I σ 27 0)).toInt 1 30 := (zs_ltr 1 30 r9 g4 (zs_rdk (q := 27) (k := 0) (z := (0, 30)) h_σ.1 rfl) (by decide))
      refine zs_bd_ (zc_1512 h_σ g4) (fun t_3 pt_3 => ?_)
      refine zs_bd_ (zc_1523 pt_3 g4) (fun t_5 pt_5 => ?_)
      refine zs_lt (Q := fun z => zs_in z.toInt 1 30 ∧ z.toInt = c + 1) ⟨(zs_addI 1 30 g4 zlI_1 (by decide)), (zs_syI 1 hc g4 zlI_1 (by decide) (by decide))⟩ (fun y_7 hy_7 => ?_)
      exact zs_some (zs_inl ⟨⟨pt_5, hy_7.1⟩, hy_7.2⟩)
theorem zd_300 {σ0 : sn_S} {x2 : Int32} (h_x2 : zs_in x2.toInt 0 30) {s0 : (sn_S × Int32)} (h0 : (zs_C σ0 s0.1 ∧ zs_in (s0.2).toInt 0 30)) : zs_ok (sn_it (LX0_live_31 27 x2) 5000 s0) (fun t => zs_C σ0 t) := by
  refine zs_it (I := fun s => (zs_C σ0 s.1 ∧ zs_in (s.2).toInt 0 30)) (m := fun s => 30 - s.2.toInt) (fun s hs => ?_) (fun s hs => ?_) (by exact h0)
  · have h1 := hs.2; unfold zs_in at h1
    omega
  · obtain ⟨b, eb, hb⟩ := zc_1524 hs.1 h_x2 hs.2 (c := s.2.toInt) (Int.add_zero _).symm
    exact ⟨b, eb, zs_sumw hb (fun v w => ⟨⟨w.1.1, (zs_w w.1.2 (by decide))⟩, by have := w.2; omega⟩) (fun v w => w)⟩
-- BX0_live_60
theorem zc_1525 {σ0 : sn_S} {σ : sn_S} (h_σ : zs_C σ0 σ) : zs_ok (BX0_live_60 σ 27) (fun r => zs_C σ0 r) := by
  unfold BX0_live_60
  exact zs_some h_σ
-- BX0_live_29
theorem zc_1526 {σ0 : sn_S} {σ : sn_S} (h_σ : zs_C σ0 σ) {x1 : Int32} (h_x1 : zs_in x1.toInt 0 0) {x2 : Int32} (h_x2 : zs_in x2.toInt 0 30) : zs_ok (BX0_live_29 σ 27 x1 x2) (fun r => zs_C σ0 r) := by
  unfold BX0_live_29
  obtain rfl : x1 = (0 : Int32) := zs_eqv h_x1 (by decide)
  refine zs_bd_ (zd_300 h_x2 (s0 := (σ, (0 : Int32))) ⟨h_σ, (zs_w h_x1 (by decide))⟩) (fun t_1 pt_1 => ?_)
  obtain ⟨ret, er, hr⟩ := zc_1525 pt_1
  refine ⟨ret, er, ?_⟩
  exact hr
-- fX0_live
theorem zc_1527 {σ0 : sn_S} {σ : sn_S} (h_σ : zs_C σ0 σ) {x1 : Int32} (h_x1 : zs_in x1.toInt 0 0) {x2 : Int32} (h_x2 : zs_in x2.toInt 0 30) : zs_ok (fX0_live σ 27 x1 x2) (fun r => zs_C σ0 r) := by
  unfold fX0_live
  obtain rfl : x1 = (0 : Int32) := zs_eqv h_x1 (by decide)
  refine zs_bd_ (zd_296 h_x1 h_x2 (s0 := (σ, (0 : Int32))) ⟨h_σ, (zs_w zlI_0 (by decide))⟩) (fun t_1 pt_1 => ?_)
  obtain ⟨ret, er, hr⟩ := zc_1526 pt_1 h_x1 h_x2
  refine ⟨ret, er, ?_⟩
  exact hr
-- fX0_liveWhole
theorem zc_1528 {σ0 : sn_S} {σ : sn_S} (h_σ : zs_C σ0 σ) : zs_ok (fX0_liveWhole σ 27) (fun r => zs_C σ0 r) := by
  unfold fX0_liveWhole
  refine zs_bd_ (zc_1527 h_σ zlI_0 (zs_rdk (q := 27) (k := 0) (z := (0, 30)) h_σ.1 rfl)) (fun t_1 pt_1 => ?_)
  exact zs_some pt_1
-- fX8_liveAnew
theorem zc_1529 {σ0 : sn_S} {σ : sn_S} (h_σ : zs_C σ0 σ) : zs_ok (fX8_liveAnew σ) (fun r => zs_C σ0 r) := by
  unfold fX8_liveAnew
  refine zs_bd_ (zc_1499 h_σ) (fun t_1 pt_1 => ?_)
  refine zs_bd_ (zc_1528 pt_1) (fun t_3 pt_3 => ?_)
  exact zs_some pt_3
-- fX9_in
theorem zc_1530 {x0 : Int64} (h_x0 : zs_in x0.toInt 0 29) {x2 : Int64} (h_x2 : zs_in x2.toInt 0 0) {x4 : Int64} (h_x4 : zs_in x4.toInt 7 7) : zs_ok (fX9_in x0 x2 x4) (fun r => (zs_in (r).toInt 0 1) ∧ ((r).toInt = 0 ∨ (zs_in (x0).toInt 0 7))) := by
  unfold fX9_in
  refine zs_ite (fun c1 => ?_) (fun c1 => ?_)
  · skip
    have r2 := (zs_lg_lt c1)
    exact (zs_botlt r2 h_x0 h_x2 (by decide)).elim
  · skip
    have r3 := (zs_lg_ltn c1)
    refine zs_ite (fun c4 => ?_) (fun c4 => ?_)
    · skip
      have r5 := (zs_lg_ltf c4)
      have g6 : zs_in (x0).toInt 8 29 := (zs_ltr 8 29 r5 h_x4 h_x0 (by decide))
      refine zs_gd (zs_b01 zlI_0 (by decide)) ?_
      exact zs_some ⟨(zs_w zlI_0 (by decide)), Or.inl (zs_ptr zlI_0)⟩
    · skip
      have r7 := (zs_lg_ltfn c4)
      have g8 : zs_in (x0).toInt 0 7 := (zs_lel 0 7 r7 h_x0 h_x4 (by decide))
      refine zs_gd (zs_b01 zlI_1 (by decide)) ?_
      exact zs_some ⟨(zs_w zlI_1 (by decide)), Or.inr g8⟩
-- fX9_isPuffs
theorem zc_1531 {σ0 : sn_S} {σ : sn_S} (h_σ : zs_M σ0 σ) {x1 : Int32} {x2 : Int32} : zs_ok (fX9_isPuffs σ x1 x2) (fun r => (zs_in (r).toInt 0 1) ∧ ((r).toInt = 0 ∨ (zs_in (x1).toInt 0 7 ∧ zs_in (x2).toInt 0 1))) := by
  unfold fX9_isPuffs
  refine zs_bd_ (zc_94 h_σ (zs_64 (zs_topI _))) (fun t_1 pt_1 => ?_)
  refine zs_ite (fun c1 => ?_) (fun c1 => ?_)
  · skip
    have r2 := (zs_I_eq c1)
    have g3 : zs_in (t_1).toInt 0 0 := (zs_eql 0 0 r2 pt_1.1 zlI_0 (by decide))
    refine zs_gd (zs_b01 zlI_0 (by decide)) ?_
    exact zs_some ⟨(zs_w zlI_0 (by decide)), Or.inl (zs_ptr zlI_0)⟩
  · skip
    have r4 := (zs_I_eqn c1)
    have g5 : zs_in (t_1).toInt 1 1 := (zs_nel 1 1 r4 pt_1.1 zlI_0 (by decide))
    have q6 := (zs_or2 pt_1.2 g5 (by decide))
    have g7 : zs_in (x1.toInt64).toInt 0 29 := q6
    have g8 : zs_in (x1).toInt 0 29 := (zs_64r g7)
    refine zs_bd_ (zc_1530 g7 zlL_0 zlL_7) (fun t_5 pt_5 => ?_)
    refine zs_ite (fun c9 => ?_) (fun c9 => ?_)
    · skip
      have r10 := (zs_I_eq c9)
      have g11 : zs_in (t_5).toInt 0 0 := (zs_eql 0 0 r10 pt_5.1 zlI_0 (by decide))
      refine zs_gd (zs_b01 zlI_0 (by decide)) ?_
      exact zs_some ⟨(zs_w zlI_0 (by decide)), Or.inl (zs_ptr zlI_0)⟩
    · skip
      have r12 := (zs_I_eqn c9)
      have g13 : zs_in (t_5).toInt 1 1 := (zs_nel 1 1 r12 pt_5.1 zlI_0 (by decide))
      have q14 := (zs_or2 pt_5.2 g13 (by decide))
      have g15 : zs_in (x1.toInt64).toInt 0 7 := q14
      have g16 : zs_in (x1).toInt 0 7 := (zs_64r g15)
      refine zs_bd_ (zc_7 (zs_64 (zs_topI _)) zlL_0 zlL_1) (fun t_9 pt_9 => ?_)
      refine zs_ite (fun c17 => ?_) (fun c17 => ?_)
      · skip
        have r18 := (zs_I_eq c17)
        have g19 : zs_in (t_9).toInt 0 0 := (zs_eql 0 0 r18 pt_9.1 zlI_0 (by decide))
        refine zs_gd (zs_b01 zlI_0 (by decide)) ?_
        exact zs_some ⟨(zs_w zlI_0 (by decide)), Or.inl (zs_ptr zlI_0)⟩
      · skip
        have r20 := (zs_I_eqn c17)
        have g21 : zs_in (t_9).toInt 1 1 := (zs_nel 1 1 r20 pt_9.1 zlI_0 (by decide))
        have q22 := (zs_or2 pt_9.2 g21 (by decide))
        have g23 : zs_in (x2.toInt64).toInt 0 1 := q22
        have g24 : zs_in (x2).toInt 0 1 := (zs_64r g23)
        refine zs_gd (zs_b01 zlI_1 (by decide)) ?_
        exact zs_some ⟨(zs_w zlI_1 (by decide)), Or.inr ⟨g16, g24⟩⟩
-- BX9_takesBy_73
theorem zc_1532 {σ0 : sn_S} {σ : sn_S} (h_σ : zs_M σ0 σ) {x1 : Int32} (h_x1 : zs_in x1.toInt 0 5) {x2 : Int32} (h_x2 : zs_in x2.toInt 0 5) {x3 : Int32} (h_x3 : zs_in x3.toInt 0 297) {x4 : Int32} (h_x4 : zs_in x4.toInt 0 5) {x5 : Int32} (h_x5 : zs_in x5.toInt 0 5) {c : Int} (hc : x5.toInt = c + 0) : zs_ok (BX9_takesBy_73 σ x1 x2 x3 x4 x5) (fun r => zs_sum (fun v => ((zs_M σ0 v.1 ∧ (zs_in (v.2.1).toInt 0 5 ∧ zs_in (v.2.2).toInt 1 6))) ∧ v.2.2.toInt = c + 1) (fun v => False) r) := by
  unfold BX9_takesBy_73
  refine zs_lt (Q := fun z => zs_in z.toInt 1 6 ∧ z.toInt = c + 1) ⟨(zs_addI 1 6 h_x5 zlI_1 (by decide)), (zs_syI 1 hc h_x5 zlI_1 (by decide) (by decide))⟩ (fun y_1 hy_1 => ?_)
  exact zs_some (zs_inl ⟨⟨h_σ, ⟨h_x4, hy_1.1⟩⟩, hy_1.2⟩)
-- BX9_takesBy_73
theorem zc_1533 {σ0 : sn_S} {σ : sn_S} (h_σ : zs_M σ0 σ) {x1 : Int32} (h_x1 : zs_in x1.toInt 0 5) {x2 : Int32} (h_x2 : zs_in x2.toInt 0 5) {x3 : Int32} (h_x3 : zs_in x3.toInt 0 297) {x4 : Int32} (h_x4 : zs_in x4.toInt (-1) 5) {x5 : Int32} (h_x5 : zs_in x5.toInt 0 5) {c : Int} (hc : x5.toInt = c + 0) : zs_ok (BX9_takesBy_73 σ x1 x2 x3 x4 x5) (fun r => zs_sum (fun v => ((zs_M σ0 v.1 ∧ (zs_in (v.2.1).toInt (-1) 5 ∧ zs_in (v.2.2).toInt 1 6))) ∧ v.2.2.toInt = c + 1) (fun v => False) r) := by
  unfold BX9_takesBy_73
  refine zs_lt (Q := fun z => zs_in z.toInt 1 6 ∧ z.toInt = c + 1) ⟨(zs_addI 1 6 h_x5 zlI_1 (by decide)), (zs_syI 1 hc h_x5 zlI_1 (by decide) (by decide))⟩ (fun y_1 hy_1 => ?_)
  exact zs_some (zs_inl ⟨⟨h_σ, ⟨h_x4, hy_1.1⟩⟩, hy_1.2⟩)
-- BX9_takesBy_48
theorem zc_1534 {σ0 : sn_S} {σ : sn_S} (h_σ : zs_M σ0 σ) {x1 : Int32} (h_x1 : zs_in x1.toInt 0 5) {x2 : Int32} (h_x2 : zs_in x2.toInt 0 5) {x3 : Int32} (h_x3 : zs_in x3.toInt 0 297) {x4 : Int32} (h_x4 : zs_in x4.toInt (-1) 5) {x5 : Int32} (h_x5 : zs_in x5.toInt 0 5) {t0 : Int32} {t1 : Int32} (h_t1 : zs_in t1.toInt 0 297) {c : Int} (hc : x5.toInt = c + 0) : zs_ok (BX9_takesBy_48 σ x1 x2 x3 x4 x5 t0 t1) (fun r => zs_sum (fun v => ((zs_M σ0 v.1 ∧ (zs_in (v.2.1).toInt (-1) 5 ∧ zs_in (v.2.2).toInt 1 6))) ∧ v.2.2.toInt = c + 1) (fun v => False) r) := by
  unfold BX9_takesBy_48
  refine zs_lt (Q := fun z => True) trivial (fun y_1 hy_1 => ?_)
  refine zs_ite (fun c1 => ?_) (fun c1 => ?_)
  · skip
    have r2 := (zs_I_lt c1)
    have g3 : zs_in ((sn_I σ 0 31)).toInt (-2147483648) 2147483646 := (zs_ltl (-2147483648) 2147483646 r2 (zs_topI _) (zs_topI _) (by decide))
    have g4 : zs_in (y_1).toInt (-2147483647) 2147483647 := (zs_ltr (-2147483647) 2147483647 r2 (zs_topI _) (zs_topI _) (by decide))
    refine zs_lt (Q := fun z => zs_M σ0 z) (zs_wrkt h_σ rfl rfl) (fun σ_4 hσ_4 => ?_)
    obtain ⟨ret, er, hr⟩ := zc_1532 hσ_4 h_x1 h_x2 h_x3 h_x5 h_x5 hc
    refine ⟨ret, er, ?_⟩
    exact (zs_sumw hr (fun v w => ⟨⟨w.1.1, ⟨(zs_w w.1.2.1 (by decide)), w.1.2.2⟩⟩, w.2⟩) (fun v w => w.elim))
  · skip
    have r5 := (zs_I_ltn c1)
    obtain ⟨ret, er, hr⟩ := zc_1533 h_σ h_x1 h_x2 h_x3 h_x4 h_x5 hc
    refine ⟨ret, er, ?_⟩
    exact (zs_sumw hr (fun v w => ⟨w.1, w.2⟩) (fun v w => w.elim))
-- BX9_takesBy_48
theorem zc_1535 {σ0 : sn_S} {σ : sn_S} (h_σ : zs_M σ0 σ) {x1 : Int32} (h_x1 : zs_in x1.toInt 0 5) {x2 : Int32} (h_x2 : zs_in x2.toInt 0 5) {x3 : Int32} (h_x3 : zs_in x3.toInt 0 297) {x4 : Int32} (h_x4 : zs_in x4.toInt (-1) 5) {x5 : Int32} (h_x5 : zs_in x5.toInt 0 5) {t0 : Int32} {t1 : Int32} (h_t1 : zs_in t1.toInt 0 99) {c : Int} (hc : x5.toInt = c + 0) : zs_ok (BX9_takesBy_48 σ x1 x2 x3 x4 x5 t0 t1) (fun r => zs_sum (fun v => ((zs_M σ0 v.1 ∧ (zs_in (v.2.1).toInt (-1) 5 ∧ zs_in (v.2.2).toInt 1 6))) ∧ v.2.2.toInt = c + 1) (fun v => False) r) := by
  unfold BX9_takesBy_48
  refine zs_lt (Q := fun z => True) trivial (fun y_1 hy_1 => ?_)
  refine zs_ite (fun c1 => ?_) (fun c1 => ?_)
  · skip
    have r2 := (zs_I_lt c1)
    have g3 : zs_in ((sn_I σ 0 31)).toInt (-2147483648) 2147483646 := (zs_ltl (-2147483648) 2147483646 r2 (zs_topI _) (zs_topI _) (by decide))
    have g4 : zs_in (y_1).toInt (-2147483647) 2147483647 := (zs_ltr (-2147483647) 2147483647 r2 (zs_topI _) (zs_topI _) (by decide))
    refine zs_lt (Q := fun z => zs_M σ0 z) (zs_wrkt h_σ rfl rfl) (fun σ_4 hσ_4 => ?_)
    obtain ⟨ret, er, hr⟩ := zc_1532 hσ_4 h_x1 h_x2 h_x3 h_x5 h_x5 hc
    refine ⟨ret, er, ?_⟩
    exact (zs_sumw hr (fun v w => ⟨⟨w.1.1, ⟨(zs_w w.1.2.1 (by decide)), w.1.2.2⟩⟩, w.2⟩) (fun v w => w.elim))
  · skip
    have r5 := (zs_I_ltn c1)
    obtain ⟨ret, er, hr⟩ := zc_1533 h_σ h_x1 h_x2 h_x3 h_x4 h_x5 hc
    refine ⟨ret, er, ?_⟩
    exact (zs_sumw hr (fun v w => ⟨w.1, w.2⟩) (fun v w => w.elim))
-- BX9_takesBy_11
theorem zc_1536 {σ0 : sn_S} {σ : sn_S} (h_σ : zs_M σ0 σ) {x1 : Int32} (h_x1 : zs_in x1.toInt 0 5) {x2 : Int32} (h_x2 : zs_in x2.toInt 0 5) {x3 : Int32} (h_x3 : zs_in x3.toInt 0 297) {x4 : Int32} (h_x4 : zs_in x4.toInt (-1) 5) {x5 : Int32} (h_x5 : zs_in x5.toInt 0 6) {c : Int} (hc : x5.toInt = c + 0) : zs_ok (BX9_takesBy_11 σ x1 x2 x3 x4 x5) (fun r => zs_sum (fun v => ((zs_M σ0 v.1 ∧ (zs_in (v.2.1).toInt (-1) 5 ∧ zs_in (v.2.2).toInt 1 6))) ∧ v.2.2.toInt = c + 1) (fun v => (zs_M σ0 v.1 ∧ zs_in (v.2).toInt (-1) 5)) r) := by
  unfold BX9_takesBy_11
  refine zs_gd (zs_gin zlI_8 (by decide)) ?_
  refine zs_ite (fun c1 => ?_) (fun c1 => ?_)
  · skip
    have r2 := (zs_I_le c1)
    exact zs_some (zs_inr (⟨h_σ, h_x4⟩))
  · skip
    have r3 := (zs_I_len c1)
    have g4 : zs_in (x5).toInt 0 5 := (zs_ltl 0 5 r3 h_x5 (zs_rdk (q := 1) (k := (8 : Int32).toNatClampNeg) (z := (0, 6)) h_σ.1 rfl) (by decide))
    have g5 : zs_in ((sn_I σ 1 (8 : Int32).toNatClampNeg)).toInt 1 6 := (zs_ltr 1 6 r3 h_x5 (zs_rdk (q := 1) (k := (8 : Int32).toNatClampNeg) (z := (0, 6)) h_σ.1 rfl) (by decide))
    refine zs_bd_ (zc_261 h_σ g4 h_x1 zlI_0) (fun t_3 pt_3 => ?_)
    refine zs_ite (fun c6 => ?_) (fun c6 => ?_)
    · skip
      have r7 := (zs_I_eq c6)
      obtain ⟨ret, er, hr⟩ := zc_1534 pt_3.2 h_x1 h_x2 h_x3 h_x4 g4 h_x3 hc
      refine ⟨ret, er, ?_⟩
      exact (zs_sumw hr (fun v w => ⟨w.1, w.2⟩) (fun v w => w.elim))
    · skip
      have r8 := (zs_I_eqn c6)
      refine zs_bd_ (zc_240 pt_3.2 g4 zlI_4) (fun t_6 pt_6 => ?_)
      obtain ⟨ret, er, hr⟩ := zc_1535 pt_3.2 h_x1 h_x2 h_x3 h_x4 g4 pt_6 hc
      refine ⟨ret, er, ?_⟩
      exact (zs_sumw hr (fun v w => ⟨w.1, w.2⟩) (fun v w => w.elim))
theorem zd_301 {σ0 : sn_S} {x1 : Int32} (h_x1 : zs_in x1.toInt 0 5) {x2 : Int32} (h_x2 : zs_in x2.toInt 0 5) {x3 : Int32} (h_x3 : zs_in x3.toInt 0 297) {s0 : (sn_S × (Int32 × Int32))} (h0 : (zs_M σ0 s0.1 ∧ (zs_in (s0.2.1).toInt (-1) 5 ∧ zs_in (s0.2.2).toInt 0 6))) : zs_ok (sn_it (LX9_takesBy_11 x1 x2 x3) 5000 s0) (fun t => (zs_M σ0 t.1 ∧ zs_in (t.2).toInt (-1) 5)) := by
  refine zs_it (I := fun s => (zs_M σ0 s.1 ∧ (zs_in (s.2.1).toInt (-1) 5 ∧ zs_in (s.2.2).toInt 0 6))) (m := fun s => 6 - s.2.2.toInt) (fun s hs => ?_) (fun s hs => ?_) (by exact h0)
  · have h1 := hs.2.2; unfold zs_in at h1
    omega
  · obtain ⟨b, eb, hb⟩ := zc_1536 hs.1 h_x1 h_x2 h_x3 hs.2.1 hs.2.2 (c := s.2.2.toInt) (Int.add_zero _).symm
    exact ⟨b, eb, zs_sumw hb (fun v w => ⟨⟨w.1.1, ⟨w.1.2.1, (zs_w w.1.2.2 (by decide))⟩⟩, by have := w.2; omega⟩) (fun v w => w)⟩
-- fX9_takesBy
theorem zc_1537 {σ0 : sn_S} {σ : sn_S} (h_σ : zs_M σ0 σ) {x1 : Int32} (h_x1 : zs_in x1.toInt 0 5) {x2 : Int32} (h_x2 : zs_in x2.toInt 0 5) {x3 : Int32} (h_x3 : zs_in x3.toInt 0 297) : zs_ok (fX9_takesBy σ x1 x2 x3) (fun r => (zs_in (r.1).toInt (-1) 5 ∧ zs_M σ0 r.2)) := by
  unfold fX9_takesBy
  refine zs_lt (Q := fun z => zs_M σ0 z) (zs_wrkt h_σ rfl rfl) (fun σ_1 hσ_1 => ?_)
  refine zs_bd_ (zd_301 h_x1 h_x2 h_x3 (s0 := (σ_1, ((-1 : Int32), (0 : Int32)))) ⟨hσ_1, ⟨(zs_w zlI_m1 (by decide)), (zs_w zlI_0 (by decide))⟩⟩) (fun t_3 pt_3 => ?_)
  obtain ⟨ret, er, hr⟩ := zc_476 pt_3.1 pt_3.2
  refine ⟨ret, er, ?_⟩
  exact hr
-- BX9_isTaken_2
theorem zc_1538 {σ0 : sn_S} {σ : sn_S} (h_σ : zs_M σ0 σ) {x1 : Int32} (h_x1 : zs_in x1.toInt 0 5) {x2 : Int32} (h_x2 : zs_in x2.toInt 0 297) {x3 : Int32} (h_x3 : zs_in x3.toInt 0 6) {c : Int} (hc : x3.toInt = c + 0) : zs_ok (BX9_isTaken_2 σ x1 x2 x3) (fun r => zs_sum (fun v => ((zs_M σ0 v.1 ∧ zs_in (v.2).toInt 1 6)) ∧ v.2.toInt = c + 1) (fun v => zs_sum (fun v => zs_M σ0 v) (fun v => (zs_in (v.1).toInt 1 1 ∧ zs_M σ0 v.2)) v) r) := by
  unfold BX9_isTaken_2
  refine zs_gd (zs_gin zlI_5 (by decide)) ?_
  refine zs_ite (fun c1 => ?_) (fun c1 => ?_)
  · skip
    have r2 := (zs_I_le c1)
    exact zs_some (zs_inr ((zs_inl (h_σ))))
  · skip
    have r3 := (zs_I_len c1)
    have g4 : zs_in (x3).toInt 0 5 := (zs_ltl 0 5 r3 h_x3 (zs_rdk (q := 1) (k := (5 : Int32).toNatClampNeg) (z := (0, 6)) h_σ.1 rfl) (by decide))
    have g5 : zs_in ((sn_I σ 1 (5 : Int32).toNatClampNeg)).toInt 1 6 := (zs_ltr 1 6 r3 h_x3 (zs_rdk (q := 1) (k := (5 : Int32).toNatClampNeg) (z := (0, 6)) h_σ.1 rfl) (by decide))
    refine zs_bd_ (zc_1537 h_σ g4 h_x1 h_x2) (fun t_3 pt_3 => ?_)
    refine zs_ite (fun c6 => ?_) (fun c6 => ?_)
    · skip
      have r7 := (zs_I_eq c6)
      have g8 : zs_in (t_3.1).toInt 0 5 := (zs_eql 0 5 r7 pt_3.1 h_x1 (by decide))
      refine zs_gd (zs_b01 zlI_1 (by decide)) ?_
      exact zs_some (zs_inr ((zs_inr (⟨zlI_1, pt_3.2⟩))))
    · skip
      have r9 := (zs_I_eqn c6)
      refine zs_lt (Q := fun z => zs_in z.toInt 1 6 ∧ z.toInt = c + 1) ⟨(zs_addI 1 6 g4 zlI_1 (by decide)), (zs_syI 1 hc g4 zlI_1 (by decide) (by decide))⟩ (fun y_6 hy_6 => ?_)
      exact zs_some (zs_inl ⟨⟨pt_3.2, hy_6.1⟩, hy_6.2⟩)
theorem zd_302 {σ0 : sn_S} {x1 : Int32} (h_x1 : zs_in x1.toInt 0 5) {x2 : Int32} (h_x2 : zs_in x2.toInt 0 297) {s0 : (sn_S × Int32)} (h0 : (zs_M σ0 s0.1 ∧ zs_in (s0.2).toInt 0 6)) : zs_ok (sn_it (LX9_isTaken_2 x1 x2) 5000 s0) (fun t => zs_sum (fun v => zs_M σ0 v) (fun v => (zs_in (v.1).toInt 1 1 ∧ zs_M σ0 v.2)) t) := by
  refine zs_it (I := fun s => (zs_M σ0 s.1 ∧ zs_in (s.2).toInt 0 6)) (m := fun s => 6 - s.2.toInt) (fun s hs => ?_) (fun s hs => ?_) (by exact h0)
  · have h1 := hs.2; unfold zs_in at h1
    omega
  · obtain ⟨b, eb, hb⟩ := zc_1538 hs.1 h_x1 h_x2 hs.2 (c := s.2.toInt) (Int.add_zero _).symm
    exact ⟨b, eb, zs_sumw hb (fun v w => ⟨⟨w.1.1, (zs_w w.1.2 (by decide))⟩, by have := w.2; omega⟩) (fun v w => w)⟩
-- BX9_isTaken_31
theorem zc_1539 {σ0 : sn_S} {σ : sn_S} (h_σ : zs_M σ0 σ) : zs_ok (BX9_isTaken_31 σ) (fun r => (zs_in (r.1).toInt 0 0 ∧ zs_M σ0 r.2)) := by
  unfold BX9_isTaken_31
  refine zs_gd (zs_b01 zlI_0 (by decide)) ?_
  exact zs_some ⟨zlI_0, h_σ⟩
-- fX9_isTaken
theorem zc_1540 {σ0 : sn_S} {σ : sn_S} (h_σ : zs_M σ0 σ) {x1 : Int32} (h_x1 : zs_in x1.toInt 0 5) {x2 : Int32} (h_x2 : zs_in x2.toInt 0 297) : zs_ok (fX9_isTaken σ x1 x2) (fun r => (zs_in (r.1).toInt 0 1 ∧ zs_M σ0 r.2)) := by
  unfold fX9_isTaken
  refine zs_bd_ (zd_302 h_x1 h_x2 (s0 := (σ, (0 : Int32))) ⟨h_σ, (zs_w zlI_0 (by decide))⟩) (fun t_1 pt_1 => ?_)
  refine zs_elim pt_1 (fun v_3 pv_3 => ?_) (fun r_4 pr_4 => ?_)
  · skip
    obtain ⟨ret, er, hr⟩ := zc_1539 pv_3
    refine ⟨ret, er, ?_⟩
    exact ⟨(zs_w hr.1 (by decide)), hr.2⟩
  · skip
    exact zs_some ⟨(zs_w pr_4.1 (by decide)), pr_4.2⟩
-- fX9_in
theorem zc_1541 {x0 : Int64} {x2 : Int64} (h_x2 : zs_in x2.toInt 0 0) {x4 : Int64} (h_x4 : zs_in x4.toInt (-1) 5) : zs_ok (fX9_in x0 x2 x4) (fun r => (zs_in (r).toInt 0 1) ∧ ((r).toInt = 0 ∨ (zs_in (x0).toInt 0 5 ∧ zs_in (x4).toInt 0 5))) := by
  unfold fX9_in
  refine zs_ite (fun c1 => ?_) (fun c1 => ?_)
  · skip
    have r2 := (zs_lg_lt c1)
    have g3 : zs_in (x0).toInt (-9223372036854775808) (-1) := (zs_ltl (-9223372036854775808) (-1) r2 (zs_topL _) h_x2 (by decide))
    refine zs_gd (zs_b01 zlI_0 (by decide)) ?_
    exact zs_some ⟨(zs_w zlI_0 (by decide)), Or.inl (zs_ptr zlI_0)⟩
  · skip
    have r4 := (zs_lg_ltn c1)
    have g5 : zs_in (x0).toInt 0 9223372036854775807 := (zs_ler 0 9223372036854775807 r4 h_x2 (zs_topL _) (by decide))
    refine zs_ite (fun c6 => ?_) (fun c6 => ?_)
    · skip
      have r7 := (zs_lg_ltf c6)
      refine zs_gd (zs_b01 zlI_0 (by decide)) ?_
      exact zs_some ⟨(zs_w zlI_0 (by decide)), Or.inl (zs_ptr zlI_0)⟩
    · skip
      have r8 := (zs_lg_ltfn c6)
      have g9 : zs_in (x0).toInt 0 5 := (zs_lel 0 5 r8 g5 h_x4 (by decide))
      have g10 : zs_in (x4).toInt 0 5 := (zs_ler 0 5 r8 g5 h_x4 (by decide))
      refine zs_gd (zs_b01 zlI_1 (by decide)) ?_
      exact zs_some ⟨(zs_w zlI_1 (by decide)), Or.inr ⟨g9, g10⟩⟩
-- fX9_isPerson
theorem zc_1542 {σ0 : sn_S} {σ : sn_S} (h_σ : zs_M σ0 σ) {x1 : Int64} : zs_ok (fX9_isPerson σ x1) (fun r => (zs_in (r).toInt 0 1) ∧ ((r).toInt = 0 ∨ (zs_in (x1).toInt 0 5))) := by
  unfold fX9_isPerson
  refine zs_gd (zs_gin zlI_5 (by decide)) ?_
  refine zs_bd_ (zc_1541 zlL_0 (zs_64 (zs_subI (-1) 5 (zs_rdk (q := 1) (k := (5 : Int32).toNatClampNeg) (z := (0, 6)) h_σ.1 rfl) zlI_1 (by decide)))) (fun t_2 pt_2 => ?_)
  refine zs_gd (zs_b01 pt_2.1 (by decide)) ?_
  rcases pt_2.2 with z0 | z0
  · skip
    have g1 : zs_in (t_2).toInt 0 0 := (zs_pt z0)
    exact zs_some ⟨(zs_w g1 (by decide)), Or.inl (zs_ptr g1)⟩
  · skip
    have q2 := z0
    have g3 : zs_in (x1).toInt 0 5 := q2.1
    have g4 : zs_in (((sn_I σ 1 (5 : Int32).toNatClampNeg) - (1 : Int32)).toInt64).toInt 0 5 := q2.2
    have g5 : zs_in (((sn_I σ 1 (5 : Int32).toNatClampNeg) - (1 : Int32))).toInt 0 5 := (zs_64r g4)
    have g6 : zs_in ((sn_I σ 1 (5 : Int32).toNatClampNeg)).toInt 1 6 := (zs_sublI 1 6 (zs_rdk (q := 1) (k := (5 : Int32).toNatClampNeg) (z := (0, 6)) h_σ.1 rfl) zlI_1 g5 (by decide))
    exact zs_some ⟨pt_2.1, Or.inr g3⟩
-- fX9_in
theorem zc_1543 {x0 : Int64} {x2 : Int64} (h_x2 : zs_in x2.toInt 0 0) {x4 : Int64} (h_x4 : zs_in x4.toInt (-1) 29) : zs_ok (fX9_in x0 x2 x4) (fun r => (zs_in (r).toInt 0 1) ∧ ((r).toInt = 0 ∨ (zs_in (x0).toInt 0 29 ∧ zs_in (x4).toInt 0 29))) := by
  unfold fX9_in
  refine zs_ite (fun c1 => ?_) (fun c1 => ?_)
  · skip
    have r2 := (zs_lg_lt c1)
    have g3 : zs_in (x0).toInt (-9223372036854775808) (-1) := (zs_ltl (-9223372036854775808) (-1) r2 (zs_topL _) h_x2 (by decide))
    refine zs_gd (zs_b01 zlI_0 (by decide)) ?_
    exact zs_some ⟨(zs_w zlI_0 (by decide)), Or.inl (zs_ptr zlI_0)⟩
  · skip
    have r4 := (zs_lg_ltn c1)
    have g5 : zs_in (x0).toInt 0 9223372036854775807 := (zs_ler 0 9223372036854775807 r4 h_x2 (zs_topL _) (by decide))
    refine zs_ite (fun c6 => ?_) (fun c6 => ?_)
    · skip
      have r7 := (zs_lg_ltf c6)
      refine zs_gd (zs_b01 zlI_0 (by decide)) ?_
      exact zs_some ⟨(zs_w zlI_0 (by decide)), Or.inl (zs_ptr zlI_0)⟩
    · skip
      have r8 := (zs_lg_ltfn c6)
      have g9 : zs_in (x0).toInt 0 29 := (zs_lel 0 29 r8 g5 h_x4 (by decide))
      have g10 : zs_in (x4).toInt 0 29 := (zs_ler 0 29 r8 g5 h_x4 (by decide))
      refine zs_gd (zs_b01 zlI_1 (by decide)) ?_
      exact zs_some ⟨(zs_w zlI_1 (by decide)), Or.inr ⟨g9, g10⟩⟩
-- fX9_isMinute
theorem zc_1544 {σ0 : sn_S} {σ : sn_S} (h_σ : zs_M σ0 σ) {x1 : Int64} : zs_ok (fX9_isMinute σ x1) (fun r => (zs_in (r).toInt 0 1) ∧ ((r).toInt = 0 ∨ (zs_in (x1).toInt 0 29))) := by
  unfold fX9_isMinute
  refine zs_gd (zs_gin zlI_0 (by decide)) ?_
  refine zs_bd_ (zc_1543 zlL_0 (zs_64 (zs_subI (-1) 29 (zs_rdk (q := 1) (k := (0 : Int32).toNatClampNeg) (z := (0, 30)) h_σ.1 rfl) zlI_1 (by decide)))) (fun t_2 pt_2 => ?_)
  refine zs_gd (zs_b01 pt_2.1 (by decide)) ?_
  rcases pt_2.2 with z0 | z0
  · skip
    have g1 : zs_in (t_2).toInt 0 0 := (zs_pt z0)
    exact zs_some ⟨(zs_w g1 (by decide)), Or.inl (zs_ptr g1)⟩
  · skip
    have q2 := z0
    have g3 : zs_in (x1).toInt 0 29 := q2.1
    have g4 : zs_in (((sn_I σ 1 (0 : Int32).toNatClampNeg) - (1 : Int32)).toInt64).toInt 0 29 := q2.2
    have g5 : zs_in (((sn_I σ 1 (0 : Int32).toNatClampNeg) - (1 : Int32))).toInt 0 29 := (zs_64r g4)
    have g6 : zs_in ((sn_I σ 1 (0 : Int32).toNatClampNeg)).toInt 1 30 := (zs_sublI 1 30 (zs_rdk (q := 1) (k := (0 : Int32).toNatClampNeg) (z := (0, 30)) h_σ.1 rfl) zlI_1 g5 (by decide))
    exact zs_some ⟨pt_2.1, Or.inr g3⟩
-- BX9_layPaid_2
theorem zb_1 {σ0 : sn_S} {σ : sn_S} (h_σ : zs_N σ0 σ) {x1 : Int32} (h_x1 : zs_in x1.toInt 0 30) {c : Int} (hc : x1.toInt = c + 0) : zs_ok (BX9_layPaid_2 σ x1) (fun r => zs_sum (fun v => ((zs_N σ0 v.1 ∧ zs_in (v.2).toInt 1 30)) ∧ v.2.toInt = c + 1) (fun v => zs_N σ0 v) r) := by
  unfold BX9_layPaid_2
  refine zs_ite (fun c1 => ?_) (fun c1 => ?_)
  · skip
    have r2 := (zs_I_le c1)
    have g3 : zs_in (x1).toInt 30 30 := (zs_ler 30 30 r2 zlI_30 h_x1 (by decide))
    exact zs_some (zs_inr (h_σ))
  · skip
    have r4 := (zs_I_len c1)
    have g5 : zs_in (x1).toInt 0 29 := (zs_ltl 0 29 r4 h_x1 zlI_30 (by decide))
    refine zs_gd (zs_gin g5 (by decide)) ?_
    refine zs_lt (Q := fun z => zs_N σ0 z) (zs_wrt h_σ (fun _ => rfl) (fun _ => rfl)) (fun σ_3 hσ_3 => ?_)
    refine zs_lt (Q := fun z => zs_in z.toInt 1 30 ∧ z.toInt = c + 1) ⟨(zs_addI 1 30 g5 zlI_1 (by decide)), (zs_syI 1 hc g5 zlI_1 (by decide) (by decide))⟩ (fun y_5 hy_5 => ?_)
    exact zs_some (zs_inl ⟨⟨hσ_3, hy_5.1⟩, hy_5.2⟩)
theorem ze_1 {σ0 : sn_S}  {s0 : (sn_S × Int32)} (h0 : (zs_N σ0 s0.1 ∧ zs_in (s0.2).toInt 0 30)) : zs_ok (sn_it (LX9_layPaid_2) 5000 s0) (fun t => zs_N σ0 t) := by
  refine zs_it (I := fun s => (zs_N σ0 s.1 ∧ zs_in (s.2).toInt 0 30)) (m := fun s => 30 - s.2.toInt) (fun s hs => ?_) (fun s hs => ?_) (by exact h0)
  · have h1 := hs.2; unfold zs_in at h1
    omega
  · obtain ⟨b, eb, hb⟩ := zb_1 hs.1 hs.2 (c := s.2.toInt) (Int.add_zero _).symm
    exact ⟨b, eb, zs_sumw hb (fun v w => ⟨⟨w.1.1, (zs_w w.1.2 (by decide))⟩, by have := w.2; omega⟩) (fun v w => w)⟩
-- fX9_of
theorem zb_2 {σ0 : sn_S} {σ : sn_S} (h_σ : zs_N σ0 σ) {x1 : Int32} (h_x1 : zs_in x1.toInt 0 5) {x2 : Int32} (h_x2 : zs_in x2.toInt 0 0) : zs_ok (fX9_of σ x1 x2) (fun r => zs_in (r).toInt 0 5) := by
  unfold fX9_of
  obtain rfl : x2 = (0 : Int32) := zs_eqv h_x2 (by decide)
  refine zs_gd (zs_gin (zs_addI 49 74 (zs_addI 49 74 zlI_49 (zs_mulI 0 25 zlI_5 h_x1 (by decide)) (by decide)) h_x2 (by decide)) (by decide)) ?_
  exact zs_some (zs_rdb (q := 1) (lo := 0) (hi := 5) h_σ.1 (zs_cases h_x1 (fun z => zs_bd (zs_tM 1 (((49 : Int32) + ((5 : Int32) * z)) + (0 : Int32)).toNatClampNeg) 0 5) (by decide +kernel)))
-- fX9_of
theorem zb_3 {σ0 : sn_S} {σ : sn_S} (h_σ : zs_N σ0 σ) {x1 : Int32} (h_x1 : zs_in x1.toInt 0 5) {x2 : Int32} (h_x2 : zs_in x2.toInt 1 1) : zs_ok (fX9_of σ x1 x2) (fun r => zs_in (r).toInt 0 29) := by
  unfold fX9_of
  obtain rfl : x2 = (1 : Int32) := zs_eqv h_x2 (by decide)
  refine zs_gd (zs_gin (zs_addI 50 75 (zs_addI 49 74 zlI_49 (zs_mulI 0 25 zlI_5 h_x1 (by decide)) (by decide)) h_x2 (by decide)) (by decide)) ?_
  exact zs_some (zs_rdb (q := 1) (lo := 0) (hi := 29) h_σ.1 (zs_cases h_x1 (fun z => zs_bd (zs_tM 1 (((49 : Int32) + ((5 : Int32) * z)) + (1 : Int32)).toNatClampNeg) 0 29) (by decide +kernel)))
-- fX9_of
theorem zb_4 {σ0 : sn_S} {σ : sn_S} (h_σ : zs_N σ0 σ) {x1 : Int32} (h_x1 : zs_in x1.toInt 0 5) {x2 : Int32} (h_x2 : zs_in x2.toInt 2 2) : zs_ok (fX9_of σ x1 x2) (fun r => zs_in (r).toInt 0 29) := by
  unfold fX9_of
  obtain rfl : x2 = (2 : Int32) := zs_eqv h_x2 (by decide)
  refine zs_gd (zs_gin (zs_addI 51 76 (zs_addI 49 74 zlI_49 (zs_mulI 0 25 zlI_5 h_x1 (by decide)) (by decide)) h_x2 (by decide)) (by decide)) ?_
  exact zs_some (zs_rdb (q := 1) (lo := 0) (hi := 29) h_σ.1 (zs_cases h_x1 (fun z => zs_bd (zs_tM 1 (((49 : Int32) + ((5 : Int32) * z)) + (2 : Int32)).toNatClampNeg) 0 29) (by decide +kernel)))
-- BX9_windowOf_9
theorem zb_5 {σ0 : sn_S} {σ : sn_S} (h_σ : zs_N σ0 σ) {x1 : Int32} (h_x1 : zs_in x1.toInt 0 5) {x2 : Int32} (h_x2 : zs_in x2.toInt 0 1073741823) {x3 : Int32} (h_x3 : zs_in x3.toInt 0 30) {c : Int} (hc : x3.toInt = c + 0) : zs_ok (BX9_windowOf_9 σ x1 x2 x3) (fun r => zs_sum (fun v => ((zs_in (v.1).toInt 0 1073741823 ∧ zs_in (v.2).toInt 1 30)) ∧ v.2.toInt = c + 1) (fun v => zs_in (v).toInt 0 1073741823) r) := by
  unfold BX9_windowOf_9
  refine zs_bd_ (zb_4 h_σ h_x1 zlI_2) (fun t_1 pt_1 => ?_)
  refine zs_ite (fun c1 => ?_) (fun c1 => ?_)
  · skip
    have r2 := (zs_I_lt c1)
    have g3 : zs_in (x3).toInt 1 30 := (zs_ltr 1 30 r2 pt_1 h_x3 (by decide))
    exact zs_some (zs_inr (h_x2))
  · skip
    have r4 := (zs_I_ltn c1)
    have g5 : zs_in (x3).toInt 0 29 := (zs_lel 0 29 r4 h_x3 pt_1 (by decide))
    refine zs_ite (fun c6 => ?_) (fun c6 => ?_)
    · skip
      have r7 := (zs_I_lt c6)
      have g8 : zs_in ((sn_I σ 0 22)).toInt (-1) 28 := (zs_ltl (-1) 28 r7 (zs_rdk (q := 0) (k := 22) (z := ((-1), 29)) h_σ.1 rfl) g5 (by decide))
      exact zs_some (zs_inr (h_x2))
    · skip
      have r9 := (zs_I_ltn c6)
      have g10 : zs_in ((sn_I σ 0 22)).toInt 0 29 := (zs_ler 0 29 r9 g5 (zs_rdk (q := 0) (k := 22) (z := ((-1), 29)) h_σ.1 rfl) (by decide))
      refine zs_lt (Q := fun z => zs_in z.toInt 0 1073741823) (zs_or 30 1073741823 h_x2 (zs_cases g5 (fun z => zs_in ((1 : Int32) <<< (z &&& 31)).toInt 1 536870912) (by decide +kernel)) (by decide)) (fun y_5 hy_5 => ?_)
      refine zs_lt (Q := fun z => zs_in z.toInt 1 30 ∧ z.toInt = c + 1) ⟨(zs_addI 1 30 g5 zlI_1 (by decide)), (zs_syI 1 hc g5 zlI_1 (by decide) (by decide))⟩ (fun y_7 hy_7 => ?_)
      exact zs_some (zs_inl ⟨⟨hy_5, hy_7.1⟩, hy_7.2⟩)
theorem ze_2 {σ0 : sn_S} {σ : sn_S} (h_σ : zs_N σ0 σ) {x1 : Int32} (h_x1 : zs_in x1.toInt 0 5) {s0 : (Int32 × Int32)} (h0 : (zs_in (s0.1).toInt 0 1073741823 ∧ zs_in (s0.2).toInt 0 30)) : zs_ok (sn_it (LX9_windowOf_9 σ x1) 5000 s0) (fun t => zs_in (t).toInt 0 1073741823) := by
  refine zs_it (I := fun s => (zs_in (s.1).toInt 0 1073741823 ∧ zs_in (s.2).toInt 0 30)) (m := fun s => 30 - s.2.toInt) (fun s hs => ?_) (fun s hs => ?_) (by exact h0)
  · have h1 := hs.2; unfold zs_in at h1
    omega
  · obtain ⟨b, eb, hb⟩ := zb_5 h_σ h_x1 hs.1 hs.2 (c := s.2.toInt) (Int.add_zero _).symm
    exact ⟨b, eb, zs_sumw hb (fun v w => ⟨⟨w.1.1, (zs_w w.1.2 (by decide))⟩, by have := w.2; omega⟩) (fun v w => w)⟩
-- BX9_windowOf_39
theorem zb_6 {σ0 : sn_S} {σ : sn_S} (h_σ : zs_N σ0 σ) {x2 : Int32} (h_x2 : zs_in x2.toInt 0 1073741823) : zs_ok (BX9_windowOf_39 σ x2) (fun r => zs_in (r).toInt 0 1073741823) := by
  unfold BX9_windowOf_39
  exact zs_some h_x2
-- fX9_windowOf
theorem zb_7 {σ0 : sn_S} {σ : sn_S} (h_σ : zs_N σ0 σ) {x1 : Int32} (h_x1 : zs_in x1.toInt 0 5) : zs_ok (fX9_windowOf σ x1) (fun r => zs_in (r).toInt 0 1073741823) := by
  unfold fX9_windowOf
  refine zs_bd_ (zb_3 h_σ h_x1 zlI_1) (fun t_1 pt_1 => ?_)
  refine zs_bd_ (ze_2 h_σ h_x1 (s0 := ((0 : Int32), t_1)) ⟨(zs_w zlI_0 (by decide)), (zs_w pt_1 (by decide))⟩) (fun t_3 pt_3 => ?_)
  obtain ⟨ret, er, hr⟩ := zb_6 h_σ pt_3
  refine ⟨ret, er, ?_⟩
  exact hr
-- fX9_ahead
theorem zb_8 {x1 : Int32} (h_x1 : zs_in x1.toInt 0 29) : zs_ok (fX9_ahead x1) (fun r => zs_in (r).toInt 0 536870911) := by
  unfold fX9_ahead
  exact zs_some (zs_subI 0 536870911 (zs_cases h_x1 (fun z => zs_in ((1 : Int32) <<< (z &&& 31)).toInt 1 536870912) (by decide +kernel)) zlI_1 (by decide))
-- fX9_of
theorem zb_9 {σ0 : sn_S} {σ : sn_S} (h_σ : zs_N σ0 σ) {x1 : Int32} (h_x1 : zs_in x1.toInt 0 5) {x2 : Int32} (h_x2 : zs_in x2.toInt 3 3) : zs_ok (fX9_of σ x1 x2) (fun r => zs_in (r).toInt 0 99) := by
  unfold fX9_of
  obtain rfl : x2 = (3 : Int32) := zs_eqv h_x2 (by decide)
  refine zs_gd (zs_gin (zs_addI 52 77 (zs_addI 49 74 zlI_49 (zs_mulI 0 25 zlI_5 h_x1 (by decide)) (by decide)) h_x2 (by decide)) (by decide)) ?_
  exact zs_some (zs_rdb (q := 1) (lo := 0) (hi := 99) h_σ.1 (zs_cases h_x1 (fun z => zs_bd (zs_tM 1 (((49 : Int32) + ((5 : Int32) * z)) + (3 : Int32)).toNatClampNeg) 0 99) (by decide +kernel)))
-- BX9_claimOf_177
theorem zb_10 {σ0 : sn_S} {σ : sn_S} (h_σ : zs_N σ0 σ) {x1 : Int32} (h_x1 : zs_in x1.toInt 0 5) {x2 : Int32} (h_x2 : zs_in x2.toInt 0 5) {x3 : Int32} (h_x3 : zs_in x3.toInt 1 1) {x4 : Int32} (h_x4 : zs_in x4.toInt 0 1073741823) {x5 : Int32} {x6 : Int32} (h_x6 : zs_in x6.toInt 3 3) {x7 : Int32} (h_x7 : zs_in x7.toInt 0 2) {c : Int} (hc : x7.toInt = c + 0) : zs_ok (BX9_claimOf_177 σ x1 x2 x3 x4 x5 x6 x7) (fun r => zs_sum (fun v => ((zs_N σ0 v.1 ∧ (zs_in (v.2.1).toInt 0 1073741823 ∧ (True ∧ zs_in (v.2.2.2).toInt 1 3)))) ∧ v.2.2.2.toInt = c + 1) (fun v => False) r) := by
  unfold BX9_claimOf_177
  obtain rfl : x3 = (1 : Int32) := zs_eqv h_x3 (by decide)
  obtain rfl : x6 = (3 : Int32) := zs_eqv h_x6 (by decide)
  refine zs_lt (Q := fun z => zs_in z.toInt 1 3 ∧ z.toInt = c + 1) ⟨(zs_addI 1 3 h_x7 zlI_1 (by decide)), (zs_syI 1 hc h_x7 zlI_1 (by decide) (by decide))⟩ (fun y_1 hy_1 => ?_)
  exact zs_some (zs_inl ⟨⟨h_σ, ⟨h_x4, ⟨trivial, hy_1.1⟩⟩⟩, hy_1.2⟩)
-- BX9_claimOf_152
theorem zb_11 {σ0 : sn_S} {σ : sn_S} (h_σ : zs_N σ0 σ) {x1 : Int32} (h_x1 : zs_in x1.toInt 0 5) {x2 : Int32} (h_x2 : zs_in x2.toInt 0 5) {x3 : Int32} (h_x3 : zs_in x3.toInt 1 1) {x4 : Int32} (h_x4 : zs_in x4.toInt 0 1073741823) {x5 : Int32} {x6 : Int32} (h_x6 : zs_in x6.toInt 3 3) {x7 : Int32} (h_x7 : zs_in x7.toInt 0 2) {x8 : Int32} (h_x8 : zs_in x8.toInt 0 29) {t0 : Int32} (h_t0 : zs_in t0.toInt 0 99) {c : Int} (hc : x7.toInt = c + 0) : zs_ok (BX9_claimOf_152 σ x1 x2 x3 x4 x5 x6 x7 x8 t0) (fun r => zs_sum (fun v => ((zs_N σ0 v.1 ∧ (zs_in (v.2.1).toInt 0 1073741823 ∧ (True ∧ zs_in (v.2.2.2).toInt 1 3)))) ∧ v.2.2.2.toInt = c + 1) (fun v => False) r) := by
  unfold BX9_claimOf_152
  obtain rfl : x3 = (1 : Int32) := zs_eqv h_x3 (by decide)
  obtain rfl : x6 = (3 : Int32) := zs_eqv h_x6 (by decide)
  refine zs_lt (Q := fun z => True) trivial (fun y_1 hy_1 => ?_)
  refine zs_ite (fun c1 => ?_) (fun c1 => ?_)
  · skip
    have r2 := (zs_I_eq c1)
    exact (zs_botr r2 h_x3 zlI_0 (by decide)).elim
  · skip
    have r3 := (zs_I_eqn c1)
    refine zs_gd (zs_gin h_x8 (by decide)) ?_
    refine zs_gd (zs_gin h_x8 (by decide)) ?_
    refine zs_lt (Q := fun z => zs_N σ0 z) (zs_wrt h_σ (fun _ => rfl) (fun _ => rfl)) (fun σ_6 hσ_6 => ?_)
    obtain ⟨ret, er, hr⟩ := zb_10 hσ_6 h_x1 h_x2 h_x3 h_x4 h_x6 h_x7 hc
    refine ⟨ret, er, ?_⟩
    exact (zs_sumw hr (fun v w => ⟨w.1, w.2⟩) (fun v w => w.elim))
-- BX9_claimOf_128
theorem zb_12 {σ0 : sn_S} {σ : sn_S} (h_σ : zs_N σ0 σ) {x1 : Int32} (h_x1 : zs_in x1.toInt 0 5) {x2 : Int32} (h_x2 : zs_in x2.toInt 0 5) {x3 : Int32} (h_x3 : zs_in x3.toInt 1 1) {x4 : Int32} (h_x4 : zs_in x4.toInt 0 1073741823) {x5 : Int32} {x6 : Int32} (h_x6 : zs_in x6.toInt 3 3) {x7 : Int32} (h_x7 : zs_in x7.toInt 0 2) {x8 : Int32} (h_x8 : zs_in x8.toInt 0 29) {t0 : Int32} (h_t0 : zs_in t0.toInt 0 0) {c : Int} (hc : x7.toInt = c + 0) : zs_ok (BX9_claimOf_128 σ x1 x2 x3 x4 x5 x6 x7 x8 t0) (fun r => zs_sum (fun v => ((zs_N σ0 v.1 ∧ (zs_in (v.2.1).toInt 0 1073741823 ∧ (True ∧ zs_in (v.2.2.2).toInt 1 3)))) ∧ v.2.2.2.toInt = c + 1) (fun v => False) r) := by
  unfold BX9_claimOf_128
  obtain rfl : x3 = (1 : Int32) := zs_eqv h_x3 (by decide)
  obtain rfl : x6 = (3 : Int32) := zs_eqv h_x6 (by decide)
  obtain rfl : t0 = (0 : Int32) := zs_eqv h_t0 (by decide)
  refine zs_ite (fun c1 => ?_) (fun c1 => ?_)
  · skip
    have r2 := (zs_I_eq c1)
    refine zs_bd_ (zb_9 h_σ h_x1 zlI_3) (fun t_2 pt_2 => ?_)
    obtain ⟨ret, er, hr⟩ := zb_11 h_σ h_x1 h_x2 h_x3 h_x4 h_x6 h_x7 h_x8 pt_2 hc
    refine ⟨ret, er, ?_⟩
    exact (zs_sumw hr (fun v w => ⟨w.1, w.2⟩) (fun v w => w.elim))
  · skip
    have r3 := (zs_I_eqn c1)
    exact (zs_botne r3 h_t0 zlI_0 (by decide)).elim
-- BX9_claimOf_127
theorem zb_13 {σ0 : sn_S} {σ : sn_S} (h_σ : zs_N σ0 σ) {x1 : Int32} (h_x1 : zs_in x1.toInt 0 5) {x2 : Int32} (h_x2 : zs_in x2.toInt 0 5) {x3 : Int32} (h_x3 : zs_in x3.toInt 1 1) {x4 : Int32} (h_x4 : zs_in x4.toInt 0 1073741823) {x5 : Int32} {x6 : Int32} (h_x6 : zs_in x6.toInt 3 3) {x7 : Int32} (h_x7 : zs_in x7.toInt 0 2) {x8 : Int32} (h_x8 : zs_in x8.toInt 0 29) {c : Int} (hc : x7.toInt = c + 0) : zs_ok (BX9_claimOf_127 σ x1 x2 x3 x4 x5 x6 x7 x8) (fun r => zs_sum (fun v => ((zs_N σ0 v.1 ∧ (zs_in (v.2.1).toInt 0 1073741823 ∧ (True ∧ zs_in (v.2.2.2).toInt 1 3)))) ∧ v.2.2.2.toInt = c + 1) (fun v => False) r) := by
  unfold BX9_claimOf_127
  obtain rfl : x3 = (1 : Int32) := zs_eqv h_x3 (by decide)
  obtain rfl : x6 = (3 : Int32) := zs_eqv h_x6 (by decide)
  obtain ⟨ret, er, hr⟩ := zb_12 h_σ h_x1 h_x2 h_x3 h_x4 h_x6 h_x7 h_x8 zlI_0 hc
  refine ⟨ret, er, ?_⟩
  exact (zs_sumw hr (fun v w => ⟨w.1, w.2⟩) (fun v w => w.elim))
-- BX9_claimOf_152
theorem zb_14 {σ0 : sn_S} {σ : sn_S} (h_σ : zs_N σ0 σ) {x1 : Int32} (h_x1 : zs_in x1.toInt 0 5) {x2 : Int32} (h_x2 : zs_in x2.toInt 0 5) {x3 : Int32} (h_x3 : zs_in x3.toInt 1 1) {x4 : Int32} (h_x4 : zs_in x4.toInt 0 1073741823) {x5 : Int32} {x6 : Int32} (h_x6 : zs_in x6.toInt 3 3) {x7 : Int32} (h_x7 : zs_in x7.toInt 0 2) {x8 : Int32} (h_x8 : zs_in x8.toInt 0 29) {t0 : Int32} (h_t0 : zs_in t0.toInt 0 49) {c : Int} (hc : x7.toInt = c + 0) : zs_ok (BX9_claimOf_152 σ x1 x2 x3 x4 x5 x6 x7 x8 t0) (fun r => zs_sum (fun v => ((zs_N σ0 v.1 ∧ (zs_in (v.2.1).toInt 0 1073741823 ∧ (True ∧ zs_in (v.2.2.2).toInt 1 3)))) ∧ v.2.2.2.toInt = c + 1) (fun v => False) r) := by
  unfold BX9_claimOf_152
  obtain rfl : x3 = (1 : Int32) := zs_eqv h_x3 (by decide)
  obtain rfl : x6 = (3 : Int32) := zs_eqv h_x6 (by decide)
  refine zs_lt (Q := fun z => True) trivial (fun y_1 hy_1 => ?_)
  refine zs_ite (fun c1 => ?_) (fun c1 => ?_)
  · skip
    have r2 := (zs_I_eq c1)
    exact (zs_botr r2 h_x3 zlI_0 (by decide)).elim
  · skip
    have r3 := (zs_I_eqn c1)
    refine zs_gd (zs_gin h_x8 (by decide)) ?_
    refine zs_gd (zs_gin h_x8 (by decide)) ?_
    refine zs_lt (Q := fun z => zs_N σ0 z) (zs_wrt h_σ (fun _ => rfl) (fun _ => rfl)) (fun σ_6 hσ_6 => ?_)
    obtain ⟨ret, er, hr⟩ := zb_10 hσ_6 h_x1 h_x2 h_x3 h_x4 h_x6 h_x7 hc
    refine ⟨ret, er, ?_⟩
    exact (zs_sumw hr (fun v w => ⟨w.1, w.2⟩) (fun v w => w.elim))
-- BX9_claimOf_128
theorem zb_15 {σ0 : sn_S} {σ : sn_S} (h_σ : zs_N σ0 σ) {x1 : Int32} (h_x1 : zs_in x1.toInt 0 5) {x2 : Int32} (h_x2 : zs_in x2.toInt 0 5) {x3 : Int32} (h_x3 : zs_in x3.toInt 1 1) {x4 : Int32} (h_x4 : zs_in x4.toInt 0 1073741823) {x5 : Int32} {x6 : Int32} (h_x6 : zs_in x6.toInt 3 3) {x7 : Int32} (h_x7 : zs_in x7.toInt 0 2) {x8 : Int32} (h_x8 : zs_in x8.toInt 0 29) {t0 : Int32} (h_t0 : zs_in t0.toInt 1 1) {c : Int} (hc : x7.toInt = c + 0) : zs_ok (BX9_claimOf_128 σ x1 x2 x3 x4 x5 x6 x7 x8 t0) (fun r => zs_sum (fun v => ((zs_N σ0 v.1 ∧ (zs_in (v.2.1).toInt 0 1073741823 ∧ (True ∧ zs_in (v.2.2.2).toInt 1 3)))) ∧ v.2.2.2.toInt = c + 1) (fun v => False) r) := by
  unfold BX9_claimOf_128
  obtain rfl : x3 = (1 : Int32) := zs_eqv h_x3 (by decide)
  obtain rfl : x6 = (3 : Int32) := zs_eqv h_x6 (by decide)
  obtain rfl : t0 = (1 : Int32) := zs_eqv h_t0 (by decide)
  refine zs_ite (fun c1 => ?_) (fun c1 => ?_)
  · skip
    have r2 := (zs_I_eq c1)
    exact (zs_botr r2 h_t0 zlI_0 (by decide)).elim
  · skip
    have r3 := (zs_I_eqn c1)
    refine zs_bd_ (zb_9 h_σ h_x1 zlI_3) (fun t_4 pt_4 => ?_)
    obtain ⟨ret, er, hr⟩ := zb_14 h_σ h_x1 h_x2 h_x3 h_x4 h_x6 h_x7 h_x8 (zs_divI 0 49 pt_4 zlI_2 (by decide)) hc
    refine ⟨ret, er, ?_⟩
    exact (zs_sumw hr (fun v w => ⟨w.1, w.2⟩) (fun v w => w.elim))
-- BX9_claimOf_63
theorem zb_16 {σ0 : sn_S} {σ : sn_S} (h_σ : zs_N σ0 σ) {x1 : Int32} (h_x1 : zs_in x1.toInt 0 5) {x2 : Int32} (h_x2 : zs_in x2.toInt 0 5) {x3 : Int32} (h_x3 : zs_in x3.toInt 1 1) {x4 : Int32} (h_x4 : zs_in x4.toInt 0 1073741823) {x5 : Int32} {x6 : Int32} (h_x6 : zs_in x6.toInt 3 3) {x7 : Int32} (h_x7 : zs_in x7.toInt 0 3) {c : Int} (hc : x7.toInt = c + 0) : zs_ok (BX9_claimOf_63 σ x1 x2 x3 x4 x5 x6 x7) (fun r => zs_sum (fun v => ((zs_N σ0 v.1 ∧ (zs_in (v.2.1).toInt 0 1073741823 ∧ (True ∧ zs_in (v.2.2.2).toInt 1 3)))) ∧ v.2.2.2.toInt = c + 1) (fun v => (zs_N σ0 v.1 ∧ True)) r) := by
  unfold BX9_claimOf_63
  obtain rfl : x3 = (1 : Int32) := zs_eqv h_x3 (by decide)
  obtain rfl : x6 = (3 : Int32) := zs_eqv h_x6 (by decide)
  refine zs_ite (fun c1 => ?_) (fun c1 => ?_)
  · skip
    have r2 := (zs_I_le c1)
    have g3 : zs_in (x7).toInt 3 3 := (zs_ler 3 3 r2 h_x6 h_x7 (by decide))
    exact zs_some (zs_inr (⟨h_σ, trivial⟩))
  · skip
    have r4 := (zs_I_len c1)
    have g5 : zs_in (x7).toInt 0 2 := (zs_ltl 0 2 r4 h_x7 h_x6 (by decide))
    refine zs_ite (fun c6 => ?_) (fun c6 => ?_)
    · skip
      have r7 := (zs_I_eq c6)
      have g8 : zs_in (x4).toInt 0 0 := (zs_eql 0 0 r7 h_x4 zlI_0 (by decide))
      exact zs_some (zs_inr (⟨h_σ, trivial⟩))
    · skip
      have r9 := (zs_I_eqn c6)
      have g10 : zs_in (x4).toInt 1 1073741823 := (zs_nel 1 1073741823 r9 h_x4 zlI_0 (by decide))
      refine zs_bd_ (zo_fo1 (by decide) g10) (fun t_3 pt_3 => ?_)
      refine zs_lt (Q := fun z => zs_in z.toInt 0 1073741823) (zs_and2 g10 (by decide)) (fun y_5 hy_5 => ?_)
      refine zs_ite (fun c11 => ?_) (fun c11 => ?_)
      · skip
        have r12 := (zs_I_eq c11)
        have g13 : zs_in ((sn_I σ 0 20)).toInt 3 3 := (zs_eql 3 3 r12 (zs_topI _) zlI_3 (by decide))
        refine zs_gd (zs_gin h_x2 (by decide)) ?_
        refine zs_bd_ (zb_7 h_σ h_x1) (fun t_9 pt_9 => ?_)
        refine zs_bd_ (zb_8 pt_3) (fun t_11 pt_11 => ?_)
        refine zs_ite (fun c14 => ?_) (fun c14 => ?_)
        · skip
          have r15 := (zs_I_eq c14)
          have g16 : zs_in ((((sn_I σ 8 x2.toNatClampNeg) &&& t_9) &&& t_11)).toInt 0 0 := (zs_eql 0 0 r15 (zs_and pt_11 (by decide)) zlI_0 (by decide))
          obtain ⟨ret, er, hr⟩ := zb_13 h_σ h_x1 h_x2 h_x3 hy_5 h_x6 g5 pt_3 hc
          refine ⟨ret, er, ?_⟩
          exact (zs_sumw hr (fun v w => ⟨w.1, w.2⟩) (fun v w => w.elim))
        · skip
          have r17 := (zs_I_eqn c14)
          have g18 : zs_in ((((sn_I σ 8 x2.toNatClampNeg) &&& t_9) &&& t_11)).toInt 1 536870911 := (zs_nel 1 536870911 r17 (zs_and pt_11 (by decide)) zlI_0 (by decide))
          obtain ⟨ret, er, hr⟩ := zb_15 h_σ h_x1 h_x2 h_x3 hy_5 h_x6 g5 pt_3 zlI_1 hc
          refine ⟨ret, er, ?_⟩
          exact (zs_sumw hr (fun v w => ⟨w.1, w.2⟩) (fun v w => w.elim))
      · skip
        have r19 := (zs_I_eqn c11)
        obtain ⟨ret, er, hr⟩ := zb_13 h_σ h_x1 h_x2 h_x3 hy_5 h_x6 g5 pt_3 hc
        refine ⟨ret, er, ?_⟩
        exact (zs_sumw hr (fun v w => ⟨w.1, w.2⟩) (fun v w => w.elim))
theorem ze_3 {σ0 : sn_S} {x1 : Int32} (h_x1 : zs_in x1.toInt 0 5) {x2 : Int32} (h_x2 : zs_in x2.toInt 0 5) {x3 : Int32} (h_x3 : zs_in x3.toInt 1 1) {x6 : Int32} (h_x6 : zs_in x6.toInt 3 3) {s0 : (sn_S × (Int32 × (Int32 × Int32)))} (h0 : (zs_N σ0 s0.1 ∧ (zs_in (s0.2.1).toInt 0 1073741823 ∧ (True ∧ zs_in (s0.2.2.2).toInt 0 3)))) : zs_ok (sn_it (LX9_claimOf_63 x1 x2 x3 x6) 5000 s0) (fun t => (zs_N σ0 t.1 ∧ True)) := by
  refine zs_it (I := fun s => (zs_N σ0 s.1 ∧ (zs_in (s.2.1).toInt 0 1073741823 ∧ (True ∧ zs_in (s.2.2.2).toInt 0 3)))) (m := fun s => 3 - s.2.2.2.toInt) (fun s hs => ?_) (fun s hs => ?_) (by exact h0)
  · have h1 := hs.2.2.2; unfold zs_in at h1
    omega
  · obtain ⟨b, eb, hb⟩ := zb_16 hs.1 h_x1 h_x2 h_x3 hs.2.1 h_x6 hs.2.2.2 (c := s.2.2.2.toInt) (Int.add_zero _).symm
    exact ⟨b, eb, zs_sumw hb (fun v w => ⟨⟨w.1.1, ⟨w.1.2.1, ⟨w.1.2.2.1, (zs_w w.1.2.2.2 (by decide))⟩⟩⟩, by have := w.2; omega⟩) (fun v w => w)⟩
-- BX9_claimOf_183
theorem zb_17 {σ0 : sn_S} {σ : sn_S} (h_σ : zs_N σ0 σ) {x5 : Int32} : zs_ok (BX9_claimOf_183 σ x5) (fun r => (True ∧ zs_N σ0 r.2)) := by
  unfold BX9_claimOf_183
  exact zs_some ⟨trivial, h_σ⟩
-- BX9_claimOf_58
theorem zb_18 {σ0 : sn_S} {σ : sn_S} (h_σ : zs_N σ0 σ) {x1 : Int32} (h_x1 : zs_in x1.toInt 0 5) {x2 : Int32} (h_x2 : zs_in x2.toInt 0 5) {x3 : Int32} (h_x3 : zs_in x3.toInt 1 1) {x4 : Int32} (h_x4 : zs_in x4.toInt 0 1073741823) {x5 : Int32} (h_x5 : zs_in x5.toInt 0 0) {t0 : Int32} (h_t0 : zs_in t0.toInt 3 3) : zs_ok (BX9_claimOf_58 σ x1 x2 x3 x4 x5 t0) (fun r => (True ∧ zs_N σ0 r.2)) := by
  unfold BX9_claimOf_58
  obtain rfl : x3 = (1 : Int32) := zs_eqv h_x3 (by decide)
  obtain rfl : x5 = (0 : Int32) := zs_eqv h_x5 (by decide)
  obtain rfl : t0 = (3 : Int32) := zs_eqv h_t0 (by decide)
  refine zs_bd_ (ze_3 h_x1 h_x2 h_x3 h_t0 (s0 := (σ, (x4, ((0 : Int32), (0 : Int32))))) ⟨h_σ, ⟨h_x4, ⟨trivial, (zs_w zlI_0 (by decide))⟩⟩⟩) (fun t_1 pt_1 => ?_)
  obtain ⟨ret, er, hr⟩ := zb_17 pt_1.1
  refine ⟨ret, er, ?_⟩
  exact hr
-- BX9_claimOf_177
theorem zb_19 {σ0 : sn_S} {σ : sn_S} (h_σ : zs_N σ0 σ) {x1 : Int32} (h_x1 : zs_in x1.toInt 0 5) {x2 : Int32} (h_x2 : zs_in x2.toInt 0 5) {x3 : Int32} (h_x3 : zs_in x3.toInt 1 1) {x4 : Int32} (h_x4 : zs_in x4.toInt 0 1073741823) {x5 : Int32} {x6 : Int32} (h_x6 : zs_in x6.toInt 1 1) {x7 : Int32} (h_x7 : zs_in x7.toInt 0 0) {c : Int} (hc : x7.toInt = c + 0) : zs_ok (BX9_claimOf_177 σ x1 x2 x3 x4 x5 x6 x7) (fun r => zs_sum (fun v => ((zs_N σ0 v.1 ∧ (zs_in (v.2.1).toInt 0 1073741823 ∧ (True ∧ zs_in (v.2.2.2).toInt 1 1)))) ∧ v.2.2.2.toInt = c + 1) (fun v => False) r) := by
  unfold BX9_claimOf_177
  obtain rfl : x3 = (1 : Int32) := zs_eqv h_x3 (by decide)
  obtain rfl : x6 = (1 : Int32) := zs_eqv h_x6 (by decide)
  refine zs_lt (Q := fun z => zs_in z.toInt 1 1 ∧ z.toInt = c + 1) ⟨(zs_addI 1 1 h_x7 zlI_1 (by decide)), (zs_syI 1 hc h_x7 zlI_1 (by decide) (by decide))⟩ (fun y_1 hy_1 => ?_)
  exact zs_some (zs_inl ⟨⟨h_σ, ⟨h_x4, ⟨trivial, hy_1.1⟩⟩⟩, hy_1.2⟩)
-- BX9_claimOf_152
theorem zb_20 {σ0 : sn_S} {σ : sn_S} (h_σ : zs_N σ0 σ) {x1 : Int32} (h_x1 : zs_in x1.toInt 0 5) {x2 : Int32} (h_x2 : zs_in x2.toInt 0 5) {x3 : Int32} (h_x3 : zs_in x3.toInt 1 1) {x4 : Int32} (h_x4 : zs_in x4.toInt 0 1073741823) {x5 : Int32} {x6 : Int32} (h_x6 : zs_in x6.toInt 1 1) {x7 : Int32} (h_x7 : zs_in x7.toInt 0 0) {x8 : Int32} (h_x8 : zs_in x8.toInt 0 29) {t0 : Int32} (h_t0 : zs_in t0.toInt 0 99) {c : Int} (hc : x7.toInt = c + 0) : zs_ok (BX9_claimOf_152 σ x1 x2 x3 x4 x5 x6 x7 x8 t0) (fun r => zs_sum (fun v => ((zs_N σ0 v.1 ∧ (zs_in (v.2.1).toInt 0 1073741823 ∧ (True ∧ zs_in (v.2.2.2).toInt 1 1)))) ∧ v.2.2.2.toInt = c + 1) (fun v => False) r) := by
  unfold BX9_claimOf_152
  obtain rfl : x3 = (1 : Int32) := zs_eqv h_x3 (by decide)
  obtain rfl : x6 = (1 : Int32) := zs_eqv h_x6 (by decide)
  refine zs_lt (Q := fun z => True) trivial (fun y_1 hy_1 => ?_)
  refine zs_ite (fun c1 => ?_) (fun c1 => ?_)
  · skip
    have r2 := (zs_I_eq c1)
    exact (zs_botr r2 h_x3 zlI_0 (by decide)).elim
  · skip
    have r3 := (zs_I_eqn c1)
    refine zs_gd (zs_gin h_x8 (by decide)) ?_
    refine zs_gd (zs_gin h_x8 (by decide)) ?_
    refine zs_lt (Q := fun z => zs_N σ0 z) (zs_wrt h_σ (fun _ => rfl) (fun _ => rfl)) (fun σ_6 hσ_6 => ?_)
    obtain ⟨ret, er, hr⟩ := zb_19 hσ_6 h_x1 h_x2 h_x3 h_x4 h_x6 h_x7 hc
    refine ⟨ret, er, ?_⟩
    exact (zs_sumw hr (fun v w => ⟨w.1, w.2⟩) (fun v w => w.elim))
-- BX9_claimOf_128
theorem zb_21 {σ0 : sn_S} {σ : sn_S} (h_σ : zs_N σ0 σ) {x1 : Int32} (h_x1 : zs_in x1.toInt 0 5) {x2 : Int32} (h_x2 : zs_in x2.toInt 0 5) {x3 : Int32} (h_x3 : zs_in x3.toInt 1 1) {x4 : Int32} (h_x4 : zs_in x4.toInt 0 1073741823) {x5 : Int32} {x6 : Int32} (h_x6 : zs_in x6.toInt 1 1) {x7 : Int32} (h_x7 : zs_in x7.toInt 0 0) {x8 : Int32} (h_x8 : zs_in x8.toInt 0 29) {t0 : Int32} (h_t0 : zs_in t0.toInt 0 0) {c : Int} (hc : x7.toInt = c + 0) : zs_ok (BX9_claimOf_128 σ x1 x2 x3 x4 x5 x6 x7 x8 t0) (fun r => zs_sum (fun v => ((zs_N σ0 v.1 ∧ (zs_in (v.2.1).toInt 0 1073741823 ∧ (True ∧ zs_in (v.2.2.2).toInt 1 1)))) ∧ v.2.2.2.toInt = c + 1) (fun v => False) r) := by
  unfold BX9_claimOf_128
  obtain rfl : x3 = (1 : Int32) := zs_eqv h_x3 (by decide)
  obtain rfl : x6 = (1 : Int32) := zs_eqv h_x6 (by decide)
  obtain rfl : t0 = (0 : Int32) := zs_eqv h_t0 (by decide)
  refine zs_ite (fun c1 => ?_) (fun c1 => ?_)
  · skip
    have r2 := (zs_I_eq c1)
    refine zs_bd_ (zb_9 h_σ h_x1 zlI_3) (fun t_2 pt_2 => ?_)
    obtain ⟨ret, er, hr⟩ := zb_20 h_σ h_x1 h_x2 h_x3 h_x4 h_x6 h_x7 h_x8 pt_2 hc
    refine ⟨ret, er, ?_⟩
    exact (zs_sumw hr (fun v w => ⟨w.1, w.2⟩) (fun v w => w.elim))
  · skip
    have r3 := (zs_I_eqn c1)
    exact (zs_botne r3 h_t0 zlI_0 (by decide)).elim
-- BX9_claimOf_127
theorem zb_22 {σ0 : sn_S} {σ : sn_S} (h_σ : zs_N σ0 σ) {x1 : Int32} (h_x1 : zs_in x1.toInt 0 5) {x2 : Int32} (h_x2 : zs_in x2.toInt 0 5) {x3 : Int32} (h_x3 : zs_in x3.toInt 1 1) {x4 : Int32} (h_x4 : zs_in x4.toInt 0 1073741823) {x5 : Int32} {x6 : Int32} (h_x6 : zs_in x6.toInt 1 1) {x7 : Int32} (h_x7 : zs_in x7.toInt 0 0) {x8 : Int32} (h_x8 : zs_in x8.toInt 0 29) {c : Int} (hc : x7.toInt = c + 0) : zs_ok (BX9_claimOf_127 σ x1 x2 x3 x4 x5 x6 x7 x8) (fun r => zs_sum (fun v => ((zs_N σ0 v.1 ∧ (zs_in (v.2.1).toInt 0 1073741823 ∧ (True ∧ zs_in (v.2.2.2).toInt 1 1)))) ∧ v.2.2.2.toInt = c + 1) (fun v => False) r) := by
  unfold BX9_claimOf_127
  obtain rfl : x3 = (1 : Int32) := zs_eqv h_x3 (by decide)
  obtain rfl : x6 = (1 : Int32) := zs_eqv h_x6 (by decide)
  obtain ⟨ret, er, hr⟩ := zb_21 h_σ h_x1 h_x2 h_x3 h_x4 h_x6 h_x7 h_x8 zlI_0 hc
  refine ⟨ret, er, ?_⟩
  exact (zs_sumw hr (fun v w => ⟨w.1, w.2⟩) (fun v w => w.elim))
-- BX9_claimOf_152
theorem zb_23 {σ0 : sn_S} {σ : sn_S} (h_σ : zs_N σ0 σ) {x1 : Int32} (h_x1 : zs_in x1.toInt 0 5) {x2 : Int32} (h_x2 : zs_in x2.toInt 0 5) {x3 : Int32} (h_x3 : zs_in x3.toInt 1 1) {x4 : Int32} (h_x4 : zs_in x4.toInt 0 1073741823) {x5 : Int32} {x6 : Int32} (h_x6 : zs_in x6.toInt 1 1) {x7 : Int32} (h_x7 : zs_in x7.toInt 0 0) {x8 : Int32} (h_x8 : zs_in x8.toInt 0 29) {t0 : Int32} (h_t0 : zs_in t0.toInt 0 49) {c : Int} (hc : x7.toInt = c + 0) : zs_ok (BX9_claimOf_152 σ x1 x2 x3 x4 x5 x6 x7 x8 t0) (fun r => zs_sum (fun v => ((zs_N σ0 v.1 ∧ (zs_in (v.2.1).toInt 0 1073741823 ∧ (True ∧ zs_in (v.2.2.2).toInt 1 1)))) ∧ v.2.2.2.toInt = c + 1) (fun v => False) r) := by
  unfold BX9_claimOf_152
  obtain rfl : x3 = (1 : Int32) := zs_eqv h_x3 (by decide)
  obtain rfl : x6 = (1 : Int32) := zs_eqv h_x6 (by decide)
  refine zs_lt (Q := fun z => True) trivial (fun y_1 hy_1 => ?_)
  refine zs_ite (fun c1 => ?_) (fun c1 => ?_)
  · skip
    have r2 := (zs_I_eq c1)
    exact (zs_botr r2 h_x3 zlI_0 (by decide)).elim
  · skip
    have r3 := (zs_I_eqn c1)
    refine zs_gd (zs_gin h_x8 (by decide)) ?_
    refine zs_gd (zs_gin h_x8 (by decide)) ?_
    refine zs_lt (Q := fun z => zs_N σ0 z) (zs_wrt h_σ (fun _ => rfl) (fun _ => rfl)) (fun σ_6 hσ_6 => ?_)
    obtain ⟨ret, er, hr⟩ := zb_19 hσ_6 h_x1 h_x2 h_x3 h_x4 h_x6 h_x7 hc
    refine ⟨ret, er, ?_⟩
    exact (zs_sumw hr (fun v w => ⟨w.1, w.2⟩) (fun v w => w.elim))
-- BX9_claimOf_128
theorem zb_24 {σ0 : sn_S} {σ : sn_S} (h_σ : zs_N σ0 σ) {x1 : Int32} (h_x1 : zs_in x1.toInt 0 5) {x2 : Int32} (h_x2 : zs_in x2.toInt 0 5) {x3 : Int32} (h_x3 : zs_in x3.toInt 1 1) {x4 : Int32} (h_x4 : zs_in x4.toInt 0 1073741823) {x5 : Int32} {x6 : Int32} (h_x6 : zs_in x6.toInt 1 1) {x7 : Int32} (h_x7 : zs_in x7.toInt 0 0) {x8 : Int32} (h_x8 : zs_in x8.toInt 0 29) {t0 : Int32} (h_t0 : zs_in t0.toInt 1 1) {c : Int} (hc : x7.toInt = c + 0) : zs_ok (BX9_claimOf_128 σ x1 x2 x3 x4 x5 x6 x7 x8 t0) (fun r => zs_sum (fun v => ((zs_N σ0 v.1 ∧ (zs_in (v.2.1).toInt 0 1073741823 ∧ (True ∧ zs_in (v.2.2.2).toInt 1 1)))) ∧ v.2.2.2.toInt = c + 1) (fun v => False) r) := by
  unfold BX9_claimOf_128
  obtain rfl : x3 = (1 : Int32) := zs_eqv h_x3 (by decide)
  obtain rfl : x6 = (1 : Int32) := zs_eqv h_x6 (by decide)
  obtain rfl : t0 = (1 : Int32) := zs_eqv h_t0 (by decide)
  refine zs_ite (fun c1 => ?_) (fun c1 => ?_)
  · skip
    have r2 := (zs_I_eq c1)
    exact (zs_botr r2 h_t0 zlI_0 (by decide)).elim
  · skip
    have r3 := (zs_I_eqn c1)
    refine zs_bd_ (zb_9 h_σ h_x1 zlI_3) (fun t_4 pt_4 => ?_)
    obtain ⟨ret, er, hr⟩ := zb_23 h_σ h_x1 h_x2 h_x3 h_x4 h_x6 h_x7 h_x8 (zs_divI 0 49 pt_4 zlI_2 (by decide)) hc
    refine ⟨ret, er, ?_⟩
    exact (zs_sumw hr (fun v w => ⟨w.1, w.2⟩) (fun v w => w.elim))
-- BX9_claimOf_63
theorem zb_25 {σ0 : sn_S} {σ : sn_S} (h_σ : zs_N σ0 σ) {x1 : Int32} (h_x1 : zs_in x1.toInt 0 5) {x2 : Int32} (h_x2 : zs_in x2.toInt 0 5) {x3 : Int32} (h_x3 : zs_in x3.toInt 1 1) {x4 : Int32} (h_x4 : zs_in x4.toInt 0 1073741823) {x5 : Int32} {x6 : Int32} (h_x6 : zs_in x6.toInt 1 1) {x7 : Int32} (h_x7 : zs_in x7.toInt 0 1) {c : Int} (hc : x7.toInt = c + 0) : zs_ok (BX9_claimOf_63 σ x1 x2 x3 x4 x5 x6 x7) (fun r => zs_sum (fun v => ((zs_N σ0 v.1 ∧ (zs_in (v.2.1).toInt 0 1073741823 ∧ (True ∧ zs_in (v.2.2.2).toInt 1 1)))) ∧ v.2.2.2.toInt = c + 1) (fun v => (zs_N σ0 v.1 ∧ True)) r) := by
  unfold BX9_claimOf_63
  obtain rfl : x3 = (1 : Int32) := zs_eqv h_x3 (by decide)
  obtain rfl : x6 = (1 : Int32) := zs_eqv h_x6 (by decide)
  refine zs_ite (fun c1 => ?_) (fun c1 => ?_)
  · skip
    have r2 := (zs_I_le c1)
    have g3 : zs_in (x7).toInt 1 1 := (zs_ler 1 1 r2 h_x6 h_x7 (by decide))
    exact zs_some (zs_inr (⟨h_σ, trivial⟩))
  · skip
    have r4 := (zs_I_len c1)
    have g5 : zs_in (x7).toInt 0 0 := (zs_ltl 0 0 r4 h_x7 h_x6 (by decide))
    refine zs_ite (fun c6 => ?_) (fun c6 => ?_)
    · skip
      have r7 := (zs_I_eq c6)
      have g8 : zs_in (x4).toInt 0 0 := (zs_eql 0 0 r7 h_x4 zlI_0 (by decide))
      exact zs_some (zs_inr (⟨h_σ, trivial⟩))
    · skip
      have r9 := (zs_I_eqn c6)
      have g10 : zs_in (x4).toInt 1 1073741823 := (zs_nel 1 1073741823 r9 h_x4 zlI_0 (by decide))
      refine zs_bd_ (zo_fo1 (by decide) g10) (fun t_3 pt_3 => ?_)
      refine zs_lt (Q := fun z => zs_in z.toInt 0 1073741823) (zs_and2 g10 (by decide)) (fun y_5 hy_5 => ?_)
      refine zs_ite (fun c11 => ?_) (fun c11 => ?_)
      · skip
        have r12 := (zs_I_eq c11)
        have g13 : zs_in ((sn_I σ 0 20)).toInt 3 3 := (zs_eql 3 3 r12 (zs_topI _) zlI_3 (by decide))
        refine zs_gd (zs_gin h_x2 (by decide)) ?_
        refine zs_bd_ (zb_7 h_σ h_x1) (fun t_9 pt_9 => ?_)
        refine zs_bd_ (zb_8 pt_3) (fun t_11 pt_11 => ?_)
        refine zs_ite (fun c14 => ?_) (fun c14 => ?_)
        · skip
          have r15 := (zs_I_eq c14)
          have g16 : zs_in ((((sn_I σ 8 x2.toNatClampNeg) &&& t_9) &&& t_11)).toInt 0 0 := (zs_eql 0 0 r15 (zs_and pt_11 (by decide)) zlI_0 (by decide))
          obtain ⟨ret, er, hr⟩ := zb_22 h_σ h_x1 h_x2 h_x3 hy_5 h_x6 g5 pt_3 hc
          refine ⟨ret, er, ?_⟩
          exact (zs_sumw hr (fun v w => ⟨w.1, w.2⟩) (fun v w => w.elim))
        · skip
          have r17 := (zs_I_eqn c14)
          have g18 : zs_in ((((sn_I σ 8 x2.toNatClampNeg) &&& t_9) &&& t_11)).toInt 1 536870911 := (zs_nel 1 536870911 r17 (zs_and pt_11 (by decide)) zlI_0 (by decide))
          obtain ⟨ret, er, hr⟩ := zb_24 h_σ h_x1 h_x2 h_x3 hy_5 h_x6 g5 pt_3 zlI_1 hc
          refine ⟨ret, er, ?_⟩
          exact (zs_sumw hr (fun v w => ⟨w.1, w.2⟩) (fun v w => w.elim))
      · skip
        have r19 := (zs_I_eqn c11)
        obtain ⟨ret, er, hr⟩ := zb_22 h_σ h_x1 h_x2 h_x3 hy_5 h_x6 g5 pt_3 hc
        refine ⟨ret, er, ?_⟩
        exact (zs_sumw hr (fun v w => ⟨w.1, w.2⟩) (fun v w => w.elim))
theorem ze_4 {σ0 : sn_S} {x1 : Int32} (h_x1 : zs_in x1.toInt 0 5) {x2 : Int32} (h_x2 : zs_in x2.toInt 0 5) {x3 : Int32} (h_x3 : zs_in x3.toInt 1 1) {x6 : Int32} (h_x6 : zs_in x6.toInt 1 1) {s0 : (sn_S × (Int32 × (Int32 × Int32)))} (h0 : (zs_N σ0 s0.1 ∧ (zs_in (s0.2.1).toInt 0 1073741823 ∧ (True ∧ zs_in (s0.2.2.2).toInt 0 1)))) : zs_ok (sn_it (LX9_claimOf_63 x1 x2 x3 x6) 5000 s0) (fun t => (zs_N σ0 t.1 ∧ True)) := by
  refine zs_it (I := fun s => (zs_N σ0 s.1 ∧ (zs_in (s.2.1).toInt 0 1073741823 ∧ (True ∧ zs_in (s.2.2.2).toInt 0 1)))) (m := fun s => 1 - s.2.2.2.toInt) (fun s hs => ?_) (fun s hs => ?_) (by exact h0)
  · have h1 := hs.2.2.2; unfold zs_in at h1
    omega
  · obtain ⟨b, eb, hb⟩ := zb_25 hs.1 h_x1 h_x2 h_x3 hs.2.1 h_x6 hs.2.2.2 (c := s.2.2.2.toInt) (Int.add_zero _).symm
    exact ⟨b, eb, zs_sumw hb (fun v w => ⟨⟨w.1.1, ⟨w.1.2.1, ⟨w.1.2.2.1, (zs_w w.1.2.2.2 (by decide))⟩⟩⟩, by have := w.2; omega⟩) (fun v w => w)⟩
-- BX9_claimOf_58
theorem zb_26 {σ0 : sn_S} {σ : sn_S} (h_σ : zs_N σ0 σ) {x1 : Int32} (h_x1 : zs_in x1.toInt 0 5) {x2 : Int32} (h_x2 : zs_in x2.toInt 0 5) {x3 : Int32} (h_x3 : zs_in x3.toInt 1 1) {x4 : Int32} (h_x4 : zs_in x4.toInt 0 1073741823) {x5 : Int32} (h_x5 : zs_in x5.toInt 0 0) {t0 : Int32} (h_t0 : zs_in t0.toInt 1 1) : zs_ok (BX9_claimOf_58 σ x1 x2 x3 x4 x5 t0) (fun r => (True ∧ zs_N σ0 r.2)) := by
  unfold BX9_claimOf_58
  obtain rfl : x3 = (1 : Int32) := zs_eqv h_x3 (by decide)
  obtain rfl : x5 = (0 : Int32) := zs_eqv h_x5 (by decide)
  obtain rfl : t0 = (1 : Int32) := zs_eqv h_t0 (by decide)
  refine zs_bd_ (ze_4 h_x1 h_x2 h_x3 h_t0 (s0 := (σ, (x4, ((0 : Int32), (0 : Int32))))) ⟨h_σ, ⟨h_x4, ⟨trivial, (zs_w zlI_0 (by decide))⟩⟩⟩) (fun t_1 pt_1 => ?_)
  obtain ⟨ret, er, hr⟩ := zb_17 pt_1.1
  refine ⟨ret, er, ?_⟩
  exact hr
-- BX9_claimOf_33
theorem zb_27 {σ0 : sn_S} {σ : sn_S} (h_σ : zs_N σ0 σ) {x1 : Int32} (h_x1 : zs_in x1.toInt 0 5) {x2 : Int32} (h_x2 : zs_in x2.toInt 0 5) {x3 : Int32} (h_x3 : zs_in x3.toInt 1 1) {x4 : Int32} (h_x4 : zs_in x4.toInt 0 1073741823) : zs_ok (BX9_claimOf_33 σ x1 x2 x3 x4) (fun r => (True ∧ zs_N σ0 r.2)) := by
  unfold BX9_claimOf_33
  obtain rfl : x3 = (1 : Int32) := zs_eqv h_x3 (by decide)
  refine zs_bd_ (zo_fot2 h_x4) (fun t_1 pt_1 => ?_)
  refine zs_lt (Q := fun z => zs_N σ0 z) (zs_wrkt h_σ rfl rfl) (fun σ_3 hσ_3 => ?_)
  refine zs_ite (fun c1 => ?_) (fun c1 => ?_)
  · skip
    have r2 := (zs_I_eq c1)
    have g3 : zs_in ((sn_I σ_3 0 20)).toInt 2 2 := (zs_eql 2 2 r2 (zs_topI _) zlI_2 (by decide))
    obtain ⟨ret, er, hr⟩ := zb_18 hσ_3 h_x1 h_x2 h_x3 h_x4 zlI_0 zlI_3
    refine ⟨ret, er, ?_⟩
    exact hr
  · skip
    have r4 := (zs_I_eqn c1)
    obtain ⟨ret, er, hr⟩ := zb_26 hσ_3 h_x1 h_x2 h_x3 h_x4 zlI_0 zlI_1
    refine ⟨ret, er, ?_⟩
    exact hr
-- fX9_claimOf
theorem zb_28 {σ0 : sn_S} {σ : sn_S} (h_σ : zs_N σ0 σ) {x1 : Int32} (h_x1 : zs_in x1.toInt 0 5) {x2 : Int32} (h_x2 : zs_in x2.toInt 0 5) {x3 : Int32} (h_x3 : zs_in x3.toInt 1 1) : zs_ok (fX9_claimOf σ x1 x2 x3) (fun r => (True ∧ zs_N σ0 r.2)) := by
  unfold fX9_claimOf
  obtain rfl : x3 = (1 : Int32) := zs_eqv h_x3 (by decide)
  refine zs_gd (zs_gin h_x2 (by decide)) ?_
  refine zs_bd_ (zb_7 h_σ h_x1) (fun t_2 pt_2 => ?_)
  refine zs_lt (Q := fun z => zs_in z.toInt 0 1073741823) (zs_and pt_2 (by decide)) (fun y_4 hy_4 => ?_)
  refine zs_ite (fun c1 => ?_) (fun c1 => ?_)
  · skip
    have r2 := (zs_I_eq c1)
    have g3 : zs_in ((sn_I σ 0 20)).toInt 1 1 := (zs_eql 1 1 r2 (zs_topI _) zlI_1 (by decide))
    refine zs_lt (Q := fun z => zs_in z.toInt 0 1073741823) (zs_and2 hy_4 (by decide)) (fun y_7 hy_7 => ?_)
    obtain ⟨ret, er, hr⟩ := zb_27 h_σ h_x1 h_x2 h_x3 hy_7
    refine ⟨ret, er, ?_⟩
    exact hr
  · skip
    have r4 := (zs_I_eqn c1)
    obtain ⟨ret, er, hr⟩ := zb_27 h_σ h_x1 h_x2 h_x3 hy_4
    refine ⟨ret, er, ?_⟩
    exact hr
-- BX9_layPaid_23
theorem zb_29 {σ0 : sn_S} {σ : sn_S} (h_σ : zs_N σ0 σ) {x1 : Int32} (h_x1 : zs_in x1.toInt 0 6) {c : Int} (hc : x1.toInt = c + 0) : zs_ok (BX9_layPaid_23 σ x1) (fun r => zs_sum (fun v => ((zs_N σ0 v.1 ∧ zs_in (v.2).toInt 1 6)) ∧ v.2.toInt = c + 1) (fun v => zs_N σ0 v) r) := by
  unfold BX9_layPaid_23
  refine zs_gd (zs_gin zlI_8 (by decide)) ?_
  refine zs_ite (fun c1 => ?_) (fun c1 => ?_)
  · skip
    have r2 := (zs_I_le c1)
    exact zs_some (zs_inr (h_σ))
  · skip
    have r3 := (zs_I_len c1)
    have g4 : zs_in (x1).toInt 0 5 := (zs_ltl 0 5 r3 h_x1 (zs_rdk (q := 1) (k := (8 : Int32).toNatClampNeg) (z := (0, 6)) h_σ.1 rfl) (by decide))
    have g5 : zs_in ((sn_I σ 1 (8 : Int32).toNatClampNeg)).toInt 1 6 := (zs_ltr 1 6 r3 h_x1 (zs_rdk (q := 1) (k := (8 : Int32).toNatClampNeg) (z := (0, 6)) h_σ.1 rfl) (by decide))
    refine zs_bd_ (zb_2 h_σ g4 zlI_0) (fun t_3 pt_3 => ?_)
    refine zs_bd_ (zb_28 h_σ g4 pt_3 zlI_1) (fun t_5 pt_5 => ?_)
    refine zs_lt (Q := fun z => zs_in z.toInt 1 6 ∧ z.toInt = c + 1) ⟨(zs_addI 1 6 g4 zlI_1 (by decide)), (zs_syI 1 hc g4 zlI_1 (by decide) (by decide))⟩ (fun y_7 hy_7 => ?_)
    exact zs_some (zs_inl ⟨⟨pt_5.2, hy_7.1⟩, hy_7.2⟩)
theorem ze_5 {σ0 : sn_S}  {s0 : (sn_S × Int32)} (h0 : (zs_N σ0 s0.1 ∧ zs_in (s0.2).toInt 0 6)) : zs_ok (sn_it (LX9_layPaid_23) 5000 s0) (fun t => zs_N σ0 t) := by
  refine zs_it (I := fun s => (zs_N σ0 s.1 ∧ zs_in (s.2).toInt 0 6)) (m := fun s => 6 - s.2.toInt) (fun s hs => ?_) (fun s hs => ?_) (by exact h0)
  · have h1 := hs.2; unfold zs_in at h1
    omega
  · obtain ⟨b, eb, hb⟩ := zb_29 hs.1 hs.2 (c := s.2.toInt) (Int.add_zero _).symm
    exact ⟨b, eb, zs_sumw hb (fun v w => ⟨⟨w.1.1, (zs_w w.1.2 (by decide))⟩, by have := w.2; omega⟩) (fun v w => w)⟩
-- BX9_layPaid_53
theorem zb_30 {σ0 : sn_S} {σ : sn_S} (h_σ : zs_N σ0 σ) : zs_ok (BX9_layPaid_53 σ) (fun r => zs_N σ0 r) := by
  unfold BX9_layPaid_53
  exact zs_some h_σ
-- BX9_layPaid_21
theorem zb_31 {σ0 : sn_S} {σ : sn_S} (h_σ : zs_N σ0 σ) : zs_ok (BX9_layPaid_21 σ) (fun r => zs_N σ0 r) := by
  unfold BX9_layPaid_21
  refine zs_bd_ (ze_5  (s0 := (σ, (0 : Int32))) ⟨h_σ, (zs_w zlI_0 (by decide))⟩) (fun t_1 pt_1 => ?_)
  obtain ⟨ret, er, hr⟩ := zb_30 pt_1
  refine ⟨ret, er, ?_⟩
  exact hr
-- fX9_layPaid
theorem zb_32 {σ0 : sn_S} {σ : sn_S} (h_σ : zs_N σ0 σ) : zs_ok (fX9_layPaid σ) (fun r => zs_N σ0 r) := by
  unfold fX9_layPaid
  refine zs_bd_ (ze_1  (s0 := (σ, (0 : Int32))) ⟨h_σ, (zs_w zlI_0 (by decide))⟩) (fun t_1 pt_1 => ?_)
  obtain ⟨ret, er, hr⟩ := zb_31 pt_1
  refine ⟨ret, er, ?_⟩
  exact hr
-- fX9_of
theorem zb_33 {σ0 : sn_S} {σ : sn_S} (h_σ : zs_N σ0 σ) {x1 : Int32} (h_x1 : zs_in x1.toInt 0 5) {x2 : Int32} (h_x2 : zs_in x2.toInt 4 4) : zs_ok (fX9_of σ x1 x2) (fun r => zs_in (r).toInt 0 99) := by
  unfold fX9_of
  obtain rfl : x2 = (4 : Int32) := zs_eqv h_x2 (by decide)
  refine zs_gd (zs_gin (zs_addI 53 78 (zs_addI 49 74 zlI_49 (zs_mulI 0 25 zlI_5 h_x1 (by decide)) (by decide)) h_x2 (by decide)) (by decide)) ?_
  exact zs_some (zs_rdb (q := 1) (lo := 0) (hi := 99) h_σ.1 (zs_cases h_x1 (fun z => zs_bd (zs_tM 1 (((49 : Int32) + ((5 : Int32) * z)) + (4 : Int32)).toNatClampNeg) 0 99) (by decide +kernel)))
-- BX9_moneyAt_7
theorem zb_34 {σ0 : sn_S} {σ : sn_S} (h_σ : zs_N σ0 σ) {x1 : Int32} (h_x1 : zs_in x1.toInt 0 29) {x2 : Int32} {x3 : Int32} (h_x3 : zs_in x3.toInt 0 6) {c : Int} (hc : x3.toInt = c + 0) : zs_ok (BX9_moneyAt_7 σ x1 x2 x3) (fun r => zs_sum (fun v => ((True ∧ zs_in (v.2).toInt 1 6)) ∧ v.2.toInt = c + 1) (fun v => True) r) := by
  unfold BX9_moneyAt_7
  refine zs_gd (zs_gin zlI_8 (by decide)) ?_
  refine zs_ite (fun c1 => ?_) (fun c1 => ?_)
  · skip
    have r2 := (zs_I_le c1)
    exact zs_some (zs_inr (trivial))
  · skip
    have r3 := (zs_I_len c1)
    have g4 : zs_in (x3).toInt 0 5 := (zs_ltl 0 5 r3 h_x3 (zs_rdk (q := 1) (k := (8 : Int32).toNatClampNeg) (z := (0, 6)) h_σ.1 rfl) (by decide))
    have g5 : zs_in ((sn_I σ 1 (8 : Int32).toNatClampNeg)).toInt 1 6 := (zs_ltr 1 6 r3 h_x3 (zs_rdk (q := 1) (k := (8 : Int32).toNatClampNeg) (z := (0, 6)) h_σ.1 rfl) (by decide))
    refine zs_bd_ (zb_33 h_σ g4 zlI_4) (fun t_3 pt_3 => ?_)
    refine zs_lt (Q := fun z => True) trivial (fun y_5 hy_5 => ?_)
    refine zs_lt (Q := fun z => zs_in z.toInt 1 6 ∧ z.toInt = c + 1) ⟨(zs_addI 1 6 g4 zlI_1 (by decide)), (zs_syI 1 hc g4 zlI_1 (by decide) (by decide))⟩ (fun y_7 hy_7 => ?_)
    exact zs_some (zs_inl ⟨⟨trivial, hy_7.1⟩, hy_7.2⟩)
theorem ze_6 {σ0 : sn_S} {σ : sn_S} (h_σ : zs_N σ0 σ) {x1 : Int32} (h_x1 : zs_in x1.toInt 0 29) {s0 : (Int32 × Int32)} (h0 : (True ∧ zs_in (s0.2).toInt 0 6)) : zs_ok (sn_it (LX9_moneyAt_7 σ x1) 5000 s0) (fun t => True) := by
  refine zs_it (I := fun s => (True ∧ zs_in (s.2).toInt 0 6)) (m := fun s => 6 - s.2.toInt) (fun s hs => ?_) (fun s hs => ?_) (by exact h0)
  · have h1 := hs.2; unfold zs_in at h1
    omega
  · obtain ⟨b, eb, hb⟩ := zb_34 h_σ h_x1 hs.2 (c := s.2.toInt) (Int.add_zero _).symm
    exact ⟨b, eb, zs_sumw hb (fun v w => ⟨⟨w.1.1, (zs_w w.1.2 (by decide))⟩, by have := w.2; omega⟩) (fun v w => w)⟩
-- BX9_moneyAt_35
theorem zb_35 {σ0 : sn_S} {σ : sn_S} (h_σ : zs_N σ0 σ) {x1 : Int32} (h_x1 : zs_in x1.toInt 0 29) {x2 : Int32} {x3 : Int32} (h_x3 : zs_in x3.toInt 0 30) {c : Int} (hc : x3.toInt = c + 0) : zs_ok (BX9_moneyAt_35 σ x1 x2 x3) (fun r => zs_sum (fun v => ((True ∧ zs_in (v.2).toInt 1 30)) ∧ v.2.toInt = c + 1) (fun v => True) r) := by
  unfold BX9_moneyAt_35
  refine zs_ite (fun c1 => ?_) (fun c1 => ?_)
  · skip
    have r2 := (zs_I_lt c1)
    have g3 : zs_in (x3).toInt 1 30 := (zs_ltr 1 30 r2 h_x1 h_x3 (by decide))
    exact zs_some (zs_inr (trivial))
  · skip
    have r4 := (zs_I_ltn c1)
    have g5 : zs_in (x3).toInt 0 29 := (zs_lel 0 29 r4 h_x3 h_x1 (by decide))
    refine zs_gd (zs_gin g5 (by decide)) ?_
    refine zs_lt (Q := fun z => True) trivial (fun y_3 hy_3 => ?_)
    refine zs_lt (Q := fun z => zs_in z.toInt 1 30 ∧ z.toInt = c + 1) ⟨(zs_addI 1 30 g5 zlI_1 (by decide)), (zs_syI 1 hc g5 zlI_1 (by decide) (by decide))⟩ (fun y_5 hy_5 => ?_)
    exact zs_some (zs_inl ⟨⟨trivial, hy_5.1⟩, hy_5.2⟩)
theorem ze_7 {σ0 : sn_S} {σ : sn_S} (h_σ : zs_N σ0 σ) {x1 : Int32} (h_x1 : zs_in x1.toInt 0 29) {s0 : (Int32 × Int32)} (h0 : (True ∧ zs_in (s0.2).toInt 0 30)) : zs_ok (sn_it (LX9_moneyAt_35 σ x1) 5000 s0) (fun t => True) := by
  refine zs_it (I := fun s => (True ∧ zs_in (s.2).toInt 0 30)) (m := fun s => 30 - s.2.toInt) (fun s hs => ?_) (fun s hs => ?_) (by exact h0)
  · have h1 := hs.2; unfold zs_in at h1
    omega
  · obtain ⟨b, eb, hb⟩ := zb_35 h_σ h_x1 hs.2 (c := s.2.toInt) (Int.add_zero _).symm
    exact ⟨b, eb, zs_sumw hb (fun v w => ⟨⟨w.1.1, (zs_w w.1.2 (by decide))⟩, by have := w.2; omega⟩) (fun v w => w)⟩
-- BX9_moneyAt_55
theorem zb_36 {σ0 : sn_S} {σ : sn_S} (h_σ : zs_N σ0 σ) {x2 : Int32} : zs_ok (BX9_moneyAt_55 σ x2) (fun r => True) := by
  unfold BX9_moneyAt_55
  exact zs_some trivial
-- BX9_moneyAt_33
theorem zb_37 {σ0 : sn_S} {σ : sn_S} (h_σ : zs_N σ0 σ) {x1 : Int32} (h_x1 : zs_in x1.toInt 0 29) {x2 : Int32} : zs_ok (BX9_moneyAt_33 σ x1 x2) (fun r => True) := by
  unfold BX9_moneyAt_33
  refine zs_bd_ (ze_7 h_σ h_x1 (s0 := (x2, (0 : Int32))) ⟨trivial, (zs_w zlI_0 (by decide))⟩) (fun t_1 pt_1 => ?_)
  obtain ⟨ret, er, hr⟩ := zb_36 h_σ
  refine ⟨ret, er, ?_⟩
  exact hr
-- fX9_moneyAt
theorem zb_38 {σ0 : sn_S} {σ : sn_S} (h_σ : zs_N σ0 σ) {x1 : Int32} (h_x1 : zs_in x1.toInt 0 29) : zs_ok (fX9_moneyAt σ x1) (fun r => True) := by
  unfold fX9_moneyAt
  refine zs_lt (Q := fun z => zs_in z.toInt 0 1000) (zs_rdk (q := 0) (k := 21) (z := (0, 1000)) h_σ.1 rfl) (fun y_1 hy_1 => ?_)
  refine zs_bd_ (ze_6 h_σ h_x1 (s0 := (y_1, (0 : Int32))) ⟨trivial, (zs_w zlI_0 (by decide))⟩) (fun t_3 pt_3 => ?_)
  obtain ⟨ret, er, hr⟩ := zb_37 h_σ h_x1
  refine ⟨ret, er, ?_⟩
  exact hr
-- BX9_ruinOf_6
theorem zb_39 {σ0 : sn_S} {σ : sn_S} (h_σ : zs_N σ0 σ) {x1 : Int32} (h_x1 : zs_in x1.toInt 0 30) {c : Int} (hc : x1.toInt = c + 0) : zs_ok (BX9_ruinOf_6 σ x1) (fun r => zs_sum (fun v => (zs_in (v).toInt 1 30) ∧ v.toInt = c + 1) (fun v => zs_sum (fun v => True) (fun v => (zs_in (v.1).toInt 0 29 ∧ zs_N σ0 v.2)) v) r) := by
  unfold BX9_ruinOf_6
  refine zs_ite (fun c1 => ?_) (fun c1 => ?_)
  · skip
    have r2 := (zs_I_lt c1)
    exact zs_some (zs_inr ((zs_inl (trivial))))
  · skip
    have r3 := (zs_I_ltn c1)
    have g4 : zs_in (x1).toInt 0 29 := (zs_lel 0 29 r3 h_x1 (zs_rdk (q := 0) (k := 22) (z := ((-1), 29)) h_σ.1 rfl) (by decide))
    have g5 : zs_in ((sn_I σ 0 22)).toInt 0 29 := (zs_ler 0 29 r3 h_x1 (zs_rdk (q := 0) (k := 22) (z := ((-1), 29)) h_σ.1 rfl) (by decide))
    refine zs_bd_ (zb_38 h_σ g4) (fun t_2 pt_2 => ?_)
    refine zs_ite (fun c6 => ?_) (fun c6 => ?_)
    · skip
      have r7 := (zs_I_le c6)
      have g8 : zs_in (t_2).toInt 0 2147483647 := (zs_ler 0 2147483647 r7 zlI_0 (zs_topI _) (by decide))
      refine zs_lt (Q := fun z => zs_in z.toInt 1 30 ∧ z.toInt = c + 1) ⟨(zs_addI 1 30 g4 zlI_1 (by decide)), (zs_syI 1 hc g4 zlI_1 (by decide) (by decide))⟩ (fun y_5 hy_5 => ?_)
      exact zs_some (zs_inl ⟨hy_5.1, hy_5.2⟩)
    · skip
      have r9 := (zs_I_len c6)
      have g10 : zs_in (t_2).toInt (-2147483648) (-1) := (zs_ltl (-2147483648) (-1) r9 (zs_topI _) zlI_0 (by decide))
      exact zs_some (zs_inr ((zs_inr (⟨g4, h_σ⟩))))
theorem ze_8 {σ0 : sn_S} {σ : sn_S} (h_σ : zs_N σ0 σ) {s0 : Int32} (h0 : zs_in (s0).toInt 0 30) : zs_ok (sn_it (LX9_ruinOf_6 σ) 5000 s0) (fun t => zs_sum (fun v => True) (fun v => (zs_in (v.1).toInt 0 29 ∧ zs_N σ0 v.2)) t) := by
  refine zs_it (I := fun s => zs_in (s).toInt 0 30) (m := fun s => 30 - s.toInt) (fun s hs => ?_) (fun s hs => ?_) (by exact h0)
  · have h1 := hs; unfold zs_in at h1
    omega
  · obtain ⟨b, eb, hb⟩ := zb_39 h_σ hs (c := s.toInt) (Int.add_zero _).symm
    exact ⟨b, eb, zs_sumw hb (fun v w => ⟨(zs_w w.1 (by decide)), by have := w.2; omega⟩) (fun v w => w)⟩
-- BX9_ruinOf_30
theorem zb_40 {σ0 : sn_S} {σ : sn_S} (h_σ : zs_N σ0 σ) : zs_ok (BX9_ruinOf_30 σ) (fun r => (zs_in (r.1).toInt (-1) (-1) ∧ zs_N σ0 r.2)) := by
  unfold BX9_ruinOf_30
  exact zs_some ⟨zlI_m1, h_σ⟩
-- fX9_ruinOf
theorem zb_41 {σ0 : sn_S} {σ : sn_S} (h_σ : zs_N σ0 σ) : zs_ok (fX9_ruinOf σ) (fun r => (zs_in (r.1).toInt (-1) 29 ∧ zs_N σ0 r.2)) := by
  unfold fX9_ruinOf
  refine zs_bd_ (zb_32 h_σ) (fun t_1 pt_1 => ?_)
  refine zs_bd_ (ze_8 pt_1 (s0 := (0 : Int32)) (zs_w zlI_0 (by decide))) (fun t_3 pt_3 => ?_)
  refine zs_elim pt_3 (fun v_5 pv_5 => ?_) (fun r_6 pr_6 => ?_)
  · skip
    obtain ⟨ret, er, hr⟩ := zb_40 pt_1
    refine ⟨ret, er, ?_⟩
    exact ⟨(zs_w hr.1 (by decide)), hr.2⟩
  · skip
    exact zs_some ⟨(zs_w pr_6.1 (by decide)), pr_6.2⟩
-- BX9_goAll_2
theorem zb_42 {σ0 : sn_S} {σ : sn_S} (h_σ : zs_N σ0 σ) {x1 : Int32} (h_x1 : zs_in x1.toInt 0 6) {c : Int} (hc : x1.toInt = c + 0) : zs_ok (BX9_goAll_2 σ x1) (fun r => zs_sum (fun v => ((zs_N σ0 v.1 ∧ zs_in (v.2).toInt 1 6)) ∧ v.2.toInt = c + 1) (fun v => zs_N σ0 v) r) := by
  unfold BX9_goAll_2
  refine zs_ite (fun c1 => ?_) (fun c1 => ?_)
  · skip
    have r2 := (zs_I_le c1)
    have g3 : zs_in (x1).toInt 6 6 := (zs_ler 6 6 r2 zlI_6 h_x1 (by decide))
    exact zs_some (zs_inr (h_σ))
  · skip
    have r4 := (zs_I_len c1)
    have g5 : zs_in (x1).toInt 0 5 := (zs_ltl 0 5 r4 h_x1 zlI_6 (by decide))
    refine zs_gd (zs_gin g5 (by decide)) ?_
    refine zs_lt (Q := fun z => zs_N σ0 z) (zs_wru (z := (0, 1073741823)) h_σ (fun _ => rfl) zlI_0 (by decide) (fun _ => rfl)) (fun σ_3 hσ_3 => ?_)
    refine zs_gd (zs_gin g5 (by decide)) ?_
    refine zs_lt (Q := fun z => zs_N σ0 z) (zs_wrt hσ_3 (fun _ => rfl) (fun _ => rfl)) (fun σ_6 hσ_6 => ?_)
    refine zs_lt (Q := fun z => zs_in z.toInt 1 6 ∧ z.toInt = c + 1) ⟨(zs_addI 1 6 g5 zlI_1 (by decide)), (zs_syI 1 hc g5 zlI_1 (by decide) (by decide))⟩ (fun y_8 hy_8 => ?_)
    exact zs_some (zs_inl ⟨⟨hσ_6, hy_8.1⟩, hy_8.2⟩)
theorem ze_9 {σ0 : sn_S}  {s0 : (sn_S × Int32)} (h0 : (zs_N σ0 s0.1 ∧ zs_in (s0.2).toInt 0 6)) : zs_ok (sn_it (LX9_goAll_2) 5000 s0) (fun t => zs_N σ0 t) := by
  refine zs_it (I := fun s => (zs_N σ0 s.1 ∧ zs_in (s.2).toInt 0 6)) (m := fun s => 6 - s.2.toInt) (fun s hs => ?_) (fun s hs => ?_) (by exact h0)
  · have h1 := hs.2; unfold zs_in at h1
    omega
  · obtain ⟨b, eb, hb⟩ := zb_42 hs.1 hs.2 (c := s.2.toInt) (Int.add_zero _).symm
    exact ⟨b, eb, zs_sumw hb (fun v w => ⟨⟨w.1.1, (zs_w w.1.2 (by decide))⟩, by have := w.2; omega⟩) (fun v w => w)⟩
-- BX9_netsTo_91
theorem zb_43 {σ0 : sn_S} {σ : sn_S} (h_σ : zs_N σ0 σ) {x1 : Int32} (h_x1 : zs_in x1.toInt 0 5) {x2 : Int32} (h_x2 : zs_in x2.toInt 0 0) {x3 : Int32} {x4 : Int32} (h_x4 : zs_in x4.toInt 0 7) {c : Int} (hc : x4.toInt = c + 0) : zs_ok (BX9_netsTo_91 σ x1 x2 x3 x4) (fun r => zs_sum (fun v => ((True ∧ zs_in (v.2).toInt 1 8)) ∧ v.2.toInt = c + 1) (fun v => False) r) := by
  unfold BX9_netsTo_91
  obtain rfl : x2 = (0 : Int32) := zs_eqv h_x2 (by decide)
  refine zs_lt (Q := fun z => zs_in z.toInt 1 8 ∧ z.toInt = c + 1) ⟨(zs_addI 1 8 h_x4 zlI_1 (by decide)), (zs_syI 1 hc h_x4 zlI_1 (by decide) (by decide))⟩ (fun y_1 hy_1 => ?_)
  exact zs_some (zs_inl ⟨⟨trivial, hy_1.1⟩, hy_1.2⟩)
-- fX9_bit
theorem zb_44 {x0 : Int32} (h_x0 : zs_in x0.toInt 0 0) {x1 : Int32} (h_x1 : zs_in x1.toInt 0 5) : zs_ok (fX9_bit x0 x1) (fun r => zs_in (r).toInt 0 1) := by
  unfold fX9_bit
  obtain rfl : x0 = (0 : Int32) := zs_eqv h_x0 (by decide)
  exact zs_some (zs_and zlI_1 (by decide))
-- BX9_netsTo_88
theorem zb_45 {σ0 : sn_S} {σ : sn_S} (h_σ : zs_N σ0 σ) {x1 : Int32} (h_x1 : zs_in x1.toInt 0 5) {x2 : Int32} (h_x2 : zs_in x2.toInt 0 0) {x3 : Int32} {x4 : Int32} (h_x4 : zs_in x4.toInt 0 7) {c : Int} (hc : x4.toInt = c + 0) : zs_ok (BX9_netsTo_88 σ x1 x2 x3 x4) (fun r => zs_sum (fun v => ((True ∧ zs_in (v.2).toInt 1 8)) ∧ v.2.toInt = c + 1) (fun v => False) r) := by
  unfold BX9_netsTo_88
  obtain rfl : x2 = (0 : Int32) := zs_eqv h_x2 (by decide)
  refine zs_lt (Q := fun z => True) trivial (fun y_1 hy_1 => ?_)
  obtain ⟨ret, er, hr⟩ := zb_43 h_σ h_x1 h_x2 h_x4 hc
  refine ⟨ret, er, ?_⟩
  exact (zs_sumw hr (fun v w => ⟨w.1, w.2⟩) (fun v w => w.elim))
-- BX9_netsTo_72
theorem zb_46 {σ0 : sn_S} {σ : sn_S} (h_σ : zs_N σ0 σ) {x1 : Int32} (h_x1 : zs_in x1.toInt 0 5) {x2 : Int32} (h_x2 : zs_in x2.toInt 0 0) {x3 : Int32} {x4 : Int32} (h_x4 : zs_in x4.toInt 0 7) {x5 : Int32} (h_x5 : zs_in x5.toInt 0 5) {x6 : Int32} (h_x6 : zs_in x6.toInt 0 5) {c : Int} (hc : x4.toInt = c + 0) : zs_ok (BX9_netsTo_72 σ x1 x2 x3 x4 x5 x6) (fun r => zs_sum (fun v => ((True ∧ zs_in (v.2).toInt 1 8)) ∧ v.2.toInt = c + 1) (fun v => False) r) := by
  unfold BX9_netsTo_72
  obtain rfl : x2 = (0 : Int32) := zs_eqv h_x2 (by decide)
  refine zs_ite (fun c1 => ?_) (fun c1 => ?_)
  · skip
    have r2 := (zs_I_eq c1)
    refine zs_bd_ (zb_44 h_x2 h_x5) (fun t_2 pt_2 => ?_)
    refine zs_ite (fun c3 => ?_) (fun c3 => ?_)
    · skip
      have r4 := (zs_I_eq c3)
      have g5 : zs_in (t_2).toInt 1 1 := (zs_eql 1 1 r4 pt_2 zlI_1 (by decide))
      obtain ⟨ret, er, hr⟩ := zb_45 h_σ h_x1 h_x2 h_x4 hc
      refine ⟨ret, er, ?_⟩
      exact (zs_sumw hr (fun v w => ⟨w.1, w.2⟩) (fun v w => w.elim))
    · skip
      have r6 := (zs_I_eqn c3)
      have g7 : zs_in (t_2).toInt 0 0 := (zs_neh 0 0 r6 pt_2 zlI_1 (by decide))
      obtain ⟨ret, er, hr⟩ := zb_43 h_σ h_x1 h_x2 h_x4 hc
      refine ⟨ret, er, ?_⟩
      exact (zs_sumw hr (fun v w => ⟨w.1, w.2⟩) (fun v w => w.elim))
  · skip
    have r8 := (zs_I_eqn c1)
    obtain ⟨ret, er, hr⟩ := zb_43 h_σ h_x1 h_x2 h_x4 hc
    refine ⟨ret, er, ?_⟩
    exact (zs_sumw hr (fun v w => ⟨w.1, w.2⟩) (fun v w => w.elim))
-- BX9_netsTo_5
theorem zb_47 {σ0 : sn_S} {σ : sn_S} (h_σ : zs_N σ0 σ) {x1 : Int32} (h_x1 : zs_in x1.toInt 0 5) {x2 : Int32} (h_x2 : zs_in x2.toInt 0 0) {x3 : Int32} {x4 : Int32} (h_x4 : zs_in x4.toInt 0 8) {c : Int} (hc : x4.toInt = c + 0) : zs_ok (BX9_netsTo_5 σ x1 x2 x3 x4) (fun r => zs_sum (fun v => ((True ∧ zs_in (v.2).toInt 1 8)) ∧ v.2.toInt = c + 1) (fun v => True) r) := by
  unfold BX9_netsTo_5
  obtain rfl : x2 = (0 : Int32) := zs_eqv h_x2 (by decide)
  refine zs_gd (zs_gin zlI_7 (by decide)) ?_
  refine zs_ite (fun c1 => ?_) (fun c1 => ?_)
  · skip
    have r2 := (zs_I_le c1)
    exact zs_some (zs_inr (trivial))
  · skip
    have r3 := (zs_I_len c1)
    have g4 : zs_in (x4).toInt 0 7 := (zs_ltl 0 7 r3 h_x4 (zs_rdk (q := 1) (k := (7 : Int32).toNatClampNeg) (z := (0, 8)) h_σ.1 rfl) (by decide))
    have g5 : zs_in ((sn_I σ 1 (7 : Int32).toNatClampNeg)).toInt 1 8 := (zs_ltr 1 8 r3 h_x4 (zs_rdk (q := 1) (k := (7 : Int32).toNatClampNeg) (z := (0, 8)) h_σ.1 rfl) (by decide))
    refine zs_gd (zs_gin (zs_addI 33 47 zlI_33 (zs_mulI 0 14 zlI_2 g4 (by decide)) (by decide)) (by decide)) ?_
    refine zs_lt (Q := fun z => zs_in z.toInt 0 5) (zs_rdb (q := 1) (lo := 0) (hi := 5) h_σ.1 (zs_cases g4 (fun z => zs_bd (zs_tM 1 ((33 : Int32) + ((2 : Int32) * z)).toNatClampNeg) 0 5) (by decide +kernel))) (fun y_4 hy_4 => ?_)
    refine zs_gd (zs_gin (zs_addI 34 48 (zs_addI 33 47 zlI_33 (zs_mulI 0 14 zlI_2 g4 (by decide)) (by decide)) zlI_1 (by decide)) (by decide)) ?_
    refine zs_lt (Q := fun z => zs_in z.toInt 0 5) (zs_rdb (q := 1) (lo := 0) (hi := 5) h_σ.1 (zs_cases g4 (fun z => zs_bd (zs_tM 1 (((33 : Int32) + ((2 : Int32) * z)) + (1 : Int32)).toNatClampNeg) 0 5) (by decide +kernel))) (fun y_7 hy_7 => ?_)
    refine zs_ite (fun c6 => ?_) (fun c6 => ?_)
    · skip
      have r7 := (zs_I_eq c6)
      have g8 : zs_in ((sn_I σ 0 19)).toInt 0 7 := (zs_eqr 0 7 r7 g4 (zs_topI _) (by decide))
      obtain ⟨ret, er, hr⟩ := zb_43 h_σ h_x1 h_x2 g4 hc
      refine ⟨ret, er, ?_⟩
      exact (zs_sumw hr (fun v w => ⟨w.1, w.2⟩) (fun v w => w.elim))
    · skip
      have r9 := (zs_I_eqn c6)
      refine zs_ite (fun c10 => ?_) (fun c10 => ?_)
      · skip
        have r11 := (zs_I_eq c10)
        refine zs_bd_ (zb_44 h_x2 hy_7) (fun t_11 pt_11 => ?_)
        refine zs_ite (fun c12 => ?_) (fun c12 => ?_)
        · skip
          have r13 := (zs_I_eq c12)
          have g14 : zs_in (t_11).toInt 1 1 := (zs_eql 1 1 r13 pt_11 zlI_1 (by decide))
          obtain ⟨ret, er, hr⟩ := zb_45 h_σ h_x1 h_x2 g4 hc
          refine ⟨ret, er, ?_⟩
          exact (zs_sumw hr (fun v w => ⟨w.1, w.2⟩) (fun v w => w.elim))
        · skip
          have r15 := (zs_I_eqn c12)
          have g16 : zs_in (t_11).toInt 0 0 := (zs_neh 0 0 r15 pt_11 zlI_1 (by decide))
          obtain ⟨ret, er, hr⟩ := zb_46 h_σ h_x1 h_x2 g4 hy_4 hy_7 hc
          refine ⟨ret, er, ?_⟩
          exact (zs_sumw hr (fun v w => ⟨w.1, w.2⟩) (fun v w => w.elim))
      · skip
        have r17 := (zs_I_eqn c10)
        obtain ⟨ret, er, hr⟩ := zb_46 h_σ h_x1 h_x2 g4 hy_4 hy_7 hc
        refine ⟨ret, er, ?_⟩
        exact (zs_sumw hr (fun v w => ⟨w.1, w.2⟩) (fun v w => w.elim))
theorem ze_10 {σ0 : sn_S} {σ : sn_S} (h_σ : zs_N σ0 σ) {x1 : Int32} (h_x1 : zs_in x1.toInt 0 5) {x2 : Int32} (h_x2 : zs_in x2.toInt 0 0) {s0 : (Int32 × Int32)} (h0 : (True ∧ zs_in (s0.2).toInt 0 8)) : zs_ok (sn_it (LX9_netsTo_5 σ x1 x2) 5000 s0) (fun t => True) := by
  refine zs_it (I := fun s => (True ∧ zs_in (s.2).toInt 0 8)) (m := fun s => 8 - s.2.toInt) (fun s hs => ?_) (fun s hs => ?_) (by exact h0)
  · have h1 := hs.2; unfold zs_in at h1
    omega
  · obtain ⟨b, eb, hb⟩ := zb_47 h_σ h_x1 h_x2 hs.2 (c := s.2.toInt) (Int.add_zero _).symm
    exact ⟨b, eb, zs_sumw hb (fun v w => ⟨⟨w.1.1, (zs_w w.1.2 (by decide))⟩, by have := w.2; omega⟩) (fun v w => w)⟩
-- BX9_netsTo_97
theorem zb_48 {σ0 : sn_S} {σ : sn_S} (h_σ : zs_N σ0 σ) {x3 : Int32} : zs_ok (BX9_netsTo_97 σ x3) (fun r => True) := by
  unfold BX9_netsTo_97
  exact zs_some trivial
-- fX9_netsTo
theorem zb_49 {σ0 : sn_S} {σ : sn_S} (h_σ : zs_N σ0 σ) {x1 : Int32} (h_x1 : zs_in x1.toInt 0 5) {x2 : Int32} (h_x2 : zs_in x2.toInt 0 0) : zs_ok (fX9_netsTo σ x1 x2) (fun r => True) := by
  unfold fX9_netsTo
  obtain rfl : x2 = (0 : Int32) := zs_eqv h_x2 (by decide)
  refine zs_bd_ (ze_10 h_σ h_x1 h_x2 (s0 := ((0 : Int32), (0 : Int32))) ⟨trivial, (zs_w zlI_0 (by decide))⟩) (fun t_1 pt_1 => ?_)
  obtain ⟨ret, er, hr⟩ := zb_48 h_σ
  refine ⟨ret, er, ?_⟩
  exact hr
-- fX9_bit
theorem zb_50 {x0 : Int32} {x1 : Int32} (h_x1 : zs_in x1.toInt 0 0) : zs_ok (fX9_bit x0 x1) (fun r => zs_in (r).toInt 0 1) := by
  unfold fX9_bit
  obtain rfl : x1 = (0 : Int32) := zs_eqv h_x1 (by decide)
  exact zs_some (zs_and zlI_1 (by decide))
-- BX9_goMinute_225
theorem zb_51 {σ0 : sn_S} {σ : sn_S} (h_σ : zs_N σ0 σ) {x1 : Int32} (h_x1 : zs_in x1.toInt 0 0) {x2 : Int32} (h_x2 : zs_in x2.toInt 0 0) {x3 : Int32} (h_x3 : zs_in x3.toInt 0 5) {c : Int} (hc : x3.toInt = c + 0) : zs_ok (BX9_goMinute_225 σ x1 x2 x3) (fun r => zs_sum (fun v => ((zs_N σ0 v.1 ∧ zs_in (v.2).toInt 1 6)) ∧ v.2.toInt = c + 1) (fun v => False) r) := by
  unfold BX9_goMinute_225
  obtain rfl : x1 = (0 : Int32) := zs_eqv h_x1 (by decide)
  obtain rfl : x2 = (0 : Int32) := zs_eqv h_x2 (by decide)
  refine zs_lt (Q := fun z => zs_in z.toInt 1 6 ∧ z.toInt = c + 1) ⟨(zs_addI 1 6 h_x3 zlI_1 (by decide)), (zs_syI 1 hc h_x3 zlI_1 (by decide) (by decide))⟩ (fun y_1 hy_1 => ?_)
  exact zs_some (zs_inl ⟨⟨h_σ, hy_1.1⟩, hy_1.2⟩)
-- BX9_goMinute_192
theorem zb_52 {σ0 : sn_S} {σ : sn_S} (h_σ : zs_N σ0 σ) {x1 : Int32} (h_x1 : zs_in x1.toInt 0 0) {x2 : Int32} (h_x2 : zs_in x2.toInt 0 0) {x3 : Int32} (h_x3 : zs_in x3.toInt 0 5) {x7 : Int32} (h_x7 : zs_in x7.toInt 0 0) {t1 : Int32} (h_t1 : zs_in t1.toInt 0 5) {t2 : Int32} (h_t2 : zs_in t2.toInt (-2147483648) 98) {c : Int} (hc : x3.toInt = c + 0) : zs_ok (BX9_goMinute_192 σ x1 x2 x3 x7 t1 t2) (fun r => zs_sum (fun v => ((zs_N σ0 v.1 ∧ zs_in (v.2).toInt 1 6)) ∧ v.2.toInt = c + 1) (fun v => False) r) := by
  unfold BX9_goMinute_192
  obtain rfl : x1 = (0 : Int32) := zs_eqv h_x1 (by decide)
  obtain rfl : x2 = (0 : Int32) := zs_eqv h_x2 (by decide)
  obtain rfl : x7 = (0 : Int32) := zs_eqv h_x7 (by decide)
  refine zs_gd (zs_gin h_t1 (by decide)) ?_
  refine zs_lt (Q := fun z => zs_N σ0 z) (zs_wrt h_σ (fun _ => rfl) (fun _ => rfl)) (fun σ_2 hσ_2 => ?_)
  refine zs_ite (fun c1 => ?_) (fun c1 => ?_)
  · skip
    have r2 := (zs_I_eq c1)
    obtain ⟨ret, er, hr⟩ := zb_51 hσ_2 h_x1 h_x2 h_x3 hc
    refine ⟨ret, er, ?_⟩
    exact (zs_sumw hr (fun v w => ⟨w.1, w.2⟩) (fun v w => w.elim))
  · skip
    have r3 := (zs_I_eqn c1)
    exact (zs_botne r3 h_x7 zlI_0 (by decide)).elim
-- BX9_goMinute_145
theorem zb_53 {σ0 : sn_S} {σ : sn_S} (h_σ : zs_N σ0 σ) {x1 : Int32} (h_x1 : zs_in x1.toInt 0 0) {x2 : Int32} (h_x2 : zs_in x2.toInt 0 0) {x3 : Int32} (h_x3 : zs_in x3.toInt 0 5) {x4 : Int32} {x5 : Int32} {x6 : Int32} (h_x6 : zs_in x6.toInt (-2147483648) 98) {t0 : Int32} (h_t0 : zs_in t0.toInt 0 0) {c : Int} (hc : x3.toInt = c + 0) : zs_ok (BX9_goMinute_145 σ x1 x2 x3 x4 x5 x6 t0) (fun r => zs_sum (fun v => ((zs_N σ0 v.1 ∧ zs_in (v.2).toInt 1 6)) ∧ v.2.toInt = c + 1) (fun v => False) r) := by
  unfold BX9_goMinute_145
  obtain rfl : x1 = (0 : Int32) := zs_eqv h_x1 (by decide)
  obtain rfl : x2 = (0 : Int32) := zs_eqv h_x2 (by decide)
  obtain rfl : t0 = (0 : Int32) := zs_eqv h_t0 (by decide)
  refine zs_gd (zs_gin h_x3 (by decide)) ?_
  refine zs_gd (zs_gin h_x3 (by decide)) ?_
  refine zs_lt (Q := fun z => zs_N σ0 z) (zs_wrt h_σ (fun _ => rfl) (fun _ => rfl)) (fun σ_3 hσ_3 => ?_)
  refine zs_gd (zs_gin (zs_addI 0 5 (zs_mulI 0 0 zlI_6 h_x1 (by decide)) h_x3 (by decide)) (by decide)) ?_
  refine zs_lt (Q := fun z => zs_N σ0 z) (zs_wrt hσ_3 (fun _ => rfl) (fun _ => rfl)) (fun σ_6 hσ_6 => ?_)
  refine zs_ite (fun c1 => ?_) (fun c1 => ?_)
  · skip
    have r2 := (zs_I_eq c1)
    obtain ⟨ret, er, hr⟩ := zb_52 hσ_6 h_x1 h_x2 h_x3 h_t0 (zs_addI 0 5 (zs_mulI 0 0 zlI_6 h_x1 (by decide)) h_x3 (by decide)) h_x6 hc
    refine ⟨ret, er, ?_⟩
    exact (zs_sumw hr (fun v w => ⟨w.1, w.2⟩) (fun v w => w.elim))
  · skip
    have r3 := (zs_I_eqn c1)
    exact (zs_botne r3 h_t0 zlI_0 (by decide)).elim
-- BX9_goMinute_144
theorem zb_54 {σ0 : sn_S} {σ : sn_S} (h_σ : zs_N σ0 σ) {x1 : Int32} (h_x1 : zs_in x1.toInt 0 0) {x2 : Int32} (h_x2 : zs_in x2.toInt 0 0) {x3 : Int32} (h_x3 : zs_in x3.toInt 0 5) {x4 : Int32} {x5 : Int32} {x6 : Int32} (h_x6 : zs_in x6.toInt (-2147483648) 98) {c : Int} (hc : x3.toInt = c + 0) : zs_ok (BX9_goMinute_144 σ x1 x2 x3 x4 x5 x6) (fun r => zs_sum (fun v => ((zs_N σ0 v.1 ∧ zs_in (v.2).toInt 1 6)) ∧ v.2.toInt = c + 1) (fun v => False) r) := by
  unfold BX9_goMinute_144
  obtain rfl : x1 = (0 : Int32) := zs_eqv h_x1 (by decide)
  obtain rfl : x2 = (0 : Int32) := zs_eqv h_x2 (by decide)
  obtain ⟨ret, er, hr⟩ := zb_53 h_σ h_x1 h_x2 h_x3 h_x6 zlI_0 hc
  refine ⟨ret, er, ?_⟩
  exact (zs_sumw hr (fun v w => ⟨w.1, w.2⟩) (fun v w => w.elim))
-- BX9_goMinute_192
theorem zb_55 {σ0 : sn_S} {σ : sn_S} (h_σ : zs_N σ0 σ) {x1 : Int32} (h_x1 : zs_in x1.toInt 0 0) {x2 : Int32} (h_x2 : zs_in x2.toInt 0 0) {x3 : Int32} (h_x3 : zs_in x3.toInt 0 5) {x7 : Int32} (h_x7 : zs_in x7.toInt 1 1) {t1 : Int32} (h_t1 : zs_in t1.toInt 0 5) {t2 : Int32} (h_t2 : zs_in t2.toInt 0 0) {c : Int} (hc : x3.toInt = c + 0) : zs_ok (BX9_goMinute_192 σ x1 x2 x3 x7 t1 t2) (fun r => zs_sum (fun v => ((zs_N σ0 v.1 ∧ zs_in (v.2).toInt 1 6)) ∧ v.2.toInt = c + 1) (fun v => False) r) := by
  unfold BX9_goMinute_192
  obtain rfl : x1 = (0 : Int32) := zs_eqv h_x1 (by decide)
  obtain rfl : x2 = (0 : Int32) := zs_eqv h_x2 (by decide)
  obtain rfl : x7 = (1 : Int32) := zs_eqv h_x7 (by decide)
  obtain rfl : t2 = (0 : Int32) := zs_eqv h_t2 (by decide)
  refine zs_gd (zs_gin h_t1 (by decide)) ?_
  refine zs_lt (Q := fun z => zs_N σ0 z) (zs_wrt h_σ (fun _ => rfl) (fun _ => rfl)) (fun σ_2 hσ_2 => ?_)
  refine zs_ite (fun c1 => ?_) (fun c1 => ?_)
  · skip
    have r2 := (zs_I_eq c1)
    exact (zs_botr r2 h_x7 zlI_0 (by decide)).elim
  · skip
    have r3 := (zs_I_eqn c1)
    refine zs_gd (zs_gin h_x1 (by decide)) ?_
    refine zs_gd (zs_gin h_x1 (by decide)) ?_
    refine zs_lt (Q := fun z => zs_N σ0 z) (zs_wrt hσ_2 (fun _ => rfl) (fun _ => rfl)) (fun σ_7 hσ_7 => ?_)
    refine zs_gd (zs_gin h_x3 (by decide)) ?_
    refine zs_gd (zs_gin h_x3 (by decide)) ?_
    refine zs_lt (Q := fun z => zs_N σ0 z) (zs_wru (z := (0, 1073741823)) hσ_7 (fun _ => rfl) (zs_or 30 1073741823 (zs_rdu (q := 10) (z := (0, 1073741823)) hσ_7.1 (fun _ => rfl)) (zs_cases h_x1 (fun z => zs_in ((1 : Int32) <<< (z &&& 31)).toInt 1 1) (by decide +kernel)) (by decide)) (by decide) (fun _ => rfl)) (fun σ_11 hσ_11 => ?_)
    obtain ⟨ret, er, hr⟩ := zb_51 hσ_11 h_x1 h_x2 h_x3 hc
    refine ⟨ret, er, ?_⟩
    exact (zs_sumw hr (fun v w => ⟨w.1, w.2⟩) (fun v w => w.elim))
-- BX9_goMinute_145
theorem zb_56 {σ0 : sn_S} {σ : sn_S} (h_σ : zs_N σ0 σ) {x1 : Int32} (h_x1 : zs_in x1.toInt 0 0) {x2 : Int32} (h_x2 : zs_in x2.toInt 0 0) {x3 : Int32} (h_x3 : zs_in x3.toInt 0 5) {x4 : Int32} {x5 : Int32} {x6 : Int32} (h_x6 : zs_in x6.toInt 0 2147483647) {t0 : Int32} (h_t0 : zs_in t0.toInt 1 1) {c : Int} (hc : x3.toInt = c + 0) : zs_ok (BX9_goMinute_145 σ x1 x2 x3 x4 x5 x6 t0) (fun r => zs_sum (fun v => ((zs_N σ0 v.1 ∧ zs_in (v.2).toInt 1 6)) ∧ v.2.toInt = c + 1) (fun v => False) r) := by
  unfold BX9_goMinute_145
  obtain rfl : x1 = (0 : Int32) := zs_eqv h_x1 (by decide)
  obtain rfl : x2 = (0 : Int32) := zs_eqv h_x2 (by decide)
  obtain rfl : t0 = (1 : Int32) := zs_eqv h_t0 (by decide)
  refine zs_gd (zs_gin h_x3 (by decide)) ?_
  refine zs_gd (zs_gin h_x3 (by decide)) ?_
  refine zs_lt (Q := fun z => zs_N σ0 z) (zs_wrt h_σ (fun _ => rfl) (fun _ => rfl)) (fun σ_3 hσ_3 => ?_)
  refine zs_gd (zs_gin (zs_addI 0 5 (zs_mulI 0 0 zlI_6 h_x1 (by decide)) h_x3 (by decide)) (by decide)) ?_
  refine zs_lt (Q := fun z => zs_N σ0 z) (zs_wrt hσ_3 (fun _ => rfl) (fun _ => rfl)) (fun σ_6 hσ_6 => ?_)
  refine zs_ite (fun c1 => ?_) (fun c1 => ?_)
  · skip
    have r2 := (zs_I_eq c1)
    exact (zs_botr r2 h_t0 zlI_0 (by decide)).elim
  · skip
    have r3 := (zs_I_eqn c1)
    obtain ⟨ret, er, hr⟩ := zb_55 hσ_6 h_x1 h_x2 h_x3 h_t0 (zs_addI 0 5 (zs_mulI 0 0 zlI_6 h_x1 (by decide)) h_x3 (by decide)) zlI_0 hc
    refine ⟨ret, er, ?_⟩
    exact (zs_sumw hr (fun v w => ⟨w.1, w.2⟩) (fun v w => w.elim))
-- BX9_goMinute_192
theorem zb_57 {σ0 : sn_S} {σ : sn_S} (h_σ : zs_N σ0 σ) {x1 : Int32} (h_x1 : zs_in x1.toInt 0 0) {x2 : Int32} (h_x2 : zs_in x2.toInt 0 0) {x3 : Int32} (h_x3 : zs_in x3.toInt 0 5) {x7 : Int32} (h_x7 : zs_in x7.toInt 0 0) {t1 : Int32} (h_t1 : zs_in t1.toInt 0 5) {t2 : Int32} (h_t2 : zs_in t2.toInt 0 2147483647) {c : Int} (hc : x3.toInt = c + 0) : zs_ok (BX9_goMinute_192 σ x1 x2 x3 x7 t1 t2) (fun r => zs_sum (fun v => ((zs_N σ0 v.1 ∧ zs_in (v.2).toInt 1 6)) ∧ v.2.toInt = c + 1) (fun v => False) r) := by
  unfold BX9_goMinute_192
  obtain rfl : x1 = (0 : Int32) := zs_eqv h_x1 (by decide)
  obtain rfl : x2 = (0 : Int32) := zs_eqv h_x2 (by decide)
  obtain rfl : x7 = (0 : Int32) := zs_eqv h_x7 (by decide)
  refine zs_gd (zs_gin h_t1 (by decide)) ?_
  refine zs_lt (Q := fun z => zs_N σ0 z) (zs_wrt h_σ (fun _ => rfl) (fun _ => rfl)) (fun σ_2 hσ_2 => ?_)
  refine zs_ite (fun c1 => ?_) (fun c1 => ?_)
  · skip
    have r2 := (zs_I_eq c1)
    obtain ⟨ret, er, hr⟩ := zb_51 hσ_2 h_x1 h_x2 h_x3 hc
    refine ⟨ret, er, ?_⟩
    exact (zs_sumw hr (fun v w => ⟨w.1, w.2⟩) (fun v w => w.elim))
  · skip
    have r3 := (zs_I_eqn c1)
    exact (zs_botne r3 h_x7 zlI_0 (by decide)).elim
-- BX9_goMinute_145
theorem zb_58 {σ0 : sn_S} {σ : sn_S} (h_σ : zs_N σ0 σ) {x1 : Int32} (h_x1 : zs_in x1.toInt 0 0) {x2 : Int32} (h_x2 : zs_in x2.toInt 0 0) {x3 : Int32} (h_x3 : zs_in x3.toInt 0 5) {x4 : Int32} {x5 : Int32} {x6 : Int32} (h_x6 : zs_in x6.toInt 0 2147483647) {t0 : Int32} (h_t0 : zs_in t0.toInt 0 0) {c : Int} (hc : x3.toInt = c + 0) : zs_ok (BX9_goMinute_145 σ x1 x2 x3 x4 x5 x6 t0) (fun r => zs_sum (fun v => ((zs_N σ0 v.1 ∧ zs_in (v.2).toInt 1 6)) ∧ v.2.toInt = c + 1) (fun v => False) r) := by
  unfold BX9_goMinute_145
  obtain rfl : x1 = (0 : Int32) := zs_eqv h_x1 (by decide)
  obtain rfl : x2 = (0 : Int32) := zs_eqv h_x2 (by decide)
  obtain rfl : t0 = (0 : Int32) := zs_eqv h_t0 (by decide)
  refine zs_gd (zs_gin h_x3 (by decide)) ?_
  refine zs_gd (zs_gin h_x3 (by decide)) ?_
  refine zs_lt (Q := fun z => zs_N σ0 z) (zs_wrt h_σ (fun _ => rfl) (fun _ => rfl)) (fun σ_3 hσ_3 => ?_)
  refine zs_gd (zs_gin (zs_addI 0 5 (zs_mulI 0 0 zlI_6 h_x1 (by decide)) h_x3 (by decide)) (by decide)) ?_
  refine zs_lt (Q := fun z => zs_N σ0 z) (zs_wrt hσ_3 (fun _ => rfl) (fun _ => rfl)) (fun σ_6 hσ_6 => ?_)
  refine zs_ite (fun c1 => ?_) (fun c1 => ?_)
  · skip
    have r2 := (zs_I_eq c1)
    obtain ⟨ret, er, hr⟩ := zb_57 hσ_6 h_x1 h_x2 h_x3 h_t0 (zs_addI 0 5 (zs_mulI 0 0 zlI_6 h_x1 (by decide)) h_x3 (by decide)) h_x6 hc
    refine ⟨ret, er, ?_⟩
    exact (zs_sumw hr (fun v w => ⟨w.1, w.2⟩) (fun v w => w.elim))
  · skip
    have r3 := (zs_I_eqn c1)
    exact (zs_botne r3 h_t0 zlI_0 (by decide)).elim
-- BX9_goMinute_144
theorem zb_59 {σ0 : sn_S} {σ : sn_S} (h_σ : zs_N σ0 σ) {x1 : Int32} (h_x1 : zs_in x1.toInt 0 0) {x2 : Int32} (h_x2 : zs_in x2.toInt 0 0) {x3 : Int32} (h_x3 : zs_in x3.toInt 0 5) {x4 : Int32} {x5 : Int32} {x6 : Int32} (h_x6 : zs_in x6.toInt 0 2147483647) {c : Int} (hc : x3.toInt = c + 0) : zs_ok (BX9_goMinute_144 σ x1 x2 x3 x4 x5 x6) (fun r => zs_sum (fun v => ((zs_N σ0 v.1 ∧ zs_in (v.2).toInt 1 6)) ∧ v.2.toInt = c + 1) (fun v => False) r) := by
  unfold BX9_goMinute_144
  obtain rfl : x1 = (0 : Int32) := zs_eqv h_x1 (by decide)
  obtain rfl : x2 = (0 : Int32) := zs_eqv h_x2 (by decide)
  obtain ⟨ret, er, hr⟩ := zb_58 h_σ h_x1 h_x2 h_x3 h_x6 zlI_0 hc
  refine ⟨ret, er, ?_⟩
  exact (zs_sumw hr (fun v w => ⟨w.1, w.2⟩) (fun v w => w.elim))
-- BX9_goMinute_104
theorem zb_60 {σ0 : sn_S} {σ : sn_S} (h_σ : zs_N σ0 σ) {x1 : Int32} (h_x1 : zs_in x1.toInt 0 0) {x2 : Int32} (h_x2 : zs_in x2.toInt 0 0) {x3 : Int32} (h_x3 : zs_in x3.toInt 0 5) {x4 : Int32} {x5 : Int32} {t0 : Int32} (h_t0 : zs_in t0.toInt 0 0) {c : Int} (hc : x3.toInt = c + 0) : zs_ok (BX9_goMinute_104 σ x1 x2 x3 x4 x5 t0) (fun r => zs_sum (fun v => ((zs_N σ0 v.1 ∧ zs_in (v.2).toInt 1 6)) ∧ v.2.toInt = c + 1) (fun v => False) r) := by
  unfold BX9_goMinute_104
  obtain rfl : x1 = (0 : Int32) := zs_eqv h_x1 (by decide)
  obtain rfl : x2 = (0 : Int32) := zs_eqv h_x2 (by decide)
  obtain rfl : t0 = (0 : Int32) := zs_eqv h_t0 (by decide)
  refine zs_lt (Q := fun z => True) trivial (fun y_1 hy_1 => ?_)
  refine zs_gd (zs_gin (zs_addI 12 22 (zs_addI 11 21 zlI_11 (zs_mulI 0 10 zlI_2 h_x3 (by decide)) (by decide)) zlI_1 (by decide)) (by decide)) ?_
  refine zs_ite (fun c1 => ?_) (fun c1 => ?_)
  · skip
    have r2 := (zs_I_lt c1)
    have g3 : zs_in (y_1).toInt (-2147483648) 98 := (zs_ltl (-2147483648) 98 r2 (zs_topI _) (zs_rdb (q := 1) (lo := 0) (hi := 99) h_σ.1 (zs_cases h_x3 (fun z => zs_bd (zs_tM 1 (((11 : Int32) + ((2 : Int32) * z)) + (1 : Int32)).toNatClampNeg) 0 99) (by decide +kernel))) (by decide))
    obtain ⟨ret, er, hr⟩ := zb_54 h_σ h_x1 h_x2 h_x3 g3 hc
    refine ⟨ret, er, ?_⟩
    exact (zs_sumw hr (fun v w => ⟨w.1, w.2⟩) (fun v w => w.elim))
  · skip
    have r4 := (zs_I_ltn c1)
    have g5 : zs_in (y_1).toInt 0 2147483647 := (zs_ler 0 2147483647 r4 (zs_rdb (q := 1) (lo := 0) (hi := 99) h_σ.1 (zs_cases h_x3 (fun z => zs_bd (zs_tM 1 (((11 : Int32) + ((2 : Int32) * z)) + (1 : Int32)).toNatClampNeg) 0 99) (by decide +kernel))) (zs_topI _) (by decide))
    refine zs_gd (zs_gin h_x3 (by decide)) ?_
    refine zs_bd_ (zb_50 h_x1) (fun t_6 pt_6 => ?_)
    refine zs_ite (fun c6 => ?_) (fun c6 => ?_)
    · skip
      have r7 := (zs_I_eq c6)
      have g8 : zs_in (t_6).toInt 0 0 := (zs_eql 0 0 r7 pt_6 zlI_0 (by decide))
      obtain ⟨ret, er, hr⟩ := zb_56 h_σ h_x1 h_x2 h_x3 g5 zlI_1 hc
      refine ⟨ret, er, ?_⟩
      exact (zs_sumw hr (fun v w => ⟨w.1, w.2⟩) (fun v w => w.elim))
    · skip
      have r9 := (zs_I_eqn c6)
      have g10 : zs_in (t_6).toInt 1 1 := (zs_nel 1 1 r9 pt_6 zlI_0 (by decide))
      obtain ⟨ret, er, hr⟩ := zb_59 h_σ h_x1 h_x2 h_x3 g5 hc
      refine ⟨ret, er, ?_⟩
      exact (zs_sumw hr (fun v w => ⟨w.1, w.2⟩) (fun v w => w.elim))
-- BX9_goMinute_26
theorem zb_61 {σ0 : sn_S} {σ : sn_S} (h_σ : zs_N σ0 σ) {x1 : Int32} (h_x1 : zs_in x1.toInt 0 0) {x2 : Int32} (h_x2 : zs_in x2.toInt 0 0) {x3 : Int32} (h_x3 : zs_in x3.toInt 0 6) {c : Int} (hc : x3.toInt = c + 0) : zs_ok (BX9_goMinute_26 σ x1 x2 x3) (fun r => zs_sum (fun v => ((zs_N σ0 v.1 ∧ zs_in (v.2).toInt 1 6)) ∧ v.2.toInt = c + 1) (fun v => zs_N σ0 v) r) := by
  unfold BX9_goMinute_26
  obtain rfl : x1 = (0 : Int32) := zs_eqv h_x1 (by decide)
  obtain rfl : x2 = (0 : Int32) := zs_eqv h_x2 (by decide)
  refine zs_gd (zs_gin zlI_5 (by decide)) ?_
  refine zs_ite (fun c1 => ?_) (fun c1 => ?_)
  · skip
    have r2 := (zs_I_le c1)
    exact zs_some (zs_inr (h_σ))
  · skip
    have r3 := (zs_I_len c1)
    have g4 : zs_in (x3).toInt 0 5 := (zs_ltl 0 5 r3 h_x3 (zs_rdk (q := 1) (k := (5 : Int32).toNatClampNeg) (z := (0, 6)) h_σ.1 rfl) (by decide))
    have g5 : zs_in ((sn_I σ 1 (5 : Int32).toNatClampNeg)).toInt 1 6 := (zs_ltr 1 6 r3 h_x3 (zs_rdk (q := 1) (k := (5 : Int32).toNatClampNeg) (z := (0, 6)) h_σ.1 rfl) (by decide))
    refine zs_bd_ (zb_49 h_σ g4 h_x2) (fun t_3 pt_3 => ?_)
    refine zs_lt (Q := fun z => True) trivial (fun y_5 hy_5 => ?_)
    refine zs_gd (zs_gin (zs_addI 11 21 zlI_11 (zs_mulI 0 10 zlI_2 g4 (by decide)) (by decide)) (by decide)) ?_
    refine zs_gd (zs_gin h_x1 (by decide)) ?_
    refine zs_gd (zs_gin g4 (by decide)) ?_
    refine zs_bd_ (zb_50 h_x1) (fun t_10 pt_10 => ?_)
    refine zs_lt (Q := fun z => True) trivial (fun y_12 hy_12 => ?_)
    refine zs_ite (fun c6 => ?_) (fun c6 => ?_)
    · skip
      have r7 := (zs_I_eq c6)
      obtain ⟨ret, er, hr⟩ := zb_60 h_σ h_x1 h_x2 g4 zlI_0 hc
      refine ⟨ret, er, ?_⟩
      exact (zs_sumw hr (fun v w => ⟨w.1, w.2⟩) (fun v w => w.elim))
    · skip
      have r8 := (zs_I_eqn c6)
      exact (zs_botne r8 h_x1 zlI_0 (by decide)).elim
theorem ze_11 {σ0 : sn_S} {x1 : Int32} (h_x1 : zs_in x1.toInt 0 0) {x2 : Int32} (h_x2 : zs_in x2.toInt 0 0) {s0 : (sn_S × Int32)} (h0 : (zs_N σ0 s0.1 ∧ zs_in (s0.2).toInt 0 6)) : zs_ok (sn_it (LX9_goMinute_26 x1 x2) 5000 s0) (fun t => zs_N σ0 t) := by
  refine zs_it (I := fun s => (zs_N σ0 s.1 ∧ zs_in (s.2).toInt 0 6)) (m := fun s => 6 - s.2.toInt) (fun s hs => ?_) (fun s hs => ?_) (by exact h0)
  · have h1 := hs.2; unfold zs_in at h1
    omega
  · obtain ⟨b, eb, hb⟩ := zb_61 hs.1 h_x1 h_x2 hs.2 (c := s.2.toInt) (Int.add_zero _).symm
    exact ⟨b, eb, zs_sumw hb (fun v w => ⟨⟨w.1.1, (zs_w w.1.2 (by decide))⟩, by have := w.2; omega⟩) (fun v w => w)⟩
-- BX9_goMinute_231
theorem zb_62 {σ0 : sn_S} {σ : sn_S} (h_σ : zs_N σ0 σ) : zs_ok (BX9_goMinute_231 σ) (fun r => zs_N σ0 r) := by
  unfold BX9_goMinute_231
  exact zs_some h_σ
-- BX9_goMinute_23
theorem zb_63 {σ0 : sn_S} {σ : sn_S} (h_σ : zs_N σ0 σ) {x1 : Int32} (h_x1 : zs_in x1.toInt 0 0) {t0 : Int32} (h_t0 : zs_in t0.toInt 0 0) : zs_ok (BX9_goMinute_23 σ x1 t0) (fun r => zs_N σ0 r) := by
  unfold BX9_goMinute_23
  obtain rfl : x1 = (0 : Int32) := zs_eqv h_x1 (by decide)
  obtain rfl : t0 = (0 : Int32) := zs_eqv h_t0 (by decide)
  refine zs_bd_ (ze_11 h_x1 h_t0 (s0 := (σ, (0 : Int32))) ⟨h_σ, (zs_w zlI_0 (by decide))⟩) (fun t_1 pt_1 => ?_)
  obtain ⟨ret, er, hr⟩ := zb_62 pt_1
  refine ⟨ret, er, ?_⟩
  exact hr
-- BX9_netsTo_91
theorem zb_64 {σ0 : sn_S} {σ : sn_S} (h_σ : zs_N σ0 σ) {x1 : Int32} (h_x1 : zs_in x1.toInt 0 5) {x2 : Int32} {x3 : Int32} {x4 : Int32} (h_x4 : zs_in x4.toInt 0 7) {c : Int} (hc : x4.toInt = c + 0) : zs_ok (BX9_netsTo_91 σ x1 x2 x3 x4) (fun r => zs_sum (fun v => ((True ∧ zs_in (v.2).toInt 1 8)) ∧ v.2.toInt = c + 1) (fun v => False) r) := by
  unfold BX9_netsTo_91
  refine zs_lt (Q := fun z => zs_in z.toInt 1 8 ∧ z.toInt = c + 1) ⟨(zs_addI 1 8 h_x4 zlI_1 (by decide)), (zs_syI 1 hc h_x4 zlI_1 (by decide) (by decide))⟩ (fun y_1 hy_1 => ?_)
  exact zs_some (zs_inl ⟨⟨trivial, hy_1.1⟩, hy_1.2⟩)
-- fX9_bit
theorem zb_65 {x0 : Int32} {x1 : Int32} (h_x1 : zs_in x1.toInt 0 5) : zs_ok (fX9_bit x0 x1) (fun r => zs_in (r).toInt 0 1) := by
  unfold fX9_bit
  exact zs_some (zs_and zlI_1 (by decide))
-- BX9_netsTo_88
theorem zb_66 {σ0 : sn_S} {σ : sn_S} (h_σ : zs_N σ0 σ) {x1 : Int32} (h_x1 : zs_in x1.toInt 0 5) {x2 : Int32} {x3 : Int32} {x4 : Int32} (h_x4 : zs_in x4.toInt 0 7) {c : Int} (hc : x4.toInt = c + 0) : zs_ok (BX9_netsTo_88 σ x1 x2 x3 x4) (fun r => zs_sum (fun v => ((True ∧ zs_in (v.2).toInt 1 8)) ∧ v.2.toInt = c + 1) (fun v => False) r) := by
  unfold BX9_netsTo_88
  refine zs_lt (Q := fun z => True) trivial (fun y_1 hy_1 => ?_)
  obtain ⟨ret, er, hr⟩ := zb_64 h_σ h_x1 h_x4 hc
  refine ⟨ret, er, ?_⟩
  exact (zs_sumw hr (fun v w => ⟨w.1, w.2⟩) (fun v w => w.elim))
-- BX9_netsTo_72
theorem zb_67 {σ0 : sn_S} {σ : sn_S} (h_σ : zs_N σ0 σ) {x1 : Int32} (h_x1 : zs_in x1.toInt 0 5) {x2 : Int32} {x3 : Int32} {x4 : Int32} (h_x4 : zs_in x4.toInt 0 7) {x5 : Int32} (h_x5 : zs_in x5.toInt 0 5) {x6 : Int32} (h_x6 : zs_in x6.toInt 0 5) {c : Int} (hc : x4.toInt = c + 0) : zs_ok (BX9_netsTo_72 σ x1 x2 x3 x4 x5 x6) (fun r => zs_sum (fun v => ((True ∧ zs_in (v.2).toInt 1 8)) ∧ v.2.toInt = c + 1) (fun v => False) r) := by
  unfold BX9_netsTo_72
  refine zs_ite (fun c1 => ?_) (fun c1 => ?_)
  · skip
    have r2 := (zs_I_eq c1)
    refine zs_bd_ (zb_65 h_x5) (fun t_2 pt_2 => ?_)
    refine zs_ite (fun c3 => ?_) (fun c3 => ?_)
    · skip
      have r4 := (zs_I_eq c3)
      have g5 : zs_in (t_2).toInt 1 1 := (zs_eql 1 1 r4 pt_2 zlI_1 (by decide))
      obtain ⟨ret, er, hr⟩ := zb_66 h_σ h_x1 h_x4 hc
      refine ⟨ret, er, ?_⟩
      exact (zs_sumw hr (fun v w => ⟨w.1, w.2⟩) (fun v w => w.elim))
    · skip
      have r6 := (zs_I_eqn c3)
      have g7 : zs_in (t_2).toInt 0 0 := (zs_neh 0 0 r6 pt_2 zlI_1 (by decide))
      obtain ⟨ret, er, hr⟩ := zb_64 h_σ h_x1 h_x4 hc
      refine ⟨ret, er, ?_⟩
      exact (zs_sumw hr (fun v w => ⟨w.1, w.2⟩) (fun v w => w.elim))
  · skip
    have r8 := (zs_I_eqn c1)
    obtain ⟨ret, er, hr⟩ := zb_64 h_σ h_x1 h_x4 hc
    refine ⟨ret, er, ?_⟩
    exact (zs_sumw hr (fun v w => ⟨w.1, w.2⟩) (fun v w => w.elim))
-- BX9_netsTo_5
theorem zb_68 {σ0 : sn_S} {σ : sn_S} (h_σ : zs_N σ0 σ) {x1 : Int32} (h_x1 : zs_in x1.toInt 0 5) {x2 : Int32} {x3 : Int32} {x4 : Int32} (h_x4 : zs_in x4.toInt 0 8) {c : Int} (hc : x4.toInt = c + 0) : zs_ok (BX9_netsTo_5 σ x1 x2 x3 x4) (fun r => zs_sum (fun v => ((True ∧ zs_in (v.2).toInt 1 8)) ∧ v.2.toInt = c + 1) (fun v => True) r) := by
  unfold BX9_netsTo_5
  refine zs_gd (zs_gin zlI_7 (by decide)) ?_
  refine zs_ite (fun c1 => ?_) (fun c1 => ?_)
  · skip
    have r2 := (zs_I_le c1)
    exact zs_some (zs_inr (trivial))
  · skip
    have r3 := (zs_I_len c1)
    have g4 : zs_in (x4).toInt 0 7 := (zs_ltl 0 7 r3 h_x4 (zs_rdk (q := 1) (k := (7 : Int32).toNatClampNeg) (z := (0, 8)) h_σ.1 rfl) (by decide))
    have g5 : zs_in ((sn_I σ 1 (7 : Int32).toNatClampNeg)).toInt 1 8 := (zs_ltr 1 8 r3 h_x4 (zs_rdk (q := 1) (k := (7 : Int32).toNatClampNeg) (z := (0, 8)) h_σ.1 rfl) (by decide))
    refine zs_gd (zs_gin (zs_addI 33 47 zlI_33 (zs_mulI 0 14 zlI_2 g4 (by decide)) (by decide)) (by decide)) ?_
    refine zs_lt (Q := fun z => zs_in z.toInt 0 5) (zs_rdb (q := 1) (lo := 0) (hi := 5) h_σ.1 (zs_cases g4 (fun z => zs_bd (zs_tM 1 ((33 : Int32) + ((2 : Int32) * z)).toNatClampNeg) 0 5) (by decide +kernel))) (fun y_4 hy_4 => ?_)
    refine zs_gd (zs_gin (zs_addI 34 48 (zs_addI 33 47 zlI_33 (zs_mulI 0 14 zlI_2 g4 (by decide)) (by decide)) zlI_1 (by decide)) (by decide)) ?_
    refine zs_lt (Q := fun z => zs_in z.toInt 0 5) (zs_rdb (q := 1) (lo := 0) (hi := 5) h_σ.1 (zs_cases g4 (fun z => zs_bd (zs_tM 1 (((33 : Int32) + ((2 : Int32) * z)) + (1 : Int32)).toNatClampNeg) 0 5) (by decide +kernel))) (fun y_7 hy_7 => ?_)
    refine zs_ite (fun c6 => ?_) (fun c6 => ?_)
    · skip
      have r7 := (zs_I_eq c6)
      have g8 : zs_in ((sn_I σ 0 19)).toInt 0 7 := (zs_eqr 0 7 r7 g4 (zs_topI _) (by decide))
      obtain ⟨ret, er, hr⟩ := zb_64 h_σ h_x1 g4 hc
      refine ⟨ret, er, ?_⟩
      exact (zs_sumw hr (fun v w => ⟨w.1, w.2⟩) (fun v w => w.elim))
    · skip
      have r9 := (zs_I_eqn c6)
      refine zs_ite (fun c10 => ?_) (fun c10 => ?_)
      · skip
        have r11 := (zs_I_eq c10)
        refine zs_bd_ (zb_65 hy_7) (fun t_11 pt_11 => ?_)
        refine zs_ite (fun c12 => ?_) (fun c12 => ?_)
        · skip
          have r13 := (zs_I_eq c12)
          have g14 : zs_in (t_11).toInt 1 1 := (zs_eql 1 1 r13 pt_11 zlI_1 (by decide))
          obtain ⟨ret, er, hr⟩ := zb_66 h_σ h_x1 g4 hc
          refine ⟨ret, er, ?_⟩
          exact (zs_sumw hr (fun v w => ⟨w.1, w.2⟩) (fun v w => w.elim))
        · skip
          have r15 := (zs_I_eqn c12)
          have g16 : zs_in (t_11).toInt 0 0 := (zs_neh 0 0 r15 pt_11 zlI_1 (by decide))
          obtain ⟨ret, er, hr⟩ := zb_67 h_σ h_x1 g4 hy_4 hy_7 hc
          refine ⟨ret, er, ?_⟩
          exact (zs_sumw hr (fun v w => ⟨w.1, w.2⟩) (fun v w => w.elim))
      · skip
        have r17 := (zs_I_eqn c10)
        obtain ⟨ret, er, hr⟩ := zb_67 h_σ h_x1 g4 hy_4 hy_7 hc
        refine ⟨ret, er, ?_⟩
        exact (zs_sumw hr (fun v w => ⟨w.1, w.2⟩) (fun v w => w.elim))
theorem ze_12 {σ0 : sn_S} {σ : sn_S} (h_σ : zs_N σ0 σ) {x1 : Int32} (h_x1 : zs_in x1.toInt 0 5) {x2 : Int32} {s0 : (Int32 × Int32)} (h0 : (True ∧ zs_in (s0.2).toInt 0 8)) : zs_ok (sn_it (LX9_netsTo_5 σ x1 x2) 5000 s0) (fun t => True) := by
  refine zs_it (I := fun s => (True ∧ zs_in (s.2).toInt 0 8)) (m := fun s => 8 - s.2.toInt) (fun s hs => ?_) (fun s hs => ?_) (by exact h0)
  · have h1 := hs.2; unfold zs_in at h1
    omega
  · obtain ⟨b, eb, hb⟩ := zb_68 h_σ h_x1 hs.2 (c := s.2.toInt) (Int.add_zero _).symm
    exact ⟨b, eb, zs_sumw hb (fun v w => ⟨⟨w.1.1, (zs_w w.1.2 (by decide))⟩, by have := w.2; omega⟩) (fun v w => w)⟩
-- fX9_netsTo
theorem zb_69 {σ0 : sn_S} {σ : sn_S} (h_σ : zs_N σ0 σ) {x1 : Int32} (h_x1 : zs_in x1.toInt 0 5) {x2 : Int32} : zs_ok (fX9_netsTo σ x1 x2) (fun r => True) := by
  unfold fX9_netsTo
  refine zs_bd_ (ze_12 h_σ h_x1 (s0 := ((0 : Int32), (0 : Int32))) ⟨trivial, (zs_w zlI_0 (by decide))⟩) (fun t_1 pt_1 => ?_)
  obtain ⟨ret, er, hr⟩ := zb_48 h_σ
  refine ⟨ret, er, ?_⟩
  exact hr
-- fX9_bit
theorem zb_70 {x0 : Int32} {x1 : Int32} (h_x1 : zs_in x1.toInt 1 29) : zs_ok (fX9_bit x0 x1) (fun r => zs_in (r).toInt 0 1) := by
  unfold fX9_bit
  exact zs_some (zs_and zlI_1 (by decide))
-- BX9_goMinute_225
theorem zb_71 {σ0 : sn_S} {σ : sn_S} (h_σ : zs_N σ0 σ) {x1 : Int32} (h_x1 : zs_in x1.toInt 1 29) {x2 : Int32} {x3 : Int32} (h_x3 : zs_in x3.toInt 0 5) {c : Int} (hc : x3.toInt = c + 0) : zs_ok (BX9_goMinute_225 σ x1 x2 x3) (fun r => zs_sum (fun v => ((zs_N σ0 v.1 ∧ zs_in (v.2).toInt 1 6)) ∧ v.2.toInt = c + 1) (fun v => False) r) := by
  unfold BX9_goMinute_225
  refine zs_lt (Q := fun z => zs_in z.toInt 1 6 ∧ z.toInt = c + 1) ⟨(zs_addI 1 6 h_x3 zlI_1 (by decide)), (zs_syI 1 hc h_x3 zlI_1 (by decide) (by decide))⟩ (fun y_1 hy_1 => ?_)
  exact zs_some (zs_inl ⟨⟨h_σ, hy_1.1⟩, hy_1.2⟩)
-- BX9_goMinute_192
theorem zb_72 {σ0 : sn_S} {σ : sn_S} (h_σ : zs_N σ0 σ) {x1 : Int32} (h_x1 : zs_in x1.toInt 1 29) {x2 : Int32} {x3 : Int32} (h_x3 : zs_in x3.toInt 0 5) {x7 : Int32} (h_x7 : zs_in x7.toInt 0 0) {t1 : Int32} (h_t1 : zs_in t1.toInt 6 179) {t2 : Int32} (h_t2 : zs_in t2.toInt (-2147483648) 98) {c : Int} (hc : x3.toInt = c + 0) : zs_ok (BX9_goMinute_192 σ x1 x2 x3 x7 t1 t2) (fun r => zs_sum (fun v => ((zs_N σ0 v.1 ∧ zs_in (v.2).toInt 1 6)) ∧ v.2.toInt = c + 1) (fun v => False) r) := by
  unfold BX9_goMinute_192
  obtain rfl : x7 = (0 : Int32) := zs_eqv h_x7 (by decide)
  refine zs_gd (zs_gin h_t1 (by decide)) ?_
  refine zs_lt (Q := fun z => zs_N σ0 z) (zs_wrt h_σ (fun _ => rfl) (fun _ => rfl)) (fun σ_2 hσ_2 => ?_)
  refine zs_ite (fun c1 => ?_) (fun c1 => ?_)
  · skip
    have r2 := (zs_I_eq c1)
    obtain ⟨ret, er, hr⟩ := zb_71 hσ_2 h_x1 h_x3 hc
    refine ⟨ret, er, ?_⟩
    exact (zs_sumw hr (fun v w => ⟨w.1, w.2⟩) (fun v w => w.elim))
  · skip
    have r3 := (zs_I_eqn c1)
    exact (zs_botne r3 h_x7 zlI_0 (by decide)).elim
-- BX9_goMinute_145
theorem zb_73 {σ0 : sn_S} {σ : sn_S} (h_σ : zs_N σ0 σ) {x1 : Int32} (h_x1 : zs_in x1.toInt 1 29) {x2 : Int32} {x3 : Int32} (h_x3 : zs_in x3.toInt 0 5) {x4 : Int32} {x5 : Int32} {x6 : Int32} (h_x6 : zs_in x6.toInt (-2147483648) 98) {t0 : Int32} (h_t0 : zs_in t0.toInt 0 0) {c : Int} (hc : x3.toInt = c + 0) : zs_ok (BX9_goMinute_145 σ x1 x2 x3 x4 x5 x6 t0) (fun r => zs_sum (fun v => ((zs_N σ0 v.1 ∧ zs_in (v.2).toInt 1 6)) ∧ v.2.toInt = c + 1) (fun v => False) r) := by
  unfold BX9_goMinute_145
  obtain rfl : t0 = (0 : Int32) := zs_eqv h_t0 (by decide)
  refine zs_gd (zs_gin h_x3 (by decide)) ?_
  refine zs_gd (zs_gin h_x3 (by decide)) ?_
  refine zs_lt (Q := fun z => zs_N σ0 z) (zs_wrt h_σ (fun _ => rfl) (fun _ => rfl)) (fun σ_3 hσ_3 => ?_)
  refine zs_gd (zs_gin (zs_addI 6 179 (zs_mulI 6 174 zlI_6 h_x1 (by decide)) h_x3 (by decide)) (by decide)) ?_
  refine zs_lt (Q := fun z => zs_N σ0 z) (zs_wrt hσ_3 (fun _ => rfl) (fun _ => rfl)) (fun σ_6 hσ_6 => ?_)
  refine zs_ite (fun c1 => ?_) (fun c1 => ?_)
  · skip
    have r2 := (zs_I_eq c1)
    obtain ⟨ret, er, hr⟩ := zb_72 hσ_6 h_x1 h_x3 h_t0 (zs_addI 6 179 (zs_mulI 6 174 zlI_6 h_x1 (by decide)) h_x3 (by decide)) h_x6 hc
    refine ⟨ret, er, ?_⟩
    exact (zs_sumw hr (fun v w => ⟨w.1, w.2⟩) (fun v w => w.elim))
  · skip
    have r3 := (zs_I_eqn c1)
    exact (zs_botne r3 h_t0 zlI_0 (by decide)).elim
-- BX9_goMinute_144
theorem zb_74 {σ0 : sn_S} {σ : sn_S} (h_σ : zs_N σ0 σ) {x1 : Int32} (h_x1 : zs_in x1.toInt 1 29) {x2 : Int32} {x3 : Int32} (h_x3 : zs_in x3.toInt 0 5) {x4 : Int32} {x5 : Int32} {x6 : Int32} (h_x6 : zs_in x6.toInt (-2147483648) 98) {c : Int} (hc : x3.toInt = c + 0) : zs_ok (BX9_goMinute_144 σ x1 x2 x3 x4 x5 x6) (fun r => zs_sum (fun v => ((zs_N σ0 v.1 ∧ zs_in (v.2).toInt 1 6)) ∧ v.2.toInt = c + 1) (fun v => False) r) := by
  unfold BX9_goMinute_144
  obtain ⟨ret, er, hr⟩ := zb_73 h_σ h_x1 h_x3 h_x6 zlI_0 hc
  refine ⟨ret, er, ?_⟩
  exact (zs_sumw hr (fun v w => ⟨w.1, w.2⟩) (fun v w => w.elim))
-- BX9_goMinute_192
theorem zb_75 {σ0 : sn_S} {σ : sn_S} (h_σ : zs_N σ0 σ) {x1 : Int32} (h_x1 : zs_in x1.toInt 1 29) {x2 : Int32} {x3 : Int32} (h_x3 : zs_in x3.toInt 0 5) {x7 : Int32} (h_x7 : zs_in x7.toInt 1 1) {t1 : Int32} (h_t1 : zs_in t1.toInt 6 179) {t2 : Int32} (h_t2 : zs_in t2.toInt 0 0) {c : Int} (hc : x3.toInt = c + 0) : zs_ok (BX9_goMinute_192 σ x1 x2 x3 x7 t1 t2) (fun r => zs_sum (fun v => ((zs_N σ0 v.1 ∧ zs_in (v.2).toInt 1 6)) ∧ v.2.toInt = c + 1) (fun v => False) r) := by
  unfold BX9_goMinute_192
  obtain rfl : x7 = (1 : Int32) := zs_eqv h_x7 (by decide)
  obtain rfl : t2 = (0 : Int32) := zs_eqv h_t2 (by decide)
  refine zs_gd (zs_gin h_t1 (by decide)) ?_
  refine zs_lt (Q := fun z => zs_N σ0 z) (zs_wrt h_σ (fun _ => rfl) (fun _ => rfl)) (fun σ_2 hσ_2 => ?_)
  refine zs_ite (fun c1 => ?_) (fun c1 => ?_)
  · skip
    have r2 := (zs_I_eq c1)
    exact (zs_botr r2 h_x7 zlI_0 (by decide)).elim
  · skip
    have r3 := (zs_I_eqn c1)
    refine zs_gd (zs_gin h_x1 (by decide)) ?_
    refine zs_gd (zs_gin h_x1 (by decide)) ?_
    refine zs_lt (Q := fun z => zs_N σ0 z) (zs_wrt hσ_2 (fun _ => rfl) (fun _ => rfl)) (fun σ_7 hσ_7 => ?_)
    refine zs_gd (zs_gin h_x3 (by decide)) ?_
    refine zs_gd (zs_gin h_x3 (by decide)) ?_
    refine zs_lt (Q := fun z => zs_N σ0 z) (zs_wru (z := (0, 1073741823)) hσ_7 (fun _ => rfl) (zs_or 30 1073741823 (zs_rdu (q := 10) (z := (0, 1073741823)) hσ_7.1 (fun _ => rfl)) (zs_cases h_x1 (fun z => zs_in ((1 : Int32) <<< (z &&& 31)).toInt 2 536870912) (by decide +kernel)) (by decide)) (by decide) (fun _ => rfl)) (fun σ_11 hσ_11 => ?_)
    obtain ⟨ret, er, hr⟩ := zb_71 hσ_11 h_x1 h_x3 hc
    refine ⟨ret, er, ?_⟩
    exact (zs_sumw hr (fun v w => ⟨w.1, w.2⟩) (fun v w => w.elim))
-- BX9_goMinute_145
theorem zb_76 {σ0 : sn_S} {σ : sn_S} (h_σ : zs_N σ0 σ) {x1 : Int32} (h_x1 : zs_in x1.toInt 1 29) {x2 : Int32} {x3 : Int32} (h_x3 : zs_in x3.toInt 0 5) {x4 : Int32} {x5 : Int32} {x6 : Int32} (h_x6 : zs_in x6.toInt 0 2147483647) {t0 : Int32} (h_t0 : zs_in t0.toInt 1 1) {c : Int} (hc : x3.toInt = c + 0) : zs_ok (BX9_goMinute_145 σ x1 x2 x3 x4 x5 x6 t0) (fun r => zs_sum (fun v => ((zs_N σ0 v.1 ∧ zs_in (v.2).toInt 1 6)) ∧ v.2.toInt = c + 1) (fun v => False) r) := by
  unfold BX9_goMinute_145
  obtain rfl : t0 = (1 : Int32) := zs_eqv h_t0 (by decide)
  refine zs_gd (zs_gin h_x3 (by decide)) ?_
  refine zs_gd (zs_gin h_x3 (by decide)) ?_
  refine zs_lt (Q := fun z => zs_N σ0 z) (zs_wrt h_σ (fun _ => rfl) (fun _ => rfl)) (fun σ_3 hσ_3 => ?_)
  refine zs_gd (zs_gin (zs_addI 6 179 (zs_mulI 6 174 zlI_6 h_x1 (by decide)) h_x3 (by decide)) (by decide)) ?_
  refine zs_lt (Q := fun z => zs_N σ0 z) (zs_wrt hσ_3 (fun _ => rfl) (fun _ => rfl)) (fun σ_6 hσ_6 => ?_)
  refine zs_ite (fun c1 => ?_) (fun c1 => ?_)
  · skip
    have r2 := (zs_I_eq c1)
    exact (zs_botr r2 h_t0 zlI_0 (by decide)).elim
  · skip
    have r3 := (zs_I_eqn c1)
    obtain ⟨ret, er, hr⟩ := zb_75 hσ_6 h_x1 h_x3 h_t0 (zs_addI 6 179 (zs_mulI 6 174 zlI_6 h_x1 (by decide)) h_x3 (by decide)) zlI_0 hc
    refine ⟨ret, er, ?_⟩
    exact (zs_sumw hr (fun v w => ⟨w.1, w.2⟩) (fun v w => w.elim))
-- BX9_goMinute_192
theorem zb_77 {σ0 : sn_S} {σ : sn_S} (h_σ : zs_N σ0 σ) {x1 : Int32} (h_x1 : zs_in x1.toInt 1 29) {x2 : Int32} {x3 : Int32} (h_x3 : zs_in x3.toInt 0 5) {x7 : Int32} (h_x7 : zs_in x7.toInt 0 0) {t1 : Int32} (h_t1 : zs_in t1.toInt 6 179) {t2 : Int32} (h_t2 : zs_in t2.toInt 0 2147483647) {c : Int} (hc : x3.toInt = c + 0) : zs_ok (BX9_goMinute_192 σ x1 x2 x3 x7 t1 t2) (fun r => zs_sum (fun v => ((zs_N σ0 v.1 ∧ zs_in (v.2).toInt 1 6)) ∧ v.2.toInt = c + 1) (fun v => False) r) := by
  unfold BX9_goMinute_192
  obtain rfl : x7 = (0 : Int32) := zs_eqv h_x7 (by decide)
  refine zs_gd (zs_gin h_t1 (by decide)) ?_
  refine zs_lt (Q := fun z => zs_N σ0 z) (zs_wrt h_σ (fun _ => rfl) (fun _ => rfl)) (fun σ_2 hσ_2 => ?_)
  refine zs_ite (fun c1 => ?_) (fun c1 => ?_)
  · skip
    have r2 := (zs_I_eq c1)
    obtain ⟨ret, er, hr⟩ := zb_71 hσ_2 h_x1 h_x3 hc
    refine ⟨ret, er, ?_⟩
    exact (zs_sumw hr (fun v w => ⟨w.1, w.2⟩) (fun v w => w.elim))
  · skip
    have r3 := (zs_I_eqn c1)
    exact (zs_botne r3 h_x7 zlI_0 (by decide)).elim
-- BX9_goMinute_145
theorem zb_78 {σ0 : sn_S} {σ : sn_S} (h_σ : zs_N σ0 σ) {x1 : Int32} (h_x1 : zs_in x1.toInt 1 29) {x2 : Int32} {x3 : Int32} (h_x3 : zs_in x3.toInt 0 5) {x4 : Int32} {x5 : Int32} {x6 : Int32} (h_x6 : zs_in x6.toInt 0 2147483647) {t0 : Int32} (h_t0 : zs_in t0.toInt 0 0) {c : Int} (hc : x3.toInt = c + 0) : zs_ok (BX9_goMinute_145 σ x1 x2 x3 x4 x5 x6 t0) (fun r => zs_sum (fun v => ((zs_N σ0 v.1 ∧ zs_in (v.2).toInt 1 6)) ∧ v.2.toInt = c + 1) (fun v => False) r) := by
  unfold BX9_goMinute_145
  obtain rfl : t0 = (0 : Int32) := zs_eqv h_t0 (by decide)
  refine zs_gd (zs_gin h_x3 (by decide)) ?_
  refine zs_gd (zs_gin h_x3 (by decide)) ?_
  refine zs_lt (Q := fun z => zs_N σ0 z) (zs_wrt h_σ (fun _ => rfl) (fun _ => rfl)) (fun σ_3 hσ_3 => ?_)
  refine zs_gd (zs_gin (zs_addI 6 179 (zs_mulI 6 174 zlI_6 h_x1 (by decide)) h_x3 (by decide)) (by decide)) ?_
  refine zs_lt (Q := fun z => zs_N σ0 z) (zs_wrt hσ_3 (fun _ => rfl) (fun _ => rfl)) (fun σ_6 hσ_6 => ?_)
  refine zs_ite (fun c1 => ?_) (fun c1 => ?_)
  · skip
    have r2 := (zs_I_eq c1)
    obtain ⟨ret, er, hr⟩ := zb_77 hσ_6 h_x1 h_x3 h_t0 (zs_addI 6 179 (zs_mulI 6 174 zlI_6 h_x1 (by decide)) h_x3 (by decide)) h_x6 hc
    refine ⟨ret, er, ?_⟩
    exact (zs_sumw hr (fun v w => ⟨w.1, w.2⟩) (fun v w => w.elim))
  · skip
    have r3 := (zs_I_eqn c1)
    exact (zs_botne r3 h_t0 zlI_0 (by decide)).elim
-- BX9_goMinute_144
theorem zb_79 {σ0 : sn_S} {σ : sn_S} (h_σ : zs_N σ0 σ) {x1 : Int32} (h_x1 : zs_in x1.toInt 1 29) {x2 : Int32} {x3 : Int32} (h_x3 : zs_in x3.toInt 0 5) {x4 : Int32} {x5 : Int32} {x6 : Int32} (h_x6 : zs_in x6.toInt 0 2147483647) {c : Int} (hc : x3.toInt = c + 0) : zs_ok (BX9_goMinute_144 σ x1 x2 x3 x4 x5 x6) (fun r => zs_sum (fun v => ((zs_N σ0 v.1 ∧ zs_in (v.2).toInt 1 6)) ∧ v.2.toInt = c + 1) (fun v => False) r) := by
  unfold BX9_goMinute_144
  obtain ⟨ret, er, hr⟩ := zb_78 h_σ h_x1 h_x3 h_x6 zlI_0 hc
  refine ⟨ret, er, ?_⟩
  exact (zs_sumw hr (fun v w => ⟨w.1, w.2⟩) (fun v w => w.elim))
-- BX9_goMinute_104
theorem zb_80 {σ0 : sn_S} {σ : sn_S} (h_σ : zs_N σ0 σ) {x1 : Int32} (h_x1 : zs_in x1.toInt 1 29) {x2 : Int32} {x3 : Int32} (h_x3 : zs_in x3.toInt 0 5) {x4 : Int32} {x5 : Int32} {t0 : Int32} {c : Int} (hc : x3.toInt = c + 0) : zs_ok (BX9_goMinute_104 σ x1 x2 x3 x4 x5 t0) (fun r => zs_sum (fun v => ((zs_N σ0 v.1 ∧ zs_in (v.2).toInt 1 6)) ∧ v.2.toInt = c + 1) (fun v => False) r) := by
  unfold BX9_goMinute_104
  refine zs_lt (Q := fun z => True) trivial (fun y_1 hy_1 => ?_)
  refine zs_gd (zs_gin (zs_addI 12 22 (zs_addI 11 21 zlI_11 (zs_mulI 0 10 zlI_2 h_x3 (by decide)) (by decide)) zlI_1 (by decide)) (by decide)) ?_
  refine zs_ite (fun c1 => ?_) (fun c1 => ?_)
  · skip
    have r2 := (zs_I_lt c1)
    have g3 : zs_in (y_1).toInt (-2147483648) 98 := (zs_ltl (-2147483648) 98 r2 (zs_topI _) (zs_rdb (q := 1) (lo := 0) (hi := 99) h_σ.1 (zs_cases h_x3 (fun z => zs_bd (zs_tM 1 (((11 : Int32) + ((2 : Int32) * z)) + (1 : Int32)).toNatClampNeg) 0 99) (by decide +kernel))) (by decide))
    obtain ⟨ret, er, hr⟩ := zb_74 h_σ h_x1 h_x3 g3 hc
    refine ⟨ret, er, ?_⟩
    exact (zs_sumw hr (fun v w => ⟨w.1, w.2⟩) (fun v w => w.elim))
  · skip
    have r4 := (zs_I_ltn c1)
    have g5 : zs_in (y_1).toInt 0 2147483647 := (zs_ler 0 2147483647 r4 (zs_rdb (q := 1) (lo := 0) (hi := 99) h_σ.1 (zs_cases h_x3 (fun z => zs_bd (zs_tM 1 (((11 : Int32) + ((2 : Int32) * z)) + (1 : Int32)).toNatClampNeg) 0 99) (by decide +kernel))) (zs_topI _) (by decide))
    refine zs_gd (zs_gin h_x3 (by decide)) ?_
    refine zs_bd_ (zb_70 h_x1) (fun t_6 pt_6 => ?_)
    refine zs_ite (fun c6 => ?_) (fun c6 => ?_)
    · skip
      have r7 := (zs_I_eq c6)
      have g8 : zs_in (t_6).toInt 0 0 := (zs_eql 0 0 r7 pt_6 zlI_0 (by decide))
      obtain ⟨ret, er, hr⟩ := zb_76 h_σ h_x1 h_x3 g5 zlI_1 hc
      refine ⟨ret, er, ?_⟩
      exact (zs_sumw hr (fun v w => ⟨w.1, w.2⟩) (fun v w => w.elim))
    · skip
      have r9 := (zs_I_eqn c6)
      have g10 : zs_in (t_6).toInt 1 1 := (zs_nel 1 1 r9 pt_6 zlI_0 (by decide))
      obtain ⟨ret, er, hr⟩ := zb_79 h_σ h_x1 h_x3 g5 hc
      refine ⟨ret, er, ?_⟩
      exact (zs_sumw hr (fun v w => ⟨w.1, w.2⟩) (fun v w => w.elim))
-- BX9_goMinute_26
theorem zb_81 {σ0 : sn_S} {σ : sn_S} (h_σ : zs_N σ0 σ) {x1 : Int32} (h_x1 : zs_in x1.toInt 1 29) {x2 : Int32} {x3 : Int32} (h_x3 : zs_in x3.toInt 0 6) {c : Int} (hc : x3.toInt = c + 0) : zs_ok (BX9_goMinute_26 σ x1 x2 x3) (fun r => zs_sum (fun v => ((zs_N σ0 v.1 ∧ zs_in (v.2).toInt 1 6)) ∧ v.2.toInt = c + 1) (fun v => zs_N σ0 v) r) := by
  unfold BX9_goMinute_26
  refine zs_gd (zs_gin zlI_5 (by decide)) ?_
  refine zs_ite (fun c1 => ?_) (fun c1 => ?_)
  · skip
    have r2 := (zs_I_le c1)
    exact zs_some (zs_inr (h_σ))
  · skip
    have r3 := (zs_I_len c1)
    have g4 : zs_in (x3).toInt 0 5 := (zs_ltl 0 5 r3 h_x3 (zs_rdk (q := 1) (k := (5 : Int32).toNatClampNeg) (z := (0, 6)) h_σ.1 rfl) (by decide))
    have g5 : zs_in ((sn_I σ 1 (5 : Int32).toNatClampNeg)).toInt 1 6 := (zs_ltr 1 6 r3 h_x3 (zs_rdk (q := 1) (k := (5 : Int32).toNatClampNeg) (z := (0, 6)) h_σ.1 rfl) (by decide))
    refine zs_bd_ (zb_69 h_σ g4) (fun t_3 pt_3 => ?_)
    refine zs_lt (Q := fun z => True) trivial (fun y_5 hy_5 => ?_)
    refine zs_gd (zs_gin (zs_addI 11 21 zlI_11 (zs_mulI 0 10 zlI_2 g4 (by decide)) (by decide)) (by decide)) ?_
    refine zs_gd (zs_gin h_x1 (by decide)) ?_
    refine zs_gd (zs_gin g4 (by decide)) ?_
    refine zs_bd_ (zb_70 h_x1) (fun t_10 pt_10 => ?_)
    refine zs_lt (Q := fun z => True) trivial (fun y_12 hy_12 => ?_)
    refine zs_ite (fun c6 => ?_) (fun c6 => ?_)
    · skip
      have r7 := (zs_I_eq c6)
      exact (zs_botr r7 h_x1 zlI_0 (by decide)).elim
    · skip
      have r8 := (zs_I_eqn c6)
      refine zs_gd (zs_gin (zs_addI 0 173 (zs_mulI 0 168 zlI_6 (zs_subI 0 28 h_x1 zlI_1 (by decide)) (by decide)) g4 (by decide)) (by decide)) ?_
      obtain ⟨ret, er, hr⟩ := zb_80 h_σ h_x1 g4 hc
      refine ⟨ret, er, ?_⟩
      exact (zs_sumw hr (fun v w => ⟨w.1, w.2⟩) (fun v w => w.elim))
theorem ze_13 {σ0 : sn_S} {x1 : Int32} (h_x1 : zs_in x1.toInt 1 29) {x2 : Int32} {s0 : (sn_S × Int32)} (h0 : (zs_N σ0 s0.1 ∧ zs_in (s0.2).toInt 0 6)) : zs_ok (sn_it (LX9_goMinute_26 x1 x2) 5000 s0) (fun t => zs_N σ0 t) := by
  refine zs_it (I := fun s => (zs_N σ0 s.1 ∧ zs_in (s.2).toInt 0 6)) (m := fun s => 6 - s.2.toInt) (fun s hs => ?_) (fun s hs => ?_) (by exact h0)
  · have h1 := hs.2; unfold zs_in at h1
    omega
  · obtain ⟨b, eb, hb⟩ := zb_81 hs.1 h_x1 hs.2 (c := s.2.toInt) (Int.add_zero _).symm
    exact ⟨b, eb, zs_sumw hb (fun v w => ⟨⟨w.1.1, (zs_w w.1.2 (by decide))⟩, by have := w.2; omega⟩) (fun v w => w)⟩
-- BX9_goMinute_23
theorem zb_82 {σ0 : sn_S} {σ : sn_S} (h_σ : zs_N σ0 σ) {x1 : Int32} (h_x1 : zs_in x1.toInt 1 29) {t0 : Int32} : zs_ok (BX9_goMinute_23 σ x1 t0) (fun r => zs_N σ0 r) := by
  unfold BX9_goMinute_23
  refine zs_bd_ (ze_13 h_x1 (s0 := (σ, (0 : Int32))) ⟨h_σ, (zs_w zlI_0 (by decide))⟩) (fun t_1 pt_1 => ?_)
  obtain ⟨ret, er, hr⟩ := zb_62 pt_1
  refine ⟨ret, er, ?_⟩
  exact hr
-- fX9_goMinute
theorem zb_83 {σ0 : sn_S} {σ : sn_S} (h_σ : zs_N σ0 σ) {x1 : Int32} (h_x1 : zs_in x1.toInt 0 29) : zs_ok (fX9_goMinute σ x1) (fun r => zs_N σ0 r) := by
  unfold fX9_goMinute
  refine zs_gd (zs_gin h_x1 (by decide)) ?_
  refine zs_lt (Q := fun z => zs_N σ0 z) (zs_wrt h_σ (fun _ => rfl) (fun _ => rfl)) (fun σ_2 hσ_2 => ?_)
  refine zs_ite (fun c1 => ?_) (fun c1 => ?_)
  · skip
    have r2 := (zs_I_eq c1)
    have g3 : zs_in (x1).toInt 0 0 := (zs_eql 0 0 r2 h_x1 zlI_0 (by decide))
    obtain ⟨ret, er, hr⟩ := zb_63 hσ_2 g3 zlI_0
    refine ⟨ret, er, ?_⟩
    exact hr
  · skip
    have r4 := (zs_I_eqn c1)
    have g5 : zs_in (x1).toInt 1 29 := (zs_nel 1 29 r4 h_x1 zlI_0 (by decide))
    refine zs_gd (zs_gin (zs_subI 0 28 g5 zlI_1 (by decide)) (by decide)) ?_
    obtain ⟨ret, er, hr⟩ := zb_82 hσ_2 g5
    refine ⟨ret, er, ?_⟩
    exact hr
-- BX9_goAll_30
theorem zb_84 {σ0 : sn_S} {σ : sn_S} (h_σ : zs_N σ0 σ) {x1 : Int32} (h_x1 : zs_in x1.toInt 0 30) {c : Int} (hc : x1.toInt = c + 0) : zs_ok (BX9_goAll_30 σ x1) (fun r => zs_sum (fun v => ((zs_N σ0 v.1 ∧ zs_in (v.2).toInt 1 30)) ∧ v.2.toInt = c + 1) (fun v => zs_N σ0 v) r) := by
  unfold BX9_goAll_30
  refine zs_ite (fun c1 => ?_) (fun c1 => ?_)
  · skip
    have r2 := (zs_I_lt c1)
    exact zs_some (zs_inr (h_σ))
  · skip
    have r3 := (zs_I_ltn c1)
    have g4 : zs_in (x1).toInt 0 29 := (zs_lel 0 29 r3 h_x1 (zs_rdk (q := 0) (k := 22) (z := ((-1), 29)) h_σ.1 rfl) (by decide))
    have g5 : zs_in ((sn_I σ 0 22)).toInt 0 29 := (zs_ler 0 29 r3 h_x1 (zs_rdk (q := 0) (k := 22) (z := ((-1), 29)) h_σ.1 rfl) (by decide))
    refine zs_bd_ (zb_83 h_σ g4) (fun t_2 pt_2 => ?_)
    refine zs_lt (Q := fun z => zs_in z.toInt 1 30 ∧ z.toInt = c + 1) ⟨(zs_addI 1 30 g4 zlI_1 (by decide)), (zs_syI 1 hc g4 zlI_1 (by decide) (by decide))⟩ (fun y_4 hy_4 => ?_)
    exact zs_some (zs_inl ⟨⟨pt_2, hy_4.1⟩, hy_4.2⟩)
theorem ze_14 {σ0 : sn_S}  {s0 : (sn_S × Int32)} (h0 : (zs_N σ0 s0.1 ∧ zs_in (s0.2).toInt 0 30)) : zs_ok (sn_it (LX9_goAll_30) 5000 s0) (fun t => zs_N σ0 t) := by
  refine zs_it (I := fun s => (zs_N σ0 s.1 ∧ zs_in (s.2).toInt 0 30)) (m := fun s => 30 - s.2.toInt) (fun s hs => ?_) (fun s hs => ?_) (by exact h0)
  · have h1 := hs.2; unfold zs_in at h1
    omega
  · obtain ⟨b, eb, hb⟩ := zb_84 hs.1 hs.2 (c := s.2.toInt) (Int.add_zero _).symm
    exact ⟨b, eb, zs_sumw hb (fun v w => ⟨⟨w.1.1, (zs_w w.1.2 (by decide))⟩, by have := w.2; omega⟩) (fun v w => w)⟩
-- BX9_goAll_49
theorem zb_85 {σ0 : sn_S} {σ : sn_S} (h_σ : zs_N σ0 σ) : zs_ok (BX9_goAll_49 σ) (fun r => zs_N σ0 r) := by
  unfold BX9_goAll_49
  exact zs_some h_σ
-- BX9_goAll_28
theorem zb_86 {σ0 : sn_S} {σ : sn_S} (h_σ : zs_N σ0 σ) : zs_ok (BX9_goAll_28 σ) (fun r => zs_N σ0 r) := by
  unfold BX9_goAll_28
  refine zs_bd_ (ze_14  (s0 := (σ, (0 : Int32))) ⟨h_σ, (zs_w zlI_0 (by decide))⟩) (fun t_1 pt_1 => ?_)
  obtain ⟨ret, er, hr⟩ := zb_85 pt_1
  refine ⟨ret, er, ?_⟩
  exact hr
-- fX9_goAll
theorem zb_87 {σ0 : sn_S} {σ : sn_S} (h_σ : zs_N σ0 σ) : zs_ok (fX9_goAll σ) (fun r => zs_N σ0 r) := by
  unfold fX9_goAll
  refine zs_bd_ (ze_9  (s0 := (σ, (0 : Int32))) ⟨h_σ, (zs_w zlI_0 (by decide))⟩) (fun t_1 pt_1 => ?_)
  obtain ⟨ret, er, hr⟩ := zb_86 pt_1
  refine ⟨ret, er, ?_⟩
  exact hr
end
section
-- fX9_minutes
theorem zw_1 {σ0 : sn_S} {σ : sn_S} (h_σ : zs_W σ0 σ) : zs_ok (fX9_minutes σ) (fun r => zs_in (r).toInt 0 30) := by
  unfold fX9_minutes
  refine zs_gd (zs_gin zlI_0 (by decide)) ?_
  exact zs_some (zs_rdk (q := 1) (k := (0 : Int32).toNatClampNeg) (z := (0, 30)) h_σ.1 rfl)
-- BX9_asItIs_42
theorem zw_2 {σ0 : sn_S} {σ : sn_S} (h_σ : zs_W σ0 σ) {x1 : Int32} (h_x1 : zs_in x1.toInt 0 30) {c : Int} (hc : x1.toInt = c + 0) : zs_ok (BX9_asItIs_42 σ x1) (fun r => zs_sum (fun v => ((zs_W σ0 v.1 ∧ zs_in (v.2).toInt 1 30)) ∧ v.2.toInt = c + 1) (fun v => zs_W σ0 v) r) := by
  unfold BX9_asItIs_42
  refine zs_ite (fun c1 => ?_) (fun c1 => ?_)
  · skip
    have r2 := (zs_I_le c1)
    have g3 : zs_in (x1).toInt 30 30 := (zs_ler 30 30 r2 zlI_30 h_x1 (by decide))
    exact zs_some (zs_inr (h_σ))
  · skip
    have r4 := (zs_I_len c1)
    have g5 : zs_in (x1).toInt 0 29 := (zs_ltl 0 29 r4 h_x1 zlI_30 (by decide))
    refine zs_gd (zs_gin zlI_1 (by decide)) ?_
    refine zs_gd (zs_gin g5 (by decide)) ?_
    refine zs_lt (Q := fun z => zs_W σ0 z) (zs_wrt h_σ (fun _ => rfl) (fun _ => rfl)) (fun σ_4 hσ_4 => ?_)
    refine zs_lt (Q := fun z => zs_in z.toInt 1 30 ∧ z.toInt = c + 1) ⟨(zs_addI 1 30 g5 zlI_1 (by decide)), (zs_syI 1 hc g5 zlI_1 (by decide) (by decide))⟩ (fun y_6 hy_6 => ?_)
    exact zs_some (zs_inl ⟨⟨hσ_4, hy_6.1⟩, hy_6.2⟩)
theorem zx_1 {σ0 : sn_S}  {s0 : (sn_S × Int32)} (h0 : (zs_W σ0 s0.1 ∧ zs_in (s0.2).toInt 0 30)) : zs_ok (sn_it (LX9_asItIs_42) 5000 s0) (fun t => zs_W σ0 t) := by
  refine zs_it (I := fun s => (zs_W σ0 s.1 ∧ zs_in (s.2).toInt 0 30)) (m := fun s => 30 - s.2.toInt) (fun s hs => ?_) (fun s hs => ?_) (by exact h0)
  · have h1 := hs.2; unfold zs_in at h1
    omega
  · obtain ⟨b, eb, hb⟩ := zw_2 hs.1 hs.2 (c := s.2.toInt) (Int.add_zero _).symm
    exact ⟨b, eb, zs_sumw hb (fun v w => ⟨⟨w.1.1, (zs_w w.1.2 (by decide))⟩, by have := w.2; omega⟩) (fun v w => w)⟩
-- BX9_asItIs_68
theorem zw_3 {σ0 : sn_S} {σ : sn_S} (h_σ : zs_W σ0 σ) {x1 : Int32} (h_x1 : zs_in x1.toInt 0 5) {c : Int} (hc : x1.toInt = c + 0) : zs_ok (BX9_asItIs_68 σ x1) (fun r => zs_sum (fun v => ((zs_W σ0 v.1 ∧ zs_in (v.2).toInt 1 5)) ∧ v.2.toInt = c + 1) (fun v => zs_W σ0 v) r) := by
  unfold BX9_asItIs_68
  refine zs_gd (zs_gin zlI_6 (by decide)) ?_
  refine zs_ite (fun c1 => ?_) (fun c1 => ?_)
  · skip
    have r2 := (zs_I_le c1)
    exact zs_some (zs_inr (h_σ))
  · skip
    have r3 := (zs_I_len c1)
    have g4 : zs_in (x1).toInt 0 4 := (zs_ltl 0 4 r3 h_x1 (zs_rdk (q := 1) (k := (6 : Int32).toNatClampNeg) (z := (0, 5)) h_σ.1 rfl) (by decide))
    have g5 : zs_in ((sn_I σ 1 (6 : Int32).toNatClampNeg)).toInt 1 5 := (zs_ltr 1 5 r3 h_x1 (zs_rdk (q := 1) (k := (6 : Int32).toNatClampNeg) (z := (0, 5)) h_σ.1 rfl) (by decide))
    refine zs_gd (zs_gin (zs_addI 24 32 (zs_addI 23 31 zlI_23 (zs_mulI 0 8 zlI_2 g4 (by decide)) (by decide)) zlI_1 (by decide)) (by decide)) ?_
    refine zs_lt (Q := fun z => zs_in z.toInt 0 29) (zs_rdb (q := 1) (lo := 0) (hi := 29) h_σ.1 (zs_cases g4 (fun z => zs_bd (zs_tM 1 (((23 : Int32) + ((2 : Int32) * z)) + (1 : Int32)).toNatClampNeg) 0 29) (by decide +kernel))) (fun y_4 hy_4 => ?_)
    refine zs_gd (zs_gin hy_4 (by decide)) ?_
    refine zs_gd (zs_gin (zs_addI 23 31 zlI_23 (zs_mulI 0 8 zlI_2 g4 (by decide)) (by decide)) (by decide)) ?_
    refine zs_gd (zs_gin hy_4 (by decide)) ?_
    refine zs_lt (Q := fun z => zs_W σ0 z) (zs_wrt h_σ (fun _ => rfl) (fun _ => rfl)) (fun σ_9 hσ_9 => ?_)
    refine zs_lt (Q := fun z => zs_W σ0 z) (zs_wrkt hσ_9 rfl rfl) (fun σ_11 hσ_11 => ?_)
    refine zs_lt (Q := fun z => zs_in z.toInt 1 5 ∧ z.toInt = c + 1) ⟨(zs_addI 1 5 g4 zlI_1 (by decide)), (zs_syI 1 hc g4 zlI_1 (by decide) (by decide))⟩ (fun y_13 hy_13 => ?_)
    exact zs_some (zs_inl ⟨⟨hσ_11, hy_13.1⟩, hy_13.2⟩)
theorem zx_2 {σ0 : sn_S}  {s0 : (sn_S × Int32)} (h0 : (zs_W σ0 s0.1 ∧ zs_in (s0.2).toInt 0 5)) : zs_ok (sn_it (LX9_asItIs_68) 5000 s0) (fun t => zs_W σ0 t) := by
  refine zs_it (I := fun s => (zs_W σ0 s.1 ∧ zs_in (s.2).toInt 0 5)) (m := fun s => 5 - s.2.toInt) (fun s hs => ?_) (fun s hs => ?_) (by exact h0)
  · have h1 := hs.2; unfold zs_in at h1
    omega
  · obtain ⟨b, eb, hb⟩ := zw_3 hs.1 hs.2 (c := s.2.toInt) (Int.add_zero _).symm
    exact ⟨b, eb, zs_sumw hb (fun v w => ⟨⟨w.1.1, (zs_w w.1.2 (by decide))⟩, by have := w.2; omega⟩) (fun v w => w)⟩
-- BX9_asItIs_133
theorem zw_4 {σ0 : sn_S} {σ : sn_S} (h_σ : zs_W σ0 σ) {x1 : Int32} (h_x1 : zs_in x1.toInt 0 6) {c : Int} (hc : x1.toInt = c + 0) : zs_ok (BX9_asItIs_133 σ x1) (fun r => zs_sum (fun v => ((zs_W σ0 v.1 ∧ zs_in (v.2).toInt 1 6)) ∧ v.2.toInt = c + 1) (fun v => zs_W σ0 v) r) := by
  unfold BX9_asItIs_133
  refine zs_ite (fun c1 => ?_) (fun c1 => ?_)
  · skip
    have r2 := (zs_I_le c1)
    have g3 : zs_in (x1).toInt 6 6 := (zs_ler 6 6 r2 zlI_6 h_x1 (by decide))
    exact zs_some (zs_inr (h_σ))
  · skip
    have r4 := (zs_I_len c1)
    have g5 : zs_in (x1).toInt 0 5 := (zs_ltl 0 5 r4 h_x1 zlI_6 (by decide))
    refine zs_gd (zs_gin g5 (by decide)) ?_
    refine zs_lt (Q := fun z => zs_W σ0 z) (zs_wrt h_σ (fun _ => rfl) (fun _ => rfl)) (fun σ_3 hσ_3 => ?_)
    refine zs_gd (zs_gin g5 (by decide)) ?_
    refine zs_lt (Q := fun z => zs_W σ0 z) (zs_wrt hσ_3 (fun _ => rfl) (fun _ => rfl)) (fun σ_6 hσ_6 => ?_)
    refine zs_lt (Q := fun z => zs_in z.toInt 1 6 ∧ z.toInt = c + 1) ⟨(zs_addI 1 6 g5 zlI_1 (by decide)), (zs_syI 1 hc g5 zlI_1 (by decide) (by decide))⟩ (fun y_8 hy_8 => ?_)
    exact zs_some (zs_inl ⟨⟨hσ_6, hy_8.1⟩, hy_8.2⟩)
theorem zx_3 {σ0 : sn_S}  {s0 : (sn_S × Int32)} (h0 : (zs_W σ0 s0.1 ∧ zs_in (s0.2).toInt 0 6)) : zs_ok (sn_it (LX9_asItIs_133) 5000 s0) (fun t => zs_W σ0 t) := by
  refine zs_it (I := fun s => (zs_W σ0 s.1 ∧ zs_in (s.2).toInt 0 6)) (m := fun s => 6 - s.2.toInt) (fun s hs => ?_) (fun s hs => ?_) (by exact h0)
  · have h1 := hs.2; unfold zs_in at h1
    omega
  · obtain ⟨b, eb, hb⟩ := zw_4 hs.1 hs.2 (c := s.2.toInt) (Int.add_zero _).symm
    exact ⟨b, eb, zs_sumw hb (fun v w => ⟨⟨w.1.1, (zs_w w.1.2 (by decide))⟩, by have := w.2; omega⟩) (fun v w => w)⟩
-- BX9_asItIs_232
theorem zw_5 {σ0 : sn_S} {σ : sn_S} (h_σ : zs_W σ0 σ) {x1 : Int32} (h_x1 : zs_in x1.toInt 0 39) {c : Int} (hc : x1.toInt = c + 0) : zs_ok (BX9_asItIs_232 σ x1) (fun r => zs_sum (fun v => ((zs_W σ0 v.1 ∧ zs_in (v.2).toInt 1 40)) ∧ v.2.toInt = c + 1) (fun v => False) r) := by
  unfold BX9_asItIs_232
  refine zs_lt (Q := fun z => zs_in z.toInt 1 40 ∧ z.toInt = c + 1) ⟨(zs_addI 1 40 h_x1 zlI_1 (by decide)), (zs_syI 1 hc h_x1 zlI_1 (by decide) (by decide))⟩ (fun y_1 hy_1 => ?_)
  exact zs_some (zs_inl ⟨⟨h_σ, hy_1.1⟩, hy_1.2⟩)
-- BX9_asItIs_161
theorem zw_6 {σ0 : sn_S} {σ : sn_S} (h_σ : zs_W σ0 σ) {x1 : Int32} (h_x1 : zs_in x1.toInt 0 40) {c : Int} (hc : x1.toInt = c + 0) : zs_ok (BX9_asItIs_161 σ x1) (fun r => zs_sum (fun v => ((zs_W σ0 v.1 ∧ zs_in (v.2).toInt 1 40)) ∧ v.2.toInt = c + 1) (fun v => zs_W σ0 v) r) := by
  unfold BX9_asItIs_161
  refine zs_gd (zs_gin zlI_9 (by decide)) ?_
  refine zs_ite (fun c1 => ?_) (fun c1 => ?_)
  · skip
    have r2 := (zs_I_le c1)
    exact zs_some (zs_inr (h_σ))
  · skip
    have r3 := (zs_I_len c1)
    have g4 : zs_in (x1).toInt 0 39 := (zs_ltl 0 39 r3 h_x1 (zs_rdk (q := 1) (k := (9 : Int32).toNatClampNeg) (z := (0, 40)) h_σ.1 rfl) (by decide))
    have g5 : zs_in ((sn_I σ 1 (9 : Int32).toNatClampNeg)).toInt 1 40 := (zs_ltr 1 40 r3 h_x1 (zs_rdk (q := 1) (k := (9 : Int32).toNatClampNeg) (z := (0, 40)) h_σ.1 rfl) (by decide))
    refine zs_gd (zs_gin (zs_addI 79 118 zlI_79 g4 (by decide)) (by decide)) ?_
    refine zs_lt (Q := fun z => zs_in z.toInt 0 1199) (zs_rdb (q := 1) (lo := 0) (hi := 1199) h_σ.1 (zs_cases g4 (fun z => zs_bd (zs_tM 1 ((79 : Int32) + z).toNatClampNeg) 0 1199) (by decide +kernel))) (fun y_4 hy_4 => ?_)
    refine zs_lt (Q := fun z => zs_in z.toInt 0 5) (zs_divI 0 5 hy_4 zlI_200 (by decide)) (fun y_6 hy_6 => ?_)
    refine zs_lt (Q := fun z => zs_in z.toInt 0 99) (zs_mod 99 (zs_divI 0 599 hy_4 zlI_2 (by decide)) zlI_100 (by decide)) (fun y_8 hy_8 => ?_)
    refine zs_ite (fun c6 => ?_) (fun c6 => ?_)
    · skip
      have r7 := (zs_I_eq c6)
      have g8 : zs_in ((y_4 - ((y_4 / (2 : Int32)) * (2 : Int32)))).toInt 1 1 := (zs_eql 1 1 r7 (zs_mod 1 hy_4 zlI_2 (by decide)) zlI_1 (by decide))
      have g9 : zs_in (y_4).toInt 1 1199 := (zs_sublI 1 1199 hy_4 (zs_mulI 0 1198 (zs_divI 0 599 hy_4 zlI_2 (by decide)) zlI_2 (by decide)) g8 (by decide))
      refine zs_gd (zs_gin hy_6 (by decide)) ?_
      refine zs_gd (zs_gin hy_6 (by decide)) ?_
      refine zs_lt (Q := fun z => zs_W σ0 z) (zs_wrt h_σ (fun _ => rfl) (fun _ => rfl)) (fun σ_17 hσ_17 => ?_)
      obtain ⟨ret, er, hr⟩ := zw_5 hσ_17 g4 hc
      refine ⟨ret, er, ?_⟩
      exact (zs_sumw hr (fun v w => ⟨w.1, w.2⟩) (fun v w => w.elim))
    · skip
      have r10 := (zs_I_eqn c6)
      have g11 : zs_in ((y_4 - ((y_4 / (2 : Int32)) * (2 : Int32)))).toInt 0 0 := (zs_neh 0 0 r10 (zs_mod 1 hy_4 zlI_2 (by decide)) zlI_1 (by decide))
      have g12 : zs_in (y_4).toInt 0 1198 := (zs_sublI 0 1198 hy_4 (zs_mulI 0 1198 (zs_divI 0 599 hy_4 zlI_2 (by decide)) zlI_2 (by decide)) g11 (by decide))
      refine zs_gd (zs_gin hy_6 (by decide)) ?_
      refine zs_gd (zs_gin hy_6 (by decide)) ?_
      refine zs_lt (Q := fun z => zs_W σ0 z) (zs_wrt h_σ (fun _ => rfl) (fun _ => rfl)) (fun σ_13 hσ_13 => ?_)
      obtain ⟨ret, er, hr⟩ := zw_5 hσ_13 g4 hc
      refine ⟨ret, er, ?_⟩
      exact (zs_sumw hr (fun v w => ⟨w.1, w.2⟩) (fun v w => w.elim))
theorem zx_4 {σ0 : sn_S}  {s0 : (sn_S × Int32)} (h0 : (zs_W σ0 s0.1 ∧ zs_in (s0.2).toInt 0 40)) : zs_ok (sn_it (LX9_asItIs_161) 5000 s0) (fun t => zs_W σ0 t) := by
  refine zs_it (I := fun s => (zs_W σ0 s.1 ∧ zs_in (s.2).toInt 0 40)) (m := fun s => 40 - s.2.toInt) (fun s hs => ?_) (fun s hs => ?_) (by exact h0)
  · have h1 := hs.2; unfold zs_in at h1
    omega
  · obtain ⟨b, eb, hb⟩ := zw_6 hs.1 hs.2 (c := s.2.toInt) (Int.add_zero _).symm
    exact ⟨b, eb, zs_sumw hb (fun v w => ⟨⟨w.1.1, (zs_w w.1.2 (by decide))⟩, by have := w.2; omega⟩) (fun v w => w)⟩
-- BX9_asItIs_238
theorem zw_7 {σ0 : sn_S} {σ : sn_S} (h_σ : zs_W σ0 σ) : zs_ok (BX9_asItIs_238 σ) (fun r => zs_W σ0 r) := by
  unfold BX9_asItIs_238
  exact zs_some h_σ
-- BX9_asItIs_159
theorem zw_8 {σ0 : sn_S} {σ : sn_S} (h_σ : zs_W σ0 σ) : zs_ok (BX9_asItIs_159 σ) (fun r => zs_W σ0 r) := by
  unfold BX9_asItIs_159
  refine zs_bd_ (zx_4  (s0 := (σ, (0 : Int32))) ⟨h_σ, (zs_w zlI_0 (by decide))⟩) (fun t_1 pt_1 => ?_)
  obtain ⟨ret, er, hr⟩ := zw_7 pt_1
  refine ⟨ret, er, ?_⟩
  exact hr
-- BX9_asItIs_131
theorem zw_9 {σ0 : sn_S} {σ : sn_S} (h_σ : zs_W σ0 σ) : zs_ok (BX9_asItIs_131 σ) (fun r => zs_W σ0 r) := by
  unfold BX9_asItIs_131
  refine zs_bd_ (zx_3  (s0 := (σ, (0 : Int32))) ⟨h_σ, (zs_w zlI_0 (by decide))⟩) (fun t_1 pt_1 => ?_)
  obtain ⟨ret, er, hr⟩ := zw_8 pt_1
  refine ⟨ret, er, ?_⟩
  exact hr
-- BX9_asItIs_66
theorem zw_10 {σ0 : sn_S} {σ : sn_S} (h_σ : zs_W σ0 σ) : zs_ok (BX9_asItIs_66 σ) (fun r => zs_W σ0 r) := by
  unfold BX9_asItIs_66
  refine zs_bd_ (zx_2  (s0 := (σ, (0 : Int32))) ⟨h_σ, (zs_w zlI_0 (by decide))⟩) (fun t_1 pt_1 => ?_)
  obtain ⟨ret, er, hr⟩ := zw_9 pt_1
  refine ⟨ret, er, ?_⟩
  exact hr
-- fX9_asItIs
theorem zw_11 {σ0 : sn_S} {σ : sn_S} (h_σ : zs_W σ0 σ) : zs_ok (fX9_asItIs σ) (fun r => zs_W σ0 r) := by
  unfold fX9_asItIs
  refine zs_lt (Q := fun z => zs_W σ0 z) (zs_wrkt h_σ rfl rfl) (fun σ_1 hσ_1 => ?_)
  refine zs_lt (Q := fun z => zs_W σ0 z) (zs_wrkt hσ_1 rfl rfl) (fun σ_3 hσ_3 => ?_)
  refine zs_gd (zs_gin zlI_2 (by decide)) ?_
  refine zs_lt (Q := fun z => zs_W σ0 z) (zs_wrkt hσ_3 rfl rfl) (fun σ_6 hσ_6 => ?_)
  refine zs_gd (zs_gin zlI_3 (by decide)) ?_
  refine zs_lt (Q := fun z => zs_W σ0 z) (zs_wrk (z := (0, 1000)) hσ_6 rfl (zs_rdk (q := 1) (k := (3 : Int32).toNatClampNeg) (z := (0, 999)) hσ_6.1 rfl) (by decide) rfl) (fun σ_9 hσ_9 => ?_)
  refine zs_bd_ (zw_1 hσ_9) (fun t_11 pt_11 => ?_)
  refine zs_lt (Q := fun z => zs_W σ0 z) (zs_wrk (z := ((-1), 29)) hσ_9 rfl (zs_subI (-1) 29 pt_11 zlI_1 (by decide)) (by decide) rfl) (fun σ_13 hσ_13 => ?_)
  refine zs_bd_ (zx_1  (s0 := (σ_13, (0 : Int32))) ⟨hσ_13, (zs_w zlI_0 (by decide))⟩) (fun t_15 pt_15 => ?_)
  obtain ⟨ret, er, hr⟩ := zw_10 pt_15
  refine ⟨ret, er, ?_⟩
  exact hr
-- BX9_goAll_2
theorem zw_12 {σ0 : sn_S} {σ : sn_S} (h_σ : zs_W σ0 σ) {x1 : Int32} (h_x1 : zs_in x1.toInt 0 6) {c : Int} (hc : x1.toInt = c + 0) : zs_ok (BX9_goAll_2 σ x1) (fun r => zs_sum (fun v => ((zs_W σ0 v.1 ∧ zs_in (v.2).toInt 1 6)) ∧ v.2.toInt = c + 1) (fun v => zs_W σ0 v) r) := by
  unfold BX9_goAll_2
  refine zs_ite (fun c1 => ?_) (fun c1 => ?_)
  · skip
    have r2 := (zs_I_le c1)
    have g3 : zs_in (x1).toInt 6 6 := (zs_ler 6 6 r2 zlI_6 h_x1 (by decide))
    exact zs_some (zs_inr (h_σ))
  · skip
    have r4 := (zs_I_len c1)
    have g5 : zs_in (x1).toInt 0 5 := (zs_ltl 0 5 r4 h_x1 zlI_6 (by decide))
    refine zs_gd (zs_gin g5 (by decide)) ?_
    refine zs_lt (Q := fun z => zs_W σ0 z) (zs_wru (z := (0, 1073741823)) h_σ (fun _ => rfl) zlI_0 (by decide) (fun _ => rfl)) (fun σ_3 hσ_3 => ?_)
    refine zs_gd (zs_gin g5 (by decide)) ?_
    refine zs_lt (Q := fun z => zs_W σ0 z) (zs_wrt hσ_3 (fun _ => rfl) (fun _ => rfl)) (fun σ_6 hσ_6 => ?_)
    refine zs_lt (Q := fun z => zs_in z.toInt 1 6 ∧ z.toInt = c + 1) ⟨(zs_addI 1 6 g5 zlI_1 (by decide)), (zs_syI 1 hc g5 zlI_1 (by decide) (by decide))⟩ (fun y_8 hy_8 => ?_)
    exact zs_some (zs_inl ⟨⟨hσ_6, hy_8.1⟩, hy_8.2⟩)
theorem zx_5 {σ0 : sn_S}  {s0 : (sn_S × Int32)} (h0 : (zs_W σ0 s0.1 ∧ zs_in (s0.2).toInt 0 6)) : zs_ok (sn_it (LX9_goAll_2) 5000 s0) (fun t => zs_W σ0 t) := by
  refine zs_it (I := fun s => (zs_W σ0 s.1 ∧ zs_in (s.2).toInt 0 6)) (m := fun s => 6 - s.2.toInt) (fun s hs => ?_) (fun s hs => ?_) (by exact h0)
  · have h1 := hs.2; unfold zs_in at h1
    omega
  · obtain ⟨b, eb, hb⟩ := zw_12 hs.1 hs.2 (c := s.2.toInt) (Int.add_zero _).symm
    exact ⟨b, eb, zs_sumw hb (fun v w => ⟨⟨w.1.1, (zs_w w.1.2 (by decide))⟩, by have := w.2; omega⟩) (fun v w => w)⟩
-- BX9_netsTo_91
theorem zw_13 {σ0 : sn_S} {σ : sn_S} (h_σ : zs_W σ0 σ) {x1 : Int32} (h_x1 : zs_in x1.toInt 0 5) {x2 : Int32} (h_x2 : zs_in x2.toInt 0 0) {x3 : Int32} {x4 : Int32} (h_x4 : zs_in x4.toInt 0 7) {c : Int} (hc : x4.toInt = c + 0) : zs_ok (BX9_netsTo_91 σ x1 x2 x3 x4) (fun r => zs_sum (fun v => ((True ∧ zs_in (v.2).toInt 1 8)) ∧ v.2.toInt = c + 1) (fun v => False) r) := by
  unfold BX9_netsTo_91
  obtain rfl : x2 = (0 : Int32) := zs_eqv h_x2 (by decide)
  refine zs_lt (Q := fun z => zs_in z.toInt 1 8 ∧ z.toInt = c + 1) ⟨(zs_addI 1 8 h_x4 zlI_1 (by decide)), (zs_syI 1 hc h_x4 zlI_1 (by decide) (by decide))⟩ (fun y_1 hy_1 => ?_)
  exact zs_some (zs_inl ⟨⟨trivial, hy_1.1⟩, hy_1.2⟩)
-- fX9_bit
theorem zw_14 {x0 : Int32} (h_x0 : zs_in x0.toInt 0 0) {x1 : Int32} (h_x1 : zs_in x1.toInt 0 5) : zs_ok (fX9_bit x0 x1) (fun r => zs_in (r).toInt 0 1) := by
  unfold fX9_bit
  obtain rfl : x0 = (0 : Int32) := zs_eqv h_x0 (by decide)
  exact zs_some (zs_and zlI_1 (by decide))
-- BX9_netsTo_88
theorem zw_15 {σ0 : sn_S} {σ : sn_S} (h_σ : zs_W σ0 σ) {x1 : Int32} (h_x1 : zs_in x1.toInt 0 5) {x2 : Int32} (h_x2 : zs_in x2.toInt 0 0) {x3 : Int32} {x4 : Int32} (h_x4 : zs_in x4.toInt 0 7) {c : Int} (hc : x4.toInt = c + 0) : zs_ok (BX9_netsTo_88 σ x1 x2 x3 x4) (fun r => zs_sum (fun v => ((True ∧ zs_in (v.2).toInt 1 8)) ∧ v.2.toInt = c + 1) (fun v => False) r) := by
  unfold BX9_netsTo_88
  obtain rfl : x2 = (0 : Int32) := zs_eqv h_x2 (by decide)
  refine zs_lt (Q := fun z => True) trivial (fun y_1 hy_1 => ?_)
  obtain ⟨ret, er, hr⟩ := zw_13 h_σ h_x1 h_x2 h_x4 hc
  refine ⟨ret, er, ?_⟩
  exact (zs_sumw hr (fun v w => ⟨w.1, w.2⟩) (fun v w => w.elim))
-- BX9_netsTo_72
theorem zw_16 {σ0 : sn_S} {σ : sn_S} (h_σ : zs_W σ0 σ) {x1 : Int32} (h_x1 : zs_in x1.toInt 0 5) {x2 : Int32} (h_x2 : zs_in x2.toInt 0 0) {x3 : Int32} {x4 : Int32} (h_x4 : zs_in x4.toInt 0 7) {x5 : Int32} (h_x5 : zs_in x5.toInt 0 5) {x6 : Int32} (h_x6 : zs_in x6.toInt 0 5) {c : Int} (hc : x4.toInt = c + 0) : zs_ok (BX9_netsTo_72 σ x1 x2 x3 x4 x5 x6) (fun r => zs_sum (fun v => ((True ∧ zs_in (v.2).toInt 1 8)) ∧ v.2.toInt = c + 1) (fun v => False) r) := by
  unfold BX9_netsTo_72
  obtain rfl : x2 = (0 : Int32) := zs_eqv h_x2 (by decide)
  refine zs_ite (fun c1 => ?_) (fun c1 => ?_)
  · skip
    have r2 := (zs_I_eq c1)
    refine zs_bd_ (zw_14 h_x2 h_x5) (fun t_2 pt_2 => ?_)
    refine zs_ite (fun c3 => ?_) (fun c3 => ?_)
    · skip
      have r4 := (zs_I_eq c3)
      have g5 : zs_in (t_2).toInt 1 1 := (zs_eql 1 1 r4 pt_2 zlI_1 (by decide))
      obtain ⟨ret, er, hr⟩ := zw_15 h_σ h_x1 h_x2 h_x4 hc
      refine ⟨ret, er, ?_⟩
      exact (zs_sumw hr (fun v w => ⟨w.1, w.2⟩) (fun v w => w.elim))
    · skip
      have r6 := (zs_I_eqn c3)
      have g7 : zs_in (t_2).toInt 0 0 := (zs_neh 0 0 r6 pt_2 zlI_1 (by decide))
      obtain ⟨ret, er, hr⟩ := zw_13 h_σ h_x1 h_x2 h_x4 hc
      refine ⟨ret, er, ?_⟩
      exact (zs_sumw hr (fun v w => ⟨w.1, w.2⟩) (fun v w => w.elim))
  · skip
    have r8 := (zs_I_eqn c1)
    obtain ⟨ret, er, hr⟩ := zw_13 h_σ h_x1 h_x2 h_x4 hc
    refine ⟨ret, er, ?_⟩
    exact (zs_sumw hr (fun v w => ⟨w.1, w.2⟩) (fun v w => w.elim))
-- BX9_netsTo_5
theorem zw_17 {σ0 : sn_S} {σ : sn_S} (h_σ : zs_W σ0 σ) {x1 : Int32} (h_x1 : zs_in x1.toInt 0 5) {x2 : Int32} (h_x2 : zs_in x2.toInt 0 0) {x3 : Int32} {x4 : Int32} (h_x4 : zs_in x4.toInt 0 8) {c : Int} (hc : x4.toInt = c + 0) : zs_ok (BX9_netsTo_5 σ x1 x2 x3 x4) (fun r => zs_sum (fun v => ((True ∧ zs_in (v.2).toInt 1 8)) ∧ v.2.toInt = c + 1) (fun v => True) r) := by
  unfold BX9_netsTo_5
  obtain rfl : x2 = (0 : Int32) := zs_eqv h_x2 (by decide)
  refine zs_gd (zs_gin zlI_7 (by decide)) ?_
  refine zs_ite (fun c1 => ?_) (fun c1 => ?_)
  · skip
    have r2 := (zs_I_le c1)
    exact zs_some (zs_inr (trivial))
  · skip
    have r3 := (zs_I_len c1)
    have g4 : zs_in (x4).toInt 0 7 := (zs_ltl 0 7 r3 h_x4 (zs_rdk (q := 1) (k := (7 : Int32).toNatClampNeg) (z := (0, 8)) h_σ.1 rfl) (by decide))
    have g5 : zs_in ((sn_I σ 1 (7 : Int32).toNatClampNeg)).toInt 1 8 := (zs_ltr 1 8 r3 h_x4 (zs_rdk (q := 1) (k := (7 : Int32).toNatClampNeg) (z := (0, 8)) h_σ.1 rfl) (by decide))
    refine zs_gd (zs_gin (zs_addI 33 47 zlI_33 (zs_mulI 0 14 zlI_2 g4 (by decide)) (by decide)) (by decide)) ?_
    refine zs_lt (Q := fun z => zs_in z.toInt 0 5) (zs_rdb (q := 1) (lo := 0) (hi := 5) h_σ.1 (zs_cases g4 (fun z => zs_bd (zs_tM 1 ((33 : Int32) + ((2 : Int32) * z)).toNatClampNeg) 0 5) (by decide +kernel))) (fun y_4 hy_4 => ?_)
    refine zs_gd (zs_gin (zs_addI 34 48 (zs_addI 33 47 zlI_33 (zs_mulI 0 14 zlI_2 g4 (by decide)) (by decide)) zlI_1 (by decide)) (by decide)) ?_
    refine zs_lt (Q := fun z => zs_in z.toInt 0 5) (zs_rdb (q := 1) (lo := 0) (hi := 5) h_σ.1 (zs_cases g4 (fun z => zs_bd (zs_tM 1 (((33 : Int32) + ((2 : Int32) * z)) + (1 : Int32)).toNatClampNeg) 0 5) (by decide +kernel))) (fun y_7 hy_7 => ?_)
    refine zs_ite (fun c6 => ?_) (fun c6 => ?_)
    · skip
      have r7 := (zs_I_eq c6)
      have g8 : zs_in ((sn_I σ 0 19)).toInt 0 7 := (zs_eqr 0 7 r7 g4 (zs_topI _) (by decide))
      obtain ⟨ret, er, hr⟩ := zw_13 h_σ h_x1 h_x2 g4 hc
      refine ⟨ret, er, ?_⟩
      exact (zs_sumw hr (fun v w => ⟨w.1, w.2⟩) (fun v w => w.elim))
    · skip
      have r9 := (zs_I_eqn c6)
      refine zs_ite (fun c10 => ?_) (fun c10 => ?_)
      · skip
        have r11 := (zs_I_eq c10)
        refine zs_bd_ (zw_14 h_x2 hy_7) (fun t_11 pt_11 => ?_)
        refine zs_ite (fun c12 => ?_) (fun c12 => ?_)
        · skip
          have r13 := (zs_I_eq c12)
          have g14 : zs_in (t_11).toInt 1 1 := (zs_eql 1 1 r13 pt_11 zlI_1 (by decide))
          obtain ⟨ret, er, hr⟩ := zw_15 h_σ h_x1 h_x2 g4 hc
          refine ⟨ret, er, ?_⟩
          exact (zs_sumw hr (fun v w => ⟨w.1, w.2⟩) (fun v w => w.elim))
        · skip
          have r15 := (zs_I_eqn c12)
          have g16 : zs_in (t_11).toInt 0 0 := (zs_neh 0 0 r15 pt_11 zlI_1 (by decide))
          obtain ⟨ret, er, hr⟩ := zw_16 h_σ h_x1 h_x2 g4 hy_4 hy_7 hc
          refine ⟨ret, er, ?_⟩
          exact (zs_sumw hr (fun v w => ⟨w.1, w.2⟩) (fun v w => w.elim))
      · skip
        have r17 := (zs_I_eqn c10)
        obtain ⟨ret, er, hr⟩ := zw_16 h_σ h_x1 h_x2 g4 hy_4 hy_7 hc
        refine ⟨ret, er, ?_⟩
        exact (zs_sumw hr (fun v w => ⟨w.1, w.2⟩) (fun v w => w.elim))
theorem zx_6 {σ0 : sn_S} {σ : sn_S} (h_σ : zs_W σ0 σ) {x1 : Int32} (h_x1 : zs_in x1.toInt 0 5) {x2 : Int32} (h_x2 : zs_in x2.toInt 0 0) {s0 : (Int32 × Int32)} (h0 : (True ∧ zs_in (s0.2).toInt 0 8)) : zs_ok (sn_it (LX9_netsTo_5 σ x1 x2) 5000 s0) (fun t => True) := by
  refine zs_it (I := fun s => (True ∧ zs_in (s.2).toInt 0 8)) (m := fun s => 8 - s.2.toInt) (fun s hs => ?_) (fun s hs => ?_) (by exact h0)
  · have h1 := hs.2; unfold zs_in at h1
    omega
  · obtain ⟨b, eb, hb⟩ := zw_17 h_σ h_x1 h_x2 hs.2 (c := s.2.toInt) (Int.add_zero _).symm
    exact ⟨b, eb, zs_sumw hb (fun v w => ⟨⟨w.1.1, (zs_w w.1.2 (by decide))⟩, by have := w.2; omega⟩) (fun v w => w)⟩
-- BX9_netsTo_97
theorem zw_18 {σ0 : sn_S} {σ : sn_S} (h_σ : zs_W σ0 σ) {x3 : Int32} : zs_ok (BX9_netsTo_97 σ x3) (fun r => True) := by
  unfold BX9_netsTo_97
  exact zs_some trivial
-- fX9_netsTo
theorem zw_19 {σ0 : sn_S} {σ : sn_S} (h_σ : zs_W σ0 σ) {x1 : Int32} (h_x1 : zs_in x1.toInt 0 5) {x2 : Int32} (h_x2 : zs_in x2.toInt 0 0) : zs_ok (fX9_netsTo σ x1 x2) (fun r => True) := by
  unfold fX9_netsTo
  obtain rfl : x2 = (0 : Int32) := zs_eqv h_x2 (by decide)
  refine zs_bd_ (zx_6 h_σ h_x1 h_x2 (s0 := ((0 : Int32), (0 : Int32))) ⟨trivial, (zs_w zlI_0 (by decide))⟩) (fun t_1 pt_1 => ?_)
  obtain ⟨ret, er, hr⟩ := zw_18 h_σ
  refine ⟨ret, er, ?_⟩
  exact hr
-- fX9_bit
theorem zw_20 {x0 : Int32} {x1 : Int32} (h_x1 : zs_in x1.toInt 0 0) : zs_ok (fX9_bit x0 x1) (fun r => zs_in (r).toInt 0 1) := by
  unfold fX9_bit
  obtain rfl : x1 = (0 : Int32) := zs_eqv h_x1 (by decide)
  exact zs_some (zs_and zlI_1 (by decide))
-- BX9_goMinute_225
theorem zw_21 {σ0 : sn_S} {σ : sn_S} (h_σ : zs_W σ0 σ) {x1 : Int32} (h_x1 : zs_in x1.toInt 0 0) {x2 : Int32} (h_x2 : zs_in x2.toInt 0 0) {x3 : Int32} (h_x3 : zs_in x3.toInt 0 5) {c : Int} (hc : x3.toInt = c + 0) : zs_ok (BX9_goMinute_225 σ x1 x2 x3) (fun r => zs_sum (fun v => ((zs_W σ0 v.1 ∧ zs_in (v.2).toInt 1 6)) ∧ v.2.toInt = c + 1) (fun v => False) r) := by
  unfold BX9_goMinute_225
  obtain rfl : x1 = (0 : Int32) := zs_eqv h_x1 (by decide)
  obtain rfl : x2 = (0 : Int32) := zs_eqv h_x2 (by decide)
  refine zs_lt (Q := fun z => zs_in z.toInt 1 6 ∧ z.toInt = c + 1) ⟨(zs_addI 1 6 h_x3 zlI_1 (by decide)), (zs_syI 1 hc h_x3 zlI_1 (by decide) (by decide))⟩ (fun y_1 hy_1 => ?_)
  exact zs_some (zs_inl ⟨⟨h_σ, hy_1.1⟩, hy_1.2⟩)
-- BX9_goMinute_192
theorem zw_22 {σ0 : sn_S} {σ : sn_S} (h_σ : zs_W σ0 σ) {x1 : Int32} (h_x1 : zs_in x1.toInt 0 0) {x2 : Int32} (h_x2 : zs_in x2.toInt 0 0) {x3 : Int32} (h_x3 : zs_in x3.toInt 0 5) {x7 : Int32} (h_x7 : zs_in x7.toInt 0 0) {t1 : Int32} (h_t1 : zs_in t1.toInt 0 5) {t2 : Int32} (h_t2 : zs_in t2.toInt (-2147483648) 98) {c : Int} (hc : x3.toInt = c + 0) : zs_ok (BX9_goMinute_192 σ x1 x2 x3 x7 t1 t2) (fun r => zs_sum (fun v => ((zs_W σ0 v.1 ∧ zs_in (v.2).toInt 1 6)) ∧ v.2.toInt = c + 1) (fun v => False) r) := by
  unfold BX9_goMinute_192
  obtain rfl : x1 = (0 : Int32) := zs_eqv h_x1 (by decide)
  obtain rfl : x2 = (0 : Int32) := zs_eqv h_x2 (by decide)
  obtain rfl : x7 = (0 : Int32) := zs_eqv h_x7 (by decide)
  refine zs_gd (zs_gin h_t1 (by decide)) ?_
  refine zs_lt (Q := fun z => zs_W σ0 z) (zs_wrt h_σ (fun _ => rfl) (fun _ => rfl)) (fun σ_2 hσ_2 => ?_)
  refine zs_ite (fun c1 => ?_) (fun c1 => ?_)
  · skip
    have r2 := (zs_I_eq c1)
    obtain ⟨ret, er, hr⟩ := zw_21 hσ_2 h_x1 h_x2 h_x3 hc
    refine ⟨ret, er, ?_⟩
    exact (zs_sumw hr (fun v w => ⟨w.1, w.2⟩) (fun v w => w.elim))
  · skip
    have r3 := (zs_I_eqn c1)
    exact (zs_botne r3 h_x7 zlI_0 (by decide)).elim
-- BX9_goMinute_145
theorem zw_23 {σ0 : sn_S} {σ : sn_S} (h_σ : zs_W σ0 σ) {x1 : Int32} (h_x1 : zs_in x1.toInt 0 0) {x2 : Int32} (h_x2 : zs_in x2.toInt 0 0) {x3 : Int32} (h_x3 : zs_in x3.toInt 0 5) {x4 : Int32} {x5 : Int32} {x6 : Int32} (h_x6 : zs_in x6.toInt (-2147483648) 98) {t0 : Int32} (h_t0 : zs_in t0.toInt 0 0) {c : Int} (hc : x3.toInt = c + 0) : zs_ok (BX9_goMinute_145 σ x1 x2 x3 x4 x5 x6 t0) (fun r => zs_sum (fun v => ((zs_W σ0 v.1 ∧ zs_in (v.2).toInt 1 6)) ∧ v.2.toInt = c + 1) (fun v => False) r) := by
  unfold BX9_goMinute_145
  obtain rfl : x1 = (0 : Int32) := zs_eqv h_x1 (by decide)
  obtain rfl : x2 = (0 : Int32) := zs_eqv h_x2 (by decide)
  obtain rfl : t0 = (0 : Int32) := zs_eqv h_t0 (by decide)
  refine zs_gd (zs_gin h_x3 (by decide)) ?_
  refine zs_gd (zs_gin h_x3 (by decide)) ?_
  refine zs_lt (Q := fun z => zs_W σ0 z) (zs_wrt h_σ (fun _ => rfl) (fun _ => rfl)) (fun σ_3 hσ_3 => ?_)
  refine zs_gd (zs_gin (zs_addI 0 5 (zs_mulI 0 0 zlI_6 h_x1 (by decide)) h_x3 (by decide)) (by decide)) ?_
  refine zs_lt (Q := fun z => zs_W σ0 z) (zs_wrt hσ_3 (fun _ => rfl) (fun _ => rfl)) (fun σ_6 hσ_6 => ?_)
  refine zs_ite (fun c1 => ?_) (fun c1 => ?_)
  · skip
    have r2 := (zs_I_eq c1)
    obtain ⟨ret, er, hr⟩ := zw_22 hσ_6 h_x1 h_x2 h_x3 h_t0 (zs_addI 0 5 (zs_mulI 0 0 zlI_6 h_x1 (by decide)) h_x3 (by decide)) h_x6 hc
    refine ⟨ret, er, ?_⟩
    exact (zs_sumw hr (fun v w => ⟨w.1, w.2⟩) (fun v w => w.elim))
  · skip
    have r3 := (zs_I_eqn c1)
    exact (zs_botne r3 h_t0 zlI_0 (by decide)).elim
-- BX9_goMinute_144
theorem zw_24 {σ0 : sn_S} {σ : sn_S} (h_σ : zs_W σ0 σ) {x1 : Int32} (h_x1 : zs_in x1.toInt 0 0) {x2 : Int32} (h_x2 : zs_in x2.toInt 0 0) {x3 : Int32} (h_x3 : zs_in x3.toInt 0 5) {x4 : Int32} {x5 : Int32} {x6 : Int32} (h_x6 : zs_in x6.toInt (-2147483648) 98) {c : Int} (hc : x3.toInt = c + 0) : zs_ok (BX9_goMinute_144 σ x1 x2 x3 x4 x5 x6) (fun r => zs_sum (fun v => ((zs_W σ0 v.1 ∧ zs_in (v.2).toInt 1 6)) ∧ v.2.toInt = c + 1) (fun v => False) r) := by
  unfold BX9_goMinute_144
  obtain rfl : x1 = (0 : Int32) := zs_eqv h_x1 (by decide)
  obtain rfl : x2 = (0 : Int32) := zs_eqv h_x2 (by decide)
  obtain ⟨ret, er, hr⟩ := zw_23 h_σ h_x1 h_x2 h_x3 h_x6 zlI_0 hc
  refine ⟨ret, er, ?_⟩
  exact (zs_sumw hr (fun v w => ⟨w.1, w.2⟩) (fun v w => w.elim))
-- BX9_goMinute_192
theorem zw_25 {σ0 : sn_S} {σ : sn_S} (h_σ : zs_W σ0 σ) {x1 : Int32} (h_x1 : zs_in x1.toInt 0 0) {x2 : Int32} (h_x2 : zs_in x2.toInt 0 0) {x3 : Int32} (h_x3 : zs_in x3.toInt 0 5) {x7 : Int32} (h_x7 : zs_in x7.toInt 1 1) {t1 : Int32} (h_t1 : zs_in t1.toInt 0 5) {t2 : Int32} (h_t2 : zs_in t2.toInt 0 0) {c : Int} (hc : x3.toInt = c + 0) : zs_ok (BX9_goMinute_192 σ x1 x2 x3 x7 t1 t2) (fun r => zs_sum (fun v => ((zs_W σ0 v.1 ∧ zs_in (v.2).toInt 1 6)) ∧ v.2.toInt = c + 1) (fun v => False) r) := by
  unfold BX9_goMinute_192
  obtain rfl : x1 = (0 : Int32) := zs_eqv h_x1 (by decide)
  obtain rfl : x2 = (0 : Int32) := zs_eqv h_x2 (by decide)
  obtain rfl : x7 = (1 : Int32) := zs_eqv h_x7 (by decide)
  obtain rfl : t2 = (0 : Int32) := zs_eqv h_t2 (by decide)
  refine zs_gd (zs_gin h_t1 (by decide)) ?_
  refine zs_lt (Q := fun z => zs_W σ0 z) (zs_wrt h_σ (fun _ => rfl) (fun _ => rfl)) (fun σ_2 hσ_2 => ?_)
  refine zs_ite (fun c1 => ?_) (fun c1 => ?_)
  · skip
    have r2 := (zs_I_eq c1)
    exact (zs_botr r2 h_x7 zlI_0 (by decide)).elim
  · skip
    have r3 := (zs_I_eqn c1)
    refine zs_gd (zs_gin h_x1 (by decide)) ?_
    refine zs_gd (zs_gin h_x1 (by decide)) ?_
    refine zs_lt (Q := fun z => zs_W σ0 z) (zs_wrt hσ_2 (fun _ => rfl) (fun _ => rfl)) (fun σ_7 hσ_7 => ?_)
    refine zs_gd (zs_gin h_x3 (by decide)) ?_
    refine zs_gd (zs_gin h_x3 (by decide)) ?_
    refine zs_lt (Q := fun z => zs_W σ0 z) (zs_wru (z := (0, 1073741823)) hσ_7 (fun _ => rfl) (zs_or 30 1073741823 (zs_rdu (q := 10) (z := (0, 1073741823)) hσ_7.1 (fun _ => rfl)) (zs_cases h_x1 (fun z => zs_in ((1 : Int32) <<< (z &&& 31)).toInt 1 1) (by decide +kernel)) (by decide)) (by decide) (fun _ => rfl)) (fun σ_11 hσ_11 => ?_)
    obtain ⟨ret, er, hr⟩ := zw_21 hσ_11 h_x1 h_x2 h_x3 hc
    refine ⟨ret, er, ?_⟩
    exact (zs_sumw hr (fun v w => ⟨w.1, w.2⟩) (fun v w => w.elim))
-- BX9_goMinute_145
theorem zw_26 {σ0 : sn_S} {σ : sn_S} (h_σ : zs_W σ0 σ) {x1 : Int32} (h_x1 : zs_in x1.toInt 0 0) {x2 : Int32} (h_x2 : zs_in x2.toInt 0 0) {x3 : Int32} (h_x3 : zs_in x3.toInt 0 5) {x4 : Int32} {x5 : Int32} {x6 : Int32} (h_x6 : zs_in x6.toInt 0 2147483647) {t0 : Int32} (h_t0 : zs_in t0.toInt 1 1) {c : Int} (hc : x3.toInt = c + 0) : zs_ok (BX9_goMinute_145 σ x1 x2 x3 x4 x5 x6 t0) (fun r => zs_sum (fun v => ((zs_W σ0 v.1 ∧ zs_in (v.2).toInt 1 6)) ∧ v.2.toInt = c + 1) (fun v => False) r) := by
  unfold BX9_goMinute_145
  obtain rfl : x1 = (0 : Int32) := zs_eqv h_x1 (by decide)
  obtain rfl : x2 = (0 : Int32) := zs_eqv h_x2 (by decide)
  obtain rfl : t0 = (1 : Int32) := zs_eqv h_t0 (by decide)
  refine zs_gd (zs_gin h_x3 (by decide)) ?_
  refine zs_gd (zs_gin h_x3 (by decide)) ?_
  refine zs_lt (Q := fun z => zs_W σ0 z) (zs_wrt h_σ (fun _ => rfl) (fun _ => rfl)) (fun σ_3 hσ_3 => ?_)
  refine zs_gd (zs_gin (zs_addI 0 5 (zs_mulI 0 0 zlI_6 h_x1 (by decide)) h_x3 (by decide)) (by decide)) ?_
  refine zs_lt (Q := fun z => zs_W σ0 z) (zs_wrt hσ_3 (fun _ => rfl) (fun _ => rfl)) (fun σ_6 hσ_6 => ?_)
  refine zs_ite (fun c1 => ?_) (fun c1 => ?_)
  · skip
    have r2 := (zs_I_eq c1)
    exact (zs_botr r2 h_t0 zlI_0 (by decide)).elim
  · skip
    have r3 := (zs_I_eqn c1)
    obtain ⟨ret, er, hr⟩ := zw_25 hσ_6 h_x1 h_x2 h_x3 h_t0 (zs_addI 0 5 (zs_mulI 0 0 zlI_6 h_x1 (by decide)) h_x3 (by decide)) zlI_0 hc
    refine ⟨ret, er, ?_⟩
    exact (zs_sumw hr (fun v w => ⟨w.1, w.2⟩) (fun v w => w.elim))
-- BX9_goMinute_192
theorem zw_27 {σ0 : sn_S} {σ : sn_S} (h_σ : zs_W σ0 σ) {x1 : Int32} (h_x1 : zs_in x1.toInt 0 0) {x2 : Int32} (h_x2 : zs_in x2.toInt 0 0) {x3 : Int32} (h_x3 : zs_in x3.toInt 0 5) {x7 : Int32} (h_x7 : zs_in x7.toInt 0 0) {t1 : Int32} (h_t1 : zs_in t1.toInt 0 5) {t2 : Int32} (h_t2 : zs_in t2.toInt 0 2147483647) {c : Int} (hc : x3.toInt = c + 0) : zs_ok (BX9_goMinute_192 σ x1 x2 x3 x7 t1 t2) (fun r => zs_sum (fun v => ((zs_W σ0 v.1 ∧ zs_in (v.2).toInt 1 6)) ∧ v.2.toInt = c + 1) (fun v => False) r) := by
  unfold BX9_goMinute_192
  obtain rfl : x1 = (0 : Int32) := zs_eqv h_x1 (by decide)
  obtain rfl : x2 = (0 : Int32) := zs_eqv h_x2 (by decide)
  obtain rfl : x7 = (0 : Int32) := zs_eqv h_x7 (by decide)
  refine zs_gd (zs_gin h_t1 (by decide)) ?_
  refine zs_lt (Q := fun z => zs_W σ0 z) (zs_wrt h_σ (fun _ => rfl) (fun _ => rfl)) (fun σ_2 hσ_2 => ?_)
  refine zs_ite (fun c1 => ?_) (fun c1 => ?_)
  · skip
    have r2 := (zs_I_eq c1)
    obtain ⟨ret, er, hr⟩ := zw_21 hσ_2 h_x1 h_x2 h_x3 hc
    refine ⟨ret, er, ?_⟩
    exact (zs_sumw hr (fun v w => ⟨w.1, w.2⟩) (fun v w => w.elim))
  · skip
    have r3 := (zs_I_eqn c1)
    exact (zs_botne r3 h_x7 zlI_0 (by decide)).elim
-- BX9_goMinute_145
theorem zw_28 {σ0 : sn_S} {σ : sn_S} (h_σ : zs_W σ0 σ) {x1 : Int32} (h_x1 : zs_in x1.toInt 0 0) {x2 : Int32} (h_x2 : zs_in x2.toInt 0 0) {x3 : Int32} (h_x3 : zs_in x3.toInt 0 5) {x4 : Int32} {x5 : Int32} {x6 : Int32} (h_x6 : zs_in x6.toInt 0 2147483647) {t0 : Int32} (h_t0 : zs_in t0.toInt 0 0) {c : Int} (hc : x3.toInt = c + 0) : zs_ok (BX9_goMinute_145 σ x1 x2 x3 x4 x5 x6 t0) (fun r => zs_sum (fun v => ((zs_W σ0 v.1 ∧ zs_in (v.2).toInt 1 6)) ∧ v.2.toInt = c + 1) (fun v => False) r) := by
  unfold BX9_goMinute_145
  obtain rfl : x1 = (0 : Int32) := zs_eqv h_x1 (by decide)
  obtain rfl : x2 = (0 : Int32) := zs_eqv h_x2 (by decide)
  obtain rfl : t0 = (0 : Int32) := zs_eqv h_t0 (by decide)
  refine zs_gd (zs_gin h_x3 (by decide)) ?_
  refine zs_gd (zs_gin h_x3 (by decide)) ?_
  refine zs_lt (Q := fun z => zs_W σ0 z) (zs_wrt h_σ (fun _ => rfl) (fun _ => rfl)) (fun σ_3 hσ_3 => ?_)
  refine zs_gd (zs_gin (zs_addI 0 5 (zs_mulI 0 0 zlI_6 h_x1 (by decide)) h_x3 (by decide)) (by decide)) ?_
  refine zs_lt (Q := fun z => zs_W σ0 z) (zs_wrt hσ_3 (fun _ => rfl) (fun _ => rfl)) (fun σ_6 hσ_6 => ?_)
  refine zs_ite (fun c1 => ?_) (fun c1 => ?_)
  · skip
    have r2 := (zs_I_eq c1)
    obtain ⟨ret, er, hr⟩ := zw_27 hσ_6 h_x1 h_x2 h_x3 h_t0 (zs_addI 0 5 (zs_mulI 0 0 zlI_6 h_x1 (by decide)) h_x3 (by decide)) h_x6 hc
    refine ⟨ret, er, ?_⟩
    exact (zs_sumw hr (fun v w => ⟨w.1, w.2⟩) (fun v w => w.elim))
  · skip
    have r3 := (zs_I_eqn c1)
    exact (zs_botne r3 h_t0 zlI_0 (by decide)).elim
-- BX9_goMinute_144
theorem zw_29 {σ0 : sn_S} {σ : sn_S} (h_σ : zs_W σ0 σ) {x1 : Int32} (h_x1 : zs_in x1.toInt 0 0) {x2 : Int32} (h_x2 : zs_in x2.toInt 0 0) {x3 : Int32} (h_x3 : zs_in x3.toInt 0 5) {x4 : Int32} {x5 : Int32} {x6 : Int32} (h_x6 : zs_in x6.toInt 0 2147483647) {c : Int} (hc : x3.toInt = c + 0) : zs_ok (BX9_goMinute_144 σ x1 x2 x3 x4 x5 x6) (fun r => zs_sum (fun v => ((zs_W σ0 v.1 ∧ zs_in (v.2).toInt 1 6)) ∧ v.2.toInt = c + 1) (fun v => False) r) := by
  unfold BX9_goMinute_144
  obtain rfl : x1 = (0 : Int32) := zs_eqv h_x1 (by decide)
  obtain rfl : x2 = (0 : Int32) := zs_eqv h_x2 (by decide)
  obtain ⟨ret, er, hr⟩ := zw_28 h_σ h_x1 h_x2 h_x3 h_x6 zlI_0 hc
  refine ⟨ret, er, ?_⟩
  exact (zs_sumw hr (fun v w => ⟨w.1, w.2⟩) (fun v w => w.elim))
-- BX9_goMinute_104
theorem zw_30 {σ0 : sn_S} {σ : sn_S} (h_σ : zs_W σ0 σ) {x1 : Int32} (h_x1 : zs_in x1.toInt 0 0) {x2 : Int32} (h_x2 : zs_in x2.toInt 0 0) {x3 : Int32} (h_x3 : zs_in x3.toInt 0 5) {x4 : Int32} {x5 : Int32} {t0 : Int32} (h_t0 : zs_in t0.toInt 0 0) {c : Int} (hc : x3.toInt = c + 0) : zs_ok (BX9_goMinute_104 σ x1 x2 x3 x4 x5 t0) (fun r => zs_sum (fun v => ((zs_W σ0 v.1 ∧ zs_in (v.2).toInt 1 6)) ∧ v.2.toInt = c + 1) (fun v => False) r) := by
  unfold BX9_goMinute_104
  obtain rfl : x1 = (0 : Int32) := zs_eqv h_x1 (by decide)
  obtain rfl : x2 = (0 : Int32) := zs_eqv h_x2 (by decide)
  obtain rfl : t0 = (0 : Int32) := zs_eqv h_t0 (by decide)
  refine zs_lt (Q := fun z => True) trivial (fun y_1 hy_1 => ?_)
  refine zs_gd (zs_gin (zs_addI 12 22 (zs_addI 11 21 zlI_11 (zs_mulI 0 10 zlI_2 h_x3 (by decide)) (by decide)) zlI_1 (by decide)) (by decide)) ?_
  refine zs_ite (fun c1 => ?_) (fun c1 => ?_)
  · skip
    have r2 := (zs_I_lt c1)
    have g3 : zs_in (y_1).toInt (-2147483648) 98 := (zs_ltl (-2147483648) 98 r2 (zs_topI _) (zs_rdb (q := 1) (lo := 0) (hi := 99) h_σ.1 (zs_cases h_x3 (fun z => zs_bd (zs_tM 1 (((11 : Int32) + ((2 : Int32) * z)) + (1 : Int32)).toNatClampNeg) 0 99) (by decide +kernel))) (by decide))
    obtain ⟨ret, er, hr⟩ := zw_24 h_σ h_x1 h_x2 h_x3 g3 hc
    refine ⟨ret, er, ?_⟩
    exact (zs_sumw hr (fun v w => ⟨w.1, w.2⟩) (fun v w => w.elim))
  · skip
    have r4 := (zs_I_ltn c1)
    have g5 : zs_in (y_1).toInt 0 2147483647 := (zs_ler 0 2147483647 r4 (zs_rdb (q := 1) (lo := 0) (hi := 99) h_σ.1 (zs_cases h_x3 (fun z => zs_bd (zs_tM 1 (((11 : Int32) + ((2 : Int32) * z)) + (1 : Int32)).toNatClampNeg) 0 99) (by decide +kernel))) (zs_topI _) (by decide))
    refine zs_gd (zs_gin h_x3 (by decide)) ?_
    refine zs_bd_ (zw_20 h_x1) (fun t_6 pt_6 => ?_)
    refine zs_ite (fun c6 => ?_) (fun c6 => ?_)
    · skip
      have r7 := (zs_I_eq c6)
      have g8 : zs_in (t_6).toInt 0 0 := (zs_eql 0 0 r7 pt_6 zlI_0 (by decide))
      obtain ⟨ret, er, hr⟩ := zw_26 h_σ h_x1 h_x2 h_x3 g5 zlI_1 hc
      refine ⟨ret, er, ?_⟩
      exact (zs_sumw hr (fun v w => ⟨w.1, w.2⟩) (fun v w => w.elim))
    · skip
      have r9 := (zs_I_eqn c6)
      have g10 : zs_in (t_6).toInt 1 1 := (zs_nel 1 1 r9 pt_6 zlI_0 (by decide))
      obtain ⟨ret, er, hr⟩ := zw_29 h_σ h_x1 h_x2 h_x3 g5 hc
      refine ⟨ret, er, ?_⟩
      exact (zs_sumw hr (fun v w => ⟨w.1, w.2⟩) (fun v w => w.elim))
-- BX9_goMinute_26
theorem zw_31 {σ0 : sn_S} {σ : sn_S} (h_σ : zs_W σ0 σ) {x1 : Int32} (h_x1 : zs_in x1.toInt 0 0) {x2 : Int32} (h_x2 : zs_in x2.toInt 0 0) {x3 : Int32} (h_x3 : zs_in x3.toInt 0 6) {c : Int} (hc : x3.toInt = c + 0) : zs_ok (BX9_goMinute_26 σ x1 x2 x3) (fun r => zs_sum (fun v => ((zs_W σ0 v.1 ∧ zs_in (v.2).toInt 1 6)) ∧ v.2.toInt = c + 1) (fun v => zs_W σ0 v) r) := by
  unfold BX9_goMinute_26
  obtain rfl : x1 = (0 : Int32) := zs_eqv h_x1 (by decide)
  obtain rfl : x2 = (0 : Int32) := zs_eqv h_x2 (by decide)
  refine zs_gd (zs_gin zlI_5 (by decide)) ?_
  refine zs_ite (fun c1 => ?_) (fun c1 => ?_)
  · skip
    have r2 := (zs_I_le c1)
    exact zs_some (zs_inr (h_σ))
  · skip
    have r3 := (zs_I_len c1)
    have g4 : zs_in (x3).toInt 0 5 := (zs_ltl 0 5 r3 h_x3 (zs_rdk (q := 1) (k := (5 : Int32).toNatClampNeg) (z := (0, 6)) h_σ.1 rfl) (by decide))
    have g5 : zs_in ((sn_I σ 1 (5 : Int32).toNatClampNeg)).toInt 1 6 := (zs_ltr 1 6 r3 h_x3 (zs_rdk (q := 1) (k := (5 : Int32).toNatClampNeg) (z := (0, 6)) h_σ.1 rfl) (by decide))
    refine zs_bd_ (zw_19 h_σ g4 h_x2) (fun t_3 pt_3 => ?_)
    refine zs_lt (Q := fun z => True) trivial (fun y_5 hy_5 => ?_)
    refine zs_gd (zs_gin (zs_addI 11 21 zlI_11 (zs_mulI 0 10 zlI_2 g4 (by decide)) (by decide)) (by decide)) ?_
    refine zs_gd (zs_gin h_x1 (by decide)) ?_
    refine zs_gd (zs_gin g4 (by decide)) ?_
    refine zs_bd_ (zw_20 h_x1) (fun t_10 pt_10 => ?_)
    refine zs_lt (Q := fun z => True) trivial (fun y_12 hy_12 => ?_)
    refine zs_ite (fun c6 => ?_) (fun c6 => ?_)
    · skip
      have r7 := (zs_I_eq c6)
      obtain ⟨ret, er, hr⟩ := zw_30 h_σ h_x1 h_x2 g4 zlI_0 hc
      refine ⟨ret, er, ?_⟩
      exact (zs_sumw hr (fun v w => ⟨w.1, w.2⟩) (fun v w => w.elim))
    · skip
      have r8 := (zs_I_eqn c6)
      exact (zs_botne r8 h_x1 zlI_0 (by decide)).elim
theorem zx_7 {σ0 : sn_S} {x1 : Int32} (h_x1 : zs_in x1.toInt 0 0) {x2 : Int32} (h_x2 : zs_in x2.toInt 0 0) {s0 : (sn_S × Int32)} (h0 : (zs_W σ0 s0.1 ∧ zs_in (s0.2).toInt 0 6)) : zs_ok (sn_it (LX9_goMinute_26 x1 x2) 5000 s0) (fun t => zs_W σ0 t) := by
  refine zs_it (I := fun s => (zs_W σ0 s.1 ∧ zs_in (s.2).toInt 0 6)) (m := fun s => 6 - s.2.toInt) (fun s hs => ?_) (fun s hs => ?_) (by exact h0)
  · have h1 := hs.2; unfold zs_in at h1
    omega
  · obtain ⟨b, eb, hb⟩ := zw_31 hs.1 h_x1 h_x2 hs.2 (c := s.2.toInt) (Int.add_zero _).symm
    exact ⟨b, eb, zs_sumw hb (fun v w => ⟨⟨w.1.1, (zs_w w.1.2 (by decide))⟩, by have := w.2; omega⟩) (fun v w => w)⟩
-- BX9_goMinute_231
theorem zw_32 {σ0 : sn_S} {σ : sn_S} (h_σ : zs_W σ0 σ) : zs_ok (BX9_goMinute_231 σ) (fun r => zs_W σ0 r) := by
  unfold BX9_goMinute_231
  exact zs_some h_σ
-- BX9_goMinute_23
theorem zw_33 {σ0 : sn_S} {σ : sn_S} (h_σ : zs_W σ0 σ) {x1 : Int32} (h_x1 : zs_in x1.toInt 0 0) {t0 : Int32} (h_t0 : zs_in t0.toInt 0 0) : zs_ok (BX9_goMinute_23 σ x1 t0) (fun r => zs_W σ0 r) := by
  unfold BX9_goMinute_23
  obtain rfl : x1 = (0 : Int32) := zs_eqv h_x1 (by decide)
  obtain rfl : t0 = (0 : Int32) := zs_eqv h_t0 (by decide)
  refine zs_bd_ (zx_7 h_x1 h_t0 (s0 := (σ, (0 : Int32))) ⟨h_σ, (zs_w zlI_0 (by decide))⟩) (fun t_1 pt_1 => ?_)
  obtain ⟨ret, er, hr⟩ := zw_32 pt_1
  refine ⟨ret, er, ?_⟩
  exact hr
-- BX9_netsTo_91
theorem zw_34 {σ0 : sn_S} {σ : sn_S} (h_σ : zs_W σ0 σ) {x1 : Int32} (h_x1 : zs_in x1.toInt 0 5) {x2 : Int32} {x3 : Int32} {x4 : Int32} (h_x4 : zs_in x4.toInt 0 7) {c : Int} (hc : x4.toInt = c + 0) : zs_ok (BX9_netsTo_91 σ x1 x2 x3 x4) (fun r => zs_sum (fun v => ((True ∧ zs_in (v.2).toInt 1 8)) ∧ v.2.toInt = c + 1) (fun v => False) r) := by
  unfold BX9_netsTo_91
  refine zs_lt (Q := fun z => zs_in z.toInt 1 8 ∧ z.toInt = c + 1) ⟨(zs_addI 1 8 h_x4 zlI_1 (by decide)), (zs_syI 1 hc h_x4 zlI_1 (by decide) (by decide))⟩ (fun y_1 hy_1 => ?_)
  exact zs_some (zs_inl ⟨⟨trivial, hy_1.1⟩, hy_1.2⟩)
-- fX9_bit
theorem zw_35 {x0 : Int32} {x1 : Int32} (h_x1 : zs_in x1.toInt 0 5) : zs_ok (fX9_bit x0 x1) (fun r => zs_in (r).toInt 0 1) := by
  unfold fX9_bit
  exact zs_some (zs_and zlI_1 (by decide))
-- BX9_netsTo_88
theorem zw_36 {σ0 : sn_S} {σ : sn_S} (h_σ : zs_W σ0 σ) {x1 : Int32} (h_x1 : zs_in x1.toInt 0 5) {x2 : Int32} {x3 : Int32} {x4 : Int32} (h_x4 : zs_in x4.toInt 0 7) {c : Int} (hc : x4.toInt = c + 0) : zs_ok (BX9_netsTo_88 σ x1 x2 x3 x4) (fun r => zs_sum (fun v => ((True ∧ zs_in (v.2).toInt 1 8)) ∧ v.2.toInt = c + 1) (fun v => False) r) := by
  unfold BX9_netsTo_88
  refine zs_lt (Q := fun z => True) trivial (fun y_1 hy_1 => ?_)
  obtain ⟨ret, er, hr⟩ := zw_34 h_σ h_x1 h_x4 hc
  refine ⟨ret, er, ?_⟩
  exact (zs_sumw hr (fun v w => ⟨w.1, w.2⟩) (fun v w => w.elim))
-- BX9_netsTo_72
theorem zw_37 {σ0 : sn_S} {σ : sn_S} (h_σ : zs_W σ0 σ) {x1 : Int32} (h_x1 : zs_in x1.toInt 0 5) {x2 : Int32} {x3 : Int32} {x4 : Int32} (h_x4 : zs_in x4.toInt 0 7) {x5 : Int32} (h_x5 : zs_in x5.toInt 0 5) {x6 : Int32} (h_x6 : zs_in x6.toInt 0 5) {c : Int} (hc : x4.toInt = c + 0) : zs_ok (BX9_netsTo_72 σ x1 x2 x3 x4 x5 x6) (fun r => zs_sum (fun v => ((True ∧ zs_in (v.2).toInt 1 8)) ∧ v.2.toInt = c + 1) (fun v => False) r) := by
  unfold BX9_netsTo_72
  refine zs_ite (fun c1 => ?_) (fun c1 => ?_)
  · skip
    have r2 := (zs_I_eq c1)
    refine zs_bd_ (zw_35 h_x5) (fun t_2 pt_2 => ?_)
    refine zs_ite (fun c3 => ?_) (fun c3 => ?_)
    · skip
      have r4 := (zs_I_eq c3)
      have g5 : zs_in (t_2).toInt 1 1 := (zs_eql 1 1 r4 pt_2 zlI_1 (by decide))
      obtain ⟨ret, er, hr⟩ := zw_36 h_σ h_x1 h_x4 hc
      refine ⟨ret, er, ?_⟩
      exact (zs_sumw hr (fun v w => ⟨w.1, w.2⟩) (fun v w => w.elim))
    · skip
      have r6 := (zs_I_eqn c3)
      have g7 : zs_in (t_2).toInt 0 0 := (zs_neh 0 0 r6 pt_2 zlI_1 (by decide))
      obtain ⟨ret, er, hr⟩ := zw_34 h_σ h_x1 h_x4 hc
      refine ⟨ret, er, ?_⟩
      exact (zs_sumw hr (fun v w => ⟨w.1, w.2⟩) (fun v w => w.elim))
  · skip
    have r8 := (zs_I_eqn c1)
    obtain ⟨ret, er, hr⟩ := zw_34 h_σ h_x1 h_x4 hc
    refine ⟨ret, er, ?_⟩
    exact (zs_sumw hr (fun v w => ⟨w.1, w.2⟩) (fun v w => w.elim))
-- BX9_netsTo_5
theorem zw_38 {σ0 : sn_S} {σ : sn_S} (h_σ : zs_W σ0 σ) {x1 : Int32} (h_x1 : zs_in x1.toInt 0 5) {x2 : Int32} {x3 : Int32} {x4 : Int32} (h_x4 : zs_in x4.toInt 0 8) {c : Int} (hc : x4.toInt = c + 0) : zs_ok (BX9_netsTo_5 σ x1 x2 x3 x4) (fun r => zs_sum (fun v => ((True ∧ zs_in (v.2).toInt 1 8)) ∧ v.2.toInt = c + 1) (fun v => True) r) := by
  unfold BX9_netsTo_5
  refine zs_gd (zs_gin zlI_7 (by decide)) ?_
  refine zs_ite (fun c1 => ?_) (fun c1 => ?_)
  · skip
    have r2 := (zs_I_le c1)
    exact zs_some (zs_inr (trivial))
  · skip
    have r3 := (zs_I_len c1)
    have g4 : zs_in (x4).toInt 0 7 := (zs_ltl 0 7 r3 h_x4 (zs_rdk (q := 1) (k := (7 : Int32).toNatClampNeg) (z := (0, 8)) h_σ.1 rfl) (by decide))
    have g5 : zs_in ((sn_I σ 1 (7 : Int32).toNatClampNeg)).toInt 1 8 := (zs_ltr 1 8 r3 h_x4 (zs_rdk (q := 1) (k := (7 : Int32).toNatClampNeg) (z := (0, 8)) h_σ.1 rfl) (by decide))
    refine zs_gd (zs_gin (zs_addI 33 47 zlI_33 (zs_mulI 0 14 zlI_2 g4 (by decide)) (by decide)) (by decide)) ?_
    refine zs_lt (Q := fun z => zs_in z.toInt 0 5) (zs_rdb (q := 1) (lo := 0) (hi := 5) h_σ.1 (zs_cases g4 (fun z => zs_bd (zs_tM 1 ((33 : Int32) + ((2 : Int32) * z)).toNatClampNeg) 0 5) (by decide +kernel))) (fun y_4 hy_4 => ?_)
    refine zs_gd (zs_gin (zs_addI 34 48 (zs_addI 33 47 zlI_33 (zs_mulI 0 14 zlI_2 g4 (by decide)) (by decide)) zlI_1 (by decide)) (by decide)) ?_
    refine zs_lt (Q := fun z => zs_in z.toInt 0 5) (zs_rdb (q := 1) (lo := 0) (hi := 5) h_σ.1 (zs_cases g4 (fun z => zs_bd (zs_tM 1 (((33 : Int32) + ((2 : Int32) * z)) + (1 : Int32)).toNatClampNeg) 0 5) (by decide +kernel))) (fun y_7 hy_7 => ?_)
    refine zs_ite (fun c6 => ?_) (fun c6 => ?_)
    · skip
      have r7 := (zs_I_eq c6)
      have g8 : zs_in ((sn_I σ 0 19)).toInt 0 7 := (zs_eqr 0 7 r7 g4 (zs_topI _) (by decide))
      obtain ⟨ret, er, hr⟩ := zw_34 h_σ h_x1 g4 hc
      refine ⟨ret, er, ?_⟩
      exact (zs_sumw hr (fun v w => ⟨w.1, w.2⟩) (fun v w => w.elim))
    · skip
      have r9 := (zs_I_eqn c6)
      refine zs_ite (fun c10 => ?_) (fun c10 => ?_)
      · skip
        have r11 := (zs_I_eq c10)
        refine zs_bd_ (zw_35 hy_7) (fun t_11 pt_11 => ?_)
        refine zs_ite (fun c12 => ?_) (fun c12 => ?_)
        · skip
          have r13 := (zs_I_eq c12)
          have g14 : zs_in (t_11).toInt 1 1 := (zs_eql 1 1 r13 pt_11 zlI_1 (by decide))
          obtain ⟨ret, er, hr⟩ := zw_36 h_σ h_x1 g4 hc
          refine ⟨ret, er, ?_⟩
          exact (zs_sumw hr (fun v w => ⟨w.1, w.2⟩) (fun v w => w.elim))
        · skip
          have r15 := (zs_I_eqn c12)
          have g16 : zs_in (t_11).toInt 0 0 := (zs_neh 0 0 r15 pt_11 zlI_1 (by decide))
          obtain ⟨ret, er, hr⟩ := zw_37 h_σ h_x1 g4 hy_4 hy_7 hc
          refine ⟨ret, er, ?_⟩
          exact (zs_sumw hr (fun v w => ⟨w.1, w.2⟩) (fun v w => w.elim))
      · skip
        have r17 := (zs_I_eqn c10)
        obtain ⟨ret, er, hr⟩ := zw_37 h_σ h_x1 g4 hy_4 hy_7 hc
        refine ⟨ret, er, ?_⟩
        exact (zs_sumw hr (fun v w => ⟨w.1, w.2⟩) (fun v w => w.elim))
theorem zx_8 {σ0 : sn_S} {σ : sn_S} (h_σ : zs_W σ0 σ) {x1 : Int32} (h_x1 : zs_in x1.toInt 0 5) {x2 : Int32} {s0 : (Int32 × Int32)} (h0 : (True ∧ zs_in (s0.2).toInt 0 8)) : zs_ok (sn_it (LX9_netsTo_5 σ x1 x2) 5000 s0) (fun t => True) := by
  refine zs_it (I := fun s => (True ∧ zs_in (s.2).toInt 0 8)) (m := fun s => 8 - s.2.toInt) (fun s hs => ?_) (fun s hs => ?_) (by exact h0)
  · have h1 := hs.2; unfold zs_in at h1
    omega
  · obtain ⟨b, eb, hb⟩ := zw_38 h_σ h_x1 hs.2 (c := s.2.toInt) (Int.add_zero _).symm
    exact ⟨b, eb, zs_sumw hb (fun v w => ⟨⟨w.1.1, (zs_w w.1.2 (by decide))⟩, by have := w.2; omega⟩) (fun v w => w)⟩
-- fX9_netsTo
theorem zw_39 {σ0 : sn_S} {σ : sn_S} (h_σ : zs_W σ0 σ) {x1 : Int32} (h_x1 : zs_in x1.toInt 0 5) {x2 : Int32} : zs_ok (fX9_netsTo σ x1 x2) (fun r => True) := by
  unfold fX9_netsTo
  refine zs_bd_ (zx_8 h_σ h_x1 (s0 := ((0 : Int32), (0 : Int32))) ⟨trivial, (zs_w zlI_0 (by decide))⟩) (fun t_1 pt_1 => ?_)
  obtain ⟨ret, er, hr⟩ := zw_18 h_σ
  refine ⟨ret, er, ?_⟩
  exact hr
-- fX9_bit
theorem zw_40 {x0 : Int32} {x1 : Int32} (h_x1 : zs_in x1.toInt 1 29) : zs_ok (fX9_bit x0 x1) (fun r => zs_in (r).toInt 0 1) := by
  unfold fX9_bit
  exact zs_some (zs_and zlI_1 (by decide))
-- BX9_goMinute_225
theorem zw_41 {σ0 : sn_S} {σ : sn_S} (h_σ : zs_W σ0 σ) {x1 : Int32} (h_x1 : zs_in x1.toInt 1 29) {x2 : Int32} {x3 : Int32} (h_x3 : zs_in x3.toInt 0 5) {c : Int} (hc : x3.toInt = c + 0) : zs_ok (BX9_goMinute_225 σ x1 x2 x3) (fun r => zs_sum (fun v => ((zs_W σ0 v.1 ∧ zs_in (v.2).toInt 1 6)) ∧ v.2.toInt = c + 1) (fun v => False) r) := by
  unfold BX9_goMinute_225
  refine zs_lt (Q := fun z => zs_in z.toInt 1 6 ∧ z.toInt = c + 1) ⟨(zs_addI 1 6 h_x3 zlI_1 (by decide)), (zs_syI 1 hc h_x3 zlI_1 (by decide) (by decide))⟩ (fun y_1 hy_1 => ?_)
  exact zs_some (zs_inl ⟨⟨h_σ, hy_1.1⟩, hy_1.2⟩)
-- BX9_goMinute_192
theorem zw_42 {σ0 : sn_S} {σ : sn_S} (h_σ : zs_W σ0 σ) {x1 : Int32} (h_x1 : zs_in x1.toInt 1 29) {x2 : Int32} {x3 : Int32} (h_x3 : zs_in x3.toInt 0 5) {x7 : Int32} (h_x7 : zs_in x7.toInt 0 0) {t1 : Int32} (h_t1 : zs_in t1.toInt 6 179) {t2 : Int32} (h_t2 : zs_in t2.toInt (-2147483648) 98) {c : Int} (hc : x3.toInt = c + 0) : zs_ok (BX9_goMinute_192 σ x1 x2 x3 x7 t1 t2) (fun r => zs_sum (fun v => ((zs_W σ0 v.1 ∧ zs_in (v.2).toInt 1 6)) ∧ v.2.toInt = c + 1) (fun v => False) r) := by
  unfold BX9_goMinute_192
  obtain rfl : x7 = (0 : Int32) := zs_eqv h_x7 (by decide)
  refine zs_gd (zs_gin h_t1 (by decide)) ?_
  refine zs_lt (Q := fun z => zs_W σ0 z) (zs_wrt h_σ (fun _ => rfl) (fun _ => rfl)) (fun σ_2 hσ_2 => ?_)
  refine zs_ite (fun c1 => ?_) (fun c1 => ?_)
  · skip
    have r2 := (zs_I_eq c1)
    obtain ⟨ret, er, hr⟩ := zw_41 hσ_2 h_x1 h_x3 hc
    refine ⟨ret, er, ?_⟩
    exact (zs_sumw hr (fun v w => ⟨w.1, w.2⟩) (fun v w => w.elim))
  · skip
    have r3 := (zs_I_eqn c1)
    exact (zs_botne r3 h_x7 zlI_0 (by decide)).elim
-- BX9_goMinute_145
theorem zw_43 {σ0 : sn_S} {σ : sn_S} (h_σ : zs_W σ0 σ) {x1 : Int32} (h_x1 : zs_in x1.toInt 1 29) {x2 : Int32} {x3 : Int32} (h_x3 : zs_in x3.toInt 0 5) {x4 : Int32} {x5 : Int32} {x6 : Int32} (h_x6 : zs_in x6.toInt (-2147483648) 98) {t0 : Int32} (h_t0 : zs_in t0.toInt 0 0) {c : Int} (hc : x3.toInt = c + 0) : zs_ok (BX9_goMinute_145 σ x1 x2 x3 x4 x5 x6 t0) (fun r => zs_sum (fun v => ((zs_W σ0 v.1 ∧ zs_in (v.2).toInt 1 6)) ∧ v.2.toInt = c + 1) (fun v => False) r) := by
  unfold BX9_goMinute_145
  obtain rfl : t0 = (0 : Int32) := zs_eqv h_t0 (by decide)
  refine zs_gd (zs_gin h_x3 (by decide)) ?_
  refine zs_gd (zs_gin h_x3 (by decide)) ?_
  refine zs_lt (Q := fun z => zs_W σ0 z) (zs_wrt h_σ (fun _ => rfl) (fun _ => rfl)) (fun σ_3 hσ_3 => ?_)
  refine zs_gd (zs_gin (zs_addI 6 179 (zs_mulI 6 174 zlI_6 h_x1 (by decide)) h_x3 (by decide)) (by decide)) ?_
  refine zs_lt (Q := fun z => zs_W σ0 z) (zs_wrt hσ_3 (fun _ => rfl) (fun _ => rfl)) (fun σ_6 hσ_6 => ?_)
  refine zs_ite (fun c1 => ?_) (fun c1 => ?_)
  · skip
    have r2 := (zs_I_eq c1)
    obtain ⟨ret, er, hr⟩ := zw_42 hσ_6 h_x1 h_x3 h_t0 (zs_addI 6 179 (zs_mulI 6 174 zlI_6 h_x1 (by decide)) h_x3 (by decide)) h_x6 hc
    refine ⟨ret, er, ?_⟩
    exact (zs_sumw hr (fun v w => ⟨w.1, w.2⟩) (fun v w => w.elim))
  · skip
    have r3 := (zs_I_eqn c1)
    exact (zs_botne r3 h_t0 zlI_0 (by decide)).elim
-- BX9_goMinute_144
theorem zw_44 {σ0 : sn_S} {σ : sn_S} (h_σ : zs_W σ0 σ) {x1 : Int32} (h_x1 : zs_in x1.toInt 1 29) {x2 : Int32} {x3 : Int32} (h_x3 : zs_in x3.toInt 0 5) {x4 : Int32} {x5 : Int32} {x6 : Int32} (h_x6 : zs_in x6.toInt (-2147483648) 98) {c : Int} (hc : x3.toInt = c + 0) : zs_ok (BX9_goMinute_144 σ x1 x2 x3 x4 x5 x6) (fun r => zs_sum (fun v => ((zs_W σ0 v.1 ∧ zs_in (v.2).toInt 1 6)) ∧ v.2.toInt = c + 1) (fun v => False) r) := by
  unfold BX9_goMinute_144
  obtain ⟨ret, er, hr⟩ := zw_43 h_σ h_x1 h_x3 h_x6 zlI_0 hc
  refine ⟨ret, er, ?_⟩
  exact (zs_sumw hr (fun v w => ⟨w.1, w.2⟩) (fun v w => w.elim))
-- BX9_goMinute_192
theorem zw_45 {σ0 : sn_S} {σ : sn_S} (h_σ : zs_W σ0 σ) {x1 : Int32} (h_x1 : zs_in x1.toInt 1 29) {x2 : Int32} {x3 : Int32} (h_x3 : zs_in x3.toInt 0 5) {x7 : Int32} (h_x7 : zs_in x7.toInt 1 1) {t1 : Int32} (h_t1 : zs_in t1.toInt 6 179) {t2 : Int32} (h_t2 : zs_in t2.toInt 0 0) {c : Int} (hc : x3.toInt = c + 0) : zs_ok (BX9_goMinute_192 σ x1 x2 x3 x7 t1 t2) (fun r => zs_sum (fun v => ((zs_W σ0 v.1 ∧ zs_in (v.2).toInt 1 6)) ∧ v.2.toInt = c + 1) (fun v => False) r) := by
  unfold BX9_goMinute_192
  obtain rfl : x7 = (1 : Int32) := zs_eqv h_x7 (by decide)
  obtain rfl : t2 = (0 : Int32) := zs_eqv h_t2 (by decide)
  refine zs_gd (zs_gin h_t1 (by decide)) ?_
  refine zs_lt (Q := fun z => zs_W σ0 z) (zs_wrt h_σ (fun _ => rfl) (fun _ => rfl)) (fun σ_2 hσ_2 => ?_)
  refine zs_ite (fun c1 => ?_) (fun c1 => ?_)
  · skip
    have r2 := (zs_I_eq c1)
    exact (zs_botr r2 h_x7 zlI_0 (by decide)).elim
  · skip
    have r3 := (zs_I_eqn c1)
    refine zs_gd (zs_gin h_x1 (by decide)) ?_
    refine zs_gd (zs_gin h_x1 (by decide)) ?_
    refine zs_lt (Q := fun z => zs_W σ0 z) (zs_wrt hσ_2 (fun _ => rfl) (fun _ => rfl)) (fun σ_7 hσ_7 => ?_)
    refine zs_gd (zs_gin h_x3 (by decide)) ?_
    refine zs_gd (zs_gin h_x3 (by decide)) ?_
    refine zs_lt (Q := fun z => zs_W σ0 z) (zs_wru (z := (0, 1073741823)) hσ_7 (fun _ => rfl) (zs_or 30 1073741823 (zs_rdu (q := 10) (z := (0, 1073741823)) hσ_7.1 (fun _ => rfl)) (zs_cases h_x1 (fun z => zs_in ((1 : Int32) <<< (z &&& 31)).toInt 2 536870912) (by decide +kernel)) (by decide)) (by decide) (fun _ => rfl)) (fun σ_11 hσ_11 => ?_)
    obtain ⟨ret, er, hr⟩ := zw_41 hσ_11 h_x1 h_x3 hc
    refine ⟨ret, er, ?_⟩
    exact (zs_sumw hr (fun v w => ⟨w.1, w.2⟩) (fun v w => w.elim))
-- BX9_goMinute_145
theorem zw_46 {σ0 : sn_S} {σ : sn_S} (h_σ : zs_W σ0 σ) {x1 : Int32} (h_x1 : zs_in x1.toInt 1 29) {x2 : Int32} {x3 : Int32} (h_x3 : zs_in x3.toInt 0 5) {x4 : Int32} {x5 : Int32} {x6 : Int32} (h_x6 : zs_in x6.toInt 0 2147483647) {t0 : Int32} (h_t0 : zs_in t0.toInt 1 1) {c : Int} (hc : x3.toInt = c + 0) : zs_ok (BX9_goMinute_145 σ x1 x2 x3 x4 x5 x6 t0) (fun r => zs_sum (fun v => ((zs_W σ0 v.1 ∧ zs_in (v.2).toInt 1 6)) ∧ v.2.toInt = c + 1) (fun v => False) r) := by
  unfold BX9_goMinute_145
  obtain rfl : t0 = (1 : Int32) := zs_eqv h_t0 (by decide)
  refine zs_gd (zs_gin h_x3 (by decide)) ?_
  refine zs_gd (zs_gin h_x3 (by decide)) ?_
  refine zs_lt (Q := fun z => zs_W σ0 z) (zs_wrt h_σ (fun _ => rfl) (fun _ => rfl)) (fun σ_3 hσ_3 => ?_)
  refine zs_gd (zs_gin (zs_addI 6 179 (zs_mulI 6 174 zlI_6 h_x1 (by decide)) h_x3 (by decide)) (by decide)) ?_
  refine zs_lt (Q := fun z => zs_W σ0 z) (zs_wrt hσ_3 (fun _ => rfl) (fun _ => rfl)) (fun σ_6 hσ_6 => ?_)
  refine zs_ite (fun c1 => ?_) (fun c1 => ?_)
  · skip
    have r2 := (zs_I_eq c1)
    exact (zs_botr r2 h_t0 zlI_0 (by decide)).elim
  · skip
    have r3 := (zs_I_eqn c1)
    obtain ⟨ret, er, hr⟩ := zw_45 hσ_6 h_x1 h_x3 h_t0 (zs_addI 6 179 (zs_mulI 6 174 zlI_6 h_x1 (by decide)) h_x3 (by decide)) zlI_0 hc
    refine ⟨ret, er, ?_⟩
    exact (zs_sumw hr (fun v w => ⟨w.1, w.2⟩) (fun v w => w.elim))
-- BX9_goMinute_192
theorem zw_47 {σ0 : sn_S} {σ : sn_S} (h_σ : zs_W σ0 σ) {x1 : Int32} (h_x1 : zs_in x1.toInt 1 29) {x2 : Int32} {x3 : Int32} (h_x3 : zs_in x3.toInt 0 5) {x7 : Int32} (h_x7 : zs_in x7.toInt 0 0) {t1 : Int32} (h_t1 : zs_in t1.toInt 6 179) {t2 : Int32} (h_t2 : zs_in t2.toInt 0 2147483647) {c : Int} (hc : x3.toInt = c + 0) : zs_ok (BX9_goMinute_192 σ x1 x2 x3 x7 t1 t2) (fun r => zs_sum (fun v => ((zs_W σ0 v.1 ∧ zs_in (v.2).toInt 1 6)) ∧ v.2.toInt = c + 1) (fun v => False) r) := by
  unfold BX9_goMinute_192
  obtain rfl : x7 = (0 : Int32) := zs_eqv h_x7 (by decide)
  refine zs_gd (zs_gin h_t1 (by decide)) ?_
  refine zs_lt (Q := fun z => zs_W σ0 z) (zs_wrt h_σ (fun _ => rfl) (fun _ => rfl)) (fun σ_2 hσ_2 => ?_)
  refine zs_ite (fun c1 => ?_) (fun c1 => ?_)
  · skip
    have r2 := (zs_I_eq c1)
    obtain ⟨ret, er, hr⟩ := zw_41 hσ_2 h_x1 h_x3 hc
    refine ⟨ret, er, ?_⟩
    exact (zs_sumw hr (fun v w => ⟨w.1, w.2⟩) (fun v w => w.elim))
  · skip
    have r3 := (zs_I_eqn c1)
    exact (zs_botne r3 h_x7 zlI_0 (by decide)).elim
-- BX9_goMinute_145
theorem zw_48 {σ0 : sn_S} {σ : sn_S} (h_σ : zs_W σ0 σ) {x1 : Int32} (h_x1 : zs_in x1.toInt 1 29) {x2 : Int32} {x3 : Int32} (h_x3 : zs_in x3.toInt 0 5) {x4 : Int32} {x5 : Int32} {x6 : Int32} (h_x6 : zs_in x6.toInt 0 2147483647) {t0 : Int32} (h_t0 : zs_in t0.toInt 0 0) {c : Int} (hc : x3.toInt = c + 0) : zs_ok (BX9_goMinute_145 σ x1 x2 x3 x4 x5 x6 t0) (fun r => zs_sum (fun v => ((zs_W σ0 v.1 ∧ zs_in (v.2).toInt 1 6)) ∧ v.2.toInt = c + 1) (fun v => False) r) := by
  unfold BX9_goMinute_145
  obtain rfl : t0 = (0 : Int32) := zs_eqv h_t0 (by decide)
  refine zs_gd (zs_gin h_x3 (by decide)) ?_
  refine zs_gd (zs_gin h_x3 (by decide)) ?_
  refine zs_lt (Q := fun z => zs_W σ0 z) (zs_wrt h_σ (fun _ => rfl) (fun _ => rfl)) (fun σ_3 hσ_3 => ?_)
  refine zs_gd (zs_gin (zs_addI 6 179 (zs_mulI 6 174 zlI_6 h_x1 (by decide)) h_x3 (by decide)) (by decide)) ?_
  refine zs_lt (Q := fun z => zs_W σ0 z) (zs_wrt hσ_3 (fun _ => rfl) (fun _ => rfl)) (fun σ_6 hσ_6 => ?_)
  refine zs_ite (fun c1 => ?_) (fun c1 => ?_)
  · skip
    have r2 := (zs_I_eq c1)
    obtain ⟨ret, er, hr⟩ := zw_47 hσ_6 h_x1 h_x3 h_t0 (zs_addI 6 179 (zs_mulI 6 174 zlI_6 h_x1 (by decide)) h_x3 (by decide)) h_x6 hc
    refine ⟨ret, er, ?_⟩
    exact (zs_sumw hr (fun v w => ⟨w.1, w.2⟩) (fun v w => w.elim))
  · skip
    have r3 := (zs_I_eqn c1)
    exact (zs_botne r3 h_t0 zlI_0 (by decide)).elim
-- BX9_goMinute_144
theorem zw_49 {σ0 : sn_S} {σ : sn_S} (h_σ : zs_W σ0 σ) {x1 : Int32} (h_x1 : zs_in x1.toInt 1 29) {x2 : Int32} {x3 : Int32} (h_x3 : zs_in x3.toInt 0 5) {x4 : Int32} {x5 : Int32} {x6 : Int32} (h_x6 : zs_in x6.toInt 0 2147483647) {c : Int} (hc : x3.toInt = c + 0) : zs_ok (BX9_goMinute_144 σ x1 x2 x3 x4 x5 x6) (fun r => zs_sum (fun v => ((zs_W σ0 v.1 ∧ zs_in (v.2).toInt 1 6)) ∧ v.2.toInt = c + 1) (fun v => False) r) := by
  unfold BX9_goMinute_144
  obtain ⟨ret, er, hr⟩ := zw_48 h_σ h_x1 h_x3 h_x6 zlI_0 hc
  refine ⟨ret, er, ?_⟩
  exact (zs_sumw hr (fun v w => ⟨w.1, w.2⟩) (fun v w => w.elim))
-- BX9_goMinute_104
theorem zw_50 {σ0 : sn_S} {σ : sn_S} (h_σ : zs_W σ0 σ) {x1 : Int32} (h_x1 : zs_in x1.toInt 1 29) {x2 : Int32} {x3 : Int32} (h_x3 : zs_in x3.toInt 0 5) {x4 : Int32} {x5 : Int32} {t0 : Int32} {c : Int} (hc : x3.toInt = c + 0) : zs_ok (BX9_goMinute_104 σ x1 x2 x3 x4 x5 t0) (fun r => zs_sum (fun v => ((zs_W σ0 v.1 ∧ zs_in (v.2).toInt 1 6)) ∧ v.2.toInt = c + 1) (fun v => False) r) := by
  unfold BX9_goMinute_104
  refine zs_lt (Q := fun z => True) trivial (fun y_1 hy_1 => ?_)
  refine zs_gd (zs_gin (zs_addI 12 22 (zs_addI 11 21 zlI_11 (zs_mulI 0 10 zlI_2 h_x3 (by decide)) (by decide)) zlI_1 (by decide)) (by decide)) ?_
  refine zs_ite (fun c1 => ?_) (fun c1 => ?_)
  · skip
    have r2 := (zs_I_lt c1)
    have g3 : zs_in (y_1).toInt (-2147483648) 98 := (zs_ltl (-2147483648) 98 r2 (zs_topI _) (zs_rdb (q := 1) (lo := 0) (hi := 99) h_σ.1 (zs_cases h_x3 (fun z => zs_bd (zs_tM 1 (((11 : Int32) + ((2 : Int32) * z)) + (1 : Int32)).toNatClampNeg) 0 99) (by decide +kernel))) (by decide))
    obtain ⟨ret, er, hr⟩ := zw_44 h_σ h_x1 h_x3 g3 hc
    refine ⟨ret, er, ?_⟩
    exact (zs_sumw hr (fun v w => ⟨w.1, w.2⟩) (fun v w => w.elim))
  · skip
    have r4 := (zs_I_ltn c1)
    have g5 : zs_in (y_1).toInt 0 2147483647 := (zs_ler 0 2147483647 r4 (zs_rdb (q := 1) (lo := 0) (hi := 99) h_σ.1 (zs_cases h_x3 (fun z => zs_bd (zs_tM 1 (((11 : Int32) + ((2 : Int32) * z)) + (1 : Int32)).toNatClampNeg) 0 99) (by decide +kernel))) (zs_topI _) (by decide))
    refine zs_gd (zs_gin h_x3 (by decide)) ?_
    refine zs_bd_ (zw_40 h_x1) (fun t_6 pt_6 => ?_)
    refine zs_ite (fun c6 => ?_) (fun c6 => ?_)
    · skip
      have r7 := (zs_I_eq c6)
      have g8 : zs_in (t_6).toInt 0 0 := (zs_eql 0 0 r7 pt_6 zlI_0 (by decide))
      obtain ⟨ret, er, hr⟩ := zw_46 h_σ h_x1 h_x3 g5 zlI_1 hc
      refine ⟨ret, er, ?_⟩
      exact (zs_sumw hr (fun v w => ⟨w.1, w.2⟩) (fun v w => w.elim))
    · skip
      have r9 := (zs_I_eqn c6)
      have g10 : zs_in (t_6).toInt 1 1 := (zs_nel 1 1 r9 pt_6 zlI_0 (by decide))
      obtain ⟨ret, er, hr⟩ := zw_49 h_σ h_x1 h_x3 g5 hc
      refine ⟨ret, er, ?_⟩
      exact (zs_sumw hr (fun v w => ⟨w.1, w.2⟩) (fun v w => w.elim))
-- BX9_goMinute_26
theorem zw_51 {σ0 : sn_S} {σ : sn_S} (h_σ : zs_W σ0 σ) {x1 : Int32} (h_x1 : zs_in x1.toInt 1 29) {x2 : Int32} {x3 : Int32} (h_x3 : zs_in x3.toInt 0 6) {c : Int} (hc : x3.toInt = c + 0) : zs_ok (BX9_goMinute_26 σ x1 x2 x3) (fun r => zs_sum (fun v => ((zs_W σ0 v.1 ∧ zs_in (v.2).toInt 1 6)) ∧ v.2.toInt = c + 1) (fun v => zs_W σ0 v) r) := by
  unfold BX9_goMinute_26
  refine zs_gd (zs_gin zlI_5 (by decide)) ?_
  refine zs_ite (fun c1 => ?_) (fun c1 => ?_)
  · skip
    have r2 := (zs_I_le c1)
    exact zs_some (zs_inr (h_σ))
  · skip
    have r3 := (zs_I_len c1)
    have g4 : zs_in (x3).toInt 0 5 := (zs_ltl 0 5 r3 h_x3 (zs_rdk (q := 1) (k := (5 : Int32).toNatClampNeg) (z := (0, 6)) h_σ.1 rfl) (by decide))
    have g5 : zs_in ((sn_I σ 1 (5 : Int32).toNatClampNeg)).toInt 1 6 := (zs_ltr 1 6 r3 h_x3 (zs_rdk (q := 1) (k := (5 : Int32).toNatClampNeg) (z := (0, 6)) h_σ.1 rfl) (by decide))
    refine zs_bd_ (zw_39 h_σ g4) (fun t_3 pt_3 => ?_)
    refine zs_lt (Q := fun z => True) trivial (fun y_5 hy_5 => ?_)
    refine zs_gd (zs_gin (zs_addI 11 21 zlI_11 (zs_mulI 0 10 zlI_2 g4 (by decide)) (by decide)) (by decide)) ?_
    refine zs_gd (zs_gin h_x1 (by decide)) ?_
    refine zs_gd (zs_gin g4 (by decide)) ?_
    refine zs_bd_ (zw_40 h_x1) (fun t_10 pt_10 => ?_)
    refine zs_lt (Q := fun z => True) trivial (fun y_12 hy_12 => ?_)
    refine zs_ite (fun c6 => ?_) (fun c6 => ?_)
    · skip
      have r7 := (zs_I_eq c6)
      exact (zs_botr r7 h_x1 zlI_0 (by decide)).elim
    · skip
      have r8 := (zs_I_eqn c6)
      refine zs_gd (zs_gin (zs_addI 0 173 (zs_mulI 0 168 zlI_6 (zs_subI 0 28 h_x1 zlI_1 (by decide)) (by decide)) g4 (by decide)) (by decide)) ?_
      obtain ⟨ret, er, hr⟩ := zw_50 h_σ h_x1 g4 hc
      refine ⟨ret, er, ?_⟩
      exact (zs_sumw hr (fun v w => ⟨w.1, w.2⟩) (fun v w => w.elim))
theorem zx_9 {σ0 : sn_S} {x1 : Int32} (h_x1 : zs_in x1.toInt 1 29) {x2 : Int32} {s0 : (sn_S × Int32)} (h0 : (zs_W σ0 s0.1 ∧ zs_in (s0.2).toInt 0 6)) : zs_ok (sn_it (LX9_goMinute_26 x1 x2) 5000 s0) (fun t => zs_W σ0 t) := by
  refine zs_it (I := fun s => (zs_W σ0 s.1 ∧ zs_in (s.2).toInt 0 6)) (m := fun s => 6 - s.2.toInt) (fun s hs => ?_) (fun s hs => ?_) (by exact h0)
  · have h1 := hs.2; unfold zs_in at h1
    omega
  · obtain ⟨b, eb, hb⟩ := zw_51 hs.1 h_x1 hs.2 (c := s.2.toInt) (Int.add_zero _).symm
    exact ⟨b, eb, zs_sumw hb (fun v w => ⟨⟨w.1.1, (zs_w w.1.2 (by decide))⟩, by have := w.2; omega⟩) (fun v w => w)⟩
-- BX9_goMinute_23
theorem zw_52 {σ0 : sn_S} {σ : sn_S} (h_σ : zs_W σ0 σ) {x1 : Int32} (h_x1 : zs_in x1.toInt 1 29) {t0 : Int32} : zs_ok (BX9_goMinute_23 σ x1 t0) (fun r => zs_W σ0 r) := by
  unfold BX9_goMinute_23
  refine zs_bd_ (zx_9 h_x1 (s0 := (σ, (0 : Int32))) ⟨h_σ, (zs_w zlI_0 (by decide))⟩) (fun t_1 pt_1 => ?_)
  obtain ⟨ret, er, hr⟩ := zw_32 pt_1
  refine ⟨ret, er, ?_⟩
  exact hr
-- fX9_goMinute
theorem zw_53 {σ0 : sn_S} {σ : sn_S} (h_σ : zs_W σ0 σ) {x1 : Int32} (h_x1 : zs_in x1.toInt 0 29) : zs_ok (fX9_goMinute σ x1) (fun r => zs_W σ0 r) := by
  unfold fX9_goMinute
  refine zs_gd (zs_gin h_x1 (by decide)) ?_
  refine zs_lt (Q := fun z => zs_W σ0 z) (zs_wrt h_σ (fun _ => rfl) (fun _ => rfl)) (fun σ_2 hσ_2 => ?_)
  refine zs_ite (fun c1 => ?_) (fun c1 => ?_)
  · skip
    have r2 := (zs_I_eq c1)
    have g3 : zs_in (x1).toInt 0 0 := (zs_eql 0 0 r2 h_x1 zlI_0 (by decide))
    obtain ⟨ret, er, hr⟩ := zw_33 hσ_2 g3 zlI_0
    refine ⟨ret, er, ?_⟩
    exact hr
  · skip
    have r4 := (zs_I_eqn c1)
    have g5 : zs_in (x1).toInt 1 29 := (zs_nel 1 29 r4 h_x1 zlI_0 (by decide))
    refine zs_gd (zs_gin (zs_subI 0 28 g5 zlI_1 (by decide)) (by decide)) ?_
    obtain ⟨ret, er, hr⟩ := zw_52 hσ_2 g5
    refine ⟨ret, er, ?_⟩
    exact hr
-- BX9_goAll_30
theorem zw_54 {σ0 : sn_S} {σ : sn_S} (h_σ : zs_W σ0 σ) {x1 : Int32} (h_x1 : zs_in x1.toInt 0 30) {c : Int} (hc : x1.toInt = c + 0) : zs_ok (BX9_goAll_30 σ x1) (fun r => zs_sum (fun v => ((zs_W σ0 v.1 ∧ zs_in (v.2).toInt 1 30)) ∧ v.2.toInt = c + 1) (fun v => zs_W σ0 v) r) := by
  unfold BX9_goAll_30
  refine zs_ite (fun c1 => ?_) (fun c1 => ?_)
  · skip
    have r2 := (zs_I_lt c1)
    exact zs_some (zs_inr (h_σ))
  · skip
    have r3 := (zs_I_ltn c1)
    have g4 : zs_in (x1).toInt 0 29 := (zs_lel 0 29 r3 h_x1 (zs_rdk (q := 0) (k := 22) (z := ((-1), 29)) h_σ.1 rfl) (by decide))
    have g5 : zs_in ((sn_I σ 0 22)).toInt 0 29 := (zs_ler 0 29 r3 h_x1 (zs_rdk (q := 0) (k := 22) (z := ((-1), 29)) h_σ.1 rfl) (by decide))
    refine zs_bd_ (zw_53 h_σ g4) (fun t_2 pt_2 => ?_)
    refine zs_lt (Q := fun z => zs_in z.toInt 1 30 ∧ z.toInt = c + 1) ⟨(zs_addI 1 30 g4 zlI_1 (by decide)), (zs_syI 1 hc g4 zlI_1 (by decide) (by decide))⟩ (fun y_4 hy_4 => ?_)
    exact zs_some (zs_inl ⟨⟨pt_2, hy_4.1⟩, hy_4.2⟩)
theorem zx_10 {σ0 : sn_S}  {s0 : (sn_S × Int32)} (h0 : (zs_W σ0 s0.1 ∧ zs_in (s0.2).toInt 0 30)) : zs_ok (sn_it (LX9_goAll_30) 5000 s0) (fun t => zs_W σ0 t) := by
  refine zs_it (I := fun s => (zs_W σ0 s.1 ∧ zs_in (s.2).toInt 0 30)) (m := fun s => 30 - s.2.toInt) (fun s hs => ?_) (fun s hs => ?_) (by exact h0)
  · have h1 := hs.2; unfold zs_in at h1
    omega
  · obtain ⟨b, eb, hb⟩ := zw_54 hs.1 hs.2 (c := s.2.toInt) (Int.add_zero _).symm
    exact ⟨b, eb, zs_sumw hb (fun v w => ⟨⟨w.1.1, (zs_w w.1.2 (by decide))⟩, by have := w.2; omega⟩) (fun v w => w)⟩
-- BX9_goAll_49
theorem zw_55 {σ0 : sn_S} {σ : sn_S} (h_σ : zs_W σ0 σ) : zs_ok (BX9_goAll_49 σ) (fun r => zs_W σ0 r) := by
  unfold BX9_goAll_49
  exact zs_some h_σ
-- BX9_goAll_28
theorem zw_56 {σ0 : sn_S} {σ : sn_S} (h_σ : zs_W σ0 σ) : zs_ok (BX9_goAll_28 σ) (fun r => zs_W σ0 r) := by
  unfold BX9_goAll_28
  refine zs_bd_ (zx_10  (s0 := (σ, (0 : Int32))) ⟨h_σ, (zs_w zlI_0 (by decide))⟩) (fun t_1 pt_1 => ?_)
  obtain ⟨ret, er, hr⟩ := zw_55 pt_1
  refine ⟨ret, er, ?_⟩
  exact hr
-- fX9_goAll
theorem zw_57 {σ0 : sn_S} {σ : sn_S} (h_σ : zs_W σ0 σ) : zs_ok (fX9_goAll σ) (fun r => zs_W σ0 r) := by
  unfold fX9_goAll
  refine zs_bd_ (zx_5  (s0 := (σ, (0 : Int32))) ⟨h_σ, (zs_w zlI_0 (by decide))⟩) (fun t_1 pt_1 => ?_)
  obtain ⟨ret, er, hr⟩ := zw_56 pt_1
  refine ⟨ret, er, ?_⟩
  exact hr
-- fX9_of
theorem zw_58 {σ0 : sn_S} {σ : sn_S} (h_σ : zs_W σ0 σ) {x1 : Int32} (h_x1 : zs_in x1.toInt 0 5) {x2 : Int32} (h_x2 : zs_in x2.toInt 0 0) : zs_ok (fX9_of σ x1 x2) (fun r => zs_in (r).toInt 0 5) := by
  unfold fX9_of
  obtain rfl : x2 = (0 : Int32) := zs_eqv h_x2 (by decide)
  refine zs_gd (zs_gin (zs_addI 49 74 (zs_addI 49 74 zlI_49 (zs_mulI 0 25 zlI_5 h_x1 (by decide)) (by decide)) h_x2 (by decide)) (by decide)) ?_
  exact zs_some (zs_rdb (q := 1) (lo := 0) (hi := 5) h_σ.1 (zs_cases h_x1 (fun z => zs_bd (zs_tM 1 (((49 : Int32) + ((5 : Int32) * z)) + (0 : Int32)).toNatClampNeg) 0 5) (by decide +kernel)))
-- fX9_of
theorem zw_59 {σ0 : sn_S} {σ : sn_S} (h_σ : zs_W σ0 σ) {x1 : Int32} (h_x1 : zs_in x1.toInt 0 5) {x2 : Int32} (h_x2 : zs_in x2.toInt 1 1) : zs_ok (fX9_of σ x1 x2) (fun r => zs_in (r).toInt 0 29) := by
  unfold fX9_of
  obtain rfl : x2 = (1 : Int32) := zs_eqv h_x2 (by decide)
  refine zs_gd (zs_gin (zs_addI 50 75 (zs_addI 49 74 zlI_49 (zs_mulI 0 25 zlI_5 h_x1 (by decide)) (by decide)) h_x2 (by decide)) (by decide)) ?_
  exact zs_some (zs_rdb (q := 1) (lo := 0) (hi := 29) h_σ.1 (zs_cases h_x1 (fun z => zs_bd (zs_tM 1 (((49 : Int32) + ((5 : Int32) * z)) + (1 : Int32)).toNatClampNeg) 0 29) (by decide +kernel)))
-- fX9_of
theorem zw_60 {σ0 : sn_S} {σ : sn_S} (h_σ : zs_W σ0 σ) {x1 : Int32} (h_x1 : zs_in x1.toInt 0 5) {x2 : Int32} (h_x2 : zs_in x2.toInt 2 2) : zs_ok (fX9_of σ x1 x2) (fun r => zs_in (r).toInt 0 29) := by
  unfold fX9_of
  obtain rfl : x2 = (2 : Int32) := zs_eqv h_x2 (by decide)
  refine zs_gd (zs_gin (zs_addI 51 76 (zs_addI 49 74 zlI_49 (zs_mulI 0 25 zlI_5 h_x1 (by decide)) (by decide)) h_x2 (by decide)) (by decide)) ?_
  exact zs_some (zs_rdb (q := 1) (lo := 0) (hi := 29) h_σ.1 (zs_cases h_x1 (fun z => zs_bd (zs_tM 1 (((49 : Int32) + ((5 : Int32) * z)) + (2 : Int32)).toNatClampNeg) 0 29) (by decide +kernel)))
-- BX9_windowOf_9
theorem zw_61 {σ0 : sn_S} {σ : sn_S} (h_σ : zs_W σ0 σ) {x1 : Int32} (h_x1 : zs_in x1.toInt 0 5) {x2 : Int32} (h_x2 : zs_in x2.toInt 0 1073741823) {x3 : Int32} (h_x3 : zs_in x3.toInt 0 30) {c : Int} (hc : x3.toInt = c + 0) : zs_ok (BX9_windowOf_9 σ x1 x2 x3) (fun r => zs_sum (fun v => ((zs_in (v.1).toInt 0 1073741823 ∧ zs_in (v.2).toInt 1 30)) ∧ v.2.toInt = c + 1) (fun v => zs_in (v).toInt 0 1073741823) r) := by
  unfold BX9_windowOf_9
  refine zs_bd_ (zw_60 h_σ h_x1 zlI_2) (fun t_1 pt_1 => ?_)
  refine zs_ite (fun c1 => ?_) (fun c1 => ?_)
  · skip
    have r2 := (zs_I_lt c1)
    have g3 : zs_in (x3).toInt 1 30 := (zs_ltr 1 30 r2 pt_1 h_x3 (by decide))
    exact zs_some (zs_inr (h_x2))
  · skip
    have r4 := (zs_I_ltn c1)
    have g5 : zs_in (x3).toInt 0 29 := (zs_lel 0 29 r4 h_x3 pt_1 (by decide))
    refine zs_ite (fun c6 => ?_) (fun c6 => ?_)
    · skip
      have r7 := (zs_I_lt c6)
      have g8 : zs_in ((sn_I σ 0 22)).toInt (-1) 28 := (zs_ltl (-1) 28 r7 (zs_rdk (q := 0) (k := 22) (z := ((-1), 29)) h_σ.1 rfl) g5 (by decide))
      exact zs_some (zs_inr (h_x2))
    · skip
      have r9 := (zs_I_ltn c6)
      have g10 : zs_in ((sn_I σ 0 22)).toInt 0 29 := (zs_ler 0 29 r9 g5 (zs_rdk (q := 0) (k := 22) (z := ((-1), 29)) h_σ.1 rfl) (by decide))
      refine zs_lt (Q := fun z => zs_in z.toInt 0 1073741823) (zs_or 30 1073741823 h_x2 (zs_cases g5 (fun z => zs_in ((1 : Int32) <<< (z &&& 31)).toInt 1 536870912) (by decide +kernel)) (by decide)) (fun y_5 hy_5 => ?_)
      refine zs_lt (Q := fun z => zs_in z.toInt 1 30 ∧ z.toInt = c + 1) ⟨(zs_addI 1 30 g5 zlI_1 (by decide)), (zs_syI 1 hc g5 zlI_1 (by decide) (by decide))⟩ (fun y_7 hy_7 => ?_)
      exact zs_some (zs_inl ⟨⟨hy_5, hy_7.1⟩, hy_7.2⟩)
theorem zx_11 {σ0 : sn_S} {σ : sn_S} (h_σ : zs_W σ0 σ) {x1 : Int32} (h_x1 : zs_in x1.toInt 0 5) {s0 : (Int32 × Int32)} (h0 : (zs_in (s0.1).toInt 0 1073741823 ∧ zs_in (s0.2).toInt 0 30)) : zs_ok (sn_it (LX9_windowOf_9 σ x1) 5000 s0) (fun t => zs_in (t).toInt 0 1073741823) := by
  refine zs_it (I := fun s => (zs_in (s.1).toInt 0 1073741823 ∧ zs_in (s.2).toInt 0 30)) (m := fun s => 30 - s.2.toInt) (fun s hs => ?_) (fun s hs => ?_) (by exact h0)
  · have h1 := hs.2; unfold zs_in at h1
    omega
  · obtain ⟨b, eb, hb⟩ := zw_61 h_σ h_x1 hs.1 hs.2 (c := s.2.toInt) (Int.add_zero _).symm
    exact ⟨b, eb, zs_sumw hb (fun v w => ⟨⟨w.1.1, (zs_w w.1.2 (by decide))⟩, by have := w.2; omega⟩) (fun v w => w)⟩
-- BX9_windowOf_39
theorem zw_62 {σ0 : sn_S} {σ : sn_S} (h_σ : zs_W σ0 σ) {x2 : Int32} (h_x2 : zs_in x2.toInt 0 1073741823) : zs_ok (BX9_windowOf_39 σ x2) (fun r => zs_in (r).toInt 0 1073741823) := by
  unfold BX9_windowOf_39
  exact zs_some h_x2
-- fX9_windowOf
theorem zw_63 {σ0 : sn_S} {σ : sn_S} (h_σ : zs_W σ0 σ) {x1 : Int32} (h_x1 : zs_in x1.toInt 0 5) : zs_ok (fX9_windowOf σ x1) (fun r => zs_in (r).toInt 0 1073741823) := by
  unfold fX9_windowOf
  refine zs_bd_ (zw_59 h_σ h_x1 zlI_1) (fun t_1 pt_1 => ?_)
  refine zs_bd_ (zx_11 h_σ h_x1 (s0 := ((0 : Int32), t_1)) ⟨(zs_w zlI_0 (by decide)), (zs_w pt_1 (by decide))⟩) (fun t_3 pt_3 => ?_)
  obtain ⟨ret, er, hr⟩ := zw_62 h_σ pt_3
  refine ⟨ret, er, ?_⟩
  exact hr
-- fX9_ahead
theorem zw_64 {x1 : Int32} (h_x1 : zs_in x1.toInt 0 29) : zs_ok (fX9_ahead x1) (fun r => zs_in (r).toInt 0 536870911) := by
  unfold fX9_ahead
  exact zs_some (zs_subI 0 536870911 (zs_cases h_x1 (fun z => zs_in ((1 : Int32) <<< (z &&& 31)).toInt 1 536870912) (by decide +kernel)) zlI_1 (by decide))
-- fX9_of
theorem zw_65 {σ0 : sn_S} {σ : sn_S} (h_σ : zs_W σ0 σ) {x1 : Int32} (h_x1 : zs_in x1.toInt 0 5) {x2 : Int32} (h_x2 : zs_in x2.toInt 3 3) : zs_ok (fX9_of σ x1 x2) (fun r => zs_in (r).toInt 0 99) := by
  unfold fX9_of
  obtain rfl : x2 = (3 : Int32) := zs_eqv h_x2 (by decide)
  refine zs_gd (zs_gin (zs_addI 52 77 (zs_addI 49 74 zlI_49 (zs_mulI 0 25 zlI_5 h_x1 (by decide)) (by decide)) h_x2 (by decide)) (by decide)) ?_
  exact zs_some (zs_rdb (q := 1) (lo := 0) (hi := 99) h_σ.1 (zs_cases h_x1 (fun z => zs_bd (zs_tM 1 (((49 : Int32) + ((5 : Int32) * z)) + (3 : Int32)).toNatClampNeg) 0 99) (by decide +kernel)))
-- BX9_claimOf_177
theorem zw_66 {σ0 : sn_S} {σ : sn_S} (h_σ : zs_W σ0 σ) {x1 : Int32} (h_x1 : zs_in x1.toInt 0 5) {x2 : Int32} (h_x2 : zs_in x2.toInt 0 5) {x3 : Int32} (h_x3 : zs_in x3.toInt 0 0) {x4 : Int32} (h_x4 : zs_in x4.toInt 0 1073741823) {x5 : Int32} {x6 : Int32} (h_x6 : zs_in x6.toInt 3 3) {x7 : Int32} (h_x7 : zs_in x7.toInt 0 2) {c : Int} (hc : x7.toInt = c + 0) : zs_ok (BX9_claimOf_177 σ x1 x2 x3 x4 x5 x6 x7) (fun r => zs_sum (fun v => ((zs_W σ0 v.1 ∧ (zs_in (v.2.1).toInt 0 1073741823 ∧ (True ∧ zs_in (v.2.2.2).toInt 1 3)))) ∧ v.2.2.2.toInt = c + 1) (fun v => False) r) := by
  unfold BX9_claimOf_177
  obtain rfl : x3 = (0 : Int32) := zs_eqv h_x3 (by decide)
  obtain rfl : x6 = (3 : Int32) := zs_eqv h_x6 (by decide)
  refine zs_lt (Q := fun z => zs_in z.toInt 1 3 ∧ z.toInt = c + 1) ⟨(zs_addI 1 3 h_x7 zlI_1 (by decide)), (zs_syI 1 hc h_x7 zlI_1 (by decide) (by decide))⟩ (fun y_1 hy_1 => ?_)
  exact zs_some (zs_inl ⟨⟨h_σ, ⟨h_x4, ⟨trivial, hy_1.1⟩⟩⟩, hy_1.2⟩)
-- BX9_claimOf_152
theorem zw_67 {σ0 : sn_S} {σ : sn_S} (h_σ : zs_W σ0 σ) {x1 : Int32} (h_x1 : zs_in x1.toInt 0 5) {x2 : Int32} (h_x2 : zs_in x2.toInt 0 5) {x3 : Int32} (h_x3 : zs_in x3.toInt 0 0) {x4 : Int32} (h_x4 : zs_in x4.toInt 0 1073741823) {x5 : Int32} {x6 : Int32} (h_x6 : zs_in x6.toInt 3 3) {x7 : Int32} (h_x7 : zs_in x7.toInt 0 2) {x8 : Int32} (h_x8 : zs_in x8.toInt 0 29) {t0 : Int32} (h_t0 : zs_in t0.toInt 0 99) {c : Int} (hc : x7.toInt = c + 0) : zs_ok (BX9_claimOf_152 σ x1 x2 x3 x4 x5 x6 x7 x8 t0) (fun r => zs_sum (fun v => ((zs_W σ0 v.1 ∧ (zs_in (v.2.1).toInt 0 1073741823 ∧ (True ∧ zs_in (v.2.2.2).toInt 1 3)))) ∧ v.2.2.2.toInt = c + 1) (fun v => False) r) := by
  unfold BX9_claimOf_152
  obtain rfl : x3 = (0 : Int32) := zs_eqv h_x3 (by decide)
  obtain rfl : x6 = (3 : Int32) := zs_eqv h_x6 (by decide)
  refine zs_lt (Q := fun z => True) trivial (fun y_1 hy_1 => ?_)
  refine zs_ite (fun c1 => ?_) (fun c1 => ?_)
  · skip
    have r2 := (zs_I_eq c1)
    obtain ⟨ret, er, hr⟩ := zw_66 h_σ h_x1 h_x2 h_x3 h_x4 h_x6 h_x7 hc
    refine ⟨ret, er, ?_⟩
    exact (zs_sumw hr (fun v w => ⟨w.1, w.2⟩) (fun v w => w.elim))
  · skip
    have r3 := (zs_I_eqn c1)
    exact (zs_botne r3 h_x3 zlI_0 (by decide)).elim
-- BX9_claimOf_128
theorem zw_68 {σ0 : sn_S} {σ : sn_S} (h_σ : zs_W σ0 σ) {x1 : Int32} (h_x1 : zs_in x1.toInt 0 5) {x2 : Int32} (h_x2 : zs_in x2.toInt 0 5) {x3 : Int32} (h_x3 : zs_in x3.toInt 0 0) {x4 : Int32} (h_x4 : zs_in x4.toInt 0 1073741823) {x5 : Int32} {x6 : Int32} (h_x6 : zs_in x6.toInt 3 3) {x7 : Int32} (h_x7 : zs_in x7.toInt 0 2) {x8 : Int32} (h_x8 : zs_in x8.toInt 0 29) {t0 : Int32} (h_t0 : zs_in t0.toInt 0 0) {c : Int} (hc : x7.toInt = c + 0) : zs_ok (BX9_claimOf_128 σ x1 x2 x3 x4 x5 x6 x7 x8 t0) (fun r => zs_sum (fun v => ((zs_W σ0 v.1 ∧ (zs_in (v.2.1).toInt 0 1073741823 ∧ (True ∧ zs_in (v.2.2.2).toInt 1 3)))) ∧ v.2.2.2.toInt = c + 1) (fun v => False) r) := by
  unfold BX9_claimOf_128
  obtain rfl : x3 = (0 : Int32) := zs_eqv h_x3 (by decide)
  obtain rfl : x6 = (3 : Int32) := zs_eqv h_x6 (by decide)
  obtain rfl : t0 = (0 : Int32) := zs_eqv h_t0 (by decide)
  refine zs_ite (fun c1 => ?_) (fun c1 => ?_)
  · skip
    have r2 := (zs_I_eq c1)
    refine zs_bd_ (zw_65 h_σ h_x1 zlI_3) (fun t_2 pt_2 => ?_)
    obtain ⟨ret, er, hr⟩ := zw_67 h_σ h_x1 h_x2 h_x3 h_x4 h_x6 h_x7 h_x8 pt_2 hc
    refine ⟨ret, er, ?_⟩
    exact (zs_sumw hr (fun v w => ⟨w.1, w.2⟩) (fun v w => w.elim))
  · skip
    have r3 := (zs_I_eqn c1)
    exact (zs_botne r3 h_t0 zlI_0 (by decide)).elim
-- BX9_claimOf_127
theorem zw_69 {σ0 : sn_S} {σ : sn_S} (h_σ : zs_W σ0 σ) {x1 : Int32} (h_x1 : zs_in x1.toInt 0 5) {x2 : Int32} (h_x2 : zs_in x2.toInt 0 5) {x3 : Int32} (h_x3 : zs_in x3.toInt 0 0) {x4 : Int32} (h_x4 : zs_in x4.toInt 0 1073741823) {x5 : Int32} {x6 : Int32} (h_x6 : zs_in x6.toInt 3 3) {x7 : Int32} (h_x7 : zs_in x7.toInt 0 2) {x8 : Int32} (h_x8 : zs_in x8.toInt 0 29) {c : Int} (hc : x7.toInt = c + 0) : zs_ok (BX9_claimOf_127 σ x1 x2 x3 x4 x5 x6 x7 x8) (fun r => zs_sum (fun v => ((zs_W σ0 v.1 ∧ (zs_in (v.2.1).toInt 0 1073741823 ∧ (True ∧ zs_in (v.2.2.2).toInt 1 3)))) ∧ v.2.2.2.toInt = c + 1) (fun v => False) r) := by
  unfold BX9_claimOf_127
  obtain rfl : x3 = (0 : Int32) := zs_eqv h_x3 (by decide)
  obtain rfl : x6 = (3 : Int32) := zs_eqv h_x6 (by decide)
  obtain ⟨ret, er, hr⟩ := zw_68 h_σ h_x1 h_x2 h_x3 h_x4 h_x6 h_x7 h_x8 zlI_0 hc
  refine ⟨ret, er, ?_⟩
  exact (zs_sumw hr (fun v w => ⟨w.1, w.2⟩) (fun v w => w.elim))
-- BX9_claimOf_152
theorem zw_70 {σ0 : sn_S} {σ : sn_S} (h_σ : zs_W σ0 σ) {x1 : Int32} (h_x1 : zs_in x1.toInt 0 5) {x2 : Int32} (h_x2 : zs_in x2.toInt 0 5) {x3 : Int32} (h_x3 : zs_in x3.toInt 0 0) {x4 : Int32} (h_x4 : zs_in x4.toInt 0 1073741823) {x5 : Int32} {x6 : Int32} (h_x6 : zs_in x6.toInt 3 3) {x7 : Int32} (h_x7 : zs_in x7.toInt 0 2) {x8 : Int32} (h_x8 : zs_in x8.toInt 0 29) {t0 : Int32} (h_t0 : zs_in t0.toInt 0 49) {c : Int} (hc : x7.toInt = c + 0) : zs_ok (BX9_claimOf_152 σ x1 x2 x3 x4 x5 x6 x7 x8 t0) (fun r => zs_sum (fun v => ((zs_W σ0 v.1 ∧ (zs_in (v.2.1).toInt 0 1073741823 ∧ (True ∧ zs_in (v.2.2.2).toInt 1 3)))) ∧ v.2.2.2.toInt = c + 1) (fun v => False) r) := by
  unfold BX9_claimOf_152
  obtain rfl : x3 = (0 : Int32) := zs_eqv h_x3 (by decide)
  obtain rfl : x6 = (3 : Int32) := zs_eqv h_x6 (by decide)
  refine zs_lt (Q := fun z => True) trivial (fun y_1 hy_1 => ?_)
  refine zs_ite (fun c1 => ?_) (fun c1 => ?_)
  · skip
    have r2 := (zs_I_eq c1)
    obtain ⟨ret, er, hr⟩ := zw_66 h_σ h_x1 h_x2 h_x3 h_x4 h_x6 h_x7 hc
    refine ⟨ret, er, ?_⟩
    exact (zs_sumw hr (fun v w => ⟨w.1, w.2⟩) (fun v w => w.elim))
  · skip
    have r3 := (zs_I_eqn c1)
    exact (zs_botne r3 h_x3 zlI_0 (by decide)).elim
-- BX9_claimOf_128
theorem zw_71 {σ0 : sn_S} {σ : sn_S} (h_σ : zs_W σ0 σ) {x1 : Int32} (h_x1 : zs_in x1.toInt 0 5) {x2 : Int32} (h_x2 : zs_in x2.toInt 0 5) {x3 : Int32} (h_x3 : zs_in x3.toInt 0 0) {x4 : Int32} (h_x4 : zs_in x4.toInt 0 1073741823) {x5 : Int32} {x6 : Int32} (h_x6 : zs_in x6.toInt 3 3) {x7 : Int32} (h_x7 : zs_in x7.toInt 0 2) {x8 : Int32} (h_x8 : zs_in x8.toInt 0 29) {t0 : Int32} (h_t0 : zs_in t0.toInt 1 1) {c : Int} (hc : x7.toInt = c + 0) : zs_ok (BX9_claimOf_128 σ x1 x2 x3 x4 x5 x6 x7 x8 t0) (fun r => zs_sum (fun v => ((zs_W σ0 v.1 ∧ (zs_in (v.2.1).toInt 0 1073741823 ∧ (True ∧ zs_in (v.2.2.2).toInt 1 3)))) ∧ v.2.2.2.toInt = c + 1) (fun v => False) r) := by
  unfold BX9_claimOf_128
  obtain rfl : x3 = (0 : Int32) := zs_eqv h_x3 (by decide)
  obtain rfl : x6 = (3 : Int32) := zs_eqv h_x6 (by decide)
  obtain rfl : t0 = (1 : Int32) := zs_eqv h_t0 (by decide)
  refine zs_ite (fun c1 => ?_) (fun c1 => ?_)
  · skip
    have r2 := (zs_I_eq c1)
    exact (zs_botr r2 h_t0 zlI_0 (by decide)).elim
  · skip
    have r3 := (zs_I_eqn c1)
    refine zs_bd_ (zw_65 h_σ h_x1 zlI_3) (fun t_4 pt_4 => ?_)
    obtain ⟨ret, er, hr⟩ := zw_70 h_σ h_x1 h_x2 h_x3 h_x4 h_x6 h_x7 h_x8 (zs_divI 0 49 pt_4 zlI_2 (by decide)) hc
    refine ⟨ret, er, ?_⟩
    exact (zs_sumw hr (fun v w => ⟨w.1, w.2⟩) (fun v w => w.elim))
-- BX9_claimOf_63
theorem zw_72 {σ0 : sn_S} {σ : sn_S} (h_σ : zs_W σ0 σ) {x1 : Int32} (h_x1 : zs_in x1.toInt 0 5) {x2 : Int32} (h_x2 : zs_in x2.toInt 0 5) {x3 : Int32} (h_x3 : zs_in x3.toInt 0 0) {x4 : Int32} (h_x4 : zs_in x4.toInt 0 1073741823) {x5 : Int32} {x6 : Int32} (h_x6 : zs_in x6.toInt 3 3) {x7 : Int32} (h_x7 : zs_in x7.toInt 0 3) {c : Int} (hc : x7.toInt = c + 0) : zs_ok (BX9_claimOf_63 σ x1 x2 x3 x4 x5 x6 x7) (fun r => zs_sum (fun v => ((zs_W σ0 v.1 ∧ (zs_in (v.2.1).toInt 0 1073741823 ∧ (True ∧ zs_in (v.2.2.2).toInt 1 3)))) ∧ v.2.2.2.toInt = c + 1) (fun v => (zs_W σ0 v.1 ∧ True)) r) := by
  unfold BX9_claimOf_63
  obtain rfl : x3 = (0 : Int32) := zs_eqv h_x3 (by decide)
  obtain rfl : x6 = (3 : Int32) := zs_eqv h_x6 (by decide)
  refine zs_ite (fun c1 => ?_) (fun c1 => ?_)
  · skip
    have r2 := (zs_I_le c1)
    have g3 : zs_in (x7).toInt 3 3 := (zs_ler 3 3 r2 h_x6 h_x7 (by decide))
    exact zs_some (zs_inr (⟨h_σ, trivial⟩))
  · skip
    have r4 := (zs_I_len c1)
    have g5 : zs_in (x7).toInt 0 2 := (zs_ltl 0 2 r4 h_x7 h_x6 (by decide))
    refine zs_ite (fun c6 => ?_) (fun c6 => ?_)
    · skip
      have r7 := (zs_I_eq c6)
      have g8 : zs_in (x4).toInt 0 0 := (zs_eql 0 0 r7 h_x4 zlI_0 (by decide))
      exact zs_some (zs_inr (⟨h_σ, trivial⟩))
    · skip
      have r9 := (zs_I_eqn c6)
      have g10 : zs_in (x4).toInt 1 1073741823 := (zs_nel 1 1073741823 r9 h_x4 zlI_0 (by decide))
      refine zs_bd_ (zo_fo1 (by decide) g10) (fun t_3 pt_3 => ?_)
      refine zs_lt (Q := fun z => zs_in z.toInt 0 1073741823) (zs_and2 g10 (by decide)) (fun y_5 hy_5 => ?_)
      refine zs_ite (fun c11 => ?_) (fun c11 => ?_)
      · skip
        have r12 := (zs_I_eq c11)
        have g13 : zs_in ((sn_I σ 0 20)).toInt 3 3 := (zs_eql 3 3 r12 (zs_topI _) zlI_3 (by decide))
        refine zs_gd (zs_gin h_x2 (by decide)) ?_
        refine zs_bd_ (zw_63 h_σ h_x1) (fun t_9 pt_9 => ?_)
        refine zs_bd_ (zw_64 pt_3) (fun t_11 pt_11 => ?_)
        refine zs_ite (fun c14 => ?_) (fun c14 => ?_)
        · skip
          have r15 := (zs_I_eq c14)
          have g16 : zs_in ((((sn_I σ 8 x2.toNatClampNeg) &&& t_9) &&& t_11)).toInt 0 0 := (zs_eql 0 0 r15 (zs_and pt_11 (by decide)) zlI_0 (by decide))
          obtain ⟨ret, er, hr⟩ := zw_69 h_σ h_x1 h_x2 h_x3 hy_5 h_x6 g5 pt_3 hc
          refine ⟨ret, er, ?_⟩
          exact (zs_sumw hr (fun v w => ⟨w.1, w.2⟩) (fun v w => w.elim))
        · skip
          have r17 := (zs_I_eqn c14)
          have g18 : zs_in ((((sn_I σ 8 x2.toNatClampNeg) &&& t_9) &&& t_11)).toInt 1 536870911 := (zs_nel 1 536870911 r17 (zs_and pt_11 (by decide)) zlI_0 (by decide))
          obtain ⟨ret, er, hr⟩ := zw_71 h_σ h_x1 h_x2 h_x3 hy_5 h_x6 g5 pt_3 zlI_1 hc
          refine ⟨ret, er, ?_⟩
          exact (zs_sumw hr (fun v w => ⟨w.1, w.2⟩) (fun v w => w.elim))
      · skip
        have r19 := (zs_I_eqn c11)
        obtain ⟨ret, er, hr⟩ := zw_69 h_σ h_x1 h_x2 h_x3 hy_5 h_x6 g5 pt_3 hc
        refine ⟨ret, er, ?_⟩
        exact (zs_sumw hr (fun v w => ⟨w.1, w.2⟩) (fun v w => w.elim))
theorem zx_12 {σ0 : sn_S} {x1 : Int32} (h_x1 : zs_in x1.toInt 0 5) {x2 : Int32} (h_x2 : zs_in x2.toInt 0 5) {x3 : Int32} (h_x3 : zs_in x3.toInt 0 0) {x6 : Int32} (h_x6 : zs_in x6.toInt 3 3) {s0 : (sn_S × (Int32 × (Int32 × Int32)))} (h0 : (zs_W σ0 s0.1 ∧ (zs_in (s0.2.1).toInt 0 1073741823 ∧ (True ∧ zs_in (s0.2.2.2).toInt 0 3)))) : zs_ok (sn_it (LX9_claimOf_63 x1 x2 x3 x6) 5000 s0) (fun t => (zs_W σ0 t.1 ∧ True)) := by
  refine zs_it (I := fun s => (zs_W σ0 s.1 ∧ (zs_in (s.2.1).toInt 0 1073741823 ∧ (True ∧ zs_in (s.2.2.2).toInt 0 3)))) (m := fun s => 3 - s.2.2.2.toInt) (fun s hs => ?_) (fun s hs => ?_) (by exact h0)
  · have h1 := hs.2.2.2; unfold zs_in at h1
    omega
  · obtain ⟨b, eb, hb⟩ := zw_72 hs.1 h_x1 h_x2 h_x3 hs.2.1 h_x6 hs.2.2.2 (c := s.2.2.2.toInt) (Int.add_zero _).symm
    exact ⟨b, eb, zs_sumw hb (fun v w => ⟨⟨w.1.1, ⟨w.1.2.1, ⟨w.1.2.2.1, (zs_w w.1.2.2.2 (by decide))⟩⟩⟩, by have := w.2; omega⟩) (fun v w => w)⟩
-- BX9_claimOf_183
theorem zw_73 {σ0 : sn_S} {σ : sn_S} (h_σ : zs_W σ0 σ) {x5 : Int32} : zs_ok (BX9_claimOf_183 σ x5) (fun r => (True ∧ zs_W σ0 r.2)) := by
  unfold BX9_claimOf_183
  exact zs_some ⟨trivial, h_σ⟩
-- BX9_claimOf_58
theorem zw_74 {σ0 : sn_S} {σ : sn_S} (h_σ : zs_W σ0 σ) {x1 : Int32} (h_x1 : zs_in x1.toInt 0 5) {x2 : Int32} (h_x2 : zs_in x2.toInt 0 5) {x3 : Int32} (h_x3 : zs_in x3.toInt 0 0) {x4 : Int32} (h_x4 : zs_in x4.toInt 0 1073741823) {x5 : Int32} (h_x5 : zs_in x5.toInt 0 0) {t0 : Int32} (h_t0 : zs_in t0.toInt 3 3) : zs_ok (BX9_claimOf_58 σ x1 x2 x3 x4 x5 t0) (fun r => (True ∧ zs_W σ0 r.2)) := by
  unfold BX9_claimOf_58
  obtain rfl : x3 = (0 : Int32) := zs_eqv h_x3 (by decide)
  obtain rfl : x5 = (0 : Int32) := zs_eqv h_x5 (by decide)
  obtain rfl : t0 = (3 : Int32) := zs_eqv h_t0 (by decide)
  refine zs_bd_ (zx_12 h_x1 h_x2 h_x3 h_t0 (s0 := (σ, (x4, ((0 : Int32), (0 : Int32))))) ⟨h_σ, ⟨h_x4, ⟨trivial, (zs_w zlI_0 (by decide))⟩⟩⟩) (fun t_1 pt_1 => ?_)
  obtain ⟨ret, er, hr⟩ := zw_73 pt_1.1
  refine ⟨ret, er, ?_⟩
  exact hr
-- BX9_claimOf_177
theorem zw_75 {σ0 : sn_S} {σ : sn_S} (h_σ : zs_W σ0 σ) {x1 : Int32} (h_x1 : zs_in x1.toInt 0 5) {x2 : Int32} (h_x2 : zs_in x2.toInt 0 5) {x3 : Int32} (h_x3 : zs_in x3.toInt 0 0) {x4 : Int32} (h_x4 : zs_in x4.toInt 0 1073741823) {x5 : Int32} {x6 : Int32} (h_x6 : zs_in x6.toInt 1 1) {x7 : Int32} (h_x7 : zs_in x7.toInt 0 0) {c : Int} (hc : x7.toInt = c + 0) : zs_ok (BX9_claimOf_177 σ x1 x2 x3 x4 x5 x6 x7) (fun r => zs_sum (fun v => ((zs_W σ0 v.1 ∧ (zs_in (v.2.1).toInt 0 1073741823 ∧ (True ∧ zs_in (v.2.2.2).toInt 1 1)))) ∧ v.2.2.2.toInt = c + 1) (fun v => False) r) := by
  unfold BX9_claimOf_177
  obtain rfl : x3 = (0 : Int32) := zs_eqv h_x3 (by decide)
  obtain rfl : x6 = (1 : Int32) := zs_eqv h_x6 (by decide)
  refine zs_lt (Q := fun z => zs_in z.toInt 1 1 ∧ z.toInt = c + 1) ⟨(zs_addI 1 1 h_x7 zlI_1 (by decide)), (zs_syI 1 hc h_x7 zlI_1 (by decide) (by decide))⟩ (fun y_1 hy_1 => ?_)
  exact zs_some (zs_inl ⟨⟨h_σ, ⟨h_x4, ⟨trivial, hy_1.1⟩⟩⟩, hy_1.2⟩)
-- BX9_claimOf_152
theorem zw_76 {σ0 : sn_S} {σ : sn_S} (h_σ : zs_W σ0 σ) {x1 : Int32} (h_x1 : zs_in x1.toInt 0 5) {x2 : Int32} (h_x2 : zs_in x2.toInt 0 5) {x3 : Int32} (h_x3 : zs_in x3.toInt 0 0) {x4 : Int32} (h_x4 : zs_in x4.toInt 0 1073741823) {x5 : Int32} {x6 : Int32} (h_x6 : zs_in x6.toInt 1 1) {x7 : Int32} (h_x7 : zs_in x7.toInt 0 0) {x8 : Int32} (h_x8 : zs_in x8.toInt 0 29) {t0 : Int32} (h_t0 : zs_in t0.toInt 0 99) {c : Int} (hc : x7.toInt = c + 0) : zs_ok (BX9_claimOf_152 σ x1 x2 x3 x4 x5 x6 x7 x8 t0) (fun r => zs_sum (fun v => ((zs_W σ0 v.1 ∧ (zs_in (v.2.1).toInt 0 1073741823 ∧ (True ∧ zs_in (v.2.2.2).toInt 1 1)))) ∧ v.2.2.2.toInt = c + 1) (fun v => False) r) := by
  unfold BX9_claimOf_152
  obtain rfl : x3 = (0 : Int32) := zs_eqv h_x3 (by decide)
  obtain rfl : x6 = (1 : Int32) := zs_eqv h_x6 (by decide)
  refine zs_lt (Q := fun z => True) trivial (fun y_1 hy_1 => ?_)
  refine zs_ite (fun c1 => ?_) (fun c1 => ?_)
  · skip
    have r2 := (zs_I_eq c1)
    obtain ⟨ret, er, hr⟩ := zw_75 h_σ h_x1 h_x2 h_x3 h_x4 h_x6 h_x7 hc
    refine ⟨ret, er, ?_⟩
    exact (zs_sumw hr (fun v w => ⟨w.1, w.2⟩) (fun v w => w.elim))
  · skip
    have r3 := (zs_I_eqn c1)
    exact (zs_botne r3 h_x3 zlI_0 (by decide)).elim
-- BX9_claimOf_128
theorem zw_77 {σ0 : sn_S} {σ : sn_S} (h_σ : zs_W σ0 σ) {x1 : Int32} (h_x1 : zs_in x1.toInt 0 5) {x2 : Int32} (h_x2 : zs_in x2.toInt 0 5) {x3 : Int32} (h_x3 : zs_in x3.toInt 0 0) {x4 : Int32} (h_x4 : zs_in x4.toInt 0 1073741823) {x5 : Int32} {x6 : Int32} (h_x6 : zs_in x6.toInt 1 1) {x7 : Int32} (h_x7 : zs_in x7.toInt 0 0) {x8 : Int32} (h_x8 : zs_in x8.toInt 0 29) {t0 : Int32} (h_t0 : zs_in t0.toInt 0 0) {c : Int} (hc : x7.toInt = c + 0) : zs_ok (BX9_claimOf_128 σ x1 x2 x3 x4 x5 x6 x7 x8 t0) (fun r => zs_sum (fun v => ((zs_W σ0 v.1 ∧ (zs_in (v.2.1).toInt 0 1073741823 ∧ (True ∧ zs_in (v.2.2.2).toInt 1 1)))) ∧ v.2.2.2.toInt = c + 1) (fun v => False) r) := by
  unfold BX9_claimOf_128
  obtain rfl : x3 = (0 : Int32) := zs_eqv h_x3 (by decide)
  obtain rfl : x6 = (1 : Int32) := zs_eqv h_x6 (by decide)
  obtain rfl : t0 = (0 : Int32) := zs_eqv h_t0 (by decide)
  refine zs_ite (fun c1 => ?_) (fun c1 => ?_)
  · skip
    have r2 := (zs_I_eq c1)
    refine zs_bd_ (zw_65 h_σ h_x1 zlI_3) (fun t_2 pt_2 => ?_)
    obtain ⟨ret, er, hr⟩ := zw_76 h_σ h_x1 h_x2 h_x3 h_x4 h_x6 h_x7 h_x8 pt_2 hc
    refine ⟨ret, er, ?_⟩
    exact (zs_sumw hr (fun v w => ⟨w.1, w.2⟩) (fun v w => w.elim))
  · skip
    have r3 := (zs_I_eqn c1)
    exact (zs_botne r3 h_t0 zlI_0 (by decide)).elim
-- BX9_claimOf_127
theorem zw_78 {σ0 : sn_S} {σ : sn_S} (h_σ : zs_W σ0 σ) {x1 : Int32} (h_x1 : zs_in x1.toInt 0 5) {x2 : Int32} (h_x2 : zs_in x2.toInt 0 5) {x3 : Int32} (h_x3 : zs_in x3.toInt 0 0) {x4 : Int32} (h_x4 : zs_in x4.toInt 0 1073741823) {x5 : Int32} {x6 : Int32} (h_x6 : zs_in x6.toInt 1 1) {x7 : Int32} (h_x7 : zs_in x7.toInt 0 0) {x8 : Int32} (h_x8 : zs_in x8.toInt 0 29) {c : Int} (hc : x7.toInt = c + 0) : zs_ok (BX9_claimOf_127 σ x1 x2 x3 x4 x5 x6 x7 x8) (fun r => zs_sum (fun v => ((zs_W σ0 v.1 ∧ (zs_in (v.2.1).toInt 0 1073741823 ∧ (True ∧ zs_in (v.2.2.2).toInt 1 1)))) ∧ v.2.2.2.toInt = c + 1) (fun v => False) r) := by
  unfold BX9_claimOf_127
  obtain rfl : x3 = (0 : Int32) := zs_eqv h_x3 (by decide)
  obtain rfl : x6 = (1 : Int32) := zs_eqv h_x6 (by decide)
  obtain ⟨ret, er, hr⟩ := zw_77 h_σ h_x1 h_x2 h_x3 h_x4 h_x6 h_x7 h_x8 zlI_0 hc
  refine ⟨ret, er, ?_⟩
  exact (zs_sumw hr (fun v w => ⟨w.1, w.2⟩) (fun v w => w.elim))
-- BX9_claimOf_152
theorem zw_79 {σ0 : sn_S} {σ : sn_S} (h_σ : zs_W σ0 σ) {x1 : Int32} (h_x1 : zs_in x1.toInt 0 5) {x2 : Int32} (h_x2 : zs_in x2.toInt 0 5) {x3 : Int32} (h_x3 : zs_in x3.toInt 0 0) {x4 : Int32} (h_x4 : zs_in x4.toInt 0 1073741823) {x5 : Int32} {x6 : Int32} (h_x6 : zs_in x6.toInt 1 1) {x7 : Int32} (h_x7 : zs_in x7.toInt 0 0) {x8 : Int32} (h_x8 : zs_in x8.toInt 0 29) {t0 : Int32} (h_t0 : zs_in t0.toInt 0 49) {c : Int} (hc : x7.toInt = c + 0) : zs_ok (BX9_claimOf_152 σ x1 x2 x3 x4 x5 x6 x7 x8 t0) (fun r => zs_sum (fun v => ((zs_W σ0 v.1 ∧ (zs_in (v.2.1).toInt 0 1073741823 ∧ (True ∧ zs_in (v.2.2.2).toInt 1 1)))) ∧ v.2.2.2.toInt = c + 1) (fun v => False) r) := by
  unfold BX9_claimOf_152
  obtain rfl : x3 = (0 : Int32) := zs_eqv h_x3 (by decide)
  obtain rfl : x6 = (1 : Int32) := zs_eqv h_x6 (by decide)
  refine zs_lt (Q := fun z => True) trivial (fun y_1 hy_1 => ?_)
  refine zs_ite (fun c1 => ?_) (fun c1 => ?_)
  · skip
    have r2 := (zs_I_eq c1)
    obtain ⟨ret, er, hr⟩ := zw_75 h_σ h_x1 h_x2 h_x3 h_x4 h_x6 h_x7 hc
    refine ⟨ret, er, ?_⟩
    exact (zs_sumw hr (fun v w => ⟨w.1, w.2⟩) (fun v w => w.elim))
  · skip
    have r3 := (zs_I_eqn c1)
    exact (zs_botne r3 h_x3 zlI_0 (by decide)).elim
-- BX9_claimOf_128
theorem zw_80 {σ0 : sn_S} {σ : sn_S} (h_σ : zs_W σ0 σ) {x1 : Int32} (h_x1 : zs_in x1.toInt 0 5) {x2 : Int32} (h_x2 : zs_in x2.toInt 0 5) {x3 : Int32} (h_x3 : zs_in x3.toInt 0 0) {x4 : Int32} (h_x4 : zs_in x4.toInt 0 1073741823) {x5 : Int32} {x6 : Int32} (h_x6 : zs_in x6.toInt 1 1) {x7 : Int32} (h_x7 : zs_in x7.toInt 0 0) {x8 : Int32} (h_x8 : zs_in x8.toInt 0 29) {t0 : Int32} (h_t0 : zs_in t0.toInt 1 1) {c : Int} (hc : x7.toInt = c + 0) : zs_ok (BX9_claimOf_128 σ x1 x2 x3 x4 x5 x6 x7 x8 t0) (fun r => zs_sum (fun v => ((zs_W σ0 v.1 ∧ (zs_in (v.2.1).toInt 0 1073741823 ∧ (True ∧ zs_in (v.2.2.2).toInt 1 1)))) ∧ v.2.2.2.toInt = c + 1) (fun v => False) r) := by
  unfold BX9_claimOf_128
  obtain rfl : x3 = (0 : Int32) := zs_eqv h_x3 (by decide)
  obtain rfl : x6 = (1 : Int32) := zs_eqv h_x6 (by decide)
  obtain rfl : t0 = (1 : Int32) := zs_eqv h_t0 (by decide)
  refine zs_ite (fun c1 => ?_) (fun c1 => ?_)
  · skip
    have r2 := (zs_I_eq c1)
    exact (zs_botr r2 h_t0 zlI_0 (by decide)).elim
  · skip
    have r3 := (zs_I_eqn c1)
    refine zs_bd_ (zw_65 h_σ h_x1 zlI_3) (fun t_4 pt_4 => ?_)
    obtain ⟨ret, er, hr⟩ := zw_79 h_σ h_x1 h_x2 h_x3 h_x4 h_x6 h_x7 h_x8 (zs_divI 0 49 pt_4 zlI_2 (by decide)) hc
    refine ⟨ret, er, ?_⟩
    exact (zs_sumw hr (fun v w => ⟨w.1, w.2⟩) (fun v w => w.elim))
-- BX9_claimOf_63
theorem zw_81 {σ0 : sn_S} {σ : sn_S} (h_σ : zs_W σ0 σ) {x1 : Int32} (h_x1 : zs_in x1.toInt 0 5) {x2 : Int32} (h_x2 : zs_in x2.toInt 0 5) {x3 : Int32} (h_x3 : zs_in x3.toInt 0 0) {x4 : Int32} (h_x4 : zs_in x4.toInt 0 1073741823) {x5 : Int32} {x6 : Int32} (h_x6 : zs_in x6.toInt 1 1) {x7 : Int32} (h_x7 : zs_in x7.toInt 0 1) {c : Int} (hc : x7.toInt = c + 0) : zs_ok (BX9_claimOf_63 σ x1 x2 x3 x4 x5 x6 x7) (fun r => zs_sum (fun v => ((zs_W σ0 v.1 ∧ (zs_in (v.2.1).toInt 0 1073741823 ∧ (True ∧ zs_in (v.2.2.2).toInt 1 1)))) ∧ v.2.2.2.toInt = c + 1) (fun v => (zs_W σ0 v.1 ∧ True)) r) := by
  unfold BX9_claimOf_63
  obtain rfl : x3 = (0 : Int32) := zs_eqv h_x3 (by decide)
  obtain rfl : x6 = (1 : Int32) := zs_eqv h_x6 (by decide)
  refine zs_ite (fun c1 => ?_) (fun c1 => ?_)
  · skip
    have r2 := (zs_I_le c1)
    have g3 : zs_in (x7).toInt 1 1 := (zs_ler 1 1 r2 h_x6 h_x7 (by decide))
    exact zs_some (zs_inr (⟨h_σ, trivial⟩))
  · skip
    have r4 := (zs_I_len c1)
    have g5 : zs_in (x7).toInt 0 0 := (zs_ltl 0 0 r4 h_x7 h_x6 (by decide))
    refine zs_ite (fun c6 => ?_) (fun c6 => ?_)
    · skip
      have r7 := (zs_I_eq c6)
      have g8 : zs_in (x4).toInt 0 0 := (zs_eql 0 0 r7 h_x4 zlI_0 (by decide))
      exact zs_some (zs_inr (⟨h_σ, trivial⟩))
    · skip
      have r9 := (zs_I_eqn c6)
      have g10 : zs_in (x4).toInt 1 1073741823 := (zs_nel 1 1073741823 r9 h_x4 zlI_0 (by decide))
      refine zs_bd_ (zo_fo1 (by decide) g10) (fun t_3 pt_3 => ?_)
      refine zs_lt (Q := fun z => zs_in z.toInt 0 1073741823) (zs_and2 g10 (by decide)) (fun y_5 hy_5 => ?_)
      refine zs_ite (fun c11 => ?_) (fun c11 => ?_)
      · skip
        have r12 := (zs_I_eq c11)
        have g13 : zs_in ((sn_I σ 0 20)).toInt 3 3 := (zs_eql 3 3 r12 (zs_topI _) zlI_3 (by decide))
        refine zs_gd (zs_gin h_x2 (by decide)) ?_
        refine zs_bd_ (zw_63 h_σ h_x1) (fun t_9 pt_9 => ?_)
        refine zs_bd_ (zw_64 pt_3) (fun t_11 pt_11 => ?_)
        refine zs_ite (fun c14 => ?_) (fun c14 => ?_)
        · skip
          have r15 := (zs_I_eq c14)
          have g16 : zs_in ((((sn_I σ 8 x2.toNatClampNeg) &&& t_9) &&& t_11)).toInt 0 0 := (zs_eql 0 0 r15 (zs_and pt_11 (by decide)) zlI_0 (by decide))
          obtain ⟨ret, er, hr⟩ := zw_78 h_σ h_x1 h_x2 h_x3 hy_5 h_x6 g5 pt_3 hc
          refine ⟨ret, er, ?_⟩
          exact (zs_sumw hr (fun v w => ⟨w.1, w.2⟩) (fun v w => w.elim))
        · skip
          have r17 := (zs_I_eqn c14)
          have g18 : zs_in ((((sn_I σ 8 x2.toNatClampNeg) &&& t_9) &&& t_11)).toInt 1 536870911 := (zs_nel 1 536870911 r17 (zs_and pt_11 (by decide)) zlI_0 (by decide))
          obtain ⟨ret, er, hr⟩ := zw_80 h_σ h_x1 h_x2 h_x3 hy_5 h_x6 g5 pt_3 zlI_1 hc
          refine ⟨ret, er, ?_⟩
          exact (zs_sumw hr (fun v w => ⟨w.1, w.2⟩) (fun v w => w.elim))
      · skip
        have r19 := (zs_I_eqn c11)
        obtain ⟨ret, er, hr⟩ := zw_78 h_σ h_x1 h_x2 h_x3 hy_5 h_x6 g5 pt_3 hc
        refine ⟨ret, er, ?_⟩
        exact (zs_sumw hr (fun v w => ⟨w.1, w.2⟩) (fun v w => w.elim))
theorem zx_13 {σ0 : sn_S} {x1 : Int32} (h_x1 : zs_in x1.toInt 0 5) {x2 : Int32} (h_x2 : zs_in x2.toInt 0 5) {x3 : Int32} (h_x3 : zs_in x3.toInt 0 0) {x6 : Int32} (h_x6 : zs_in x6.toInt 1 1) {s0 : (sn_S × (Int32 × (Int32 × Int32)))} (h0 : (zs_W σ0 s0.1 ∧ (zs_in (s0.2.1).toInt 0 1073741823 ∧ (True ∧ zs_in (s0.2.2.2).toInt 0 1)))) : zs_ok (sn_it (LX9_claimOf_63 x1 x2 x3 x6) 5000 s0) (fun t => (zs_W σ0 t.1 ∧ True)) := by
  refine zs_it (I := fun s => (zs_W σ0 s.1 ∧ (zs_in (s.2.1).toInt 0 1073741823 ∧ (True ∧ zs_in (s.2.2.2).toInt 0 1)))) (m := fun s => 1 - s.2.2.2.toInt) (fun s hs => ?_) (fun s hs => ?_) (by exact h0)
  · have h1 := hs.2.2.2; unfold zs_in at h1
    omega
  · obtain ⟨b, eb, hb⟩ := zw_81 hs.1 h_x1 h_x2 h_x3 hs.2.1 h_x6 hs.2.2.2 (c := s.2.2.2.toInt) (Int.add_zero _).symm
    exact ⟨b, eb, zs_sumw hb (fun v w => ⟨⟨w.1.1, ⟨w.1.2.1, ⟨w.1.2.2.1, (zs_w w.1.2.2.2 (by decide))⟩⟩⟩, by have := w.2; omega⟩) (fun v w => w)⟩
-- BX9_claimOf_58
theorem zw_82 {σ0 : sn_S} {σ : sn_S} (h_σ : zs_W σ0 σ) {x1 : Int32} (h_x1 : zs_in x1.toInt 0 5) {x2 : Int32} (h_x2 : zs_in x2.toInt 0 5) {x3 : Int32} (h_x3 : zs_in x3.toInt 0 0) {x4 : Int32} (h_x4 : zs_in x4.toInt 0 1073741823) {x5 : Int32} (h_x5 : zs_in x5.toInt 0 0) {t0 : Int32} (h_t0 : zs_in t0.toInt 1 1) : zs_ok (BX9_claimOf_58 σ x1 x2 x3 x4 x5 t0) (fun r => (True ∧ zs_W σ0 r.2)) := by
  unfold BX9_claimOf_58
  obtain rfl : x3 = (0 : Int32) := zs_eqv h_x3 (by decide)
  obtain rfl : x5 = (0 : Int32) := zs_eqv h_x5 (by decide)
  obtain rfl : t0 = (1 : Int32) := zs_eqv h_t0 (by decide)
  refine zs_bd_ (zx_13 h_x1 h_x2 h_x3 h_t0 (s0 := (σ, (x4, ((0 : Int32), (0 : Int32))))) ⟨h_σ, ⟨h_x4, ⟨trivial, (zs_w zlI_0 (by decide))⟩⟩⟩) (fun t_1 pt_1 => ?_)
  obtain ⟨ret, er, hr⟩ := zw_73 pt_1.1
  refine ⟨ret, er, ?_⟩
  exact hr
-- BX9_claimOf_33
theorem zw_83 {σ0 : sn_S} {σ : sn_S} (h_σ : zs_W σ0 σ) {x1 : Int32} (h_x1 : zs_in x1.toInt 0 5) {x2 : Int32} (h_x2 : zs_in x2.toInt 0 5) {x3 : Int32} (h_x3 : zs_in x3.toInt 0 0) {x4 : Int32} (h_x4 : zs_in x4.toInt 0 1073741823) : zs_ok (BX9_claimOf_33 σ x1 x2 x3 x4) (fun r => (True ∧ zs_W σ0 r.2)) := by
  unfold BX9_claimOf_33
  obtain rfl : x3 = (0 : Int32) := zs_eqv h_x3 (by decide)
  refine zs_bd_ (zo_fot2 h_x4) (fun t_1 pt_1 => ?_)
  refine zs_lt (Q := fun z => zs_W σ0 z) (zs_wrkt h_σ rfl rfl) (fun σ_3 hσ_3 => ?_)
  refine zs_ite (fun c1 => ?_) (fun c1 => ?_)
  · skip
    have r2 := (zs_I_eq c1)
    have g3 : zs_in ((sn_I σ_3 0 20)).toInt 2 2 := (zs_eql 2 2 r2 (zs_topI _) zlI_2 (by decide))
    obtain ⟨ret, er, hr⟩ := zw_74 hσ_3 h_x1 h_x2 h_x3 h_x4 zlI_0 zlI_3
    refine ⟨ret, er, ?_⟩
    exact hr
  · skip
    have r4 := (zs_I_eqn c1)
    obtain ⟨ret, er, hr⟩ := zw_82 hσ_3 h_x1 h_x2 h_x3 h_x4 zlI_0 zlI_1
    refine ⟨ret, er, ?_⟩
    exact hr
-- fX9_claimOf
theorem zw_84 {σ0 : sn_S} {σ : sn_S} (h_σ : zs_W σ0 σ) {x1 : Int32} (h_x1 : zs_in x1.toInt 0 5) {x2 : Int32} (h_x2 : zs_in x2.toInt 0 5) {x3 : Int32} (h_x3 : zs_in x3.toInt 0 0) : zs_ok (fX9_claimOf σ x1 x2 x3) (fun r => (True ∧ zs_W σ0 r.2)) := by
  unfold fX9_claimOf
  obtain rfl : x3 = (0 : Int32) := zs_eqv h_x3 (by decide)
  refine zs_gd (zs_gin h_x2 (by decide)) ?_
  refine zs_bd_ (zw_63 h_σ h_x1) (fun t_2 pt_2 => ?_)
  refine zs_lt (Q := fun z => zs_in z.toInt 0 1073741823) (zs_and pt_2 (by decide)) (fun y_4 hy_4 => ?_)
  refine zs_ite (fun c1 => ?_) (fun c1 => ?_)
  · skip
    have r2 := (zs_I_eq c1)
    have g3 : zs_in ((sn_I σ 0 20)).toInt 1 1 := (zs_eql 1 1 r2 (zs_topI _) zlI_1 (by decide))
    refine zs_lt (Q := fun z => zs_in z.toInt 0 1073741823) (zs_and2 hy_4 (by decide)) (fun y_7 hy_7 => ?_)
    obtain ⟨ret, er, hr⟩ := zw_83 h_σ h_x1 h_x2 h_x3 hy_7
    refine ⟨ret, er, ?_⟩
    exact hr
  · skip
    have r4 := (zs_I_eqn c1)
    obtain ⟨ret, er, hr⟩ := zw_83 h_σ h_x1 h_x2 h_x3 hy_4
    refine ⟨ret, er, ?_⟩
    exact hr
-- fX9_claimOf_
theorem zw_85 {σ0 : sn_S} {σ : sn_S} (h_σ : zs_W σ0 σ) {x1 : Int32} (h_x1 : zs_in x1.toInt 0 5) : zs_ok (fX9_claimOf_ σ x1) (fun r => (True ∧ zs_W σ0 r.2)) := by
  unfold fX9_claimOf_
  refine zs_bd_ (zw_58 h_σ h_x1 zlI_0) (fun t_1 pt_1 => ?_)
  refine zs_bd_ (zw_84 h_σ h_x1 pt_1 zlI_0) (fun t_3 pt_3 => ?_)
  exact zs_some ⟨trivial, pt_3.2⟩
-- BX9_layPaid_2
theorem zw_86 {σ0 : sn_S} {σ : sn_S} (h_σ : zs_W σ0 σ) {x1 : Int32} (h_x1 : zs_in x1.toInt 0 30) {c : Int} (hc : x1.toInt = c + 0) : zs_ok (BX9_layPaid_2 σ x1) (fun r => zs_sum (fun v => ((zs_W σ0 v.1 ∧ zs_in (v.2).toInt 1 30)) ∧ v.2.toInt = c + 1) (fun v => zs_W σ0 v) r) := by
  unfold BX9_layPaid_2
  refine zs_ite (fun c1 => ?_) (fun c1 => ?_)
  · skip
    have r2 := (zs_I_le c1)
    have g3 : zs_in (x1).toInt 30 30 := (zs_ler 30 30 r2 zlI_30 h_x1 (by decide))
    exact zs_some (zs_inr (h_σ))
  · skip
    have r4 := (zs_I_len c1)
    have g5 : zs_in (x1).toInt 0 29 := (zs_ltl 0 29 r4 h_x1 zlI_30 (by decide))
    refine zs_gd (zs_gin g5 (by decide)) ?_
    refine zs_lt (Q := fun z => zs_W σ0 z) (zs_wrt h_σ (fun _ => rfl) (fun _ => rfl)) (fun σ_3 hσ_3 => ?_)
    refine zs_lt (Q := fun z => zs_in z.toInt 1 30 ∧ z.toInt = c + 1) ⟨(zs_addI 1 30 g5 zlI_1 (by decide)), (zs_syI 1 hc g5 zlI_1 (by decide) (by decide))⟩ (fun y_5 hy_5 => ?_)
    exact zs_some (zs_inl ⟨⟨hσ_3, hy_5.1⟩, hy_5.2⟩)
theorem zx_14 {σ0 : sn_S}  {s0 : (sn_S × Int32)} (h0 : (zs_W σ0 s0.1 ∧ zs_in (s0.2).toInt 0 30)) : zs_ok (sn_it (LX9_layPaid_2) 5000 s0) (fun t => zs_W σ0 t) := by
  refine zs_it (I := fun s => (zs_W σ0 s.1 ∧ zs_in (s.2).toInt 0 30)) (m := fun s => 30 - s.2.toInt) (fun s hs => ?_) (fun s hs => ?_) (by exact h0)
  · have h1 := hs.2; unfold zs_in at h1
    omega
  · obtain ⟨b, eb, hb⟩ := zw_86 hs.1 hs.2 (c := s.2.toInt) (Int.add_zero _).symm
    exact ⟨b, eb, zs_sumw hb (fun v w => ⟨⟨w.1.1, (zs_w w.1.2 (by decide))⟩, by have := w.2; omega⟩) (fun v w => w)⟩
-- BX9_claimOf_177
theorem zw_87 {σ0 : sn_S} {σ : sn_S} (h_σ : zs_W σ0 σ) {x1 : Int32} (h_x1 : zs_in x1.toInt 0 5) {x2 : Int32} (h_x2 : zs_in x2.toInt 0 5) {x3 : Int32} (h_x3 : zs_in x3.toInt 1 1) {x4 : Int32} (h_x4 : zs_in x4.toInt 0 1073741823) {x5 : Int32} {x6 : Int32} (h_x6 : zs_in x6.toInt 3 3) {x7 : Int32} (h_x7 : zs_in x7.toInt 0 2) {c : Int} (hc : x7.toInt = c + 0) : zs_ok (BX9_claimOf_177 σ x1 x2 x3 x4 x5 x6 x7) (fun r => zs_sum (fun v => ((zs_W σ0 v.1 ∧ (zs_in (v.2.1).toInt 0 1073741823 ∧ (True ∧ zs_in (v.2.2.2).toInt 1 3)))) ∧ v.2.2.2.toInt = c + 1) (fun v => False) r) := by
  unfold BX9_claimOf_177
  obtain rfl : x3 = (1 : Int32) := zs_eqv h_x3 (by decide)
  obtain rfl : x6 = (3 : Int32) := zs_eqv h_x6 (by decide)
  refine zs_lt (Q := fun z => zs_in z.toInt 1 3 ∧ z.toInt = c + 1) ⟨(zs_addI 1 3 h_x7 zlI_1 (by decide)), (zs_syI 1 hc h_x7 zlI_1 (by decide) (by decide))⟩ (fun y_1 hy_1 => ?_)
  exact zs_some (zs_inl ⟨⟨h_σ, ⟨h_x4, ⟨trivial, hy_1.1⟩⟩⟩, hy_1.2⟩)
-- BX9_claimOf_152
theorem zw_88 {σ0 : sn_S} {σ : sn_S} (h_σ : zs_W σ0 σ) {x1 : Int32} (h_x1 : zs_in x1.toInt 0 5) {x2 : Int32} (h_x2 : zs_in x2.toInt 0 5) {x3 : Int32} (h_x3 : zs_in x3.toInt 1 1) {x4 : Int32} (h_x4 : zs_in x4.toInt 0 1073741823) {x5 : Int32} {x6 : Int32} (h_x6 : zs_in x6.toInt 3 3) {x7 : Int32} (h_x7 : zs_in x7.toInt 0 2) {x8 : Int32} (h_x8 : zs_in x8.toInt 0 29) {t0 : Int32} (h_t0 : zs_in t0.toInt 0 99) {c : Int} (hc : x7.toInt = c + 0) : zs_ok (BX9_claimOf_152 σ x1 x2 x3 x4 x5 x6 x7 x8 t0) (fun r => zs_sum (fun v => ((zs_W σ0 v.1 ∧ (zs_in (v.2.1).toInt 0 1073741823 ∧ (True ∧ zs_in (v.2.2.2).toInt 1 3)))) ∧ v.2.2.2.toInt = c + 1) (fun v => False) r) := by
  unfold BX9_claimOf_152
  obtain rfl : x3 = (1 : Int32) := zs_eqv h_x3 (by decide)
  obtain rfl : x6 = (3 : Int32) := zs_eqv h_x6 (by decide)
  refine zs_lt (Q := fun z => True) trivial (fun y_1 hy_1 => ?_)
  refine zs_ite (fun c1 => ?_) (fun c1 => ?_)
  · skip
    have r2 := (zs_I_eq c1)
    exact (zs_botr r2 h_x3 zlI_0 (by decide)).elim
  · skip
    have r3 := (zs_I_eqn c1)
    refine zs_gd (zs_gin h_x8 (by decide)) ?_
    refine zs_gd (zs_gin h_x8 (by decide)) ?_
    refine zs_lt (Q := fun z => zs_W σ0 z) (zs_wrt h_σ (fun _ => rfl) (fun _ => rfl)) (fun σ_6 hσ_6 => ?_)
    obtain ⟨ret, er, hr⟩ := zw_87 hσ_6 h_x1 h_x2 h_x3 h_x4 h_x6 h_x7 hc
    refine ⟨ret, er, ?_⟩
    exact (zs_sumw hr (fun v w => ⟨w.1, w.2⟩) (fun v w => w.elim))
-- BX9_claimOf_128
theorem zw_89 {σ0 : sn_S} {σ : sn_S} (h_σ : zs_W σ0 σ) {x1 : Int32} (h_x1 : zs_in x1.toInt 0 5) {x2 : Int32} (h_x2 : zs_in x2.toInt 0 5) {x3 : Int32} (h_x3 : zs_in x3.toInt 1 1) {x4 : Int32} (h_x4 : zs_in x4.toInt 0 1073741823) {x5 : Int32} {x6 : Int32} (h_x6 : zs_in x6.toInt 3 3) {x7 : Int32} (h_x7 : zs_in x7.toInt 0 2) {x8 : Int32} (h_x8 : zs_in x8.toInt 0 29) {t0 : Int32} (h_t0 : zs_in t0.toInt 0 0) {c : Int} (hc : x7.toInt = c + 0) : zs_ok (BX9_claimOf_128 σ x1 x2 x3 x4 x5 x6 x7 x8 t0) (fun r => zs_sum (fun v => ((zs_W σ0 v.1 ∧ (zs_in (v.2.1).toInt 0 1073741823 ∧ (True ∧ zs_in (v.2.2.2).toInt 1 3)))) ∧ v.2.2.2.toInt = c + 1) (fun v => False) r) := by
  unfold BX9_claimOf_128
  obtain rfl : x3 = (1 : Int32) := zs_eqv h_x3 (by decide)
  obtain rfl : x6 = (3 : Int32) := zs_eqv h_x6 (by decide)
  obtain rfl : t0 = (0 : Int32) := zs_eqv h_t0 (by decide)
  refine zs_ite (fun c1 => ?_) (fun c1 => ?_)
  · skip
    have r2 := (zs_I_eq c1)
    refine zs_bd_ (zw_65 h_σ h_x1 zlI_3) (fun t_2 pt_2 => ?_)
    obtain ⟨ret, er, hr⟩ := zw_88 h_σ h_x1 h_x2 h_x3 h_x4 h_x6 h_x7 h_x8 pt_2 hc
    refine ⟨ret, er, ?_⟩
    exact (zs_sumw hr (fun v w => ⟨w.1, w.2⟩) (fun v w => w.elim))
  · skip
    have r3 := (zs_I_eqn c1)
    exact (zs_botne r3 h_t0 zlI_0 (by decide)).elim
-- BX9_claimOf_127
theorem zw_90 {σ0 : sn_S} {σ : sn_S} (h_σ : zs_W σ0 σ) {x1 : Int32} (h_x1 : zs_in x1.toInt 0 5) {x2 : Int32} (h_x2 : zs_in x2.toInt 0 5) {x3 : Int32} (h_x3 : zs_in x3.toInt 1 1) {x4 : Int32} (h_x4 : zs_in x4.toInt 0 1073741823) {x5 : Int32} {x6 : Int32} (h_x6 : zs_in x6.toInt 3 3) {x7 : Int32} (h_x7 : zs_in x7.toInt 0 2) {x8 : Int32} (h_x8 : zs_in x8.toInt 0 29) {c : Int} (hc : x7.toInt = c + 0) : zs_ok (BX9_claimOf_127 σ x1 x2 x3 x4 x5 x6 x7 x8) (fun r => zs_sum (fun v => ((zs_W σ0 v.1 ∧ (zs_in (v.2.1).toInt 0 1073741823 ∧ (True ∧ zs_in (v.2.2.2).toInt 1 3)))) ∧ v.2.2.2.toInt = c + 1) (fun v => False) r) := by
  unfold BX9_claimOf_127
  obtain rfl : x3 = (1 : Int32) := zs_eqv h_x3 (by decide)
  obtain rfl : x6 = (3 : Int32) := zs_eqv h_x6 (by decide)
  obtain ⟨ret, er, hr⟩ := zw_89 h_σ h_x1 h_x2 h_x3 h_x4 h_x6 h_x7 h_x8 zlI_0 hc
  refine ⟨ret, er, ?_⟩
  exact (zs_sumw hr (fun v w => ⟨w.1, w.2⟩) (fun v w => w.elim))
-- BX9_claimOf_152
theorem zw_91 {σ0 : sn_S} {σ : sn_S} (h_σ : zs_W σ0 σ) {x1 : Int32} (h_x1 : zs_in x1.toInt 0 5) {x2 : Int32} (h_x2 : zs_in x2.toInt 0 5) {x3 : Int32} (h_x3 : zs_in x3.toInt 1 1) {x4 : Int32} (h_x4 : zs_in x4.toInt 0 1073741823) {x5 : Int32} {x6 : Int32} (h_x6 : zs_in x6.toInt 3 3) {x7 : Int32} (h_x7 : zs_in x7.toInt 0 2) {x8 : Int32} (h_x8 : zs_in x8.toInt 0 29) {t0 : Int32} (h_t0 : zs_in t0.toInt 0 49) {c : Int} (hc : x7.toInt = c + 0) : zs_ok (BX9_claimOf_152 σ x1 x2 x3 x4 x5 x6 x7 x8 t0) (fun r => zs_sum (fun v => ((zs_W σ0 v.1 ∧ (zs_in (v.2.1).toInt 0 1073741823 ∧ (True ∧ zs_in (v.2.2.2).toInt 1 3)))) ∧ v.2.2.2.toInt = c + 1) (fun v => False) r) := by
  unfold BX9_claimOf_152
  obtain rfl : x3 = (1 : Int32) := zs_eqv h_x3 (by decide)
  obtain rfl : x6 = (3 : Int32) := zs_eqv h_x6 (by decide)
  refine zs_lt (Q := fun z => True) trivial (fun y_1 hy_1 => ?_)
  refine zs_ite (fun c1 => ?_) (fun c1 => ?_)
  · skip
    have r2 := (zs_I_eq c1)
    exact (zs_botr r2 h_x3 zlI_0 (by decide)).elim
  · skip
    have r3 := (zs_I_eqn c1)
    refine zs_gd (zs_gin h_x8 (by decide)) ?_
    refine zs_gd (zs_gin h_x8 (by decide)) ?_
    refine zs_lt (Q := fun z => zs_W σ0 z) (zs_wrt h_σ (fun _ => rfl) (fun _ => rfl)) (fun σ_6 hσ_6 => ?_)
    obtain ⟨ret, er, hr⟩ := zw_87 hσ_6 h_x1 h_x2 h_x3 h_x4 h_x6 h_x7 hc
    refine ⟨ret, er, ?_⟩
    exact (zs_sumw hr (fun v w => ⟨w.1, w.2⟩) (fun v w => w.elim))
-- BX9_claimOf_128
theorem zw_92 {σ0 : sn_S} {σ : sn_S} (h_σ : zs_W σ0 σ) {x1 : Int32} (h_x1 : zs_in x1.toInt 0 5) {x2 : Int32} (h_x2 : zs_in x2.toInt 0 5) {x3 : Int32} (h_x3 : zs_in x3.toInt 1 1) {x4 : Int32} (h_x4 : zs_in x4.toInt 0 1073741823) {x5 : Int32} {x6 : Int32} (h_x6 : zs_in x6.toInt 3 3) {x7 : Int32} (h_x7 : zs_in x7.toInt 0 2) {x8 : Int32} (h_x8 : zs_in x8.toInt 0 29) {t0 : Int32} (h_t0 : zs_in t0.toInt 1 1) {c : Int} (hc : x7.toInt = c + 0) : zs_ok (BX9_claimOf_128 σ x1 x2 x3 x4 x5 x6 x7 x8 t0) (fun r => zs_sum (fun v => ((zs_W σ0 v.1 ∧ (zs_in (v.2.1).toInt 0 1073741823 ∧ (True ∧ zs_in (v.2.2.2).toInt 1 3)))) ∧ v.2.2.2.toInt = c + 1) (fun v => False) r) := by
  unfold BX9_claimOf_128
  obtain rfl : x3 = (1 : Int32) := zs_eqv h_x3 (by decide)
  obtain rfl : x6 = (3 : Int32) := zs_eqv h_x6 (by decide)
  obtain rfl : t0 = (1 : Int32) := zs_eqv h_t0 (by decide)
  refine zs_ite (fun c1 => ?_) (fun c1 => ?_)
  · skip
    have r2 := (zs_I_eq c1)
    exact (zs_botr r2 h_t0 zlI_0 (by decide)).elim
  · skip
    have r3 := (zs_I_eqn c1)
    refine zs_bd_ (zw_65 h_σ h_x1 zlI_3) (fun t_4 pt_4 => ?_)
    obtain ⟨ret, er, hr⟩ := zw_91 h_σ h_x1 h_x2 h_x3 h_x4 h_x6 h_x7 h_x8 (zs_divI 0 49 pt_4 zlI_2 (by decide)) hc
    refine ⟨ret, er, ?_⟩
    exact (zs_sumw hr (fun v w => ⟨w.1, w.2⟩) (fun v w => w.elim))
-- BX9_claimOf_63
theorem zw_93 {σ0 : sn_S} {σ : sn_S} (h_σ : zs_W σ0 σ) {x1 : Int32} (h_x1 : zs_in x1.toInt 0 5) {x2 : Int32} (h_x2 : zs_in x2.toInt 0 5) {x3 : Int32} (h_x3 : zs_in x3.toInt 1 1) {x4 : Int32} (h_x4 : zs_in x4.toInt 0 1073741823) {x5 : Int32} {x6 : Int32} (h_x6 : zs_in x6.toInt 3 3) {x7 : Int32} (h_x7 : zs_in x7.toInt 0 3) {c : Int} (hc : x7.toInt = c + 0) : zs_ok (BX9_claimOf_63 σ x1 x2 x3 x4 x5 x6 x7) (fun r => zs_sum (fun v => ((zs_W σ0 v.1 ∧ (zs_in (v.2.1).toInt 0 1073741823 ∧ (True ∧ zs_in (v.2.2.2).toInt 1 3)))) ∧ v.2.2.2.toInt = c + 1) (fun v => (zs_W σ0 v.1 ∧ True)) r) := by
  unfold BX9_claimOf_63
  obtain rfl : x3 = (1 : Int32) := zs_eqv h_x3 (by decide)
  obtain rfl : x6 = (3 : Int32) := zs_eqv h_x6 (by decide)
  refine zs_ite (fun c1 => ?_) (fun c1 => ?_)
  · skip
    have r2 := (zs_I_le c1)
    have g3 : zs_in (x7).toInt 3 3 := (zs_ler 3 3 r2 h_x6 h_x7 (by decide))
    exact zs_some (zs_inr (⟨h_σ, trivial⟩))
  · skip
    have r4 := (zs_I_len c1)
    have g5 : zs_in (x7).toInt 0 2 := (zs_ltl 0 2 r4 h_x7 h_x6 (by decide))
    refine zs_ite (fun c6 => ?_) (fun c6 => ?_)
    · skip
      have r7 := (zs_I_eq c6)
      have g8 : zs_in (x4).toInt 0 0 := (zs_eql 0 0 r7 h_x4 zlI_0 (by decide))
      exact zs_some (zs_inr (⟨h_σ, trivial⟩))
    · skip
      have r9 := (zs_I_eqn c6)
      have g10 : zs_in (x4).toInt 1 1073741823 := (zs_nel 1 1073741823 r9 h_x4 zlI_0 (by decide))
      refine zs_bd_ (zo_fo1 (by decide) g10) (fun t_3 pt_3 => ?_)
      refine zs_lt (Q := fun z => zs_in z.toInt 0 1073741823) (zs_and2 g10 (by decide)) (fun y_5 hy_5 => ?_)
      refine zs_ite (fun c11 => ?_) (fun c11 => ?_)
      · skip
        have r12 := (zs_I_eq c11)
        have g13 : zs_in ((sn_I σ 0 20)).toInt 3 3 := (zs_eql 3 3 r12 (zs_topI _) zlI_3 (by decide))
        refine zs_gd (zs_gin h_x2 (by decide)) ?_
        refine zs_bd_ (zw_63 h_σ h_x1) (fun t_9 pt_9 => ?_)
        refine zs_bd_ (zw_64 pt_3) (fun t_11 pt_11 => ?_)
        refine zs_ite (fun c14 => ?_) (fun c14 => ?_)
        · skip
          have r15 := (zs_I_eq c14)
          have g16 : zs_in ((((sn_I σ 8 x2.toNatClampNeg) &&& t_9) &&& t_11)).toInt 0 0 := (zs_eql 0 0 r15 (zs_and pt_11 (by decide)) zlI_0 (by decide))
          obtain ⟨ret, er, hr⟩ := zw_90 h_σ h_x1 h_x2 h_x3 hy_5 h_x6 g5 pt_3 hc
          refine ⟨ret, er, ?_⟩
          exact (zs_sumw hr (fun v w => ⟨w.1, w.2⟩) (fun v w => w.elim))
        · skip
          have r17 := (zs_I_eqn c14)
          have g18 : zs_in ((((sn_I σ 8 x2.toNatClampNeg) &&& t_9) &&& t_11)).toInt 1 536870911 := (zs_nel 1 536870911 r17 (zs_and pt_11 (by decide)) zlI_0 (by decide))
          obtain ⟨ret, er, hr⟩ := zw_92 h_σ h_x1 h_x2 h_x3 hy_5 h_x6 g5 pt_3 zlI_1 hc
          refine ⟨ret, er, ?_⟩
          exact (zs_sumw hr (fun v w => ⟨w.1, w.2⟩) (fun v w => w.elim))
      · skip
        have r19 := (zs_I_eqn c11)
        obtain ⟨ret, er, hr⟩ := zw_90 h_σ h_x1 h_x2 h_x3 hy_5 h_x6 g5 pt_3 hc
        refine ⟨ret, er, ?_⟩
        exact (zs_sumw hr (fun v w => ⟨w.1, w.2⟩) (fun v w => w.elim))
theorem zx_15 {σ0 : sn_S} {x1 : Int32} (h_x1 : zs_in x1.toInt 0 5) {x2 : Int32} (h_x2 : zs_in x2.toInt 0 5) {x3 : Int32} (h_x3 : zs_in x3.toInt 1 1) {x6 : Int32} (h_x6 : zs_in x6.toInt 3 3) {s0 : (sn_S × (Int32 × (Int32 × Int32)))} (h0 : (zs_W σ0 s0.1 ∧ (zs_in (s0.2.1).toInt 0 1073741823 ∧ (True ∧ zs_in (s0.2.2.2).toInt 0 3)))) : zs_ok (sn_it (LX9_claimOf_63 x1 x2 x3 x6) 5000 s0) (fun t => (zs_W σ0 t.1 ∧ True)) := by
  refine zs_it (I := fun s => (zs_W σ0 s.1 ∧ (zs_in (s.2.1).toInt 0 1073741823 ∧ (True ∧ zs_in (s.2.2.2).toInt 0 3)))) (m := fun s => 3 - s.2.2.2.toInt) (fun s hs => ?_) (fun s hs => ?_) (by exact h0)
  · have h1 := hs.2.2.2; unfold zs_in at h1
    omega
  · obtain ⟨b, eb, hb⟩ := zw_93 hs.1 h_x1 h_x2 h_x3 hs.2.1 h_x6 hs.2.2.2 (c := s.2.2.2.toInt) (Int.add_zero _).symm
    exact ⟨b, eb, zs_sumw hb (fun v w => ⟨⟨w.1.1, ⟨w.1.2.1, ⟨w.1.2.2.1, (zs_w w.1.2.2.2 (by decide))⟩⟩⟩, by have := w.2; omega⟩) (fun v w => w)⟩
-- BX9_claimOf_58
theorem zw_94 {σ0 : sn_S} {σ : sn_S} (h_σ : zs_W σ0 σ) {x1 : Int32} (h_x1 : zs_in x1.toInt 0 5) {x2 : Int32} (h_x2 : zs_in x2.toInt 0 5) {x3 : Int32} (h_x3 : zs_in x3.toInt 1 1) {x4 : Int32} (h_x4 : zs_in x4.toInt 0 1073741823) {x5 : Int32} (h_x5 : zs_in x5.toInt 0 0) {t0 : Int32} (h_t0 : zs_in t0.toInt 3 3) : zs_ok (BX9_claimOf_58 σ x1 x2 x3 x4 x5 t0) (fun r => (True ∧ zs_W σ0 r.2)) := by
  unfold BX9_claimOf_58
  obtain rfl : x3 = (1 : Int32) := zs_eqv h_x3 (by decide)
  obtain rfl : x5 = (0 : Int32) := zs_eqv h_x5 (by decide)
  obtain rfl : t0 = (3 : Int32) := zs_eqv h_t0 (by decide)
  refine zs_bd_ (zx_15 h_x1 h_x2 h_x3 h_t0 (s0 := (σ, (x4, ((0 : Int32), (0 : Int32))))) ⟨h_σ, ⟨h_x4, ⟨trivial, (zs_w zlI_0 (by decide))⟩⟩⟩) (fun t_1 pt_1 => ?_)
  obtain ⟨ret, er, hr⟩ := zw_73 pt_1.1
  refine ⟨ret, er, ?_⟩
  exact hr
-- BX9_claimOf_177
theorem zw_95 {σ0 : sn_S} {σ : sn_S} (h_σ : zs_W σ0 σ) {x1 : Int32} (h_x1 : zs_in x1.toInt 0 5) {x2 : Int32} (h_x2 : zs_in x2.toInt 0 5) {x3 : Int32} (h_x3 : zs_in x3.toInt 1 1) {x4 : Int32} (h_x4 : zs_in x4.toInt 0 1073741823) {x5 : Int32} {x6 : Int32} (h_x6 : zs_in x6.toInt 1 1) {x7 : Int32} (h_x7 : zs_in x7.toInt 0 0) {c : Int} (hc : x7.toInt = c + 0) : zs_ok (BX9_claimOf_177 σ x1 x2 x3 x4 x5 x6 x7) (fun r => zs_sum (fun v => ((zs_W σ0 v.1 ∧ (zs_in (v.2.1).toInt 0 1073741823 ∧ (True ∧ zs_in (v.2.2.2).toInt 1 1)))) ∧ v.2.2.2.toInt = c + 1) (fun v => False) r) := by
  unfold BX9_claimOf_177
  obtain rfl : x3 = (1 : Int32) := zs_eqv h_x3 (by decide)
  obtain rfl : x6 = (1 : Int32) := zs_eqv h_x6 (by decide)
  refine zs_lt (Q := fun z => zs_in z.toInt 1 1 ∧ z.toInt = c + 1) ⟨(zs_addI 1 1 h_x7 zlI_1 (by decide)), (zs_syI 1 hc h_x7 zlI_1 (by decide) (by decide))⟩ (fun y_1 hy_1 => ?_)
  exact zs_some (zs_inl ⟨⟨h_σ, ⟨h_x4, ⟨trivial, hy_1.1⟩⟩⟩, hy_1.2⟩)
-- BX9_claimOf_152
theorem zw_96 {σ0 : sn_S} {σ : sn_S} (h_σ : zs_W σ0 σ) {x1 : Int32} (h_x1 : zs_in x1.toInt 0 5) {x2 : Int32} (h_x2 : zs_in x2.toInt 0 5) {x3 : Int32} (h_x3 : zs_in x3.toInt 1 1) {x4 : Int32} (h_x4 : zs_in x4.toInt 0 1073741823) {x5 : Int32} {x6 : Int32} (h_x6 : zs_in x6.toInt 1 1) {x7 : Int32} (h_x7 : zs_in x7.toInt 0 0) {x8 : Int32} (h_x8 : zs_in x8.toInt 0 29) {t0 : Int32} (h_t0 : zs_in t0.toInt 0 99) {c : Int} (hc : x7.toInt = c + 0) : zs_ok (BX9_claimOf_152 σ x1 x2 x3 x4 x5 x6 x7 x8 t0) (fun r => zs_sum (fun v => ((zs_W σ0 v.1 ∧ (zs_in (v.2.1).toInt 0 1073741823 ∧ (True ∧ zs_in (v.2.2.2).toInt 1 1)))) ∧ v.2.2.2.toInt = c + 1) (fun v => False) r) := by
  unfold BX9_claimOf_152
  obtain rfl : x3 = (1 : Int32) := zs_eqv h_x3 (by decide)
  obtain rfl : x6 = (1 : Int32) := zs_eqv h_x6 (by decide)
  refine zs_lt (Q := fun z => True) trivial (fun y_1 hy_1 => ?_)
  refine zs_ite (fun c1 => ?_) (fun c1 => ?_)
  · skip
    have r2 := (zs_I_eq c1)
    exact (zs_botr r2 h_x3 zlI_0 (by decide)).elim
  · skip
    have r3 := (zs_I_eqn c1)
    refine zs_gd (zs_gin h_x8 (by decide)) ?_
    refine zs_gd (zs_gin h_x8 (by decide)) ?_
    refine zs_lt (Q := fun z => zs_W σ0 z) (zs_wrt h_σ (fun _ => rfl) (fun _ => rfl)) (fun σ_6 hσ_6 => ?_)
    obtain ⟨ret, er, hr⟩ := zw_95 hσ_6 h_x1 h_x2 h_x3 h_x4 h_x6 h_x7 hc
    refine ⟨ret, er, ?_⟩
    exact (zs_sumw hr (fun v w => ⟨w.1, w.2⟩) (fun v w => w.elim))
-- BX9_claimOf_128
theorem zw_97 {σ0 : sn_S} {σ : sn_S} (h_σ : zs_W σ0 σ) {x1 : Int32} (h_x1 : zs_in x1.toInt 0 5) {x2 : Int32} (h_x2 : zs_in x2.toInt 0 5) {x3 : Int32} (h_x3 : zs_in x3.toInt 1 1) {x4 : Int32} (h_x4 : zs_in x4.toInt 0 1073741823) {x5 : Int32} {x6 : Int32} (h_x6 : zs_in x6.toInt 1 1) {x7 : Int32} (h_x7 : zs_in x7.toInt 0 0) {x8 : Int32} (h_x8 : zs_in x8.toInt 0 29) {t0 : Int32} (h_t0 : zs_in t0.toInt 0 0) {c : Int} (hc : x7.toInt = c + 0) : zs_ok (BX9_claimOf_128 σ x1 x2 x3 x4 x5 x6 x7 x8 t0) (fun r => zs_sum (fun v => ((zs_W σ0 v.1 ∧ (zs_in (v.2.1).toInt 0 1073741823 ∧ (True ∧ zs_in (v.2.2.2).toInt 1 1)))) ∧ v.2.2.2.toInt = c + 1) (fun v => False) r) := by
  unfold BX9_claimOf_128
  obtain rfl : x3 = (1 : Int32) := zs_eqv h_x3 (by decide)
  obtain rfl : x6 = (1 : Int32) := zs_eqv h_x6 (by decide)
  obtain rfl : t0 = (0 : Int32) := zs_eqv h_t0 (by decide)
  refine zs_ite (fun c1 => ?_) (fun c1 => ?_)
  · skip
    have r2 := (zs_I_eq c1)
    refine zs_bd_ (zw_65 h_σ h_x1 zlI_3) (fun t_2 pt_2 => ?_)
    obtain ⟨ret, er, hr⟩ := zw_96 h_σ h_x1 h_x2 h_x3 h_x4 h_x6 h_x7 h_x8 pt_2 hc
    refine ⟨ret, er, ?_⟩
    exact (zs_sumw hr (fun v w => ⟨w.1, w.2⟩) (fun v w => w.elim))
  · skip
    have r3 := (zs_I_eqn c1)
    exact (zs_botne r3 h_t0 zlI_0 (by decide)).elim
-- BX9_claimOf_127
theorem zw_98 {σ0 : sn_S} {σ : sn_S} (h_σ : zs_W σ0 σ) {x1 : Int32} (h_x1 : zs_in x1.toInt 0 5) {x2 : Int32} (h_x2 : zs_in x2.toInt 0 5) {x3 : Int32} (h_x3 : zs_in x3.toInt 1 1) {x4 : Int32} (h_x4 : zs_in x4.toInt 0 1073741823) {x5 : Int32} {x6 : Int32} (h_x6 : zs_in x6.toInt 1 1) {x7 : Int32} (h_x7 : zs_in x7.toInt 0 0) {x8 : Int32} (h_x8 : zs_in x8.toInt 0 29) {c : Int} (hc : x7.toInt = c + 0) : zs_ok (BX9_claimOf_127 σ x1 x2 x3 x4 x5 x6 x7 x8) (fun r => zs_sum (fun v => ((zs_W σ0 v.1 ∧ (zs_in (v.2.1).toInt 0 1073741823 ∧ (True ∧ zs_in (v.2.2.2).toInt 1 1)))) ∧ v.2.2.2.toInt = c + 1) (fun v => False) r) := by
  unfold BX9_claimOf_127
  obtain rfl : x3 = (1 : Int32) := zs_eqv h_x3 (by decide)
  obtain rfl : x6 = (1 : Int32) := zs_eqv h_x6 (by decide)
  obtain ⟨ret, er, hr⟩ := zw_97 h_σ h_x1 h_x2 h_x3 h_x4 h_x6 h_x7 h_x8 zlI_0 hc
  refine ⟨ret, er, ?_⟩
  exact (zs_sumw hr (fun v w => ⟨w.1, w.2⟩) (fun v w => w.elim))
-- BX9_claimOf_152
theorem zw_99 {σ0 : sn_S} {σ : sn_S} (h_σ : zs_W σ0 σ) {x1 : Int32} (h_x1 : zs_in x1.toInt 0 5) {x2 : Int32} (h_x2 : zs_in x2.toInt 0 5) {x3 : Int32} (h_x3 : zs_in x3.toInt 1 1) {x4 : Int32} (h_x4 : zs_in x4.toInt 0 1073741823) {x5 : Int32} {x6 : Int32} (h_x6 : zs_in x6.toInt 1 1) {x7 : Int32} (h_x7 : zs_in x7.toInt 0 0) {x8 : Int32} (h_x8 : zs_in x8.toInt 0 29) {t0 : Int32} (h_t0 : zs_in t0.toInt 0 49) {c : Int} (hc : x7.toInt = c + 0) : zs_ok (BX9_claimOf_152 σ x1 x2 x3 x4 x5 x6 x7 x8 t0) (fun r => zs_sum (fun v => ((zs_W σ0 v.1 ∧ (zs_in (v.2.1).toInt 0 1073741823 ∧ (True ∧ zs_in (v.2.2.2).toInt 1 1)))) ∧ v.2.2.2.toInt = c + 1) (fun v => False) r) := by
  unfold BX9_claimOf_152
  obtain rfl : x3 = (1 : Int32) := zs_eqv h_x3 (by decide)
  obtain rfl : x6 = (1 : Int32) := zs_eqv h_x6 (by decide)
  refine zs_lt (Q := fun z => True) trivial (fun y_1 hy_1 => ?_)
  refine zs_ite (fun c1 => ?_) (fun c1 => ?_)
  · skip
    have r2 := (zs_I_eq c1)
    exact (zs_botr r2 h_x3 zlI_0 (by decide)).elim
  · skip
    have r3 := (zs_I_eqn c1)
    refine zs_gd (zs_gin h_x8 (by decide)) ?_
    refine zs_gd (zs_gin h_x8 (by decide)) ?_
    refine zs_lt (Q := fun z => zs_W σ0 z) (zs_wrt h_σ (fun _ => rfl) (fun _ => rfl)) (fun σ_6 hσ_6 => ?_)
    obtain ⟨ret, er, hr⟩ := zw_95 hσ_6 h_x1 h_x2 h_x3 h_x4 h_x6 h_x7 hc
    refine ⟨ret, er, ?_⟩
    exact (zs_sumw hr (fun v w => ⟨w.1, w.2⟩) (fun v w => w.elim))
-- BX9_claimOf_128
theorem zw_100 {σ0 : sn_S} {σ : sn_S} (h_σ : zs_W σ0 σ) {x1 : Int32} (h_x1 : zs_in x1.toInt 0 5) {x2 : Int32} (h_x2 : zs_in x2.toInt 0 5) {x3 : Int32} (h_x3 : zs_in x3.toInt 1 1) {x4 : Int32} (h_x4 : zs_in x4.toInt 0 1073741823) {x5 : Int32} {x6 : Int32} (h_x6 : zs_in x6.toInt 1 1) {x7 : Int32} (h_x7 : zs_in x7.toInt 0 0) {x8 : Int32} (h_x8 : zs_in x8.toInt 0 29) {t0 : Int32} (h_t0 : zs_in t0.toInt 1 1) {c : Int} (hc : x7.toInt = c + 0) : zs_ok (BX9_claimOf_128 σ x1 x2 x3 x4 x5 x6 x7 x8 t0) (fun r => zs_sum (fun v => ((zs_W σ0 v.1 ∧ (zs_in (v.2.1).toInt 0 1073741823 ∧ (True ∧ zs_in (v.2.2.2).toInt 1 1)))) ∧ v.2.2.2.toInt = c + 1) (fun v => False) r) := by
  unfold BX9_claimOf_128
  obtain rfl : x3 = (1 : Int32) := zs_eqv h_x3 (by decide)
  obtain rfl : x6 = (1 : Int32) := zs_eqv h_x6 (by decide)
  obtain rfl : t0 = (1 : Int32) := zs_eqv h_t0 (by decide)
  refine zs_ite (fun c1 => ?_) (fun c1 => ?_)
  · skip
    have r2 := (zs_I_eq c1)
    exact (zs_botr r2 h_t0 zlI_0 (by decide)).elim
  · skip
    have r3 := (zs_I_eqn c1)
    refine zs_bd_ (zw_65 h_σ h_x1 zlI_3) (fun t_4 pt_4 => ?_)
    obtain ⟨ret, er, hr⟩ := zw_99 h_σ h_x1 h_x2 h_x3 h_x4 h_x6 h_x7 h_x8 (zs_divI 0 49 pt_4 zlI_2 (by decide)) hc
    refine ⟨ret, er, ?_⟩
    exact (zs_sumw hr (fun v w => ⟨w.1, w.2⟩) (fun v w => w.elim))
-- BX9_claimOf_63
theorem zw_101 {σ0 : sn_S} {σ : sn_S} (h_σ : zs_W σ0 σ) {x1 : Int32} (h_x1 : zs_in x1.toInt 0 5) {x2 : Int32} (h_x2 : zs_in x2.toInt 0 5) {x3 : Int32} (h_x3 : zs_in x3.toInt 1 1) {x4 : Int32} (h_x4 : zs_in x4.toInt 0 1073741823) {x5 : Int32} {x6 : Int32} (h_x6 : zs_in x6.toInt 1 1) {x7 : Int32} (h_x7 : zs_in x7.toInt 0 1) {c : Int} (hc : x7.toInt = c + 0) : zs_ok (BX9_claimOf_63 σ x1 x2 x3 x4 x5 x6 x7) (fun r => zs_sum (fun v => ((zs_W σ0 v.1 ∧ (zs_in (v.2.1).toInt 0 1073741823 ∧ (True ∧ zs_in (v.2.2.2).toInt 1 1)))) ∧ v.2.2.2.toInt = c + 1) (fun v => (zs_W σ0 v.1 ∧ True)) r) := by
  unfold BX9_claimOf_63
  obtain rfl : x3 = (1 : Int32) := zs_eqv h_x3 (by decide)
  obtain rfl : x6 = (1 : Int32) := zs_eqv h_x6 (by decide)
  refine zs_ite (fun c1 => ?_) (fun c1 => ?_)
  · skip
    have r2 := (zs_I_le c1)
    have g3 : zs_in (x7).toInt 1 1 := (zs_ler 1 1 r2 h_x6 h_x7 (by decide))
    exact zs_some (zs_inr (⟨h_σ, trivial⟩))
  · skip
    have r4 := (zs_I_len c1)
    have g5 : zs_in (x7).toInt 0 0 := (zs_ltl 0 0 r4 h_x7 h_x6 (by decide))
    refine zs_ite (fun c6 => ?_) (fun c6 => ?_)
    · skip
      have r7 := (zs_I_eq c6)
      have g8 : zs_in (x4).toInt 0 0 := (zs_eql 0 0 r7 h_x4 zlI_0 (by decide))
      exact zs_some (zs_inr (⟨h_σ, trivial⟩))
    · skip
      have r9 := (zs_I_eqn c6)
      have g10 : zs_in (x4).toInt 1 1073741823 := (zs_nel 1 1073741823 r9 h_x4 zlI_0 (by decide))
      refine zs_bd_ (zo_fo1 (by decide) g10) (fun t_3 pt_3 => ?_)
      refine zs_lt (Q := fun z => zs_in z.toInt 0 1073741823) (zs_and2 g10 (by decide)) (fun y_5 hy_5 => ?_)
      refine zs_ite (fun c11 => ?_) (fun c11 => ?_)
      · skip
        have r12 := (zs_I_eq c11)
        have g13 : zs_in ((sn_I σ 0 20)).toInt 3 3 := (zs_eql 3 3 r12 (zs_topI _) zlI_3 (by decide))
        refine zs_gd (zs_gin h_x2 (by decide)) ?_
        refine zs_bd_ (zw_63 h_σ h_x1) (fun t_9 pt_9 => ?_)
        refine zs_bd_ (zw_64 pt_3) (fun t_11 pt_11 => ?_)
        refine zs_ite (fun c14 => ?_) (fun c14 => ?_)
        · skip
          have r15 := (zs_I_eq c14)
          have g16 : zs_in ((((sn_I σ 8 x2.toNatClampNeg) &&& t_9) &&& t_11)).toInt 0 0 := (zs_eql 0 0 r15 (zs_and pt_11 (by decide)) zlI_0 (by decide))
          obtain ⟨ret, er, hr⟩ := zw_98 h_σ h_x1 h_x2 h_x3 hy_5 h_x6 g5 pt_3 hc
          refine ⟨ret, er, ?_⟩
          exact (zs_sumw hr (fun v w => ⟨w.1, w.2⟩) (fun v w => w.elim))
        · skip
          have r17 := (zs_I_eqn c14)
          have g18 : zs_in ((((sn_I σ 8 x2.toNatClampNeg) &&& t_9) &&& t_11)).toInt 1 536870911 := (zs_nel 1 536870911 r17 (zs_and pt_11 (by decide)) zlI_0 (by decide))
          obtain ⟨ret, er, hr⟩ := zw_100 h_σ h_x1 h_x2 h_x3 hy_5 h_x6 g5 pt_3 zlI_1 hc
          refine ⟨ret, er, ?_⟩
          exact (zs_sumw hr (fun v w => ⟨w.1, w.2⟩) (fun v w => w.elim))
      · skip
        have r19 := (zs_I_eqn c11)
        obtain ⟨ret, er, hr⟩ := zw_98 h_σ h_x1 h_x2 h_x3 hy_5 h_x6 g5 pt_3 hc
        refine ⟨ret, er, ?_⟩
        exact (zs_sumw hr (fun v w => ⟨w.1, w.2⟩) (fun v w => w.elim))
theorem zx_16 {σ0 : sn_S} {x1 : Int32} (h_x1 : zs_in x1.toInt 0 5) {x2 : Int32} (h_x2 : zs_in x2.toInt 0 5) {x3 : Int32} (h_x3 : zs_in x3.toInt 1 1) {x6 : Int32} (h_x6 : zs_in x6.toInt 1 1) {s0 : (sn_S × (Int32 × (Int32 × Int32)))} (h0 : (zs_W σ0 s0.1 ∧ (zs_in (s0.2.1).toInt 0 1073741823 ∧ (True ∧ zs_in (s0.2.2.2).toInt 0 1)))) : zs_ok (sn_it (LX9_claimOf_63 x1 x2 x3 x6) 5000 s0) (fun t => (zs_W σ0 t.1 ∧ True)) := by
  refine zs_it (I := fun s => (zs_W σ0 s.1 ∧ (zs_in (s.2.1).toInt 0 1073741823 ∧ (True ∧ zs_in (s.2.2.2).toInt 0 1)))) (m := fun s => 1 - s.2.2.2.toInt) (fun s hs => ?_) (fun s hs => ?_) (by exact h0)
  · have h1 := hs.2.2.2; unfold zs_in at h1
    omega
  · obtain ⟨b, eb, hb⟩ := zw_101 hs.1 h_x1 h_x2 h_x3 hs.2.1 h_x6 hs.2.2.2 (c := s.2.2.2.toInt) (Int.add_zero _).symm
    exact ⟨b, eb, zs_sumw hb (fun v w => ⟨⟨w.1.1, ⟨w.1.2.1, ⟨w.1.2.2.1, (zs_w w.1.2.2.2 (by decide))⟩⟩⟩, by have := w.2; omega⟩) (fun v w => w)⟩
-- BX9_claimOf_58
theorem zw_102 {σ0 : sn_S} {σ : sn_S} (h_σ : zs_W σ0 σ) {x1 : Int32} (h_x1 : zs_in x1.toInt 0 5) {x2 : Int32} (h_x2 : zs_in x2.toInt 0 5) {x3 : Int32} (h_x3 : zs_in x3.toInt 1 1) {x4 : Int32} (h_x4 : zs_in x4.toInt 0 1073741823) {x5 : Int32} (h_x5 : zs_in x5.toInt 0 0) {t0 : Int32} (h_t0 : zs_in t0.toInt 1 1) : zs_ok (BX9_claimOf_58 σ x1 x2 x3 x4 x5 t0) (fun r => (True ∧ zs_W σ0 r.2)) := by
  unfold BX9_claimOf_58
  obtain rfl : x3 = (1 : Int32) := zs_eqv h_x3 (by decide)
  obtain rfl : x5 = (0 : Int32) := zs_eqv h_x5 (by decide)
  obtain rfl : t0 = (1 : Int32) := zs_eqv h_t0 (by decide)
  refine zs_bd_ (zx_16 h_x1 h_x2 h_x3 h_t0 (s0 := (σ, (x4, ((0 : Int32), (0 : Int32))))) ⟨h_σ, ⟨h_x4, ⟨trivial, (zs_w zlI_0 (by decide))⟩⟩⟩) (fun t_1 pt_1 => ?_)
  obtain ⟨ret, er, hr⟩ := zw_73 pt_1.1
  refine ⟨ret, er, ?_⟩
  exact hr
-- BX9_claimOf_33
theorem zw_103 {σ0 : sn_S} {σ : sn_S} (h_σ : zs_W σ0 σ) {x1 : Int32} (h_x1 : zs_in x1.toInt 0 5) {x2 : Int32} (h_x2 : zs_in x2.toInt 0 5) {x3 : Int32} (h_x3 : zs_in x3.toInt 1 1) {x4 : Int32} (h_x4 : zs_in x4.toInt 0 1073741823) : zs_ok (BX9_claimOf_33 σ x1 x2 x3 x4) (fun r => (True ∧ zs_W σ0 r.2)) := by
  unfold BX9_claimOf_33
  obtain rfl : x3 = (1 : Int32) := zs_eqv h_x3 (by decide)
  refine zs_bd_ (zo_fot2 h_x4) (fun t_1 pt_1 => ?_)
  refine zs_lt (Q := fun z => zs_W σ0 z) (zs_wrkt h_σ rfl rfl) (fun σ_3 hσ_3 => ?_)
  refine zs_ite (fun c1 => ?_) (fun c1 => ?_)
  · skip
    have r2 := (zs_I_eq c1)
    have g3 : zs_in ((sn_I σ_3 0 20)).toInt 2 2 := (zs_eql 2 2 r2 (zs_topI _) zlI_2 (by decide))
    obtain ⟨ret, er, hr⟩ := zw_94 hσ_3 h_x1 h_x2 h_x3 h_x4 zlI_0 zlI_3
    refine ⟨ret, er, ?_⟩
    exact hr
  · skip
    have r4 := (zs_I_eqn c1)
    obtain ⟨ret, er, hr⟩ := zw_102 hσ_3 h_x1 h_x2 h_x3 h_x4 zlI_0 zlI_1
    refine ⟨ret, er, ?_⟩
    exact hr
-- fX9_claimOf
theorem zw_104 {σ0 : sn_S} {σ : sn_S} (h_σ : zs_W σ0 σ) {x1 : Int32} (h_x1 : zs_in x1.toInt 0 5) {x2 : Int32} (h_x2 : zs_in x2.toInt 0 5) {x3 : Int32} (h_x3 : zs_in x3.toInt 1 1) : zs_ok (fX9_claimOf σ x1 x2 x3) (fun r => (True ∧ zs_W σ0 r.2)) := by
  unfold fX9_claimOf
  obtain rfl : x3 = (1 : Int32) := zs_eqv h_x3 (by decide)
  refine zs_gd (zs_gin h_x2 (by decide)) ?_
  refine zs_bd_ (zw_63 h_σ h_x1) (fun t_2 pt_2 => ?_)
  refine zs_lt (Q := fun z => zs_in z.toInt 0 1073741823) (zs_and pt_2 (by decide)) (fun y_4 hy_4 => ?_)
  refine zs_ite (fun c1 => ?_) (fun c1 => ?_)
  · skip
    have r2 := (zs_I_eq c1)
    have g3 : zs_in ((sn_I σ 0 20)).toInt 1 1 := (zs_eql 1 1 r2 (zs_topI _) zlI_1 (by decide))
    refine zs_lt (Q := fun z => zs_in z.toInt 0 1073741823) (zs_and2 hy_4 (by decide)) (fun y_7 hy_7 => ?_)
    obtain ⟨ret, er, hr⟩ := zw_103 h_σ h_x1 h_x2 h_x3 hy_7
    refine ⟨ret, er, ?_⟩
    exact hr
  · skip
    have r4 := (zs_I_eqn c1)
    obtain ⟨ret, er, hr⟩ := zw_103 h_σ h_x1 h_x2 h_x3 hy_4
    refine ⟨ret, er, ?_⟩
    exact hr
-- BX9_layPaid_23
theorem zw_105 {σ0 : sn_S} {σ : sn_S} (h_σ : zs_W σ0 σ) {x1 : Int32} (h_x1 : zs_in x1.toInt 0 6) {c : Int} (hc : x1.toInt = c + 0) : zs_ok (BX9_layPaid_23 σ x1) (fun r => zs_sum (fun v => ((zs_W σ0 v.1 ∧ zs_in (v.2).toInt 1 6)) ∧ v.2.toInt = c + 1) (fun v => zs_W σ0 v) r) := by
  unfold BX9_layPaid_23
  refine zs_gd (zs_gin zlI_8 (by decide)) ?_
  refine zs_ite (fun c1 => ?_) (fun c1 => ?_)
  · skip
    have r2 := (zs_I_le c1)
    exact zs_some (zs_inr (h_σ))
  · skip
    have r3 := (zs_I_len c1)
    have g4 : zs_in (x1).toInt 0 5 := (zs_ltl 0 5 r3 h_x1 (zs_rdk (q := 1) (k := (8 : Int32).toNatClampNeg) (z := (0, 6)) h_σ.1 rfl) (by decide))
    have g5 : zs_in ((sn_I σ 1 (8 : Int32).toNatClampNeg)).toInt 1 6 := (zs_ltr 1 6 r3 h_x1 (zs_rdk (q := 1) (k := (8 : Int32).toNatClampNeg) (z := (0, 6)) h_σ.1 rfl) (by decide))
    refine zs_bd_ (zw_58 h_σ g4 zlI_0) (fun t_3 pt_3 => ?_)
    refine zs_bd_ (zw_104 h_σ g4 pt_3 zlI_1) (fun t_5 pt_5 => ?_)
    refine zs_lt (Q := fun z => zs_in z.toInt 1 6 ∧ z.toInt = c + 1) ⟨(zs_addI 1 6 g4 zlI_1 (by decide)), (zs_syI 1 hc g4 zlI_1 (by decide) (by decide))⟩ (fun y_7 hy_7 => ?_)
    exact zs_some (zs_inl ⟨⟨pt_5.2, hy_7.1⟩, hy_7.2⟩)
theorem zx_17 {σ0 : sn_S}  {s0 : (sn_S × Int32)} (h0 : (zs_W σ0 s0.1 ∧ zs_in (s0.2).toInt 0 6)) : zs_ok (sn_it (LX9_layPaid_23) 5000 s0) (fun t => zs_W σ0 t) := by
  refine zs_it (I := fun s => (zs_W σ0 s.1 ∧ zs_in (s.2).toInt 0 6)) (m := fun s => 6 - s.2.toInt) (fun s hs => ?_) (fun s hs => ?_) (by exact h0)
  · have h1 := hs.2; unfold zs_in at h1
    omega
  · obtain ⟨b, eb, hb⟩ := zw_105 hs.1 hs.2 (c := s.2.toInt) (Int.add_zero _).symm
    exact ⟨b, eb, zs_sumw hb (fun v w => ⟨⟨w.1.1, (zs_w w.1.2 (by decide))⟩, by have := w.2; omega⟩) (fun v w => w)⟩
-- BX9_layPaid_53
theorem zw_106 {σ0 : sn_S} {σ : sn_S} (h_σ : zs_W σ0 σ) : zs_ok (BX9_layPaid_53 σ) (fun r => zs_W σ0 r) := by
  unfold BX9_layPaid_53
  exact zs_some h_σ
-- BX9_layPaid_21
theorem zw_107 {σ0 : sn_S} {σ : sn_S} (h_σ : zs_W σ0 σ) : zs_ok (BX9_layPaid_21 σ) (fun r => zs_W σ0 r) := by
  unfold BX9_layPaid_21
  refine zs_bd_ (zx_17  (s0 := (σ, (0 : Int32))) ⟨h_σ, (zs_w zlI_0 (by decide))⟩) (fun t_1 pt_1 => ?_)
  obtain ⟨ret, er, hr⟩ := zw_106 pt_1
  refine ⟨ret, er, ?_⟩
  exact hr
-- fX9_layPaid
theorem zw_108 {σ0 : sn_S} {σ : sn_S} (h_σ : zs_W σ0 σ) : zs_ok (fX9_layPaid σ) (fun r => zs_W σ0 r) := by
  unfold fX9_layPaid
  refine zs_bd_ (zx_14  (s0 := (σ, (0 : Int32))) ⟨h_σ, (zs_w zlI_0 (by decide))⟩) (fun t_1 pt_1 => ?_)
  obtain ⟨ret, er, hr⟩ := zw_107 pt_1
  refine ⟨ret, er, ?_⟩
  exact hr
-- fX9_of
theorem zw_109 {σ0 : sn_S} {σ : sn_S} (h_σ : zs_W σ0 σ) {x1 : Int32} (h_x1 : zs_in x1.toInt 0 5) {x2 : Int32} (h_x2 : zs_in x2.toInt 4 4) : zs_ok (fX9_of σ x1 x2) (fun r => zs_in (r).toInt 0 99) := by
  unfold fX9_of
  obtain rfl : x2 = (4 : Int32) := zs_eqv h_x2 (by decide)
  refine zs_gd (zs_gin (zs_addI 53 78 (zs_addI 49 74 zlI_49 (zs_mulI 0 25 zlI_5 h_x1 (by decide)) (by decide)) h_x2 (by decide)) (by decide)) ?_
  exact zs_some (zs_rdb (q := 1) (lo := 0) (hi := 99) h_σ.1 (zs_cases h_x1 (fun z => zs_bd (zs_tM 1 (((49 : Int32) + ((5 : Int32) * z)) + (4 : Int32)).toNatClampNeg) 0 99) (by decide +kernel)))
-- BX9_moneyAt_7
theorem zw_110 {σ0 : sn_S} {σ : sn_S} (h_σ : zs_W σ0 σ) {x1 : Int32} (h_x1 : zs_in x1.toInt 0 29) {x2 : Int32} {x3 : Int32} (h_x3 : zs_in x3.toInt 0 6) {c : Int} (hc : x3.toInt = c + 0) : zs_ok (BX9_moneyAt_7 σ x1 x2 x3) (fun r => zs_sum (fun v => ((True ∧ zs_in (v.2).toInt 1 6)) ∧ v.2.toInt = c + 1) (fun v => True) r) := by
  unfold BX9_moneyAt_7
  refine zs_gd (zs_gin zlI_8 (by decide)) ?_
  refine zs_ite (fun c1 => ?_) (fun c1 => ?_)
  · skip
    have r2 := (zs_I_le c1)
    exact zs_some (zs_inr (trivial))
  · skip
    have r3 := (zs_I_len c1)
    have g4 : zs_in (x3).toInt 0 5 := (zs_ltl 0 5 r3 h_x3 (zs_rdk (q := 1) (k := (8 : Int32).toNatClampNeg) (z := (0, 6)) h_σ.1 rfl) (by decide))
    have g5 : zs_in ((sn_I σ 1 (8 : Int32).toNatClampNeg)).toInt 1 6 := (zs_ltr 1 6 r3 h_x3 (zs_rdk (q := 1) (k := (8 : Int32).toNatClampNeg) (z := (0, 6)) h_σ.1 rfl) (by decide))
    refine zs_bd_ (zw_109 h_σ g4 zlI_4) (fun t_3 pt_3 => ?_)
    refine zs_lt (Q := fun z => True) trivial (fun y_5 hy_5 => ?_)
    refine zs_lt (Q := fun z => zs_in z.toInt 1 6 ∧ z.toInt = c + 1) ⟨(zs_addI 1 6 g4 zlI_1 (by decide)), (zs_syI 1 hc g4 zlI_1 (by decide) (by decide))⟩ (fun y_7 hy_7 => ?_)
    exact zs_some (zs_inl ⟨⟨trivial, hy_7.1⟩, hy_7.2⟩)
theorem zx_18 {σ0 : sn_S} {σ : sn_S} (h_σ : zs_W σ0 σ) {x1 : Int32} (h_x1 : zs_in x1.toInt 0 29) {s0 : (Int32 × Int32)} (h0 : (True ∧ zs_in (s0.2).toInt 0 6)) : zs_ok (sn_it (LX9_moneyAt_7 σ x1) 5000 s0) (fun t => True) := by
  refine zs_it (I := fun s => (True ∧ zs_in (s.2).toInt 0 6)) (m := fun s => 6 - s.2.toInt) (fun s hs => ?_) (fun s hs => ?_) (by exact h0)
  · have h1 := hs.2; unfold zs_in at h1
    omega
  · obtain ⟨b, eb, hb⟩ := zw_110 h_σ h_x1 hs.2 (c := s.2.toInt) (Int.add_zero _).symm
    exact ⟨b, eb, zs_sumw hb (fun v w => ⟨⟨w.1.1, (zs_w w.1.2 (by decide))⟩, by have := w.2; omega⟩) (fun v w => w)⟩
-- BX9_moneyAt_35
theorem zw_111 {σ0 : sn_S} {σ : sn_S} (h_σ : zs_W σ0 σ) {x1 : Int32} (h_x1 : zs_in x1.toInt 0 29) {x2 : Int32} {x3 : Int32} (h_x3 : zs_in x3.toInt 0 30) {c : Int} (hc : x3.toInt = c + 0) : zs_ok (BX9_moneyAt_35 σ x1 x2 x3) (fun r => zs_sum (fun v => ((True ∧ zs_in (v.2).toInt 1 30)) ∧ v.2.toInt = c + 1) (fun v => True) r) := by
  unfold BX9_moneyAt_35
  refine zs_ite (fun c1 => ?_) (fun c1 => ?_)
  · skip
    have r2 := (zs_I_lt c1)
    have g3 : zs_in (x3).toInt 1 30 := (zs_ltr 1 30 r2 h_x1 h_x3 (by decide))
    exact zs_some (zs_inr (trivial))
  · skip
    have r4 := (zs_I_ltn c1)
    have g5 : zs_in (x3).toInt 0 29 := (zs_lel 0 29 r4 h_x3 h_x1 (by decide))
    refine zs_gd (zs_gin g5 (by decide)) ?_
    refine zs_lt (Q := fun z => True) trivial (fun y_3 hy_3 => ?_)
    refine zs_lt (Q := fun z => zs_in z.toInt 1 30 ∧ z.toInt = c + 1) ⟨(zs_addI 1 30 g5 zlI_1 (by decide)), (zs_syI 1 hc g5 zlI_1 (by decide) (by decide))⟩ (fun y_5 hy_5 => ?_)
    exact zs_some (zs_inl ⟨⟨trivial, hy_5.1⟩, hy_5.2⟩)
theorem zx_19 {σ0 : sn_S} {σ : sn_S} (h_σ : zs_W σ0 σ) {x1 : Int32} (h_x1 : zs_in x1.toInt 0 29) {s0 : (Int32 × Int32)} (h0 : (True ∧ zs_in (s0.2).toInt 0 30)) : zs_ok (sn_it (LX9_moneyAt_35 σ x1) 5000 s0) (fun t => True) := by
  refine zs_it (I := fun s => (True ∧ zs_in (s.2).toInt 0 30)) (m := fun s => 30 - s.2.toInt) (fun s hs => ?_) (fun s hs => ?_) (by exact h0)
  · have h1 := hs.2; unfold zs_in at h1
    omega
  · obtain ⟨b, eb, hb⟩ := zw_111 h_σ h_x1 hs.2 (c := s.2.toInt) (Int.add_zero _).symm
    exact ⟨b, eb, zs_sumw hb (fun v w => ⟨⟨w.1.1, (zs_w w.1.2 (by decide))⟩, by have := w.2; omega⟩) (fun v w => w)⟩
-- BX9_moneyAt_55
theorem zw_112 {σ0 : sn_S} {σ : sn_S} (h_σ : zs_W σ0 σ) {x2 : Int32} : zs_ok (BX9_moneyAt_55 σ x2) (fun r => True) := by
  unfold BX9_moneyAt_55
  exact zs_some trivial
-- BX9_moneyAt_33
theorem zw_113 {σ0 : sn_S} {σ : sn_S} (h_σ : zs_W σ0 σ) {x1 : Int32} (h_x1 : zs_in x1.toInt 0 29) {x2 : Int32} : zs_ok (BX9_moneyAt_33 σ x1 x2) (fun r => True) := by
  unfold BX9_moneyAt_33
  refine zs_bd_ (zx_19 h_σ h_x1 (s0 := (x2, (0 : Int32))) ⟨trivial, (zs_w zlI_0 (by decide))⟩) (fun t_1 pt_1 => ?_)
  obtain ⟨ret, er, hr⟩ := zw_112 h_σ
  refine ⟨ret, er, ?_⟩
  exact hr
-- fX9_moneyAt
theorem zw_114 {σ0 : sn_S} {σ : sn_S} (h_σ : zs_W σ0 σ) {x1 : Int32} (h_x1 : zs_in x1.toInt 0 29) : zs_ok (fX9_moneyAt σ x1) (fun r => True) := by
  unfold fX9_moneyAt
  refine zs_lt (Q := fun z => zs_in z.toInt 0 1000) (zs_rdk (q := 0) (k := 21) (z := (0, 1000)) h_σ.1 rfl) (fun y_1 hy_1 => ?_)
  refine zs_bd_ (zx_18 h_σ h_x1 (s0 := (y_1, (0 : Int32))) ⟨trivial, (zs_w zlI_0 (by decide))⟩) (fun t_3 pt_3 => ?_)
  obtain ⟨ret, er, hr⟩ := zw_113 h_σ h_x1
  refine ⟨ret, er, ?_⟩
  exact hr
-- BX9_ruinOf_6
theorem zw_115 {σ0 : sn_S} {σ : sn_S} (h_σ : zs_W σ0 σ) {x1 : Int32} (h_x1 : zs_in x1.toInt 0 30) {c : Int} (hc : x1.toInt = c + 0) : zs_ok (BX9_ruinOf_6 σ x1) (fun r => zs_sum (fun v => (zs_in (v).toInt 1 30) ∧ v.toInt = c + 1) (fun v => zs_sum (fun v => True) (fun v => (zs_in (v.1).toInt 0 29 ∧ zs_W σ0 v.2)) v) r) := by
  unfold BX9_ruinOf_6
  refine zs_ite (fun c1 => ?_) (fun c1 => ?_)
  · skip
    have r2 := (zs_I_lt c1)
    exact zs_some (zs_inr ((zs_inl (trivial))))
  · skip
    have r3 := (zs_I_ltn c1)
    have g4 : zs_in (x1).toInt 0 29 := (zs_lel 0 29 r3 h_x1 (zs_rdk (q := 0) (k := 22) (z := ((-1), 29)) h_σ.1 rfl) (by decide))
    have g5 : zs_in ((sn_I σ 0 22)).toInt 0 29 := (zs_ler 0 29 r3 h_x1 (zs_rdk (q := 0) (k := 22) (z := ((-1), 29)) h_σ.1 rfl) (by decide))
    refine zs_bd_ (zw_114 h_σ g4) (fun t_2 pt_2 => ?_)
    refine zs_ite (fun c6 => ?_) (fun c6 => ?_)
    · skip
      have r7 := (zs_I_le c6)
      have g8 : zs_in (t_2).toInt 0 2147483647 := (zs_ler 0 2147483647 r7 zlI_0 (zs_topI _) (by decide))
      refine zs_lt (Q := fun z => zs_in z.toInt 1 30 ∧ z.toInt = c + 1) ⟨(zs_addI 1 30 g4 zlI_1 (by decide)), (zs_syI 1 hc g4 zlI_1 (by decide) (by decide))⟩ (fun y_5 hy_5 => ?_)
      exact zs_some (zs_inl ⟨hy_5.1, hy_5.2⟩)
    · skip
      have r9 := (zs_I_len c6)
      have g10 : zs_in (t_2).toInt (-2147483648) (-1) := (zs_ltl (-2147483648) (-1) r9 (zs_topI _) zlI_0 (by decide))
      exact zs_some (zs_inr ((zs_inr (⟨g4, h_σ⟩))))
theorem zx_20 {σ0 : sn_S} {σ : sn_S} (h_σ : zs_W σ0 σ) {s0 : Int32} (h0 : zs_in (s0).toInt 0 30) : zs_ok (sn_it (LX9_ruinOf_6 σ) 5000 s0) (fun t => zs_sum (fun v => True) (fun v => (zs_in (v.1).toInt 0 29 ∧ zs_W σ0 v.2)) t) := by
  refine zs_it (I := fun s => zs_in (s).toInt 0 30) (m := fun s => 30 - s.toInt) (fun s hs => ?_) (fun s hs => ?_) (by exact h0)
  · have h1 := hs; unfold zs_in at h1
    omega
  · obtain ⟨b, eb, hb⟩ := zw_115 h_σ hs (c := s.toInt) (Int.add_zero _).symm
    exact ⟨b, eb, zs_sumw hb (fun v w => ⟨(zs_w w.1 (by decide)), by have := w.2; omega⟩) (fun v w => w)⟩
-- BX9_ruinOf_30
theorem zw_116 {σ0 : sn_S} {σ : sn_S} (h_σ : zs_W σ0 σ) : zs_ok (BX9_ruinOf_30 σ) (fun r => (zs_in (r.1).toInt (-1) (-1) ∧ zs_W σ0 r.2)) := by
  unfold BX9_ruinOf_30
  exact zs_some ⟨zlI_m1, h_σ⟩
-- fX9_ruinOf
theorem zw_117 {σ0 : sn_S} {σ : sn_S} (h_σ : zs_W σ0 σ) : zs_ok (fX9_ruinOf σ) (fun r => (zs_in (r.1).toInt (-1) 29 ∧ zs_W σ0 r.2)) := by
  unfold fX9_ruinOf
  refine zs_bd_ (zw_108 h_σ) (fun t_1 pt_1 => ?_)
  refine zs_bd_ (zx_20 pt_1 (s0 := (0 : Int32)) (zs_w zlI_0 (by decide))) (fun t_3 pt_3 => ?_)
  refine zs_elim pt_3 (fun v_5 pv_5 => ?_) (fun r_6 pr_6 => ?_)
  · skip
    obtain ⟨ret, er, hr⟩ := zw_116 pt_1
    refine ⟨ret, er, ?_⟩
    exact ⟨(zs_w hr.1 (by decide)), hr.2⟩
  · skip
    exact zs_some ⟨(zs_w pr_6.1 (by decide)), pr_6.2⟩
-- fX9_of
theorem zv_1 {σ0 : sn_S} {σ : sn_S} (h_σ : zs_V σ0 σ) {x1 : Int32} (h_x1 : zs_in x1.toInt 0 5) {x2 : Int32} (h_x2 : zs_in x2.toInt 1 1) : zs_ok (fX9_of σ x1 x2) (fun r => zs_in (r).toInt 0 29) := by
  unfold fX9_of
  obtain rfl : x2 = (1 : Int32) := zs_eqv h_x2 (by decide)
  refine zs_gd (zs_gin (zs_addI 50 75 (zs_addI 49 74 zlI_49 (zs_mulI 0 25 zlI_5 h_x1 (by decide)) (by decide)) h_x2 (by decide)) (by decide)) ?_
  exact zs_some (zs_rdb (q := 1) (lo := 0) (hi := 29) h_σ.1 (zs_cases h_x1 (fun z => zs_bd (zs_tM 1 (((49 : Int32) + ((5 : Int32) * z)) + (1 : Int32)).toNatClampNeg) 0 29) (by decide +kernel)))
-- fX9_of
theorem zv_2 {σ0 : sn_S} {σ : sn_S} (h_σ : zs_V σ0 σ) {x1 : Int32} (h_x1 : zs_in x1.toInt 0 5) {x2 : Int32} (h_x2 : zs_in x2.toInt 2 2) : zs_ok (fX9_of σ x1 x2) (fun r => zs_in (r).toInt 0 29) := by
  unfold fX9_of
  obtain rfl : x2 = (2 : Int32) := zs_eqv h_x2 (by decide)
  refine zs_gd (zs_gin (zs_addI 51 76 (zs_addI 49 74 zlI_49 (zs_mulI 0 25 zlI_5 h_x1 (by decide)) (by decide)) h_x2 (by decide)) (by decide)) ?_
  exact zs_some (zs_rdb (q := 1) (lo := 0) (hi := 29) h_σ.1 (zs_cases h_x1 (fun z => zs_bd (zs_tM 1 (((49 : Int32) + ((5 : Int32) * z)) + (2 : Int32)).toNatClampNeg) 0 29) (by decide +kernel)))
-- BX9_windowOf_9
theorem zv_3 {σ0 : sn_S} {σ : sn_S} (h_σ : zs_V σ0 σ) {x1 : Int32} (h_x1 : zs_in x1.toInt 0 5) {x2 : Int32} (h_x2 : zs_in x2.toInt 0 1073741823) {x3 : Int32} (h_x3 : zs_in x3.toInt 0 30) {c : Int} (hc : x3.toInt = c + 0) : zs_ok (BX9_windowOf_9 σ x1 x2 x3) (fun r => zs_sum (fun v => ((zs_in (v.1).toInt 0 1073741823 ∧ zs_in (v.2).toInt 1 30)) ∧ v.2.toInt = c + 1) (fun v => zs_in (v).toInt 0 1073741823) r) := by
  unfold BX9_windowOf_9
  refine zs_bd_ (zv_2 h_σ h_x1 zlI_2) (fun t_1 pt_1 => ?_)
  refine zs_ite (fun c1 => ?_) (fun c1 => ?_)
  · skip
    have r2 := (zs_I_lt c1)
    have g3 : zs_in (x3).toInt 1 30 := (zs_ltr 1 30 r2 pt_1 h_x3 (by decide))
    exact zs_some (zs_inr (h_x2))
  · skip
    have r4 := (zs_I_ltn c1)
    have g5 : zs_in (x3).toInt 0 29 := (zs_lel 0 29 r4 h_x3 pt_1 (by decide))
    refine zs_ite (fun c6 => ?_) (fun c6 => ?_)
    · skip
      have r7 := (zs_I_lt c6)
      have g8 : zs_in ((sn_I σ 0 22)).toInt (-1) 28 := (zs_ltl (-1) 28 r7 (zs_rdk (q := 0) (k := 22) (z := ((-1), 29)) h_σ.1 rfl) g5 (by decide))
      exact zs_some (zs_inr (h_x2))
    · skip
      have r9 := (zs_I_ltn c6)
      have g10 : zs_in ((sn_I σ 0 22)).toInt 0 29 := (zs_ler 0 29 r9 g5 (zs_rdk (q := 0) (k := 22) (z := ((-1), 29)) h_σ.1 rfl) (by decide))
      refine zs_lt (Q := fun z => zs_in z.toInt 0 1073741823) (zs_or 30 1073741823 h_x2 (zs_cases g5 (fun z => zs_in ((1 : Int32) <<< (z &&& 31)).toInt 1 536870912) (by decide +kernel)) (by decide)) (fun y_5 hy_5 => ?_)
      refine zs_lt (Q := fun z => zs_in z.toInt 1 30 ∧ z.toInt = c + 1) ⟨(zs_addI 1 30 g5 zlI_1 (by decide)), (zs_syI 1 hc g5 zlI_1 (by decide) (by decide))⟩ (fun y_7 hy_7 => ?_)
      exact zs_some (zs_inl ⟨⟨hy_5, hy_7.1⟩, hy_7.2⟩)
theorem zy_1 {σ0 : sn_S} {σ : sn_S} (h_σ : zs_V σ0 σ) {x1 : Int32} (h_x1 : zs_in x1.toInt 0 5) {s0 : (Int32 × Int32)} (h0 : (zs_in (s0.1).toInt 0 1073741823 ∧ zs_in (s0.2).toInt 0 30)) : zs_ok (sn_it (LX9_windowOf_9 σ x1) 5000 s0) (fun t => zs_in (t).toInt 0 1073741823) := by
  refine zs_it (I := fun s => (zs_in (s.1).toInt 0 1073741823 ∧ zs_in (s.2).toInt 0 30)) (m := fun s => 30 - s.2.toInt) (fun s hs => ?_) (fun s hs => ?_) (by exact h0)
  · have h1 := hs.2; unfold zs_in at h1
    omega
  · obtain ⟨b, eb, hb⟩ := zv_3 h_σ h_x1 hs.1 hs.2 (c := s.2.toInt) (Int.add_zero _).symm
    exact ⟨b, eb, zs_sumw hb (fun v w => ⟨⟨w.1.1, (zs_w w.1.2 (by decide))⟩, by have := w.2; omega⟩) (fun v w => w)⟩
-- BX9_windowOf_39
theorem zv_4 {σ0 : sn_S} {σ : sn_S} (h_σ : zs_V σ0 σ) {x2 : Int32} (h_x2 : zs_in x2.toInt 0 1073741823) : zs_ok (BX9_windowOf_39 σ x2) (fun r => zs_in (r).toInt 0 1073741823) := by
  unfold BX9_windowOf_39
  exact zs_some h_x2
-- fX9_windowOf
theorem zv_5 {σ0 : sn_S} {σ : sn_S} (h_σ : zs_V σ0 σ) {x1 : Int32} (h_x1 : zs_in x1.toInt 0 5) : zs_ok (fX9_windowOf σ x1) (fun r => zs_in (r).toInt 0 1073741823) := by
  unfold fX9_windowOf
  refine zs_bd_ (zv_1 h_σ h_x1 zlI_1) (fun t_1 pt_1 => ?_)
  refine zs_bd_ (zy_1 h_σ h_x1 (s0 := ((0 : Int32), t_1)) ⟨(zs_w zlI_0 (by decide)), (zs_w pt_1 (by decide))⟩) (fun t_3 pt_3 => ?_)
  obtain ⟨ret, er, hr⟩ := zv_4 h_σ pt_3
  refine ⟨ret, er, ?_⟩
  exact hr
-- fX9_ahead
theorem zv_6 {x1 : Int32} (h_x1 : zs_in x1.toInt 0 29) : zs_ok (fX9_ahead x1) (fun r => zs_in (r).toInt 0 536870911) := by
  unfold fX9_ahead
  exact zs_some (zs_subI 0 536870911 (zs_cases h_x1 (fun z => zs_in ((1 : Int32) <<< (z &&& 31)).toInt 1 536870912) (by decide +kernel)) zlI_1 (by decide))
-- fX9_of
theorem zv_7 {σ0 : sn_S} {σ : sn_S} (h_σ : zs_V σ0 σ) {x1 : Int32} (h_x1 : zs_in x1.toInt 0 5) {x2 : Int32} (h_x2 : zs_in x2.toInt 3 3) : zs_ok (fX9_of σ x1 x2) (fun r => zs_in (r).toInt 0 99) := by
  unfold fX9_of
  obtain rfl : x2 = (3 : Int32) := zs_eqv h_x2 (by decide)
  refine zs_gd (zs_gin (zs_addI 52 77 (zs_addI 49 74 zlI_49 (zs_mulI 0 25 zlI_5 h_x1 (by decide)) (by decide)) h_x2 (by decide)) (by decide)) ?_
  exact zs_some (zs_rdb (q := 1) (lo := 0) (hi := 99) h_σ.1 (zs_cases h_x1 (fun z => zs_bd (zs_tM 1 (((49 : Int32) + ((5 : Int32) * z)) + (3 : Int32)).toNatClampNeg) 0 99) (by decide +kernel)))
-- BX9_claimOf_177
theorem zv_8 {σ0 : sn_S} {σ : sn_S} (h_σ : zs_V σ0 σ) {x1 : Int32} (h_x1 : zs_in x1.toInt 0 5) {x2 : Int32} (h_x2 : zs_in x2.toInt 0 5) {x3 : Int32} (h_x3 : zs_in x3.toInt 0 0) {x4 : Int32} (h_x4 : zs_in x4.toInt 0 1073741823) {x5 : Int32} (h_x5 : zs_in x5.toInt 0 99) {x6 : Int32} (h_x6 : zs_in x6.toInt 1 3) {x7 : Int32} (h_x7 : zs_in x7.toInt 0 0) : zs_ok (BX9_claimOf_177 σ x1 x2 x3 x4 x5 x6 x7) (fun r => zs_sum (fun v => (zs_V σ0 v.1 ∧ (zs_in (v.2.1).toInt 0 1073741823 ∧ (zs_in (v.2.2.1).toInt 0 99 ∧ zs_in (v.2.2.2).toInt 1 1)))) (fun v => False) r) := by
  unfold BX9_claimOf_177
  obtain rfl : x3 = (0 : Int32) := zs_eqv h_x3 (by decide)
  obtain rfl : x7 = (0 : Int32) := zs_eqv h_x7 (by decide)
  refine zs_lt (Q := fun z => zs_in z.toInt 1 1) (zs_addI 1 1 h_x7 zlI_1 (by decide)) (fun y_1 hy_1 => ?_)
  exact zs_some (zs_inl (⟨h_σ, ⟨h_x4, ⟨h_x5, hy_1⟩⟩⟩))
-- BX9_claimOf_152
theorem zv_9 {σ0 : sn_S} {σ : sn_S} (h_σ : zs_V σ0 σ) {x1 : Int32} (h_x1 : zs_in x1.toInt 0 5) {x2 : Int32} (h_x2 : zs_in x2.toInt 0 5) {x3 : Int32} (h_x3 : zs_in x3.toInt 0 0) {x4 : Int32} (h_x4 : zs_in x4.toInt 0 1073741823) {x5 : Int32} (h_x5 : zs_in x5.toInt 0 0) {x6 : Int32} (h_x6 : zs_in x6.toInt 1 3) {x7 : Int32} (h_x7 : zs_in x7.toInt 0 0) {x8 : Int32} (h_x8 : zs_in x8.toInt 0 29) {t0 : Int32} (h_t0 : zs_in t0.toInt 0 99) : zs_ok (BX9_claimOf_152 σ x1 x2 x3 x4 x5 x6 x7 x8 t0) (fun r => zs_sum (fun v => (zs_V σ0 v.1 ∧ (zs_in (v.2.1).toInt 0 1073741823 ∧ (zs_in (v.2.2.1).toInt 0 99 ∧ zs_in (v.2.2.2).toInt 1 1)))) (fun v => False) r) := by
  unfold BX9_claimOf_152
  obtain rfl : x3 = (0 : Int32) := zs_eqv h_x3 (by decide)
  obtain rfl : x5 = (0 : Int32) := zs_eqv h_x5 (by decide)
  obtain rfl : x7 = (0 : Int32) := zs_eqv h_x7 (by decide)
  refine zs_lt (Q := fun z => zs_in z.toInt 0 99) (zs_addI 0 99 h_x5 h_t0 (by decide)) (fun y_1 hy_1 => ?_)
  refine zs_ite (fun c1 => ?_) (fun c1 => ?_)
  · skip
    have r2 := (zs_I_eq c1)
    obtain ⟨ret, er, hr⟩ := zv_8 h_σ h_x1 h_x2 h_x3 h_x4 hy_1 h_x6 h_x7
    refine ⟨ret, er, ?_⟩
    exact hr
  · skip
    have r3 := (zs_I_eqn c1)
    exact (zs_botne r3 h_x3 zlI_0 (by decide)).elim
-- BX9_claimOf_128
theorem zv_10 {σ0 : sn_S} {σ : sn_S} (h_σ : zs_V σ0 σ) {x1 : Int32} (h_x1 : zs_in x1.toInt 0 5) {x2 : Int32} (h_x2 : zs_in x2.toInt 0 5) {x3 : Int32} (h_x3 : zs_in x3.toInt 0 0) {x4 : Int32} (h_x4 : zs_in x4.toInt 0 1073741823) {x5 : Int32} (h_x5 : zs_in x5.toInt 0 0) {x6 : Int32} (h_x6 : zs_in x6.toInt 1 3) {x7 : Int32} (h_x7 : zs_in x7.toInt 0 0) {x8 : Int32} (h_x8 : zs_in x8.toInt 0 29) {t0 : Int32} (h_t0 : zs_in t0.toInt 0 0) : zs_ok (BX9_claimOf_128 σ x1 x2 x3 x4 x5 x6 x7 x8 t0) (fun r => zs_sum (fun v => (zs_V σ0 v.1 ∧ (zs_in (v.2.1).toInt 0 1073741823 ∧ (zs_in (v.2.2.1).toInt 0 99 ∧ zs_in (v.2.2.2).toInt 1 1)))) (fun v => False) r) := by
  unfold BX9_claimOf_128
  obtain rfl : x3 = (0 : Int32) := zs_eqv h_x3 (by decide)
  obtain rfl : x5 = (0 : Int32) := zs_eqv h_x5 (by decide)
  obtain rfl : x7 = (0 : Int32) := zs_eqv h_x7 (by decide)
  obtain rfl : t0 = (0 : Int32) := zs_eqv h_t0 (by decide)
  refine zs_ite (fun c1 => ?_) (fun c1 => ?_)
  · skip
    have r2 := (zs_I_eq c1)
    refine zs_bd_ (zv_7 h_σ h_x1 zlI_3) (fun t_2 pt_2 => ?_)
    obtain ⟨ret, er, hr⟩ := zv_9 h_σ h_x1 h_x2 h_x3 h_x4 h_x5 h_x6 h_x7 h_x8 pt_2
    refine ⟨ret, er, ?_⟩
    exact hr
  · skip
    have r3 := (zs_I_eqn c1)
    exact (zs_botne r3 h_t0 zlI_0 (by decide)).elim
-- BX9_claimOf_127
theorem zv_11 {σ0 : sn_S} {σ : sn_S} (h_σ : zs_V σ0 σ) {x1 : Int32} (h_x1 : zs_in x1.toInt 0 5) {x2 : Int32} (h_x2 : zs_in x2.toInt 0 5) {x3 : Int32} (h_x3 : zs_in x3.toInt 0 0) {x4 : Int32} (h_x4 : zs_in x4.toInt 0 1073741823) {x5 : Int32} (h_x5 : zs_in x5.toInt 0 0) {x6 : Int32} (h_x6 : zs_in x6.toInt 1 3) {x7 : Int32} (h_x7 : zs_in x7.toInt 0 0) {x8 : Int32} (h_x8 : zs_in x8.toInt 0 29) : zs_ok (BX9_claimOf_127 σ x1 x2 x3 x4 x5 x6 x7 x8) (fun r => zs_sum (fun v => (zs_V σ0 v.1 ∧ (zs_in (v.2.1).toInt 0 1073741823 ∧ (zs_in (v.2.2.1).toInt 0 99 ∧ zs_in (v.2.2.2).toInt 1 1)))) (fun v => False) r) := by
  unfold BX9_claimOf_127
  obtain rfl : x3 = (0 : Int32) := zs_eqv h_x3 (by decide)
  obtain rfl : x5 = (0 : Int32) := zs_eqv h_x5 (by decide)
  obtain rfl : x7 = (0 : Int32) := zs_eqv h_x7 (by decide)
  obtain ⟨ret, er, hr⟩ := zv_10 h_σ h_x1 h_x2 h_x3 h_x4 h_x5 h_x6 h_x7 h_x8 zlI_0
  refine ⟨ret, er, ?_⟩
  exact hr
-- BX9_claimOf_177
theorem zv_12 {σ0 : sn_S} {σ : sn_S} (h_σ : zs_V σ0 σ) {x1 : Int32} (h_x1 : zs_in x1.toInt 0 5) {x2 : Int32} (h_x2 : zs_in x2.toInt 0 5) {x3 : Int32} (h_x3 : zs_in x3.toInt 0 0) {x4 : Int32} (h_x4 : zs_in x4.toInt 0 1073741823) {x5 : Int32} (h_x5 : zs_in x5.toInt 0 49) {x6 : Int32} (h_x6 : zs_in x6.toInt 1 3) {x7 : Int32} (h_x7 : zs_in x7.toInt 0 0) : zs_ok (BX9_claimOf_177 σ x1 x2 x3 x4 x5 x6 x7) (fun r => zs_sum (fun v => (zs_V σ0 v.1 ∧ (zs_in (v.2.1).toInt 0 1073741823 ∧ (zs_in (v.2.2.1).toInt 0 49 ∧ zs_in (v.2.2.2).toInt 1 1)))) (fun v => False) r) := by
  unfold BX9_claimOf_177
  obtain rfl : x3 = (0 : Int32) := zs_eqv h_x3 (by decide)
  obtain rfl : x7 = (0 : Int32) := zs_eqv h_x7 (by decide)
  refine zs_lt (Q := fun z => zs_in z.toInt 1 1) (zs_addI 1 1 h_x7 zlI_1 (by decide)) (fun y_1 hy_1 => ?_)
  exact zs_some (zs_inl (⟨h_σ, ⟨h_x4, ⟨h_x5, hy_1⟩⟩⟩))
-- BX9_claimOf_152
theorem zv_13 {σ0 : sn_S} {σ : sn_S} (h_σ : zs_V σ0 σ) {x1 : Int32} (h_x1 : zs_in x1.toInt 0 5) {x2 : Int32} (h_x2 : zs_in x2.toInt 0 5) {x3 : Int32} (h_x3 : zs_in x3.toInt 0 0) {x4 : Int32} (h_x4 : zs_in x4.toInt 0 1073741823) {x5 : Int32} (h_x5 : zs_in x5.toInt 0 0) {x6 : Int32} (h_x6 : zs_in x6.toInt 1 3) {x7 : Int32} (h_x7 : zs_in x7.toInt 0 0) {x8 : Int32} (h_x8 : zs_in x8.toInt 0 29) {t0 : Int32} (h_t0 : zs_in t0.toInt 0 49) : zs_ok (BX9_claimOf_152 σ x1 x2 x3 x4 x5 x6 x7 x8 t0) (fun r => zs_sum (fun v => (zs_V σ0 v.1 ∧ (zs_in (v.2.1).toInt 0 1073741823 ∧ (zs_in (v.2.2.1).toInt 0 49 ∧ zs_in (v.2.2.2).toInt 1 1)))) (fun v => False) r) := by
  unfold BX9_claimOf_152
  obtain rfl : x3 = (0 : Int32) := zs_eqv h_x3 (by decide)
  obtain rfl : x5 = (0 : Int32) := zs_eqv h_x5 (by decide)
  obtain rfl : x7 = (0 : Int32) := zs_eqv h_x7 (by decide)
  refine zs_lt (Q := fun z => zs_in z.toInt 0 49) (zs_addI 0 49 h_x5 h_t0 (by decide)) (fun y_1 hy_1 => ?_)
  refine zs_ite (fun c1 => ?_) (fun c1 => ?_)
  · skip
    have r2 := (zs_I_eq c1)
    obtain ⟨ret, er, hr⟩ := zv_12 h_σ h_x1 h_x2 h_x3 h_x4 hy_1 h_x6 h_x7
    refine ⟨ret, er, ?_⟩
    exact hr
  · skip
    have r3 := (zs_I_eqn c1)
    exact (zs_botne r3 h_x3 zlI_0 (by decide)).elim
-- BX9_claimOf_128
theorem zv_14 {σ0 : sn_S} {σ : sn_S} (h_σ : zs_V σ0 σ) {x1 : Int32} (h_x1 : zs_in x1.toInt 0 5) {x2 : Int32} (h_x2 : zs_in x2.toInt 0 5) {x3 : Int32} (h_x3 : zs_in x3.toInt 0 0) {x4 : Int32} (h_x4 : zs_in x4.toInt 0 1073741823) {x5 : Int32} (h_x5 : zs_in x5.toInt 0 0) {x6 : Int32} (h_x6 : zs_in x6.toInt 1 3) {x7 : Int32} (h_x7 : zs_in x7.toInt 0 0) {x8 : Int32} (h_x8 : zs_in x8.toInt 0 29) {t0 : Int32} (h_t0 : zs_in t0.toInt 1 1) : zs_ok (BX9_claimOf_128 σ x1 x2 x3 x4 x5 x6 x7 x8 t0) (fun r => zs_sum (fun v => (zs_V σ0 v.1 ∧ (zs_in (v.2.1).toInt 0 1073741823 ∧ (zs_in (v.2.2.1).toInt 0 49 ∧ zs_in (v.2.2.2).toInt 1 1)))) (fun v => False) r) := by
  unfold BX9_claimOf_128
  obtain rfl : x3 = (0 : Int32) := zs_eqv h_x3 (by decide)
  obtain rfl : x5 = (0 : Int32) := zs_eqv h_x5 (by decide)
  obtain rfl : x7 = (0 : Int32) := zs_eqv h_x7 (by decide)
  obtain rfl : t0 = (1 : Int32) := zs_eqv h_t0 (by decide)
  refine zs_ite (fun c1 => ?_) (fun c1 => ?_)
  · skip
    have r2 := (zs_I_eq c1)
    exact (zs_botr r2 h_t0 zlI_0 (by decide)).elim
  · skip
    have r3 := (zs_I_eqn c1)
    refine zs_bd_ (zv_7 h_σ h_x1 zlI_3) (fun t_4 pt_4 => ?_)
    obtain ⟨ret, er, hr⟩ := zv_13 h_σ h_x1 h_x2 h_x3 h_x4 h_x5 h_x6 h_x7 h_x8 (zs_divI 0 49 pt_4 zlI_2 (by decide))
    refine ⟨ret, er, ?_⟩
    exact hr
-- BX9_claimOf_63
theorem zv_15 {σ0 : sn_S} {σ : sn_S} (h_σ : zs_V σ0 σ) {x1 : Int32} (h_x1 : zs_in x1.toInt 0 5) {x2 : Int32} (h_x2 : zs_in x2.toInt 0 5) {x3 : Int32} (h_x3 : zs_in x3.toInt 0 0) {x4 : Int32} (h_x4 : zs_in x4.toInt 0 1073741823) {x5 : Int32} (h_x5 : zs_in x5.toInt 0 0) {x6 : Int32} (h_x6 : zs_in x6.toInt 1 3) {x7 : Int32} (h_x7 : zs_in x7.toInt 0 0) : zs_ok (BX9_claimOf_63 σ x1 x2 x3 x4 x5 x6 x7) (fun r => zs_sum (fun v => (zs_V σ0 v.1 ∧ (zs_in (v.2.1).toInt 0 1073741823 ∧ (zs_in (v.2.2.1).toInt 0 99 ∧ zs_in (v.2.2.2).toInt 1 1)))) (fun v => (zs_V σ0 v.1 ∧ zs_in (v.2).toInt 0 0)) r) := by
  unfold BX9_claimOf_63
  obtain rfl : x3 = (0 : Int32) := zs_eqv h_x3 (by decide)
  obtain rfl : x5 = (0 : Int32) := zs_eqv h_x5 (by decide)
  obtain rfl : x7 = (0 : Int32) := zs_eqv h_x7 (by decide)
  refine zs_ite (fun c1 => ?_) (fun c1 => ?_)
  · skip
    have r2 := (zs_I_le c1)
    exact (zs_botle r2 h_x6 h_x7 (by decide)).elim
  · skip
    have r3 := (zs_I_len c1)
    refine zs_ite (fun c4 => ?_) (fun c4 => ?_)
    · skip
      have r5 := (zs_I_eq c4)
      have g6 : zs_in (x4).toInt 0 0 := (zs_eql 0 0 r5 h_x4 zlI_0 (by decide))
      exact zs_some (zs_inr (⟨h_σ, h_x5⟩))
    · skip
      have r7 := (zs_I_eqn c4)
      have g8 : zs_in (x4).toInt 1 1073741823 := (zs_nel 1 1073741823 r7 h_x4 zlI_0 (by decide))
      refine zs_bd_ (zo_fo1 (by decide) g8) (fun t_3 pt_3 => ?_)
      refine zs_lt (Q := fun z => zs_in z.toInt 0 1073741823) (zs_and2 g8 (by decide)) (fun y_5 hy_5 => ?_)
      refine zs_ite (fun c9 => ?_) (fun c9 => ?_)
      · skip
        have r10 := (zs_I_eq c9)
        have g11 : zs_in ((sn_I σ 0 20)).toInt 3 3 := (zs_eql 3 3 r10 (zs_topI _) zlI_3 (by decide))
        refine zs_gd (zs_gin h_x2 (by decide)) ?_
        refine zs_bd_ (zv_5 h_σ h_x1) (fun t_9 pt_9 => ?_)
        refine zs_bd_ (zv_6 pt_3) (fun t_11 pt_11 => ?_)
        refine zs_ite (fun c12 => ?_) (fun c12 => ?_)
        · skip
          have r13 := (zs_I_eq c12)
          have g14 : zs_in ((((sn_I σ 8 x2.toNatClampNeg) &&& t_9) &&& t_11)).toInt 0 0 := (zs_eql 0 0 r13 (zs_and pt_11 (by decide)) zlI_0 (by decide))
          obtain ⟨ret, er, hr⟩ := zv_11 h_σ h_x1 h_x2 h_x3 hy_5 h_x5 h_x6 h_x7 pt_3
          refine ⟨ret, er, ?_⟩
          exact (zs_sumw hr (fun v w => w) (fun v w => w.elim))
        · skip
          have r15 := (zs_I_eqn c12)
          have g16 : zs_in ((((sn_I σ 8 x2.toNatClampNeg) &&& t_9) &&& t_11)).toInt 1 536870911 := (zs_nel 1 536870911 r15 (zs_and pt_11 (by decide)) zlI_0 (by decide))
          obtain ⟨ret, er, hr⟩ := zv_14 h_σ h_x1 h_x2 h_x3 hy_5 h_x5 h_x6 h_x7 pt_3 zlI_1
          refine ⟨ret, er, ?_⟩
          exact (zs_sumw hr (fun v w => ⟨w.1, ⟨w.2.1, ⟨(zs_w w.2.2.1 (by decide)), w.2.2.2⟩⟩⟩) (fun v w => w.elim))
      · skip
        have r17 := (zs_I_eqn c9)
        obtain ⟨ret, er, hr⟩ := zv_11 h_σ h_x1 h_x2 h_x3 hy_5 h_x5 h_x6 h_x7 pt_3
        refine ⟨ret, er, ?_⟩
        exact (zs_sumw hr (fun v w => w) (fun v w => w.elim))
-- BX9_claimOf_177
theorem zv_16 {σ0 : sn_S} {σ : sn_S} (h_σ : zs_V σ0 σ) {x1 : Int32} (h_x1 : zs_in x1.toInt 0 5) {x2 : Int32} (h_x2 : zs_in x2.toInt 0 5) {x3 : Int32} (h_x3 : zs_in x3.toInt 0 0) {x4 : Int32} (h_x4 : zs_in x4.toInt 0 1073741823) {x5 : Int32} (h_x5 : zs_in x5.toInt 0 198) {x6 : Int32} (h_x6 : zs_in x6.toInt 2 3) {x7 : Int32} (h_x7 : zs_in x7.toInt 1 1) : zs_ok (BX9_claimOf_177 σ x1 x2 x3 x4 x5 x6 x7) (fun r => zs_sum (fun v => (zs_V σ0 v.1 ∧ (zs_in (v.2.1).toInt 0 1073741823 ∧ (zs_in (v.2.2.1).toInt 0 198 ∧ zs_in (v.2.2.2).toInt 2 2)))) (fun v => False) r) := by
  unfold BX9_claimOf_177
  obtain rfl : x3 = (0 : Int32) := zs_eqv h_x3 (by decide)
  obtain rfl : x7 = (1 : Int32) := zs_eqv h_x7 (by decide)
  refine zs_lt (Q := fun z => zs_in z.toInt 2 2) (zs_addI 2 2 h_x7 zlI_1 (by decide)) (fun y_1 hy_1 => ?_)
  exact zs_some (zs_inl (⟨h_σ, ⟨h_x4, ⟨h_x5, hy_1⟩⟩⟩))
-- BX9_claimOf_152
theorem zv_17 {σ0 : sn_S} {σ : sn_S} (h_σ : zs_V σ0 σ) {x1 : Int32} (h_x1 : zs_in x1.toInt 0 5) {x2 : Int32} (h_x2 : zs_in x2.toInt 0 5) {x3 : Int32} (h_x3 : zs_in x3.toInt 0 0) {x4 : Int32} (h_x4 : zs_in x4.toInt 0 1073741823) {x5 : Int32} (h_x5 : zs_in x5.toInt 0 99) {x6 : Int32} (h_x6 : zs_in x6.toInt 2 3) {x7 : Int32} (h_x7 : zs_in x7.toInt 1 1) {x8 : Int32} (h_x8 : zs_in x8.toInt 0 29) {t0 : Int32} (h_t0 : zs_in t0.toInt 0 99) : zs_ok (BX9_claimOf_152 σ x1 x2 x3 x4 x5 x6 x7 x8 t0) (fun r => zs_sum (fun v => (zs_V σ0 v.1 ∧ (zs_in (v.2.1).toInt 0 1073741823 ∧ (zs_in (v.2.2.1).toInt 0 198 ∧ zs_in (v.2.2.2).toInt 2 2)))) (fun v => False) r) := by
  unfold BX9_claimOf_152
  obtain rfl : x3 = (0 : Int32) := zs_eqv h_x3 (by decide)
  obtain rfl : x7 = (1 : Int32) := zs_eqv h_x7 (by decide)
  refine zs_lt (Q := fun z => zs_in z.toInt 0 198) (zs_addI 0 198 h_x5 h_t0 (by decide)) (fun y_1 hy_1 => ?_)
  refine zs_ite (fun c1 => ?_) (fun c1 => ?_)
  · skip
    have r2 := (zs_I_eq c1)
    obtain ⟨ret, er, hr⟩ := zv_16 h_σ h_x1 h_x2 h_x3 h_x4 hy_1 h_x6 h_x7
    refine ⟨ret, er, ?_⟩
    exact hr
  · skip
    have r3 := (zs_I_eqn c1)
    exact (zs_botne r3 h_x3 zlI_0 (by decide)).elim
-- BX9_claimOf_128
theorem zv_18 {σ0 : sn_S} {σ : sn_S} (h_σ : zs_V σ0 σ) {x1 : Int32} (h_x1 : zs_in x1.toInt 0 5) {x2 : Int32} (h_x2 : zs_in x2.toInt 0 5) {x3 : Int32} (h_x3 : zs_in x3.toInt 0 0) {x4 : Int32} (h_x4 : zs_in x4.toInt 0 1073741823) {x5 : Int32} (h_x5 : zs_in x5.toInt 0 99) {x6 : Int32} (h_x6 : zs_in x6.toInt 2 3) {x7 : Int32} (h_x7 : zs_in x7.toInt 1 1) {x8 : Int32} (h_x8 : zs_in x8.toInt 0 29) {t0 : Int32} (h_t0 : zs_in t0.toInt 0 0) : zs_ok (BX9_claimOf_128 σ x1 x2 x3 x4 x5 x6 x7 x8 t0) (fun r => zs_sum (fun v => (zs_V σ0 v.1 ∧ (zs_in (v.2.1).toInt 0 1073741823 ∧ (zs_in (v.2.2.1).toInt 0 198 ∧ zs_in (v.2.2.2).toInt 2 2)))) (fun v => False) r) := by
  unfold BX9_claimOf_128
  obtain rfl : x3 = (0 : Int32) := zs_eqv h_x3 (by decide)
  obtain rfl : x7 = (1 : Int32) := zs_eqv h_x7 (by decide)
  obtain rfl : t0 = (0 : Int32) := zs_eqv h_t0 (by decide)
  refine zs_ite (fun c1 => ?_) (fun c1 => ?_)
  · skip
    have r2 := (zs_I_eq c1)
    refine zs_bd_ (zv_7 h_σ h_x1 zlI_3) (fun t_2 pt_2 => ?_)
    obtain ⟨ret, er, hr⟩ := zv_17 h_σ h_x1 h_x2 h_x3 h_x4 h_x5 h_x6 h_x7 h_x8 pt_2
    refine ⟨ret, er, ?_⟩
    exact hr
  · skip
    have r3 := (zs_I_eqn c1)
    exact (zs_botne r3 h_t0 zlI_0 (by decide)).elim
-- BX9_claimOf_127
theorem zv_19 {σ0 : sn_S} {σ : sn_S} (h_σ : zs_V σ0 σ) {x1 : Int32} (h_x1 : zs_in x1.toInt 0 5) {x2 : Int32} (h_x2 : zs_in x2.toInt 0 5) {x3 : Int32} (h_x3 : zs_in x3.toInt 0 0) {x4 : Int32} (h_x4 : zs_in x4.toInt 0 1073741823) {x5 : Int32} (h_x5 : zs_in x5.toInt 0 99) {x6 : Int32} (h_x6 : zs_in x6.toInt 2 3) {x7 : Int32} (h_x7 : zs_in x7.toInt 1 1) {x8 : Int32} (h_x8 : zs_in x8.toInt 0 29) : zs_ok (BX9_claimOf_127 σ x1 x2 x3 x4 x5 x6 x7 x8) (fun r => zs_sum (fun v => (zs_V σ0 v.1 ∧ (zs_in (v.2.1).toInt 0 1073741823 ∧ (zs_in (v.2.2.1).toInt 0 198 ∧ zs_in (v.2.2.2).toInt 2 2)))) (fun v => False) r) := by
  unfold BX9_claimOf_127
  obtain rfl : x3 = (0 : Int32) := zs_eqv h_x3 (by decide)
  obtain rfl : x7 = (1 : Int32) := zs_eqv h_x7 (by decide)
  obtain ⟨ret, er, hr⟩ := zv_18 h_σ h_x1 h_x2 h_x3 h_x4 h_x5 h_x6 h_x7 h_x8 zlI_0
  refine ⟨ret, er, ?_⟩
  exact hr
-- BX9_claimOf_177
theorem zv_20 {σ0 : sn_S} {σ : sn_S} (h_σ : zs_V σ0 σ) {x1 : Int32} (h_x1 : zs_in x1.toInt 0 5) {x2 : Int32} (h_x2 : zs_in x2.toInt 0 5) {x3 : Int32} (h_x3 : zs_in x3.toInt 0 0) {x4 : Int32} (h_x4 : zs_in x4.toInt 0 1073741823) {x5 : Int32} (h_x5 : zs_in x5.toInt 0 148) {x6 : Int32} (h_x6 : zs_in x6.toInt 2 3) {x7 : Int32} (h_x7 : zs_in x7.toInt 1 1) : zs_ok (BX9_claimOf_177 σ x1 x2 x3 x4 x5 x6 x7) (fun r => zs_sum (fun v => (zs_V σ0 v.1 ∧ (zs_in (v.2.1).toInt 0 1073741823 ∧ (zs_in (v.2.2.1).toInt 0 148 ∧ zs_in (v.2.2.2).toInt 2 2)))) (fun v => False) r) := by
  unfold BX9_claimOf_177
  obtain rfl : x3 = (0 : Int32) := zs_eqv h_x3 (by decide)
  obtain rfl : x7 = (1 : Int32) := zs_eqv h_x7 (by decide)
  refine zs_lt (Q := fun z => zs_in z.toInt 2 2) (zs_addI 2 2 h_x7 zlI_1 (by decide)) (fun y_1 hy_1 => ?_)
  exact zs_some (zs_inl (⟨h_σ, ⟨h_x4, ⟨h_x5, hy_1⟩⟩⟩))
-- BX9_claimOf_152
theorem zv_21 {σ0 : sn_S} {σ : sn_S} (h_σ : zs_V σ0 σ) {x1 : Int32} (h_x1 : zs_in x1.toInt 0 5) {x2 : Int32} (h_x2 : zs_in x2.toInt 0 5) {x3 : Int32} (h_x3 : zs_in x3.toInt 0 0) {x4 : Int32} (h_x4 : zs_in x4.toInt 0 1073741823) {x5 : Int32} (h_x5 : zs_in x5.toInt 0 99) {x6 : Int32} (h_x6 : zs_in x6.toInt 2 3) {x7 : Int32} (h_x7 : zs_in x7.toInt 1 1) {x8 : Int32} (h_x8 : zs_in x8.toInt 0 29) {t0 : Int32} (h_t0 : zs_in t0.toInt 0 49) : zs_ok (BX9_claimOf_152 σ x1 x2 x3 x4 x5 x6 x7 x8 t0) (fun r => zs_sum (fun v => (zs_V σ0 v.1 ∧ (zs_in (v.2.1).toInt 0 1073741823 ∧ (zs_in (v.2.2.1).toInt 0 148 ∧ zs_in (v.2.2.2).toInt 2 2)))) (fun v => False) r) := by
  unfold BX9_claimOf_152
  obtain rfl : x3 = (0 : Int32) := zs_eqv h_x3 (by decide)
  obtain rfl : x7 = (1 : Int32) := zs_eqv h_x7 (by decide)
  refine zs_lt (Q := fun z => zs_in z.toInt 0 148) (zs_addI 0 148 h_x5 h_t0 (by decide)) (fun y_1 hy_1 => ?_)
  refine zs_ite (fun c1 => ?_) (fun c1 => ?_)
  · skip
    have r2 := (zs_I_eq c1)
    obtain ⟨ret, er, hr⟩ := zv_20 h_σ h_x1 h_x2 h_x3 h_x4 hy_1 h_x6 h_x7
    refine ⟨ret, er, ?_⟩
    exact hr
  · skip
    have r3 := (zs_I_eqn c1)
    exact (zs_botne r3 h_x3 zlI_0 (by decide)).elim
-- BX9_claimOf_128
theorem zv_22 {σ0 : sn_S} {σ : sn_S} (h_σ : zs_V σ0 σ) {x1 : Int32} (h_x1 : zs_in x1.toInt 0 5) {x2 : Int32} (h_x2 : zs_in x2.toInt 0 5) {x3 : Int32} (h_x3 : zs_in x3.toInt 0 0) {x4 : Int32} (h_x4 : zs_in x4.toInt 0 1073741823) {x5 : Int32} (h_x5 : zs_in x5.toInt 0 99) {x6 : Int32} (h_x6 : zs_in x6.toInt 2 3) {x7 : Int32} (h_x7 : zs_in x7.toInt 1 1) {x8 : Int32} (h_x8 : zs_in x8.toInt 0 29) {t0 : Int32} (h_t0 : zs_in t0.toInt 1 1) : zs_ok (BX9_claimOf_128 σ x1 x2 x3 x4 x5 x6 x7 x8 t0) (fun r => zs_sum (fun v => (zs_V σ0 v.1 ∧ (zs_in (v.2.1).toInt 0 1073741823 ∧ (zs_in (v.2.2.1).toInt 0 148 ∧ zs_in (v.2.2.2).toInt 2 2)))) (fun v => False) r) := by
  unfold BX9_claimOf_128
  obtain rfl : x3 = (0 : Int32) := zs_eqv h_x3 (by decide)
  obtain rfl : x7 = (1 : Int32) := zs_eqv h_x7 (by decide)
  obtain rfl : t0 = (1 : Int32) := zs_eqv h_t0 (by decide)
  refine zs_ite (fun c1 => ?_) (fun c1 => ?_)
  · skip
    have r2 := (zs_I_eq c1)
    exact (zs_botr r2 h_t0 zlI_0 (by decide)).elim
  · skip
    have r3 := (zs_I_eqn c1)
    refine zs_bd_ (zv_7 h_σ h_x1 zlI_3) (fun t_4 pt_4 => ?_)
    obtain ⟨ret, er, hr⟩ := zv_21 h_σ h_x1 h_x2 h_x3 h_x4 h_x5 h_x6 h_x7 h_x8 (zs_divI 0 49 pt_4 zlI_2 (by decide))
    refine ⟨ret, er, ?_⟩
    exact hr
-- BX9_claimOf_63
theorem zv_23 {σ0 : sn_S} {σ : sn_S} (h_σ : zs_V σ0 σ) {x1 : Int32} (h_x1 : zs_in x1.toInt 0 5) {x2 : Int32} (h_x2 : zs_in x2.toInt 0 5) {x3 : Int32} (h_x3 : zs_in x3.toInt 0 0) {x4 : Int32} (h_x4 : zs_in x4.toInt 0 1073741823) {x5 : Int32} (h_x5 : zs_in x5.toInt 0 99) {x6 : Int32} (h_x6 : zs_in x6.toInt 1 3) {x7 : Int32} (h_x7 : zs_in x7.toInt 1 1) : zs_ok (BX9_claimOf_63 σ x1 x2 x3 x4 x5 x6 x7) (fun r => zs_sum (fun v => (zs_V σ0 v.1 ∧ (zs_in (v.2.1).toInt 0 1073741823 ∧ (zs_in (v.2.2.1).toInt 0 198 ∧ zs_in (v.2.2.2).toInt 2 2)))) (fun v => (zs_V σ0 v.1 ∧ zs_in (v.2).toInt 0 99)) r) := by
  unfold BX9_claimOf_63
  obtain rfl : x3 = (0 : Int32) := zs_eqv h_x3 (by decide)
  obtain rfl : x7 = (1 : Int32) := zs_eqv h_x7 (by decide)
  refine zs_ite (fun c1 => ?_) (fun c1 => ?_)
  · skip
    have r2 := (zs_I_le c1)
    have g3 : zs_in (x6).toInt 1 1 := (zs_lel 1 1 r2 h_x6 h_x7 (by decide))
    exact zs_some (zs_inr (⟨h_σ, h_x5⟩))
  · skip
    have r4 := (zs_I_len c1)
    have g5 : zs_in (x6).toInt 2 3 := (zs_ltr 2 3 r4 h_x7 h_x6 (by decide))
    refine zs_ite (fun c6 => ?_) (fun c6 => ?_)
    · skip
      have r7 := (zs_I_eq c6)
      have g8 : zs_in (x4).toInt 0 0 := (zs_eql 0 0 r7 h_x4 zlI_0 (by decide))
      exact zs_some (zs_inr (⟨h_σ, h_x5⟩))
    · skip
      have r9 := (zs_I_eqn c6)
      have g10 : zs_in (x4).toInt 1 1073741823 := (zs_nel 1 1073741823 r9 h_x4 zlI_0 (by decide))
      refine zs_bd_ (zo_fo1 (by decide) g10) (fun t_3 pt_3 => ?_)
      refine zs_lt (Q := fun z => zs_in z.toInt 0 1073741823) (zs_and2 g10 (by decide)) (fun y_5 hy_5 => ?_)
      refine zs_ite (fun c11 => ?_) (fun c11 => ?_)
      · skip
        have r12 := (zs_I_eq c11)
        have g13 : zs_in ((sn_I σ 0 20)).toInt 3 3 := (zs_eql 3 3 r12 (zs_topI _) zlI_3 (by decide))
        refine zs_gd (zs_gin h_x2 (by decide)) ?_
        refine zs_bd_ (zv_5 h_σ h_x1) (fun t_9 pt_9 => ?_)
        refine zs_bd_ (zv_6 pt_3) (fun t_11 pt_11 => ?_)
        refine zs_ite (fun c14 => ?_) (fun c14 => ?_)
        · skip
          have r15 := (zs_I_eq c14)
          have g16 : zs_in ((((sn_I σ 8 x2.toNatClampNeg) &&& t_9) &&& t_11)).toInt 0 0 := (zs_eql 0 0 r15 (zs_and pt_11 (by decide)) zlI_0 (by decide))
          obtain ⟨ret, er, hr⟩ := zv_19 h_σ h_x1 h_x2 h_x3 hy_5 h_x5 g5 h_x7 pt_3
          refine ⟨ret, er, ?_⟩
          exact (zs_sumw hr (fun v w => w) (fun v w => w.elim))
        · skip
          have r17 := (zs_I_eqn c14)
          have g18 : zs_in ((((sn_I σ 8 x2.toNatClampNeg) &&& t_9) &&& t_11)).toInt 1 536870911 := (zs_nel 1 536870911 r17 (zs_and pt_11 (by decide)) zlI_0 (by decide))
          obtain ⟨ret, er, hr⟩ := zv_22 h_σ h_x1 h_x2 h_x3 hy_5 h_x5 g5 h_x7 pt_3 zlI_1
          refine ⟨ret, er, ?_⟩
          exact (zs_sumw hr (fun v w => ⟨w.1, ⟨w.2.1, ⟨(zs_w w.2.2.1 (by decide)), w.2.2.2⟩⟩⟩) (fun v w => w.elim))
      · skip
        have r19 := (zs_I_eqn c11)
        obtain ⟨ret, er, hr⟩ := zv_19 h_σ h_x1 h_x2 h_x3 hy_5 h_x5 g5 h_x7 pt_3
        refine ⟨ret, er, ?_⟩
        exact (zs_sumw hr (fun v w => w) (fun v w => w.elim))
-- BX9_claimOf_177
theorem zv_24 {σ0 : sn_S} {σ : sn_S} (h_σ : zs_V σ0 σ) {x1 : Int32} (h_x1 : zs_in x1.toInt 0 5) {x2 : Int32} (h_x2 : zs_in x2.toInt 0 5) {x3 : Int32} (h_x3 : zs_in x3.toInt 0 0) {x4 : Int32} (h_x4 : zs_in x4.toInt 0 1073741823) {x5 : Int32} (h_x5 : zs_in x5.toInt 0 297) {x6 : Int32} (h_x6 : zs_in x6.toInt 3 3) {x7 : Int32} (h_x7 : zs_in x7.toInt 2 2) : zs_ok (BX9_claimOf_177 σ x1 x2 x3 x4 x5 x6 x7) (fun r => zs_sum (fun v => (zs_V σ0 v.1 ∧ (zs_in (v.2.1).toInt 0 1073741823 ∧ (zs_in (v.2.2.1).toInt 0 297 ∧ zs_in (v.2.2.2).toInt 3 3)))) (fun v => False) r) := by
  unfold BX9_claimOf_177
  obtain rfl : x3 = (0 : Int32) := zs_eqv h_x3 (by decide)
  obtain rfl : x6 = (3 : Int32) := zs_eqv h_x6 (by decide)
  obtain rfl : x7 = (2 : Int32) := zs_eqv h_x7 (by decide)
  refine zs_lt (Q := fun z => zs_in z.toInt 3 3) (zs_addI 3 3 h_x7 zlI_1 (by decide)) (fun y_1 hy_1 => ?_)
  exact zs_some (zs_inl (⟨h_σ, ⟨h_x4, ⟨h_x5, hy_1⟩⟩⟩))
-- BX9_claimOf_152
theorem zv_25 {σ0 : sn_S} {σ : sn_S} (h_σ : zs_V σ0 σ) {x1 : Int32} (h_x1 : zs_in x1.toInt 0 5) {x2 : Int32} (h_x2 : zs_in x2.toInt 0 5) {x3 : Int32} (h_x3 : zs_in x3.toInt 0 0) {x4 : Int32} (h_x4 : zs_in x4.toInt 0 1073741823) {x5 : Int32} (h_x5 : zs_in x5.toInt 0 198) {x6 : Int32} (h_x6 : zs_in x6.toInt 3 3) {x7 : Int32} (h_x7 : zs_in x7.toInt 2 2) {x8 : Int32} (h_x8 : zs_in x8.toInt 0 29) {t0 : Int32} (h_t0 : zs_in t0.toInt 0 99) : zs_ok (BX9_claimOf_152 σ x1 x2 x3 x4 x5 x6 x7 x8 t0) (fun r => zs_sum (fun v => (zs_V σ0 v.1 ∧ (zs_in (v.2.1).toInt 0 1073741823 ∧ (zs_in (v.2.2.1).toInt 0 297 ∧ zs_in (v.2.2.2).toInt 3 3)))) (fun v => False) r) := by
  unfold BX9_claimOf_152
  obtain rfl : x3 = (0 : Int32) := zs_eqv h_x3 (by decide)
  obtain rfl : x6 = (3 : Int32) := zs_eqv h_x6 (by decide)
  obtain rfl : x7 = (2 : Int32) := zs_eqv h_x7 (by decide)
  refine zs_lt (Q := fun z => zs_in z.toInt 0 297) (zs_addI 0 297 h_x5 h_t0 (by decide)) (fun y_1 hy_1 => ?_)
  refine zs_ite (fun c1 => ?_) (fun c1 => ?_)
  · skip
    have r2 := (zs_I_eq c1)
    obtain ⟨ret, er, hr⟩ := zv_24 h_σ h_x1 h_x2 h_x3 h_x4 hy_1 h_x6 h_x7
    refine ⟨ret, er, ?_⟩
    exact hr
  · skip
    have r3 := (zs_I_eqn c1)
    exact (zs_botne r3 h_x3 zlI_0 (by decide)).elim
-- BX9_claimOf_128
theorem zv_26 {σ0 : sn_S} {σ : sn_S} (h_σ : zs_V σ0 σ) {x1 : Int32} (h_x1 : zs_in x1.toInt 0 5) {x2 : Int32} (h_x2 : zs_in x2.toInt 0 5) {x3 : Int32} (h_x3 : zs_in x3.toInt 0 0) {x4 : Int32} (h_x4 : zs_in x4.toInt 0 1073741823) {x5 : Int32} (h_x5 : zs_in x5.toInt 0 198) {x6 : Int32} (h_x6 : zs_in x6.toInt 3 3) {x7 : Int32} (h_x7 : zs_in x7.toInt 2 2) {x8 : Int32} (h_x8 : zs_in x8.toInt 0 29) {t0 : Int32} (h_t0 : zs_in t0.toInt 0 0) : zs_ok (BX9_claimOf_128 σ x1 x2 x3 x4 x5 x6 x7 x8 t0) (fun r => zs_sum (fun v => (zs_V σ0 v.1 ∧ (zs_in (v.2.1).toInt 0 1073741823 ∧ (zs_in (v.2.2.1).toInt 0 297 ∧ zs_in (v.2.2.2).toInt 3 3)))) (fun v => False) r) := by
  unfold BX9_claimOf_128
  obtain rfl : x3 = (0 : Int32) := zs_eqv h_x3 (by decide)
  obtain rfl : x6 = (3 : Int32) := zs_eqv h_x6 (by decide)
  obtain rfl : x7 = (2 : Int32) := zs_eqv h_x7 (by decide)
  obtain rfl : t0 = (0 : Int32) := zs_eqv h_t0 (by decide)
  refine zs_ite (fun c1 => ?_) (fun c1 => ?_)
  · skip
    have r2 := (zs_I_eq c1)
    refine zs_bd_ (zv_7 h_σ h_x1 zlI_3) (fun t_2 pt_2 => ?_)
    obtain ⟨ret, er, hr⟩ := zv_25 h_σ h_x1 h_x2 h_x3 h_x4 h_x5 h_x6 h_x7 h_x8 pt_2
    refine ⟨ret, er, ?_⟩
    exact hr
  · skip
    have r3 := (zs_I_eqn c1)
    exact (zs_botne r3 h_t0 zlI_0 (by decide)).elim
-- BX9_claimOf_127
theorem zv_27 {σ0 : sn_S} {σ : sn_S} (h_σ : zs_V σ0 σ) {x1 : Int32} (h_x1 : zs_in x1.toInt 0 5) {x2 : Int32} (h_x2 : zs_in x2.toInt 0 5) {x3 : Int32} (h_x3 : zs_in x3.toInt 0 0) {x4 : Int32} (h_x4 : zs_in x4.toInt 0 1073741823) {x5 : Int32} (h_x5 : zs_in x5.toInt 0 198) {x6 : Int32} (h_x6 : zs_in x6.toInt 3 3) {x7 : Int32} (h_x7 : zs_in x7.toInt 2 2) {x8 : Int32} (h_x8 : zs_in x8.toInt 0 29) : zs_ok (BX9_claimOf_127 σ x1 x2 x3 x4 x5 x6 x7 x8) (fun r => zs_sum (fun v => (zs_V σ0 v.1 ∧ (zs_in (v.2.1).toInt 0 1073741823 ∧ (zs_in (v.2.2.1).toInt 0 297 ∧ zs_in (v.2.2.2).toInt 3 3)))) (fun v => False) r) := by
  unfold BX9_claimOf_127
  obtain rfl : x3 = (0 : Int32) := zs_eqv h_x3 (by decide)
  obtain rfl : x6 = (3 : Int32) := zs_eqv h_x6 (by decide)
  obtain rfl : x7 = (2 : Int32) := zs_eqv h_x7 (by decide)
  obtain ⟨ret, er, hr⟩ := zv_26 h_σ h_x1 h_x2 h_x3 h_x4 h_x5 h_x6 h_x7 h_x8 zlI_0
  refine ⟨ret, er, ?_⟩
  exact hr
-- BX9_claimOf_177
theorem zv_28 {σ0 : sn_S} {σ : sn_S} (h_σ : zs_V σ0 σ) {x1 : Int32} (h_x1 : zs_in x1.toInt 0 5) {x2 : Int32} (h_x2 : zs_in x2.toInt 0 5) {x3 : Int32} (h_x3 : zs_in x3.toInt 0 0) {x4 : Int32} (h_x4 : zs_in x4.toInt 0 1073741823) {x5 : Int32} (h_x5 : zs_in x5.toInt 0 247) {x6 : Int32} (h_x6 : zs_in x6.toInt 3 3) {x7 : Int32} (h_x7 : zs_in x7.toInt 2 2) : zs_ok (BX9_claimOf_177 σ x1 x2 x3 x4 x5 x6 x7) (fun r => zs_sum (fun v => (zs_V σ0 v.1 ∧ (zs_in (v.2.1).toInt 0 1073741823 ∧ (zs_in (v.2.2.1).toInt 0 247 ∧ zs_in (v.2.2.2).toInt 3 3)))) (fun v => False) r) := by
  unfold BX9_claimOf_177
  obtain rfl : x3 = (0 : Int32) := zs_eqv h_x3 (by decide)
  obtain rfl : x6 = (3 : Int32) := zs_eqv h_x6 (by decide)
  obtain rfl : x7 = (2 : Int32) := zs_eqv h_x7 (by decide)
  refine zs_lt (Q := fun z => zs_in z.toInt 3 3) (zs_addI 3 3 h_x7 zlI_1 (by decide)) (fun y_1 hy_1 => ?_)
  exact zs_some (zs_inl (⟨h_σ, ⟨h_x4, ⟨h_x5, hy_1⟩⟩⟩))
-- BX9_claimOf_152
theorem zv_29 {σ0 : sn_S} {σ : sn_S} (h_σ : zs_V σ0 σ) {x1 : Int32} (h_x1 : zs_in x1.toInt 0 5) {x2 : Int32} (h_x2 : zs_in x2.toInt 0 5) {x3 : Int32} (h_x3 : zs_in x3.toInt 0 0) {x4 : Int32} (h_x4 : zs_in x4.toInt 0 1073741823) {x5 : Int32} (h_x5 : zs_in x5.toInt 0 198) {x6 : Int32} (h_x6 : zs_in x6.toInt 3 3) {x7 : Int32} (h_x7 : zs_in x7.toInt 2 2) {x8 : Int32} (h_x8 : zs_in x8.toInt 0 29) {t0 : Int32} (h_t0 : zs_in t0.toInt 0 49) : zs_ok (BX9_claimOf_152 σ x1 x2 x3 x4 x5 x6 x7 x8 t0) (fun r => zs_sum (fun v => (zs_V σ0 v.1 ∧ (zs_in (v.2.1).toInt 0 1073741823 ∧ (zs_in (v.2.2.1).toInt 0 247 ∧ zs_in (v.2.2.2).toInt 3 3)))) (fun v => False) r) := by
  unfold BX9_claimOf_152
  obtain rfl : x3 = (0 : Int32) := zs_eqv h_x3 (by decide)
  obtain rfl : x6 = (3 : Int32) := zs_eqv h_x6 (by decide)
  obtain rfl : x7 = (2 : Int32) := zs_eqv h_x7 (by decide)
  refine zs_lt (Q := fun z => zs_in z.toInt 0 247) (zs_addI 0 247 h_x5 h_t0 (by decide)) (fun y_1 hy_1 => ?_)
  refine zs_ite (fun c1 => ?_) (fun c1 => ?_)
  · skip
    have r2 := (zs_I_eq c1)
    obtain ⟨ret, er, hr⟩ := zv_28 h_σ h_x1 h_x2 h_x3 h_x4 hy_1 h_x6 h_x7
    refine ⟨ret, er, ?_⟩
    exact hr
  · skip
    have r3 := (zs_I_eqn c1)
    exact (zs_botne r3 h_x3 zlI_0 (by decide)).elim
-- BX9_claimOf_128
theorem zv_30 {σ0 : sn_S} {σ : sn_S} (h_σ : zs_V σ0 σ) {x1 : Int32} (h_x1 : zs_in x1.toInt 0 5) {x2 : Int32} (h_x2 : zs_in x2.toInt 0 5) {x3 : Int32} (h_x3 : zs_in x3.toInt 0 0) {x4 : Int32} (h_x4 : zs_in x4.toInt 0 1073741823) {x5 : Int32} (h_x5 : zs_in x5.toInt 0 198) {x6 : Int32} (h_x6 : zs_in x6.toInt 3 3) {x7 : Int32} (h_x7 : zs_in x7.toInt 2 2) {x8 : Int32} (h_x8 : zs_in x8.toInt 0 29) {t0 : Int32} (h_t0 : zs_in t0.toInt 1 1) : zs_ok (BX9_claimOf_128 σ x1 x2 x3 x4 x5 x6 x7 x8 t0) (fun r => zs_sum (fun v => (zs_V σ0 v.1 ∧ (zs_in (v.2.1).toInt 0 1073741823 ∧ (zs_in (v.2.2.1).toInt 0 247 ∧ zs_in (v.2.2.2).toInt 3 3)))) (fun v => False) r) := by
  unfold BX9_claimOf_128
  obtain rfl : x3 = (0 : Int32) := zs_eqv h_x3 (by decide)
  obtain rfl : x6 = (3 : Int32) := zs_eqv h_x6 (by decide)
  obtain rfl : x7 = (2 : Int32) := zs_eqv h_x7 (by decide)
  obtain rfl : t0 = (1 : Int32) := zs_eqv h_t0 (by decide)
  refine zs_ite (fun c1 => ?_) (fun c1 => ?_)
  · skip
    have r2 := (zs_I_eq c1)
    exact (zs_botr r2 h_t0 zlI_0 (by decide)).elim
  · skip
    have r3 := (zs_I_eqn c1)
    refine zs_bd_ (zv_7 h_σ h_x1 zlI_3) (fun t_4 pt_4 => ?_)
    obtain ⟨ret, er, hr⟩ := zv_29 h_σ h_x1 h_x2 h_x3 h_x4 h_x5 h_x6 h_x7 h_x8 (zs_divI 0 49 pt_4 zlI_2 (by decide))
    refine ⟨ret, er, ?_⟩
    exact hr
-- BX9_claimOf_63
theorem zv_31 {σ0 : sn_S} {σ : sn_S} (h_σ : zs_V σ0 σ) {x1 : Int32} (h_x1 : zs_in x1.toInt 0 5) {x2 : Int32} (h_x2 : zs_in x2.toInt 0 5) {x3 : Int32} (h_x3 : zs_in x3.toInt 0 0) {x4 : Int32} (h_x4 : zs_in x4.toInt 0 1073741823) {x5 : Int32} (h_x5 : zs_in x5.toInt 0 198) {x6 : Int32} (h_x6 : zs_in x6.toInt 1 3) {x7 : Int32} (h_x7 : zs_in x7.toInt 2 2) : zs_ok (BX9_claimOf_63 σ x1 x2 x3 x4 x5 x6 x7) (fun r => zs_sum (fun v => (zs_V σ0 v.1 ∧ (zs_in (v.2.1).toInt 0 1073741823 ∧ (zs_in (v.2.2.1).toInt 0 297 ∧ zs_in (v.2.2.2).toInt 3 3)))) (fun v => (zs_V σ0 v.1 ∧ zs_in (v.2).toInt 0 198)) r) := by
  unfold BX9_claimOf_63
  obtain rfl : x3 = (0 : Int32) := zs_eqv h_x3 (by decide)
  obtain rfl : x7 = (2 : Int32) := zs_eqv h_x7 (by decide)
  refine zs_ite (fun c1 => ?_) (fun c1 => ?_)
  · skip
    have r2 := (zs_I_le c1)
    have g3 : zs_in (x6).toInt 1 2 := (zs_lel 1 2 r2 h_x6 h_x7 (by decide))
    exact zs_some (zs_inr (⟨h_σ, h_x5⟩))
  · skip
    have r4 := (zs_I_len c1)
    have g5 : zs_in (x6).toInt 3 3 := (zs_ltr 3 3 r4 h_x7 h_x6 (by decide))
    refine zs_ite (fun c6 => ?_) (fun c6 => ?_)
    · skip
      have r7 := (zs_I_eq c6)
      have g8 : zs_in (x4).toInt 0 0 := (zs_eql 0 0 r7 h_x4 zlI_0 (by decide))
      exact zs_some (zs_inr (⟨h_σ, h_x5⟩))
    · skip
      have r9 := (zs_I_eqn c6)
      have g10 : zs_in (x4).toInt 1 1073741823 := (zs_nel 1 1073741823 r9 h_x4 zlI_0 (by decide))
      refine zs_bd_ (zo_fo1 (by decide) g10) (fun t_3 pt_3 => ?_)
      refine zs_lt (Q := fun z => zs_in z.toInt 0 1073741823) (zs_and2 g10 (by decide)) (fun y_5 hy_5 => ?_)
      refine zs_ite (fun c11 => ?_) (fun c11 => ?_)
      · skip
        have r12 := (zs_I_eq c11)
        have g13 : zs_in ((sn_I σ 0 20)).toInt 3 3 := (zs_eql 3 3 r12 (zs_topI _) zlI_3 (by decide))
        refine zs_gd (zs_gin h_x2 (by decide)) ?_
        refine zs_bd_ (zv_5 h_σ h_x1) (fun t_9 pt_9 => ?_)
        refine zs_bd_ (zv_6 pt_3) (fun t_11 pt_11 => ?_)
        refine zs_ite (fun c14 => ?_) (fun c14 => ?_)
        · skip
          have r15 := (zs_I_eq c14)
          have g16 : zs_in ((((sn_I σ 8 x2.toNatClampNeg) &&& t_9) &&& t_11)).toInt 0 0 := (zs_eql 0 0 r15 (zs_and pt_11 (by decide)) zlI_0 (by decide))
          obtain ⟨ret, er, hr⟩ := zv_27 h_σ h_x1 h_x2 h_x3 hy_5 h_x5 g5 h_x7 pt_3
          refine ⟨ret, er, ?_⟩
          exact (zs_sumw hr (fun v w => w) (fun v w => w.elim))
        · skip
          have r17 := (zs_I_eqn c14)
          have g18 : zs_in ((((sn_I σ 8 x2.toNatClampNeg) &&& t_9) &&& t_11)).toInt 1 536870911 := (zs_nel 1 536870911 r17 (zs_and pt_11 (by decide)) zlI_0 (by decide))
          obtain ⟨ret, er, hr⟩ := zv_30 h_σ h_x1 h_x2 h_x3 hy_5 h_x5 g5 h_x7 pt_3 zlI_1
          refine ⟨ret, er, ?_⟩
          exact (zs_sumw hr (fun v w => ⟨w.1, ⟨w.2.1, ⟨(zs_w w.2.2.1 (by decide)), w.2.2.2⟩⟩⟩) (fun v w => w.elim))
      · skip
        have r19 := (zs_I_eqn c11)
        obtain ⟨ret, er, hr⟩ := zv_27 h_σ h_x1 h_x2 h_x3 hy_5 h_x5 g5 h_x7 pt_3
        refine ⟨ret, er, ?_⟩
        exact (zs_sumw hr (fun v w => w) (fun v w => w.elim))
-- BX9_claimOf_63
theorem zv_32 {σ0 : sn_S} {σ : sn_S} (h_σ : zs_V σ0 σ) {x1 : Int32} (h_x1 : zs_in x1.toInt 0 5) {x2 : Int32} (h_x2 : zs_in x2.toInt 0 5) {x3 : Int32} (h_x3 : zs_in x3.toInt 0 0) {x4 : Int32} (h_x4 : zs_in x4.toInt 0 1073741823) {x5 : Int32} (h_x5 : zs_in x5.toInt 0 297) {x6 : Int32} (h_x6 : zs_in x6.toInt 1 3) {x7 : Int32} (h_x7 : zs_in x7.toInt 3 3) : zs_ok (BX9_claimOf_63 σ x1 x2 x3 x4 x5 x6 x7) (fun r => zs_sum (fun v => False) (fun v => (zs_V σ0 v.1 ∧ zs_in (v.2).toInt 0 297)) r) := by
  unfold BX9_claimOf_63
  obtain rfl : x3 = (0 : Int32) := zs_eqv h_x3 (by decide)
  obtain rfl : x7 = (3 : Int32) := zs_eqv h_x7 (by decide)
  refine zs_ite (fun c1 => ?_) (fun c1 => ?_)
  · skip
    have r2 := (zs_I_le c1)
    exact zs_some (zs_inr (⟨h_σ, h_x5⟩))
  · skip
    have r3 := (zs_I_len c1)
    exact (zs_botlt r3 h_x7 h_x6 (by decide)).elim
end
