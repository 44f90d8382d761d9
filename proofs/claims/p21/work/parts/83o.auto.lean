-- BX4_reckon_62
theorem zc_1340 {σ0 : sn_S} {σ : sn_S} (h_σ : zs_C σ0 σ) {x3 : Int32} (h_x3 : zs_in x3.toInt 2 2) {x4 : Int32} (h_x4 : zs_in x4.toInt (-1) (-1)) {x6 : Int32} (h_x6 : zs_in x6.toInt 4 4) {x7 : Int32} (h_x7 : zs_in x7.toInt 0 0) {t0 : Int32} (h_t0 : zs_in t0.toInt 0 0) {c : Int} (hc : x7.toInt = c + 0) : zs_ok (BX4_reckon_62 σ 1 27 x3 x4 x6 x7 t0) (fun r => zs_sum (fun v => ((zs_C σ0 v.1 ∧ zs_in (v.2).toInt 1 1)) ∧ v.2.toInt = c + 1) (fun v => False) r) := by
  unfold BX4_reckon_62
  obtain rfl : x3 = (2 : Int32) := zs_eqv h_x3 (by decide)
  obtain rfl : x4 = (-1 : Int32) := zs_eqv h_x4 (by decide)
  obtain rfl : x6 = (4 : Int32) := zs_eqv h_x6 (by decide)
  obtain rfl : t0 = (0 : Int32) := zs_eqv h_t0 (by decide)
  refine zs_bd_ (zd_255 h_x3 h_x4 h_x6 h_x7 h_t0 (s0 := (σ, (0 : Int32))) ⟨h_σ, (zs_w h_t0 (by decide))⟩) (fun t_1 pt_1 => ?_)
  obtain ⟨ret, er, hr⟩ := zc_1339 pt_1 h_x3 h_x4 h_x6 h_x7 h_t0 hc
  refine ⟨ret, er, ?_⟩
  exact (zs_sumw hr (fun v w => ⟨w.1, w.2⟩) (fun v w => w.elim))
-- BX4_reckon_111
theorem zc_1341 {σ0 : sn_S} {σ : sn_S} (h_σ : zs_C σ0 σ) {x3 : Int32} (h_x3 : zs_in x3.toInt 2 2) {x4 : Int32} (h_x4 : zs_in x4.toInt (-1) (-1)) {x6 : Int32} (h_x6 : zs_in x6.toInt 4 4) {x7 : Int32} (h_x7 : zs_in x7.toInt 1 15) {x8 : Int32} (h_x8 : zs_in x8.toInt 0 3) {x9 : Int32} (h_x9 : zs_in x9.toInt 0 3) {t1 : Int32} (h_t1 : zs_in t1.toInt 0 3) {t2 : Int32} {t3 : Int32} (h_t3 : zs_in t3.toInt 0 0) {c : Int} (hc : x9.toInt = c + 0) : zs_ok (BX4_reckon_111 σ 1 27 x3 x4 x6 x7 x8 x9 t1 t2 t3) (fun r => zs_sum (fun v => ((zs_C σ0 v.1 ∧ zs_in (v.2).toInt 1 4)) ∧ v.2.toInt = c + 1) (fun v => False) r) := by
  unfold BX4_reckon_111
  obtain rfl : x3 = (2 : Int32) := zs_eqv h_x3 (by decide)
  obtain rfl : x4 = (-1 : Int32) := zs_eqv h_x4 (by decide)
  obtain rfl : x6 = (4 : Int32) := zs_eqv h_x6 (by decide)
  obtain rfl : t3 = (0 : Int32) := zs_eqv h_t3 (by decide)
  refine zs_gd (zs_gin h_t1 (by decide)) ?_
  refine zs_lt (Q := fun z => zs_C σ0 z) (zs_wrt h_σ (fun _ => rfl) (fun _ => rfl)) (fun σ_2 hσ_2 => ?_)
  refine zs_lt (Q := fun z => zs_in z.toInt 1 4 ∧ z.toInt = c + 1) ⟨(zs_addI 1 4 h_x9 zlI_1 (by decide)), (zs_syI 1 hc h_x9 zlI_1 (by decide) (by decide))⟩ (fun y_4 hy_4 => ?_)
  exact zs_some (zs_inl ⟨⟨hσ_2, hy_4.1⟩, hy_4.2⟩)
-- BX4_reckon_111
theorem zc_1342 {σ0 : sn_S} {σ : sn_S} (h_σ : zs_C σ0 σ) {x3 : Int32} (h_x3 : zs_in x3.toInt 2 2) {x4 : Int32} (h_x4 : zs_in x4.toInt (-1) (-1)) {x6 : Int32} (h_x6 : zs_in x6.toInt 4 4) {x7 : Int32} (h_x7 : zs_in x7.toInt 1 15) {x8 : Int32} (h_x8 : zs_in x8.toInt 0 3) {x9 : Int32} (h_x9 : zs_in x9.toInt 0 3) {t1 : Int32} (h_t1 : zs_in t1.toInt 0 3) {t2 : Int32} {t3 : Int32} (h_t3 : zs_in t3.toInt 3 3) {c : Int} (hc : x9.toInt = c + 0) : zs_ok (BX4_reckon_111 σ 1 27 x3 x4 x6 x7 x8 x9 t1 t2 t3) (fun r => zs_sum (fun v => ((zs_C σ0 v.1 ∧ zs_in (v.2).toInt 1 4)) ∧ v.2.toInt = c + 1) (fun v => False) r) := by
  unfold BX4_reckon_111
  obtain rfl : x3 = (2 : Int32) := zs_eqv h_x3 (by decide)
  obtain rfl : x4 = (-1 : Int32) := zs_eqv h_x4 (by decide)
  obtain rfl : x6 = (4 : Int32) := zs_eqv h_x6 (by decide)
  obtain rfl : t3 = (3 : Int32) := zs_eqv h_t3 (by decide)
  refine zs_gd (zs_gin h_t1 (by decide)) ?_
  refine zs_lt (Q := fun z => zs_C σ0 z) (zs_wrt h_σ (fun _ => rfl) (fun _ => rfl)) (fun σ_2 hσ_2 => ?_)
  refine zs_lt (Q := fun z => zs_in z.toInt 1 4 ∧ z.toInt = c + 1) ⟨(zs_addI 1 4 h_x9 zlI_1 (by decide)), (zs_syI 1 hc h_x9 zlI_1 (by decide) (by decide))⟩ (fun y_4 hy_4 => ?_)
  exact zs_some (zs_inl ⟨⟨hσ_2, hy_4.1⟩, hy_4.2⟩)
-- BX4_reckon_68
theorem zc_1343 {σ0 : sn_S} {σ : sn_S} (h_σ : zs_C σ0 σ) {x3 : Int32} (h_x3 : zs_in x3.toInt 2 2) {x4 : Int32} (h_x4 : zs_in x4.toInt (-1) (-1)) {x6 : Int32} (h_x6 : zs_in x6.toInt 4 4) {x7 : Int32} (h_x7 : zs_in x7.toInt 1 15) {x8 : Int32} (h_x8 : zs_in x8.toInt 0 3) {x9 : Int32} (h_x9 : zs_in x9.toInt 0 4) {c : Int} (hc : x9.toInt = c + 0) : zs_ok (BX4_reckon_68 σ 1 27 x3 x4 x6 x7 x8 x9) (fun r => zs_sum (fun v => ((zs_C σ0 v.1 ∧ zs_in (v.2).toInt 1 4)) ∧ v.2.toInt = c + 1) (fun v => zs_C σ0 v) r) := by
  unfold BX4_reckon_68
  obtain rfl : x3 = (2 : Int32) := zs_eqv h_x3 (by decide)
  obtain rfl : x4 = (-1 : Int32) := zs_eqv h_x4 (by decide)
  obtain rfl : x6 = (4 : Int32) := zs_eqv h_x6 (by decide)
  refine zs_ite (fun c1 => ?_) (fun c1 => ?_)
  · skip
    have r2 := (zs_I_le c1)
    have g3 : zs_in (x9).toInt 4 4 := (zs_ler 4 4 r2 h_x6 h_x9 (by decide))
    exact zs_some (zs_inr (h_σ))
  · skip
    have r4 := (zs_I_len c1)
    have g5 : zs_in (x9).toInt 0 3 := (zs_ltl 0 3 r4 h_x9 h_x6 (by decide))
    refine zs_gd (zs_gin g5 (by decide)) ?_
    refine zs_bd_ (zc_873 h_x7 (zs_subI 0 3 (zs_subI 3 3 h_x6 zlI_1 (by decide)) g5 (by decide))) (fun t_3 pt_3 => ?_)
    refine zs_ite (fun c6 => ?_) (fun c6 => ?_)
    · skip
      have r7 := (zs_I_eq c6)
      have g8 : zs_in (t_3).toInt 0 0 := (zs_eql 0 0 r7 pt_3 zlI_0 (by decide))
      obtain ⟨ret, er, hr⟩ := zc_1341 h_σ h_x3 h_x4 h_x6 h_x7 h_x8 g5 g5 zlI_0 hc
      refine ⟨ret, er, ?_⟩
      exact (zs_sumw hr (fun v w => ⟨w.1, w.2⟩) (fun v w => w.elim))
    · skip
      have r9 := (zs_I_eqn c6)
      have g10 : zs_in (t_3).toInt 1 1 := (zs_nel 1 1 r9 pt_3 zlI_0 (by decide))
      obtain ⟨ret, er, hr⟩ := zc_1342 h_σ h_x3 h_x4 h_x6 h_x7 h_x8 g5 g5 zlI_3 hc
      refine ⟨ret, er, ?_⟩
      exact (zs_sumw hr (fun v w => ⟨w.1, w.2⟩) (fun v w => w.elim))
theorem zd_258 {σ0 : sn_S} {x3 : Int32} (h_x3 : zs_in x3.toInt 2 2) {x4 : Int32} (h_x4 : zs_in x4.toInt (-1) (-1)) {x6 : Int32} (h_x6 : zs_in x6.toInt 4 4) {x7 : Int32} (h_x7 : zs_in x7.toInt 1 15) {x8 : Int32} (h_x8 : zs_in x8.toInt 0 3) {s0 : (sn_S × Int32)} (h0 : (zs_C σ0 s0.1 ∧ zs_in (s0.2).toInt 0 4)) : zs_ok (sn_it (LX4_reckon_68 1 27 x3 x4 x6 x7 x8) 5000 s0) (fun t => zs_C σ0 t) := by
  refine zs_it (I := fun s => (zs_C σ0 s.1 ∧ zs_in (s.2).toInt 0 4)) (m := fun s => 4 - s.2.toInt) (fun s hs => ?_) (fun s hs => ?_) (by exact h0)
  · have h1 := hs.2; unfold zs_in at h1
    omega
  · obtain ⟨b, eb, hb⟩ := zc_1343 hs.1 h_x3 h_x4 h_x6 h_x7 h_x8 hs.2 (c := s.2.toInt) (Int.add_zero _).symm
    exact ⟨b, eb, zs_sumw hb (fun v w => ⟨⟨w.1.1, (zs_w w.1.2 (by decide))⟩, by have := w.2; omega⟩) (fun v w => w)⟩
-- BX0_live_2
theorem zc_1344 {σ0 : sn_S} {σ : sn_S} (h_σ : zs_C σ0 σ) {x1 : Int32} (h_x1 : zs_in x1.toInt 0 3) {x2 : Int32} (h_x2 : zs_in x2.toInt 0 30) {x3 : Int32} (h_x3 : zs_in x3.toInt 0 6) {c : Int} (hc : x3.toInt = c + 0) : zs_ok (BX0_live_2 σ 59 x1 x2 x3) (fun r => zs_sum (fun v => ((zs_C σ0 v.1 ∧ zs_in (v.2).toInt 1 6)) ∧ v.2.toInt = c + 1) (fun v => zs_C σ0 v) r) := by
  unfold BX0_live_2
  refine zs_ite (fun c1 => ?_) (fun c1 => ?_)
  · skip
    have r2 := (zs_I_le c1)
    exact zs_some (zs_inr (h_σ))
  · skip
    have r3 := (zs_I_len c1)
    have g4 : zs_in (x3).toInt 0 5 := (zs_ltl 0 5 r3 h_x3 (zs_rdk (q := 59) (k := 1) (z := (0, 6)) h_σ.1 rfl) (by decide))
    have g5 : zs_in ((sn_I σ 59 1)).toInt 1 6 := (zs_ltr 1 6 r3 h_x3 (zs_rdk (q := 59) (k := 1) (z := (0, 6)) h_σ.1 rfl) (by decide))
    refine zs_gd (zs_gin g4 (by decide)) ?_
    refine zs_bd_ (zc_877 h_x1) (fun t_3 pt_3 => ?_)
    refine zs_gd (zs_gin g4 (by decide)) ?_
    refine zs_lt (Q := fun z => zs_C σ0 z) (zs_wru (z := (0, 1073741823)) h_σ (fun _ => rfl) (zs_and pt_3 (by decide)) (by decide) (fun _ => rfl)) (fun σ_6 hσ_6 => ?_)
    refine zs_lt (Q := fun z => zs_in z.toInt 1 6 ∧ z.toInt = c + 1) ⟨(zs_addI 1 6 g4 zlI_1 (by decide)), (zs_syI 1 hc g4 zlI_1 (by decide) (by decide))⟩ (fun y_8 hy_8 => ?_)
    exact zs_some (zs_inl ⟨⟨hσ_6, hy_8.1⟩, hy_8.2⟩)
theorem zd_259 {σ0 : sn_S} {x1 : Int32} (h_x1 : zs_in x1.toInt 0 3) {x2 : Int32} (h_x2 : zs_in x2.toInt 0 30) {s0 : (sn_S × Int32)} (h0 : (zs_C σ0 s0.1 ∧ zs_in (s0.2).toInt 0 6)) : zs_ok (sn_it (LX0_live_2 59 x1 x2) 5000 s0) (fun t => zs_C σ0 t) := by
  refine zs_it (I := fun s => (zs_C σ0 s.1 ∧ zs_in (s.2).toInt 0 6)) (m := fun s => 6 - s.2.toInt) (fun s hs => ?_) (fun s hs => ?_) (by exact h0)
  · have h1 := hs.2; unfold zs_in at h1
    omega
  · obtain ⟨b, eb, hb⟩ := zc_1344 hs.1 h_x1 h_x2 hs.2 (c := s.2.toInt) (Int.add_zero _).symm
    exact ⟨b, eb, zs_sumw hb (fun v w => ⟨⟨w.1.1, (zs_w w.1.2 (by decide))⟩, by have := w.2; omega⟩) (fun v w => w)⟩
-- BX0_live_29
theorem zc_1345 {σ0 : sn_S} {σ : sn_S} (h_σ : zs_C σ0 σ) {x1 : Int32} (h_x1 : zs_in x1.toInt 0 3) {x2 : Int32} (h_x2 : zs_in x2.toInt 0 30) : zs_ok (BX0_live_29 σ 59 x1 x2) (fun r => zs_C σ0 r) := by
  unfold BX0_live_29
  refine zs_bd_ (zd_238 h_x2 (s0 := (σ, x1)) ⟨h_σ, (zs_w h_x1 (by decide))⟩) (fun t_1 pt_1 => ?_)
  obtain ⟨ret, er, hr⟩ := zc_697 pt_1
  refine ⟨ret, er, ?_⟩
  exact hr
-- fX0_live
theorem zc_1346 {σ0 : sn_S} {σ : sn_S} (h_σ : zs_C σ0 σ) {x1 : Int32} (h_x1 : zs_in x1.toInt 0 3) {x2 : Int32} (h_x2 : zs_in x2.toInt 0 30) : zs_ok (fX0_live σ 59 x1 x2) (fun r => zs_C σ0 r) := by
  unfold fX0_live
  refine zs_bd_ (zd_259 h_x1 h_x2 (s0 := (σ, (0 : Int32))) ⟨h_σ, (zs_w zlI_0 (by decide))⟩) (fun t_1 pt_1 => ?_)
  obtain ⟨ret, er, hr⟩ := zc_1345 pt_1 h_x1 h_x2
  refine ⟨ret, er, ?_⟩
  exact hr
-- BX4_reckon_139
theorem zc_1347 {σ0 : sn_S} {σ : sn_S} (h_σ : zs_C σ0 σ) {x3 : Int32} (h_x3 : zs_in x3.toInt 2 2) {x4 : Int32} (h_x4 : zs_in x4.toInt (-1) (-1)) {x6 : Int32} (h_x6 : zs_in x6.toInt 4 4) {x7 : Int32} (h_x7 : zs_in x7.toInt 1 15) {t1 : Int32} (h_t1 : zs_in t1.toInt 0 3) {t2 : Int32} (h_t2 : zs_in t2.toInt 0 30) {c : Int} (hc : x7.toInt = c + 0) : zs_ok (BX4_reckon_139 σ 1 27 x3 x4 x6 x7 t1 t2) (fun r => zs_sum (fun v => ((zs_C σ0 v.1 ∧ zs_in (v.2).toInt 2 16)) ∧ v.2.toInt = c + 1) (fun v => False) r) := by
  unfold BX4_reckon_139
  obtain rfl : x3 = (2 : Int32) := zs_eqv h_x3 (by decide)
  obtain rfl : x4 = (-1 : Int32) := zs_eqv h_x4 (by decide)
  obtain rfl : x6 = (4 : Int32) := zs_eqv h_x6 (by decide)
  refine zs_bd_ (zc_1346 h_σ h_t1 h_t2) (fun t_1 pt_1 => ?_)
  refine zs_bd_ (zo_bc 4 4 (by decide) h_x7) (fun t_3 pt_3 => ?_)
  refine zs_gd (zs_gin pt_3 (by decide)) ?_
  refine zs_bd_ (zc_1337 pt_1 h_x3 h_x4 h_x6) (fun t_6 pt_6 => ?_)
  refine zs_lt (Q := fun z => zs_C σ0 z) (zs_wrL pt_6.2 rfl) (fun σ_8 hσ_8 => ?_)
  refine zs_lt (Q := fun z => zs_in z.toInt 2 16 ∧ z.toInt = c + 1) ⟨(zs_addI 2 16 h_x7 zlI_1 (by decide)), (zs_syI 1 hc h_x7 zlI_1 (by decide) (by decide))⟩ (fun y_10 hy_10 => ?_)
  exact zs_some (zs_inl ⟨⟨hσ_8, hy_10.1⟩, hy_10.2⟩)
-- BX4_reckon_119
theorem zc_1348 {σ0 : sn_S} {σ : sn_S} (h_σ : zs_C σ0 σ) {x3 : Int32} (h_x3 : zs_in x3.toInt 2 2) {x4 : Int32} (h_x4 : zs_in x4.toInt (-1) (-1)) {x6 : Int32} (h_x6 : zs_in x6.toInt 4 4) {x7 : Int32} (h_x7 : zs_in x7.toInt 1 15) {x8 : Int32} (h_x8 : zs_in x8.toInt 0 3) {c : Int} (hc : x7.toInt = c + 0) : zs_ok (BX4_reckon_119 σ 1 27 x3 x4 x6 x7 x8) (fun r => zs_sum (fun v => ((zs_C σ0 v.1 ∧ zs_in (v.2).toInt 2 16)) ∧ v.2.toInt = c + 1) (fun v => False) r) := by
  unfold BX4_reckon_119
  obtain rfl : x3 = (2 : Int32) := zs_eqv h_x3 (by decide)
  obtain rfl : x4 = (-1 : Int32) := zs_eqv h_x4 (by decide)
  obtain rfl : x6 = (4 : Int32) := zs_eqv h_x6 (by decide)
  refine zs_ite (fun c1 => ?_) (fun c1 => ?_)
  · skip
    have r2 := (zs_I_eq c1)
    obtain ⟨ret, er, hr⟩ := zc_1347 h_σ h_x3 h_x4 h_x6 h_x7 h_x8 (zs_rdk (q := 27) (k := 0) (z := (0, 30)) h_σ.1 rfl) hc
    refine ⟨ret, er, ?_⟩
    exact (zs_sumw hr (fun v w => ⟨w.1, w.2⟩) (fun v w => w.elim))
  · skip
    have r3 := (zs_I_eqn c1)
    exact (zs_botne r3 h_x3 zlI_2 (by decide)).elim
-- BX4_reckon_62
theorem zc_1349 {σ0 : sn_S} {σ : sn_S} (h_σ : zs_C σ0 σ) {x3 : Int32} (h_x3 : zs_in x3.toInt 2 2) {x4 : Int32} (h_x4 : zs_in x4.toInt (-1) (-1)) {x6 : Int32} (h_x6 : zs_in x6.toInt 4 4) {x7 : Int32} (h_x7 : zs_in x7.toInt 1 15) {t0 : Int32} (h_t0 : zs_in t0.toInt 0 3) {c : Int} (hc : x7.toInt = c + 0) : zs_ok (BX4_reckon_62 σ 1 27 x3 x4 x6 x7 t0) (fun r => zs_sum (fun v => ((zs_C σ0 v.1 ∧ zs_in (v.2).toInt 2 16)) ∧ v.2.toInt = c + 1) (fun v => False) r) := by
  unfold BX4_reckon_62
  obtain rfl : x3 = (2 : Int32) := zs_eqv h_x3 (by decide)
  obtain rfl : x4 = (-1 : Int32) := zs_eqv h_x4 (by decide)
  obtain rfl : x6 = (4 : Int32) := zs_eqv h_x6 (by decide)
  refine zs_bd_ (zd_258 h_x3 h_x4 h_x6 h_x7 h_t0 (s0 := (σ, t0)) ⟨h_σ, (zs_w h_t0 (by decide))⟩) (fun t_1 pt_1 => ?_)
  obtain ⟨ret, er, hr⟩ := zc_1348 pt_1 h_x3 h_x4 h_x6 h_x7 h_t0 hc
  refine ⟨ret, er, ?_⟩
  exact (zs_sumw hr (fun v w => ⟨w.1, w.2⟩) (fun v w => w.elim))
-- BX4_reckon_34
theorem zc_1350 {σ0 : sn_S} {σ : sn_S} (h_σ : zs_C σ0 σ) {x3 : Int32} (h_x3 : zs_in x3.toInt 2 2) {x4 : Int32} (h_x4 : zs_in x4.toInt (-1) (-1)) {x6 : Int32} (h_x6 : zs_in x6.toInt 4 4) {x7 : Int32} (h_x7 : zs_in x7.toInt 0 16) {c : Int} (hc : x7.toInt = c + 0) : zs_ok (BX4_reckon_34 σ 1 27 x3 x4 x6 x7) (fun r => zs_sum (fun v => ((zs_C σ0 v.1 ∧ zs_in (v.2).toInt 1 16)) ∧ v.2.toInt = c + 1) (fun v => zs_C σ0 v) r) := by
  unfold BX4_reckon_34
  obtain rfl : x3 = (2 : Int32) := zs_eqv h_x3 (by decide)
  obtain rfl : x4 = (-1 : Int32) := zs_eqv h_x4 (by decide)
  obtain rfl : x6 = (4 : Int32) := zs_eqv h_x6 (by decide)
  refine zs_ite (fun c1 => ?_) (fun c1 => ?_)
  · skip
    have r2 := (zs_I_le c1)
    have g3 : zs_in (x7).toInt 16 16 := (zs_ler 16 16 r2 (zs_cases h_x6 (fun z => zs_in ((1 : Int32) <<< (z &&& 31)).toInt 16 16) (by decide +kernel)) h_x7 (by decide))
    exact zs_some (zs_inr (h_σ))
  · skip
    have r4 := (zs_I_len c1)
    have g5 : zs_in (x7).toInt 0 15 := (zs_ltl 0 15 r4 h_x7 (zs_cases h_x6 (fun z => zs_in ((1 : Int32) <<< (z &&& 31)).toInt 16 16) (by decide +kernel)) (by decide))
    refine zs_ite (fun c6 => ?_) (fun c6 => ?_)
    · skip
      have r7 := (zs_I_eq c6)
      have g8 : zs_in (x7).toInt 0 0 := (zs_eql 0 0 r7 g5 zlI_0 (by decide))
      obtain ⟨ret, er, hr⟩ := zc_1340 h_σ h_x3 h_x4 h_x6 g8 zlI_0 hc
      refine ⟨ret, er, ?_⟩
      exact (zs_sumw hr (fun v w => ⟨⟨w.1.1, (zs_w w.1.2 (by decide))⟩, w.2⟩) (fun v w => w.elim))
    · skip
      have r9 := (zs_I_eqn c6)
      have g10 : zs_in (x7).toInt 1 15 := (zs_nel 1 15 r9 g5 zlI_0 (by decide))
      refine zs_bd_ (zo_low1 4 3 (by decide) g10) (fun t_3 pt_3 => ?_)
      obtain ⟨ret, er, hr⟩ := zc_1349 h_σ h_x3 h_x4 h_x6 g10 (zs_subI 0 3 (zs_subI 3 3 h_x6 zlI_1 (by decide)) pt_3 (by decide)) hc
      refine ⟨ret, er, ?_⟩
      exact (zs_sumw hr (fun v w => ⟨⟨w.1.1, (zs_w w.1.2 (by decide))⟩, w.2⟩) (fun v w => w.elim))
theorem zd_260 {σ0 : sn_S} {x3 : Int32} (h_x3 : zs_in x3.toInt 2 2) {x4 : Int32} (h_x4 : zs_in x4.toInt (-1) (-1)) {x6 : Int32} (h_x6 : zs_in x6.toInt 4 4) {s0 : (sn_S × Int32)} (h0 : (zs_C σ0 s0.1 ∧ zs_in (s0.2).toInt 0 16)) : zs_ok (sn_it (LX4_reckon_34 1 27 x3 x4 x6) 5000 s0) (fun t => zs_C σ0 t) := by
  refine zs_it (I := fun s => (zs_C σ0 s.1 ∧ zs_in (s.2).toInt 0 16)) (m := fun s => 16 - s.2.toInt) (fun s hs => ?_) (fun s hs => ?_) (by exact h0)
  · have h1 := hs.2; unfold zs_in at h1
    omega
  · obtain ⟨b, eb, hb⟩ := zc_1350 hs.1 h_x3 h_x4 h_x6 hs.2 (c := s.2.toInt) (Int.add_zero _).symm
    exact ⟨b, eb, zs_sumw hb (fun v w => ⟨⟨w.1.1, (zs_w w.1.2 (by decide))⟩, by have := w.2; omega⟩) (fun v w => w)⟩
-- fX4_reckon
theorem zc_1351 {σ0 : sn_S} {σ : sn_S} (h_σ : zs_C σ0 σ) {x3 : Int32} (h_x3 : zs_in x3.toInt 2 2) {x4 : Int32} (h_x4 : zs_in x4.toInt (-1) (-1)) {x5 : Int32} (h_x5 : zs_in x5.toInt 3 3) : zs_ok (fX4_reckon σ 1 27 x3 x4 x5) (fun r => zs_C σ0 r) := by
  unfold fX4_reckon
  obtain rfl : x3 = (2 : Int32) := zs_eqv h_x3 (by decide)
  obtain rfl : x4 = (-1 : Int32) := zs_eqv h_x4 (by decide)
  obtain rfl : x5 = (3 : Int32) := zs_eqv h_x5 (by decide)
  refine zs_lt (Q := fun z => zs_in z.toInt 4 4) (zs_addI 4 4 h_x5 zlI_1 (by decide)) (fun y_1 hy_1 => ?_)
  refine zs_gd (zs_gin zlI_4 (by decide)) ?_
  refine zs_bd_ (zc_837 h_σ hy_1 (zs_rdk (q := 2) (k := (4 : Int32).toNatClampNeg) (z := (0, 10)) h_σ.1 rfl)) (fun t_4 pt_4 => ?_)
  refine zs_bd_ (zo_dcopy pt_4) (fun t_6 pt_6 => ?_)
  refine zs_lt (Q := fun z => zs_C σ0 z) (zs_wrL pt_6 rfl) (fun σ_8 hσ_8 => ?_)
  refine zs_bd_ (zd_260 h_x3 h_x4 hy_1 (s0 := (σ_8, (0 : Int32))) ⟨hσ_8, (zs_w zlI_0 (by decide))⟩) (fun t_10 pt_10 => ?_)
  obtain ⟨ret, er, hr⟩ := zc_886 pt_10 hy_1
  refine ⟨ret, er, ?_⟩
  exact hr
-- BX4_reckon_111
theorem zc_1352 {σ0 : sn_S} {σ : sn_S} (h_σ : zs_C σ0 σ) {x3 : Int32} (h_x3 : zs_in x3.toInt 2 2) {x4 : Int32} (h_x4 : zs_in x4.toInt (-1) (-1)) {x6 : Int32} (h_x6 : zs_in x6.toInt 5 5) {x7 : Int32} (h_x7 : zs_in x7.toInt 0 0) {x8 : Int32} (h_x8 : zs_in x8.toInt 0 0) {x9 : Int32} (h_x9 : zs_in x9.toInt 0 4) {t1 : Int32} (h_t1 : zs_in t1.toInt 0 4) {t2 : Int32} {t3 : Int32} (h_t3 : zs_in t3.toInt 0 0) {c : Int} (hc : x9.toInt = c + 0) : zs_ok (BX4_reckon_111 σ 1 27 x3 x4 x6 x7 x8 x9 t1 t2 t3) (fun r => zs_sum (fun v => ((zs_C σ0 v.1 ∧ zs_in (v.2).toInt 1 5)) ∧ v.2.toInt = c + 1) (fun v => False) r) := by
  unfold BX4_reckon_111
  obtain rfl : x3 = (2 : Int32) := zs_eqv h_x3 (by decide)
  obtain rfl : x4 = (-1 : Int32) := zs_eqv h_x4 (by decide)
  obtain rfl : x6 = (5 : Int32) := zs_eqv h_x6 (by decide)
  obtain rfl : x7 = (0 : Int32) := zs_eqv h_x7 (by decide)
  obtain rfl : x8 = (0 : Int32) := zs_eqv h_x8 (by decide)
  obtain rfl : t3 = (0 : Int32) := zs_eqv h_t3 (by decide)
  refine zs_gd (zs_gin h_t1 (by decide)) ?_
  refine zs_lt (Q := fun z => zs_C σ0 z) (zs_wrt h_σ (fun _ => rfl) (fun _ => rfl)) (fun σ_2 hσ_2 => ?_)
  refine zs_lt (Q := fun z => zs_in z.toInt 1 5 ∧ z.toInt = c + 1) ⟨(zs_addI 1 5 h_x9 zlI_1 (by decide)), (zs_syI 1 hc h_x9 zlI_1 (by decide) (by decide))⟩ (fun y_4 hy_4 => ?_)
  exact zs_some (zs_inl ⟨⟨hσ_2, hy_4.1⟩, hy_4.2⟩)
-- BX4_reckon_111
theorem zc_1353 {σ0 : sn_S} {σ : sn_S} (h_σ : zs_C σ0 σ) {x3 : Int32} (h_x3 : zs_in x3.toInt 2 2) {x4 : Int32} (h_x4 : zs_in x4.toInt (-1) (-1)) {x6 : Int32} (h_x6 : zs_in x6.toInt 5 5) {x7 : Int32} (h_x7 : zs_in x7.toInt 0 0) {x8 : Int32} (h_x8 : zs_in x8.toInt 0 0) {x9 : Int32} (h_x9 : zs_in x9.toInt 0 4) {t1 : Int32} (h_t1 : zs_in t1.toInt 0 4) {t2 : Int32} {t3 : Int32} (h_t3 : zs_in t3.toInt 3 3) {c : Int} (hc : x9.toInt = c + 0) : zs_ok (BX4_reckon_111 σ 1 27 x3 x4 x6 x7 x8 x9 t1 t2 t3) (fun r => zs_sum (fun v => ((zs_C σ0 v.1 ∧ zs_in (v.2).toInt 1 5)) ∧ v.2.toInt = c + 1) (fun v => False) r) := by
  unfold BX4_reckon_111
  obtain rfl : x3 = (2 : Int32) := zs_eqv h_x3 (by decide)
  obtain rfl : x4 = (-1 : Int32) := zs_eqv h_x4 (by decide)
  obtain rfl : x6 = (5 : Int32) := zs_eqv h_x6 (by decide)
  obtain rfl : x7 = (0 : Int32) := zs_eqv h_x7 (by decide)
  obtain rfl : x8 = (0 : Int32) := zs_eqv h_x8 (by decide)
  obtain rfl : t3 = (3 : Int32) := zs_eqv h_t3 (by decide)
  refine zs_gd (zs_gin h_t1 (by decide)) ?_
  refine zs_lt (Q := fun z => zs_C σ0 z) (zs_wrt h_σ (fun _ => rfl) (fun _ => rfl)) (fun σ_2 hσ_2 => ?_)
  refine zs_lt (Q := fun z => zs_in z.toInt 1 5 ∧ z.toInt = c + 1) ⟨(zs_addI 1 5 h_x9 zlI_1 (by decide)), (zs_syI 1 hc h_x9 zlI_1 (by decide) (by decide))⟩ (fun y_4 hy_4 => ?_)
  exact zs_some (zs_inl ⟨⟨hσ_2, hy_4.1⟩, hy_4.2⟩)
-- BX4_reckon_68
theorem zc_1354 {σ0 : sn_S} {σ : sn_S} (h_σ : zs_C σ0 σ) {x3 : Int32} (h_x3 : zs_in x3.toInt 2 2) {x4 : Int32} (h_x4 : zs_in x4.toInt (-1) (-1)) {x6 : Int32} (h_x6 : zs_in x6.toInt 5 5) {x7 : Int32} (h_x7 : zs_in x7.toInt 0 0) {x8 : Int32} (h_x8 : zs_in x8.toInt 0 0) {x9 : Int32} (h_x9 : zs_in x9.toInt 0 5) {c : Int} (hc : x9.toInt = c + 0) : zs_ok (BX4_reckon_68 σ 1 27 x3 x4 x6 x7 x8 x9) (fun r => zs_sum (fun v => ((zs_C σ0 v.1 ∧ zs_in (v.2).toInt 1 5)) ∧ v.2.toInt = c + 1) (fun v => zs_C σ0 v) r) := by
  unfold BX4_reckon_68
  obtain rfl : x3 = (2 : Int32) := zs_eqv h_x3 (by decide)
  obtain rfl : x4 = (-1 : Int32) := zs_eqv h_x4 (by decide)
  obtain rfl : x6 = (5 : Int32) := zs_eqv h_x6 (by decide)
  obtain rfl : x7 = (0 : Int32) := zs_eqv h_x7 (by decide)
  obtain rfl : x8 = (0 : Int32) := zs_eqv h_x8 (by decide)
  refine zs_ite (fun c1 => ?_) (fun c1 => ?_)
  · skip
    have r2 := (zs_I_le c1)
    have g3 : zs_in (x9).toInt 5 5 := (zs_ler 5 5 r2 h_x6 h_x9 (by decide))
    exact zs_some (zs_inr (h_σ))
  · skip
    have r4 := (zs_I_len c1)
    have g5 : zs_in (x9).toInt 0 4 := (zs_ltl 0 4 r4 h_x9 h_x6 (by decide))
    refine zs_gd (zs_gin g5 (by decide)) ?_
    refine zs_bd_ (zc_894 h_x7 (zs_subI 0 4 (zs_subI 4 4 h_x6 zlI_1 (by decide)) g5 (by decide))) (fun t_3 pt_3 => ?_)
    refine zs_ite (fun c6 => ?_) (fun c6 => ?_)
    · skip
      have r7 := (zs_I_eq c6)
      have g8 : zs_in (t_3).toInt 0 0 := (zs_eql 0 0 r7 pt_3 zlI_0 (by decide))
      obtain ⟨ret, er, hr⟩ := zc_1352 h_σ h_x3 h_x4 h_x6 h_x7 h_x8 g5 g5 zlI_0 hc
      refine ⟨ret, er, ?_⟩
      exact (zs_sumw hr (fun v w => ⟨w.1, w.2⟩) (fun v w => w.elim))
    · skip
      have r9 := (zs_I_eqn c6)
      have g10 : zs_in (t_3).toInt 1 1 := (zs_nel 1 1 r9 pt_3 zlI_0 (by decide))
      obtain ⟨ret, er, hr⟩ := zc_1353 h_σ h_x3 h_x4 h_x6 h_x7 h_x8 g5 g5 zlI_3 hc
      refine ⟨ret, er, ?_⟩
      exact (zs_sumw hr (fun v w => ⟨w.1, w.2⟩) (fun v w => w.elim))
theorem zd_261 {σ0 : sn_S} {x3 : Int32} (h_x3 : zs_in x3.toInt 2 2) {x4 : Int32} (h_x4 : zs_in x4.toInt (-1) (-1)) {x6 : Int32} (h_x6 : zs_in x6.toInt 5 5) {x7 : Int32} (h_x7 : zs_in x7.toInt 0 0) {x8 : Int32} (h_x8 : zs_in x8.toInt 0 0) {s0 : (sn_S × Int32)} (h0 : (zs_C σ0 s0.1 ∧ zs_in (s0.2).toInt 0 5)) : zs_ok (sn_it (LX4_reckon_68 1 27 x3 x4 x6 x7 x8) 5000 s0) (fun t => zs_C σ0 t) := by
  refine zs_it (I := fun s => (zs_C σ0 s.1 ∧ zs_in (s.2).toInt 0 5)) (m := fun s => 5 - s.2.toInt) (fun s hs => ?_) (fun s hs => ?_) (by exact h0)
  · have h1 := hs.2; unfold zs_in at h1
    omega
  · obtain ⟨b, eb, hb⟩ := zc_1354 hs.1 h_x3 h_x4 h_x6 h_x7 h_x8 hs.2 (c := s.2.toInt) (Int.add_zero _).symm
    exact ⟨b, eb, zs_sumw hb (fun v w => ⟨⟨w.1.1, (zs_w w.1.2 (by decide))⟩, by have := w.2; omega⟩) (fun v w => w)⟩
-- BX3_moneyAt_44
theorem zc_1355 {σ0 : sn_S} {σ : sn_S} (h_σ : zs_C σ0 σ) {x1 : Int32} (h_x1 : zs_in x1.toInt 0 4) {x2 : Int32} {x3 : Int32} (h_x3 : zs_in x3.toInt 0 5) {c : Int} (hc : x3.toInt = c + 0) : zs_ok (BX3_moneyAt_44 σ 70 x1 x2 x3) (fun r => zs_sum (fun v => ((True ∧ zs_in (v.2).toInt 1 6)) ∧ v.2.toInt = c + 1) (fun v => False) r) := by
  unfold BX3_moneyAt_44
  refine zs_lt (Q := fun z => zs_in z.toInt 1 6 ∧ z.toInt = c + 1) ⟨(zs_addI 1 6 h_x3 zlI_1 (by decide)), (zs_syI 1 hc h_x3 zlI_1 (by decide) (by decide))⟩ (fun y_1 hy_1 => ?_)
  exact zs_some (zs_inl ⟨⟨trivial, hy_1.1⟩, hy_1.2⟩)
-- BX3_moneyAt_7
theorem zc_1356 {σ0 : sn_S} {σ : sn_S} (h_σ : zs_C σ0 σ) {x1 : Int32} (h_x1 : zs_in x1.toInt 0 4) {x2 : Int32} {x3 : Int32} (h_x3 : zs_in x3.toInt 0 6) {c : Int} (hc : x3.toInt = c + 0) : zs_ok (BX3_moneyAt_7 σ 70 x1 x2 x3) (fun r => zs_sum (fun v => ((True ∧ zs_in (v.2).toInt 1 6)) ∧ v.2.toInt = c + 1) (fun v => True) r) := by
  unfold BX3_moneyAt_7
  refine zs_ite (fun c1 => ?_) (fun c1 => ?_)
  · skip
    have r2 := (zs_I_le c1)
    exact zs_some (zs_inr (trivial))
  · skip
    have r3 := (zs_I_len c1)
    have g4 : zs_in (x3).toInt 0 5 := (zs_ltl 0 5 r3 h_x3 (zs_rdk (q := 70) (k := 2) (z := (0, 6)) h_σ.1 rfl) (by decide))
    have g5 : zs_in ((sn_I σ 70 2)).toInt 1 6 := (zs_ltr 1 6 r3 h_x3 (zs_rdk (q := 70) (k := 2) (z := (0, 6)) h_σ.1 rfl) (by decide))
    refine zs_gd (zs_gin g4 (by decide)) ?_
    refine zs_ite (fun c6 => ?_) (fun c6 => ?_)
    · skip
      have r7 := (zs_I_eq c6)
      have g8 : zs_in ((sn_I σ (70 + 2) x3.toNatClampNeg)).toInt (-1) (-1) := (zs_eql (-1) (-1) r7 (zs_rdu (q := 72) (z := ((-1), 63)) h_σ.1 (fun _ => rfl)) zlI_m1 (by decide))
      obtain ⟨ret, er, hr⟩ := zc_1355 h_σ h_x1 g4 hc
      refine ⟨ret, er, ?_⟩
      exact (zs_sumw hr (fun v w => ⟨w.1, w.2⟩) (fun v w => w.elim))
    · skip
      have r9 := (zs_I_eqn c6)
      have g10 : zs_in ((sn_I σ (70 + 2) x3.toNatClampNeg)).toInt 0 63 := (zs_nel 0 63 r9 (zs_rdu (q := 72) (z := ((-1), 63)) h_σ.1 (fun _ => rfl)) zlI_m1 (by decide))
      refine zs_gd (zs_gin g4 (by decide)) ?_
      refine zs_ite (fun c11 => ?_) (fun c11 => ?_)
      · skip
        have r12 := (zs_I_lt c11)
        have g13 : zs_in ((sn_I σ (70 + 2) x3.toNatClampNeg)).toInt 1 63 := (zs_ltr 1 63 r12 h_x1 g10 (by decide))
        obtain ⟨ret, er, hr⟩ := zc_1355 h_σ h_x1 g4 hc
        refine ⟨ret, er, ?_⟩
        exact (zs_sumw hr (fun v w => ⟨w.1, w.2⟩) (fun v w => w.elim))
      · skip
        have r14 := (zs_I_ltn c11)
        have g15 : zs_in ((sn_I σ (70 + 2) x3.toNatClampNeg)).toInt 0 4 := (zs_lel 0 4 r14 g10 h_x1 (by decide))
        refine zs_gd (zs_gin g4 (by decide)) ?_
        refine zs_lt (Q := fun z => True) trivial (fun y_7 hy_7 => ?_)
        obtain ⟨ret, er, hr⟩ := zc_1355 h_σ h_x1 g4 hc
        refine ⟨ret, er, ?_⟩
        exact (zs_sumw hr (fun v w => ⟨w.1, w.2⟩) (fun v w => w.elim))
theorem zd_262 {σ0 : sn_S} {σ : sn_S} (h_σ : zs_C σ0 σ) {x1 : Int32} (h_x1 : zs_in x1.toInt 0 4) {s0 : (Int32 × Int32)} (h0 : (True ∧ zs_in (s0.2).toInt 0 6)) : zs_ok (sn_it (LX3_moneyAt_7 σ 70 x1) 5000 s0) (fun t => True) := by
  refine zs_it (I := fun s => (True ∧ zs_in (s.2).toInt 0 6)) (m := fun s => 6 - s.2.toInt) (fun s hs => ?_) (fun s hs => ?_) (by exact h0)
  · have h1 := hs.2; unfold zs_in at h1
    omega
  · obtain ⟨b, eb, hb⟩ := zc_1356 h_σ h_x1 hs.2 (c := s.2.toInt) (Int.add_zero _).symm
    exact ⟨b, eb, zs_sumw hb (fun v w => ⟨⟨w.1.1, (zs_w w.1.2 (by decide))⟩, by have := w.2; omega⟩) (fun v w => w)⟩
-- fX3_moneyAt
theorem zc_1357 {σ0 : sn_S} {σ : sn_S} (h_σ : zs_C σ0 σ) {x1 : Int32} (h_x1 : zs_in x1.toInt 0 4) : zs_ok (fX3_moneyAt σ 70 x1) (fun r => True) := by
  unfold fX3_moneyAt
  refine zs_lt (Q := fun z => True) trivial (fun y_1 hy_1 => ?_)
  refine zs_bd_ (zd_262 h_σ h_x1 (s0 := (y_1, (0 : Int32))) ⟨trivial, (zs_w zlI_0 (by decide))⟩) (fun t_3 pt_3 => ?_)
  obtain ⟨ret, er, hr⟩ := zc_1266 h_σ
  refine ⟨ret, er, ?_⟩
  exact hr
-- BX3_firstBelow_2
theorem zc_1358 {σ0 : sn_S} {σ : sn_S} (h_σ : zs_C σ0 σ) {x1 : Int32} (h_x1 : zs_in x1.toInt 5 5) {x2 : Int32} (h_x2 : zs_in x2.toInt 0 5) {c : Int} (hc : x2.toInt = c + 0) : zs_ok (BX3_firstBelow_2 σ 70 x1 x2) (fun r => zs_sum (fun v => (zs_in (v).toInt 1 5) ∧ v.toInt = c + 1) (fun v => zs_sum (fun v => True) (fun v => zs_in (v).toInt 0 4) v) r) := by
  unfold BX3_firstBelow_2
  obtain rfl : x1 = (5 : Int32) := zs_eqv h_x1 (by decide)
  refine zs_ite (fun c1 => ?_) (fun c1 => ?_)
  · skip
    have r2 := (zs_I_le c1)
    have g3 : zs_in (x2).toInt 5 5 := (zs_ler 5 5 r2 h_x1 h_x2 (by decide))
    exact zs_some (zs_inr ((zs_inl (trivial))))
  · skip
    have r4 := (zs_I_len c1)
    have g5 : zs_in (x2).toInt 0 4 := (zs_ltl 0 4 r4 h_x2 h_x1 (by decide))
    refine zs_bd_ (zc_1357 h_σ g5) (fun t_2 pt_2 => ?_)
    refine zs_ite (fun c6 => ?_) (fun c6 => ?_)
    · skip
      have r7 := (zs_I_le c6)
      have g8 : zs_in (t_2).toInt 0 2147483647 := (zs_ler 0 2147483647 r7 zlI_0 (zs_topI _) (by decide))
      refine zs_lt (Q := fun z => zs_in z.toInt 1 5 ∧ z.toInt = c + 1) ⟨(zs_addI 1 5 g5 zlI_1 (by decide)), (zs_syI 1 hc g5 zlI_1 (by decide) (by decide))⟩ (fun y_5 hy_5 => ?_)
      exact zs_some (zs_inl ⟨hy_5.1, hy_5.2⟩)
    · skip
      have r9 := (zs_I_len c6)
      have g10 : zs_in (t_2).toInt (-2147483648) (-1) := (zs_ltl (-2147483648) (-1) r9 (zs_topI _) zlI_0 (by decide))
      exact zs_some (zs_inr ((zs_inr (g5))))
theorem zd_263 {σ0 : sn_S} {σ : sn_S} (h_σ : zs_C σ0 σ) {x1 : Int32} (h_x1 : zs_in x1.toInt 5 5) {s0 : Int32} (h0 : zs_in (s0).toInt 0 5) : zs_ok (sn_it (LX3_firstBelow_2 σ 70 x1) 5000 s0) (fun t => zs_sum (fun v => True) (fun v => zs_in (v).toInt 0 4) t) := by
  refine zs_it (I := fun s => zs_in (s).toInt 0 5) (m := fun s => 5 - s.toInt) (fun s hs => ?_) (fun s hs => ?_) (by exact h0)
  · have h1 := hs; unfold zs_in at h1
    omega
  · obtain ⟨b, eb, hb⟩ := zc_1358 h_σ h_x1 hs (c := s.toInt) (Int.add_zero _).symm
    exact ⟨b, eb, zs_sumw hb (fun v w => ⟨(zs_w w.1 (by decide)), by have := w.2; omega⟩) (fun v w => w)⟩
-- fX3_firstBelow
theorem zc_1359 {σ0 : sn_S} {σ : sn_S} (h_σ : zs_C σ0 σ) {x1 : Int32} (h_x1 : zs_in x1.toInt 5 5) : zs_ok (fX3_firstBelow σ 70 x1) (fun r => zs_in (r).toInt (-1) 4) := by
  unfold fX3_firstBelow
  obtain rfl : x1 = (5 : Int32) := zs_eqv h_x1 (by decide)
  refine zs_bd_ (zd_263 h_σ h_x1 (s0 := (0 : Int32)) (zs_w zlI_0 (by decide))) (fun t_1 pt_1 => ?_)
  refine zs_elim pt_1 (fun v_3 pv_3 => ?_) (fun r_4 pr_4 => ?_)
  · skip
    obtain ⟨ret, er, hr⟩ := zc_1269 h_σ
    refine ⟨ret, er, ?_⟩
    exact (zs_w hr (by decide))
  · skip
    exact zs_some (zs_w pr_4 (by decide))
-- fX4_worth
theorem zc_1360 {σ0 : sn_S} {σ : sn_S} (h_σ : zs_C σ0 σ) {x2 : Int32} (h_x2 : zs_in x2.toInt 2 2) {x3 : Int32} (h_x3 : zs_in x3.toInt (-1) (-1)) {x4 : Int32} (h_x4 : zs_in x4.toInt 5 5) : zs_ok (fX4_worth σ 1 x2 x3 x4) (fun r => (zs_in (r.1).toInt 0 1 ∧ zs_C σ0 r.2)) := by
  unfold fX4_worth
  obtain rfl : x2 = (2 : Int32) := zs_eqv h_x2 (by decide)
  obtain rfl : x3 = (-1 : Int32) := zs_eqv h_x3 (by decide)
  obtain rfl : x4 = (5 : Int32) := zs_eqv h_x4 (by decide)
  refine zs_ite (fun c1 => ?_) (fun c1 => ?_)
  · skip
    have r2 := (zs_I_eq c1)
    exact (zs_botr r2 h_x2 zlI_0 (by decide)).elim
  · skip
    have r3 := (zs_I_eqn c1)
    refine zs_gd (zs_gin zlI_2 (by decide)) ?_
    refine zs_bd_ (zo_reckon_70_59_0_3 h_σ (zs_rdk (q := 2) (k := (2 : Int32).toNatClampNeg) (z := (0, 3)) h_σ.1 rfl)) (fun t_3 pt_3 => ?_)
    refine zs_ite (fun c4 => ?_) (fun c4 => ?_)
    · skip
      have r5 := (zs_I_eq c4)
      exact (zs_botr r5 h_x2 zlI_1 (by decide)).elim
    · skip
      have r6 := (zs_I_eqn c4)
      refine zs_bd_ (zc_1359 pt_3 h_x4) (fun t_6 pt_6 => ?_)
      refine zs_ite (fun c7 => ?_) (fun c7 => ?_)
      · skip
        have r8 := (zs_I_eq c7)
        have g9 : zs_in (t_6).toInt (-1) (-1) := (zs_eql (-1) (-1) r8 pt_6 zlI_m1 (by decide))
        exact zs_some ⟨(zs_w zlL_0 (by decide)), pt_3⟩
      · skip
        have r10 := (zs_I_eqn c7)
        have g11 : zs_in (t_6).toInt 0 4 := (zs_nel 0 4 r10 pt_6 zlI_m1 (by decide))
        exact zs_some ⟨(zs_w zlL_1 (by decide)), pt_3⟩
-- BX4_reckon_139
theorem zc_1361 {σ0 : sn_S} {σ : sn_S} (h_σ : zs_C σ0 σ) {x3 : Int32} (h_x3 : zs_in x3.toInt 2 2) {x4 : Int32} (h_x4 : zs_in x4.toInt (-1) (-1)) {x6 : Int32} (h_x6 : zs_in x6.toInt 5 5) {x7 : Int32} (h_x7 : zs_in x7.toInt 0 0) {t1 : Int32} (h_t1 : zs_in t1.toInt 0 0) {t2 : Int32} (h_t2 : zs_in t2.toInt 0 30) {c : Int} (hc : x7.toInt = c + 0) : zs_ok (BX4_reckon_139 σ 1 27 x3 x4 x6 x7 t1 t2) (fun r => zs_sum (fun v => ((zs_C σ0 v.1 ∧ zs_in (v.2).toInt 1 1)) ∧ v.2.toInt = c + 1) (fun v => False) r) := by
  unfold BX4_reckon_139
  obtain rfl : x3 = (2 : Int32) := zs_eqv h_x3 (by decide)
  obtain rfl : x4 = (-1 : Int32) := zs_eqv h_x4 (by decide)
  obtain rfl : x6 = (5 : Int32) := zs_eqv h_x6 (by decide)
  obtain rfl : t1 = (0 : Int32) := zs_eqv h_t1 (by decide)
  refine zs_bd_ (zc_1263 h_σ h_t1 h_t2) (fun t_1 pt_1 => ?_)
  refine zs_bd_ (zo_bc 0 0 (by decide) h_x7) (fun t_3 pt_3 => ?_)
  refine zs_gd (zs_gin pt_3 (by decide)) ?_
  refine zs_bd_ (zc_1360 pt_1 h_x3 h_x4 h_x6) (fun t_6 pt_6 => ?_)
  refine zs_lt (Q := fun z => zs_C σ0 z) (zs_wrL pt_6.2 rfl) (fun σ_8 hσ_8 => ?_)
  refine zs_lt (Q := fun z => zs_in z.toInt 1 1 ∧ z.toInt = c + 1) ⟨(zs_addI 1 1 h_x7 zlI_1 (by decide)), (zs_syI 1 hc h_x7 zlI_1 (by decide) (by decide))⟩ (fun y_10 hy_10 => ?_)
  exact zs_some (zs_inl ⟨⟨hσ_8, hy_10.1⟩, hy_10.2⟩)
-- BX4_reckon_119
theorem zc_1362 {σ0 : sn_S} {σ : sn_S} (h_σ : zs_C σ0 σ) {x3 : Int32} (h_x3 : zs_in x3.toInt 2 2) {x4 : Int32} (h_x4 : zs_in x4.toInt (-1) (-1)) {x6 : Int32} (h_x6 : zs_in x6.toInt 5 5) {x7 : Int32} (h_x7 : zs_in x7.toInt 0 0) {x8 : Int32} (h_x8 : zs_in x8.toInt 0 0) {c : Int} (hc : x7.toInt = c + 0) : zs_ok (BX4_reckon_119 σ 1 27 x3 x4 x6 x7 x8) (fun r => zs_sum (fun v => ((zs_C σ0 v.1 ∧ zs_in (v.2).toInt 1 1)) ∧ v.2.toInt = c + 1) (fun v => False) r) := by
  unfold BX4_reckon_119
  obtain rfl : x3 = (2 : Int32) := zs_eqv h_x3 (by decide)
  obtain rfl : x4 = (-1 : Int32) := zs_eqv h_x4 (by decide)
  obtain rfl : x6 = (5 : Int32) := zs_eqv h_x6 (by decide)
  obtain rfl : x8 = (0 : Int32) := zs_eqv h_x8 (by decide)
  refine zs_ite (fun c1 => ?_) (fun c1 => ?_)
  · skip
    have r2 := (zs_I_eq c1)
    obtain ⟨ret, er, hr⟩ := zc_1361 h_σ h_x3 h_x4 h_x6 h_x7 h_x8 (zs_rdk (q := 27) (k := 0) (z := (0, 30)) h_σ.1 rfl) hc
    refine ⟨ret, er, ?_⟩
    exact (zs_sumw hr (fun v w => ⟨w.1, w.2⟩) (fun v w => w.elim))
  · skip
    have r3 := (zs_I_eqn c1)
    exact (zs_botne r3 h_x3 zlI_2 (by decide)).elim
-- BX4_reckon_62
theorem zc_1363 {σ0 : sn_S} {σ : sn_S} (h_σ : zs_C σ0 σ) {x3 : Int32} (h_x3 : zs_in x3.toInt 2 2) {x4 : Int32} (h_x4 : zs_in x4.toInt (-1) (-1)) {x6 : Int32} (h_x6 : zs_in x6.toInt 5 5) {x7 : Int32} (h_x7 : zs_in x7.toInt 0 0) {t0 : Int32} (h_t0 : zs_in t0.toInt 0 0) {c : Int} (hc : x7.toInt = c + 0) : zs_ok (BX4_reckon_62 σ 1 27 x3 x4 x6 x7 t0) (fun r => zs_sum (fun v => ((zs_C σ0 v.1 ∧ zs_in (v.2).toInt 1 1)) ∧ v.2.toInt = c + 1) (fun v => False) r) := by
  unfold BX4_reckon_62
  obtain rfl : x3 = (2 : Int32) := zs_eqv h_x3 (by decide)
  obtain rfl : x4 = (-1 : Int32) := zs_eqv h_x4 (by decide)
  obtain rfl : x6 = (5 : Int32) := zs_eqv h_x6 (by decide)
  obtain rfl : t0 = (0 : Int32) := zs_eqv h_t0 (by decide)
  refine zs_bd_ (zd_261 h_x3 h_x4 h_x6 h_x7 h_t0 (s0 := (σ, (0 : Int32))) ⟨h_σ, (zs_w h_t0 (by decide))⟩) (fun t_1 pt_1 => ?_)
  obtain ⟨ret, er, hr⟩ := zc_1362 pt_1 h_x3 h_x4 h_x6 h_x7 h_t0 hc
  refine ⟨ret, er, ?_⟩
  exact (zs_sumw hr (fun v w => ⟨w.1, w.2⟩) (fun v w => w.elim))
-- BX4_reckon_111
theorem zc_1364 {σ0 : sn_S} {σ : sn_S} (h_σ : zs_C σ0 σ) {x3 : Int32} (h_x3 : zs_in x3.toInt 2 2) {x4 : Int32} (h_x4 : zs_in x4.toInt (-1) (-1)) {x6 : Int32} (h_x6 : zs_in x6.toInt 5 5) {x7 : Int32} (h_x7 : zs_in x7.toInt 1 31) {x8 : Int32} (h_x8 : zs_in x8.toInt 0 4) {x9 : Int32} (h_x9 : zs_in x9.toInt 0 4) {t1 : Int32} (h_t1 : zs_in t1.toInt 0 4) {t2 : Int32} {t3 : Int32} (h_t3 : zs_in t3.toInt 0 0) {c : Int} (hc : x9.toInt = c + 0) : zs_ok (BX4_reckon_111 σ 1 27 x3 x4 x6 x7 x8 x9 t1 t2 t3) (fun r => zs_sum (fun v => ((zs_C σ0 v.1 ∧ zs_in (v.2).toInt 1 5)) ∧ v.2.toInt = c + 1) (fun v => False) r) := by
  unfold BX4_reckon_111
  obtain rfl : x3 = (2 : Int32) := zs_eqv h_x3 (by decide)
  obtain rfl : x4 = (-1 : Int32) := zs_eqv h_x4 (by decide)
  obtain rfl : x6 = (5 : Int32) := zs_eqv h_x6 (by decide)
  obtain rfl : t3 = (0 : Int32) := zs_eqv h_t3 (by decide)
  refine zs_gd (zs_gin h_t1 (by decide)) ?_
  refine zs_lt (Q := fun z => zs_C σ0 z) (zs_wrt h_σ (fun _ => rfl) (fun _ => rfl)) (fun σ_2 hσ_2 => ?_)
  refine zs_lt (Q := fun z => zs_in z.toInt 1 5 ∧ z.toInt = c + 1) ⟨(zs_addI 1 5 h_x9 zlI_1 (by decide)), (zs_syI 1 hc h_x9 zlI_1 (by decide) (by decide))⟩ (fun y_4 hy_4 => ?_)
  exact zs_some (zs_inl ⟨⟨hσ_2, hy_4.1⟩, hy_4.2⟩)
-- BX4_reckon_111
theorem zc_1365 {σ0 : sn_S} {σ : sn_S} (h_σ : zs_C σ0 σ) {x3 : Int32} (h_x3 : zs_in x3.toInt 2 2) {x4 : Int32} (h_x4 : zs_in x4.toInt (-1) (-1)) {x6 : Int32} (h_x6 : zs_in x6.toInt 5 5) {x7 : Int32} (h_x7 : zs_in x7.toInt 1 31) {x8 : Int32} (h_x8 : zs_in x8.toInt 0 4) {x9 : Int32} (h_x9 : zs_in x9.toInt 0 4) {t1 : Int32} (h_t1 : zs_in t1.toInt 0 4) {t2 : Int32} {t3 : Int32} (h_t3 : zs_in t3.toInt 3 3) {c : Int} (hc : x9.toInt = c + 0) : zs_ok (BX4_reckon_111 σ 1 27 x3 x4 x6 x7 x8 x9 t1 t2 t3) (fun r => zs_sum (fun v => ((zs_C σ0 v.1 ∧ zs_in (v.2).toInt 1 5)) ∧ v.2.toInt = c + 1) (fun v => False) r) := by
  unfold BX4_reckon_111
  obtain rfl : x3 = (2 : Int32) := zs_eqv h_x3 (by decide)
  obtain rfl : x4 = (-1 : Int32) := zs_eqv h_x4 (by decide)
  obtain rfl : x6 = (5 : Int32) := zs_eqv h_x6 (by decide)
  obtain rfl : t3 = (3 : Int32) := zs_eqv h_t3 (by decide)
  refine zs_gd (zs_gin h_t1 (by decide)) ?_
  refine zs_lt (Q := fun z => zs_C σ0 z) (zs_wrt h_σ (fun _ => rfl) (fun _ => rfl)) (fun σ_2 hσ_2 => ?_)
  refine zs_lt (Q := fun z => zs_in z.toInt 1 5 ∧ z.toInt = c + 1) ⟨(zs_addI 1 5 h_x9 zlI_1 (by decide)), (zs_syI 1 hc h_x9 zlI_1 (by decide) (by decide))⟩ (fun y_4 hy_4 => ?_)
  exact zs_some (zs_inl ⟨⟨hσ_2, hy_4.1⟩, hy_4.2⟩)
-- BX4_reckon_68
theorem zc_1366 {σ0 : sn_S} {σ : sn_S} (h_σ : zs_C σ0 σ) {x3 : Int32} (h_x3 : zs_in x3.toInt 2 2) {x4 : Int32} (h_x4 : zs_in x4.toInt (-1) (-1)) {x6 : Int32} (h_x6 : zs_in x6.toInt 5 5) {x7 : Int32} (h_x7 : zs_in x7.toInt 1 31) {x8 : Int32} (h_x8 : zs_in x8.toInt 0 4) {x9 : Int32} (h_x9 : zs_in x9.toInt 0 5) {c : Int} (hc : x9.toInt = c + 0) : zs_ok (BX4_reckon_68 σ 1 27 x3 x4 x6 x7 x8 x9) (fun r => zs_sum (fun v => ((zs_C σ0 v.1 ∧ zs_in (v.2).toInt 1 5)) ∧ v.2.toInt = c + 1) (fun v => zs_C σ0 v) r) := by
  unfold BX4_reckon_68
  obtain rfl : x3 = (2 : Int32) := zs_eqv h_x3 (by decide)
  obtain rfl : x4 = (-1 : Int32) := zs_eqv h_x4 (by decide)
  obtain rfl : x6 = (5 : Int32) := zs_eqv h_x6 (by decide)
  refine zs_ite (fun c1 => ?_) (fun c1 => ?_)
  · skip
    have r2 := (zs_I_le c1)
    have g3 : zs_in (x9).toInt 5 5 := (zs_ler 5 5 r2 h_x6 h_x9 (by decide))
    exact zs_some (zs_inr (h_σ))
  · skip
    have r4 := (zs_I_len c1)
    have g5 : zs_in (x9).toInt 0 4 := (zs_ltl 0 4 r4 h_x9 h_x6 (by decide))
    refine zs_gd (zs_gin g5 (by decide)) ?_
    refine zs_bd_ (zc_929 h_x7 (zs_subI 0 4 (zs_subI 4 4 h_x6 zlI_1 (by decide)) g5 (by decide))) (fun t_3 pt_3 => ?_)
    refine zs_ite (fun c6 => ?_) (fun c6 => ?_)
    · skip
      have r7 := (zs_I_eq c6)
      have g8 : zs_in (t_3).toInt 0 0 := (zs_eql 0 0 r7 pt_3 zlI_0 (by decide))
      obtain ⟨ret, er, hr⟩ := zc_1364 h_σ h_x3 h_x4 h_x6 h_x7 h_x8 g5 g5 zlI_0 hc
      refine ⟨ret, er, ?_⟩
      exact (zs_sumw hr (fun v w => ⟨w.1, w.2⟩) (fun v w => w.elim))
    · skip
      have r9 := (zs_I_eqn c6)
      have g10 : zs_in (t_3).toInt 1 1 := (zs_nel 1 1 r9 pt_3 zlI_0 (by decide))
      obtain ⟨ret, er, hr⟩ := zc_1365 h_σ h_x3 h_x4 h_x6 h_x7 h_x8 g5 g5 zlI_3 hc
      refine ⟨ret, er, ?_⟩
      exact (zs_sumw hr (fun v w => ⟨w.1, w.2⟩) (fun v w => w.elim))
theorem zd_264 {σ0 : sn_S} {x3 : Int32} (h_x3 : zs_in x3.toInt 2 2) {x4 : Int32} (h_x4 : zs_in x4.toInt (-1) (-1)) {x6 : Int32} (h_x6 : zs_in x6.toInt 5 5) {x7 : Int32} (h_x7 : zs_in x7.toInt 1 31) {x8 : Int32} (h_x8 : zs_in x8.toInt 0 4) {s0 : (sn_S × Int32)} (h0 : (zs_C σ0 s0.1 ∧ zs_in (s0.2).toInt 0 5)) : zs_ok (sn_it (LX4_reckon_68 1 27 x3 x4 x6 x7 x8) 5000 s0) (fun t => zs_C σ0 t) := by
  refine zs_it (I := fun s => (zs_C σ0 s.1 ∧ zs_in (s.2).toInt 0 5)) (m := fun s => 5 - s.2.toInt) (fun s hs => ?_) (fun s hs => ?_) (by exact h0)
  · have h1 := hs.2; unfold zs_in at h1
    omega
  · obtain ⟨b, eb, hb⟩ := zc_1366 hs.1 h_x3 h_x4 h_x6 h_x7 h_x8 hs.2 (c := s.2.toInt) (Int.add_zero _).symm
    exact ⟨b, eb, zs_sumw hb (fun v w => ⟨⟨w.1.1, (zs_w w.1.2 (by decide))⟩, by have := w.2; omega⟩) (fun v w => w)⟩
-- BX0_live_2
theorem zc_1367 {σ0 : sn_S} {σ : sn_S} (h_σ : zs_C σ0 σ) {x1 : Int32} (h_x1 : zs_in x1.toInt 0 4) {x2 : Int32} (h_x2 : zs_in x2.toInt 0 30) {x3 : Int32} (h_x3 : zs_in x3.toInt 0 6) {c : Int} (hc : x3.toInt = c + 0) : zs_ok (BX0_live_2 σ 59 x1 x2 x3) (fun r => zs_sum (fun v => ((zs_C σ0 v.1 ∧ zs_in (v.2).toInt 1 6)) ∧ v.2.toInt = c + 1) (fun v => zs_C σ0 v) r) := by
  unfold BX0_live_2
  refine zs_ite (fun c1 => ?_) (fun c1 => ?_)
  · skip
    have r2 := (zs_I_le c1)
    exact zs_some (zs_inr (h_σ))
  · skip
    have r3 := (zs_I_len c1)
    have g4 : zs_in (x3).toInt 0 5 := (zs_ltl 0 5 r3 h_x3 (zs_rdk (q := 59) (k := 1) (z := (0, 6)) h_σ.1 rfl) (by decide))
    have g5 : zs_in ((sn_I σ 59 1)).toInt 1 6 := (zs_ltr 1 6 r3 h_x3 (zs_rdk (q := 59) (k := 1) (z := (0, 6)) h_σ.1 rfl) (by decide))
    refine zs_gd (zs_gin g4 (by decide)) ?_
    refine zs_bd_ (zc_933 h_x1) (fun t_3 pt_3 => ?_)
    refine zs_gd (zs_gin g4 (by decide)) ?_
    refine zs_lt (Q := fun z => zs_C σ0 z) (zs_wru (z := (0, 1073741823)) h_σ (fun _ => rfl) (zs_and pt_3 (by decide)) (by decide) (fun _ => rfl)) (fun σ_6 hσ_6 => ?_)
    refine zs_lt (Q := fun z => zs_in z.toInt 1 6 ∧ z.toInt = c + 1) ⟨(zs_addI 1 6 g4 zlI_1 (by decide)), (zs_syI 1 hc g4 zlI_1 (by decide) (by decide))⟩ (fun y_8 hy_8 => ?_)
    exact zs_some (zs_inl ⟨⟨hσ_6, hy_8.1⟩, hy_8.2⟩)
theorem zd_265 {σ0 : sn_S} {x1 : Int32} (h_x1 : zs_in x1.toInt 0 4) {x2 : Int32} (h_x2 : zs_in x2.toInt 0 30) {s0 : (sn_S × Int32)} (h0 : (zs_C σ0 s0.1 ∧ zs_in (s0.2).toInt 0 6)) : zs_ok (sn_it (LX0_live_2 59 x1 x2) 5000 s0) (fun t => zs_C σ0 t) := by
  refine zs_it (I := fun s => (zs_C σ0 s.1 ∧ zs_in (s.2).toInt 0 6)) (m := fun s => 6 - s.2.toInt) (fun s hs => ?_) (fun s hs => ?_) (by exact h0)
  · have h1 := hs.2; unfold zs_in at h1
    omega
  · obtain ⟨b, eb, hb⟩ := zc_1367 hs.1 h_x1 h_x2 hs.2 (c := s.2.toInt) (Int.add_zero _).symm
    exact ⟨b, eb, zs_sumw hb (fun v w => ⟨⟨w.1.1, (zs_w w.1.2 (by decide))⟩, by have := w.2; omega⟩) (fun v w => w)⟩
-- BX0_live_29
theorem zc_1368 {σ0 : sn_S} {σ : sn_S} (h_σ : zs_C σ0 σ) {x1 : Int32} (h_x1 : zs_in x1.toInt 0 4) {x2 : Int32} (h_x2 : zs_in x2.toInt 0 30) : zs_ok (BX0_live_29 σ 59 x1 x2) (fun r => zs_C σ0 r) := by
  unfold BX0_live_29
  refine zs_bd_ (zd_238 h_x2 (s0 := (σ, x1)) ⟨h_σ, (zs_w h_x1 (by decide))⟩) (fun t_1 pt_1 => ?_)
  obtain ⟨ret, er, hr⟩ := zc_697 pt_1
  refine ⟨ret, er, ?_⟩
  exact hr
-- fX0_live
theorem zc_1369 {σ0 : sn_S} {σ : sn_S} (h_σ : zs_C σ0 σ) {x1 : Int32} (h_x1 : zs_in x1.toInt 0 4) {x2 : Int32} (h_x2 : zs_in x2.toInt 0 30) : zs_ok (fX0_live σ 59 x1 x2) (fun r => zs_C σ0 r) := by
  unfold fX0_live
  refine zs_bd_ (zd_265 h_x1 h_x2 (s0 := (σ, (0 : Int32))) ⟨h_σ, (zs_w zlI_0 (by decide))⟩) (fun t_1 pt_1 => ?_)
  obtain ⟨ret, er, hr⟩ := zc_1368 pt_1 h_x1 h_x2
  refine ⟨ret, er, ?_⟩
  exact hr
-- BX4_reckon_139
theorem zc_1370 {σ0 : sn_S} {σ : sn_S} (h_σ : zs_C σ0 σ) {x3 : Int32} (h_x3 : zs_in x3.toInt 2 2) {x4 : Int32} (h_x4 : zs_in x4.toInt (-1) (-1)) {x6 : Int32} (h_x6 : zs_in x6.toInt 5 5) {x7 : Int32} (h_x7 : zs_in x7.toInt 1 31) {t1 : Int32} (h_t1 : zs_in t1.toInt 0 4) {t2 : Int32} (h_t2 : zs_in t2.toInt 0 30) {c : Int} (hc : x7.toInt = c + 0) : zs_ok (BX4_reckon_139 σ 1 27 x3 x4 x6 x7 t1 t2) (fun r => zs_sum (fun v => ((zs_C σ0 v.1 ∧ zs_in (v.2).toInt 2 32)) ∧ v.2.toInt = c + 1) (fun v => False) r) := by
  unfold BX4_reckon_139
  obtain rfl : x3 = (2 : Int32) := zs_eqv h_x3 (by decide)
  obtain rfl : x4 = (-1 : Int32) := zs_eqv h_x4 (by decide)
  obtain rfl : x6 = (5 : Int32) := zs_eqv h_x6 (by decide)
  refine zs_bd_ (zc_1369 h_σ h_t1 h_t2) (fun t_1 pt_1 => ?_)
  refine zs_bd_ (zo_bc 5 5 (by decide) h_x7) (fun t_3 pt_3 => ?_)
  refine zs_gd (zs_gin pt_3 (by decide)) ?_
  refine zs_bd_ (zc_1360 pt_1 h_x3 h_x4 h_x6) (fun t_6 pt_6 => ?_)
  refine zs_lt (Q := fun z => zs_C σ0 z) (zs_wrL pt_6.2 rfl) (fun σ_8 hσ_8 => ?_)
  refine zs_lt (Q := fun z => zs_in z.toInt 2 32 ∧ z.toInt = c + 1) ⟨(zs_addI 2 32 h_x7 zlI_1 (by decide)), (zs_syI 1 hc h_x7 zlI_1 (by decide) (by decide))⟩ (fun y_10 hy_10 => ?_)
  exact zs_some (zs_inl ⟨⟨hσ_8, hy_10.1⟩, hy_10.2⟩)
-- BX4_reckon_119
theorem zc_1371 {σ0 : sn_S} {σ : sn_S} (h_σ : zs_C σ0 σ) {x3 : Int32} (h_x3 : zs_in x3.toInt 2 2) {x4 : Int32} (h_x4 : zs_in x4.toInt (-1) (-1)) {x6 : Int32} (h_x6 : zs_in x6.toInt 5 5) {x7 : Int32} (h_x7 : zs_in x7.toInt 1 31) {x8 : Int32} (h_x8 : zs_in x8.toInt 0 4) {c : Int} (hc : x7.toInt = c + 0) : zs_ok (BX4_reckon_119 σ 1 27 x3 x4 x6 x7 x8) (fun r => zs_sum (fun v => ((zs_C σ0 v.1 ∧ zs_in (v.2).toInt 2 32)) ∧ v.2.toInt = c + 1) (fun v => False) r) := by
  unfold BX4_reckon_119
  obtain rfl : x3 = (2 : Int32) := zs_eqv h_x3 (by decide)
  obtain rfl : x4 = (-1 : Int32) := zs_eqv h_x4 (by decide)
  obtain rfl : x6 = (5 : Int32) := zs_eqv h_x6 (by decide)
  refine zs_ite (fun c1 => ?_) (fun c1 => ?_)
  · skip
    have r2 := (zs_I_eq c1)
    obtain ⟨ret, er, hr⟩ := zc_1370 h_σ h_x3 h_x4 h_x6 h_x7 h_x8 (zs_rdk (q := 27) (k := 0) (z := (0, 30)) h_σ.1 rfl) hc
    refine ⟨ret, er, ?_⟩
    exact (zs_sumw hr (fun v w => ⟨w.1, w.2⟩) (fun v w => w.elim))
  · skip
    have r3 := (zs_I_eqn c1)
    exact (zs_botne r3 h_x3 zlI_2 (by decide)).elim
-- BX4_reckon_62
theorem zc_1372 {σ0 : sn_S} {σ : sn_S} (h_σ : zs_C σ0 σ) {x3 : Int32} (h_x3 : zs_in x3.toInt 2 2) {x4 : Int32} (h_x4 : zs_in x4.toInt (-1) (-1)) {x6 : Int32} (h_x6 : zs_in x6.toInt 5 5) {x7 : Int32} (h_x7 : zs_in x7.toInt 1 31) {t0 : Int32} (h_t0 : zs_in t0.toInt 0 4) {c : Int} (hc : x7.toInt = c + 0) : zs_ok (BX4_reckon_62 σ 1 27 x3 x4 x6 x7 t0) (fun r => zs_sum (fun v => ((zs_C σ0 v.1 ∧ zs_in (v.2).toInt 2 32)) ∧ v.2.toInt = c + 1) (fun v => False) r) := by
  unfold BX4_reckon_62
  obtain rfl : x3 = (2 : Int32) := zs_eqv h_x3 (by decide)
  obtain rfl : x4 = (-1 : Int32) := zs_eqv h_x4 (by decide)
  obtain rfl : x6 = (5 : Int32) := zs_eqv h_x6 (by decide)
  refine zs_bd_ (zd_264 h_x3 h_x4 h_x6 h_x7 h_t0 (s0 := (σ, t0)) ⟨h_σ, (zs_w h_t0 (by decide))⟩) (fun t_1 pt_1 => ?_)
  obtain ⟨ret, er, hr⟩ := zc_1371 pt_1 h_x3 h_x4 h_x6 h_x7 h_t0 hc
  refine ⟨ret, er, ?_⟩
  exact (zs_sumw hr (fun v w => ⟨w.1, w.2⟩) (fun v w => w.elim))
-- BX4_reckon_34
theorem zc_1373 {σ0 : sn_S} {σ : sn_S} (h_σ : zs_C σ0 σ) {x3 : Int32} (h_x3 : zs_in x3.toInt 2 2) {x4 : Int32} (h_x4 : zs_in x4.toInt (-1) (-1)) {x6 : Int32} (h_x6 : zs_in x6.toInt 5 5) {x7 : Int32} (h_x7 : zs_in x7.toInt 0 32) {c : Int} (hc : x7.toInt = c + 0) : zs_ok (BX4_reckon_34 σ 1 27 x3 x4 x6 x7) (fun r => zs_sum (fun v => ((zs_C σ0 v.1 ∧ zs_in (v.2).toInt 1 32)) ∧ v.2.toInt = c + 1) (fun v => zs_C σ0 v) r) := by
  unfold BX4_reckon_34
  obtain rfl : x3 = (2 : Int32) := zs_eqv h_x3 (by decide)
  obtain rfl : x4 = (-1 : Int32) := zs_eqv h_x4 (by decide)
  obtain rfl : x6 = (5 : Int32) := zs_eqv h_x6 (by decide)
  refine zs_ite (fun c1 => ?_) (fun c1 => ?_)
  · skip
    have r2 := (zs_I_le c1)
    have g3 : zs_in (x7).toInt 32 32 := (zs_ler 32 32 r2 (zs_cases h_x6 (fun z => zs_in ((1 : Int32) <<< (z &&& 31)).toInt 32 32) (by decide +kernel)) h_x7 (by decide))
    exact zs_some (zs_inr (h_σ))
  · skip
    have r4 := (zs_I_len c1)
    have g5 : zs_in (x7).toInt 0 31 := (zs_ltl 0 31 r4 h_x7 (zs_cases h_x6 (fun z => zs_in ((1 : Int32) <<< (z &&& 31)).toInt 32 32) (by decide +kernel)) (by decide))
    refine zs_ite (fun c6 => ?_) (fun c6 => ?_)
    · skip
      have r7 := (zs_I_eq c6)
      have g8 : zs_in (x7).toInt 0 0 := (zs_eql 0 0 r7 g5 zlI_0 (by decide))
      obtain ⟨ret, er, hr⟩ := zc_1363 h_σ h_x3 h_x4 h_x6 g8 zlI_0 hc
      refine ⟨ret, er, ?_⟩
      exact (zs_sumw hr (fun v w => ⟨⟨w.1.1, (zs_w w.1.2 (by decide))⟩, w.2⟩) (fun v w => w.elim))
    · skip
      have r9 := (zs_I_eqn c6)
      have g10 : zs_in (x7).toInt 1 31 := (zs_nel 1 31 r9 g5 zlI_0 (by decide))
      refine zs_bd_ (zo_low1 5 4 (by decide) g10) (fun t_3 pt_3 => ?_)
      obtain ⟨ret, er, hr⟩ := zc_1372 h_σ h_x3 h_x4 h_x6 g10 (zs_subI 0 4 (zs_subI 4 4 h_x6 zlI_1 (by decide)) pt_3 (by decide)) hc
      refine ⟨ret, er, ?_⟩
      exact (zs_sumw hr (fun v w => ⟨⟨w.1.1, (zs_w w.1.2 (by decide))⟩, w.2⟩) (fun v w => w.elim))
theorem zd_266 {σ0 : sn_S} {x3 : Int32} (h_x3 : zs_in x3.toInt 2 2) {x4 : Int32} (h_x4 : zs_in x4.toInt (-1) (-1)) {x6 : Int32} (h_x6 : zs_in x6.toInt 5 5) {s0 : (sn_S × Int32)} (h0 : (zs_C σ0 s0.1 ∧ zs_in (s0.2).toInt 0 32)) : zs_ok (sn_it (LX4_reckon_34 1 27 x3 x4 x6) 5000 s0) (fun t => zs_C σ0 t) := by
  refine zs_it (I := fun s => (zs_C σ0 s.1 ∧ zs_in (s.2).toInt 0 32)) (m := fun s => 32 - s.2.toInt) (fun s hs => ?_) (fun s hs => ?_) (by exact h0)
  · have h1 := hs.2; unfold zs_in at h1
    omega
  · obtain ⟨b, eb, hb⟩ := zc_1373 hs.1 h_x3 h_x4 h_x6 hs.2 (c := s.2.toInt) (Int.add_zero _).symm
    exact ⟨b, eb, zs_sumw hb (fun v w => ⟨⟨w.1.1, (zs_w w.1.2 (by decide))⟩, by have := w.2; omega⟩) (fun v w => w)⟩
-- fX4_reckon
theorem zc_1374 {σ0 : sn_S} {σ : sn_S} (h_σ : zs_C σ0 σ) {x3 : Int32} (h_x3 : zs_in x3.toInt 2 2) {x4 : Int32} (h_x4 : zs_in x4.toInt (-1) (-1)) {x5 : Int32} (h_x5 : zs_in x5.toInt 4 4) : zs_ok (fX4_reckon σ 1 27 x3 x4 x5) (fun r => zs_C σ0 r) := by
  unfold fX4_reckon
  obtain rfl : x3 = (2 : Int32) := zs_eqv h_x3 (by decide)
  obtain rfl : x4 = (-1 : Int32) := zs_eqv h_x4 (by decide)
  obtain rfl : x5 = (4 : Int32) := zs_eqv h_x5 (by decide)
  refine zs_lt (Q := fun z => zs_in z.toInt 5 5) (zs_addI 5 5 h_x5 zlI_1 (by decide)) (fun y_1 hy_1 => ?_)
  refine zs_gd (zs_gin zlI_4 (by decide)) ?_
  refine zs_bd_ (zc_893 h_σ hy_1 (zs_rdk (q := 2) (k := (4 : Int32).toNatClampNeg) (z := (0, 10)) h_σ.1 rfl)) (fun t_4 pt_4 => ?_)
  refine zs_bd_ (zo_dcopy pt_4) (fun t_6 pt_6 => ?_)
  refine zs_lt (Q := fun z => zs_C σ0 z) (zs_wrL pt_6 rfl) (fun σ_8 hσ_8 => ?_)
  refine zs_bd_ (zd_266 h_x3 h_x4 hy_1 (s0 := (σ_8, (0 : Int32))) ⟨hσ_8, (zs_w zlI_0 (by decide))⟩) (fun t_10 pt_10 => ?_)
  obtain ⟨ret, er, hr⟩ := zc_942 pt_10 hy_1
  refine ⟨ret, er, ?_⟩
  exact hr
-- BX4_reckon_111
theorem zc_1375 {σ0 : sn_S} {σ : sn_S} (h_σ : zs_C σ0 σ) {x3 : Int32} (h_x3 : zs_in x3.toInt 2 2) {x4 : Int32} (h_x4 : zs_in x4.toInt (-1) (-1)) {x6 : Int32} (h_x6 : zs_in x6.toInt 6 6) {x7 : Int32} (h_x7 : zs_in x7.toInt 0 0) {x8 : Int32} (h_x8 : zs_in x8.toInt 0 0) {x9 : Int32} (h_x9 : zs_in x9.toInt 0 5) {t1 : Int32} (h_t1 : zs_in t1.toInt 0 5) {t2 : Int32} {t3 : Int32} (h_t3 : zs_in t3.toInt 0 0) {c : Int} (hc : x9.toInt = c + 0) : zs_ok (BX4_reckon_111 σ 1 27 x3 x4 x6 x7 x8 x9 t1 t2 t3) (fun r => zs_sum (fun v => ((zs_C σ0 v.1 ∧ zs_in (v.2).toInt 1 6)) ∧ v.2.toInt = c + 1) (fun v => False) r) := by
  unfold BX4_reckon_111
  obtain rfl : x3 = (2 : Int32) := zs_eqv h_x3 (by decide)
  obtain rfl : x4 = (-1 : Int32) := zs_eqv h_x4 (by decide)
  obtain rfl : x6 = (6 : Int32) := zs_eqv h_x6 (by decide)
  obtain rfl : x7 = (0 : Int32) := zs_eqv h_x7 (by decide)
  obtain rfl : x8 = (0 : Int32) := zs_eqv h_x8 (by decide)
  obtain rfl : t3 = (0 : Int32) := zs_eqv h_t3 (by decide)
  refine zs_gd (zs_gin h_t1 (by decide)) ?_
  refine zs_lt (Q := fun z => zs_C σ0 z) (zs_wrt h_σ (fun _ => rfl) (fun _ => rfl)) (fun σ_2 hσ_2 => ?_)
  refine zs_lt (Q := fun z => zs_in z.toInt 1 6 ∧ z.toInt = c + 1) ⟨(zs_addI 1 6 h_x9 zlI_1 (by decide)), (zs_syI 1 hc h_x9 zlI_1 (by decide) (by decide))⟩ (fun y_4 hy_4 => ?_)
  exact zs_some (zs_inl ⟨⟨hσ_2, hy_4.1⟩, hy_4.2⟩)
-- BX4_reckon_111
theorem zc_1376 {σ0 : sn_S} {σ : sn_S} (h_σ : zs_C σ0 σ) {x3 : Int32} (h_x3 : zs_in x3.toInt 2 2) {x4 : Int32} (h_x4 : zs_in x4.toInt (-1) (-1)) {x6 : Int32} (h_x6 : zs_in x6.toInt 6 6) {x7 : Int32} (h_x7 : zs_in x7.toInt 0 0) {x8 : Int32} (h_x8 : zs_in x8.toInt 0 0) {x9 : Int32} (h_x9 : zs_in x9.toInt 0 5) {t1 : Int32} (h_t1 : zs_in t1.toInt 0 5) {t2 : Int32} {t3 : Int32} (h_t3 : zs_in t3.toInt 3 3) {c : Int} (hc : x9.toInt = c + 0) : zs_ok (BX4_reckon_111 σ 1 27 x3 x4 x6 x7 x8 x9 t1 t2 t3) (fun r => zs_sum (fun v => ((zs_C σ0 v.1 ∧ zs_in (v.2).toInt 1 6)) ∧ v.2.toInt = c + 1) (fun v => False) r) := by
  unfold BX4_reckon_111
  obtain rfl : x3 = (2 : Int32) := zs_eqv h_x3 (by decide)
  obtain rfl : x4 = (-1 : Int32) := zs_eqv h_x4 (by decide)
  obtain rfl : x6 = (6 : Int32) := zs_eqv h_x6 (by decide)
  obtain rfl : x7 = (0 : Int32) := zs_eqv h_x7 (by decide)
  obtain rfl : x8 = (0 : Int32) := zs_eqv h_x8 (by decide)
  obtain rfl : t3 = (3 : Int32) := zs_eqv h_t3 (by decide)
  refine zs_gd (zs_gin h_t1 (by decide)) ?_
  refine zs_lt (Q := fun z => zs_C σ0 z) (zs_wrt h_σ (fun _ => rfl) (fun _ => rfl)) (fun σ_2 hσ_2 => ?_)
  refine zs_lt (Q := fun z => zs_in z.toInt 1 6 ∧ z.toInt = c + 1) ⟨(zs_addI 1 6 h_x9 zlI_1 (by decide)), (zs_syI 1 hc h_x9 zlI_1 (by decide) (by decide))⟩ (fun y_4 hy_4 => ?_)
  exact zs_some (zs_inl ⟨⟨hσ_2, hy_4.1⟩, hy_4.2⟩)
-- BX4_reckon_68
theorem zc_1377 {σ0 : sn_S} {σ : sn_S} (h_σ : zs_C σ0 σ) {x3 : Int32} (h_x3 : zs_in x3.toInt 2 2) {x4 : Int32} (h_x4 : zs_in x4.toInt (-1) (-1)) {x6 : Int32} (h_x6 : zs_in x6.toInt 6 6) {x7 : Int32} (h_x7 : zs_in x7.toInt 0 0) {x8 : Int32} (h_x8 : zs_in x8.toInt 0 0) {x9 : Int32} (h_x9 : zs_in x9.toInt 0 6) {c : Int} (hc : x9.toInt = c + 0) : zs_ok (BX4_reckon_68 σ 1 27 x3 x4 x6 x7 x8 x9) (fun r => zs_sum (fun v => ((zs_C σ0 v.1 ∧ zs_in (v.2).toInt 1 6)) ∧ v.2.toInt = c + 1) (fun v => zs_C σ0 v) r) := by
  unfold BX4_reckon_68
  obtain rfl : x3 = (2 : Int32) := zs_eqv h_x3 (by decide)
  obtain rfl : x4 = (-1 : Int32) := zs_eqv h_x4 (by decide)
  obtain rfl : x6 = (6 : Int32) := zs_eqv h_x6 (by decide)
  obtain rfl : x7 = (0 : Int32) := zs_eqv h_x7 (by decide)
  obtain rfl : x8 = (0 : Int32) := zs_eqv h_x8 (by decide)
  refine zs_ite (fun c1 => ?_) (fun c1 => ?_)
  · skip
    have r2 := (zs_I_le c1)
    have g3 : zs_in (x9).toInt 6 6 := (zs_ler 6 6 r2 h_x6 h_x9 (by decide))
    exact zs_some (zs_inr (h_σ))
  · skip
    have r4 := (zs_I_len c1)
    have g5 : zs_in (x9).toInt 0 5 := (zs_ltl 0 5 r4 h_x9 h_x6 (by decide))
    refine zs_gd (zs_gin g5 (by decide)) ?_
    refine zs_bd_ (zc_950 h_x7 (zs_subI 0 5 (zs_subI 5 5 h_x6 zlI_1 (by decide)) g5 (by decide))) (fun t_3 pt_3 => ?_)
    refine zs_ite (fun c6 => ?_) (fun c6 => ?_)
    · skip
      have r7 := (zs_I_eq c6)
      have g8 : zs_in (t_3).toInt 0 0 := (zs_eql 0 0 r7 pt_3 zlI_0 (by decide))
      obtain ⟨ret, er, hr⟩ := zc_1375 h_σ h_x3 h_x4 h_x6 h_x7 h_x8 g5 g5 zlI_0 hc
      refine ⟨ret, er, ?_⟩
      exact (zs_sumw hr (fun v w => ⟨w.1, w.2⟩) (fun v w => w.elim))
    · skip
      have r9 := (zs_I_eqn c6)
      have g10 : zs_in (t_3).toInt 1 1 := (zs_nel 1 1 r9 pt_3 zlI_0 (by decide))
      obtain ⟨ret, er, hr⟩ := zc_1376 h_σ h_x3 h_x4 h_x6 h_x7 h_x8 g5 g5 zlI_3 hc
      refine ⟨ret, er, ?_⟩
      exact (zs_sumw hr (fun v w => ⟨w.1, w.2⟩) (fun v w => w.elim))
theorem zd_267 {σ0 : sn_S} {x3 : Int32} (h_x3 : zs_in x3.toInt 2 2) {x4 : Int32} (h_x4 : zs_in x4.toInt (-1) (-1)) {x6 : Int32} (h_x6 : zs_in x6.toInt 6 6) {x7 : Int32} (h_x7 : zs_in x7.toInt 0 0) {x8 : Int32} (h_x8 : zs_in x8.toInt 0 0) {s0 : (sn_S × Int32)} (h0 : (zs_C σ0 s0.1 ∧ zs_in (s0.2).toInt 0 6)) : zs_ok (sn_it (LX4_reckon_68 1 27 x3 x4 x6 x7 x8) 5000 s0) (fun t => zs_C σ0 t) := by
  refine zs_it (I := fun s => (zs_C σ0 s.1 ∧ zs_in (s.2).toInt 0 6)) (m := fun s => 6 - s.2.toInt) (fun s hs => ?_) (fun s hs => ?_) (by exact h0)
  · have h1 := hs.2; unfold zs_in at h1
    omega
  · obtain ⟨b, eb, hb⟩ := zc_1377 hs.1 h_x3 h_x4 h_x6 h_x7 h_x8 hs.2 (c := s.2.toInt) (Int.add_zero _).symm
    exact ⟨b, eb, zs_sumw hb (fun v w => ⟨⟨w.1.1, (zs_w w.1.2 (by decide))⟩, by have := w.2; omega⟩) (fun v w => w)⟩
-- BX3_moneyAt_44
theorem zc_1378 {σ0 : sn_S} {σ : sn_S} (h_σ : zs_C σ0 σ) {x1 : Int32} (h_x1 : zs_in x1.toInt 0 5) {x2 : Int32} {x3 : Int32} (h_x3 : zs_in x3.toInt 0 5) {c : Int} (hc : x3.toInt = c + 0) : zs_ok (BX3_moneyAt_44 σ 70 x1 x2 x3) (fun r => zs_sum (fun v => ((True ∧ zs_in (v.2).toInt 1 6)) ∧ v.2.toInt = c + 1) (fun v => False) r) := by
  unfold BX3_moneyAt_44
  refine zs_lt (Q := fun z => zs_in z.toInt 1 6 ∧ z.toInt = c + 1) ⟨(zs_addI 1 6 h_x3 zlI_1 (by decide)), (zs_syI 1 hc h_x3 zlI_1 (by decide) (by decide))⟩ (fun y_1 hy_1 => ?_)
  exact zs_some (zs_inl ⟨⟨trivial, hy_1.1⟩, hy_1.2⟩)
-- BX3_moneyAt_7
theorem zc_1379 {σ0 : sn_S} {σ : sn_S} (h_σ : zs_C σ0 σ) {x1 : Int32} (h_x1 : zs_in x1.toInt 0 5) {x2 : Int32} {x3 : Int32} (h_x3 : zs_in x3.toInt 0 6) {c : Int} (hc : x3.toInt = c + 0) : zs_ok (BX3_moneyAt_7 σ 70 x1 x2 x3) (fun r => zs_sum (fun v => ((True ∧ zs_in (v.2).toInt 1 6)) ∧ v.2.toInt = c + 1) (fun v => True) r) := by
  unfold BX3_moneyAt_7
  refine zs_ite (fun c1 => ?_) (fun c1 => ?_)
  · skip
    have r2 := (zs_I_le c1)
    exact zs_some (zs_inr (trivial))
  · skip
    have r3 := (zs_I_len c1)
    have g4 : zs_in (x3).toInt 0 5 := (zs_ltl 0 5 r3 h_x3 (zs_rdk (q := 70) (k := 2) (z := (0, 6)) h_σ.1 rfl) (by decide))
    have g5 : zs_in ((sn_I σ 70 2)).toInt 1 6 := (zs_ltr 1 6 r3 h_x3 (zs_rdk (q := 70) (k := 2) (z := (0, 6)) h_σ.1 rfl) (by decide))
    refine zs_gd (zs_gin g4 (by decide)) ?_
    refine zs_ite (fun c6 => ?_) (fun c6 => ?_)
    · skip
      have r7 := (zs_I_eq c6)
      have g8 : zs_in ((sn_I σ (70 + 2) x3.toNatClampNeg)).toInt (-1) (-1) := (zs_eql (-1) (-1) r7 (zs_rdu (q := 72) (z := ((-1), 63)) h_σ.1 (fun _ => rfl)) zlI_m1 (by decide))
      obtain ⟨ret, er, hr⟩ := zc_1378 h_σ h_x1 g4 hc
      refine ⟨ret, er, ?_⟩
      exact (zs_sumw hr (fun v w => ⟨w.1, w.2⟩) (fun v w => w.elim))
    · skip
      have r9 := (zs_I_eqn c6)
      have g10 : zs_in ((sn_I σ (70 + 2) x3.toNatClampNeg)).toInt 0 63 := (zs_nel 0 63 r9 (zs_rdu (q := 72) (z := ((-1), 63)) h_σ.1 (fun _ => rfl)) zlI_m1 (by decide))
      refine zs_gd (zs_gin g4 (by decide)) ?_
      refine zs_ite (fun c11 => ?_) (fun c11 => ?_)
      · skip
        have r12 := (zs_I_lt c11)
        have g13 : zs_in ((sn_I σ (70 + 2) x3.toNatClampNeg)).toInt 1 63 := (zs_ltr 1 63 r12 h_x1 g10 (by decide))
        obtain ⟨ret, er, hr⟩ := zc_1378 h_σ h_x1 g4 hc
        refine ⟨ret, er, ?_⟩
        exact (zs_sumw hr (fun v w => ⟨w.1, w.2⟩) (fun v w => w.elim))
      · skip
        have r14 := (zs_I_ltn c11)
        have g15 : zs_in ((sn_I σ (70 + 2) x3.toNatClampNeg)).toInt 0 5 := (zs_lel 0 5 r14 g10 h_x1 (by decide))
        refine zs_gd (zs_gin g4 (by decide)) ?_
        refine zs_lt (Q := fun z => True) trivial (fun y_7 hy_7 => ?_)
        obtain ⟨ret, er, hr⟩ := zc_1378 h_σ h_x1 g4 hc
        refine ⟨ret, er, ?_⟩
        exact (zs_sumw hr (fun v w => ⟨w.1, w.2⟩) (fun v w => w.elim))
theorem zd_268 {σ0 : sn_S} {σ : sn_S} (h_σ : zs_C σ0 σ) {x1 : Int32} (h_x1 : zs_in x1.toInt 0 5) {s0 : (Int32 × Int32)} (h0 : (True ∧ zs_in (s0.2).toInt 0 6)) : zs_ok (sn_it (LX3_moneyAt_7 σ 70 x1) 5000 s0) (fun t => True) := by
  refine zs_it (I := fun s => (True ∧ zs_in (s.2).toInt 0 6)) (m := fun s => 6 - s.2.toInt) (fun s hs => ?_) (fun s hs => ?_) (by exact h0)
  · have h1 := hs.2; unfold zs_in at h1
    omega
  · obtain ⟨b, eb, hb⟩ := zc_1379 h_σ h_x1 hs.2 (c := s.2.toInt) (Int.add_zero _).symm
    exact ⟨b, eb, zs_sumw hb (fun v w => ⟨⟨w.1.1, (zs_w w.1.2 (by decide))⟩, by have := w.2; omega⟩) (fun v w => w)⟩
-- fX3_moneyAt
theorem zc_1380 {σ0 : sn_S} {σ : sn_S} (h_σ : zs_C σ0 σ) {x1 : Int32} (h_x1 : zs_in x1.toInt 0 5) : zs_ok (fX3_moneyAt σ 70 x1) (fun r => True) := by
  unfold fX3_moneyAt
  refine zs_lt (Q := fun z => True) trivial (fun y_1 hy_1 => ?_)
  refine zs_bd_ (zd_268 h_σ h_x1 (s0 := (y_1, (0 : Int32))) ⟨trivial, (zs_w zlI_0 (by decide))⟩) (fun t_3 pt_3 => ?_)
  obtain ⟨ret, er, hr⟩ := zc_1266 h_σ
  refine ⟨ret, er, ?_⟩
  exact hr
-- BX3_firstBelow_2
theorem zc_1381 {σ0 : sn_S} {σ : sn_S} (h_σ : zs_C σ0 σ) {x1 : Int32} (h_x1 : zs_in x1.toInt 6 6) {x2 : Int32} (h_x2 : zs_in x2.toInt 0 6) {c : Int} (hc : x2.toInt = c + 0) : zs_ok (BX3_firstBelow_2 σ 70 x1 x2) (fun r => zs_sum (fun v => (zs_in (v).toInt 1 6) ∧ v.toInt = c + 1) (fun v => zs_sum (fun v => True) (fun v => zs_in (v).toInt 0 5) v) r) := by
  unfold BX3_firstBelow_2
  obtain rfl : x1 = (6 : Int32) := zs_eqv h_x1 (by decide)
  refine zs_ite (fun c1 => ?_) (fun c1 => ?_)
  · skip
    have r2 := (zs_I_le c1)
    have g3 : zs_in (x2).toInt 6 6 := (zs_ler 6 6 r2 h_x1 h_x2 (by decide))
    exact zs_some (zs_inr ((zs_inl (trivial))))
  · skip
    have r4 := (zs_I_len c1)
    have g5 : zs_in (x2).toInt 0 5 := (zs_ltl 0 5 r4 h_x2 h_x1 (by decide))
    refine zs_bd_ (zc_1380 h_σ g5) (fun t_2 pt_2 => ?_)
    refine zs_ite (fun c6 => ?_) (fun c6 => ?_)
    · skip
      have r7 := (zs_I_le c6)
      have g8 : zs_in (t_2).toInt 0 2147483647 := (zs_ler 0 2147483647 r7 zlI_0 (zs_topI _) (by decide))
      refine zs_lt (Q := fun z => zs_in z.toInt 1 6 ∧ z.toInt = c + 1) ⟨(zs_addI 1 6 g5 zlI_1 (by decide)), (zs_syI 1 hc g5 zlI_1 (by decide) (by decide))⟩ (fun y_5 hy_5 => ?_)
      exact zs_some (zs_inl ⟨hy_5.1, hy_5.2⟩)
    · skip
      have r9 := (zs_I_len c6)
      have g10 : zs_in (t_2).toInt (-2147483648) (-1) := (zs_ltl (-2147483648) (-1) r9 (zs_topI _) zlI_0 (by decide))
      exact zs_some (zs_inr ((zs_inr (g5))))
theorem zd_269 {σ0 : sn_S} {σ : sn_S} (h_σ : zs_C σ0 σ) {x1 : Int32} (h_x1 : zs_in x1.toInt 6 6) {s0 : Int32} (h0 : zs_in (s0).toInt 0 6) : zs_ok (sn_it (LX3_firstBelow_2 σ 70 x1) 5000 s0) (fun t => zs_sum (fun v => True) (fun v => zs_in (v).toInt 0 5) t) := by
  refine zs_it (I := fun s => zs_in (s).toInt 0 6) (m := fun s => 6 - s.toInt) (fun s hs => ?_) (fun s hs => ?_) (by exact h0)
  · have h1 := hs; unfold zs_in at h1
    omega
  · obtain ⟨b, eb, hb⟩ := zc_1381 h_σ h_x1 hs (c := s.toInt) (Int.add_zero _).symm
    exact ⟨b, eb, zs_sumw hb (fun v w => ⟨(zs_w w.1 (by decide)), by have := w.2; omega⟩) (fun v w => w)⟩
-- fX3_firstBelow
theorem zc_1382 {σ0 : sn_S} {σ : sn_S} (h_σ : zs_C σ0 σ) {x1 : Int32} (h_x1 : zs_in x1.toInt 6 6) : zs_ok (fX3_firstBelow σ 70 x1) (fun r => zs_in (r).toInt (-1) 5) := by
  unfold fX3_firstBelow
  obtain rfl : x1 = (6 : Int32) := zs_eqv h_x1 (by decide)
  refine zs_bd_ (zd_269 h_σ h_x1 (s0 := (0 : Int32)) (zs_w zlI_0 (by decide))) (fun t_1 pt_1 => ?_)
  refine zs_elim pt_1 (fun v_3 pv_3 => ?_) (fun r_4 pr_4 => ?_)
  · skip
    obtain ⟨ret, er, hr⟩ := zc_1269 h_σ
    refine ⟨ret, er, ?_⟩
    exact (zs_w hr (by decide))
  · skip
    exact zs_some (zs_w pr_4 (by decide))
-- fX4_worth
theorem zc_1383 {σ0 : sn_S} {σ : sn_S} (h_σ : zs_C σ0 σ) {x2 : Int32} (h_x2 : zs_in x2.toInt 2 2) {x3 : Int32} (h_x3 : zs_in x3.toInt (-1) (-1)) {x4 : Int32} (h_x4 : zs_in x4.toInt 6 6) : zs_ok (fX4_worth σ 1 x2 x3 x4) (fun r => (zs_in (r.1).toInt 0 1 ∧ zs_C σ0 r.2)) := by
  unfold fX4_worth
  obtain rfl : x2 = (2 : Int32) := zs_eqv h_x2 (by decide)
  obtain rfl : x3 = (-1 : Int32) := zs_eqv h_x3 (by decide)
  obtain rfl : x4 = (6 : Int32) := zs_eqv h_x4 (by decide)
  refine zs_ite (fun c1 => ?_) (fun c1 => ?_)
  · skip
    have r2 := (zs_I_eq c1)
    exact (zs_botr r2 h_x2 zlI_0 (by decide)).elim
  · skip
    have r3 := (zs_I_eqn c1)
    refine zs_gd (zs_gin zlI_2 (by decide)) ?_
    refine zs_bd_ (zo_reckon_70_59_0_3 h_σ (zs_rdk (q := 2) (k := (2 : Int32).toNatClampNeg) (z := (0, 3)) h_σ.1 rfl)) (fun t_3 pt_3 => ?_)
    refine zs_ite (fun c4 => ?_) (fun c4 => ?_)
    · skip
      have r5 := (zs_I_eq c4)
      exact (zs_botr r5 h_x2 zlI_1 (by decide)).elim
    · skip
      have r6 := (zs_I_eqn c4)
      refine zs_bd_ (zc_1382 pt_3 h_x4) (fun t_6 pt_6 => ?_)
      refine zs_ite (fun c7 => ?_) (fun c7 => ?_)
      · skip
        have r8 := (zs_I_eq c7)
        have g9 : zs_in (t_6).toInt (-1) (-1) := (zs_eql (-1) (-1) r8 pt_6 zlI_m1 (by decide))
        exact zs_some ⟨(zs_w zlL_0 (by decide)), pt_3⟩
      · skip
        have r10 := (zs_I_eqn c7)
        have g11 : zs_in (t_6).toInt 0 5 := (zs_nel 0 5 r10 pt_6 zlI_m1 (by decide))
        exact zs_some ⟨(zs_w zlL_1 (by decide)), pt_3⟩
-- BX4_reckon_139
theorem zc_1384 {σ0 : sn_S} {σ : sn_S} (h_σ : zs_C σ0 σ) {x3 : Int32} (h_x3 : zs_in x3.toInt 2 2) {x4 : Int32} (h_x4 : zs_in x4.toInt (-1) (-1)) {x6 : Int32} (h_x6 : zs_in x6.toInt 6 6) {x7 : Int32} (h_x7 : zs_in x7.toInt 0 0) {t1 : Int32} (h_t1 : zs_in t1.toInt 0 0) {t2 : Int32} (h_t2 : zs_in t2.toInt 0 30) {c : Int} (hc : x7.toInt = c + 0) : zs_ok (BX4_reckon_139 σ 1 27 x3 x4 x6 x7 t1 t2) (fun r => zs_sum (fun v => ((zs_C σ0 v.1 ∧ zs_in (v.2).toInt 1 1)) ∧ v.2.toInt = c + 1) (fun v => False) r) := by
  unfold BX4_reckon_139
  obtain rfl : x3 = (2 : Int32) := zs_eqv h_x3 (by decide)
  obtain rfl : x4 = (-1 : Int32) := zs_eqv h_x4 (by decide)
  obtain rfl : x6 = (6 : Int32) := zs_eqv h_x6 (by decide)
  obtain rfl : t1 = (0 : Int32) := zs_eqv h_t1 (by decide)
  refine zs_bd_ (zc_1263 h_σ h_t1 h_t2) (fun t_1 pt_1 => ?_)
  refine zs_bd_ (zo_bc 0 0 (by decide) h_x7) (fun t_3 pt_3 => ?_)
  refine zs_gd (zs_gin pt_3 (by decide)) ?_
  refine zs_bd_ (zc_1383 pt_1 h_x3 h_x4 h_x6) (fun t_6 pt_6 => ?_)
  refine zs_lt (Q := fun z => zs_C σ0 z) (zs_wrL pt_6.2 rfl) (fun σ_8 hσ_8 => ?_)
  refine zs_lt (Q := fun z => zs_in z.toInt 1 1 ∧ z.toInt = c + 1) ⟨(zs_addI 1 1 h_x7 zlI_1 (by decide)), (zs_syI 1 hc h_x7 zlI_1 (by decide) (by decide))⟩ (fun y_10 hy_10 => ?_)
  exact zs_some (zs_inl ⟨⟨hσ_8, hy_10.1⟩, hy_10.2⟩)
-- BX4_reckon_119
theorem zc_1385 {σ0 : sn_S} {σ : sn_S} (h_σ : zs_C σ0 σ) {x3 : Int32} (h_x3 : zs_in x3.toInt 2 2) {x4 : Int32} (h_x4 : zs_in x4.toInt (-1) (-1)) {x6 : Int32} (h_x6 : zs_in x6.toInt 6 6) {x7 : Int32} (h_x7 : zs_in x7.toInt 0 0) {x8 : Int32} (h_x8 : zs_in x8.toInt 0 0) {c : Int} (hc : x7.toInt = c + 0) : zs_ok (BX4_reckon_119 σ 1 27 x3 x4 x6 x7 x8) (fun r => zs_sum (fun v => ((zs_C σ0 v.1 ∧ zs_in (v.2).toInt 1 1)) ∧ v.2.toInt = c + 1) (fun v => False) r) := by
  unfold BX4_reckon_119
  obtain rfl : x3 = (2 : Int32) := zs_eqv h_x3 (by decide)
  obtain rfl : x4 = (-1 : Int32) := zs_eqv h_x4 (by decide)
  obtain rfl : x6 = (6 : Int32) := zs_eqv h_x6 (by decide)
  obtain rfl : x8 = (0 : Int32) := zs_eqv h_x8 (by decide)
  refine zs_ite (fun c1 => ?_) (fun c1 => ?_)
  · skip
    have r2 := (zs_I_eq c1)
    obtain ⟨ret, er, hr⟩ := zc_1384 h_σ h_x3 h_x4 h_x6 h_x7 h_x8 (zs_rdk (q := 27) (k := 0) (z := (0, 30)) h_σ.1 rfl) hc
    refine ⟨ret, er, ?_⟩
    exact (zs_sumw hr (fun v w => ⟨w.1, w.2⟩) (fun v w => w.elim))
  · skip
    have r3 := (zs_I_eqn c1)
    exact (zs_botne r3 h_x3 zlI_2 (by decide)).elim
-- BX4_reckon_62
theorem zc_1386 {σ0 : sn_S} {σ : sn_S} (h_σ : zs_C σ0 σ) {x3 : Int32} (h_x3 : zs_in x3.toInt 2 2) {x4 : Int32} (h_x4 : zs_in x4.toInt (-1) (-1)) {x6 : Int32} (h_x6 : zs_in x6.toInt 6 6) {x7 : Int32} (h_x7 : zs_in x7.toInt 0 0) {t0 : Int32} (h_t0 : zs_in t0.toInt 0 0) {c : Int} (hc : x7.toInt = c + 0) : zs_ok (BX4_reckon_62 σ 1 27 x3 x4 x6 x7 t0) (fun r => zs_sum (fun v => ((zs_C σ0 v.1 ∧ zs_in (v.2).toInt 1 1)) ∧ v.2.toInt = c + 1) (fun v => False) r) := by
  unfold BX4_reckon_62
  obtain rfl : x3 = (2 : Int32) := zs_eqv h_x3 (by decide)
  obtain rfl : x4 = (-1 : Int32) := zs_eqv h_x4 (by decide)
  obtain rfl : x6 = (6 : Int32) := zs_eqv h_x6 (by decide)
  obtain rfl : t0 = (0 : Int32) := zs_eqv h_t0 (by decide)
  refine zs_bd_ (zd_267 h_x3 h_x4 h_x6 h_x7 h_t0 (s0 := (σ, (0 : Int32))) ⟨h_σ, (zs_w h_t0 (by decide))⟩) (fun t_1 pt_1 => ?_)
  obtain ⟨ret, er, hr⟩ := zc_1385 pt_1 h_x3 h_x4 h_x6 h_x7 h_t0 hc
  refine ⟨ret, er, ?_⟩
  exact (zs_sumw hr (fun v w => ⟨w.1, w.2⟩) (fun v w => w.elim))
-- BX4_reckon_111
theorem zc_1387 {σ0 : sn_S} {σ : sn_S} (h_σ : zs_C σ0 σ) {x3 : Int32} (h_x3 : zs_in x3.toInt 2 2) {x4 : Int32} (h_x4 : zs_in x4.toInt (-1) (-1)) {x6 : Int32} (h_x6 : zs_in x6.toInt 6 6) {x7 : Int32} (h_x7 : zs_in x7.toInt 1 63) {x8 : Int32} (h_x8 : zs_in x8.toInt 0 5) {x9 : Int32} (h_x9 : zs_in x9.toInt 0 5) {t1 : Int32} (h_t1 : zs_in t1.toInt 0 5) {t2 : Int32} {t3 : Int32} (h_t3 : zs_in t3.toInt 0 0) {c : Int} (hc : x9.toInt = c + 0) : zs_ok (BX4_reckon_111 σ 1 27 x3 x4 x6 x7 x8 x9 t1 t2 t3) (fun r => zs_sum (fun v => ((zs_C σ0 v.1 ∧ zs_in (v.2).toInt 1 6)) ∧ v.2.toInt = c + 1) (fun v => False) r) := by
  unfold BX4_reckon_111
  obtain rfl : x3 = (2 : Int32) := zs_eqv h_x3 (by decide)
  obtain rfl : x4 = (-1 : Int32) := zs_eqv h_x4 (by decide)
  obtain rfl : x6 = (6 : Int32) := zs_eqv h_x6 (by decide)
  obtain rfl : t3 = (0 : Int32) := zs_eqv h_t3 (by decide)
  refine zs_gd (zs_gin h_t1 (by decide)) ?_
  refine zs_lt (Q := fun z => zs_C σ0 z) (zs_wrt h_σ (fun _ => rfl) (fun _ => rfl)) (fun σ_2 hσ_2 => ?_)
  refine zs_lt (Q := fun z => zs_in z.toInt 1 6 ∧ z.toInt = c + 1) ⟨(zs_addI 1 6 h_x9 zlI_1 (by decide)), (zs_syI 1 hc h_x9 zlI_1 (by decide) (by decide))⟩ (fun y_4 hy_4 => ?_)
  exact zs_some (zs_inl ⟨⟨hσ_2, hy_4.1⟩, hy_4.2⟩)
-- BX4_reckon_111
theorem zc_1388 {σ0 : sn_S} {σ : sn_S} (h_σ : zs_C σ0 σ) {x3 : Int32} (h_x3 : zs_in x3.toInt 2 2) {x4 : Int32} (h_x4 : zs_in x4.toInt (-1) (-1)) {x6 : Int32} (h_x6 : zs_in x6.toInt 6 6) {x7 : Int32} (h_x7 : zs_in x7.toInt 1 63) {x8 : Int32} (h_x8 : zs_in x8.toInt 0 5) {x9 : Int32} (h_x9 : zs_in x9.toInt 0 5) {t1 : Int32} (h_t1 : zs_in t1.toInt 0 5) {t2 : Int32} {t3 : Int32} (h_t3 : zs_in t3.toInt 3 3) {c : Int} (hc : x9.toInt = c + 0) : zs_ok (BX4_reckon_111 σ 1 27 x3 x4 x6 x7 x8 x9 t1 t2 t3) (fun r => zs_sum (fun v => ((zs_C σ0 v.1 ∧ zs_in (v.2).toInt 1 6)) ∧ v.2.toInt = c + 1) (fun v => False) r) := by
  unfold BX4_reckon_111
  obtain rfl : x3 = (2 : Int32) := zs_eqv h_x3 (by decide)
  obtain rfl : x4 = (-1 : Int32) := zs_eqv h_x4 (by decide)
  obtain rfl : x6 = (6 : Int32) := zs_eqv h_x6 (by decide)
  obtain rfl : t3 = (3 : Int32) := zs_eqv h_t3 (by decide)
  refine zs_gd (zs_gin h_t1 (by decide)) ?_
  refine zs_lt (Q := fun z => zs_C σ0 z) (zs_wrt h_σ (fun _ => rfl) (fun _ => rfl)) (fun σ_2 hσ_2 => ?_)
  refine zs_lt (Q := fun z => zs_in z.toInt 1 6 ∧ z.toInt = c + 1) ⟨(zs_addI 1 6 h_x9 zlI_1 (by decide)), (zs_syI 1 hc h_x9 zlI_1 (by decide) (by decide))⟩ (fun y_4 hy_4 => ?_)
  exact zs_some (zs_inl ⟨⟨hσ_2, hy_4.1⟩, hy_4.2⟩)
-- BX4_reckon_68
theorem zc_1389 {σ0 : sn_S} {σ : sn_S} (h_σ : zs_C σ0 σ) {x3 : Int32} (h_x3 : zs_in x3.toInt 2 2) {x4 : Int32} (h_x4 : zs_in x4.toInt (-1) (-1)) {x6 : Int32} (h_x6 : zs_in x6.toInt 6 6) {x7 : Int32} (h_x7 : zs_in x7.toInt 1 63) {x8 : Int32} (h_x8 : zs_in x8.toInt 0 5) {x9 : Int32} (h_x9 : zs_in x9.toInt 0 6) {c : Int} (hc : x9.toInt = c + 0) : zs_ok (BX4_reckon_68 σ 1 27 x3 x4 x6 x7 x8 x9) (fun r => zs_sum (fun v => ((zs_C σ0 v.1 ∧ zs_in (v.2).toInt 1 6)) ∧ v.2.toInt = c + 1) (fun v => zs_C σ0 v) r) := by
  unfold BX4_reckon_68
  obtain rfl : x3 = (2 : Int32) := zs_eqv h_x3 (by decide)
  obtain rfl : x4 = (-1 : Int32) := zs_eqv h_x4 (by decide)
  obtain rfl : x6 = (6 : Int32) := zs_eqv h_x6 (by decide)
  refine zs_ite (fun c1 => ?_) (fun c1 => ?_)
  · skip
    have r2 := (zs_I_le c1)
    have g3 : zs_in (x9).toInt 6 6 := (zs_ler 6 6 r2 h_x6 h_x9 (by decide))
    exact zs_some (zs_inr (h_σ))
  · skip
    have r4 := (zs_I_len c1)
    have g5 : zs_in (x9).toInt 0 5 := (zs_ltl 0 5 r4 h_x9 h_x6 (by decide))
    refine zs_gd (zs_gin g5 (by decide)) ?_
    refine zs_bd_ (zc_984 h_x7 (zs_subI 0 5 (zs_subI 5 5 h_x6 zlI_1 (by decide)) g5 (by decide))) (fun t_3 pt_3 => ?_)
    refine zs_ite (fun c6 => ?_) (fun c6 => ?_)
    · skip
      have r7 := (zs_I_eq c6)
      have g8 : zs_in (t_3).toInt 0 0 := (zs_eql 0 0 r7 pt_3 zlI_0 (by decide))
      obtain ⟨ret, er, hr⟩ := zc_1387 h_σ h_x3 h_x4 h_x6 h_x7 h_x8 g5 g5 zlI_0 hc
      refine ⟨ret, er, ?_⟩
      exact (zs_sumw hr (fun v w => ⟨w.1, w.2⟩) (fun v w => w.elim))
    · skip
      have r9 := (zs_I_eqn c6)
      have g10 : zs_in (t_3).toInt 1 1 := (zs_nel 1 1 r9 pt_3 zlI_0 (by decide))
      obtain ⟨ret, er, hr⟩ := zc_1388 h_σ h_x3 h_x4 h_x6 h_x7 h_x8 g5 g5 zlI_3 hc
      refine ⟨ret, er, ?_⟩
      exact (zs_sumw hr (fun v w => ⟨w.1, w.2⟩) (fun v w => w.elim))
theorem zd_270 {σ0 : sn_S} {x3 : Int32} (h_x3 : zs_in x3.toInt 2 2) {x4 : Int32} (h_x4 : zs_in x4.toInt (-1) (-1)) {x6 : Int32} (h_x6 : zs_in x6.toInt 6 6) {x7 : Int32} (h_x7 : zs_in x7.toInt 1 63) {x8 : Int32} (h_x8 : zs_in x8.toInt 0 5) {s0 : (sn_S × Int32)} (h0 : (zs_C σ0 s0.1 ∧ zs_in (s0.2).toInt 0 6)) : zs_ok (sn_it (LX4_reckon_68 1 27 x3 x4 x6 x7 x8) 5000 s0) (fun t => zs_C σ0 t) := by
  refine zs_it (I := fun s => (zs_C σ0 s.1 ∧ zs_in (s.2).toInt 0 6)) (m := fun s => 6 - s.2.toInt) (fun s hs => ?_) (fun s hs => ?_) (by exact h0)
  · have h1 := hs.2; unfold zs_in at h1
    omega
  · obtain ⟨b, eb, hb⟩ := zc_1389 hs.1 h_x3 h_x4 h_x6 h_x7 h_x8 hs.2 (c := s.2.toInt) (Int.add_zero _).symm
    exact ⟨b, eb, zs_sumw hb (fun v w => ⟨⟨w.1.1, (zs_w w.1.2 (by decide))⟩, by have := w.2; omega⟩) (fun v w => w)⟩
-- BX0_live_2
theorem zc_1390 {σ0 : sn_S} {σ : sn_S} (h_σ : zs_C σ0 σ) {x1 : Int32} (h_x1 : zs_in x1.toInt 0 5) {x2 : Int32} (h_x2 : zs_in x2.toInt 0 30) {x3 : Int32} (h_x3 : zs_in x3.toInt 0 6) {c : Int} (hc : x3.toInt = c + 0) : zs_ok (BX0_live_2 σ 59 x1 x2 x3) (fun r => zs_sum (fun v => ((zs_C σ0 v.1 ∧ zs_in (v.2).toInt 1 6)) ∧ v.2.toInt = c + 1) (fun v => zs_C σ0 v) r) := by
  unfold BX0_live_2
  refine zs_ite (fun c1 => ?_) (fun c1 => ?_)
  · skip
    have r2 := (zs_I_le c1)
    exact zs_some (zs_inr (h_σ))
  · skip
    have r3 := (zs_I_len c1)
    have g4 : zs_in (x3).toInt 0 5 := (zs_ltl 0 5 r3 h_x3 (zs_rdk (q := 59) (k := 1) (z := (0, 6)) h_σ.1 rfl) (by decide))
    have g5 : zs_in ((sn_I σ 59 1)).toInt 1 6 := (zs_ltr 1 6 r3 h_x3 (zs_rdk (q := 59) (k := 1) (z := (0, 6)) h_σ.1 rfl) (by decide))
    refine zs_gd (zs_gin g4 (by decide)) ?_
    refine zs_bd_ (zc_988 h_x1) (fun t_3 pt_3 => ?_)
    refine zs_gd (zs_gin g4 (by decide)) ?_
    refine zs_lt (Q := fun z => zs_C σ0 z) (zs_wru (z := (0, 1073741823)) h_σ (fun _ => rfl) (zs_and pt_3 (by decide)) (by decide) (fun _ => rfl)) (fun σ_6 hσ_6 => ?_)
    refine zs_lt (Q := fun z => zs_in z.toInt 1 6 ∧ z.toInt = c + 1) ⟨(zs_addI 1 6 g4 zlI_1 (by decide)), (zs_syI 1 hc g4 zlI_1 (by decide) (by decide))⟩ (fun y_8 hy_8 => ?_)
    exact zs_some (zs_inl ⟨⟨hσ_6, hy_8.1⟩, hy_8.2⟩)
theorem zd_271 {σ0 : sn_S} {x1 : Int32} (h_x1 : zs_in x1.toInt 0 5) {x2 : Int32} (h_x2 : zs_in x2.toInt 0 30) {s0 : (sn_S × Int32)} (h0 : (zs_C σ0 s0.1 ∧ zs_in (s0.2).toInt 0 6)) : zs_ok (sn_it (LX0_live_2 59 x1 x2) 5000 s0) (fun t => zs_C σ0 t) := by
  refine zs_it (I := fun s => (zs_C σ0 s.1 ∧ zs_in (s.2).toInt 0 6)) (m := fun s => 6 - s.2.toInt) (fun s hs => ?_) (fun s hs => ?_) (by exact h0)
  · have h1 := hs.2; unfold zs_in at h1
    omega
  · obtain ⟨b, eb, hb⟩ := zc_1390 hs.1 h_x1 h_x2 hs.2 (c := s.2.toInt) (Int.add_zero _).symm
    exact ⟨b, eb, zs_sumw hb (fun v w => ⟨⟨w.1.1, (zs_w w.1.2 (by decide))⟩, by have := w.2; omega⟩) (fun v w => w)⟩
-- BX0_live_29
theorem zc_1391 {σ0 : sn_S} {σ : sn_S} (h_σ : zs_C σ0 σ) {x1 : Int32} (h_x1 : zs_in x1.toInt 0 5) {x2 : Int32} (h_x2 : zs_in x2.toInt 0 30) : zs_ok (BX0_live_29 σ 59 x1 x2) (fun r => zs_C σ0 r) := by
  unfold BX0_live_29
  refine zs_bd_ (zd_238 h_x2 (s0 := (σ, x1)) ⟨h_σ, (zs_w h_x1 (by decide))⟩) (fun t_1 pt_1 => ?_)
  obtain ⟨ret, er, hr⟩ := zc_697 pt_1
  refine ⟨ret, er, ?_⟩
  exact hr
-- fX0_live
theorem zc_1392 {σ0 : sn_S} {σ : sn_S} (h_σ : zs_C σ0 σ) {x1 : Int32} (h_x1 : zs_in x1.toInt 0 5) {x2 : Int32} (h_x2 : zs_in x2.toInt 0 30) : zs_ok (fX0_live σ 59 x1 x2) (fun r => zs_C σ0 r) := by
  unfold fX0_live
  refine zs_bd_ (zd_271 h_x1 h_x2 (s0 := (σ, (0 : Int32))) ⟨h_σ, (zs_w zlI_0 (by decide))⟩) (fun t_1 pt_1 => ?_)
  obtain ⟨ret, er, hr⟩ := zc_1391 pt_1 h_x1 h_x2
  refine ⟨ret, er, ?_⟩
  exact hr
-- BX4_reckon_139
theorem zc_1393 {σ0 : sn_S} {σ : sn_S} (h_σ : zs_C σ0 σ) {x3 : Int32} (h_x3 : zs_in x3.toInt 2 2) {x4 : Int32} (h_x4 : zs_in x4.toInt (-1) (-1)) {x6 : Int32} (h_x6 : zs_in x6.toInt 6 6) {x7 : Int32} (h_x7 : zs_in x7.toInt 1 63) {t1 : Int32} (h_t1 : zs_in t1.toInt 0 5) {t2 : Int32} (h_t2 : zs_in t2.toInt 0 30) {c : Int} (hc : x7.toInt = c + 0) : zs_ok (BX4_reckon_139 σ 1 27 x3 x4 x6 x7 t1 t2) (fun r => zs_sum (fun v => ((zs_C σ0 v.1 ∧ zs_in (v.2).toInt 2 64)) ∧ v.2.toInt = c + 1) (fun v => False) r) := by
  unfold BX4_reckon_139
  obtain rfl : x3 = (2 : Int32) := zs_eqv h_x3 (by decide)
  obtain rfl : x4 = (-1 : Int32) := zs_eqv h_x4 (by decide)
  obtain rfl : x6 = (6 : Int32) := zs_eqv h_x6 (by decide)
  refine zs_bd_ (zc_1392 h_σ h_t1 h_t2) (fun t_1 pt_1 => ?_)
  refine zs_bd_ (zo_bc 6 6 (by decide) h_x7) (fun t_3 pt_3 => ?_)
  refine zs_gd (zs_gin pt_3 (by decide)) ?_
  refine zs_bd_ (zc_1383 pt_1 h_x3 h_x4 h_x6) (fun t_6 pt_6 => ?_)
  refine zs_lt (Q := fun z => zs_C σ0 z) (zs_wrL pt_6.2 rfl) (fun σ_8 hσ_8 => ?_)
  refine zs_lt (Q := fun z => zs_in z.toInt 2 64 ∧ z.toInt = c + 1) ⟨(zs_addI 2 64 h_x7 zlI_1 (by decide)), (zs_syI 1 hc h_x7 zlI_1 (by decide) (by decide))⟩ (fun y_10 hy_10 => ?_)
  exact zs_some (zs_inl ⟨⟨hσ_8, hy_10.1⟩, hy_10.2⟩)
-- BX4_reckon_119
theorem zc_1394 {σ0 : sn_S} {σ : sn_S} (h_σ : zs_C σ0 σ) {x3 : Int32} (h_x3 : zs_in x3.toInt 2 2) {x4 : Int32} (h_x4 : zs_in x4.toInt (-1) (-1)) {x6 : Int32} (h_x6 : zs_in x6.toInt 6 6) {x7 : Int32} (h_x7 : zs_in x7.toInt 1 63) {x8 : Int32} (h_x8 : zs_in x8.toInt 0 5) {c : Int} (hc : x7.toInt = c + 0) : zs_ok (BX4_reckon_119 σ 1 27 x3 x4 x6 x7 x8) (fun r => zs_sum (fun v => ((zs_C σ0 v.1 ∧ zs_in (v.2).toInt 2 64)) ∧ v.2.toInt = c + 1) (fun v => False) r) := by
  unfold BX4_reckon_119
  obtain rfl : x3 = (2 : Int32) := zs_eqv h_x3 (by decide)
  obtain rfl : x4 = (-1 : Int32) := zs_eqv h_x4 (by decide)
  obtain rfl : x6 = (6 : Int32) := zs_eqv h_x6 (by decide)
  refine zs_ite (fun c1 => ?_) (fun c1 => ?_)
  · skip
    have r2 := (zs_I_eq c1)
    obtain ⟨ret, er, hr⟩ := zc_1393 h_σ h_x3 h_x4 h_x6 h_x7 h_x8 (zs_rdk (q := 27) (k := 0) (z := (0, 30)) h_σ.1 rfl) hc
    refine ⟨ret, er, ?_⟩
    exact (zs_sumw hr (fun v w => ⟨w.1, w.2⟩) (fun v w => w.elim))
  · skip
    have r3 := (zs_I_eqn c1)
    exact (zs_botne r3 h_x3 zlI_2 (by decide)).elim
-- BX4_reckon_62
theorem zc_1395 {σ0 : sn_S} {σ : sn_S} (h_σ : zs_C σ0 σ) {x3 : Int32} (h_x3 : zs_in x3.toInt 2 2) {x4 : Int32} (h_x4 : zs_in x4.toInt (-1) (-1)) {x6 : Int32} (h_x6 : zs_in x6.toInt 6 6) {x7 : Int32} (h_x7 : zs_in x7.toInt 1 63) {t0 : Int32} (h_t0 : zs_in t0.toInt 0 5) {c : Int} (hc : x7.toInt = c + 0) : zs_ok (BX4_reckon_62 σ 1 27 x3 x4 x6 x7 t0) (fun r => zs_sum (fun v => ((zs_C σ0 v.1 ∧ zs_in (v.2).toInt 2 64)) ∧ v.2.toInt = c + 1) (fun v => False) r) := by
  unfold BX4_reckon_62
  obtain rfl : x3 = (2 : Int32) := zs_eqv h_x3 (by decide)
  obtain rfl : x4 = (-1 : Int32) := zs_eqv h_x4 (by decide)
  obtain rfl : x6 = (6 : Int32) := zs_eqv h_x6 (by decide)
  refine zs_bd_ (zd_270 h_x3 h_x4 h_x6 h_x7 h_t0 (s0 := (σ, t0)) ⟨h_σ, (zs_w h_t0 (by decide))⟩) (fun t_1 pt_1 => ?_)
  obtain ⟨ret, er, hr⟩ := zc_1394 pt_1 h_x3 h_x4 h_x6 h_x7 h_t0 hc
  refine ⟨ret, er, ?_⟩
  exact (zs_sumw hr (fun v w => ⟨w.1, w.2⟩) (fun v w => w.elim))
-- BX4_reckon_34
theorem zc_1396 {σ0 : sn_S} {σ : sn_S} (h_σ : zs_C σ0 σ) {x3 : Int32} (h_x3 : zs_in x3.toInt 2 2) {x4 : Int32} (h_x4 : zs_in x4.toInt (-1) (-1)) {x6 : Int32} (h_x6 : zs_in x6.toInt 6 6) {x7 : Int32} (h_x7 : zs_in x7.toInt 0 64) {c : Int} (hc : x7.toInt = c + 0) : zs_ok (BX4_reckon_34 σ 1 27 x3 x4 x6 x7) (fun r => zs_sum (fun v => ((zs_C σ0 v.1 ∧ zs_in (v.2).toInt 1 64)) ∧ v.2.toInt = c + 1) (fun v => zs_C σ0 v) r) := by
  unfold BX4_reckon_34
  obtain rfl : x3 = (2 : Int32) := zs_eqv h_x3 (by decide)
  obtain rfl : x4 = (-1 : Int32) := zs_eqv h_x4 (by decide)
  obtain rfl : x6 = (6 : Int32) := zs_eqv h_x6 (by decide)
  refine zs_ite (fun c1 => ?_) (fun c1 => ?_)
  · skip
    have r2 := (zs_I_le c1)
    have g3 : zs_in (x7).toInt 64 64 := (zs_ler 64 64 r2 (zs_cases h_x6 (fun z => zs_in ((1 : Int32) <<< (z &&& 31)).toInt 64 64) (by decide +kernel)) h_x7 (by decide))
    exact zs_some (zs_inr (h_σ))
  · skip
    have r4 := (zs_I_len c1)
    have g5 : zs_in (x7).toInt 0 63 := (zs_ltl 0 63 r4 h_x7 (zs_cases h_x6 (fun z => zs_in ((1 : Int32) <<< (z &&& 31)).toInt 64 64) (by decide +kernel)) (by decide))
    refine zs_ite (fun c6 => ?_) (fun c6 => ?_)
    · skip
      have r7 := (zs_I_eq c6)
      have g8 : zs_in (x7).toInt 0 0 := (zs_eql 0 0 r7 g5 zlI_0 (by decide))
      obtain ⟨ret, er, hr⟩ := zc_1386 h_σ h_x3 h_x4 h_x6 g8 zlI_0 hc
      refine ⟨ret, er, ?_⟩
      exact (zs_sumw hr (fun v w => ⟨⟨w.1.1, (zs_w w.1.2 (by decide))⟩, w.2⟩) (fun v w => w.elim))
    · skip
      have r9 := (zs_I_eqn c6)
      have g10 : zs_in (x7).toInt 1 63 := (zs_nel 1 63 r9 g5 zlI_0 (by decide))
      refine zs_bd_ (zo_low1 6 5 (by decide) g10) (fun t_3 pt_3 => ?_)
      obtain ⟨ret, er, hr⟩ := zc_1395 h_σ h_x3 h_x4 h_x6 g10 (zs_subI 0 5 (zs_subI 5 5 h_x6 zlI_1 (by decide)) pt_3 (by decide)) hc
      refine ⟨ret, er, ?_⟩
      exact (zs_sumw hr (fun v w => ⟨⟨w.1.1, (zs_w w.1.2 (by decide))⟩, w.2⟩) (fun v w => w.elim))
theorem zd_272 {σ0 : sn_S} {x3 : Int32} (h_x3 : zs_in x3.toInt 2 2) {x4 : Int32} (h_x4 : zs_in x4.toInt (-1) (-1)) {x6 : Int32} (h_x6 : zs_in x6.toInt 6 6) {s0 : (sn_S × Int32)} (h0 : (zs_C σ0 s0.1 ∧ zs_in (s0.2).toInt 0 64)) : zs_ok (sn_it (LX4_reckon_34 1 27 x3 x4 x6) 5000 s0) (fun t => zs_C σ0 t) := by
  refine zs_it (I := fun s => (zs_C σ0 s.1 ∧ zs_in (s.2).toInt 0 64)) (m := fun s => 64 - s.2.toInt) (fun s hs => ?_) (fun s hs => ?_) (by exact h0)
  · have h1 := hs.2; unfold zs_in at h1
    omega
  · obtain ⟨b, eb, hb⟩ := zc_1396 hs.1 h_x3 h_x4 h_x6 hs.2 (c := s.2.toInt) (Int.add_zero _).symm
    exact ⟨b, eb, zs_sumw hb (fun v w => ⟨⟨w.1.1, (zs_w w.1.2 (by decide))⟩, by have := w.2; omega⟩) (fun v w => w)⟩
-- fX4_reckon
theorem zc_1397 {σ0 : sn_S} {σ : sn_S} (h_σ : zs_C σ0 σ) {x3 : Int32} (h_x3 : zs_in x3.toInt 2 2) {x4 : Int32} (h_x4 : zs_in x4.toInt (-1) (-1)) {x5 : Int32} (h_x5 : zs_in x5.toInt 5 5) : zs_ok (fX4_reckon σ 1 27 x3 x4 x5) (fun r => zs_C σ0 r) := by
  unfold fX4_reckon
  obtain rfl : x3 = (2 : Int32) := zs_eqv h_x3 (by decide)
  obtain rfl : x4 = (-1 : Int32) := zs_eqv h_x4 (by decide)
  obtain rfl : x5 = (5 : Int32) := zs_eqv h_x5 (by decide)
  refine zs_lt (Q := fun z => zs_in z.toInt 6 6) (zs_addI 6 6 h_x5 zlI_1 (by decide)) (fun y_1 hy_1 => ?_)
  refine zs_gd (zs_gin zlI_4 (by decide)) ?_
  refine zs_bd_ (zc_949 h_σ hy_1 (zs_rdk (q := 2) (k := (4 : Int32).toNatClampNeg) (z := (0, 10)) h_σ.1 rfl)) (fun t_4 pt_4 => ?_)
  refine zs_bd_ (zo_dcopy pt_4) (fun t_6 pt_6 => ?_)
  refine zs_lt (Q := fun z => zs_C σ0 z) (zs_wrL pt_6 rfl) (fun σ_8 hσ_8 => ?_)
  refine zs_bd_ (zd_272 h_x3 h_x4 hy_1 (s0 := (σ_8, (0 : Int32))) ⟨hσ_8, (zs_w zlI_0 (by decide))⟩) (fun t_10 pt_10 => ?_)
  obtain ⟨ret, er, hr⟩ := zc_997 pt_10 hy_1
  refine ⟨ret, er, ?_⟩
  exact hr
-- BX4_reckon_111
theorem zc_1398 {σ0 : sn_S} {σ : sn_S} (h_σ : zs_C σ0 σ) {x3 : Int32} (h_x3 : zs_in x3.toInt 2 2) {x4 : Int32} (h_x4 : zs_in x4.toInt (-1) (-1)) {x6 : Int32} (h_x6 : zs_in x6.toInt 7 7) {x7 : Int32} (h_x7 : zs_in x7.toInt 0 0) {x8 : Int32} (h_x8 : zs_in x8.toInt 0 0) {x9 : Int32} (h_x9 : zs_in x9.toInt 0 6) {t1 : Int32} (h_t1 : zs_in t1.toInt 0 6) {t2 : Int32} {t3 : Int32} (h_t3 : zs_in t3.toInt 0 0) {c : Int} (hc : x9.toInt = c + 0) : zs_ok (BX4_reckon_111 σ 1 27 x3 x4 x6 x7 x8 x9 t1 t2 t3) (fun r => zs_sum (fun v => ((zs_C σ0 v.1 ∧ zs_in (v.2).toInt 1 7)) ∧ v.2.toInt = c + 1) (fun v => False) r) := by
  unfold BX4_reckon_111
  obtain rfl : x3 = (2 : Int32) := zs_eqv h_x3 (by decide)
  obtain rfl : x4 = (-1 : Int32) := zs_eqv h_x4 (by decide)
  obtain rfl : x6 = (7 : Int32) := zs_eqv h_x6 (by decide)
  obtain rfl : x7 = (0 : Int32) := zs_eqv h_x7 (by decide)
  obtain rfl : x8 = (0 : Int32) := zs_eqv h_x8 (by decide)
  obtain rfl : t3 = (0 : Int32) := zs_eqv h_t3 (by decide)
  refine zs_gd (zs_gin h_t1 (by decide)) ?_
  refine zs_lt (Q := fun z => zs_C σ0 z) (zs_wrt h_σ (fun _ => rfl) (fun _ => rfl)) (fun σ_2 hσ_2 => ?_)
  refine zs_lt (Q := fun z => zs_in z.toInt 1 7 ∧ z.toInt = c + 1) ⟨(zs_addI 1 7 h_x9 zlI_1 (by decide)), (zs_syI 1 hc h_x9 zlI_1 (by decide) (by decide))⟩ (fun y_4 hy_4 => ?_)
  exact zs_some (zs_inl ⟨⟨hσ_2, hy_4.1⟩, hy_4.2⟩)
-- BX4_reckon_111
theorem zc_1399 {σ0 : sn_S} {σ : sn_S} (h_σ : zs_C σ0 σ) {x3 : Int32} (h_x3 : zs_in x3.toInt 2 2) {x4 : Int32} (h_x4 : zs_in x4.toInt (-1) (-1)) {x6 : Int32} (h_x6 : zs_in x6.toInt 7 7) {x7 : Int32} (h_x7 : zs_in x7.toInt 0 0) {x8 : Int32} (h_x8 : zs_in x8.toInt 0 0) {x9 : Int32} (h_x9 : zs_in x9.toInt 0 6) {t1 : Int32} (h_t1 : zs_in t1.toInt 0 6) {t2 : Int32} {t3 : Int32} (h_t3 : zs_in t3.toInt 3 3) {c : Int} (hc : x9.toInt = c + 0) : zs_ok (BX4_reckon_111 σ 1 27 x3 x4 x6 x7 x8 x9 t1 t2 t3) (fun r => zs_sum (fun v => ((zs_C σ0 v.1 ∧ zs_in (v.2).toInt 1 7)) ∧ v.2.toInt = c + 1) (fun v => False) r) := by
  unfold BX4_reckon_111
  obtain rfl : x3 = (2 : Int32) := zs_eqv h_x3 (by decide)
  obtain rfl : x4 = (-1 : Int32) := zs_eqv h_x4 (by decide)
  obtain rfl : x6 = (7 : Int32) := zs_eqv h_x6 (by decide)
  obtain rfl : x7 = (0 : Int32) := zs_eqv h_x7 (by decide)
  obtain rfl : x8 = (0 : Int32) := zs_eqv h_x8 (by decide)
  obtain rfl : t3 = (3 : Int32) := zs_eqv h_t3 (by decide)
  refine zs_gd (zs_gin h_t1 (by decide)) ?_
  refine zs_lt (Q := fun z => zs_C σ0 z) (zs_wrt h_σ (fun _ => rfl) (fun _ => rfl)) (fun σ_2 hσ_2 => ?_)
  refine zs_lt (Q := fun z => zs_in z.toInt 1 7 ∧ z.toInt = c + 1) ⟨(zs_addI 1 7 h_x9 zlI_1 (by decide)), (zs_syI 1 hc h_x9 zlI_1 (by decide) (by decide))⟩ (fun y_4 hy_4 => ?_)
  exact zs_some (zs_inl ⟨⟨hσ_2, hy_4.1⟩, hy_4.2⟩)
-- BX4_reckon_68
theorem zc_1400 {σ0 : sn_S} {σ : sn_S} (h_σ : zs_C σ0 σ) {x3 : Int32} (h_x3 : zs_in x3.toInt 2 2) {x4 : Int32} (h_x4 : zs_in x4.toInt (-1) (-1)) {x6 : Int32} (h_x6 : zs_in x6.toInt 7 7) {x7 : Int32} (h_x7 : zs_in x7.toInt 0 0) {x8 : Int32} (h_x8 : zs_in x8.toInt 0 0) {x9 : Int32} (h_x9 : zs_in x9.toInt 0 7) {c : Int} (hc : x9.toInt = c + 0) : zs_ok (BX4_reckon_68 σ 1 27 x3 x4 x6 x7 x8 x9) (fun r => zs_sum (fun v => ((zs_C σ0 v.1 ∧ zs_in (v.2).toInt 1 7)) ∧ v.2.toInt = c + 1) (fun v => zs_C σ0 v) r) := by
  unfold BX4_reckon_68
  obtain rfl : x3 = (2 : Int32) := zs_eqv h_x3 (by decide)
  obtain rfl : x4 = (-1 : Int32) := zs_eqv h_x4 (by decide)
  obtain rfl : x6 = (7 : Int32) := zs_eqv h_x6 (by decide)
  obtain rfl : x7 = (0 : Int32) := zs_eqv h_x7 (by decide)
  obtain rfl : x8 = (0 : Int32) := zs_eqv h_x8 (by decide)
  refine zs_ite (fun c1 => ?_) (fun c1 => ?_)
  · skip
    have r2 := (zs_I_le c1)
    have g3 : zs_in (x9).toInt 7 7 := (zs_ler 7 7 r2 h_x6 h_x9 (by decide))
    exact zs_some (zs_inr (h_σ))
  · skip
    have r4 := (zs_I_len c1)
    have g5 : zs_in (x9).toInt 0 6 := (zs_ltl 0 6 r4 h_x9 h_x6 (by decide))
    refine zs_gd (zs_gin g5 (by decide)) ?_
    refine zs_bd_ (zc_1005 h_x7 (zs_subI 0 6 (zs_subI 6 6 h_x6 zlI_1 (by decide)) g5 (by decide))) (fun t_3 pt_3 => ?_)
    refine zs_ite (fun c6 => ?_) (fun c6 => ?_)
    · skip
      have r7 := (zs_I_eq c6)
      have g8 : zs_in (t_3).toInt 0 0 := (zs_eql 0 0 r7 pt_3 zlI_0 (by decide))
      obtain ⟨ret, er, hr⟩ := zc_1398 h_σ h_x3 h_x4 h_x6 h_x7 h_x8 g5 g5 zlI_0 hc
      refine ⟨ret, er, ?_⟩
      exact (zs_sumw hr (fun v w => ⟨w.1, w.2⟩) (fun v w => w.elim))
    · skip
      have r9 := (zs_I_eqn c6)
      have g10 : zs_in (t_3).toInt 1 1 := (zs_nel 1 1 r9 pt_3 zlI_0 (by decide))
      obtain ⟨ret, er, hr⟩ := zc_1399 h_σ h_x3 h_x4 h_x6 h_x7 h_x8 g5 g5 zlI_3 hc
      refine ⟨ret, er, ?_⟩
      exact (zs_sumw hr (fun v w => ⟨w.1, w.2⟩) (fun v w => w.elim))
theorem zd_273 {σ0 : sn_S} {x3 : Int32} (h_x3 : zs_in x3.toInt 2 2) {x4 : Int32} (h_x4 : zs_in x4.toInt (-1) (-1)) {x6 : Int32} (h_x6 : zs_in x6.toInt 7 7) {x7 : Int32} (h_x7 : zs_in x7.toInt 0 0) {x8 : Int32} (h_x8 : zs_in x8.toInt 0 0) {s0 : (sn_S × Int32)} (h0 : (zs_C σ0 s0.1 ∧ zs_in (s0.2).toInt 0 7)) : zs_ok (sn_it (LX4_reckon_68 1 27 x3 x4 x6 x7 x8) 5000 s0) (fun t => zs_C σ0 t) := by
  refine zs_it (I := fun s => (zs_C σ0 s.1 ∧ zs_in (s.2).toInt 0 7)) (m := fun s => 7 - s.2.toInt) (fun s hs => ?_) (fun s hs => ?_) (by exact h0)
  · have h1 := hs.2; unfold zs_in at h1
    omega
  · obtain ⟨b, eb, hb⟩ := zc_1400 hs.1 h_x3 h_x4 h_x6 h_x7 h_x8 hs.2 (c := s.2.toInt) (Int.add_zero _).symm
    exact ⟨b, eb, zs_sumw hb (fun v w => ⟨⟨w.1.1, (zs_w w.1.2 (by decide))⟩, by have := w.2; omega⟩) (fun v w => w)⟩
-- BX3_moneyAt_44
theorem zc_1401 {σ0 : sn_S} {σ : sn_S} (h_σ : zs_C σ0 σ) {x1 : Int32} (h_x1 : zs_in x1.toInt 0 6) {x2 : Int32} {x3 : Int32} (h_x3 : zs_in x3.toInt 0 5) {c : Int} (hc : x3.toInt = c + 0) : zs_ok (BX3_moneyAt_44 σ 70 x1 x2 x3) (fun r => zs_sum (fun v => ((True ∧ zs_in (v.2).toInt 1 6)) ∧ v.2.toInt = c + 1) (fun v => False) r) := by
  unfold BX3_moneyAt_44
  refine zs_lt (Q := fun z => zs_in z.toInt 1 6 ∧ z.toInt = c + 1) ⟨(zs_addI 1 6 h_x3 zlI_1 (by decide)), (zs_syI 1 hc h_x3 zlI_1 (by decide) (by decide))⟩ (fun y_1 hy_1 => ?_)
  exact zs_some (zs_inl ⟨⟨trivial, hy_1.1⟩, hy_1.2⟩)
-- BX3_moneyAt_7
theorem zc_1402 {σ0 : sn_S} {σ : sn_S} (h_σ : zs_C σ0 σ) {x1 : Int32} (h_x1 : zs_in x1.toInt 0 6) {x2 : Int32} {x3 : Int32} (h_x3 : zs_in x3.toInt 0 6) {c : Int} (hc : x3.toInt = c + 0) : zs_ok (BX3_moneyAt_7 σ 70 x1 x2 x3) (fun r => zs_sum (fun v => ((True ∧ zs_in (v.2).toInt 1 6)) ∧ v.2.toInt = c + 1) (fun v => True) r) := by
  unfold BX3_moneyAt_7
  refine zs_ite (fun c1 => ?_) (fun c1 => ?_)
  · skip
    have r2 := (zs_I_le c1)
    exact zs_some (zs_inr (trivial))
  · skip
    have r3 := (zs_I_len c1)
    have g4 : zs_in (x3).toInt 0 5 := (zs_ltl 0 5 r3 h_x3 (zs_rdk (q := 70) (k := 2) (z := (0, 6)) h_σ.1 rfl) (by decide))
    have g5 : zs_in ((sn_I σ 70 2)).toInt 1 6 := (zs_ltr 1 6 r3 h_x3 (zs_rdk (q := 70) (k := 2) (z := (0, 6)) h_σ.1 rfl) (by decide))
    refine zs_gd (zs_gin g4 (by decide)) ?_
    refine zs_ite (fun c6 => ?_) (fun c6 => ?_)
    · skip
      have r7 := (zs_I_eq c6)
      have g8 : zs_in ((sn_I σ (70 + 2) x3.toNatClampNeg)).toInt (-1) (-1) := (zs_eql (-1) (-1) r7 (zs_rdu (q := 72) (z := ((-1), 63)) h_σ.1 (fun _ => rfl)) zlI_m1 (by decide))
      obtain ⟨ret, er, hr⟩ := zc_1401 h_σ h_x1 g4 hc
      refine ⟨ret, er, ?_⟩
      exact (zs_sumw hr (fun v w => ⟨w.1, w.2⟩) (fun v w => w.elim))
    · skip
      have r9 := (zs_I_eqn c6)
      have g10 : zs_in ((sn_I σ (70 + 2) x3.toNatClampNeg)).toInt 0 63 := (zs_nel 0 63 r9 (zs_rdu (q := 72) (z := ((-1), 63)) h_σ.1 (fun _ => rfl)) zlI_m1 (by decide))
      refine zs_gd (zs_gin g4 (by decide)) ?_
      refine zs_ite (fun c11 => ?_) (fun c11 => ?_)
      · skip
        have r12 := (zs_I_lt c11)
        have g13 : zs_in ((sn_I σ (70 + 2) x3.toNatClampNeg)).toInt 1 63 := (zs_ltr 1 63 r12 h_x1 g10 (by decide))
        obtain ⟨ret, er, hr⟩ := zc_1401 h_σ h_x1 g4 hc
        refine ⟨ret, er, ?_⟩
        exact (zs_sumw hr (fun v w => ⟨w.1, w.2⟩) (fun v w => w.elim))
      · skip
        have r14 := (zs_I_ltn c11)
        have g15 : zs_in ((sn_I σ (70 + 2) x3.toNatClampNeg)).toInt 0 6 := (zs_lel 0 6 r14 g10 h_x1 (by decide))
        refine zs_gd (zs_gin g4 (by decide)) ?_
        refine zs_lt (Q := fun z => True) trivial (fun y_7 hy_7 => ?_)
        obtain ⟨ret, er, hr⟩ := zc_1401 h_σ h_x1 g4 hc
        refine ⟨ret, er, ?_⟩
        exact (zs_sumw hr (fun v w => ⟨w.1, w.2⟩) (fun v w => w.elim))
theorem zd_274 {σ0 : sn_S} {σ : sn_S} (h_σ : zs_C σ0 σ) {x1 : Int32} (h_x1 : zs_in x1.toInt 0 6) {s0 : (Int32 × Int32)} (h0 : (True ∧ zs_in (s0.2).toInt 0 6)) : zs_ok (sn_it (LX3_moneyAt_7 σ 70 x1) 5000 s0) (fun t => True) := by
  refine zs_it (I := fun s => (True ∧ zs_in (s.2).toInt 0 6)) (m := fun s => 6 - s.2.toInt) (fun s hs => ?_) (fun s hs => ?_) (by exact h0)
  · have h1 := hs.2; unfold zs_in at h1
    omega
  · obtain ⟨b, eb, hb⟩ := zc_1402 h_σ h_x1 hs.2 (c := s.2.toInt) (Int.add_zero _).symm
    exact ⟨b, eb, zs_sumw hb (fun v w => ⟨⟨w.1.1, (zs_w w.1.2 (by decide))⟩, by have := w.2; omega⟩) (fun v w => w)⟩
-- fX3_moneyAt
theorem zc_1403 {σ0 : sn_S} {σ : sn_S} (h_σ : zs_C σ0 σ) {x1 : Int32} (h_x1 : zs_in x1.toInt 0 6) : zs_ok (fX3_moneyAt σ 70 x1) (fun r => True) := by
  unfold fX3_moneyAt
  refine zs_lt (Q := fun z => True) trivial (fun y_1 hy_1 => ?_)
  refine zs_bd_ (zd_274 h_σ h_x1 (s0 := (y_1, (0 : Int32))) ⟨trivial, (zs_w zlI_0 (by decide))⟩) (fun t_3 pt_3 => ?_)
  obtain ⟨ret, er, hr⟩ := zc_1266 h_σ
  refine ⟨ret, er, ?_⟩
  exact hr
-- BX3_firstBelow_2
theorem zc_1404 {σ0 : sn_S} {σ : sn_S} (h_σ : zs_C σ0 σ) {x1 : Int32} (h_x1 : zs_in x1.toInt 7 7) {x2 : Int32} (h_x2 : zs_in x2.toInt 0 7) {c : Int} (hc : x2.toInt = c + 0) : zs_ok (BX3_firstBelow_2 σ 70 x1 x2) (fun r => zs_sum (fun v => (zs_in (v).toInt 1 7) ∧ v.toInt = c + 1) (fun v => zs_sum (fun v => True) (fun v => zs_in (v).toInt 0 6) v) r) := by
  unfold BX3_firstBelow_2
  obtain rfl : x1 = (7 : Int32) := zs_eqv h_x1 (by decide)
  refine zs_ite (fun c1 => ?_) (fun c1 => ?_)
  · skip
    have r2 := (zs_I_le c1)
    have g3 : zs_in (x2).toInt 7 7 := (zs_ler 7 7 r2 h_x1 h_x2 (by decide))
    exact zs_some (zs_inr ((zs_inl (trivial))))
  · skip
    have r4 := (zs_I_len c1)
    have g5 : zs_in (x2).toInt 0 6 := (zs_ltl 0 6 r4 h_x2 h_x1 (by decide))
    refine zs_bd_ (zc_1403 h_σ g5) (fun t_2 pt_2 => ?_)
    refine zs_ite (fun c6 => ?_) (fun c6 => ?_)
    · skip
      have r7 := (zs_I_le c6)
      have g8 : zs_in (t_2).toInt 0 2147483647 := (zs_ler 0 2147483647 r7 zlI_0 (zs_topI _) (by decide))
      refine zs_lt (Q := fun z => zs_in z.toInt 1 7 ∧ z.toInt = c + 1) ⟨(zs_addI 1 7 g5 zlI_1 (by decide)), (zs_syI 1 hc g5 zlI_1 (by decide) (by decide))⟩ (fun y_5 hy_5 => ?_)
      exact zs_some (zs_inl ⟨hy_5.1, hy_5.2⟩)
    · skip
      have r9 := (zs_I_len c6)
      have g10 : zs_in (t_2).toInt (-2147483648) (-1) := (zs_ltl (-2147483648) (-1) r9 (zs_topI _) zlI_0 (by decide))
      exact zs_some (zs_inr ((zs_inr (g5))))
theorem zd_275 {σ0 : sn_S} {σ : sn_S} (h_σ : zs_C σ0 σ) {x1 : Int32} (h_x1 : zs_in x1.toInt 7 7) {s0 : Int32} (h0 : zs_in (s0).toInt 0 7) : zs_ok (sn_it (LX3_firstBelow_2 σ 70 x1) 5000 s0) (fun t => zs_sum (fun v => True) (fun v => zs_in (v).toInt 0 6) t) := by
  refine zs_it (I := fun s => zs_in (s).toInt 0 7) (m := fun s => 7 - s.toInt) (fun s hs => ?_) (fun s hs => ?_) (by exact h0)
  · have h1 := hs; unfold zs_in at h1
    omega
  · obtain ⟨b, eb, hb⟩ := zc_1404 h_σ h_x1 hs (c := s.toInt) (Int.add_zero _).symm
    exact ⟨b, eb, zs_sumw hb (fun v w => ⟨(zs_w w.1 (by decide)), by have := w.2; omega⟩) (fun v w => w)⟩
-- fX3_firstBelow
theorem zc_1405 {σ0 : sn_S} {σ : sn_S} (h_σ : zs_C σ0 σ) {x1 : Int32} (h_x1 : zs_in x1.toInt 7 7) : zs_ok (fX3_firstBelow σ 70 x1) (fun r => zs_in (r).toInt (-1) 6) := by
  unfold fX3_firstBelow
  obtain rfl : x1 = (7 : Int32) := zs_eqv h_x1 (by decide)
  refine zs_bd_ (zd_275 h_σ h_x1 (s0 := (0 : Int32)) (zs_w zlI_0 (by decide))) (fun t_1 pt_1 => ?_)
  refine zs_elim pt_1 (fun v_3 pv_3 => ?_) (fun r_4 pr_4 => ?_)
  · skip
    obtain ⟨ret, er, hr⟩ := zc_1269 h_σ
    refine ⟨ret, er, ?_⟩
    exact (zs_w hr (by decide))
  · skip
    exact zs_some (zs_w pr_4 (by decide))
-- fX4_worth
theorem zc_1406 {σ0 : sn_S} {σ : sn_S} (h_σ : zs_C σ0 σ) {x2 : Int32} (h_x2 : zs_in x2.toInt 2 2) {x3 : Int32} (h_x3 : zs_in x3.toInt (-1) (-1)) {x4 : Int32} (h_x4 : zs_in x4.toInt 7 7) : zs_ok (fX4_worth σ 1 x2 x3 x4) (fun r => (zs_in (r.1).toInt 0 1 ∧ zs_C σ0 r.2)) := by
  unfold fX4_worth
  obtain rfl : x2 = (2 : Int32) := zs_eqv h_x2 (by decide)
  obtain rfl : x3 = (-1 : Int32) := zs_eqv h_x3 (by decide)
  obtain rfl : x4 = (7 : Int32) := zs_eqv h_x4 (by decide)
  refine zs_ite (fun c1 => ?_) (fun c1 => ?_)
  · skip
    have r2 := (zs_I_eq c1)
    exact (zs_botr r2 h_x2 zlI_0 (by decide)).elim
  · skip
    have r3 := (zs_I_eqn c1)
    refine zs_gd (zs_gin zlI_2 (by decide)) ?_
    refine zs_bd_ (zo_reckon_70_59_0_3 h_σ (zs_rdk (q := 2) (k := (2 : Int32).toNatClampNeg) (z := (0, 3)) h_σ.1 rfl)) (fun t_3 pt_3 => ?_)
    refine zs_ite (fun c4 => ?_) (fun c4 => ?_)
    · skip
      have r5 := (zs_I_eq c4)
      exact (zs_botr r5 h_x2 zlI_1 (by decide)).elim
    · skip
      have r6 := (zs_I_eqn c4)
      refine zs_bd_ (zc_1405 pt_3 h_x4) (fun t_6 pt_6 => ?_)
      refine zs_ite (fun c7 => ?_) (fun c7 => ?_)
      · skip
        have r8 := (zs_I_eq c7)
        have g9 : zs_in (t_6).toInt (-1) (-1) := (zs_eql (-1) (-1) r8 pt_6 zlI_m1 (by decide))
        exact zs_some ⟨(zs_w zlL_0 (by decide)), pt_3⟩
      · skip
        have r10 := (zs_I_eqn c7)
        have g11 : zs_in (t_6).toInt 0 6 := (zs_nel 0 6 r10 pt_6 zlI_m1 (by decide))
        exact zs_some ⟨(zs_w zlL_1 (by decide)), pt_3⟩
-- BX4_reckon_139
theorem zc_1407 {σ0 : sn_S} {σ : sn_S} (h_σ : zs_C σ0 σ) {x3 : Int32} (h_x3 : zs_in x3.toInt 2 2) {x4 : Int32} (h_x4 : zs_in x4.toInt (-1) (-1)) {x6 : Int32} (h_x6 : zs_in x6.toInt 7 7) {x7 : Int32} (h_x7 : zs_in x7.toInt 0 0) {t1 : Int32} (h_t1 : zs_in t1.toInt 0 0) {t2 : Int32} (h_t2 : zs_in t2.toInt 0 30) {c : Int} (hc : x7.toInt = c + 0) : zs_ok (BX4_reckon_139 σ 1 27 x3 x4 x6 x7 t1 t2) (fun r => zs_sum (fun v => ((zs_C σ0 v.1 ∧ zs_in (v.2).toInt 1 1)) ∧ v.2.toInt = c + 1) (fun v => False) r) := by
  unfold BX4_reckon_139
  obtain rfl : x3 = (2 : Int32) := zs_eqv h_x3 (by decide)
  obtain rfl : x4 = (-1 : Int32) := zs_eqv h_x4 (by decide)
  obtain rfl : x6 = (7 : Int32) := zs_eqv h_x6 (by decide)
  obtain rfl : t1 = (0 : Int32) := zs_eqv h_t1 (by decide)
  refine zs_bd_ (zc_1263 h_σ h_t1 h_t2) (fun t_1 pt_1 => ?_)
  refine zs_bd_ (zo_bc 0 0 (by decide) h_x7) (fun t_3 pt_3 => ?_)
  refine zs_gd (zs_gin pt_3 (by decide)) ?_
  refine zs_bd_ (zc_1406 pt_1 h_x3 h_x4 h_x6) (fun t_6 pt_6 => ?_)
  refine zs_lt (Q := fun z => zs_C σ0 z) (zs_wrL pt_6.2 rfl) (fun σ_8 hσ_8 => ?_)
  refine zs_lt (Q := fun z => zs_in z.toInt 1 1 ∧ z.toInt = c + 1) ⟨(zs_addI 1 1 h_x7 zlI_1 (by decide)), (zs_syI 1 hc h_x7 zlI_1 (by decide) (by decide))⟩ (fun y_10 hy_10 => ?_)
  exact zs_some (zs_inl ⟨⟨hσ_8, hy_10.1⟩, hy_10.2⟩)
-- BX4_reckon_119
theorem zc_1408 {σ0 : sn_S} {σ : sn_S} (h_σ : zs_C σ0 σ) {x3 : Int32} (h_x3 : zs_in x3.toInt 2 2) {x4 : Int32} (h_x4 : zs_in x4.toInt (-1) (-1)) {x6 : Int32} (h_x6 : zs_in x6.toInt 7 7) {x7 : Int32} (h_x7 : zs_in x7.toInt 0 0) {x8 : Int32} (h_x8 : zs_in x8.toInt 0 0) {c : Int} (hc : x7.toInt = c + 0) : zs_ok (BX4_reckon_119 σ 1 27 x3 x4 x6 x7 x8) (fun r => zs_sum (fun v => ((zs_C σ0 v.1 ∧ zs_in (v.2).toInt 1 1)) ∧ v.2.toInt = c + 1) (fun v => False) r) := by
  unfold BX4_reckon_119
  obtain rfl : x3 = (2 : Int32) := zs_eqv h_x3 (by decide)
  obtain rfl : x4 = (-1 : Int32) := zs_eqv h_x4 (by decide)
  obtain rfl : x6 = (7 : Int32) := zs_eqv h_x6 (by decide)
  obtain rfl : x8 = (0 : Int32) := zs_eqv h_x8 (by decide)
  refine zs_ite (fun c1 => ?_) (fun c1 => ?_)
  · skip
    have r2 := (zs_I_eq c1)
    obtain ⟨ret, er, hr⟩ := zc_1407 h_σ h_x3 h_x4 h_x6 h_x7 h_x8 (zs_rdk (q := 27) (k := 0) (z := (0, 30)) h_σ.1 rfl) hc
    refine ⟨ret, er, ?_⟩
    exact (zs_sumw hr (fun v w => ⟨w.1, w.2⟩) (fun v w => w.elim))
  · skip
    have r3 := (zs_I_eqn c1)
    exact (zs_botne r3 h_x3 zlI_2 (by decide)).elim
-- BX4_reckon_62
theorem zc_1409 {σ0 : sn_S} {σ : sn_S} (h_σ : zs_C σ0 σ) {x3 : Int32} (h_x3 : zs_in x3.toInt 2 2) {x4 : Int32} (h_x4 : zs_in x4.toInt (-1) (-1)) {x6 : Int32} (h_x6 : zs_in x6.toInt 7 7) {x7 : Int32} (h_x7 : zs_in x7.toInt 0 0) {t0 : Int32} (h_t0 : zs_in t0.toInt 0 0) {c : Int} (hc : x7.toInt = c + 0) : zs_ok (BX4_reckon_62 σ 1 27 x3 x4 x6 x7 t0) (fun r => zs_sum (fun v => ((zs_C σ0 v.1 ∧ zs_in (v.2).toInt 1 1)) ∧ v.2.toInt = c + 1) (fun v => False) r) := by
  unfold BX4_reckon_62
  obtain rfl : x3 = (2 : Int32) := zs_eqv h_x3 (by decide)
  obtain rfl : x4 = (-1 : Int32) := zs_eqv h_x4 (by decide)
  obtain rfl : x6 = (7 : Int32) := zs_eqv h_x6 (by decide)
  obtain rfl : t0 = (0 : Int32) := zs_eqv h_t0 (by decide)
  refine zs_bd_ (zd_273 h_x3 h_x4 h_x6 h_x7 h_t0 (s0 := (σ, (0 : Int32))) ⟨h_σ, (zs_w h_t0 (by decide))⟩) (fun t_1 pt_1 => ?_)
  obtain ⟨ret, er, hr⟩ := zc_1408 pt_1 h_x3 h_x4 h_x6 h_x7 h_t0 hc
  refine ⟨ret, er, ?_⟩
  exact (zs_sumw hr (fun v w => ⟨w.1, w.2⟩) (fun v w => w.elim))
-- BX4_reckon_111
theorem zc_1410 {σ0 : sn_S} {σ : sn_S} (h_σ : zs_C σ0 σ) {x3 : Int32} (h_x3 : zs_in x3.toInt 2 2) {x4 : Int32} (h_x4 : zs_in x4.toInt (-1) (-1)) {x6 : Int32} (h_x6 : zs_in x6.toInt 7 7) {x7 : Int32} (h_x7 : zs_in x7.toInt 1 127) {x8 : Int32} (h_x8 : zs_in x8.toInt 0 6) {x9 : Int32} (h_x9 : zs_in x9.toInt 0 6) {t1 : Int32} (h_t1 : zs_in t1.toInt 0 6) {t2 : Int32} {t3 : Int32} (h_t3 : zs_in t3.toInt 0 0) {c : Int} (hc : x9.toInt = c + 0) : zs_ok (BX4_reckon_111 σ 1 27 x3 x4 x6 x7 x8 x9 t1 t2 t3) (fun r => zs_sum (fun v => ((zs_C σ0 v.1 ∧ zs_in (v.2).toInt 1 7)) ∧ v.2.toInt = c + 1) (fun v => False) r) := by
  unfold BX4_reckon_111
  obtain rfl : x3 = (2 : Int32) := zs_eqv h_x3 (by decide)
  obtain rfl : x4 = (-1 : Int32) := zs_eqv h_x4 (by decide)
  obtain rfl : x6 = (7 : Int32) := zs_eqv h_x6 (by decide)
  obtain rfl : t3 = (0 : Int32) := zs_eqv h_t3 (by decide)
  refine zs_gd (zs_gin h_t1 (by decide)) ?_
  refine zs_lt (Q := fun z => zs_C σ0 z) (zs_wrt h_σ (fun _ => rfl) (fun _ => rfl)) (fun σ_2 hσ_2 => ?_)
  refine zs_lt (Q := fun z => zs_in z.toInt 1 7 ∧ z.toInt = c + 1) ⟨(zs_addI 1 7 h_x9 zlI_1 (by decide)), (zs_syI 1 hc h_x9 zlI_1 (by decide) (by decide))⟩ (fun y_4 hy_4 => ?_)
  exact zs_some (zs_inl ⟨⟨hσ_2, hy_4.1⟩, hy_4.2⟩)
-- BX4_reckon_111
theorem zc_1411 {σ0 : sn_S} {σ : sn_S} (h_σ : zs_C σ0 σ) {x3 : Int32} (h_x3 : zs_in x3.toInt 2 2) {x4 : Int32} (h_x4 : zs_in x4.toInt (-1) (-1)) {x6 : Int32} (h_x6 : zs_in x6.toInt 7 7) {x7 : Int32} (h_x7 : zs_in x7.toInt 1 127) {x8 : Int32} (h_x8 : zs_in x8.toInt 0 6) {x9 : Int32} (h_x9 : zs_in x9.toInt 0 6) {t1 : Int32} (h_t1 : zs_in t1.toInt 0 6) {t2 : Int32} {t3 : Int32} (h_t3 : zs_in t3.toInt 3 3) {c : Int} (hc : x9.toInt = c + 0) : zs_ok (BX4_reckon_111 σ 1 27 x3 x4 x6 x7 x8 x9 t1 t2 t3) (fun r => zs_sum (fun v => ((zs_C σ0 v.1 ∧ zs_in (v.2).toInt 1 7)) ∧ v.2.toInt = c + 1) (fun v => False) r) := by
  unfold BX4_reckon_111
  obtain rfl : x3 = (2 : Int32) := zs_eqv h_x3 (by decide)
  obtain rfl : x4 = (-1 : Int32) := zs_eqv h_x4 (by decide)
  obtain rfl : x6 = (7 : Int32) := zs_eqv h_x6 (by decide)
  obtain rfl : t3 = (3 : Int32) := zs_eqv h_t3 (by decide)
  refine zs_gd (zs_gin h_t1 (by decide)) ?_
  refine zs_lt (Q := fun z => zs_C σ0 z) (zs_wrt h_σ (fun _ => rfl) (fun _ => rfl)) (fun σ_2 hσ_2 => ?_)
  refine zs_lt (Q := fun z => zs_in z.toInt 1 7 ∧ z.toInt = c + 1) ⟨(zs_addI 1 7 h_x9 zlI_1 (by decide)), (zs_syI 1 hc h_x9 zlI_1 (by decide) (by decide))⟩ (fun y_4 hy_4 => ?_)
  exact zs_some (zs_inl ⟨⟨hσ_2, hy_4.1⟩, hy_4.2⟩)
-- BX4_reckon_68
theorem zc_1412 {σ0 : sn_S} {σ : sn_S} (h_σ : zs_C σ0 σ) {x3 : Int32} (h_x3 : zs_in x3.toInt 2 2) {x4 : Int32} (h_x4 : zs_in x4.toInt (-1) (-1)) {x6 : Int32} (h_x6 : zs_in x6.toInt 7 7) {x7 : Int32} (h_x7 : zs_in x7.toInt 1 127) {x8 : Int32} (h_x8 : zs_in x8.toInt 0 6) {x9 : Int32} (h_x9 : zs_in x9.toInt 0 7) {c : Int} (hc : x9.toInt = c + 0) : zs_ok (BX4_reckon_68 σ 1 27 x3 x4 x6 x7 x8 x9) (fun r => zs_sum (fun v => ((zs_C σ0 v.1 ∧ zs_in (v.2).toInt 1 7)) ∧ v.2.toInt = c + 1) (fun v => zs_C σ0 v) r) := by
  unfold BX4_reckon_68
  obtain rfl : x3 = (2 : Int32) := zs_eqv h_x3 (by decide)
  obtain rfl : x4 = (-1 : Int32) := zs_eqv h_x4 (by decide)
  obtain rfl : x6 = (7 : Int32) := zs_eqv h_x6 (by decide)
  refine zs_ite (fun c1 => ?_) (fun c1 => ?_)
  · skip
    have r2 := (zs_I_le c1)
    have g3 : zs_in (x9).toInt 7 7 := (zs_ler 7 7 r2 h_x6 h_x9 (by decide))
    exact zs_some (zs_inr (h_σ))
  · skip
    have r4 := (zs_I_len c1)
    have g5 : zs_in (x9).toInt 0 6 := (zs_ltl 0 6 r4 h_x9 h_x6 (by decide))
    refine zs_gd (zs_gin g5 (by decide)) ?_
    refine zs_bd_ (zc_1040 h_x7 (zs_subI 0 6 (zs_subI 6 6 h_x6 zlI_1 (by decide)) g5 (by decide))) (fun t_3 pt_3 => ?_)
    refine zs_ite (fun c6 => ?_) (fun c6 => ?_)
    · skip
      have r7 := (zs_I_eq c6)
      have g8 : zs_in (t_3).toInt 0 0 := (zs_eql 0 0 r7 pt_3 zlI_0 (by decide))
      obtain ⟨ret, er, hr⟩ := zc_1410 h_σ h_x3 h_x4 h_x6 h_x7 h_x8 g5 g5 zlI_0 hc
      refine ⟨ret, er, ?_⟩
      exact (zs_sumw hr (fun v w => ⟨w.1, w.2⟩) (fun v w => w.elim))
    · skip
      have r9 := (zs_I_eqn c6)
      have g10 : zs_in (t_3).toInt 1 1 := (zs_nel 1 1 r9 pt_3 zlI_0 (by decide))
      obtain ⟨ret, er, hr⟩ := zc_1411 h_σ h_x3 h_x4 h_x6 h_x7 h_x8 g5 g5 zlI_3 hc
      refine ⟨ret, er, ?_⟩
      exact (zs_sumw hr (fun v w => ⟨w.1, w.2⟩) (fun v w => w.elim))
theorem zd_276 {σ0 : sn_S} {x3 : Int32} (h_x3 : zs_in x3.toInt 2 2) {x4 : Int32} (h_x4 : zs_in x4.toInt (-1) (-1)) {x6 : Int32} (h_x6 : zs_in x6.toInt 7 7) {x7 : Int32} (h_x7 : zs_in x7.toInt 1 127) {x8 : Int32} (h_x8 : zs_in x8.toInt 0 6) {s0 : (sn_S × Int32)} (h0 : (zs_C σ0 s0.1 ∧ zs_in (s0.2).toInt 0 7)) : zs_ok (sn_it (LX4_reckon_68 1 27 x3 x4 x6 x7 x8) 5000 s0) (fun t => zs_C σ0 t) := by
  refine zs_it (I := fun s => (zs_C σ0 s.1 ∧ zs_in (s.2).toInt 0 7)) (m := fun s => 7 - s.2.toInt) (fun s hs => ?_) (fun s hs => ?_) (by exact h0)
  · have h1 := hs.2; unfold zs_in at h1
    omega
  · obtain ⟨b, eb, hb⟩ := zc_1412 hs.1 h_x3 h_x4 h_x6 h_x7 h_x8 hs.2 (c := s.2.toInt) (Int.add_zero _).symm
    exact ⟨b, eb, zs_sumw hb (fun v w => ⟨⟨w.1.1, (zs_w w.1.2 (by decide))⟩, by have := w.2; omega⟩) (fun v w => w)⟩
-- BX0_live_2
theorem zc_1413 {σ0 : sn_S} {σ : sn_S} (h_σ : zs_C σ0 σ) {x1 : Int32} (h_x1 : zs_in x1.toInt 0 6) {x2 : Int32} (h_x2 : zs_in x2.toInt 0 30) {x3 : Int32} (h_x3 : zs_in x3.toInt 0 6) {c : Int} (hc : x3.toInt = c + 0) : zs_ok (BX0_live_2 σ 59 x1 x2 x3) (fun r => zs_sum (fun v => ((zs_C σ0 v.1 ∧ zs_in (v.2).toInt 1 6)) ∧ v.2.toInt = c + 1) (fun v => zs_C σ0 v) r) := by
  unfold BX0_live_2
  refine zs_ite (fun c1 => ?_) (fun c1 => ?_)
  · skip
    have r2 := (zs_I_le c1)
    exact zs_some (zs_inr (h_σ))
  · skip
    have r3 := (zs_I_len c1)
    have g4 : zs_in (x3).toInt 0 5 := (zs_ltl 0 5 r3 h_x3 (zs_rdk (q := 59) (k := 1) (z := (0, 6)) h_σ.1 rfl) (by decide))
    have g5 : zs_in ((sn_I σ 59 1)).toInt 1 6 := (zs_ltr 1 6 r3 h_x3 (zs_rdk (q := 59) (k := 1) (z := (0, 6)) h_σ.1 rfl) (by decide))
    refine zs_gd (zs_gin g4 (by decide)) ?_
    refine zs_bd_ (zc_1044 h_x1) (fun t_3 pt_3 => ?_)
    refine zs_gd (zs_gin g4 (by decide)) ?_
    refine zs_lt (Q := fun z => zs_C σ0 z) (zs_wru (z := (0, 1073741823)) h_σ (fun _ => rfl) (zs_and pt_3 (by decide)) (by decide) (fun _ => rfl)) (fun σ_6 hσ_6 => ?_)
    refine zs_lt (Q := fun z => zs_in z.toInt 1 6 ∧ z.toInt = c + 1) ⟨(zs_addI 1 6 g4 zlI_1 (by decide)), (zs_syI 1 hc g4 zlI_1 (by decide) (by decide))⟩ (fun y_8 hy_8 => ?_)
    exact zs_some (zs_inl ⟨⟨hσ_6, hy_8.1⟩, hy_8.2⟩)
theorem zd_277 {σ0 : sn_S} {x1 : Int32} (h_x1 : zs_in x1.toInt 0 6) {x2 : Int32} (h_x2 : zs_in x2.toInt 0 30) {s0 : (sn_S × Int32)} (h0 : (zs_C σ0 s0.1 ∧ zs_in (s0.2).toInt 0 6)) : zs_ok (sn_it (LX0_live_2 59 x1 x2) 5000 s0) (fun t => zs_C σ0 t) := by
  refine zs_it (I := fun s => (zs_C σ0 s.1 ∧ zs_in (s.2).toInt 0 6)) (m := fun s => 6 - s.2.toInt) (fun s hs => ?_) (fun s hs => ?_) (by exact h0)
  · have h1 := hs.2; unfold zs_in at h1
    omega
  · obtain ⟨b, eb, hb⟩ := zc_1413 hs.1 h_x1 h_x2 hs.2 (c := s.2.toInt) (Int.add_zero _).symm
    exact ⟨b, eb, zs_sumw hb (fun v w => ⟨⟨w.1.1, (zs_w w.1.2 (by decide))⟩, by have := w.2; omega⟩) (fun v w => w)⟩
-- BX0_live_29
theorem zc_1414 {σ0 : sn_S} {σ : sn_S} (h_σ : zs_C σ0 σ) {x1 : Int32} (h_x1 : zs_in x1.toInt 0 6) {x2 : Int32} (h_x2 : zs_in x2.toInt 0 30) : zs_ok (BX0_live_29 σ 59 x1 x2) (fun r => zs_C σ0 r) := by
  unfold BX0_live_29
  refine zs_bd_ (zd_238 h_x2 (s0 := (σ, x1)) ⟨h_σ, (zs_w h_x1 (by decide))⟩) (fun t_1 pt_1 => ?_)
  obtain ⟨ret, er, hr⟩ := zc_697 pt_1
  refine ⟨ret, er, ?_⟩
  exact hr
-- fX0_live
theorem zc_1415 {σ0 : sn_S} {σ : sn_S} (h_σ : zs_C σ0 σ) {x1 : Int32} (h_x1 : zs_in x1.toInt 0 6) {x2 : Int32} (h_x2 : zs_in x2.toInt 0 30) : zs_ok (fX0_live σ 59 x1 x2) (fun r => zs_C σ0 r) := by
  unfold fX0_live
  refine zs_bd_ (zd_277 h_x1 h_x2 (s0 := (σ, (0 : Int32))) ⟨h_σ, (zs_w zlI_0 (by decide))⟩) (fun t_1 pt_1 => ?_)
  obtain ⟨ret, er, hr⟩ := zc_1414 pt_1 h_x1 h_x2
  refine ⟨ret, er, ?_⟩
  exact hr
-- BX4_reckon_139
theorem zc_1416 {σ0 : sn_S} {σ : sn_S} (h_σ : zs_C σ0 σ) {x3 : Int32} (h_x3 : zs_in x3.toInt 2 2) {x4 : Int32} (h_x4 : zs_in x4.toInt (-1) (-1)) {x6 : Int32} (h_x6 : zs_in x6.toInt 7 7) {x7 : Int32} (h_x7 : zs_in x7.toInt 1 127) {t1 : Int32} (h_t1 : zs_in t1.toInt 0 6) {t2 : Int32} (h_t2 : zs_in t2.toInt 0 30) {c : Int} (hc : x7.toInt = c + 0) : zs_ok (BX4_reckon_139 σ 1 27 x3 x4 x6 x7 t1 t2) (fun r => zs_sum (fun v => ((zs_C σ0 v.1 ∧ zs_in (v.2).toInt 2 128)) ∧ v.2.toInt = c + 1) (fun v => False) r) := by
  unfold BX4_reckon_139
  obtain rfl : x3 = (2 : Int32) := zs_eqv h_x3 (by decide)
  obtain rfl : x4 = (-1 : Int32) := zs_eqv h_x4 (by decide)
  obtain rfl : x6 = (7 : Int32) := zs_eqv h_x6 (by decide)
  refine zs_bd_ (zc_1415 h_σ h_t1 h_t2) (fun t_1 pt_1 => ?_)
  refine zs_bd_ (zo_bc 7 7 (by decide) h_x7) (fun t_3 pt_3 => ?_)
  refine zs_gd (zs_gin pt_3 (by decide)) ?_
  refine zs_bd_ (zc_1406 pt_1 h_x3 h_x4 h_x6) (fun t_6 pt_6 => ?_)
  refine zs_lt (Q := fun z => zs_C σ0 z) (zs_wrL pt_6.2 rfl) (fun σ_8 hσ_8 => ?_)
  refine zs_lt (Q := fun z => zs_in z.toInt 2 128 ∧ z.toInt = c + 1) ⟨(zs_addI 2 128 h_x7 zlI_1 (by decide)), (zs_syI 1 hc h_x7 zlI_1 (by decide) (by decide))⟩ (fun y_10 hy_10 => ?_)
  exact zs_some (zs_inl ⟨⟨hσ_8, hy_10.1⟩, hy_10.2⟩)
-- BX4_reckon_119
theorem zc_1417 {σ0 : sn_S} {σ : sn_S} (h_σ : zs_C σ0 σ) {x3 : Int32} (h_x3 : zs_in x3.toInt 2 2) {x4 : Int32} (h_x4 : zs_in x4.toInt (-1) (-1)) {x6 : Int32} (h_x6 : zs_in x6.toInt 7 7) {x7 : Int32} (h_x7 : zs_in x7.toInt 1 127) {x8 : Int32} (h_x8 : zs_in x8.toInt 0 6) {c : Int} (hc : x7.toInt = c + 0) : zs_ok (BX4_reckon_119 σ 1 27 x3 x4 x6 x7 x8) (fun r => zs_sum (fun v => ((zs_C σ0 v.1 ∧ zs_in (v.2).toInt 2 128)) ∧ v.2.toInt = c + 1) (fun v => False) r) := by
  unfold BX4_reckon_119
  obtain rfl : x3 = (2 : Int32) := zs_eqv h_x3 (by decide)
  obtain rfl : x4 = (-1 : Int32) := zs_eqv h_x4 (by decide)
  obtain rfl : x6 = (7 : Int32) := zs_eqv h_x6 (by decide)
  refine zs_ite (fun c1 => ?_) (fun c1 => ?_)
  · skip
    have r2 := (zs_I_eq c1)
    obtain ⟨ret, er, hr⟩ := zc_1416 h_σ h_x3 h_x4 h_x6 h_x7 h_x8 (zs_rdk (q := 27) (k := 0) (z := (0, 30)) h_σ.1 rfl) hc
    refine ⟨ret, er, ?_⟩
    exact (zs_sumw hr (fun v w => ⟨w.1, w.2⟩) (fun v w => w.elim))
  · skip
    have r3 := (zs_I_eqn c1)
    exact (zs_botne r3 h_x3 zlI_2 (by decide)).elim
-- BX4_reckon_62
theorem zc_1418 {σ0 : sn_S} {σ : sn_S} (h_σ : zs_C σ0 σ) {x3 : Int32} (h_x3 : zs_in x3.toInt 2 2) {x4 : Int32} (h_x4 : zs_in x4.toInt (-1) (-1)) {x6 : Int32} (h_x6 : zs_in x6.toInt 7 7) {x7 : Int32} (h_x7 : zs_in x7.toInt 1 127) {t0 : Int32} (h_t0 : zs_in t0.toInt 0 6) {c : Int} (hc : x7.toInt = c + 0) : zs_ok (BX4_reckon_62 σ 1 27 x3 x4 x6 x7 t0) (fun r => zs_sum (fun v => ((zs_C σ0 v.1 ∧ zs_in (v.2).toInt 2 128)) ∧ v.2.toInt = c + 1) (fun v => False) r) := by
  unfold BX4_reckon_62
  obtain rfl : x3 = (2 : Int32) := zs_eqv h_x3 (by decide)
  obtain rfl : x4 = (-1 : Int32) := zs_eqv h_x4 (by decide)
  obtain rfl : x6 = (7 : Int32) := zs_eqv h_x6 (by decide)
  refine zs_bd_ (zd_276 h_x3 h_x4 h_x6 h_x7 h_t0 (s0 := (σ, t0)) ⟨h_σ, (zs_w h_t0 (by decide))⟩) (fun t_1 pt_1 => ?_)
  obtain ⟨ret, er, hr⟩ := zc_1417 pt_1 h_x3 h_x4 h_x6 h_x7 h_t0 hc
  refine ⟨ret, er, ?_⟩
  exact (zs_sumw hr (fun v w => ⟨w.1, w.2⟩) (fun v w => w.elim))
-- BX4_reckon_34
theorem zc_1419 {σ0 : sn_S} {σ : sn_S} (h_σ : zs_C σ0 σ) {x3 : Int32} (h_x3 : zs_in x3.toInt 2 2) {x4 : Int32} (h_x4 : zs_in x4.toInt (-1) (-1)) {x6 : Int32} (h_x6 : zs_in x6.toInt 7 7) {x7 : Int32} (h_x7 : zs_in x7.toInt 0 128) {c : Int} (hc : x7.toInt = c + 0) : zs_ok (BX4_reckon_34 σ 1 27 x3 x4 x6 x7) (fun r => zs_sum (fun v => ((zs_C σ0 v.1 ∧ zs_in (v.2).toInt 1 128)) ∧ v.2.toInt = c + 1) (fun v => zs_C σ0 v) r) := by
  unfold BX4_reckon_34
  obtain rfl : x3 = (2 : Int32) := zs_eqv h_x3 (by decide)
  obtain rfl : x4 = (-1 : Int32) := zs_eqv h_x4 (by decide)
  obtain rfl : x6 = (7 : Int32) := zs_eqv h_x6 (by decide)
  refine zs_ite (fun c1 => ?_) (fun c1 => ?_)
  · skip
    have r2 := (zs_I_le c1)
    have g3 : zs_in (x7).toInt 128 128 := (zs_ler 128 128 r2 (zs_cases h_x6 (fun z => zs_in ((1 : Int32) <<< (z &&& 31)).toInt 128 128) (by decide +kernel)) h_x7 (by decide))
    exact zs_some (zs_inr (h_σ))
  · skip
    have r4 := (zs_I_len c1)
    have g5 : zs_in (x7).toInt 0 127 := (zs_ltl 0 127 r4 h_x7 (zs_cases h_x6 (fun z => zs_in ((1 : Int32) <<< (z &&& 31)).toInt 128 128) (by decide +kernel)) (by decide))
    refine zs_ite (fun c6 => ?_) (fun c6 => ?_)
    · skip
      have r7 := (zs_I_eq c6)
      have g8 : zs_in (x7).toInt 0 0 := (zs_eql 0 0 r7 g5 zlI_0 (by decide))
      obtain ⟨ret, er, hr⟩ := zc_1409 h_σ h_x3 h_x4 h_x6 g8 zlI_0 hc
      refine ⟨ret, er, ?_⟩
      exact (zs_sumw hr (fun v w => ⟨⟨w.1.1, (zs_w w.1.2 (by decide))⟩, w.2⟩) (fun v w => w.elim))
    · skip
      have r9 := (zs_I_eqn c6)
      have g10 : zs_in (x7).toInt 1 127 := (zs_nel 1 127 r9 g5 zlI_0 (by decide))
      refine zs_bd_ (zo_low1 7 6 (by decide) g10) (fun t_3 pt_3 => ?_)
      obtain ⟨ret, er, hr⟩ := zc_1418 h_σ h_x3 h_x4 h_x6 g10 (zs_subI 0 6 (zs_subI 6 6 h_x6 zlI_1 (by decide)) pt_3 (by decide)) hc
      refine ⟨ret, er, ?_⟩
      exact (zs_sumw hr (fun v w => ⟨⟨w.1.1, (zs_w w.1.2 (by decide))⟩, w.2⟩) (fun v w => w.elim))
