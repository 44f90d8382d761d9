-- BX0_liveMinute_10
theorem zc_919 {σ0 : sn_S} {σ : sn_S} (h_σ : zs_C σ0 σ) {x1 : Int32} (h_x1 : zs_in x1.toInt 0 4) {x2 : Int32} (h_x2 : zs_in x2.toInt 0 24) {x3 : Int32} {x4 : Int32} (h_x4 : zs_in x4.toInt 0 6) (hl_x1 : x2.toInt = 6 * x1.toInt) {c : Int} (hc : x4.toInt = c + 0) : zs_ok (BX0_liveMinute_10 σ 59 x1 x2 x3 x4) (fun r => zs_sum (fun v => ((zs_C σ0 v.1 ∧ (True ∧ zs_in (v.2.2).toInt 1 6))) ∧ v.2.2.toInt = c + 1) (fun v => (zs_C σ0 v.1 ∧ True)) r) := by
  unfold BX0_liveMinute_10
  refine zs_ite (fun c1 => ?_) (fun c1 => ?_)
  · skip
    have r2 := (zs_I_le c1)
    exact zs_some (zs_inr (⟨h_σ, trivial⟩))
  · skip
    have r3 := (zs_I_len c1)
    have g4 : zs_in (x4).toInt 0 5 := (zs_ltl 0 5 r3 h_x4 (zs_rdk (q := 59) (k := 1) (z := (0, 6)) h_σ.1 rfl) (by decide))
    have g5 : zs_in ((sn_I σ 59 1)).toInt 1 6 := (zs_ltr 1 6 r3 h_x4 (zs_rdk (q := 59) (k := 1) (z := (0, 6)) h_σ.1 rfl) (by decide))
    refine zs_bd_ (zc_913 h_σ g4 h_x1) (fun t_2 pt_2 => ?_)
    refine zs_ite (fun c6 => ?_) (fun c6 => ?_)
    · skip
      have r7 := (zs_I_eq c6)
      have g8 : zs_in (x1).toInt 0 0 := (zs_eql 0 0 r7 h_x1 zlI_0 (by decide))
      have g9 : zs_in (x2).toInt 0 0 := (zs_lin 0 0 hl_x1 g8 (by decide))
      obtain ⟨ret, er, hr⟩ := zc_692 h_σ g8 g9 g4 zlI_0 hl_x1 hc
      refine ⟨ret, er, ?_⟩
      exact (zs_sumw hr (fun v w => ⟨w.1, w.2⟩) (fun v w => w.elim))
    · skip
      have r10 := (zs_I_eqn c6)
      have g11 : zs_in (x1).toInt 1 4 := (zs_nel 1 4 r10 h_x1 zlI_0 (by decide))
      have g12 : zs_in (x2).toInt 6 24 := (zs_lin 6 24 hl_x1 g11 (by decide))
      refine zs_gd (zs_gin (zs_addI 0 23 (zs_subI 0 18 g12 zlI_6 (by decide)) g4 (by decide)) (by decide)) ?_
      obtain ⟨ret, er, hr⟩ := zc_918 h_σ g11 g12 g4 hl_x1 hc
      refine ⟨ret, er, ?_⟩
      exact (zs_sumw hr (fun v w => ⟨w.1, w.2⟩) (fun v w => w.elim))
theorem zd_167 {σ0 : sn_S} {x1 : Int32} (h_x1 : zs_in x1.toInt 0 4) {x2 : Int32} (h_x2 : zs_in x2.toInt 0 24) (hl_x1 : x2.toInt = 6 * x1.toInt) {s0 : (sn_S × (Int32 × Int32))} (h0 : (zs_C σ0 s0.1 ∧ (True ∧ zs_in (s0.2.2).toInt 0 6))) : zs_ok (sn_it (LX0_liveMinute_10 59 x1 x2) 5000 s0) (fun t => (zs_C σ0 t.1 ∧ True)) := by
  refine zs_it (I := fun s => (zs_C σ0 s.1 ∧ (True ∧ zs_in (s.2.2).toInt 0 6))) (m := fun s => 6 - s.2.2.toInt) (fun s hs => ?_) (fun s hs => ?_) (by exact h0)
  · have h1 := hs.2.2; unfold zs_in at h1
    omega
  · obtain ⟨b, eb, hb⟩ := zc_919 hs.1 h_x1 h_x2 hs.2.2 hl_x1 (c := s.2.2.toInt) (Int.add_zero _).symm
    exact ⟨b, eb, zs_sumw hb (fun v w => ⟨⟨w.1.1, ⟨w.1.2.1, (zs_w w.1.2.2 (by decide))⟩⟩, by have := w.2; omega⟩) (fun v w => w)⟩
-- BX0_liveMinute_115
theorem zc_920 {σ0 : sn_S} {σ : sn_S} (h_σ : zs_C σ0 σ) {x1 : Int32} (h_x1 : zs_in x1.toInt 0 4) {x3 : Int32} : zs_ok (BX0_liveMinute_115 σ 59 x1 x3) (fun r => zs_C σ0 r) := by
  unfold BX0_liveMinute_115
  refine zs_gd (zs_gin h_x1 (by decide)) ?_
  refine zs_lt (Q := fun z => zs_C σ0 z) (zs_wrt h_σ (fun _ => rfl) (fun _ => rfl)) (fun σ_2 hσ_2 => ?_)
  exact zs_some hσ_2
-- fX0_liveMinute
theorem zc_921 {σ0 : sn_S} {σ : sn_S} (h_σ : zs_C σ0 σ) {x1 : Int32} (h_x1 : zs_in x1.toInt 0 4) : zs_ok (fX0_liveMinute σ 59 x1) (fun r => zs_C σ0 r) := by
  unfold fX0_liveMinute
  refine zs_lt (Q := fun z => zs_in z.toInt 0 24 ∧ z = ((6 : Int32) * x1)) ⟨(zs_mulI 0 24 zlI_6 h_x1 (by decide)), rfl⟩ (fun y_1 hy_1 => ?_)
  refine zs_bd_ (zd_167 h_x1 hy_1.1 (zs_linv hy_1.2 zlI_6 h_x1 (by decide)) (s0 := (σ, ((0 : Int32), (0 : Int32)))) ⟨h_σ, ⟨trivial, (zs_w zlI_0 (by decide))⟩⟩) (fun t_3 pt_3 => ?_)
  obtain ⟨ret, er, hr⟩ := zc_920 pt_3.1 h_x1
  refine ⟨ret, er, ?_⟩
  exact hr
-- BX0_live_31
theorem zc_922 {σ0 : sn_S} {σ : sn_S} (h_σ : zs_C σ0 σ) {x2 : Int32} (h_x2 : zs_in x2.toInt 5 5) {x3 : Int32} (h_x3 : zs_in x3.toInt 0 5) {c : Int} (hc : x3.toInt = c + 0) : zs_ok (BX0_live_31 σ 59 x2 x3) (fun r => zs_sum (fun v => ((zs_C σ0 v.1 ∧ zs_in (v.2).toInt 1 5)) ∧ v.2.toInt = c + 1) (fun v => zs_C σ0 v) r) := by
  unfold BX0_live_31
  obtain rfl : x2 = (5 : Int32) := zs_eqv h_x2 (by decide)
  refine zs_ite (fun c1 => ?_) (fun c1 => ?_)
  · skip
    have r2 := (zs_I_le c1)
    have g3 : zs_in (x3).toInt 5 5 := (zs_ler 5 5 r2 h_x2 h_x3 (by decide))
    exact zs_some (zs_inr (h_σ))
  · skip
    have r4 := (zs_I_len c1)
    have g5 : zs_in (x3).toInt 0 4 := (zs_ltl 0 4 r4 h_x3 h_x2 (by decide))
    refine zs_ite (fun c6 => ?_) (fun c6 => ?_)
    · skip
      have r7 := (zs_I_le c6)
      have g8 : zs_in ((sn_I σ 59 0)).toInt 0 4 := (zs_lel 0 4 r7 (zs_rdk (q := 59) (k := 0) (z := (0, 30)) h_σ.1 rfl) g5 (by decide))
      exact zs_some (zs_inr (h_σ))
    · skip
      have r9 := (zs_I_len c6)
      have g10 : zs_in ((sn_I σ 59 0)).toInt 1 30 := (zs_ltr 1 30 r9 g5 (zs_rdk (q := 59) (k := 0) (z := (0, 30)) h_σ.1 rfl) (by decide))
      refine zs_bd_ (zc_908 h_σ g5) (fun t_3 pt_3 => ?_)
      refine zs_bd_ (zc_921 pt_3 g5) (fun t_5 pt_5 => ?_)
      refine zs_lt (Q := fun z => zs_in z.toInt 1 5 ∧ z.toInt = c + 1) ⟨(zs_addI 1 5 g5 zlI_1 (by decide)), (zs_syI 1 hc g5 zlI_1 (by decide) (by decide))⟩ (fun y_7 hy_7 => ?_)
      exact zs_some (zs_inl ⟨⟨pt_5, hy_7.1⟩, hy_7.2⟩)
theorem zd_168 {σ0 : sn_S} {x2 : Int32} (h_x2 : zs_in x2.toInt 5 5) {s0 : (sn_S × Int32)} (h0 : (zs_C σ0 s0.1 ∧ zs_in (s0.2).toInt 0 5)) : zs_ok (sn_it (LX0_live_31 59 x2) 5000 s0) (fun t => zs_C σ0 t) := by
  refine zs_it (I := fun s => (zs_C σ0 s.1 ∧ zs_in (s.2).toInt 0 5)) (m := fun s => 5 - s.2.toInt) (fun s hs => ?_) (fun s hs => ?_) (by exact h0)
  · have h1 := hs.2; unfold zs_in at h1
    omega
  · obtain ⟨b, eb, hb⟩ := zc_922 hs.1 h_x2 hs.2 (c := s.2.toInt) (Int.add_zero _).symm
    exact ⟨b, eb, zs_sumw hb (fun v w => ⟨⟨w.1.1, (zs_w w.1.2 (by decide))⟩, by have := w.2; omega⟩) (fun v w => w)⟩
-- BX0_live_29
theorem zc_923 {σ0 : sn_S} {σ : sn_S} (h_σ : zs_C σ0 σ) {x1 : Int32} (h_x1 : zs_in x1.toInt 0 0) {x2 : Int32} (h_x2 : zs_in x2.toInt 5 5) : zs_ok (BX0_live_29 σ 59 x1 x2) (fun r => zs_C σ0 r) := by
  unfold BX0_live_29
  obtain rfl : x1 = (0 : Int32) := zs_eqv h_x1 (by decide)
  obtain rfl : x2 = (5 : Int32) := zs_eqv h_x2 (by decide)
  refine zs_bd_ (zd_168 h_x2 (s0 := (σ, (0 : Int32))) ⟨h_σ, (zs_w h_x1 (by decide))⟩) (fun t_1 pt_1 => ?_)
  obtain ⟨ret, er, hr⟩ := zc_697 pt_1
  refine ⟨ret, er, ?_⟩
  exact hr
-- fX0_live
theorem zc_924 {σ0 : sn_S} {σ : sn_S} (h_σ : zs_C σ0 σ) {x1 : Int32} (h_x1 : zs_in x1.toInt 0 0) {x2 : Int32} (h_x2 : zs_in x2.toInt 5 5) : zs_ok (fX0_live σ 59 x1 x2) (fun r => zs_C σ0 r) := by
  unfold fX0_live
  obtain rfl : x1 = (0 : Int32) := zs_eqv h_x1 (by decide)
  obtain rfl : x2 = (5 : Int32) := zs_eqv h_x2 (by decide)
  refine zs_bd_ (zd_164 h_x1 h_x2 (s0 := (σ, (0 : Int32))) ⟨h_σ, (zs_w zlI_0 (by decide))⟩) (fun t_1 pt_1 => ?_)
  obtain ⟨ret, er, hr⟩ := zc_923 pt_1 h_x1 h_x2
  refine ⟨ret, er, ?_⟩
  exact hr
-- fX4_worth
theorem zc_925 {σ0 : sn_S} {σ : sn_S} (h_σ : zs_C σ0 σ) {x2 : Int32} (h_x2 : zs_in x2.toInt 0 0) {x3 : Int32} (h_x3 : zs_in x3.toInt 0 5) {x4 : Int32} (h_x4 : zs_in x4.toInt 5 5) : zs_ok (fX4_worth σ 1 x2 x3 x4) (fun r => (zs_in (r.1).toInt 0 1 ∧ zs_C σ0 r.2)) := by
  unfold fX4_worth
  obtain rfl : x2 = (0 : Int32) := zs_eqv h_x2 (by decide)
  obtain rfl : x4 = (5 : Int32) := zs_eqv h_x4 (by decide)
  refine zs_ite (fun c1 => ?_) (fun c1 => ?_)
  · skip
    have r2 := (zs_I_eq c1)
    refine zs_gd (zs_gin h_x3 (by decide)) ?_
    refine zs_ite (fun c3 => ?_) (fun c3 => ?_)
    · skip
      have r4 := (zs_I_eq c3)
      have g5 : zs_in ((sn_I σ (59 + 10) x3.toNatClampNeg)).toInt 0 0 := (zs_eql 0 0 r4 (zs_rdu (q := 69) (z := (0, 1073741823)) h_σ.1 (fun _ => rfl)) zlI_0 (by decide))
      exact zs_some ⟨(zs_w zlL_0 (by decide)), h_σ⟩
    · skip
      have r6 := (zs_I_eqn c3)
      have g7 : zs_in ((sn_I σ (59 + 10) x3.toNatClampNeg)).toInt 1 1073741823 := (zs_nel 1 1073741823 r6 (zs_rdu (q := 69) (z := (0, 1073741823)) h_σ.1 (fun _ => rfl)) zlI_0 (by decide))
      exact zs_some ⟨(zs_w zlL_1 (by decide)), h_σ⟩
  · skip
    have r8 := (zs_I_eqn c1)
    exact (zs_botne r8 h_x2 zlI_0 (by decide)).elim
-- BX4_reckon_139
theorem zc_926 {σ0 : sn_S} {σ : sn_S} (h_σ : zs_C σ0 σ) {x3 : Int32} (h_x3 : zs_in x3.toInt 0 0) {x4 : Int32} (h_x4 : zs_in x4.toInt 0 5) {x6 : Int32} (h_x6 : zs_in x6.toInt 5 5) {x7 : Int32} (h_x7 : zs_in x7.toInt 0 0) {t1 : Int32} (h_t1 : zs_in t1.toInt 0 0) {t2 : Int32} (h_t2 : zs_in t2.toInt 5 5) {c : Int} (hc : x7.toInt = c + 0) : zs_ok (BX4_reckon_139 σ 1 27 x3 x4 x6 x7 t1 t2) (fun r => zs_sum (fun v => ((zs_C σ0 v.1 ∧ zs_in (v.2).toInt 1 1)) ∧ v.2.toInt = c + 1) (fun v => False) r) := by
  unfold BX4_reckon_139
  obtain rfl : x3 = (0 : Int32) := zs_eqv h_x3 (by decide)
  obtain rfl : x6 = (5 : Int32) := zs_eqv h_x6 (by decide)
  obtain rfl : t1 = (0 : Int32) := zs_eqv h_t1 (by decide)
  obtain rfl : t2 = (5 : Int32) := zs_eqv h_t2 (by decide)
  refine zs_bd_ (zc_924 h_σ h_t1 h_t2) (fun t_1 pt_1 => ?_)
  refine zs_bd_ (zo_bc 0 0 (by decide) h_x7) (fun t_3 pt_3 => ?_)
  refine zs_gd (zs_gin pt_3 (by decide)) ?_
  refine zs_bd_ (zc_925 pt_1 h_x3 h_x4 h_x6) (fun t_6 pt_6 => ?_)
  refine zs_lt (Q := fun z => zs_C σ0 z) (zs_wrL pt_6.2 rfl) (fun σ_8 hσ_8 => ?_)
  refine zs_lt (Q := fun z => zs_in z.toInt 1 1 ∧ z.toInt = c + 1) ⟨(zs_addI 1 1 h_x7 zlI_1 (by decide)), (zs_syI 1 hc h_x7 zlI_1 (by decide) (by decide))⟩ (fun y_10 hy_10 => ?_)
  exact zs_some (zs_inl ⟨⟨hσ_8, hy_10.1⟩, hy_10.2⟩)
-- BX4_reckon_119
theorem zc_927 {σ0 : sn_S} {σ : sn_S} (h_σ : zs_C σ0 σ) {x3 : Int32} (h_x3 : zs_in x3.toInt 0 0) {x4 : Int32} (h_x4 : zs_in x4.toInt 0 5) {x6 : Int32} (h_x6 : zs_in x6.toInt 5 5) {x7 : Int32} (h_x7 : zs_in x7.toInt 0 0) {x8 : Int32} (h_x8 : zs_in x8.toInt 0 0) {c : Int} (hc : x7.toInt = c + 0) : zs_ok (BX4_reckon_119 σ 1 27 x3 x4 x6 x7 x8) (fun r => zs_sum (fun v => ((zs_C σ0 v.1 ∧ zs_in (v.2).toInt 1 1)) ∧ v.2.toInt = c + 1) (fun v => False) r) := by
  unfold BX4_reckon_119
  obtain rfl : x3 = (0 : Int32) := zs_eqv h_x3 (by decide)
  obtain rfl : x6 = (5 : Int32) := zs_eqv h_x6 (by decide)
  obtain rfl : x8 = (0 : Int32) := zs_eqv h_x8 (by decide)
  refine zs_ite (fun c1 => ?_) (fun c1 => ?_)
  · skip
    have r2 := (zs_I_eq c1)
    exact (zs_botr r2 h_x3 zlI_2 (by decide)).elim
  · skip
    have r3 := (zs_I_eqn c1)
    obtain ⟨ret, er, hr⟩ := zc_926 h_σ h_x3 h_x4 h_x6 h_x7 h_x8 h_x6 hc
    refine ⟨ret, er, ?_⟩
    exact (zs_sumw hr (fun v w => ⟨w.1, w.2⟩) (fun v w => w.elim))
-- BX4_reckon_62
theorem zc_928 {σ0 : sn_S} {σ : sn_S} (h_σ : zs_C σ0 σ) {x3 : Int32} (h_x3 : zs_in x3.toInt 0 0) {x4 : Int32} (h_x4 : zs_in x4.toInt 0 5) {x6 : Int32} (h_x6 : zs_in x6.toInt 5 5) {x7 : Int32} (h_x7 : zs_in x7.toInt 0 0) {t0 : Int32} (h_t0 : zs_in t0.toInt 0 0) {c : Int} (hc : x7.toInt = c + 0) : zs_ok (BX4_reckon_62 σ 1 27 x3 x4 x6 x7 t0) (fun r => zs_sum (fun v => ((zs_C σ0 v.1 ∧ zs_in (v.2).toInt 1 1)) ∧ v.2.toInt = c + 1) (fun v => False) r) := by
  unfold BX4_reckon_62
  obtain rfl : x3 = (0 : Int32) := zs_eqv h_x3 (by decide)
  obtain rfl : x6 = (5 : Int32) := zs_eqv h_x6 (by decide)
  obtain rfl : t0 = (0 : Int32) := zs_eqv h_t0 (by decide)
  refine zs_bd_ (zd_163 h_x3 h_x4 h_x6 h_x7 h_t0 (s0 := (σ, (0 : Int32))) ⟨h_σ, (zs_w h_t0 (by decide))⟩) (fun t_1 pt_1 => ?_)
  obtain ⟨ret, er, hr⟩ := zc_927 pt_1 h_x3 h_x4 h_x6 h_x7 h_t0 hc
  refine ⟨ret, er, ?_⟩
  exact (zs_sumw hr (fun v w => ⟨w.1, w.2⟩) (fun v w => w.elim))
-- fX8_hasBit
theorem zc_929 {x0 : Int32} (h_x0 : zs_in x0.toInt 1 31) {x1 : Int32} (h_x1 : zs_in x1.toInt 0 4) : zs_ok (fX8_hasBit x0 x1) (fun r => zs_in (r).toInt 0 1) := by
  unfold fX8_hasBit
  refine zs_ite (fun c1 => ?_) (fun c1 => ?_)
  · skip
    have r2 := (zs_I_eq c1)
    have g3 : zs_in (((x0 >>> (x1 &&& 31)) &&& (1 : Int32))).toInt 1 1 := (zs_eql 1 1 r2 (zs_and zlI_1 (by decide)) zlI_1 (by decide))
    refine zs_gd (zs_b01 zlI_1 (by decide)) ?_
    exact zs_some (zs_w zlI_1 (by decide))
  · skip
    have r4 := (zs_I_eqn c1)
    have g5 : zs_in (((x0 >>> (x1 &&& 31)) &&& (1 : Int32))).toInt 0 0 := (zs_neh 0 0 r4 (zs_and zlI_1 (by decide)) zlI_1 (by decide))
    refine zs_gd (zs_b01 zlI_0 (by decide)) ?_
    exact zs_some (zs_w zlI_0 (by decide))
-- BX4_reckon_111
theorem zc_930 {σ0 : sn_S} {σ : sn_S} (h_σ : zs_C σ0 σ) {x3 : Int32} (h_x3 : zs_in x3.toInt 0 0) {x4 : Int32} (h_x4 : zs_in x4.toInt 0 5) {x6 : Int32} (h_x6 : zs_in x6.toInt 5 5) {x7 : Int32} (h_x7 : zs_in x7.toInt 1 31) {x8 : Int32} (h_x8 : zs_in x8.toInt 0 4) {x9 : Int32} (h_x9 : zs_in x9.toInt 0 4) {t1 : Int32} (h_t1 : zs_in t1.toInt 0 4) {t2 : Int32} {t3 : Int32} (h_t3 : zs_in t3.toInt 0 0) {c : Int} (hc : x9.toInt = c + 0) : zs_ok (BX4_reckon_111 σ 1 27 x3 x4 x6 x7 x8 x9 t1 t2 t3) (fun r => zs_sum (fun v => ((zs_C σ0 v.1 ∧ zs_in (v.2).toInt 1 5)) ∧ v.2.toInt = c + 1) (fun v => False) r) := by
  unfold BX4_reckon_111
  obtain rfl : x3 = (0 : Int32) := zs_eqv h_x3 (by decide)
  obtain rfl : x6 = (5 : Int32) := zs_eqv h_x6 (by decide)
  obtain rfl : t3 = (0 : Int32) := zs_eqv h_t3 (by decide)
  refine zs_gd (zs_gin h_t1 (by decide)) ?_
  refine zs_lt (Q := fun z => zs_C σ0 z) (zs_wrt h_σ (fun _ => rfl) (fun _ => rfl)) (fun σ_2 hσ_2 => ?_)
  refine zs_lt (Q := fun z => zs_in z.toInt 1 5 ∧ z.toInt = c + 1) ⟨(zs_addI 1 5 h_x9 zlI_1 (by decide)), (zs_syI 1 hc h_x9 zlI_1 (by decide) (by decide))⟩ (fun y_4 hy_4 => ?_)
  exact zs_some (zs_inl ⟨⟨hσ_2, hy_4.1⟩, hy_4.2⟩)
-- BX4_reckon_111
theorem zc_931 {σ0 : sn_S} {σ : sn_S} (h_σ : zs_C σ0 σ) {x3 : Int32} (h_x3 : zs_in x3.toInt 0 0) {x4 : Int32} (h_x4 : zs_in x4.toInt 0 5) {x6 : Int32} (h_x6 : zs_in x6.toInt 5 5) {x7 : Int32} (h_x7 : zs_in x7.toInt 1 31) {x8 : Int32} (h_x8 : zs_in x8.toInt 0 4) {x9 : Int32} (h_x9 : zs_in x9.toInt 0 4) {t1 : Int32} (h_t1 : zs_in t1.toInt 0 4) {t2 : Int32} {t3 : Int32} (h_t3 : zs_in t3.toInt 3 3) {c : Int} (hc : x9.toInt = c + 0) : zs_ok (BX4_reckon_111 σ 1 27 x3 x4 x6 x7 x8 x9 t1 t2 t3) (fun r => zs_sum (fun v => ((zs_C σ0 v.1 ∧ zs_in (v.2).toInt 1 5)) ∧ v.2.toInt = c + 1) (fun v => False) r) := by
  unfold BX4_reckon_111
  obtain rfl : x3 = (0 : Int32) := zs_eqv h_x3 (by decide)
  obtain rfl : x6 = (5 : Int32) := zs_eqv h_x6 (by decide)
  obtain rfl : t3 = (3 : Int32) := zs_eqv h_t3 (by decide)
  refine zs_gd (zs_gin h_t1 (by decide)) ?_
  refine zs_lt (Q := fun z => zs_C σ0 z) (zs_wrt h_σ (fun _ => rfl) (fun _ => rfl)) (fun σ_2 hσ_2 => ?_)
  refine zs_lt (Q := fun z => zs_in z.toInt 1 5 ∧ z.toInt = c + 1) ⟨(zs_addI 1 5 h_x9 zlI_1 (by decide)), (zs_syI 1 hc h_x9 zlI_1 (by decide) (by decide))⟩ (fun y_4 hy_4 => ?_)
  exact zs_some (zs_inl ⟨⟨hσ_2, hy_4.1⟩, hy_4.2⟩)
-- BX4_reckon_68
theorem zc_932 {σ0 : sn_S} {σ : sn_S} (h_σ : zs_C σ0 σ) {x3 : Int32} (h_x3 : zs_in x3.toInt 0 0) {x4 : Int32} (h_x4 : zs_in x4.toInt 0 5) {x6 : Int32} (h_x6 : zs_in x6.toInt 5 5) {x7 : Int32} (h_x7 : zs_in x7.toInt 1 31) {x8 : Int32} (h_x8 : zs_in x8.toInt 0 4) {x9 : Int32} (h_x9 : zs_in x9.toInt 0 5) {c : Int} (hc : x9.toInt = c + 0) : zs_ok (BX4_reckon_68 σ 1 27 x3 x4 x6 x7 x8 x9) (fun r => zs_sum (fun v => ((zs_C σ0 v.1 ∧ zs_in (v.2).toInt 1 5)) ∧ v.2.toInt = c + 1) (fun v => zs_C σ0 v) r) := by
  unfold BX4_reckon_68
  obtain rfl : x3 = (0 : Int32) := zs_eqv h_x3 (by decide)
  obtain rfl : x6 = (5 : Int32) := zs_eqv h_x6 (by decide)
  refine zs_ite (fun c1 => ?_) (fun c1 => ?_)
  · skip
    have r2 := (zs_I_le c1)
    have g3 : zs_in (x9).toInt 5 5 := (zs_ler 5 5 r2 h_x6 h_x9 (by decide))
    exact zs_some (zs_inr (h_σ))
  · skip
    have r4 := (zs_I_len c1)
    have g5 : zs_in (x9).toInt 0 4 := (zs_ltl 0 4 r4 h_x9 h_x6 (by decide))
    refine zs_gd (zs_gin g5 (by decide)) ?_
    refine zs_bd_ (zc_929 h_x7 (zs_subI 0 4 (zs_subI 4 4 h_x6 zlI_1 (by decide)) g5 (by decide))) (fun t_3 pt_3 => ?_)
    refine zs_ite (fun c6 => ?_) (fun c6 => ?_)
    · skip
      have r7 := (zs_I_eq c6)
      have g8 : zs_in (t_3).toInt 0 0 := (zs_eql 0 0 r7 pt_3 zlI_0 (by decide))
      obtain ⟨ret, er, hr⟩ := zc_930 h_σ h_x3 h_x4 h_x6 h_x7 h_x8 g5 g5 zlI_0 hc
      refine ⟨ret, er, ?_⟩
      exact (zs_sumw hr (fun v w => ⟨w.1, w.2⟩) (fun v w => w.elim))
    · skip
      have r9 := (zs_I_eqn c6)
      have g10 : zs_in (t_3).toInt 1 1 := (zs_nel 1 1 r9 pt_3 zlI_0 (by decide))
      obtain ⟨ret, er, hr⟩ := zc_931 h_σ h_x3 h_x4 h_x6 h_x7 h_x8 g5 g5 zlI_3 hc
      refine ⟨ret, er, ?_⟩
      exact (zs_sumw hr (fun v w => ⟨w.1, w.2⟩) (fun v w => w.elim))
theorem zd_169 {σ0 : sn_S} {x3 : Int32} (h_x3 : zs_in x3.toInt 0 0) {x4 : Int32} (h_x4 : zs_in x4.toInt 0 5) {x6 : Int32} (h_x6 : zs_in x6.toInt 5 5) {x7 : Int32} (h_x7 : zs_in x7.toInt 1 31) {x8 : Int32} (h_x8 : zs_in x8.toInt 0 4) {s0 : (sn_S × Int32)} (h0 : (zs_C σ0 s0.1 ∧ zs_in (s0.2).toInt 0 5)) : zs_ok (sn_it (LX4_reckon_68 1 27 x3 x4 x6 x7 x8) 5000 s0) (fun t => zs_C σ0 t) := by
  refine zs_it (I := fun s => (zs_C σ0 s.1 ∧ zs_in (s.2).toInt 0 5)) (m := fun s => 5 - s.2.toInt) (fun s hs => ?_) (fun s hs => ?_) (by exact h0)
  · have h1 := hs.2; unfold zs_in at h1
    omega
  · obtain ⟨b, eb, hb⟩ := zc_932 hs.1 h_x3 h_x4 h_x6 h_x7 h_x8 hs.2 (c := s.2.toInt) (Int.add_zero _).symm
    exact ⟨b, eb, zs_sumw hb (fun v w => ⟨⟨w.1.1, (zs_w w.1.2 (by decide))⟩, by have := w.2; omega⟩) (fun v w => w)⟩
-- fX8_firstMinutes
theorem zc_933 {x0 : Int32} (h_x0 : zs_in x0.toInt 0 4) : zs_ok (fX8_firstMinutes x0) (fun r => zs_in (r).toInt 0 15) := by
  unfold fX8_firstMinutes
  exact zs_some (zs_subI 0 15 (zs_cases h_x0 (fun z => zs_in ((1 : Int32) <<< (z &&& 31)).toInt 1 16) (by decide +kernel)) zlI_1 (by decide))
-- BX0_live_2
theorem zc_934 {σ0 : sn_S} {σ : sn_S} (h_σ : zs_C σ0 σ) {x1 : Int32} (h_x1 : zs_in x1.toInt 0 4) {x2 : Int32} (h_x2 : zs_in x2.toInt 5 5) {x3 : Int32} (h_x3 : zs_in x3.toInt 0 6) {c : Int} (hc : x3.toInt = c + 0) : zs_ok (BX0_live_2 σ 59 x1 x2 x3) (fun r => zs_sum (fun v => ((zs_C σ0 v.1 ∧ zs_in (v.2).toInt 1 6)) ∧ v.2.toInt = c + 1) (fun v => zs_C σ0 v) r) := by
  unfold BX0_live_2
  obtain rfl : x2 = (5 : Int32) := zs_eqv h_x2 (by decide)
  refine zs_ite (fun c1 => ?_) (fun c1 => ?_)
  · skip
    have r2 := (zs_I_le c1)
    exact zs_some (zs_inr (h_σ))
  · skip
    have r3 := (zs_I_len c1)
    have g4 : zs_in (x3).toInt 0 5 := (zs_ltl 0 5 r3 h_x3 (zs_rdk (q := 59) (k := 1) (z := (0, 6)) h_σ.1 rfl) (by decide))
    have g5 : zs_in ((sn_I σ 59 1)).toInt 1 6 := (zs_ltr 1 6 r3 h_x3 (zs_rdk (q := 59) (k := 1) (z := (0, 6)) h_σ.1 rfl) (by decide))
    refine zs_gd (zs_gin g4 (by decide)) ?_
    refine zs_bd_ (zc_933 h_x1) (fun t_3 pt_3 => ?_)
    refine zs_gd (zs_gin g4 (by decide)) ?_
    refine zs_lt (Q := fun z => zs_C σ0 z) (zs_wru (z := (0, 1073741823)) h_σ (fun _ => rfl) (zs_and pt_3 (by decide)) (by decide) (fun _ => rfl)) (fun σ_6 hσ_6 => ?_)
    refine zs_lt (Q := fun z => zs_in z.toInt 1 6 ∧ z.toInt = c + 1) ⟨(zs_addI 1 6 g4 zlI_1 (by decide)), (zs_syI 1 hc g4 zlI_1 (by decide) (by decide))⟩ (fun y_8 hy_8 => ?_)
    exact zs_some (zs_inl ⟨⟨hσ_6, hy_8.1⟩, hy_8.2⟩)
theorem zd_170 {σ0 : sn_S} {x1 : Int32} (h_x1 : zs_in x1.toInt 0 4) {x2 : Int32} (h_x2 : zs_in x2.toInt 5 5) {s0 : (sn_S × Int32)} (h0 : (zs_C σ0 s0.1 ∧ zs_in (s0.2).toInt 0 6)) : zs_ok (sn_it (LX0_live_2 59 x1 x2) 5000 s0) (fun t => zs_C σ0 t) := by
  refine zs_it (I := fun s => (zs_C σ0 s.1 ∧ zs_in (s.2).toInt 0 6)) (m := fun s => 6 - s.2.toInt) (fun s hs => ?_) (fun s hs => ?_) (by exact h0)
  · have h1 := hs.2; unfold zs_in at h1
    omega
  · obtain ⟨b, eb, hb⟩ := zc_934 hs.1 h_x1 h_x2 hs.2 (c := s.2.toInt) (Int.add_zero _).symm
    exact ⟨b, eb, zs_sumw hb (fun v w => ⟨⟨w.1.1, (zs_w w.1.2 (by decide))⟩, by have := w.2; omega⟩) (fun v w => w)⟩
-- BX0_live_29
theorem zc_935 {σ0 : sn_S} {σ : sn_S} (h_σ : zs_C σ0 σ) {x1 : Int32} (h_x1 : zs_in x1.toInt 0 4) {x2 : Int32} (h_x2 : zs_in x2.toInt 5 5) : zs_ok (BX0_live_29 σ 59 x1 x2) (fun r => zs_C σ0 r) := by
  unfold BX0_live_29
  obtain rfl : x2 = (5 : Int32) := zs_eqv h_x2 (by decide)
  refine zs_bd_ (zd_168 h_x2 (s0 := (σ, x1)) ⟨h_σ, (zs_w h_x1 (by decide))⟩) (fun t_1 pt_1 => ?_)
  obtain ⟨ret, er, hr⟩ := zc_697 pt_1
  refine ⟨ret, er, ?_⟩
  exact hr
-- fX0_live
theorem zc_936 {σ0 : sn_S} {σ : sn_S} (h_σ : zs_C σ0 σ) {x1 : Int32} (h_x1 : zs_in x1.toInt 0 4) {x2 : Int32} (h_x2 : zs_in x2.toInt 5 5) : zs_ok (fX0_live σ 59 x1 x2) (fun r => zs_C σ0 r) := by
  unfold fX0_live
  obtain rfl : x2 = (5 : Int32) := zs_eqv h_x2 (by decide)
  refine zs_bd_ (zd_170 h_x1 h_x2 (s0 := (σ, (0 : Int32))) ⟨h_σ, (zs_w zlI_0 (by decide))⟩) (fun t_1 pt_1 => ?_)
  obtain ⟨ret, er, hr⟩ := zc_935 pt_1 h_x1 h_x2
  refine ⟨ret, er, ?_⟩
  exact hr
-- BX4_reckon_139
theorem zc_937 {σ0 : sn_S} {σ : sn_S} (h_σ : zs_C σ0 σ) {x3 : Int32} (h_x3 : zs_in x3.toInt 0 0) {x4 : Int32} (h_x4 : zs_in x4.toInt 0 5) {x6 : Int32} (h_x6 : zs_in x6.toInt 5 5) {x7 : Int32} (h_x7 : zs_in x7.toInt 1 31) {t1 : Int32} (h_t1 : zs_in t1.toInt 0 4) {t2 : Int32} (h_t2 : zs_in t2.toInt 5 5) {c : Int} (hc : x7.toInt = c + 0) : zs_ok (BX4_reckon_139 σ 1 27 x3 x4 x6 x7 t1 t2) (fun r => zs_sum (fun v => ((zs_C σ0 v.1 ∧ zs_in (v.2).toInt 2 32)) ∧ v.2.toInt = c + 1) (fun v => False) r) := by
  unfold BX4_reckon_139
  obtain rfl : x3 = (0 : Int32) := zs_eqv h_x3 (by decide)
  obtain rfl : x6 = (5 : Int32) := zs_eqv h_x6 (by decide)
  obtain rfl : t2 = (5 : Int32) := zs_eqv h_t2 (by decide)
  refine zs_bd_ (zc_936 h_σ h_t1 h_t2) (fun t_1 pt_1 => ?_)
  refine zs_bd_ (zo_bc 5 5 (by decide) h_x7) (fun t_3 pt_3 => ?_)
  refine zs_gd (zs_gin pt_3 (by decide)) ?_
  refine zs_bd_ (zc_925 pt_1 h_x3 h_x4 h_x6) (fun t_6 pt_6 => ?_)
  refine zs_lt (Q := fun z => zs_C σ0 z) (zs_wrL pt_6.2 rfl) (fun σ_8 hσ_8 => ?_)
  refine zs_lt (Q := fun z => zs_in z.toInt 2 32 ∧ z.toInt = c + 1) ⟨(zs_addI 2 32 h_x7 zlI_1 (by decide)), (zs_syI 1 hc h_x7 zlI_1 (by decide) (by decide))⟩ (fun y_10 hy_10 => ?_)
  exact zs_some (zs_inl ⟨⟨hσ_8, hy_10.1⟩, hy_10.2⟩)
-- BX4_reckon_119
theorem zc_938 {σ0 : sn_S} {σ : sn_S} (h_σ : zs_C σ0 σ) {x3 : Int32} (h_x3 : zs_in x3.toInt 0 0) {x4 : Int32} (h_x4 : zs_in x4.toInt 0 5) {x6 : Int32} (h_x6 : zs_in x6.toInt 5 5) {x7 : Int32} (h_x7 : zs_in x7.toInt 1 31) {x8 : Int32} (h_x8 : zs_in x8.toInt 0 4) {c : Int} (hc : x7.toInt = c + 0) : zs_ok (BX4_reckon_119 σ 1 27 x3 x4 x6 x7 x8) (fun r => zs_sum (fun v => ((zs_C σ0 v.1 ∧ zs_in (v.2).toInt 2 32)) ∧ v.2.toInt = c + 1) (fun v => False) r) := by
  unfold BX4_reckon_119
  obtain rfl : x3 = (0 : Int32) := zs_eqv h_x3 (by decide)
  obtain rfl : x6 = (5 : Int32) := zs_eqv h_x6 (by decide)
  refine zs_ite (fun c1 => ?_) (fun c1 => ?_)
  · skip
    have r2 := (zs_I_eq c1)
    exact (zs_botr r2 h_x3 zlI_2 (by decide)).elim
  · skip
    have r3 := (zs_I_eqn c1)
    obtain ⟨ret, er, hr⟩ := zc_937 h_σ h_x3 h_x4 h_x6 h_x7 h_x8 h_x6 hc
    refine ⟨ret, er, ?_⟩
    exact (zs_sumw hr (fun v w => ⟨w.1, w.2⟩) (fun v w => w.elim))
-- BX4_reckon_62
theorem zc_939 {σ0 : sn_S} {σ : sn_S} (h_σ : zs_C σ0 σ) {x3 : Int32} (h_x3 : zs_in x3.toInt 0 0) {x4 : Int32} (h_x4 : zs_in x4.toInt 0 5) {x6 : Int32} (h_x6 : zs_in x6.toInt 5 5) {x7 : Int32} (h_x7 : zs_in x7.toInt 1 31) {t0 : Int32} (h_t0 : zs_in t0.toInt 0 4) {c : Int} (hc : x7.toInt = c + 0) : zs_ok (BX4_reckon_62 σ 1 27 x3 x4 x6 x7 t0) (fun r => zs_sum (fun v => ((zs_C σ0 v.1 ∧ zs_in (v.2).toInt 2 32)) ∧ v.2.toInt = c + 1) (fun v => False) r) := by
  unfold BX4_reckon_62
  obtain rfl : x3 = (0 : Int32) := zs_eqv h_x3 (by decide)
  obtain rfl : x6 = (5 : Int32) := zs_eqv h_x6 (by decide)
  refine zs_bd_ (zd_169 h_x3 h_x4 h_x6 h_x7 h_t0 (s0 := (σ, t0)) ⟨h_σ, (zs_w h_t0 (by decide))⟩) (fun t_1 pt_1 => ?_)
  obtain ⟨ret, er, hr⟩ := zc_938 pt_1 h_x3 h_x4 h_x6 h_x7 h_t0 hc
  refine ⟨ret, er, ?_⟩
  exact (zs_sumw hr (fun v w => ⟨w.1, w.2⟩) (fun v w => w.elim))
-- BX4_reckon_34
theorem zc_940 {σ0 : sn_S} {σ : sn_S} (h_σ : zs_C σ0 σ) {x3 : Int32} (h_x3 : zs_in x3.toInt 0 0) {x4 : Int32} (h_x4 : zs_in x4.toInt 0 5) {x6 : Int32} (h_x6 : zs_in x6.toInt 5 5) {x7 : Int32} (h_x7 : zs_in x7.toInt 0 32) {c : Int} (hc : x7.toInt = c + 0) : zs_ok (BX4_reckon_34 σ 1 27 x3 x4 x6 x7) (fun r => zs_sum (fun v => ((zs_C σ0 v.1 ∧ zs_in (v.2).toInt 1 32)) ∧ v.2.toInt = c + 1) (fun v => zs_C σ0 v) r) := by
  unfold BX4_reckon_34
  obtain rfl : x3 = (0 : Int32) := zs_eqv h_x3 (by decide)
  obtain rfl : x6 = (5 : Int32) := zs_eqv h_x6 (by decide)
  refine zs_ite (fun c1 => ?_) (fun c1 => ?_)
  · skip
    have r2 := (zs_I_le c1)
    have g3 : zs_in (x7).toInt 32 32 := (zs_ler 32 32 r2 (zs_cases h_x6 (fun z => zs_in ((1 : Int32) <<< (z &&& 31)).toInt 32 32) (by decide +kernel)) h_x7 (by decide))
    exact zs_some (zs_inr (h_σ))
  · skip
    have r4 := (zs_I_len c1)
    have g5 : zs_in (x7).toInt 0 31 := (zs_ltl 0 31 r4 h_x7 (zs_cases h_x6 (fun z => zs_in ((1 : Int32) <<< (z &&& 31)).toInt 32 32) (by decide +kernel)) (by decide))
    refine zs_ite (fun c6 => ?_) (fun c6 => ?_)
    · skip
      have r7 := (zs_I_eq c6)
      have g8 : zs_in (x7).toInt 0 0 := (zs_eql 0 0 r7 g5 zlI_0 (by decide))
      obtain ⟨ret, er, hr⟩ := zc_928 h_σ h_x3 h_x4 h_x6 g8 zlI_0 hc
      refine ⟨ret, er, ?_⟩
      exact (zs_sumw hr (fun v w => ⟨⟨w.1.1, (zs_w w.1.2 (by decide))⟩, w.2⟩) (fun v w => w.elim))
    · skip
      have r9 := (zs_I_eqn c6)
      have g10 : zs_in (x7).toInt 1 31 := (zs_nel 1 31 r9 g5 zlI_0 (by decide))
      refine zs_bd_ (zo_low1 5 4 (by decide) g10) (fun t_3 pt_3 => ?_)
      obtain ⟨ret, er, hr⟩ := zc_939 h_σ h_x3 h_x4 h_x6 g10 (zs_subI 0 4 (zs_subI 4 4 h_x6 zlI_1 (by decide)) pt_3 (by decide)) hc
      refine ⟨ret, er, ?_⟩
      exact (zs_sumw hr (fun v w => ⟨⟨w.1.1, (zs_w w.1.2 (by decide))⟩, w.2⟩) (fun v w => w.elim))
theorem zd_171 {σ0 : sn_S} {x3 : Int32} (h_x3 : zs_in x3.toInt 0 0) {x4 : Int32} (h_x4 : zs_in x4.toInt 0 5) {x6 : Int32} (h_x6 : zs_in x6.toInt 5 5) {s0 : (sn_S × Int32)} (h0 : (zs_C σ0 s0.1 ∧ zs_in (s0.2).toInt 0 32)) : zs_ok (sn_it (LX4_reckon_34 1 27 x3 x4 x6) 5000 s0) (fun t => zs_C σ0 t) := by
  refine zs_it (I := fun s => (zs_C σ0 s.1 ∧ zs_in (s.2).toInt 0 32)) (m := fun s => 32 - s.2.toInt) (fun s hs => ?_) (fun s hs => ?_) (by exact h0)
  · have h1 := hs.2; unfold zs_in at h1
    omega
  · obtain ⟨b, eb, hb⟩ := zc_940 hs.1 h_x3 h_x4 h_x6 hs.2 (c := s.2.toInt) (Int.add_zero _).symm
    exact ⟨b, eb, zs_sumw hb (fun v w => ⟨⟨w.1.1, (zs_w w.1.2 (by decide))⟩, by have := w.2; omega⟩) (fun v w => w)⟩
-- BX4_reckon_186
theorem zc_941 {σ0 : sn_S} {σ : sn_S} (h_σ : zs_C σ0 σ) {x6 : Int32} (h_x6 : zs_in x6.toInt 5 5) {x7 : Int32} (h_x7 : zs_in x7.toInt 0 5) {c : Int} (hc : x7.toInt = c + 0) : zs_ok (BX4_reckon_186 σ 1 27 x6 x7) (fun r => zs_sum (fun v => ((zs_C σ0 v.1 ∧ zs_in (v.2).toInt 1 5)) ∧ v.2.toInt = c + 1) (fun v => zs_C σ0 v) r) := by
  unfold BX4_reckon_186
  obtain rfl : x6 = (5 : Int32) := zs_eqv h_x6 (by decide)
  refine zs_ite (fun c1 => ?_) (fun c1 => ?_)
  · skip
    have r2 := (zs_I_le c1)
    have g3 : zs_in (x7).toInt 5 5 := (zs_ler 5 5 r2 h_x6 h_x7 (by decide))
    exact zs_some (zs_inr (h_σ))
  · skip
    have r4 := (zs_I_len c1)
    have g5 : zs_in (x7).toInt 0 4 := (zs_ltl 0 4 r4 h_x7 h_x6 (by decide))
    refine zs_lt (Q := fun z => zs_C σ0 z) (zs_wrL h_σ rfl) (fun σ_2 hσ_2 => ?_)
    refine zs_lt (Q := fun z => zs_in z.toInt 1 5 ∧ z.toInt = c + 1) ⟨(zs_addI 1 5 g5 zlI_1 (by decide)), (zs_syI 1 hc g5 zlI_1 (by decide) (by decide))⟩ (fun y_4 hy_4 => ?_)
    exact zs_some (zs_inl ⟨⟨hσ_2, hy_4.1⟩, hy_4.2⟩)
theorem zd_172 {σ0 : sn_S} {x6 : Int32} (h_x6 : zs_in x6.toInt 5 5) {s0 : (sn_S × Int32)} (h0 : (zs_C σ0 s0.1 ∧ zs_in (s0.2).toInt 0 5)) : zs_ok (sn_it (LX4_reckon_186 1 27 x6) 5000 s0) (fun t => zs_C σ0 t) := by
  refine zs_it (I := fun s => (zs_C σ0 s.1 ∧ zs_in (s.2).toInt 0 5)) (m := fun s => 5 - s.2.toInt) (fun s hs => ?_) (fun s hs => ?_) (by exact h0)
  · have h1 := hs.2; unfold zs_in at h1
    omega
  · obtain ⟨b, eb, hb⟩ := zc_941 hs.1 h_x6 hs.2 (c := s.2.toInt) (Int.add_zero _).symm
    exact ⟨b, eb, zs_sumw hb (fun v w => ⟨⟨w.1.1, (zs_w w.1.2 (by decide))⟩, by have := w.2; omega⟩) (fun v w => w)⟩
-- BX4_reckon_178
theorem zc_942 {σ0 : sn_S} {σ : sn_S} (h_σ : zs_C σ0 σ) {x6 : Int32} (h_x6 : zs_in x6.toInt 5 5) : zs_ok (BX4_reckon_178 σ 1 27 x6) (fun r => zs_C σ0 r) := by
  unfold BX4_reckon_178
  obtain rfl : x6 = (5 : Int32) := zs_eqv h_x6 (by decide)
  refine zs_lt (Q := fun z => zs_C σ0 z) (zs_wrL h_σ rfl) (fun σ_1 hσ_1 => ?_)
  refine zs_bd_ (zd_172 h_x6 (s0 := (σ_1, (0 : Int32))) ⟨hσ_1, (zs_w zlI_0 (by decide))⟩) (fun t_3 pt_3 => ?_)
  obtain ⟨ret, er, hr⟩ := zc_716 pt_3
  refine ⟨ret, er, ?_⟩
  exact hr
-- fX4_reckon
theorem zc_943 {σ0 : sn_S} {σ : sn_S} (h_σ : zs_C σ0 σ) {x3 : Int32} (h_x3 : zs_in x3.toInt 0 0) {x4 : Int32} (h_x4 : zs_in x4.toInt 0 5) {x5 : Int32} (h_x5 : zs_in x5.toInt 4 4) : zs_ok (fX4_reckon σ 1 27 x3 x4 x5) (fun r => zs_C σ0 r) := by
  unfold fX4_reckon
  obtain rfl : x3 = (0 : Int32) := zs_eqv h_x3 (by decide)
  obtain rfl : x5 = (4 : Int32) := zs_eqv h_x5 (by decide)
  refine zs_lt (Q := fun z => zs_in z.toInt 5 5) (zs_addI 5 5 h_x5 zlI_1 (by decide)) (fun y_1 hy_1 => ?_)
  refine zs_gd (zs_gin zlI_4 (by decide)) ?_
  refine zs_bd_ (zc_893 h_σ hy_1 (zs_rdk (q := 2) (k := (4 : Int32).toNatClampNeg) (z := (0, 10)) h_σ.1 rfl)) (fun t_4 pt_4 => ?_)
  refine zs_bd_ (zo_dcopy pt_4) (fun t_6 pt_6 => ?_)
  refine zs_lt (Q := fun z => zs_C σ0 z) (zs_wrL pt_6 rfl) (fun σ_8 hσ_8 => ?_)
  refine zs_bd_ (zd_171 h_x3 h_x4 hy_1 (s0 := (σ_8, (0 : Int32))) ⟨hσ_8, (zs_w zlI_0 (by decide))⟩) (fun t_10 pt_10 => ?_)
  obtain ⟨ret, er, hr⟩ := zc_942 pt_10 hy_1
  refine ⟨ret, er, ?_⟩
  exact hr
-- BX4_weigh_46
theorem zc_944 {σ0 : sn_S} {σ : sn_S} (h_σ : zs_C σ0 σ) {x1 : Int32} (h_x1 : zs_in x1.toInt 6 6) {x2 : Int32} (h_x2 : zs_in x2.toInt 0 10) {x3 : Int32} (h_x3 : zs_in x3.toInt 0 5) {x4 : Int64} {x6 : Int32} (h_x6 : zs_in x6.toInt 0 5) {t0 : Int64} {t1 : Int64} (h_t1 : zs_in t1.toInt 0 10) {c : Int} (hc : x6.toInt = c + 0) : zs_ok (BX4_weigh_46 σ x1 x2 x3 x4 x6 t0 t1) (fun r => zs_sum (fun v => ((True ∧ zs_in (v.2).toInt 1 6)) ∧ v.2.toInt = c + 1) (fun v => False) r) := by
  unfold BX4_weigh_46
  obtain rfl : x1 = (6 : Int32) := zs_eqv h_x1 (by decide)
  refine zs_lt (Q := fun z => True) trivial (fun y_1 hy_1 => ?_)
  refine zs_lt (Q := fun z => zs_in z.toInt 1 6 ∧ z.toInt = c + 1) ⟨(zs_addI 1 6 h_x6 zlI_1 (by decide)), (zs_syI 1 hc h_x6 zlI_1 (by decide) (by decide))⟩ (fun y_3 hy_3 => ?_)
  exact zs_some (zs_inl ⟨⟨trivial, hy_3.1⟩, hy_3.2⟩)
-- BX4_weigh_46
theorem zc_945 {σ0 : sn_S} {σ : sn_S} (h_σ : zs_C σ0 σ) {x1 : Int32} (h_x1 : zs_in x1.toInt 6 6) {x2 : Int32} (h_x2 : zs_in x2.toInt 0 10) {x3 : Int32} (h_x3 : zs_in x3.toInt 1 6) {x4 : Int64} {x6 : Int32} (h_x6 : zs_in x6.toInt 0 5) {t0 : Int64} {t1 : Int64} (h_t1 : zs_in t1.toInt 0 10) {c : Int} (hc : x6.toInt = c + 0) : zs_ok (BX4_weigh_46 σ x1 x2 x3 x4 x6 t0 t1) (fun r => zs_sum (fun v => ((True ∧ zs_in (v.2).toInt 1 6)) ∧ v.2.toInt = c + 1) (fun v => False) r) := by
  unfold BX4_weigh_46
  obtain rfl : x1 = (6 : Int32) := zs_eqv h_x1 (by decide)
  refine zs_lt (Q := fun z => True) trivial (fun y_1 hy_1 => ?_)
  refine zs_lt (Q := fun z => zs_in z.toInt 1 6 ∧ z.toInt = c + 1) ⟨(zs_addI 1 6 h_x6 zlI_1 (by decide)), (zs_syI 1 hc h_x6 zlI_1 (by decide) (by decide))⟩ (fun y_3 hy_3 => ?_)
  exact zs_some (zs_inl ⟨⟨trivial, hy_3.1⟩, hy_3.2⟩)
-- BX4_weigh_22
theorem zc_946 {σ0 : sn_S} {σ : sn_S} (h_σ : zs_C σ0 σ) {x1 : Int32} (h_x1 : zs_in x1.toInt 6 6) {x2 : Int32} (h_x2 : zs_in x2.toInt 0 10) {x3 : Int32} (h_x3 : zs_in x3.toInt 0 6) {x4 : Int64} {x6 : Int32} (h_x6 : zs_in x6.toInt 0 6) {c : Int} (hc : x6.toInt = c + 0) : zs_ok (BX4_weigh_22 σ x1 x2 x3 x4 x6) (fun r => zs_sum (fun v => ((True ∧ zs_in (v.2).toInt 1 6)) ∧ v.2.toInt = c + 1) (fun v => True) r) := by
  unfold BX4_weigh_22
  obtain rfl : x1 = (6 : Int32) := zs_eqv h_x1 (by decide)
  refine zs_ite (fun c1 => ?_) (fun c1 => ?_)
  · skip
    have r2 := (zs_I_le c1)
    have g3 : zs_in (x6).toInt 6 6 := (zs_ler 6 6 r2 h_x1 h_x6 (by decide))
    exact zs_some (zs_inr (trivial))
  · skip
    have r4 := (zs_I_len c1)
    have g5 : zs_in (x6).toInt 0 5 := (zs_ltl 0 5 r4 h_x6 h_x1 (by decide))
    refine zs_ite (fun c6 => ?_) (fun c6 => ?_)
    · skip
      have r7 := (zs_I_le c6)
      have g8 : zs_in (x3).toInt 0 5 := (zs_lel 0 5 r7 h_x3 g5 (by decide))
      obtain ⟨ret, er, hr⟩ := zc_944 h_σ h_x1 h_x2 g8 g5 (zs_64 (zs_subI 0 10 zlI_10 h_x2 (by decide))) hc
      refine ⟨ret, er, ?_⟩
      exact (zs_sumw hr (fun v w => ⟨w.1, w.2⟩) (fun v w => w.elim))
    · skip
      have r9 := (zs_I_len c6)
      have g10 : zs_in (x3).toInt 1 6 := (zs_ltr 1 6 r9 g5 h_x3 (by decide))
      obtain ⟨ret, er, hr⟩ := zc_945 h_σ h_x1 h_x2 g10 g5 (zs_64 h_x2) hc
      refine ⟨ret, er, ?_⟩
      exact (zs_sumw hr (fun v w => ⟨w.1, w.2⟩) (fun v w => w.elim))
theorem zd_173 {σ0 : sn_S} {σ : sn_S} (h_σ : zs_C σ0 σ) {x1 : Int32} (h_x1 : zs_in x1.toInt 6 6) {x2 : Int32} (h_x2 : zs_in x2.toInt 0 10) {x3 : Int32} (h_x3 : zs_in x3.toInt 0 6) {s0 : (Int64 × Int32)} (h0 : (True ∧ zs_in (s0.2).toInt 0 6)) : zs_ok (sn_it (LX4_weigh_22 σ x1 x2 x3) 5000 s0) (fun t => True) := by
  refine zs_it (I := fun s => (True ∧ zs_in (s.2).toInt 0 6)) (m := fun s => 6 - s.2.toInt) (fun s hs => ?_) (fun s hs => ?_) (by exact h0)
  · have h1 := hs.2; unfold zs_in at h1
    omega
  · obtain ⟨b, eb, hb⟩ := zc_946 h_σ h_x1 h_x2 h_x3 hs.2 (c := s.2.toInt) (Int.add_zero _).symm
    exact ⟨b, eb, zs_sumw hb (fun v w => ⟨⟨w.1.1, (zs_w w.1.2 (by decide))⟩, by have := w.2; omega⟩) (fun v w => w)⟩
-- BX4_weigh_55
theorem zc_947 {σ0 : sn_S} {σ : sn_S} (h_σ : zs_C σ0 σ) {x1 : Int32} (h_x1 : zs_in x1.toInt 6 6) {x2 : Int32} (h_x2 : zs_in x2.toInt 0 10) {x3 : Int32} (h_x3 : zs_in x3.toInt 0 6) {x4 : Int64} {c : Int} (hc : x3.toInt = c + 0) : zs_ok (BX4_weigh_55 σ x1 x2 x3 x4) (fun r => zs_sum (fun v => ((zs_C σ0 v.1 ∧ zs_in (v.2).toInt 1 7)) ∧ v.2.toInt = c + 1) (fun v => False) r) := by
  unfold BX4_weigh_55
  obtain rfl : x1 = (6 : Int32) := zs_eqv h_x1 (by decide)
  refine zs_gd (zs_gin h_x3 (by decide)) ?_
  refine zs_lt (Q := fun z => zs_C σ0 z) (zs_wrL h_σ rfl) (fun σ_2 hσ_2 => ?_)
  refine zs_lt (Q := fun z => zs_in z.toInt 1 7 ∧ z.toInt = c + 1) ⟨(zs_addI 1 7 h_x3 zlI_1 (by decide)), (zs_syI 1 hc h_x3 zlI_1 (by decide) (by decide))⟩ (fun y_4 hy_4 => ?_)
  exact zs_some (zs_inl ⟨⟨hσ_2, hy_4.1⟩, hy_4.2⟩)
-- BX4_weigh_2
theorem zc_948 {σ0 : sn_S} {σ : sn_S} (h_σ : zs_C σ0 σ) {x1 : Int32} (h_x1 : zs_in x1.toInt 6 6) {x2 : Int32} (h_x2 : zs_in x2.toInt 0 10) {x3 : Int32} (h_x3 : zs_in x3.toInt 0 7) {c : Int} (hc : x3.toInt = c + 0) : zs_ok (BX4_weigh_2 σ x1 x2 x3) (fun r => zs_sum (fun v => ((zs_C σ0 v.1 ∧ zs_in (v.2).toInt 1 7)) ∧ v.2.toInt = c + 1) (fun v => zs_C σ0 v) r) := by
  unfold BX4_weigh_2
  obtain rfl : x1 = (6 : Int32) := zs_eqv h_x1 (by decide)
  refine zs_ite (fun c1 => ?_) (fun c1 => ?_)
  · skip
    have r2 := (zs_I_lt c1)
    have g3 : zs_in (x3).toInt 7 7 := (zs_ltr 7 7 r2 h_x1 h_x3 (by decide))
    exact zs_some (zs_inr (h_σ))
  · skip
    have r4 := (zs_I_ltn c1)
    have g5 : zs_in (x3).toInt 0 6 := (zs_lel 0 6 r4 h_x3 h_x1 (by decide))
    refine zs_ite (fun c6 => ?_) (fun c6 => ?_)
    · skip
      have r7 := (zs_I_le c6)
      exact (zs_botle r7 zlI_9 g5 (by decide)).elim
    · skip
      have r8 := (zs_I_len c6)
      refine zs_bd_ (zd_173 h_σ h_x1 h_x2 g5 (s0 := ((1 : Int64), (0 : Int32))) ⟨trivial, (zs_w zlI_0 (by decide))⟩) (fun t_3 pt_3 => ?_)
      obtain ⟨ret, er, hr⟩ := zc_947 h_σ h_x1 h_x2 g5 hc
      refine ⟨ret, er, ?_⟩
      exact (zs_sumw hr (fun v w => ⟨w.1, w.2⟩) (fun v w => w.elim))
theorem zd_174 {σ0 : sn_S} {x1 : Int32} (h_x1 : zs_in x1.toInt 6 6) {x2 : Int32} (h_x2 : zs_in x2.toInt 0 10) {s0 : (sn_S × Int32)} (h0 : (zs_C σ0 s0.1 ∧ zs_in (s0.2).toInt 0 7)) : zs_ok (sn_it (LX4_weigh_2 x1 x2) 5000 s0) (fun t => zs_C σ0 t) := by
  refine zs_it (I := fun s => (zs_C σ0 s.1 ∧ zs_in (s.2).toInt 0 7)) (m := fun s => 7 - s.2.toInt) (fun s hs => ?_) (fun s hs => ?_) (by exact h0)
  · have h1 := hs.2; unfold zs_in at h1
    omega
  · obtain ⟨b, eb, hb⟩ := zc_948 hs.1 h_x1 h_x2 hs.2 (c := s.2.toInt) (Int.add_zero _).symm
    exact ⟨b, eb, zs_sumw hb (fun v w => ⟨⟨w.1.1, (zs_w w.1.2 (by decide))⟩, by have := w.2; omega⟩) (fun v w => w)⟩
-- fX4_weigh
theorem zc_949 {σ0 : sn_S} {σ : sn_S} (h_σ : zs_C σ0 σ) {x1 : Int32} (h_x1 : zs_in x1.toInt 6 6) {x2 : Int32} (h_x2 : zs_in x2.toInt 0 10) : zs_ok (fX4_weigh σ x1 x2) (fun r => zs_C σ0 r) := by
  unfold fX4_weigh
  obtain rfl : x1 = (6 : Int32) := zs_eqv h_x1 (by decide)
  refine zs_bd_ (zd_174 h_x1 h_x2 (s0 := (σ, (0 : Int32))) ⟨h_σ, (zs_w zlI_0 (by decide))⟩) (fun t_1 pt_1 => ?_)
  obtain ⟨ret, er, hr⟩ := zc_674 pt_1
  refine ⟨ret, er, ?_⟩
  exact hr
-- fX8_hasBit
theorem zc_950 {x0 : Int32} (h_x0 : zs_in x0.toInt 0 0) {x1 : Int32} (h_x1 : zs_in x1.toInt 0 5) : zs_ok (fX8_hasBit x0 x1) (fun r => zs_in (r).toInt 0 1) := by
  unfold fX8_hasBit
  obtain rfl : x0 = (0 : Int32) := zs_eqv h_x0 (by decide)
  refine zs_ite (fun c1 => ?_) (fun c1 => ?_)
  · skip
    have r2 := (zs_I_eq c1)
    have g3 : zs_in ((((0 : Int32) >>> (x1 &&& 31)) &&& (1 : Int32))).toInt 1 1 := (zs_eql 1 1 r2 (zs_and zlI_1 (by decide)) zlI_1 (by decide))
    refine zs_gd (zs_b01 zlI_1 (by decide)) ?_
    exact zs_some (zs_w zlI_1 (by decide))
  · skip
    have r4 := (zs_I_eqn c1)
    have g5 : zs_in ((((0 : Int32) >>> (x1 &&& 31)) &&& (1 : Int32))).toInt 0 0 := (zs_neh 0 0 r4 (zs_and zlI_1 (by decide)) zlI_1 (by decide))
    refine zs_gd (zs_b01 zlI_0 (by decide)) ?_
    exact zs_some (zs_w zlI_0 (by decide))
-- BX4_reckon_111
theorem zc_951 {σ0 : sn_S} {σ : sn_S} (h_σ : zs_C σ0 σ) {x3 : Int32} (h_x3 : zs_in x3.toInt 0 0) {x4 : Int32} (h_x4 : zs_in x4.toInt 0 5) {x6 : Int32} (h_x6 : zs_in x6.toInt 6 6) {x7 : Int32} (h_x7 : zs_in x7.toInt 0 0) {x8 : Int32} (h_x8 : zs_in x8.toInt 0 0) {x9 : Int32} (h_x9 : zs_in x9.toInt 0 5) {t1 : Int32} (h_t1 : zs_in t1.toInt 0 5) {t2 : Int32} {t3 : Int32} (h_t3 : zs_in t3.toInt 0 0) {c : Int} (hc : x9.toInt = c + 0) : zs_ok (BX4_reckon_111 σ 1 27 x3 x4 x6 x7 x8 x9 t1 t2 t3) (fun r => zs_sum (fun v => ((zs_C σ0 v.1 ∧ zs_in (v.2).toInt 1 6)) ∧ v.2.toInt = c + 1) (fun v => False) r) := by
  unfold BX4_reckon_111
  obtain rfl : x3 = (0 : Int32) := zs_eqv h_x3 (by decide)
  obtain rfl : x6 = (6 : Int32) := zs_eqv h_x6 (by decide)
  obtain rfl : x7 = (0 : Int32) := zs_eqv h_x7 (by decide)
  obtain rfl : x8 = (0 : Int32) := zs_eqv h_x8 (by decide)
  obtain rfl : t3 = (0 : Int32) := zs_eqv h_t3 (by decide)
  refine zs_gd (zs_gin h_t1 (by decide)) ?_
  refine zs_lt (Q := fun z => zs_C σ0 z) (zs_wrt h_σ (fun _ => rfl) (fun _ => rfl)) (fun σ_2 hσ_2 => ?_)
  refine zs_lt (Q := fun z => zs_in z.toInt 1 6 ∧ z.toInt = c + 1) ⟨(zs_addI 1 6 h_x9 zlI_1 (by decide)), (zs_syI 1 hc h_x9 zlI_1 (by decide) (by decide))⟩ (fun y_4 hy_4 => ?_)
  exact zs_some (zs_inl ⟨⟨hσ_2, hy_4.1⟩, hy_4.2⟩)
-- BX4_reckon_111
theorem zc_952 {σ0 : sn_S} {σ : sn_S} (h_σ : zs_C σ0 σ) {x3 : Int32} (h_x3 : zs_in x3.toInt 0 0) {x4 : Int32} (h_x4 : zs_in x4.toInt 0 5) {x6 : Int32} (h_x6 : zs_in x6.toInt 6 6) {x7 : Int32} (h_x7 : zs_in x7.toInt 0 0) {x8 : Int32} (h_x8 : zs_in x8.toInt 0 0) {x9 : Int32} (h_x9 : zs_in x9.toInt 0 5) {t1 : Int32} (h_t1 : zs_in t1.toInt 0 5) {t2 : Int32} {t3 : Int32} (h_t3 : zs_in t3.toInt 3 3) {c : Int} (hc : x9.toInt = c + 0) : zs_ok (BX4_reckon_111 σ 1 27 x3 x4 x6 x7 x8 x9 t1 t2 t3) (fun r => zs_sum (fun v => ((zs_C σ0 v.1 ∧ zs_in (v.2).toInt 1 6)) ∧ v.2.toInt = c + 1) (fun v => False) r) := by
  unfold BX4_reckon_111
  obtain rfl : x3 = (0 : Int32) := zs_eqv h_x3 (by decide)
  obtain rfl : x6 = (6 : Int32) := zs_eqv h_x6 (by decide)
  obtain rfl : x7 = (0 : Int32) := zs_eqv h_x7 (by decide)
  obtain rfl : x8 = (0 : Int32) := zs_eqv h_x8 (by decide)
  obtain rfl : t3 = (3 : Int32) := zs_eqv h_t3 (by decide)
  refine zs_gd (zs_gin h_t1 (by decide)) ?_
  refine zs_lt (Q := fun z => zs_C σ0 z) (zs_wrt h_σ (fun _ => rfl) (fun _ => rfl)) (fun σ_2 hσ_2 => ?_)
  refine zs_lt (Q := fun z => zs_in z.toInt 1 6 ∧ z.toInt = c + 1) ⟨(zs_addI 1 6 h_x9 zlI_1 (by decide)), (zs_syI 1 hc h_x9 zlI_1 (by decide) (by decide))⟩ (fun y_4 hy_4 => ?_)
  exact zs_some (zs_inl ⟨⟨hσ_2, hy_4.1⟩, hy_4.2⟩)
-- BX4_reckon_68
theorem zc_953 {σ0 : sn_S} {σ : sn_S} (h_σ : zs_C σ0 σ) {x3 : Int32} (h_x3 : zs_in x3.toInt 0 0) {x4 : Int32} (h_x4 : zs_in x4.toInt 0 5) {x6 : Int32} (h_x6 : zs_in x6.toInt 6 6) {x7 : Int32} (h_x7 : zs_in x7.toInt 0 0) {x8 : Int32} (h_x8 : zs_in x8.toInt 0 0) {x9 : Int32} (h_x9 : zs_in x9.toInt 0 6) {c : Int} (hc : x9.toInt = c + 0) : zs_ok (BX4_reckon_68 σ 1 27 x3 x4 x6 x7 x8 x9) (fun r => zs_sum (fun v => ((zs_C σ0 v.1 ∧ zs_in (v.2).toInt 1 6)) ∧ v.2.toInt = c + 1) (fun v => zs_C σ0 v) r) := by
  unfold BX4_reckon_68
  obtain rfl : x3 = (0 : Int32) := zs_eqv h_x3 (by decide)
  obtain rfl : x6 = (6 : Int32) := zs_eqv h_x6 (by decide)
  obtain rfl : x7 = (0 : Int32) := zs_eqv h_x7 (by decide)
  obtain rfl : x8 = (0 : Int32) := zs_eqv h_x8 (by decide)
  refine zs_ite (fun c1 => ?_) (fun c1 => ?_)
  · skip
    have r2 := (zs_I_le c1)
    have g3 : zs_in (x9).toInt 6 6 := (zs_ler 6 6 r2 h_x6 h_x9 (by decide))
    exact zs_some (zs_inr (h_σ))
  · skip
    have r4 := (zs_I_len c1)
    have g5 : zs_in (x9).toInt 0 5 := (zs_ltl 0 5 r4 h_x9 h_x6 (by decide))
    refine zs_gd (zs_gin g5 (by decide)) ?_
    refine zs_bd_ (zc_950 h_x7 (zs_subI 0 5 (zs_subI 5 5 h_x6 zlI_1 (by decide)) g5 (by decide))) (fun t_3 pt_3 => ?_)
    refine zs_ite (fun c6 => ?_) (fun c6 => ?_)
    · skip
      have r7 := (zs_I_eq c6)
      have g8 : zs_in (t_3).toInt 0 0 := (zs_eql 0 0 r7 pt_3 zlI_0 (by decide))
      obtain ⟨ret, er, hr⟩ := zc_951 h_σ h_x3 h_x4 h_x6 h_x7 h_x8 g5 g5 zlI_0 hc
      refine ⟨ret, er, ?_⟩
      exact (zs_sumw hr (fun v w => ⟨w.1, w.2⟩) (fun v w => w.elim))
    · skip
      have r9 := (zs_I_eqn c6)
      have g10 : zs_in (t_3).toInt 1 1 := (zs_nel 1 1 r9 pt_3 zlI_0 (by decide))
      obtain ⟨ret, er, hr⟩ := zc_952 h_σ h_x3 h_x4 h_x6 h_x7 h_x8 g5 g5 zlI_3 hc
      refine ⟨ret, er, ?_⟩
      exact (zs_sumw hr (fun v w => ⟨w.1, w.2⟩) (fun v w => w.elim))
theorem zd_175 {σ0 : sn_S} {x3 : Int32} (h_x3 : zs_in x3.toInt 0 0) {x4 : Int32} (h_x4 : zs_in x4.toInt 0 5) {x6 : Int32} (h_x6 : zs_in x6.toInt 6 6) {x7 : Int32} (h_x7 : zs_in x7.toInt 0 0) {x8 : Int32} (h_x8 : zs_in x8.toInt 0 0) {s0 : (sn_S × Int32)} (h0 : (zs_C σ0 s0.1 ∧ zs_in (s0.2).toInt 0 6)) : zs_ok (sn_it (LX4_reckon_68 1 27 x3 x4 x6 x7 x8) 5000 s0) (fun t => zs_C σ0 t) := by
  refine zs_it (I := fun s => (zs_C σ0 s.1 ∧ zs_in (s.2).toInt 0 6)) (m := fun s => 6 - s.2.toInt) (fun s hs => ?_) (fun s hs => ?_) (by exact h0)
  · have h1 := hs.2; unfold zs_in at h1
    omega
  · obtain ⟨b, eb, hb⟩ := zc_953 hs.1 h_x3 h_x4 h_x6 h_x7 h_x8 hs.2 (c := s.2.toInt) (Int.add_zero _).symm
    exact ⟨b, eb, zs_sumw hb (fun v w => ⟨⟨w.1.1, (zs_w w.1.2 (by decide))⟩, by have := w.2; omega⟩) (fun v w => w)⟩
-- BX0_live_2
theorem zc_954 {σ0 : sn_S} {σ : sn_S} (h_σ : zs_C σ0 σ) {x1 : Int32} (h_x1 : zs_in x1.toInt 0 0) {x2 : Int32} (h_x2 : zs_in x2.toInt 6 6) {x3 : Int32} (h_x3 : zs_in x3.toInt 0 6) {c : Int} (hc : x3.toInt = c + 0) : zs_ok (BX0_live_2 σ 59 x1 x2 x3) (fun r => zs_sum (fun v => ((zs_C σ0 v.1 ∧ zs_in (v.2).toInt 1 6)) ∧ v.2.toInt = c + 1) (fun v => zs_C σ0 v) r) := by
  unfold BX0_live_2
  obtain rfl : x1 = (0 : Int32) := zs_eqv h_x1 (by decide)
  obtain rfl : x2 = (6 : Int32) := zs_eqv h_x2 (by decide)
  refine zs_ite (fun c1 => ?_) (fun c1 => ?_)
  · skip
    have r2 := (zs_I_le c1)
    exact zs_some (zs_inr (h_σ))
  · skip
    have r3 := (zs_I_len c1)
    have g4 : zs_in (x3).toInt 0 5 := (zs_ltl 0 5 r3 h_x3 (zs_rdk (q := 59) (k := 1) (z := (0, 6)) h_σ.1 rfl) (by decide))
    have g5 : zs_in ((sn_I σ 59 1)).toInt 1 6 := (zs_ltr 1 6 r3 h_x3 (zs_rdk (q := 59) (k := 1) (z := (0, 6)) h_σ.1 rfl) (by decide))
    refine zs_gd (zs_gin g4 (by decide)) ?_
    refine zs_bd_ (zc_314 h_x1) (fun t_3 pt_3 => ?_)
    refine zs_gd (zs_gin g4 (by decide)) ?_
    refine zs_lt (Q := fun z => zs_C σ0 z) (zs_wru (z := (0, 1073741823)) h_σ (fun _ => rfl) (zs_and pt_3 (by decide)) (by decide) (fun _ => rfl)) (fun σ_6 hσ_6 => ?_)
    refine zs_lt (Q := fun z => zs_in z.toInt 1 6 ∧ z.toInt = c + 1) ⟨(zs_addI 1 6 g4 zlI_1 (by decide)), (zs_syI 1 hc g4 zlI_1 (by decide) (by decide))⟩ (fun y_8 hy_8 => ?_)
    exact zs_some (zs_inl ⟨⟨hσ_6, hy_8.1⟩, hy_8.2⟩)
theorem zd_176 {σ0 : sn_S} {x1 : Int32} (h_x1 : zs_in x1.toInt 0 0) {x2 : Int32} (h_x2 : zs_in x2.toInt 6 6) {s0 : (sn_S × Int32)} (h0 : (zs_C σ0 s0.1 ∧ zs_in (s0.2).toInt 0 6)) : zs_ok (sn_it (LX0_live_2 59 x1 x2) 5000 s0) (fun t => zs_C σ0 t) := by
  refine zs_it (I := fun s => (zs_C σ0 s.1 ∧ zs_in (s.2).toInt 0 6)) (m := fun s => 6 - s.2.toInt) (fun s hs => ?_) (fun s hs => ?_) (by exact h0)
  · have h1 := hs.2; unfold zs_in at h1
    omega
  · obtain ⟨b, eb, hb⟩ := zc_954 hs.1 h_x1 h_x2 hs.2 (c := s.2.toInt) (Int.add_zero _).symm
    exact ⟨b, eb, zs_sumw hb (fun v w => ⟨⟨w.1.1, (zs_w w.1.2 (by decide))⟩, by have := w.2; omega⟩) (fun v w => w)⟩
-- BX0_tickleByNets_7
theorem zc_955 {σ0 : sn_S} {σ : sn_S} (h_σ : zs_C σ0 σ) {x1 : Int32} (h_x1 : zs_in x1.toInt 0 5) {x2 : Int32} (h_x2 : zs_in x2.toInt 0 30) {x3 : Int32} (h_x3 : zs_in x3.toInt 0 6) (hl_x1 : x2.toInt = 6 * x1.toInt) {c : Int} (hc : x3.toInt = c + 0) : zs_ok (BX0_tickleByNets_7 σ 59 x1 x2 x3) (fun r => zs_sum (fun v => ((zs_C σ0 v.1 ∧ zs_in (v.2).toInt 1 6)) ∧ v.2.toInt = c + 1) (fun v => zs_C σ0 v) r) := by
  unfold BX0_tickleByNets_7
  refine zs_ite (fun c1 => ?_) (fun c1 => ?_)
  · skip
    have r2 := (zs_I_le c1)
    exact zs_some (zs_inr (h_σ))
  · skip
    have r3 := (zs_I_len c1)
    have g4 : zs_in (x3).toInt 0 5 := (zs_ltl 0 5 r3 h_x3 (zs_rdk (q := 59) (k := 1) (z := (0, 6)) h_σ.1 rfl) (by decide))
    have g5 : zs_in ((sn_I σ 59 1)).toInt 1 6 := (zs_ltr 1 6 r3 h_x3 (zs_rdk (q := 59) (k := 1) (z := (0, 6)) h_σ.1 rfl) (by decide))
    refine zs_gd (zs_gin (zs_addI 0 35 h_x2 g4 (by decide)) (by decide)) ?_
    refine zs_lt (Q := fun z => zs_C σ0 z) (zs_wrt h_σ (fun _ => rfl) (fun _ => rfl)) (fun σ_3 hσ_3 => ?_)
    refine zs_lt (Q := fun z => zs_in z.toInt 1 6 ∧ z.toInt = c + 1) ⟨(zs_addI 1 6 g4 zlI_1 (by decide)), (zs_syI 1 hc g4 zlI_1 (by decide) (by decide))⟩ (fun y_5 hy_5 => ?_)
    exact zs_some (zs_inl ⟨⟨hσ_3, hy_5.1⟩, hy_5.2⟩)
theorem zd_177 {σ0 : sn_S} {x1 : Int32} (h_x1 : zs_in x1.toInt 0 5) {x2 : Int32} (h_x2 : zs_in x2.toInt 0 30) (hl_x1 : x2.toInt = 6 * x1.toInt) {s0 : (sn_S × Int32)} (h0 : (zs_C σ0 s0.1 ∧ zs_in (s0.2).toInt 0 6)) : zs_ok (sn_it (LX0_tickleByNets_7 59 x1 x2) 5000 s0) (fun t => zs_C σ0 t) := by
  refine zs_it (I := fun s => (zs_C σ0 s.1 ∧ zs_in (s.2).toInt 0 6)) (m := fun s => 6 - s.2.toInt) (fun s hs => ?_) (fun s hs => ?_) (by exact h0)
  · have h1 := hs.2; unfold zs_in at h1
    omega
  · obtain ⟨b, eb, hb⟩ := zc_955 hs.1 h_x1 h_x2 hs.2 hl_x1 (c := s.2.toInt) (Int.add_zero _).symm
    exact ⟨b, eb, zs_sumw hb (fun v w => ⟨⟨w.1.1, (zs_w w.1.2 (by decide))⟩, by have := w.2; omega⟩) (fun v w => w)⟩
-- BX0_tickleByNets_149
theorem zc_956 {σ0 : sn_S} {σ : sn_S} (h_σ : zs_C σ0 σ) {x2 : Int32} (h_x2 : zs_in x2.toInt 6 30) {x3 : Int32} {x4 : Int32} (h_x4 : zs_in x4.toInt 0 7) {c : Int} (hc : x4.toInt = c + 0) : zs_ok (BX0_tickleByNets_149 σ 59 x2 x3 x4) (fun r => zs_sum (fun v => ((zs_C σ0 v.1 ∧ zs_in (v.2).toInt 1 8)) ∧ v.2.toInt = c + 1) (fun v => False) r) := by
  unfold BX0_tickleByNets_149
  refine zs_lt (Q := fun z => zs_in z.toInt 1 8 ∧ z.toInt = c + 1) ⟨(zs_addI 1 8 h_x4 zlI_1 (by decide)), (zs_syI 1 hc h_x4 zlI_1 (by decide) (by decide))⟩ (fun y_1 hy_1 => ?_)
  exact zs_some (zs_inl ⟨⟨h_σ, hy_1.1⟩, hy_1.2⟩)
-- BX0_tickleByNets_147
theorem zc_957 {σ0 : sn_S} {σ : sn_S} (h_σ : zs_C σ0 σ) {x2 : Int32} (h_x2 : zs_in x2.toInt 6 30) {x3 : Int32} {x4 : Int32} (h_x4 : zs_in x4.toInt 0 7) {t1 : Int32} (h_t1 : zs_in t1.toInt 6 35) {t2 : Int32} {t3 : Int32} (h_t3 : zs_in t3.toInt 0 0) {c : Int} (hc : x4.toInt = c + 0) : zs_ok (BX0_tickleByNets_147 σ 59 x2 x3 x4 t1 t2 t3) (fun r => zs_sum (fun v => ((zs_C σ0 v.1 ∧ zs_in (v.2).toInt 1 8)) ∧ v.2.toInt = c + 1) (fun v => False) r) := by
  unfold BX0_tickleByNets_147
  obtain rfl : t3 = (0 : Int32) := zs_eqv h_t3 (by decide)
  refine zs_gd (zs_gin h_t1 (by decide)) ?_
  refine zs_lt (Q := fun z => zs_C σ0 z) (zs_wrt h_σ (fun _ => rfl) (fun _ => rfl)) (fun σ_2 hσ_2 => ?_)
  obtain ⟨ret, er, hr⟩ := zc_956 hσ_2 h_x2 h_x4 hc
  refine ⟨ret, er, ?_⟩
  exact (zs_sumw hr (fun v w => ⟨w.1, w.2⟩) (fun v w => w.elim))
-- BX0_tickleByNets_147
theorem zc_958 {σ0 : sn_S} {σ : sn_S} (h_σ : zs_C σ0 σ) {x2 : Int32} (h_x2 : zs_in x2.toInt 6 30) {x3 : Int32} {x4 : Int32} (h_x4 : zs_in x4.toInt 0 7) {t1 : Int32} (h_t1 : zs_in t1.toInt 6 35) {t2 : Int32} {t3 : Int32} (h_t3 : zs_in t3.toInt 5 5) {c : Int} (hc : x4.toInt = c + 0) : zs_ok (BX0_tickleByNets_147 σ 59 x2 x3 x4 t1 t2 t3) (fun r => zs_sum (fun v => ((zs_C σ0 v.1 ∧ zs_in (v.2).toInt 1 8)) ∧ v.2.toInt = c + 1) (fun v => False) r) := by
  unfold BX0_tickleByNets_147
  obtain rfl : t3 = (5 : Int32) := zs_eqv h_t3 (by decide)
  refine zs_gd (zs_gin h_t1 (by decide)) ?_
  refine zs_lt (Q := fun z => zs_C σ0 z) (zs_wrt h_σ (fun _ => rfl) (fun _ => rfl)) (fun σ_2 hσ_2 => ?_)
  obtain ⟨ret, er, hr⟩ := zc_956 hσ_2 h_x2 h_x4 hc
  refine ⟨ret, er, ?_⟩
  exact (zs_sumw hr (fun v w => ⟨w.1, w.2⟩) (fun v w => w.elim))
-- BX0_tickleByNets_121
theorem zc_959 {σ0 : sn_S} {σ : sn_S} (h_σ : zs_C σ0 σ) {x2 : Int32} (h_x2 : zs_in x2.toInt 6 30) {x3 : Int32} {x4 : Int32} (h_x4 : zs_in x4.toInt 0 7) {x5 : Int32} (h_x5 : zs_in x5.toInt 0 5) {x6 : Int32} (h_x6 : zs_in x6.toInt 0 5) {t1 : Int32} (h_t1 : zs_in t1.toInt 6 35) {t2 : Int32} {t3 : Int32} (h_t3 : zs_in t3.toInt 0 0) {c : Int} (hc : x4.toInt = c + 0) : zs_ok (BX0_tickleByNets_121 σ 59 x2 x3 x4 x5 x6 t1 t2 t3) (fun r => zs_sum (fun v => ((zs_C σ0 v.1 ∧ zs_in (v.2).toInt 1 8)) ∧ v.2.toInt = c + 1) (fun v => False) r) := by
  unfold BX0_tickleByNets_121
  obtain rfl : t3 = (0 : Int32) := zs_eqv h_t3 (by decide)
  refine zs_gd (zs_gin h_t1 (by decide)) ?_
  refine zs_lt (Q := fun z => zs_C σ0 z) (zs_wrt h_σ (fun _ => rfl) (fun _ => rfl)) (fun σ_2 hσ_2 => ?_)
  refine zs_gd (zs_gin (zs_addI 6 35 h_x2 h_x6 (by decide)) (by decide)) ?_
  refine zs_bd_ (zc_319 h_x5) (fun t_5 pt_5 => ?_)
  refine zs_ite (fun c1 => ?_) (fun c1 => ?_)
  · skip
    have r2 := (zs_I_eq c1)
    have g3 : zs_in (t_5).toInt 0 0 := (zs_eql 0 0 r2 pt_5 zlI_0 (by decide))
    obtain ⟨ret, er, hr⟩ := zc_957 hσ_2 h_x2 h_x4 (zs_addI 6 35 h_x2 h_x6 (by decide)) zlI_0 hc
    refine ⟨ret, er, ?_⟩
    exact (zs_sumw hr (fun v w => ⟨w.1, w.2⟩) (fun v w => w.elim))
  · skip
    have r4 := (zs_I_eqn c1)
    have g5 : zs_in (t_5).toInt 1 1 := (zs_nel 1 1 r4 pt_5 zlI_0 (by decide))
    obtain ⟨ret, er, hr⟩ := zc_958 hσ_2 h_x2 h_x4 (zs_addI 6 35 h_x2 h_x6 (by decide)) zlI_5 hc
    refine ⟨ret, er, ?_⟩
    exact (zs_sumw hr (fun v w => ⟨w.1, w.2⟩) (fun v w => w.elim))
-- BX0_tickleByNets_121
theorem zc_960 {σ0 : sn_S} {σ : sn_S} (h_σ : zs_C σ0 σ) {x2 : Int32} (h_x2 : zs_in x2.toInt 6 30) {x3 : Int32} {x4 : Int32} (h_x4 : zs_in x4.toInt 0 7) {x5 : Int32} (h_x5 : zs_in x5.toInt 0 5) {x6 : Int32} (h_x6 : zs_in x6.toInt 0 5) {t1 : Int32} (h_t1 : zs_in t1.toInt 6 35) {t2 : Int32} {t3 : Int32} (h_t3 : zs_in t3.toInt 5 5) {c : Int} (hc : x4.toInt = c + 0) : zs_ok (BX0_tickleByNets_121 σ 59 x2 x3 x4 x5 x6 t1 t2 t3) (fun r => zs_sum (fun v => ((zs_C σ0 v.1 ∧ zs_in (v.2).toInt 1 8)) ∧ v.2.toInt = c + 1) (fun v => False) r) := by
  unfold BX0_tickleByNets_121
  obtain rfl : t3 = (5 : Int32) := zs_eqv h_t3 (by decide)
  refine zs_gd (zs_gin h_t1 (by decide)) ?_
  refine zs_lt (Q := fun z => zs_C σ0 z) (zs_wrt h_σ (fun _ => rfl) (fun _ => rfl)) (fun σ_2 hσ_2 => ?_)
  refine zs_gd (zs_gin (zs_addI 6 35 h_x2 h_x6 (by decide)) (by decide)) ?_
  refine zs_bd_ (zc_319 h_x5) (fun t_5 pt_5 => ?_)
  refine zs_ite (fun c1 => ?_) (fun c1 => ?_)
  · skip
    have r2 := (zs_I_eq c1)
    have g3 : zs_in (t_5).toInt 0 0 := (zs_eql 0 0 r2 pt_5 zlI_0 (by decide))
    obtain ⟨ret, er, hr⟩ := zc_957 hσ_2 h_x2 h_x4 (zs_addI 6 35 h_x2 h_x6 (by decide)) zlI_0 hc
    refine ⟨ret, er, ?_⟩
    exact (zs_sumw hr (fun v w => ⟨w.1, w.2⟩) (fun v w => w.elim))
  · skip
    have r4 := (zs_I_eqn c1)
    have g5 : zs_in (t_5).toInt 1 1 := (zs_nel 1 1 r4 pt_5 zlI_0 (by decide))
    obtain ⟨ret, er, hr⟩ := zc_958 hσ_2 h_x2 h_x4 (zs_addI 6 35 h_x2 h_x6 (by decide)) zlI_5 hc
    refine ⟨ret, er, ?_⟩
    exact (zs_sumw hr (fun v w => ⟨w.1, w.2⟩) (fun v w => w.elim))
-- BX0_tickleByNets_55
theorem zc_961 {σ0 : sn_S} {σ : sn_S} (h_σ : zs_C σ0 σ) {x2 : Int32} (h_x2 : zs_in x2.toInt 6 30) {x3 : Int32} {x4 : Int32} (h_x4 : zs_in x4.toInt 0 8) {c : Int} (hc : x4.toInt = c + 0) : zs_ok (BX0_tickleByNets_55 σ 59 x2 x3 x4) (fun r => zs_sum (fun v => ((zs_C σ0 v.1 ∧ zs_in (v.2).toInt 1 8)) ∧ v.2.toInt = c + 1) (fun v => zs_C σ0 v) r) := by
  unfold BX0_tickleByNets_55
  refine zs_ite (fun c1 => ?_) (fun c1 => ?_)
  · skip
    have r2 := (zs_I_le c1)
    exact zs_some (zs_inr (h_σ))
  · skip
    have r3 := (zs_I_len c1)
    have g4 : zs_in (x4).toInt 0 7 := (zs_ltl 0 7 r3 h_x4 (zs_rdk (q := 59) (k := 2) (z := (0, 8)) h_σ.1 rfl) (by decide))
    have g5 : zs_in ((sn_I σ 59 2)).toInt 1 8 := (zs_ltr 1 8 r3 h_x4 (zs_rdk (q := 59) (k := 2) (z := (0, 8)) h_σ.1 rfl) (by decide))
    refine zs_ite (fun c6 => ?_) (fun c6 => ?_)
    · skip
      have r7 := (zs_I_eq c6)
      have g8 : zs_in ((sn_I σ 59 3)).toInt 0 7 := (zs_eqr 0 7 r7 g4 (zs_topI _) (by decide))
      obtain ⟨ret, er, hr⟩ := zc_956 h_σ h_x2 g4 hc
      refine ⟨ret, er, ?_⟩
      exact (zs_sumw hr (fun v w => ⟨w.1, w.2⟩) (fun v w => w.elim))
    · skip
      have r9 := (zs_I_eqn c6)
      refine zs_gd (zs_gin (zs_mulI 0 14 zlI_2 g4 (by decide)) (by decide)) ?_
      refine zs_lt (Q := fun z => zs_in z.toInt 0 5) (zs_use (h_σ.1.2 rfl).2.2.2.1 g4 (by decide) r3 (zs_i20 g4 (by decide))) (fun y_4 hy_4 => ?_)
      refine zs_gd (zs_gin (zs_addI 1 15 (zs_mulI 0 14 zlI_2 g4 (by decide)) zlI_1 (by decide)) (by decide)) ?_
      refine zs_lt (Q := fun z => zs_in z.toInt 0 5) (zs_use (h_σ.1.2 rfl).2.2.2.2 g4 (by decide) r3 (zs_i21 g4 (by decide))) (fun y_7 hy_7 => ?_)
      refine zs_gd (zs_gin (zs_addI 6 35 h_x2 hy_4 (by decide)) (by decide)) ?_
      refine zs_bd_ (zc_319 hy_7) (fun t_10 pt_10 => ?_)
      refine zs_ite (fun c10 => ?_) (fun c10 => ?_)
      · skip
        have r11 := (zs_I_eq c10)
        have g12 : zs_in (t_10).toInt 0 0 := (zs_eql 0 0 r11 pt_10 zlI_0 (by decide))
        obtain ⟨ret, er, hr⟩ := zc_959 h_σ h_x2 g4 hy_4 hy_7 (zs_addI 6 35 h_x2 hy_4 (by decide)) zlI_0 hc
        refine ⟨ret, er, ?_⟩
        exact (zs_sumw hr (fun v w => ⟨w.1, w.2⟩) (fun v w => w.elim))
      · skip
        have r13 := (zs_I_eqn c10)
        have g14 : zs_in (t_10).toInt 1 1 := (zs_nel 1 1 r13 pt_10 zlI_0 (by decide))
        obtain ⟨ret, er, hr⟩ := zc_960 h_σ h_x2 g4 hy_4 hy_7 (zs_addI 6 35 h_x2 hy_4 (by decide)) zlI_5 hc
        refine ⟨ret, er, ?_⟩
        exact (zs_sumw hr (fun v w => ⟨w.1, w.2⟩) (fun v w => w.elim))
theorem zd_178 {σ0 : sn_S} {x2 : Int32} (h_x2 : zs_in x2.toInt 6 30) {x3 : Int32} {s0 : (sn_S × Int32)} (h0 : (zs_C σ0 s0.1 ∧ zs_in (s0.2).toInt 0 8)) : zs_ok (sn_it (LX0_tickleByNets_55 59 x2 x3) 5000 s0) (fun t => zs_C σ0 t) := by
  refine zs_it (I := fun s => (zs_C σ0 s.1 ∧ zs_in (s.2).toInt 0 8)) (m := fun s => 8 - s.2.toInt) (fun s hs => ?_) (fun s hs => ?_) (by exact h0)
  · have h1 := hs.2; unfold zs_in at h1
    omega
  · obtain ⟨b, eb, hb⟩ := zc_961 hs.1 h_x2 hs.2 (c := s.2.toInt) (Int.add_zero _).symm
    exact ⟨b, eb, zs_sumw hb (fun v w => ⟨⟨w.1.1, (zs_w w.1.2 (by decide))⟩, by have := w.2; omega⟩) (fun v w => w)⟩
-- BX0_tickleByNets_46
theorem zc_962 {σ0 : sn_S} {σ : sn_S} (h_σ : zs_C σ0 σ) {x2 : Int32} (h_x2 : zs_in x2.toInt 6 30) {t0 : Int32} : zs_ok (BX0_tickleByNets_46 σ 59 x2 t0) (fun r => zs_C σ0 r) := by
  unfold BX0_tickleByNets_46
  refine zs_ite (fun c1 => ?_) (fun c1 => ?_)
  · skip
    have r2 := (zs_I_eq c1)
    have g3 : zs_in (t0).toInt 0 0 := (zs_eql 0 0 r2 (zs_topI _) zlI_0 (by decide))
    exact zs_some h_σ
  · skip
    have r4 := (zs_I_eqn c1)
    refine zs_bd_ (zd_178 h_x2 (s0 := (σ, (0 : Int32))) ⟨h_σ, (zs_w zlI_0 (by decide))⟩) (fun t_2 pt_2 => ?_)
    obtain ⟨ret, er, hr⟩ := zc_737 pt_2
    refine ⟨ret, er, ?_⟩
    exact hr
-- BX0_tickleByNets_30
theorem zc_963 {σ0 : sn_S} {σ : sn_S} (h_σ : zs_C σ0 σ) {x1 : Int32} (h_x1 : zs_in x1.toInt 0 5) {x2 : Int32} (h_x2 : zs_in x2.toInt 0 30) (hl_x1 : x2.toInt = 6 * x1.toInt) : zs_ok (BX0_tickleByNets_30 σ 59 x1 x2) (fun r => zs_C σ0 r) := by
  unfold BX0_tickleByNets_30
  refine zs_ite (fun c1 => ?_) (fun c1 => ?_)
  · skip
    have r2 := (zs_I_eq c1)
    have g3 : zs_in (x1).toInt 0 0 := (zs_eql 0 0 r2 h_x1 zlI_0 (by decide))
    have g4 : zs_in (x2).toInt 0 0 := (zs_lin 0 0 hl_x1 g3 (by decide))
    obtain ⟨ret, er, hr⟩ := zc_682 h_σ g4 zlI_0
    refine ⟨ret, er, ?_⟩
    exact hr
  · skip
    have r5 := (zs_I_eqn c1)
    have g6 : zs_in (x1).toInt 1 5 := (zs_nel 1 5 r5 h_x1 zlI_0 (by decide))
    have g7 : zs_in (x2).toInt 6 30 := (zs_lin 6 30 hl_x1 g6 (by decide))
    refine zs_gd (zs_gin (zs_subI 0 4 g6 zlI_1 (by decide)) (by decide)) ?_
    obtain ⟨ret, er, hr⟩ := zc_962 h_σ g7
    refine ⟨ret, er, ?_⟩
    exact hr
-- fX0_tickleByNets
theorem zc_964 {σ0 : sn_S} {σ : sn_S} (h_σ : zs_C σ0 σ) {x1 : Int32} (h_x1 : zs_in x1.toInt 0 5) : zs_ok (fX0_tickleByNets σ 59 x1) (fun r => zs_C σ0 r) := by
  unfold fX0_tickleByNets
  refine zs_lt (Q := fun z => zs_in z.toInt 0 30 ∧ z = ((6 : Int32) * x1)) ⟨(zs_mulI 0 30 zlI_6 h_x1 (by decide)), rfl⟩ (fun y_1 hy_1 => ?_)
  refine zs_bd_ (zd_177 h_x1 hy_1.1 (zs_linv hy_1.2 zlI_6 h_x1 (by decide)) (s0 := (σ, (0 : Int32))) ⟨h_σ, (zs_w zlI_0 (by decide))⟩) (fun t_3 pt_3 => ?_)
  obtain ⟨ret, er, hr⟩ := zc_963 pt_3 h_x1 hy_1.1 (zs_linv hy_1.2 zlI_6 h_x1 (by decide))
  refine ⟨ret, er, ?_⟩
  exact hr
-- fX0_cameAt
theorem zc_965 {σ0 : sn_S} {σ : sn_S} (h_σ : zs_C σ0 σ) {x1 : Int32} (h_x1 : zs_in x1.toInt 0 5) {x2 : Int32} (h_x2 : zs_in x2.toInt 0 5) : zs_ok (fX0_cameAt σ 59 x1 x2) (fun r => True) := by
  unfold fX0_cameAt
  refine zs_gd (zs_gin (zs_addI 0 35 (zs_mulI 0 30 zlI_6 h_x2 (by decide)) h_x1 (by decide)) (by decide)) ?_
  exact zs_some trivial
-- BX0_comesTo_19
theorem zc_966 {σ0 : sn_S} {σ : sn_S} (h_σ : zs_C σ0 σ) {x1 : Int32} (h_x1 : zs_in x1.toInt 0 5) {x2 : Int32} (h_x2 : zs_in x2.toInt 0 5) {t0 : Int32} (h_t0 : zs_in t0.toInt 0 0) : zs_ok (BX0_comesTo_19 σ 59 x1 x2 t0) (fun r => True) := by
  unfold BX0_comesTo_19
  obtain rfl : t0 = (0 : Int32) := zs_eqv h_t0 (by decide)
  refine zs_gd (zs_gin h_x1 (by decide)) ?_
  refine zs_gd (zs_gin h_x2 (by decide)) ?_
  refine zs_bd_ (zc_965 h_σ h_x1 h_x2) (fun t_3 pt_3 => ?_)
  exact zs_some trivial
-- BX0_comesTo_19
theorem zc_967 {σ0 : sn_S} {σ : sn_S} (h_σ : zs_C σ0 σ) {x1 : Int32} (h_x1 : zs_in x1.toInt 0 5) {x2 : Int32} (h_x2 : zs_in x2.toInt 0 5) {t0 : Int32} (h_t0 : zs_in t0.toInt 40 40) : zs_ok (BX0_comesTo_19 σ 59 x1 x2 t0) (fun r => True) := by
  unfold BX0_comesTo_19
  obtain rfl : t0 = (40 : Int32) := zs_eqv h_t0 (by decide)
  refine zs_gd (zs_gin h_x1 (by decide)) ?_
  refine zs_gd (zs_gin h_x2 (by decide)) ?_
  refine zs_bd_ (zc_965 h_σ h_x1 h_x2) (fun t_3 pt_3 => ?_)
  exact zs_some trivial
-- fX0_comesTo
theorem zc_968 {σ0 : sn_S} {σ : sn_S} (h_σ : zs_C σ0 σ) {x1 : Int32} (h_x1 : zs_in x1.toInt 0 5) {x2 : Int32} (h_x2 : zs_in x2.toInt 0 5) : zs_ok (fX0_comesTo σ 59 x1 x2) (fun r => True) := by
  unfold fX0_comesTo
  refine zs_gd (zs_gin h_x1 (by decide)) ?_
  refine zs_bd_ (zc_319 h_x2) (fun t_2 pt_2 => ?_)
  refine zs_ite (fun c1 => ?_) (fun c1 => ?_)
  · skip
    have r2 := (zs_I_eq c1)
    have g3 : zs_in (t_2).toInt 0 0 := (zs_eql 0 0 r2 pt_2 zlI_0 (by decide))
    obtain ⟨ret, er, hr⟩ := zc_966 h_σ h_x1 h_x2 zlI_0
    refine ⟨ret, er, ?_⟩
    exact hr
  · skip
    have r4 := (zs_I_eqn c1)
    have g5 : zs_in (t_2).toInt 1 1 := (zs_nel 1 1 r4 pt_2 zlI_0 (by decide))
    obtain ⟨ret, er, hr⟩ := zc_967 h_σ h_x1 h_x2 zlI_40
    refine ⟨ret, er, ?_⟩
    exact hr
-- BX0_liveMinute_98
theorem zc_969 {σ0 : sn_S} {σ : sn_S} (h_σ : zs_C σ0 σ) {x1 : Int32} (h_x1 : zs_in x1.toInt 1 5) {x2 : Int32} (h_x2 : zs_in x2.toInt 6 30) {x3 : Int32} {x4 : Int32} (h_x4 : zs_in x4.toInt 0 5) {x5 : Int32} (h_x5 : zs_in x5.toInt (-2147483648) 2147483646) (hl_x1 : x2.toInt = 6 * x1.toInt) {c : Int} (hc : x4.toInt = c + 0) : zs_ok (BX0_liveMinute_98 σ 59 x1 x2 x3 x4 x5) (fun r => zs_sum (fun v => ((zs_C σ0 v.1 ∧ (True ∧ zs_in (v.2.2).toInt 1 6))) ∧ v.2.2.toInt = c + 1) (fun v => False) r) := by
  unfold BX0_liveMinute_98
  refine zs_gd (zs_gin (zs_addI 6 35 h_x2 h_x4 (by decide)) (by decide)) ?_
  refine zs_lt (Q := fun z => zs_C σ0 z) (zs_wrt h_σ (fun _ => rfl) (fun _ => rfl)) (fun σ_2 hσ_2 => ?_)
  refine zs_lt (Q := fun z => zs_in z.toInt 1 6 ∧ z.toInt = c + 1) ⟨(zs_addI 1 6 h_x4 zlI_1 (by decide)), (zs_syI 1 hc h_x4 zlI_1 (by decide) (by decide))⟩ (fun y_4 hy_4 => ?_)
  exact zs_some (zs_inl ⟨⟨hσ_2, ⟨trivial, hy_4.1⟩⟩, hy_4.2⟩)
-- fX8_hasBit
theorem zc_970 {x0 : Int32} {x1 : Int32} (h_x1 : zs_in x1.toInt 1 5) : zs_ok (fX8_hasBit x0 x1) (fun r => zs_in (r).toInt 0 1) := by
  unfold fX8_hasBit
  refine zs_ite (fun c1 => ?_) (fun c1 => ?_)
  · skip
    have r2 := (zs_I_eq c1)
    have g3 : zs_in (((x0 >>> (x1 &&& 31)) &&& (1 : Int32))).toInt 1 1 := (zs_eql 1 1 r2 (zs_and zlI_1 (by decide)) zlI_1 (by decide))
    refine zs_gd (zs_b01 zlI_1 (by decide)) ?_
    exact zs_some (zs_w zlI_1 (by decide))
  · skip
    have r4 := (zs_I_eqn c1)
    have g5 : zs_in (((x0 >>> (x1 &&& 31)) &&& (1 : Int32))).toInt 0 0 := (zs_neh 0 0 r4 (zs_and zlI_1 (by decide)) zlI_1 (by decide))
    refine zs_gd (zs_b01 zlI_0 (by decide)) ?_
    exact zs_some (zs_w zlI_0 (by decide))
-- BX0_liveMinute_98
theorem zc_971 {σ0 : sn_S} {σ : sn_S} (h_σ : zs_C σ0 σ) {x1 : Int32} (h_x1 : zs_in x1.toInt 1 5) {x2 : Int32} (h_x2 : zs_in x2.toInt 6 30) {x3 : Int32} {x4 : Int32} (h_x4 : zs_in x4.toInt 0 5) {x5 : Int32} (h_x5 : zs_in x5.toInt 0 0) (hl_x1 : x2.toInt = 6 * x1.toInt) {c : Int} (hc : x4.toInt = c + 0) : zs_ok (BX0_liveMinute_98 σ 59 x1 x2 x3 x4 x5) (fun r => zs_sum (fun v => ((zs_C σ0 v.1 ∧ (True ∧ zs_in (v.2.2).toInt 1 6))) ∧ v.2.2.toInt = c + 1) (fun v => False) r) := by
  unfold BX0_liveMinute_98
  obtain rfl : x5 = (0 : Int32) := zs_eqv h_x5 (by decide)
  refine zs_gd (zs_gin (zs_addI 6 35 h_x2 h_x4 (by decide)) (by decide)) ?_
  refine zs_lt (Q := fun z => zs_C σ0 z) (zs_wrt h_σ (fun _ => rfl) (fun _ => rfl)) (fun σ_2 hσ_2 => ?_)
  refine zs_lt (Q := fun z => zs_in z.toInt 1 6 ∧ z.toInt = c + 1) ⟨(zs_addI 1 6 h_x4 zlI_1 (by decide)), (zs_syI 1 hc h_x4 zlI_1 (by decide) (by decide))⟩ (fun y_4 hy_4 => ?_)
  exact zs_some (zs_inl ⟨⟨hσ_2, ⟨trivial, hy_4.1⟩⟩, hy_4.2⟩)
-- BX0_liveMinute_98
theorem zc_972 {σ0 : sn_S} {σ : sn_S} (h_σ : zs_C σ0 σ) {x1 : Int32} (h_x1 : zs_in x1.toInt 1 5) {x2 : Int32} (h_x2 : zs_in x2.toInt 6 30) {x3 : Int32} {x4 : Int32} (h_x4 : zs_in x4.toInt 0 5) {x5 : Int32} (hl_x1 : x2.toInt = 6 * x1.toInt) {c : Int} (hc : x4.toInt = c + 0) : zs_ok (BX0_liveMinute_98 σ 59 x1 x2 x3 x4 x5) (fun r => zs_sum (fun v => ((zs_C σ0 v.1 ∧ (True ∧ zs_in (v.2.2).toInt 1 6))) ∧ v.2.2.toInt = c + 1) (fun v => False) r) := by
  unfold BX0_liveMinute_98
  refine zs_gd (zs_gin (zs_addI 6 35 h_x2 h_x4 (by decide)) (by decide)) ?_
  refine zs_lt (Q := fun z => zs_C σ0 z) (zs_wrt h_σ (fun _ => rfl) (fun _ => rfl)) (fun σ_2 hσ_2 => ?_)
  refine zs_lt (Q := fun z => zs_in z.toInt 1 6 ∧ z.toInt = c + 1) ⟨(zs_addI 1 6 h_x4 zlI_1 (by decide)), (zs_syI 1 hc h_x4 zlI_1 (by decide) (by decide))⟩ (fun y_4 hy_4 => ?_)
  exact zs_some (zs_inl ⟨⟨hσ_2, ⟨trivial, hy_4.1⟩⟩, hy_4.2⟩)
-- BX0_liveMinute_46
theorem zc_973 {σ0 : sn_S} {σ : sn_S} (h_σ : zs_C σ0 σ) {x1 : Int32} (h_x1 : zs_in x1.toInt 1 5) {x2 : Int32} (h_x2 : zs_in x2.toInt 6 30) {x3 : Int32} {x4 : Int32} (h_x4 : zs_in x4.toInt 0 5) {t0 : Int32} {t1 : Int32} (hl_x1 : x2.toInt = 6 * x1.toInt) {c : Int} (hc : x4.toInt = c + 0) : zs_ok (BX0_liveMinute_46 σ 59 x1 x2 x3 x4 t0 t1) (fun r => zs_sum (fun v => ((zs_C σ0 v.1 ∧ (True ∧ zs_in (v.2.2).toInt 1 6))) ∧ v.2.2.toInt = c + 1) (fun v => False) r) := by
  unfold BX0_liveMinute_46
  refine zs_lt (Q := fun z => True) trivial (fun y_1 hy_1 => ?_)
  refine zs_gd (zs_gin h_x4 (by decide)) ?_
  refine zs_ite (fun c1 => ?_) (fun c1 => ?_)
  · skip
    have r2 := (zs_I_lt c1)
    have g3 : zs_in (y_1).toInt (-2147483648) 2147483646 := (zs_ltl (-2147483648) 2147483646 r2 (zs_topI _) (zs_topI _) (by decide))
    have g4 : zs_in ((sn_I σ (59 + 3) x4.toNatClampNeg)).toInt (-2147483647) 2147483647 := (zs_ltr (-2147483647) 2147483647 r2 (zs_topI _) (zs_topI _) (by decide))
    obtain ⟨ret, er, hr⟩ := zc_969 h_σ h_x1 h_x2 h_x4 g3 hl_x1 hc
    refine ⟨ret, er, ?_⟩
    exact (zs_sumw hr (fun v w => ⟨w.1, w.2⟩) (fun v w => w.elim))
  · skip
    have r5 := (zs_I_ltn c1)
    refine zs_gd (zs_gin h_x4 (by decide)) ?_
    refine zs_bd_ (zc_970 h_x1) (fun t_6 pt_6 => ?_)
    refine zs_ite (fun c6 => ?_) (fun c6 => ?_)
    · skip
      have r7 := (zs_I_eq c6)
      have g8 : zs_in (t_6).toInt 0 0 := (zs_eql 0 0 r7 pt_6 zlI_0 (by decide))
      refine zs_lt (Q := fun z => True) trivial (fun y_9 hy_9 => ?_)
      refine zs_gd (zs_gin h_x4 (by decide)) ?_
      refine zs_gd (zs_gin h_x4 (by decide)) ?_
      refine zs_lt (Q := fun z => zs_C σ0 z) (zs_wru (z := (0, 1073741823)) h_σ (fun _ => rfl) (zs_or 30 1073741823 (zs_rdu (q := 69) (z := (0, 1073741823)) h_σ.1 (fun _ => rfl)) (zs_cases h_x1 (fun z => zs_in ((1 : Int32) <<< (z &&& 31)).toInt 2 32) (by decide +kernel)) (by decide)) (by decide) (fun _ => rfl)) (fun σ_13 hσ_13 => ?_)
      obtain ⟨ret, er, hr⟩ := zc_971 hσ_13 h_x1 h_x2 h_x4 zlI_0 hl_x1 hc
      refine ⟨ret, er, ?_⟩
      exact (zs_sumw hr (fun v w => ⟨w.1, w.2⟩) (fun v w => w.elim))
    · skip
      have r9 := (zs_I_eqn c6)
      have g10 : zs_in (t_6).toInt 1 1 := (zs_nel 1 1 r9 pt_6 zlI_0 (by decide))
      obtain ⟨ret, er, hr⟩ := zc_972 h_σ h_x1 h_x2 h_x4 hl_x1 hc
      refine ⟨ret, er, ?_⟩
      exact (zs_sumw hr (fun v w => ⟨w.1, w.2⟩) (fun v w => w.elim))
-- BX0_liveMinute_10
theorem zc_974 {σ0 : sn_S} {σ : sn_S} (h_σ : zs_C σ0 σ) {x1 : Int32} (h_x1 : zs_in x1.toInt 0 5) {x2 : Int32} (h_x2 : zs_in x2.toInt 0 30) {x3 : Int32} {x4 : Int32} (h_x4 : zs_in x4.toInt 0 6) (hl_x1 : x2.toInt = 6 * x1.toInt) {c : Int} (hc : x4.toInt = c + 0) : zs_ok (BX0_liveMinute_10 σ 59 x1 x2 x3 x4) (fun r => zs_sum (fun v => ((zs_C σ0 v.1 ∧ (True ∧ zs_in (v.2.2).toInt 1 6))) ∧ v.2.2.toInt = c + 1) (fun v => (zs_C σ0 v.1 ∧ True)) r) := by
  unfold BX0_liveMinute_10
  refine zs_ite (fun c1 => ?_) (fun c1 => ?_)
  · skip
    have r2 := (zs_I_le c1)
    exact zs_some (zs_inr (⟨h_σ, trivial⟩))
  · skip
    have r3 := (zs_I_len c1)
    have g4 : zs_in (x4).toInt 0 5 := (zs_ltl 0 5 r3 h_x4 (zs_rdk (q := 59) (k := 1) (z := (0, 6)) h_σ.1 rfl) (by decide))
    have g5 : zs_in ((sn_I σ 59 1)).toInt 1 6 := (zs_ltr 1 6 r3 h_x4 (zs_rdk (q := 59) (k := 1) (z := (0, 6)) h_σ.1 rfl) (by decide))
    refine zs_bd_ (zc_968 h_σ g4 h_x1) (fun t_2 pt_2 => ?_)
    refine zs_ite (fun c6 => ?_) (fun c6 => ?_)
    · skip
      have r7 := (zs_I_eq c6)
      have g8 : zs_in (x1).toInt 0 0 := (zs_eql 0 0 r7 h_x1 zlI_0 (by decide))
      have g9 : zs_in (x2).toInt 0 0 := (zs_lin 0 0 hl_x1 g8 (by decide))
      obtain ⟨ret, er, hr⟩ := zc_692 h_σ g8 g9 g4 zlI_0 hl_x1 hc
      refine ⟨ret, er, ?_⟩
      exact (zs_sumw hr (fun v w => ⟨w.1, w.2⟩) (fun v w => w.elim))
    · skip
      have r10 := (zs_I_eqn c6)
      have g11 : zs_in (x1).toInt 1 5 := (zs_nel 1 5 r10 h_x1 zlI_0 (by decide))
      have g12 : zs_in (x2).toInt 6 30 := (zs_lin 6 30 hl_x1 g11 (by decide))
      refine zs_gd (zs_gin (zs_addI 0 29 (zs_subI 0 24 g12 zlI_6 (by decide)) g4 (by decide)) (by decide)) ?_
      obtain ⟨ret, er, hr⟩ := zc_973 h_σ g11 g12 g4 hl_x1 hc
      refine ⟨ret, er, ?_⟩
      exact (zs_sumw hr (fun v w => ⟨w.1, w.2⟩) (fun v w => w.elim))
theorem zd_179 {σ0 : sn_S} {x1 : Int32} (h_x1 : zs_in x1.toInt 0 5) {x2 : Int32} (h_x2 : zs_in x2.toInt 0 30) (hl_x1 : x2.toInt = 6 * x1.toInt) {s0 : (sn_S × (Int32 × Int32))} (h0 : (zs_C σ0 s0.1 ∧ (True ∧ zs_in (s0.2.2).toInt 0 6))) : zs_ok (sn_it (LX0_liveMinute_10 59 x1 x2) 5000 s0) (fun t => (zs_C σ0 t.1 ∧ True)) := by
  refine zs_it (I := fun s => (zs_C σ0 s.1 ∧ (True ∧ zs_in (s.2.2).toInt 0 6))) (m := fun s => 6 - s.2.2.toInt) (fun s hs => ?_) (fun s hs => ?_) (by exact h0)
  · have h1 := hs.2.2; unfold zs_in at h1
    omega
  · obtain ⟨b, eb, hb⟩ := zc_974 hs.1 h_x1 h_x2 hs.2.2 hl_x1 (c := s.2.2.toInt) (Int.add_zero _).symm
    exact ⟨b, eb, zs_sumw hb (fun v w => ⟨⟨w.1.1, ⟨w.1.2.1, (zs_w w.1.2.2 (by decide))⟩⟩, by have := w.2; omega⟩) (fun v w => w)⟩
-- BX0_liveMinute_115
theorem zc_975 {σ0 : sn_S} {σ : sn_S} (h_σ : zs_C σ0 σ) {x1 : Int32} (h_x1 : zs_in x1.toInt 0 5) {x3 : Int32} : zs_ok (BX0_liveMinute_115 σ 59 x1 x3) (fun r => zs_C σ0 r) := by
  unfold BX0_liveMinute_115
  refine zs_gd (zs_gin h_x1 (by decide)) ?_
  refine zs_lt (Q := fun z => zs_C σ0 z) (zs_wrt h_σ (fun _ => rfl) (fun _ => rfl)) (fun σ_2 hσ_2 => ?_)
  exact zs_some hσ_2
-- fX0_liveMinute
theorem zc_976 {σ0 : sn_S} {σ : sn_S} (h_σ : zs_C σ0 σ) {x1 : Int32} (h_x1 : zs_in x1.toInt 0 5) : zs_ok (fX0_liveMinute σ 59 x1) (fun r => zs_C σ0 r) := by
  unfold fX0_liveMinute
  refine zs_lt (Q := fun z => zs_in z.toInt 0 30 ∧ z = ((6 : Int32) * x1)) ⟨(zs_mulI 0 30 zlI_6 h_x1 (by decide)), rfl⟩ (fun y_1 hy_1 => ?_)
  refine zs_bd_ (zd_179 h_x1 hy_1.1 (zs_linv hy_1.2 zlI_6 h_x1 (by decide)) (s0 := (σ, ((0 : Int32), (0 : Int32)))) ⟨h_σ, ⟨trivial, (zs_w zlI_0 (by decide))⟩⟩) (fun t_3 pt_3 => ?_)
  obtain ⟨ret, er, hr⟩ := zc_975 pt_3.1 h_x1
  refine ⟨ret, er, ?_⟩
  exact hr
-- BX0_live_31
theorem zc_977 {σ0 : sn_S} {σ : sn_S} (h_σ : zs_C σ0 σ) {x2 : Int32} (h_x2 : zs_in x2.toInt 6 6) {x3 : Int32} (h_x3 : zs_in x3.toInt 0 6) {c : Int} (hc : x3.toInt = c + 0) : zs_ok (BX0_live_31 σ 59 x2 x3) (fun r => zs_sum (fun v => ((zs_C σ0 v.1 ∧ zs_in (v.2).toInt 1 6)) ∧ v.2.toInt = c + 1) (fun v => zs_C σ0 v) r) := by
  unfold BX0_live_31
  obtain rfl : x2 = (6 : Int32) := zs_eqv h_x2 (by decide)
  refine zs_ite (fun c1 => ?_) (fun c1 => ?_)
  · skip
    have r2 := (zs_I_le c1)
    have g3 : zs_in (x3).toInt 6 6 := (zs_ler 6 6 r2 h_x2 h_x3 (by decide))
    exact zs_some (zs_inr (h_σ))
  · skip
    have r4 := (zs_I_len c1)
    have g5 : zs_in (x3).toInt 0 5 := (zs_ltl 0 5 r4 h_x3 h_x2 (by decide))
    refine zs_ite (fun c6 => ?_) (fun c6 => ?_)
    · skip
      have r7 := (zs_I_le c6)
      have g8 : zs_in ((sn_I σ 59 0)).toInt 0 5 := (zs_lel 0 5 r7 (zs_rdk (q := 59) (k := 0) (z := (0, 30)) h_σ.1 rfl) g5 (by decide))
      exact zs_some (zs_inr (h_σ))
    · skip
      have r9 := (zs_I_len c6)
      have g10 : zs_in ((sn_I σ 59 0)).toInt 1 30 := (zs_ltr 1 30 r9 g5 (zs_rdk (q := 59) (k := 0) (z := (0, 30)) h_σ.1 rfl) (by decide))
      refine zs_bd_ (zc_964 h_σ g5) (fun t_3 pt_3 => ?_)
      refine zs_bd_ (zc_976 pt_3 g5) (fun t_5 pt_5 => ?_)
      refine zs_lt (Q := fun z => zs_in z.toInt 1 6 ∧ z.toInt = c + 1) ⟨(zs_addI 1 6 g5 zlI_1 (by decide)), (zs_syI 1 hc g5 zlI_1 (by decide) (by decide))⟩ (fun y_7 hy_7 => ?_)
      exact zs_some (zs_inl ⟨⟨pt_5, hy_7.1⟩, hy_7.2⟩)
theorem zd_180 {σ0 : sn_S} {x2 : Int32} (h_x2 : zs_in x2.toInt 6 6) {s0 : (sn_S × Int32)} (h0 : (zs_C σ0 s0.1 ∧ zs_in (s0.2).toInt 0 6)) : zs_ok (sn_it (LX0_live_31 59 x2) 5000 s0) (fun t => zs_C σ0 t) := by
  refine zs_it (I := fun s => (zs_C σ0 s.1 ∧ zs_in (s.2).toInt 0 6)) (m := fun s => 6 - s.2.toInt) (fun s hs => ?_) (fun s hs => ?_) (by exact h0)
  · have h1 := hs.2; unfold zs_in at h1
    omega
  · obtain ⟨b, eb, hb⟩ := zc_977 hs.1 h_x2 hs.2 (c := s.2.toInt) (Int.add_zero _).symm
    exact ⟨b, eb, zs_sumw hb (fun v w => ⟨⟨w.1.1, (zs_w w.1.2 (by decide))⟩, by have := w.2; omega⟩) (fun v w => w)⟩
-- BX0_live_29
theorem zc_978 {σ0 : sn_S} {σ : sn_S} (h_σ : zs_C σ0 σ) {x1 : Int32} (h_x1 : zs_in x1.toInt 0 0) {x2 : Int32} (h_x2 : zs_in x2.toInt 6 6) : zs_ok (BX0_live_29 σ 59 x1 x2) (fun r => zs_C σ0 r) := by
  unfold BX0_live_29
  obtain rfl : x1 = (0 : Int32) := zs_eqv h_x1 (by decide)
  obtain rfl : x2 = (6 : Int32) := zs_eqv h_x2 (by decide)
  refine zs_bd_ (zd_180 h_x2 (s0 := (σ, (0 : Int32))) ⟨h_σ, (zs_w h_x1 (by decide))⟩) (fun t_1 pt_1 => ?_)
  obtain ⟨ret, er, hr⟩ := zc_697 pt_1
  refine ⟨ret, er, ?_⟩
  exact hr
-- fX0_live
theorem zc_979 {σ0 : sn_S} {σ : sn_S} (h_σ : zs_C σ0 σ) {x1 : Int32} (h_x1 : zs_in x1.toInt 0 0) {x2 : Int32} (h_x2 : zs_in x2.toInt 6 6) : zs_ok (fX0_live σ 59 x1 x2) (fun r => zs_C σ0 r) := by
  unfold fX0_live
  obtain rfl : x1 = (0 : Int32) := zs_eqv h_x1 (by decide)
  obtain rfl : x2 = (6 : Int32) := zs_eqv h_x2 (by decide)
  refine zs_bd_ (zd_176 h_x1 h_x2 (s0 := (σ, (0 : Int32))) ⟨h_σ, (zs_w zlI_0 (by decide))⟩) (fun t_1 pt_1 => ?_)
  obtain ⟨ret, er, hr⟩ := zc_978 pt_1 h_x1 h_x2
  refine ⟨ret, er, ?_⟩
  exact hr
-- fX4_worth
theorem zc_980 {σ0 : sn_S} {σ : sn_S} (h_σ : zs_C σ0 σ) {x2 : Int32} (h_x2 : zs_in x2.toInt 0 0) {x3 : Int32} (h_x3 : zs_in x3.toInt 0 5) {x4 : Int32} (h_x4 : zs_in x4.toInt 6 6) : zs_ok (fX4_worth σ 1 x2 x3 x4) (fun r => (zs_in (r.1).toInt 0 1 ∧ zs_C σ0 r.2)) := by
  unfold fX4_worth
  obtain rfl : x2 = (0 : Int32) := zs_eqv h_x2 (by decide)
  obtain rfl : x4 = (6 : Int32) := zs_eqv h_x4 (by decide)
  refine zs_ite (fun c1 => ?_) (fun c1 => ?_)
  · skip
    have r2 := (zs_I_eq c1)
    refine zs_gd (zs_gin h_x3 (by decide)) ?_
    refine zs_ite (fun c3 => ?_) (fun c3 => ?_)
    · skip
      have r4 := (zs_I_eq c3)
      have g5 : zs_in ((sn_I σ (59 + 10) x3.toNatClampNeg)).toInt 0 0 := (zs_eql 0 0 r4 (zs_rdu (q := 69) (z := (0, 1073741823)) h_σ.1 (fun _ => rfl)) zlI_0 (by decide))
      exact zs_some ⟨(zs_w zlL_0 (by decide)), h_σ⟩
    · skip
      have r6 := (zs_I_eqn c3)
      have g7 : zs_in ((sn_I σ (59 + 10) x3.toNatClampNeg)).toInt 1 1073741823 := (zs_nel 1 1073741823 r6 (zs_rdu (q := 69) (z := (0, 1073741823)) h_σ.1 (fun _ => rfl)) zlI_0 (by decide))
      exact zs_some ⟨(zs_w zlL_1 (by decide)), h_σ⟩
  · skip
    have r8 := (zs_I_eqn c1)
    exact (zs_botne r8 h_x2 zlI_0 (by decide)).elim
-- BX4_reckon_139
theorem zc_981 {σ0 : sn_S} {σ : sn_S} (h_σ : zs_C σ0 σ) {x3 : Int32} (h_x3 : zs_in x3.toInt 0 0) {x4 : Int32} (h_x4 : zs_in x4.toInt 0 5) {x6 : Int32} (h_x6 : zs_in x6.toInt 6 6) {x7 : Int32} (h_x7 : zs_in x7.toInt 0 0) {t1 : Int32} (h_t1 : zs_in t1.toInt 0 0) {t2 : Int32} (h_t2 : zs_in t2.toInt 6 6) {c : Int} (hc : x7.toInt = c + 0) : zs_ok (BX4_reckon_139 σ 1 27 x3 x4 x6 x7 t1 t2) (fun r => zs_sum (fun v => ((zs_C σ0 v.1 ∧ zs_in (v.2).toInt 1 1)) ∧ v.2.toInt = c + 1) (fun v => False) r) := by
  unfold BX4_reckon_139
  obtain rfl : x3 = (0 : Int32) := zs_eqv h_x3 (by decide)
  obtain rfl : x6 = (6 : Int32) := zs_eqv h_x6 (by decide)
  obtain rfl : t1 = (0 : Int32) := zs_eqv h_t1 (by decide)
  obtain rfl : t2 = (6 : Int32) := zs_eqv h_t2 (by decide)
  refine zs_bd_ (zc_979 h_σ h_t1 h_t2) (fun t_1 pt_1 => ?_)
  refine zs_bd_ (zo_bc 0 0 (by decide) h_x7) (fun t_3 pt_3 => ?_)
  refine zs_gd (zs_gin pt_3 (by decide)) ?_
  refine zs_bd_ (zc_980 pt_1 h_x3 h_x4 h_x6) (fun t_6 pt_6 => ?_)
  refine zs_lt (Q := fun z => zs_C σ0 z) (zs_wrL pt_6.2 rfl) (fun σ_8 hσ_8 => ?_)
  refine zs_lt (Q := fun z => zs_in z.toInt 1 1 ∧ z.toInt = c + 1) ⟨(zs_addI 1 1 h_x7 zlI_1 (by decide)), (zs_syI 1 hc h_x7 zlI_1 (by decide) (by decide))⟩ (fun y_10 hy_10 => ?_)
  exact zs_some (zs_inl ⟨⟨hσ_8, hy_10.1⟩, hy_10.2⟩)
-- BX4_reckon_119
theorem zc_982 {σ0 : sn_S} {σ : sn_S} (h_σ : zs_C σ0 σ) {x3 : Int32} (h_x3 : zs_in x3.toInt 0 0) {x4 : Int32} (h_x4 : zs_in x4.toInt 0 5) {x6 : Int32} (h_x6 : zs_in x6.toInt 6 6) {x7 : Int32} (h_x7 : zs_in x7.toInt 0 0) {x8 : Int32} (h_x8 : zs_in x8.toInt 0 0) {c : Int} (hc : x7.toInt = c + 0) : zs_ok (BX4_reckon_119 σ 1 27 x3 x4 x6 x7 x8) (fun r => zs_sum (fun v => ((zs_C σ0 v.1 ∧ zs_in (v.2).toInt 1 1)) ∧ v.2.toInt = c + 1) (fun v => False) r) := by
  unfold BX4_reckon_119
  obtain rfl : x3 = (0 : Int32) := zs_eqv h_x3 (by decide)
  obtain rfl : x6 = (6 : Int32) := zs_eqv h_x6 (by decide)
  obtain rfl : x8 = (0 : Int32) := zs_eqv h_x8 (by decide)
  refine zs_ite (fun c1 => ?_) (fun c1 => ?_)
  · skip
    have r2 := (zs_I_eq c1)
    exact (zs_botr r2 h_x3 zlI_2 (by decide)).elim
  · skip
    have r3 := (zs_I_eqn c1)
    obtain ⟨ret, er, hr⟩ := zc_981 h_σ h_x3 h_x4 h_x6 h_x7 h_x8 h_x6 hc
    refine ⟨ret, er, ?_⟩
    exact (zs_sumw hr (fun v w => ⟨w.1, w.2⟩) (fun v w => w.elim))
-- BX4_reckon_62
theorem zc_983 {σ0 : sn_S} {σ : sn_S} (h_σ : zs_C σ0 σ) {x3 : Int32} (h_x3 : zs_in x3.toInt 0 0) {x4 : Int32} (h_x4 : zs_in x4.toInt 0 5) {x6 : Int32} (h_x6 : zs_in x6.toInt 6 6) {x7 : Int32} (h_x7 : zs_in x7.toInt 0 0) {t0 : Int32} (h_t0 : zs_in t0.toInt 0 0) {c : Int} (hc : x7.toInt = c + 0) : zs_ok (BX4_reckon_62 σ 1 27 x3 x4 x6 x7 t0) (fun r => zs_sum (fun v => ((zs_C σ0 v.1 ∧ zs_in (v.2).toInt 1 1)) ∧ v.2.toInt = c + 1) (fun v => False) r) := by
  unfold BX4_reckon_62
  obtain rfl : x3 = (0 : Int32) := zs_eqv h_x3 (by decide)
  obtain rfl : x6 = (6 : Int32) := zs_eqv h_x6 (by decide)
  obtain rfl : t0 = (0 : Int32) := zs_eqv h_t0 (by decide)
  refine zs_bd_ (zd_175 h_x3 h_x4 h_x6 h_x7 h_t0 (s0 := (σ, (0 : Int32))) ⟨h_σ, (zs_w h_t0 (by decide))⟩) (fun t_1 pt_1 => ?_)
  obtain ⟨ret, er, hr⟩ := zc_982 pt_1 h_x3 h_x4 h_x6 h_x7 h_t0 hc
  refine ⟨ret, er, ?_⟩
  exact (zs_sumw hr (fun v w => ⟨w.1, w.2⟩) (fun v w => w.elim))
-- fX8_hasBit
theorem zc_984 {x0 : Int32} (h_x0 : zs_in x0.toInt 1 63) {x1 : Int32} (h_x1 : zs_in x1.toInt 0 5) : zs_ok (fX8_hasBit x0 x1) (fun r => zs_in (r).toInt 0 1) := by
  unfold fX8_hasBit
  refine zs_ite (fun c1 => ?_) (fun c1 => ?_)
  · skip
    have r2 := (zs_I_eq c1)
    have g3 : zs_in (((x0 >>> (x1 &&& 31)) &&& (1 : Int32))).toInt 1 1 := (zs_eql 1 1 r2 (zs_and zlI_1 (by decide)) zlI_1 (by decide))
    refine zs_gd (zs_b01 zlI_1 (by decide)) ?_
    exact zs_some (zs_w zlI_1 (by decide))
  · skip
    have r4 := (zs_I_eqn c1)
    have g5 : zs_in (((x0 >>> (x1 &&& 31)) &&& (1 : Int32))).toInt 0 0 := (zs_neh 0 0 r4 (zs_and zlI_1 (by decide)) zlI_1 (by decide))
    refine zs_gd (zs_b01 zlI_0 (by decide)) ?_
    exact zs_some (zs_w zlI_0 (by decide))
-- BX4_reckon_111
theorem zc_985 {σ0 : sn_S} {σ : sn_S} (h_σ : zs_C σ0 σ) {x3 : Int32} (h_x3 : zs_in x3.toInt 0 0) {x4 : Int32} (h_x4 : zs_in x4.toInt 0 5) {x6 : Int32} (h_x6 : zs_in x6.toInt 6 6) {x7 : Int32} (h_x7 : zs_in x7.toInt 1 63) {x8 : Int32} (h_x8 : zs_in x8.toInt 0 5) {x9 : Int32} (h_x9 : zs_in x9.toInt 0 5) {t1 : Int32} (h_t1 : zs_in t1.toInt 0 5) {t2 : Int32} {t3 : Int32} (h_t3 : zs_in t3.toInt 0 0) {c : Int} (hc : x9.toInt = c + 0) : zs_ok (BX4_reckon_111 σ 1 27 x3 x4 x6 x7 x8 x9 t1 t2 t3) (fun r => zs_sum (fun v => ((zs_C σ0 v.1 ∧ zs_in (v.2).toInt 1 6)) ∧ v.2.toInt = c + 1) (fun v => False) r) := by
  unfold BX4_reckon_111
  obtain rfl : x3 = (0 : Int32) := zs_eqv h_x3 (by decide)
  obtain rfl : x6 = (6 : Int32) := zs_eqv h_x6 (by decide)
  obtain rfl : t3 = (0 : Int32) := zs_eqv h_t3 (by decide)
  refine zs_gd (zs_gin h_t1 (by decide)) ?_
  refine zs_lt (Q := fun z => zs_C σ0 z) (zs_wrt h_σ (fun _ => rfl) (fun _ => rfl)) (fun σ_2 hσ_2 => ?_)
  refine zs_lt (Q := fun z => zs_in z.toInt 1 6 ∧ z.toInt = c + 1) ⟨(zs_addI 1 6 h_x9 zlI_1 (by decide)), (zs_syI 1 hc h_x9 zlI_1 (by decide) (by decide))⟩ (fun y_4 hy_4 => ?_)
  exact zs_some (zs_inl ⟨⟨hσ_2, hy_4.1⟩, hy_4.2⟩)
-- BX4_reckon_111
theorem zc_986 {σ0 : sn_S} {σ : sn_S} (h_σ : zs_C σ0 σ) {x3 : Int32} (h_x3 : zs_in x3.toInt 0 0) {x4 : Int32} (h_x4 : zs_in x4.toInt 0 5) {x6 : Int32} (h_x6 : zs_in x6.toInt 6 6) {x7 : Int32} (h_x7 : zs_in x7.toInt 1 63) {x8 : Int32} (h_x8 : zs_in x8.toInt 0 5) {x9 : Int32} (h_x9 : zs_in x9.toInt 0 5) {t1 : Int32} (h_t1 : zs_in t1.toInt 0 5) {t2 : Int32} {t3 : Int32} (h_t3 : zs_in t3.toInt 3 3) {c : Int} (hc : x9.toInt = c + 0) : zs_ok (BX4_reckon_111 σ 1 27 x3 x4 x6 x7 x8 x9 t1 t2 t3) (fun r => zs_sum (fun v => ((zs_C σ0 v.1 ∧ zs_in (v.2).toInt 1 6)) ∧ v.2.toInt = c + 1) (fun v => False) r) := by
  unfold BX4_reckon_111
  obtain rfl : x3 = (0 : Int32) := zs_eqv h_x3 (by decide)
  obtain rfl : x6 = (6 : Int32) := zs_eqv h_x6 (by decide)
  obtain rfl : t3 = (3 : Int32) := zs_eqv h_t3 (by decide)
  refine zs_gd (zs_gin h_t1 (by decide)) ?_
  refine zs_lt (Q := fun z => zs_C σ0 z) (zs_wrt h_σ (fun _ => rfl) (fun _ => rfl)) (fun σ_2 hσ_2 => ?_)
  refine zs_lt (Q := fun z => zs_in z.toInt 1 6 ∧ z.toInt = c + 1) ⟨(zs_addI 1 6 h_x9 zlI_1 (by decide)), (zs_syI 1 hc h_x9 zlI_1 (by decide) (by decide))⟩ (fun y_4 hy_4 => ?_)
  exact zs_some (zs_inl ⟨⟨hσ_2, hy_4.1⟩, hy_4.2⟩)
-- BX4_reckon_68
theorem zc_987 {σ0 : sn_S} {σ : sn_S} (h_σ : zs_C σ0 σ) {x3 : Int32} (h_x3 : zs_in x3.toInt 0 0) {x4 : Int32} (h_x4 : zs_in x4.toInt 0 5) {x6 : Int32} (h_x6 : zs_in x6.toInt 6 6) {x7 : Int32} (h_x7 : zs_in x7.toInt 1 63) {x8 : Int32} (h_x8 : zs_in x8.toInt 0 5) {x9 : Int32} (h_x9 : zs_in x9.toInt 0 6) {c : Int} (hc : x9.toInt = c + 0) : zs_ok (BX4_reckon_68 σ 1 27 x3 x4 x6 x7 x8 x9) (fun r => zs_sum (fun v => ((zs_C σ0 v.1 ∧ zs_in (v.2).toInt 1 6)) ∧ v.2.toInt = c + 1) (fun v => zs_C σ0 v) r) := by
  unfold BX4_reckon_68
  obtain rfl : x3 = (0 : Int32) := zs_eqv h_x3 (by decide)
  obtain rfl : x6 = (6 : Int32) := zs_eqv h_x6 (by decide)
  refine zs_ite (fun c1 => ?_) (fun c1 => ?_)
  · skip
    have r2 := (zs_I_le c1)
    have g3 : zs_in (x9).toInt 6 6 := (zs_ler 6 6 r2 h_x6 h_x9 (by decide))
    exact zs_some (zs_inr (h_σ))
  · skip
    have r4 := (zs_I_len c1)
    have g5 : zs_in (x9).toInt 0 5 := (zs_ltl 0 5 r4 h_x9 h_x6 (by decide))
    refine zs_gd (zs_gin g5 (by decide)) ?_
    refine zs_bd_ (zc_984 h_x7 (zs_subI 0 5 (zs_subI 5 5 h_x6 zlI_1 (by decide)) g5 (by decide))) (fun t_3 pt_3 => ?_)
    refine zs_ite (fun c6 => ?_) (fun c6 => ?_)
    · skip
      have r7 := (zs_I_eq c6)
      have g8 : zs_in (t_3).toInt 0 0 := (zs_eql 0 0 r7 pt_3 zlI_0 (by decide))
      obtain ⟨ret, er, hr⟩ := zc_985 h_σ h_x3 h_x4 h_x6 h_x7 h_x8 g5 g5 zlI_0 hc
      refine ⟨ret, er, ?_⟩
      exact (zs_sumw hr (fun v w => ⟨w.1, w.2⟩) (fun v w => w.elim))
    · skip
      have r9 := (zs_I_eqn c6)
      have g10 : zs_in (t_3).toInt 1 1 := (zs_nel 1 1 r9 pt_3 zlI_0 (by decide))
      obtain ⟨ret, er, hr⟩ := zc_986 h_σ h_x3 h_x4 h_x6 h_x7 h_x8 g5 g5 zlI_3 hc
      refine ⟨ret, er, ?_⟩
      exact (zs_sumw hr (fun v w => ⟨w.1, w.2⟩) (fun v w => w.elim))
theorem zd_181 {σ0 : sn_S} {x3 : Int32} (h_x3 : zs_in x3.toInt 0 0) {x4 : Int32} (h_x4 : zs_in x4.toInt 0 5) {x6 : Int32} (h_x6 : zs_in x6.toInt 6 6) {x7 : Int32} (h_x7 : zs_in x7.toInt 1 63) {x8 : Int32} (h_x8 : zs_in x8.toInt 0 5) {s0 : (sn_S × Int32)} (h0 : (zs_C σ0 s0.1 ∧ zs_in (s0.2).toInt 0 6)) : zs_ok (sn_it (LX4_reckon_68 1 27 x3 x4 x6 x7 x8) 5000 s0) (fun t => zs_C σ0 t) := by
  refine zs_it (I := fun s => (zs_C σ0 s.1 ∧ zs_in (s.2).toInt 0 6)) (m := fun s => 6 - s.2.toInt) (fun s hs => ?_) (fun s hs => ?_) (by exact h0)
  · have h1 := hs.2; unfold zs_in at h1
    omega
  · obtain ⟨b, eb, hb⟩ := zc_987 hs.1 h_x3 h_x4 h_x6 h_x7 h_x8 hs.2 (c := s.2.toInt) (Int.add_zero _).symm
    exact ⟨b, eb, zs_sumw hb (fun v w => ⟨⟨w.1.1, (zs_w w.1.2 (by decide))⟩, by have := w.2; omega⟩) (fun v w => w)⟩
-- fX8_firstMinutes
theorem zc_988 {x0 : Int32} (h_x0 : zs_in x0.toInt 0 5) : zs_ok (fX8_firstMinutes x0) (fun r => zs_in (r).toInt 0 31) := by
  unfold fX8_firstMinutes
  exact zs_some (zs_subI 0 31 (zs_cases h_x0 (fun z => zs_in ((1 : Int32) <<< (z &&& 31)).toInt 1 32) (by decide +kernel)) zlI_1 (by decide))
-- BX0_live_2
theorem zc_989 {σ0 : sn_S} {σ : sn_S} (h_σ : zs_C σ0 σ) {x1 : Int32} (h_x1 : zs_in x1.toInt 0 5) {x2 : Int32} (h_x2 : zs_in x2.toInt 6 6) {x3 : Int32} (h_x3 : zs_in x3.toInt 0 6) {c : Int} (hc : x3.toInt = c + 0) : zs_ok (BX0_live_2 σ 59 x1 x2 x3) (fun r => zs_sum (fun v => ((zs_C σ0 v.1 ∧ zs_in (v.2).toInt 1 6)) ∧ v.2.toInt = c + 1) (fun v => zs_C σ0 v) r) := by
  unfold BX0_live_2
  obtain rfl : x2 = (6 : Int32) := zs_eqv h_x2 (by decide)
  refine zs_ite (fun c1 => ?_) (fun c1 => ?_)
  · skip
    have r2 := (zs_I_le c1)
    exact zs_some (zs_inr (h_σ))
  · skip
    have r3 := (zs_I_len c1)
    have g4 : zs_in (x3).toInt 0 5 := (zs_ltl 0 5 r3 h_x3 (zs_rdk (q := 59) (k := 1) (z := (0, 6)) h_σ.1 rfl) (by decide))
    have g5 : zs_in ((sn_I σ 59 1)).toInt 1 6 := (zs_ltr 1 6 r3 h_x3 (zs_rdk (q := 59) (k := 1) (z := (0, 6)) h_σ.1 rfl) (by decide))
    refine zs_gd (zs_gin g4 (by decide)) ?_
    refine zs_bd_ (zc_988 h_x1) (fun t_3 pt_3 => ?_)
    refine zs_gd (zs_gin g4 (by decide)) ?_
    refine zs_lt (Q := fun z => zs_C σ0 z) (zs_wru (z := (0, 1073741823)) h_σ (fun _ => rfl) (zs_and pt_3 (by decide)) (by decide) (fun _ => rfl)) (fun σ_6 hσ_6 => ?_)
    refine zs_lt (Q := fun z => zs_in z.toInt 1 6 ∧ z.toInt = c + 1) ⟨(zs_addI 1 6 g4 zlI_1 (by decide)), (zs_syI 1 hc g4 zlI_1 (by decide) (by decide))⟩ (fun y_8 hy_8 => ?_)
    exact zs_some (zs_inl ⟨⟨hσ_6, hy_8.1⟩, hy_8.2⟩)
theorem zd_182 {σ0 : sn_S} {x1 : Int32} (h_x1 : zs_in x1.toInt 0 5) {x2 : Int32} (h_x2 : zs_in x2.toInt 6 6) {s0 : (sn_S × Int32)} (h0 : (zs_C σ0 s0.1 ∧ zs_in (s0.2).toInt 0 6)) : zs_ok (sn_it (LX0_live_2 59 x1 x2) 5000 s0) (fun t => zs_C σ0 t) := by
  refine zs_it (I := fun s => (zs_C σ0 s.1 ∧ zs_in (s.2).toInt 0 6)) (m := fun s => 6 - s.2.toInt) (fun s hs => ?_) (fun s hs => ?_) (by exact h0)
  · have h1 := hs.2; unfold zs_in at h1
    omega
  · obtain ⟨b, eb, hb⟩ := zc_989 hs.1 h_x1 h_x2 hs.2 (c := s.2.toInt) (Int.add_zero _).symm
    exact ⟨b, eb, zs_sumw hb (fun v w => ⟨⟨w.1.1, (zs_w w.1.2 (by decide))⟩, by have := w.2; omega⟩) (fun v w => w)⟩
-- BX0_live_29
theorem zc_990 {σ0 : sn_S} {σ : sn_S} (h_σ : zs_C σ0 σ) {x1 : Int32} (h_x1 : zs_in x1.toInt 0 5) {x2 : Int32} (h_x2 : zs_in x2.toInt 6 6) : zs_ok (BX0_live_29 σ 59 x1 x2) (fun r => zs_C σ0 r) := by
  unfold BX0_live_29
  obtain rfl : x2 = (6 : Int32) := zs_eqv h_x2 (by decide)
  refine zs_bd_ (zd_180 h_x2 (s0 := (σ, x1)) ⟨h_σ, (zs_w h_x1 (by decide))⟩) (fun t_1 pt_1 => ?_)
  obtain ⟨ret, er, hr⟩ := zc_697 pt_1
  refine ⟨ret, er, ?_⟩
  exact hr
-- fX0_live
theorem zc_991 {σ0 : sn_S} {σ : sn_S} (h_σ : zs_C σ0 σ) {x1 : Int32} (h_x1 : zs_in x1.toInt 0 5) {x2 : Int32} (h_x2 : zs_in x2.toInt 6 6) : zs_ok (fX0_live σ 59 x1 x2) (fun r => zs_C σ0 r) := by
  unfold fX0_live
  obtain rfl : x2 = (6 : Int32) := zs_eqv h_x2 (by decide)
  refine zs_bd_ (zd_182 h_x1 h_x2 (s0 := (σ, (0 : Int32))) ⟨h_σ, (zs_w zlI_0 (by decide))⟩) (fun t_1 pt_1 => ?_)
  obtain ⟨ret, er, hr⟩ := zc_990 pt_1 h_x1 h_x2
  refine ⟨ret, er, ?_⟩
  exact hr
-- BX4_reckon_139
theorem zc_992 {σ0 : sn_S} {σ : sn_S} (h_σ : zs_C σ0 σ) {x3 : Int32} (h_x3 : zs_in x3.toInt 0 0) {x4 : Int32} (h_x4 : zs_in x4.toInt 0 5) {x6 : Int32} (h_x6 : zs_in x6.toInt 6 6) {x7 : Int32} (h_x7 : zs_in x7.toInt 1 63) {t1 : Int32} (h_t1 : zs_in t1.toInt 0 5) {t2 : Int32} (h_t2 : zs_in t2.toInt 6 6) {c : Int} (hc : x7.toInt = c + 0) : zs_ok (BX4_reckon_139 σ 1 27 x3 x4 x6 x7 t1 t2) (fun r => zs_sum (fun v => ((zs_C σ0 v.1 ∧ zs_in (v.2).toInt 2 64)) ∧ v.2.toInt = c + 1) (fun v => False) r) := by
  unfold BX4_reckon_139
  obtain rfl : x3 = (0 : Int32) := zs_eqv h_x3 (by decide)
  obtain rfl : x6 = (6 : Int32) := zs_eqv h_x6 (by decide)
  obtain rfl : t2 = (6 : Int32) := zs_eqv h_t2 (by decide)
  refine zs_bd_ (zc_991 h_σ h_t1 h_t2) (fun t_1 pt_1 => ?_)
  refine zs_bd_ (zo_bc 6 6 (by decide) h_x7) (fun t_3 pt_3 => ?_)
  refine zs_gd (zs_gin pt_3 (by decide)) ?_
  refine zs_bd_ (zc_980 pt_1 h_x3 h_x4 h_x6) (fun t_6 pt_6 => ?_)
  refine zs_lt (Q := fun z => zs_C σ0 z) (zs_wrL pt_6.2 rfl) (fun σ_8 hσ_8 => ?_)
  refine zs_lt (Q := fun z => zs_in z.toInt 2 64 ∧ z.toInt = c + 1) ⟨(zs_addI 2 64 h_x7 zlI_1 (by decide)), (zs_syI 1 hc h_x7 zlI_1 (by decide) (by decide))⟩ (fun y_10 hy_10 => ?_)
  exact zs_some (zs_inl ⟨⟨hσ_8, hy_10.1⟩, hy_10.2⟩)
-- BX4_reckon_119
theorem zc_993 {σ0 : sn_S} {σ : sn_S} (h_σ : zs_C σ0 σ) {x3 : Int32} (h_x3 : zs_in x3.toInt 0 0) {x4 : Int32} (h_x4 : zs_in x4.toInt 0 5) {x6 : Int32} (h_x6 : zs_in x6.toInt 6 6) {x7 : Int32} (h_x7 : zs_in x7.toInt 1 63) {x8 : Int32} (h_x8 : zs_in x8.toInt 0 5) {c : Int} (hc : x7.toInt = c + 0) : zs_ok (BX4_reckon_119 σ 1 27 x3 x4 x6 x7 x8) (fun r => zs_sum (fun v => ((zs_C σ0 v.1 ∧ zs_in (v.2).toInt 2 64)) ∧ v.2.toInt = c + 1) (fun v => False) r) := by
  unfold BX4_reckon_119
  obtain rfl : x3 = (0 : Int32) := zs_eqv h_x3 (by decide)
  obtain rfl : x6 = (6 : Int32) := zs_eqv h_x6 (by decide)
  refine zs_ite (fun c1 => ?_) (fun c1 => ?_)
  · skip
    have r2 := (zs_I_eq c1)
    exact (zs_botr r2 h_x3 zlI_2 (by decide)).elim
  · skip
    have r3 := (zs_I_eqn c1)
    obtain ⟨ret, er, hr⟩ := zc_992 h_σ h_x3 h_x4 h_x6 h_x7 h_x8 h_x6 hc
    refine ⟨ret, er, ?_⟩
    exact (zs_sumw hr (fun v w => ⟨w.1, w.2⟩) (fun v w => w.elim))
-- BX4_reckon_62
theorem zc_994 {σ0 : sn_S} {σ : sn_S} (h_σ : zs_C σ0 σ) {x3 : Int32} (h_x3 : zs_in x3.toInt 0 0) {x4 : Int32} (h_x4 : zs_in x4.toInt 0 5) {x6 : Int32} (h_x6 : zs_in x6.toInt 6 6) {x7 : Int32} (h_x7 : zs_in x7.toInt 1 63) {t0 : Int32} (h_t0 : zs_in t0.toInt 0 5) {c : Int} (hc : x7.toInt = c + 0) : zs_ok (BX4_reckon_62 σ 1 27 x3 x4 x6 x7 t0) (fun r => zs_sum (fun v => ((zs_C σ0 v.1 ∧ zs_in (v.2).toInt 2 64)) ∧ v.2.toInt = c + 1) (fun v => False) r) := by
  unfold BX4_reckon_62
  obtain rfl : x3 = (0 : Int32) := zs_eqv h_x3 (by decide)
  obtain rfl : x6 = (6 : Int32) := zs_eqv h_x6 (by decide)
  refine zs_bd_ (zd_181 h_x3 h_x4 h_x6 h_x7 h_t0 (s0 := (σ, t0)) ⟨h_σ, (zs_w h_t0 (by decide))⟩) (fun t_1 pt_1 => ?_)
  obtain ⟨ret, er, hr⟩ := zc_993 pt_1 h_x3 h_x4 h_x6 h_x7 h_t0 hc
  refine ⟨ret, er, ?_⟩
  exact (zs_sumw hr (fun v w => ⟨w.1, w.2⟩) (fun v w => w.elim))
-- BX4_reckon_34
theorem zc_995 {σ0 : sn_S} {σ : sn_S} (h_σ : zs_C σ0 σ) {x3 : Int32} (h_x3 : zs_in x3.toInt 0 0) {x4 : Int32} (h_x4 : zs_in x4.toInt 0 5) {x6 : Int32} (h_x6 : zs_in x6.toInt 6 6) {x7 : Int32} (h_x7 : zs_in x7.toInt 0 64) {c : Int} (hc : x7.toInt = c + 0) : zs_ok (BX4_reckon_34 σ 1 27 x3 x4 x6 x7) (fun r => zs_sum (fun v => ((zs_C σ0 v.1 ∧ zs_in (v.2).toInt 1 64)) ∧ v.2.toInt = c + 1) (fun v => zs_C σ0 v) r) := by
  unfold BX4_reckon_34
  obtain rfl : x3 = (0 : Int32) := zs_eqv h_x3 (by decide)
  obtain rfl : x6 = (6 : Int32) := zs_eqv h_x6 (by decide)
  refine zs_ite (fun c1 => ?_) (fun c1 => ?_)
  · skip
    have r2 := (zs_I_le c1)
    have g3 : zs_in (x7).toInt 64 64 := (zs_ler 64 64 r2 (zs_cases h_x6 (fun z => zs_in ((1 : Int32) <<< (z &&& 31)).toInt 64 64) (by decide +kernel)) h_x7 (by decide))
    exact zs_some (zs_inr (h_σ))
  · skip
    have r4 := (zs_I_len c1)
    have g5 : zs_in (x7).toInt 0 63 := (zs_ltl 0 63 r4 h_x7 (zs_cases h_x6 (fun z => zs_in ((1 : Int32) <<< (z &&& 31)).toInt 64 64) (by decide +kernel)) (by decide))
    refine zs_ite (fun c6 => ?_) (fun c6 => ?_)
    · skip
      have r7 := (zs_I_eq c6)
      have g8 : zs_in (x7).toInt 0 0 := (zs_eql 0 0 r7 g5 zlI_0 (by decide))
      obtain ⟨ret, er, hr⟩ := zc_983 h_σ h_x3 h_x4 h_x6 g8 zlI_0 hc
      refine ⟨ret, er, ?_⟩
      exact (zs_sumw hr (fun v w => ⟨⟨w.1.1, (zs_w w.1.2 (by decide))⟩, w.2⟩) (fun v w => w.elim))
    · skip
      have r9 := (zs_I_eqn c6)
      have g10 : zs_in (x7).toInt 1 63 := (zs_nel 1 63 r9 g5 zlI_0 (by decide))
      refine zs_bd_ (zo_low1 6 5 (by decide) g10) (fun t_3 pt_3 => ?_)
      obtain ⟨ret, er, hr⟩ := zc_994 h_σ h_x3 h_x4 h_x6 g10 (zs_subI 0 5 (zs_subI 5 5 h_x6 zlI_1 (by decide)) pt_3 (by decide)) hc
      refine ⟨ret, er, ?_⟩
      exact (zs_sumw hr (fun v w => ⟨⟨w.1.1, (zs_w w.1.2 (by decide))⟩, w.2⟩) (fun v w => w.elim))
theorem zd_183 {σ0 : sn_S} {x3 : Int32} (h_x3 : zs_in x3.toInt 0 0) {x4 : Int32} (h_x4 : zs_in x4.toInt 0 5) {x6 : Int32} (h_x6 : zs_in x6.toInt 6 6) {s0 : (sn_S × Int32)} (h0 : (zs_C σ0 s0.1 ∧ zs_in (s0.2).toInt 0 64)) : zs_ok (sn_it (LX4_reckon_34 1 27 x3 x4 x6) 5000 s0) (fun t => zs_C σ0 t) := by
  refine zs_it (I := fun s => (zs_C σ0 s.1 ∧ zs_in (s.2).toInt 0 64)) (m := fun s => 64 - s.2.toInt) (fun s hs => ?_) (fun s hs => ?_) (by exact h0)
  · have h1 := hs.2; unfold zs_in at h1
    omega
  · obtain ⟨b, eb, hb⟩ := zc_995 hs.1 h_x3 h_x4 h_x6 hs.2 (c := s.2.toInt) (Int.add_zero _).symm
    exact ⟨b, eb, zs_sumw hb (fun v w => ⟨⟨w.1.1, (zs_w w.1.2 (by decide))⟩, by have := w.2; omega⟩) (fun v w => w)⟩
-- BX4_reckon_186
theorem zc_996 {σ0 : sn_S} {σ : sn_S} (h_σ : zs_C σ0 σ) {x6 : Int32} (h_x6 : zs_in x6.toInt 6 6) {x7 : Int32} (h_x7 : zs_in x7.toInt 0 6) {c : Int} (hc : x7.toInt = c + 0) : zs_ok (BX4_reckon_186 σ 1 27 x6 x7) (fun r => zs_sum (fun v => ((zs_C σ0 v.1 ∧ zs_in (v.2).toInt 1 6)) ∧ v.2.toInt = c + 1) (fun v => zs_C σ0 v) r) := by
  unfold BX4_reckon_186
  obtain rfl : x6 = (6 : Int32) := zs_eqv h_x6 (by decide)
  refine zs_ite (fun c1 => ?_) (fun c1 => ?_)
  · skip
    have r2 := (zs_I_le c1)
    have g3 : zs_in (x7).toInt 6 6 := (zs_ler 6 6 r2 h_x6 h_x7 (by decide))
    exact zs_some (zs_inr (h_σ))
  · skip
    have r4 := (zs_I_len c1)
    have g5 : zs_in (x7).toInt 0 5 := (zs_ltl 0 5 r4 h_x7 h_x6 (by decide))
    refine zs_lt (Q := fun z => zs_C σ0 z) (zs_wrL h_σ rfl) (fun σ_2 hσ_2 => ?_)
    refine zs_lt (Q := fun z => zs_in z.toInt 1 6 ∧ z.toInt = c + 1) ⟨(zs_addI 1 6 g5 zlI_1 (by decide)), (zs_syI 1 hc g5 zlI_1 (by decide) (by decide))⟩ (fun y_4 hy_4 => ?_)
    exact zs_some (zs_inl ⟨⟨hσ_2, hy_4.1⟩, hy_4.2⟩)
theorem zd_184 {σ0 : sn_S} {x6 : Int32} (h_x6 : zs_in x6.toInt 6 6) {s0 : (sn_S × Int32)} (h0 : (zs_C σ0 s0.1 ∧ zs_in (s0.2).toInt 0 6)) : zs_ok (sn_it (LX4_reckon_186 1 27 x6) 5000 s0) (fun t => zs_C σ0 t) := by
  refine zs_it (I := fun s => (zs_C σ0 s.1 ∧ zs_in (s.2).toInt 0 6)) (m := fun s => 6 - s.2.toInt) (fun s hs => ?_) (fun s hs => ?_) (by exact h0)
  · have h1 := hs.2; unfold zs_in at h1
    omega
  · obtain ⟨b, eb, hb⟩ := zc_996 hs.1 h_x6 hs.2 (c := s.2.toInt) (Int.add_zero _).symm
    exact ⟨b, eb, zs_sumw hb (fun v w => ⟨⟨w.1.1, (zs_w w.1.2 (by decide))⟩, by have := w.2; omega⟩) (fun v w => w)⟩
-- BX4_reckon_178
theorem zc_997 {σ0 : sn_S} {σ : sn_S} (h_σ : zs_C σ0 σ) {x6 : Int32} (h_x6 : zs_in x6.toInt 6 6) : zs_ok (BX4_reckon_178 σ 1 27 x6) (fun r => zs_C σ0 r) := by
  unfold BX4_reckon_178
  obtain rfl : x6 = (6 : Int32) := zs_eqv h_x6 (by decide)
  refine zs_lt (Q := fun z => zs_C σ0 z) (zs_wrL h_σ rfl) (fun σ_1 hσ_1 => ?_)
  refine zs_bd_ (zd_184 h_x6 (s0 := (σ_1, (0 : Int32))) ⟨hσ_1, (zs_w zlI_0 (by decide))⟩) (fun t_3 pt_3 => ?_)
  obtain ⟨ret, er, hr⟩ := zc_716 pt_3
  refine ⟨ret, er, ?_⟩
  exact hr
-- fX4_reckon
theorem zc_998 {σ0 : sn_S} {σ : sn_S} (h_σ : zs_C σ0 σ) {x3 : Int32} (h_x3 : zs_in x3.toInt 0 0) {x4 : Int32} (h_x4 : zs_in x4.toInt 0 5) {x5 : Int32} (h_x5 : zs_in x5.toInt 5 5) : zs_ok (fX4_reckon σ 1 27 x3 x4 x5) (fun r => zs_C σ0 r) := by
  unfold fX4_reckon
  obtain rfl : x3 = (0 : Int32) := zs_eqv h_x3 (by decide)
  obtain rfl : x5 = (5 : Int32) := zs_eqv h_x5 (by decide)
  refine zs_lt (Q := fun z => zs_in z.toInt 6 6) (zs_addI 6 6 h_x5 zlI_1 (by decide)) (fun y_1 hy_1 => ?_)
  refine zs_gd (zs_gin zlI_4 (by decide)) ?_
  refine zs_bd_ (zc_949 h_σ hy_1 (zs_rdk (q := 2) (k := (4 : Int32).toNatClampNeg) (z := (0, 10)) h_σ.1 rfl)) (fun t_4 pt_4 => ?_)
  refine zs_bd_ (zo_dcopy pt_4) (fun t_6 pt_6 => ?_)
  refine zs_lt (Q := fun z => zs_C σ0 z) (zs_wrL pt_6 rfl) (fun σ_8 hσ_8 => ?_)
  refine zs_bd_ (zd_183 h_x3 h_x4 hy_1 (s0 := (σ_8, (0 : Int32))) ⟨hσ_8, (zs_w zlI_0 (by decide))⟩) (fun t_10 pt_10 => ?_)
  obtain ⟨ret, er, hr⟩ := zc_997 pt_10 hy_1
  refine ⟨ret, er, ?_⟩
  exact hr
-- BX4_weigh_46
theorem zc_999 {σ0 : sn_S} {σ : sn_S} (h_σ : zs_C σ0 σ) {x1 : Int32} (h_x1 : zs_in x1.toInt 7 7) {x2 : Int32} (h_x2 : zs_in x2.toInt 0 10) {x3 : Int32} (h_x3 : zs_in x3.toInt 0 6) {x4 : Int64} {x6 : Int32} (h_x6 : zs_in x6.toInt 0 6) {t0 : Int64} {t1 : Int64} (h_t1 : zs_in t1.toInt 0 10) {c : Int} (hc : x6.toInt = c + 0) : zs_ok (BX4_weigh_46 σ x1 x2 x3 x4 x6 t0 t1) (fun r => zs_sum (fun v => ((True ∧ zs_in (v.2).toInt 1 7)) ∧ v.2.toInt = c + 1) (fun v => False) r) := by
  unfold BX4_weigh_46
  obtain rfl : x1 = (7 : Int32) := zs_eqv h_x1 (by decide)
  refine zs_lt (Q := fun z => True) trivial (fun y_1 hy_1 => ?_)
  refine zs_lt (Q := fun z => zs_in z.toInt 1 7 ∧ z.toInt = c + 1) ⟨(zs_addI 1 7 h_x6 zlI_1 (by decide)), (zs_syI 1 hc h_x6 zlI_1 (by decide) (by decide))⟩ (fun y_3 hy_3 => ?_)
  exact zs_some (zs_inl ⟨⟨trivial, hy_3.1⟩, hy_3.2⟩)
-- BX4_weigh_46
theorem zc_1000 {σ0 : sn_S} {σ : sn_S} (h_σ : zs_C σ0 σ) {x1 : Int32} (h_x1 : zs_in x1.toInt 7 7) {x2 : Int32} (h_x2 : zs_in x2.toInt 0 10) {x3 : Int32} (h_x3 : zs_in x3.toInt 1 7) {x4 : Int64} {x6 : Int32} (h_x6 : zs_in x6.toInt 0 6) {t0 : Int64} {t1 : Int64} (h_t1 : zs_in t1.toInt 0 10) {c : Int} (hc : x6.toInt = c + 0) : zs_ok (BX4_weigh_46 σ x1 x2 x3 x4 x6 t0 t1) (fun r => zs_sum (fun v => ((True ∧ zs_in (v.2).toInt 1 7)) ∧ v.2.toInt = c + 1) (fun v => False) r) := by
  unfold BX4_weigh_46
  obtain rfl : x1 = (7 : Int32) := zs_eqv h_x1 (by decide)
  refine zs_lt (Q := fun z => True) trivial (fun y_1 hy_1 => ?_)
  refine zs_lt (Q := fun z => zs_in z.toInt 1 7 ∧ z.toInt = c + 1) ⟨(zs_addI 1 7 h_x6 zlI_1 (by decide)), (zs_syI 1 hc h_x6 zlI_1 (by decide) (by decide))⟩ (fun y_3 hy_3 => ?_)
  exact zs_some (zs_inl ⟨⟨trivial, hy_3.1⟩, hy_3.2⟩)
-- BX4_weigh_22
theorem zc_1001 {σ0 : sn_S} {σ : sn_S} (h_σ : zs_C σ0 σ) {x1 : Int32} (h_x1 : zs_in x1.toInt 7 7) {x2 : Int32} (h_x2 : zs_in x2.toInt 0 10) {x3 : Int32} (h_x3 : zs_in x3.toInt 0 7) {x4 : Int64} {x6 : Int32} (h_x6 : zs_in x6.toInt 0 7) {c : Int} (hc : x6.toInt = c + 0) : zs_ok (BX4_weigh_22 σ x1 x2 x3 x4 x6) (fun r => zs_sum (fun v => ((True ∧ zs_in (v.2).toInt 1 7)) ∧ v.2.toInt = c + 1) (fun v => True) r) := by
  unfold BX4_weigh_22
  obtain rfl : x1 = (7 : Int32) := zs_eqv h_x1 (by decide)
  refine zs_ite (fun c1 => ?_) (fun c1 => ?_)
  · skip
    have r2 := (zs_I_le c1)
    have g3 : zs_in (x6).toInt 7 7 := (zs_ler 7 7 r2 h_x1 h_x6 (by decide))
    exact zs_some (zs_inr (trivial))
  · skip
    have r4 := (zs_I_len c1)
    have g5 : zs_in (x6).toInt 0 6 := (zs_ltl 0 6 r4 h_x6 h_x1 (by decide))
    refine zs_ite (fun c6 => ?_) (fun c6 => ?_)
    · skip
      have r7 := (zs_I_le c6)
      have g8 : zs_in (x3).toInt 0 6 := (zs_lel 0 6 r7 h_x3 g5 (by decide))
      obtain ⟨ret, er, hr⟩ := zc_999 h_σ h_x1 h_x2 g8 g5 (zs_64 (zs_subI 0 10 zlI_10 h_x2 (by decide))) hc
      refine ⟨ret, er, ?_⟩
      exact (zs_sumw hr (fun v w => ⟨w.1, w.2⟩) (fun v w => w.elim))
    · skip
      have r9 := (zs_I_len c6)
      have g10 : zs_in (x3).toInt 1 7 := (zs_ltr 1 7 r9 g5 h_x3 (by decide))
      obtain ⟨ret, er, hr⟩ := zc_1000 h_σ h_x1 h_x2 g10 g5 (zs_64 h_x2) hc
      refine ⟨ret, er, ?_⟩
      exact (zs_sumw hr (fun v w => ⟨w.1, w.2⟩) (fun v w => w.elim))
theorem zd_185 {σ0 : sn_S} {σ : sn_S} (h_σ : zs_C σ0 σ) {x1 : Int32} (h_x1 : zs_in x1.toInt 7 7) {x2 : Int32} (h_x2 : zs_in x2.toInt 0 10) {x3 : Int32} (h_x3 : zs_in x3.toInt 0 7) {s0 : (Int64 × Int32)} (h0 : (True ∧ zs_in (s0.2).toInt 0 7)) : zs_ok (sn_it (LX4_weigh_22 σ x1 x2 x3) 5000 s0) (fun t => True) := by
  refine zs_it (I := fun s => (True ∧ zs_in (s.2).toInt 0 7)) (m := fun s => 7 - s.2.toInt) (fun s hs => ?_) (fun s hs => ?_) (by exact h0)
  · have h1 := hs.2; unfold zs_in at h1
    omega
  · obtain ⟨b, eb, hb⟩ := zc_1001 h_σ h_x1 h_x2 h_x3 hs.2 (c := s.2.toInt) (Int.add_zero _).symm
    exact ⟨b, eb, zs_sumw hb (fun v w => ⟨⟨w.1.1, (zs_w w.1.2 (by decide))⟩, by have := w.2; omega⟩) (fun v w => w)⟩
-- BX4_weigh_55
theorem zc_1002 {σ0 : sn_S} {σ : sn_S} (h_σ : zs_C σ0 σ) {x1 : Int32} (h_x1 : zs_in x1.toInt 7 7) {x2 : Int32} (h_x2 : zs_in x2.toInt 0 10) {x3 : Int32} (h_x3 : zs_in x3.toInt 0 7) {x4 : Int64} {c : Int} (hc : x3.toInt = c + 0) : zs_ok (BX4_weigh_55 σ x1 x2 x3 x4) (fun r => zs_sum (fun v => ((zs_C σ0 v.1 ∧ zs_in (v.2).toInt 1 8)) ∧ v.2.toInt = c + 1) (fun v => False) r) := by
  unfold BX4_weigh_55
  obtain rfl : x1 = (7 : Int32) := zs_eqv h_x1 (by decide)
  refine zs_gd (zs_gin h_x3 (by decide)) ?_
  refine zs_lt (Q := fun z => zs_C σ0 z) (zs_wrL h_σ rfl) (fun σ_2 hσ_2 => ?_)
  refine zs_lt (Q := fun z => zs_in z.toInt 1 8 ∧ z.toInt = c + 1) ⟨(zs_addI 1 8 h_x3 zlI_1 (by decide)), (zs_syI 1 hc h_x3 zlI_1 (by decide) (by decide))⟩ (fun y_4 hy_4 => ?_)
  exact zs_some (zs_inl ⟨⟨hσ_2, hy_4.1⟩, hy_4.2⟩)
-- BX4_weigh_2
theorem zc_1003 {σ0 : sn_S} {σ : sn_S} (h_σ : zs_C σ0 σ) {x1 : Int32} (h_x1 : zs_in x1.toInt 7 7) {x2 : Int32} (h_x2 : zs_in x2.toInt 0 10) {x3 : Int32} (h_x3 : zs_in x3.toInt 0 8) {c : Int} (hc : x3.toInt = c + 0) : zs_ok (BX4_weigh_2 σ x1 x2 x3) (fun r => zs_sum (fun v => ((zs_C σ0 v.1 ∧ zs_in (v.2).toInt 1 8)) ∧ v.2.toInt = c + 1) (fun v => zs_C σ0 v) r) := by
  unfold BX4_weigh_2
  obtain rfl : x1 = (7 : Int32) := zs_eqv h_x1 (by decide)
  refine zs_ite (fun c1 => ?_) (fun c1 => ?_)
  · skip
    have r2 := (zs_I_lt c1)
    have g3 : zs_in (x3).toInt 8 8 := (zs_ltr 8 8 r2 h_x1 h_x3 (by decide))
    exact zs_some (zs_inr (h_σ))
  · skip
    have r4 := (zs_I_ltn c1)
    have g5 : zs_in (x3).toInt 0 7 := (zs_lel 0 7 r4 h_x3 h_x1 (by decide))
    refine zs_ite (fun c6 => ?_) (fun c6 => ?_)
    · skip
      have r7 := (zs_I_le c6)
      exact (zs_botle r7 zlI_9 g5 (by decide)).elim
    · skip
      have r8 := (zs_I_len c6)
      refine zs_bd_ (zd_185 h_σ h_x1 h_x2 g5 (s0 := ((1 : Int64), (0 : Int32))) ⟨trivial, (zs_w zlI_0 (by decide))⟩) (fun t_3 pt_3 => ?_)
      obtain ⟨ret, er, hr⟩ := zc_1002 h_σ h_x1 h_x2 g5 hc
      refine ⟨ret, er, ?_⟩
      exact (zs_sumw hr (fun v w => ⟨w.1, w.2⟩) (fun v w => w.elim))
theorem zd_186 {σ0 : sn_S} {x1 : Int32} (h_x1 : zs_in x1.toInt 7 7) {x2 : Int32} (h_x2 : zs_in x2.toInt 0 10) {s0 : (sn_S × Int32)} (h0 : (zs_C σ0 s0.1 ∧ zs_in (s0.2).toInt 0 8)) : zs_ok (sn_it (LX4_weigh_2 x1 x2) 5000 s0) (fun t => zs_C σ0 t) := by
  refine zs_it (I := fun s => (zs_C σ0 s.1 ∧ zs_in (s.2).toInt 0 8)) (m := fun s => 8 - s.2.toInt) (fun s hs => ?_) (fun s hs => ?_) (by exact h0)
  · have h1 := hs.2; unfold zs_in at h1
    omega
  · obtain ⟨b, eb, hb⟩ := zc_1003 hs.1 h_x1 h_x2 hs.2 (c := s.2.toInt) (Int.add_zero _).symm
    exact ⟨b, eb, zs_sumw hb (fun v w => ⟨⟨w.1.1, (zs_w w.1.2 (by decide))⟩, by have := w.2; omega⟩) (fun v w => w)⟩
-- fX4_weigh
theorem zc_1004 {σ0 : sn_S} {σ : sn_S} (h_σ : zs_C σ0 σ) {x1 : Int32} (h_x1 : zs_in x1.toInt 7 7) {x2 : Int32} (h_x2 : zs_in x2.toInt 0 10) : zs_ok (fX4_weigh σ x1 x2) (fun r => zs_C σ0 r) := by
  unfold fX4_weigh
  obtain rfl : x1 = (7 : Int32) := zs_eqv h_x1 (by decide)
  refine zs_bd_ (zd_186 h_x1 h_x2 (s0 := (σ, (0 : Int32))) ⟨h_σ, (zs_w zlI_0 (by decide))⟩) (fun t_1 pt_1 => ?_)
  obtain ⟨ret, er, hr⟩ := zc_674 pt_1
  refine ⟨ret, er, ?_⟩
  exact hr
-- fX8_hasBit
theorem zc_1005 {x0 : Int32} (h_x0 : zs_in x0.toInt 0 0) {x1 : Int32} (h_x1 : zs_in x1.toInt 0 6) : zs_ok (fX8_hasBit x0 x1) (fun r => zs_in (r).toInt 0 1) := by
  unfold fX8_hasBit
  obtain rfl : x0 = (0 : Int32) := zs_eqv h_x0 (by decide)
  refine zs_ite (fun c1 => ?_) (fun c1 => ?_)
  · skip
    have r2 := (zs_I_eq c1)
    have g3 : zs_in ((((0 : Int32) >>> (x1 &&& 31)) &&& (1 : Int32))).toInt 1 1 := (zs_eql 1 1 r2 (zs_and zlI_1 (by decide)) zlI_1 (by decide))
    refine zs_gd (zs_b01 zlI_1 (by decide)) ?_
    exact zs_some (zs_w zlI_1 (by decide))
  · skip
    have r4 := (zs_I_eqn c1)
    have g5 : zs_in ((((0 : Int32) >>> (x1 &&& 31)) &&& (1 : Int32))).toInt 0 0 := (zs_neh 0 0 r4 (zs_and zlI_1 (by decide)) zlI_1 (by decide))
    refine zs_gd (zs_b01 zlI_0 (by decide)) ?_
    exact zs_some (zs_w zlI_0 (by decide))
-- BX4_reckon_111
theorem zc_1006 {σ0 : sn_S} {σ : sn_S} (h_σ : zs_C σ0 σ) {x3 : Int32} (h_x3 : zs_in x3.toInt 0 0) {x4 : Int32} (h_x4 : zs_in x4.toInt 0 5) {x6 : Int32} (h_x6 : zs_in x6.toInt 7 7) {x7 : Int32} (h_x7 : zs_in x7.toInt 0 0) {x8 : Int32} (h_x8 : zs_in x8.toInt 0 0) {x9 : Int32} (h_x9 : zs_in x9.toInt 0 6) {t1 : Int32} (h_t1 : zs_in t1.toInt 0 6) {t2 : Int32} {t3 : Int32} (h_t3 : zs_in t3.toInt 0 0) {c : Int} (hc : x9.toInt = c + 0) : zs_ok (BX4_reckon_111 σ 1 27 x3 x4 x6 x7 x8 x9 t1 t2 t3) (fun r => zs_sum (fun v => ((zs_C σ0 v.1 ∧ zs_in (v.2).toInt 1 7)) ∧ v.2.toInt = c + 1) (fun v => False) r) := by
  unfold BX4_reckon_111
  obtain rfl : x3 = (0 : Int32) := zs_eqv h_x3 (by decide)
  obtain rfl : x6 = (7 : Int32) := zs_eqv h_x6 (by decide)
  obtain rfl : x7 = (0 : Int32) := zs_eqv h_x7 (by decide)
  obtain rfl : x8 = (0 : Int32) := zs_eqv h_x8 (by decide)
  obtain rfl : t3 = (0 : Int32) := zs_eqv h_t3 (by decide)
  refine zs_gd (zs_gin h_t1 (by decide)) ?_
  refine zs_lt (Q := fun z => zs_C σ0 z) (zs_wrt h_σ (fun _ => rfl) (fun _ => rfl)) (fun σ_2 hσ_2 => ?_)
  refine zs_lt (Q := fun z => zs_in z.toInt 1 7 ∧ z.toInt = c + 1) ⟨(zs_addI 1 7 h_x9 zlI_1 (by decide)), (zs_syI 1 hc h_x9 zlI_1 (by decide) (by decide))⟩ (fun y_4 hy_4 => ?_)
  exact zs_some (zs_inl ⟨⟨hσ_2, hy_4.1⟩, hy_4.2⟩)
-- BX4_reckon_111
theorem zc_1007 {σ0 : sn_S} {σ : sn_S} (h_σ : zs_C σ0 σ) {x3 : Int32} (h_x3 : zs_in x3.toInt 0 0) {x4 : Int32} (h_x4 : zs_in x4.toInt 0 5) {x6 : Int32} (h_x6 : zs_in x6.toInt 7 7) {x7 : Int32} (h_x7 : zs_in x7.toInt 0 0) {x8 : Int32} (h_x8 : zs_in x8.toInt 0 0) {x9 : Int32} (h_x9 : zs_in x9.toInt 0 6) {t1 : Int32} (h_t1 : zs_in t1.toInt 0 6) {t2 : Int32} {t3 : Int32} (h_t3 : zs_in t3.toInt 3 3) {c : Int} (hc : x9.toInt = c + 0) : zs_ok (BX4_reckon_111 σ 1 27 x3 x4 x6 x7 x8 x9 t1 t2 t3) (fun r => zs_sum (fun v => ((zs_C σ0 v.1 ∧ zs_in (v.2).toInt 1 7)) ∧ v.2.toInt = c + 1) (fun v => False) r) := by
  unfold BX4_reckon_111
  obtain rfl : x3 = (0 : Int32) := zs_eqv h_x3 (by decide)
  obtain rfl : x6 = (7 : Int32) := zs_eqv h_x6 (by decide)
  obtain rfl : x7 = (0 : Int32) := zs_eqv h_x7 (by decide)
  obtain rfl : x8 = (0 : Int32) := zs_eqv h_x8 (by decide)
  obtain rfl : t3 = (3 : Int32) := zs_eqv h_t3 (by decide)
  refine zs_gd (zs_gin h_t1 (by decide)) ?_
  refine zs_lt (Q := fun z => zs_C σ0 z) (zs_wrt h_σ (fun _ => rfl) (fun _ => rfl)) (fun σ_2 hσ_2 => ?_)
  refine zs_lt (Q := fun z => zs_in z.toInt 1 7 ∧ z.toInt = c + 1) ⟨(zs_addI 1 7 h_x9 zlI_1 (by decide)), (zs_syI 1 hc h_x9 zlI_1 (by decide) (by decide))⟩ (fun y_4 hy_4 => ?_)
  exact zs_some (zs_inl ⟨⟨hσ_2, hy_4.1⟩, hy_4.2⟩)
-- BX4_reckon_68
theorem zc_1008 {σ0 : sn_S} {σ : sn_S} (h_σ : zs_C σ0 σ) {x3 : Int32} (h_x3 : zs_in x3.toInt 0 0) {x4 : Int32} (h_x4 : zs_in x4.toInt 0 5) {x6 : Int32} (h_x6 : zs_in x6.toInt 7 7) {x7 : Int32} (h_x7 : zs_in x7.toInt 0 0) {x8 : Int32} (h_x8 : zs_in x8.toInt 0 0) {x9 : Int32} (h_x9 : zs_in x9.toInt 0 7) {c : Int} (hc : x9.toInt = c + 0) : zs_ok (BX4_reckon_68 σ 1 27 x3 x4 x6 x7 x8 x9) (fun r => zs_sum (fun v => ((zs_C σ0 v.1 ∧ zs_in (v.2).toInt 1 7)) ∧ v.2.toInt = c + 1) (fun v => zs_C σ0 v) r) := by
  unfold BX4_reckon_68
  obtain rfl : x3 = (0 : Int32) := zs_eqv h_x3 (by decide)
  obtain rfl : x6 = (7 : Int32) := zs_eqv h_x6 (by decide)
  obtain rfl : x7 = (0 : Int32) := zs_eqv h_x7 (by decide)
  obtain rfl : x8 = (0 : Int32) := zs_eqv h_x8 (by decide)
  refine zs_ite (fun c1 => ?_) (fun c1 => ?_)
  · skip
    have r2 := (zs_I_le c1)
    have g3 : zs_in (x9).toInt 7 7 := (zs_ler 7 7 r2 h_x6 h_x9 (by decide))
    exact zs_some (zs_inr (h_σ))
  · skip
    have r4 := (zs_I_len c1)
    have g5 : zs_in (x9).toInt 0 6 := (zs_ltl 0 6 r4 h_x9 h_x6 (by decide))
    refine zs_gd (zs_gin g5 (by decide)) ?_
    refine zs_bd_ (zc_1005 h_x7 (zs_subI 0 6 (zs_subI 6 6 h_x6 zlI_1 (by decide)) g5 (by decide))) (fun t_3 pt_3 => ?_)
    refine zs_ite (fun c6 => ?_) (fun c6 => ?_)
    · skip
      have r7 := (zs_I_eq c6)
      have g8 : zs_in (t_3).toInt 0 0 := (zs_eql 0 0 r7 pt_3 zlI_0 (by decide))
      obtain ⟨ret, er, hr⟩ := zc_1006 h_σ h_x3 h_x4 h_x6 h_x7 h_x8 g5 g5 zlI_0 hc
      refine ⟨ret, er, ?_⟩
      exact (zs_sumw hr (fun v w => ⟨w.1, w.2⟩) (fun v w => w.elim))
    · skip
      have r9 := (zs_I_eqn c6)
      have g10 : zs_in (t_3).toInt 1 1 := (zs_nel 1 1 r9 pt_3 zlI_0 (by decide))
      obtain ⟨ret, er, hr⟩ := zc_1007 h_σ h_x3 h_x4 h_x6 h_x7 h_x8 g5 g5 zlI_3 hc
      refine ⟨ret, er, ?_⟩
      exact (zs_sumw hr (fun v w => ⟨w.1, w.2⟩) (fun v w => w.elim))
theorem zd_187 {σ0 : sn_S} {x3 : Int32} (h_x3 : zs_in x3.toInt 0 0) {x4 : Int32} (h_x4 : zs_in x4.toInt 0 5) {x6 : Int32} (h_x6 : zs_in x6.toInt 7 7) {x7 : Int32} (h_x7 : zs_in x7.toInt 0 0) {x8 : Int32} (h_x8 : zs_in x8.toInt 0 0) {s0 : (sn_S × Int32)} (h0 : (zs_C σ0 s0.1 ∧ zs_in (s0.2).toInt 0 7)) : zs_ok (sn_it (LX4_reckon_68 1 27 x3 x4 x6 x7 x8) 5000 s0) (fun t => zs_C σ0 t) := by
  refine zs_it (I := fun s => (zs_C σ0 s.1 ∧ zs_in (s.2).toInt 0 7)) (m := fun s => 7 - s.2.toInt) (fun s hs => ?_) (fun s hs => ?_) (by exact h0)
  · have h1 := hs.2; unfold zs_in at h1
    omega
  · obtain ⟨b, eb, hb⟩ := zc_1008 hs.1 h_x3 h_x4 h_x6 h_x7 h_x8 hs.2 (c := s.2.toInt) (Int.add_zero _).symm
    exact ⟨b, eb, zs_sumw hb (fun v w => ⟨⟨w.1.1, (zs_w w.1.2 (by decide))⟩, by have := w.2; omega⟩) (fun v w => w)⟩
-- BX0_live_2
theorem zc_1009 {σ0 : sn_S} {σ : sn_S} (h_σ : zs_C σ0 σ) {x1 : Int32} (h_x1 : zs_in x1.toInt 0 0) {x2 : Int32} (h_x2 : zs_in x2.toInt 7 7) {x3 : Int32} (h_x3 : zs_in x3.toInt 0 6) {c : Int} (hc : x3.toInt = c + 0) : zs_ok (BX0_live_2 σ 59 x1 x2 x3) (fun r => zs_sum (fun v => ((zs_C σ0 v.1 ∧ zs_in (v.2).toInt 1 6)) ∧ v.2.toInt = c + 1) (fun v => zs_C σ0 v) r) := by
  unfold BX0_live_2
  obtain rfl : x1 = (0 : Int32) := zs_eqv h_x1 (by decide)
  obtain rfl : x2 = (7 : Int32) := zs_eqv h_x2 (by decide)
  refine zs_ite (fun c1 => ?_) (fun c1 => ?_)
  · skip
    have r2 := (zs_I_le c1)
    exact zs_some (zs_inr (h_σ))
  · skip
    have r3 := (zs_I_len c1)
    have g4 : zs_in (x3).toInt 0 5 := (zs_ltl 0 5 r3 h_x3 (zs_rdk (q := 59) (k := 1) (z := (0, 6)) h_σ.1 rfl) (by decide))
    have g5 : zs_in ((sn_I σ 59 1)).toInt 1 6 := (zs_ltr 1 6 r3 h_x3 (zs_rdk (q := 59) (k := 1) (z := (0, 6)) h_σ.1 rfl) (by decide))
    refine zs_gd (zs_gin g4 (by decide)) ?_
    refine zs_bd_ (zc_314 h_x1) (fun t_3 pt_3 => ?_)
    refine zs_gd (zs_gin g4 (by decide)) ?_
    refine zs_lt (Q := fun z => zs_C σ0 z) (zs_wru (z := (0, 1073741823)) h_σ (fun _ => rfl) (zs_and pt_3 (by decide)) (by decide) (fun _ => rfl)) (fun σ_6 hσ_6 => ?_)
    refine zs_lt (Q := fun z => zs_in z.toInt 1 6 ∧ z.toInt = c + 1) ⟨(zs_addI 1 6 g4 zlI_1 (by decide)), (zs_syI 1 hc g4 zlI_1 (by decide) (by decide))⟩ (fun y_8 hy_8 => ?_)
    exact zs_some (zs_inl ⟨⟨hσ_6, hy_8.1⟩, hy_8.2⟩)
theorem zd_188 {σ0 : sn_S} {x1 : Int32} (h_x1 : zs_in x1.toInt 0 0) {x2 : Int32} (h_x2 : zs_in x2.toInt 7 7) {s0 : (sn_S × Int32)} (h0 : (zs_C σ0 s0.1 ∧ zs_in (s0.2).toInt 0 6)) : zs_ok (sn_it (LX0_live_2 59 x1 x2) 5000 s0) (fun t => zs_C σ0 t) := by
  refine zs_it (I := fun s => (zs_C σ0 s.1 ∧ zs_in (s.2).toInt 0 6)) (m := fun s => 6 - s.2.toInt) (fun s hs => ?_) (fun s hs => ?_) (by exact h0)
  · have h1 := hs.2; unfold zs_in at h1
    omega
  · obtain ⟨b, eb, hb⟩ := zc_1009 hs.1 h_x1 h_x2 hs.2 (c := s.2.toInt) (Int.add_zero _).symm
    exact ⟨b, eb, zs_sumw hb (fun v w => ⟨⟨w.1.1, (zs_w w.1.2 (by decide))⟩, by have := w.2; omega⟩) (fun v w => w)⟩
