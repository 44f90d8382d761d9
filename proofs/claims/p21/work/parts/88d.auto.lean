-- fX9_which
theorem zc_1500 {σ0 : sn_S} {σ : sn_S} (h_σ : zs_M σ0 σ) {x1 : Int32} : zs_ok (fX9_which σ x1) (fun r => (zs_in (r.1).toInt (-6) 270 ∧ zs_M σ0 r.2)) := by
  unfold fX9_which
  refine zs_bd_ (zo_layPairs h_σ) (fun t_1 pt_1 => ?_)
  refine zs_ite (fun c1 => ?_) (fun c1 => ?_)
  · skip
    have r2 := (zs_I_le c1)
    have g3 : zs_in (t_1.1).toInt 0 0 := (zs_ler 0 0 r2 zlI_0 pt_1.1 (by decide))
    exact zs_some ⟨(zs_w (zs_rdk (q := 0) (k := 36) (z := (0, 270)) pt_1.2.1 rfl) (by decide)), pt_1.2⟩
  · skip
    have r4 := (zs_I_len c1)
    have g5 : zs_in (t_1.1).toInt (-6) (-1) := (zs_ltl (-6) (-1) r4 pt_1.1 zlI_0 (by decide))
    exact zs_some ⟨(zs_w g5 (by decide)), pt_1.2⟩
-- BX9_when_17
theorem zc_1501 {σ0 : sn_S} {σ : sn_S} (h_σ : zs_M σ0 σ) {x3 : Int32} (h_x3 : zs_in x3.toInt 0 1073741823) {x4 : Int32} (h_x4 : zs_in x4.toInt 0 270) {c : Int} (hc : x4.toInt = c + 0) : zs_ok (BX9_when_17 σ x3 x4) (fun r => zs_sum (fun v => ((zs_in (v.1).toInt 0 1073741823 ∧ zs_in (v.2).toInt 1 270)) ∧ v.2.toInt = c + 1) (fun v => zs_in (v).toInt 0 1073741823) r) := by
  unfold BX9_when_17
  refine zs_ite (fun c1 => ?_) (fun c1 => ?_)
  · skip
    have r2 := (zs_I_le c1)
    exact zs_some (zs_inr (h_x3))
  · skip
    have r3 := (zs_I_len c1)
    have g4 : zs_in (x4).toInt 0 269 := (zs_ltl 0 269 r3 h_x4 (zs_rdk (q := 0) (k := 36) (z := (0, 270)) h_σ.1 rfl) (by decide))
    have g5 : zs_in ((sn_I σ 0 36)).toInt 1 270 := (zs_ltr 1 270 r3 h_x4 (zs_rdk (q := 0) (k := 36) (z := (0, 270)) h_σ.1 rfl) (by decide))
    refine zs_gd (zs_gin g4 (by decide)) ?_
    refine zs_lt (Q := fun z => zs_in z.toInt 0 1073741823) (zs_or 30 1073741823 h_x3 (zs_cases (zs_divI 0 29 (zs_rdu (q := 19) (z := (0, 299)) h_σ.1 (fun _ => rfl)) zlI_10 (by decide)) (fun z => zs_in ((1 : Int32) <<< (z &&& 31)).toInt 1 536870912) (by decide +kernel)) (by decide)) (fun y_3 hy_3 => ?_)
    refine zs_lt (Q := fun z => zs_in z.toInt 1 270 ∧ z.toInt = c + 1) ⟨(zs_addI 1 270 g4 zlI_1 (by decide)), (zs_syI 1 hc g4 zlI_1 (by decide) (by decide))⟩ (fun y_5 hy_5 => ?_)
    exact zs_some (zs_inl ⟨⟨hy_3, hy_5.1⟩, hy_5.2⟩)
theorem zd_293 {σ0 : sn_S} {σ : sn_S} (h_σ : zs_M σ0 σ) {s0 : (Int32 × Int32)} (h0 : (zs_in (s0.1).toInt 0 1073741823 ∧ zs_in (s0.2).toInt 0 270)) : zs_ok (sn_it (LX9_when_17 σ) 5000 s0) (fun t => zs_in (t).toInt 0 1073741823) := by
  refine zs_it (I := fun s => (zs_in (s.1).toInt 0 1073741823 ∧ zs_in (s.2).toInt 0 270)) (m := fun s => 270 - s.2.toInt) (fun s hs => ?_) (fun s hs => ?_) (by exact h0)
  · have h1 := hs.2; unfold zs_in at h1
    omega
  · obtain ⟨b, eb, hb⟩ := zc_1501 h_σ hs.1 hs.2 (c := s.2.toInt) (Int.add_zero _).symm
    exact ⟨b, eb, zs_sumw hb (fun v w => ⟨⟨w.1.1, (zs_w w.1.2 (by decide))⟩, by have := w.2; omega⟩) (fun v w => w)⟩
-- BX9_when_47
theorem zc_1502 {σ0 : sn_S} {σ : sn_S} (h_σ : zs_M σ0 σ) {x3 : Int32} (h_x3 : zs_in x3.toInt 0 1073741823) : zs_ok (BX9_when_47 σ x3) (fun r => (zs_in (r.1).toInt 0 1073741823 ∧ zs_M σ0 r.2)) := by
  unfold BX9_when_47
  exact zs_some ⟨h_x3, h_σ⟩
-- fX9_when
theorem zc_1503 {σ0 : sn_S} {σ : sn_S} (h_σ : zs_M σ0 σ) {x1 : Int32} : zs_ok (fX9_when σ x1) (fun r => (zs_in (r.1).toInt (-6) 1073741823 ∧ zs_M σ0 r.2)) := by
  unfold fX9_when
  refine zs_bd_ (zo_layPairs h_σ) (fun t_1 pt_1 => ?_)
  refine zs_ite (fun c1 => ?_) (fun c1 => ?_)
  · skip
    have r2 := (zs_I_le c1)
    have g3 : zs_in (t_1.1).toInt 0 0 := (zs_ler 0 0 r2 zlI_0 pt_1.1 (by decide))
    refine zs_bd_ (zd_293 pt_1.2 (s0 := ((0 : Int32), (0 : Int32))) ⟨(zs_w zlI_0 (by decide)), (zs_w zlI_0 (by decide))⟩) (fun t_4 pt_4 => ?_)
    obtain ⟨ret, er, hr⟩ := zc_1502 pt_1.2 pt_4
    refine ⟨ret, er, ?_⟩
    exact ⟨(zs_w hr.1 (by decide)), hr.2⟩
  · skip
    have r4 := (zs_I_len c1)
    have g5 : zs_in (t_1.1).toInt (-6) (-1) := (zs_ltl (-6) (-1) r4 pt_1.1 zlI_0 (by decide))
    exact zs_some ⟨(zs_w g5 (by decide)), pt_1.2⟩
-- fX9_gust
theorem zc_1504 {σ0 : sn_S} {σ : sn_S} (h_σ : zs_M σ0 σ) {x1 : Int32} : zs_ok (fX9_gust σ x1) (fun r => (zs_in (r.1).toInt (-6) 299 ∧ zs_M σ0 r.2)) := by
  unfold fX9_gust
  refine zs_bd_ (zo_layPairs h_σ) (fun t_1 pt_1 => ?_)
  refine zs_ite (fun c1 => ?_) (fun c1 => ?_)
  · skip
    have r2 := (zs_I_le c1)
    have g3 : zs_in (t_1.1).toInt 0 0 := (zs_ler 0 0 r2 zlI_0 pt_1.1 (by decide))
    refine zs_ite (fun c4 => ?_) (fun c4 => ?_)
    · skip
      have r5 := (zs_I_eq c4)
      have g6 : zs_in ((sn_I t_1.2 0 36)).toInt 0 0 := (zs_eql 0 0 r5 (zs_rdk (q := 0) (k := 36) (z := (0, 270)) pt_1.2.1 rfl) zlI_0 (by decide))
      exact zs_some ⟨(zs_w zlI_m1 (by decide)), pt_1.2⟩
    · skip
      have r7 := (zs_I_eqn c4)
      have g8 : zs_in ((sn_I t_1.2 0 36)).toInt 1 270 := (zs_nel 1 270 r7 (zs_rdk (q := 0) (k := 36) (z := (0, 270)) pt_1.2.1 rfl) zlI_0 (by decide))
      refine zs_gd (zs_gin zlI_0 (by decide)) ?_
      exact zs_some ⟨(zs_w (zs_rdu (q := 19) (z := (0, 299)) pt_1.2.1 (fun _ => rfl)) (by decide)), pt_1.2⟩
  · skip
    have r9 := (zs_I_len c1)
    have g10 : zs_in (t_1.1).toInt (-6) (-1) := (zs_ltl (-6) (-1) r9 pt_1.1 zlI_0 (by decide))
    exact zs_some ⟨(zs_w g10 (by decide)), pt_1.2⟩
-- BX9_askOf_73
theorem zc_1505 {σ0 : sn_S} {σ : sn_S} (h_σ : zs_M σ0 σ) {x1 : Int32} (h_x1 : zs_in x1.toInt (-1) 5) {x2 : Int32} (h_x2 : zs_in x2.toInt 0 5) {x3 : Int32} (h_x3 : zs_in x3.toInt 0 2147483647) {x4 : Int32} (h_x4 : zs_in x4.toInt 0 30) {x5 : Int32} {x6 : Int32} (h_x6 : zs_in x6.toInt 0 269) {t0 : Int32} {t1 : Int32} (h_t1 : zs_in t1.toInt 1 1) {c : Int} (hc : x6.toInt = c + 0) : zs_ok (BX9_askOf_73 σ x1 x2 x3 x4 x5 x6 t0 t1) (fun r => zs_sum (fun v => ((True ∧ zs_in (v.2).toInt 1 270)) ∧ v.2.toInt = c + 1) (fun v => False) r) := by
  unfold BX9_askOf_73
  obtain rfl : t1 = (1 : Int32) := zs_eqv h_t1 (by decide)
  refine zs_lt (Q := fun z => True) trivial (fun y_1 hy_1 => ?_)
  refine zs_lt (Q := fun z => zs_in z.toInt 1 270 ∧ z.toInt = c + 1) ⟨(zs_addI 1 270 h_x6 zlI_1 (by decide)), (zs_syI 1 hc h_x6 zlI_1 (by decide) (by decide))⟩ (fun y_3 hy_3 => ?_)
  exact zs_some (zs_inl ⟨⟨trivial, hy_3.1⟩, hy_3.2⟩)
-- BX9_askOf_73
theorem zc_1506 {σ0 : sn_S} {σ : sn_S} (h_σ : zs_M σ0 σ) {x1 : Int32} (h_x1 : zs_in x1.toInt (-1) 5) {x2 : Int32} (h_x2 : zs_in x2.toInt 0 5) {x3 : Int32} (h_x3 : zs_in x3.toInt 0 2147483647) {x4 : Int32} (h_x4 : zs_in x4.toInt 0 30) {x5 : Int32} {x6 : Int32} (h_x6 : zs_in x6.toInt 0 269) {t0 : Int32} {t1 : Int32} (h_t1 : zs_in t1.toInt 0 0) {c : Int} (hc : x6.toInt = c + 0) : zs_ok (BX9_askOf_73 σ x1 x2 x3 x4 x5 x6 t0 t1) (fun r => zs_sum (fun v => ((True ∧ zs_in (v.2).toInt 1 270)) ∧ v.2.toInt = c + 1) (fun v => False) r) := by
  unfold BX9_askOf_73
  obtain rfl : t1 = (0 : Int32) := zs_eqv h_t1 (by decide)
  refine zs_lt (Q := fun z => True) trivial (fun y_1 hy_1 => ?_)
  refine zs_lt (Q := fun z => zs_in z.toInt 1 270 ∧ z.toInt = c + 1) ⟨(zs_addI 1 270 h_x6 zlI_1 (by decide)), (zs_syI 1 hc h_x6 zlI_1 (by decide) (by decide))⟩ (fun y_3 hy_3 => ?_)
  exact zs_some (zs_inl ⟨⟨trivial, hy_3.1⟩, hy_3.2⟩)
-- BX9_askOf_40
theorem zc_1507 {σ0 : sn_S} {σ : sn_S} (h_σ : zs_M σ0 σ) {x1 : Int32} (h_x1 : zs_in x1.toInt (-1) 5) {x2 : Int32} (h_x2 : zs_in x2.toInt 0 5) {x3 : Int32} (h_x3 : zs_in x3.toInt 0 2147483647) {x4 : Int32} (h_x4 : zs_in x4.toInt 0 30) {x5 : Int32} {x6 : Int32} (h_x6 : zs_in x6.toInt 0 270) {c : Int} (hc : x6.toInt = c + 0) : zs_ok (BX9_askOf_40 σ x1 x2 x3 x4 x5 x6) (fun r => zs_sum (fun v => ((True ∧ zs_in (v.2).toInt 1 270)) ∧ v.2.toInt = c + 1) (fun v => True) r) := by
  unfold BX9_askOf_40
  refine zs_ite (fun c1 => ?_) (fun c1 => ?_)
  · skip
    have r2 := (zs_I_le c1)
    exact zs_some (zs_inr (trivial))
  · skip
    have r3 := (zs_I_len c1)
    have g4 : zs_in (x6).toInt 0 269 := (zs_ltl 0 269 r3 h_x6 (zs_rdk (q := 0) (k := 36) (z := (0, 270)) h_σ.1 rfl) (by decide))
    have g5 : zs_in ((sn_I σ 0 36)).toInt 1 270 := (zs_ltr 1 270 r3 h_x6 (zs_rdk (q := 0) (k := 36) (z := (0, 270)) h_σ.1 rfl) (by decide))
    refine zs_gd (zs_gin (zs_addI 0 1619 (zs_mulI 0 1614 zlI_6 g4 (by decide)) h_x2 (by decide)) (by decide)) ?_
    refine zs_ite (fun c6 => ?_) (fun c6 => ?_)
    · skip
      have r7 := (zs_I_eq c6)
      have g8 : zs_in ((sn_I σ 20 (((6 : Int32) * x6) + x2).toNatClampNeg)).toInt 0 30 := (zs_eql 0 30 r7 (zs_topI _) h_x4 (by decide))
      obtain ⟨ret, er, hr⟩ := zc_1505 h_σ h_x1 h_x2 h_x3 h_x4 g4 zlI_1 hc
      refine ⟨ret, er, ?_⟩
      exact (zs_sumw hr (fun v w => ⟨w.1, w.2⟩) (fun v w => w.elim))
    · skip
      have r9 := (zs_I_eqn c6)
      obtain ⟨ret, er, hr⟩ := zc_1506 h_σ h_x1 h_x2 h_x3 h_x4 g4 zlI_0 hc
      refine ⟨ret, er, ?_⟩
      exact (zs_sumw hr (fun v w => ⟨w.1, w.2⟩) (fun v w => w.elim))
theorem zd_294 {σ0 : sn_S} {σ : sn_S} (h_σ : zs_M σ0 σ) {x1 : Int32} (h_x1 : zs_in x1.toInt (-1) 5) {x2 : Int32} (h_x2 : zs_in x2.toInt 0 5) {x3 : Int32} (h_x3 : zs_in x3.toInt 0 2147483647) {x4 : Int32} (h_x4 : zs_in x4.toInt 0 30) {s0 : (Int32 × Int32)} (h0 : (True ∧ zs_in (s0.2).toInt 0 270)) : zs_ok (sn_it (LX9_askOf_40 σ x1 x2 x3 x4) 5000 s0) (fun t => True) := by
  refine zs_it (I := fun s => (True ∧ zs_in (s.2).toInt 0 270)) (m := fun s => 270 - s.2.toInt) (fun s hs => ?_) (fun s hs => ?_) (by exact h0)
  · have h1 := hs.2; unfold zs_in at h1
    omega
  · obtain ⟨b, eb, hb⟩ := zc_1507 h_σ h_x1 h_x2 h_x3 h_x4 hs.2 (c := s.2.toInt) (Int.add_zero _).symm
    exact ⟨b, eb, zs_sumw hb (fun v w => ⟨⟨w.1.1, (zs_w w.1.2 (by decide))⟩, by have := w.2; omega⟩) (fun v w => w)⟩
-- BX9_askOf_82
theorem zc_1508 {σ0 : sn_S} {σ : sn_S} (h_σ : zs_M σ0 σ) {x1 : Int32} (h_x1 : zs_in x1.toInt (-1) 5) {x2 : Int32} (h_x2 : zs_in x2.toInt 0 5) {x3 : Int32} (h_x3 : zs_in x3.toInt 0 2147483647) {x4 : Int32} (h_x4 : zs_in x4.toInt 0 30) {x5 : Int32} {c : Int} (hc : x4.toInt = c + 0) : zs_ok (BX9_askOf_82 σ x1 x2 x3 x4 x5) (fun r => zs_sum (fun v => ((zs_in (v.1).toInt 0 2147483647 ∧ zs_in (v.2).toInt 1 31)) ∧ v.2.toInt = c + 1) (fun v => False) r) := by
  unfold BX9_askOf_82
  refine zs_lt (Q := fun z => zs_in z.toInt 0 2147483647) (zs_max 0 2147483647 h_x3 (zs_topI _) (by decide)) (fun y_1 hy_1 => ?_)
  refine zs_lt (Q := fun z => zs_in z.toInt 1 31 ∧ z.toInt = c + 1) ⟨(zs_addI 1 31 h_x4 zlI_1 (by decide)), (zs_syI 1 hc h_x4 zlI_1 (by decide) (by decide))⟩ (fun y_3 hy_3 => ?_)
  exact zs_some (zs_inl ⟨⟨hy_1, hy_3.1⟩, hy_3.2⟩)
-- BX9_askOf_27
theorem zc_1509 {σ0 : sn_S} {σ : sn_S} (h_σ : zs_M σ0 σ) {x1 : Int32} (h_x1 : zs_in x1.toInt (-1) 5) {x2 : Int32} (h_x2 : zs_in x2.toInt 0 5) {x3 : Int32} (h_x3 : zs_in x3.toInt 0 2147483647) {x4 : Int32} (h_x4 : zs_in x4.toInt 0 31) {c : Int} (hc : x4.toInt = c + 0) : zs_ok (BX9_askOf_27 σ x1 x2 x3 x4) (fun r => zs_sum (fun v => ((zs_in (v.1).toInt 0 2147483647 ∧ zs_in (v.2).toInt 1 31)) ∧ v.2.toInt = c + 1) (fun v => zs_in (v).toInt 0 2147483647) r) := by
  unfold BX9_askOf_27
  refine zs_ite (fun c1 => ?_) (fun c1 => ?_)
  · skip
    have r2 := (zs_I_lt c1)
    have g3 : zs_in (x4).toInt 31 31 := (zs_ltr 31 31 r2 zlI_30 h_x4 (by decide))
    exact zs_some (zs_inr (h_x3))
  · skip
    have r4 := (zs_I_ltn c1)
    have g5 : zs_in (x4).toInt 0 30 := (zs_lel 0 30 r4 h_x4 zlI_30 (by decide))
    refine zs_bd_ (zd_294 h_σ h_x1 h_x2 h_x3 g5 (s0 := ((0 : Int32), (0 : Int32))) ⟨trivial, (zs_w zlI_0 (by decide))⟩) (fun t_2 pt_2 => ?_)
    obtain ⟨ret, er, hr⟩ := zc_1508 h_σ h_x1 h_x2 h_x3 g5 hc
    refine ⟨ret, er, ?_⟩
    exact (zs_sumw hr (fun v w => ⟨w.1, w.2⟩) (fun v w => w.elim))
theorem zd_295 {σ0 : sn_S} {σ : sn_S} (h_σ : zs_M σ0 σ) {x1 : Int32} (h_x1 : zs_in x1.toInt (-1) 5) {x2 : Int32} (h_x2 : zs_in x2.toInt 0 5) {s0 : (Int32 × Int32)} (h0 : (zs_in (s0.1).toInt 0 2147483647 ∧ zs_in (s0.2).toInt 0 31)) : zs_ok (sn_it (LX9_askOf_27 σ x1 x2) 5000 s0) (fun t => zs_in (t).toInt 0 2147483647) := by
  refine zs_it (I := fun s => (zs_in (s.1).toInt 0 2147483647 ∧ zs_in (s.2).toInt 0 31)) (m := fun s => 31 - s.2.toInt) (fun s hs => ?_) (fun s hs => ?_) (by exact h0)
  · have h1 := hs.2; unfold zs_in at h1
    omega
  · obtain ⟨b, eb, hb⟩ := zc_1509 h_σ h_x1 h_x2 hs.1 hs.2 (c := s.2.toInt) (Int.add_zero _).symm
    exact ⟨b, eb, zs_sumw hb (fun v w => ⟨⟨w.1.1, (zs_w w.1.2 (by decide))⟩, by have := w.2; omega⟩) (fun v w => w)⟩
-- BX9_askOf_113
theorem zc_1510 {σ0 : sn_S} {σ : sn_S} (h_σ : zs_M σ0 σ) {x1 : Int32} (h_x1 : zs_in x1.toInt 0 5) {x2 : Int32} (h_x2 : zs_in x2.toInt 0 5) {c : Int} (hc : x2.toInt = c + 0) : zs_ok (BX9_askOf_113 σ x1 x2) (fun r => zs_sum (fun v => ((zs_M σ0 v.1 ∧ (zs_in (v.2.1).toInt 0 5 ∧ zs_in (v.2.2).toInt 1 6))) ∧ v.2.2.toInt = c + 1) (fun v => False) r) := by
  unfold BX9_askOf_113
  refine zs_lt (Q := fun z => zs_in z.toInt 1 6 ∧ z.toInt = c + 1) ⟨(zs_addI 1 6 h_x2 zlI_1 (by decide)), (zs_syI 1 hc h_x2 zlI_1 (by decide) (by decide))⟩ (fun y_1 hy_1 => ?_)
  exact zs_some (zs_inl ⟨⟨h_σ, ⟨h_x1, hy_1.1⟩⟩, hy_1.2⟩)
-- BX9_askOf_113
theorem zc_1511 {σ0 : sn_S} {σ : sn_S} (h_σ : zs_M σ0 σ) {x1 : Int32} (h_x1 : zs_in x1.toInt (-1) 5) {x2 : Int32} (h_x2 : zs_in x2.toInt 0 5) {c : Int} (hc : x2.toInt = c + 0) : zs_ok (BX9_askOf_113 σ x1 x2) (fun r => zs_sum (fun v => ((zs_M σ0 v.1 ∧ (zs_in (v.2.1).toInt (-1) 5 ∧ zs_in (v.2.2).toInt 1 6))) ∧ v.2.2.toInt = c + 1) (fun v => False) r) := by
  unfold BX9_askOf_113
  refine zs_lt (Q := fun z => zs_in z.toInt 1 6 ∧ z.toInt = c + 1) ⟨(zs_addI 1 6 h_x2 zlI_1 (by decide)), (zs_syI 1 hc h_x2 zlI_1 (by decide) (by decide))⟩ (fun y_1 hy_1 => ?_)
  exact zs_some (zs_inl ⟨⟨h_σ, ⟨h_x1, hy_1.1⟩⟩, hy_1.2⟩)
-- BX9_askOf_95
theorem zc_1512 {σ0 : sn_S} {σ : sn_S} (h_σ : zs_M σ0 σ) {x1 : Int32} (h_x1 : zs_in x1.toInt (-1) 5) {x2 : Int32} (h_x2 : zs_in x2.toInt 0 5) {x3 : Int32} (h_x3 : zs_in x3.toInt 0 2147483647) {c : Int} (hc : x2.toInt = c + 0) : zs_ok (BX9_askOf_95 σ x1 x2 x3) (fun r => zs_sum (fun v => ((zs_M σ0 v.1 ∧ (zs_in (v.2.1).toInt (-1) 5 ∧ zs_in (v.2.2).toInt 1 6))) ∧ v.2.2.toInt = c + 1) (fun v => False) r) := by
  unfold BX9_askOf_95
  refine zs_ite (fun c1 => ?_) (fun c1 => ?_)
  · skip
    have r2 := (zs_I_lt c1)
    have g3 : zs_in (x3).toInt 0 2147483646 := (zs_ltl 0 2147483646 r2 h_x3 (zs_topI _) (by decide))
    have g4 : zs_in ((sn_I σ 0 37)).toInt 1 2147483647 := (zs_ltr 1 2147483647 r2 h_x3 (zs_topI _) (by decide))
    refine zs_lt (Q := fun z => zs_M σ0 z) (zs_wrkt h_σ rfl rfl) (fun σ_2 hσ_2 => ?_)
    obtain ⟨ret, er, hr⟩ := zc_1510 hσ_2 h_x2 h_x2 hc
    refine ⟨ret, er, ?_⟩
    exact (zs_sumw hr (fun v w => ⟨⟨w.1.1, ⟨(zs_w w.1.2.1 (by decide)), w.1.2.2⟩⟩, w.2⟩) (fun v w => w.elim))
  · skip
    have r5 := (zs_I_ltn c1)
    obtain ⟨ret, er, hr⟩ := zc_1511 h_σ h_x1 h_x2 hc
    refine ⟨ret, er, ?_⟩
    exact (zs_sumw hr (fun v w => ⟨w.1, w.2⟩) (fun v w => w.elim))
-- BX9_askOf_12
theorem zc_1513 {σ0 : sn_S} {σ : sn_S} (h_σ : zs_M σ0 σ) {x1 : Int32} (h_x1 : zs_in x1.toInt (-1) 5) {x2 : Int32} (h_x2 : zs_in x2.toInt 0 6) {c : Int} (hc : x2.toInt = c + 0) : zs_ok (BX9_askOf_12 σ x1 x2) (fun r => zs_sum (fun v => ((zs_M σ0 v.1 ∧ (zs_in (v.2.1).toInt (-1) 5 ∧ zs_in (v.2.2).toInt 1 6))) ∧ v.2.2.toInt = c + 1) (fun v => (zs_M σ0 v.1 ∧ zs_in (v.2).toInt (-1) 5)) r) := by
  unfold BX9_askOf_12
  refine zs_gd (zs_gin zlI_5 (by decide)) ?_
  refine zs_ite (fun c1 => ?_) (fun c1 => ?_)
  · skip
    have r2 := (zs_I_le c1)
    exact zs_some (zs_inr (⟨h_σ, h_x1⟩))
  · skip
    have r3 := (zs_I_len c1)
    have g4 : zs_in (x2).toInt 0 5 := (zs_ltl 0 5 r3 h_x2 (zs_rdk (q := 1) (k := (5 : Int32).toNatClampNeg) (z := (0, 6)) h_σ.1 rfl) (by decide))
    have g5 : zs_in ((sn_I σ 1 (5 : Int32).toNatClampNeg)).toInt 1 6 := (zs_ltr 1 6 r3 h_x2 (zs_rdk (q := 1) (k := (5 : Int32).toNatClampNeg) (z := (0, 6)) h_σ.1 rfl) (by decide))
    refine zs_bd_ (zd_295 h_σ h_x1 g4 (s0 := ((0 : Int32), (0 : Int32))) ⟨(zs_w zlI_0 (by decide)), (zs_w zlI_0 (by decide))⟩) (fun t_3 pt_3 => ?_)
    obtain ⟨ret, er, hr⟩ := zc_1512 h_σ h_x1 g4 pt_3 hc
    refine ⟨ret, er, ?_⟩
    exact (zs_sumw hr (fun v w => ⟨w.1, w.2⟩) (fun v w => w.elim))
theorem zd_296 {σ0 : sn_S}  {s0 : (sn_S × (Int32 × Int32))} (h0 : (zs_M σ0 s0.1 ∧ (zs_in (s0.2.1).toInt (-1) 5 ∧ zs_in (s0.2.2).toInt 0 6))) : zs_ok (sn_it (LX9_askOf_12) 5000 s0) (fun t => (zs_M σ0 t.1 ∧ zs_in (t.2).toInt (-1) 5)) := by
  refine zs_it (I := fun s => (zs_M σ0 s.1 ∧ (zs_in (s.2.1).toInt (-1) 5 ∧ zs_in (s.2.2).toInt 0 6))) (m := fun s => 6 - s.2.2.toInt) (fun s hs => ?_) (fun s hs => ?_) (by exact h0)
  · have h1 := hs.2.2; unfold zs_in at h1
    omega
  · obtain ⟨b, eb, hb⟩ := zc_1513 hs.1 hs.2.1 hs.2.2 (c := s.2.2.toInt) (Int.add_zero _).symm
    exact ⟨b, eb, zs_sumw hb (fun v w => ⟨⟨w.1.1, ⟨w.1.2.1, (zs_w w.1.2.2 (by decide))⟩⟩, by have := w.2; omega⟩) (fun v w => w)⟩
-- BX9_askOf_119
theorem zc_1514 {σ0 : sn_S} {σ : sn_S} (h_σ : zs_M σ0 σ) {x1 : Int32} (h_x1 : zs_in x1.toInt (-1) 5) : zs_ok (BX9_askOf_119 σ x1) (fun r => (zs_in (r.1).toInt (-1) 5 ∧ zs_M σ0 r.2)) := by
  unfold BX9_askOf_119
  exact zs_some ⟨h_x1, h_σ⟩
-- fX9_askOf
theorem zc_1515 {σ0 : sn_S} {σ : sn_S} (h_σ : zs_M σ0 σ) : zs_ok (fX9_askOf σ) (fun r => (zs_in (r.1).toInt (-1) 5 ∧ zs_M σ0 r.2)) := by
  unfold fX9_askOf
  refine zs_lt (Q := fun z => zs_M σ0 z) (zs_wrkt h_σ rfl rfl) (fun σ_1 hσ_1 => ?_)
  refine zs_bd_ (zd_296  (s0 := (σ_1, ((-1 : Int32), (0 : Int32)))) ⟨hσ_1, ⟨(zs_w zlI_m1 (by decide)), (zs_w zlI_0 (by decide))⟩⟩) (fun t_3 pt_3 => ?_)
  obtain ⟨ret, er, hr⟩ := zc_1514 pt_3.1 pt_3.2
  refine ⟨ret, er, ?_⟩
  exact hr
-- fX9_ask
theorem zc_1516 {σ0 : sn_S} {σ : sn_S} (h_σ : zs_M σ0 σ) {x1 : Int32} : zs_ok (fX9_ask σ x1) (fun r => (zs_in (r.1).toInt (-6) 5 ∧ zs_M σ0 r.2)) := by
  unfold fX9_ask
  refine zs_bd_ (zo_layPairs h_σ) (fun t_1 pt_1 => ?_)
  refine zs_ite (fun c1 => ?_) (fun c1 => ?_)
  · skip
    have r2 := (zs_I_le c1)
    have g3 : zs_in (t_1.1).toInt 0 0 := (zs_ler 0 0 r2 zlI_0 pt_1.1 (by decide))
    refine zs_bd_ (zc_1515 pt_1.2) (fun t_4 pt_4 => ?_)
    exact zs_some ⟨(zs_w pt_4.1 (by decide)), pt_4.2⟩
  · skip
    have r4 := (zs_I_len c1)
    have g5 : zs_in (t_1.1).toInt (-6) (-1) := (zs_ltl (-6) (-1) r4 pt_1.1 zlI_0 (by decide))
    exact zs_some ⟨(zs_w g5 (by decide)), pt_1.2⟩
-- fX9_leaves
theorem zc_1517 {σ0 : sn_S} {σ : sn_S} (h_σ : zs_M σ0 σ) {x1 : Int32} : zs_ok (fX9_leaves σ x1) (fun r => (True ∧ zs_M σ0 r.2)) := by
  unfold fX9_leaves
  refine zs_bd_ (zo_layPairs h_σ) (fun t_1 pt_1 => ?_)
  refine zs_ite (fun c1 => ?_) (fun c1 => ?_)
  · skip
    have r2 := (zs_I_le c1)
    have g3 : zs_in (t_1.1).toInt 0 0 := (zs_ler 0 0 r2 zlI_0 pt_1.1 (by decide))
    refine zs_bd_ (zc_1515 pt_1.2) (fun t_4 pt_4 => ?_)
    exact zs_some ⟨trivial, pt_4.2⟩
  · skip
    have r4 := (zs_I_len c1)
    have g5 : zs_in (t_1.1).toInt (-6) (-1) := (zs_ltl (-6) (-1) r4 pt_1.1 zlI_0 (by decide))
    exact zs_some ⟨trivial, pt_1.2⟩
