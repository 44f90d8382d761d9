-- fX9_holds
theorem zc_530 {σ0 : sn_S} {σ : sn_S} (h_σ : zs_M σ0 σ) {x1 : Int32} : zs_ok (fX9_holds σ x1) (fun r => ((True ∧ zs_M σ0 r.2)) ∧ ((r.1).toInt = (-2) ∨ (zs_in (x1).toInt 0 5))) := by
  unfold fX9_holds
  refine zs_bd_ (zc_526 h_σ) (fun t_1 pt_1 => ?_)
  refine zs_ite (fun c1 => ?_) (fun c1 => ?_)
  · skip
    have r2 := (zs_I_eq c1)
    have g3 : zs_in (t_1.1).toInt 0 0 := (zs_eql 0 0 r2 pt_1.1.1 zlI_0 (by decide))
    exact zs_some ⟨⟨trivial, pt_1.1.2⟩, Or.inl (zs_ptr zlI_m2)⟩
  · skip
    have r4 := (zs_I_eqn c1)
    have g5 : zs_in (t_1.1).toInt 1 1 := (zs_nel 1 1 r4 pt_1.1.1 zlI_0 (by decide))
    have q6 := (zs_or2 pt_1.2 g5 (by decide))
    have g7 : zs_in (x1).toInt 0 5 := q6
    refine zs_gd (zs_gin zlI_0 (by decide)) ?_
    exact zs_some ⟨⟨trivial, pt_1.1.2⟩, Or.inr g7⟩
-- BX0_live_2
theorem zc_531 {σ0 : sn_S} {σ : sn_S} (h_σ : zs_C σ0 σ) {x1 : Int32} (h_x1 : zs_in x1.toInt 0 29) {x2 : Int32} (h_x2 : zs_in x2.toInt 0 30) {x3 : Int32} (h_x3 : zs_in x3.toInt 0 6) {c : Int} (hc : x3.toInt = c + 0) : zs_ok (BX0_live_2 σ 38 x1 x2 x3) (fun r => zs_sum (fun v => ((zs_C σ0 v.1 ∧ zs_in (v.2).toInt 1 6)) ∧ v.2.toInt = c + 1) (fun v => zs_C σ0 v) r) := by
  unfold BX0_live_2
  refine zs_ite (fun c1 => ?_) (fun c1 => ?_)
  · skip
    have r2 := (zs_I_le c1)
    exact zs_some (zs_inr (h_σ))
  · skip
    have r3 := (zs_I_len c1)
    have g4 : zs_in (x3).toInt 0 5 := (zs_ltl 0 5 r3 h_x3 (zs_rdk (q := 38) (k := 1) (z := (0, 6)) h_σ.1 rfl) (by decide))
    have g5 : zs_in ((sn_I σ 38 1)).toInt 1 6 := (zs_ltr 1 6 r3 h_x3 (zs_rdk (q := 38) (k := 1) (z := (0, 6)) h_σ.1 rfl) (by decide))
    refine zs_gd (zs_gin g4 (by decide)) ?_
    refine zs_bd_ (zc_187 h_x1) (fun t_3 pt_3 => ?_)
    refine zs_gd (zs_gin g4 (by decide)) ?_
    refine zs_lt (Q := fun z => zs_C σ0 z) (zs_wru (z := (0, 1073741823)) h_σ (fun _ => rfl) (zs_and pt_3 (by decide)) (by decide) (fun _ => rfl)) (fun σ_6 hσ_6 => ?_)
    refine zs_lt (Q := fun z => zs_in z.toInt 1 6 ∧ z.toInt = c + 1) ⟨(zs_addI 1 6 g4 zlI_1 (by decide)), (zs_syI 1 hc g4 zlI_1 (by decide) (by decide))⟩ (fun y_8 hy_8 => ?_)
    exact zs_some (zs_inl ⟨⟨hσ_6, hy_8.1⟩, hy_8.2⟩)
theorem zd_94 {σ0 : sn_S} {x1 : Int32} (h_x1 : zs_in x1.toInt 0 29) {x2 : Int32} (h_x2 : zs_in x2.toInt 0 30) {s0 : (sn_S × Int32)} (h0 : (zs_C σ0 s0.1 ∧ zs_in (s0.2).toInt 0 6)) : zs_ok (sn_it (LX0_live_2 38 x1 x2) 5000 s0) (fun t => zs_C σ0 t) := by
  refine zs_it (I := fun s => (zs_C σ0 s.1 ∧ zs_in (s.2).toInt 0 6)) (m := fun s => 6 - s.2.toInt) (fun s hs => ?_) (fun s hs => ?_) (by exact h0)
  · have h1 := hs.2; unfold zs_in at h1
    omega
  · obtain ⟨b, eb, hb⟩ := zc_531 hs.1 h_x1 h_x2 hs.2 (c := s.2.toInt) (Int.add_zero _).symm
    exact ⟨b, eb, zs_sumw hb (fun v w => ⟨⟨w.1.1, (zs_w w.1.2 (by decide))⟩, by have := w.2; omega⟩) (fun v w => w)⟩
-- BX0_live_29
theorem zc_532 {σ0 : sn_S} {σ : sn_S} (h_σ : zs_C σ0 σ) {x1 : Int32} (h_x1 : zs_in x1.toInt 0 29) {x2 : Int32} (h_x2 : zs_in x2.toInt 0 30) : zs_ok (BX0_live_29 σ 38 x1 x2) (fun r => zs_C σ0 r) := by
  unfold BX0_live_29
  refine zs_bd_ (zd_58 h_x2 (s0 := (σ, x1)) ⟨h_σ, (zs_w h_x1 (by decide))⟩) (fun t_1 pt_1 => ?_)
  obtain ⟨ret, er, hr⟩ := zc_347 pt_1
  refine ⟨ret, er, ?_⟩
  exact hr
-- fX0_live
theorem zc_533 {σ0 : sn_S} {σ : sn_S} (h_σ : zs_C σ0 σ) {x1 : Int32} (h_x1 : zs_in x1.toInt 0 29) {x2 : Int32} (h_x2 : zs_in x2.toInt 0 30) : zs_ok (fX0_live σ 38 x1 x2) (fun r => zs_C σ0 r) := by
  unfold fX0_live
  refine zs_bd_ (zd_94 h_x1 h_x2 (s0 := (σ, (0 : Int32))) ⟨h_σ, (zs_w zlI_0 (by decide))⟩) (fun t_1 pt_1 => ?_)
  obtain ⟨ret, er, hr⟩ := zc_532 pt_1 h_x1 h_x2
  refine ⟨ret, er, ?_⟩
  exact hr
-- BX0_live_2
theorem zc_534 {σ0 : sn_S} {σ : sn_S} (h_σ : zs_C σ0 σ) {x1 : Int32} (h_x1 : zs_in x1.toInt 0 29) {x2 : Int32} (h_x2 : zs_in x2.toInt 1 30) {x3 : Int32} (h_x3 : zs_in x3.toInt 0 6) {c : Int} (hc : x3.toInt = c + 0) : zs_ok (BX0_live_2 σ 38 x1 x2 x3) (fun r => zs_sum (fun v => ((zs_C σ0 v.1 ∧ zs_in (v.2).toInt 1 6)) ∧ v.2.toInt = c + 1) (fun v => zs_C σ0 v) r) := by
  unfold BX0_live_2
  refine zs_ite (fun c1 => ?_) (fun c1 => ?_)
  · skip
    have r2 := (zs_I_le c1)
    exact zs_some (zs_inr (h_σ))
  · skip
    have r3 := (zs_I_len c1)
    have g4 : zs_in (x3).toInt 0 5 := (zs_ltl 0 5 r3 h_x3 (zs_rdk (q := 38) (k := 1) (z := (0, 6)) h_σ.1 rfl) (by decide))
    have g5 : zs_in ((sn_I σ 38 1)).toInt 1 6 := (zs_ltr 1 6 r3 h_x3 (zs_rdk (q := 38) (k := 1) (z := (0, 6)) h_σ.1 rfl) (by decide))
    refine zs_gd (zs_gin g4 (by decide)) ?_
    refine zs_bd_ (zc_187 h_x1) (fun t_3 pt_3 => ?_)
    refine zs_gd (zs_gin g4 (by decide)) ?_
    refine zs_lt (Q := fun z => zs_C σ0 z) (zs_wru (z := (0, 1073741823)) h_σ (fun _ => rfl) (zs_and pt_3 (by decide)) (by decide) (fun _ => rfl)) (fun σ_6 hσ_6 => ?_)
    refine zs_lt (Q := fun z => zs_in z.toInt 1 6 ∧ z.toInt = c + 1) ⟨(zs_addI 1 6 g4 zlI_1 (by decide)), (zs_syI 1 hc g4 zlI_1 (by decide) (by decide))⟩ (fun y_8 hy_8 => ?_)
    exact zs_some (zs_inl ⟨⟨hσ_6, hy_8.1⟩, hy_8.2⟩)
theorem zd_95 {σ0 : sn_S} {x1 : Int32} (h_x1 : zs_in x1.toInt 0 29) {x2 : Int32} (h_x2 : zs_in x2.toInt 1 30) {s0 : (sn_S × Int32)} (h0 : (zs_C σ0 s0.1 ∧ zs_in (s0.2).toInt 0 6)) : zs_ok (sn_it (LX0_live_2 38 x1 x2) 5000 s0) (fun t => zs_C σ0 t) := by
  refine zs_it (I := fun s => (zs_C σ0 s.1 ∧ zs_in (s.2).toInt 0 6)) (m := fun s => 6 - s.2.toInt) (fun s hs => ?_) (fun s hs => ?_) (by exact h0)
  · have h1 := hs.2; unfold zs_in at h1
    omega
  · obtain ⟨b, eb, hb⟩ := zc_534 hs.1 h_x1 h_x2 hs.2 (c := s.2.toInt) (Int.add_zero _).symm
    exact ⟨b, eb, zs_sumw hb (fun v w => ⟨⟨w.1.1, (zs_w w.1.2 (by decide))⟩, by have := w.2; omega⟩) (fun v w => w)⟩
-- BX0_live_31
theorem zc_535 {σ0 : sn_S} {σ : sn_S} (h_σ : zs_C σ0 σ) {x2 : Int32} (h_x2 : zs_in x2.toInt 1 30) {x3 : Int32} (h_x3 : zs_in x3.toInt 0 30) {c : Int} (hc : x3.toInt = c + 0) : zs_ok (BX0_live_31 σ 38 x2 x3) (fun r => zs_sum (fun v => ((zs_C σ0 v.1 ∧ zs_in (v.2).toInt 1 30)) ∧ v.2.toInt = c + 1) (fun v => zs_C σ0 v) r) := by
  unfold BX0_live_31
  refine zs_ite (fun c1 => ?_) (fun c1 => ?_)
  · skip
    have r2 := (zs_I_le c1)
    have g3 : zs_in (x3).toInt 1 30 := (zs_ler 1 30 r2 h_x2 h_x3 (by decide))
    exact zs_some (zs_inr (h_σ))
  · skip
    have r4 := (zs_I_len c1)
    have g5 : zs_in (x3).toInt 0 29 := (zs_ltl 0 29 r4 h_x3 h_x2 (by decide))
    refine zs_ite (fun c6 => ?_) (fun c6 => ?_)
    · skip
      have r7 := (zs_I_le c6)
      have g8 : zs_in ((sn_I σ 38 0)).toInt 0 29 := (zs_lel 0 29 r7 (zs_rdk (q := 38) (k := 0) (z := (0, 30)) h_σ.1 rfl) g5 (by decide))
      exact zs_some (zs_inr (h_σ))
    · skip
      have r9 := (zs_I_len c6)
      have g10 : zs_in ((sn_I σ 38 0)).toInt 1 30 := (zs_ltr 1 30 r9 g5 (zs_rdk (q := 38) (k := 0) (z := (0, 30)) h_σ.1 rfl) (by decide))
      refine zs_bd_ (zc_328 h_σ g5) (fun t_3 pt_3 => ?_)
      refine zs_bd_ (zc_345 pt_3 g5) (fun t_5 pt_5 => ?_)
      refine zs_lt (Q := fun z => zs_in z.toInt 1 30 ∧ z.toInt = c + 1) ⟨(zs_addI 1 30 g5 zlI_1 (by decide)), (zs_syI 1 hc g5 zlI_1 (by decide) (by decide))⟩ (fun y_7 hy_7 => ?_)
      exact zs_some (zs_inl ⟨⟨pt_5, hy_7.1⟩, hy_7.2⟩)
theorem zd_96 {σ0 : sn_S} {x2 : Int32} (h_x2 : zs_in x2.toInt 1 30) {s0 : (sn_S × Int32)} (h0 : (zs_C σ0 s0.1 ∧ zs_in (s0.2).toInt 0 30)) : zs_ok (sn_it (LX0_live_31 38 x2) 5000 s0) (fun t => zs_C σ0 t) := by
  refine zs_it (I := fun s => (zs_C σ0 s.1 ∧ zs_in (s.2).toInt 0 30)) (m := fun s => 30 - s.2.toInt) (fun s hs => ?_) (fun s hs => ?_) (by exact h0)
  · have h1 := hs.2; unfold zs_in at h1
    omega
  · obtain ⟨b, eb, hb⟩ := zc_535 hs.1 h_x2 hs.2 (c := s.2.toInt) (Int.add_zero _).symm
    exact ⟨b, eb, zs_sumw hb (fun v w => ⟨⟨w.1.1, (zs_w w.1.2 (by decide))⟩, by have := w.2; omega⟩) (fun v w => w)⟩
-- BX0_live_29
theorem zc_536 {σ0 : sn_S} {σ : sn_S} (h_σ : zs_C σ0 σ) {x1 : Int32} (h_x1 : zs_in x1.toInt 0 29) {x2 : Int32} (h_x2 : zs_in x2.toInt 1 30) : zs_ok (BX0_live_29 σ 38 x1 x2) (fun r => zs_C σ0 r) := by
  unfold BX0_live_29
  refine zs_bd_ (zd_96 h_x2 (s0 := (σ, x1)) ⟨h_σ, (zs_w h_x1 (by decide))⟩) (fun t_1 pt_1 => ?_)
  obtain ⟨ret, er, hr⟩ := zc_347 pt_1
  refine ⟨ret, er, ?_⟩
  exact hr
-- fX0_live
theorem zc_537 {σ0 : sn_S} {σ : sn_S} (h_σ : zs_C σ0 σ) {x1 : Int32} (h_x1 : zs_in x1.toInt 0 29) {x2 : Int32} (h_x2 : zs_in x2.toInt 1 30) : zs_ok (fX0_live σ 38 x1 x2) (fun r => zs_C σ0 r) := by
  unfold fX0_live
  refine zs_bd_ (zd_95 h_x1 h_x2 (s0 := (σ, (0 : Int32))) ⟨h_σ, (zs_w zlI_0 (by decide))⟩) (fun t_1 pt_1 => ?_)
  obtain ⟨ret, er, hr⟩ := zc_536 pt_1 h_x1 h_x2
  refine ⟨ret, er, ?_⟩
  exact hr
-- BX8_minutesOfFraud_133
theorem zc_538 {σ0 : sn_S} {σ : sn_S} (h_σ : zs_C σ0 σ) {x1 : Int32} (h_x1 : zs_in x1.toInt 0 5) {x2 : Int32} (h_x2 : zs_in x2.toInt 0 5) {x3 : Int32} {x4 : Int32} {x5 : Int32} (h_x5 : zs_in x5.toInt 0 29) {c : Int} (hc : x5.toInt = c + 0) : zs_ok (BX8_minutesOfFraud_133 σ x1 x2 x3 x4 x5) (fun r => zs_sum (fun v => ((zs_C σ0 v.1 ∧ (True ∧ zs_in (v.2.2).toInt 1 30))) ∧ v.2.2.toInt = c + 1) (fun v => False) r) := by
  unfold BX8_minutesOfFraud_133
  refine zs_gd (zs_gin h_x2 (by decide)) ?_
  refine zs_gd (zs_gin h_x2 (by decide)) ?_
  refine zs_lt (Q := fun z => zs_C σ0 z) (zs_wrt h_σ (fun _ => rfl) (fun _ => rfl)) (fun σ_3 hσ_3 => ?_)
  refine zs_bd_ (zc_537 hσ_3 h_x5 (zs_addI 1 30 h_x5 zlI_1 (by decide))) (fun t_5 pt_5 => ?_)
  refine zs_lt (Q := fun z => zs_in z.toInt 1 30 ∧ z.toInt = c + 1) ⟨(zs_addI 1 30 h_x5 zlI_1 (by decide)), (zs_syI 1 hc h_x5 zlI_1 (by decide) (by decide))⟩ (fun y_7 hy_7 => ?_)
  exact zs_some (zs_inl ⟨⟨pt_5, ⟨trivial, hy_7.1⟩⟩, hy_7.2⟩)
-- BX8_minutesOfFraud_133
theorem zc_539 {σ0 : sn_S} {σ : sn_S} (h_σ : zs_C σ0 σ) {x1 : Int32} (h_x1 : zs_in x1.toInt 0 5) {x2 : Int32} (h_x2 : zs_in x2.toInt 0 5) {x3 : Int32} (h_x3 : zs_in x3.toInt (-2147483648) 2147483646) {x4 : Int32} {x5 : Int32} (h_x5 : zs_in x5.toInt 0 29) {c : Int} (hc : x5.toInt = c + 0) : zs_ok (BX8_minutesOfFraud_133 σ x1 x2 x3 x4 x5) (fun r => zs_sum (fun v => ((zs_C σ0 v.1 ∧ (True ∧ zs_in (v.2.2).toInt 1 30))) ∧ v.2.2.toInt = c + 1) (fun v => False) r) := by
  unfold BX8_minutesOfFraud_133
  refine zs_gd (zs_gin h_x2 (by decide)) ?_
  refine zs_gd (zs_gin h_x2 (by decide)) ?_
  refine zs_lt (Q := fun z => zs_C σ0 z) (zs_wrt h_σ (fun _ => rfl) (fun _ => rfl)) (fun σ_3 hσ_3 => ?_)
  refine zs_bd_ (zc_537 hσ_3 h_x5 (zs_addI 1 30 h_x5 zlI_1 (by decide))) (fun t_5 pt_5 => ?_)
  refine zs_lt (Q := fun z => zs_in z.toInt 1 30 ∧ z.toInt = c + 1) ⟨(zs_addI 1 30 h_x5 zlI_1 (by decide)), (zs_syI 1 hc h_x5 zlI_1 (by decide) (by decide))⟩ (fun y_7 hy_7 => ?_)
  exact zs_some (zs_inl ⟨⟨pt_5, ⟨trivial, hy_7.1⟩⟩, hy_7.2⟩)
-- BX8_minutesOfFraud_34
theorem zc_540 {σ0 : sn_S} {σ : sn_S} (h_σ : zs_C σ0 σ) {x1 : Int32} (h_x1 : zs_in x1.toInt 0 5) {x2 : Int32} (h_x2 : zs_in x2.toInt 0 5) {x3 : Int32} {x4 : Int32} {x5 : Int32} (h_x5 : zs_in x5.toInt 0 30) {c : Int} (hc : x5.toInt = c + 0) : zs_ok (BX8_minutesOfFraud_34 σ x1 x2 x3 x4 x5) (fun r => zs_sum (fun v => ((zs_C σ0 v.1 ∧ (True ∧ zs_in (v.2.2).toInt 1 30))) ∧ v.2.2.toInt = c + 1) (fun v => (zs_C σ0 v.1 ∧ True)) r) := by
  unfold BX8_minutesOfFraud_34
  refine zs_ite (fun c1 => ?_) (fun c1 => ?_)
  · skip
    have r2 := (zs_I_le c1)
    exact zs_some (zs_inr (⟨h_σ, trivial⟩))
  · skip
    have r3 := (zs_I_len c1)
    have g4 : zs_in (x5).toInt 0 29 := (zs_ltl 0 29 r3 h_x5 (zs_rdk (q := 27) (k := 0) (z := (0, 30)) h_σ.1 rfl) (by decide))
    have g5 : zs_in ((sn_I σ 27 0)).toInt 1 30 := (zs_ltr 1 30 r3 h_x5 (zs_rdk (q := 27) (k := 0) (z := (0, 30)) h_σ.1 rfl) (by decide))
    refine zs_gd (zs_gin h_x2 (by decide)) ?_
    refine zs_gd (zs_gin h_x2 (by decide)) ?_
    refine zs_lt (Q := fun z => zs_C σ0 z) (zs_wrt h_σ (fun _ => rfl) (fun _ => rfl)) (fun σ_4 hσ_4 => ?_)
    refine zs_bd_ (zc_533 hσ_4 g4 (zs_rdk (q := 27) (k := 0) (z := (0, 30)) hσ_4.1 rfl)) (fun t_6 pt_6 => ?_)
    refine zs_gd (zs_gin zlI_2 (by decide)) ?_
    refine zs_gd (zs_gin h_x2 (by decide)) ?_
    refine zs_gd (zs_gin h_x2 (by decide)) ?_
    refine zs_bd_ (zc_235 pt_6 (zs_rdk (q := 2) (k := (2 : Int32).toNatClampNeg) (z := (0, 3)) pt_6.1 rfl) h_x1 (zs_rdu (q := 48) (z := (0, 1073741823)) pt_6.1 (fun _ => rfl))) (fun t_11 pt_11 => ?_)
    refine zs_ite (fun c6 => ?_) (fun c6 => ?_)
    · skip
      have r7 := (zs_I_le c6)
      obtain ⟨ret, er, hr⟩ := zc_538 pt_6 h_x1 h_x2 g4 hc
      refine ⟨ret, er, ?_⟩
      exact (zs_sumw hr (fun v w => ⟨w.1, w.2⟩) (fun v w => w.elim))
    · skip
      have r8 := (zs_I_len c6)
      have g9 : zs_in (x3).toInt (-2147483648) 2147483646 := (zs_ltl (-2147483648) 2147483646 r8 (zs_topI _) (zs_topI _) (by decide))
      have g10 : zs_in (t_11).toInt (-2147483647) 2147483647 := (zs_ltr (-2147483647) 2147483647 r8 (zs_topI _) (zs_topI _) (by decide))
      refine zs_lt (Q := fun z => True) trivial (fun y_14 hy_14 => ?_)
      obtain ⟨ret, er, hr⟩ := zc_539 pt_6 h_x1 h_x2 g9 g4 hc
      refine ⟨ret, er, ?_⟩
      exact (zs_sumw hr (fun v w => ⟨w.1, w.2⟩) (fun v w => w.elim))
theorem zd_97 {σ0 : sn_S} {x1 : Int32} (h_x1 : zs_in x1.toInt 0 5) {x2 : Int32} (h_x2 : zs_in x2.toInt 0 5) {x3 : Int32} {s0 : (sn_S × (Int32 × Int32))} (h0 : (zs_C σ0 s0.1 ∧ (True ∧ zs_in (s0.2.2).toInt 0 30))) : zs_ok (sn_it (LX8_minutesOfFraud_34 x1 x2 x3) 5000 s0) (fun t => (zs_C σ0 t.1 ∧ True)) := by
  refine zs_it (I := fun s => (zs_C σ0 s.1 ∧ (True ∧ zs_in (s.2.2).toInt 0 30))) (m := fun s => 30 - s.2.2.toInt) (fun s hs => ?_) (fun s hs => ?_) (by exact h0)
  · have h1 := hs.2.2; unfold zs_in at h1
    omega
  · obtain ⟨b, eb, hb⟩ := zc_540 hs.1 h_x1 h_x2 hs.2.2 (c := s.2.2.toInt) (Int.add_zero _).symm
    exact ⟨b, eb, zs_sumw hb (fun v w => ⟨⟨w.1.1, ⟨w.1.2.1, (zs_w w.1.2.2 (by decide))⟩⟩, by have := w.2; omega⟩) (fun v w => w)⟩
-- BX8_minutesOfFraud_170
theorem zc_541 {σ0 : sn_S} {σ : sn_S} (h_σ : zs_C σ0 σ) {x4 : Int32} : zs_ok (BX8_minutesOfFraud_170 σ x4) (fun r => (True ∧ zs_C σ0 r.2)) := by
  unfold BX8_minutesOfFraud_170
  exact zs_some ⟨trivial, h_σ⟩
-- fX8_minutesOfFraud
theorem zc_542 {σ0 : sn_S} {σ : sn_S} (h_σ : zs_C σ0 σ) {x1 : Int32} (h_x1 : zs_in x1.toInt 0 5) [zs_Ws σ0 x1] : zs_ok (fX8_minutesOfFraud σ x1) (fun r => (True ∧ zs_C σ0 r.2)) := by
  unfold fX8_minutesOfFraud
  refine zs_bd_ (zo_whose h_σ h_x1) (fun t_1 pt_1 => ?_)
  refine zs_bd_ (zc_464 h_σ pt_1 h_x1) (fun t_3 pt_3 => ?_)
  refine zs_bd_ (zo_dcopy h_σ) (fun t_5 pt_5 => ?_)
  refine zs_bd_ (zd_97 h_x1 pt_1 (s0 := (t_5, ((0 : Int32), (0 : Int32)))) ⟨pt_5, ⟨trivial, (zs_w zlI_0 (by decide))⟩⟩) (fun t_7 pt_7 => ?_)
  obtain ⟨ret, er, hr⟩ := zc_541 pt_7.1
  refine ⟨ret, er, ?_⟩
  exact hr
-- fX8_snuff
theorem zc_543 {σ0 : sn_S} {σ : sn_S} (h_σ : zs_C σ0 σ) {x1 : Int32} : zs_ok (fX8_snuff σ x1) (fun r => ((zs_in (r.1).toInt (-2) 63 ∧ zs_C σ0 r.2)) ∧ ((r.1).toInt = (-2) ∨ (zs_in (x1).toInt 0 5))) := by
  unfold fX8_snuff
  refine zs_bd_ (zo_isPolicy h_σ) (fun t_1 pt_1 => ?_)
  refine zs_ite (fun c1 => ?_) (fun c1 => ?_)
  · skip
    have r2 := (zs_I_eq c1)
    have g3 : zs_in (t_1).toInt 0 0 := (zs_eql 0 0 r2 pt_1.1 zlI_0 (by decide))
    exact zs_some ⟨⟨(zs_w zlI_m2 (by decide)), h_σ⟩, Or.inl (zs_ptr zlI_m2)⟩
  · skip
    have r4 := (zs_I_eqn c1)
    have g5 : zs_in (t_1).toInt 1 1 := (zs_nel 1 1 r4 pt_1.1 zlI_0 (by decide))
    have q6 := (zs_or2 pt_1.2.1 g5 (by decide))
    have g7 : zs_in (x1).toInt 0 5 := q6
    haveI := zs_or2 pt_1.2.2 g5 (by decide)
    refine zs_bd_ (zc_542 h_σ g7) (fun t_4 pt_4 => ?_)
    refine zs_bd_ (zo_lowt) (fun t_6 pt_6 => ?_)
    exact zs_some ⟨⟨(zs_w pt_6 (by decide)), pt_4.2⟩, Or.inr g7⟩
-- BX9_fraudsOf_72
theorem zc_544 {σ0 : sn_S} {σ : sn_S} (h_σ : zs_M σ0 σ) {x1 : Int32} (h_x1 : zs_in x1.toInt 0 5) {x2 : Int32} (h_x2 : zs_in x2.toInt 0 5) {x3 : Int32} {x4 : Int32} {x5 : Int32} {x6 : Int32} (h_x6 : zs_in x6.toInt 0 29) {t0 : Int32} {t1 : Int32} (h_t1 : zs_in t1.toInt 0 0) {c : Int} (hc : x6.toInt = c + 0) : zs_ok (BX9_fraudsOf_72 σ x1 x2 x3 x4 x5 x6 t0 t1) (fun r => zs_sum (fun v => ((zs_M σ0 v.1 ∧ (True ∧ zs_in (v.2.2).toInt 1 30))) ∧ v.2.2.toInt = c + 1) (fun v => False) r) := by
  unfold BX9_fraudsOf_72
  obtain rfl : t1 = (0 : Int32) := zs_eqv h_t1 (by decide)
  refine zs_lt (Q := fun z => True) trivial (fun y_1 hy_1 => ?_)
  refine zs_lt (Q := fun z => zs_in z.toInt 1 30 ∧ z.toInt = c + 1) ⟨(zs_addI 1 30 h_x6 zlI_1 (by decide)), (zs_syI 1 hc h_x6 zlI_1 (by decide) (by decide))⟩ (fun y_3 hy_3 => ?_)
  exact zs_some (zs_inl ⟨⟨h_σ, ⟨trivial, hy_3.1⟩⟩, hy_3.2⟩)
-- BX9_fraudsOf_72
theorem zc_545 {σ0 : sn_S} {σ : sn_S} (h_σ : zs_M σ0 σ) {x1 : Int32} (h_x1 : zs_in x1.toInt 0 5) {x2 : Int32} (h_x2 : zs_in x2.toInt 0 5) {x3 : Int32} (h_x3 : zs_in x3.toInt (-2147483648) 2147483646) {x4 : Int32} {x5 : Int32} {x6 : Int32} (h_x6 : zs_in x6.toInt 0 29) {t0 : Int32} {t1 : Int32} (h_t1 : zs_in t1.toInt 1 536870912) {c : Int} (hc : x6.toInt = c + 0) : zs_ok (BX9_fraudsOf_72 σ x1 x2 x3 x4 x5 x6 t0 t1) (fun r => zs_sum (fun v => ((zs_M σ0 v.1 ∧ (True ∧ zs_in (v.2.2).toInt 1 30))) ∧ v.2.2.toInt = c + 1) (fun v => False) r) := by
  unfold BX9_fraudsOf_72
  refine zs_lt (Q := fun z => True) trivial (fun y_1 hy_1 => ?_)
  refine zs_lt (Q := fun z => zs_in z.toInt 1 30 ∧ z.toInt = c + 1) ⟨(zs_addI 1 30 h_x6 zlI_1 (by decide)), (zs_syI 1 hc h_x6 zlI_1 (by decide) (by decide))⟩ (fun y_3 hy_3 => ?_)
  exact zs_some (zs_inl ⟨⟨h_σ, ⟨trivial, hy_3.1⟩⟩, hy_3.2⟩)
-- BX9_fraudsOf_27
theorem zc_546 {σ0 : sn_S} {σ : sn_S} (h_σ : zs_M σ0 σ) {x1 : Int32} (h_x1 : zs_in x1.toInt 0 5) {x2 : Int32} (h_x2 : zs_in x2.toInt 0 5) {x3 : Int32} {x4 : Int32} {x5 : Int32} {x6 : Int32} (h_x6 : zs_in x6.toInt 0 30) {c : Int} (hc : x6.toInt = c + 0) : zs_ok (BX9_fraudsOf_27 σ x1 x2 x3 x4 x5 x6) (fun r => zs_sum (fun v => ((zs_M σ0 v.1 ∧ (True ∧ zs_in (v.2.2).toInt 1 30))) ∧ v.2.2.toInt = c + 1) (fun v => (zs_M σ0 v.1 ∧ True)) r) := by
  unfold BX9_fraudsOf_27
  refine zs_bd_ (zc_21 h_σ) (fun t_1 pt_1 => ?_)
  refine zs_ite (fun c1 => ?_) (fun c1 => ?_)
  · skip
    have r2 := (zs_I_le c1)
    exact zs_some (zs_inr (⟨h_σ, trivial⟩))
  · skip
    have r3 := (zs_I_len c1)
    have g4 : zs_in (x6).toInt 0 29 := (zs_ltl 0 29 r3 h_x6 pt_1 (by decide))
    have g5 : zs_in (t_1).toInt 1 30 := (zs_ltr 1 30 r3 h_x6 pt_1 (by decide))
    refine zs_gd (zs_gin h_x2 (by decide)) ?_
    refine zs_lt (Q := fun z => zs_M σ0 z) (zs_wrt h_σ (fun _ => rfl) (fun _ => rfl)) (fun σ_5 hσ_5 => ?_)
    refine zs_bd_ (zc_90 hσ_5) (fun t_7 pt_7 => ?_)
    refine zs_bd_ (zc_262 pt_7 h_x1) (fun t_9 pt_9 => ?_)
    refine zs_ite (fun c6 => ?_) (fun c6 => ?_)
    · skip
      have r7 := (zs_I_le c6)
      obtain ⟨ret, er, hr⟩ := zc_544 pt_9.2 h_x1 h_x2 g4 zlI_0 hc
      refine ⟨ret, er, ?_⟩
      exact (zs_sumw hr (fun v w => ⟨w.1, w.2⟩) (fun v w => w.elim))
    · skip
      have r8 := (zs_I_len c6)
      have g9 : zs_in (x3).toInt (-2147483648) 2147483646 := (zs_ltl (-2147483648) 2147483646 r8 (zs_topI _) (zs_topI _) (by decide))
      have g10 : zs_in (t_9.1).toInt (-2147483647) 2147483647 := (zs_ltr (-2147483647) 2147483647 r8 (zs_topI _) (zs_topI _) (by decide))
      obtain ⟨ret, er, hr⟩ := zc_545 pt_9.2 h_x1 h_x2 g9 g4 (zs_cases g4 (fun z => zs_in ((1 : Int32) <<< (z &&& 31)).toInt 1 536870912) (by decide +kernel)) hc
      refine ⟨ret, er, ?_⟩
      exact (zs_sumw hr (fun v w => ⟨w.1, w.2⟩) (fun v w => w.elim))
theorem zd_98 {σ0 : sn_S} {x1 : Int32} (h_x1 : zs_in x1.toInt 0 5) {x2 : Int32} (h_x2 : zs_in x2.toInt 0 5) {x3 : Int32} {x4 : Int32} {s0 : (sn_S × (Int32 × Int32))} (h0 : (zs_M σ0 s0.1 ∧ (True ∧ zs_in (s0.2.2).toInt 0 30))) : zs_ok (sn_it (LX9_fraudsOf_27 x1 x2 x3 x4) 5000 s0) (fun t => (zs_M σ0 t.1 ∧ True)) := by
  refine zs_it (I := fun s => (zs_M σ0 s.1 ∧ (True ∧ zs_in (s.2.2).toInt 0 30))) (m := fun s => 30 - s.2.2.toInt) (fun s hs => ?_) (fun s hs => ?_) (by exact h0)
  · have h1 := hs.2.2; unfold zs_in at h1
    omega
  · obtain ⟨b, eb, hb⟩ := zc_546 hs.1 h_x1 h_x2 hs.2.2 (c := s.2.2.toInt) (Int.add_zero _).symm
    exact ⟨b, eb, zs_sumw hb (fun v w => ⟨⟨w.1.1, ⟨w.1.2.1, (zs_w w.1.2.2 (by decide))⟩⟩, by have := w.2; omega⟩) (fun v w => w)⟩
-- BX9_fraudsOf_81
theorem zc_547 {σ0 : sn_S} {σ : sn_S} (h_σ : zs_M σ0 σ) {x5 : Int32} : zs_ok (BX9_fraudsOf_81 σ x5) (fun r => (True ∧ zs_M σ0 r.2)) := by
  unfold BX9_fraudsOf_81
  exact zs_some ⟨trivial, h_σ⟩
-- fX9_fraudsOf
theorem zc_548 {σ0 : sn_S} {σ : sn_S} (h_σ : zs_M σ0 σ) {x1 : Int32} (h_x1 : zs_in x1.toInt 0 5) : zs_ok (fX9_fraudsOf σ x1) (fun r => (True ∧ zs_M σ0 r.2)) := by
  unfold fX9_fraudsOf
  refine zs_bd_ (zc_200 h_σ h_x1 zlI_0) (fun t_1 pt_1 => ?_)
  refine zs_bd_ (zc_262 h_σ h_x1) (fun t_3 pt_3 => ?_)
  refine zs_gd (zs_gin pt_1 (by decide)) ?_
  refine zs_lt (Q := fun z => True) trivial (fun y_6 hy_6 => ?_)
  refine zs_bd_ (zd_98 h_x1 pt_1 (s0 := (t_3.2, ((0 : Int32), (0 : Int32)))) ⟨pt_3.2, ⟨trivial, (zs_w zlI_0 (by decide))⟩⟩) (fun t_8 pt_8 => ?_)
  obtain ⟨ret, er, hr⟩ := zc_547 pt_8.1
  refine ⟨ret, er, ?_⟩
  exact hr
-- fX9_snuff
theorem zc_549 {σ0 : sn_S} {σ : sn_S} (h_σ : zs_M σ0 σ) {x1 : Int32} : zs_ok (fX9_snuff σ x1) (fun r => ((zs_in (r.1).toInt (-2) 29 ∧ zs_M σ0 r.2)) ∧ ((r.1).toInt = (-2) ∨ (zs_in (x1).toInt 0 5))) := by
  unfold fX9_snuff
  refine zs_bd_ (zc_239 h_σ) (fun t_1 pt_1 => ?_)
  refine zs_ite (fun c1 => ?_) (fun c1 => ?_)
  · skip
    have r2 := (zs_I_eq c1)
    have g3 : zs_in (t_1.1).toInt 0 0 := (zs_eql 0 0 r2 pt_1.1.1 zlI_0 (by decide))
    exact zs_some ⟨⟨(zs_w zlI_m2 (by decide)), pt_1.1.2⟩, Or.inl (zs_ptr zlI_m2)⟩
  · skip
    have r4 := (zs_I_eqn c1)
    have g5 : zs_in (t_1.1).toInt 1 1 := (zs_nel 1 1 r4 pt_1.1.1 zlI_0 (by decide))
    have q6 := (zs_or2 pt_1.2 g5 (by decide))
    have g7 : zs_in (x1).toInt 0 5 := q6
    refine zs_bd_ (zc_548 pt_1.1.2 g7) (fun t_4 pt_4 => ?_)
    refine zs_bd_ (zo_fot) (fun t_6 pt_6 => ?_)
    exact zs_some ⟨⟨(zs_w pt_6 (by decide)), pt_4.2⟩, Or.inr g7⟩
-- fX8_frauds
theorem zc_550 {σ0 : sn_S} {σ : sn_S} (h_σ : zs_C σ0 σ) {x1 : Int32} : zs_ok (fX8_frauds σ x1) (fun r => ((True ∧ zs_C σ0 r.2)) ∧ ((r.1).toInt = (-2) ∨ (zs_in (x1).toInt 0 5))) := by
  unfold fX8_frauds
  refine zs_bd_ (zo_isPolicy h_σ) (fun t_1 pt_1 => ?_)
  refine zs_ite (fun c1 => ?_) (fun c1 => ?_)
  · skip
    have r2 := (zs_I_eq c1)
    have g3 : zs_in (t_1).toInt 0 0 := (zs_eql 0 0 r2 pt_1.1 zlI_0 (by decide))
    exact zs_some ⟨⟨trivial, h_σ⟩, Or.inl (zs_ptr zlI_m2)⟩
  · skip
    have r4 := (zs_I_eqn c1)
    have g5 : zs_in (t_1).toInt 1 1 := (zs_nel 1 1 r4 pt_1.1 zlI_0 (by decide))
    have q6 := (zs_or2 pt_1.2.1 g5 (by decide))
    have g7 : zs_in (x1).toInt 0 5 := q6
    haveI := zs_or2 pt_1.2.2 g5 (by decide)
    refine zs_bd_ (zc_542 h_σ g7) (fun t_4 pt_4 => ?_)
    exact zs_some ⟨⟨trivial, pt_4.2⟩, Or.inr g7⟩
-- fX9_frauds
theorem zc_551 {σ0 : sn_S} {σ : sn_S} (h_σ : zs_M σ0 σ) {x1 : Int32} : zs_ok (fX9_frauds σ x1) (fun r => ((True ∧ zs_M σ0 r.2)) ∧ ((r.1).toInt = (-2) ∨ (zs_in (x1).toInt 0 5))) := by
  unfold fX9_frauds
  refine zs_bd_ (zc_239 h_σ) (fun t_1 pt_1 => ?_)
  refine zs_ite (fun c1 => ?_) (fun c1 => ?_)
  · skip
    have r2 := (zs_I_eq c1)
    have g3 : zs_in (t_1.1).toInt 0 0 := (zs_eql 0 0 r2 pt_1.1.1 zlI_0 (by decide))
    exact zs_some ⟨⟨trivial, pt_1.1.2⟩, Or.inl (zs_ptr zlI_m2)⟩
  · skip
    have r4 := (zs_I_eqn c1)
    have g5 : zs_in (t_1.1).toInt 1 1 := (zs_nel 1 1 r4 pt_1.1.1 zlI_0 (by decide))
    have q6 := (zs_or2 pt_1.2 g5 (by decide))
    have g7 : zs_in (x1).toInt 0 5 := q6
    refine zs_bd_ (zc_548 pt_1.1.2 g7) (fun t_4 pt_4 => ?_)
    exact zs_some ⟨⟨trivial, pt_4.2⟩, Or.inr g7⟩
-- fX6_isSlot
theorem zc_552 {x0 : Int32} : zs_ok (fX6_isSlot x0) (fun r => (zs_in (r).toInt 0 1) ∧ ((r).toInt = 0 ∨ (zs_in (x0).toInt 0 3))) := by
  unfold fX6_isSlot
  refine zs_ite (fun c1 => ?_) (fun c1 => ?_)
  · skip
    have r2 := (zs_I_lt c1)
    have g3 : zs_in (x0).toInt (-2147483648) (-1) := (zs_ltl (-2147483648) (-1) r2 (zs_topI _) zlI_0 (by decide))
    refine zs_gd (zs_b01 zlI_0 (by decide)) ?_
    exact zs_some ⟨(zs_w zlI_0 (by decide)), Or.inl (zs_ptr zlI_0)⟩
  · skip
    have r4 := (zs_I_ltn c1)
    have g5 : zs_in (x0).toInt 0 2147483647 := (zs_ler 0 2147483647 r4 zlI_0 (zs_topI _) (by decide))
    refine zs_ite (fun c6 => ?_) (fun c6 => ?_)
    · skip
      have r7 := (zs_I_le c6)
      have g8 : zs_in (x0).toInt 4 2147483647 := (zs_ler 4 2147483647 r7 zlI_4 g5 (by decide))
      refine zs_gd (zs_b01 zlI_0 (by decide)) ?_
      exact zs_some ⟨(zs_w zlI_0 (by decide)), Or.inl (zs_ptr zlI_0)⟩
    · skip
      have r9 := (zs_I_len c6)
      have g10 : zs_in (x0).toInt 0 3 := (zs_ltl 0 3 r9 g5 zlI_4 (by decide))
      refine zs_gd (zs_b01 zlI_1 (by decide)) ?_
      exact zs_some ⟨(zs_w zlI_1 (by decide)), Or.inr g10⟩
-- fX6_has
theorem zc_553 {σ0 : sn_S} {σ : sn_S} (h_σ : zs_C σ0 σ) {x1 : Int32} (h_x1 : zs_in x1.toInt 0 3) : zs_ok (fX6_has σ x1) (fun r => zs_in (r).toInt 0 1) := by
  unfold fX6_has
  refine zs_gd (zs_gin h_x1 (by decide)) ?_
  refine zs_ite (fun c1 => ?_) (fun c1 => ?_)
  · skip
    have r2 := (zs_I_eq c1)
    have g3 : zs_in ((sn_I σ 26 x1.toNatClampNeg)).toInt (-1) (-1) := (zs_eql (-1) (-1) r2 (zs_rdu (q := 26) (z := ((-1), 60)) h_σ.1 (fun _ => rfl)) zlI_m1 (by decide))
    refine zs_gd (zs_b01 zlI_0 (by decide)) ?_
    exact zs_some (zs_w zlI_0 (by decide))
  · skip
    have r4 := (zs_I_eqn c1)
    have g5 : zs_in ((sn_I σ 26 x1.toNatClampNeg)).toInt 0 60 := (zs_nel 0 60 r4 (zs_rdu (q := 26) (z := ((-1), 60)) h_σ.1 (fun _ => rfl)) zlI_m1 (by decide))
    refine zs_gd (zs_b01 zlI_1 (by decide)) ?_
    exact zs_some (zs_w zlI_1 (by decide))
-- BJ7_fill_53178_5
theorem zc_554 {σ0 : sn_S} {σ : sn_S} (h_σ : zs_C σ0 σ) {x1 : Int32} (h_x1 : zs_in x1.toInt 0 0) {x2 : Int32} (h_x2 : zs_in x2.toInt 0 6) {x3 : Int32} (h_x3 : zs_in x3.toInt 6 6) {c : Int} (hc : x2.toInt = c + 0) : zs_ok (BJ7_fill_53178_5 σ 55 6 x1 x2 x3) (fun r => zs_sum (fun v => ((zs_C σ0 v.1 ∧ zs_in (v.2).toInt 1 6)) ∧ v.2.toInt = c + 1) (fun v => zs_C σ0 v) r) := by
  unfold BJ7_fill_53178_5
  obtain rfl : x1 = (0 : Int32) := zs_eqv h_x1 (by decide)
  obtain rfl : x3 = (6 : Int32) := zs_eqv h_x3 (by decide)
  refine zs_ite (fun c1 => ?_) (fun c1 => ?_)
  · skip
    have r2 := (zs_I_le c1)
    have g3 : zs_in (x2).toInt 6 6 := (zs_ler 6 6 r2 h_x3 h_x2 (by decide))
    exact zs_some (zs_inr (h_σ))
  · skip
    have r4 := (zs_I_len c1)
    have g5 : zs_in (x2).toInt 0 5 := (zs_ltl 0 5 r4 h_x2 h_x3 (by decide))
    refine zs_gd (zs_gin g5 (by decide)) ?_
    refine zs_lt (Q := fun z => zs_C σ0 z) (zs_wrt h_σ (fun _ => rfl) (fun _ => rfl)) (fun σ_3 hσ_3 => ?_)
    refine zs_lt (Q := fun z => zs_in z.toInt 1 6 ∧ z.toInt = c + 1) ⟨(zs_addI 1 6 g5 zlI_1 (by decide)), (zs_syI 1 hc g5 zlI_1 (by decide) (by decide))⟩ (fun y_5 hy_5 => ?_)
    exact zs_some (zs_inl ⟨⟨hσ_3, hy_5.1⟩, hy_5.2⟩)
theorem zd_99 {σ0 : sn_S} {x1 : Int32} (h_x1 : zs_in x1.toInt 0 0) {x3 : Int32} (h_x3 : zs_in x3.toInt 6 6) {s0 : (sn_S × Int32)} (h0 : (zs_C σ0 s0.1 ∧ zs_in (s0.2).toInt 0 6)) : zs_ok (sn_it (LJ7_fill_53178_5 55 6 x1 x3) 5000 s0) (fun t => zs_C σ0 t) := by
  refine zs_it (I := fun s => (zs_C σ0 s.1 ∧ zs_in (s.2).toInt 0 6)) (m := fun s => 6 - s.2.toInt) (fun s hs => ?_) (fun s hs => ?_) (by exact h0)
  · have h1 := hs.2; unfold zs_in at h1
    omega
  · obtain ⟨b, eb, hb⟩ := zc_554 hs.1 h_x1 hs.2 h_x3 (c := s.2.toInt) (Int.add_zero _).symm
    exact ⟨b, eb, zs_sumw hb (fun v w => ⟨⟨w.1.1, (zs_w w.1.2 (by decide))⟩, by have := w.2; omega⟩) (fun v w => w)⟩
-- BJ7_fill_53178_20
theorem zc_555 {σ0 : sn_S} {σ : sn_S} (h_σ : zs_C σ0 σ) : zs_ok (BJ7_fill_53178_20 σ 55 6) (fun r => zs_C σ0 r) := by
  unfold BJ7_fill_53178_20
  exact zs_some h_σ
-- fJ7_fill_53178
theorem zc_556 {σ0 : sn_S} {σ : sn_S} (h_σ : zs_C σ0 σ) {x1 : Int32} (h_x1 : zs_in x1.toInt 0 0) : zs_ok (fJ7_fill_53178 σ 55 6 x1) (fun r => zs_C σ0 r) := by
  unfold fJ7_fill_53178
  obtain rfl : x1 = (0 : Int32) := zs_eqv h_x1 (by decide)
  refine zs_lt (Q := fun z => zs_in z.toInt 6 6) zlI_6 (fun y_1 hy_1 => ?_)
  refine zs_bd_ (zd_99 h_x1 hy_1 (s0 := (σ, (0 : Int32))) ⟨h_σ, (zs_w zlI_0 (by decide))⟩) (fun t_3 pt_3 => ?_)
  obtain ⟨ret, er, hr⟩ := zc_555 pt_3
  refine ⟨ret, er, ?_⟩
  exact hr
-- BJ7_fill_53178_5
theorem zc_557 {σ0 : sn_S} {σ : sn_S} (h_σ : zs_C σ0 σ) {x1 : Int32} (h_x1 : zs_in x1.toInt 0 0) {x2 : Int32} (h_x2 : zs_in x2.toInt 0 186) {x3 : Int32} (h_x3 : zs_in x3.toInt 186 186) {c : Int} (hc : x2.toInt = c + 0) : zs_ok (BJ7_fill_53178_5 σ 56 186 x1 x2 x3) (fun r => zs_sum (fun v => ((zs_C σ0 v.1 ∧ zs_in (v.2).toInt 1 186)) ∧ v.2.toInt = c + 1) (fun v => zs_C σ0 v) r) := by
  unfold BJ7_fill_53178_5
  obtain rfl : x1 = (0 : Int32) := zs_eqv h_x1 (by decide)
  obtain rfl : x3 = (186 : Int32) := zs_eqv h_x3 (by decide)
  refine zs_ite (fun c1 => ?_) (fun c1 => ?_)
  · skip
    have r2 := (zs_I_le c1)
    have g3 : zs_in (x2).toInt 186 186 := (zs_ler 186 186 r2 h_x3 h_x2 (by decide))
    exact zs_some (zs_inr (h_σ))
  · skip
    have r4 := (zs_I_len c1)
    have g5 : zs_in (x2).toInt 0 185 := (zs_ltl 0 185 r4 h_x2 h_x3 (by decide))
    refine zs_gd (zs_gin g5 (by decide)) ?_
    refine zs_lt (Q := fun z => zs_C σ0 z) (zs_wrt h_σ (fun _ => rfl) (fun _ => rfl)) (fun σ_3 hσ_3 => ?_)
    refine zs_lt (Q := fun z => zs_in z.toInt 1 186 ∧ z.toInt = c + 1) ⟨(zs_addI 1 186 g5 zlI_1 (by decide)), (zs_syI 1 hc g5 zlI_1 (by decide) (by decide))⟩ (fun y_5 hy_5 => ?_)
    exact zs_some (zs_inl ⟨⟨hσ_3, hy_5.1⟩, hy_5.2⟩)
theorem zd_100 {σ0 : sn_S} {x1 : Int32} (h_x1 : zs_in x1.toInt 0 0) {x3 : Int32} (h_x3 : zs_in x3.toInt 186 186) {s0 : (sn_S × Int32)} (h0 : (zs_C σ0 s0.1 ∧ zs_in (s0.2).toInt 0 186)) : zs_ok (sn_it (LJ7_fill_53178_5 56 186 x1 x3) 5000 s0) (fun t => zs_C σ0 t) := by
  refine zs_it (I := fun s => (zs_C σ0 s.1 ∧ zs_in (s.2).toInt 0 186)) (m := fun s => 186 - s.2.toInt) (fun s hs => ?_) (fun s hs => ?_) (by exact h0)
  · have h1 := hs.2; unfold zs_in at h1
    omega
  · obtain ⟨b, eb, hb⟩ := zc_557 hs.1 h_x1 hs.2 h_x3 (c := s.2.toInt) (Int.add_zero _).symm
    exact ⟨b, eb, zs_sumw hb (fun v w => ⟨⟨w.1.1, (zs_w w.1.2 (by decide))⟩, by have := w.2; omega⟩) (fun v w => w)⟩
-- BJ7_fill_53178_20
theorem zc_558 {σ0 : sn_S} {σ : sn_S} (h_σ : zs_C σ0 σ) : zs_ok (BJ7_fill_53178_20 σ 56 186) (fun r => zs_C σ0 r) := by
  unfold BJ7_fill_53178_20
  exact zs_some h_σ
-- fJ7_fill_53178
theorem zc_559 {σ0 : sn_S} {σ : sn_S} (h_σ : zs_C σ0 σ) {x1 : Int32} (h_x1 : zs_in x1.toInt 0 0) : zs_ok (fJ7_fill_53178 σ 56 186 x1) (fun r => zs_C σ0 r) := by
  unfold fJ7_fill_53178
  obtain rfl : x1 = (0 : Int32) := zs_eqv h_x1 (by decide)
  refine zs_lt (Q := fun z => zs_in z.toInt 186 186) zlI_186 (fun y_1 hy_1 => ?_)
  refine zs_bd_ (zd_100 h_x1 hy_1 (s0 := (σ, (0 : Int32))) ⟨h_σ, (zs_w zlI_0 (by decide))⟩) (fun t_3 pt_3 => ?_)
  obtain ⟨ret, er, hr⟩ := zc_558 pt_3
  refine ⟨ret, er, ?_⟩
  exact hr
-- fX7_forget
theorem zc_560 {σ0 : sn_S} {σ : sn_S} (h_σ : zs_C σ0 σ) : zs_ok (fX7_forget σ) (fun r => zs_C σ0 r) := by
  unfold fX7_forget
  refine zs_bd_ (zc_556 h_σ zlI_0) (fun t_1 pt_1 => ?_)
  refine zs_bd_ (zc_559 pt_1 zlI_0) (fun t_3 pt_3 => ?_)
  refine zs_lt (Q := fun z => zs_C σ0 z) (zs_wrt pt_3 (fun _ => rfl) (fun _ => rfl)) (fun σ_5 hσ_5 => ?_)
  refine zs_lt (Q := fun z => zs_C σ0 z) (zs_wrt hσ_5 (fun _ => rfl) (fun _ => rfl)) (fun σ_7 hσ_7 => ?_)
  refine zs_lt (Q := fun z => zs_C σ0 z) (zs_wrt hσ_7 (fun _ => rfl) (fun _ => rfl)) (fun σ_9 hσ_9 => ?_)
  exact zs_some hσ_9
-- BX8_seek_57
theorem zc_561 {σ0 : sn_S} {σ : sn_S} (h_σ : zs_C σ0 σ) {x1 : Int32} (h_x1 : zs_in x1.toInt 0 3) {x2 : Int32} (h_x2 : zs_in x2.toInt 0 60) {c : Int} (hc : x2.toInt = c + 0) : zs_ok (BX8_seek_57 σ x1 x2) (fun r => zs_sum (fun v => ((zs_C σ0 v.1 ∧ zs_in (v.2).toInt 2 60)) ∧ v.2.toInt = c + 2) (fun v => zs_sum (fun v => zs_C σ0 v) (fun v => (zs_in (v.1).toInt (-2) (-2) ∧ zs_C σ0 v.2)) v) r) := by
  unfold BX8_seek_57
  refine zs_gd (zs_gin h_x1 (by decide)) ?_
  refine zs_ite (fun c1 => ?_) (fun c1 => ?_)
  · skip
    have r2 := (zs_I_le c1)
    exact zs_some (zs_inr ((zs_inl (h_σ))))
  · skip
    have r3 := (zs_I_len c1)
    have g4 : zs_in ((x2 + (1 : Int32))).toInt 1 59 := (zs_ltl 1 59 r3 (zs_addI 1 61 h_x2 zlI_1 (by decide)) (zs_rdu (q := 26) (z := ((-1), 60)) h_σ.1 (fun _ => rfl)) (by decide))
    have g5 : zs_in (x2).toInt 0 58 := (zs_addlI 0 58 h_x2 zlI_1 g4 (by decide))
    have g6 : zs_in ((sn_I σ 26 x1.toNatClampNeg)).toInt 2 60 := (zs_ltr 2 60 r3 (zs_addI 1 61 h_x2 zlI_1 (by decide)) (zs_rdu (q := 26) (z := ((-1), 60)) h_σ.1 (fun _ => rfl)) (by decide))
    refine zs_gd (zs_gin h_x1 (by decide)) ?_
    refine zs_gd (zs_gin g5 (by decide)) ?_
    refine zs_lt (Q := fun z => True) trivial (fun y_5 hy_5 => ?_)
    refine zs_gd (zs_gin h_x1 (by decide)) ?_
    refine zs_gd (zs_gin g4 (by decide)) ?_
    refine zs_lt (Q := fun z => True) trivial (fun y_9 hy_9 => ?_)
    refine zs_ite (fun c7 => ?_) (fun c7 => ?_)
    · skip
      have r8 := (zs_lg_lt c7)
      have g9 : zs_in (y_5).toInt (-9223372036854775808) (-1) := (zs_ltl (-9223372036854775808) (-1) r8 (zs_topL _) zlL_0 (by decide))
      exact zs_some (zs_inr ((zs_inr (⟨zlI_m2, h_σ⟩))))
    · skip
      have r10 := (zs_lg_ltn c7)
      have g11 : zs_in (y_5).toInt 0 9223372036854775807 := (zs_ler 0 9223372036854775807 r10 zlL_0 (zs_topL _) (by decide))
      refine zs_ite (fun c12 => ?_) (fun c12 => ?_)
      · skip
        have r13 := (zs_lg_lef c12)
        exact zs_some (zs_inr ((zs_inr (⟨zlI_m2, h_σ⟩))))
      · skip
        have r14 := (zs_lg_lefn c12)
        have g15 : zs_in (y_5).toInt 0 5 := (zs_ltl 0 5 r14 g11 (zs_64 (zs_rdk (q := 27) (k := 1) (z := (0, 6)) h_σ.1 rfl)) (by decide))
        have g16 : zs_in ((sn_I σ 27 1).toInt64).toInt 1 6 := (zs_ltr 1 6 r14 g11 (zs_64 (zs_rdk (q := 27) (k := 1) (z := (0, 6)) h_σ.1 rfl)) (by decide))
        have g17 : zs_in ((sn_I σ 27 1)).toInt 1 6 := (zs_64r g16)
        refine zs_ite (fun c18 => ?_) (fun c18 => ?_)
        · skip
          have r19 := (zs_lg_lt c18)
          have g20 : zs_in (y_9).toInt (-9223372036854775808) (-1) := (zs_ltl (-9223372036854775808) (-1) r19 (zs_topL _) zlL_0 (by decide))
          exact zs_some (zs_inr ((zs_inr (⟨zlI_m2, h_σ⟩))))
        · skip
          have r21 := (zs_lg_ltn c18)
          have g22 : zs_in (y_9).toInt 0 9223372036854775807 := (zs_ler 0 9223372036854775807 r21 zlL_0 (zs_topL _) (by decide))
          refine zs_ite (fun c23 => ?_) (fun c23 => ?_)
          · skip
            have r24 := (zs_lg_lt c23)
            have g25 : zs_in (y_9).toInt 0 29 := (zs_ltl 0 29 r24 g22 (zs_64 (zs_rdk (q := 27) (k := 0) (z := (0, 30)) h_σ.1 rfl)) (by decide))
            have g26 : zs_in ((sn_I σ 27 0).toInt64).toInt 1 30 := (zs_ltr 1 30 r24 g22 (zs_64 (zs_rdk (q := 27) (k := 0) (z := (0, 30)) h_σ.1 rfl)) (by decide))
            have g27 : zs_in ((sn_I σ 27 0)).toInt 1 30 := (zs_64r g26)
            refine zs_gd (zs_gin (zs_32 g15 (by decide)) (by decide)) ?_
            refine zs_gd (zs_gin (zs_32 g15 (by decide)) (by decide)) ?_
            refine zs_lt (Q := fun z => zs_C σ0 z) (zs_wrt h_σ (fun _ => rfl) (fun _ => rfl)) (fun σ_17 hσ_17 => ?_)
            refine zs_lt (Q := fun z => zs_in z.toInt 2 60 ∧ z.toInt = c + 2) ⟨(zs_addI 2 60 g5 zlI_2 (by decide)), (zs_syI 2 hc g5 zlI_2 (by decide) (by decide))⟩ (fun y_19 hy_19 => ?_)
            exact zs_some (zs_inl ⟨⟨hσ_17, hy_19.1⟩, hy_19.2⟩)
          · skip
            have r28 := (zs_lg_ltn c23)
            exact zs_some (zs_inr ((zs_inr (⟨zlI_m2, h_σ⟩))))
theorem zd_101 {σ0 : sn_S} {x1 : Int32} (h_x1 : zs_in x1.toInt 0 3) {s0 : (sn_S × Int32)} (h0 : (zs_C σ0 s0.1 ∧ zs_in (s0.2).toInt 0 60)) : zs_ok (sn_it (LX8_seek_57 x1) 5000 s0) (fun t => zs_sum (fun v => zs_C σ0 v) (fun v => (zs_in (v.1).toInt (-2) (-2) ∧ zs_C σ0 v.2)) t) := by
  refine zs_it (I := fun s => (zs_C σ0 s.1 ∧ zs_in (s.2).toInt 0 60)) (m := fun s => 60 - s.2.toInt) (fun s hs => ?_) (fun s hs => ?_) (by exact h0)
  · have h1 := hs.2; unfold zs_in at h1
    omega
  · obtain ⟨b, eb, hb⟩ := zc_561 hs.1 h_x1 hs.2 (c := s.2.toInt) (Int.add_zero _).symm
    exact ⟨b, eb, zs_sumw hb (fun v w => ⟨⟨w.1.1, (zs_w w.1.2 (by decide))⟩, by have := w.2; omega⟩) (fun v w => w)⟩
-- BX7_meets_2
theorem zc_562 {σ0 : sn_S} {σ : sn_S} (h_σ : zs_C σ0 σ) {x2 : Int32} (h_x2 : zs_in x2.toInt 0 536870911) {x3 : Int32} (h_x3 : zs_in x3.toInt 0 6) {c : Int} (hc : x3.toInt = c + 0) : zs_ok (BX7_meets_2 σ 38 x2 x3) (fun r => zs_sum (fun v => (zs_in (v).toInt 1 6) ∧ v.toInt = c + 1) (fun v => zs_sum (fun v => True) (fun v => zs_in (v).toInt 0 0) v) r) := by
  unfold BX7_meets_2
  refine zs_ite (fun c1 => ?_) (fun c1 => ?_)
  · skip
    have r2 := (zs_I_le c1)
    exact zs_some (zs_inr ((zs_inl (trivial))))
  · skip
    have r3 := (zs_I_len c1)
    have g4 : zs_in (x3).toInt 0 5 := (zs_ltl 0 5 r3 h_x3 (zs_rdk (q := 38) (k := 1) (z := (0, 6)) h_σ.1 rfl) (by decide))
    have g5 : zs_in ((sn_I σ 38 1)).toInt 1 6 := (zs_ltr 1 6 r3 h_x3 (zs_rdk (q := 38) (k := 1) (z := (0, 6)) h_σ.1 rfl) (by decide))
    refine zs_gd (zs_gin g4 (by decide)) ?_
    refine zs_gd (zs_gin g4 (by decide)) ?_
    refine zs_ite (fun c6 => ?_) (fun c6 => ?_)
    · skip
      have r7 := (zs_I_eq c6)
      have g8 : zs_in ((((sn_I σ 55 x3.toNatClampNeg) &&& x2) &&& ((sn_I σ (38 + 10) x3.toNatClampNeg) ^^^ (-1 : Int32)))).toInt 0 0 := (zs_eql 0 0 r7 (zs_and2 (zs_and h_x2 (by decide)) (by decide)) zlI_0 (by decide))
      refine zs_lt (Q := fun z => zs_in z.toInt 1 6 ∧ z.toInt = c + 1) ⟨(zs_addI 1 6 g4 zlI_1 (by decide)), (zs_syI 1 hc g4 zlI_1 (by decide) (by decide))⟩ (fun y_5 hy_5 => ?_)
      exact zs_some (zs_inl ⟨hy_5.1, hy_5.2⟩)
    · skip
      have r9 := (zs_I_eqn c6)
      have g10 : zs_in ((((sn_I σ 55 x3.toNatClampNeg) &&& x2) &&& ((sn_I σ (38 + 10) x3.toNatClampNeg) ^^^ (-1 : Int32)))).toInt 1 536870911 := (zs_nel 1 536870911 r9 (zs_and2 (zs_and h_x2 (by decide)) (by decide)) zlI_0 (by decide))
      refine zs_gd (zs_b01 zlI_0 (by decide)) ?_
      exact zs_some (zs_inr ((zs_inr (zlI_0))))
theorem zd_102 {σ0 : sn_S} {σ : sn_S} (h_σ : zs_C σ0 σ) {x2 : Int32} (h_x2 : zs_in x2.toInt 0 536870911) {s0 : Int32} (h0 : zs_in (s0).toInt 0 6) : zs_ok (sn_it (LX7_meets_2 σ 38 x2) 5000 s0) (fun t => zs_sum (fun v => True) (fun v => zs_in (v).toInt 0 0) t) := by
  refine zs_it (I := fun s => zs_in (s).toInt 0 6) (m := fun s => 6 - s.toInt) (fun s hs => ?_) (fun s hs => ?_) (by exact h0)
  · have h1 := hs; unfold zs_in at h1
    omega
  · obtain ⟨b, eb, hb⟩ := zc_562 h_σ h_x2 hs (c := s.toInt) (Int.add_zero _).symm
    exact ⟨b, eb, zs_sumw hb (fun v w => ⟨(zs_w w.1 (by decide)), by have := w.2; omega⟩) (fun v w => w)⟩
-- BX7_meets_38
theorem zc_563 {σ0 : sn_S} {σ : sn_S} (h_σ : zs_C σ0 σ) : zs_ok (BX7_meets_38 σ 38) (fun r => zs_in (r).toInt 1 1) := by
  unfold BX7_meets_38
  refine zs_gd (zs_b01 zlI_1 (by decide)) ?_
  exact zs_some zlI_1
-- fX7_meets
theorem zc_564 {σ0 : sn_S} {σ : sn_S} (h_σ : zs_C σ0 σ) {x2 : Int32} (h_x2 : zs_in x2.toInt 0 536870911) : zs_ok (fX7_meets σ 38 x2) (fun r => zs_in (r).toInt 0 1) := by
  unfold fX7_meets
  refine zs_bd_ (zd_102 h_σ h_x2 (s0 := (0 : Int32)) (zs_w zlI_0 (by decide))) (fun t_1 pt_1 => ?_)
  refine zs_elim pt_1 (fun v_3 pv_3 => ?_) (fun r_4 pr_4 => ?_)
  · skip
    obtain ⟨ret, er, hr⟩ := zc_563 h_σ
    refine ⟨ret, er, ?_⟩
    exact (zs_w hr (by decide))
  · skip
    exact zs_some (zs_w pr_4 (by decide))
-- BX7_meets_2
theorem zc_565 {σ0 : sn_S} {σ : sn_S} (h_σ : zs_C σ0 σ) {x2 : Int32} (h_x2 : zs_in x2.toInt 0 1073741823) {x3 : Int32} (h_x3 : zs_in x3.toInt 0 6) {c : Int} (hc : x3.toInt = c + 0) : zs_ok (BX7_meets_2 σ 38 x2 x3) (fun r => zs_sum (fun v => (zs_in (v).toInt 1 6) ∧ v.toInt = c + 1) (fun v => zs_sum (fun v => True) (fun v => zs_in (v).toInt 0 0) v) r) := by
  unfold BX7_meets_2
  refine zs_ite (fun c1 => ?_) (fun c1 => ?_)
  · skip
    have r2 := (zs_I_le c1)
    exact zs_some (zs_inr ((zs_inl (trivial))))
  · skip
    have r3 := (zs_I_len c1)
    have g4 : zs_in (x3).toInt 0 5 := (zs_ltl 0 5 r3 h_x3 (zs_rdk (q := 38) (k := 1) (z := (0, 6)) h_σ.1 rfl) (by decide))
    have g5 : zs_in ((sn_I σ 38 1)).toInt 1 6 := (zs_ltr 1 6 r3 h_x3 (zs_rdk (q := 38) (k := 1) (z := (0, 6)) h_σ.1 rfl) (by decide))
    refine zs_gd (zs_gin g4 (by decide)) ?_
    refine zs_gd (zs_gin g4 (by decide)) ?_
    refine zs_ite (fun c6 => ?_) (fun c6 => ?_)
    · skip
      have r7 := (zs_I_eq c6)
      have g8 : zs_in ((((sn_I σ 55 x3.toNatClampNeg) &&& x2) &&& ((sn_I σ (38 + 10) x3.toNatClampNeg) ^^^ (-1 : Int32)))).toInt 0 0 := (zs_eql 0 0 r7 (zs_and2 (zs_and h_x2 (by decide)) (by decide)) zlI_0 (by decide))
      refine zs_lt (Q := fun z => zs_in z.toInt 1 6 ∧ z.toInt = c + 1) ⟨(zs_addI 1 6 g4 zlI_1 (by decide)), (zs_syI 1 hc g4 zlI_1 (by decide) (by decide))⟩ (fun y_5 hy_5 => ?_)
      exact zs_some (zs_inl ⟨hy_5.1, hy_5.2⟩)
    · skip
      have r9 := (zs_I_eqn c6)
      have g10 : zs_in ((((sn_I σ 55 x3.toNatClampNeg) &&& x2) &&& ((sn_I σ (38 + 10) x3.toNatClampNeg) ^^^ (-1 : Int32)))).toInt 1 1073741823 := (zs_nel 1 1073741823 r9 (zs_and2 (zs_and h_x2 (by decide)) (by decide)) zlI_0 (by decide))
      refine zs_gd (zs_b01 zlI_0 (by decide)) ?_
      exact zs_some (zs_inr ((zs_inr (zlI_0))))
theorem zd_103 {σ0 : sn_S} {σ : sn_S} (h_σ : zs_C σ0 σ) {x2 : Int32} (h_x2 : zs_in x2.toInt 0 1073741823) {s0 : Int32} (h0 : zs_in (s0).toInt 0 6) : zs_ok (sn_it (LX7_meets_2 σ 38 x2) 5000 s0) (fun t => zs_sum (fun v => True) (fun v => zs_in (v).toInt 0 0) t) := by
  refine zs_it (I := fun s => zs_in (s).toInt 0 6) (m := fun s => 6 - s.toInt) (fun s hs => ?_) (fun s hs => ?_) (by exact h0)
  · have h1 := hs; unfold zs_in at h1
    omega
  · obtain ⟨b, eb, hb⟩ := zc_565 h_σ h_x2 hs (c := s.toInt) (Int.add_zero _).symm
    exact ⟨b, eb, zs_sumw hb (fun v w => ⟨(zs_w w.1 (by decide)), by have := w.2; omega⟩) (fun v w => w)⟩
-- fX7_meets
theorem zc_566 {σ0 : sn_S} {σ : sn_S} (h_σ : zs_C σ0 σ) {x2 : Int32} (h_x2 : zs_in x2.toInt 0 1073741823) : zs_ok (fX7_meets σ 38 x2) (fun r => zs_in (r).toInt 0 1) := by
  unfold fX7_meets
  refine zs_bd_ (zd_103 h_σ h_x2 (s0 := (0 : Int32)) (zs_w zlI_0 (by decide))) (fun t_1 pt_1 => ?_)
  refine zs_elim pt_1 (fun v_3 pv_3 => ?_) (fun r_4 pr_4 => ?_)
  · skip
    obtain ⟨ret, er, hr⟩ := zc_563 h_σ
    refine ⟨ret, er, ?_⟩
    exact (zs_w hr (by decide))
  · skip
    exact zs_some (zs_w pr_4 (by decide))
-- BX7_seekIn_85
theorem zc_567 {σ0 : sn_S} {σ : sn_S} (h_σ : zs_C σ0 σ) {x3 : Int32} (h_x3 : zs_in x3.toInt 0 29) {x4 : Int32} (h_x4 : zs_in x4.toInt 1 9) {c : Int} (hc : x4.toInt = c + 0) : zs_ok (BX7_seekIn_85 σ 27 38 x3 x4) (fun r => zs_sum (fun v => ((zs_C σ0 v.1 ∧ zs_in (v.2).toInt 2 10)) ∧ v.2.toInt = c + 1) (fun v => False) r) := by
  unfold BX7_seekIn_85
  refine zs_lt (Q := fun z => zs_in z.toInt 2 10 ∧ z.toInt = c + 1) ⟨(zs_addI 2 10 h_x4 zlI_1 (by decide)), (zs_syI 1 hc h_x4 zlI_1 (by decide) (by decide))⟩ (fun y_1 hy_1 => ?_)
  exact zs_some (zs_inl ⟨⟨h_σ, hy_1.1⟩, hy_1.2⟩)
-- BX7_note_42
theorem zc_568 {σ0 : sn_S} {σ : sn_S} (h_σ : zs_C σ0 σ) {x4 : Int32} (h_x4 : zs_in x4.toInt 0 6) {c : Int} (hc : x4.toInt = c + 0) : zs_ok (BX7_note_42 σ 38 x4) (fun r => zs_sum (fun v => ((zs_C σ0 v.1 ∧ zs_in (v.2).toInt 1 6)) ∧ v.2.toInt = c + 1) (fun v => zs_C σ0 v) r) := by
  unfold BX7_note_42
  refine zs_ite (fun c1 => ?_) (fun c1 => ?_)
  · skip
    have r2 := (zs_I_le c1)
    exact zs_some (zs_inr (h_σ))
  · skip
    have r3 := (zs_I_len c1)
    have g4 : zs_in (x4).toInt 0 5 := (zs_ltl 0 5 r3 h_x4 (zs_rdk (q := 38) (k := 1) (z := (0, 6)) h_σ.1 rfl) (by decide))
    have g5 : zs_in ((sn_I σ 38 1)).toInt 1 6 := (zs_ltr 1 6 r3 h_x4 (zs_rdk (q := 38) (k := 1) (z := (0, 6)) h_σ.1 rfl) (by decide))
    refine zs_gd (zs_gin g4 (by decide)) ?_
    refine zs_bd_ (zo_bc 30 30 (by decide) (zs_rdu (q := 48) (z := (0, 1073741823)) h_σ.1 (fun _ => rfl))) (fun t_3 pt_3 => ?_)
    refine zs_gd (zs_gin (zs_addI 0 185 (zs_mulI 0 155 zlI_31 g4 (by decide)) pt_3 (by decide)) (by decide)) ?_
    refine zs_gd (zs_gin (zs_addI 0 185 (zs_mulI 0 155 zlI_31 g4 (by decide)) pt_3 (by decide)) (by decide)) ?_
    refine zs_lt (Q := fun z => zs_C σ0 z) (zs_wrt h_σ (fun _ => rfl) (fun _ => rfl)) (fun σ_7 hσ_7 => ?_)
    refine zs_lt (Q := fun z => zs_in z.toInt 1 6 ∧ z.toInt = c + 1) ⟨(zs_addI 1 6 g4 zlI_1 (by decide)), (zs_syI 1 hc g4 zlI_1 (by decide) (by decide))⟩ (fun y_9 hy_9 => ?_)
    exact zs_some (zs_inl ⟨⟨hσ_7, hy_9.1⟩, hy_9.2⟩)
theorem zd_104 {σ0 : sn_S}  {s0 : (sn_S × Int32)} (h0 : (zs_C σ0 s0.1 ∧ zs_in (s0.2).toInt 0 6)) : zs_ok (sn_it (LX7_note_42 38) 5000 s0) (fun t => zs_C σ0 t) := by
  refine zs_it (I := fun s => (zs_C σ0 s.1 ∧ zs_in (s.2).toInt 0 6)) (m := fun s => 6 - s.2.toInt) (fun s hs => ?_) (fun s hs => ?_) (by exact h0)
  · have h1 := hs.2; unfold zs_in at h1
    omega
  · obtain ⟨b, eb, hb⟩ := zc_568 hs.1 hs.2 (c := s.2.toInt) (Int.add_zero _).symm
    exact ⟨b, eb, zs_sumw hb (fun v w => ⟨⟨w.1.1, (zs_w w.1.2 (by decide))⟩, by have := w.2; omega⟩) (fun v w => w)⟩
-- BX7_note_82
theorem zc_569 {σ0 : sn_S} {σ : sn_S} (h_σ : zs_C σ0 σ) : zs_ok (BX7_note_82 σ 38) (fun r => zs_C σ0 r) := by
  unfold BX7_note_82
  exact zs_some h_σ
-- BX7_note_17
theorem zc_570 {σ0 : sn_S} {σ : sn_S} (h_σ : zs_C σ0 σ) {x2 : Int32} (h_x2 : zs_in x2.toInt 0 29) : zs_ok (BX7_note_17 σ 38 x2) (fun r => zs_C σ0 r) := by
  unfold BX7_note_17
  refine zs_lt (Q := fun z => zs_C σ0 z) (zs_wrt h_σ (fun _ => rfl) (fun _ => rfl)) (fun σ_1 hσ_1 => ?_)
  refine zs_lt (Q := fun z => zs_C σ0 z) (zs_wrt hσ_1 (fun _ => rfl) (fun _ => rfl)) (fun σ_3 hσ_3 => ?_)
  refine zs_bd_ (zd_104  (s0 := (σ_3, (0 : Int32))) ⟨hσ_3, (zs_w zlI_0 (by decide))⟩) (fun t_5 pt_5 => ?_)
  obtain ⟨ret, er, hr⟩ := zc_569 pt_5
  refine ⟨ret, er, ?_⟩
  exact hr
-- fX7_note
theorem zc_571 {σ0 : sn_S} {σ : sn_S} (h_σ : zs_C σ0 σ) {x2 : Int32} (h_x2 : zs_in x2.toInt 0 29) {x3 : Int32} (h_x3 : zs_in x3.toInt 1 9) : zs_ok (fX7_note σ 38 x2 x3) (fun r => zs_C σ0 r) := by
  unfold fX7_note
  refine zs_ite (fun c1 => ?_) (fun c1 => ?_)
  · skip
    have r2 := (zs_I_eq c1)
    have g3 : zs_in ((sn_I σ 54 1)).toInt 0 0 := (zs_eql 0 0 r2 (zs_topI _) zlI_0 (by decide))
    refine zs_lt (Q := fun z => zs_C σ0 z) (zs_wrt h_σ (fun _ => rfl) (fun _ => rfl)) (fun σ_2 hσ_2 => ?_)
    obtain ⟨ret, er, hr⟩ := zc_570 hσ_2 h_x2
    refine ⟨ret, er, ?_⟩
    exact hr
  · skip
    have r4 := (zs_I_eqn c1)
    obtain ⟨ret, er, hr⟩ := zc_570 h_σ h_x2
    refine ⟨ret, er, ?_⟩
    exact hr
-- BX7_seekIn_31
theorem zc_572 {σ0 : sn_S} {σ : sn_S} (h_σ : zs_C σ0 σ) {x3 : Int32} (h_x3 : zs_in x3.toInt 0 29) {x4 : Int32} (h_x4 : zs_in x4.toInt 1 10) {c : Int} (hc : x4.toInt = c + 0) : zs_ok (BX7_seekIn_31 σ 27 38 x3 x4) (fun r => zs_sum (fun v => ((zs_C σ0 v.1 ∧ zs_in (v.2).toInt 2 10)) ∧ v.2.toInt = c + 1) (fun v => zs_C σ0 v) r) := by
  unfold BX7_seekIn_31
  refine zs_ite (fun c1 => ?_) (fun c1 => ?_)
  · skip
    have r2 := (zs_I_lt c1)
    have g3 : zs_in (x4).toInt 10 10 := (zs_ltr 10 10 r2 zlI_9 h_x4 (by decide))
    exact zs_some (zs_inr (h_σ))
  · skip
    have r4 := (zs_I_ltn c1)
    have g5 : zs_in (x4).toInt 1 9 := (zs_lel 1 9 r4 h_x4 zlI_9 (by decide))
    refine zs_gd (zs_gin h_x3 (by decide)) ?_
    refine zs_gd (zs_gin h_x3 (by decide)) ?_
    refine zs_lt (Q := fun z => zs_C σ0 z) (zs_wrt h_σ (fun _ => rfl) (fun _ => rfl)) (fun σ_4 hσ_4 => ?_)
    refine zs_bd_ (zc_533 hσ_4 h_x3 (zs_rdk (q := 27) (k := 0) (z := (0, 30)) hσ_4.1 rfl)) (fun t_6 pt_6 => ?_)
    refine zs_bd_ (zc_196 (zs_rdk (q := 27) (k := 0) (z := (0, 30)) pt_6.1 rfl)) (fun t_8 pt_8 => ?_)
    refine zs_bd_ (zc_566 pt_6 pt_8) (fun t_10 pt_10 => ?_)
    refine zs_ite (fun c6 => ?_) (fun c6 => ?_)
    · skip
      have r7 := (zs_I_eq c6)
      have g8 : zs_in (t_10).toInt 0 0 := (zs_eql 0 0 r7 pt_10 zlI_0 (by decide))
      obtain ⟨ret, er, hr⟩ := zc_567 pt_6 h_x3 g5 hc
      refine ⟨ret, er, ?_⟩
      exact (zs_sumw hr (fun v w => ⟨w.1, w.2⟩) (fun v w => w.elim))
    · skip
      have r9 := (zs_I_eqn c6)
      have g10 : zs_in (t_10).toInt 1 1 := (zs_nel 1 1 r9 pt_10 zlI_0 (by decide))
      refine zs_bd_ (zc_571 pt_6 h_x3 g5) (fun t_13 pt_13 => ?_)
      obtain ⟨ret, er, hr⟩ := zc_567 pt_13 h_x3 g5 hc
      refine ⟨ret, er, ?_⟩
      exact (zs_sumw hr (fun v w => ⟨w.1, w.2⟩) (fun v w => w.elim))
theorem zd_105 {σ0 : sn_S} {x3 : Int32} (h_x3 : zs_in x3.toInt 0 29) {s0 : (sn_S × Int32)} (h0 : (zs_C σ0 s0.1 ∧ zs_in (s0.2).toInt 1 10)) : zs_ok (sn_it (LX7_seekIn_31 27 38 x3) 5000 s0) (fun t => zs_C σ0 t) := by
  refine zs_it (I := fun s => (zs_C σ0 s.1 ∧ zs_in (s.2).toInt 1 10)) (m := fun s => 10 - s.2.toInt) (fun s hs => ?_) (fun s hs => ?_) (by exact h0)
  · have h1 := hs.2; unfold zs_in at h1
    omega
  · obtain ⟨b, eb, hb⟩ := zc_572 hs.1 h_x3 hs.2 (c := s.2.toInt) (Int.add_zero _).symm
    exact ⟨b, eb, zs_sumw hb (fun v w => ⟨⟨w.1.1, (zs_w w.1.2 (by decide))⟩, by have := w.2; omega⟩) (fun v w => w)⟩
-- BX7_seekIn_91
theorem zc_573 {σ0 : sn_S} {σ : sn_S} (h_σ : zs_C σ0 σ) {x3 : Int32} (h_x3 : zs_in x3.toInt 0 29) {c : Int} (hc : x3.toInt = c + 0) : zs_ok (BX7_seekIn_91 σ 27 38 x3) (fun r => zs_sum (fun v => ((zs_C σ0 v.1 ∧ zs_in (v.2).toInt 1 30)) ∧ v.2.toInt = c + 1) (fun v => False) r) := by
  unfold BX7_seekIn_91
  refine zs_gd (zs_gin h_x3 (by decide)) ?_
  refine zs_gd (zs_gin h_x3 (by decide)) ?_
  refine zs_lt (Q := fun z => zs_C σ0 z) (zs_wrt h_σ (fun _ => rfl) (fun _ => rfl)) (fun σ_3 hσ_3 => ?_)
  refine zs_bd_ (zc_537 hσ_3 h_x3 (zs_addI 1 30 h_x3 zlI_1 (by decide))) (fun t_5 pt_5 => ?_)
  refine zs_lt (Q := fun z => zs_in z.toInt 1 30 ∧ z.toInt = c + 1) ⟨(zs_addI 1 30 h_x3 zlI_1 (by decide)), (zs_syI 1 hc h_x3 zlI_1 (by decide) (by decide))⟩ (fun y_7 hy_7 => ?_)
  exact zs_some (zs_inl ⟨⟨pt_5, hy_7.1⟩, hy_7.2⟩)
-- BX7_seekIn_7
theorem zc_574 {σ0 : sn_S} {σ : sn_S} (h_σ : zs_C σ0 σ) {x3 : Int32} (h_x3 : zs_in x3.toInt 0 30) {c : Int} (hc : x3.toInt = c + 0) : zs_ok (BX7_seekIn_7 σ 27 38 x3) (fun r => zs_sum (fun v => ((zs_C σ0 v.1 ∧ zs_in (v.2).toInt 1 30)) ∧ v.2.toInt = c + 1) (fun v => zs_sum (fun v => zs_C σ0 v) (fun v => zs_C σ0 v) v) r) := by
  unfold BX7_seekIn_7
  refine zs_ite (fun c1 => ?_) (fun c1 => ?_)
  · skip
    have r2 := (zs_I_le c1)
    exact zs_some (zs_inr ((zs_inl (h_σ))))
  · skip
    have r3 := (zs_I_len c1)
    have g4 : zs_in (x3).toInt 0 29 := (zs_ltl 0 29 r3 h_x3 (zs_rdk (q := 27) (k := 0) (z := (0, 30)) h_σ.1 rfl) (by decide))
    have g5 : zs_in ((sn_I σ 27 0)).toInt 1 30 := (zs_ltr 1 30 r3 h_x3 (zs_rdk (q := 27) (k := 0) (z := (0, 30)) h_σ.1 rfl) (by decide))
    refine zs_bd_ (zc_187 g4) (fun t_2 pt_2 => ?_)
    refine zs_bd_ (zc_564 h_σ pt_2) (fun t_4 pt_4 => ?_)
    refine zs_ite (fun c6 => ?_) (fun c6 => ?_)
    · skip
      have r7 := (zs_I_eq c6)
      have g8 : zs_in (t_4).toInt 0 0 := (zs_eql 0 0 r7 pt_4 zlI_0 (by decide))
      exact zs_some (zs_inr ((zs_inr (h_σ))))
    · skip
      have r9 := (zs_I_eqn c6)
      have g10 : zs_in (t_4).toInt 1 1 := (zs_nel 1 1 r9 pt_4 zlI_0 (by decide))
      refine zs_bd_ (zd_105 g4 (s0 := (σ, (1 : Int32))) ⟨h_σ, (zs_w zlI_1 (by decide))⟩) (fun t_7 pt_7 => ?_)
      obtain ⟨ret, er, hr⟩ := zc_573 pt_7 g4 hc
      refine ⟨ret, er, ?_⟩
      exact (zs_sumw hr (fun v w => ⟨w.1, w.2⟩) (fun v w => w.elim))
theorem zd_106 {σ0 : sn_S}  {s0 : (sn_S × Int32)} (h0 : (zs_C σ0 s0.1 ∧ zs_in (s0.2).toInt 0 30)) : zs_ok (sn_it (LX7_seekIn_7 27 38) 5000 s0) (fun t => zs_sum (fun v => zs_C σ0 v) (fun v => zs_C σ0 v) t) := by
  refine zs_it (I := fun s => (zs_C σ0 s.1 ∧ zs_in (s.2).toInt 0 30)) (m := fun s => 30 - s.2.toInt) (fun s hs => ?_) (fun s hs => ?_) (by exact h0)
  · have h1 := hs.2; unfold zs_in at h1
    omega
  · obtain ⟨b, eb, hb⟩ := zc_574 hs.1 hs.2 (c := s.2.toInt) (Int.add_zero _).symm
    exact ⟨b, eb, zs_sumw hb (fun v w => ⟨⟨w.1.1, (zs_w w.1.2 (by decide))⟩, by have := w.2; omega⟩) (fun v w => w)⟩
-- BX7_seekIn_117
theorem zc_575 {σ0 : sn_S} {σ : sn_S} (h_σ : zs_C σ0 σ) : zs_ok (BX7_seekIn_117 σ 27 38) (fun r => zs_C σ0 r) := by
  unfold BX7_seekIn_117
  exact zs_some h_σ
-- fX7_seekIn
theorem zc_576 {σ0 : sn_S} {σ : sn_S} (h_σ : zs_C σ0 σ) : zs_ok (fX7_seekIn σ 27 38) (fun r => zs_C σ0 r) := by
  unfold fX7_seekIn
  refine zs_bd_ (zo_dcopy h_σ) (fun t_1 pt_1 => ?_)
  refine zs_bd_ (zd_106  (s0 := (t_1, (0 : Int32))) ⟨pt_1, (zs_w zlI_0 (by decide))⟩) (fun t_3 pt_3 => ?_)
  refine zs_elim pt_3 (fun v_5 pv_5 => ?_) (fun r_6 pr_6 => ?_)
  · skip
    obtain ⟨ret, er, hr⟩ := zc_575 pv_5
    refine ⟨ret, er, ?_⟩
    exact hr
  · skip
    exact zs_some pr_6
-- BX8_seek_166
theorem zc_577 {σ0 : sn_S} {σ : sn_S} (h_σ : zs_C σ0 σ) : zs_ok (BX8_seek_166 σ) (fun r => (zs_in (r.1).toInt 0 0 ∧ zs_C σ0 r.2)) := by
  unfold BX8_seek_166
  refine zs_bd_ (zc_576 h_σ) (fun t_1 pt_1 => ?_)
  exact zs_some ⟨zlI_0, pt_1⟩
-- fX8_seek
theorem zc_578 {σ0 : sn_S} {σ : sn_S} (h_σ : zs_C σ0 σ) {x1 : Int32} : zs_ok (fX8_seek σ x1) (fun r => ((zs_in (r.1).toInt (-6) 0 ∧ zs_C σ0 r.2)) ∧ ((r.1).toInt = (-2) ∨ (zs_in (x1).toInt 0 3))) := by
  unfold fX8_seek
  refine zs_bd_ (zc_552) (fun t_1 pt_1 => ?_)
  refine zs_ite (fun c1 => ?_) (fun c1 => ?_)
  · skip
    have r2 := (zs_I_eq c1)
    have g3 : zs_in (t_1).toInt 0 0 := (zs_eql 0 0 r2 pt_1.1 zlI_0 (by decide))
    exact zs_some ⟨⟨(zs_w zlI_m2 (by decide)), h_σ⟩, Or.inl (zs_ptr zlI_m2)⟩
  · skip
    have r4 := (zs_I_eqn c1)
    have g5 : zs_in (t_1).toInt 1 1 := (zs_nel 1 1 r4 pt_1.1 zlI_0 (by decide))
    have q6 := (zs_or2 pt_1.2 g5 (by decide))
    have g7 : zs_in (x1).toInt 0 3 := q6
    refine zs_bd_ (zc_102 h_σ) (fun t_4 pt_4 => ?_)
    refine zs_ite (fun c8 => ?_) (fun c8 => ?_)
    · skip
      have r9 := (zs_I_eq c8)
      have g10 : zs_in (t_4).toInt 0 0 := (zs_eql 0 0 r9 pt_4 zlI_0 (by decide))
      exact zs_some ⟨⟨(zs_w zlI_m2 (by decide)), h_σ⟩, Or.inl (zs_ptr zlI_m2)⟩
    · skip
      have r11 := (zs_I_eqn c8)
      have g12 : zs_in (t_4).toInt 1 1 := (zs_nel 1 1 r11 pt_4 zlI_0 (by decide))
      refine zs_bd_ (zc_553 h_σ g7) (fun t_7 pt_7 => ?_)
      refine zs_ite (fun c13 => ?_) (fun c13 => ?_)
      · skip
        have r14 := (zs_I_eq c13)
        have g15 : zs_in (t_7).toInt 0 0 := (zs_eql 0 0 r14 pt_7 zlI_0 (by decide))
        exact zs_some ⟨⟨(zs_w zlI_m6 (by decide)), h_σ⟩, Or.inr g7⟩
      · skip
        have r16 := (zs_I_eqn c13)
        have g17 : zs_in (t_7).toInt 1 1 := (zs_nel 1 1 r16 pt_7 zlI_0 (by decide))
        refine zs_gd (zs_gin g7 (by decide)) ?_
        refine zs_ite (fun c18 => ?_) (fun c18 => ?_)
        · skip
          have r19 := (zs_I_eq c18)
          have g20 : zs_in (((sn_I σ 26 x1.toNatClampNeg) - (((sn_I σ 26 x1.toNatClampNeg) / (2 : Int32)) * (2 : Int32)))).toInt 0 0 := (zs_eql 0 0 r19 (zs_topI _) zlI_0 (by decide))
          refine zs_bd_ (zc_560 h_σ) (fun t_12 pt_12 => ?_)
          refine zs_bd_ (zd_101 g7 (s0 := (t_12, (0 : Int32))) ⟨pt_12, (zs_w zlI_0 (by decide))⟩) (fun t_14 pt_14 => ?_)
          refine zs_elim pt_14 (fun v_16 pv_16 => ?_) (fun r_17 pr_17 => ?_)
          · skip
            obtain ⟨ret, er, hr⟩ := zc_577 pv_16
            refine ⟨ret, er, ?_⟩
            exact ⟨⟨(zs_w hr.1 (by decide)), hr.2⟩, Or.inr g7⟩
          · skip
            exact zs_some ⟨⟨(zs_w pr_17.1 (by decide)), pr_17.2⟩, Or.inl (zs_ptr pr_17.1)⟩
        · skip
          have r21 := (zs_I_eqn c18)
          exact zs_some ⟨⟨(zs_w zlI_m2 (by decide)), h_σ⟩, Or.inl (zs_ptr zlI_m2)⟩
-- fX8_which
theorem zc_579 {σ0 : sn_S} {σ : sn_S} (h_σ : zs_C σ0 σ) {x1 : Int32} : zs_ok (fX8_which σ x1) (fun r => ((True ∧ zs_C σ0 r.2)) ∧ ((r.1).toInt = (-2) ∨ (zs_in (x1).toInt 0 3))) := by
  unfold fX8_which
  refine zs_bd_ (zc_578 h_σ) (fun t_1 pt_1 => ?_)
  refine zs_ite (fun c1 => ?_) (fun c1 => ?_)
  · skip
    have r2 := (zs_I_eq c1)
    have g3 : zs_in (t_1.1).toInt 0 0 := (zs_eql 0 0 r2 pt_1.1.1 zlI_0 (by decide))
    have q4 := (zs_or2 pt_1.2 g3 (by decide))
    have g5 : zs_in (x1).toInt 0 3 := q4
    exact zs_some ⟨⟨trivial, pt_1.1.2⟩, Or.inr g5⟩
  · skip
    have r6 := (zs_I_eqn c1)
    have g7 : zs_in (t_1.1).toInt (-6) (-1) := (zs_neh (-6) (-1) r6 pt_1.1.1 zlI_0 (by decide))
    rcases pt_1.2 with z0 | z0
    · skip
      have g8 : zs_in (t_1.1).toInt (-2) (-2) := (zs_pt z0)
      exact zs_some ⟨⟨trivial, pt_1.1.2⟩, Or.inl (zs_ptr g8)⟩
    · skip
      have q9 := z0
      have g10 : zs_in (x1).toInt 0 3 := q9
      exact zs_some ⟨⟨trivial, pt_1.1.2⟩, Or.inr g10⟩
-- fX8_when
theorem zc_580 {σ0 : sn_S} {σ : sn_S} (h_σ : zs_C σ0 σ) {x1 : Int32} : zs_ok (fX8_when σ x1) (fun r => ((True ∧ zs_C σ0 r.2)) ∧ ((r.1).toInt = (-2) ∨ (zs_in (x1).toInt 0 3))) := by
  unfold fX8_when
  refine zs_bd_ (zc_578 h_σ) (fun t_1 pt_1 => ?_)
  refine zs_ite (fun c1 => ?_) (fun c1 => ?_)
  · skip
    have r2 := (zs_I_eq c1)
    have g3 : zs_in (t_1.1).toInt 0 0 := (zs_eql 0 0 r2 pt_1.1.1 zlI_0 (by decide))
    have q4 := (zs_or2 pt_1.2 g3 (by decide))
    have g5 : zs_in (x1).toInt 0 3 := q4
    exact zs_some ⟨⟨trivial, pt_1.1.2⟩, Or.inr g5⟩
  · skip
    have r6 := (zs_I_eqn c1)
    have g7 : zs_in (t_1.1).toInt (-6) (-1) := (zs_neh (-6) (-1) r6 pt_1.1.1 zlI_0 (by decide))
    rcases pt_1.2 with z0 | z0
    · skip
      have g8 : zs_in (t_1.1).toInt (-2) (-2) := (zs_pt z0)
      exact zs_some ⟨⟨trivial, pt_1.1.2⟩, Or.inl (zs_ptr g8)⟩
    · skip
      have q9 := z0
      have g10 : zs_in (x1).toInt 0 3 := q9
      exact zs_some ⟨⟨trivial, pt_1.1.2⟩, Or.inr g10⟩
-- fX8_gust
theorem zc_581 {σ0 : sn_S} {σ : sn_S} (h_σ : zs_C σ0 σ) {x1 : Int32} : zs_ok (fX8_gust σ x1) (fun r => ((True ∧ zs_C σ0 r.2)) ∧ ((r.1).toInt = (-2) ∨ (zs_in (x1).toInt 0 3))) := by
  unfold fX8_gust
  refine zs_bd_ (zc_578 h_σ) (fun t_1 pt_1 => ?_)
  refine zs_ite (fun c1 => ?_) (fun c1 => ?_)
  · skip
    have r2 := (zs_I_eq c1)
    have g3 : zs_in (t_1.1).toInt 0 0 := (zs_eql 0 0 r2 pt_1.1.1 zlI_0 (by decide))
    have q4 := (zs_or2 pt_1.2 g3 (by decide))
    have g5 : zs_in (x1).toInt 0 3 := q4
    exact zs_some ⟨⟨trivial, pt_1.1.2⟩, Or.inr g5⟩
  · skip
    have r6 := (zs_I_eqn c1)
    have g7 : zs_in (t_1.1).toInt (-6) (-1) := (zs_neh (-6) (-1) r6 pt_1.1.1 zlI_0 (by decide))
    rcases pt_1.2 with z0 | z0
    · skip
      have g8 : zs_in (t_1.1).toInt (-2) (-2) := (zs_pt z0)
      exact zs_some ⟨⟨trivial, pt_1.1.2⟩, Or.inl (zs_ptr g8)⟩
    · skip
      have q9 := z0
      have g10 : zs_in (x1).toInt 0 3 := q9
      exact zs_some ⟨⟨trivial, pt_1.1.2⟩, Or.inr g10⟩
-- BX7_atWorst_4
theorem zc_582 {σ0 : sn_S} {σ : sn_S} (h_σ : zs_C σ0 σ) {x1 : Int32} (h_x1 : zs_in x1.toInt 0 5) {x2 : Int32} (h_x2 : zs_in x2.toInt 0 2147483647) {x3 : Int32} (h_x3 : zs_in x3.toInt 0 31) {c : Int} (hc : x3.toInt = c + 0) : zs_ok (BX7_atWorst_4 σ x1 x2 x3) (fun r => zs_sum (fun v => ((zs_in (v.1).toInt 0 2147483647 ∧ zs_in (v.2).toInt 1 31)) ∧ v.2.toInt = c + 1) (fun v => zs_in (v).toInt 0 2147483647) r) := by
  unfold BX7_atWorst_4
  refine zs_ite (fun c1 => ?_) (fun c1 => ?_)
  · skip
    have r2 := (zs_I_le c1)
    have g3 : zs_in (x3).toInt 31 31 := (zs_ler 31 31 r2 zlI_31 h_x3 (by decide))
    exact zs_some (zs_inr (h_x2))
  · skip
    have r4 := (zs_I_len c1)
    have g5 : zs_in (x3).toInt 0 30 := (zs_ltl 0 30 r4 h_x3 zlI_31 (by decide))
    refine zs_gd (zs_gin (zs_addI 0 185 (zs_mulI 0 155 zlI_31 h_x1 (by decide)) g5 (by decide)) (by decide)) ?_
    refine zs_lt (Q := fun z => zs_in z.toInt 0 2147483647) (zs_max 0 2147483647 h_x2 (zs_topI _) (by decide)) (fun y_3 hy_3 => ?_)
    refine zs_lt (Q := fun z => zs_in z.toInt 1 31 ∧ z.toInt = c + 1) ⟨(zs_addI 1 31 g5 zlI_1 (by decide)), (zs_syI 1 hc g5 zlI_1 (by decide) (by decide))⟩ (fun y_5 hy_5 => ?_)
    exact zs_some (zs_inl ⟨⟨hy_3, hy_5.1⟩, hy_5.2⟩)
theorem zd_107 {σ0 : sn_S} {σ : sn_S} (h_σ : zs_C σ0 σ) {x1 : Int32} (h_x1 : zs_in x1.toInt 0 5) {s0 : (Int32 × Int32)} (h0 : (zs_in (s0.1).toInt 0 2147483647 ∧ zs_in (s0.2).toInt 0 31)) : zs_ok (sn_it (LX7_atWorst_4 σ x1) 5000 s0) (fun t => zs_in (t).toInt 0 2147483647) := by
  refine zs_it (I := fun s => (zs_in (s.1).toInt 0 2147483647 ∧ zs_in (s.2).toInt 0 31)) (m := fun s => 31 - s.2.toInt) (fun s hs => ?_) (fun s hs => ?_) (by exact h0)
  · have h1 := hs.2; unfold zs_in at h1
    omega
  · obtain ⟨b, eb, hb⟩ := zc_582 h_σ h_x1 hs.1 hs.2 (c := s.2.toInt) (Int.add_zero _).symm
    exact ⟨b, eb, zs_sumw hb (fun v w => ⟨⟨w.1.1, (zs_w w.1.2 (by decide))⟩, by have := w.2; omega⟩) (fun v w => w)⟩
-- BX7_atWorst_32
theorem zc_583 {σ0 : sn_S} {σ : sn_S} (h_σ : zs_C σ0 σ) {x2 : Int32} (h_x2 : zs_in x2.toInt 0 2147483647) : zs_ok (BX7_atWorst_32 σ x2) (fun r => zs_in (r).toInt 0 2147483647) := by
  unfold BX7_atWorst_32
  exact zs_some h_x2
-- fX7_atWorst
theorem zc_584 {σ0 : sn_S} {σ : sn_S} (h_σ : zs_C σ0 σ) {x1 : Int32} (h_x1 : zs_in x1.toInt 0 5) : zs_ok (fX7_atWorst σ x1) (fun r => zs_in (r).toInt 0 2147483647) := by
  unfold fX7_atWorst
  refine zs_bd_ (zd_107 h_σ h_x1 (s0 := ((0 : Int32), (0 : Int32))) ⟨(zs_w zlI_0 (by decide)), (zs_w zlI_0 (by decide))⟩) (fun t_1 pt_1 => ?_)
  obtain ⟨ret, er, hr⟩ := zc_583 h_σ pt_1
  refine ⟨ret, er, ?_⟩
  exact hr
-- BX7_whomToAsk_36
theorem zc_585 {σ0 : sn_S} {σ : sn_S} (h_σ : zs_C σ0 σ) {x1 : Int32} (h_x1 : zs_in x1.toInt 1 6) {x2 : Int32} (h_x2 : zs_in x2.toInt (-1) 5) {x3 : Int32} {x4 : Int32} (h_x4 : zs_in x4.toInt 0 5) {c : Int} (hc : x4.toInt = c + 0) : zs_ok (BX7_whomToAsk_36 σ x1 x2 x3 x4) (fun r => zs_sum (fun v => ((zs_in (v.1).toInt (-1) 5 ∧ (True ∧ zs_in (v.2.2).toInt 1 6))) ∧ v.2.2.toInt = c + 1) (fun v => False) r) := by
  unfold BX7_whomToAsk_36
  refine zs_lt (Q := fun z => zs_in z.toInt 1 6 ∧ z.toInt = c + 1) ⟨(zs_addI 1 6 h_x4 zlI_1 (by decide)), (zs_syI 1 hc h_x4 zlI_1 (by decide) (by decide))⟩ (fun y_1 hy_1 => ?_)
  exact zs_some (zs_inl ⟨⟨h_x2, ⟨trivial, hy_1.1⟩⟩, hy_1.2⟩)
-- BX7_whomToAsk_36
theorem zc_586 {σ0 : sn_S} {σ : sn_S} (h_σ : zs_C σ0 σ) {x1 : Int32} (h_x1 : zs_in x1.toInt 1 6) {x2 : Int32} (h_x2 : zs_in x2.toInt 0 5) {x3 : Int32} (h_x3 : zs_in x3.toInt 0 2147483646) {x4 : Int32} (h_x4 : zs_in x4.toInt 0 5) {c : Int} (hc : x4.toInt = c + 0) : zs_ok (BX7_whomToAsk_36 σ x1 x2 x3 x4) (fun r => zs_sum (fun v => ((zs_in (v.1).toInt 0 5 ∧ (zs_in (v.2.1).toInt 0 2147483646 ∧ zs_in (v.2.2).toInt 1 6))) ∧ v.2.2.toInt = c + 1) (fun v => False) r) := by
  unfold BX7_whomToAsk_36
  refine zs_lt (Q := fun z => zs_in z.toInt 1 6 ∧ z.toInt = c + 1) ⟨(zs_addI 1 6 h_x4 zlI_1 (by decide)), (zs_syI 1 hc h_x4 zlI_1 (by decide) (by decide))⟩ (fun y_1 hy_1 => ?_)
  exact zs_some (zs_inl ⟨⟨h_x2, ⟨h_x3, hy_1.1⟩⟩, hy_1.2⟩)
-- BX7_whomToAsk_10
theorem zc_587 {σ0 : sn_S} {σ : sn_S} (h_σ : zs_C σ0 σ) {x1 : Int32} (h_x1 : zs_in x1.toInt 0 6) {x2 : Int32} (h_x2 : zs_in x2.toInt (-1) 5) {x3 : Int32} {x4 : Int32} (h_x4 : zs_in x4.toInt 0 6) {c : Int} (hc : x4.toInt = c + 0) : zs_ok (BX7_whomToAsk_10 σ x1 x2 x3 x4) (fun r => zs_sum (fun v => ((zs_in (v.1).toInt (-1) 5 ∧ (True ∧ zs_in (v.2.2).toInt 1 6))) ∧ v.2.2.toInt = c + 1) (fun v => zs_in (v).toInt (-1) 5) r) := by
  unfold BX7_whomToAsk_10
  refine zs_ite (fun c1 => ?_) (fun c1 => ?_)
  · skip
    have r2 := (zs_I_le c1)
    exact zs_some (zs_inr (h_x2))
  · skip
    have r3 := (zs_I_len c1)
    have g4 : zs_in (x4).toInt 0 5 := (zs_ltl 0 5 r3 h_x4 h_x1 (by decide))
    have g5 : zs_in (x1).toInt 1 6 := (zs_ltr 1 6 r3 h_x4 h_x1 (by decide))
    refine zs_bd_ (zc_584 h_σ g4) (fun t_2 pt_2 => ?_)
    refine zs_ite (fun c6 => ?_) (fun c6 => ?_)
    · skip
      have r7 := (zs_I_le c6)
      obtain ⟨ret, er, hr⟩ := zc_585 h_σ g5 h_x2 g4 hc
      refine ⟨ret, er, ?_⟩
      exact (zs_sumw hr (fun v w => ⟨w.1, w.2⟩) (fun v w => w.elim))
    · skip
      have r8 := (zs_I_len c6)
      have g9 : zs_in (t_2).toInt 0 2147483646 := (zs_ltl 0 2147483646 r8 pt_2 (zs_topI _) (by decide))
      have g10 : zs_in (x3).toInt 1 2147483647 := (zs_ltr 1 2147483647 r8 pt_2 (zs_topI _) (by decide))
      obtain ⟨ret, er, hr⟩ := zc_586 h_σ g5 g4 g9 g4 hc
      refine ⟨ret, er, ?_⟩
      exact (zs_sumw hr (fun v w => ⟨⟨(zs_w w.1.1 (by decide)), ⟨trivial, w.1.2.2⟩⟩, w.2⟩) (fun v w => w.elim))
theorem zd_108 {σ0 : sn_S} {σ : sn_S} (h_σ : zs_C σ0 σ) {x1 : Int32} (h_x1 : zs_in x1.toInt 0 6) {s0 : (Int32 × (Int32 × Int32))} (h0 : (zs_in (s0.1).toInt (-1) 5 ∧ (True ∧ zs_in (s0.2.2).toInt 0 6))) : zs_ok (sn_it (LX7_whomToAsk_10 σ x1) 5000 s0) (fun t => zs_in (t).toInt (-1) 5) := by
  refine zs_it (I := fun s => (zs_in (s.1).toInt (-1) 5 ∧ (True ∧ zs_in (s.2.2).toInt 0 6))) (m := fun s => 6 - s.2.2.toInt) (fun s hs => ?_) (fun s hs => ?_) (by exact h0)
  · have h1 := hs.2.2; unfold zs_in at h1
    omega
  · obtain ⟨b, eb, hb⟩ := zc_587 h_σ h_x1 hs.1 hs.2.2 (c := s.2.2.toInt) (Int.add_zero _).symm
    exact ⟨b, eb, zs_sumw hb (fun v w => ⟨⟨w.1.1, ⟨w.1.2.1, (zs_w w.1.2.2 (by decide))⟩⟩, by have := w.2; omega⟩) (fun v w => w)⟩
-- BX7_whomToAsk_42
theorem zc_588 {σ0 : sn_S} {σ : sn_S} (h_σ : zs_C σ0 σ) {x2 : Int32} (h_x2 : zs_in x2.toInt (-1) 5) : zs_ok (BX7_whomToAsk_42 σ x2) (fun r => zs_in (r).toInt (-1) 5) := by
  unfold BX7_whomToAsk_42
  exact zs_some h_x2
-- fX7_whomToAsk
theorem zc_589 {σ0 : sn_S} {σ : sn_S} (h_σ : zs_C σ0 σ) {x1 : Int32} (h_x1 : zs_in x1.toInt 0 6) : zs_ok (fX7_whomToAsk σ x1) (fun r => zs_in (r).toInt (-1) 5) := by
  unfold fX7_whomToAsk
  refine zs_lt (Q := fun z => True) trivial (fun y_1 hy_1 => ?_)
  refine zs_bd_ (zd_108 h_σ h_x1 (s0 := ((-1 : Int32), (y_1, (0 : Int32)))) ⟨(zs_w zlI_m1 (by decide)), ⟨trivial, (zs_w zlI_0 (by decide))⟩⟩) (fun t_3 pt_3 => ?_)
  obtain ⟨ret, er, hr⟩ := zc_588 h_σ pt_3
  refine ⟨ret, er, ?_⟩
  exact hr
-- fX8_ask
theorem zc_590 {σ0 : sn_S} {σ : sn_S} (h_σ : zs_C σ0 σ) {x1 : Int32} : zs_ok (fX8_ask σ x1) (fun r => ((zs_in (r.1).toInt (-6) 5 ∧ zs_C σ0 r.2)) ∧ ((r.1).toInt = (-2) ∨ (zs_in (x1).toInt 0 3))) := by
  unfold fX8_ask
  refine zs_bd_ (zc_578 h_σ) (fun t_1 pt_1 => ?_)
  refine zs_ite (fun c1 => ?_) (fun c1 => ?_)
  · skip
    have r2 := (zs_I_eq c1)
    have g3 : zs_in (t_1.1).toInt 0 0 := (zs_eql 0 0 r2 pt_1.1.1 zlI_0 (by decide))
    have q4 := (zs_or2 pt_1.2 g3 (by decide))
    have g5 : zs_in (x1).toInt 0 3 := q4
    refine zs_bd_ (zc_589 pt_1.1.2 (zs_rdk (q := 27) (k := 1) (z := (0, 6)) pt_1.1.2.1 rfl)) (fun t_4 pt_4 => ?_)
    exact zs_some ⟨⟨(zs_w pt_4 (by decide)), pt_1.1.2⟩, Or.inr g5⟩
  · skip
    have r6 := (zs_I_eqn c1)
    have g7 : zs_in (t_1.1).toInt (-6) (-1) := (zs_neh (-6) (-1) r6 pt_1.1.1 zlI_0 (by decide))
    rcases pt_1.2 with z0 | z0
    · skip
      have g8 : zs_in (t_1.1).toInt (-2) (-2) := (zs_pt z0)
      exact zs_some ⟨⟨(zs_w g8 (by decide)), pt_1.1.2⟩, Or.inl (zs_ptr g8)⟩
    · skip
      have q9 := z0
      have g10 : zs_in (x1).toInt 0 3 := q9
      exact zs_some ⟨⟨(zs_w g7 (by decide)), pt_1.1.2⟩, Or.inr g10⟩
-- fX8_leaves
theorem zc_591 {σ0 : sn_S} {σ : sn_S} (h_σ : zs_C σ0 σ) {x1 : Int32} : zs_ok (fX8_leaves σ x1) (fun r => ((True ∧ zs_C σ0 r.2)) ∧ ((r.1).toInt = (-2) ∨ (zs_in (x1).toInt 0 3))) := by
  unfold fX8_leaves
  refine zs_bd_ (zc_578 h_σ) (fun t_1 pt_1 => ?_)
  refine zs_ite (fun c1 => ?_) (fun c1 => ?_)
  · skip
    have r2 := (zs_I_eq c1)
    have g3 : zs_in (t_1.1).toInt 0 0 := (zs_eql 0 0 r2 pt_1.1.1 zlI_0 (by decide))
    have q4 := (zs_or2 pt_1.2 g3 (by decide))
    have g5 : zs_in (x1).toInt 0 3 := q4
    refine zs_bd_ (zc_589 pt_1.1.2 (zs_rdk (q := 27) (k := 1) (z := (0, 6)) pt_1.1.2.1 rfl)) (fun t_4 pt_4 => ?_)
    refine zs_ite (fun c6 => ?_) (fun c6 => ?_)
    · skip
      have r7 := (zs_I_eq c6)
      have g8 : zs_in (t_4).toInt (-1) (-1) := (zs_eql (-1) (-1) r7 pt_4 zlI_m1 (by decide))
      exact zs_some ⟨⟨trivial, pt_1.1.2⟩, Or.inr g5⟩
    · skip
      have r9 := (zs_I_eqn c6)
      have g10 : zs_in (t_4).toInt 0 5 := (zs_nel 0 5 r9 pt_4 zlI_m1 (by decide))
      refine zs_bd_ (zc_584 pt_1.1.2 g10) (fun t_7 pt_7 => ?_)
      exact zs_some ⟨⟨trivial, pt_1.1.2⟩, Or.inr g5⟩
  · skip
    have r11 := (zs_I_eqn c1)
    have g12 : zs_in (t_1.1).toInt (-6) (-1) := (zs_neh (-6) (-1) r11 pt_1.1.1 zlI_0 (by decide))
    rcases pt_1.2 with z0 | z0
    · skip
      have g13 : zs_in (t_1.1).toInt (-2) (-2) := (zs_pt z0)
      exact zs_some ⟨⟨trivial, pt_1.1.2⟩, Or.inl (zs_ptr g13)⟩
    · skip
      have q14 := z0
      have g15 : zs_in (x1).toInt 0 3 := q14
      exact zs_some ⟨⟨trivial, pt_1.1.2⟩, Or.inr g15⟩
-- BX8_lossOf_85
theorem zc_592 {σ0 : sn_S} {σ : sn_S} (h_σ : zs_C σ0 σ) {x1 : Int32} (h_x1 : zs_in x1.toInt 0 5) {t0 : Int32} (h_t0 : zs_in t0.toInt 0 7) : zs_ok (BX8_lossOf_85 σ x1 t0) (fun r => (zs_in (r.1).toInt 0 97 ∧ zs_C σ0 r.2)) := by
  unfold BX8_lossOf_85
  refine zs_gd (zs_gin h_x1 (by decide)) ?_
  refine zs_bd_ (zo_bc 30 30 (by decide) (zs_rdu (q := 48) (z := (0, 1073741823)) h_σ.1 (fun _ => rfl))) (fun t_2 pt_2 => ?_)
  exact zs_some ⟨(zs_addI 0 97 (zs_mulI 0 90 zlI_3 pt_2 (by decide)) h_t0 (by decide)), h_σ⟩
-- BX8_lossOf_60
theorem zc_593 {σ0 : sn_S} {σ : sn_S} (h_σ : zs_C σ0 σ) {x1 : Int32} (h_x1 : zs_in x1.toInt 0 5) {x3 : Int32} (h_x3 : zs_in x3.toInt 1 1) : zs_ok (BX8_lossOf_60 σ x1 x3) (fun r => (zs_in (r.1).toInt 0 97 ∧ zs_C σ0 r.2)) := by
  unfold BX8_lossOf_60
  obtain rfl : x3 = (1 : Int32) := zs_eqv h_x3 (by decide)
  refine zs_bd_ (zc_350 h_σ) (fun t_1 pt_1 => ?_)
  refine zs_ite (fun c1 => ?_) (fun c1 => ?_)
  · skip
    have r2 := (zs_I_eq c1)
    obtain ⟨ret, er, hr⟩ := zc_592 pt_1 h_x1 (zs_divI 0 7 (zs_rdk (q := 27) (k := 0) (z := (0, 30)) pt_1.1 rfl) zlI_4 (by decide))
    refine ⟨ret, er, ?_⟩
    exact hr
  · skip
    have r3 := (zs_I_eqn c1)
    exact (zs_botne r3 h_x3 zlI_1 (by decide)).elim
-- BX8_lossOf_35
theorem zc_594 {σ0 : sn_S} {σ : sn_S} (h_σ : zs_C σ0 σ) {x1 : Int32} (h_x1 : zs_in x1.toInt 0 5) {x2 : Int32} (h_x2 : zs_in x2.toInt 0 5) {x3 : Int32} (h_x3 : zs_in x3.toInt 1 1) {x4 : Int32} (h_x4 : zs_in x4.toInt 0 1) : zs_ok (BX8_lossOf_35 σ x1 x2 x3 x4) (fun r => (zs_in (r.1).toInt 0 97 ∧ zs_C σ0 r.2)) := by
  unfold BX8_lossOf_35
  obtain rfl : x3 = (1 : Int32) := zs_eqv h_x3 (by decide)
  refine zs_ite (fun c1 => ?_) (fun c1 => ?_)
  · skip
    have r2 := (zs_I_eq c1)
    have g3 : zs_in (x4).toInt 1 1 := (zs_eql 1 1 r2 h_x4 zlI_1 (by decide))
    refine zs_bd_ (zc_196 (zs_rdk (q := 27) (k := 0) (z := (0, 30)) h_σ.1 rfl)) (fun t_2 pt_2 => ?_)
    refine zs_gd (zs_gin h_x2 (by decide)) ?_
    refine zs_lt (Q := fun z => zs_C σ0 z) (zs_wrt h_σ (fun _ => rfl) (fun _ => rfl)) (fun σ_5 hσ_5 => ?_)
    obtain ⟨ret, er, hr⟩ := zc_593 hσ_5 h_x1 h_x3
    refine ⟨ret, er, ?_⟩
    exact hr
  · skip
    have r4 := (zs_I_eqn c1)
    have g5 : zs_in (x4).toInt 0 0 := (zs_neh 0 0 r4 h_x4 zlI_1 (by decide))
    obtain ⟨ret, er, hr⟩ := zc_593 h_σ h_x1 h_x3
    refine ⟨ret, er, ?_⟩
    exact hr
-- BX8_lossOf_85
theorem zc_595 {σ0 : sn_S} {σ : sn_S} (h_σ : zs_C σ0 σ) {x1 : Int32} (h_x1 : zs_in x1.toInt 0 5) {t0 : Int32} (h_t0 : zs_in t0.toInt 0 0) : zs_ok (BX8_lossOf_85 σ x1 t0) (fun r => (zs_in (r.1).toInt 0 90 ∧ zs_C σ0 r.2)) := by
  unfold BX8_lossOf_85
  obtain rfl : t0 = (0 : Int32) := zs_eqv h_t0 (by decide)
  refine zs_gd (zs_gin h_x1 (by decide)) ?_
  refine zs_bd_ (zo_bc 30 30 (by decide) (zs_rdu (q := 48) (z := (0, 1073741823)) h_σ.1 (fun _ => rfl))) (fun t_2 pt_2 => ?_)
  exact zs_some ⟨(zs_addI 0 90 (zs_mulI 0 90 zlI_3 pt_2 (by decide)) h_t0 (by decide)), h_σ⟩
-- BX8_lossOf_60
theorem zc_596 {σ0 : sn_S} {σ : sn_S} (h_σ : zs_C σ0 σ) {x1 : Int32} (h_x1 : zs_in x1.toInt 0 5) {x3 : Int32} (h_x3 : zs_in x3.toInt 0 0) : zs_ok (BX8_lossOf_60 σ x1 x3) (fun r => (zs_in (r.1).toInt 0 90 ∧ zs_C σ0 r.2)) := by
  unfold BX8_lossOf_60
  obtain rfl : x3 = (0 : Int32) := zs_eqv h_x3 (by decide)
  refine zs_bd_ (zc_350 h_σ) (fun t_1 pt_1 => ?_)
  refine zs_ite (fun c1 => ?_) (fun c1 => ?_)
  · skip
    have r2 := (zs_I_eq c1)
    exact (zs_botr r2 h_x3 zlI_1 (by decide)).elim
  · skip
    have r3 := (zs_I_eqn c1)
    obtain ⟨ret, er, hr⟩ := zc_595 pt_1 h_x1 zlI_0
    refine ⟨ret, er, ?_⟩
    exact hr
-- BX8_lossOf_35
theorem zc_597 {σ0 : sn_S} {σ : sn_S} (h_σ : zs_C σ0 σ) {x1 : Int32} (h_x1 : zs_in x1.toInt 0 5) {x2 : Int32} (h_x2 : zs_in x2.toInt 0 5) {x3 : Int32} (h_x3 : zs_in x3.toInt 0 0) {x4 : Int32} (h_x4 : zs_in x4.toInt 0 1) : zs_ok (BX8_lossOf_35 σ x1 x2 x3 x4) (fun r => (zs_in (r.1).toInt 0 90 ∧ zs_C σ0 r.2)) := by
  unfold BX8_lossOf_35
  obtain rfl : x3 = (0 : Int32) := zs_eqv h_x3 (by decide)
  refine zs_ite (fun c1 => ?_) (fun c1 => ?_)
  · skip
    have r2 := (zs_I_eq c1)
    have g3 : zs_in (x4).toInt 1 1 := (zs_eql 1 1 r2 h_x4 zlI_1 (by decide))
    refine zs_bd_ (zc_196 (zs_rdk (q := 27) (k := 0) (z := (0, 30)) h_σ.1 rfl)) (fun t_2 pt_2 => ?_)
    refine zs_gd (zs_gin h_x2 (by decide)) ?_
    refine zs_lt (Q := fun z => zs_C σ0 z) (zs_wrt h_σ (fun _ => rfl) (fun _ => rfl)) (fun σ_5 hσ_5 => ?_)
    obtain ⟨ret, er, hr⟩ := zc_596 hσ_5 h_x1 h_x3
    refine ⟨ret, er, ?_⟩
    exact hr
  · skip
    have r4 := (zs_I_eqn c1)
    have g5 : zs_in (x4).toInt 0 0 := (zs_neh 0 0 r4 h_x4 zlI_1 (by decide))
    obtain ⟨ret, er, hr⟩ := zc_596 h_σ h_x1 h_x3
    refine ⟨ret, er, ?_⟩
    exact hr
-- fX8_lossOf
theorem zc_598 {σ0 : sn_S} {σ : sn_S} (h_σ : zs_C σ0 σ) {x1 : Int32} (h_x1 : zs_in x1.toInt 0 5) {x2 : Int32} (h_x2 : zs_in x2.toInt 0 5) {x3 : Int32} (h_x3 : zs_in x3.toInt 0 1) {x4 : Int32} (h_x4 : zs_in x4.toInt 0 1) : zs_ok (fX8_lossOf σ x1 x2 x3 x4) (fun r => (zs_in (r.1).toInt 0 97 ∧ zs_C σ0 r.2)) := by
  unfold fX8_lossOf
  refine zs_bd_ (zo_dcopy h_σ) (fun t_1 pt_1 => ?_)
  refine zs_ite (fun c1 => ?_) (fun c1 => ?_)
  · skip
    have r2 := (zs_I_eq c1)
    have g3 : zs_in (x3).toInt 1 1 := (zs_eql 1 1 r2 h_x3 zlI_1 (by decide))
    refine zs_bd_ (zc_196 (zs_rdk (q := 27) (k := 0) (z := (0, 30)) pt_1.1 rfl)) (fun t_4 pt_4 => ?_)
    refine zs_gd (zs_gin h_x1 (by decide)) ?_
    refine zs_lt (Q := fun z => zs_C σ0 z) (zs_wrt pt_1 (fun _ => rfl) (fun _ => rfl)) (fun σ_7 hσ_7 => ?_)
    obtain ⟨ret, er, hr⟩ := zc_594 hσ_7 h_x1 h_x2 g3 h_x4
    refine ⟨ret, er, ?_⟩
    exact hr
  · skip
    have r4 := (zs_I_eqn c1)
    have g5 : zs_in (x3).toInt 0 0 := (zs_neh 0 0 r4 h_x3 zlI_1 (by decide))
    obtain ⟨ret, er, hr⟩ := zc_597 pt_1 h_x1 h_x2 g5 h_x4
    refine ⟨ret, er, ?_⟩
    exact ⟨(zs_w hr.1 (by decide)), hr.2⟩
-- BX8_rests_118
theorem zc_599 {σ0 : sn_S} {σ : sn_S} (h_σ : zs_C σ0 σ) {x1 : Int32} (h_x1 : zs_in x1.toInt 0 5) {x2 : Int32} (h_x2 : zs_in x2.toInt 0 5) {x3 : Int32} (h_x3 : zs_in x3.toInt 0 15) {x4 : Int32} (h_x4 : zs_in x4.toInt 0 1) {x5 : Int32} (h_x5 : zs_in x5.toInt 0 1) {c : Int} (hc : x5.toInt = c + 0) : zs_ok (BX8_rests_118 σ x1 x2 x3 x4 x5) (fun r => zs_sum (fun v => ((zs_C σ0 v.1 ∧ (zs_in (v.2.1).toInt 0 15 ∧ zs_in (v.2.2).toInt 1 2))) ∧ v.2.2.toInt = c + 1) (fun v => False) r) := by
  unfold BX8_rests_118
  refine zs_lt (Q := fun z => zs_in z.toInt 1 2 ∧ z.toInt = c + 1) ⟨(zs_addI 1 2 h_x5 zlI_1 (by decide)), (zs_syI 1 hc h_x5 zlI_1 (by decide) (by decide))⟩ (fun y_1 hy_1 => ?_)
  exact zs_some (zs_inl ⟨⟨h_σ, ⟨h_x3, hy_1.1⟩⟩, hy_1.2⟩)
-- BX8_rests_74
theorem zc_600 {σ0 : sn_S} {σ : sn_S} (h_σ : zs_C σ0 σ) {x1 : Int32} (h_x1 : zs_in x1.toInt 0 5) {x2 : Int32} (h_x2 : zs_in x2.toInt 0 5) {x3 : Int32} (h_x3 : zs_in x3.toInt 0 15) {x4 : Int32} (h_x4 : zs_in x4.toInt 0 1) {x5 : Int32} (h_x5 : zs_in x5.toInt 0 1) {t0 : Int32} (h_t0 : zs_in t0.toInt 0 0) {c : Int} (hc : x5.toInt = c + 0) : zs_ok (BX8_rests_74 σ x1 x2 x3 x4 x5 t0) (fun r => zs_sum (fun v => ((zs_C σ0 v.1 ∧ (zs_in (v.2.1).toInt 0 15 ∧ zs_in (v.2.2).toInt 1 2))) ∧ v.2.2.toInt = c + 1) (fun v => False) r) := by
  unfold BX8_rests_74
  obtain rfl : t0 = (0 : Int32) := zs_eqv h_t0 (by decide)
  refine zs_ite (fun c1 => ?_) (fun c1 => ?_)
  · skip
    have r2 := (zs_I_eq c1)
    obtain ⟨ret, er, hr⟩ := zc_599 h_σ h_x1 h_x2 h_x3 h_x4 h_x5 hc
    refine ⟨ret, er, ?_⟩
    exact (zs_sumw hr (fun v w => ⟨w.1, w.2⟩) (fun v w => w.elim))
  · skip
    have r3 := (zs_I_eqn c1)
    exact (zs_botne r3 h_t0 zlI_0 (by decide)).elim
-- BX8_rests_74
theorem zc_601 {σ0 : sn_S} {σ : sn_S} (h_σ : zs_C σ0 σ) {x1 : Int32} (h_x1 : zs_in x1.toInt 0 5) {x2 : Int32} (h_x2 : zs_in x2.toInt 0 5) {x3 : Int32} (h_x3 : zs_in x3.toInt 0 15) {x4 : Int32} (h_x4 : zs_in x4.toInt 0 1) {x5 : Int32} (h_x5 : zs_in x5.toInt 0 1) {t0 : Int32} (h_t0 : zs_in t0.toInt 1 1) {c : Int} (hc : x5.toInt = c + 0) : zs_ok (BX8_rests_74 σ x1 x2 x3 x4 x5 t0) (fun r => zs_sum (fun v => ((zs_C σ0 v.1 ∧ (zs_in (v.2.1).toInt 0 15 ∧ zs_in (v.2.2).toInt 1 2))) ∧ v.2.2.toInt = c + 1) (fun v => False) r) := by
  unfold BX8_rests_74
  obtain rfl : t0 = (1 : Int32) := zs_eqv h_t0 (by decide)
  refine zs_ite (fun c1 => ?_) (fun c1 => ?_)
  · skip
    have r2 := (zs_I_eq c1)
    exact (zs_botr r2 h_t0 zlI_0 (by decide)).elim
  · skip
    have r3 := (zs_I_eqn c1)
    refine zs_bd_ (zc_598 h_σ h_x2 h_x1 h_x5 h_x4) (fun t_2 pt_2 => ?_)
    refine zs_bd_ (zc_598 pt_2.2 h_x2 h_x1 (zs_subI 0 1 zlI_1 h_x5 (by decide)) h_x4) (fun t_4 pt_4 => ?_)
    refine zs_ite (fun c4 => ?_) (fun c4 => ?_)
    · skip
      have r5 := (zs_I_lt c4)
      have g6 : zs_in (t_4.1).toInt 0 96 := (zs_ltl 0 96 r5 pt_4.1 pt_2.1 (by decide))
      have g7 : zs_in (t_2.1).toInt 1 97 := (zs_ltr 1 97 r5 pt_4.1 pt_2.1 (by decide))
      obtain ⟨ret, er, hr⟩ := zc_599 pt_4.2 h_x1 h_x2 h_x3 h_x4 h_x5 hc
      refine ⟨ret, er, ?_⟩
      exact (zs_sumw hr (fun v w => ⟨w.1, w.2⟩) (fun v w => w.elim))
    · skip
      have r8 := (zs_I_ltn c4)
      refine zs_lt (Q := fun z => zs_in z.toInt 0 15) (zs_or 4 15 h_x3 (zs_cases (zs_addI 0 3 h_x4 (zs_mulI 0 2 zlI_2 h_x5 (by decide)) (by decide)) (fun z => zs_in ((1 : Int32) <<< (z &&& 31)).toInt 1 8) (by decide +kernel)) (by decide)) (fun y_7 hy_7 => ?_)
      obtain ⟨ret, er, hr⟩ := zc_599 pt_4.2 h_x1 h_x2 hy_7 h_x4 h_x5 hc
      refine ⟨ret, er, ?_⟩
      exact (zs_sumw hr (fun v w => ⟨w.1, w.2⟩) (fun v w => w.elim))
-- BX8_rests_38
theorem zc_602 {σ0 : sn_S} {σ : sn_S} (h_σ : zs_C σ0 σ) {x1 : Int32} (h_x1 : zs_in x1.toInt 0 5) {x2 : Int32} (h_x2 : zs_in x2.toInt 0 5) {x3 : Int32} (h_x3 : zs_in x3.toInt 0 15) {x4 : Int32} (h_x4 : zs_in x4.toInt 0 1) {x5 : Int32} (h_x5 : zs_in x5.toInt 0 2) {c : Int} (hc : x5.toInt = c + 0) : zs_ok (BX8_rests_38 σ x1 x2 x3 x4 x5) (fun r => zs_sum (fun v => ((zs_C σ0 v.1 ∧ (zs_in (v.2.1).toInt 0 15 ∧ zs_in (v.2.2).toInt 1 2))) ∧ v.2.2.toInt = c + 1) (fun v => (zs_C σ0 v.1 ∧ zs_in (v.2).toInt 0 15)) r) := by
  unfold BX8_rests_38
  refine zs_ite (fun c1 => ?_) (fun c1 => ?_)
  · skip
    have r2 := (zs_I_le c1)
    have g3 : zs_in (x5).toInt 2 2 := (zs_ler 2 2 r2 zlI_2 h_x5 (by decide))
    exact zs_some (zs_inr (⟨h_σ, h_x3⟩))
  · skip
    have r4 := (zs_I_len c1)
    have g5 : zs_in (x5).toInt 0 1 := (zs_ltl 0 1 r4 h_x5 zlI_2 (by decide))
    refine zs_bd_ (zc_598 h_σ h_x1 h_x2 h_x4 g5) (fun t_2 pt_2 => ?_)
    refine zs_bd_ (zc_598 pt_2.2 h_x1 h_x2 (zs_subI 0 1 zlI_1 h_x4 (by decide)) g5) (fun t_4 pt_4 => ?_)
    refine zs_ite (fun c6 => ?_) (fun c6 => ?_)
    · skip
      have r7 := (zs_I_lt c6)
      have g8 : zs_in (t_4.1).toInt 0 96 := (zs_ltl 0 96 r7 pt_4.1 pt_2.1 (by decide))
      have g9 : zs_in (t_2.1).toInt 1 97 := (zs_ltr 1 97 r7 pt_4.1 pt_2.1 (by decide))
      obtain ⟨ret, er, hr⟩ := zc_600 pt_4.2 h_x1 h_x2 h_x3 h_x4 g5 zlI_0 hc
      refine ⟨ret, er, ?_⟩
      exact (zs_sumw hr (fun v w => ⟨w.1, w.2⟩) (fun v w => w.elim))
    · skip
      have r10 := (zs_I_ltn c6)
      obtain ⟨ret, er, hr⟩ := zc_601 pt_4.2 h_x1 h_x2 h_x3 h_x4 g5 zlI_1 hc
      refine ⟨ret, er, ?_⟩
      exact (zs_sumw hr (fun v w => ⟨w.1, w.2⟩) (fun v w => w.elim))
theorem zd_109 {σ0 : sn_S} {x1 : Int32} (h_x1 : zs_in x1.toInt 0 5) {x2 : Int32} (h_x2 : zs_in x2.toInt 0 5) {x4 : Int32} (h_x4 : zs_in x4.toInt 0 1) {s0 : (sn_S × (Int32 × Int32))} (h0 : (zs_C σ0 s0.1 ∧ (zs_in (s0.2.1).toInt 0 15 ∧ zs_in (s0.2.2).toInt 0 2))) : zs_ok (sn_it (LX8_rests_38 x1 x2 x4) 5000 s0) (fun t => (zs_C σ0 t.1 ∧ zs_in (t.2).toInt 0 15)) := by
  refine zs_it (I := fun s => (zs_C σ0 s.1 ∧ (zs_in (s.2.1).toInt 0 15 ∧ zs_in (s.2.2).toInt 0 2))) (m := fun s => 2 - s.2.2.toInt) (fun s hs => ?_) (fun s hs => ?_) (by exact h0)
  · have h1 := hs.2.2; unfold zs_in at h1
    omega
  · obtain ⟨b, eb, hb⟩ := zc_602 hs.1 h_x1 h_x2 hs.2.1 h_x4 hs.2.2 (c := s.2.2.toInt) (Int.add_zero _).symm
    exact ⟨b, eb, zs_sumw hb (fun v w => ⟨⟨w.1.1, ⟨w.1.2.1, (zs_w w.1.2.2 (by decide))⟩⟩, by have := w.2; omega⟩) (fun v w => w)⟩
-- BX8_rests_124
theorem zc_603 {σ0 : sn_S} {σ : sn_S} (h_σ : zs_C σ0 σ) {x1 : Int32} (h_x1 : zs_in x1.toInt 0 5) {x2 : Int32} (h_x2 : zs_in x2.toInt 0 5) {x3 : Int32} (h_x3 : zs_in x3.toInt 0 15) {x4 : Int32} (h_x4 : zs_in x4.toInt 0 1) {c : Int} (hc : x4.toInt = c + 0) : zs_ok (BX8_rests_124 σ x1 x2 x3 x4) (fun r => zs_sum (fun v => ((zs_C σ0 v.1 ∧ (zs_in (v.2.1).toInt 0 15 ∧ zs_in (v.2.2).toInt 1 2))) ∧ v.2.2.toInt = c + 1) (fun v => False) r) := by
  unfold BX8_rests_124
  refine zs_lt (Q := fun z => zs_in z.toInt 1 2 ∧ z.toInt = c + 1) ⟨(zs_addI 1 2 h_x4 zlI_1 (by decide)), (zs_syI 1 hc h_x4 zlI_1 (by decide) (by decide))⟩ (fun y_1 hy_1 => ?_)
  exact zs_some (zs_inl ⟨⟨h_σ, ⟨h_x3, hy_1.1⟩⟩, hy_1.2⟩)
-- BX8_rests_29
theorem zc_604 {σ0 : sn_S} {σ : sn_S} (h_σ : zs_C σ0 σ) {x1 : Int32} (h_x1 : zs_in x1.toInt 0 5) {x2 : Int32} (h_x2 : zs_in x2.toInt 0 5) {x3 : Int32} (h_x3 : zs_in x3.toInt 0 15) {x4 : Int32} (h_x4 : zs_in x4.toInt 0 2) {c : Int} (hc : x4.toInt = c + 0) : zs_ok (BX8_rests_29 σ x1 x2 x3 x4) (fun r => zs_sum (fun v => ((zs_C σ0 v.1 ∧ (zs_in (v.2.1).toInt 0 15 ∧ zs_in (v.2.2).toInt 1 2))) ∧ v.2.2.toInt = c + 1) (fun v => (zs_C σ0 v.1 ∧ zs_in (v.2).toInt 0 15)) r) := by
  unfold BX8_rests_29
  refine zs_ite (fun c1 => ?_) (fun c1 => ?_)
  · skip
    have r2 := (zs_I_le c1)
    have g3 : zs_in (x4).toInt 2 2 := (zs_ler 2 2 r2 zlI_2 h_x4 (by decide))
    exact zs_some (zs_inr (⟨h_σ, h_x3⟩))
  · skip
    have r4 := (zs_I_len c1)
    have g5 : zs_in (x4).toInt 0 1 := (zs_ltl 0 1 r4 h_x4 zlI_2 (by decide))
    refine zs_bd_ (zd_109 h_x1 h_x2 g5 (s0 := (σ, (x3, (0 : Int32)))) ⟨h_σ, ⟨h_x3, (zs_w zlI_0 (by decide))⟩⟩) (fun t_2 pt_2 => ?_)
    obtain ⟨ret, er, hr⟩ := zc_603 pt_2.1 h_x1 h_x2 pt_2.2 g5 hc
    refine ⟨ret, er, ?_⟩
    exact (zs_sumw hr (fun v w => ⟨w.1, w.2⟩) (fun v w => w.elim))
theorem zd_110 {σ0 : sn_S} {x1 : Int32} (h_x1 : zs_in x1.toInt 0 5) {x2 : Int32} (h_x2 : zs_in x2.toInt 0 5) {s0 : (sn_S × (Int32 × Int32))} (h0 : (zs_C σ0 s0.1 ∧ (zs_in (s0.2.1).toInt 0 15 ∧ zs_in (s0.2.2).toInt 0 2))) : zs_ok (sn_it (LX8_rests_29 x1 x2) 5000 s0) (fun t => (zs_C σ0 t.1 ∧ zs_in (t.2).toInt 0 15)) := by
  refine zs_it (I := fun s => (zs_C σ0 s.1 ∧ (zs_in (s.2.1).toInt 0 15 ∧ zs_in (s.2.2).toInt 0 2))) (m := fun s => 2 - s.2.2.toInt) (fun s hs => ?_) (fun s hs => ?_) (by exact h0)
  · have h1 := hs.2.2; unfold zs_in at h1
    omega
  · obtain ⟨b, eb, hb⟩ := zc_604 hs.1 h_x1 h_x2 hs.2.1 hs.2.2 (c := s.2.2.toInt) (Int.add_zero _).symm
    exact ⟨b, eb, zs_sumw hb (fun v w => ⟨⟨w.1.1, ⟨w.1.2.1, (zs_w w.1.2.2 (by decide))⟩⟩, by have := w.2; omega⟩) (fun v w => w)⟩
-- BX8_rests_130
theorem zc_605 {σ0 : sn_S} {σ : sn_S} (h_σ : zs_C σ0 σ) {x3 : Int32} (h_x3 : zs_in x3.toInt 0 15) : zs_ok (BX8_rests_130 σ x3) (fun r => (zs_in (r.1).toInt 0 15 ∧ zs_C σ0 r.2)) := by
  unfold BX8_rests_130
  exact zs_some ⟨h_x3, h_σ⟩
-- fX8_rests
theorem zc_606 {σ0 : sn_S} {σ : sn_S} (h_σ : zs_C σ0 σ) {x1 : Int32} {x2 : Int32} : zs_ok (fX8_rests σ x1 x2) (fun r => ((zs_in (r.1).toInt (-2) 15 ∧ zs_C σ0 r.2)) ∧ ((r.1).toInt = (-2) ∨ (zs_in (x1).toInt 0 5 ∧ zs_in (x2).toInt 0 5))) := by
  unfold fX8_rests
  refine zs_bd_ (zc_3 h_σ) (fun t_1 pt_1 => ?_)
  refine zs_ite (fun c1 => ?_) (fun c1 => ?_)
  · skip
    have r2 := (zs_I_eq c1)
    have g3 : zs_in (t_1).toInt 0 0 := (zs_eql 0 0 r2 pt_1.1 zlI_0 (by decide))
    exact zs_some ⟨⟨(zs_w zlI_m2 (by decide)), h_σ⟩, Or.inl (zs_ptr zlI_m2)⟩
  · skip
    have r4 := (zs_I_eqn c1)
    have g5 : zs_in (t_1).toInt 1 1 := (zs_nel 1 1 r4 pt_1.1 zlI_0 (by decide))
    have q6 := (zs_or2 pt_1.2 g5 (by decide))
    have g7 : zs_in (x1).toInt 0 5 := q6
    refine zs_bd_ (zc_3 h_σ) (fun t_4 pt_4 => ?_)
    refine zs_ite (fun c8 => ?_) (fun c8 => ?_)
    · skip
      have r9 := (zs_I_eq c8)
      have g10 : zs_in (t_4).toInt 0 0 := (zs_eql 0 0 r9 pt_4.1 zlI_0 (by decide))
      exact zs_some ⟨⟨(zs_w zlI_m2 (by decide)), h_σ⟩, Or.inl (zs_ptr zlI_m2)⟩
    · skip
      have r11 := (zs_I_eqn c8)
      have g12 : zs_in (t_4).toInt 1 1 := (zs_nel 1 1 r11 pt_4.1 zlI_0 (by decide))
      have q13 := (zs_or2 pt_4.2 g12 (by decide))
      have g14 : zs_in (x2).toInt 0 5 := q13
      refine zs_ite (fun c15 => ?_) (fun c15 => ?_)
      · skip
        have r16 := (zs_I_eq c15)
        exact zs_some ⟨⟨(zs_w zlI_m2 (by decide)), h_σ⟩, Or.inl (zs_ptr zlI_m2)⟩
      · skip
        have r17 := (zs_I_eqn c15)
        refine zs_bd_ (zd_110 g7 g14 (s0 := (σ, ((0 : Int32), (0 : Int32)))) ⟨h_σ, ⟨(zs_w zlI_0 (by decide)), (zs_w zlI_0 (by decide))⟩⟩) (fun t_8 pt_8 => ?_)
        obtain ⟨ret, er, hr⟩ := zc_605 pt_8.1 pt_8.2
        refine ⟨ret, er, ?_⟩
        exact ⟨⟨(zs_w hr.1 (by decide)), hr.2⟩, Or.inr ⟨g7, g14⟩⟩
-- fX9_areTwo
theorem zc_607 {σ0 : sn_S} {σ : sn_S} (h_σ : zs_M σ0 σ) {x1 : Int32} {x2 : Int32} : zs_ok (fX9_areTwo σ x1 x2) (fun r => (zs_in (r).toInt 0 1) ∧ ((r).toInt = 0 ∨ (zs_in (x1).toInt 0 5 ∧ zs_in (x2).toInt 0 5))) := by
  unfold fX9_areTwo
  refine zs_bd_ (zc_6 h_σ (zs_64 (zs_topI _))) (fun t_1 pt_1 => ?_)
  refine zs_ite (fun c1 => ?_) (fun c1 => ?_)
  · skip
    have r2 := (zs_I_eq c1)
    have g3 : zs_in (t_1).toInt 0 0 := (zs_eql 0 0 r2 pt_1.1 zlI_0 (by decide))
    refine zs_gd (zs_b01 zlI_0 (by decide)) ?_
    exact zs_some ⟨(zs_w zlI_0 (by decide)), Or.inl (zs_ptr zlI_0)⟩
  · skip
    have r4 := (zs_I_eqn c1)
    have g5 : zs_in (t_1).toInt 1 1 := (zs_nel 1 1 r4 pt_1.1 zlI_0 (by decide))
    have q6 := (zs_or2 pt_1.2 g5 (by decide))
    have g7 : zs_in (x1.toInt64).toInt 0 5 := q6
    have g8 : zs_in (x1).toInt 0 5 := (zs_64r g7)
    refine zs_bd_ (zc_6 h_σ (zs_64 (zs_topI _))) (fun t_5 pt_5 => ?_)
    refine zs_ite (fun c9 => ?_) (fun c9 => ?_)
    · skip
      have r10 := (zs_I_eq c9)
      have g11 : zs_in (t_5).toInt 0 0 := (zs_eql 0 0 r10 pt_5.1 zlI_0 (by decide))
      refine zs_gd (zs_b01 zlI_0 (by decide)) ?_
      exact zs_some ⟨(zs_w zlI_0 (by decide)), Or.inl (zs_ptr zlI_0)⟩
    · skip
      have r12 := (zs_I_eqn c9)
      have g13 : zs_in (t_5).toInt 1 1 := (zs_nel 1 1 r12 pt_5.1 zlI_0 (by decide))
      have q14 := (zs_or2 pt_5.2 g13 (by decide))
      have g15 : zs_in (x2.toInt64).toInt 0 5 := q14
      have g16 : zs_in (x2).toInt 0 5 := (zs_64r g15)
      refine zs_ite (fun c17 => ?_) (fun c17 => ?_)
      · skip
        have r18 := (zs_I_eq c17)
        refine zs_gd (zs_b01 zlI_0 (by decide)) ?_
        exact zs_some ⟨(zs_w zlI_0 (by decide)), Or.inl (zs_ptr zlI_0)⟩
      · skip
        have r19 := (zs_I_eqn c17)
        refine zs_gd (zs_b01 zlI_1 (by decide)) ?_
        exact zs_some ⟨(zs_w zlI_1 (by decide)), Or.inr ⟨g8, g16⟩⟩
-- BX9_losesBy_94
theorem zc_608 {σ0 : sn_S} {σ : sn_S} (h_σ : zs_M σ0 σ) {t0 : Int32} {t1 : Int32} (h_t1 : zs_in t1.toInt 0 7) : zs_ok (BX9_losesBy_94 σ t0 t1) (fun r => (True ∧ zs_M σ0 r.2)) := by
  unfold BX9_losesBy_94
  exact zs_some ⟨trivial, h_σ⟩
-- BX9_losesBy_80
theorem zc_609 {σ0 : sn_S} {σ : sn_S} (h_σ : zs_M σ0 σ) {t0 : Int32} {t1 : Int32} (h_t1 : zs_in t1.toInt 1 1) : zs_ok (BX9_losesBy_80 σ t0 t1) (fun r => (True ∧ zs_M σ0 r.2)) := by
  unfold BX9_losesBy_80
  obtain rfl : t1 = (1 : Int32) := zs_eqv h_t1 (by decide)
  refine zs_ite (fun c1 => ?_) (fun c1 => ?_)
  · skip
    have r2 := (zs_I_eq c1)
    refine zs_bd_ (zc_21 h_σ) (fun t_2 pt_2 => ?_)
    obtain ⟨ret, er, hr⟩ := zc_608 h_σ (zs_divI 0 7 pt_2 zlI_4 (by decide))
    refine ⟨ret, er, ?_⟩
    exact hr
  · skip
    have r3 := (zs_I_eqn c1)
    exact (zs_botne r3 h_t1 zlI_1 (by decide)).elim
-- BX9_losesBy_55
theorem zc_610 {σ0 : sn_S} {σ : sn_S} (h_σ : zs_M σ0 σ) {x3 : Int32} (h_x3 : zs_in x3.toInt 1 1) {x4 : Int32} (h_x4 : zs_in x4.toInt 1 1) {x5 : Int32} (h_x5 : zs_in x5.toInt 0 0) {t0 : Int32} (h_t0 : zs_in t0.toInt 0 5) : zs_ok (BX9_losesBy_55 σ x3 x4 x5 t0) (fun r => (True ∧ zs_M σ0 r.2)) := by
  unfold BX9_losesBy_55
  obtain rfl : x3 = (1 : Int32) := zs_eqv h_x3 (by decide)
  obtain rfl : x4 = (1 : Int32) := zs_eqv h_x4 (by decide)
  obtain rfl : x5 = (0 : Int32) := zs_eqv h_x5 (by decide)
  refine zs_gd (zs_gin h_t0 (by decide)) ?_
  refine zs_bd_ (zc_109 (zs_rdu (q := 10) (z := (0, 1073741823)) h_σ.1 (fun _ => rfl))) (fun t_2 pt_2 => ?_)
  refine zs_ite (fun c1 => ?_) (fun c1 => ?_)
  · skip
    have r2 := (zs_I_eq c1)
    obtain ⟨ret, er, hr⟩ := zc_609 h_σ h_x3
    refine ⟨ret, er, ?_⟩
    exact hr
  · skip
    have r3 := (zs_I_eqn c1)
    exact (zs_botne r3 h_x5 zlI_0 (by decide)).elim
-- BX9_losesBy_41
theorem zc_611 {σ0 : sn_S} {σ : sn_S} (h_σ : zs_M σ0 σ) {x1 : Int32} (h_x1 : zs_in x1.toInt 0 5) {x2 : Int32} (h_x2 : zs_in x2.toInt 0 5) {x3 : Int32} (h_x3 : zs_in x3.toInt 1 1) {x4 : Int32} (h_x4 : zs_in x4.toInt 1 1) {x5 : Int32} (h_x5 : zs_in x5.toInt 0 0) : zs_ok (BX9_losesBy_41 σ x1 x2 x3 x4 x5) (fun r => (True ∧ zs_M σ0 r.2)) := by
  unfold BX9_losesBy_41
  obtain rfl : x3 = (1 : Int32) := zs_eqv h_x3 (by decide)
  obtain rfl : x4 = (1 : Int32) := zs_eqv h_x4 (by decide)
  obtain rfl : x5 = (0 : Int32) := zs_eqv h_x5 (by decide)
  refine zs_bd_ (zc_90 h_σ) (fun t_1 pt_1 => ?_)
  refine zs_ite (fun c1 => ?_) (fun c1 => ?_)
  · skip
    have r2 := (zs_I_eq c1)
    obtain ⟨ret, er, hr⟩ := zc_610 pt_1 h_x3 h_x4 h_x5 h_x1
    refine ⟨ret, er, ?_⟩
    exact hr
  · skip
    have r3 := (zs_I_eqn c1)
    exact (zs_botne r3 h_x5 zlI_0 (by decide)).elim
-- BX9_losesBy_55
theorem zc_612 {σ0 : sn_S} {σ : sn_S} (h_σ : zs_M σ0 σ) {x3 : Int32} (h_x3 : zs_in x3.toInt 1 1) {x4 : Int32} {x5 : Int32} (h_x5 : zs_in x5.toInt 0 0) {t0 : Int32} (h_t0 : zs_in t0.toInt 0 5) : zs_ok (BX9_losesBy_55 σ x3 x4 x5 t0) (fun r => (True ∧ zs_M σ0 r.2)) := by
  unfold BX9_losesBy_55
  obtain rfl : x3 = (1 : Int32) := zs_eqv h_x3 (by decide)
  obtain rfl : x5 = (0 : Int32) := zs_eqv h_x5 (by decide)
  refine zs_gd (zs_gin h_t0 (by decide)) ?_
  refine zs_bd_ (zc_109 (zs_rdu (q := 10) (z := (0, 1073741823)) h_σ.1 (fun _ => rfl))) (fun t_2 pt_2 => ?_)
  refine zs_ite (fun c1 => ?_) (fun c1 => ?_)
  · skip
    have r2 := (zs_I_eq c1)
    obtain ⟨ret, er, hr⟩ := zc_609 h_σ h_x3
    refine ⟨ret, er, ?_⟩
    exact hr
  · skip
    have r3 := (zs_I_eqn c1)
    exact (zs_botne r3 h_x5 zlI_0 (by decide)).elim
-- BX9_losesBy_41
theorem zc_613 {σ0 : sn_S} {σ : sn_S} (h_σ : zs_M σ0 σ) {x1 : Int32} (h_x1 : zs_in x1.toInt 0 5) {x2 : Int32} (h_x2 : zs_in x2.toInt 0 5) {x3 : Int32} (h_x3 : zs_in x3.toInt 1 1) {x4 : Int32} {x5 : Int32} (h_x5 : zs_in x5.toInt 0 0) : zs_ok (BX9_losesBy_41 σ x1 x2 x3 x4 x5) (fun r => (True ∧ zs_M σ0 r.2)) := by
  unfold BX9_losesBy_41
  obtain rfl : x3 = (1 : Int32) := zs_eqv h_x3 (by decide)
  obtain rfl : x5 = (0 : Int32) := zs_eqv h_x5 (by decide)
  refine zs_bd_ (zc_90 h_σ) (fun t_1 pt_1 => ?_)
  refine zs_ite (fun c1 => ?_) (fun c1 => ?_)
  · skip
    have r2 := (zs_I_eq c1)
    obtain ⟨ret, er, hr⟩ := zc_612 pt_1 h_x3 h_x5 h_x1
    refine ⟨ret, er, ?_⟩
    exact hr
  · skip
    have r3 := (zs_I_eqn c1)
    exact (zs_botne r3 h_x5 zlI_0 (by decide)).elim
-- BX9_losesBy_27
theorem zc_614 {σ0 : sn_S} {σ : sn_S} (h_σ : zs_M σ0 σ) {x1 : Int32} (h_x1 : zs_in x1.toInt 0 5) {x2 : Int32} (h_x2 : zs_in x2.toInt 0 5) {x3 : Int32} (h_x3 : zs_in x3.toInt 1 1) {x4 : Int32} {x5 : Int32} (h_x5 : zs_in x5.toInt 0 0) {x6 : Int32} (h_x6 : zs_in x6.toInt 0 1073741823) : zs_ok (BX9_losesBy_27 σ x1 x2 x3 x4 x5 x6) (fun r => (True ∧ zs_M σ0 r.2)) := by
  unfold BX9_losesBy_27
  obtain rfl : x3 = (1 : Int32) := zs_eqv h_x3 (by decide)
  obtain rfl : x5 = (0 : Int32) := zs_eqv h_x5 (by decide)
  refine zs_ite (fun c1 => ?_) (fun c1 => ?_)
  · skip
    have r2 := (zs_I_eq c1)
    have g3 : zs_in (x4).toInt 1 1 := (zs_eql 1 1 r2 (zs_topI _) zlI_1 (by decide))
    refine zs_gd (zs_gin h_x2 (by decide)) ?_
    refine zs_lt (Q := fun z => zs_M σ0 z) (zs_wrt h_σ (fun _ => rfl) (fun _ => rfl)) (fun σ_3 hσ_3 => ?_)
    obtain ⟨ret, er, hr⟩ := zc_611 hσ_3 h_x1 h_x2 h_x3 g3 h_x5
    refine ⟨ret, er, ?_⟩
    exact hr
  · skip
    have r4 := (zs_I_eqn c1)
    obtain ⟨ret, er, hr⟩ := zc_613 h_σ h_x1 h_x2 h_x3 h_x5
    refine ⟨ret, er, ?_⟩
    exact hr
-- BX9_losesBy_94
theorem zc_615 {σ0 : sn_S} {σ : sn_S} (h_σ : zs_M σ0 σ) {t0 : Int32} {t1 : Int32} (h_t1 : zs_in t1.toInt 0 0) : zs_ok (BX9_losesBy_94 σ t0 t1) (fun r => (True ∧ zs_M σ0 r.2)) := by
  unfold BX9_losesBy_94
  obtain rfl : t1 = (0 : Int32) := zs_eqv h_t1 (by decide)
  exact zs_some ⟨trivial, h_σ⟩
-- BX9_losesBy_80
theorem zc_616 {σ0 : sn_S} {σ : sn_S} (h_σ : zs_M σ0 σ) {t0 : Int32} {t1 : Int32} (h_t1 : zs_in t1.toInt 0 0) : zs_ok (BX9_losesBy_80 σ t0 t1) (fun r => (True ∧ zs_M σ0 r.2)) := by
  unfold BX9_losesBy_80
  obtain rfl : t1 = (0 : Int32) := zs_eqv h_t1 (by decide)
  refine zs_ite (fun c1 => ?_) (fun c1 => ?_)
  · skip
    have r2 := (zs_I_eq c1)
    exact (zs_botr r2 h_t1 zlI_1 (by decide)).elim
  · skip
    have r3 := (zs_I_eqn c1)
    obtain ⟨ret, er, hr⟩ := zc_615 h_σ zlI_0
    refine ⟨ret, er, ?_⟩
    exact hr
-- BX9_losesBy_55
theorem zc_617 {σ0 : sn_S} {σ : sn_S} (h_σ : zs_M σ0 σ) {x3 : Int32} (h_x3 : zs_in x3.toInt 0 0) {x4 : Int32} (h_x4 : zs_in x4.toInt 1 1) {x5 : Int32} (h_x5 : zs_in x5.toInt 0 0) {t0 : Int32} (h_t0 : zs_in t0.toInt 0 5) : zs_ok (BX9_losesBy_55 σ x3 x4 x5 t0) (fun r => (True ∧ zs_M σ0 r.2)) := by
  unfold BX9_losesBy_55
  obtain rfl : x3 = (0 : Int32) := zs_eqv h_x3 (by decide)
  obtain rfl : x4 = (1 : Int32) := zs_eqv h_x4 (by decide)
  obtain rfl : x5 = (0 : Int32) := zs_eqv h_x5 (by decide)
  refine zs_gd (zs_gin h_t0 (by decide)) ?_
  refine zs_bd_ (zc_109 (zs_rdu (q := 10) (z := (0, 1073741823)) h_σ.1 (fun _ => rfl))) (fun t_2 pt_2 => ?_)
  refine zs_ite (fun c1 => ?_) (fun c1 => ?_)
  · skip
    have r2 := (zs_I_eq c1)
    obtain ⟨ret, er, hr⟩ := zc_616 h_σ h_x3
    refine ⟨ret, er, ?_⟩
    exact hr
  · skip
    have r3 := (zs_I_eqn c1)
    exact (zs_botne r3 h_x5 zlI_0 (by decide)).elim
-- BX9_losesBy_41
theorem zc_618 {σ0 : sn_S} {σ : sn_S} (h_σ : zs_M σ0 σ) {x1 : Int32} (h_x1 : zs_in x1.toInt 0 5) {x2 : Int32} (h_x2 : zs_in x2.toInt 0 5) {x3 : Int32} (h_x3 : zs_in x3.toInt 0 0) {x4 : Int32} (h_x4 : zs_in x4.toInt 1 1) {x5 : Int32} (h_x5 : zs_in x5.toInt 0 0) : zs_ok (BX9_losesBy_41 σ x1 x2 x3 x4 x5) (fun r => (True ∧ zs_M σ0 r.2)) := by
  unfold BX9_losesBy_41
  obtain rfl : x3 = (0 : Int32) := zs_eqv h_x3 (by decide)
  obtain rfl : x4 = (1 : Int32) := zs_eqv h_x4 (by decide)
  obtain rfl : x5 = (0 : Int32) := zs_eqv h_x5 (by decide)
  refine zs_bd_ (zc_90 h_σ) (fun t_1 pt_1 => ?_)
  refine zs_ite (fun c1 => ?_) (fun c1 => ?_)
  · skip
    have r2 := (zs_I_eq c1)
    obtain ⟨ret, er, hr⟩ := zc_617 pt_1 h_x3 h_x4 h_x5 h_x1
    refine ⟨ret, er, ?_⟩
    exact hr
  · skip
    have r3 := (zs_I_eqn c1)
    exact (zs_botne r3 h_x5 zlI_0 (by decide)).elim
-- BX9_losesBy_55
theorem zc_619 {σ0 : sn_S} {σ : sn_S} (h_σ : zs_M σ0 σ) {x3 : Int32} (h_x3 : zs_in x3.toInt 0 0) {x4 : Int32} {x5 : Int32} (h_x5 : zs_in x5.toInt 0 0) {t0 : Int32} (h_t0 : zs_in t0.toInt 0 5) : zs_ok (BX9_losesBy_55 σ x3 x4 x5 t0) (fun r => (True ∧ zs_M σ0 r.2)) := by
  unfold BX9_losesBy_55
  obtain rfl : x3 = (0 : Int32) := zs_eqv h_x3 (by decide)
  obtain rfl : x5 = (0 : Int32) := zs_eqv h_x5 (by decide)
  refine zs_gd (zs_gin h_t0 (by decide)) ?_
  refine zs_bd_ (zc_109 (zs_rdu (q := 10) (z := (0, 1073741823)) h_σ.1 (fun _ => rfl))) (fun t_2 pt_2 => ?_)
  refine zs_ite (fun c1 => ?_) (fun c1 => ?_)
  · skip
    have r2 := (zs_I_eq c1)
    obtain ⟨ret, er, hr⟩ := zc_616 h_σ h_x3
    refine ⟨ret, er, ?_⟩
    exact hr
  · skip
    have r3 := (zs_I_eqn c1)
    exact (zs_botne r3 h_x5 zlI_0 (by decide)).elim
-- BX9_losesBy_41
theorem zc_620 {σ0 : sn_S} {σ : sn_S} (h_σ : zs_M σ0 σ) {x1 : Int32} (h_x1 : zs_in x1.toInt 0 5) {x2 : Int32} (h_x2 : zs_in x2.toInt 0 5) {x3 : Int32} (h_x3 : zs_in x3.toInt 0 0) {x4 : Int32} {x5 : Int32} (h_x5 : zs_in x5.toInt 0 0) : zs_ok (BX9_losesBy_41 σ x1 x2 x3 x4 x5) (fun r => (True ∧ zs_M σ0 r.2)) := by
  unfold BX9_losesBy_41
  obtain rfl : x3 = (0 : Int32) := zs_eqv h_x3 (by decide)
  obtain rfl : x5 = (0 : Int32) := zs_eqv h_x5 (by decide)
  refine zs_bd_ (zc_90 h_σ) (fun t_1 pt_1 => ?_)
  refine zs_ite (fun c1 => ?_) (fun c1 => ?_)
  · skip
    have r2 := (zs_I_eq c1)
    obtain ⟨ret, er, hr⟩ := zc_619 pt_1 h_x3 h_x5 h_x1
    refine ⟨ret, er, ?_⟩
    exact hr
  · skip
    have r3 := (zs_I_eqn c1)
    exact (zs_botne r3 h_x5 zlI_0 (by decide)).elim
-- BX9_losesBy_27
theorem zc_621 {σ0 : sn_S} {σ : sn_S} (h_σ : zs_M σ0 σ) {x1 : Int32} (h_x1 : zs_in x1.toInt 0 5) {x2 : Int32} (h_x2 : zs_in x2.toInt 0 5) {x3 : Int32} (h_x3 : zs_in x3.toInt 0 0) {x4 : Int32} {x5 : Int32} (h_x5 : zs_in x5.toInt 0 0) {x6 : Int32} (h_x6 : zs_in x6.toInt 0 1073741823) : zs_ok (BX9_losesBy_27 σ x1 x2 x3 x4 x5 x6) (fun r => (True ∧ zs_M σ0 r.2)) := by
  unfold BX9_losesBy_27
  obtain rfl : x3 = (0 : Int32) := zs_eqv h_x3 (by decide)
  obtain rfl : x5 = (0 : Int32) := zs_eqv h_x5 (by decide)
  refine zs_ite (fun c1 => ?_) (fun c1 => ?_)
  · skip
    have r2 := (zs_I_eq c1)
    have g3 : zs_in (x4).toInt 1 1 := (zs_eql 1 1 r2 (zs_topI _) zlI_1 (by decide))
    refine zs_gd (zs_gin h_x2 (by decide)) ?_
    refine zs_lt (Q := fun z => zs_M σ0 z) (zs_wrt h_σ (fun _ => rfl) (fun _ => rfl)) (fun σ_3 hσ_3 => ?_)
    obtain ⟨ret, er, hr⟩ := zc_618 hσ_3 h_x1 h_x2 h_x3 g3 h_x5
    refine ⟨ret, er, ?_⟩
    exact hr
  · skip
    have r4 := (zs_I_eqn c1)
    obtain ⟨ret, er, hr⟩ := zc_620 h_σ h_x1 h_x2 h_x3 h_x5
    refine ⟨ret, er, ?_⟩
    exact hr
-- fX9_losesBy
theorem zc_622 {σ0 : sn_S} {σ : sn_S} (h_σ : zs_M σ0 σ) {x1 : Int32} (h_x1 : zs_in x1.toInt 0 5) {x2 : Int32} (h_x2 : zs_in x2.toInt 0 5) {x3 : Int32} (h_x3 : zs_in x3.toInt 0 1) {x4 : Int32} {x5 : Int32} (h_x5 : zs_in x5.toInt 0 0) : zs_ok (fX9_losesBy σ x1 x2 x3 x4 x5) (fun r => (True ∧ zs_M σ0 r.2)) := by
  unfold fX9_losesBy
  obtain rfl : x5 = (0 : Int32) := zs_eqv h_x5 (by decide)
  refine zs_bd_ (zc_31 h_σ) (fun t_1 pt_1 => ?_)
  refine zs_bd_ (zc_21 pt_1) (fun t_3 pt_3 => ?_)
  refine zs_lt (Q := fun z => zs_in z.toInt 0 1073741823) (zs_subI 0 1073741823 (zs_cases pt_3 (fun z => zs_in ((1 : Int32) <<< (z &&& 31)).toInt 1 1073741824) (by decide +kernel)) zlI_1 (by decide)) (fun y_5 hy_5 => ?_)
  refine zs_ite (fun c1 => ?_) (fun c1 => ?_)
  · skip
    have r2 := (zs_I_eq c1)
    have g3 : zs_in (x3).toInt 1 1 := (zs_eql 1 1 r2 h_x3 zlI_1 (by decide))
    refine zs_gd (zs_gin h_x1 (by decide)) ?_
    refine zs_lt (Q := fun z => zs_M σ0 z) (zs_wrt pt_1 (fun _ => rfl) (fun _ => rfl)) (fun σ_9 hσ_9 => ?_)
    obtain ⟨ret, er, hr⟩ := zc_614 hσ_9 h_x1 h_x2 g3 h_x5 hy_5
    refine ⟨ret, er, ?_⟩
    exact hr
  · skip
    have r4 := (zs_I_eqn c1)
    have g5 : zs_in (x3).toInt 0 0 := (zs_neh 0 0 r4 h_x3 zlI_1 (by decide))
    obtain ⟨ret, er, hr⟩ := zc_621 pt_1 h_x1 h_x2 g5 h_x5 hy_5
    refine ⟨ret, er, ?_⟩
    exact hr
-- BX9_rests_110
theorem zc_623 {σ0 : sn_S} {σ : sn_S} (h_σ : zs_M σ0 σ) {x1 : Int32} (h_x1 : zs_in x1.toInt 0 5) {x2 : Int32} (h_x2 : zs_in x2.toInt 0 5) {x3 : Int32} (h_x3 : zs_in x3.toInt 0 15) {x4 : Int32} (h_x4 : zs_in x4.toInt 0 3) {t0 : Int32} (h_t0 : zs_in t0.toInt 0 15) {t1 : Int32} (h_t1 : zs_in t1.toInt 0 0) {c : Int} (hc : x4.toInt = c + 0) : zs_ok (BX9_rests_110 σ x1 x2 x3 x4 t0 t1) (fun r => zs_sum (fun v => ((zs_M σ0 v.1 ∧ (zs_in (v.2.1).toInt 0 15 ∧ zs_in (v.2.2).toInt 1 4))) ∧ v.2.2.toInt = c + 1) (fun v => False) r) := by
  unfold BX9_rests_110
  obtain rfl : t1 = (0 : Int32) := zs_eqv h_t1 (by decide)
  refine zs_lt (Q := fun z => zs_in z.toInt 0 15) (zs_or 4 15 h_t0 h_t1 (by decide)) (fun y_1 hy_1 => ?_)
  refine zs_lt (Q := fun z => zs_in z.toInt 1 4 ∧ z.toInt = c + 1) ⟨(zs_addI 1 4 h_x4 zlI_1 (by decide)), (zs_syI 1 hc h_x4 zlI_1 (by decide) (by decide))⟩ (fun y_3 hy_3 => ?_)
  exact zs_some (zs_inl ⟨⟨h_σ, ⟨hy_1, hy_3.1⟩⟩, hy_3.2⟩)
-- BX9_rests_94
theorem zc_624 {σ0 : sn_S} {σ : sn_S} (h_σ : zs_M σ0 σ) {x1 : Int32} (h_x1 : zs_in x1.toInt 0 5) {x2 : Int32} (h_x2 : zs_in x2.toInt 0 5) {x3 : Int32} (h_x3 : zs_in x3.toInt 0 15) {x4 : Int32} (h_x4 : zs_in x4.toInt 0 3) {t0 : Int32} (h_t0 : zs_in t0.toInt 0 0) {c : Int} (hc : x4.toInt = c + 0) : zs_ok (BX9_rests_94 σ x1 x2 x3 x4 t0) (fun r => zs_sum (fun v => ((zs_M σ0 v.1 ∧ (zs_in (v.2.1).toInt 0 15 ∧ zs_in (v.2.2).toInt 1 4))) ∧ v.2.2.toInt = c + 1) (fun v => False) r) := by
  unfold BX9_rests_94
  obtain rfl : t0 = (0 : Int32) := zs_eqv h_t0 (by decide)
  refine zs_ite (fun c1 => ?_) (fun c1 => ?_)
  · skip
    have r2 := (zs_I_eq c1)
    obtain ⟨ret, er, hr⟩ := zc_623 h_σ h_x1 h_x2 h_x3 h_x4 h_x3 zlI_0 hc
    refine ⟨ret, er, ?_⟩
    exact (zs_sumw hr (fun v w => ⟨w.1, w.2⟩) (fun v w => w.elim))
  · skip
    have r3 := (zs_I_eqn c1)
    exact (zs_botne r3 h_t0 zlI_0 (by decide)).elim
-- BX9_rests_93
theorem zc_625 {σ0 : sn_S} {σ : sn_S} (h_σ : zs_M σ0 σ) {x1 : Int32} (h_x1 : zs_in x1.toInt 0 5) {x2 : Int32} (h_x2 : zs_in x2.toInt 0 5) {x3 : Int32} (h_x3 : zs_in x3.toInt 0 15) {x4 : Int32} (h_x4 : zs_in x4.toInt 0 3) {c : Int} (hc : x4.toInt = c + 0) : zs_ok (BX9_rests_93 σ x1 x2 x3 x4) (fun r => zs_sum (fun v => ((zs_M σ0 v.1 ∧ (zs_in (v.2.1).toInt 0 15 ∧ zs_in (v.2.2).toInt 1 4))) ∧ v.2.2.toInt = c + 1) (fun v => False) r) := by
  unfold BX9_rests_93
  obtain ⟨ret, er, hr⟩ := zc_624 h_σ h_x1 h_x2 h_x3 h_x4 zlI_0 hc
  refine ⟨ret, er, ?_⟩
  exact (zs_sumw hr (fun v w => ⟨w.1, w.2⟩) (fun v w => w.elim))
-- BX9_losesBy_55
theorem zc_626 {σ0 : sn_S} {σ : sn_S} (h_σ : zs_M σ0 σ) {x3 : Int32} (h_x3 : zs_in x3.toInt 1 1) {x4 : Int32} (h_x4 : zs_in x4.toInt 1 1) {x5 : Int32} (h_x5 : zs_in x5.toInt 1 1) {t0 : Int32} (h_t0 : zs_in t0.toInt 0 5) : zs_ok (BX9_losesBy_55 σ x3 x4 x5 t0) (fun r => (True ∧ zs_M σ0 r.2)) := by
  unfold BX9_losesBy_55
  obtain rfl : x3 = (1 : Int32) := zs_eqv h_x3 (by decide)
  obtain rfl : x4 = (1 : Int32) := zs_eqv h_x4 (by decide)
  obtain rfl : x5 = (1 : Int32) := zs_eqv h_x5 (by decide)
  refine zs_gd (zs_gin h_t0 (by decide)) ?_
  refine zs_bd_ (zc_109 (zs_rdu (q := 10) (z := (0, 1073741823)) h_σ.1 (fun _ => rfl))) (fun t_2 pt_2 => ?_)
  refine zs_ite (fun c1 => ?_) (fun c1 => ?_)
  · skip
    have r2 := (zs_I_eq c1)
    exact (zs_botr r2 h_x5 zlI_0 (by decide)).elim
  · skip
    have r3 := (zs_I_eqn c1)
    obtain ⟨ret, er, hr⟩ := zc_609 h_σ h_x4
    refine ⟨ret, er, ?_⟩
    exact hr
-- BX9_losesBy_41
theorem zc_627 {σ0 : sn_S} {σ : sn_S} (h_σ : zs_M σ0 σ) {x1 : Int32} (h_x1 : zs_in x1.toInt 0 5) {x2 : Int32} (h_x2 : zs_in x2.toInt 0 5) {x3 : Int32} (h_x3 : zs_in x3.toInt 1 1) {x4 : Int32} (h_x4 : zs_in x4.toInt 1 1) {x5 : Int32} (h_x5 : zs_in x5.toInt 1 1) : zs_ok (BX9_losesBy_41 σ x1 x2 x3 x4 x5) (fun r => (True ∧ zs_M σ0 r.2)) := by
  unfold BX9_losesBy_41
  obtain rfl : x3 = (1 : Int32) := zs_eqv h_x3 (by decide)
  obtain rfl : x4 = (1 : Int32) := zs_eqv h_x4 (by decide)
  obtain rfl : x5 = (1 : Int32) := zs_eqv h_x5 (by decide)
  refine zs_bd_ (zc_90 h_σ) (fun t_1 pt_1 => ?_)
  refine zs_ite (fun c1 => ?_) (fun c1 => ?_)
  · skip
    have r2 := (zs_I_eq c1)
    exact (zs_botr r2 h_x5 zlI_0 (by decide)).elim
  · skip
    have r3 := (zs_I_eqn c1)
    obtain ⟨ret, er, hr⟩ := zc_626 pt_1 h_x3 h_x4 h_x5 h_x2
    refine ⟨ret, er, ?_⟩
    exact hr
-- BX9_losesBy_80
theorem zc_628 {σ0 : sn_S} {σ : sn_S} (h_σ : zs_M σ0 σ) {t0 : Int32} {t1 : Int32} : zs_ok (BX9_losesBy_80 σ t0 t1) (fun r => (True ∧ zs_M σ0 r.2)) := by
  unfold BX9_losesBy_80
  refine zs_ite (fun c1 => ?_) (fun c1 => ?_)
  · skip
    have r2 := (zs_I_eq c1)
    have g3 : zs_in (t1).toInt 1 1 := (zs_eql 1 1 r2 (zs_topI _) zlI_1 (by decide))
    refine zs_bd_ (zc_21 h_σ) (fun t_2 pt_2 => ?_)
    obtain ⟨ret, er, hr⟩ := zc_608 h_σ (zs_divI 0 7 pt_2 zlI_4 (by decide))
    refine ⟨ret, er, ?_⟩
    exact hr
  · skip
    have r4 := (zs_I_eqn c1)
    obtain ⟨ret, er, hr⟩ := zc_615 h_σ zlI_0
    refine ⟨ret, er, ?_⟩
    exact hr
-- BX9_losesBy_55
theorem zc_629 {σ0 : sn_S} {σ : sn_S} (h_σ : zs_M σ0 σ) {x3 : Int32} (h_x3 : zs_in x3.toInt 1 1) {x4 : Int32} {x5 : Int32} (h_x5 : zs_in x5.toInt 1 1) {t0 : Int32} (h_t0 : zs_in t0.toInt 0 5) : zs_ok (BX9_losesBy_55 σ x3 x4 x5 t0) (fun r => (True ∧ zs_M σ0 r.2)) := by
  unfold BX9_losesBy_55
  obtain rfl : x3 = (1 : Int32) := zs_eqv h_x3 (by decide)
  obtain rfl : x5 = (1 : Int32) := zs_eqv h_x5 (by decide)
  refine zs_gd (zs_gin h_t0 (by decide)) ?_
  refine zs_bd_ (zc_109 (zs_rdu (q := 10) (z := (0, 1073741823)) h_σ.1 (fun _ => rfl))) (fun t_2 pt_2 => ?_)
  refine zs_ite (fun c1 => ?_) (fun c1 => ?_)
  · skip
    have r2 := (zs_I_eq c1)
    exact (zs_botr r2 h_x5 zlI_0 (by decide)).elim
  · skip
    have r3 := (zs_I_eqn c1)
    obtain ⟨ret, er, hr⟩ := zc_628 h_σ
    refine ⟨ret, er, ?_⟩
    exact hr
-- BX9_losesBy_41
theorem zc_630 {σ0 : sn_S} {σ : sn_S} (h_σ : zs_M σ0 σ) {x1 : Int32} (h_x1 : zs_in x1.toInt 0 5) {x2 : Int32} (h_x2 : zs_in x2.toInt 0 5) {x3 : Int32} (h_x3 : zs_in x3.toInt 1 1) {x4 : Int32} {x5 : Int32} (h_x5 : zs_in x5.toInt 1 1) : zs_ok (BX9_losesBy_41 σ x1 x2 x3 x4 x5) (fun r => (True ∧ zs_M σ0 r.2)) := by
  unfold BX9_losesBy_41
  obtain rfl : x3 = (1 : Int32) := zs_eqv h_x3 (by decide)
  obtain rfl : x5 = (1 : Int32) := zs_eqv h_x5 (by decide)
  refine zs_bd_ (zc_90 h_σ) (fun t_1 pt_1 => ?_)
  refine zs_ite (fun c1 => ?_) (fun c1 => ?_)
  · skip
    have r2 := (zs_I_eq c1)
    exact (zs_botr r2 h_x5 zlI_0 (by decide)).elim
  · skip
    have r3 := (zs_I_eqn c1)
    obtain ⟨ret, er, hr⟩ := zc_629 pt_1 h_x3 h_x5 h_x2
    refine ⟨ret, er, ?_⟩
    exact hr
-- BX9_losesBy_27
theorem zc_631 {σ0 : sn_S} {σ : sn_S} (h_σ : zs_M σ0 σ) {x1 : Int32} (h_x1 : zs_in x1.toInt 0 5) {x2 : Int32} (h_x2 : zs_in x2.toInt 0 5) {x3 : Int32} (h_x3 : zs_in x3.toInt 1 1) {x4 : Int32} {x5 : Int32} (h_x5 : zs_in x5.toInt 1 1) {x6 : Int32} (h_x6 : zs_in x6.toInt 0 1073741823) : zs_ok (BX9_losesBy_27 σ x1 x2 x3 x4 x5 x6) (fun r => (True ∧ zs_M σ0 r.2)) := by
  unfold BX9_losesBy_27
  obtain rfl : x3 = (1 : Int32) := zs_eqv h_x3 (by decide)
  obtain rfl : x5 = (1 : Int32) := zs_eqv h_x5 (by decide)
  refine zs_ite (fun c1 => ?_) (fun c1 => ?_)
  · skip
    have r2 := (zs_I_eq c1)
    have g3 : zs_in (x4).toInt 1 1 := (zs_eql 1 1 r2 (zs_topI _) zlI_1 (by decide))
    refine zs_gd (zs_gin h_x2 (by decide)) ?_
    refine zs_lt (Q := fun z => zs_M σ0 z) (zs_wrt h_σ (fun _ => rfl) (fun _ => rfl)) (fun σ_3 hσ_3 => ?_)
    obtain ⟨ret, er, hr⟩ := zc_627 hσ_3 h_x1 h_x2 h_x3 g3 h_x5
    refine ⟨ret, er, ?_⟩
    exact hr
  · skip
    have r4 := (zs_I_eqn c1)
    obtain ⟨ret, er, hr⟩ := zc_630 h_σ h_x1 h_x2 h_x3 h_x5
    refine ⟨ret, er, ?_⟩
    exact hr
-- BX9_losesBy_55
theorem zc_632 {σ0 : sn_S} {σ : sn_S} (h_σ : zs_M σ0 σ) {x3 : Int32} (h_x3 : zs_in x3.toInt 0 0) {x4 : Int32} (h_x4 : zs_in x4.toInt 1 1) {x5 : Int32} (h_x5 : zs_in x5.toInt 1 1) {t0 : Int32} (h_t0 : zs_in t0.toInt 0 5) : zs_ok (BX9_losesBy_55 σ x3 x4 x5 t0) (fun r => (True ∧ zs_M σ0 r.2)) := by
  unfold BX9_losesBy_55
  obtain rfl : x3 = (0 : Int32) := zs_eqv h_x3 (by decide)
  obtain rfl : x4 = (1 : Int32) := zs_eqv h_x4 (by decide)
  obtain rfl : x5 = (1 : Int32) := zs_eqv h_x5 (by decide)
  refine zs_gd (zs_gin h_t0 (by decide)) ?_
  refine zs_bd_ (zc_109 (zs_rdu (q := 10) (z := (0, 1073741823)) h_σ.1 (fun _ => rfl))) (fun t_2 pt_2 => ?_)
  refine zs_ite (fun c1 => ?_) (fun c1 => ?_)
  · skip
    have r2 := (zs_I_eq c1)
    exact (zs_botr r2 h_x5 zlI_0 (by decide)).elim
  · skip
    have r3 := (zs_I_eqn c1)
    obtain ⟨ret, er, hr⟩ := zc_609 h_σ h_x4
    refine ⟨ret, er, ?_⟩
    exact hr
-- BX9_losesBy_41
theorem zc_633 {σ0 : sn_S} {σ : sn_S} (h_σ : zs_M σ0 σ) {x1 : Int32} (h_x1 : zs_in x1.toInt 0 5) {x2 : Int32} (h_x2 : zs_in x2.toInt 0 5) {x3 : Int32} (h_x3 : zs_in x3.toInt 0 0) {x4 : Int32} (h_x4 : zs_in x4.toInt 1 1) {x5 : Int32} (h_x5 : zs_in x5.toInt 1 1) : zs_ok (BX9_losesBy_41 σ x1 x2 x3 x4 x5) (fun r => (True ∧ zs_M σ0 r.2)) := by
  unfold BX9_losesBy_41
  obtain rfl : x3 = (0 : Int32) := zs_eqv h_x3 (by decide)
  obtain rfl : x4 = (1 : Int32) := zs_eqv h_x4 (by decide)
  obtain rfl : x5 = (1 : Int32) := zs_eqv h_x5 (by decide)
  refine zs_bd_ (zc_90 h_σ) (fun t_1 pt_1 => ?_)
  refine zs_ite (fun c1 => ?_) (fun c1 => ?_)
  · skip
    have r2 := (zs_I_eq c1)
    exact (zs_botr r2 h_x5 zlI_0 (by decide)).elim
  · skip
    have r3 := (zs_I_eqn c1)
    obtain ⟨ret, er, hr⟩ := zc_632 pt_1 h_x3 h_x4 h_x5 h_x2
    refine ⟨ret, er, ?_⟩
    exact hr
-- BX9_losesBy_55
theorem zc_634 {σ0 : sn_S} {σ : sn_S} (h_σ : zs_M σ0 σ) {x3 : Int32} (h_x3 : zs_in x3.toInt 0 0) {x4 : Int32} {x5 : Int32} (h_x5 : zs_in x5.toInt 1 1) {t0 : Int32} (h_t0 : zs_in t0.toInt 0 5) : zs_ok (BX9_losesBy_55 σ x3 x4 x5 t0) (fun r => (True ∧ zs_M σ0 r.2)) := by
  unfold BX9_losesBy_55
  obtain rfl : x3 = (0 : Int32) := zs_eqv h_x3 (by decide)
  obtain rfl : x5 = (1 : Int32) := zs_eqv h_x5 (by decide)
  refine zs_gd (zs_gin h_t0 (by decide)) ?_
  refine zs_bd_ (zc_109 (zs_rdu (q := 10) (z := (0, 1073741823)) h_σ.1 (fun _ => rfl))) (fun t_2 pt_2 => ?_)
  refine zs_ite (fun c1 => ?_) (fun c1 => ?_)
  · skip
    have r2 := (zs_I_eq c1)
    exact (zs_botr r2 h_x5 zlI_0 (by decide)).elim
  · skip
    have r3 := (zs_I_eqn c1)
    obtain ⟨ret, er, hr⟩ := zc_628 h_σ
    refine ⟨ret, er, ?_⟩
    exact hr
-- BX9_losesBy_41
theorem zc_635 {σ0 : sn_S} {σ : sn_S} (h_σ : zs_M σ0 σ) {x1 : Int32} (h_x1 : zs_in x1.toInt 0 5) {x2 : Int32} (h_x2 : zs_in x2.toInt 0 5) {x3 : Int32} (h_x3 : zs_in x3.toInt 0 0) {x4 : Int32} {x5 : Int32} (h_x5 : zs_in x5.toInt 1 1) : zs_ok (BX9_losesBy_41 σ x1 x2 x3 x4 x5) (fun r => (True ∧ zs_M σ0 r.2)) := by
  unfold BX9_losesBy_41
  obtain rfl : x3 = (0 : Int32) := zs_eqv h_x3 (by decide)
  obtain rfl : x5 = (1 : Int32) := zs_eqv h_x5 (by decide)
  refine zs_bd_ (zc_90 h_σ) (fun t_1 pt_1 => ?_)
  refine zs_ite (fun c1 => ?_) (fun c1 => ?_)
  · skip
    have r2 := (zs_I_eq c1)
    exact (zs_botr r2 h_x5 zlI_0 (by decide)).elim
  · skip
    have r3 := (zs_I_eqn c1)
    obtain ⟨ret, er, hr⟩ := zc_634 pt_1 h_x3 h_x5 h_x2
    refine ⟨ret, er, ?_⟩
    exact hr
-- BX9_losesBy_27
theorem zc_636 {σ0 : sn_S} {σ : sn_S} (h_σ : zs_M σ0 σ) {x1 : Int32} (h_x1 : zs_in x1.toInt 0 5) {x2 : Int32} (h_x2 : zs_in x2.toInt 0 5) {x3 : Int32} (h_x3 : zs_in x3.toInt 0 0) {x4 : Int32} {x5 : Int32} (h_x5 : zs_in x5.toInt 1 1) {x6 : Int32} (h_x6 : zs_in x6.toInt 0 1073741823) : zs_ok (BX9_losesBy_27 σ x1 x2 x3 x4 x5 x6) (fun r => (True ∧ zs_M σ0 r.2)) := by
  unfold BX9_losesBy_27
  obtain rfl : x3 = (0 : Int32) := zs_eqv h_x3 (by decide)
  obtain rfl : x5 = (1 : Int32) := zs_eqv h_x5 (by decide)
  refine zs_ite (fun c1 => ?_) (fun c1 => ?_)
  · skip
    have r2 := (zs_I_eq c1)
    have g3 : zs_in (x4).toInt 1 1 := (zs_eql 1 1 r2 (zs_topI _) zlI_1 (by decide))
    refine zs_gd (zs_gin h_x2 (by decide)) ?_
    refine zs_lt (Q := fun z => zs_M σ0 z) (zs_wrt h_σ (fun _ => rfl) (fun _ => rfl)) (fun σ_3 hσ_3 => ?_)
    obtain ⟨ret, er, hr⟩ := zc_633 hσ_3 h_x1 h_x2 h_x3 g3 h_x5
    refine ⟨ret, er, ?_⟩
    exact hr
  · skip
    have r4 := (zs_I_eqn c1)
    obtain ⟨ret, er, hr⟩ := zc_635 h_σ h_x1 h_x2 h_x3 h_x5
    refine ⟨ret, er, ?_⟩
    exact hr
