theorem zd_237 {σ0 : sn_S} {x1 : Int32} (h_x1 : zs_in x1.toInt 0 29) {x2 : Int32} (h_x2 : zs_in x2.toInt 0 174) (hl_x1 : x2.toInt = 6 * x1.toInt) {s0 : (sn_S × (Int32 × Int32))} (h0 : (zs_C σ0 s0.1 ∧ (True ∧ zs_in (s0.2.2).toInt 0 6))) : zs_ok (sn_it (LX0_liveMinute_10 59 x1 x2) 5000 s0) (fun t => (zs_C σ0 t.1 ∧ True)) := by
  refine zs_it (I := fun s => (zs_C σ0 s.1 ∧ (True ∧ zs_in (s.2.2).toInt 0 6))) (m := fun s => 6 - s.2.2.toInt) (fun s hs => ?_) (fun s hs => ?_) (by exact h0)
  · have h1 := hs.2.2; unfold zs_in at h1
    omega
  · obtain ⟨b, eb, hb⟩ := zc_1258 hs.1 h_x1 h_x2 hs.2.2 hl_x1 (c := s.2.2.toInt) (Int.add_zero _).symm
    exact ⟨b, eb, zs_sumw hb (fun v w => ⟨⟨w.1.1, ⟨w.1.2.1, (zs_w w.1.2.2 (by decide))⟩⟩, by have := w.2; omega⟩) (fun v w => w)⟩
-- BX0_liveMinute_115
theorem zc_1259 {σ0 : sn_S} {σ : sn_S} (h_σ : zs_C σ0 σ) {x1 : Int32} (h_x1 : zs_in x1.toInt 0 29) {x3 : Int32} : zs_ok (BX0_liveMinute_115 σ 59 x1 x3) (fun r => zs_C σ0 r) := by
  unfold BX0_liveMinute_115
  refine zs_gd (zs_gin h_x1 (by decide)) ?_
  refine zs_lt (Q := fun z => zs_C σ0 z) (zs_wrt h_σ (fun _ => rfl) (fun _ => rfl)) (fun σ_2 hσ_2 => ?_)
  exact zs_some hσ_2
-- fX0_liveMinute
theorem zc_1260 {σ0 : sn_S} {σ : sn_S} (h_σ : zs_C σ0 σ) {x1 : Int32} (h_x1 : zs_in x1.toInt 0 29) : zs_ok (fX0_liveMinute σ 59 x1) (fun r => zs_C σ0 r) := by
  unfold fX0_liveMinute
  refine zs_lt (Q := fun z => zs_in z.toInt 0 174 ∧ z = ((6 : Int32) * x1)) ⟨(zs_mulI 0 174 zlI_6 h_x1 (by decide)), rfl⟩ (fun y_1 hy_1 => ?_)
  refine zs_bd_ (zd_237 h_x1 hy_1.1 (zs_linv hy_1.2 zlI_6 h_x1 (by decide)) (s0 := (σ, ((0 : Int32), (0 : Int32)))) ⟨h_σ, ⟨trivial, (zs_w zlI_0 (by decide))⟩⟩) (fun t_3 pt_3 => ?_)
  obtain ⟨ret, er, hr⟩ := zc_1259 pt_3.1 h_x1
  refine ⟨ret, er, ?_⟩
  exact hr
-- BX0_live_31
theorem zc_1261 {σ0 : sn_S} {σ : sn_S} (h_σ : zs_C σ0 σ) {x2 : Int32} (h_x2 : zs_in x2.toInt 0 30) {x3 : Int32} (h_x3 : zs_in x3.toInt 0 30) {c : Int} (hc : x3.toInt = c + 0) : zs_ok (BX0_live_31 σ 59 x2 x3) (fun r => zs_sum (fun v => ((zs_C σ0 v.1 ∧ zs_in (v.2).toInt 1 30)) ∧ v.2.toInt = c + 1) (fun v => zs_C σ0 v) r) := by
  unfold BX0_live_31
  refine zs_ite (fun c1 => ?_) (fun c1 => ?_)
  · skip
    have r2 := (zs_I_le c1)
    exact zs_some (zs_inr (h_σ))
  · skip
    have r3 := (zs_I_len c1)
    have g4 : zs_in (x3).toInt 0 29 := (zs_ltl 0 29 r3 h_x3 h_x2 (by decide))
    have g5 : zs_in (x2).toInt 1 30 := (zs_ltr 1 30 r3 h_x3 h_x2 (by decide))
    refine zs_ite (fun c6 => ?_) (fun c6 => ?_)
    · skip
      have r7 := (zs_I_le c6)
      have g8 : zs_in ((sn_I σ 59 0)).toInt 0 29 := (zs_lel 0 29 r7 (zs_rdk (q := 59) (k := 0) (z := (0, 30)) h_σ.1 rfl) g4 (by decide))
      exact zs_some (zs_inr (h_σ))
    · skip
      have r9 := (zs_I_len c6)
      have g10 : zs_in ((sn_I σ 59 0)).toInt 1 30 := (zs_ltr 1 30 r9 g4 (zs_rdk (q := 59) (k := 0) (z := (0, 30)) h_σ.1 rfl) (by decide))
      refine zs_bd_ (zc_1249 h_σ g4) (fun t_3 pt_3 => ?_)
      refine zs_bd_ (zc_1260 pt_3 g4) (fun t_5 pt_5 => ?_)
      refine zs_lt (Q := fun z => zs_in z.toInt 1 30 ∧ z.toInt = c + 1) ⟨(zs_addI 1 30 g4 zlI_1 (by decide)), (zs_syI 1 hc g4 zlI_1 (by decide) (by decide))⟩ (fun y_7 hy_7 => ?_)
      exact zs_some (zs_inl ⟨⟨pt_5, hy_7.1⟩, hy_7.2⟩)
theorem zd_238 {σ0 : sn_S} {x2 : Int32} (h_x2 : zs_in x2.toInt 0 30) {s0 : (sn_S × Int32)} (h0 : (zs_C σ0 s0.1 ∧ zs_in (s0.2).toInt 0 30)) : zs_ok (sn_it (LX0_live_31 59 x2) 5000 s0) (fun t => zs_C σ0 t) := by
  refine zs_it (I := fun s => (zs_C σ0 s.1 ∧ zs_in (s.2).toInt 0 30)) (m := fun s => 30 - s.2.toInt) (fun s hs => ?_) (fun s hs => ?_) (by exact h0)
  · have h1 := hs.2; unfold zs_in at h1
    omega
  · obtain ⟨b, eb, hb⟩ := zc_1261 hs.1 h_x2 hs.2 (c := s.2.toInt) (Int.add_zero _).symm
    exact ⟨b, eb, zs_sumw hb (fun v w => ⟨⟨w.1.1, (zs_w w.1.2 (by decide))⟩, by have := w.2; omega⟩) (fun v w => w)⟩
-- BX0_live_29
theorem zc_1262 {σ0 : sn_S} {σ : sn_S} (h_σ : zs_C σ0 σ) {x1 : Int32} (h_x1 : zs_in x1.toInt 0 0) {x2 : Int32} (h_x2 : zs_in x2.toInt 0 30) : zs_ok (BX0_live_29 σ 59 x1 x2) (fun r => zs_C σ0 r) := by
  unfold BX0_live_29
  obtain rfl : x1 = (0 : Int32) := zs_eqv h_x1 (by decide)
  refine zs_bd_ (zd_238 h_x2 (s0 := (σ, (0 : Int32))) ⟨h_σ, (zs_w h_x1 (by decide))⟩) (fun t_1 pt_1 => ?_)
  obtain ⟨ret, er, hr⟩ := zc_697 pt_1
  refine ⟨ret, er, ?_⟩
  exact hr
-- fX0_live
theorem zc_1263 {σ0 : sn_S} {σ : sn_S} (h_σ : zs_C σ0 σ) {x1 : Int32} (h_x1 : zs_in x1.toInt 0 0) {x2 : Int32} (h_x2 : zs_in x2.toInt 0 30) : zs_ok (fX0_live σ 59 x1 x2) (fun r => zs_C σ0 r) := by
  unfold fX0_live
  obtain rfl : x1 = (0 : Int32) := zs_eqv h_x1 (by decide)
  refine zs_bd_ (zd_234 h_x1 h_x2 (s0 := (σ, (0 : Int32))) ⟨h_σ, (zs_w zlI_0 (by decide))⟩) (fun t_1 pt_1 => ?_)
  obtain ⟨ret, er, hr⟩ := zc_1262 pt_1 h_x1 h_x2
  refine ⟨ret, er, ?_⟩
  exact hr
-- BX3_moneyAt_44
theorem zc_1264 {σ0 : sn_S} {σ : sn_S} (h_σ : zs_C σ0 σ) {x1 : Int32} (h_x1 : zs_in x1.toInt 0 0) {x2 : Int32} {x3 : Int32} (h_x3 : zs_in x3.toInt 0 5) {c : Int} (hc : x3.toInt = c + 0) : zs_ok (BX3_moneyAt_44 σ 70 x1 x2 x3) (fun r => zs_sum (fun v => ((True ∧ zs_in (v.2).toInt 1 6)) ∧ v.2.toInt = c + 1) (fun v => False) r) := by
  unfold BX3_moneyAt_44
  obtain rfl : x1 = (0 : Int32) := zs_eqv h_x1 (by decide)
  refine zs_lt (Q := fun z => zs_in z.toInt 1 6 ∧ z.toInt = c + 1) ⟨(zs_addI 1 6 h_x3 zlI_1 (by decide)), (zs_syI 1 hc h_x3 zlI_1 (by decide) (by decide))⟩ (fun y_1 hy_1 => ?_)
  exact zs_some (zs_inl ⟨⟨trivial, hy_1.1⟩, hy_1.2⟩)
-- BX3_moneyAt_7
theorem zc_1265 {σ0 : sn_S} {σ : sn_S} (h_σ : zs_C σ0 σ) {x1 : Int32} (h_x1 : zs_in x1.toInt 0 0) {x2 : Int32} {x3 : Int32} (h_x3 : zs_in x3.toInt 0 6) {c : Int} (hc : x3.toInt = c + 0) : zs_ok (BX3_moneyAt_7 σ 70 x1 x2 x3) (fun r => zs_sum (fun v => ((True ∧ zs_in (v.2).toInt 1 6)) ∧ v.2.toInt = c + 1) (fun v => True) r) := by
  unfold BX3_moneyAt_7
  obtain rfl : x1 = (0 : Int32) := zs_eqv h_x1 (by decide)
  refine zs_ite (fun c1 => ?_) (fun c1 => ?_)
  · skip
    have r2 := (zs_I_le c1)
    exact zs_some (zs_inr (trivial))
  · skip
    have r3 := (zs_I_len c1)
    have g4 : zs_in (x3).toInt 0 5 := (zs_ltl 0 5 r3 h_x3 (zs_rdk (q := 70) (k := 2) (z := (0, 6)) h_σ.1 rfl) (by decide))
    have g5 : zs_in ((sn_I σ 70 2)).toInt 1 6 := (zs_ltr 1 6 r3 h_x3 (zs_rdk (q := 70) (k := 2) (z := (0, 6)) h_σ.1 rfl) (by decide))
    refine zs_gd (zs_gin g4 (by decide)) ?_
    refine zs_ite (fun c6 => ?_) (fun c6 => ?_)
    · skip
      have r7 := (zs_I_eq c6)
      have g8 : zs_in ((sn_I σ (70 + 2) x3.toNatClampNeg)).toInt (-1) (-1) := (zs_eql (-1) (-1) r7 (zs_rdu (q := 72) (z := ((-1), 63)) h_σ.1 (fun _ => rfl)) zlI_m1 (by decide))
      obtain ⟨ret, er, hr⟩ := zc_1264 h_σ h_x1 g4 hc
      refine ⟨ret, er, ?_⟩
      exact (zs_sumw hr (fun v w => ⟨w.1, w.2⟩) (fun v w => w.elim))
    · skip
      have r9 := (zs_I_eqn c6)
      have g10 : zs_in ((sn_I σ (70 + 2) x3.toNatClampNeg)).toInt 0 63 := (zs_nel 0 63 r9 (zs_rdu (q := 72) (z := ((-1), 63)) h_σ.1 (fun _ => rfl)) zlI_m1 (by decide))
      refine zs_gd (zs_gin g4 (by decide)) ?_
      refine zs_ite (fun c11 => ?_) (fun c11 => ?_)
      · skip
        have r12 := (zs_I_lt c11)
        have g13 : zs_in ((sn_I σ (70 + 2) x3.toNatClampNeg)).toInt 1 63 := (zs_ltr 1 63 r12 h_x1 g10 (by decide))
        obtain ⟨ret, er, hr⟩ := zc_1264 h_σ h_x1 g4 hc
        refine ⟨ret, er, ?_⟩
        exact (zs_sumw hr (fun v w => ⟨w.1, w.2⟩) (fun v w => w.elim))
      · skip
        have r14 := (zs_I_ltn c11)
        have g15 : zs_in ((sn_I σ (70 + 2) x3.toNatClampNeg)).toInt 0 0 := (zs_lel 0 0 r14 g10 h_x1 (by decide))
        refine zs_gd (zs_gin g4 (by decide)) ?_
        refine zs_lt (Q := fun z => True) trivial (fun y_7 hy_7 => ?_)
        obtain ⟨ret, er, hr⟩ := zc_1264 h_σ h_x1 g4 hc
        refine ⟨ret, er, ?_⟩
        exact (zs_sumw hr (fun v w => ⟨w.1, w.2⟩) (fun v w => w.elim))
theorem zd_239 {σ0 : sn_S} {σ : sn_S} (h_σ : zs_C σ0 σ) {x1 : Int32} (h_x1 : zs_in x1.toInt 0 0) {s0 : (Int32 × Int32)} (h0 : (True ∧ zs_in (s0.2).toInt 0 6)) : zs_ok (sn_it (LX3_moneyAt_7 σ 70 x1) 5000 s0) (fun t => True) := by
  refine zs_it (I := fun s => (True ∧ zs_in (s.2).toInt 0 6)) (m := fun s => 6 - s.2.toInt) (fun s hs => ?_) (fun s hs => ?_) (by exact h0)
  · have h1 := hs.2; unfold zs_in at h1
    omega
  · obtain ⟨b, eb, hb⟩ := zc_1265 h_σ h_x1 hs.2 (c := s.2.toInt) (Int.add_zero _).symm
    exact ⟨b, eb, zs_sumw hb (fun v w => ⟨⟨w.1.1, (zs_w w.1.2 (by decide))⟩, by have := w.2; omega⟩) (fun v w => w)⟩
-- BX3_moneyAt_50
theorem zc_1266 {σ0 : sn_S} {σ : sn_S} (h_σ : zs_C σ0 σ) {x2 : Int32} : zs_ok (BX3_moneyAt_50 σ 70 x2) (fun r => True) := by
  unfold BX3_moneyAt_50
  exact zs_some trivial
-- fX3_moneyAt
theorem zc_1267 {σ0 : sn_S} {σ : sn_S} (h_σ : zs_C σ0 σ) {x1 : Int32} (h_x1 : zs_in x1.toInt 0 0) : zs_ok (fX3_moneyAt σ 70 x1) (fun r => True) := by
  unfold fX3_moneyAt
  obtain rfl : x1 = (0 : Int32) := zs_eqv h_x1 (by decide)
  refine zs_lt (Q := fun z => True) trivial (fun y_1 hy_1 => ?_)
  refine zs_bd_ (zd_239 h_σ h_x1 (s0 := (y_1, (0 : Int32))) ⟨trivial, (zs_w zlI_0 (by decide))⟩) (fun t_3 pt_3 => ?_)
  obtain ⟨ret, er, hr⟩ := zc_1266 h_σ
  refine ⟨ret, er, ?_⟩
  exact hr
-- BX3_firstBelow_2
theorem zc_1268 {σ0 : sn_S} {σ : sn_S} (h_σ : zs_C σ0 σ) {x1 : Int32} (h_x1 : zs_in x1.toInt 1 1) {x2 : Int32} (h_x2 : zs_in x2.toInt 0 1) {c : Int} (hc : x2.toInt = c + 0) : zs_ok (BX3_firstBelow_2 σ 70 x1 x2) (fun r => zs_sum (fun v => (zs_in (v).toInt 1 1) ∧ v.toInt = c + 1) (fun v => zs_sum (fun v => True) (fun v => zs_in (v).toInt 0 0) v) r) := by
  unfold BX3_firstBelow_2
  obtain rfl : x1 = (1 : Int32) := zs_eqv h_x1 (by decide)
  refine zs_ite (fun c1 => ?_) (fun c1 => ?_)
  · skip
    have r2 := (zs_I_le c1)
    have g3 : zs_in (x2).toInt 1 1 := (zs_ler 1 1 r2 h_x1 h_x2 (by decide))
    exact zs_some (zs_inr ((zs_inl (trivial))))
  · skip
    have r4 := (zs_I_len c1)
    have g5 : zs_in (x2).toInt 0 0 := (zs_ltl 0 0 r4 h_x2 h_x1 (by decide))
    refine zs_bd_ (zc_1267 h_σ g5) (fun t_2 pt_2 => ?_)
    refine zs_ite (fun c6 => ?_) (fun c6 => ?_)
    · skip
      have r7 := (zs_I_le c6)
      have g8 : zs_in (t_2).toInt 0 2147483647 := (zs_ler 0 2147483647 r7 zlI_0 (zs_topI _) (by decide))
      refine zs_lt (Q := fun z => zs_in z.toInt 1 1 ∧ z.toInt = c + 1) ⟨(zs_addI 1 1 g5 zlI_1 (by decide)), (zs_syI 1 hc g5 zlI_1 (by decide) (by decide))⟩ (fun y_5 hy_5 => ?_)
      exact zs_some (zs_inl ⟨hy_5.1, hy_5.2⟩)
    · skip
      have r9 := (zs_I_len c6)
      have g10 : zs_in (t_2).toInt (-2147483648) (-1) := (zs_ltl (-2147483648) (-1) r9 (zs_topI _) zlI_0 (by decide))
      exact zs_some (zs_inr ((zs_inr (g5))))
theorem zd_240 {σ0 : sn_S} {σ : sn_S} (h_σ : zs_C σ0 σ) {x1 : Int32} (h_x1 : zs_in x1.toInt 1 1) {s0 : Int32} (h0 : zs_in (s0).toInt 0 1) : zs_ok (sn_it (LX3_firstBelow_2 σ 70 x1) 5000 s0) (fun t => zs_sum (fun v => True) (fun v => zs_in (v).toInt 0 0) t) := by
  refine zs_it (I := fun s => zs_in (s).toInt 0 1) (m := fun s => 1 - s.toInt) (fun s hs => ?_) (fun s hs => ?_) (by exact h0)
  · have h1 := hs; unfold zs_in at h1
    omega
  · obtain ⟨b, eb, hb⟩ := zc_1268 h_σ h_x1 hs (c := s.toInt) (Int.add_zero _).symm
    exact ⟨b, eb, zs_sumw hb (fun v w => ⟨(zs_w w.1 (by decide)), by have := w.2; omega⟩) (fun v w => w)⟩
-- BX3_firstBelow_23
theorem zc_1269 {σ0 : sn_S} {σ : sn_S} (h_σ : zs_C σ0 σ) : zs_ok (BX3_firstBelow_23 σ 70) (fun r => zs_in (r).toInt (-1) (-1)) := by
  unfold BX3_firstBelow_23
  exact zs_some zlI_m1
-- fX3_firstBelow
theorem zc_1270 {σ0 : sn_S} {σ : sn_S} (h_σ : zs_C σ0 σ) {x1 : Int32} (h_x1 : zs_in x1.toInt 1 1) : zs_ok (fX3_firstBelow σ 70 x1) (fun r => zs_in (r).toInt (-1) 0) := by
  unfold fX3_firstBelow
  obtain rfl : x1 = (1 : Int32) := zs_eqv h_x1 (by decide)
  refine zs_bd_ (zd_240 h_σ h_x1 (s0 := (0 : Int32)) (zs_w zlI_0 (by decide))) (fun t_1 pt_1 => ?_)
  refine zs_elim pt_1 (fun v_3 pv_3 => ?_) (fun r_4 pr_4 => ?_)
  · skip
    obtain ⟨ret, er, hr⟩ := zc_1269 h_σ
    refine ⟨ret, er, ?_⟩
    exact (zs_w hr (by decide))
  · skip
    exact zs_some (zs_w pr_4 (by decide))
-- fX4_worth
theorem zc_1271 {σ0 : sn_S} {σ : sn_S} (h_σ : zs_C σ0 σ) {x2 : Int32} (h_x2 : zs_in x2.toInt 2 2) {x3 : Int32} (h_x3 : zs_in x3.toInt (-1) (-1)) {x4 : Int32} (h_x4 : zs_in x4.toInt 1 1) : zs_ok (fX4_worth σ 1 x2 x3 x4) (fun r => (zs_in (r.1).toInt 0 1 ∧ zs_C σ0 r.2)) := by
  unfold fX4_worth
  obtain rfl : x2 = (2 : Int32) := zs_eqv h_x2 (by decide)
  obtain rfl : x3 = (-1 : Int32) := zs_eqv h_x3 (by decide)
  obtain rfl : x4 = (1 : Int32) := zs_eqv h_x4 (by decide)
  refine zs_ite (fun c1 => ?_) (fun c1 => ?_)
  · skip
    have r2 := (zs_I_eq c1)
    exact (zs_botr r2 h_x2 zlI_0 (by decide)).elim
  · skip
    have r3 := (zs_I_eqn c1)
    refine zs_gd (zs_gin zlI_2 (by decide)) ?_
    refine zs_bd_ (zo_reckon_70_59_0_3 h_σ (zs_rdk (q := 2) (k := (2 : Int32).toNatClampNeg) (z := (0, 3)) h_σ.1 rfl)) (fun t_3 pt_3 => ?_)
    refine zs_ite (fun c4 => ?_) (fun c4 => ?_)
    · skip
      have r5 := (zs_I_eq c4)
      exact (zs_botr r5 h_x2 zlI_1 (by decide)).elim
    · skip
      have r6 := (zs_I_eqn c4)
      refine zs_bd_ (zc_1270 pt_3 h_x4) (fun t_6 pt_6 => ?_)
      refine zs_ite (fun c7 => ?_) (fun c7 => ?_)
      · skip
        have r8 := (zs_I_eq c7)
        have g9 : zs_in (t_6).toInt (-1) (-1) := (zs_eql (-1) (-1) r8 pt_6 zlI_m1 (by decide))
        exact zs_some ⟨(zs_w zlL_0 (by decide)), pt_3⟩
      · skip
        have r10 := (zs_I_eqn c7)
        have g11 : zs_in (t_6).toInt 0 0 := (zs_nel 0 0 r10 pt_6 zlI_m1 (by decide))
        exact zs_some ⟨(zs_w zlL_1 (by decide)), pt_3⟩
-- BX4_reckon_139
theorem zc_1272 {σ0 : sn_S} {σ : sn_S} (h_σ : zs_C σ0 σ) {x3 : Int32} (h_x3 : zs_in x3.toInt 2 2) {x4 : Int32} (h_x4 : zs_in x4.toInt (-1) (-1)) {x6 : Int32} (h_x6 : zs_in x6.toInt 1 1) {x7 : Int32} (h_x7 : zs_in x7.toInt 0 0) {t1 : Int32} (h_t1 : zs_in t1.toInt 0 0) {t2 : Int32} (h_t2 : zs_in t2.toInt 0 30) {c : Int} (hc : x7.toInt = c + 0) : zs_ok (BX4_reckon_139 σ 1 27 x3 x4 x6 x7 t1 t2) (fun r => zs_sum (fun v => ((zs_C σ0 v.1 ∧ zs_in (v.2).toInt 1 1)) ∧ v.2.toInt = c + 1) (fun v => False) r) := by
  unfold BX4_reckon_139
  obtain rfl : x3 = (2 : Int32) := zs_eqv h_x3 (by decide)
  obtain rfl : x4 = (-1 : Int32) := zs_eqv h_x4 (by decide)
  obtain rfl : x6 = (1 : Int32) := zs_eqv h_x6 (by decide)
  obtain rfl : t1 = (0 : Int32) := zs_eqv h_t1 (by decide)
  refine zs_bd_ (zc_1263 h_σ h_t1 h_t2) (fun t_1 pt_1 => ?_)
  refine zs_bd_ (zo_bc 0 0 (by decide) h_x7) (fun t_3 pt_3 => ?_)
  refine zs_gd (zs_gin pt_3 (by decide)) ?_
  refine zs_bd_ (zc_1271 pt_1 h_x3 h_x4 h_x6) (fun t_6 pt_6 => ?_)
  refine zs_lt (Q := fun z => zs_C σ0 z) (zs_wrL pt_6.2 rfl) (fun σ_8 hσ_8 => ?_)
  refine zs_lt (Q := fun z => zs_in z.toInt 1 1 ∧ z.toInt = c + 1) ⟨(zs_addI 1 1 h_x7 zlI_1 (by decide)), (zs_syI 1 hc h_x7 zlI_1 (by decide) (by decide))⟩ (fun y_10 hy_10 => ?_)
  exact zs_some (zs_inl ⟨⟨hσ_8, hy_10.1⟩, hy_10.2⟩)
-- BX4_reckon_119
theorem zc_1273 {σ0 : sn_S} {σ : sn_S} (h_σ : zs_C σ0 σ) {x3 : Int32} (h_x3 : zs_in x3.toInt 2 2) {x4 : Int32} (h_x4 : zs_in x4.toInt (-1) (-1)) {x6 : Int32} (h_x6 : zs_in x6.toInt 1 1) {x7 : Int32} (h_x7 : zs_in x7.toInt 0 0) {x8 : Int32} (h_x8 : zs_in x8.toInt 0 0) {c : Int} (hc : x7.toInt = c + 0) : zs_ok (BX4_reckon_119 σ 1 27 x3 x4 x6 x7 x8) (fun r => zs_sum (fun v => ((zs_C σ0 v.1 ∧ zs_in (v.2).toInt 1 1)) ∧ v.2.toInt = c + 1) (fun v => False) r) := by
  unfold BX4_reckon_119
  obtain rfl : x3 = (2 : Int32) := zs_eqv h_x3 (by decide)
  obtain rfl : x4 = (-1 : Int32) := zs_eqv h_x4 (by decide)
  obtain rfl : x6 = (1 : Int32) := zs_eqv h_x6 (by decide)
  obtain rfl : x8 = (0 : Int32) := zs_eqv h_x8 (by decide)
  refine zs_ite (fun c1 => ?_) (fun c1 => ?_)
  · skip
    have r2 := (zs_I_eq c1)
    obtain ⟨ret, er, hr⟩ := zc_1272 h_σ h_x3 h_x4 h_x6 h_x7 h_x8 (zs_rdk (q := 27) (k := 0) (z := (0, 30)) h_σ.1 rfl) hc
    refine ⟨ret, er, ?_⟩
    exact (zs_sumw hr (fun v w => ⟨w.1, w.2⟩) (fun v w => w.elim))
  · skip
    have r3 := (zs_I_eqn c1)
    exact (zs_botne r3 h_x3 zlI_2 (by decide)).elim
-- BX4_reckon_62
theorem zc_1274 {σ0 : sn_S} {σ : sn_S} (h_σ : zs_C σ0 σ) {x3 : Int32} (h_x3 : zs_in x3.toInt 2 2) {x4 : Int32} (h_x4 : zs_in x4.toInt (-1) (-1)) {x6 : Int32} (h_x6 : zs_in x6.toInt 1 1) {x7 : Int32} (h_x7 : zs_in x7.toInt 0 0) {t0 : Int32} (h_t0 : zs_in t0.toInt 0 0) {c : Int} (hc : x7.toInt = c + 0) : zs_ok (BX4_reckon_62 σ 1 27 x3 x4 x6 x7 t0) (fun r => zs_sum (fun v => ((zs_C σ0 v.1 ∧ zs_in (v.2).toInt 1 1)) ∧ v.2.toInt = c + 1) (fun v => False) r) := by
  unfold BX4_reckon_62
  obtain rfl : x3 = (2 : Int32) := zs_eqv h_x3 (by decide)
  obtain rfl : x4 = (-1 : Int32) := zs_eqv h_x4 (by decide)
  obtain rfl : x6 = (1 : Int32) := zs_eqv h_x6 (by decide)
  obtain rfl : t0 = (0 : Int32) := zs_eqv h_t0 (by decide)
  refine zs_bd_ (zd_233 h_x3 h_x4 h_x6 h_x7 h_t0 (s0 := (σ, (0 : Int32))) ⟨h_σ, (zs_w h_t0 (by decide))⟩) (fun t_1 pt_1 => ?_)
  obtain ⟨ret, er, hr⟩ := zc_1273 pt_1 h_x3 h_x4 h_x6 h_x7 h_t0 hc
  refine ⟨ret, er, ?_⟩
  exact (zs_sumw hr (fun v w => ⟨w.1, w.2⟩) (fun v w => w.elim))
-- BX4_reckon_111
theorem zc_1275 {σ0 : sn_S} {σ : sn_S} (h_σ : zs_C σ0 σ) {x3 : Int32} (h_x3 : zs_in x3.toInt 2 2) {x4 : Int32} (h_x4 : zs_in x4.toInt (-1) (-1)) {x6 : Int32} (h_x6 : zs_in x6.toInt 1 1) {x7 : Int32} (h_x7 : zs_in x7.toInt 1 1) {x8 : Int32} (h_x8 : zs_in x8.toInt 0 0) {x9 : Int32} (h_x9 : zs_in x9.toInt 0 0) {t1 : Int32} (h_t1 : zs_in t1.toInt 0 0) {t2 : Int32} {t3 : Int32} (h_t3 : zs_in t3.toInt 0 0) {c : Int} (hc : x9.toInt = c + 0) : zs_ok (BX4_reckon_111 σ 1 27 x3 x4 x6 x7 x8 x9 t1 t2 t3) (fun r => zs_sum (fun v => ((zs_C σ0 v.1 ∧ zs_in (v.2).toInt 1 1)) ∧ v.2.toInt = c + 1) (fun v => False) r) := by
  unfold BX4_reckon_111
  obtain rfl : x3 = (2 : Int32) := zs_eqv h_x3 (by decide)
  obtain rfl : x4 = (-1 : Int32) := zs_eqv h_x4 (by decide)
  obtain rfl : x6 = (1 : Int32) := zs_eqv h_x6 (by decide)
  obtain rfl : x7 = (1 : Int32) := zs_eqv h_x7 (by decide)
  obtain rfl : x8 = (0 : Int32) := zs_eqv h_x8 (by decide)
  obtain rfl : t1 = (0 : Int32) := zs_eqv h_t1 (by decide)
  obtain rfl : t3 = (0 : Int32) := zs_eqv h_t3 (by decide)
  refine zs_gd (zs_gin h_t1 (by decide)) ?_
  refine zs_lt (Q := fun z => zs_C σ0 z) (zs_wrt h_σ (fun _ => rfl) (fun _ => rfl)) (fun σ_2 hσ_2 => ?_)
  refine zs_lt (Q := fun z => zs_in z.toInt 1 1 ∧ z.toInt = c + 1) ⟨(zs_addI 1 1 h_x9 zlI_1 (by decide)), (zs_syI 1 hc h_x9 zlI_1 (by decide) (by decide))⟩ (fun y_4 hy_4 => ?_)
  exact zs_some (zs_inl ⟨⟨hσ_2, hy_4.1⟩, hy_4.2⟩)
-- BX4_reckon_111
theorem zc_1276 {σ0 : sn_S} {σ : sn_S} (h_σ : zs_C σ0 σ) {x3 : Int32} (h_x3 : zs_in x3.toInt 2 2) {x4 : Int32} (h_x4 : zs_in x4.toInt (-1) (-1)) {x6 : Int32} (h_x6 : zs_in x6.toInt 1 1) {x7 : Int32} (h_x7 : zs_in x7.toInt 1 1) {x8 : Int32} (h_x8 : zs_in x8.toInt 0 0) {x9 : Int32} (h_x9 : zs_in x9.toInt 0 0) {t1 : Int32} (h_t1 : zs_in t1.toInt 0 0) {t2 : Int32} {t3 : Int32} (h_t3 : zs_in t3.toInt 3 3) {c : Int} (hc : x9.toInt = c + 0) : zs_ok (BX4_reckon_111 σ 1 27 x3 x4 x6 x7 x8 x9 t1 t2 t3) (fun r => zs_sum (fun v => ((zs_C σ0 v.1 ∧ zs_in (v.2).toInt 1 1)) ∧ v.2.toInt = c + 1) (fun v => False) r) := by
  unfold BX4_reckon_111
  obtain rfl : x3 = (2 : Int32) := zs_eqv h_x3 (by decide)
  obtain rfl : x4 = (-1 : Int32) := zs_eqv h_x4 (by decide)
  obtain rfl : x6 = (1 : Int32) := zs_eqv h_x6 (by decide)
  obtain rfl : x7 = (1 : Int32) := zs_eqv h_x7 (by decide)
  obtain rfl : x8 = (0 : Int32) := zs_eqv h_x8 (by decide)
  obtain rfl : t1 = (0 : Int32) := zs_eqv h_t1 (by decide)
  obtain rfl : t3 = (3 : Int32) := zs_eqv h_t3 (by decide)
  refine zs_gd (zs_gin h_t1 (by decide)) ?_
  refine zs_lt (Q := fun z => zs_C σ0 z) (zs_wrt h_σ (fun _ => rfl) (fun _ => rfl)) (fun σ_2 hσ_2 => ?_)
  refine zs_lt (Q := fun z => zs_in z.toInt 1 1 ∧ z.toInt = c + 1) ⟨(zs_addI 1 1 h_x9 zlI_1 (by decide)), (zs_syI 1 hc h_x9 zlI_1 (by decide) (by decide))⟩ (fun y_4 hy_4 => ?_)
  exact zs_some (zs_inl ⟨⟨hσ_2, hy_4.1⟩, hy_4.2⟩)
-- BX4_reckon_68
theorem zc_1277 {σ0 : sn_S} {σ : sn_S} (h_σ : zs_C σ0 σ) {x3 : Int32} (h_x3 : zs_in x3.toInt 2 2) {x4 : Int32} (h_x4 : zs_in x4.toInt (-1) (-1)) {x6 : Int32} (h_x6 : zs_in x6.toInt 1 1) {x7 : Int32} (h_x7 : zs_in x7.toInt 1 1) {x8 : Int32} (h_x8 : zs_in x8.toInt 0 0) {x9 : Int32} (h_x9 : zs_in x9.toInt 0 1) {c : Int} (hc : x9.toInt = c + 0) : zs_ok (BX4_reckon_68 σ 1 27 x3 x4 x6 x7 x8 x9) (fun r => zs_sum (fun v => ((zs_C σ0 v.1 ∧ zs_in (v.2).toInt 1 1)) ∧ v.2.toInt = c + 1) (fun v => zs_C σ0 v) r) := by
  unfold BX4_reckon_68
  obtain rfl : x3 = (2 : Int32) := zs_eqv h_x3 (by decide)
  obtain rfl : x4 = (-1 : Int32) := zs_eqv h_x4 (by decide)
  obtain rfl : x6 = (1 : Int32) := zs_eqv h_x6 (by decide)
  obtain rfl : x7 = (1 : Int32) := zs_eqv h_x7 (by decide)
  obtain rfl : x8 = (0 : Int32) := zs_eqv h_x8 (by decide)
  refine zs_ite (fun c1 => ?_) (fun c1 => ?_)
  · skip
    have r2 := (zs_I_le c1)
    have g3 : zs_in (x9).toInt 1 1 := (zs_ler 1 1 r2 h_x6 h_x9 (by decide))
    exact zs_some (zs_inr (h_σ))
  · skip
    have r4 := (zs_I_len c1)
    have g5 : zs_in (x9).toInt 0 0 := (zs_ltl 0 0 r4 h_x9 h_x6 (by decide))
    refine zs_gd (zs_gin g5 (by decide)) ?_
    refine zs_bd_ (zc_704 h_x7 (zs_subI 0 0 (zs_subI 0 0 h_x6 zlI_1 (by decide)) g5 (by decide))) (fun t_3 pt_3 => ?_)
    refine zs_ite (fun c6 => ?_) (fun c6 => ?_)
    · skip
      have r7 := (zs_I_eq c6)
      have g8 : zs_in (t_3).toInt 0 0 := (zs_eql 0 0 r7 pt_3 zlI_0 (by decide))
      obtain ⟨ret, er, hr⟩ := zc_1275 h_σ h_x3 h_x4 h_x6 h_x7 h_x8 g5 g5 zlI_0 hc
      refine ⟨ret, er, ?_⟩
      exact (zs_sumw hr (fun v w => ⟨w.1, w.2⟩) (fun v w => w.elim))
    · skip
      have r9 := (zs_I_eqn c6)
      have g10 : zs_in (t_3).toInt 1 1 := (zs_nel 1 1 r9 pt_3 zlI_0 (by decide))
      obtain ⟨ret, er, hr⟩ := zc_1276 h_σ h_x3 h_x4 h_x6 h_x7 h_x8 g5 g5 zlI_3 hc
      refine ⟨ret, er, ?_⟩
      exact (zs_sumw hr (fun v w => ⟨w.1, w.2⟩) (fun v w => w.elim))
theorem zd_241 {σ0 : sn_S} {x3 : Int32} (h_x3 : zs_in x3.toInt 2 2) {x4 : Int32} (h_x4 : zs_in x4.toInt (-1) (-1)) {x6 : Int32} (h_x6 : zs_in x6.toInt 1 1) {x7 : Int32} (h_x7 : zs_in x7.toInt 1 1) {x8 : Int32} (h_x8 : zs_in x8.toInt 0 0) {s0 : (sn_S × Int32)} (h0 : (zs_C σ0 s0.1 ∧ zs_in (s0.2).toInt 0 1)) : zs_ok (sn_it (LX4_reckon_68 1 27 x3 x4 x6 x7 x8) 5000 s0) (fun t => zs_C σ0 t) := by
  refine zs_it (I := fun s => (zs_C σ0 s.1 ∧ zs_in (s.2).toInt 0 1)) (m := fun s => 1 - s.2.toInt) (fun s hs => ?_) (fun s hs => ?_) (by exact h0)
  · have h1 := hs.2; unfold zs_in at h1
    omega
  · obtain ⟨b, eb, hb⟩ := zc_1277 hs.1 h_x3 h_x4 h_x6 h_x7 h_x8 hs.2 (c := s.2.toInt) (Int.add_zero _).symm
    exact ⟨b, eb, zs_sumw hb (fun v w => ⟨⟨w.1.1, (zs_w w.1.2 (by decide))⟩, by have := w.2; omega⟩) (fun v w => w)⟩
-- BX4_reckon_139
theorem zc_1278 {σ0 : sn_S} {σ : sn_S} (h_σ : zs_C σ0 σ) {x3 : Int32} (h_x3 : zs_in x3.toInt 2 2) {x4 : Int32} (h_x4 : zs_in x4.toInt (-1) (-1)) {x6 : Int32} (h_x6 : zs_in x6.toInt 1 1) {x7 : Int32} (h_x7 : zs_in x7.toInt 1 1) {t1 : Int32} (h_t1 : zs_in t1.toInt 0 0) {t2 : Int32} (h_t2 : zs_in t2.toInt 0 30) {c : Int} (hc : x7.toInt = c + 0) : zs_ok (BX4_reckon_139 σ 1 27 x3 x4 x6 x7 t1 t2) (fun r => zs_sum (fun v => ((zs_C σ0 v.1 ∧ zs_in (v.2).toInt 2 2)) ∧ v.2.toInt = c + 1) (fun v => False) r) := by
  unfold BX4_reckon_139
  obtain rfl : x3 = (2 : Int32) := zs_eqv h_x3 (by decide)
  obtain rfl : x4 = (-1 : Int32) := zs_eqv h_x4 (by decide)
  obtain rfl : x6 = (1 : Int32) := zs_eqv h_x6 (by decide)
  obtain rfl : t1 = (0 : Int32) := zs_eqv h_t1 (by decide)
  refine zs_bd_ (zc_1263 h_σ h_t1 h_t2) (fun t_1 pt_1 => ?_)
  refine zs_bd_ (zo_bc 1 1 (by decide) h_x7) (fun t_3 pt_3 => ?_)
  refine zs_gd (zs_gin pt_3 (by decide)) ?_
  refine zs_bd_ (zc_1271 pt_1 h_x3 h_x4 h_x6) (fun t_6 pt_6 => ?_)
  refine zs_lt (Q := fun z => zs_C σ0 z) (zs_wrL pt_6.2 rfl) (fun σ_8 hσ_8 => ?_)
  refine zs_lt (Q := fun z => zs_in z.toInt 2 2 ∧ z.toInt = c + 1) ⟨(zs_addI 2 2 h_x7 zlI_1 (by decide)), (zs_syI 1 hc h_x7 zlI_1 (by decide) (by decide))⟩ (fun y_10 hy_10 => ?_)
  exact zs_some (zs_inl ⟨⟨hσ_8, hy_10.1⟩, hy_10.2⟩)
-- BX4_reckon_119
theorem zc_1279 {σ0 : sn_S} {σ : sn_S} (h_σ : zs_C σ0 σ) {x3 : Int32} (h_x3 : zs_in x3.toInt 2 2) {x4 : Int32} (h_x4 : zs_in x4.toInt (-1) (-1)) {x6 : Int32} (h_x6 : zs_in x6.toInt 1 1) {x7 : Int32} (h_x7 : zs_in x7.toInt 1 1) {x8 : Int32} (h_x8 : zs_in x8.toInt 0 0) {c : Int} (hc : x7.toInt = c + 0) : zs_ok (BX4_reckon_119 σ 1 27 x3 x4 x6 x7 x8) (fun r => zs_sum (fun v => ((zs_C σ0 v.1 ∧ zs_in (v.2).toInt 2 2)) ∧ v.2.toInt = c + 1) (fun v => False) r) := by
  unfold BX4_reckon_119
  obtain rfl : x3 = (2 : Int32) := zs_eqv h_x3 (by decide)
  obtain rfl : x4 = (-1 : Int32) := zs_eqv h_x4 (by decide)
  obtain rfl : x6 = (1 : Int32) := zs_eqv h_x6 (by decide)
  obtain rfl : x8 = (0 : Int32) := zs_eqv h_x8 (by decide)
  refine zs_ite (fun c1 => ?_) (fun c1 => ?_)
  · skip
    have r2 := (zs_I_eq c1)
    obtain ⟨ret, er, hr⟩ := zc_1278 h_σ h_x3 h_x4 h_x6 h_x7 h_x8 (zs_rdk (q := 27) (k := 0) (z := (0, 30)) h_σ.1 rfl) hc
    refine ⟨ret, er, ?_⟩
    exact (zs_sumw hr (fun v w => ⟨w.1, w.2⟩) (fun v w => w.elim))
  · skip
    have r3 := (zs_I_eqn c1)
    exact (zs_botne r3 h_x3 zlI_2 (by decide)).elim
-- BX4_reckon_62
theorem zc_1280 {σ0 : sn_S} {σ : sn_S} (h_σ : zs_C σ0 σ) {x3 : Int32} (h_x3 : zs_in x3.toInt 2 2) {x4 : Int32} (h_x4 : zs_in x4.toInt (-1) (-1)) {x6 : Int32} (h_x6 : zs_in x6.toInt 1 1) {x7 : Int32} (h_x7 : zs_in x7.toInt 1 1) {t0 : Int32} (h_t0 : zs_in t0.toInt 0 0) {c : Int} (hc : x7.toInt = c + 0) : zs_ok (BX4_reckon_62 σ 1 27 x3 x4 x6 x7 t0) (fun r => zs_sum (fun v => ((zs_C σ0 v.1 ∧ zs_in (v.2).toInt 2 2)) ∧ v.2.toInt = c + 1) (fun v => False) r) := by
  unfold BX4_reckon_62
  obtain rfl : x3 = (2 : Int32) := zs_eqv h_x3 (by decide)
  obtain rfl : x4 = (-1 : Int32) := zs_eqv h_x4 (by decide)
  obtain rfl : x6 = (1 : Int32) := zs_eqv h_x6 (by decide)
  obtain rfl : t0 = (0 : Int32) := zs_eqv h_t0 (by decide)
  refine zs_bd_ (zd_241 h_x3 h_x4 h_x6 h_x7 h_t0 (s0 := (σ, (0 : Int32))) ⟨h_σ, (zs_w h_t0 (by decide))⟩) (fun t_1 pt_1 => ?_)
  obtain ⟨ret, er, hr⟩ := zc_1279 pt_1 h_x3 h_x4 h_x6 h_x7 h_t0 hc
  refine ⟨ret, er, ?_⟩
  exact (zs_sumw hr (fun v w => ⟨w.1, w.2⟩) (fun v w => w.elim))
-- BX4_reckon_34
theorem zc_1281 {σ0 : sn_S} {σ : sn_S} (h_σ : zs_C σ0 σ) {x3 : Int32} (h_x3 : zs_in x3.toInt 2 2) {x4 : Int32} (h_x4 : zs_in x4.toInt (-1) (-1)) {x6 : Int32} (h_x6 : zs_in x6.toInt 1 1) {x7 : Int32} (h_x7 : zs_in x7.toInt 0 2) {c : Int} (hc : x7.toInt = c + 0) : zs_ok (BX4_reckon_34 σ 1 27 x3 x4 x6 x7) (fun r => zs_sum (fun v => ((zs_C σ0 v.1 ∧ zs_in (v.2).toInt 1 2)) ∧ v.2.toInt = c + 1) (fun v => zs_C σ0 v) r) := by
  unfold BX4_reckon_34
  obtain rfl : x3 = (2 : Int32) := zs_eqv h_x3 (by decide)
  obtain rfl : x4 = (-1 : Int32) := zs_eqv h_x4 (by decide)
  obtain rfl : x6 = (1 : Int32) := zs_eqv h_x6 (by decide)
  refine zs_ite (fun c1 => ?_) (fun c1 => ?_)
  · skip
    have r2 := (zs_I_le c1)
    have g3 : zs_in (x7).toInt 2 2 := (zs_ler 2 2 r2 (zs_cases h_x6 (fun z => zs_in ((1 : Int32) <<< (z &&& 31)).toInt 2 2) (by decide +kernel)) h_x7 (by decide))
    exact zs_some (zs_inr (h_σ))
  · skip
    have r4 := (zs_I_len c1)
    have g5 : zs_in (x7).toInt 0 1 := (zs_ltl 0 1 r4 h_x7 (zs_cases h_x6 (fun z => zs_in ((1 : Int32) <<< (z &&& 31)).toInt 2 2) (by decide +kernel)) (by decide))
    refine zs_ite (fun c6 => ?_) (fun c6 => ?_)
    · skip
      have r7 := (zs_I_eq c6)
      have g8 : zs_in (x7).toInt 0 0 := (zs_eql 0 0 r7 g5 zlI_0 (by decide))
      obtain ⟨ret, er, hr⟩ := zc_1274 h_σ h_x3 h_x4 h_x6 g8 zlI_0 hc
      refine ⟨ret, er, ?_⟩
      exact (zs_sumw hr (fun v w => ⟨⟨w.1.1, (zs_w w.1.2 (by decide))⟩, w.2⟩) (fun v w => w.elim))
    · skip
      have r9 := (zs_I_eqn c6)
      have g10 : zs_in (x7).toInt 1 1 := (zs_nel 1 1 r9 g5 zlI_0 (by decide))
      refine zs_bd_ (zo_low1 1 0 (by decide) g10) (fun t_3 pt_3 => ?_)
      obtain ⟨ret, er, hr⟩ := zc_1280 h_σ h_x3 h_x4 h_x6 g10 (zs_subI 0 0 (zs_subI 0 0 h_x6 zlI_1 (by decide)) pt_3 (by decide)) hc
      refine ⟨ret, er, ?_⟩
      exact (zs_sumw hr (fun v w => ⟨⟨w.1.1, (zs_w w.1.2 (by decide))⟩, w.2⟩) (fun v w => w.elim))
theorem zd_242 {σ0 : sn_S} {x3 : Int32} (h_x3 : zs_in x3.toInt 2 2) {x4 : Int32} (h_x4 : zs_in x4.toInt (-1) (-1)) {x6 : Int32} (h_x6 : zs_in x6.toInt 1 1) {s0 : (sn_S × Int32)} (h0 : (zs_C σ0 s0.1 ∧ zs_in (s0.2).toInt 0 2)) : zs_ok (sn_it (LX4_reckon_34 1 27 x3 x4 x6) 5000 s0) (fun t => zs_C σ0 t) := by
  refine zs_it (I := fun s => (zs_C σ0 s.1 ∧ zs_in (s.2).toInt 0 2)) (m := fun s => 2 - s.2.toInt) (fun s hs => ?_) (fun s hs => ?_) (by exact h0)
  · have h1 := hs.2; unfold zs_in at h1
    omega
  · obtain ⟨b, eb, hb⟩ := zc_1281 hs.1 h_x3 h_x4 h_x6 hs.2 (c := s.2.toInt) (Int.add_zero _).symm
    exact ⟨b, eb, zs_sumw hb (fun v w => ⟨⟨w.1.1, (zs_w w.1.2 (by decide))⟩, by have := w.2; omega⟩) (fun v w => w)⟩
-- fX4_reckon
theorem zc_1282 {σ0 : sn_S} {σ : sn_S} (h_σ : zs_C σ0 σ) {x3 : Int32} (h_x3 : zs_in x3.toInt 2 2) {x4 : Int32} (h_x4 : zs_in x4.toInt (-1) (-1)) {x5 : Int32} (h_x5 : zs_in x5.toInt 0 0) : zs_ok (fX4_reckon σ 1 27 x3 x4 x5) (fun r => zs_C σ0 r) := by
  unfold fX4_reckon
  obtain rfl : x3 = (2 : Int32) := zs_eqv h_x3 (by decide)
  obtain rfl : x4 = (-1 : Int32) := zs_eqv h_x4 (by decide)
  obtain rfl : x5 = (0 : Int32) := zs_eqv h_x5 (by decide)
  refine zs_lt (Q := fun z => zs_in z.toInt 1 1) (zs_addI 1 1 h_x5 zlI_1 (by decide)) (fun y_1 hy_1 => ?_)
  refine zs_gd (zs_gin zlI_4 (by decide)) ?_
  refine zs_bd_ (zc_675 h_σ hy_1 (zs_rdk (q := 2) (k := (4 : Int32).toNatClampNeg) (z := (0, 10)) h_σ.1 rfl)) (fun t_4 pt_4 => ?_)
  refine zs_bd_ (zo_dcopy pt_4) (fun t_6 pt_6 => ?_)
  refine zs_lt (Q := fun z => zs_C σ0 z) (zs_wrL pt_6 rfl) (fun σ_8 hσ_8 => ?_)
  refine zs_bd_ (zd_242 h_x3 h_x4 hy_1 (s0 := (σ_8, (0 : Int32))) ⟨hσ_8, (zs_w zlI_0 (by decide))⟩) (fun t_10 pt_10 => ?_)
  obtain ⟨ret, er, hr⟩ := zc_717 pt_10 hy_1
  refine ⟨ret, er, ?_⟩
  exact hr
-- BX4_reckon_111
theorem zc_1283 {σ0 : sn_S} {σ : sn_S} (h_σ : zs_C σ0 σ) {x3 : Int32} (h_x3 : zs_in x3.toInt 2 2) {x4 : Int32} (h_x4 : zs_in x4.toInt (-1) (-1)) {x6 : Int32} (h_x6 : zs_in x6.toInt 2 2) {x7 : Int32} (h_x7 : zs_in x7.toInt 0 0) {x8 : Int32} (h_x8 : zs_in x8.toInt 0 0) {x9 : Int32} (h_x9 : zs_in x9.toInt 0 1) {t1 : Int32} (h_t1 : zs_in t1.toInt 0 1) {t2 : Int32} {t3 : Int32} (h_t3 : zs_in t3.toInt 0 0) {c : Int} (hc : x9.toInt = c + 0) : zs_ok (BX4_reckon_111 σ 1 27 x3 x4 x6 x7 x8 x9 t1 t2 t3) (fun r => zs_sum (fun v => ((zs_C σ0 v.1 ∧ zs_in (v.2).toInt 1 2)) ∧ v.2.toInt = c + 1) (fun v => False) r) := by
  unfold BX4_reckon_111
  obtain rfl : x3 = (2 : Int32) := zs_eqv h_x3 (by decide)
  obtain rfl : x4 = (-1 : Int32) := zs_eqv h_x4 (by decide)
  obtain rfl : x6 = (2 : Int32) := zs_eqv h_x6 (by decide)
  obtain rfl : x7 = (0 : Int32) := zs_eqv h_x7 (by decide)
  obtain rfl : x8 = (0 : Int32) := zs_eqv h_x8 (by decide)
  obtain rfl : t3 = (0 : Int32) := zs_eqv h_t3 (by decide)
  refine zs_gd (zs_gin h_t1 (by decide)) ?_
  refine zs_lt (Q := fun z => zs_C σ0 z) (zs_wrt h_σ (fun _ => rfl) (fun _ => rfl)) (fun σ_2 hσ_2 => ?_)
  refine zs_lt (Q := fun z => zs_in z.toInt 1 2 ∧ z.toInt = c + 1) ⟨(zs_addI 1 2 h_x9 zlI_1 (by decide)), (zs_syI 1 hc h_x9 zlI_1 (by decide) (by decide))⟩ (fun y_4 hy_4 => ?_)
  exact zs_some (zs_inl ⟨⟨hσ_2, hy_4.1⟩, hy_4.2⟩)
-- BX4_reckon_111
theorem zc_1284 {σ0 : sn_S} {σ : sn_S} (h_σ : zs_C σ0 σ) {x3 : Int32} (h_x3 : zs_in x3.toInt 2 2) {x4 : Int32} (h_x4 : zs_in x4.toInt (-1) (-1)) {x6 : Int32} (h_x6 : zs_in x6.toInt 2 2) {x7 : Int32} (h_x7 : zs_in x7.toInt 0 0) {x8 : Int32} (h_x8 : zs_in x8.toInt 0 0) {x9 : Int32} (h_x9 : zs_in x9.toInt 0 1) {t1 : Int32} (h_t1 : zs_in t1.toInt 0 1) {t2 : Int32} {t3 : Int32} (h_t3 : zs_in t3.toInt 3 3) {c : Int} (hc : x9.toInt = c + 0) : zs_ok (BX4_reckon_111 σ 1 27 x3 x4 x6 x7 x8 x9 t1 t2 t3) (fun r => zs_sum (fun v => ((zs_C σ0 v.1 ∧ zs_in (v.2).toInt 1 2)) ∧ v.2.toInt = c + 1) (fun v => False) r) := by
  unfold BX4_reckon_111
  obtain rfl : x3 = (2 : Int32) := zs_eqv h_x3 (by decide)
  obtain rfl : x4 = (-1 : Int32) := zs_eqv h_x4 (by decide)
  obtain rfl : x6 = (2 : Int32) := zs_eqv h_x6 (by decide)
  obtain rfl : x7 = (0 : Int32) := zs_eqv h_x7 (by decide)
  obtain rfl : x8 = (0 : Int32) := zs_eqv h_x8 (by decide)
  obtain rfl : t3 = (3 : Int32) := zs_eqv h_t3 (by decide)
  refine zs_gd (zs_gin h_t1 (by decide)) ?_
  refine zs_lt (Q := fun z => zs_C σ0 z) (zs_wrt h_σ (fun _ => rfl) (fun _ => rfl)) (fun σ_2 hσ_2 => ?_)
  refine zs_lt (Q := fun z => zs_in z.toInt 1 2 ∧ z.toInt = c + 1) ⟨(zs_addI 1 2 h_x9 zlI_1 (by decide)), (zs_syI 1 hc h_x9 zlI_1 (by decide) (by decide))⟩ (fun y_4 hy_4 => ?_)
  exact zs_some (zs_inl ⟨⟨hσ_2, hy_4.1⟩, hy_4.2⟩)
-- BX4_reckon_68
theorem zc_1285 {σ0 : sn_S} {σ : sn_S} (h_σ : zs_C σ0 σ) {x3 : Int32} (h_x3 : zs_in x3.toInt 2 2) {x4 : Int32} (h_x4 : zs_in x4.toInt (-1) (-1)) {x6 : Int32} (h_x6 : zs_in x6.toInt 2 2) {x7 : Int32} (h_x7 : zs_in x7.toInt 0 0) {x8 : Int32} (h_x8 : zs_in x8.toInt 0 0) {x9 : Int32} (h_x9 : zs_in x9.toInt 0 2) {c : Int} (hc : x9.toInt = c + 0) : zs_ok (BX4_reckon_68 σ 1 27 x3 x4 x6 x7 x8 x9) (fun r => zs_sum (fun v => ((zs_C σ0 v.1 ∧ zs_in (v.2).toInt 1 2)) ∧ v.2.toInt = c + 1) (fun v => zs_C σ0 v) r) := by
  unfold BX4_reckon_68
  obtain rfl : x3 = (2 : Int32) := zs_eqv h_x3 (by decide)
  obtain rfl : x4 = (-1 : Int32) := zs_eqv h_x4 (by decide)
  obtain rfl : x6 = (2 : Int32) := zs_eqv h_x6 (by decide)
  obtain rfl : x7 = (0 : Int32) := zs_eqv h_x7 (by decide)
  obtain rfl : x8 = (0 : Int32) := zs_eqv h_x8 (by decide)
  refine zs_ite (fun c1 => ?_) (fun c1 => ?_)
  · skip
    have r2 := (zs_I_le c1)
    have g3 : zs_in (x9).toInt 2 2 := (zs_ler 2 2 r2 h_x6 h_x9 (by decide))
    exact zs_some (zs_inr (h_σ))
  · skip
    have r4 := (zs_I_len c1)
    have g5 : zs_in (x9).toInt 0 1 := (zs_ltl 0 1 r4 h_x9 h_x6 (by decide))
    refine zs_gd (zs_gin g5 (by decide)) ?_
    refine zs_bd_ (zc_725 h_x7 (zs_subI 0 1 (zs_subI 1 1 h_x6 zlI_1 (by decide)) g5 (by decide))) (fun t_3 pt_3 => ?_)
    refine zs_ite (fun c6 => ?_) (fun c6 => ?_)
    · skip
      have r7 := (zs_I_eq c6)
      have g8 : zs_in (t_3).toInt 0 0 := (zs_eql 0 0 r7 pt_3 zlI_0 (by decide))
      obtain ⟨ret, er, hr⟩ := zc_1283 h_σ h_x3 h_x4 h_x6 h_x7 h_x8 g5 g5 zlI_0 hc
      refine ⟨ret, er, ?_⟩
      exact (zs_sumw hr (fun v w => ⟨w.1, w.2⟩) (fun v w => w.elim))
    · skip
      have r9 := (zs_I_eqn c6)
      have g10 : zs_in (t_3).toInt 1 1 := (zs_nel 1 1 r9 pt_3 zlI_0 (by decide))
      obtain ⟨ret, er, hr⟩ := zc_1284 h_σ h_x3 h_x4 h_x6 h_x7 h_x8 g5 g5 zlI_3 hc
      refine ⟨ret, er, ?_⟩
      exact (zs_sumw hr (fun v w => ⟨w.1, w.2⟩) (fun v w => w.elim))
theorem zd_243 {σ0 : sn_S} {x3 : Int32} (h_x3 : zs_in x3.toInt 2 2) {x4 : Int32} (h_x4 : zs_in x4.toInt (-1) (-1)) {x6 : Int32} (h_x6 : zs_in x6.toInt 2 2) {x7 : Int32} (h_x7 : zs_in x7.toInt 0 0) {x8 : Int32} (h_x8 : zs_in x8.toInt 0 0) {s0 : (sn_S × Int32)} (h0 : (zs_C σ0 s0.1 ∧ zs_in (s0.2).toInt 0 2)) : zs_ok (sn_it (LX4_reckon_68 1 27 x3 x4 x6 x7 x8) 5000 s0) (fun t => zs_C σ0 t) := by
  refine zs_it (I := fun s => (zs_C σ0 s.1 ∧ zs_in (s.2).toInt 0 2)) (m := fun s => 2 - s.2.toInt) (fun s hs => ?_) (fun s hs => ?_) (by exact h0)
  · have h1 := hs.2; unfold zs_in at h1
    omega
  · obtain ⟨b, eb, hb⟩ := zc_1285 hs.1 h_x3 h_x4 h_x6 h_x7 h_x8 hs.2 (c := s.2.toInt) (Int.add_zero _).symm
    exact ⟨b, eb, zs_sumw hb (fun v w => ⟨⟨w.1.1, (zs_w w.1.2 (by decide))⟩, by have := w.2; omega⟩) (fun v w => w)⟩
-- BX3_moneyAt_44
theorem zc_1286 {σ0 : sn_S} {σ : sn_S} (h_σ : zs_C σ0 σ) {x1 : Int32} (h_x1 : zs_in x1.toInt 0 1) {x2 : Int32} {x3 : Int32} (h_x3 : zs_in x3.toInt 0 5) {c : Int} (hc : x3.toInt = c + 0) : zs_ok (BX3_moneyAt_44 σ 70 x1 x2 x3) (fun r => zs_sum (fun v => ((True ∧ zs_in (v.2).toInt 1 6)) ∧ v.2.toInt = c + 1) (fun v => False) r) := by
  unfold BX3_moneyAt_44
  refine zs_lt (Q := fun z => zs_in z.toInt 1 6 ∧ z.toInt = c + 1) ⟨(zs_addI 1 6 h_x3 zlI_1 (by decide)), (zs_syI 1 hc h_x3 zlI_1 (by decide) (by decide))⟩ (fun y_1 hy_1 => ?_)
  exact zs_some (zs_inl ⟨⟨trivial, hy_1.1⟩, hy_1.2⟩)
-- BX3_moneyAt_7
theorem zc_1287 {σ0 : sn_S} {σ : sn_S} (h_σ : zs_C σ0 σ) {x1 : Int32} (h_x1 : zs_in x1.toInt 0 1) {x2 : Int32} {x3 : Int32} (h_x3 : zs_in x3.toInt 0 6) {c : Int} (hc : x3.toInt = c + 0) : zs_ok (BX3_moneyAt_7 σ 70 x1 x2 x3) (fun r => zs_sum (fun v => ((True ∧ zs_in (v.2).toInt 1 6)) ∧ v.2.toInt = c + 1) (fun v => True) r) := by
  unfold BX3_moneyAt_7
  refine zs_ite (fun c1 => ?_) (fun c1 => ?_)
  · skip
    have r2 := (zs_I_le c1)
    exact zs_some (zs_inr (trivial))
  · skip
    have r3 := (zs_I_len c1)
    have g4 : zs_in (x3).toInt 0 5 := (zs_ltl 0 5 r3 h_x3 (zs_rdk (q := 70) (k := 2) (z := (0, 6)) h_σ.1 rfl) (by decide))
    have g5 : zs_in ((sn_I σ 70 2)).toInt 1 6 := (zs_ltr 1 6 r3 h_x3 (zs_rdk (q := 70) (k := 2) (z := (0, 6)) h_σ.1 rfl) (by decide))
    refine zs_gd (zs_gin g4 (by decide)) ?_
    refine zs_ite (fun c6 => ?_) (fun c6 => ?_)
    · skip
      have r7 := (zs_I_eq c6)
      have g8 : zs_in ((sn_I σ (70 + 2) x3.toNatClampNeg)).toInt (-1) (-1) := (zs_eql (-1) (-1) r7 (zs_rdu (q := 72) (z := ((-1), 63)) h_σ.1 (fun _ => rfl)) zlI_m1 (by decide))
      obtain ⟨ret, er, hr⟩ := zc_1286 h_σ h_x1 g4 hc
      refine ⟨ret, er, ?_⟩
      exact (zs_sumw hr (fun v w => ⟨w.1, w.2⟩) (fun v w => w.elim))
    · skip
      have r9 := (zs_I_eqn c6)
      have g10 : zs_in ((sn_I σ (70 + 2) x3.toNatClampNeg)).toInt 0 63 := (zs_nel 0 63 r9 (zs_rdu (q := 72) (z := ((-1), 63)) h_σ.1 (fun _ => rfl)) zlI_m1 (by decide))
      refine zs_gd (zs_gin g4 (by decide)) ?_
      refine zs_ite (fun c11 => ?_) (fun c11 => ?_)
      · skip
        have r12 := (zs_I_lt c11)
        have g13 : zs_in ((sn_I σ (70 + 2) x3.toNatClampNeg)).toInt 1 63 := (zs_ltr 1 63 r12 h_x1 g10 (by decide))
        obtain ⟨ret, er, hr⟩ := zc_1286 h_σ h_x1 g4 hc
        refine ⟨ret, er, ?_⟩
        exact (zs_sumw hr (fun v w => ⟨w.1, w.2⟩) (fun v w => w.elim))
      · skip
        have r14 := (zs_I_ltn c11)
        have g15 : zs_in ((sn_I σ (70 + 2) x3.toNatClampNeg)).toInt 0 1 := (zs_lel 0 1 r14 g10 h_x1 (by decide))
        refine zs_gd (zs_gin g4 (by decide)) ?_
        refine zs_lt (Q := fun z => True) trivial (fun y_7 hy_7 => ?_)
        obtain ⟨ret, er, hr⟩ := zc_1286 h_σ h_x1 g4 hc
        refine ⟨ret, er, ?_⟩
        exact (zs_sumw hr (fun v w => ⟨w.1, w.2⟩) (fun v w => w.elim))
theorem zd_244 {σ0 : sn_S} {σ : sn_S} (h_σ : zs_C σ0 σ) {x1 : Int32} (h_x1 : zs_in x1.toInt 0 1) {s0 : (Int32 × Int32)} (h0 : (True ∧ zs_in (s0.2).toInt 0 6)) : zs_ok (sn_it (LX3_moneyAt_7 σ 70 x1) 5000 s0) (fun t => True) := by
  refine zs_it (I := fun s => (True ∧ zs_in (s.2).toInt 0 6)) (m := fun s => 6 - s.2.toInt) (fun s hs => ?_) (fun s hs => ?_) (by exact h0)
  · have h1 := hs.2; unfold zs_in at h1
    omega
  · obtain ⟨b, eb, hb⟩ := zc_1287 h_σ h_x1 hs.2 (c := s.2.toInt) (Int.add_zero _).symm
    exact ⟨b, eb, zs_sumw hb (fun v w => ⟨⟨w.1.1, (zs_w w.1.2 (by decide))⟩, by have := w.2; omega⟩) (fun v w => w)⟩
-- fX3_moneyAt
theorem zc_1288 {σ0 : sn_S} {σ : sn_S} (h_σ : zs_C σ0 σ) {x1 : Int32} (h_x1 : zs_in x1.toInt 0 1) : zs_ok (fX3_moneyAt σ 70 x1) (fun r => True) := by
  unfold fX3_moneyAt
  refine zs_lt (Q := fun z => True) trivial (fun y_1 hy_1 => ?_)
  refine zs_bd_ (zd_244 h_σ h_x1 (s0 := (y_1, (0 : Int32))) ⟨trivial, (zs_w zlI_0 (by decide))⟩) (fun t_3 pt_3 => ?_)
  obtain ⟨ret, er, hr⟩ := zc_1266 h_σ
  refine ⟨ret, er, ?_⟩
  exact hr
-- BX3_firstBelow_2
theorem zc_1289 {σ0 : sn_S} {σ : sn_S} (h_σ : zs_C σ0 σ) {x1 : Int32} (h_x1 : zs_in x1.toInt 2 2) {x2 : Int32} (h_x2 : zs_in x2.toInt 0 2) {c : Int} (hc : x2.toInt = c + 0) : zs_ok (BX3_firstBelow_2 σ 70 x1 x2) (fun r => zs_sum (fun v => (zs_in (v).toInt 1 2) ∧ v.toInt = c + 1) (fun v => zs_sum (fun v => True) (fun v => zs_in (v).toInt 0 1) v) r) := by
  unfold BX3_firstBelow_2
  obtain rfl : x1 = (2 : Int32) := zs_eqv h_x1 (by decide)
  refine zs_ite (fun c1 => ?_) (fun c1 => ?_)
  · skip
    have r2 := (zs_I_le c1)
    have g3 : zs_in (x2).toInt 2 2 := (zs_ler 2 2 r2 h_x1 h_x2 (by decide))
    exact zs_some (zs_inr ((zs_inl (trivial))))
  · skip
    have r4 := (zs_I_len c1)
    have g5 : zs_in (x2).toInt 0 1 := (zs_ltl 0 1 r4 h_x2 h_x1 (by decide))
    refine zs_bd_ (zc_1288 h_σ g5) (fun t_2 pt_2 => ?_)
    refine zs_ite (fun c6 => ?_) (fun c6 => ?_)
    · skip
      have r7 := (zs_I_le c6)
      have g8 : zs_in (t_2).toInt 0 2147483647 := (zs_ler 0 2147483647 r7 zlI_0 (zs_topI _) (by decide))
      refine zs_lt (Q := fun z => zs_in z.toInt 1 2 ∧ z.toInt = c + 1) ⟨(zs_addI 1 2 g5 zlI_1 (by decide)), (zs_syI 1 hc g5 zlI_1 (by decide) (by decide))⟩ (fun y_5 hy_5 => ?_)
      exact zs_some (zs_inl ⟨hy_5.1, hy_5.2⟩)
    · skip
      have r9 := (zs_I_len c6)
      have g10 : zs_in (t_2).toInt (-2147483648) (-1) := (zs_ltl (-2147483648) (-1) r9 (zs_topI _) zlI_0 (by decide))
      exact zs_some (zs_inr ((zs_inr (g5))))
theorem zd_245 {σ0 : sn_S} {σ : sn_S} (h_σ : zs_C σ0 σ) {x1 : Int32} (h_x1 : zs_in x1.toInt 2 2) {s0 : Int32} (h0 : zs_in (s0).toInt 0 2) : zs_ok (sn_it (LX3_firstBelow_2 σ 70 x1) 5000 s0) (fun t => zs_sum (fun v => True) (fun v => zs_in (v).toInt 0 1) t) := by
  refine zs_it (I := fun s => zs_in (s).toInt 0 2) (m := fun s => 2 - s.toInt) (fun s hs => ?_) (fun s hs => ?_) (by exact h0)
  · have h1 := hs; unfold zs_in at h1
    omega
  · obtain ⟨b, eb, hb⟩ := zc_1289 h_σ h_x1 hs (c := s.toInt) (Int.add_zero _).symm
    exact ⟨b, eb, zs_sumw hb (fun v w => ⟨(zs_w w.1 (by decide)), by have := w.2; omega⟩) (fun v w => w)⟩
-- fX3_firstBelow
theorem zc_1290 {σ0 : sn_S} {σ : sn_S} (h_σ : zs_C σ0 σ) {x1 : Int32} (h_x1 : zs_in x1.toInt 2 2) : zs_ok (fX3_firstBelow σ 70 x1) (fun r => zs_in (r).toInt (-1) 1) := by
  unfold fX3_firstBelow
  obtain rfl : x1 = (2 : Int32) := zs_eqv h_x1 (by decide)
  refine zs_bd_ (zd_245 h_σ h_x1 (s0 := (0 : Int32)) (zs_w zlI_0 (by decide))) (fun t_1 pt_1 => ?_)
  refine zs_elim pt_1 (fun v_3 pv_3 => ?_) (fun r_4 pr_4 => ?_)
  · skip
    obtain ⟨ret, er, hr⟩ := zc_1269 h_σ
    refine ⟨ret, er, ?_⟩
    exact (zs_w hr (by decide))
  · skip
    exact zs_some (zs_w pr_4 (by decide))
-- fX4_worth
theorem zc_1291 {σ0 : sn_S} {σ : sn_S} (h_σ : zs_C σ0 σ) {x2 : Int32} (h_x2 : zs_in x2.toInt 2 2) {x3 : Int32} (h_x3 : zs_in x3.toInt (-1) (-1)) {x4 : Int32} (h_x4 : zs_in x4.toInt 2 2) : zs_ok (fX4_worth σ 1 x2 x3 x4) (fun r => (zs_in (r.1).toInt 0 1 ∧ zs_C σ0 r.2)) := by
  unfold fX4_worth
  obtain rfl : x2 = (2 : Int32) := zs_eqv h_x2 (by decide)
  obtain rfl : x3 = (-1 : Int32) := zs_eqv h_x3 (by decide)
  obtain rfl : x4 = (2 : Int32) := zs_eqv h_x4 (by decide)
  refine zs_ite (fun c1 => ?_) (fun c1 => ?_)
  · skip
    have r2 := (zs_I_eq c1)
    exact (zs_botr r2 h_x2 zlI_0 (by decide)).elim
  · skip
    have r3 := (zs_I_eqn c1)
    refine zs_gd (zs_gin zlI_2 (by decide)) ?_
    refine zs_bd_ (zo_reckon_70_59_0_3 h_σ (zs_rdk (q := 2) (k := (2 : Int32).toNatClampNeg) (z := (0, 3)) h_σ.1 rfl)) (fun t_3 pt_3 => ?_)
    refine zs_ite (fun c4 => ?_) (fun c4 => ?_)
    · skip
      have r5 := (zs_I_eq c4)
      exact (zs_botr r5 h_x2 zlI_1 (by decide)).elim
    · skip
      have r6 := (zs_I_eqn c4)
      refine zs_bd_ (zc_1290 pt_3 h_x4) (fun t_6 pt_6 => ?_)
      refine zs_ite (fun c7 => ?_) (fun c7 => ?_)
      · skip
        have r8 := (zs_I_eq c7)
        have g9 : zs_in (t_6).toInt (-1) (-1) := (zs_eql (-1) (-1) r8 pt_6 zlI_m1 (by decide))
        exact zs_some ⟨(zs_w zlL_0 (by decide)), pt_3⟩
      · skip
        have r10 := (zs_I_eqn c7)
        have g11 : zs_in (t_6).toInt 0 1 := (zs_nel 0 1 r10 pt_6 zlI_m1 (by decide))
        exact zs_some ⟨(zs_w zlL_1 (by decide)), pt_3⟩
-- BX4_reckon_139
theorem zc_1292 {σ0 : sn_S} {σ : sn_S} (h_σ : zs_C σ0 σ) {x3 : Int32} (h_x3 : zs_in x3.toInt 2 2) {x4 : Int32} (h_x4 : zs_in x4.toInt (-1) (-1)) {x6 : Int32} (h_x6 : zs_in x6.toInt 2 2) {x7 : Int32} (h_x7 : zs_in x7.toInt 0 0) {t1 : Int32} (h_t1 : zs_in t1.toInt 0 0) {t2 : Int32} (h_t2 : zs_in t2.toInt 0 30) {c : Int} (hc : x7.toInt = c + 0) : zs_ok (BX4_reckon_139 σ 1 27 x3 x4 x6 x7 t1 t2) (fun r => zs_sum (fun v => ((zs_C σ0 v.1 ∧ zs_in (v.2).toInt 1 1)) ∧ v.2.toInt = c + 1) (fun v => False) r) := by
  unfold BX4_reckon_139
  obtain rfl : x3 = (2 : Int32) := zs_eqv h_x3 (by decide)
  obtain rfl : x4 = (-1 : Int32) := zs_eqv h_x4 (by decide)
  obtain rfl : x6 = (2 : Int32) := zs_eqv h_x6 (by decide)
  obtain rfl : t1 = (0 : Int32) := zs_eqv h_t1 (by decide)
  refine zs_bd_ (zc_1263 h_σ h_t1 h_t2) (fun t_1 pt_1 => ?_)
  refine zs_bd_ (zo_bc 0 0 (by decide) h_x7) (fun t_3 pt_3 => ?_)
  refine zs_gd (zs_gin pt_3 (by decide)) ?_
  refine zs_bd_ (zc_1291 pt_1 h_x3 h_x4 h_x6) (fun t_6 pt_6 => ?_)
  refine zs_lt (Q := fun z => zs_C σ0 z) (zs_wrL pt_6.2 rfl) (fun σ_8 hσ_8 => ?_)
  refine zs_lt (Q := fun z => zs_in z.toInt 1 1 ∧ z.toInt = c + 1) ⟨(zs_addI 1 1 h_x7 zlI_1 (by decide)), (zs_syI 1 hc h_x7 zlI_1 (by decide) (by decide))⟩ (fun y_10 hy_10 => ?_)
  exact zs_some (zs_inl ⟨⟨hσ_8, hy_10.1⟩, hy_10.2⟩)
-- BX4_reckon_119
theorem zc_1293 {σ0 : sn_S} {σ : sn_S} (h_σ : zs_C σ0 σ) {x3 : Int32} (h_x3 : zs_in x3.toInt 2 2) {x4 : Int32} (h_x4 : zs_in x4.toInt (-1) (-1)) {x6 : Int32} (h_x6 : zs_in x6.toInt 2 2) {x7 : Int32} (h_x7 : zs_in x7.toInt 0 0) {x8 : Int32} (h_x8 : zs_in x8.toInt 0 0) {c : Int} (hc : x7.toInt = c + 0) : zs_ok (BX4_reckon_119 σ 1 27 x3 x4 x6 x7 x8) (fun r => zs_sum (fun v => ((zs_C σ0 v.1 ∧ zs_in (v.2).toInt 1 1)) ∧ v.2.toInt = c + 1) (fun v => False) r) := by
  unfold BX4_reckon_119
  obtain rfl : x3 = (2 : Int32) := zs_eqv h_x3 (by decide)
  obtain rfl : x4 = (-1 : Int32) := zs_eqv h_x4 (by decide)
  obtain rfl : x6 = (2 : Int32) := zs_eqv h_x6 (by decide)
  obtain rfl : x8 = (0 : Int32) := zs_eqv h_x8 (by decide)
  refine zs_ite (fun c1 => ?_) (fun c1 => ?_)
  · skip
    have r2 := (zs_I_eq c1)
    obtain ⟨ret, er, hr⟩ := zc_1292 h_σ h_x3 h_x4 h_x6 h_x7 h_x8 (zs_rdk (q := 27) (k := 0) (z := (0, 30)) h_σ.1 rfl) hc
    refine ⟨ret, er, ?_⟩
    exact (zs_sumw hr (fun v w => ⟨w.1, w.2⟩) (fun v w => w.elim))
  · skip
    have r3 := (zs_I_eqn c1)
    exact (zs_botne r3 h_x3 zlI_2 (by decide)).elim
-- BX4_reckon_62
theorem zc_1294 {σ0 : sn_S} {σ : sn_S} (h_σ : zs_C σ0 σ) {x3 : Int32} (h_x3 : zs_in x3.toInt 2 2) {x4 : Int32} (h_x4 : zs_in x4.toInt (-1) (-1)) {x6 : Int32} (h_x6 : zs_in x6.toInt 2 2) {x7 : Int32} (h_x7 : zs_in x7.toInt 0 0) {t0 : Int32} (h_t0 : zs_in t0.toInt 0 0) {c : Int} (hc : x7.toInt = c + 0) : zs_ok (BX4_reckon_62 σ 1 27 x3 x4 x6 x7 t0) (fun r => zs_sum (fun v => ((zs_C σ0 v.1 ∧ zs_in (v.2).toInt 1 1)) ∧ v.2.toInt = c + 1) (fun v => False) r) := by
  unfold BX4_reckon_62
  obtain rfl : x3 = (2 : Int32) := zs_eqv h_x3 (by decide)
  obtain rfl : x4 = (-1 : Int32) := zs_eqv h_x4 (by decide)
  obtain rfl : x6 = (2 : Int32) := zs_eqv h_x6 (by decide)
  obtain rfl : t0 = (0 : Int32) := zs_eqv h_t0 (by decide)
  refine zs_bd_ (zd_243 h_x3 h_x4 h_x6 h_x7 h_t0 (s0 := (σ, (0 : Int32))) ⟨h_σ, (zs_w h_t0 (by decide))⟩) (fun t_1 pt_1 => ?_)
  obtain ⟨ret, er, hr⟩ := zc_1293 pt_1 h_x3 h_x4 h_x6 h_x7 h_t0 hc
  refine ⟨ret, er, ?_⟩
  exact (zs_sumw hr (fun v w => ⟨w.1, w.2⟩) (fun v w => w.elim))
-- BX4_reckon_111
theorem zc_1295 {σ0 : sn_S} {σ : sn_S} (h_σ : zs_C σ0 σ) {x3 : Int32} (h_x3 : zs_in x3.toInt 2 2) {x4 : Int32} (h_x4 : zs_in x4.toInt (-1) (-1)) {x6 : Int32} (h_x6 : zs_in x6.toInt 2 2) {x7 : Int32} (h_x7 : zs_in x7.toInt 1 3) {x8 : Int32} (h_x8 : zs_in x8.toInt 0 1) {x9 : Int32} (h_x9 : zs_in x9.toInt 0 1) {t1 : Int32} (h_t1 : zs_in t1.toInt 0 1) {t2 : Int32} {t3 : Int32} (h_t3 : zs_in t3.toInt 0 0) {c : Int} (hc : x9.toInt = c + 0) : zs_ok (BX4_reckon_111 σ 1 27 x3 x4 x6 x7 x8 x9 t1 t2 t3) (fun r => zs_sum (fun v => ((zs_C σ0 v.1 ∧ zs_in (v.2).toInt 1 2)) ∧ v.2.toInt = c + 1) (fun v => False) r) := by
  unfold BX4_reckon_111
  obtain rfl : x3 = (2 : Int32) := zs_eqv h_x3 (by decide)
  obtain rfl : x4 = (-1 : Int32) := zs_eqv h_x4 (by decide)
  obtain rfl : x6 = (2 : Int32) := zs_eqv h_x6 (by decide)
  obtain rfl : t3 = (0 : Int32) := zs_eqv h_t3 (by decide)
  refine zs_gd (zs_gin h_t1 (by decide)) ?_
  refine zs_lt (Q := fun z => zs_C σ0 z) (zs_wrt h_σ (fun _ => rfl) (fun _ => rfl)) (fun σ_2 hσ_2 => ?_)
  refine zs_lt (Q := fun z => zs_in z.toInt 1 2 ∧ z.toInt = c + 1) ⟨(zs_addI 1 2 h_x9 zlI_1 (by decide)), (zs_syI 1 hc h_x9 zlI_1 (by decide) (by decide))⟩ (fun y_4 hy_4 => ?_)
  exact zs_some (zs_inl ⟨⟨hσ_2, hy_4.1⟩, hy_4.2⟩)
-- BX4_reckon_111
theorem zc_1296 {σ0 : sn_S} {σ : sn_S} (h_σ : zs_C σ0 σ) {x3 : Int32} (h_x3 : zs_in x3.toInt 2 2) {x4 : Int32} (h_x4 : zs_in x4.toInt (-1) (-1)) {x6 : Int32} (h_x6 : zs_in x6.toInt 2 2) {x7 : Int32} (h_x7 : zs_in x7.toInt 1 3) {x8 : Int32} (h_x8 : zs_in x8.toInt 0 1) {x9 : Int32} (h_x9 : zs_in x9.toInt 0 1) {t1 : Int32} (h_t1 : zs_in t1.toInt 0 1) {t2 : Int32} {t3 : Int32} (h_t3 : zs_in t3.toInt 3 3) {c : Int} (hc : x9.toInt = c + 0) : zs_ok (BX4_reckon_111 σ 1 27 x3 x4 x6 x7 x8 x9 t1 t2 t3) (fun r => zs_sum (fun v => ((zs_C σ0 v.1 ∧ zs_in (v.2).toInt 1 2)) ∧ v.2.toInt = c + 1) (fun v => False) r) := by
  unfold BX4_reckon_111
  obtain rfl : x3 = (2 : Int32) := zs_eqv h_x3 (by decide)
  obtain rfl : x4 = (-1 : Int32) := zs_eqv h_x4 (by decide)
  obtain rfl : x6 = (2 : Int32) := zs_eqv h_x6 (by decide)
  obtain rfl : t3 = (3 : Int32) := zs_eqv h_t3 (by decide)
  refine zs_gd (zs_gin h_t1 (by decide)) ?_
  refine zs_lt (Q := fun z => zs_C σ0 z) (zs_wrt h_σ (fun _ => rfl) (fun _ => rfl)) (fun σ_2 hσ_2 => ?_)
  refine zs_lt (Q := fun z => zs_in z.toInt 1 2 ∧ z.toInt = c + 1) ⟨(zs_addI 1 2 h_x9 zlI_1 (by decide)), (zs_syI 1 hc h_x9 zlI_1 (by decide) (by decide))⟩ (fun y_4 hy_4 => ?_)
  exact zs_some (zs_inl ⟨⟨hσ_2, hy_4.1⟩, hy_4.2⟩)
-- BX4_reckon_68
theorem zc_1297 {σ0 : sn_S} {σ : sn_S} (h_σ : zs_C σ0 σ) {x3 : Int32} (h_x3 : zs_in x3.toInt 2 2) {x4 : Int32} (h_x4 : zs_in x4.toInt (-1) (-1)) {x6 : Int32} (h_x6 : zs_in x6.toInt 2 2) {x7 : Int32} (h_x7 : zs_in x7.toInt 1 3) {x8 : Int32} (h_x8 : zs_in x8.toInt 0 1) {x9 : Int32} (h_x9 : zs_in x9.toInt 0 2) {c : Int} (hc : x9.toInt = c + 0) : zs_ok (BX4_reckon_68 σ 1 27 x3 x4 x6 x7 x8 x9) (fun r => zs_sum (fun v => ((zs_C σ0 v.1 ∧ zs_in (v.2).toInt 1 2)) ∧ v.2.toInt = c + 1) (fun v => zs_C σ0 v) r) := by
  unfold BX4_reckon_68
  obtain rfl : x3 = (2 : Int32) := zs_eqv h_x3 (by decide)
  obtain rfl : x4 = (-1 : Int32) := zs_eqv h_x4 (by decide)
  obtain rfl : x6 = (2 : Int32) := zs_eqv h_x6 (by decide)
  refine zs_ite (fun c1 => ?_) (fun c1 => ?_)
  · skip
    have r2 := (zs_I_le c1)
    have g3 : zs_in (x9).toInt 2 2 := (zs_ler 2 2 r2 h_x6 h_x9 (by decide))
    exact zs_some (zs_inr (h_σ))
  · skip
    have r4 := (zs_I_len c1)
    have g5 : zs_in (x9).toInt 0 1 := (zs_ltl 0 1 r4 h_x9 h_x6 (by decide))
    refine zs_gd (zs_gin g5 (by decide)) ?_
    refine zs_bd_ (zc_761 h_x7 (zs_subI 0 1 (zs_subI 1 1 h_x6 zlI_1 (by decide)) g5 (by decide))) (fun t_3 pt_3 => ?_)
    refine zs_ite (fun c6 => ?_) (fun c6 => ?_)
    · skip
      have r7 := (zs_I_eq c6)
      have g8 : zs_in (t_3).toInt 0 0 := (zs_eql 0 0 r7 pt_3 zlI_0 (by decide))
      obtain ⟨ret, er, hr⟩ := zc_1295 h_σ h_x3 h_x4 h_x6 h_x7 h_x8 g5 g5 zlI_0 hc
      refine ⟨ret, er, ?_⟩
      exact (zs_sumw hr (fun v w => ⟨w.1, w.2⟩) (fun v w => w.elim))
    · skip
      have r9 := (zs_I_eqn c6)
      have g10 : zs_in (t_3).toInt 1 1 := (zs_nel 1 1 r9 pt_3 zlI_0 (by decide))
      obtain ⟨ret, er, hr⟩ := zc_1296 h_σ h_x3 h_x4 h_x6 h_x7 h_x8 g5 g5 zlI_3 hc
      refine ⟨ret, er, ?_⟩
      exact (zs_sumw hr (fun v w => ⟨w.1, w.2⟩) (fun v w => w.elim))
theorem zd_246 {σ0 : sn_S} {x3 : Int32} (h_x3 : zs_in x3.toInt 2 2) {x4 : Int32} (h_x4 : zs_in x4.toInt (-1) (-1)) {x6 : Int32} (h_x6 : zs_in x6.toInt 2 2) {x7 : Int32} (h_x7 : zs_in x7.toInt 1 3) {x8 : Int32} (h_x8 : zs_in x8.toInt 0 1) {s0 : (sn_S × Int32)} (h0 : (zs_C σ0 s0.1 ∧ zs_in (s0.2).toInt 0 2)) : zs_ok (sn_it (LX4_reckon_68 1 27 x3 x4 x6 x7 x8) 5000 s0) (fun t => zs_C σ0 t) := by
  refine zs_it (I := fun s => (zs_C σ0 s.1 ∧ zs_in (s.2).toInt 0 2)) (m := fun s => 2 - s.2.toInt) (fun s hs => ?_) (fun s hs => ?_) (by exact h0)
  · have h1 := hs.2; unfold zs_in at h1
    omega
  · obtain ⟨b, eb, hb⟩ := zc_1297 hs.1 h_x3 h_x4 h_x6 h_x7 h_x8 hs.2 (c := s.2.toInt) (Int.add_zero _).symm
    exact ⟨b, eb, zs_sumw hb (fun v w => ⟨⟨w.1.1, (zs_w w.1.2 (by decide))⟩, by have := w.2; omega⟩) (fun v w => w)⟩
-- BX0_live_2
theorem zc_1298 {σ0 : sn_S} {σ : sn_S} (h_σ : zs_C σ0 σ) {x1 : Int32} (h_x1 : zs_in x1.toInt 0 1) {x2 : Int32} (h_x2 : zs_in x2.toInt 0 30) {x3 : Int32} (h_x3 : zs_in x3.toInt 0 6) {c : Int} (hc : x3.toInt = c + 0) : zs_ok (BX0_live_2 σ 59 x1 x2 x3) (fun r => zs_sum (fun v => ((zs_C σ0 v.1 ∧ zs_in (v.2).toInt 1 6)) ∧ v.2.toInt = c + 1) (fun v => zs_C σ0 v) r) := by
  unfold BX0_live_2
  refine zs_ite (fun c1 => ?_) (fun c1 => ?_)
  · skip
    have r2 := (zs_I_le c1)
    exact zs_some (zs_inr (h_σ))
  · skip
    have r3 := (zs_I_len c1)
    have g4 : zs_in (x3).toInt 0 5 := (zs_ltl 0 5 r3 h_x3 (zs_rdk (q := 59) (k := 1) (z := (0, 6)) h_σ.1 rfl) (by decide))
    have g5 : zs_in ((sn_I σ 59 1)).toInt 1 6 := (zs_ltr 1 6 r3 h_x3 (zs_rdk (q := 59) (k := 1) (z := (0, 6)) h_σ.1 rfl) (by decide))
    refine zs_gd (zs_gin g4 (by decide)) ?_
    refine zs_bd_ (zc_765 h_x1) (fun t_3 pt_3 => ?_)
    refine zs_gd (zs_gin g4 (by decide)) ?_
    refine zs_lt (Q := fun z => zs_C σ0 z) (zs_wru (z := (0, 1073741823)) h_σ (fun _ => rfl) (zs_and pt_3 (by decide)) (by decide) (fun _ => rfl)) (fun σ_6 hσ_6 => ?_)
    refine zs_lt (Q := fun z => zs_in z.toInt 1 6 ∧ z.toInt = c + 1) ⟨(zs_addI 1 6 g4 zlI_1 (by decide)), (zs_syI 1 hc g4 zlI_1 (by decide) (by decide))⟩ (fun y_8 hy_8 => ?_)
    exact zs_some (zs_inl ⟨⟨hσ_6, hy_8.1⟩, hy_8.2⟩)
theorem zd_247 {σ0 : sn_S} {x1 : Int32} (h_x1 : zs_in x1.toInt 0 1) {x2 : Int32} (h_x2 : zs_in x2.toInt 0 30) {s0 : (sn_S × Int32)} (h0 : (zs_C σ0 s0.1 ∧ zs_in (s0.2).toInt 0 6)) : zs_ok (sn_it (LX0_live_2 59 x1 x2) 5000 s0) (fun t => zs_C σ0 t) := by
  refine zs_it (I := fun s => (zs_C σ0 s.1 ∧ zs_in (s.2).toInt 0 6)) (m := fun s => 6 - s.2.toInt) (fun s hs => ?_) (fun s hs => ?_) (by exact h0)
  · have h1 := hs.2; unfold zs_in at h1
    omega
  · obtain ⟨b, eb, hb⟩ := zc_1298 hs.1 h_x1 h_x2 hs.2 (c := s.2.toInt) (Int.add_zero _).symm
    exact ⟨b, eb, zs_sumw hb (fun v w => ⟨⟨w.1.1, (zs_w w.1.2 (by decide))⟩, by have := w.2; omega⟩) (fun v w => w)⟩
-- BX0_live_29
theorem zc_1299 {σ0 : sn_S} {σ : sn_S} (h_σ : zs_C σ0 σ) {x1 : Int32} (h_x1 : zs_in x1.toInt 0 1) {x2 : Int32} (h_x2 : zs_in x2.toInt 0 30) : zs_ok (BX0_live_29 σ 59 x1 x2) (fun r => zs_C σ0 r) := by
  unfold BX0_live_29
  refine zs_bd_ (zd_238 h_x2 (s0 := (σ, x1)) ⟨h_σ, (zs_w h_x1 (by decide))⟩) (fun t_1 pt_1 => ?_)
  obtain ⟨ret, er, hr⟩ := zc_697 pt_1
  refine ⟨ret, er, ?_⟩
  exact hr
-- fX0_live
theorem zc_1300 {σ0 : sn_S} {σ : sn_S} (h_σ : zs_C σ0 σ) {x1 : Int32} (h_x1 : zs_in x1.toInt 0 1) {x2 : Int32} (h_x2 : zs_in x2.toInt 0 30) : zs_ok (fX0_live σ 59 x1 x2) (fun r => zs_C σ0 r) := by
  unfold fX0_live
  refine zs_bd_ (zd_247 h_x1 h_x2 (s0 := (σ, (0 : Int32))) ⟨h_σ, (zs_w zlI_0 (by decide))⟩) (fun t_1 pt_1 => ?_)
  obtain ⟨ret, er, hr⟩ := zc_1299 pt_1 h_x1 h_x2
  refine ⟨ret, er, ?_⟩
  exact hr
-- BX4_reckon_139
theorem zc_1301 {σ0 : sn_S} {σ : sn_S} (h_σ : zs_C σ0 σ) {x3 : Int32} (h_x3 : zs_in x3.toInt 2 2) {x4 : Int32} (h_x4 : zs_in x4.toInt (-1) (-1)) {x6 : Int32} (h_x6 : zs_in x6.toInt 2 2) {x7 : Int32} (h_x7 : zs_in x7.toInt 1 3) {t1 : Int32} (h_t1 : zs_in t1.toInt 0 1) {t2 : Int32} (h_t2 : zs_in t2.toInt 0 30) {c : Int} (hc : x7.toInt = c + 0) : zs_ok (BX4_reckon_139 σ 1 27 x3 x4 x6 x7 t1 t2) (fun r => zs_sum (fun v => ((zs_C σ0 v.1 ∧ zs_in (v.2).toInt 2 4)) ∧ v.2.toInt = c + 1) (fun v => False) r) := by
  unfold BX4_reckon_139
  obtain rfl : x3 = (2 : Int32) := zs_eqv h_x3 (by decide)
  obtain rfl : x4 = (-1 : Int32) := zs_eqv h_x4 (by decide)
  obtain rfl : x6 = (2 : Int32) := zs_eqv h_x6 (by decide)
  refine zs_bd_ (zc_1300 h_σ h_t1 h_t2) (fun t_1 pt_1 => ?_)
  refine zs_bd_ (zo_bc 2 2 (by decide) h_x7) (fun t_3 pt_3 => ?_)
  refine zs_gd (zs_gin pt_3 (by decide)) ?_
  refine zs_bd_ (zc_1291 pt_1 h_x3 h_x4 h_x6) (fun t_6 pt_6 => ?_)
  refine zs_lt (Q := fun z => zs_C σ0 z) (zs_wrL pt_6.2 rfl) (fun σ_8 hσ_8 => ?_)
  refine zs_lt (Q := fun z => zs_in z.toInt 2 4 ∧ z.toInt = c + 1) ⟨(zs_addI 2 4 h_x7 zlI_1 (by decide)), (zs_syI 1 hc h_x7 zlI_1 (by decide) (by decide))⟩ (fun y_10 hy_10 => ?_)
  exact zs_some (zs_inl ⟨⟨hσ_8, hy_10.1⟩, hy_10.2⟩)
-- BX4_reckon_119
theorem zc_1302 {σ0 : sn_S} {σ : sn_S} (h_σ : zs_C σ0 σ) {x3 : Int32} (h_x3 : zs_in x3.toInt 2 2) {x4 : Int32} (h_x4 : zs_in x4.toInt (-1) (-1)) {x6 : Int32} (h_x6 : zs_in x6.toInt 2 2) {x7 : Int32} (h_x7 : zs_in x7.toInt 1 3) {x8 : Int32} (h_x8 : zs_in x8.toInt 0 1) {c : Int} (hc : x7.toInt = c + 0) : zs_ok (BX4_reckon_119 σ 1 27 x3 x4 x6 x7 x8) (fun r => zs_sum (fun v => ((zs_C σ0 v.1 ∧ zs_in (v.2).toInt 2 4)) ∧ v.2.toInt = c + 1) (fun v => False) r) := by
  unfold BX4_reckon_119
  obtain rfl : x3 = (2 : Int32) := zs_eqv h_x3 (by decide)
  obtain rfl : x4 = (-1 : Int32) := zs_eqv h_x4 (by decide)
  obtain rfl : x6 = (2 : Int32) := zs_eqv h_x6 (by decide)
  refine zs_ite (fun c1 => ?_) (fun c1 => ?_)
  · skip
    have r2 := (zs_I_eq c1)
    obtain ⟨ret, er, hr⟩ := zc_1301 h_σ h_x3 h_x4 h_x6 h_x7 h_x8 (zs_rdk (q := 27) (k := 0) (z := (0, 30)) h_σ.1 rfl) hc
    refine ⟨ret, er, ?_⟩
    exact (zs_sumw hr (fun v w => ⟨w.1, w.2⟩) (fun v w => w.elim))
  · skip
    have r3 := (zs_I_eqn c1)
    exact (zs_botne r3 h_x3 zlI_2 (by decide)).elim
-- BX4_reckon_62
theorem zc_1303 {σ0 : sn_S} {σ : sn_S} (h_σ : zs_C σ0 σ) {x3 : Int32} (h_x3 : zs_in x3.toInt 2 2) {x4 : Int32} (h_x4 : zs_in x4.toInt (-1) (-1)) {x6 : Int32} (h_x6 : zs_in x6.toInt 2 2) {x7 : Int32} (h_x7 : zs_in x7.toInt 1 3) {t0 : Int32} (h_t0 : zs_in t0.toInt 0 1) {c : Int} (hc : x7.toInt = c + 0) : zs_ok (BX4_reckon_62 σ 1 27 x3 x4 x6 x7 t0) (fun r => zs_sum (fun v => ((zs_C σ0 v.1 ∧ zs_in (v.2).toInt 2 4)) ∧ v.2.toInt = c + 1) (fun v => False) r) := by
  unfold BX4_reckon_62
  obtain rfl : x3 = (2 : Int32) := zs_eqv h_x3 (by decide)
  obtain rfl : x4 = (-1 : Int32) := zs_eqv h_x4 (by decide)
  obtain rfl : x6 = (2 : Int32) := zs_eqv h_x6 (by decide)
  refine zs_bd_ (zd_246 h_x3 h_x4 h_x6 h_x7 h_t0 (s0 := (σ, t0)) ⟨h_σ, (zs_w h_t0 (by decide))⟩) (fun t_1 pt_1 => ?_)
  obtain ⟨ret, er, hr⟩ := zc_1302 pt_1 h_x3 h_x4 h_x6 h_x7 h_t0 hc
  refine ⟨ret, er, ?_⟩
  exact (zs_sumw hr (fun v w => ⟨w.1, w.2⟩) (fun v w => w.elim))
-- BX4_reckon_34
theorem zc_1304 {σ0 : sn_S} {σ : sn_S} (h_σ : zs_C σ0 σ) {x3 : Int32} (h_x3 : zs_in x3.toInt 2 2) {x4 : Int32} (h_x4 : zs_in x4.toInt (-1) (-1)) {x6 : Int32} (h_x6 : zs_in x6.toInt 2 2) {x7 : Int32} (h_x7 : zs_in x7.toInt 0 4) {c : Int} (hc : x7.toInt = c + 0) : zs_ok (BX4_reckon_34 σ 1 27 x3 x4 x6 x7) (fun r => zs_sum (fun v => ((zs_C σ0 v.1 ∧ zs_in (v.2).toInt 1 4)) ∧ v.2.toInt = c + 1) (fun v => zs_C σ0 v) r) := by
  unfold BX4_reckon_34
  obtain rfl : x3 = (2 : Int32) := zs_eqv h_x3 (by decide)
  obtain rfl : x4 = (-1 : Int32) := zs_eqv h_x4 (by decide)
  obtain rfl : x6 = (2 : Int32) := zs_eqv h_x6 (by decide)
  refine zs_ite (fun c1 => ?_) (fun c1 => ?_)
  · skip
    have r2 := (zs_I_le c1)
    have g3 : zs_in (x7).toInt 4 4 := (zs_ler 4 4 r2 (zs_cases h_x6 (fun z => zs_in ((1 : Int32) <<< (z &&& 31)).toInt 4 4) (by decide +kernel)) h_x7 (by decide))
    exact zs_some (zs_inr (h_σ))
  · skip
    have r4 := (zs_I_len c1)
    have g5 : zs_in (x7).toInt 0 3 := (zs_ltl 0 3 r4 h_x7 (zs_cases h_x6 (fun z => zs_in ((1 : Int32) <<< (z &&& 31)).toInt 4 4) (by decide +kernel)) (by decide))
    refine zs_ite (fun c6 => ?_) (fun c6 => ?_)
    · skip
      have r7 := (zs_I_eq c6)
      have g8 : zs_in (x7).toInt 0 0 := (zs_eql 0 0 r7 g5 zlI_0 (by decide))
      obtain ⟨ret, er, hr⟩ := zc_1294 h_σ h_x3 h_x4 h_x6 g8 zlI_0 hc
      refine ⟨ret, er, ?_⟩
      exact (zs_sumw hr (fun v w => ⟨⟨w.1.1, (zs_w w.1.2 (by decide))⟩, w.2⟩) (fun v w => w.elim))
    · skip
      have r9 := (zs_I_eqn c6)
      have g10 : zs_in (x7).toInt 1 3 := (zs_nel 1 3 r9 g5 zlI_0 (by decide))
      refine zs_bd_ (zo_low1 2 1 (by decide) g10) (fun t_3 pt_3 => ?_)
      obtain ⟨ret, er, hr⟩ := zc_1303 h_σ h_x3 h_x4 h_x6 g10 (zs_subI 0 1 (zs_subI 1 1 h_x6 zlI_1 (by decide)) pt_3 (by decide)) hc
      refine ⟨ret, er, ?_⟩
      exact (zs_sumw hr (fun v w => ⟨⟨w.1.1, (zs_w w.1.2 (by decide))⟩, w.2⟩) (fun v w => w.elim))
theorem zd_248 {σ0 : sn_S} {x3 : Int32} (h_x3 : zs_in x3.toInt 2 2) {x4 : Int32} (h_x4 : zs_in x4.toInt (-1) (-1)) {x6 : Int32} (h_x6 : zs_in x6.toInt 2 2) {s0 : (sn_S × Int32)} (h0 : (zs_C σ0 s0.1 ∧ zs_in (s0.2).toInt 0 4)) : zs_ok (sn_it (LX4_reckon_34 1 27 x3 x4 x6) 5000 s0) (fun t => zs_C σ0 t) := by
  refine zs_it (I := fun s => (zs_C σ0 s.1 ∧ zs_in (s.2).toInt 0 4)) (m := fun s => 4 - s.2.toInt) (fun s hs => ?_) (fun s hs => ?_) (by exact h0)
  · have h1 := hs.2; unfold zs_in at h1
    omega
  · obtain ⟨b, eb, hb⟩ := zc_1304 hs.1 h_x3 h_x4 h_x6 hs.2 (c := s.2.toInt) (Int.add_zero _).symm
    exact ⟨b, eb, zs_sumw hb (fun v w => ⟨⟨w.1.1, (zs_w w.1.2 (by decide))⟩, by have := w.2; omega⟩) (fun v w => w)⟩
-- fX4_reckon
theorem zc_1305 {σ0 : sn_S} {σ : sn_S} (h_σ : zs_C σ0 σ) {x3 : Int32} (h_x3 : zs_in x3.toInt 2 2) {x4 : Int32} (h_x4 : zs_in x4.toInt (-1) (-1)) {x5 : Int32} (h_x5 : zs_in x5.toInt 1 1) : zs_ok (fX4_reckon σ 1 27 x3 x4 x5) (fun r => zs_C σ0 r) := by
  unfold fX4_reckon
  obtain rfl : x3 = (2 : Int32) := zs_eqv h_x3 (by decide)
  obtain rfl : x4 = (-1 : Int32) := zs_eqv h_x4 (by decide)
  obtain rfl : x5 = (1 : Int32) := zs_eqv h_x5 (by decide)
  refine zs_lt (Q := fun z => zs_in z.toInt 2 2) (zs_addI 2 2 h_x5 zlI_1 (by decide)) (fun y_1 hy_1 => ?_)
  refine zs_gd (zs_gin zlI_4 (by decide)) ?_
  refine zs_bd_ (zc_724 h_σ hy_1 (zs_rdk (q := 2) (k := (4 : Int32).toNatClampNeg) (z := (0, 10)) h_σ.1 rfl)) (fun t_4 pt_4 => ?_)
  refine zs_bd_ (zo_dcopy pt_4) (fun t_6 pt_6 => ?_)
  refine zs_lt (Q := fun z => zs_C σ0 z) (zs_wrL pt_6 rfl) (fun σ_8 hσ_8 => ?_)
  refine zs_bd_ (zd_248 h_x3 h_x4 hy_1 (s0 := (σ_8, (0 : Int32))) ⟨hσ_8, (zs_w zlI_0 (by decide))⟩) (fun t_10 pt_10 => ?_)
  obtain ⟨ret, er, hr⟩ := zc_774 pt_10 hy_1
  refine ⟨ret, er, ?_⟩
  exact hr
-- BX4_reckon_111
theorem zc_1306 {σ0 : sn_S} {σ : sn_S} (h_σ : zs_C σ0 σ) {x3 : Int32} (h_x3 : zs_in x3.toInt 2 2) {x4 : Int32} (h_x4 : zs_in x4.toInt (-1) (-1)) {x6 : Int32} (h_x6 : zs_in x6.toInt 3 3) {x7 : Int32} (h_x7 : zs_in x7.toInt 0 0) {x8 : Int32} (h_x8 : zs_in x8.toInt 0 0) {x9 : Int32} (h_x9 : zs_in x9.toInt 0 2) {t1 : Int32} (h_t1 : zs_in t1.toInt 0 2) {t2 : Int32} {t3 : Int32} (h_t3 : zs_in t3.toInt 0 0) {c : Int} (hc : x9.toInt = c + 0) : zs_ok (BX4_reckon_111 σ 1 27 x3 x4 x6 x7 x8 x9 t1 t2 t3) (fun r => zs_sum (fun v => ((zs_C σ0 v.1 ∧ zs_in (v.2).toInt 1 3)) ∧ v.2.toInt = c + 1) (fun v => False) r) := by
  unfold BX4_reckon_111
  obtain rfl : x3 = (2 : Int32) := zs_eqv h_x3 (by decide)
  obtain rfl : x4 = (-1 : Int32) := zs_eqv h_x4 (by decide)
  obtain rfl : x6 = (3 : Int32) := zs_eqv h_x6 (by decide)
  obtain rfl : x7 = (0 : Int32) := zs_eqv h_x7 (by decide)
  obtain rfl : x8 = (0 : Int32) := zs_eqv h_x8 (by decide)
  obtain rfl : t3 = (0 : Int32) := zs_eqv h_t3 (by decide)
  refine zs_gd (zs_gin h_t1 (by decide)) ?_
  refine zs_lt (Q := fun z => zs_C σ0 z) (zs_wrt h_σ (fun _ => rfl) (fun _ => rfl)) (fun σ_2 hσ_2 => ?_)
  refine zs_lt (Q := fun z => zs_in z.toInt 1 3 ∧ z.toInt = c + 1) ⟨(zs_addI 1 3 h_x9 zlI_1 (by decide)), (zs_syI 1 hc h_x9 zlI_1 (by decide) (by decide))⟩ (fun y_4 hy_4 => ?_)
  exact zs_some (zs_inl ⟨⟨hσ_2, hy_4.1⟩, hy_4.2⟩)
-- BX4_reckon_111
theorem zc_1307 {σ0 : sn_S} {σ : sn_S} (h_σ : zs_C σ0 σ) {x3 : Int32} (h_x3 : zs_in x3.toInt 2 2) {x4 : Int32} (h_x4 : zs_in x4.toInt (-1) (-1)) {x6 : Int32} (h_x6 : zs_in x6.toInt 3 3) {x7 : Int32} (h_x7 : zs_in x7.toInt 0 0) {x8 : Int32} (h_x8 : zs_in x8.toInt 0 0) {x9 : Int32} (h_x9 : zs_in x9.toInt 0 2) {t1 : Int32} (h_t1 : zs_in t1.toInt 0 2) {t2 : Int32} {t3 : Int32} (h_t3 : zs_in t3.toInt 3 3) {c : Int} (hc : x9.toInt = c + 0) : zs_ok (BX4_reckon_111 σ 1 27 x3 x4 x6 x7 x8 x9 t1 t2 t3) (fun r => zs_sum (fun v => ((zs_C σ0 v.1 ∧ zs_in (v.2).toInt 1 3)) ∧ v.2.toInt = c + 1) (fun v => False) r) := by
  unfold BX4_reckon_111
  obtain rfl : x3 = (2 : Int32) := zs_eqv h_x3 (by decide)
  obtain rfl : x4 = (-1 : Int32) := zs_eqv h_x4 (by decide)
  obtain rfl : x6 = (3 : Int32) := zs_eqv h_x6 (by decide)
  obtain rfl : x7 = (0 : Int32) := zs_eqv h_x7 (by decide)
  obtain rfl : x8 = (0 : Int32) := zs_eqv h_x8 (by decide)
  obtain rfl : t3 = (3 : Int32) := zs_eqv h_t3 (by decide)
  refine zs_gd (zs_gin h_t1 (by decide)) ?_
  refine zs_lt (Q := fun z => zs_C σ0 z) (zs_wrt h_σ (fun _ => rfl) (fun _ => rfl)) (fun σ_2 hσ_2 => ?_)
  refine zs_lt (Q := fun z => zs_in z.toInt 1 3 ∧ z.toInt = c + 1) ⟨(zs_addI 1 3 h_x9 zlI_1 (by decide)), (zs_syI 1 hc h_x9 zlI_1 (by decide) (by decide))⟩ (fun y_4 hy_4 => ?_)
  exact zs_some (zs_inl ⟨⟨hσ_2, hy_4.1⟩, hy_4.2⟩)
-- BX4_reckon_68
theorem zc_1308 {σ0 : sn_S} {σ : sn_S} (h_σ : zs_C σ0 σ) {x3 : Int32} (h_x3 : zs_in x3.toInt 2 2) {x4 : Int32} (h_x4 : zs_in x4.toInt (-1) (-1)) {x6 : Int32} (h_x6 : zs_in x6.toInt 3 3) {x7 : Int32} (h_x7 : zs_in x7.toInt 0 0) {x8 : Int32} (h_x8 : zs_in x8.toInt 0 0) {x9 : Int32} (h_x9 : zs_in x9.toInt 0 3) {c : Int} (hc : x9.toInt = c + 0) : zs_ok (BX4_reckon_68 σ 1 27 x3 x4 x6 x7 x8 x9) (fun r => zs_sum (fun v => ((zs_C σ0 v.1 ∧ zs_in (v.2).toInt 1 3)) ∧ v.2.toInt = c + 1) (fun v => zs_C σ0 v) r) := by
  unfold BX4_reckon_68
  obtain rfl : x3 = (2 : Int32) := zs_eqv h_x3 (by decide)
  obtain rfl : x4 = (-1 : Int32) := zs_eqv h_x4 (by decide)
  obtain rfl : x6 = (3 : Int32) := zs_eqv h_x6 (by decide)
  obtain rfl : x7 = (0 : Int32) := zs_eqv h_x7 (by decide)
  obtain rfl : x8 = (0 : Int32) := zs_eqv h_x8 (by decide)
  refine zs_ite (fun c1 => ?_) (fun c1 => ?_)
  · skip
    have r2 := (zs_I_le c1)
    have g3 : zs_in (x9).toInt 3 3 := (zs_ler 3 3 r2 h_x6 h_x9 (by decide))
    exact zs_some (zs_inr (h_σ))
  · skip
    have r4 := (zs_I_len c1)
    have g5 : zs_in (x9).toInt 0 2 := (zs_ltl 0 2 r4 h_x9 h_x6 (by decide))
    refine zs_gd (zs_gin g5 (by decide)) ?_
    refine zs_bd_ (zc_782 h_x7 (zs_subI 0 2 (zs_subI 2 2 h_x6 zlI_1 (by decide)) g5 (by decide))) (fun t_3 pt_3 => ?_)
    refine zs_ite (fun c6 => ?_) (fun c6 => ?_)
    · skip
      have r7 := (zs_I_eq c6)
      have g8 : zs_in (t_3).toInt 0 0 := (zs_eql 0 0 r7 pt_3 zlI_0 (by decide))
      obtain ⟨ret, er, hr⟩ := zc_1306 h_σ h_x3 h_x4 h_x6 h_x7 h_x8 g5 g5 zlI_0 hc
      refine ⟨ret, er, ?_⟩
      exact (zs_sumw hr (fun v w => ⟨w.1, w.2⟩) (fun v w => w.elim))
    · skip
      have r9 := (zs_I_eqn c6)
      have g10 : zs_in (t_3).toInt 1 1 := (zs_nel 1 1 r9 pt_3 zlI_0 (by decide))
      obtain ⟨ret, er, hr⟩ := zc_1307 h_σ h_x3 h_x4 h_x6 h_x7 h_x8 g5 g5 zlI_3 hc
      refine ⟨ret, er, ?_⟩
      exact (zs_sumw hr (fun v w => ⟨w.1, w.2⟩) (fun v w => w.elim))
theorem zd_249 {σ0 : sn_S} {x3 : Int32} (h_x3 : zs_in x3.toInt 2 2) {x4 : Int32} (h_x4 : zs_in x4.toInt (-1) (-1)) {x6 : Int32} (h_x6 : zs_in x6.toInt 3 3) {x7 : Int32} (h_x7 : zs_in x7.toInt 0 0) {x8 : Int32} (h_x8 : zs_in x8.toInt 0 0) {s0 : (sn_S × Int32)} (h0 : (zs_C σ0 s0.1 ∧ zs_in (s0.2).toInt 0 3)) : zs_ok (sn_it (LX4_reckon_68 1 27 x3 x4 x6 x7 x8) 5000 s0) (fun t => zs_C σ0 t) := by
  refine zs_it (I := fun s => (zs_C σ0 s.1 ∧ zs_in (s.2).toInt 0 3)) (m := fun s => 3 - s.2.toInt) (fun s hs => ?_) (fun s hs => ?_) (by exact h0)
  · have h1 := hs.2; unfold zs_in at h1
    omega
  · obtain ⟨b, eb, hb⟩ := zc_1308 hs.1 h_x3 h_x4 h_x6 h_x7 h_x8 hs.2 (c := s.2.toInt) (Int.add_zero _).symm
    exact ⟨b, eb, zs_sumw hb (fun v w => ⟨⟨w.1.1, (zs_w w.1.2 (by decide))⟩, by have := w.2; omega⟩) (fun v w => w)⟩
-- BX3_moneyAt_44
theorem zc_1309 {σ0 : sn_S} {σ : sn_S} (h_σ : zs_C σ0 σ) {x1 : Int32} (h_x1 : zs_in x1.toInt 0 2) {x2 : Int32} {x3 : Int32} (h_x3 : zs_in x3.toInt 0 5) {c : Int} (hc : x3.toInt = c + 0) : zs_ok (BX3_moneyAt_44 σ 70 x1 x2 x3) (fun r => zs_sum (fun v => ((True ∧ zs_in (v.2).toInt 1 6)) ∧ v.2.toInt = c + 1) (fun v => False) r) := by
  unfold BX3_moneyAt_44
  refine zs_lt (Q := fun z => zs_in z.toInt 1 6 ∧ z.toInt = c + 1) ⟨(zs_addI 1 6 h_x3 zlI_1 (by decide)), (zs_syI 1 hc h_x3 zlI_1 (by decide) (by decide))⟩ (fun y_1 hy_1 => ?_)
  exact zs_some (zs_inl ⟨⟨trivial, hy_1.1⟩, hy_1.2⟩)
-- BX3_moneyAt_7
theorem zc_1310 {σ0 : sn_S} {σ : sn_S} (h_σ : zs_C σ0 σ) {x1 : Int32} (h_x1 : zs_in x1.toInt 0 2) {x2 : Int32} {x3 : Int32} (h_x3 : zs_in x3.toInt 0 6) {c : Int} (hc : x3.toInt = c + 0) : zs_ok (BX3_moneyAt_7 σ 70 x1 x2 x3) (fun r => zs_sum (fun v => ((True ∧ zs_in (v.2).toInt 1 6)) ∧ v.2.toInt = c + 1) (fun v => True) r) := by
  unfold BX3_moneyAt_7
  refine zs_ite (fun c1 => ?_) (fun c1 => ?_)
  · skip
    have r2 := (zs_I_le c1)
    exact zs_some (zs_inr (trivial))
  · skip
    have r3 := (zs_I_len c1)
    have g4 : zs_in (x3).toInt 0 5 := (zs_ltl 0 5 r3 h_x3 (zs_rdk (q := 70) (k := 2) (z := (0, 6)) h_σ.1 rfl) (by decide))
    have g5 : zs_in ((sn_I σ 70 2)).toInt 1 6 := (zs_ltr 1 6 r3 h_x3 (zs_rdk (q := 70) (k := 2) (z := (0, 6)) h_σ.1 rfl) (by decide))
    refine zs_gd (zs_gin g4 (by decide)) ?_
    refine zs_ite (fun c6 => ?_) (fun c6 => ?_)
    · skip
      have r7 := (zs_I_eq c6)
      have g8 : zs_in ((sn_I σ (70 + 2) x3.toNatClampNeg)).toInt (-1) (-1) := (zs_eql (-1) (-1) r7 (zs_rdu (q := 72) (z := ((-1), 63)) h_σ.1 (fun _ => rfl)) zlI_m1 (by decide))
      obtain ⟨ret, er, hr⟩ := zc_1309 h_σ h_x1 g4 hc
      refine ⟨ret, er, ?_⟩
      exact (zs_sumw hr (fun v w => ⟨w.1, w.2⟩) (fun v w => w.elim))
    · skip
      have r9 := (zs_I_eqn c6)
      have g10 : zs_in ((sn_I σ (70 + 2) x3.toNatClampNeg)).toInt 0 63 := (zs_nel 0 63 r9 (zs_rdu (q := 72) (z := ((-1), 63)) h_σ.1 (fun _ => rfl)) zlI_m1 (by decide))
      refine zs_gd (zs_gin g4 (by decide)) ?_
      refine zs_ite (fun c11 => ?_) (fun c11 => ?_)
      · skip
        have r12 := (zs_I_lt c11)
        have g13 : zs_in ((sn_I σ (70 + 2) x3.toNatClampNeg)).toInt 1 63 := (zs_ltr 1 63 r12 h_x1 g10 (by decide))
        obtain ⟨ret, er, hr⟩ := zc_1309 h_σ h_x1 g4 hc
        refine ⟨ret, er, ?_⟩
        exact (zs_sumw hr (fun v w => ⟨w.1, w.2⟩) (fun v w => w.elim))
      · skip
        have r14 := (zs_I_ltn c11)
        have g15 : zs_in ((sn_I σ (70 + 2) x3.toNatClampNeg)).toInt 0 2 := (zs_lel 0 2 r14 g10 h_x1 (by decide))
        refine zs_gd (zs_gin g4 (by decide)) ?_
        refine zs_lt (Q := fun z => True) trivial (fun y_7 hy_7 => ?_)
        obtain ⟨ret, er, hr⟩ := zc_1309 h_σ h_x1 g4 hc
        refine ⟨ret, er, ?_⟩
        exact (zs_sumw hr (fun v w => ⟨w.1, w.2⟩) (fun v w => w.elim))
theorem zd_250 {σ0 : sn_S} {σ : sn_S} (h_σ : zs_C σ0 σ) {x1 : Int32} (h_x1 : zs_in x1.toInt 0 2) {s0 : (Int32 × Int32)} (h0 : (True ∧ zs_in (s0.2).toInt 0 6)) : zs_ok (sn_it (LX3_moneyAt_7 σ 70 x1) 5000 s0) (fun t => True) := by
  refine zs_it (I := fun s => (True ∧ zs_in (s.2).toInt 0 6)) (m := fun s => 6 - s.2.toInt) (fun s hs => ?_) (fun s hs => ?_) (by exact h0)
  · have h1 := hs.2; unfold zs_in at h1
    omega
  · obtain ⟨b, eb, hb⟩ := zc_1310 h_σ h_x1 hs.2 (c := s.2.toInt) (Int.add_zero _).symm
    exact ⟨b, eb, zs_sumw hb (fun v w => ⟨⟨w.1.1, (zs_w w.1.2 (by decide))⟩, by have := w.2; omega⟩) (fun v w => w)⟩
-- fX3_moneyAt
theorem zc_1311 {σ0 : sn_S} {σ : sn_S} (h_σ : zs_C σ0 σ) {x1 : Int32} (h_x1 : zs_in x1.toInt 0 2) : zs_ok (fX3_moneyAt σ 70 x1) (fun r => True) := by
  unfold fX3_moneyAt
  refine zs_lt (Q := fun z => True) trivial (fun y_1 hy_1 => ?_)
  refine zs_bd_ (zd_250 h_σ h_x1 (s0 := (y_1, (0 : Int32))) ⟨trivial, (zs_w zlI_0 (by decide))⟩) (fun t_3 pt_3 => ?_)
  obtain ⟨ret, er, hr⟩ := zc_1266 h_σ
  refine ⟨ret, er, ?_⟩
  exact hr
-- BX3_firstBelow_2
theorem zc_1312 {σ0 : sn_S} {σ : sn_S} (h_σ : zs_C σ0 σ) {x1 : Int32} (h_x1 : zs_in x1.toInt 3 3) {x2 : Int32} (h_x2 : zs_in x2.toInt 0 3) {c : Int} (hc : x2.toInt = c + 0) : zs_ok (BX3_firstBelow_2 σ 70 x1 x2) (fun r => zs_sum (fun v => (zs_in (v).toInt 1 3) ∧ v.toInt = c + 1) (fun v => zs_sum (fun v => True) (fun v => zs_in (v).toInt 0 2) v) r) := by
  unfold BX3_firstBelow_2
  obtain rfl : x1 = (3 : Int32) := zs_eqv h_x1 (by decide)
  refine zs_ite (fun c1 => ?_) (fun c1 => ?_)
  · skip
    have r2 := (zs_I_le c1)
    have g3 : zs_in (x2).toInt 3 3 := (zs_ler 3 3 r2 h_x1 h_x2 (by decide))
    exact zs_some (zs_inr ((zs_inl (trivial))))
  · skip
    have r4 := (zs_I_len c1)
    have g5 : zs_in (x2).toInt 0 2 := (zs_ltl 0 2 r4 h_x2 h_x1 (by decide))
    refine zs_bd_ (zc_1311 h_σ g5) (fun t_2 pt_2 => ?_)
    refine zs_ite (fun c6 => ?_) (fun c6 => ?_)
    · skip
      have r7 := (zs_I_le c6)
      have g8 : zs_in (t_2).toInt 0 2147483647 := (zs_ler 0 2147483647 r7 zlI_0 (zs_topI _) (by decide))
      refine zs_lt (Q := fun z => zs_in z.toInt 1 3 ∧ z.toInt = c + 1) ⟨(zs_addI 1 3 g5 zlI_1 (by decide)), (zs_syI 1 hc g5 zlI_1 (by decide) (by decide))⟩ (fun y_5 hy_5 => ?_)
      exact zs_some (zs_inl ⟨hy_5.1, hy_5.2⟩)
    · skip
      have r9 := (zs_I_len c6)
      have g10 : zs_in (t_2).toInt (-2147483648) (-1) := (zs_ltl (-2147483648) (-1) r9 (zs_topI _) zlI_0 (by decide))
      exact zs_some (zs_inr ((zs_inr (g5))))
theorem zd_251 {σ0 : sn_S} {σ : sn_S} (h_σ : zs_C σ0 σ) {x1 : Int32} (h_x1 : zs_in x1.toInt 3 3) {s0 : Int32} (h0 : zs_in (s0).toInt 0 3) : zs_ok (sn_it (LX3_firstBelow_2 σ 70 x1) 5000 s0) (fun t => zs_sum (fun v => True) (fun v => zs_in (v).toInt 0 2) t) := by
  refine zs_it (I := fun s => zs_in (s).toInt 0 3) (m := fun s => 3 - s.toInt) (fun s hs => ?_) (fun s hs => ?_) (by exact h0)
  · have h1 := hs; unfold zs_in at h1
    omega
  · obtain ⟨b, eb, hb⟩ := zc_1312 h_σ h_x1 hs (c := s.toInt) (Int.add_zero _).symm
    exact ⟨b, eb, zs_sumw hb (fun v w => ⟨(zs_w w.1 (by decide)), by have := w.2; omega⟩) (fun v w => w)⟩
-- fX3_firstBelow
theorem zc_1313 {σ0 : sn_S} {σ : sn_S} (h_σ : zs_C σ0 σ) {x1 : Int32} (h_x1 : zs_in x1.toInt 3 3) : zs_ok (fX3_firstBelow σ 70 x1) (fun r => zs_in (r).toInt (-1) 2) := by
  unfold fX3_firstBelow
  obtain rfl : x1 = (3 : Int32) := zs_eqv h_x1 (by decide)
  refine zs_bd_ (zd_251 h_σ h_x1 (s0 := (0 : Int32)) (zs_w zlI_0 (by decide))) (fun t_1 pt_1 => ?_)
  refine zs_elim pt_1 (fun v_3 pv_3 => ?_) (fun r_4 pr_4 => ?_)
  · skip
    obtain ⟨ret, er, hr⟩ := zc_1269 h_σ
    refine ⟨ret, er, ?_⟩
    exact (zs_w hr (by decide))
  · skip
    exact zs_some (zs_w pr_4 (by decide))
-- fX4_worth
theorem zc_1314 {σ0 : sn_S} {σ : sn_S} (h_σ : zs_C σ0 σ) {x2 : Int32} (h_x2 : zs_in x2.toInt 2 2) {x3 : Int32} (h_x3 : zs_in x3.toInt (-1) (-1)) {x4 : Int32} (h_x4 : zs_in x4.toInt 3 3) : zs_ok (fX4_worth σ 1 x2 x3 x4) (fun r => (zs_in (r.1).toInt 0 1 ∧ zs_C σ0 r.2)) := by
  unfold fX4_worth
  obtain rfl : x2 = (2 : Int32) := zs_eqv h_x2 (by decide)
  obtain rfl : x3 = (-1 : Int32) := zs_eqv h_x3 (by decide)
  obtain rfl : x4 = (3 : Int32) := zs_eqv h_x4 (by decide)
  refine zs_ite (fun c1 => ?_) (fun c1 => ?_)
  · skip
    have r2 := (zs_I_eq c1)
    exact (zs_botr r2 h_x2 zlI_0 (by decide)).elim
  · skip
    have r3 := (zs_I_eqn c1)
    refine zs_gd (zs_gin zlI_2 (by decide)) ?_
    refine zs_bd_ (zo_reckon_70_59_0_3 h_σ (zs_rdk (q := 2) (k := (2 : Int32).toNatClampNeg) (z := (0, 3)) h_σ.1 rfl)) (fun t_3 pt_3 => ?_)
    refine zs_ite (fun c4 => ?_) (fun c4 => ?_)
    · skip
      have r5 := (zs_I_eq c4)
      exact (zs_botr r5 h_x2 zlI_1 (by decide)).elim
    · skip
      have r6 := (zs_I_eqn c4)
      refine zs_bd_ (zc_1313 pt_3 h_x4) (fun t_6 pt_6 => ?_)
      refine zs_ite (fun c7 => ?_) (fun c7 => ?_)
      · skip
        have r8 := (zs_I_eq c7)
        have g9 : zs_in (t_6).toInt (-1) (-1) := (zs_eql (-1) (-1) r8 pt_6 zlI_m1 (by decide))
        exact zs_some ⟨(zs_w zlL_0 (by decide)), pt_3⟩
      · skip
        have r10 := (zs_I_eqn c7)
        have g11 : zs_in (t_6).toInt 0 2 := (zs_nel 0 2 r10 pt_6 zlI_m1 (by decide))
        exact zs_some ⟨(zs_w zlL_1 (by decide)), pt_3⟩
-- BX4_reckon_139
theorem zc_1315 {σ0 : sn_S} {σ : sn_S} (h_σ : zs_C σ0 σ) {x3 : Int32} (h_x3 : zs_in x3.toInt 2 2) {x4 : Int32} (h_x4 : zs_in x4.toInt (-1) (-1)) {x6 : Int32} (h_x6 : zs_in x6.toInt 3 3) {x7 : Int32} (h_x7 : zs_in x7.toInt 0 0) {t1 : Int32} (h_t1 : zs_in t1.toInt 0 0) {t2 : Int32} (h_t2 : zs_in t2.toInt 0 30) {c : Int} (hc : x7.toInt = c + 0) : zs_ok (BX4_reckon_139 σ 1 27 x3 x4 x6 x7 t1 t2) (fun r => zs_sum (fun v => ((zs_C σ0 v.1 ∧ zs_in (v.2).toInt 1 1)) ∧ v.2.toInt = c + 1) (fun v => False) r) := by
  unfold BX4_reckon_139
  obtain rfl : x3 = (2 : Int32) := zs_eqv h_x3 (by decide)
  obtain rfl : x4 = (-1 : Int32) := zs_eqv h_x4 (by decide)
  obtain rfl : x6 = (3 : Int32) := zs_eqv h_x6 (by decide)
  obtain rfl : t1 = (0 : Int32) := zs_eqv h_t1 (by decide)
  refine zs_bd_ (zc_1263 h_σ h_t1 h_t2) (fun t_1 pt_1 => ?_)
  refine zs_bd_ (zo_bc 0 0 (by decide) h_x7) (fun t_3 pt_3 => ?_)
  refine zs_gd (zs_gin pt_3 (by decide)) ?_
  refine zs_bd_ (zc_1314 pt_1 h_x3 h_x4 h_x6) (fun t_6 pt_6 => ?_)
  refine zs_lt (Q := fun z => zs_C σ0 z) (zs_wrL pt_6.2 rfl) (fun σ_8 hσ_8 => ?_)
  refine zs_lt (Q := fun z => zs_in z.toInt 1 1 ∧ z.toInt = c + 1) ⟨(zs_addI 1 1 h_x7 zlI_1 (by decide)), (zs_syI 1 hc h_x7 zlI_1 (by decide) (by decide))⟩ (fun y_10 hy_10 => ?_)
  exact zs_some (zs_inl ⟨⟨hσ_8, hy_10.1⟩, hy_10.2⟩)
-- BX4_reckon_119
theorem zc_1316 {σ0 : sn_S} {σ : sn_S} (h_σ : zs_C σ0 σ) {x3 : Int32} (h_x3 : zs_in x3.toInt 2 2) {x4 : Int32} (h_x4 : zs_in x4.toInt (-1) (-1)) {x6 : Int32} (h_x6 : zs_in x6.toInt 3 3) {x7 : Int32} (h_x7 : zs_in x7.toInt 0 0) {x8 : Int32} (h_x8 : zs_in x8.toInt 0 0) {c : Int} (hc : x7.toInt = c + 0) : zs_ok (BX4_reckon_119 σ 1 27 x3 x4 x6 x7 x8) (fun r => zs_sum (fun v => ((zs_C σ0 v.1 ∧ zs_in (v.2).toInt 1 1)) ∧ v.2.toInt = c + 1) (fun v => False) r) := by
  unfold BX4_reckon_119
  obtain rfl : x3 = (2 : Int32) := zs_eqv h_x3 (by decide)
  obtain rfl : x4 = (-1 : Int32) := zs_eqv h_x4 (by decide)
  obtain rfl : x6 = (3 : Int32) := zs_eqv h_x6 (by decide)
  obtain rfl : x8 = (0 : Int32) := zs_eqv h_x8 (by decide)
  refine zs_ite (fun c1 => ?_) (fun c1 => ?_)
  · skip
    have r2 := (zs_I_eq c1)
    obtain ⟨ret, er, hr⟩ := zc_1315 h_σ h_x3 h_x4 h_x6 h_x7 h_x8 (zs_rdk (q := 27) (k := 0) (z := (0, 30)) h_σ.1 rfl) hc
    refine ⟨ret, er, ?_⟩
    exact (zs_sumw hr (fun v w => ⟨w.1, w.2⟩) (fun v w => w.elim))
  · skip
    have r3 := (zs_I_eqn c1)
    exact (zs_botne r3 h_x3 zlI_2 (by decide)).elim
-- BX4_reckon_62
theorem zc_1317 {σ0 : sn_S} {σ : sn_S} (h_σ : zs_C σ0 σ) {x3 : Int32} (h_x3 : zs_in x3.toInt 2 2) {x4 : Int32} (h_x4 : zs_in x4.toInt (-1) (-1)) {x6 : Int32} (h_x6 : zs_in x6.toInt 3 3) {x7 : Int32} (h_x7 : zs_in x7.toInt 0 0) {t0 : Int32} (h_t0 : zs_in t0.toInt 0 0) {c : Int} (hc : x7.toInt = c + 0) : zs_ok (BX4_reckon_62 σ 1 27 x3 x4 x6 x7 t0) (fun r => zs_sum (fun v => ((zs_C σ0 v.1 ∧ zs_in (v.2).toInt 1 1)) ∧ v.2.toInt = c + 1) (fun v => False) r) := by
  unfold BX4_reckon_62
  obtain rfl : x3 = (2 : Int32) := zs_eqv h_x3 (by decide)
  obtain rfl : x4 = (-1 : Int32) := zs_eqv h_x4 (by decide)
  obtain rfl : x6 = (3 : Int32) := zs_eqv h_x6 (by decide)
  obtain rfl : t0 = (0 : Int32) := zs_eqv h_t0 (by decide)
  refine zs_bd_ (zd_249 h_x3 h_x4 h_x6 h_x7 h_t0 (s0 := (σ, (0 : Int32))) ⟨h_σ, (zs_w h_t0 (by decide))⟩) (fun t_1 pt_1 => ?_)
  obtain ⟨ret, er, hr⟩ := zc_1316 pt_1 h_x3 h_x4 h_x6 h_x7 h_t0 hc
  refine ⟨ret, er, ?_⟩
  exact (zs_sumw hr (fun v w => ⟨w.1, w.2⟩) (fun v w => w.elim))
-- BX4_reckon_111
theorem zc_1318 {σ0 : sn_S} {σ : sn_S} (h_σ : zs_C σ0 σ) {x3 : Int32} (h_x3 : zs_in x3.toInt 2 2) {x4 : Int32} (h_x4 : zs_in x4.toInt (-1) (-1)) {x6 : Int32} (h_x6 : zs_in x6.toInt 3 3) {x7 : Int32} (h_x7 : zs_in x7.toInt 1 7) {x8 : Int32} (h_x8 : zs_in x8.toInt 0 2) {x9 : Int32} (h_x9 : zs_in x9.toInt 0 2) {t1 : Int32} (h_t1 : zs_in t1.toInt 0 2) {t2 : Int32} {t3 : Int32} (h_t3 : zs_in t3.toInt 0 0) {c : Int} (hc : x9.toInt = c + 0) : zs_ok (BX4_reckon_111 σ 1 27 x3 x4 x6 x7 x8 x9 t1 t2 t3) (fun r => zs_sum (fun v => ((zs_C σ0 v.1 ∧ zs_in (v.2).toInt 1 3)) ∧ v.2.toInt = c + 1) (fun v => False) r) := by
  unfold BX4_reckon_111
  obtain rfl : x3 = (2 : Int32) := zs_eqv h_x3 (by decide)
  obtain rfl : x4 = (-1 : Int32) := zs_eqv h_x4 (by decide)
  obtain rfl : x6 = (3 : Int32) := zs_eqv h_x6 (by decide)
  obtain rfl : t3 = (0 : Int32) := zs_eqv h_t3 (by decide)
  refine zs_gd (zs_gin h_t1 (by decide)) ?_
  refine zs_lt (Q := fun z => zs_C σ0 z) (zs_wrt h_σ (fun _ => rfl) (fun _ => rfl)) (fun σ_2 hσ_2 => ?_)
  refine zs_lt (Q := fun z => zs_in z.toInt 1 3 ∧ z.toInt = c + 1) ⟨(zs_addI 1 3 h_x9 zlI_1 (by decide)), (zs_syI 1 hc h_x9 zlI_1 (by decide) (by decide))⟩ (fun y_4 hy_4 => ?_)
  exact zs_some (zs_inl ⟨⟨hσ_2, hy_4.1⟩, hy_4.2⟩)
-- BX4_reckon_111
theorem zc_1319 {σ0 : sn_S} {σ : sn_S} (h_σ : zs_C σ0 σ) {x3 : Int32} (h_x3 : zs_in x3.toInt 2 2) {x4 : Int32} (h_x4 : zs_in x4.toInt (-1) (-1)) {x6 : Int32} (h_x6 : zs_in x6.toInt 3 3) {x7 : Int32} (h_x7 : zs_in x7.toInt 1 7) {x8 : Int32} (h_x8 : zs_in x8.toInt 0 2) {x9 : Int32} (h_x9 : zs_in x9.toInt 0 2) {t1 : Int32} (h_t1 : zs_in t1.toInt 0 2) {t2 : Int32} {t3 : Int32} (h_t3 : zs_in t3.toInt 3 3) {c : Int} (hc : x9.toInt = c + 0) : zs_ok (BX4_reckon_111 σ 1 27 x3 x4 x6 x7 x8 x9 t1 t2 t3) (fun r => zs_sum (fun v => ((zs_C σ0 v.1 ∧ zs_in (v.2).toInt 1 3)) ∧ v.2.toInt = c + 1) (fun v => False) r) := by
  unfold BX4_reckon_111
  obtain rfl : x3 = (2 : Int32) := zs_eqv h_x3 (by decide)
  obtain rfl : x4 = (-1 : Int32) := zs_eqv h_x4 (by decide)
  obtain rfl : x6 = (3 : Int32) := zs_eqv h_x6 (by decide)
  obtain rfl : t3 = (3 : Int32) := zs_eqv h_t3 (by decide)
  refine zs_gd (zs_gin h_t1 (by decide)) ?_
  refine zs_lt (Q := fun z => zs_C σ0 z) (zs_wrt h_σ (fun _ => rfl) (fun _ => rfl)) (fun σ_2 hσ_2 => ?_)
  refine zs_lt (Q := fun z => zs_in z.toInt 1 3 ∧ z.toInt = c + 1) ⟨(zs_addI 1 3 h_x9 zlI_1 (by decide)), (zs_syI 1 hc h_x9 zlI_1 (by decide) (by decide))⟩ (fun y_4 hy_4 => ?_)
  exact zs_some (zs_inl ⟨⟨hσ_2, hy_4.1⟩, hy_4.2⟩)
-- BX4_reckon_68
theorem zc_1320 {σ0 : sn_S} {σ : sn_S} (h_σ : zs_C σ0 σ) {x3 : Int32} (h_x3 : zs_in x3.toInt 2 2) {x4 : Int32} (h_x4 : zs_in x4.toInt (-1) (-1)) {x6 : Int32} (h_x6 : zs_in x6.toInt 3 3) {x7 : Int32} (h_x7 : zs_in x7.toInt 1 7) {x8 : Int32} (h_x8 : zs_in x8.toInt 0 2) {x9 : Int32} (h_x9 : zs_in x9.toInt 0 3) {c : Int} (hc : x9.toInt = c + 0) : zs_ok (BX4_reckon_68 σ 1 27 x3 x4 x6 x7 x8 x9) (fun r => zs_sum (fun v => ((zs_C σ0 v.1 ∧ zs_in (v.2).toInt 1 3)) ∧ v.2.toInt = c + 1) (fun v => zs_C σ0 v) r) := by
  unfold BX4_reckon_68
  obtain rfl : x3 = (2 : Int32) := zs_eqv h_x3 (by decide)
  obtain rfl : x4 = (-1 : Int32) := zs_eqv h_x4 (by decide)
  obtain rfl : x6 = (3 : Int32) := zs_eqv h_x6 (by decide)
  refine zs_ite (fun c1 => ?_) (fun c1 => ?_)
  · skip
    have r2 := (zs_I_le c1)
    have g3 : zs_in (x9).toInt 3 3 := (zs_ler 3 3 r2 h_x6 h_x9 (by decide))
    exact zs_some (zs_inr (h_σ))
  · skip
    have r4 := (zs_I_len c1)
    have g5 : zs_in (x9).toInt 0 2 := (zs_ltl 0 2 r4 h_x9 h_x6 (by decide))
    refine zs_gd (zs_gin g5 (by decide)) ?_
    refine zs_bd_ (zc_817 h_x7 (zs_subI 0 2 (zs_subI 2 2 h_x6 zlI_1 (by decide)) g5 (by decide))) (fun t_3 pt_3 => ?_)
    refine zs_ite (fun c6 => ?_) (fun c6 => ?_)
    · skip
      have r7 := (zs_I_eq c6)
      have g8 : zs_in (t_3).toInt 0 0 := (zs_eql 0 0 r7 pt_3 zlI_0 (by decide))
      obtain ⟨ret, er, hr⟩ := zc_1318 h_σ h_x3 h_x4 h_x6 h_x7 h_x8 g5 g5 zlI_0 hc
      refine ⟨ret, er, ?_⟩
      exact (zs_sumw hr (fun v w => ⟨w.1, w.2⟩) (fun v w => w.elim))
    · skip
      have r9 := (zs_I_eqn c6)
      have g10 : zs_in (t_3).toInt 1 1 := (zs_nel 1 1 r9 pt_3 zlI_0 (by decide))
      obtain ⟨ret, er, hr⟩ := zc_1319 h_σ h_x3 h_x4 h_x6 h_x7 h_x8 g5 g5 zlI_3 hc
      refine ⟨ret, er, ?_⟩
      exact (zs_sumw hr (fun v w => ⟨w.1, w.2⟩) (fun v w => w.elim))
theorem zd_252 {σ0 : sn_S} {x3 : Int32} (h_x3 : zs_in x3.toInt 2 2) {x4 : Int32} (h_x4 : zs_in x4.toInt (-1) (-1)) {x6 : Int32} (h_x6 : zs_in x6.toInt 3 3) {x7 : Int32} (h_x7 : zs_in x7.toInt 1 7) {x8 : Int32} (h_x8 : zs_in x8.toInt 0 2) {s0 : (sn_S × Int32)} (h0 : (zs_C σ0 s0.1 ∧ zs_in (s0.2).toInt 0 3)) : zs_ok (sn_it (LX4_reckon_68 1 27 x3 x4 x6 x7 x8) 5000 s0) (fun t => zs_C σ0 t) := by
  refine zs_it (I := fun s => (zs_C σ0 s.1 ∧ zs_in (s.2).toInt 0 3)) (m := fun s => 3 - s.2.toInt) (fun s hs => ?_) (fun s hs => ?_) (by exact h0)
  · have h1 := hs.2; unfold zs_in at h1
    omega
  · obtain ⟨b, eb, hb⟩ := zc_1320 hs.1 h_x3 h_x4 h_x6 h_x7 h_x8 hs.2 (c := s.2.toInt) (Int.add_zero _).symm
    exact ⟨b, eb, zs_sumw hb (fun v w => ⟨⟨w.1.1, (zs_w w.1.2 (by decide))⟩, by have := w.2; omega⟩) (fun v w => w)⟩
-- BX0_live_2
theorem zc_1321 {σ0 : sn_S} {σ : sn_S} (h_σ : zs_C σ0 σ) {x1 : Int32} (h_x1 : zs_in x1.toInt 0 2) {x2 : Int32} (h_x2 : zs_in x2.toInt 0 30) {x3 : Int32} (h_x3 : zs_in x3.toInt 0 6) {c : Int} (hc : x3.toInt = c + 0) : zs_ok (BX0_live_2 σ 59 x1 x2 x3) (fun r => zs_sum (fun v => ((zs_C σ0 v.1 ∧ zs_in (v.2).toInt 1 6)) ∧ v.2.toInt = c + 1) (fun v => zs_C σ0 v) r) := by
  unfold BX0_live_2
  refine zs_ite (fun c1 => ?_) (fun c1 => ?_)
  · skip
    have r2 := (zs_I_le c1)
    exact zs_some (zs_inr (h_σ))
  · skip
    have r3 := (zs_I_len c1)
    have g4 : zs_in (x3).toInt 0 5 := (zs_ltl 0 5 r3 h_x3 (zs_rdk (q := 59) (k := 1) (z := (0, 6)) h_σ.1 rfl) (by decide))
    have g5 : zs_in ((sn_I σ 59 1)).toInt 1 6 := (zs_ltr 1 6 r3 h_x3 (zs_rdk (q := 59) (k := 1) (z := (0, 6)) h_σ.1 rfl) (by decide))
    refine zs_gd (zs_gin g4 (by decide)) ?_
    refine zs_bd_ (zc_821 h_x1) (fun t_3 pt_3 => ?_)
    refine zs_gd (zs_gin g4 (by decide)) ?_
    refine zs_lt (Q := fun z => zs_C σ0 z) (zs_wru (z := (0, 1073741823)) h_σ (fun _ => rfl) (zs_and pt_3 (by decide)) (by decide) (fun _ => rfl)) (fun σ_6 hσ_6 => ?_)
    refine zs_lt (Q := fun z => zs_in z.toInt 1 6 ∧ z.toInt = c + 1) ⟨(zs_addI 1 6 g4 zlI_1 (by decide)), (zs_syI 1 hc g4 zlI_1 (by decide) (by decide))⟩ (fun y_8 hy_8 => ?_)
    exact zs_some (zs_inl ⟨⟨hσ_6, hy_8.1⟩, hy_8.2⟩)
theorem zd_253 {σ0 : sn_S} {x1 : Int32} (h_x1 : zs_in x1.toInt 0 2) {x2 : Int32} (h_x2 : zs_in x2.toInt 0 30) {s0 : (sn_S × Int32)} (h0 : (zs_C σ0 s0.1 ∧ zs_in (s0.2).toInt 0 6)) : zs_ok (sn_it (LX0_live_2 59 x1 x2) 5000 s0) (fun t => zs_C σ0 t) := by
  refine zs_it (I := fun s => (zs_C σ0 s.1 ∧ zs_in (s.2).toInt 0 6)) (m := fun s => 6 - s.2.toInt) (fun s hs => ?_) (fun s hs => ?_) (by exact h0)
  · have h1 := hs.2; unfold zs_in at h1
    omega
  · obtain ⟨b, eb, hb⟩ := zc_1321 hs.1 h_x1 h_x2 hs.2 (c := s.2.toInt) (Int.add_zero _).symm
    exact ⟨b, eb, zs_sumw hb (fun v w => ⟨⟨w.1.1, (zs_w w.1.2 (by decide))⟩, by have := w.2; omega⟩) (fun v w => w)⟩
-- BX0_live_29
theorem zc_1322 {σ0 : sn_S} {σ : sn_S} (h_σ : zs_C σ0 σ) {x1 : Int32} (h_x1 : zs_in x1.toInt 0 2) {x2 : Int32} (h_x2 : zs_in x2.toInt 0 30) : zs_ok (BX0_live_29 σ 59 x1 x2) (fun r => zs_C σ0 r) := by
  unfold BX0_live_29
  refine zs_bd_ (zd_238 h_x2 (s0 := (σ, x1)) ⟨h_σ, (zs_w h_x1 (by decide))⟩) (fun t_1 pt_1 => ?_)
  obtain ⟨ret, er, hr⟩ := zc_697 pt_1
  refine ⟨ret, er, ?_⟩
  exact hr
-- fX0_live
theorem zc_1323 {σ0 : sn_S} {σ : sn_S} (h_σ : zs_C σ0 σ) {x1 : Int32} (h_x1 : zs_in x1.toInt 0 2) {x2 : Int32} (h_x2 : zs_in x2.toInt 0 30) : zs_ok (fX0_live σ 59 x1 x2) (fun r => zs_C σ0 r) := by
  unfold fX0_live
  refine zs_bd_ (zd_253 h_x1 h_x2 (s0 := (σ, (0 : Int32))) ⟨h_σ, (zs_w zlI_0 (by decide))⟩) (fun t_1 pt_1 => ?_)
  obtain ⟨ret, er, hr⟩ := zc_1322 pt_1 h_x1 h_x2
  refine ⟨ret, er, ?_⟩
  exact hr
-- BX4_reckon_139
theorem zc_1324 {σ0 : sn_S} {σ : sn_S} (h_σ : zs_C σ0 σ) {x3 : Int32} (h_x3 : zs_in x3.toInt 2 2) {x4 : Int32} (h_x4 : zs_in x4.toInt (-1) (-1)) {x6 : Int32} (h_x6 : zs_in x6.toInt 3 3) {x7 : Int32} (h_x7 : zs_in x7.toInt 1 7) {t1 : Int32} (h_t1 : zs_in t1.toInt 0 2) {t2 : Int32} (h_t2 : zs_in t2.toInt 0 30) {c : Int} (hc : x7.toInt = c + 0) : zs_ok (BX4_reckon_139 σ 1 27 x3 x4 x6 x7 t1 t2) (fun r => zs_sum (fun v => ((zs_C σ0 v.1 ∧ zs_in (v.2).toInt 2 8)) ∧ v.2.toInt = c + 1) (fun v => False) r) := by
  unfold BX4_reckon_139
  obtain rfl : x3 = (2 : Int32) := zs_eqv h_x3 (by decide)
  obtain rfl : x4 = (-1 : Int32) := zs_eqv h_x4 (by decide)
  obtain rfl : x6 = (3 : Int32) := zs_eqv h_x6 (by decide)
  refine zs_bd_ (zc_1323 h_σ h_t1 h_t2) (fun t_1 pt_1 => ?_)
  refine zs_bd_ (zo_bc 3 3 (by decide) h_x7) (fun t_3 pt_3 => ?_)
  refine zs_gd (zs_gin pt_3 (by decide)) ?_
  refine zs_bd_ (zc_1314 pt_1 h_x3 h_x4 h_x6) (fun t_6 pt_6 => ?_)
  refine zs_lt (Q := fun z => zs_C σ0 z) (zs_wrL pt_6.2 rfl) (fun σ_8 hσ_8 => ?_)
  refine zs_lt (Q := fun z => zs_in z.toInt 2 8 ∧ z.toInt = c + 1) ⟨(zs_addI 2 8 h_x7 zlI_1 (by decide)), (zs_syI 1 hc h_x7 zlI_1 (by decide) (by decide))⟩ (fun y_10 hy_10 => ?_)
  exact zs_some (zs_inl ⟨⟨hσ_8, hy_10.1⟩, hy_10.2⟩)
-- BX4_reckon_119
theorem zc_1325 {σ0 : sn_S} {σ : sn_S} (h_σ : zs_C σ0 σ) {x3 : Int32} (h_x3 : zs_in x3.toInt 2 2) {x4 : Int32} (h_x4 : zs_in x4.toInt (-1) (-1)) {x6 : Int32} (h_x6 : zs_in x6.toInt 3 3) {x7 : Int32} (h_x7 : zs_in x7.toInt 1 7) {x8 : Int32} (h_x8 : zs_in x8.toInt 0 2) {c : Int} (hc : x7.toInt = c + 0) : zs_ok (BX4_reckon_119 σ 1 27 x3 x4 x6 x7 x8) (fun r => zs_sum (fun v => ((zs_C σ0 v.1 ∧ zs_in (v.2).toInt 2 8)) ∧ v.2.toInt = c + 1) (fun v => False) r) := by
  unfold BX4_reckon_119
  obtain rfl : x3 = (2 : Int32) := zs_eqv h_x3 (by decide)
  obtain rfl : x4 = (-1 : Int32) := zs_eqv h_x4 (by decide)
  obtain rfl : x6 = (3 : Int32) := zs_eqv h_x6 (by decide)
  refine zs_ite (fun c1 => ?_) (fun c1 => ?_)
  · skip
    have r2 := (zs_I_eq c1)
    obtain ⟨ret, er, hr⟩ := zc_1324 h_σ h_x3 h_x4 h_x6 h_x7 h_x8 (zs_rdk (q := 27) (k := 0) (z := (0, 30)) h_σ.1 rfl) hc
    refine ⟨ret, er, ?_⟩
    exact (zs_sumw hr (fun v w => ⟨w.1, w.2⟩) (fun v w => w.elim))
  · skip
    have r3 := (zs_I_eqn c1)
    exact (zs_botne r3 h_x3 zlI_2 (by decide)).elim
-- BX4_reckon_62
theorem zc_1326 {σ0 : sn_S} {σ : sn_S} (h_σ : zs_C σ0 σ) {x3 : Int32} (h_x3 : zs_in x3.toInt 2 2) {x4 : Int32} (h_x4 : zs_in x4.toInt (-1) (-1)) {x6 : Int32} (h_x6 : zs_in x6.toInt 3 3) {x7 : Int32} (h_x7 : zs_in x7.toInt 1 7) {t0 : Int32} (h_t0 : zs_in t0.toInt 0 2) {c : Int} (hc : x7.toInt = c + 0) : zs_ok (BX4_reckon_62 σ 1 27 x3 x4 x6 x7 t0) (fun r => zs_sum (fun v => ((zs_C σ0 v.1 ∧ zs_in (v.2).toInt 2 8)) ∧ v.2.toInt = c + 1) (fun v => False) r) := by
  unfold BX4_reckon_62
  obtain rfl : x3 = (2 : Int32) := zs_eqv h_x3 (by decide)
  obtain rfl : x4 = (-1 : Int32) := zs_eqv h_x4 (by decide)
  obtain rfl : x6 = (3 : Int32) := zs_eqv h_x6 (by decide)
  refine zs_bd_ (zd_252 h_x3 h_x4 h_x6 h_x7 h_t0 (s0 := (σ, t0)) ⟨h_σ, (zs_w h_t0 (by decide))⟩) (fun t_1 pt_1 => ?_)
  obtain ⟨ret, er, hr⟩ := zc_1325 pt_1 h_x3 h_x4 h_x6 h_x7 h_t0 hc
  refine ⟨ret, er, ?_⟩
  exact (zs_sumw hr (fun v w => ⟨w.1, w.2⟩) (fun v w => w.elim))
-- BX4_reckon_34
theorem zc_1327 {σ0 : sn_S} {σ : sn_S} (h_σ : zs_C σ0 σ) {x3 : Int32} (h_x3 : zs_in x3.toInt 2 2) {x4 : Int32} (h_x4 : zs_in x4.toInt (-1) (-1)) {x6 : Int32} (h_x6 : zs_in x6.toInt 3 3) {x7 : Int32} (h_x7 : zs_in x7.toInt 0 8) {c : Int} (hc : x7.toInt = c + 0) : zs_ok (BX4_reckon_34 σ 1 27 x3 x4 x6 x7) (fun r => zs_sum (fun v => ((zs_C σ0 v.1 ∧ zs_in (v.2).toInt 1 8)) ∧ v.2.toInt = c + 1) (fun v => zs_C σ0 v) r) := by
  unfold BX4_reckon_34
  obtain rfl : x3 = (2 : Int32) := zs_eqv h_x3 (by decide)
  obtain rfl : x4 = (-1 : Int32) := zs_eqv h_x4 (by decide)
  obtain rfl : x6 = (3 : Int32) := zs_eqv h_x6 (by decide)
  refine zs_ite (fun c1 => ?_) (fun c1 => ?_)
  · skip
    have r2 := (zs_I_le c1)
    have g3 : zs_in (x7).toInt 8 8 := (zs_ler 8 8 r2 (zs_cases h_x6 (fun z => zs_in ((1 : Int32) <<< (z &&& 31)).toInt 8 8) (by decide +kernel)) h_x7 (by decide))
    exact zs_some (zs_inr (h_σ))
  · skip
    have r4 := (zs_I_len c1)
    have g5 : zs_in (x7).toInt 0 7 := (zs_ltl 0 7 r4 h_x7 (zs_cases h_x6 (fun z => zs_in ((1 : Int32) <<< (z &&& 31)).toInt 8 8) (by decide +kernel)) (by decide))
    refine zs_ite (fun c6 => ?_) (fun c6 => ?_)
    · skip
      have r7 := (zs_I_eq c6)
      have g8 : zs_in (x7).toInt 0 0 := (zs_eql 0 0 r7 g5 zlI_0 (by decide))
      obtain ⟨ret, er, hr⟩ := zc_1317 h_σ h_x3 h_x4 h_x6 g8 zlI_0 hc
      refine ⟨ret, er, ?_⟩
      exact (zs_sumw hr (fun v w => ⟨⟨w.1.1, (zs_w w.1.2 (by decide))⟩, w.2⟩) (fun v w => w.elim))
    · skip
      have r9 := (zs_I_eqn c6)
      have g10 : zs_in (x7).toInt 1 7 := (zs_nel 1 7 r9 g5 zlI_0 (by decide))
      refine zs_bd_ (zo_low1 3 2 (by decide) g10) (fun t_3 pt_3 => ?_)
      obtain ⟨ret, er, hr⟩ := zc_1326 h_σ h_x3 h_x4 h_x6 g10 (zs_subI 0 2 (zs_subI 2 2 h_x6 zlI_1 (by decide)) pt_3 (by decide)) hc
      refine ⟨ret, er, ?_⟩
      exact (zs_sumw hr (fun v w => ⟨⟨w.1.1, (zs_w w.1.2 (by decide))⟩, w.2⟩) (fun v w => w.elim))
theorem zd_254 {σ0 : sn_S} {x3 : Int32} (h_x3 : zs_in x3.toInt 2 2) {x4 : Int32} (h_x4 : zs_in x4.toInt (-1) (-1)) {x6 : Int32} (h_x6 : zs_in x6.toInt 3 3) {s0 : (sn_S × Int32)} (h0 : (zs_C σ0 s0.1 ∧ zs_in (s0.2).toInt 0 8)) : zs_ok (sn_it (LX4_reckon_34 1 27 x3 x4 x6) 5000 s0) (fun t => zs_C σ0 t) := by
  refine zs_it (I := fun s => (zs_C σ0 s.1 ∧ zs_in (s.2).toInt 0 8)) (m := fun s => 8 - s.2.toInt) (fun s hs => ?_) (fun s hs => ?_) (by exact h0)
  · have h1 := hs.2; unfold zs_in at h1
    omega
  · obtain ⟨b, eb, hb⟩ := zc_1327 hs.1 h_x3 h_x4 h_x6 hs.2 (c := s.2.toInt) (Int.add_zero _).symm
    exact ⟨b, eb, zs_sumw hb (fun v w => ⟨⟨w.1.1, (zs_w w.1.2 (by decide))⟩, by have := w.2; omega⟩) (fun v w => w)⟩
-- fX4_reckon
theorem zc_1328 {σ0 : sn_S} {σ : sn_S} (h_σ : zs_C σ0 σ) {x3 : Int32} (h_x3 : zs_in x3.toInt 2 2) {x4 : Int32} (h_x4 : zs_in x4.toInt (-1) (-1)) {x5 : Int32} (h_x5 : zs_in x5.toInt 2 2) : zs_ok (fX4_reckon σ 1 27 x3 x4 x5) (fun r => zs_C σ0 r) := by
  unfold fX4_reckon
  obtain rfl : x3 = (2 : Int32) := zs_eqv h_x3 (by decide)
  obtain rfl : x4 = (-1 : Int32) := zs_eqv h_x4 (by decide)
  obtain rfl : x5 = (2 : Int32) := zs_eqv h_x5 (by decide)
  refine zs_lt (Q := fun z => zs_in z.toInt 3 3) (zs_addI 3 3 h_x5 zlI_1 (by decide)) (fun y_1 hy_1 => ?_)
  refine zs_gd (zs_gin zlI_4 (by decide)) ?_
  refine zs_bd_ (zc_781 h_σ hy_1 (zs_rdk (q := 2) (k := (4 : Int32).toNatClampNeg) (z := (0, 10)) h_σ.1 rfl)) (fun t_4 pt_4 => ?_)
  refine zs_bd_ (zo_dcopy pt_4) (fun t_6 pt_6 => ?_)
  refine zs_lt (Q := fun z => zs_C σ0 z) (zs_wrL pt_6 rfl) (fun σ_8 hσ_8 => ?_)
  refine zs_bd_ (zd_254 h_x3 h_x4 hy_1 (s0 := (σ_8, (0 : Int32))) ⟨hσ_8, (zs_w zlI_0 (by decide))⟩) (fun t_10 pt_10 => ?_)
  obtain ⟨ret, er, hr⟩ := zc_830 pt_10 hy_1
  refine ⟨ret, er, ?_⟩
  exact hr
-- BX4_reckon_111
theorem zc_1329 {σ0 : sn_S} {σ : sn_S} (h_σ : zs_C σ0 σ) {x3 : Int32} (h_x3 : zs_in x3.toInt 2 2) {x4 : Int32} (h_x4 : zs_in x4.toInt (-1) (-1)) {x6 : Int32} (h_x6 : zs_in x6.toInt 4 4) {x7 : Int32} (h_x7 : zs_in x7.toInt 0 0) {x8 : Int32} (h_x8 : zs_in x8.toInt 0 0) {x9 : Int32} (h_x9 : zs_in x9.toInt 0 3) {t1 : Int32} (h_t1 : zs_in t1.toInt 0 3) {t2 : Int32} {t3 : Int32} (h_t3 : zs_in t3.toInt 0 0) {c : Int} (hc : x9.toInt = c + 0) : zs_ok (BX4_reckon_111 σ 1 27 x3 x4 x6 x7 x8 x9 t1 t2 t3) (fun r => zs_sum (fun v => ((zs_C σ0 v.1 ∧ zs_in (v.2).toInt 1 4)) ∧ v.2.toInt = c + 1) (fun v => False) r) := by
  unfold BX4_reckon_111
  obtain rfl : x3 = (2 : Int32) := zs_eqv h_x3 (by decide)
  obtain rfl : x4 = (-1 : Int32) := zs_eqv h_x4 (by decide)
  obtain rfl : x6 = (4 : Int32) := zs_eqv h_x6 (by decide)
  obtain rfl : x7 = (0 : Int32) := zs_eqv h_x7 (by decide)
  obtain rfl : x8 = (0 : Int32) := zs_eqv h_x8 (by decide)
  obtain rfl : t3 = (0 : Int32) := zs_eqv h_t3 (by decide)
  refine zs_gd (zs_gin h_t1 (by decide)) ?_
  refine zs_lt (Q := fun z => zs_C σ0 z) (zs_wrt h_σ (fun _ => rfl) (fun _ => rfl)) (fun σ_2 hσ_2 => ?_)
  refine zs_lt (Q := fun z => zs_in z.toInt 1 4 ∧ z.toInt = c + 1) ⟨(zs_addI 1 4 h_x9 zlI_1 (by decide)), (zs_syI 1 hc h_x9 zlI_1 (by decide) (by decide))⟩ (fun y_4 hy_4 => ?_)
  exact zs_some (zs_inl ⟨⟨hσ_2, hy_4.1⟩, hy_4.2⟩)
-- BX4_reckon_111
theorem zc_1330 {σ0 : sn_S} {σ : sn_S} (h_σ : zs_C σ0 σ) {x3 : Int32} (h_x3 : zs_in x3.toInt 2 2) {x4 : Int32} (h_x4 : zs_in x4.toInt (-1) (-1)) {x6 : Int32} (h_x6 : zs_in x6.toInt 4 4) {x7 : Int32} (h_x7 : zs_in x7.toInt 0 0) {x8 : Int32} (h_x8 : zs_in x8.toInt 0 0) {x9 : Int32} (h_x9 : zs_in x9.toInt 0 3) {t1 : Int32} (h_t1 : zs_in t1.toInt 0 3) {t2 : Int32} {t3 : Int32} (h_t3 : zs_in t3.toInt 3 3) {c : Int} (hc : x9.toInt = c + 0) : zs_ok (BX4_reckon_111 σ 1 27 x3 x4 x6 x7 x8 x9 t1 t2 t3) (fun r => zs_sum (fun v => ((zs_C σ0 v.1 ∧ zs_in (v.2).toInt 1 4)) ∧ v.2.toInt = c + 1) (fun v => False) r) := by
  unfold BX4_reckon_111
  obtain rfl : x3 = (2 : Int32) := zs_eqv h_x3 (by decide)
  obtain rfl : x4 = (-1 : Int32) := zs_eqv h_x4 (by decide)
  obtain rfl : x6 = (4 : Int32) := zs_eqv h_x6 (by decide)
  obtain rfl : x7 = (0 : Int32) := zs_eqv h_x7 (by decide)
  obtain rfl : x8 = (0 : Int32) := zs_eqv h_x8 (by decide)
  obtain rfl : t3 = (3 : Int32) := zs_eqv h_t3 (by decide)
  refine zs_gd (zs_gin h_t1 (by decide)) ?_
  refine zs_lt (Q := fun z => zs_C σ0 z) (zs_wrt h_σ (fun _ => rfl) (fun _ => rfl)) (fun σ_2 hσ_2 => ?_)
  refine zs_lt (Q := fun z => zs_in z.toInt 1 4 ∧ z.toInt = c + 1) ⟨(zs_addI 1 4 h_x9 zlI_1 (by decide)), (zs_syI 1 hc h_x9 zlI_1 (by decide) (by decide))⟩ (fun y_4 hy_4 => ?_)
  exact zs_some (zs_inl ⟨⟨hσ_2, hy_4.1⟩, hy_4.2⟩)
-- BX4_reckon_68
theorem zc_1331 {σ0 : sn_S} {σ : sn_S} (h_σ : zs_C σ0 σ) {x3 : Int32} (h_x3 : zs_in x3.toInt 2 2) {x4 : Int32} (h_x4 : zs_in x4.toInt (-1) (-1)) {x6 : Int32} (h_x6 : zs_in x6.toInt 4 4) {x7 : Int32} (h_x7 : zs_in x7.toInt 0 0) {x8 : Int32} (h_x8 : zs_in x8.toInt 0 0) {x9 : Int32} (h_x9 : zs_in x9.toInt 0 4) {c : Int} (hc : x9.toInt = c + 0) : zs_ok (BX4_reckon_68 σ 1 27 x3 x4 x6 x7 x8 x9) (fun r => zs_sum (fun v => ((zs_C σ0 v.1 ∧ zs_in (v.2).toInt 1 4)) ∧ v.2.toInt = c + 1) (fun v => zs_C σ0 v) r) := by
  unfold BX4_reckon_68
  obtain rfl : x3 = (2 : Int32) := zs_eqv h_x3 (by decide)
  obtain rfl : x4 = (-1 : Int32) := zs_eqv h_x4 (by decide)
  obtain rfl : x6 = (4 : Int32) := zs_eqv h_x6 (by decide)
  obtain rfl : x7 = (0 : Int32) := zs_eqv h_x7 (by decide)
  obtain rfl : x8 = (0 : Int32) := zs_eqv h_x8 (by decide)
  refine zs_ite (fun c1 => ?_) (fun c1 => ?_)
  · skip
    have r2 := (zs_I_le c1)
    have g3 : zs_in (x9).toInt 4 4 := (zs_ler 4 4 r2 h_x6 h_x9 (by decide))
    exact zs_some (zs_inr (h_σ))
  · skip
    have r4 := (zs_I_len c1)
    have g5 : zs_in (x9).toInt 0 3 := (zs_ltl 0 3 r4 h_x9 h_x6 (by decide))
    refine zs_gd (zs_gin g5 (by decide)) ?_
    refine zs_bd_ (zc_838 h_x7 (zs_subI 0 3 (zs_subI 3 3 h_x6 zlI_1 (by decide)) g5 (by decide))) (fun t_3 pt_3 => ?_)
    refine zs_ite (fun c6 => ?_) (fun c6 => ?_)
    · skip
      have r7 := (zs_I_eq c6)
      have g8 : zs_in (t_3).toInt 0 0 := (zs_eql 0 0 r7 pt_3 zlI_0 (by decide))
      obtain ⟨ret, er, hr⟩ := zc_1329 h_σ h_x3 h_x4 h_x6 h_x7 h_x8 g5 g5 zlI_0 hc
      refine ⟨ret, er, ?_⟩
      exact (zs_sumw hr (fun v w => ⟨w.1, w.2⟩) (fun v w => w.elim))
    · skip
      have r9 := (zs_I_eqn c6)
      have g10 : zs_in (t_3).toInt 1 1 := (zs_nel 1 1 r9 pt_3 zlI_0 (by decide))
      obtain ⟨ret, er, hr⟩ := zc_1330 h_σ h_x3 h_x4 h_x6 h_x7 h_x8 g5 g5 zlI_3 hc
      refine ⟨ret, er, ?_⟩
      exact (zs_sumw hr (fun v w => ⟨w.1, w.2⟩) (fun v w => w.elim))
theorem zd_255 {σ0 : sn_S} {x3 : Int32} (h_x3 : zs_in x3.toInt 2 2) {x4 : Int32} (h_x4 : zs_in x4.toInt (-1) (-1)) {x6 : Int32} (h_x6 : zs_in x6.toInt 4 4) {x7 : Int32} (h_x7 : zs_in x7.toInt 0 0) {x8 : Int32} (h_x8 : zs_in x8.toInt 0 0) {s0 : (sn_S × Int32)} (h0 : (zs_C σ0 s0.1 ∧ zs_in (s0.2).toInt 0 4)) : zs_ok (sn_it (LX4_reckon_68 1 27 x3 x4 x6 x7 x8) 5000 s0) (fun t => zs_C σ0 t) := by
  refine zs_it (I := fun s => (zs_C σ0 s.1 ∧ zs_in (s.2).toInt 0 4)) (m := fun s => 4 - s.2.toInt) (fun s hs => ?_) (fun s hs => ?_) (by exact h0)
  · have h1 := hs.2; unfold zs_in at h1
    omega
  · obtain ⟨b, eb, hb⟩ := zc_1331 hs.1 h_x3 h_x4 h_x6 h_x7 h_x8 hs.2 (c := s.2.toInt) (Int.add_zero _).symm
    exact ⟨b, eb, zs_sumw hb (fun v w => ⟨⟨w.1.1, (zs_w w.1.2 (by decide))⟩, by have := w.2; omega⟩) (fun v w => w)⟩
-- BX3_moneyAt_44
theorem zc_1332 {σ0 : sn_S} {σ : sn_S} (h_σ : zs_C σ0 σ) {x1 : Int32} (h_x1 : zs_in x1.toInt 0 3) {x2 : Int32} {x3 : Int32} (h_x3 : zs_in x3.toInt 0 5) {c : Int} (hc : x3.toInt = c + 0) : zs_ok (BX3_moneyAt_44 σ 70 x1 x2 x3) (fun r => zs_sum (fun v => ((True ∧ zs_in (v.2).toInt 1 6)) ∧ v.2.toInt = c + 1) (fun v => False) r) := by
  unfold BX3_moneyAt_44
  refine zs_lt (Q := fun z => zs_in z.toInt 1 6 ∧ z.toInt = c + 1) ⟨(zs_addI 1 6 h_x3 zlI_1 (by decide)), (zs_syI 1 hc h_x3 zlI_1 (by decide) (by decide))⟩ (fun y_1 hy_1 => ?_)
  exact zs_some (zs_inl ⟨⟨trivial, hy_1.1⟩, hy_1.2⟩)
-- BX3_moneyAt_7
theorem zc_1333 {σ0 : sn_S} {σ : sn_S} (h_σ : zs_C σ0 σ) {x1 : Int32} (h_x1 : zs_in x1.toInt 0 3) {x2 : Int32} {x3 : Int32} (h_x3 : zs_in x3.toInt 0 6) {c : Int} (hc : x3.toInt = c + 0) : zs_ok (BX3_moneyAt_7 σ 70 x1 x2 x3) (fun r => zs_sum (fun v => ((True ∧ zs_in (v.2).toInt 1 6)) ∧ v.2.toInt = c + 1) (fun v => True) r) := by
  unfold BX3_moneyAt_7
  refine zs_ite (fun c1 => ?_) (fun c1 => ?_)
  · skip
    have r2 := (zs_I_le c1)
    exact zs_some (zs_inr (trivial))
  · skip
    have r3 := (zs_I_len c1)
    have g4 : zs_in (x3).toInt 0 5 := (zs_ltl 0 5 r3 h_x3 (zs_rdk (q := 70) (k := 2) (z := (0, 6)) h_σ.1 rfl) (by decide))
    have g5 : zs_in ((sn_I σ 70 2)).toInt 1 6 := (zs_ltr 1 6 r3 h_x3 (zs_rdk (q := 70) (k := 2) (z := (0, 6)) h_σ.1 rfl) (by decide))
    refine zs_gd (zs_gin g4 (by decide)) ?_
    refine zs_ite (fun c6 => ?_) (fun c6 => ?_)
    · skip
      have r7 := (zs_I_eq c6)
      have g8 : zs_in ((sn_I σ (70 + 2) x3.toNatClampNeg)).toInt (-1) (-1) := (zs_eql (-1) (-1) r7 (zs_rdu (q := 72) (z := ((-1), 63)) h_σ.1 (fun _ => rfl)) zlI_m1 (by decide))
      obtain ⟨ret, er, hr⟩ := zc_1332 h_σ h_x1 g4 hc
      refine ⟨ret, er, ?_⟩
      exact (zs_sumw hr (fun v w => ⟨w.1, w.2⟩) (fun v w => w.elim))
    · skip
      have r9 := (zs_I_eqn c6)
      have g10 : zs_in ((sn_I σ (70 + 2) x3.toNatClampNeg)).toInt 0 63 := (zs_nel 0 63 r9 (zs_rdu (q := 72) (z := ((-1), 63)) h_σ.1 (fun _ => rfl)) zlI_m1 (by decide))
      refine zs_gd (zs_gin g4 (by decide)) ?_
      refine zs_ite (fun c11 => ?_) (fun c11 => ?_)
      · skip
        have r12 := (zs_I_lt c11)
        have g13 : zs_in ((sn_I σ (70 + 2) x3.toNatClampNeg)).toInt 1 63 := (zs_ltr 1 63 r12 h_x1 g10 (by decide))
        obtain ⟨ret, er, hr⟩ := zc_1332 h_σ h_x1 g4 hc
        refine ⟨ret, er, ?_⟩
        exact (zs_sumw hr (fun v w => ⟨w.1, w.2⟩) (fun v w => w.elim))
      · skip
        have r14 := (zs_I_ltn c11)
        have g15 : zs_in ((sn_I σ (70 + 2) x3.toNatClampNeg)).toInt 0 3 := (zs_lel 0 3 r14 g10 h_x1 (by decide))
        refine zs_gd (zs_gin g4 (by decide)) ?_
        refine zs_lt (Q := fun z => True) trivial (fun y_7 hy_7 => ?_)
        obtain ⟨ret, er, hr⟩ := zc_1332 h_σ h_x1 g4 hc
        refine ⟨ret, er, ?_⟩
        exact (zs_sumw hr (fun v w => ⟨w.1, w.2⟩) (fun v w => w.elim))
theorem zd_256 {σ0 : sn_S} {σ : sn_S} (h_σ : zs_C σ0 σ) {x1 : Int32} (h_x1 : zs_in x1.toInt 0 3) {s0 : (Int32 × Int32)} (h0 : (True ∧ zs_in (s0.2).toInt 0 6)) : zs_ok (sn_it (LX3_moneyAt_7 σ 70 x1) 5000 s0) (fun t => True) := by
  refine zs_it (I := fun s => (True ∧ zs_in (s.2).toInt 0 6)) (m := fun s => 6 - s.2.toInt) (fun s hs => ?_) (fun s hs => ?_) (by exact h0)
  · have h1 := hs.2; unfold zs_in at h1
    omega
  · obtain ⟨b, eb, hb⟩ := zc_1333 h_σ h_x1 hs.2 (c := s.2.toInt) (Int.add_zero _).symm
    exact ⟨b, eb, zs_sumw hb (fun v w => ⟨⟨w.1.1, (zs_w w.1.2 (by decide))⟩, by have := w.2; omega⟩) (fun v w => w)⟩
-- fX3_moneyAt
theorem zc_1334 {σ0 : sn_S} {σ : sn_S} (h_σ : zs_C σ0 σ) {x1 : Int32} (h_x1 : zs_in x1.toInt 0 3) : zs_ok (fX3_moneyAt σ 70 x1) (fun r => True) := by
  unfold fX3_moneyAt
  refine zs_lt (Q := fun z => True) trivial (fun y_1 hy_1 => ?_)
  refine zs_bd_ (zd_256 h_σ h_x1 (s0 := (y_1, (0 : Int32))) ⟨trivial, (zs_w zlI_0 (by decide))⟩) (fun t_3 pt_3 => ?_)
  obtain ⟨ret, er, hr⟩ := zc_1266 h_σ
  refine ⟨ret, er, ?_⟩
  exact hr
-- BX3_firstBelow_2
theorem zc_1335 {σ0 : sn_S} {σ : sn_S} (h_σ : zs_C σ0 σ) {x1 : Int32} (h_x1 : zs_in x1.toInt 4 4) {x2 : Int32} (h_x2 : zs_in x2.toInt 0 4) {c : Int} (hc : x2.toInt = c + 0) : zs_ok (BX3_firstBelow_2 σ 70 x1 x2) (fun r => zs_sum (fun v => (zs_in (v).toInt 1 4) ∧ v.toInt = c + 1) (fun v => zs_sum (fun v => True) (fun v => zs_in (v).toInt 0 3) v) r) := by
  unfold BX3_firstBelow_2
  obtain rfl : x1 = (4 : Int32) := zs_eqv h_x1 (by decide)
  refine zs_ite (fun c1 => ?_) (fun c1 => ?_)
  · skip
    have r2 := (zs_I_le c1)
    have g3 : zs_in (x2).toInt 4 4 := (zs_ler 4 4 r2 h_x1 h_x2 (by decide))
    exact zs_some (zs_inr ((zs_inl (trivial))))
  · skip
    have r4 := (zs_I_len c1)
    have g5 : zs_in (x2).toInt 0 3 := (zs_ltl 0 3 r4 h_x2 h_x1 (by decide))
    refine zs_bd_ (zc_1334 h_σ g5) (fun t_2 pt_2 => ?_)
    refine zs_ite (fun c6 => ?_) (fun c6 => ?_)
    · skip
      have r7 := (zs_I_le c6)
      have g8 : zs_in (t_2).toInt 0 2147483647 := (zs_ler 0 2147483647 r7 zlI_0 (zs_topI _) (by decide))
      refine zs_lt (Q := fun z => zs_in z.toInt 1 4 ∧ z.toInt = c + 1) ⟨(zs_addI 1 4 g5 zlI_1 (by decide)), (zs_syI 1 hc g5 zlI_1 (by decide) (by decide))⟩ (fun y_5 hy_5 => ?_)
      exact zs_some (zs_inl ⟨hy_5.1, hy_5.2⟩)
    · skip
      have r9 := (zs_I_len c6)
      have g10 : zs_in (t_2).toInt (-2147483648) (-1) := (zs_ltl (-2147483648) (-1) r9 (zs_topI _) zlI_0 (by decide))
      exact zs_some (zs_inr ((zs_inr (g5))))
theorem zd_257 {σ0 : sn_S} {σ : sn_S} (h_σ : zs_C σ0 σ) {x1 : Int32} (h_x1 : zs_in x1.toInt 4 4) {s0 : Int32} (h0 : zs_in (s0).toInt 0 4) : zs_ok (sn_it (LX3_firstBelow_2 σ 70 x1) 5000 s0) (fun t => zs_sum (fun v => True) (fun v => zs_in (v).toInt 0 3) t) := by
  refine zs_it (I := fun s => zs_in (s).toInt 0 4) (m := fun s => 4 - s.toInt) (fun s hs => ?_) (fun s hs => ?_) (by exact h0)
  · have h1 := hs; unfold zs_in at h1
    omega
  · obtain ⟨b, eb, hb⟩ := zc_1335 h_σ h_x1 hs (c := s.toInt) (Int.add_zero _).symm
    exact ⟨b, eb, zs_sumw hb (fun v w => ⟨(zs_w w.1 (by decide)), by have := w.2; omega⟩) (fun v w => w)⟩
-- fX3_firstBelow
theorem zc_1336 {σ0 : sn_S} {σ : sn_S} (h_σ : zs_C σ0 σ) {x1 : Int32} (h_x1 : zs_in x1.toInt 4 4) : zs_ok (fX3_firstBelow σ 70 x1) (fun r => zs_in (r).toInt (-1) 3) := by
  unfold fX3_firstBelow
  obtain rfl : x1 = (4 : Int32) := zs_eqv h_x1 (by decide)
  refine zs_bd_ (zd_257 h_σ h_x1 (s0 := (0 : Int32)) (zs_w zlI_0 (by decide))) (fun t_1 pt_1 => ?_)
  refine zs_elim pt_1 (fun v_3 pv_3 => ?_) (fun r_4 pr_4 => ?_)
  · skip
    obtain ⟨ret, er, hr⟩ := zc_1269 h_σ
    refine ⟨ret, er, ?_⟩
    exact (zs_w hr (by decide))
  · skip
    exact zs_some (zs_w pr_4 (by decide))
-- fX4_worth
theorem zc_1337 {σ0 : sn_S} {σ : sn_S} (h_σ : zs_C σ0 σ) {x2 : Int32} (h_x2 : zs_in x2.toInt 2 2) {x3 : Int32} (h_x3 : zs_in x3.toInt (-1) (-1)) {x4 : Int32} (h_x4 : zs_in x4.toInt 4 4) : zs_ok (fX4_worth σ 1 x2 x3 x4) (fun r => (zs_in (r.1).toInt 0 1 ∧ zs_C σ0 r.2)) := by
  unfold fX4_worth
  obtain rfl : x2 = (2 : Int32) := zs_eqv h_x2 (by decide)
  obtain rfl : x3 = (-1 : Int32) := zs_eqv h_x3 (by decide)
  obtain rfl : x4 = (4 : Int32) := zs_eqv h_x4 (by decide)
  refine zs_ite (fun c1 => ?_) (fun c1 => ?_)
  · skip
    have r2 := (zs_I_eq c1)
    exact (zs_botr r2 h_x2 zlI_0 (by decide)).elim
  · skip
    have r3 := (zs_I_eqn c1)
    refine zs_gd (zs_gin zlI_2 (by decide)) ?_
    refine zs_bd_ (zo_reckon_70_59_0_3 h_σ (zs_rdk (q := 2) (k := (2 : Int32).toNatClampNeg) (z := (0, 3)) h_σ.1 rfl)) (fun t_3 pt_3 => ?_)
    refine zs_ite (fun c4 => ?_) (fun c4 => ?_)
    · skip
      have r5 := (zs_I_eq c4)
      exact (zs_botr r5 h_x2 zlI_1 (by decide)).elim
    · skip
      have r6 := (zs_I_eqn c4)
      refine zs_bd_ (zc_1336 pt_3 h_x4) (fun t_6 pt_6 => ?_)
      refine zs_ite (fun c7 => ?_) (fun c7 => ?_)
      · skip
        have r8 := (zs_I_eq c7)
        have g9 : zs_in (t_6).toInt (-1) (-1) := (zs_eql (-1) (-1) r8 pt_6 zlI_m1 (by decide))
        exact zs_some ⟨(zs_w zlL_0 (by decide)), pt_3⟩
      · skip
        have r10 := (zs_I_eqn c7)
        have g11 : zs_in (t_6).toInt 0 3 := (zs_nel 0 3 r10 pt_6 zlI_m1 (by decide))
        exact zs_some ⟨(zs_w zlL_1 (by decide)), pt_3⟩
-- BX4_reckon_139
theorem zc_1338 {σ0 : sn_S} {σ : sn_S} (h_σ : zs_C σ0 σ) {x3 : Int32} (h_x3 : zs_in x3.toInt 2 2) {x4 : Int32} (h_x4 : zs_in x4.toInt (-1) (-1)) {x6 : Int32} (h_x6 : zs_in x6.toInt 4 4) {x7 : Int32} (h_x7 : zs_in x7.toInt 0 0) {t1 : Int32} (h_t1 : zs_in t1.toInt 0 0) {t2 : Int32} (h_t2 : zs_in t2.toInt 0 30) {c : Int} (hc : x7.toInt = c + 0) : zs_ok (BX4_reckon_139 σ 1 27 x3 x4 x6 x7 t1 t2) (fun r => zs_sum (fun v => ((zs_C σ0 v.1 ∧ zs_in (v.2).toInt 1 1)) ∧ v.2.toInt = c + 1) (fun v => False) r) := by
  unfold BX4_reckon_139
  obtain rfl : x3 = (2 : Int32) := zs_eqv h_x3 (by decide)
  obtain rfl : x4 = (-1 : Int32) := zs_eqv h_x4 (by decide)
  obtain rfl : x6 = (4 : Int32) := zs_eqv h_x6 (by decide)
  obtain rfl : t1 = (0 : Int32) := zs_eqv h_t1 (by decide)
  refine zs_bd_ (zc_1263 h_σ h_t1 h_t2) (fun t_1 pt_1 => ?_)
  refine zs_bd_ (zo_bc 0 0 (by decide) h_x7) (fun t_3 pt_3 => ?_)
  refine zs_gd (zs_gin pt_3 (by decide)) ?_
  refine zs_bd_ (zc_1337 pt_1 h_x3 h_x4 h_x6) (fun t_6 pt_6 => ?_)
  refine zs_lt (Q := fun z => zs_C σ0 z) (zs_wrL pt_6.2 rfl) (fun σ_8 hσ_8 => ?_)
  refine zs_lt (Q := fun z => zs_in z.toInt 1 1 ∧ z.toInt = c + 1) ⟨(zs_addI 1 1 h_x7 zlI_1 (by decide)), (zs_syI 1 hc h_x7 zlI_1 (by decide) (by decide))⟩ (fun y_10 hy_10 => ?_)
  exact zs_some (zs_inl ⟨⟨hσ_8, hy_10.1⟩, hy_10.2⟩)
-- BX4_reckon_119
theorem zc_1339 {σ0 : sn_S} {σ : sn_S} (h_σ : zs_C σ0 σ) {x3 : Int32} (h_x3 : zs_in x3.toInt 2 2) {x4 : Int32} (h_x4 : zs_in x4.toInt (-1) (-1)) {x6 : Int32} (h_x6 : zs_in x6.toInt 4 4) {x7 : Int32} (h_x7 : zs_in x7.toInt 0 0) {x8 : Int32} (h_x8 : zs_in x8.toInt 0 0) {c : Int} (hc : x7.toInt = c + 0) : zs_ok (BX4_reckon_119 σ 1 27 x3 x4 x6 x7 x8) (fun r => zs_sum (fun v => ((zs_C σ0 v.1 ∧ zs_in (v.2).toInt 1 1)) ∧ v.2.toInt = c + 1) (fun v => False) r) := by
  unfold BX4_reckon_119
  obtain rfl : x3 = (2 : Int32) := zs_eqv h_x3 (by decide)
  obtain rfl : x4 = (-1 : Int32) := zs_eqv h_x4 (by decide)
  obtain rfl : x6 = (4 : Int32) := zs_eqv h_x6 (by decide)
  obtain rfl : x8 = (0 : Int32) := zs_eqv h_x8 (by decide)
  refine zs_ite (fun c1 => ?_) (fun c1 => ?_)
  · skip
    have r2 := (zs_I_eq c1)
    obtain ⟨ret, er, hr⟩ := zc_1338 h_σ h_x3 h_x4 h_x6 h_x7 h_x8 (zs_rdk (q := 27) (k := 0) (z := (0, 30)) h_σ.1 rfl) hc
    refine ⟨ret, er, ?_⟩
    exact (zs_sumw hr (fun v w => ⟨w.1, w.2⟩) (fun v w => w.elim))
  · skip
    have r3 := (zs_I_eqn c1)
    exact (zs_botne r3 h_x3 zlI_2 (by decide)).elim
