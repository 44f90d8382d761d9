-- fX8_fault
theorem zc_3 {σ0 : sn_S} {σ : sn_S} (h_σ : zs_C σ0 σ) {x1 : Int32} : zs_ok (fX8_isPerson σ x1) (fun r => (zs_in (r).toInt 0 1) ∧ ((r).toInt = 0 ∨ (zs_in (x1).toInt 0 5))) := by
  unfold fX8_isPerson
  refine zs_ite (fun c1 => ?_) (fun c1 => ?_)
  · skip
    have r2 := (zs_I_lt c1)
    have g3 : zs_in (x1).toInt (-2147483648) (-1) := (zs_ltl (-2147483648) (-1) r2 (zs_topI _) zlI_0 (by decide))
    refine zs_gd (zs_b01 zlI_0 (by decide)) ?_
    exact zs_some ⟨(zs_w zlI_0 (by decide)), Or.inl (zs_ptr zlI_0)⟩
  · skip
    have r4 := (zs_I_ltn c1)
    have g5 : zs_in (x1).toInt 0 2147483647 := (zs_ler 0 2147483647 r4 zlI_0 (zs_topI _) (by decide))
    refine zs_gd (zs_gin zlI_5 (by decide)) ?_
    refine zs_ite (fun c6 => ?_) (fun c6 => ?_)
    · skip
      have r7 := (zs_I_le c6)
      refine zs_gd (zs_b01 zlI_0 (by decide)) ?_
      exact zs_some ⟨(zs_w zlI_0 (by decide)), Or.inl (zs_ptr zlI_0)⟩
    · skip
      have r8 := (zs_I_len c6)
      have g9 : zs_in (x1).toInt 0 5 := (zs_ltl 0 5 r8 g5 (zs_rdk (q := 2) (k := (5 : Int32).toNatClampNeg) (z := (0, 6)) h_σ.1 rfl) (by decide))
      have g10 : zs_in ((sn_I σ (1 + 1) (5 : Int32).toNatClampNeg)).toInt 1 6 := (zs_ltr 1 6 r8 g5 (zs_rdk (q := 2) (k := (5 : Int32).toNatClampNeg) (z := (0, 6)) h_σ.1 rfl) (by decide))
      refine zs_gd (zs_b01 zlI_1 (by decide)) ?_
      exact zs_some ⟨(zs_w zlI_1 (by decide)), Or.inr g9⟩
-- fX8_nose
theorem zc_5 {x0 : Int64} (h_x0 : zs_in x0.toInt (-2147483648) 2147483647) {x2 : Int64} (h_x2 : zs_in x2.toInt 0 0) {x4 : Int64} (h_x4 : zs_in x4.toInt (-1) 5) : zs_ok (fX9_in x0 x2 x4) (fun r => (zs_in (r).toInt 0 1) ∧ ((r).toInt = 0 ∨ (zs_in (x0).toInt 0 5 ∧ zs_in (x4).toInt 0 5))) := by
  unfold fX9_in
  refine zs_ite (fun c1 => ?_) (fun c1 => ?_)
  · skip
    have r2 := (zs_lg_lt c1)
    have g3 : zs_in (x0).toInt (-2147483648) (-1) := (zs_ltl (-2147483648) (-1) r2 h_x0 h_x2 (by decide))
    refine zs_gd (zs_b01 zlI_0 (by decide)) ?_
    exact zs_some ⟨(zs_w zlI_0 (by decide)), Or.inl (zs_ptr zlI_0)⟩
  · skip
    have r4 := (zs_lg_ltn c1)
    have g5 : zs_in (x0).toInt 0 2147483647 := (zs_ler 0 2147483647 r4 h_x2 h_x0 (by decide))
    refine zs_ite (fun c6 => ?_) (fun c6 => ?_)
    · skip
      have r7 := (zs_lg_ltf c6)
      refine zs_gd (zs_b01 zlI_0 (by decide)) ?_
      exact zs_some ⟨(zs_w zlI_0 (by decide)), Or.inl (zs_ptr zlI_0)⟩
    · skip
      have r8 := (zs_lg_ltfn c6)
      have g9 : zs_in (x0).toInt 0 5 := (zs_lel 0 5 r8 g5 h_x4 (by decide))
      have g10 : zs_in (x4).toInt 0 5 := (zs_ler 0 5 r8 g5 h_x4 (by decide))
      refine zs_gd (zs_b01 zlI_1 (by decide)) ?_
      exact zs_some ⟨(zs_w zlI_1 (by decide)), Or.inr ⟨g9, g10⟩⟩
-- fX9_isPerson
theorem zc_6 {σ0 : sn_S} {σ : sn_S} (h_σ : zs_M σ0 σ) {x1 : Int64} (h_x1 : zs_in x1.toInt (-2147483648) 2147483647) : zs_ok (fX9_isPerson σ x1) (fun r => (zs_in (r).toInt 0 1) ∧ ((r).toInt = 0 ∨ (zs_in (x1).toInt 0 5))) := by
  unfold fX9_isPerson
  refine zs_gd (zs_gin zlI_5 (by decide)) ?_
  refine zs_bd_ (zc_5 h_x1 zlL_0 (zs_64 (zs_subI (-1) 5 (zs_rdk (q := 1) (k := (5 : Int32).toNatClampNeg) (z := (0, 6)) h_σ.1 rfl) zlI_1 (by decide)))) (fun t_2 pt_2 => ?_)
  refine zs_gd (zs_b01 pt_2.1 (by decide)) ?_
  rcases pt_2.2 with z0 | z0
  · skip
    have g1 : zs_in (t_2).toInt 0 0 := (zs_pt z0)
    exact zs_some ⟨(zs_w g1 (by decide)), Or.inl (zs_ptr g1)⟩
  · skip
    have q2 := z0
    have g3 : zs_in (x1).toInt 0 5 := q2.1
    have g4 : zs_in (((sn_I σ 1 (5 : Int32).toNatClampNeg) - (1 : Int32)).toInt64).toInt 0 5 := q2.2
    have g5 : zs_in (((sn_I σ 1 (5 : Int32).toNatClampNeg) - (1 : Int32))).toInt 0 5 := (zs_64r g4)
    have g6 : zs_in ((sn_I σ 1 (5 : Int32).toNatClampNeg)).toInt 1 6 := (zs_sublI 1 6 (zs_rdk (q := 1) (k := (5 : Int32).toNatClampNeg) (z := (0, 6)) h_σ.1 rfl) zlI_1 g5 (by decide))
    exact zs_some ⟨pt_2.1, Or.inr g3⟩
-- fX9_in
theorem zc_7 {x0 : Int64} (h_x0 : zs_in x0.toInt (-2147483648) 2147483647) {x2 : Int64} (h_x2 : zs_in x2.toInt 0 0) {x4 : Int64} (h_x4 : zs_in x4.toInt 1 1) : zs_ok (fX9_in x0 x2 x4) (fun r => (zs_in (r).toInt 0 1) ∧ ((r).toInt = 0 ∨ (zs_in (x0).toInt 0 1))) := by
  unfold fX9_in
  refine zs_ite (fun c1 => ?_) (fun c1 => ?_)
  · skip
    have r2 := (zs_lg_lt c1)
    have g3 : zs_in (x0).toInt (-2147483648) (-1) := (zs_ltl (-2147483648) (-1) r2 h_x0 h_x2 (by decide))
    refine zs_gd (zs_b01 zlI_0 (by decide)) ?_
    exact zs_some ⟨(zs_w zlI_0 (by decide)), Or.inl (zs_ptr zlI_0)⟩
  · skip
    have r4 := (zs_lg_ltn c1)
    have g5 : zs_in (x0).toInt 0 2147483647 := (zs_ler 0 2147483647 r4 h_x2 h_x0 (by decide))
    refine zs_ite (fun c6 => ?_) (fun c6 => ?_)
    · skip
      have r7 := (zs_lg_ltf c6)
      have g8 : zs_in (x0).toInt 2 2147483647 := (zs_ltr 2 2147483647 r7 h_x4 g5 (by decide))
      refine zs_gd (zs_b01 zlI_0 (by decide)) ?_
      exact zs_some ⟨(zs_w zlI_0 (by decide)), Or.inl (zs_ptr zlI_0)⟩
    · skip
      have r9 := (zs_lg_ltfn c6)
      have g10 : zs_in (x0).toInt 0 1 := (zs_lel 0 1 r9 g5 h_x4 (by decide))
      refine zs_gd (zs_b01 zlI_1 (by decide)) ?_
      exact zs_some ⟨(zs_w zlI_1 (by decide)), Or.inr g10⟩
-- fX9_nose
theorem zc_11 {σ0 : sn_S} {σ : sn_S} (h_σ : zs_M σ0 σ) {x1 : Int32} : zs_ok (fX9_isPolicy σ x1) (fun r => (zs_in (r).toInt 0 1) ∧ ((r).toInt = 0 ∨ (zs_in (x1).toInt 0 5))) := by
  unfold fX9_isPolicy
  refine zs_gd (zs_gin zlI_8 (by decide)) ?_
  refine zs_bd_ (zc_5 (zs_64 (zs_topI _)) zlL_0 (zs_64 (zs_subI (-1) 5 (zs_rdk (q := 1) (k := (8 : Int32).toNatClampNeg) (z := (0, 6)) h_σ.1 rfl) zlI_1 (by decide)))) (fun t_2 pt_2 => ?_)
  refine zs_gd (zs_b01 pt_2.1 (by decide)) ?_
  rcases pt_2.2 with z0 | z0
  · skip
    have g1 : zs_in (t_2).toInt 0 0 := (zs_pt z0)
    exact zs_some ⟨(zs_w g1 (by decide)), Or.inl (zs_ptr g1)⟩
  · skip
    have q2 := z0
    have g3 : zs_in (x1.toInt64).toInt 0 5 := q2.1
    have g4 : zs_in (x1).toInt 0 5 := (zs_64r g3)
    have g5 : zs_in (((sn_I σ 1 (8 : Int32).toNatClampNeg) - (1 : Int32)).toInt64).toInt 0 5 := q2.2
    have g6 : zs_in (((sn_I σ 1 (8 : Int32).toNatClampNeg) - (1 : Int32))).toInt 0 5 := (zs_64r g5)
    have g7 : zs_in ((sn_I σ 1 (8 : Int32).toNatClampNeg)).toInt 1 6 := (zs_sublI 1 6 (zs_rdk (q := 1) (k := (8 : Int32).toNatClampNeg) (z := (0, 6)) h_σ.1 rfl) zlI_1 g6 (by decide))
    exact zs_some ⟨pt_2.1, Or.inr g4⟩
-- fX9_in
theorem zc_15 {σ0 : sn_S} {σ : sn_S} (h_σ : zs_C σ0 σ) {x1 : Int32} (h_x1 : zs_in x1.toInt 0 5) {x2 : Int32} {x3 : Int32} (h_x3 : zs_in x3.toInt 0 7) {c : Int} (hc : x3.toInt = c + 0) : zs_ok (BX2_neighbours_69 σ 1 x1 x2 x3) (fun r => zs_sum (fun v => ((True ∧ zs_in (v.2).toInt 1 8)) ∧ v.2.toInt = c + 1) (fun v => False) r) := by
  unfold BX2_neighbours_69
  refine zs_lt (Q := fun z => zs_in z.toInt 1 8 ∧ z.toInt = c + 1) ⟨(zs_addI 1 8 h_x3 zlI_1 (by decide)), (zs_syI 1 hc h_x3 zlI_1 (by decide) (by decide))⟩ (fun y_1 hy_1 => ?_)
  exact zs_some (zs_inl ⟨⟨trivial, hy_1.1⟩, hy_1.2⟩)
-- BX2_neighbours_42
theorem zc_16 {σ0 : sn_S} {σ : sn_S} (h_σ : zs_C σ0 σ) {x1 : Int32} (h_x1 : zs_in x1.toInt 0 5) {x2 : Int32} {x3 : Int32} (h_x3 : zs_in x3.toInt 0 7) {c : Int} (hc : x3.toInt = c + 0) : zs_ok (BX2_neighbours_42 σ 1 x1 x2 x3) (fun r => zs_sum (fun v => ((True ∧ zs_in (v.2).toInt 1 8)) ∧ v.2.toInt = c + 1) (fun v => False) r) := by
  unfold BX2_neighbours_42
  refine zs_gd (zs_gin (zs_addI 1 15 (zs_mulI 0 14 zlI_2 h_x3 (by decide)) zlI_1 (by decide)) (by decide)) ?_
  refine zs_ite (fun c1 => ?_) (fun c1 => ?_)
  · skip
    have r2 := (zs_I_eq c1)
    have g3 : zs_in ((sn_I σ (1 + 4) (((2 : Int32) * x3) + (1 : Int32)).toNatClampNeg)).toInt 0 5 := (zs_eql 0 5 r2 (zs_topI _) h_x1 (by decide))
    refine zs_gd (zs_gin (zs_mulI 0 14 zlI_2 h_x3 (by decide)) (by decide)) ?_
    refine zs_lt (Q := fun z => True) trivial (fun y_4 hy_4 => ?_)
    obtain ⟨ret, er, hr⟩ := zc_15 h_σ h_x1 h_x3 hc
    refine ⟨ret, er, ?_⟩
    exact (zs_sumw hr (fun v w => ⟨w.1, w.2⟩) (fun v w => w.elim))
  · skip
    have r4 := (zs_I_eqn c1)
    obtain ⟨ret, er, hr⟩ := zc_15 h_σ h_x1 h_x3 hc
    refine ⟨ret, er, ?_⟩
    exact (zs_sumw hr (fun v w => ⟨w.1, w.2⟩) (fun v w => w.elim))
-- BX2_neighbours_4
theorem zc_17 {σ0 : sn_S} {σ : sn_S} (h_σ : zs_C σ0 σ) {x1 : Int32} (h_x1 : zs_in x1.toInt 0 5) {x2 : Int32} {x3 : Int32} (h_x3 : zs_in x3.toInt 0 8) {c : Int} (hc : x3.toInt = c + 0) : zs_ok (BX2_neighbours_4 σ 1 x1 x2 x3) (fun r => zs_sum (fun v => ((True ∧ zs_in (v.2).toInt 1 8)) ∧ v.2.toInt = c + 1) (fun v => True) r) := by
  unfold BX2_neighbours_4
  refine zs_gd (zs_gin zlI_7 (by decide)) ?_
  refine zs_ite (fun c1 => ?_) (fun c1 => ?_)
  · skip
    have r2 := (zs_I_le c1)
    exact zs_some (zs_inr (trivial))
  · skip
    have r3 := (zs_I_len c1)
    have g4 : zs_in (x3).toInt 0 7 := (zs_ltl 0 7 r3 h_x3 (zs_rdk (q := 2) (k := (7 : Int32).toNatClampNeg) (z := (0, 8)) h_σ.1 rfl) (by decide))
    have g5 : zs_in ((sn_I σ (1 + 1) (7 : Int32).toNatClampNeg)).toInt 1 8 := (zs_ltr 1 8 r3 h_x3 (zs_rdk (q := 2) (k := (7 : Int32).toNatClampNeg) (z := (0, 8)) h_σ.1 rfl) (by decide))
    refine zs_gd (zs_gin (zs_mulI 0 14 zlI_2 g4 (by decide)) (by decide)) ?_
    refine zs_ite (fun c6 => ?_) (fun c6 => ?_)
    · skip
      have r7 := (zs_I_eq c6)
      have g8 : zs_in ((sn_I σ (1 + 4) ((2 : Int32) * x3).toNatClampNeg)).toInt 0 5 := (zs_eql 0 5 r7 (zs_topI _) h_x1 (by decide))
      refine zs_gd (zs_gin (zs_addI 1 15 (zs_mulI 0 14 zlI_2 g4 (by decide)) zlI_1 (by decide)) (by decide)) ?_
      refine zs_lt (Q := fun z => True) trivial (fun y_6 hy_6 => ?_)
      obtain ⟨ret, er, hr⟩ := zc_16 h_σ h_x1 g4 hc
      refine ⟨ret, er, ?_⟩
      exact (zs_sumw hr (fun v w => ⟨w.1, w.2⟩) (fun v w => w.elim))
    · skip
      have r9 := (zs_I_eqn c6)
      obtain ⟨ret, er, hr⟩ := zc_16 h_σ h_x1 g4 hc
      refine ⟨ret, er, ?_⟩
      exact (zs_sumw hr (fun v w => ⟨w.1, w.2⟩) (fun v w => w.elim))
theorem zd_1 {σ0 : sn_S} {σ : sn_S} (h_σ : zs_C σ0 σ) {x1 : Int32} (h_x1 : zs_in x1.toInt 0 5) {s0 : (Int32 × Int32)} (h0 : (True ∧ zs_in (s0.2).toInt 0 8)) : zs_ok (sn_it (LX2_neighbours_4 σ 1 x1) 5000 s0) (fun t => True) := by
  refine zs_it (I := fun s => (True ∧ zs_in (s.2).toInt 0 8)) (m := fun s => 8 - s.2.toInt) (fun s hs => ?_) (fun s hs => ?_) (by exact h0)
  · have h1 := hs.2; unfold zs_in at h1
    omega
  · obtain ⟨b, eb, hb⟩ := zc_17 h_σ h_x1 hs.2 (c := s.2.toInt) (Int.add_zero _).symm
    exact ⟨b, eb, zs_sumw hb (fun v w => ⟨⟨w.1.1, (zs_w w.1.2 (by decide))⟩, by have := w.2; omega⟩) (fun v w => w)⟩
-- BX2_neighbours_75
theorem zc_18 {σ0 : sn_S} {σ : sn_S} (h_σ : zs_C σ0 σ) {x2 : Int32} : zs_ok (BX2_neighbours_75 σ 1 x2) (fun r => True) := by
  unfold BX2_neighbours_75
  exact zs_some trivial
-- fX2_neighbours
theorem zc_19 {σ0 : sn_S} {σ : sn_S} (h_σ : zs_C σ0 σ) {x1 : Int32} (h_x1 : zs_in x1.toInt 0 5) : zs_ok (fX2_neighbours σ 1 x1) (fun r => True) := by
  unfold fX2_neighbours
  refine zs_bd_ (zd_1 h_σ h_x1 (s0 := ((0 : Int32), (0 : Int32))) ⟨trivial, (zs_w zlI_0 (by decide))⟩) (fun t_1 pt_1 => ?_)
  obtain ⟨ret, er, hr⟩ := zc_18 h_σ
  refine ⟨ret, er, ?_⟩
  exact hr
-- fX8_beside
theorem zc_20 {σ0 : sn_S} {σ : sn_S} (h_σ : zs_C σ0 σ) {x1 : Int32} : zs_ok (fX8_beside σ x1) (fun r => (True) ∧ ((r).toInt = (-2) ∨ (zs_in (x1).toInt 0 5))) := by
  unfold fX8_beside
  refine zs_bd_ (zc_3 h_σ) (fun t_1 pt_1 => ?_)
  refine zs_ite (fun c1 => ?_) (fun c1 => ?_)
  · skip
    have r2 := (zs_I_eq c1)
    have g3 : zs_in (t_1).toInt 0 0 := (zs_eql 0 0 r2 pt_1.1 zlI_0 (by decide))
    exact zs_some ⟨trivial, Or.inl (zs_ptr zlI_m2)⟩
  · skip
    have r4 := (zs_I_eqn c1)
    have g5 : zs_in (t_1).toInt 1 1 := (zs_nel 1 1 r4 pt_1.1 zlI_0 (by decide))
    have q6 := (zs_or2 pt_1.2 g5 (by decide))
    have g7 : zs_in (x1).toInt 0 5 := q6
    refine zs_bd_ (zc_19 h_σ g7) (fun t_4 pt_4 => ?_)
    exact zs_some ⟨trivial, Or.inr g7⟩
-- fX9_minutes
theorem zc_21 {σ0 : sn_S} {σ : sn_S} (h_σ : zs_M σ0 σ) : zs_ok (fX9_minutes σ) (fun r => zs_in (r).toInt 0 30) := by
  unfold fX9_minutes
  refine zs_gd (zs_gin zlI_0 (by decide)) ?_
  exact zs_some (zs_rdk (q := 1) (k := (0 : Int32).toNatClampNeg) (z := (0, 30)) h_σ.1 rfl)
-- BX9_asItIs_42
theorem zc_22 {σ0 : sn_S} {σ : sn_S} (h_σ : zs_M σ0 σ) {x1 : Int32} (h_x1 : zs_in x1.toInt 0 30) {c : Int} (hc : x1.toInt = c + 0) : zs_ok (BX9_asItIs_42 σ x1) (fun r => zs_sum (fun v => ((zs_M σ0 v.1 ∧ zs_in (v.2).toInt 1 30)) ∧ v.2.toInt = c + 1) (fun v => zs_M σ0 v) r) := by
  unfold BX9_asItIs_42
  refine zs_ite (fun c1 => ?_) (fun c1 => ?_)
  · skip
    have r2 := (zs_I_le c1)
    have g3 : zs_in (x1).toInt 30 30 := (zs_ler 30 30 r2 zlI_30 h_x1 (by decide))
    exact zs_some (zs_inr (h_σ))
  · skip
    have r4 := (zs_I_len c1)
    have g5 : zs_in (x1).toInt 0 29 := (zs_ltl 0 29 r4 h_x1 zlI_30 (by decide))
    refine zs_gd (zs_gin zlI_1 (by decide)) ?_
    refine zs_gd (zs_gin g5 (by decide)) ?_
    refine zs_lt (Q := fun z => zs_M σ0 z) (zs_wrt h_σ (fun _ => rfl) (fun _ => rfl)) (fun σ_4 hσ_4 => ?_)
    refine zs_lt (Q := fun z => zs_in z.toInt 1 30 ∧ z.toInt = c + 1) ⟨(zs_addI 1 30 g5 zlI_1 (by decide)), (zs_syI 1 hc g5 zlI_1 (by decide) (by decide))⟩ (fun y_6 hy_6 => ?_)
    exact zs_some (zs_inl ⟨⟨hσ_4, hy_6.1⟩, hy_6.2⟩)
theorem zd_2 {σ0 : sn_S}  {s0 : (sn_S × Int32)} (h0 : (zs_M σ0 s0.1 ∧ zs_in (s0.2).toInt 0 30)) : zs_ok (sn_it (LX9_asItIs_42) 5000 s0) (fun t => zs_M σ0 t) := by
  refine zs_it (I := fun s => (zs_M σ0 s.1 ∧ zs_in (s.2).toInt 0 30)) (m := fun s => 30 - s.2.toInt) (fun s hs => ?_) (fun s hs => ?_) (by exact h0)
  · have h1 := hs.2; unfold zs_in at h1
    omega
  · obtain ⟨b, eb, hb⟩ := zc_22 hs.1 hs.2 (c := s.2.toInt) (Int.add_zero _).symm
    exact ⟨b, eb, zs_sumw hb (fun v w => ⟨⟨w.1.1, (zs_w w.1.2 (by decide))⟩, by have := w.2; omega⟩) (fun v w => w)⟩
-- BX9_asItIs_68
theorem zc_23 {σ0 : sn_S} {σ : sn_S} (h_σ : zs_M σ0 σ) {x1 : Int32} (h_x1 : zs_in x1.toInt 0 5) {c : Int} (hc : x1.toInt = c + 0) : zs_ok (BX9_asItIs_68 σ x1) (fun r => zs_sum (fun v => ((zs_M σ0 v.1 ∧ zs_in (v.2).toInt 1 5)) ∧ v.2.toInt = c + 1) (fun v => zs_M σ0 v) r) := by
  unfold BX9_asItIs_68
  refine zs_gd (zs_gin zlI_6 (by decide)) ?_
  refine zs_ite (fun c1 => ?_) (fun c1 => ?_)
  · skip
    have r2 := (zs_I_le c1)
    exact zs_some (zs_inr (h_σ))
  · skip
    have r3 := (zs_I_len c1)
    have g4 : zs_in (x1).toInt 0 4 := (zs_ltl 0 4 r3 h_x1 (zs_rdk (q := 1) (k := (6 : Int32).toNatClampNeg) (z := (0, 5)) h_σ.1 rfl) (by decide))
    have g5 : zs_in ((sn_I σ 1 (6 : Int32).toNatClampNeg)).toInt 1 5 := (zs_ltr 1 5 r3 h_x1 (zs_rdk (q := 1) (k := (6 : Int32).toNatClampNeg) (z := (0, 5)) h_σ.1 rfl) (by decide))
    refine zs_gd (zs_gin (zs_addI 24 32 (zs_addI 23 31 zlI_23 (zs_mulI 0 8 zlI_2 g4 (by decide)) (by decide)) zlI_1 (by decide)) (by decide)) ?_
    refine zs_lt (Q := fun z => zs_in z.toInt 0 29) (zs_rdb (q := 1) (lo := 0) (hi := 29) h_σ.1 (zs_cases g4 (fun z => zs_bd (zs_tM 1 (((23 : Int32) + ((2 : Int32) * z)) + (1 : Int32)).toNatClampNeg) 0 29) (by decide +kernel))) (fun y_4 hy_4 => ?_)
    refine zs_gd (zs_gin hy_4 (by decide)) ?_
    refine zs_gd (zs_gin (zs_addI 23 31 zlI_23 (zs_mulI 0 8 zlI_2 g4 (by decide)) (by decide)) (by decide)) ?_
    refine zs_gd (zs_gin hy_4 (by decide)) ?_
    refine zs_lt (Q := fun z => zs_M σ0 z) (zs_wrt h_σ (fun _ => rfl) (fun _ => rfl)) (fun σ_9 hσ_9 => ?_)
    refine zs_lt (Q := fun z => zs_M σ0 z) (zs_wrkt hσ_9 rfl rfl) (fun σ_11 hσ_11 => ?_)
    refine zs_lt (Q := fun z => zs_in z.toInt 1 5 ∧ z.toInt = c + 1) ⟨(zs_addI 1 5 g4 zlI_1 (by decide)), (zs_syI 1 hc g4 zlI_1 (by decide) (by decide))⟩ (fun y_13 hy_13 => ?_)
    exact zs_some (zs_inl ⟨⟨hσ_11, hy_13.1⟩, hy_13.2⟩)
theorem zd_3 {σ0 : sn_S}  {s0 : (sn_S × Int32)} (h0 : (zs_M σ0 s0.1 ∧ zs_in (s0.2).toInt 0 5)) : zs_ok (sn_it (LX9_asItIs_68) 5000 s0) (fun t => zs_M σ0 t) := by
  refine zs_it (I := fun s => (zs_M σ0 s.1 ∧ zs_in (s.2).toInt 0 5)) (m := fun s => 5 - s.2.toInt) (fun s hs => ?_) (fun s hs => ?_) (by exact h0)
  · have h1 := hs.2; unfold zs_in at h1
    omega
  · obtain ⟨b, eb, hb⟩ := zc_23 hs.1 hs.2 (c := s.2.toInt) (Int.add_zero _).symm
    exact ⟨b, eb, zs_sumw hb (fun v w => ⟨⟨w.1.1, (zs_w w.1.2 (by decide))⟩, by have := w.2; omega⟩) (fun v w => w)⟩
-- BX9_asItIs_133
theorem zc_24 {σ0 : sn_S} {σ : sn_S} (h_σ : zs_M σ0 σ) {x1 : Int32} (h_x1 : zs_in x1.toInt 0 6) {c : Int} (hc : x1.toInt = c + 0) : zs_ok (BX9_asItIs_133 σ x1) (fun r => zs_sum (fun v => ((zs_M σ0 v.1 ∧ zs_in (v.2).toInt 1 6)) ∧ v.2.toInt = c + 1) (fun v => zs_M σ0 v) r) := by
  unfold BX9_asItIs_133
  refine zs_ite (fun c1 => ?_) (fun c1 => ?_)
  · skip
    have r2 := (zs_I_le c1)
    have g3 : zs_in (x1).toInt 6 6 := (zs_ler 6 6 r2 zlI_6 h_x1 (by decide))
    exact zs_some (zs_inr (h_σ))
  · skip
    have r4 := (zs_I_len c1)
    have g5 : zs_in (x1).toInt 0 5 := (zs_ltl 0 5 r4 h_x1 zlI_6 (by decide))
    refine zs_gd (zs_gin g5 (by decide)) ?_
    refine zs_lt (Q := fun z => zs_M σ0 z) (zs_wrt h_σ (fun _ => rfl) (fun _ => rfl)) (fun σ_3 hσ_3 => ?_)
    refine zs_gd (zs_gin g5 (by decide)) ?_
    refine zs_lt (Q := fun z => zs_M σ0 z) (zs_wrt hσ_3 (fun _ => rfl) (fun _ => rfl)) (fun σ_6 hσ_6 => ?_)
    refine zs_lt (Q := fun z => zs_in z.toInt 1 6 ∧ z.toInt = c + 1) ⟨(zs_addI 1 6 g5 zlI_1 (by decide)), (zs_syI 1 hc g5 zlI_1 (by decide) (by decide))⟩ (fun y_8 hy_8 => ?_)
    exact zs_some (zs_inl ⟨⟨hσ_6, hy_8.1⟩, hy_8.2⟩)
theorem zd_4 {σ0 : sn_S}  {s0 : (sn_S × Int32)} (h0 : (zs_M σ0 s0.1 ∧ zs_in (s0.2).toInt 0 6)) : zs_ok (sn_it (LX9_asItIs_133) 5000 s0) (fun t => zs_M σ0 t) := by
  refine zs_it (I := fun s => (zs_M σ0 s.1 ∧ zs_in (s.2).toInt 0 6)) (m := fun s => 6 - s.2.toInt) (fun s hs => ?_) (fun s hs => ?_) (by exact h0)
  · have h1 := hs.2; unfold zs_in at h1
    omega
  · obtain ⟨b, eb, hb⟩ := zc_24 hs.1 hs.2 (c := s.2.toInt) (Int.add_zero _).symm
    exact ⟨b, eb, zs_sumw hb (fun v w => ⟨⟨w.1.1, (zs_w w.1.2 (by decide))⟩, by have := w.2; omega⟩) (fun v w => w)⟩
-- BX9_asItIs_232
theorem zc_25 {σ0 : sn_S} {σ : sn_S} (h_σ : zs_M σ0 σ) {x1 : Int32} (h_x1 : zs_in x1.toInt 0 39) {c : Int} (hc : x1.toInt = c + 0) : zs_ok (BX9_asItIs_232 σ x1) (fun r => zs_sum (fun v => ((zs_M σ0 v.1 ∧ zs_in (v.2).toInt 1 40)) ∧ v.2.toInt = c + 1) (fun v => False) r) := by
  unfold BX9_asItIs_232
  refine zs_lt (Q := fun z => zs_in z.toInt 1 40 ∧ z.toInt = c + 1) ⟨(zs_addI 1 40 h_x1 zlI_1 (by decide)), (zs_syI 1 hc h_x1 zlI_1 (by decide) (by decide))⟩ (fun y_1 hy_1 => ?_)
  exact zs_some (zs_inl ⟨⟨h_σ, hy_1.1⟩, hy_1.2⟩)
-- BX9_asItIs_161
theorem zc_26 {σ0 : sn_S} {σ : sn_S} (h_σ : zs_M σ0 σ) {x1 : Int32} (h_x1 : zs_in x1.toInt 0 40) {c : Int} (hc : x1.toInt = c + 0) : zs_ok (BX9_asItIs_161 σ x1) (fun r => zs_sum (fun v => ((zs_M σ0 v.1 ∧ zs_in (v.2).toInt 1 40)) ∧ v.2.toInt = c + 1) (fun v => zs_M σ0 v) r) := by
  unfold BX9_asItIs_161
  refine zs_gd (zs_gin zlI_9 (by decide)) ?_
  refine zs_ite (fun c1 => ?_) (fun c1 => ?_)
  · skip
    have r2 := (zs_I_le c1)
    exact zs_some (zs_inr (h_σ))
  · skip
    have r3 := (zs_I_len c1)
    have g4 : zs_in (x1).toInt 0 39 := (zs_ltl 0 39 r3 h_x1 (zs_rdk (q := 1) (k := (9 : Int32).toNatClampNeg) (z := (0, 40)) h_σ.1 rfl) (by decide))
    have g5 : zs_in ((sn_I σ 1 (9 : Int32).toNatClampNeg)).toInt 1 40 := (zs_ltr 1 40 r3 h_x1 (zs_rdk (q := 1) (k := (9 : Int32).toNatClampNeg) (z := (0, 40)) h_σ.1 rfl) (by decide))
    refine zs_gd (zs_gin (zs_addI 79 118 zlI_79 g4 (by decide)) (by decide)) ?_
    refine zs_lt (Q := fun z => zs_in z.toInt 0 1199) (zs_rdb (q := 1) (lo := 0) (hi := 1199) h_σ.1 (zs_cases g4 (fun z => zs_bd (zs_tM 1 ((79 : Int32) + z).toNatClampNeg) 0 1199) (by decide +kernel))) (fun y_4 hy_4 => ?_)
    refine zs_lt (Q := fun z => zs_in z.toInt 0 5) (zs_divI 0 5 hy_4 zlI_200 (by decide)) (fun y_6 hy_6 => ?_)
    refine zs_lt (Q := fun z => zs_in z.toInt 0 99) (zs_mod 99 (zs_divI 0 599 hy_4 zlI_2 (by decide)) zlI_100 (by decide)) (fun y_8 hy_8 => ?_)
    refine zs_ite (fun c6 => ?_) (fun c6 => ?_)
    · skip
      have r7 := (zs_I_eq c6)
      have g8 : zs_in ((y_4 - ((y_4 / (2 : Int32)) * (2 : Int32)))).toInt 1 1 := (zs_eql 1 1 r7 (zs_mod 1 hy_4 zlI_2 (by decide)) zlI_1 (by decide))
      have g9 : zs_in (y_4).toInt 1 1199 := (zs_sublI 1 1199 hy_4 (zs_mulI 0 1198 (zs_divI 0 599 hy_4 zlI_2 (by decide)) zlI_2 (by decide)) g8 (by decide))
      refine zs_gd (zs_gin hy_6 (by decide)) ?_
      refine zs_gd (zs_gin hy_6 (by decide)) ?_
      refine zs_lt (Q := fun z => zs_M σ0 z) (zs_wrt h_σ (fun _ => rfl) (fun _ => rfl)) (fun σ_17 hσ_17 => ?_)
      obtain ⟨ret, er, hr⟩ := zc_25 hσ_17 g4 hc
      refine ⟨ret, er, ?_⟩
      exact (zs_sumw hr (fun v w => ⟨w.1, w.2⟩) (fun v w => w.elim))
    · skip
      have r10 := (zs_I_eqn c6)
      have g11 : zs_in ((y_4 - ((y_4 / (2 : Int32)) * (2 : Int32)))).toInt 0 0 := (zs_neh 0 0 r10 (zs_mod 1 hy_4 zlI_2 (by decide)) zlI_1 (by decide))
      have g12 : zs_in (y_4).toInt 0 1198 := (zs_sublI 0 1198 hy_4 (zs_mulI 0 1198 (zs_divI 0 599 hy_4 zlI_2 (by decide)) zlI_2 (by decide)) g11 (by decide))
      refine zs_gd (zs_gin hy_6 (by decide)) ?_
      refine zs_gd (zs_gin hy_6 (by decide)) ?_
      refine zs_lt (Q := fun z => zs_M σ0 z) (zs_wrt h_σ (fun _ => rfl) (fun _ => rfl)) (fun σ_13 hσ_13 => ?_)
      obtain ⟨ret, er, hr⟩ := zc_25 hσ_13 g4 hc
      refine ⟨ret, er, ?_⟩
      exact (zs_sumw hr (fun v w => ⟨w.1, w.2⟩) (fun v w => w.elim))
theorem zd_5 {σ0 : sn_S}  {s0 : (sn_S × Int32)} (h0 : (zs_M σ0 s0.1 ∧ zs_in (s0.2).toInt 0 40)) : zs_ok (sn_it (LX9_asItIs_161) 5000 s0) (fun t => zs_M σ0 t) := by
  refine zs_it (I := fun s => (zs_M σ0 s.1 ∧ zs_in (s.2).toInt 0 40)) (m := fun s => 40 - s.2.toInt) (fun s hs => ?_) (fun s hs => ?_) (by exact h0)
  · have h1 := hs.2; unfold zs_in at h1
    omega
  · obtain ⟨b, eb, hb⟩ := zc_26 hs.1 hs.2 (c := s.2.toInt) (Int.add_zero _).symm
    exact ⟨b, eb, zs_sumw hb (fun v w => ⟨⟨w.1.1, (zs_w w.1.2 (by decide))⟩, by have := w.2; omega⟩) (fun v w => w)⟩
-- BX9_asItIs_238
theorem zc_27 {σ0 : sn_S} {σ : sn_S} (h_σ : zs_M σ0 σ) : zs_ok (BX9_asItIs_238 σ) (fun r => zs_M σ0 r) := by
  unfold BX9_asItIs_238
  exact zs_some h_σ
-- BX9_asItIs_159
theorem zc_28 {σ0 : sn_S} {σ : sn_S} (h_σ : zs_M σ0 σ) : zs_ok (BX9_asItIs_159 σ) (fun r => zs_M σ0 r) := by
  unfold BX9_asItIs_159
  refine zs_bd_ (zd_5  (s0 := (σ, (0 : Int32))) ⟨h_σ, (zs_w zlI_0 (by decide))⟩) (fun t_1 pt_1 => ?_)
  obtain ⟨ret, er, hr⟩ := zc_27 pt_1
  refine ⟨ret, er, ?_⟩
  exact hr
-- BX9_asItIs_131
theorem zc_29 {σ0 : sn_S} {σ : sn_S} (h_σ : zs_M σ0 σ) : zs_ok (BX9_asItIs_131 σ) (fun r => zs_M σ0 r) := by
  unfold BX9_asItIs_131
  refine zs_bd_ (zd_4  (s0 := (σ, (0 : Int32))) ⟨h_σ, (zs_w zlI_0 (by decide))⟩) (fun t_1 pt_1 => ?_)
  obtain ⟨ret, er, hr⟩ := zc_28 pt_1
  refine ⟨ret, er, ?_⟩
  exact hr
-- BX9_asItIs_66
theorem zc_30 {σ0 : sn_S} {σ : sn_S} (h_σ : zs_M σ0 σ) : zs_ok (BX9_asItIs_66 σ) (fun r => zs_M σ0 r) := by
  unfold BX9_asItIs_66
  refine zs_bd_ (zd_3  (s0 := (σ, (0 : Int32))) ⟨h_σ, (zs_w zlI_0 (by decide))⟩) (fun t_1 pt_1 => ?_)
  obtain ⟨ret, er, hr⟩ := zc_29 pt_1
  refine ⟨ret, er, ?_⟩
  exact hr
-- fX9_asItIs
theorem zc_31 {σ0 : sn_S} {σ : sn_S} (h_σ : zs_M σ0 σ) : zs_ok (fX9_asItIs σ) (fun r => zs_M σ0 r) := by
  unfold fX9_asItIs
  refine zs_lt (Q := fun z => zs_M σ0 z) (zs_wrkt h_σ rfl rfl) (fun σ_1 hσ_1 => ?_)
  refine zs_lt (Q := fun z => zs_M σ0 z) (zs_wrkt hσ_1 rfl rfl) (fun σ_3 hσ_3 => ?_)
  refine zs_gd (zs_gin zlI_2 (by decide)) ?_
  refine zs_lt (Q := fun z => zs_M σ0 z) (zs_wrkt hσ_3 rfl rfl) (fun σ_6 hσ_6 => ?_)
  refine zs_gd (zs_gin zlI_3 (by decide)) ?_
  refine zs_lt (Q := fun z => zs_M σ0 z) (zs_wrk (z := (0, 1000)) hσ_6 rfl (zs_rdk (q := 1) (k := (3 : Int32).toNatClampNeg) (z := (0, 999)) hσ_6.1 rfl) (by decide) rfl) (fun σ_9 hσ_9 => ?_)
  refine zs_bd_ (zc_21 hσ_9) (fun t_11 pt_11 => ?_)
  refine zs_lt (Q := fun z => zs_M σ0 z) (zs_wrk (z := ((-1), 29)) hσ_9 rfl (zs_subI (-1) 29 pt_11 zlI_1 (by decide)) (by decide) rfl) (fun σ_13 hσ_13 => ?_)
  refine zs_bd_ (zd_2  (s0 := (σ_13, (0 : Int32))) ⟨hσ_13, (zs_w zlI_0 (by decide))⟩) (fun t_15 pt_15 => ?_)
  obtain ⟨ret, er, hr⟩ := zc_30 pt_15
  refine ⟨ret, er, ?_⟩
  exact hr
-- BX9_netsTo_91
theorem zc_32 {σ0 : sn_S} {σ : sn_S} (h_σ : zs_M σ0 σ) {x1 : Int32} (h_x1 : zs_in x1.toInt 0 5) {x2 : Int32} (h_x2 : zs_in x2.toInt 1 32) {x3 : Int32} {x4 : Int32} (h_x4 : zs_in x4.toInt 0 7) {c : Int} (hc : x4.toInt = c + 0) : zs_ok (BX9_netsTo_91 σ x1 x2 x3 x4) (fun r => zs_sum (fun v => ((True ∧ zs_in (v.2).toInt 1 8)) ∧ v.2.toInt = c + 1) (fun v => False) r) := by
  unfold BX9_netsTo_91
  refine zs_lt (Q := fun z => zs_in z.toInt 1 8 ∧ z.toInt = c + 1) ⟨(zs_addI 1 8 h_x4 zlI_1 (by decide)), (zs_syI 1 hc h_x4 zlI_1 (by decide) (by decide))⟩ (fun y_1 hy_1 => ?_)
  exact zs_some (zs_inl ⟨⟨trivial, hy_1.1⟩, hy_1.2⟩)
-- fX9_bit
theorem zc_33 {x0 : Int32} (h_x0 : zs_in x0.toInt 1 32) {x1 : Int32} (h_x1 : zs_in x1.toInt 0 5) : zs_ok (fX9_bit x0 x1) (fun r => zs_in (r).toInt 0 1) := by
  unfold fX9_bit
  exact zs_some (zs_and zlI_1 (by decide))
-- BX9_netsTo_88
theorem zc_34 {σ0 : sn_S} {σ : sn_S} (h_σ : zs_M σ0 σ) {x1 : Int32} (h_x1 : zs_in x1.toInt 0 5) {x2 : Int32} (h_x2 : zs_in x2.toInt 1 32) {x3 : Int32} {x4 : Int32} (h_x4 : zs_in x4.toInt 0 7) {c : Int} (hc : x4.toInt = c + 0) : zs_ok (BX9_netsTo_88 σ x1 x2 x3 x4) (fun r => zs_sum (fun v => ((True ∧ zs_in (v.2).toInt 1 8)) ∧ v.2.toInt = c + 1) (fun v => False) r) := by
  unfold BX9_netsTo_88
  refine zs_lt (Q := fun z => True) trivial (fun y_1 hy_1 => ?_)
  obtain ⟨ret, er, hr⟩ := zc_32 h_σ h_x1 h_x2 h_x4 hc
  refine ⟨ret, er, ?_⟩
  exact (zs_sumw hr (fun v w => ⟨w.1, w.2⟩) (fun v w => w.elim))
-- BX9_netsTo_72
theorem zc_35 {σ0 : sn_S} {σ : sn_S} (h_σ : zs_M σ0 σ) {x1 : Int32} (h_x1 : zs_in x1.toInt 0 5) {x2 : Int32} (h_x2 : zs_in x2.toInt 1 32) {x3 : Int32} {x4 : Int32} (h_x4 : zs_in x4.toInt 0 7) {x5 : Int32} (h_x5 : zs_in x5.toInt 0 5) {x6 : Int32} (h_x6 : zs_in x6.toInt 0 5) {c : Int} (hc : x4.toInt = c + 0) : zs_ok (BX9_netsTo_72 σ x1 x2 x3 x4 x5 x6) (fun r => zs_sum (fun v => ((True ∧ zs_in (v.2).toInt 1 8)) ∧ v.2.toInt = c + 1) (fun v => False) r) := by
  unfold BX9_netsTo_72
  refine zs_ite (fun c1 => ?_) (fun c1 => ?_)
  · skip
    have r2 := (zs_I_eq c1)
    refine zs_bd_ (zc_33 h_x2 h_x5) (fun t_2 pt_2 => ?_)
    refine zs_ite (fun c3 => ?_) (fun c3 => ?_)
    · skip
      have r4 := (zs_I_eq c3)
      have g5 : zs_in (t_2).toInt 1 1 := (zs_eql 1 1 r4 pt_2 zlI_1 (by decide))
      obtain ⟨ret, er, hr⟩ := zc_34 h_σ h_x1 h_x2 h_x4 hc
      refine ⟨ret, er, ?_⟩
      exact (zs_sumw hr (fun v w => ⟨w.1, w.2⟩) (fun v w => w.elim))
    · skip
      have r6 := (zs_I_eqn c3)
      have g7 : zs_in (t_2).toInt 0 0 := (zs_neh 0 0 r6 pt_2 zlI_1 (by decide))
      obtain ⟨ret, er, hr⟩ := zc_32 h_σ h_x1 h_x2 h_x4 hc
      refine ⟨ret, er, ?_⟩
      exact (zs_sumw hr (fun v w => ⟨w.1, w.2⟩) (fun v w => w.elim))
  · skip
    have r8 := (zs_I_eqn c1)
    obtain ⟨ret, er, hr⟩ := zc_32 h_σ h_x1 h_x2 h_x4 hc
    refine ⟨ret, er, ?_⟩
    exact (zs_sumw hr (fun v w => ⟨w.1, w.2⟩) (fun v w => w.elim))
-- BX9_netsTo_5
theorem zc_36 {σ0 : sn_S} {σ : sn_S} (h_σ : zs_M σ0 σ) {x1 : Int32} (h_x1 : zs_in x1.toInt 0 5) {x2 : Int32} (h_x2 : zs_in x2.toInt 1 32) {x3 : Int32} {x4 : Int32} (h_x4 : zs_in x4.toInt 0 8) {c : Int} (hc : x4.toInt = c + 0) : zs_ok (BX9_netsTo_5 σ x1 x2 x3 x4) (fun r => zs_sum (fun v => ((True ∧ zs_in (v.2).toInt 1 8)) ∧ v.2.toInt = c + 1) (fun v => True) r) := by
  unfold BX9_netsTo_5
  refine zs_gd (zs_gin zlI_7 (by decide)) ?_
  refine zs_ite (fun c1 => ?_) (fun c1 => ?_)
  · skip
    have r2 := (zs_I_le c1)
    exact zs_some (zs_inr (trivial))
  · skip
    have r3 := (zs_I_len c1)
    have g4 : zs_in (x4).toInt 0 7 := (zs_ltl 0 7 r3 h_x4 (zs_rdk (q := 1) (k := (7 : Int32).toNatClampNeg) (z := (0, 8)) h_σ.1 rfl) (by decide))
    have g5 : zs_in ((sn_I σ 1 (7 : Int32).toNatClampNeg)).toInt 1 8 := (zs_ltr 1 8 r3 h_x4 (zs_rdk (q := 1) (k := (7 : Int32).toNatClampNeg) (z := (0, 8)) h_σ.1 rfl) (by decide))
    refine zs_gd (zs_gin (zs_addI 33 47 zlI_33 (zs_mulI 0 14 zlI_2 g4 (by decide)) (by decide)) (by decide)) ?_
    refine zs_lt (Q := fun z => zs_in z.toInt 0 5) (zs_rdb (q := 1) (lo := 0) (hi := 5) h_σ.1 (zs_cases g4 (fun z => zs_bd (zs_tM 1 ((33 : Int32) + ((2 : Int32) * z)).toNatClampNeg) 0 5) (by decide +kernel))) (fun y_4 hy_4 => ?_)
    refine zs_gd (zs_gin (zs_addI 34 48 (zs_addI 33 47 zlI_33 (zs_mulI 0 14 zlI_2 g4 (by decide)) (by decide)) zlI_1 (by decide)) (by decide)) ?_
    refine zs_lt (Q := fun z => zs_in z.toInt 0 5) (zs_rdb (q := 1) (lo := 0) (hi := 5) h_σ.1 (zs_cases g4 (fun z => zs_bd (zs_tM 1 (((33 : Int32) + ((2 : Int32) * z)) + (1 : Int32)).toNatClampNeg) 0 5) (by decide +kernel))) (fun y_7 hy_7 => ?_)
    refine zs_ite (fun c6 => ?_) (fun c6 => ?_)
    · skip
      have r7 := (zs_I_eq c6)
      have g8 : zs_in ((sn_I σ 0 19)).toInt 0 7 := (zs_eqr 0 7 r7 g4 (zs_topI _) (by decide))
      obtain ⟨ret, er, hr⟩ := zc_32 h_σ h_x1 h_x2 g4 hc
      refine ⟨ret, er, ?_⟩
      exact (zs_sumw hr (fun v w => ⟨w.1, w.2⟩) (fun v w => w.elim))
    · skip
      have r9 := (zs_I_eqn c6)
      refine zs_ite (fun c10 => ?_) (fun c10 => ?_)
      · skip
        have r11 := (zs_I_eq c10)
        refine zs_bd_ (zc_33 h_x2 hy_7) (fun t_11 pt_11 => ?_)
        refine zs_ite (fun c12 => ?_) (fun c12 => ?_)
        · skip
          have r13 := (zs_I_eq c12)
          have g14 : zs_in (t_11).toInt 1 1 := (zs_eql 1 1 r13 pt_11 zlI_1 (by decide))
          obtain ⟨ret, er, hr⟩ := zc_34 h_σ h_x1 h_x2 g4 hc
          refine ⟨ret, er, ?_⟩
          exact (zs_sumw hr (fun v w => ⟨w.1, w.2⟩) (fun v w => w.elim))
        · skip
          have r15 := (zs_I_eqn c12)
          have g16 : zs_in (t_11).toInt 0 0 := (zs_neh 0 0 r15 pt_11 zlI_1 (by decide))
          obtain ⟨ret, er, hr⟩ := zc_35 h_σ h_x1 h_x2 g4 hy_4 hy_7 hc
          refine ⟨ret, er, ?_⟩
          exact (zs_sumw hr (fun v w => ⟨w.1, w.2⟩) (fun v w => w.elim))
      · skip
        have r17 := (zs_I_eqn c10)
        obtain ⟨ret, er, hr⟩ := zc_35 h_σ h_x1 h_x2 g4 hy_4 hy_7 hc
        refine ⟨ret, er, ?_⟩
        exact (zs_sumw hr (fun v w => ⟨w.1, w.2⟩) (fun v w => w.elim))
theorem zd_6 {σ0 : sn_S} {σ : sn_S} (h_σ : zs_M σ0 σ) {x1 : Int32} (h_x1 : zs_in x1.toInt 0 5) {x2 : Int32} (h_x2 : zs_in x2.toInt 1 32) {s0 : (Int32 × Int32)} (h0 : (True ∧ zs_in (s0.2).toInt 0 8)) : zs_ok (sn_it (LX9_netsTo_5 σ x1 x2) 5000 s0) (fun t => True) := by
  refine zs_it (I := fun s => (True ∧ zs_in (s.2).toInt 0 8)) (m := fun s => 8 - s.2.toInt) (fun s hs => ?_) (fun s hs => ?_) (by exact h0)
  · have h1 := hs.2; unfold zs_in at h1
    omega
  · obtain ⟨b, eb, hb⟩ := zc_36 h_σ h_x1 h_x2 hs.2 (c := s.2.toInt) (Int.add_zero _).symm
    exact ⟨b, eb, zs_sumw hb (fun v w => ⟨⟨w.1.1, (zs_w w.1.2 (by decide))⟩, by have := w.2; omega⟩) (fun v w => w)⟩
-- BX9_netsTo_97
theorem zc_37 {σ0 : sn_S} {σ : sn_S} (h_σ : zs_M σ0 σ) {x3 : Int32} : zs_ok (BX9_netsTo_97 σ x3) (fun r => True) := by
  unfold BX9_netsTo_97
  exact zs_some trivial
-- fX9_netsTo
theorem zc_38 {σ0 : sn_S} {σ : sn_S} (h_σ : zs_M σ0 σ) {x1 : Int32} (h_x1 : zs_in x1.toInt 0 5) {x2 : Int32} (h_x2 : zs_in x2.toInt 1 32) : zs_ok (fX9_netsTo σ x1 x2) (fun r => True) := by
  unfold fX9_netsTo
  refine zs_bd_ (zd_6 h_σ h_x1 h_x2 (s0 := ((0 : Int32), (0 : Int32))) ⟨trivial, (zs_w zlI_0 (by decide))⟩) (fun t_1 pt_1 => ?_)
  obtain ⟨ret, er, hr⟩ := zc_37 h_σ
  refine ⟨ret, er, ?_⟩
  exact hr
-- BX9_beside_49
theorem zc_39 {σ0 : sn_S} {σ : sn_S} (h_σ : zs_M σ0 σ) {x1 : Int32} (h_x1 : zs_in x1.toInt 0 5) {x2 : Int32} {x3 : Int32} (h_x3 : zs_in x3.toInt 0 5) {t0 : Int32} {t1 : Int32} (h_t1 : zs_in t1.toInt 0 0) {c : Int} (hc : x3.toInt = c + 0) : zs_ok (BX9_beside_49 σ x1 x2 x3 t0 t1) (fun r => zs_sum (fun v => ((True ∧ zs_in (v.2).toInt 1 6)) ∧ v.2.toInt = c + 1) (fun v => False) r) := by
  unfold BX9_beside_49
  obtain rfl : t1 = (0 : Int32) := zs_eqv h_t1 (by decide)
  refine zs_lt (Q := fun z => True) trivial (fun y_1 hy_1 => ?_)
  refine zs_lt (Q := fun z => zs_in z.toInt 1 6 ∧ z.toInt = c + 1) ⟨(zs_addI 1 6 h_x3 zlI_1 (by decide)), (zs_syI 1 hc h_x3 zlI_1 (by decide) (by decide))⟩ (fun y_3 hy_3 => ?_)
  exact zs_some (zs_inl ⟨⟨trivial, hy_3.1⟩, hy_3.2⟩)
-- BX9_beside_49
theorem zc_40 {σ0 : sn_S} {σ : sn_S} (h_σ : zs_M σ0 σ) {x1 : Int32} (h_x1 : zs_in x1.toInt 0 5) {x2 : Int32} {x3 : Int32} (h_x3 : zs_in x3.toInt 0 5) {t0 : Int32} {t1 : Int32} (h_t1 : zs_in t1.toInt 1 32) {c : Int} (hc : x3.toInt = c + 0) : zs_ok (BX9_beside_49 σ x1 x2 x3 t0 t1) (fun r => zs_sum (fun v => ((True ∧ zs_in (v.2).toInt 1 6)) ∧ v.2.toInt = c + 1) (fun v => False) r) := by
  unfold BX9_beside_49
  refine zs_lt (Q := fun z => True) trivial (fun y_1 hy_1 => ?_)
  refine zs_lt (Q := fun z => zs_in z.toInt 1 6 ∧ z.toInt = c + 1) ⟨(zs_addI 1 6 h_x3 zlI_1 (by decide)), (zs_syI 1 hc h_x3 zlI_1 (by decide) (by decide))⟩ (fun y_3 hy_3 => ?_)
  exact zs_some (zs_inl ⟨⟨trivial, hy_3.1⟩, hy_3.2⟩)
-- BX9_beside_20
theorem zc_41 {σ0 : sn_S} {σ : sn_S} (h_σ : zs_M σ0 σ) {x1 : Int32} (h_x1 : zs_in x1.toInt 0 5) {x2 : Int32} {x3 : Int32} (h_x3 : zs_in x3.toInt 0 6) {c : Int} (hc : x3.toInt = c + 0) : zs_ok (BX9_beside_20 σ x1 x2 x3) (fun r => zs_sum (fun v => ((True ∧ zs_in (v.2).toInt 1 6)) ∧ v.2.toInt = c + 1) (fun v => True) r) := by
  unfold BX9_beside_20
  refine zs_gd (zs_gin zlI_5 (by decide)) ?_
  refine zs_ite (fun c1 => ?_) (fun c1 => ?_)
  · skip
    have r2 := (zs_I_le c1)
    exact zs_some (zs_inr (trivial))
  · skip
    have r3 := (zs_I_len c1)
    have g4 : zs_in (x3).toInt 0 5 := (zs_ltl 0 5 r3 h_x3 (zs_rdk (q := 1) (k := (5 : Int32).toNatClampNeg) (z := (0, 6)) h_σ.1 rfl) (by decide))
    have g5 : zs_in ((sn_I σ 1 (5 : Int32).toNatClampNeg)).toInt 1 6 := (zs_ltr 1 6 r3 h_x3 (zs_rdk (q := 1) (k := (5 : Int32).toNatClampNeg) (z := (0, 6)) h_σ.1 rfl) (by decide))
    refine zs_bd_ (zc_38 h_σ h_x1 (zs_cases g4 (fun z => zs_in ((1 : Int32) <<< (z &&& 31)).toInt 1 32) (by decide +kernel))) (fun t_3 pt_3 => ?_)
    refine zs_ite (fun c6 => ?_) (fun c6 => ?_)
    · skip
      have r7 := (zs_I_le c6)
      have g8 : zs_in (t_3).toInt (-2147483648) 0 := (zs_lel (-2147483648) 0 r7 (zs_topI _) zlI_0 (by decide))
      obtain ⟨ret, er, hr⟩ := zc_39 h_σ h_x1 g4 zlI_0 hc
      refine ⟨ret, er, ?_⟩
      exact (zs_sumw hr (fun v w => ⟨w.1, w.2⟩) (fun v w => w.elim))
    · skip
      have r9 := (zs_I_len c6)
      have g10 : zs_in (t_3).toInt 1 2147483647 := (zs_ltr 1 2147483647 r9 zlI_0 (zs_topI _) (by decide))
      obtain ⟨ret, er, hr⟩ := zc_40 h_σ h_x1 g4 (zs_cases g4 (fun z => zs_in ((1 : Int32) <<< (z &&& 31)).toInt 1 32) (by decide +kernel)) hc
      refine ⟨ret, er, ?_⟩
      exact (zs_sumw hr (fun v w => ⟨w.1, w.2⟩) (fun v w => w.elim))
theorem zd_7 {σ0 : sn_S} {σ : sn_S} (h_σ : zs_M σ0 σ) {x1 : Int32} (h_x1 : zs_in x1.toInt 0 5) {s0 : (Int32 × Int32)} (h0 : (True ∧ zs_in (s0.2).toInt 0 6)) : zs_ok (sn_it (LX9_beside_20 σ x1) 5000 s0) (fun t => True) := by
  refine zs_it (I := fun s => (True ∧ zs_in (s.2).toInt 0 6)) (m := fun s => 6 - s.2.toInt) (fun s hs => ?_) (fun s hs => ?_) (by exact h0)
  · have h1 := hs.2; unfold zs_in at h1
    omega
  · obtain ⟨b, eb, hb⟩ := zc_41 h_σ h_x1 hs.2 (c := s.2.toInt) (Int.add_zero _).symm
    exact ⟨b, eb, zs_sumw hb (fun v w => ⟨⟨w.1.1, (zs_w w.1.2 (by decide))⟩, by have := w.2; omega⟩) (fun v w => w)⟩
-- BX9_beside_57
theorem zc_42 {σ0 : sn_S} {σ : sn_S} (h_σ : zs_M σ0 σ) {x2 : Int32} : zs_ok (BX9_beside_57 σ x2) (fun r => (True ∧ zs_M σ0 r.2)) := by
  unfold BX9_beside_57
  exact zs_some ⟨trivial, h_σ⟩
-- fX9_beside
theorem zc_43 {σ0 : sn_S} {σ : sn_S} (h_σ : zs_M σ0 σ) {x1 : Int32} : zs_ok (fX9_beside σ x1) (fun r => ((True ∧ zs_M σ0 r.2)) ∧ ((r.1).toInt = (-2) ∨ (zs_in (x1).toInt 0 5))) := by
  unfold fX9_beside
  refine zs_bd_ (zc_31 h_σ) (fun t_1 pt_1 => ?_)
  refine zs_bd_ (zc_6 pt_1 (zs_64 (zs_topI _))) (fun t_3 pt_3 => ?_)
  refine zs_ite (fun c1 => ?_) (fun c1 => ?_)
  · skip
    have r2 := (zs_I_eq c1)
    have g3 : zs_in (t_3).toInt 0 0 := (zs_eql 0 0 r2 pt_3.1 zlI_0 (by decide))
    exact zs_some ⟨⟨trivial, pt_1⟩, Or.inl (zs_ptr zlI_m2)⟩
  · skip
    have r4 := (zs_I_eqn c1)
    have g5 : zs_in (t_3).toInt 1 1 := (zs_nel 1 1 r4 pt_3.1 zlI_0 (by decide))
    have q6 := (zs_or2 pt_3.2 g5 (by decide))
    have g7 : zs_in (x1.toInt64).toInt 0 5 := q6
    have g8 : zs_in (x1).toInt 0 5 := (zs_64r g7)
    refine zs_bd_ (zd_7 pt_1 g8 (s0 := ((0 : Int32), (0 : Int32))) ⟨trivial, (zs_w zlI_0 (by decide))⟩) (fun t_6 pt_6 => ?_)
    obtain ⟨ret, er, hr⟩ := zc_42 pt_1
    refine ⟨ret, er, ?_⟩
    exact ⟨hr, Or.inr g8⟩
-- fX8_isMinute
theorem zc_44 {σ0 : sn_S} {σ : sn_S} (h_σ : zs_C σ0 σ) {x1 : Int32} : zs_ok (fX8_isMinute σ x1) (fun r => (zs_in (r).toInt 0 1) ∧ ((r).toInt = 0 ∨ (zs_in (x1).toInt 0 29))) := by
  unfold fX8_isMinute
  refine zs_ite (fun c1 => ?_) (fun c1 => ?_)
  · skip
    have r2 := (zs_I_lt c1)
    have g3 : zs_in (x1).toInt (-2147483648) (-1) := (zs_ltl (-2147483648) (-1) r2 (zs_topI _) zlI_0 (by decide))
    refine zs_gd (zs_b01 zlI_0 (by decide)) ?_
    exact zs_some ⟨(zs_w zlI_0 (by decide)), Or.inl (zs_ptr zlI_0)⟩
  · skip
    have r4 := (zs_I_ltn c1)
    have g5 : zs_in (x1).toInt 0 2147483647 := (zs_ler 0 2147483647 r4 zlI_0 (zs_topI _) (by decide))
    refine zs_gd (zs_gin zlI_0 (by decide)) ?_
    refine zs_ite (fun c6 => ?_) (fun c6 => ?_)
    · skip
      have r7 := (zs_I_le c6)
      refine zs_gd (zs_b01 zlI_0 (by decide)) ?_
      exact zs_some ⟨(zs_w zlI_0 (by decide)), Or.inl (zs_ptr zlI_0)⟩
    · skip
      have r8 := (zs_I_len c6)
      have g9 : zs_in (x1).toInt 0 29 := (zs_ltl 0 29 r8 g5 (zs_rdk (q := 2) (k := (0 : Int32).toNatClampNeg) (z := (0, 30)) h_σ.1 rfl) (by decide))
      have g10 : zs_in ((sn_I σ (1 + 1) (0 : Int32).toNatClampNeg)).toInt 1 30 := (zs_ltr 1 30 r8 g5 (zs_rdk (q := 2) (k := (0 : Int32).toNatClampNeg) (z := (0, 30)) h_σ.1 rfl) (by decide))
      refine zs_gd (zs_b01 zlI_1 (by decide)) ?_
      exact zs_some ⟨(zs_w zlI_1 (by decide)), Or.inr g9⟩
-- fX8_dust
theorem zc_45 {σ0 : sn_S} {σ : sn_S} (h_σ : zs_C σ0 σ) {x1 : Int32} : zs_ok (fX8_dust σ x1) (fun r => (True) ∧ ((r).toInt = (-2) ∨ (zs_in (x1).toInt 0 29))) := by
  unfold fX8_dust
  refine zs_bd_ (zc_44 h_σ) (fun t_1 pt_1 => ?_)
  refine zs_ite (fun c1 => ?_) (fun c1 => ?_)
  · skip
    have r2 := (zs_I_eq c1)
    have g3 : zs_in (t_1).toInt 0 0 := (zs_eql 0 0 r2 pt_1.1 zlI_0 (by decide))
    exact zs_some ⟨trivial, Or.inl (zs_ptr zlI_m2)⟩
  · skip
    have r4 := (zs_I_eqn c1)
    have g5 : zs_in (t_1).toInt 1 1 := (zs_nel 1 1 r4 pt_1.1 zlI_0 (by decide))
    have q6 := (zs_or2 pt_1.2 g5 (by decide))
    have g7 : zs_in (x1).toInt 0 29 := q6
    refine zs_gd (zs_gin g7 (by decide)) ?_
    exact zs_some ⟨trivial, Or.inr g7⟩
-- BX9_goAll_2
theorem zc_46 {σ0 : sn_S} {σ : sn_S} (h_σ : zs_M σ0 σ) {x1 : Int32} (h_x1 : zs_in x1.toInt 0 6) {c : Int} (hc : x1.toInt = c + 0) : zs_ok (BX9_goAll_2 σ x1) (fun r => zs_sum (fun v => ((zs_M σ0 v.1 ∧ zs_in (v.2).toInt 1 6)) ∧ v.2.toInt = c + 1) (fun v => zs_M σ0 v) r) := by
  unfold BX9_goAll_2
  refine zs_ite (fun c1 => ?_) (fun c1 => ?_)
  · skip
    have r2 := (zs_I_le c1)
    have g3 : zs_in (x1).toInt 6 6 := (zs_ler 6 6 r2 zlI_6 h_x1 (by decide))
    exact zs_some (zs_inr (h_σ))
  · skip
    have r4 := (zs_I_len c1)
    have g5 : zs_in (x1).toInt 0 5 := (zs_ltl 0 5 r4 h_x1 zlI_6 (by decide))
    refine zs_gd (zs_gin g5 (by decide)) ?_
    refine zs_lt (Q := fun z => zs_M σ0 z) (zs_wru (z := (0, 1073741823)) h_σ (fun _ => rfl) zlI_0 (by decide) (fun _ => rfl)) (fun σ_3 hσ_3 => ?_)
    refine zs_gd (zs_gin g5 (by decide)) ?_
    refine zs_lt (Q := fun z => zs_M σ0 z) (zs_wrt hσ_3 (fun _ => rfl) (fun _ => rfl)) (fun σ_6 hσ_6 => ?_)
    refine zs_lt (Q := fun z => zs_in z.toInt 1 6 ∧ z.toInt = c + 1) ⟨(zs_addI 1 6 g5 zlI_1 (by decide)), (zs_syI 1 hc g5 zlI_1 (by decide) (by decide))⟩ (fun y_8 hy_8 => ?_)
    exact zs_some (zs_inl ⟨⟨hσ_6, hy_8.1⟩, hy_8.2⟩)
theorem zd_8 {σ0 : sn_S}  {s0 : (sn_S × Int32)} (h0 : (zs_M σ0 s0.1 ∧ zs_in (s0.2).toInt 0 6)) : zs_ok (sn_it (LX9_goAll_2) 5000 s0) (fun t => zs_M σ0 t) := by
  refine zs_it (I := fun s => (zs_M σ0 s.1 ∧ zs_in (s.2).toInt 0 6)) (m := fun s => 6 - s.2.toInt) (fun s hs => ?_) (fun s hs => ?_) (by exact h0)
  · have h1 := hs.2; unfold zs_in at h1
    omega
  · obtain ⟨b, eb, hb⟩ := zc_46 hs.1 hs.2 (c := s.2.toInt) (Int.add_zero _).symm
    exact ⟨b, eb, zs_sumw hb (fun v w => ⟨⟨w.1.1, (zs_w w.1.2 (by decide))⟩, by have := w.2; omega⟩) (fun v w => w)⟩
-- BX9_netsTo_91
theorem zc_47 {σ0 : sn_S} {σ : sn_S} (h_σ : zs_M σ0 σ) {x1 : Int32} (h_x1 : zs_in x1.toInt 0 5) {x2 : Int32} (h_x2 : zs_in x2.toInt 0 0) {x3 : Int32} {x4 : Int32} (h_x4 : zs_in x4.toInt 0 7) {c : Int} (hc : x4.toInt = c + 0) : zs_ok (BX9_netsTo_91 σ x1 x2 x3 x4) (fun r => zs_sum (fun v => ((True ∧ zs_in (v.2).toInt 1 8)) ∧ v.2.toInt = c + 1) (fun v => False) r) := by
  unfold BX9_netsTo_91
  obtain rfl : x2 = (0 : Int32) := zs_eqv h_x2 (by decide)
  refine zs_lt (Q := fun z => zs_in z.toInt 1 8 ∧ z.toInt = c + 1) ⟨(zs_addI 1 8 h_x4 zlI_1 (by decide)), (zs_syI 1 hc h_x4 zlI_1 (by decide) (by decide))⟩ (fun y_1 hy_1 => ?_)
  exact zs_some (zs_inl ⟨⟨trivial, hy_1.1⟩, hy_1.2⟩)
-- fX9_bit
theorem zc_48 {x0 : Int32} (h_x0 : zs_in x0.toInt 0 0) {x1 : Int32} (h_x1 : zs_in x1.toInt 0 5) : zs_ok (fX9_bit x0 x1) (fun r => zs_in (r).toInt 0 1) := by
  unfold fX9_bit
  obtain rfl : x0 = (0 : Int32) := zs_eqv h_x0 (by decide)
  exact zs_some (zs_and zlI_1 (by decide))
-- BX9_netsTo_88
theorem zc_49 {σ0 : sn_S} {σ : sn_S} (h_σ : zs_M σ0 σ) {x1 : Int32} (h_x1 : zs_in x1.toInt 0 5) {x2 : Int32} (h_x2 : zs_in x2.toInt 0 0) {x3 : Int32} {x4 : Int32} (h_x4 : zs_in x4.toInt 0 7) {c : Int} (hc : x4.toInt = c + 0) : zs_ok (BX9_netsTo_88 σ x1 x2 x3 x4) (fun r => zs_sum (fun v => ((True ∧ zs_in (v.2).toInt 1 8)) ∧ v.2.toInt = c + 1) (fun v => False) r) := by
  unfold BX9_netsTo_88
  obtain rfl : x2 = (0 : Int32) := zs_eqv h_x2 (by decide)
  refine zs_lt (Q := fun z => True) trivial (fun y_1 hy_1 => ?_)
  obtain ⟨ret, er, hr⟩ := zc_47 h_σ h_x1 h_x2 h_x4 hc
  refine ⟨ret, er, ?_⟩
  exact (zs_sumw hr (fun v w => ⟨w.1, w.2⟩) (fun v w => w.elim))
-- BX9_netsTo_72
theorem zc_50 {σ0 : sn_S} {σ : sn_S} (h_σ : zs_M σ0 σ) {x1 : Int32} (h_x1 : zs_in x1.toInt 0 5) {x2 : Int32} (h_x2 : zs_in x2.toInt 0 0) {x3 : Int32} {x4 : Int32} (h_x4 : zs_in x4.toInt 0 7) {x5 : Int32} (h_x5 : zs_in x5.toInt 0 5) {x6 : Int32} (h_x6 : zs_in x6.toInt 0 5) {c : Int} (hc : x4.toInt = c + 0) : zs_ok (BX9_netsTo_72 σ x1 x2 x3 x4 x5 x6) (fun r => zs_sum (fun v => ((True ∧ zs_in (v.2).toInt 1 8)) ∧ v.2.toInt = c + 1) (fun v => False) r) := by
  unfold BX9_netsTo_72
  obtain rfl : x2 = (0 : Int32) := zs_eqv h_x2 (by decide)
  refine zs_ite (fun c1 => ?_) (fun c1 => ?_)
  · skip
    have r2 := (zs_I_eq c1)
    refine zs_bd_ (zc_48 h_x2 h_x5) (fun t_2 pt_2 => ?_)
    refine zs_ite (fun c3 => ?_) (fun c3 => ?_)
    · skip
      have r4 := (zs_I_eq c3)
      have g5 : zs_in (t_2).toInt 1 1 := (zs_eql 1 1 r4 pt_2 zlI_1 (by decide))
      obtain ⟨ret, er, hr⟩ := zc_49 h_σ h_x1 h_x2 h_x4 hc
      refine ⟨ret, er, ?_⟩
      exact (zs_sumw hr (fun v w => ⟨w.1, w.2⟩) (fun v w => w.elim))
    · skip
      have r6 := (zs_I_eqn c3)
      have g7 : zs_in (t_2).toInt 0 0 := (zs_neh 0 0 r6 pt_2 zlI_1 (by decide))
      obtain ⟨ret, er, hr⟩ := zc_47 h_σ h_x1 h_x2 h_x4 hc
      refine ⟨ret, er, ?_⟩
      exact (zs_sumw hr (fun v w => ⟨w.1, w.2⟩) (fun v w => w.elim))
  · skip
    have r8 := (zs_I_eqn c1)
    obtain ⟨ret, er, hr⟩ := zc_47 h_σ h_x1 h_x2 h_x4 hc
    refine ⟨ret, er, ?_⟩
    exact (zs_sumw hr (fun v w => ⟨w.1, w.2⟩) (fun v w => w.elim))
-- BX9_netsTo_5
theorem zc_51 {σ0 : sn_S} {σ : sn_S} (h_σ : zs_M σ0 σ) {x1 : Int32} (h_x1 : zs_in x1.toInt 0 5) {x2 : Int32} (h_x2 : zs_in x2.toInt 0 0) {x3 : Int32} {x4 : Int32} (h_x4 : zs_in x4.toInt 0 8) {c : Int} (hc : x4.toInt = c + 0) : zs_ok (BX9_netsTo_5 σ x1 x2 x3 x4) (fun r => zs_sum (fun v => ((True ∧ zs_in (v.2).toInt 1 8)) ∧ v.2.toInt = c + 1) (fun v => True) r) := by
  unfold BX9_netsTo_5
  obtain rfl : x2 = (0 : Int32) := zs_eqv h_x2 (by decide)
  refine zs_gd (zs_gin zlI_7 (by decide)) ?_
  refine zs_ite (fun c1 => ?_) (fun c1 => ?_)
  · skip
    have r2 := (zs_I_le c1)
    exact zs_some (zs_inr (trivial))
  · skip
    have r3 := (zs_I_len c1)
    have g4 : zs_in (x4).toInt 0 7 := (zs_ltl 0 7 r3 h_x4 (zs_rdk (q := 1) (k := (7 : Int32).toNatClampNeg) (z := (0, 8)) h_σ.1 rfl) (by decide))
    have g5 : zs_in ((sn_I σ 1 (7 : Int32).toNatClampNeg)).toInt 1 8 := (zs_ltr 1 8 r3 h_x4 (zs_rdk (q := 1) (k := (7 : Int32).toNatClampNeg) (z := (0, 8)) h_σ.1 rfl) (by decide))
    refine zs_gd (zs_gin (zs_addI 33 47 zlI_33 (zs_mulI 0 14 zlI_2 g4 (by decide)) (by decide)) (by decide)) ?_
    refine zs_lt (Q := fun z => zs_in z.toInt 0 5) (zs_rdb (q := 1) (lo := 0) (hi := 5) h_σ.1 (zs_cases g4 (fun z => zs_bd (zs_tM 1 ((33 : Int32) + ((2 : Int32) * z)).toNatClampNeg) 0 5) (by decide +kernel))) (fun y_4 hy_4 => ?_)
    refine zs_gd (zs_gin (zs_addI 34 48 (zs_addI 33 47 zlI_33 (zs_mulI 0 14 zlI_2 g4 (by decide)) (by decide)) zlI_1 (by decide)) (by decide)) ?_
    refine zs_lt (Q := fun z => zs_in z.toInt 0 5) (zs_rdb (q := 1) (lo := 0) (hi := 5) h_σ.1 (zs_cases g4 (fun z => zs_bd (zs_tM 1 (((33 : Int32) + ((2 : Int32) * z)) + (1 : Int32)).toNatClampNeg) 0 5) (by decide +kernel))) (fun y_7 hy_7 => ?_)
    refine zs_ite (fun c6 => ?_) (fun c6 => ?_)
    · skip
      have r7 := (zs_I_eq c6)
      have g8 : zs_in ((sn_I σ 0 19)).toInt 0 7 := (zs_eqr 0 7 r7 g4 (zs_topI _) (by decide))
      obtain ⟨ret, er, hr⟩ := zc_47 h_σ h_x1 h_x2 g4 hc
      refine ⟨ret, er, ?_⟩
      exact (zs_sumw hr (fun v w => ⟨w.1, w.2⟩) (fun v w => w.elim))
    · skip
      have r9 := (zs_I_eqn c6)
      refine zs_ite (fun c10 => ?_) (fun c10 => ?_)
      · skip
        have r11 := (zs_I_eq c10)
        refine zs_bd_ (zc_48 h_x2 hy_7) (fun t_11 pt_11 => ?_)
        refine zs_ite (fun c12 => ?_) (fun c12 => ?_)
        · skip
          have r13 := (zs_I_eq c12)
          have g14 : zs_in (t_11).toInt 1 1 := (zs_eql 1 1 r13 pt_11 zlI_1 (by decide))
          obtain ⟨ret, er, hr⟩ := zc_49 h_σ h_x1 h_x2 g4 hc
          refine ⟨ret, er, ?_⟩
          exact (zs_sumw hr (fun v w => ⟨w.1, w.2⟩) (fun v w => w.elim))
        · skip
          have r15 := (zs_I_eqn c12)
          have g16 : zs_in (t_11).toInt 0 0 := (zs_neh 0 0 r15 pt_11 zlI_1 (by decide))
          obtain ⟨ret, er, hr⟩ := zc_50 h_σ h_x1 h_x2 g4 hy_4 hy_7 hc
          refine ⟨ret, er, ?_⟩
          exact (zs_sumw hr (fun v w => ⟨w.1, w.2⟩) (fun v w => w.elim))
      · skip
        have r17 := (zs_I_eqn c10)
        obtain ⟨ret, er, hr⟩ := zc_50 h_σ h_x1 h_x2 g4 hy_4 hy_7 hc
        refine ⟨ret, er, ?_⟩
        exact (zs_sumw hr (fun v w => ⟨w.1, w.2⟩) (fun v w => w.elim))
theorem zd_9 {σ0 : sn_S} {σ : sn_S} (h_σ : zs_M σ0 σ) {x1 : Int32} (h_x1 : zs_in x1.toInt 0 5) {x2 : Int32} (h_x2 : zs_in x2.toInt 0 0) {s0 : (Int32 × Int32)} (h0 : (True ∧ zs_in (s0.2).toInt 0 8)) : zs_ok (sn_it (LX9_netsTo_5 σ x1 x2) 5000 s0) (fun t => True) := by
  refine zs_it (I := fun s => (True ∧ zs_in (s.2).toInt 0 8)) (m := fun s => 8 - s.2.toInt) (fun s hs => ?_) (fun s hs => ?_) (by exact h0)
  · have h1 := hs.2; unfold zs_in at h1
    omega
  · obtain ⟨b, eb, hb⟩ := zc_51 h_σ h_x1 h_x2 hs.2 (c := s.2.toInt) (Int.add_zero _).symm
    exact ⟨b, eb, zs_sumw hb (fun v w => ⟨⟨w.1.1, (zs_w w.1.2 (by decide))⟩, by have := w.2; omega⟩) (fun v w => w)⟩
-- fX9_netsTo
theorem zc_52 {σ0 : sn_S} {σ : sn_S} (h_σ : zs_M σ0 σ) {x1 : Int32} (h_x1 : zs_in x1.toInt 0 5) {x2 : Int32} (h_x2 : zs_in x2.toInt 0 0) : zs_ok (fX9_netsTo σ x1 x2) (fun r => True) := by
  unfold fX9_netsTo
  obtain rfl : x2 = (0 : Int32) := zs_eqv h_x2 (by decide)
  refine zs_bd_ (zd_9 h_σ h_x1 h_x2 (s0 := ((0 : Int32), (0 : Int32))) ⟨trivial, (zs_w zlI_0 (by decide))⟩) (fun t_1 pt_1 => ?_)
  obtain ⟨ret, er, hr⟩ := zc_37 h_σ
  refine ⟨ret, er, ?_⟩
  exact hr
-- fX9_bit
theorem zc_53 {x0 : Int32} {x1 : Int32} (h_x1 : zs_in x1.toInt 0 0) : zs_ok (fX9_bit x0 x1) (fun r => zs_in (r).toInt 0 1) := by
  unfold fX9_bit
  obtain rfl : x1 = (0 : Int32) := zs_eqv h_x1 (by decide)
  exact zs_some (zs_and zlI_1 (by decide))
-- BX9_goMinute_225
theorem zc_54 {σ0 : sn_S} {σ : sn_S} (h_σ : zs_M σ0 σ) {x1 : Int32} (h_x1 : zs_in x1.toInt 0 0) {x2 : Int32} (h_x2 : zs_in x2.toInt 0 0) {x3 : Int32} (h_x3 : zs_in x3.toInt 0 5) {c : Int} (hc : x3.toInt = c + 0) : zs_ok (BX9_goMinute_225 σ x1 x2 x3) (fun r => zs_sum (fun v => ((zs_M σ0 v.1 ∧ zs_in (v.2).toInt 1 6)) ∧ v.2.toInt = c + 1) (fun v => False) r) := by
  unfold BX9_goMinute_225
  obtain rfl : x1 = (0 : Int32) := zs_eqv h_x1 (by decide)
  obtain rfl : x2 = (0 : Int32) := zs_eqv h_x2 (by decide)
  refine zs_lt (Q := fun z => zs_in z.toInt 1 6 ∧ z.toInt = c + 1) ⟨(zs_addI 1 6 h_x3 zlI_1 (by decide)), (zs_syI 1 hc h_x3 zlI_1 (by decide) (by decide))⟩ (fun y_1 hy_1 => ?_)
  exact zs_some (zs_inl ⟨⟨h_σ, hy_1.1⟩, hy_1.2⟩)
-- BX9_goMinute_192
theorem zc_55 {σ0 : sn_S} {σ : sn_S} (h_σ : zs_M σ0 σ) {x1 : Int32} (h_x1 : zs_in x1.toInt 0 0) {x2 : Int32} (h_x2 : zs_in x2.toInt 0 0) {x3 : Int32} (h_x3 : zs_in x3.toInt 0 5) {x7 : Int32} (h_x7 : zs_in x7.toInt 0 0) {t1 : Int32} (h_t1 : zs_in t1.toInt 0 5) {t2 : Int32} (h_t2 : zs_in t2.toInt (-2147483648) 98) {c : Int} (hc : x3.toInt = c + 0) : zs_ok (BX9_goMinute_192 σ x1 x2 x3 x7 t1 t2) (fun r => zs_sum (fun v => ((zs_M σ0 v.1 ∧ zs_in (v.2).toInt 1 6)) ∧ v.2.toInt = c + 1) (fun v => False) r) := by
  unfold BX9_goMinute_192
  obtain rfl : x1 = (0 : Int32) := zs_eqv h_x1 (by decide)
  obtain rfl : x2 = (0 : Int32) := zs_eqv h_x2 (by decide)
  obtain rfl : x7 = (0 : Int32) := zs_eqv h_x7 (by decide)
  refine zs_gd (zs_gin h_t1 (by decide)) ?_
  refine zs_lt (Q := fun z => zs_M σ0 z) (zs_wrt h_σ (fun _ => rfl) (fun _ => rfl)) (fun σ_2 hσ_2 => ?_)
  refine zs_ite (fun c1 => ?_) (fun c1 => ?_)
  · skip
    have r2 := (zs_I_eq c1)
    obtain ⟨ret, er, hr⟩ := zc_54 hσ_2 h_x1 h_x2 h_x3 hc
    refine ⟨ret, er, ?_⟩
    exact (zs_sumw hr (fun v w => ⟨w.1, w.2⟩) (fun v w => w.elim))
  · skip
    have r3 := (zs_I_eqn c1)
    exact (zs_botne r3 h_x7 zlI_0 (by decide)).elim
-- BX9_goMinute_145
theorem zc_56 {σ0 : sn_S} {σ : sn_S} (h_σ : zs_M σ0 σ) {x1 : Int32} (h_x1 : zs_in x1.toInt 0 0) {x2 : Int32} (h_x2 : zs_in x2.toInt 0 0) {x3 : Int32} (h_x3 : zs_in x3.toInt 0 5) {x4 : Int32} {x5 : Int32} {x6 : Int32} (h_x6 : zs_in x6.toInt (-2147483648) 98) {t0 : Int32} (h_t0 : zs_in t0.toInt 0 0) {c : Int} (hc : x3.toInt = c + 0) : zs_ok (BX9_goMinute_145 σ x1 x2 x3 x4 x5 x6 t0) (fun r => zs_sum (fun v => ((zs_M σ0 v.1 ∧ zs_in (v.2).toInt 1 6)) ∧ v.2.toInt = c + 1) (fun v => False) r) := by
  unfold BX9_goMinute_145
  obtain rfl : x1 = (0 : Int32) := zs_eqv h_x1 (by decide)
  obtain rfl : x2 = (0 : Int32) := zs_eqv h_x2 (by decide)
  obtain rfl : t0 = (0 : Int32) := zs_eqv h_t0 (by decide)
  refine zs_gd (zs_gin h_x3 (by decide)) ?_
  refine zs_gd (zs_gin h_x3 (by decide)) ?_
  refine zs_lt (Q := fun z => zs_M σ0 z) (zs_wrt h_σ (fun _ => rfl) (fun _ => rfl)) (fun σ_3 hσ_3 => ?_)
  refine zs_gd (zs_gin (zs_addI 0 5 (zs_mulI 0 0 zlI_6 h_x1 (by decide)) h_x3 (by decide)) (by decide)) ?_
  refine zs_lt (Q := fun z => zs_M σ0 z) (zs_wrt hσ_3 (fun _ => rfl) (fun _ => rfl)) (fun σ_6 hσ_6 => ?_)
  refine zs_ite (fun c1 => ?_) (fun c1 => ?_)
  · skip
    have r2 := (zs_I_eq c1)
    obtain ⟨ret, er, hr⟩ := zc_55 hσ_6 h_x1 h_x2 h_x3 h_t0 (zs_addI 0 5 (zs_mulI 0 0 zlI_6 h_x1 (by decide)) h_x3 (by decide)) h_x6 hc
    refine ⟨ret, er, ?_⟩
    exact (zs_sumw hr (fun v w => ⟨w.1, w.2⟩) (fun v w => w.elim))
  · skip
    have r3 := (zs_I_eqn c1)
    exact (zs_botne r3 h_t0 zlI_0 (by decide)).elim
-- BX9_goMinute_144
theorem zc_57 {σ0 : sn_S} {σ : sn_S} (h_σ : zs_M σ0 σ) {x1 : Int32} (h_x1 : zs_in x1.toInt 0 0) {x2 : Int32} (h_x2 : zs_in x2.toInt 0 0) {x3 : Int32} (h_x3 : zs_in x3.toInt 0 5) {x4 : Int32} {x5 : Int32} {x6 : Int32} (h_x6 : zs_in x6.toInt (-2147483648) 98) {c : Int} (hc : x3.toInt = c + 0) : zs_ok (BX9_goMinute_144 σ x1 x2 x3 x4 x5 x6) (fun r => zs_sum (fun v => ((zs_M σ0 v.1 ∧ zs_in (v.2).toInt 1 6)) ∧ v.2.toInt = c + 1) (fun v => False) r) := by
  unfold BX9_goMinute_144
  obtain rfl : x1 = (0 : Int32) := zs_eqv h_x1 (by decide)
  obtain rfl : x2 = (0 : Int32) := zs_eqv h_x2 (by decide)
  obtain ⟨ret, er, hr⟩ := zc_56 h_σ h_x1 h_x2 h_x3 h_x6 zlI_0 hc
  refine ⟨ret, er, ?_⟩
  exact (zs_sumw hr (fun v w => ⟨w.1, w.2⟩) (fun v w => w.elim))
-- BX9_goMinute_192
theorem zc_58 {σ0 : sn_S} {σ : sn_S} (h_σ : zs_M σ0 σ) {x1 : Int32} (h_x1 : zs_in x1.toInt 0 0) {x2 : Int32} (h_x2 : zs_in x2.toInt 0 0) {x3 : Int32} (h_x3 : zs_in x3.toInt 0 5) {x7 : Int32} (h_x7 : zs_in x7.toInt 1 1) {t1 : Int32} (h_t1 : zs_in t1.toInt 0 5) {t2 : Int32} (h_t2 : zs_in t2.toInt 0 0) {c : Int} (hc : x3.toInt = c + 0) : zs_ok (BX9_goMinute_192 σ x1 x2 x3 x7 t1 t2) (fun r => zs_sum (fun v => ((zs_M σ0 v.1 ∧ zs_in (v.2).toInt 1 6)) ∧ v.2.toInt = c + 1) (fun v => False) r) := by
  unfold BX9_goMinute_192
  obtain rfl : x1 = (0 : Int32) := zs_eqv h_x1 (by decide)
  obtain rfl : x2 = (0 : Int32) := zs_eqv h_x2 (by decide)
  obtain rfl : x7 = (1 : Int32) := zs_eqv h_x7 (by decide)
  obtain rfl : t2 = (0 : Int32) := zs_eqv h_t2 (by decide)
  refine zs_gd (zs_gin h_t1 (by decide)) ?_
  refine zs_lt (Q := fun z => zs_M σ0 z) (zs_wrt h_σ (fun _ => rfl) (fun _ => rfl)) (fun σ_2 hσ_2 => ?_)
  refine zs_ite (fun c1 => ?_) (fun c1 => ?_)
  · skip
    have r2 := (zs_I_eq c1)
    exact (zs_botr r2 h_x7 zlI_0 (by decide)).elim
  · skip
    have r3 := (zs_I_eqn c1)
    refine zs_gd (zs_gin h_x1 (by decide)) ?_
    refine zs_gd (zs_gin h_x1 (by decide)) ?_
    refine zs_lt (Q := fun z => zs_M σ0 z) (zs_wrt hσ_2 (fun _ => rfl) (fun _ => rfl)) (fun σ_7 hσ_7 => ?_)
    refine zs_gd (zs_gin h_x3 (by decide)) ?_
    refine zs_gd (zs_gin h_x3 (by decide)) ?_
    refine zs_lt (Q := fun z => zs_M σ0 z) (zs_wru (z := (0, 1073741823)) hσ_7 (fun _ => rfl) (zs_or 30 1073741823 (zs_rdu (q := 10) (z := (0, 1073741823)) hσ_7.1 (fun _ => rfl)) (zs_cases h_x1 (fun z => zs_in ((1 : Int32) <<< (z &&& 31)).toInt 1 1) (by decide +kernel)) (by decide)) (by decide) (fun _ => rfl)) (fun σ_11 hσ_11 => ?_)
    obtain ⟨ret, er, hr⟩ := zc_54 hσ_11 h_x1 h_x2 h_x3 hc
    refine ⟨ret, er, ?_⟩
    exact (zs_sumw hr (fun v w => ⟨w.1, w.2⟩) (fun v w => w.elim))
-- BX9_goMinute_145
theorem zc_59 {σ0 : sn_S} {σ : sn_S} (h_σ : zs_M σ0 σ) {x1 : Int32} (h_x1 : zs_in x1.toInt 0 0) {x2 : Int32} (h_x2 : zs_in x2.toInt 0 0) {x3 : Int32} (h_x3 : zs_in x3.toInt 0 5) {x4 : Int32} {x5 : Int32} {x6 : Int32} (h_x6 : zs_in x6.toInt 0 2147483647) {t0 : Int32} (h_t0 : zs_in t0.toInt 1 1) {c : Int} (hc : x3.toInt = c + 0) : zs_ok (BX9_goMinute_145 σ x1 x2 x3 x4 x5 x6 t0) (fun r => zs_sum (fun v => ((zs_M σ0 v.1 ∧ zs_in (v.2).toInt 1 6)) ∧ v.2.toInt = c + 1) (fun v => False) r) := by
  unfold BX9_goMinute_145
  obtain rfl : x1 = (0 : Int32) := zs_eqv h_x1 (by decide)
  obtain rfl : x2 = (0 : Int32) := zs_eqv h_x2 (by decide)
  obtain rfl : t0 = (1 : Int32) := zs_eqv h_t0 (by decide)
  refine zs_gd (zs_gin h_x3 (by decide)) ?_
  refine zs_gd (zs_gin h_x3 (by decide)) ?_
  refine zs_lt (Q := fun z => zs_M σ0 z) (zs_wrt h_σ (fun _ => rfl) (fun _ => rfl)) (fun σ_3 hσ_3 => ?_)
  refine zs_gd (zs_gin (zs_addI 0 5 (zs_mulI 0 0 zlI_6 h_x1 (by decide)) h_x3 (by decide)) (by decide)) ?_
  refine zs_lt (Q := fun z => zs_M σ0 z) (zs_wrt hσ_3 (fun _ => rfl) (fun _ => rfl)) (fun σ_6 hσ_6 => ?_)
  refine zs_ite (fun c1 => ?_) (fun c1 => ?_)
  · skip
    have r2 := (zs_I_eq c1)
    exact (zs_botr r2 h_t0 zlI_0 (by decide)).elim
  · skip
    have r3 := (zs_I_eqn c1)
    obtain ⟨ret, er, hr⟩ := zc_58 hσ_6 h_x1 h_x2 h_x3 h_t0 (zs_addI 0 5 (zs_mulI 0 0 zlI_6 h_x1 (by decide)) h_x3 (by decide)) zlI_0 hc
    refine ⟨ret, er, ?_⟩
    exact (zs_sumw hr (fun v w => ⟨w.1, w.2⟩) (fun v w => w.elim))
-- BX9_goMinute_192
theorem zc_60 {σ0 : sn_S} {σ : sn_S} (h_σ : zs_M σ0 σ) {x1 : Int32} (h_x1 : zs_in x1.toInt 0 0) {x2 : Int32} (h_x2 : zs_in x2.toInt 0 0) {x3 : Int32} (h_x3 : zs_in x3.toInt 0 5) {x7 : Int32} (h_x7 : zs_in x7.toInt 0 0) {t1 : Int32} (h_t1 : zs_in t1.toInt 0 5) {t2 : Int32} (h_t2 : zs_in t2.toInt 0 2147483647) {c : Int} (hc : x3.toInt = c + 0) : zs_ok (BX9_goMinute_192 σ x1 x2 x3 x7 t1 t2) (fun r => zs_sum (fun v => ((zs_M σ0 v.1 ∧ zs_in (v.2).toInt 1 6)) ∧ v.2.toInt = c + 1) (fun v => False) r) := by
  unfold BX9_goMinute_192
  obtain rfl : x1 = (0 : Int32) := zs_eqv h_x1 (by decide)
  obtain rfl : x2 = (0 : Int32) := zs_eqv h_x2 (by decide)
  obtain rfl : x7 = (0 : Int32) := zs_eqv h_x7 (by decide)
  refine zs_gd (zs_gin h_t1 (by decide)) ?_
  refine zs_lt (Q := fun z => zs_M σ0 z) (zs_wrt h_σ (fun _ => rfl) (fun _ => rfl)) (fun σ_2 hσ_2 => ?_)
  refine zs_ite (fun c1 => ?_) (fun c1 => ?_)
  · skip
    have r2 := (zs_I_eq c1)
    obtain ⟨ret, er, hr⟩ := zc_54 hσ_2 h_x1 h_x2 h_x3 hc
    refine ⟨ret, er, ?_⟩
    exact (zs_sumw hr (fun v w => ⟨w.1, w.2⟩) (fun v w => w.elim))
  · skip
    have r3 := (zs_I_eqn c1)
    exact (zs_botne r3 h_x7 zlI_0 (by decide)).elim
-- BX9_goMinute_145
theorem zc_61 {σ0 : sn_S} {σ : sn_S} (h_σ : zs_M σ0 σ) {x1 : Int32} (h_x1 : zs_in x1.toInt 0 0) {x2 : Int32} (h_x2 : zs_in x2.toInt 0 0) {x3 : Int32} (h_x3 : zs_in x3.toInt 0 5) {x4 : Int32} {x5 : Int32} {x6 : Int32} (h_x6 : zs_in x6.toInt 0 2147483647) {t0 : Int32} (h_t0 : zs_in t0.toInt 0 0) {c : Int} (hc : x3.toInt = c + 0) : zs_ok (BX9_goMinute_145 σ x1 x2 x3 x4 x5 x6 t0) (fun r => zs_sum (fun v => ((zs_M σ0 v.1 ∧ zs_in (v.2).toInt 1 6)) ∧ v.2.toInt = c + 1) (fun v => False) r) := by
  unfold BX9_goMinute_145
  obtain rfl : x1 = (0 : Int32) := zs_eqv h_x1 (by decide)
  obtain rfl : x2 = (0 : Int32) := zs_eqv h_x2 (by decide)
  obtain rfl : t0 = (0 : Int32) := zs_eqv h_t0 (by decide)
  refine zs_gd (zs_gin h_x3 (by decide)) ?_
  refine zs_gd (zs_gin h_x3 (by decide)) ?_
  refine zs_lt (Q := fun z => zs_M σ0 z) (zs_wrt h_σ (fun _ => rfl) (fun _ => rfl)) (fun σ_3 hσ_3 => ?_)
  refine zs_gd (zs_gin (zs_addI 0 5 (zs_mulI 0 0 zlI_6 h_x1 (by decide)) h_x3 (by decide)) (by decide)) ?_
  refine zs_lt (Q := fun z => zs_M σ0 z) (zs_wrt hσ_3 (fun _ => rfl) (fun _ => rfl)) (fun σ_6 hσ_6 => ?_)
  refine zs_ite (fun c1 => ?_) (fun c1 => ?_)
  · skip
    have r2 := (zs_I_eq c1)
    obtain ⟨ret, er, hr⟩ := zc_60 hσ_6 h_x1 h_x2 h_x3 h_t0 (zs_addI 0 5 (zs_mulI 0 0 zlI_6 h_x1 (by decide)) h_x3 (by decide)) h_x6 hc
    refine ⟨ret, er, ?_⟩
    exact (zs_sumw hr (fun v w => ⟨w.1, w.2⟩) (fun v w => w.elim))
  · skip
    have r3 := (zs_I_eqn c1)
    exact (zs_botne r3 h_t0 zlI_0 (by decide)).elim
-- BX9_goMinute_144
theorem zc_62 {σ0 : sn_S} {σ : sn_S} (h_σ : zs_M σ0 σ) {x1 : Int32} (h_x1 : zs_in x1.toInt 0 0) {x2 : Int32} (h_x2 : zs_in x2.toInt 0 0) {x3 : Int32} (h_x3 : zs_in x3.toInt 0 5) {x4 : Int32} {x5 : Int32} {x6 : Int32} (h_x6 : zs_in x6.toInt 0 2147483647) {c : Int} (hc : x3.toInt = c + 0) : zs_ok (BX9_goMinute_144 σ x1 x2 x3 x4 x5 x6) (fun r => zs_sum (fun v => ((zs_M σ0 v.1 ∧ zs_in (v.2).toInt 1 6)) ∧ v.2.toInt = c + 1) (fun v => False) r) := by
  unfold BX9_goMinute_144
  obtain rfl : x1 = (0 : Int32) := zs_eqv h_x1 (by decide)
  obtain rfl : x2 = (0 : Int32) := zs_eqv h_x2 (by decide)
  obtain ⟨ret, er, hr⟩ := zc_61 h_σ h_x1 h_x2 h_x3 h_x6 zlI_0 hc
  refine ⟨ret, er, ?_⟩
  exact (zs_sumw hr (fun v w => ⟨w.1, w.2⟩) (fun v w => w.elim))
-- BX9_goMinute_104
theorem zc_63 {σ0 : sn_S} {σ : sn_S} (h_σ : zs_M σ0 σ) {x1 : Int32} (h_x1 : zs_in x1.toInt 0 0) {x2 : Int32} (h_x2 : zs_in x2.toInt 0 0) {x3 : Int32} (h_x3 : zs_in x3.toInt 0 5) {x4 : Int32} {x5 : Int32} {t0 : Int32} (h_t0 : zs_in t0.toInt 0 0) {c : Int} (hc : x3.toInt = c + 0) : zs_ok (BX9_goMinute_104 σ x1 x2 x3 x4 x5 t0) (fun r => zs_sum (fun v => ((zs_M σ0 v.1 ∧ zs_in (v.2).toInt 1 6)) ∧ v.2.toInt = c + 1) (fun v => False) r) := by
  unfold BX9_goMinute_104
  obtain rfl : x1 = (0 : Int32) := zs_eqv h_x1 (by decide)
  obtain rfl : x2 = (0 : Int32) := zs_eqv h_x2 (by decide)
  obtain rfl : t0 = (0 : Int32) := zs_eqv h_t0 (by decide)
  refine zs_lt (Q := fun z => True) trivial (fun y_1 hy_1 => ?_)
  refine zs_gd (zs_gin (zs_addI 12 22 (zs_addI 11 21 zlI_11 (zs_mulI 0 10 zlI_2 h_x3 (by decide)) (by decide)) zlI_1 (by decide)) (by decide)) ?_
  refine zs_ite (fun c1 => ?_) (fun c1 => ?_)
  · skip
    have r2 := (zs_I_lt c1)
    have g3 : zs_in (y_1).toInt (-2147483648) 98 := (zs_ltl (-2147483648) 98 r2 (zs_topI _) (zs_rdb (q := 1) (lo := 0) (hi := 99) h_σ.1 (zs_cases h_x3 (fun z => zs_bd (zs_tM 1 (((11 : Int32) + ((2 : Int32) * z)) + (1 : Int32)).toNatClampNeg) 0 99) (by decide +kernel))) (by decide))
    obtain ⟨ret, er, hr⟩ := zc_57 h_σ h_x1 h_x2 h_x3 g3 hc
    refine ⟨ret, er, ?_⟩
    exact (zs_sumw hr (fun v w => ⟨w.1, w.2⟩) (fun v w => w.elim))
  · skip
    have r4 := (zs_I_ltn c1)
    have g5 : zs_in (y_1).toInt 0 2147483647 := (zs_ler 0 2147483647 r4 (zs_rdb (q := 1) (lo := 0) (hi := 99) h_σ.1 (zs_cases h_x3 (fun z => zs_bd (zs_tM 1 (((11 : Int32) + ((2 : Int32) * z)) + (1 : Int32)).toNatClampNeg) 0 99) (by decide +kernel))) (zs_topI _) (by decide))
    refine zs_gd (zs_gin h_x3 (by decide)) ?_
    refine zs_bd_ (zc_53 h_x1) (fun t_6 pt_6 => ?_)
    refine zs_ite (fun c6 => ?_) (fun c6 => ?_)
    · skip
      have r7 := (zs_I_eq c6)
      have g8 : zs_in (t_6).toInt 0 0 := (zs_eql 0 0 r7 pt_6 zlI_0 (by decide))
      obtain ⟨ret, er, hr⟩ := zc_59 h_σ h_x1 h_x2 h_x3 g5 zlI_1 hc
      refine ⟨ret, er, ?_⟩
      exact (zs_sumw hr (fun v w => ⟨w.1, w.2⟩) (fun v w => w.elim))
    · skip
      have r9 := (zs_I_eqn c6)
      have g10 : zs_in (t_6).toInt 1 1 := (zs_nel 1 1 r9 pt_6 zlI_0 (by decide))
      obtain ⟨ret, er, hr⟩ := zc_62 h_σ h_x1 h_x2 h_x3 g5 hc
      refine ⟨ret, er, ?_⟩
      exact (zs_sumw hr (fun v w => ⟨w.1, w.2⟩) (fun v w => w.elim))
-- BX9_goMinute_26
theorem zc_64 {σ0 : sn_S} {σ : sn_S} (h_σ : zs_M σ0 σ) {x1 : Int32} (h_x1 : zs_in x1.toInt 0 0) {x2 : Int32} (h_x2 : zs_in x2.toInt 0 0) {x3 : Int32} (h_x3 : zs_in x3.toInt 0 6) {c : Int} (hc : x3.toInt = c + 0) : zs_ok (BX9_goMinute_26 σ x1 x2 x3) (fun r => zs_sum (fun v => ((zs_M σ0 v.1 ∧ zs_in (v.2).toInt 1 6)) ∧ v.2.toInt = c + 1) (fun v => zs_M σ0 v) r) := by
  unfold BX9_goMinute_26
  obtain rfl : x1 = (0 : Int32) := zs_eqv h_x1 (by decide)
  obtain rfl : x2 = (0 : Int32) := zs_eqv h_x2 (by decide)
  refine zs_gd (zs_gin zlI_5 (by decide)) ?_
  refine zs_ite (fun c1 => ?_) (fun c1 => ?_)
  · skip
    have r2 := (zs_I_le c1)
    exact zs_some (zs_inr (h_σ))
  · skip
    have r3 := (zs_I_len c1)
    have g4 : zs_in (x3).toInt 0 5 := (zs_ltl 0 5 r3 h_x3 (zs_rdk (q := 1) (k := (5 : Int32).toNatClampNeg) (z := (0, 6)) h_σ.1 rfl) (by decide))
    have g5 : zs_in ((sn_I σ 1 (5 : Int32).toNatClampNeg)).toInt 1 6 := (zs_ltr 1 6 r3 h_x3 (zs_rdk (q := 1) (k := (5 : Int32).toNatClampNeg) (z := (0, 6)) h_σ.1 rfl) (by decide))
    refine zs_bd_ (zc_52 h_σ g4 h_x2) (fun t_3 pt_3 => ?_)
    refine zs_lt (Q := fun z => True) trivial (fun y_5 hy_5 => ?_)
    refine zs_gd (zs_gin (zs_addI 11 21 zlI_11 (zs_mulI 0 10 zlI_2 g4 (by decide)) (by decide)) (by decide)) ?_
    refine zs_gd (zs_gin h_x1 (by decide)) ?_
    refine zs_gd (zs_gin g4 (by decide)) ?_
    refine zs_bd_ (zc_53 h_x1) (fun t_10 pt_10 => ?_)
    refine zs_lt (Q := fun z => True) trivial (fun y_12 hy_12 => ?_)
    refine zs_ite (fun c6 => ?_) (fun c6 => ?_)
    · skip
      have r7 := (zs_I_eq c6)
      obtain ⟨ret, er, hr⟩ := zc_63 h_σ h_x1 h_x2 g4 zlI_0 hc
      refine ⟨ret, er, ?_⟩
      exact (zs_sumw hr (fun v w => ⟨w.1, w.2⟩) (fun v w => w.elim))
    · skip
      have r8 := (zs_I_eqn c6)
      exact (zs_botne r8 h_x1 zlI_0 (by decide)).elim
theorem zd_10 {σ0 : sn_S} {x1 : Int32} (h_x1 : zs_in x1.toInt 0 0) {x2 : Int32} (h_x2 : zs_in x2.toInt 0 0) {s0 : (sn_S × Int32)} (h0 : (zs_M σ0 s0.1 ∧ zs_in (s0.2).toInt 0 6)) : zs_ok (sn_it (LX9_goMinute_26 x1 x2) 5000 s0) (fun t => zs_M σ0 t) := by
  refine zs_it (I := fun s => (zs_M σ0 s.1 ∧ zs_in (s.2).toInt 0 6)) (m := fun s => 6 - s.2.toInt) (fun s hs => ?_) (fun s hs => ?_) (by exact h0)
  · have h1 := hs.2; unfold zs_in at h1
    omega
  · obtain ⟨b, eb, hb⟩ := zc_64 hs.1 h_x1 h_x2 hs.2 (c := s.2.toInt) (Int.add_zero _).symm
    exact ⟨b, eb, zs_sumw hb (fun v w => ⟨⟨w.1.1, (zs_w w.1.2 (by decide))⟩, by have := w.2; omega⟩) (fun v w => w)⟩
-- BX9_goMinute_231
theorem zc_65 {σ0 : sn_S} {σ : sn_S} (h_σ : zs_M σ0 σ) : zs_ok (BX9_goMinute_231 σ) (fun r => zs_M σ0 r) := by
  unfold BX9_goMinute_231
  exact zs_some h_σ
-- BX9_goMinute_23
theorem zc_66 {σ0 : sn_S} {σ : sn_S} (h_σ : zs_M σ0 σ) {x1 : Int32} (h_x1 : zs_in x1.toInt 0 0) {t0 : Int32} (h_t0 : zs_in t0.toInt 0 0) : zs_ok (BX9_goMinute_23 σ x1 t0) (fun r => zs_M σ0 r) := by
  unfold BX9_goMinute_23
  obtain rfl : x1 = (0 : Int32) := zs_eqv h_x1 (by decide)
  obtain rfl : t0 = (0 : Int32) := zs_eqv h_t0 (by decide)
  refine zs_bd_ (zd_10 h_x1 h_t0 (s0 := (σ, (0 : Int32))) ⟨h_σ, (zs_w zlI_0 (by decide))⟩) (fun t_1 pt_1 => ?_)
  obtain ⟨ret, er, hr⟩ := zc_65 pt_1
  refine ⟨ret, er, ?_⟩
  exact hr
-- BX9_netsTo_91
theorem zc_67 {σ0 : sn_S} {σ : sn_S} (h_σ : zs_M σ0 σ) {x1 : Int32} (h_x1 : zs_in x1.toInt 0 5) {x2 : Int32} {x3 : Int32} {x4 : Int32} (h_x4 : zs_in x4.toInt 0 7) {c : Int} (hc : x4.toInt = c + 0) : zs_ok (BX9_netsTo_91 σ x1 x2 x3 x4) (fun r => zs_sum (fun v => ((True ∧ zs_in (v.2).toInt 1 8)) ∧ v.2.toInt = c + 1) (fun v => False) r) := by
  unfold BX9_netsTo_91
  refine zs_lt (Q := fun z => zs_in z.toInt 1 8 ∧ z.toInt = c + 1) ⟨(zs_addI 1 8 h_x4 zlI_1 (by decide)), (zs_syI 1 hc h_x4 zlI_1 (by decide) (by decide))⟩ (fun y_1 hy_1 => ?_)
  exact zs_some (zs_inl ⟨⟨trivial, hy_1.1⟩, hy_1.2⟩)
-- fX9_bit
theorem zc_68 {x0 : Int32} {x1 : Int32} (h_x1 : zs_in x1.toInt 0 5) : zs_ok (fX9_bit x0 x1) (fun r => zs_in (r).toInt 0 1) := by
  unfold fX9_bit
  exact zs_some (zs_and zlI_1 (by decide))
-- BX9_netsTo_88
theorem zc_69 {σ0 : sn_S} {σ : sn_S} (h_σ : zs_M σ0 σ) {x1 : Int32} (h_x1 : zs_in x1.toInt 0 5) {x2 : Int32} {x3 : Int32} {x4 : Int32} (h_x4 : zs_in x4.toInt 0 7) {c : Int} (hc : x4.toInt = c + 0) : zs_ok (BX9_netsTo_88 σ x1 x2 x3 x4) (fun r => zs_sum (fun v => ((True ∧ zs_in (v.2).toInt 1 8)) ∧ v.2.toInt = c + 1) (fun v => False) r) := by
  unfold BX9_netsTo_88
  refine zs_lt (Q := fun z => True) trivial (fun y_1 hy_1 => ?_)
  obtain ⟨ret, er, hr⟩ := zc_67 h_σ h_x1 h_x4 hc
  refine ⟨ret, er, ?_⟩
  exact (zs_sumw hr (fun v w => ⟨w.1, w.2⟩) (fun v w => w.elim))
-- BX9_netsTo_72
theorem zc_70 {σ0 : sn_S} {σ : sn_S} (h_σ : zs_M σ0 σ) {x1 : Int32} (h_x1 : zs_in x1.toInt 0 5) {x2 : Int32} {x3 : Int32} {x4 : Int32} (h_x4 : zs_in x4.toInt 0 7) {x5 : Int32} (h_x5 : zs_in x5.toInt 0 5) {x6 : Int32} (h_x6 : zs_in x6.toInt 0 5) {c : Int} (hc : x4.toInt = c + 0) : zs_ok (BX9_netsTo_72 σ x1 x2 x3 x4 x5 x6) (fun r => zs_sum (fun v => ((True ∧ zs_in (v.2).toInt 1 8)) ∧ v.2.toInt = c + 1) (fun v => False) r) := by
  unfold BX9_netsTo_72
  refine zs_ite (fun c1 => ?_) (fun c1 => ?_)
  · skip
    have r2 := (zs_I_eq c1)
    refine zs_bd_ (zc_68 h_x5) (fun t_2 pt_2 => ?_)
    refine zs_ite (fun c3 => ?_) (fun c3 => ?_)
    · skip
      have r4 := (zs_I_eq c3)
      have g5 : zs_in (t_2).toInt 1 1 := (zs_eql 1 1 r4 pt_2 zlI_1 (by decide))
      obtain ⟨ret, er, hr⟩ := zc_69 h_σ h_x1 h_x4 hc
      refine ⟨ret, er, ?_⟩
      exact (zs_sumw hr (fun v w => ⟨w.1, w.2⟩) (fun v w => w.elim))
    · skip
      have r6 := (zs_I_eqn c3)
      have g7 : zs_in (t_2).toInt 0 0 := (zs_neh 0 0 r6 pt_2 zlI_1 (by decide))
      obtain ⟨ret, er, hr⟩ := zc_67 h_σ h_x1 h_x4 hc
      refine ⟨ret, er, ?_⟩
      exact (zs_sumw hr (fun v w => ⟨w.1, w.2⟩) (fun v w => w.elim))
  · skip
    have r8 := (zs_I_eqn c1)
    obtain ⟨ret, er, hr⟩ := zc_67 h_σ h_x1 h_x4 hc
    refine ⟨ret, er, ?_⟩
    exact (zs_sumw hr (fun v w => ⟨w.1, w.2⟩) (fun v w => w.elim))
-- BX9_netsTo_5
theorem zc_71 {σ0 : sn_S} {σ : sn_S} (h_σ : zs_M σ0 σ) {x1 : Int32} (h_x1 : zs_in x1.toInt 0 5) {x2 : Int32} {x3 : Int32} {x4 : Int32} (h_x4 : zs_in x4.toInt 0 8) {c : Int} (hc : x4.toInt = c + 0) : zs_ok (BX9_netsTo_5 σ x1 x2 x3 x4) (fun r => zs_sum (fun v => ((True ∧ zs_in (v.2).toInt 1 8)) ∧ v.2.toInt = c + 1) (fun v => True) r) := by
  unfold BX9_netsTo_5
  refine zs_gd (zs_gin zlI_7 (by decide)) ?_
  refine zs_ite (fun c1 => ?_) (fun c1 => ?_)
  · skip
    have r2 := (zs_I_le c1)
    exact zs_some (zs_inr (trivial))
  · skip
    have r3 := (zs_I_len c1)
    have g4 : zs_in (x4).toInt 0 7 := (zs_ltl 0 7 r3 h_x4 (zs_rdk (q := 1) (k := (7 : Int32).toNatClampNeg) (z := (0, 8)) h_σ.1 rfl) (by decide))
    have g5 : zs_in ((sn_I σ 1 (7 : Int32).toNatClampNeg)).toInt 1 8 := (zs_ltr 1 8 r3 h_x4 (zs_rdk (q := 1) (k := (7 : Int32).toNatClampNeg) (z := (0, 8)) h_σ.1 rfl) (by decide))
    refine zs_gd (zs_gin (zs_addI 33 47 zlI_33 (zs_mulI 0 14 zlI_2 g4 (by decide)) (by decide)) (by decide)) ?_
    refine zs_lt (Q := fun z => zs_in z.toInt 0 5) (zs_rdb (q := 1) (lo := 0) (hi := 5) h_σ.1 (zs_cases g4 (fun z => zs_bd (zs_tM 1 ((33 : Int32) + ((2 : Int32) * z)).toNatClampNeg) 0 5) (by decide +kernel))) (fun y_4 hy_4 => ?_)
    refine zs_gd (zs_gin (zs_addI 34 48 (zs_addI 33 47 zlI_33 (zs_mulI 0 14 zlI_2 g4 (by decide)) (by decide)) zlI_1 (by decide)) (by decide)) ?_
    refine zs_lt (Q := fun z => zs_in z.toInt 0 5) (zs_rdb (q := 1) (lo := 0) (hi := 5) h_σ.1 (zs_cases g4 (fun z => zs_bd (zs_tM 1 (((33 : Int32) + ((2 : Int32) * z)) + (1 : Int32)).toNatClampNeg) 0 5) (by decide +kernel))) (fun y_7 hy_7 => ?_)
    refine zs_ite (fun c6 => ?_) (fun c6 => ?_)
    · skip
      have r7 := (zs_I_eq c6)
      have g8 : zs_in ((sn_I σ 0 19)).toInt 0 7 := (zs_eqr 0 7 r7 g4 (zs_topI _) (by decide))
      obtain ⟨ret, er, hr⟩ := zc_67 h_σ h_x1 g4 hc
      refine ⟨ret, er, ?_⟩
      exact (zs_sumw hr (fun v w => ⟨w.1, w.2⟩) (fun v w => w.elim))
    · skip
      have r9 := (zs_I_eqn c6)
      refine zs_ite (fun c10 => ?_) (fun c10 => ?_)
      · skip
        have r11 := (zs_I_eq c10)
        refine zs_bd_ (zc_68 hy_7) (fun t_11 pt_11 => ?_)
        refine zs_ite (fun c12 => ?_) (fun c12 => ?_)
        · skip
          have r13 := (zs_I_eq c12)
          have g14 : zs_in (t_11).toInt 1 1 := (zs_eql 1 1 r13 pt_11 zlI_1 (by decide))
          obtain ⟨ret, er, hr⟩ := zc_69 h_σ h_x1 g4 hc
          refine ⟨ret, er, ?_⟩
          exact (zs_sumw hr (fun v w => ⟨w.1, w.2⟩) (fun v w => w.elim))
        · skip
          have r15 := (zs_I_eqn c12)
          have g16 : zs_in (t_11).toInt 0 0 := (zs_neh 0 0 r15 pt_11 zlI_1 (by decide))
          obtain ⟨ret, er, hr⟩ := zc_70 h_σ h_x1 g4 hy_4 hy_7 hc
          refine ⟨ret, er, ?_⟩
          exact (zs_sumw hr (fun v w => ⟨w.1, w.2⟩) (fun v w => w.elim))
      · skip
        have r17 := (zs_I_eqn c10)
        obtain ⟨ret, er, hr⟩ := zc_70 h_σ h_x1 g4 hy_4 hy_7 hc
        refine ⟨ret, er, ?_⟩
        exact (zs_sumw hr (fun v w => ⟨w.1, w.2⟩) (fun v w => w.elim))
theorem zd_11 {σ0 : sn_S} {σ : sn_S} (h_σ : zs_M σ0 σ) {x1 : Int32} (h_x1 : zs_in x1.toInt 0 5) {x2 : Int32} {s0 : (Int32 × Int32)} (h0 : (True ∧ zs_in (s0.2).toInt 0 8)) : zs_ok (sn_it (LX9_netsTo_5 σ x1 x2) 5000 s0) (fun t => True) := by
  refine zs_it (I := fun s => (True ∧ zs_in (s.2).toInt 0 8)) (m := fun s => 8 - s.2.toInt) (fun s hs => ?_) (fun s hs => ?_) (by exact h0)
  · have h1 := hs.2; unfold zs_in at h1
    omega
  · obtain ⟨b, eb, hb⟩ := zc_71 h_σ h_x1 hs.2 (c := s.2.toInt) (Int.add_zero _).symm
    exact ⟨b, eb, zs_sumw hb (fun v w => ⟨⟨w.1.1, (zs_w w.1.2 (by decide))⟩, by have := w.2; omega⟩) (fun v w => w)⟩
-- fX9_netsTo
theorem zc_72 {σ0 : sn_S} {σ : sn_S} (h_σ : zs_M σ0 σ) {x1 : Int32} (h_x1 : zs_in x1.toInt 0 5) {x2 : Int32} : zs_ok (fX9_netsTo σ x1 x2) (fun r => True) := by
  unfold fX9_netsTo
  refine zs_bd_ (zd_11 h_σ h_x1 (s0 := ((0 : Int32), (0 : Int32))) ⟨trivial, (zs_w zlI_0 (by decide))⟩) (fun t_1 pt_1 => ?_)
  obtain ⟨ret, er, hr⟩ := zc_37 h_σ
  refine ⟨ret, er, ?_⟩
  exact hr
-- fX9_bit
theorem zc_73 {x0 : Int32} {x1 : Int32} (h_x1 : zs_in x1.toInt 1 29) : zs_ok (fX9_bit x0 x1) (fun r => zs_in (r).toInt 0 1) := by
  unfold fX9_bit
  exact zs_some (zs_and zlI_1 (by decide))
-- BX9_goMinute_225
theorem zc_74 {σ0 : sn_S} {σ : sn_S} (h_σ : zs_M σ0 σ) {x1 : Int32} (h_x1 : zs_in x1.toInt 1 29) {x2 : Int32} {x3 : Int32} (h_x3 : zs_in x3.toInt 0 5) {c : Int} (hc : x3.toInt = c + 0) : zs_ok (BX9_goMinute_225 σ x1 x2 x3) (fun r => zs_sum (fun v => ((zs_M σ0 v.1 ∧ zs_in (v.2).toInt 1 6)) ∧ v.2.toInt = c + 1) (fun v => False) r) := by
  unfold BX9_goMinute_225
  refine zs_lt (Q := fun z => zs_in z.toInt 1 6 ∧ z.toInt = c + 1) ⟨(zs_addI 1 6 h_x3 zlI_1 (by decide)), (zs_syI 1 hc h_x3 zlI_1 (by decide) (by decide))⟩ (fun y_1 hy_1 => ?_)
  exact zs_some (zs_inl ⟨⟨h_σ, hy_1.1⟩, hy_1.2⟩)
-- BX9_goMinute_192
theorem zc_75 {σ0 : sn_S} {σ : sn_S} (h_σ : zs_M σ0 σ) {x1 : Int32} (h_x1 : zs_in x1.toInt 1 29) {x2 : Int32} {x3 : Int32} (h_x3 : zs_in x3.toInt 0 5) {x7 : Int32} (h_x7 : zs_in x7.toInt 0 0) {t1 : Int32} (h_t1 : zs_in t1.toInt 6 179) {t2 : Int32} (h_t2 : zs_in t2.toInt (-2147483648) 98) {c : Int} (hc : x3.toInt = c + 0) : zs_ok (BX9_goMinute_192 σ x1 x2 x3 x7 t1 t2) (fun r => zs_sum (fun v => ((zs_M σ0 v.1 ∧ zs_in (v.2).toInt 1 6)) ∧ v.2.toInt = c + 1) (fun v => False) r) := by
  unfold BX9_goMinute_192
  obtain rfl : x7 = (0 : Int32) := zs_eqv h_x7 (by decide)
  refine zs_gd (zs_gin h_t1 (by decide)) ?_
  refine zs_lt (Q := fun z => zs_M σ0 z) (zs_wrt h_σ (fun _ => rfl) (fun _ => rfl)) (fun σ_2 hσ_2 => ?_)
  refine zs_ite (fun c1 => ?_) (fun c1 => ?_)
  · skip
    have r2 := (zs_I_eq c1)
    obtain ⟨ret, er, hr⟩ := zc_74 hσ_2 h_x1 h_x3 hc
    refine ⟨ret, er, ?_⟩
    exact (zs_sumw hr (fun v w => ⟨w.1, w.2⟩) (fun v w => w.elim))
  · skip
    have r3 := (zs_I_eqn c1)
    exact (zs_botne r3 h_x7 zlI_0 (by decide)).elim
-- BX9_goMinute_145
theorem zc_76 {σ0 : sn_S} {σ : sn_S} (h_σ : zs_M σ0 σ) {x1 : Int32} (h_x1 : zs_in x1.toInt 1 29) {x2 : Int32} {x3 : Int32} (h_x3 : zs_in x3.toInt 0 5) {x4 : Int32} {x5 : Int32} {x6 : Int32} (h_x6 : zs_in x6.toInt (-2147483648) 98) {t0 : Int32} (h_t0 : zs_in t0.toInt 0 0) {c : Int} (hc : x3.toInt = c + 0) : zs_ok (BX9_goMinute_145 σ x1 x2 x3 x4 x5 x6 t0) (fun r => zs_sum (fun v => ((zs_M σ0 v.1 ∧ zs_in (v.2).toInt 1 6)) ∧ v.2.toInt = c + 1) (fun v => False) r) := by
  unfold BX9_goMinute_145
  obtain rfl : t0 = (0 : Int32) := zs_eqv h_t0 (by decide)
  refine zs_gd (zs_gin h_x3 (by decide)) ?_
  refine zs_gd (zs_gin h_x3 (by decide)) ?_
  refine zs_lt (Q := fun z => zs_M σ0 z) (zs_wrt h_σ (fun _ => rfl) (fun _ => rfl)) (fun σ_3 hσ_3 => ?_)
  refine zs_gd (zs_gin (zs_addI 6 179 (zs_mulI 6 174 zlI_6 h_x1 (by decide)) h_x3 (by decide)) (by decide)) ?_
  refine zs_lt (Q := fun z => zs_M σ0 z) (zs_wrt hσ_3 (fun _ => rfl) (fun _ => rfl)) (fun σ_6 hσ_6 => ?_)
  refine zs_ite (fun c1 => ?_) (fun c1 => ?_)
  · skip
    have r2 := (zs_I_eq c1)
    obtain ⟨ret, er, hr⟩ := zc_75 hσ_6 h_x1 h_x3 h_t0 (zs_addI 6 179 (zs_mulI 6 174 zlI_6 h_x1 (by decide)) h_x3 (by decide)) h_x6 hc
    refine ⟨ret, er, ?_⟩
    exact (zs_sumw hr (fun v w => ⟨w.1, w.2⟩) (fun v w => w.elim))
  · skip
    have r3 := (zs_I_eqn c1)
    exact (zs_botne r3 h_t0 zlI_0 (by decide)).elim
-- BX9_goMinute_144
theorem zc_77 {σ0 : sn_S} {σ : sn_S} (h_σ : zs_M σ0 σ) {x1 : Int32} (h_x1 : zs_in x1.toInt 1 29) {x2 : Int32} {x3 : Int32} (h_x3 : zs_in x3.toInt 0 5) {x4 : Int32} {x5 : Int32} {x6 : Int32} (h_x6 : zs_in x6.toInt (-2147483648) 98) {c : Int} (hc : x3.toInt = c + 0) : zs_ok (BX9_goMinute_144 σ x1 x2 x3 x4 x5 x6) (fun r => zs_sum (fun v => ((zs_M σ0 v.1 ∧ zs_in (v.2).toInt 1 6)) ∧ v.2.toInt = c + 1) (fun v => False) r) := by
  unfold BX9_goMinute_144
  obtain ⟨ret, er, hr⟩ := zc_76 h_σ h_x1 h_x3 h_x6 zlI_0 hc
  refine ⟨ret, er, ?_⟩
  exact (zs_sumw hr (fun v w => ⟨w.1, w.2⟩) (fun v w => w.elim))
-- BX9_goMinute_192
theorem zc_78 {σ0 : sn_S} {σ : sn_S} (h_σ : zs_M σ0 σ) {x1 : Int32} (h_x1 : zs_in x1.toInt 1 29) {x2 : Int32} {x3 : Int32} (h_x3 : zs_in x3.toInt 0 5) {x7 : Int32} (h_x7 : zs_in x7.toInt 1 1) {t1 : Int32} (h_t1 : zs_in t1.toInt 6 179) {t2 : Int32} (h_t2 : zs_in t2.toInt 0 0) {c : Int} (hc : x3.toInt = c + 0) : zs_ok (BX9_goMinute_192 σ x1 x2 x3 x7 t1 t2) (fun r => zs_sum (fun v => ((zs_M σ0 v.1 ∧ zs_in (v.2).toInt 1 6)) ∧ v.2.toInt = c + 1) (fun v => False) r) := by
  unfold BX9_goMinute_192
  obtain rfl : x7 = (1 : Int32) := zs_eqv h_x7 (by decide)
  obtain rfl : t2 = (0 : Int32) := zs_eqv h_t2 (by decide)
  refine zs_gd (zs_gin h_t1 (by decide)) ?_
  refine zs_lt (Q := fun z => zs_M σ0 z) (zs_wrt h_σ (fun _ => rfl) (fun _ => rfl)) (fun σ_2 hσ_2 => ?_)
  refine zs_ite (fun c1 => ?_) (fun c1 => ?_)
  · skip
    have r2 := (zs_I_eq c1)
    exact (zs_botr r2 h_x7 zlI_0 (by decide)).elim
  · skip
    have r3 := (zs_I_eqn c1)
    refine zs_gd (zs_gin h_x1 (by decide)) ?_
    refine zs_gd (zs_gin h_x1 (by decide)) ?_
    refine zs_lt (Q := fun z => zs_M σ0 z) (zs_wrt hσ_2 (fun _ => rfl) (fun _ => rfl)) (fun σ_7 hσ_7 => ?_)
    refine zs_gd (zs_gin h_x3 (by decide)) ?_
    refine zs_gd (zs_gin h_x3 (by decide)) ?_
    refine zs_lt (Q := fun z => zs_M σ0 z) (zs_wru (z := (0, 1073741823)) hσ_7 (fun _ => rfl) (zs_or 30 1073741823 (zs_rdu (q := 10) (z := (0, 1073741823)) hσ_7.1 (fun _ => rfl)) (zs_cases h_x1 (fun z => zs_in ((1 : Int32) <<< (z &&& 31)).toInt 2 536870912) (by decide +kernel)) (by decide)) (by decide) (fun _ => rfl)) (fun σ_11 hσ_11 => ?_)
    obtain ⟨ret, er, hr⟩ := zc_74 hσ_11 h_x1 h_x3 hc
    refine ⟨ret, er, ?_⟩
    exact (zs_sumw hr (fun v w => ⟨w.1, w.2⟩) (fun v w => w.elim))
-- BX9_goMinute_145
theorem zc_79 {σ0 : sn_S} {σ : sn_S} (h_σ : zs_M σ0 σ) {x1 : Int32} (h_x1 : zs_in x1.toInt 1 29) {x2 : Int32} {x3 : Int32} (h_x3 : zs_in x3.toInt 0 5) {x4 : Int32} {x5 : Int32} {x6 : Int32} (h_x6 : zs_in x6.toInt 0 2147483647) {t0 : Int32} (h_t0 : zs_in t0.toInt 1 1) {c : Int} (hc : x3.toInt = c + 0) : zs_ok (BX9_goMinute_145 σ x1 x2 x3 x4 x5 x6 t0) (fun r => zs_sum (fun v => ((zs_M σ0 v.1 ∧ zs_in (v.2).toInt 1 6)) ∧ v.2.toInt = c + 1) (fun v => False) r) := by
  unfold BX9_goMinute_145
  obtain rfl : t0 = (1 : Int32) := zs_eqv h_t0 (by decide)
  refine zs_gd (zs_gin h_x3 (by decide)) ?_
  refine zs_gd (zs_gin h_x3 (by decide)) ?_
  refine zs_lt (Q := fun z => zs_M σ0 z) (zs_wrt h_σ (fun _ => rfl) (fun _ => rfl)) (fun σ_3 hσ_3 => ?_)
  refine zs_gd (zs_gin (zs_addI 6 179 (zs_mulI 6 174 zlI_6 h_x1 (by decide)) h_x3 (by decide)) (by decide)) ?_
  refine zs_lt (Q := fun z => zs_M σ0 z) (zs_wrt hσ_3 (fun _ => rfl) (fun _ => rfl)) (fun σ_6 hσ_6 => ?_)
  refine zs_ite (fun c1 => ?_) (fun c1 => ?_)
  · skip
    have r2 := (zs_I_eq c1)
    exact (zs_botr r2 h_t0 zlI_0 (by decide)).elim
  · skip
    have r3 := (zs_I_eqn c1)
    obtain ⟨ret, er, hr⟩ := zc_78 hσ_6 h_x1 h_x3 h_t0 (zs_addI 6 179 (zs_mulI 6 174 zlI_6 h_x1 (by decide)) h_x3 (by decide)) zlI_0 hc
    refine ⟨ret, er, ?_⟩
    exact (zs_sumw hr (fun v w => ⟨w.1, w.2⟩) (fun v w => w.elim))
-- BX9_goMinute_192
theorem zc_80 {σ0 : sn_S} {σ : sn_S} (h_σ : zs_M σ0 σ) {x1 : Int32} (h_x1 : zs_in x1.toInt 1 29) {x2 : Int32} {x3 : Int32} (h_x3 : zs_in x3.toInt 0 5) {x7 : Int32} (h_x7 : zs_in x7.toInt 0 0) {t1 : Int32} (h_t1 : zs_in t1.toInt 6 179) {t2 : Int32} (h_t2 : zs_in t2.toInt 0 2147483647) {c : Int} (hc : x3.toInt = c + 0) : zs_ok (BX9_goMinute_192 σ x1 x2 x3 x7 t1 t2) (fun r => zs_sum (fun v => ((zs_M σ0 v.1 ∧ zs_in (v.2).toInt 1 6)) ∧ v.2.toInt = c + 1) (fun v => False) r) := by
  unfold BX9_goMinute_192
  obtain rfl : x7 = (0 : Int32) := zs_eqv h_x7 (by decide)
  refine zs_gd (zs_gin h_t1 (by decide)) ?_
  refine zs_lt (Q := fun z => zs_M σ0 z) (zs_wrt h_σ (fun _ => rfl) (fun _ => rfl)) (fun σ_2 hσ_2 => ?_)
  refine zs_ite (fun c1 => ?_) (fun c1 => ?_)
  · skip
    have r2 := (zs_I_eq c1)
    obtain ⟨ret, er, hr⟩ := zc_74 hσ_2 h_x1 h_x3 hc
    refine ⟨ret, er, ?_⟩
    exact (zs_sumw hr (fun v w => ⟨w.1, w.2⟩) (fun v w => w.elim))
  · skip
    have r3 := (zs_I_eqn c1)
    exact (zs_botne r3 h_x7 zlI_0 (by decide)).elim
-- BX9_goMinute_145
theorem zc_81 {σ0 : sn_S} {σ : sn_S} (h_σ : zs_M σ0 σ) {x1 : Int32} (h_x1 : zs_in x1.toInt 1 29) {x2 : Int32} {x3 : Int32} (h_x3 : zs_in x3.toInt 0 5) {x4 : Int32} {x5 : Int32} {x6 : Int32} (h_x6 : zs_in x6.toInt 0 2147483647) {t0 : Int32} (h_t0 : zs_in t0.toInt 0 0) {c : Int} (hc : x3.toInt = c + 0) : zs_ok (BX9_goMinute_145 σ x1 x2 x3 x4 x5 x6 t0) (fun r => zs_sum (fun v => ((zs_M σ0 v.1 ∧ zs_in (v.2).toInt 1 6)) ∧ v.2.toInt = c + 1) (fun v => False) r) := by
  unfold BX9_goMinute_145
  obtain rfl : t0 = (0 : Int32) := zs_eqv h_t0 (by decide)
  refine zs_gd (zs_gin h_x3 (by decide)) ?_
  refine zs_gd (zs_gin h_x3 (by decide)) ?_
  refine zs_lt (Q := fun z => zs_M σ0 z) (zs_wrt h_σ (fun _ => rfl) (fun _ => rfl)) (fun σ_3 hσ_3 => ?_)
  refine zs_gd (zs_gin (zs_addI 6 179 (zs_mulI 6 174 zlI_6 h_x1 (by decide)) h_x3 (by decide)) (by decide)) ?_
  refine zs_lt (Q := fun z => zs_M σ0 z) (zs_wrt hσ_3 (fun _ => rfl) (fun _ => rfl)) (fun σ_6 hσ_6 => ?_)
  refine zs_ite (fun c1 => ?_) (fun c1 => ?_)
  · skip
    have r2 := (zs_I_eq c1)
    obtain ⟨ret, er, hr⟩ := zc_80 hσ_6 h_x1 h_x3 h_t0 (zs_addI 6 179 (zs_mulI 6 174 zlI_6 h_x1 (by decide)) h_x3 (by decide)) h_x6 hc
    refine ⟨ret, er, ?_⟩
    exact (zs_sumw hr (fun v w => ⟨w.1, w.2⟩) (fun v w => w.elim))
  · skip
    have r3 := (zs_I_eqn c1)
    exact (zs_botne r3 h_t0 zlI_0 (by decide)).elim
-- BX9_goMinute_144
theorem zc_82 {σ0 : sn_S} {σ : sn_S} (h_σ : zs_M σ0 σ) {x1 : Int32} (h_x1 : zs_in x1.toInt 1 29) {x2 : Int32} {x3 : Int32} (h_x3 : zs_in x3.toInt 0 5) {x4 : Int32} {x5 : Int32} {x6 : Int32} (h_x6 : zs_in x6.toInt 0 2147483647) {c : Int} (hc : x3.toInt = c + 0) : zs_ok (BX9_goMinute_144 σ x1 x2 x3 x4 x5 x6) (fun r => zs_sum (fun v => ((zs_M σ0 v.1 ∧ zs_in (v.2).toInt 1 6)) ∧ v.2.toInt = c + 1) (fun v => False) r) := by
  unfold BX9_goMinute_144
  obtain ⟨ret, er, hr⟩ := zc_81 h_σ h_x1 h_x3 h_x6 zlI_0 hc
  refine ⟨ret, er, ?_⟩
  exact (zs_sumw hr (fun v w => ⟨w.1, w.2⟩) (fun v w => w.elim))
-- BX9_goMinute_104
theorem zc_83 {σ0 : sn_S} {σ : sn_S} (h_σ : zs_M σ0 σ) {x1 : Int32} (h_x1 : zs_in x1.toInt 1 29) {x2 : Int32} {x3 : Int32} (h_x3 : zs_in x3.toInt 0 5) {x4 : Int32} {x5 : Int32} {t0 : Int32} {c : Int} (hc : x3.toInt = c + 0) : zs_ok (BX9_goMinute_104 σ x1 x2 x3 x4 x5 t0) (fun r => zs_sum (fun v => ((zs_M σ0 v.1 ∧ zs_in (v.2).toInt 1 6)) ∧ v.2.toInt = c + 1) (fun v => False) r) := by
  unfold BX9_goMinute_104
  refine zs_lt (Q := fun z => True) trivial (fun y_1 hy_1 => ?_)
  refine zs_gd (zs_gin (zs_addI 12 22 (zs_addI 11 21 zlI_11 (zs_mulI 0 10 zlI_2 h_x3 (by decide)) (by decide)) zlI_1 (by decide)) (by decide)) ?_
  refine zs_ite (fun c1 => ?_) (fun c1 => ?_)
  · skip
    have r2 := (zs_I_lt c1)
    have g3 : zs_in (y_1).toInt (-2147483648) 98 := (zs_ltl (-2147483648) 98 r2 (zs_topI _) (zs_rdb (q := 1) (lo := 0) (hi := 99) h_σ.1 (zs_cases h_x3 (fun z => zs_bd (zs_tM 1 (((11 : Int32) + ((2 : Int32) * z)) + (1 : Int32)).toNatClampNeg) 0 99) (by decide +kernel))) (by decide))
    obtain ⟨ret, er, hr⟩ := zc_77 h_σ h_x1 h_x3 g3 hc
    refine ⟨ret, er, ?_⟩
    exact (zs_sumw hr (fun v w => ⟨w.1, w.2⟩) (fun v w => w.elim))
  · skip
    have r4 := (zs_I_ltn c1)
    have g5 : zs_in (y_1).toInt 0 2147483647 := (zs_ler 0 2147483647 r4 (zs_rdb (q := 1) (lo := 0) (hi := 99) h_σ.1 (zs_cases h_x3 (fun z => zs_bd (zs_tM 1 (((11 : Int32) + ((2 : Int32) * z)) + (1 : Int32)).toNatClampNeg) 0 99) (by decide +kernel))) (zs_topI _) (by decide))
    refine zs_gd (zs_gin h_x3 (by decide)) ?_
    refine zs_bd_ (zc_73 h_x1) (fun t_6 pt_6 => ?_)
    refine zs_ite (fun c6 => ?_) (fun c6 => ?_)
    · skip
      have r7 := (zs_I_eq c6)
      have g8 : zs_in (t_6).toInt 0 0 := (zs_eql 0 0 r7 pt_6 zlI_0 (by decide))
      obtain ⟨ret, er, hr⟩ := zc_79 h_σ h_x1 h_x3 g5 zlI_1 hc
      refine ⟨ret, er, ?_⟩
      exact (zs_sumw hr (fun v w => ⟨w.1, w.2⟩) (fun v w => w.elim))
    · skip
      have r9 := (zs_I_eqn c6)
      have g10 : zs_in (t_6).toInt 1 1 := (zs_nel 1 1 r9 pt_6 zlI_0 (by decide))
      obtain ⟨ret, er, hr⟩ := zc_82 h_σ h_x1 h_x3 g5 hc
      refine ⟨ret, er, ?_⟩
      exact (zs_sumw hr (fun v w => ⟨w.1, w.2⟩) (fun v w => w.elim))
-- BX9_goMinute_26
theorem zc_84 {σ0 : sn_S} {σ : sn_S} (h_σ : zs_M σ0 σ) {x1 : Int32} (h_x1 : zs_in x1.toInt 1 29) {x2 : Int32} {x3 : Int32} (h_x3 : zs_in x3.toInt 0 6) {c : Int} (hc : x3.toInt = c + 0) : zs_ok (BX9_goMinute_26 σ x1 x2 x3) (fun r => zs_sum (fun v => ((zs_M σ0 v.1 ∧ zs_in (v.2).toInt 1 6)) ∧ v.2.toInt = c + 1) (fun v => zs_M σ0 v) r) := by
  unfold BX9_goMinute_26
  refine zs_gd (zs_gin zlI_5 (by decide)) ?_
  refine zs_ite (fun c1 => ?_) (fun c1 => ?_)
  · skip
    have r2 := (zs_I_le c1)
    exact zs_some (zs_inr (h_σ))
  · skip
    have r3 := (zs_I_len c1)
    have g4 : zs_in (x3).toInt 0 5 := (zs_ltl 0 5 r3 h_x3 (zs_rdk (q := 1) (k := (5 : Int32).toNatClampNeg) (z := (0, 6)) h_σ.1 rfl) (by decide))
    have g5 : zs_in ((sn_I σ 1 (5 : Int32).toNatClampNeg)).toInt 1 6 := (zs_ltr 1 6 r3 h_x3 (zs_rdk (q := 1) (k := (5 : Int32).toNatClampNeg) (z := (0, 6)) h_σ.1 rfl) (by decide))
    refine zs_bd_ (zc_72 h_σ g4) (fun t_3 pt_3 => ?_)
    refine zs_lt (Q := fun z => True) trivial (fun y_5 hy_5 => ?_)
    refine zs_gd (zs_gin (zs_addI 11 21 zlI_11 (zs_mulI 0 10 zlI_2 g4 (by decide)) (by decide)) (by decide)) ?_
    refine zs_gd (zs_gin h_x1 (by decide)) ?_
    refine zs_gd (zs_gin g4 (by decide)) ?_
    refine zs_bd_ (zc_73 h_x1) (fun t_10 pt_10 => ?_)
    refine zs_lt (Q := fun z => True) trivial (fun y_12 hy_12 => ?_)
    refine zs_ite (fun c6 => ?_) (fun c6 => ?_)
    · skip
      have r7 := (zs_I_eq c6)
      exact (zs_botr r7 h_x1 zlI_0 (by decide)).elim
    · skip
      have r8 := (zs_I_eqn c6)
      refine zs_gd (zs_gin (zs_addI 0 173 (zs_mulI 0 168 zlI_6 (zs_subI 0 28 h_x1 zlI_1 (by decide)) (by decide)) g4 (by decide)) (by decide)) ?_
      obtain ⟨ret, er, hr⟩ := zc_83 h_σ h_x1 g4 hc
      refine ⟨ret, er, ?_⟩
      exact (zs_sumw hr (fun v w => ⟨w.1, w.2⟩) (fun v w => w.elim))
theorem zd_12 {σ0 : sn_S} {x1 : Int32} (h_x1 : zs_in x1.toInt 1 29) {x2 : Int32} {s0 : (sn_S × Int32)} (h0 : (zs_M σ0 s0.1 ∧ zs_in (s0.2).toInt 0 6)) : zs_ok (sn_it (LX9_goMinute_26 x1 x2) 5000 s0) (fun t => zs_M σ0 t) := by
  refine zs_it (I := fun s => (zs_M σ0 s.1 ∧ zs_in (s.2).toInt 0 6)) (m := fun s => 6 - s.2.toInt) (fun s hs => ?_) (fun s hs => ?_) (by exact h0)
  · have h1 := hs.2; unfold zs_in at h1
    omega
  · obtain ⟨b, eb, hb⟩ := zc_84 hs.1 h_x1 hs.2 (c := s.2.toInt) (Int.add_zero _).symm
    exact ⟨b, eb, zs_sumw hb (fun v w => ⟨⟨w.1.1, (zs_w w.1.2 (by decide))⟩, by have := w.2; omega⟩) (fun v w => w)⟩
-- BX9_goMinute_23
theorem zc_85 {σ0 : sn_S} {σ : sn_S} (h_σ : zs_M σ0 σ) {x1 : Int32} (h_x1 : zs_in x1.toInt 1 29) {t0 : Int32} : zs_ok (BX9_goMinute_23 σ x1 t0) (fun r => zs_M σ0 r) := by
  unfold BX9_goMinute_23
  refine zs_bd_ (zd_12 h_x1 (s0 := (σ, (0 : Int32))) ⟨h_σ, (zs_w zlI_0 (by decide))⟩) (fun t_1 pt_1 => ?_)
  obtain ⟨ret, er, hr⟩ := zc_65 pt_1
  refine ⟨ret, er, ?_⟩
  exact hr
-- fX9_goMinute
theorem zc_86 {σ0 : sn_S} {σ : sn_S} (h_σ : zs_M σ0 σ) {x1 : Int32} (h_x1 : zs_in x1.toInt 0 29) : zs_ok (fX9_goMinute σ x1) (fun r => zs_M σ0 r) := by
  unfold fX9_goMinute
  refine zs_gd (zs_gin h_x1 (by decide)) ?_
  refine zs_lt (Q := fun z => zs_M σ0 z) (zs_wrt h_σ (fun _ => rfl) (fun _ => rfl)) (fun σ_2 hσ_2 => ?_)
  refine zs_ite (fun c1 => ?_) (fun c1 => ?_)
  · skip
    have r2 := (zs_I_eq c1)
    have g3 : zs_in (x1).toInt 0 0 := (zs_eql 0 0 r2 h_x1 zlI_0 (by decide))
    obtain ⟨ret, er, hr⟩ := zc_66 hσ_2 g3 zlI_0
    refine ⟨ret, er, ?_⟩
    exact hr
  · skip
    have r4 := (zs_I_eqn c1)
    have g5 : zs_in (x1).toInt 1 29 := (zs_nel 1 29 r4 h_x1 zlI_0 (by decide))
    refine zs_gd (zs_gin (zs_subI 0 28 g5 zlI_1 (by decide)) (by decide)) ?_
    obtain ⟨ret, er, hr⟩ := zc_85 hσ_2 g5
    refine ⟨ret, er, ?_⟩
    exact hr
-- BX9_goAll_30
theorem zc_87 {σ0 : sn_S} {σ : sn_S} (h_σ : zs_M σ0 σ) {x1 : Int32} (h_x1 : zs_in x1.toInt 0 30) {c : Int} (hc : x1.toInt = c + 0) : zs_ok (BX9_goAll_30 σ x1) (fun r => zs_sum (fun v => ((zs_M σ0 v.1 ∧ zs_in (v.2).toInt 1 30)) ∧ v.2.toInt = c + 1) (fun v => zs_M σ0 v) r) := by
  unfold BX9_goAll_30
  refine zs_ite (fun c1 => ?_) (fun c1 => ?_)
  · skip
    have r2 := (zs_I_lt c1)
    exact zs_some (zs_inr (h_σ))
  · skip
    have r3 := (zs_I_ltn c1)
    have g4 : zs_in (x1).toInt 0 29 := (zs_lel 0 29 r3 h_x1 (zs_rdk (q := 0) (k := 22) (z := ((-1), 29)) h_σ.1 rfl) (by decide))
    have g5 : zs_in ((sn_I σ 0 22)).toInt 0 29 := (zs_ler 0 29 r3 h_x1 (zs_rdk (q := 0) (k := 22) (z := ((-1), 29)) h_σ.1 rfl) (by decide))
    refine zs_bd_ (zc_86 h_σ g4) (fun t_2 pt_2 => ?_)
    refine zs_lt (Q := fun z => zs_in z.toInt 1 30 ∧ z.toInt = c + 1) ⟨(zs_addI 1 30 g4 zlI_1 (by decide)), (zs_syI 1 hc g4 zlI_1 (by decide) (by decide))⟩ (fun y_4 hy_4 => ?_)
    exact zs_some (zs_inl ⟨⟨pt_2, hy_4.1⟩, hy_4.2⟩)
theorem zd_13 {σ0 : sn_S}  {s0 : (sn_S × Int32)} (h0 : (zs_M σ0 s0.1 ∧ zs_in (s0.2).toInt 0 30)) : zs_ok (sn_it (LX9_goAll_30) 5000 s0) (fun t => zs_M σ0 t) := by
  refine zs_it (I := fun s => (zs_M σ0 s.1 ∧ zs_in (s.2).toInt 0 30)) (m := fun s => 30 - s.2.toInt) (fun s hs => ?_) (fun s hs => ?_) (by exact h0)
  · have h1 := hs.2; unfold zs_in at h1
    omega
  · obtain ⟨b, eb, hb⟩ := zc_87 hs.1 hs.2 (c := s.2.toInt) (Int.add_zero _).symm
    exact ⟨b, eb, zs_sumw hb (fun v w => ⟨⟨w.1.1, (zs_w w.1.2 (by decide))⟩, by have := w.2; omega⟩) (fun v w => w)⟩
-- BX9_goAll_49
theorem zc_88 {σ0 : sn_S} {σ : sn_S} (h_σ : zs_M σ0 σ) : zs_ok (BX9_goAll_49 σ) (fun r => zs_M σ0 r) := by
  unfold BX9_goAll_49
  exact zs_some h_σ
-- BX9_goAll_28
theorem zc_89 {σ0 : sn_S} {σ : sn_S} (h_σ : zs_M σ0 σ) : zs_ok (BX9_goAll_28 σ) (fun r => zs_M σ0 r) := by
  unfold BX9_goAll_28
  refine zs_bd_ (zd_13  (s0 := (σ, (0 : Int32))) ⟨h_σ, (zs_w zlI_0 (by decide))⟩) (fun t_1 pt_1 => ?_)
  obtain ⟨ret, er, hr⟩ := zc_88 pt_1
  refine ⟨ret, er, ?_⟩
  exact hr
-- fX9_goAll
theorem zc_90 {σ0 : sn_S} {σ : sn_S} (h_σ : zs_M σ0 σ) : zs_ok (fX9_goAll σ) (fun r => zs_M σ0 r) := by
  unfold fX9_goAll
  refine zs_bd_ (zd_8  (s0 := (σ, (0 : Int32))) ⟨h_σ, (zs_w zlI_0 (by decide))⟩) (fun t_1 pt_1 => ?_)
  obtain ⟨ret, er, hr⟩ := zc_89 pt_1
  refine ⟨ret, er, ?_⟩
  exact hr
-- fX9_isHouse
theorem zc_91 {σ0 : sn_S} {σ : sn_S} (h_σ : zs_M σ0 σ) : zs_ok (fX9_isHouse σ) (fun r => zs_in (r).toInt 0 1) := by
  unfold fX9_isHouse
  refine zs_gd (zs_gin zlI_10 (by decide)) ?_
  refine zs_ite (fun c1 => ?_) (fun c1 => ?_)
  · skip
    have r2 := (zs_I_le c1)
    have g3 : zs_in ((sn_I σ 1 (10 : Int32).toNatClampNeg)).toInt 0 0 := (zs_lel 0 0 r2 (zs_rdk (q := 1) (k := (10 : Int32).toNatClampNeg) (z := (0, 900)) h_σ.1 rfl) zlI_0 (by decide))
    refine zs_gd (zs_b01 zlI_0 (by decide)) ?_
    exact zs_some (zs_w zlI_0 (by decide))
  · skip
    have r4 := (zs_I_len c1)
    have g5 : zs_in ((sn_I σ 1 (10 : Int32).toNatClampNeg)).toInt 1 900 := (zs_ltr 1 900 r4 zlI_0 (zs_rdk (q := 1) (k := (10 : Int32).toNatClampNeg) (z := (0, 900)) h_σ.1 rfl) (by decide))
    refine zs_gd (zs_b01 zlI_1 (by decide)) ?_
    exact zs_some (zs_w zlI_1 (by decide))
-- fX9_asksHouse
theorem zc_92 {σ0 : sn_S} {σ : sn_S} (h_σ : zs_M σ0 σ) : zs_ok (fX9_asksHouse σ) (fun r => (zs_in (r.1).toInt 0 1 ∧ zs_M σ0 r.2)) := by
  unfold fX9_asksHouse
  refine zs_bd_ (zc_31 h_σ) (fun t_1 pt_1 => ?_)
  refine zs_bd_ (zc_90 pt_1) (fun t_3 pt_3 => ?_)
  refine zs_bd_ (zc_91 pt_3) (fun t_5 pt_5 => ?_)
  refine zs_gd (zs_b01 pt_5 (by decide)) ?_
  exact zs_some ⟨pt_5, pt_3⟩
-- fX9_in
theorem zc_93 {x0 : Int64} (h_x0 : zs_in x0.toInt (-2147483648) 2147483647) {x2 : Int64} (h_x2 : zs_in x2.toInt 0 0) {x4 : Int64} (h_x4 : zs_in x4.toInt (-1) 29) : zs_ok (fX9_in x0 x2 x4) (fun r => (zs_in (r).toInt 0 1) ∧ ((r).toInt = 0 ∨ (zs_in (x0).toInt 0 29 ∧ zs_in (x4).toInt 0 29))) := by
  unfold fX9_in
  refine zs_ite (fun c1 => ?_) (fun c1 => ?_)
  · skip
    have r2 := (zs_lg_lt c1)
    have g3 : zs_in (x0).toInt (-2147483648) (-1) := (zs_ltl (-2147483648) (-1) r2 h_x0 h_x2 (by decide))
    refine zs_gd (zs_b01 zlI_0 (by decide)) ?_
    exact zs_some ⟨(zs_w zlI_0 (by decide)), Or.inl (zs_ptr zlI_0)⟩
  · skip
    have r4 := (zs_lg_ltn c1)
    have g5 : zs_in (x0).toInt 0 2147483647 := (zs_ler 0 2147483647 r4 h_x2 h_x0 (by decide))
    refine zs_ite (fun c6 => ?_) (fun c6 => ?_)
    · skip
      have r7 := (zs_lg_ltf c6)
      refine zs_gd (zs_b01 zlI_0 (by decide)) ?_
      exact zs_some ⟨(zs_w zlI_0 (by decide)), Or.inl (zs_ptr zlI_0)⟩
    · skip
      have r8 := (zs_lg_ltfn c6)
      have g9 : zs_in (x0).toInt 0 29 := (zs_lel 0 29 r8 g5 h_x4 (by decide))
      have g10 : zs_in (x4).toInt 0 29 := (zs_ler 0 29 r8 g5 h_x4 (by decide))
      refine zs_gd (zs_b01 zlI_1 (by decide)) ?_
      exact zs_some ⟨(zs_w zlI_1 (by decide)), Or.inr ⟨g9, g10⟩⟩
-- fX9_isMinute
theorem zc_94 {σ0 : sn_S} {σ : sn_S} (h_σ : zs_M σ0 σ) {x1 : Int64} (h_x1 : zs_in x1.toInt (-2147483648) 2147483647) : zs_ok (fX9_isMinute σ x1) (fun r => (zs_in (r).toInt 0 1) ∧ ((r).toInt = 0 ∨ (zs_in (x1).toInt 0 29))) := by
  unfold fX9_isMinute
  refine zs_gd (zs_gin zlI_0 (by decide)) ?_
  refine zs_bd_ (zc_93 h_x1 zlL_0 (zs_64 (zs_subI (-1) 29 (zs_rdk (q := 1) (k := (0 : Int32).toNatClampNeg) (z := (0, 30)) h_σ.1 rfl) zlI_1 (by decide)))) (fun t_2 pt_2 => ?_)
  refine zs_gd (zs_b01 pt_2.1 (by decide)) ?_
  rcases pt_2.2 with z0 | z0
  · skip
    have g1 : zs_in (t_2).toInt 0 0 := (zs_pt z0)
    exact zs_some ⟨(zs_w g1 (by decide)), Or.inl (zs_ptr g1)⟩
  · skip
    have q2 := z0
    have g3 : zs_in (x1).toInt 0 29 := q2.1
    have g4 : zs_in (((sn_I σ 1 (0 : Int32).toNatClampNeg) - (1 : Int32)).toInt64).toInt 0 29 := q2.2
    have g5 : zs_in (((sn_I σ 1 (0 : Int32).toNatClampNeg) - (1 : Int32))).toInt 0 29 := (zs_64r g4)
    have g6 : zs_in ((sn_I σ 1 (0 : Int32).toNatClampNeg)).toInt 1 30 := (zs_sublI 1 30 (zs_rdk (q := 1) (k := (0 : Int32).toNatClampNeg) (z := (0, 30)) h_σ.1 rfl) zlI_1 g5 (by decide))
    exact zs_some ⟨pt_2.1, Or.inr g3⟩
-- fX9_asksMinute
theorem zc_95 {σ0 : sn_S} {σ : sn_S} (h_σ : zs_M σ0 σ) {x1 : Int32} : zs_ok (fX9_asksMinute σ x1) (fun r => ((zs_in (r.1).toInt 0 1 ∧ zs_M σ0 r.2)) ∧ ((r.1).toInt = 0 ∨ (zs_in (x1).toInt 0 29))) := by
  unfold fX9_asksMinute
  refine zs_bd_ (zc_92 h_σ) (fun t_1 pt_1 => ?_)
  refine zs_bd_ (zc_94 pt_1.2 (zs_64 (zs_topI _))) (fun t_3 pt_3 => ?_)
  refine zs_gd (zs_b01 pt_3.1 (by decide)) ?_
  rcases pt_3.2 with z0 | z0
  · skip
    have g1 : zs_in (t_3).toInt 0 0 := (zs_pt z0)
    exact zs_some ⟨⟨(zs_w g1 (by decide)), pt_1.2⟩, Or.inl (zs_ptr g1)⟩
  · skip
    have q2 := z0
    have g3 : zs_in (x1.toInt64).toInt 0 29 := q2
    have g4 : zs_in (x1).toInt 0 29 := (zs_64r g3)
    exact zs_some ⟨⟨pt_3.1, pt_1.2⟩, Or.inr g4⟩
-- fX9_dust
theorem zc_96 {σ0 : sn_S} {σ : sn_S} (h_σ : zs_M σ0 σ) {x1 : Int32} : zs_ok (fX9_dust σ x1) (fun r => ((True ∧ zs_M σ0 r.2)) ∧ ((r.1).toInt = (-2) ∨ (zs_in (x1).toInt 0 29))) := by
  unfold fX9_dust
  refine zs_bd_ (zc_95 h_σ) (fun t_1 pt_1 => ?_)
  refine zs_ite (fun c1 => ?_) (fun c1 => ?_)
  · skip
    have r2 := (zs_I_eq c1)
    have g3 : zs_in (t_1.1).toInt 0 0 := (zs_eql 0 0 r2 pt_1.1.1 zlI_0 (by decide))
    exact zs_some ⟨⟨trivial, pt_1.1.2⟩, Or.inl (zs_ptr zlI_m2)⟩
  · skip
    have r4 := (zs_I_eqn c1)
    have g5 : zs_in (t_1.1).toInt 1 1 := (zs_nel 1 1 r4 pt_1.1.1 zlI_0 (by decide))
    have q6 := (zs_or2 pt_1.2 g5 (by decide))
    have g7 : zs_in (x1).toInt 0 29 := q6
    refine zs_gd (zs_gin g7 (by decide)) ?_
    exact zs_some ⟨⟨trivial, pt_1.1.2⟩, Or.inr g7⟩
-- fX8_sneezes
theorem zc_97 {σ0 : sn_S} {σ : sn_S} (h_σ : zs_C σ0 σ) {x1 : Int32} : zs_ok (fX8_sneezes σ x1) (fun r => (zs_in (r).toInt (-2) 1073741823) ∧ ((r).toInt = (-2) ∨ (zs_in (x1).toInt 0 5))) := by
  unfold fX8_sneezes
  refine zs_bd_ (zc_3 h_σ) (fun t_1 pt_1 => ?_)
  refine zs_ite (fun c1 => ?_) (fun c1 => ?_)
  · skip
    have r2 := (zs_I_eq c1)
    have g3 : zs_in (t_1).toInt 0 0 := (zs_eql 0 0 r2 pt_1.1 zlI_0 (by decide))
    exact zs_some ⟨(zs_w zlI_m2 (by decide)), Or.inl (zs_ptr zlI_m2)⟩
  · skip
    have r4 := (zs_I_eqn c1)
    have g5 : zs_in (t_1).toInt 1 1 := (zs_nel 1 1 r4 pt_1.1 zlI_0 (by decide))
    have q6 := (zs_or2 pt_1.2 g5 (by decide))
    have g7 : zs_in (x1).toInt 0 5 := q6
    refine zs_gd (zs_gin g7 (by decide)) ?_
    exact zs_some ⟨(zs_w (zs_rdu (q := 37) (z := (0, 1073741823)) h_σ.1 (fun _ => rfl)) (by decide)), Or.inr g7⟩
-- fX9_asksPerson
theorem zc_98 {σ0 : sn_S} {σ : sn_S} (h_σ : zs_M σ0 σ) {x1 : Int32} : zs_ok (fX9_asksPerson σ x1) (fun r => ((zs_in (r.1).toInt 0 1 ∧ zs_M σ0 r.2)) ∧ ((r.1).toInt = 0 ∨ (zs_in (x1).toInt 0 5))) := by
  unfold fX9_asksPerson
  refine zs_bd_ (zc_92 h_σ) (fun t_1 pt_1 => ?_)
  refine zs_bd_ (zc_6 pt_1.2 (zs_64 (zs_topI _))) (fun t_3 pt_3 => ?_)
  refine zs_gd (zs_b01 pt_3.1 (by decide)) ?_
  rcases pt_3.2 with z0 | z0
  · skip
    have g1 : zs_in (t_3).toInt 0 0 := (zs_pt z0)
    exact zs_some ⟨⟨(zs_w g1 (by decide)), pt_1.2⟩, Or.inl (zs_ptr g1)⟩
  · skip
    have q2 := z0
    have g3 : zs_in (x1.toInt64).toInt 0 5 := q2
    have g4 : zs_in (x1).toInt 0 5 := (zs_64r g3)
    exact zs_some ⟨⟨pt_3.1, pt_1.2⟩, Or.inr g4⟩
-- fX9_sneezes
theorem zc_99 {σ0 : sn_S} {σ : sn_S} (h_σ : zs_M σ0 σ) {x1 : Int32} : zs_ok (fX9_sneezes σ x1) (fun r => ((zs_in (r.1).toInt (-2) 1073741823 ∧ zs_M σ0 r.2)) ∧ ((r.1).toInt = (-2) ∨ (zs_in (x1).toInt 0 5))) := by
  unfold fX9_sneezes
  refine zs_bd_ (zc_98 h_σ) (fun t_1 pt_1 => ?_)
  refine zs_ite (fun c1 => ?_) (fun c1 => ?_)
  · skip
    have r2 := (zs_I_eq c1)
    have g3 : zs_in (t_1.1).toInt 0 0 := (zs_eql 0 0 r2 pt_1.1.1 zlI_0 (by decide))
    exact zs_some ⟨⟨(zs_w zlI_m2 (by decide)), pt_1.1.2⟩, Or.inl (zs_ptr zlI_m2)⟩
  · skip
    have r4 := (zs_I_eqn c1)
    have g5 : zs_in (t_1.1).toInt 1 1 := (zs_nel 1 1 r4 pt_1.1.1 zlI_0 (by decide))
    have q6 := (zs_or2 pt_1.2 g5 (by decide))
    have g7 : zs_in (x1).toInt 0 5 := q6
    refine zs_gd (zs_gin g7 (by decide)) ?_
    exact zs_some ⟨⟨(zs_w (zs_rdu (q := 10) (z := (0, 1073741823)) pt_1.1.2.1 (fun _ => rfl)) (by decide)), pt_1.1.2⟩, Or.inr g7⟩
-- fX8_first
theorem zc_100 {σ0 : sn_S} {σ : sn_S} (h_σ : zs_C σ0 σ) {x1 : Int32} : zs_ok (fX8_first σ x1) (fun r => (zs_in (r).toInt (-2) 29) ∧ ((r).toInt = (-2) ∨ (zs_in (x1).toInt 0 5))) := by
  unfold fX8_first
  refine zs_bd_ (zc_3 h_σ) (fun t_1 pt_1 => ?_)
  refine zs_ite (fun c1 => ?_) (fun c1 => ?_)
  · skip
    have r2 := (zs_I_eq c1)
    have g3 : zs_in (t_1).toInt 0 0 := (zs_eql 0 0 r2 pt_1.1 zlI_0 (by decide))
    exact zs_some ⟨(zs_w zlI_m2 (by decide)), Or.inl (zs_ptr zlI_m2)⟩
  · skip
    have r4 := (zs_I_eqn c1)
    have g5 : zs_in (t_1).toInt 1 1 := (zs_nel 1 1 r4 pt_1.1 zlI_0 (by decide))
    have q6 := (zs_or2 pt_1.2 g5 (by decide))
    have g7 : zs_in (x1).toInt 0 5 := q6
    refine zs_gd (zs_gin g7 (by decide)) ?_
    refine zs_bd_ (zo_low 30 29 (by decide) (zs_rdu (q := 37) (z := (0, 1073741823)) h_σ.1 (fun _ => rfl))) (fun t_5 pt_5 => ?_)
    exact zs_some ⟨(zs_w pt_5 (by decide)), Or.inr g7⟩
-- fX9_first
theorem zc_101 {σ0 : sn_S} {σ : sn_S} (h_σ : zs_M σ0 σ) {x1 : Int32} : zs_ok (fX9_first σ x1) (fun r => ((zs_in (r.1).toInt (-2) 29 ∧ zs_M σ0 r.2)) ∧ ((r.1).toInt = (-2) ∨ (zs_in (x1).toInt 0 5))) := by
  unfold fX9_first
  refine zs_bd_ (zc_98 h_σ) (fun t_1 pt_1 => ?_)
  refine zs_ite (fun c1 => ?_) (fun c1 => ?_)
  · skip
    have r2 := (zs_I_eq c1)
    have g3 : zs_in (t_1.1).toInt 0 0 := (zs_eql 0 0 r2 pt_1.1.1 zlI_0 (by decide))
    exact zs_some ⟨⟨(zs_w zlI_m2 (by decide)), pt_1.1.2⟩, Or.inl (zs_ptr zlI_m2)⟩
  · skip
    have r4 := (zs_I_eqn c1)
    have g5 : zs_in (t_1.1).toInt 1 1 := (zs_nel 1 1 r4 pt_1.1.1 zlI_0 (by decide))
    have q6 := (zs_or2 pt_1.2 g5 (by decide))
    have g7 : zs_in (x1).toInt 0 5 := q6
    refine zs_gd (zs_gin g7 (by decide)) ?_
    refine zs_bd_ (zo_fot2 (zs_rdu (q := 10) (z := (0, 1073741823)) pt_1.1.2.1 (fun _ => rfl))) (fun t_5 pt_5 => ?_)
    exact zs_some ⟨⟨(zs_w pt_5 (by decide)), pt_1.1.2⟩, Or.inr g7⟩
-- fX8_isHouse
theorem zc_102 {σ0 : sn_S} {σ : sn_S} (h_σ : zs_C σ0 σ) : zs_ok (fX8_isHouse σ) (fun r => zs_in (r).toInt 0 1) := by
  unfold fX8_isHouse
  refine zs_gd (zs_gin zlI_10 (by decide)) ?_
  refine zs_ite (fun c1 => ?_) (fun c1 => ?_)
  · skip
    have r2 := (zs_I_le c1)
    have g3 : zs_in ((sn_I σ (1 + 1) (10 : Int32).toNatClampNeg)).toInt 0 0 := (zs_lel 0 0 r2 (zs_rdk (q := 2) (k := (10 : Int32).toNatClampNeg) (z := (0, 900)) h_σ.1 rfl) zlI_0 (by decide))
    refine zs_gd (zs_b01 zlI_0 (by decide)) ?_
    exact zs_some (zs_w zlI_0 (by decide))
  · skip
    have r4 := (zs_I_len c1)
    have g5 : zs_in ((sn_I σ (1 + 1) (10 : Int32).toNatClampNeg)).toInt 1 900 := (zs_ltr 1 900 r4 zlI_0 (zs_rdk (q := 2) (k := (10 : Int32).toNatClampNeg) (z := (0, 900)) h_σ.1 rfl) (by decide))
    refine zs_gd (zs_b01 zlI_1 (by decide)) ?_
    exact zs_some (zs_w zlI_1 (by decide))
