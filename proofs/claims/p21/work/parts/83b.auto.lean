-- BX0_total_4
theorem zc_103 {σ0 : sn_S} {σ : sn_S} (h_σ : zs_C σ0 σ) {x1 : Int32} {x2 : Int32} (h_x2 : zs_in x2.toInt 0 6) {c : Int} (hc : x2.toInt = c + 0) : zs_ok (BX0_total_4 σ 27 x1 x2) (fun r => zs_sum (fun v => ((True ∧ zs_in (v.2).toInt 1 6)) ∧ v.2.toInt = c + 1) (fun v => True) r) := by
  unfold BX0_total_4
  refine zs_ite (fun c1 => ?_) (fun c1 => ?_)
  · skip
    have r2 := (zs_I_le c1)
    exact zs_some (zs_inr (trivial))
  · skip
    have r3 := (zs_I_len c1)
    have g4 : zs_in (x2).toInt 0 5 := (zs_ltl 0 5 r3 h_x2 (zs_rdk (q := 27) (k := 1) (z := (0, 6)) h_σ.1 rfl) (by decide))
    have g5 : zs_in ((sn_I σ 27 1)).toInt 1 6 := (zs_ltr 1 6 r3 h_x2 (zs_rdk (q := 27) (k := 1) (z := (0, 6)) h_σ.1 rfl) (by decide))
    refine zs_gd (zs_gin g4 (by decide)) ?_
    refine zs_bd_ (zo_bc 30 30 (by decide) (zs_rdu (q := 37) (z := (0, 1073741823)) h_σ.1 (fun _ => rfl))) (fun t_3 pt_3 => ?_)
    refine zs_lt (Q := fun z => True) trivial (fun y_5 hy_5 => ?_)
    refine zs_lt (Q := fun z => zs_in z.toInt 1 6 ∧ z.toInt = c + 1) ⟨(zs_addI 1 6 g4 zlI_1 (by decide)), (zs_syI 1 hc g4 zlI_1 (by decide) (by decide))⟩ (fun y_7 hy_7 => ?_)
    exact zs_some (zs_inl ⟨⟨trivial, hy_7.1⟩, hy_7.2⟩)
theorem zd_14 {σ0 : sn_S} {σ : sn_S} (h_σ : zs_C σ0 σ) {s0 : (Int32 × Int32)} (h0 : (True ∧ zs_in (s0.2).toInt 0 6)) : zs_ok (sn_it (LX0_total_4 σ 27) 5000 s0) (fun t => True) := by
  refine zs_it (I := fun s => (True ∧ zs_in (s.2).toInt 0 6)) (m := fun s => 6 - s.2.toInt) (fun s hs => ?_) (fun s hs => ?_) (by exact h0)
  · have h1 := hs.2; unfold zs_in at h1
    omega
  · obtain ⟨b, eb, hb⟩ := zc_103 h_σ hs.2 (c := s.2.toInt) (Int.add_zero _).symm
    exact ⟨b, eb, zs_sumw hb (fun v w => ⟨⟨w.1.1, (zs_w w.1.2 (by decide))⟩, by have := w.2; omega⟩) (fun v w => w)⟩
-- BX0_total_30
theorem zc_104 {σ0 : sn_S} {σ : sn_S} (h_σ : zs_C σ0 σ) {x1 : Int32} : zs_ok (BX0_total_30 σ 27 x1) (fun r => True) := by
  unfold BX0_total_30
  exact zs_some trivial
-- fX0_total
theorem zc_105 {σ0 : sn_S} {σ : sn_S} (h_σ : zs_C σ0 σ) : zs_ok (fX0_total σ 27) (fun r => True) := by
  unfold fX0_total
  refine zs_bd_ (zd_14 h_σ (s0 := ((0 : Int32), (0 : Int32))) ⟨trivial, (zs_w zlI_0 (by decide))⟩) (fun t_1 pt_1 => ?_)
  obtain ⟨ret, er, hr⟩ := zc_104 h_σ
  refine ⟨ret, er, ?_⟩
  exact hr
-- fX8_all
theorem zc_106 {σ0 : sn_S} {σ : sn_S} (h_σ : zs_C σ0 σ) : zs_ok (fX8_all σ) (fun r => True) := by
  unfold fX8_all
  refine zs_bd_ (zc_102 h_σ) (fun t_1 pt_1 => ?_)
  refine zs_ite (fun c1 => ?_) (fun c1 => ?_)
  · skip
    have r2 := (zs_I_eq c1)
    have g3 : zs_in (t_1).toInt 0 0 := (zs_eql 0 0 r2 pt_1 zlI_0 (by decide))
    exact zs_some trivial
  · skip
    have r4 := (zs_I_eqn c1)
    have g5 : zs_in (t_1).toInt 1 1 := (zs_nel 1 1 r4 pt_1 zlI_0 (by decide))
    refine zs_bd_ (zc_105 h_σ) (fun t_4 pt_4 => ?_)
    exact zs_some trivial
-- BX9_bits_4
theorem zc_107 {x0 : Int32} (h_x0 : zs_in x0.toInt 0 1073741823) {x1 : Int32} {x2 : Int32} (h_x2 : zs_in x2.toInt 0 30) {c : Int} (hc : x2.toInt = c + 0) : zs_ok (BX9_bits_4 x0 x1 x2) (fun r => zs_sum (fun v => ((True ∧ zs_in (v.2).toInt 1 30)) ∧ v.2.toInt = c + 1) (fun v => True) r) := by
  unfold BX9_bits_4
  refine zs_ite (fun c1 => ?_) (fun c1 => ?_)
  · skip
    have r2 := (zs_I_le c1)
    have g3 : zs_in (x2).toInt 30 30 := (zs_ler 30 30 r2 zlI_30 h_x2 (by decide))
    exact zs_some (zs_inr (trivial))
  · skip
    have r4 := (zs_I_len c1)
    have g5 : zs_in (x2).toInt 0 29 := (zs_ltl 0 29 r4 h_x2 zlI_30 (by decide))
    refine zs_lt (Q := fun z => True) trivial (fun y_2 hy_2 => ?_)
    refine zs_lt (Q := fun z => zs_in z.toInt 1 30 ∧ z.toInt = c + 1) ⟨(zs_addI 1 30 g5 zlI_1 (by decide)), (zs_syI 1 hc g5 zlI_1 (by decide) (by decide))⟩ (fun y_4 hy_4 => ?_)
    exact zs_some (zs_inl ⟨⟨trivial, hy_4.1⟩, hy_4.2⟩)
theorem zd_15 {x0 : Int32} (h_x0 : zs_in x0.toInt 0 1073741823) {s0 : (Int32 × Int32)} (h0 : (True ∧ zs_in (s0.2).toInt 0 30)) : zs_ok (sn_it (LX9_bits_4 x0) 5000 s0) (fun t => True) := by
  refine zs_it (I := fun s => (True ∧ zs_in (s.2).toInt 0 30)) (m := fun s => 30 - s.2.toInt) (fun s hs => ?_) (fun s hs => ?_) (by exact h0)
  · have h1 := hs.2; unfold zs_in at h1
    omega
  · obtain ⟨b, eb, hb⟩ := zc_107 h_x0 hs.2 (c := s.2.toInt) (Int.add_zero _).symm
    exact ⟨b, eb, zs_sumw hb (fun v w => ⟨⟨w.1.1, (zs_w w.1.2 (by decide))⟩, by have := w.2; omega⟩) (fun v w => w)⟩
-- BX9_bits_24
theorem zc_108 {x1 : Int32} : zs_ok (BX9_bits_24 x1) (fun r => True) := by
  unfold BX9_bits_24
  exact zs_some trivial
-- fX9_bits
theorem zc_109 {x0 : Int32} (h_x0 : zs_in x0.toInt 0 1073741823) : zs_ok (fX9_bits x0) (fun r => True) := by
  unfold fX9_bits
  refine zs_bd_ (zd_15 h_x0 (s0 := ((0 : Int32), (0 : Int32))) ⟨trivial, (zs_w zlI_0 (by decide))⟩) (fun t_1 pt_1 => ?_)
  obtain ⟨ret, er, hr⟩ := zc_108
  refine ⟨ret, er, ?_⟩
  exact hr
-- BX9_allSneezes_4
theorem zc_110 {σ0 : sn_S} {σ : sn_S} (h_σ : zs_M σ0 σ) {x1 : Int32} {x2 : Int32} (h_x2 : zs_in x2.toInt 0 6) {c : Int} (hc : x2.toInt = c + 0) : zs_ok (BX9_allSneezes_4 σ x1 x2) (fun r => zs_sum (fun v => ((True ∧ zs_in (v.2).toInt 1 6)) ∧ v.2.toInt = c + 1) (fun v => True) r) := by
  unfold BX9_allSneezes_4
  refine zs_gd (zs_gin zlI_5 (by decide)) ?_
  refine zs_ite (fun c1 => ?_) (fun c1 => ?_)
  · skip
    have r2 := (zs_I_le c1)
    exact zs_some (zs_inr (trivial))
  · skip
    have r3 := (zs_I_len c1)
    have g4 : zs_in (x2).toInt 0 5 := (zs_ltl 0 5 r3 h_x2 (zs_rdk (q := 1) (k := (5 : Int32).toNatClampNeg) (z := (0, 6)) h_σ.1 rfl) (by decide))
    have g5 : zs_in ((sn_I σ 1 (5 : Int32).toNatClampNeg)).toInt 1 6 := (zs_ltr 1 6 r3 h_x2 (zs_rdk (q := 1) (k := (5 : Int32).toNatClampNeg) (z := (0, 6)) h_σ.1 rfl) (by decide))
    refine zs_gd (zs_gin g4 (by decide)) ?_
    refine zs_bd_ (zc_109 (zs_rdu (q := 10) (z := (0, 1073741823)) h_σ.1 (fun _ => rfl))) (fun t_4 pt_4 => ?_)
    refine zs_lt (Q := fun z => True) trivial (fun y_6 hy_6 => ?_)
    refine zs_lt (Q := fun z => zs_in z.toInt 1 6 ∧ z.toInt = c + 1) ⟨(zs_addI 1 6 g4 zlI_1 (by decide)), (zs_syI 1 hc g4 zlI_1 (by decide) (by decide))⟩ (fun y_8 hy_8 => ?_)
    exact zs_some (zs_inl ⟨⟨trivial, hy_8.1⟩, hy_8.2⟩)
theorem zd_16 {σ0 : sn_S} {σ : sn_S} (h_σ : zs_M σ0 σ) {s0 : (Int32 × Int32)} (h0 : (True ∧ zs_in (s0.2).toInt 0 6)) : zs_ok (sn_it (LX9_allSneezes_4 σ) 5000 s0) (fun t => True) := by
  refine zs_it (I := fun s => (True ∧ zs_in (s.2).toInt 0 6)) (m := fun s => 6 - s.2.toInt) (fun s hs => ?_) (fun s hs => ?_) (by exact h0)
  · have h1 := hs.2; unfold zs_in at h1
    omega
  · obtain ⟨b, eb, hb⟩ := zc_110 h_σ hs.2 (c := s.2.toInt) (Int.add_zero _).symm
    exact ⟨b, eb, zs_sumw hb (fun v w => ⟨⟨w.1.1, (zs_w w.1.2 (by decide))⟩, by have := w.2; omega⟩) (fun v w => w)⟩
-- BX9_allSneezes_32
theorem zc_111 {σ0 : sn_S} {σ : sn_S} (h_σ : zs_M σ0 σ) {x1 : Int32} : zs_ok (BX9_allSneezes_32 σ x1) (fun r => True) := by
  unfold BX9_allSneezes_32
  exact zs_some trivial
-- fX9_allSneezes
theorem zc_112 {σ0 : sn_S} {σ : sn_S} (h_σ : zs_M σ0 σ) : zs_ok (fX9_allSneezes σ) (fun r => True) := by
  unfold fX9_allSneezes
  refine zs_bd_ (zd_16 h_σ (s0 := ((0 : Int32), (0 : Int32))) ⟨trivial, (zs_w zlI_0 (by decide))⟩) (fun t_1 pt_1 => ?_)
  obtain ⟨ret, er, hr⟩ := zc_111 h_σ
  refine ⟨ret, er, ?_⟩
  exact hr
-- fX9_all
theorem zc_113 {σ0 : sn_S} {σ : sn_S} (h_σ : zs_M σ0 σ) : zs_ok (fX9_all σ) (fun r => (True ∧ zs_M σ0 r.2)) := by
  unfold fX9_all
  refine zs_bd_ (zc_92 h_σ) (fun t_1 pt_1 => ?_)
  refine zs_ite (fun c1 => ?_) (fun c1 => ?_)
  · skip
    have r2 := (zs_I_eq c1)
    have g3 : zs_in (t_1.1).toInt 0 0 := (zs_eql 0 0 r2 pt_1.1 zlI_0 (by decide))
    exact zs_some ⟨trivial, pt_1.2⟩
  · skip
    have r4 := (zs_I_eqn c1)
    have g5 : zs_in (t_1.1).toInt 1 1 := (zs_nel 1 1 r4 pt_1.1 zlI_0 (by decide))
    refine zs_bd_ (zc_112 pt_1.2) (fun t_4 pt_4 => ?_)
    exact zs_some ⟨trivial, pt_1.2⟩
-- fX8_who
theorem zc_114 {σ0 : sn_S} {σ : sn_S} (h_σ : zs_C σ0 σ) {x1 : Int32} : zs_ok (fX8_who σ x1) (fun r => (True) ∧ ((r).toInt = (-2) ∨ (zs_in (x1).toInt 0 29))) := by
  unfold fX8_who
  refine zs_bd_ (zc_44 h_σ) (fun t_1 pt_1 => ?_)
  refine zs_ite (fun c1 => ?_) (fun c1 => ?_)
  · skip
    have r2 := (zs_I_eq c1)
    have g3 : zs_in (t_1).toInt 0 0 := (zs_eql 0 0 r2 pt_1.1 zlI_0 (by decide))
    exact zs_some ⟨trivial, Or.inl (zs_ptr zlI_m2)⟩
  · skip
    have r4 := (zs_I_eqn c1)
    have g5 : zs_in (t_1).toInt 1 1 := (zs_nel 1 1 r4 pt_1.1 zlI_0 (by decide))
    have q6 := (zs_or2 pt_1.2 g5 (by decide))
    have g7 : zs_in (x1).toInt 0 29 := q6
    refine zs_gd (zs_gin g7 (by decide)) ?_
    exact zs_some ⟨trivial, Or.inr g7⟩
-- fX9_who
theorem zc_115 {σ0 : sn_S} {σ : sn_S} (h_σ : zs_M σ0 σ) {x1 : Int32} : zs_ok (fX9_who σ x1) (fun r => ((True ∧ zs_M σ0 r.2)) ∧ ((r.1).toInt = (-2) ∨ (zs_in (x1).toInt 0 29))) := by
  unfold fX9_who
  refine zs_bd_ (zc_95 h_σ) (fun t_1 pt_1 => ?_)
  refine zs_ite (fun c1 => ?_) (fun c1 => ?_)
  · skip
    have r2 := (zs_I_eq c1)
    have g3 : zs_in (t_1.1).toInt 0 0 := (zs_eql 0 0 r2 pt_1.1.1 zlI_0 (by decide))
    exact zs_some ⟨⟨trivial, pt_1.1.2⟩, Or.inl (zs_ptr zlI_m2)⟩
  · skip
    have r4 := (zs_I_eqn c1)
    have g5 : zs_in (t_1.1).toInt 1 1 := (zs_nel 1 1 r4 pt_1.1.1 zlI_0 (by decide))
    have q6 := (zs_or2 pt_1.2 g5 (by decide))
    have g7 : zs_in (x1).toInt 0 29 := q6
    refine zs_gd (zs_gin g7 (by decide)) ?_
    exact zs_some ⟨⟨trivial, pt_1.1.2⟩, Or.inr g7⟩
-- fX0_tickleAt
theorem zc_116 {σ0 : sn_S} {σ : sn_S} (h_σ : zs_C σ0 σ) {x1 : Int32} (h_x1 : zs_in x1.toInt 0 5) {x2 : Int32} (h_x2 : zs_in x2.toInt 0 29) : zs_ok (fX0_tickleAt σ 27 x1 x2) (fun r => True) := by
  unfold fX0_tickleAt
  refine zs_gd (zs_gin (zs_addI 0 179 (zs_mulI 0 174 zlI_6 h_x2 (by decide)) h_x1 (by decide)) (by decide)) ?_
  exact zs_some trivial
-- fX8_tickle
theorem zc_117 {σ0 : sn_S} {σ : sn_S} (h_σ : zs_C σ0 σ) {x1 : Int32} {x2 : Int32} : zs_ok (fX8_tickle σ x1 x2) (fun r => (True) ∧ ((r).toInt = (-2) ∨ (zs_in (x1).toInt 0 5 ∧ zs_in (x2).toInt 0 29))) := by
  unfold fX8_tickle
  refine zs_bd_ (zc_3 h_σ) (fun t_1 pt_1 => ?_)
  refine zs_ite (fun c1 => ?_) (fun c1 => ?_)
  · skip
    have r2 := (zs_I_eq c1)
    have g3 : zs_in (t_1).toInt 0 0 := (zs_eql 0 0 r2 pt_1.1 zlI_0 (by decide))
    exact zs_some ⟨trivial, Or.inl (zs_ptr zlI_m2)⟩
  · skip
    have r4 := (zs_I_eqn c1)
    have g5 : zs_in (t_1).toInt 1 1 := (zs_nel 1 1 r4 pt_1.1 zlI_0 (by decide))
    have q6 := (zs_or2 pt_1.2 g5 (by decide))
    have g7 : zs_in (x1).toInt 0 5 := q6
    refine zs_bd_ (zc_44 h_σ) (fun t_4 pt_4 => ?_)
    refine zs_ite (fun c8 => ?_) (fun c8 => ?_)
    · skip
      have r9 := (zs_I_eq c8)
      have g10 : zs_in (t_4).toInt 0 0 := (zs_eql 0 0 r9 pt_4.1 zlI_0 (by decide))
      exact zs_some ⟨trivial, Or.inl (zs_ptr zlI_m2)⟩
    · skip
      have r11 := (zs_I_eqn c8)
      have g12 : zs_in (t_4).toInt 1 1 := (zs_nel 1 1 r11 pt_4.1 zlI_0 (by decide))
      have q13 := (zs_or2 pt_4.2 g12 (by decide))
      have g14 : zs_in (x2).toInt 0 29 := q13
      refine zs_bd_ (zc_116 h_σ g7 g14) (fun t_7 pt_7 => ?_)
      exact zs_some ⟨trivial, Or.inr ⟨g7, g14⟩⟩
-- fX9_tickle
theorem zc_118 {σ0 : sn_S} {σ : sn_S} (h_σ : zs_M σ0 σ) {x1 : Int32} {x2 : Int32} : zs_ok (fX9_tickle σ x1 x2) (fun r => ((True ∧ zs_M σ0 r.2)) ∧ ((r.1).toInt = (-2) ∨ (zs_in (x1).toInt 0 5 ∧ zs_in (x2).toInt 0 29))) := by
  unfold fX9_tickle
  refine zs_bd_ (zc_95 h_σ) (fun t_1 pt_1 => ?_)
  refine zs_ite (fun c1 => ?_) (fun c1 => ?_)
  · skip
    have r2 := (zs_I_eq c1)
    have g3 : zs_in (t_1.1).toInt 0 0 := (zs_eql 0 0 r2 pt_1.1.1 zlI_0 (by decide))
    exact zs_some ⟨⟨trivial, pt_1.1.2⟩, Or.inl (zs_ptr zlI_m2)⟩
  · skip
    have r4 := (zs_I_eqn c1)
    have g5 : zs_in (t_1.1).toInt 1 1 := (zs_nel 1 1 r4 pt_1.1.1 zlI_0 (by decide))
    have q6 := (zs_or2 pt_1.2 g5 (by decide))
    have g7 : zs_in (x2).toInt 0 29 := q6
    refine zs_bd_ (zc_6 pt_1.1.2 (zs_64 (zs_topI _))) (fun t_4 pt_4 => ?_)
    refine zs_ite (fun c8 => ?_) (fun c8 => ?_)
    · skip
      have r9 := (zs_I_eq c8)
      have g10 : zs_in (t_4).toInt 0 0 := (zs_eql 0 0 r9 pt_4.1 zlI_0 (by decide))
      exact zs_some ⟨⟨trivial, pt_1.1.2⟩, Or.inl (zs_ptr zlI_m2)⟩
    · skip
      have r11 := (zs_I_eqn c8)
      have g12 : zs_in (t_4).toInt 1 1 := (zs_nel 1 1 r11 pt_4.1 zlI_0 (by decide))
      have q13 := (zs_or2 pt_4.2 g12 (by decide))
      have g14 : zs_in (x1.toInt64).toInt 0 5 := q13
      have g15 : zs_in (x1).toInt 0 5 := (zs_64r g14)
      refine zs_gd (zs_gin (zs_addI 0 179 (zs_mulI 0 174 zlI_6 g7 (by decide)) g15 (by decide)) (by decide)) ?_
      exact zs_some ⟨⟨trivial, pt_1.1.2⟩, Or.inr ⟨g15, g7⟩⟩
-- BX8_itch_15
theorem zc_119 {σ0 : sn_S} {σ : sn_S} (h_σ : zs_C σ0 σ) {x1 : Int32} (h_x1 : zs_in x1.toInt 0 5) {x2 : Int32} (h_x2 : zs_in x2.toInt 0 2147483647) {x3 : Int32} (h_x3 : zs_in x3.toInt 0 30) {c : Int} (hc : x3.toInt = c + 0) : zs_ok (BX8_itch_15 σ x1 x2 x3) (fun r => zs_sum (fun v => ((zs_in (v.1).toInt 0 2147483647 ∧ zs_in (v.2).toInt 1 30)) ∧ v.2.toInt = c + 1) (fun v => zs_in (v).toInt 0 2147483647) r) := by
  unfold BX8_itch_15
  refine zs_ite (fun c1 => ?_) (fun c1 => ?_)
  · skip
    have r2 := (zs_I_le c1)
    exact zs_some (zs_inr (h_x2))
  · skip
    have r3 := (zs_I_len c1)
    have g4 : zs_in (x3).toInt 0 29 := (zs_ltl 0 29 r3 h_x3 (zs_rdk (q := 27) (k := 0) (z := (0, 30)) h_σ.1 rfl) (by decide))
    have g5 : zs_in ((sn_I σ 27 0)).toInt 1 30 := (zs_ltr 1 30 r3 h_x3 (zs_rdk (q := 27) (k := 0) (z := (0, 30)) h_σ.1 rfl) (by decide))
    refine zs_bd_ (zc_116 h_σ h_x1 g4) (fun t_2 pt_2 => ?_)
    refine zs_lt (Q := fun z => zs_in z.toInt 0 2147483647) (zs_max 0 2147483647 h_x2 (zs_topI _) (by decide)) (fun y_4 hy_4 => ?_)
    refine zs_lt (Q := fun z => zs_in z.toInt 1 30 ∧ z.toInt = c + 1) ⟨(zs_addI 1 30 g4 zlI_1 (by decide)), (zs_syI 1 hc g4 zlI_1 (by decide) (by decide))⟩ (fun y_6 hy_6 => ?_)
    exact zs_some (zs_inl ⟨⟨hy_4, hy_6.1⟩, hy_6.2⟩)
theorem zd_17 {σ0 : sn_S} {σ : sn_S} (h_σ : zs_C σ0 σ) {x1 : Int32} (h_x1 : zs_in x1.toInt 0 5) {s0 : (Int32 × Int32)} (h0 : (zs_in (s0.1).toInt 0 2147483647 ∧ zs_in (s0.2).toInt 0 30)) : zs_ok (sn_it (LX8_itch_15 σ x1) 5000 s0) (fun t => zs_in (t).toInt 0 2147483647) := by
  refine zs_it (I := fun s => (zs_in (s.1).toInt 0 2147483647 ∧ zs_in (s.2).toInt 0 30)) (m := fun s => 30 - s.2.toInt) (fun s hs => ?_) (fun s hs => ?_) (by exact h0)
  · have h1 := hs.2; unfold zs_in at h1
    omega
  · obtain ⟨b, eb, hb⟩ := zc_119 h_σ h_x1 hs.1 hs.2 (c := s.2.toInt) (Int.add_zero _).symm
    exact ⟨b, eb, zs_sumw hb (fun v w => ⟨⟨w.1.1, (zs_w w.1.2 (by decide))⟩, by have := w.2; omega⟩) (fun v w => w)⟩
-- BX8_itch_46
theorem zc_120 {σ0 : sn_S} {σ : sn_S} (h_σ : zs_C σ0 σ) {x2 : Int32} (h_x2 : zs_in x2.toInt 0 2147483647) : zs_ok (BX8_itch_46 σ x2) (fun r => zs_in (r).toInt 0 2147483647) := by
  unfold BX8_itch_46
  exact zs_some h_x2
-- fX8_itch
theorem zc_121 {σ0 : sn_S} {σ : sn_S} (h_σ : zs_C σ0 σ) {x1 : Int32} : zs_ok (fX8_itch σ x1) (fun r => (zs_in (r).toInt (-2) 2147483647) ∧ ((r).toInt = (-2) ∨ (zs_in (x1).toInt 0 5))) := by
  unfold fX8_itch
  refine zs_bd_ (zc_3 h_σ) (fun t_1 pt_1 => ?_)
  refine zs_ite (fun c1 => ?_) (fun c1 => ?_)
  · skip
    have r2 := (zs_I_eq c1)
    have g3 : zs_in (t_1).toInt 0 0 := (zs_eql 0 0 r2 pt_1.1 zlI_0 (by decide))
    exact zs_some ⟨(zs_w zlI_m2 (by decide)), Or.inl (zs_ptr zlI_m2)⟩
  · skip
    have r4 := (zs_I_eqn c1)
    have g5 : zs_in (t_1).toInt 1 1 := (zs_nel 1 1 r4 pt_1.1 zlI_0 (by decide))
    have q6 := (zs_or2 pt_1.2 g5 (by decide))
    have g7 : zs_in (x1).toInt 0 5 := q6
    refine zs_bd_ (zd_17 h_σ g7 (s0 := ((0 : Int32), (0 : Int32))) ⟨(zs_w zlI_0 (by decide)), (zs_w zlI_0 (by decide))⟩) (fun t_4 pt_4 => ?_)
    obtain ⟨ret, er, hr⟩ := zc_120 h_σ pt_4
    refine ⟨ret, er, ?_⟩
    exact ⟨(zs_w hr (by decide)), Or.inr g7⟩
-- BX9_itch_15
theorem zc_122 {σ0 : sn_S} {σ : sn_S} (h_σ : zs_M σ0 σ) {x1 : Int32} (h_x1 : zs_in x1.toInt 0 5) {x2 : Int32} (h_x2 : zs_in x2.toInt 0 2147483647) {x3 : Int32} (h_x3 : zs_in x3.toInt 0 30) {c : Int} (hc : x3.toInt = c + 0) : zs_ok (BX9_itch_15 σ x1 x2 x3) (fun r => zs_sum (fun v => ((zs_in (v.1).toInt 0 2147483647 ∧ zs_in (v.2).toInt 1 30)) ∧ v.2.toInt = c + 1) (fun v => zs_in (v).toInt 0 2147483647) r) := by
  unfold BX9_itch_15
  refine zs_bd_ (zc_21 h_σ) (fun t_1 pt_1 => ?_)
  refine zs_ite (fun c1 => ?_) (fun c1 => ?_)
  · skip
    have r2 := (zs_I_le c1)
    exact zs_some (zs_inr (h_x2))
  · skip
    have r3 := (zs_I_len c1)
    have g4 : zs_in (x3).toInt 0 29 := (zs_ltl 0 29 r3 h_x3 pt_1 (by decide))
    have g5 : zs_in (t_1).toInt 1 30 := (zs_ltr 1 30 r3 h_x3 pt_1 (by decide))
    refine zs_gd (zs_gin (zs_addI 0 179 (zs_mulI 0 174 zlI_6 g4 (by decide)) h_x1 (by decide)) (by decide)) ?_
    refine zs_lt (Q := fun z => zs_in z.toInt 0 2147483647) (zs_max 0 2147483647 h_x2 (zs_topI _) (by decide)) (fun y_5 hy_5 => ?_)
    refine zs_lt (Q := fun z => zs_in z.toInt 1 30 ∧ z.toInt = c + 1) ⟨(zs_addI 1 30 g4 zlI_1 (by decide)), (zs_syI 1 hc g4 zlI_1 (by decide) (by decide))⟩ (fun y_7 hy_7 => ?_)
    exact zs_some (zs_inl ⟨⟨hy_5, hy_7.1⟩, hy_7.2⟩)
theorem zd_18 {σ0 : sn_S} {σ : sn_S} (h_σ : zs_M σ0 σ) {x1 : Int32} (h_x1 : zs_in x1.toInt 0 5) {s0 : (Int32 × Int32)} (h0 : (zs_in (s0.1).toInt 0 2147483647 ∧ zs_in (s0.2).toInt 0 30)) : zs_ok (sn_it (LX9_itch_15 σ x1) 5000 s0) (fun t => zs_in (t).toInt 0 2147483647) := by
  refine zs_it (I := fun s => (zs_in (s.1).toInt 0 2147483647 ∧ zs_in (s.2).toInt 0 30)) (m := fun s => 30 - s.2.toInt) (fun s hs => ?_) (fun s hs => ?_) (by exact h0)
  · have h1 := hs.2; unfold zs_in at h1
    omega
  · obtain ⟨b, eb, hb⟩ := zc_122 h_σ h_x1 hs.1 hs.2 (c := s.2.toInt) (Int.add_zero _).symm
    exact ⟨b, eb, zs_sumw hb (fun v w => ⟨⟨w.1.1, (zs_w w.1.2 (by decide))⟩, by have := w.2; omega⟩) (fun v w => w)⟩
-- BX9_itch_45
theorem zc_123 {σ0 : sn_S} {σ : sn_S} (h_σ : zs_M σ0 σ) {x2 : Int32} (h_x2 : zs_in x2.toInt 0 2147483647) : zs_ok (BX9_itch_45 σ x2) (fun r => (zs_in (r.1).toInt 0 2147483647 ∧ zs_M σ0 r.2)) := by
  unfold BX9_itch_45
  exact zs_some ⟨h_x2, h_σ⟩
-- fX9_itch
theorem zc_124 {σ0 : sn_S} {σ : sn_S} (h_σ : zs_M σ0 σ) {x1 : Int32} : zs_ok (fX9_itch σ x1) (fun r => ((zs_in (r.1).toInt (-2) 2147483647 ∧ zs_M σ0 r.2)) ∧ ((r.1).toInt = (-2) ∨ (zs_in (x1).toInt 0 5))) := by
  unfold fX9_itch
  refine zs_bd_ (zc_98 h_σ) (fun t_1 pt_1 => ?_)
  refine zs_ite (fun c1 => ?_) (fun c1 => ?_)
  · skip
    have r2 := (zs_I_eq c1)
    have g3 : zs_in (t_1.1).toInt 0 0 := (zs_eql 0 0 r2 pt_1.1.1 zlI_0 (by decide))
    exact zs_some ⟨⟨(zs_w zlI_m2 (by decide)), pt_1.1.2⟩, Or.inl (zs_ptr zlI_m2)⟩
  · skip
    have r4 := (zs_I_eqn c1)
    have g5 : zs_in (t_1.1).toInt 1 1 := (zs_nel 1 1 r4 pt_1.1.1 zlI_0 (by decide))
    have q6 := (zs_or2 pt_1.2 g5 (by decide))
    have g7 : zs_in (x1).toInt 0 5 := q6
    refine zs_bd_ (zd_18 pt_1.1.2 g7 (s0 := ((0 : Int32), (0 : Int32))) ⟨(zs_w zlI_0 (by decide)), (zs_w zlI_0 (by decide))⟩) (fun t_4 pt_4 => ?_)
    obtain ⟨ret, er, hr⟩ := zc_123 pt_1.1.2 pt_4
    refine ⟨ret, er, ?_⟩
    exact ⟨⟨(zs_w hr.1 (by decide)), hr.2⟩, Or.inr g7⟩
-- fX0_cameAt
theorem zc_125 {σ0 : sn_S} {σ : sn_S} (h_σ : zs_C σ0 σ) {x1 : Int32} (h_x1 : zs_in x1.toInt 0 5) {x2 : Int32} (h_x2 : zs_in x2.toInt 0 29) : zs_ok (fX0_cameAt σ 27 x1 x2) (fun r => True) := by
  unfold fX0_cameAt
  refine zs_gd (zs_gin (zs_addI 0 179 (zs_mulI 0 174 zlI_6 h_x2 (by decide)) h_x1 (by decide)) (by decide)) ?_
  exact zs_some trivial
-- BX8_caught_15
theorem zc_126 {σ0 : sn_S} {σ : sn_S} (h_σ : zs_C σ0 σ) {x1 : Int32} (h_x1 : zs_in x1.toInt 0 5) {x2 : Int32} {x3 : Int32} (h_x3 : zs_in x3.toInt 0 30) {c : Int} (hc : x3.toInt = c + 0) : zs_ok (BX8_caught_15 σ x1 x2 x3) (fun r => zs_sum (fun v => ((True ∧ zs_in (v.2).toInt 1 30)) ∧ v.2.toInt = c + 1) (fun v => True) r) := by
  unfold BX8_caught_15
  refine zs_ite (fun c1 => ?_) (fun c1 => ?_)
  · skip
    have r2 := (zs_I_le c1)
    exact zs_some (zs_inr (trivial))
  · skip
    have r3 := (zs_I_len c1)
    have g4 : zs_in (x3).toInt 0 29 := (zs_ltl 0 29 r3 h_x3 (zs_rdk (q := 27) (k := 0) (z := (0, 30)) h_σ.1 rfl) (by decide))
    have g5 : zs_in ((sn_I σ 27 0)).toInt 1 30 := (zs_ltr 1 30 r3 h_x3 (zs_rdk (q := 27) (k := 0) (z := (0, 30)) h_σ.1 rfl) (by decide))
    refine zs_bd_ (zc_125 h_σ h_x1 g4) (fun t_2 pt_2 => ?_)
    refine zs_lt (Q := fun z => True) trivial (fun y_4 hy_4 => ?_)
    refine zs_lt (Q := fun z => zs_in z.toInt 1 30 ∧ z.toInt = c + 1) ⟨(zs_addI 1 30 g4 zlI_1 (by decide)), (zs_syI 1 hc g4 zlI_1 (by decide) (by decide))⟩ (fun y_6 hy_6 => ?_)
    exact zs_some (zs_inl ⟨⟨trivial, hy_6.1⟩, hy_6.2⟩)
theorem zd_19 {σ0 : sn_S} {σ : sn_S} (h_σ : zs_C σ0 σ) {x1 : Int32} (h_x1 : zs_in x1.toInt 0 5) {s0 : (Int32 × Int32)} (h0 : (True ∧ zs_in (s0.2).toInt 0 30)) : zs_ok (sn_it (LX8_caught_15 σ x1) 5000 s0) (fun t => True) := by
  refine zs_it (I := fun s => (True ∧ zs_in (s.2).toInt 0 30)) (m := fun s => 30 - s.2.toInt) (fun s hs => ?_) (fun s hs => ?_) (by exact h0)
  · have h1 := hs.2; unfold zs_in at h1
    omega
  · obtain ⟨b, eb, hb⟩ := zc_126 h_σ h_x1 hs.2 (c := s.2.toInt) (Int.add_zero _).symm
    exact ⟨b, eb, zs_sumw hb (fun v w => ⟨⟨w.1.1, (zs_w w.1.2 (by decide))⟩, by have := w.2; omega⟩) (fun v w => w)⟩
-- BX8_caught_44
theorem zc_127 {σ0 : sn_S} {σ : sn_S} (h_σ : zs_C σ0 σ) {x2 : Int32} : zs_ok (BX8_caught_44 σ x2) (fun r => True) := by
  unfold BX8_caught_44
  exact zs_some trivial
-- fX8_caught
theorem zc_128 {σ0 : sn_S} {σ : sn_S} (h_σ : zs_C σ0 σ) {x1 : Int32} : zs_ok (fX8_caught σ x1) (fun r => (True) ∧ ((r).toInt = (-2) ∨ (zs_in (x1).toInt 0 5))) := by
  unfold fX8_caught
  refine zs_bd_ (zc_3 h_σ) (fun t_1 pt_1 => ?_)
  refine zs_ite (fun c1 => ?_) (fun c1 => ?_)
  · skip
    have r2 := (zs_I_eq c1)
    have g3 : zs_in (t_1).toInt 0 0 := (zs_eql 0 0 r2 pt_1.1 zlI_0 (by decide))
    exact zs_some ⟨trivial, Or.inl (zs_ptr zlI_m2)⟩
  · skip
    have r4 := (zs_I_eqn c1)
    have g5 : zs_in (t_1).toInt 1 1 := (zs_nel 1 1 r4 pt_1.1 zlI_0 (by decide))
    have q6 := (zs_or2 pt_1.2 g5 (by decide))
    have g7 : zs_in (x1).toInt 0 5 := q6
    refine zs_bd_ (zd_19 h_σ g7 (s0 := ((0 : Int32), (0 : Int32))) ⟨trivial, (zs_w zlI_0 (by decide))⟩) (fun t_4 pt_4 => ?_)
    obtain ⟨ret, er, hr⟩ := zc_127 h_σ
    refine ⟨ret, er, ?_⟩
    exact ⟨hr, Or.inr g7⟩
-- fX9_caught
theorem zc_129 {σ0 : sn_S} {σ : sn_S} (h_σ : zs_M σ0 σ) {x1 : Int32} : zs_ok (fX9_caught σ x1) (fun r => ((True ∧ zs_M σ0 r.2)) ∧ ((r.1).toInt = (-2) ∨ (zs_in (x1).toInt 0 5))) := by
  unfold fX9_caught
  refine zs_bd_ (zc_98 h_σ) (fun t_1 pt_1 => ?_)
  refine zs_ite (fun c1 => ?_) (fun c1 => ?_)
  · skip
    have r2 := (zs_I_eq c1)
    have g3 : zs_in (t_1.1).toInt 0 0 := (zs_eql 0 0 r2 pt_1.1.1 zlI_0 (by decide))
    exact zs_some ⟨⟨trivial, pt_1.1.2⟩, Or.inl (zs_ptr zlI_m2)⟩
  · skip
    have r4 := (zs_I_eqn c1)
    have g5 : zs_in (t_1.1).toInt 1 1 := (zs_nel 1 1 r4 pt_1.1.1 zlI_0 (by decide))
    have q6 := (zs_or2 pt_1.2 g5 (by decide))
    have g7 : zs_in (x1).toInt 0 5 := q6
    refine zs_gd (zs_gin g7 (by decide)) ?_
    exact zs_some ⟨⟨trivial, pt_1.1.2⟩, Or.inr g7⟩
-- fX8_gave
theorem zc_130 {σ0 : sn_S} {σ : sn_S} (h_σ : zs_C σ0 σ) {x1 : Int32} : zs_ok (fX8_gave σ x1) (fun r => (True) ∧ ((r).toInt = (-2) ∨ (zs_in (x1).toInt 0 5))) := by
  unfold fX8_gave
  refine zs_bd_ (zc_3 h_σ) (fun t_1 pt_1 => ?_)
  refine zs_ite (fun c1 => ?_) (fun c1 => ?_)
  · skip
    have r2 := (zs_I_eq c1)
    have g3 : zs_in (t_1).toInt 0 0 := (zs_eql 0 0 r2 pt_1.1 zlI_0 (by decide))
    exact zs_some ⟨trivial, Or.inl (zs_ptr zlI_m2)⟩
  · skip
    have r4 := (zs_I_eqn c1)
    have g5 : zs_in (t_1).toInt 1 1 := (zs_nel 1 1 r4 pt_1.1 zlI_0 (by decide))
    have q6 := (zs_or2 pt_1.2 g5 (by decide))
    have g7 : zs_in (x1).toInt 0 5 := q6
    refine zs_gd (zs_gin g7 (by decide)) ?_
    refine zs_bd_ (zo_low 30 29 (by decide) (zs_rdu (q := 37) (z := (0, 1073741823)) h_σ.1 (fun _ => rfl))) (fun t_5 pt_5 => ?_)
    refine zs_ite (fun c8 => ?_) (fun c8 => ?_)
    · skip
      have r9 := (zs_I_le c8)
      have g10 : zs_in (t_5).toInt 1 29 := (zs_ler 1 29 r9 zlI_1 pt_5 (by decide))
      refine zs_gd (zs_gin (zs_subI 0 28 g10 zlI_1 (by decide)) (by decide)) ?_
      refine zs_bd_ (zc_19 h_σ g7) (fun t_9 pt_9 => ?_)
      exact zs_some ⟨trivial, Or.inr g7⟩
    · skip
      have r11 := (zs_I_len c8)
      have g12 : zs_in (t_5).toInt (-1) 0 := (zs_ltl (-1) 0 r11 pt_5 zlI_1 (by decide))
      exact zs_some ⟨trivial, Or.inr g7⟩
-- BX9_gave_79
theorem zc_131 {σ0 : sn_S} {σ : sn_S} (h_σ : zs_M σ0 σ) {x1 : Int32} (h_x1 : zs_in x1.toInt 0 5) {x2 : Int32} (h_x2 : zs_in x2.toInt 1 29) {x3 : Int32} {x4 : Int32} (h_x4 : zs_in x4.toInt 0 5) {t0 : Int32} {t1 : Int32} (h_t1 : zs_in t1.toInt 0 0) {c : Int} (hc : x4.toInt = c + 0) : zs_ok (BX9_gave_79 σ x1 x2 x3 x4 t0 t1) (fun r => zs_sum (fun v => ((True ∧ zs_in (v.2).toInt 1 6)) ∧ v.2.toInt = c + 1) (fun v => False) r) := by
  unfold BX9_gave_79
  obtain rfl : t1 = (0 : Int32) := zs_eqv h_t1 (by decide)
  refine zs_lt (Q := fun z => True) trivial (fun y_1 hy_1 => ?_)
  refine zs_lt (Q := fun z => zs_in z.toInt 1 6 ∧ z.toInt = c + 1) ⟨(zs_addI 1 6 h_x4 zlI_1 (by decide)), (zs_syI 1 hc h_x4 zlI_1 (by decide) (by decide))⟩ (fun y_3 hy_3 => ?_)
  exact zs_some (zs_inl ⟨⟨trivial, hy_3.1⟩, hy_3.2⟩)
-- BX9_gave_78
theorem zc_132 {σ0 : sn_S} {σ : sn_S} (h_σ : zs_M σ0 σ) {x1 : Int32} (h_x1 : zs_in x1.toInt 0 5) {x2 : Int32} (h_x2 : zs_in x2.toInt 1 29) {x3 : Int32} {x4 : Int32} (h_x4 : zs_in x4.toInt 0 5) {t0 : Int32} {c : Int} (hc : x4.toInt = c + 0) : zs_ok (BX9_gave_78 σ x1 x2 x3 x4 t0) (fun r => zs_sum (fun v => ((True ∧ zs_in (v.2).toInt 1 6)) ∧ v.2.toInt = c + 1) (fun v => False) r) := by
  unfold BX9_gave_78
  obtain ⟨ret, er, hr⟩ := zc_131 h_σ h_x1 h_x2 h_x4 zlI_0 hc
  refine ⟨ret, er, ?_⟩
  exact (zs_sumw hr (fun v w => ⟨w.1, w.2⟩) (fun v w => w.elim))
-- BX9_gave_79
theorem zc_133 {σ0 : sn_S} {σ : sn_S} (h_σ : zs_M σ0 σ) {x1 : Int32} (h_x1 : zs_in x1.toInt 0 5) {x2 : Int32} (h_x2 : zs_in x2.toInt 1 29) {x3 : Int32} {x4 : Int32} (h_x4 : zs_in x4.toInt 0 5) {t0 : Int32} {t1 : Int32} (h_t1 : zs_in t1.toInt 1 32) {c : Int} (hc : x4.toInt = c + 0) : zs_ok (BX9_gave_79 σ x1 x2 x3 x4 t0 t1) (fun r => zs_sum (fun v => ((True ∧ zs_in (v.2).toInt 1 6)) ∧ v.2.toInt = c + 1) (fun v => False) r) := by
  unfold BX9_gave_79
  refine zs_lt (Q := fun z => True) trivial (fun y_1 hy_1 => ?_)
  refine zs_lt (Q := fun z => zs_in z.toInt 1 6 ∧ z.toInt = c + 1) ⟨(zs_addI 1 6 h_x4 zlI_1 (by decide)), (zs_syI 1 hc h_x4 zlI_1 (by decide) (by decide))⟩ (fun y_3 hy_3 => ?_)
  exact zs_some (zs_inl ⟨⟨trivial, hy_3.1⟩, hy_3.2⟩)
-- BX9_gave_26
theorem zc_134 {σ0 : sn_S} {σ : sn_S} (h_σ : zs_M σ0 σ) {x1 : Int32} (h_x1 : zs_in x1.toInt 0 5) {x2 : Int32} (h_x2 : zs_in x2.toInt (-1) 29) {x3 : Int32} {x4 : Int32} (h_x4 : zs_in x4.toInt 0 6) {c : Int} (hc : x4.toInt = c + 0) : zs_ok (BX9_gave_26 σ x1 x2 x3 x4) (fun r => zs_sum (fun v => ((True ∧ zs_in (v.2).toInt 1 6)) ∧ v.2.toInt = c + 1) (fun v => True) r) := by
  unfold BX9_gave_26
  refine zs_gd (zs_gin zlI_5 (by decide)) ?_
  refine zs_ite (fun c1 => ?_) (fun c1 => ?_)
  · skip
    have r2 := (zs_I_le c1)
    exact zs_some (zs_inr (trivial))
  · skip
    have r3 := (zs_I_len c1)
    have g4 : zs_in (x4).toInt 0 5 := (zs_ltl 0 5 r3 h_x4 (zs_rdk (q := 1) (k := (5 : Int32).toNatClampNeg) (z := (0, 6)) h_σ.1 rfl) (by decide))
    have g5 : zs_in ((sn_I σ 1 (5 : Int32).toNatClampNeg)).toInt 1 6 := (zs_ltr 1 6 r3 h_x4 (zs_rdk (q := 1) (k := (5 : Int32).toNatClampNeg) (z := (0, 6)) h_σ.1 rfl) (by decide))
    refine zs_ite (fun c6 => ?_) (fun c6 => ?_)
    · skip
      have r7 := (zs_I_le c6)
      have g8 : zs_in (x2).toInt (-1) 0 := (zs_lel (-1) 0 r7 h_x2 zlI_0 (by decide))
      exact zs_some (zs_inr (trivial))
    · skip
      have r9 := (zs_I_len c6)
      have g10 : zs_in (x2).toInt 1 29 := (zs_ltr 1 29 r9 zlI_0 h_x2 (by decide))
      refine zs_gd (zs_gin (zs_subI 0 28 g10 zlI_1 (by decide)) (by decide)) ?_
      refine zs_bd_ (zc_68 g4) (fun t_5 pt_5 => ?_)
      refine zs_ite (fun c11 => ?_) (fun c11 => ?_)
      · skip
        have r12 := (zs_I_eq c11)
        have g13 : zs_in (t_5).toInt 1 1 := (zs_eql 1 1 r12 pt_5 zlI_1 (by decide))
        refine zs_bd_ (zc_38 h_σ h_x1 (zs_cases g4 (fun z => zs_in ((1 : Int32) <<< (z &&& 31)).toInt 1 32) (by decide +kernel))) (fun t_8 pt_8 => ?_)
        refine zs_ite (fun c14 => ?_) (fun c14 => ?_)
        · skip
          have r15 := (zs_I_le c14)
          have g16 : zs_in (t_8).toInt (-2147483648) 0 := (zs_lel (-2147483648) 0 r15 (zs_topI _) zlI_0 (by decide))
          obtain ⟨ret, er, hr⟩ := zc_132 h_σ h_x1 g10 g4 hc
          refine ⟨ret, er, ?_⟩
          exact (zs_sumw hr (fun v w => ⟨w.1, w.2⟩) (fun v w => w.elim))
        · skip
          have r17 := (zs_I_len c14)
          have g18 : zs_in (t_8).toInt 1 2147483647 := (zs_ltr 1 2147483647 r17 zlI_0 (zs_topI _) (by decide))
          obtain ⟨ret, er, hr⟩ := zc_133 h_σ h_x1 g10 g4 (zs_cases g4 (fun z => zs_in ((1 : Int32) <<< (z &&& 31)).toInt 1 32) (by decide +kernel)) hc
          refine ⟨ret, er, ?_⟩
          exact (zs_sumw hr (fun v w => ⟨w.1, w.2⟩) (fun v w => w.elim))
      · skip
        have r19 := (zs_I_eqn c11)
        have g20 : zs_in (t_5).toInt 0 0 := (zs_neh 0 0 r19 pt_5 zlI_1 (by decide))
        obtain ⟨ret, er, hr⟩ := zc_132 h_σ h_x1 g10 g4 hc
        refine ⟨ret, er, ?_⟩
        exact (zs_sumw hr (fun v w => ⟨w.1, w.2⟩) (fun v w => w.elim))
theorem zd_20 {σ0 : sn_S} {σ : sn_S} (h_σ : zs_M σ0 σ) {x1 : Int32} (h_x1 : zs_in x1.toInt 0 5) {x2 : Int32} (h_x2 : zs_in x2.toInt (-1) 29) {s0 : (Int32 × Int32)} (h0 : (True ∧ zs_in (s0.2).toInt 0 6)) : zs_ok (sn_it (LX9_gave_26 σ x1 x2) 5000 s0) (fun t => True) := by
  refine zs_it (I := fun s => (True ∧ zs_in (s.2).toInt 0 6)) (m := fun s => 6 - s.2.toInt) (fun s hs => ?_) (fun s hs => ?_) (by exact h0)
  · have h1 := hs.2; unfold zs_in at h1
    omega
  · obtain ⟨b, eb, hb⟩ := zc_134 h_σ h_x1 h_x2 hs.2 (c := s.2.toInt) (Int.add_zero _).symm
    exact ⟨b, eb, zs_sumw hb (fun v w => ⟨⟨w.1.1, (zs_w w.1.2 (by decide))⟩, by have := w.2; omega⟩) (fun v w => w)⟩
-- BX9_gave_87
theorem zc_135 {σ0 : sn_S} {σ : sn_S} (h_σ : zs_M σ0 σ) {x3 : Int32} : zs_ok (BX9_gave_87 σ x3) (fun r => (True ∧ zs_M σ0 r.2)) := by
  unfold BX9_gave_87
  exact zs_some ⟨trivial, h_σ⟩
-- fX9_gave
theorem zc_136 {σ0 : sn_S} {σ : sn_S} (h_σ : zs_M σ0 σ) {x1 : Int32} : zs_ok (fX9_gave σ x1) (fun r => ((True ∧ zs_M σ0 r.2)) ∧ ((r.1).toInt = (-2) ∨ (zs_in (x1).toInt 0 5))) := by
  unfold fX9_gave
  refine zs_bd_ (zc_98 h_σ) (fun t_1 pt_1 => ?_)
  refine zs_ite (fun c1 => ?_) (fun c1 => ?_)
  · skip
    have r2 := (zs_I_eq c1)
    have g3 : zs_in (t_1.1).toInt 0 0 := (zs_eql 0 0 r2 pt_1.1.1 zlI_0 (by decide))
    exact zs_some ⟨⟨trivial, pt_1.1.2⟩, Or.inl (zs_ptr zlI_m2)⟩
  · skip
    have r4 := (zs_I_eqn c1)
    have g5 : zs_in (t_1.1).toInt 1 1 := (zs_nel 1 1 r4 pt_1.1.1 zlI_0 (by decide))
    have q6 := (zs_or2 pt_1.2 g5 (by decide))
    have g7 : zs_in (x1).toInt 0 5 := q6
    refine zs_gd (zs_gin g7 (by decide)) ?_
    refine zs_bd_ (zo_fot2 (zs_rdu (q := 10) (z := (0, 1073741823)) pt_1.1.2.1 (fun _ => rfl))) (fun t_5 pt_5 => ?_)
    refine zs_bd_ (zd_20 pt_1.1.2 g7 pt_5 (s0 := ((0 : Int32), (0 : Int32))) ⟨trivial, (zs_w zlI_0 (by decide))⟩) (fun t_7 pt_7 => ?_)
    obtain ⟨ret, er, hr⟩ := zc_135 pt_1.1.2
    refine ⟨ret, er, ?_⟩
    exact ⟨hr, Or.inr g7⟩
-- BX8_worst_52
theorem zc_137 {σ0 : sn_S} {σ : sn_S} (h_σ : zs_C σ0 σ) {x1 : Int32} (h_x1 : zs_in x1.toInt (-1) 5) {x2 : Int32} (h_x2 : zs_in x2.toInt 0 30) {x3 : Int32} (h_x3 : zs_in x3.toInt 0 5) {c : Int} (hc : x3.toInt = c + 0) : zs_ok (BX8_worst_52 σ x1 x2 x3) (fun r => zs_sum (fun v => ((zs_in (v.1).toInt (-1) 5 ∧ (zs_in (v.2.1).toInt 0 30 ∧ zs_in (v.2.2).toInt 1 6))) ∧ v.2.2.toInt = c + 1) (fun v => False) r) := by
  unfold BX8_worst_52
  refine zs_lt (Q := fun z => zs_in z.toInt 1 6 ∧ z.toInt = c + 1) ⟨(zs_addI 1 6 h_x3 zlI_1 (by decide)), (zs_syI 1 hc h_x3 zlI_1 (by decide) (by decide))⟩ (fun y_1 hy_1 => ?_)
  exact zs_some (zs_inl ⟨⟨h_x1, ⟨h_x2, hy_1.1⟩⟩, hy_1.2⟩)
-- BX8_worst_52
theorem zc_138 {σ0 : sn_S} {σ : sn_S} (h_σ : zs_C σ0 σ) {x1 : Int32} (h_x1 : zs_in x1.toInt 0 5) {x2 : Int32} (h_x2 : zs_in x2.toInt 1 30) {x3 : Int32} (h_x3 : zs_in x3.toInt 0 5) {c : Int} (hc : x3.toInt = c + 0) : zs_ok (BX8_worst_52 σ x1 x2 x3) (fun r => zs_sum (fun v => ((zs_in (v.1).toInt 0 5 ∧ (zs_in (v.2.1).toInt 1 30 ∧ zs_in (v.2.2).toInt 1 6))) ∧ v.2.2.toInt = c + 1) (fun v => False) r) := by
  unfold BX8_worst_52
  refine zs_lt (Q := fun z => zs_in z.toInt 1 6 ∧ z.toInt = c + 1) ⟨(zs_addI 1 6 h_x3 zlI_1 (by decide)), (zs_syI 1 hc h_x3 zlI_1 (by decide) (by decide))⟩ (fun y_1 hy_1 => ?_)
  exact zs_some (zs_inl ⟨⟨h_x1, ⟨h_x2, hy_1.1⟩⟩, hy_1.2⟩)
-- BX8_worst_16
theorem zc_139 {σ0 : sn_S} {σ : sn_S} (h_σ : zs_C σ0 σ) {x1 : Int32} (h_x1 : zs_in x1.toInt (-1) 5) {x2 : Int32} (h_x2 : zs_in x2.toInt 0 30) {x3 : Int32} (h_x3 : zs_in x3.toInt 0 6) {c : Int} (hc : x3.toInt = c + 0) : zs_ok (BX8_worst_16 σ x1 x2 x3) (fun r => zs_sum (fun v => ((zs_in (v.1).toInt (-1) 5 ∧ (zs_in (v.2.1).toInt 0 30 ∧ zs_in (v.2.2).toInt 1 6))) ∧ v.2.2.toInt = c + 1) (fun v => zs_in (v).toInt (-1) 5) r) := by
  unfold BX8_worst_16
  refine zs_ite (fun c1 => ?_) (fun c1 => ?_)
  · skip
    have r2 := (zs_I_le c1)
    exact zs_some (zs_inr (h_x1))
  · skip
    have r3 := (zs_I_len c1)
    have g4 : zs_in (x3).toInt 0 5 := (zs_ltl 0 5 r3 h_x3 (zs_rdk (q := 27) (k := 1) (z := (0, 6)) h_σ.1 rfl) (by decide))
    have g5 : zs_in ((sn_I σ 27 1)).toInt 1 6 := (zs_ltr 1 6 r3 h_x3 (zs_rdk (q := 27) (k := 1) (z := (0, 6)) h_σ.1 rfl) (by decide))
    refine zs_gd (zs_gin g4 (by decide)) ?_
    refine zs_bd_ (zo_bc 30 30 (by decide) (zs_rdu (q := 37) (z := (0, 1073741823)) h_σ.1 (fun _ => rfl))) (fun t_3 pt_3 => ?_)
    refine zs_ite (fun c6 => ?_) (fun c6 => ?_)
    · skip
      have r7 := (zs_I_le c6)
      obtain ⟨ret, er, hr⟩ := zc_137 h_σ h_x1 h_x2 g4 hc
      refine ⟨ret, er, ?_⟩
      exact (zs_sumw hr (fun v w => ⟨w.1, w.2⟩) (fun v w => w.elim))
    · skip
      have r8 := (zs_I_len c6)
      have g9 : zs_in (x2).toInt 0 29 := (zs_ltl 0 29 r8 h_x2 pt_3 (by decide))
      have g10 : zs_in (t_3).toInt 1 30 := (zs_ltr 1 30 r8 h_x2 pt_3 (by decide))
      obtain ⟨ret, er, hr⟩ := zc_138 h_σ g4 g10 g4 hc
      refine ⟨ret, er, ?_⟩
      exact (zs_sumw hr (fun v w => ⟨⟨(zs_w w.1.1 (by decide)), ⟨(zs_w w.1.2.1 (by decide)), w.1.2.2⟩⟩, w.2⟩) (fun v w => w.elim))
theorem zd_21 {σ0 : sn_S} {σ : sn_S} (h_σ : zs_C σ0 σ) {s0 : (Int32 × (Int32 × Int32))} (h0 : (zs_in (s0.1).toInt (-1) 5 ∧ (zs_in (s0.2.1).toInt 0 30 ∧ zs_in (s0.2.2).toInt 0 6))) : zs_ok (sn_it (LX8_worst_16 σ) 5000 s0) (fun t => zs_in (t).toInt (-1) 5) := by
  refine zs_it (I := fun s => (zs_in (s.1).toInt (-1) 5 ∧ (zs_in (s.2.1).toInt 0 30 ∧ zs_in (s.2.2).toInt 0 6))) (m := fun s => 6 - s.2.2.toInt) (fun s hs => ?_) (fun s hs => ?_) (by exact h0)
  · have h1 := hs.2.2; unfold zs_in at h1
    omega
  · obtain ⟨b, eb, hb⟩ := zc_139 h_σ hs.1 hs.2.1 hs.2.2 (c := s.2.2.toInt) (Int.add_zero _).symm
    exact ⟨b, eb, zs_sumw hb (fun v w => ⟨⟨w.1.1, ⟨w.1.2.1, (zs_w w.1.2.2 (by decide))⟩⟩, by have := w.2; omega⟩) (fun v w => w)⟩
-- BX8_worst_58
theorem zc_140 {σ0 : sn_S} {σ : sn_S} (h_σ : zs_C σ0 σ) {x1 : Int32} (h_x1 : zs_in x1.toInt (-1) 5) : zs_ok (BX8_worst_58 σ x1) (fun r => zs_in (r).toInt (-1) 5) := by
  unfold BX8_worst_58
  exact zs_some h_x1
-- fX8_worst
theorem zc_141 {σ0 : sn_S} {σ : sn_S} (h_σ : zs_C σ0 σ) : zs_ok (fX8_worst σ) (fun r => zs_in (r).toInt (-2) 5) := by
  unfold fX8_worst
  refine zs_bd_ (zc_102 h_σ) (fun t_1 pt_1 => ?_)
  refine zs_ite (fun c1 => ?_) (fun c1 => ?_)
  · skip
    have r2 := (zs_I_eq c1)
    have g3 : zs_in (t_1).toInt 0 0 := (zs_eql 0 0 r2 pt_1 zlI_0 (by decide))
    exact zs_some (zs_w zlI_m2 (by decide))
  · skip
    have r4 := (zs_I_eqn c1)
    have g5 : zs_in (t_1).toInt 1 1 := (zs_nel 1 1 r4 pt_1 zlI_0 (by decide))
    refine zs_bd_ (zd_21 h_σ (s0 := ((-1 : Int32), ((0 : Int32), (0 : Int32)))) ⟨(zs_w zlI_m1 (by decide)), ⟨(zs_w zlI_0 (by decide)), (zs_w zlI_0 (by decide))⟩⟩) (fun t_4 pt_4 => ?_)
    obtain ⟨ret, er, hr⟩ := zc_140 h_σ pt_4
    refine ⟨ret, er, ?_⟩
    exact (zs_w hr (by decide))
-- BX9_worst_54
theorem zc_142 {σ0 : sn_S} {σ : sn_S} (h_σ : zs_M σ0 σ) {x1 : Int32} (h_x1 : zs_in x1.toInt 0 5) {x2 : Int32} {x3 : Int32} (h_x3 : zs_in x3.toInt 0 5) {c : Int} (hc : x3.toInt = c + 0) : zs_ok (BX9_worst_54 σ x1 x2 x3) (fun r => zs_sum (fun v => ((zs_in (v.1).toInt 0 5 ∧ (True ∧ zs_in (v.2.2).toInt 1 6))) ∧ v.2.2.toInt = c + 1) (fun v => False) r) := by
  unfold BX9_worst_54
  refine zs_lt (Q := fun z => zs_in z.toInt 1 6 ∧ z.toInt = c + 1) ⟨(zs_addI 1 6 h_x3 zlI_1 (by decide)), (zs_syI 1 hc h_x3 zlI_1 (by decide) (by decide))⟩ (fun y_1 hy_1 => ?_)
  exact zs_some (zs_inl ⟨⟨h_x1, ⟨trivial, hy_1.1⟩⟩, hy_1.2⟩)
-- BX9_worst_54
theorem zc_143 {σ0 : sn_S} {σ : sn_S} (h_σ : zs_M σ0 σ) {x1 : Int32} (h_x1 : zs_in x1.toInt (-1) 5) {x2 : Int32} {x3 : Int32} (h_x3 : zs_in x3.toInt 0 5) {c : Int} (hc : x3.toInt = c + 0) : zs_ok (BX9_worst_54 σ x1 x2 x3) (fun r => zs_sum (fun v => ((zs_in (v.1).toInt (-1) 5 ∧ (True ∧ zs_in (v.2.2).toInt 1 6))) ∧ v.2.2.toInt = c + 1) (fun v => False) r) := by
  unfold BX9_worst_54
  refine zs_lt (Q := fun z => zs_in z.toInt 1 6 ∧ z.toInt = c + 1) ⟨(zs_addI 1 6 h_x3 zlI_1 (by decide)), (zs_syI 1 hc h_x3 zlI_1 (by decide) (by decide))⟩ (fun y_1 hy_1 => ?_)
  exact zs_some (zs_inl ⟨⟨h_x1, ⟨trivial, hy_1.1⟩⟩, hy_1.2⟩)
-- BX9_worst_16
theorem zc_144 {σ0 : sn_S} {σ : sn_S} (h_σ : zs_M σ0 σ) {x1 : Int32} (h_x1 : zs_in x1.toInt (-1) 5) {x2 : Int32} {x3 : Int32} (h_x3 : zs_in x3.toInt 0 6) {c : Int} (hc : x3.toInt = c + 0) : zs_ok (BX9_worst_16 σ x1 x2 x3) (fun r => zs_sum (fun v => ((zs_in (v.1).toInt (-1) 5 ∧ (True ∧ zs_in (v.2.2).toInt 1 6))) ∧ v.2.2.toInt = c + 1) (fun v => zs_in (v).toInt (-1) 5) r) := by
  unfold BX9_worst_16
  refine zs_gd (zs_gin zlI_5 (by decide)) ?_
  refine zs_ite (fun c1 => ?_) (fun c1 => ?_)
  · skip
    have r2 := (zs_I_le c1)
    exact zs_some (zs_inr (h_x1))
  · skip
    have r3 := (zs_I_len c1)
    have g4 : zs_in (x3).toInt 0 5 := (zs_ltl 0 5 r3 h_x3 (zs_rdk (q := 1) (k := (5 : Int32).toNatClampNeg) (z := (0, 6)) h_σ.1 rfl) (by decide))
    have g5 : zs_in ((sn_I σ 1 (5 : Int32).toNatClampNeg)).toInt 1 6 := (zs_ltr 1 6 r3 h_x3 (zs_rdk (q := 1) (k := (5 : Int32).toNatClampNeg) (z := (0, 6)) h_σ.1 rfl) (by decide))
    refine zs_gd (zs_gin g4 (by decide)) ?_
    refine zs_bd_ (zc_109 (zs_rdu (q := 10) (z := (0, 1073741823)) h_σ.1 (fun _ => rfl))) (fun t_4 pt_4 => ?_)
    refine zs_ite (fun c6 => ?_) (fun c6 => ?_)
    · skip
      have r7 := (zs_I_lt c6)
      have g8 : zs_in (x2).toInt (-2147483648) 2147483646 := (zs_ltl (-2147483648) 2147483646 r7 (zs_topI _) (zs_topI _) (by decide))
      have g9 : zs_in (t_4).toInt (-2147483647) 2147483647 := (zs_ltr (-2147483647) 2147483647 r7 (zs_topI _) (zs_topI _) (by decide))
      refine zs_gd (zs_gin g4 (by decide)) ?_
      refine zs_bd_ (zc_109 (zs_rdu (q := 10) (z := (0, 1073741823)) h_σ.1 (fun _ => rfl))) (fun t_8 pt_8 => ?_)
      obtain ⟨ret, er, hr⟩ := zc_142 h_σ g4 g4 hc
      refine ⟨ret, er, ?_⟩
      exact (zs_sumw hr (fun v w => ⟨⟨(zs_w w.1.1 (by decide)), w.1.2⟩, w.2⟩) (fun v w => w.elim))
    · skip
      have r10 := (zs_I_ltn c6)
      obtain ⟨ret, er, hr⟩ := zc_143 h_σ h_x1 g4 hc
      refine ⟨ret, er, ?_⟩
      exact (zs_sumw hr (fun v w => ⟨w.1, w.2⟩) (fun v w => w.elim))
theorem zd_22 {σ0 : sn_S} {σ : sn_S} (h_σ : zs_M σ0 σ) {s0 : (Int32 × (Int32 × Int32))} (h0 : (zs_in (s0.1).toInt (-1) 5 ∧ (True ∧ zs_in (s0.2.2).toInt 0 6))) : zs_ok (sn_it (LX9_worst_16 σ) 5000 s0) (fun t => zs_in (t).toInt (-1) 5) := by
  refine zs_it (I := fun s => (zs_in (s.1).toInt (-1) 5 ∧ (True ∧ zs_in (s.2.2).toInt 0 6))) (m := fun s => 6 - s.2.2.toInt) (fun s hs => ?_) (fun s hs => ?_) (by exact h0)
  · have h1 := hs.2.2; unfold zs_in at h1
    omega
  · obtain ⟨b, eb, hb⟩ := zc_144 h_σ hs.1 hs.2.2 (c := s.2.2.toInt) (Int.add_zero _).symm
    exact ⟨b, eb, zs_sumw hb (fun v w => ⟨⟨w.1.1, ⟨w.1.2.1, (zs_w w.1.2.2 (by decide))⟩⟩, by have := w.2; omega⟩) (fun v w => w)⟩
-- BX9_worst_60
theorem zc_145 {σ0 : sn_S} {σ : sn_S} (h_σ : zs_M σ0 σ) {x1 : Int32} (h_x1 : zs_in x1.toInt (-1) 5) : zs_ok (BX9_worst_60 σ x1) (fun r => (zs_in (r.1).toInt (-1) 5 ∧ zs_M σ0 r.2)) := by
  unfold BX9_worst_60
  exact zs_some ⟨h_x1, h_σ⟩
-- fX9_worst
theorem zc_146 {σ0 : sn_S} {σ : sn_S} (h_σ : zs_M σ0 σ) : zs_ok (fX9_worst σ) (fun r => (zs_in (r.1).toInt (-2) 5 ∧ zs_M σ0 r.2)) := by
  unfold fX9_worst
  refine zs_bd_ (zc_92 h_σ) (fun t_1 pt_1 => ?_)
  refine zs_ite (fun c1 => ?_) (fun c1 => ?_)
  · skip
    have r2 := (zs_I_eq c1)
    have g3 : zs_in (t_1.1).toInt 0 0 := (zs_eql 0 0 r2 pt_1.1 zlI_0 (by decide))
    exact zs_some ⟨(zs_w zlI_m2 (by decide)), pt_1.2⟩
  · skip
    have r4 := (zs_I_eqn c1)
    have g5 : zs_in (t_1.1).toInt 1 1 := (zs_nel 1 1 r4 pt_1.1 zlI_0 (by decide))
    refine zs_bd_ (zd_22 pt_1.2 (s0 := ((-1 : Int32), ((0 : Int32), (0 : Int32)))) ⟨(zs_w zlI_m1 (by decide)), ⟨trivial, (zs_w zlI_0 (by decide))⟩⟩) (fun t_4 pt_4 => ?_)
    obtain ⟨ret, er, hr⟩ := zc_145 pt_1.2 pt_4
    refine ⟨ret, er, ?_⟩
    exact ⟨(zs_w hr.1 (by decide)), hr.2⟩
-- BX8_chorus_14
theorem zc_147 {σ0 : sn_S} {σ : sn_S} (h_σ : zs_C σ0 σ) {x1 : Int32} (h_x1 : zs_in x1.toInt 0 63) {x2 : Int32} (h_x2 : zs_in x2.toInt 0 30) {c : Int} (hc : x2.toInt = c + 0) : zs_ok (BX8_chorus_14 σ x1 x2) (fun r => zs_sum (fun v => ((zs_in (v.1).toInt 0 63 ∧ zs_in (v.2).toInt 1 30)) ∧ v.2.toInt = c + 1) (fun v => zs_in (v).toInt 0 63) r) := by
  unfold BX8_chorus_14
  refine zs_ite (fun c1 => ?_) (fun c1 => ?_)
  · skip
    have r2 := (zs_I_le c1)
    exact zs_some (zs_inr (h_x1))
  · skip
    have r3 := (zs_I_len c1)
    have g4 : zs_in (x2).toInt 0 29 := (zs_ltl 0 29 r3 h_x2 (zs_rdk (q := 27) (k := 0) (z := (0, 30)) h_σ.1 rfl) (by decide))
    have g5 : zs_in ((sn_I σ 27 0)).toInt 1 30 := (zs_ltr 1 30 r3 h_x2 (zs_rdk (q := 27) (k := 0) (z := (0, 30)) h_σ.1 rfl) (by decide))
    refine zs_gd (zs_gin g4 (by decide)) ?_
    refine zs_bd_ (zo_bct) (fun t_3 pt_3 => ?_)
    refine zs_lt (Q := fun z => zs_in z.toInt 0 63) (zs_max 0 63 h_x1 pt_3 (by decide)) (fun y_5 hy_5 => ?_)
    refine zs_lt (Q := fun z => zs_in z.toInt 1 30 ∧ z.toInt = c + 1) ⟨(zs_addI 1 30 g4 zlI_1 (by decide)), (zs_syI 1 hc g4 zlI_1 (by decide) (by decide))⟩ (fun y_7 hy_7 => ?_)
    exact zs_some (zs_inl ⟨⟨hy_5, hy_7.1⟩, hy_7.2⟩)
theorem zd_23 {σ0 : sn_S} {σ : sn_S} (h_σ : zs_C σ0 σ) {s0 : (Int32 × Int32)} (h0 : (zs_in (s0.1).toInt 0 63 ∧ zs_in (s0.2).toInt 0 30)) : zs_ok (sn_it (LX8_chorus_14 σ) 5000 s0) (fun t => zs_in (t).toInt 0 63) := by
  refine zs_it (I := fun s => (zs_in (s.1).toInt 0 63 ∧ zs_in (s.2).toInt 0 30)) (m := fun s => 30 - s.2.toInt) (fun s hs => ?_) (fun s hs => ?_) (by exact h0)
  · have h1 := hs.2; unfold zs_in at h1
    omega
  · obtain ⟨b, eb, hb⟩ := zc_147 h_σ hs.1 hs.2 (c := s.2.toInt) (Int.add_zero _).symm
    exact ⟨b, eb, zs_sumw hb (fun v w => ⟨⟨w.1.1, (zs_w w.1.2 (by decide))⟩, by have := w.2; omega⟩) (fun v w => w)⟩
-- BX8_chorus_48
theorem zc_148 {σ0 : sn_S} {σ : sn_S} (h_σ : zs_C σ0 σ) {x1 : Int32} (h_x1 : zs_in x1.toInt 0 63) : zs_ok (BX8_chorus_48 σ x1) (fun r => zs_in (r).toInt 0 63) := by
  unfold BX8_chorus_48
  exact zs_some h_x1
-- fX8_chorus
theorem zc_149 {σ0 : sn_S} {σ : sn_S} (h_σ : zs_C σ0 σ) : zs_ok (fX8_chorus σ) (fun r => zs_in (r).toInt (-2) 63) := by
  unfold fX8_chorus
  refine zs_bd_ (zc_102 h_σ) (fun t_1 pt_1 => ?_)
  refine zs_ite (fun c1 => ?_) (fun c1 => ?_)
  · skip
    have r2 := (zs_I_eq c1)
    have g3 : zs_in (t_1).toInt 0 0 := (zs_eql 0 0 r2 pt_1 zlI_0 (by decide))
    exact zs_some (zs_w zlI_m2 (by decide))
  · skip
    have r4 := (zs_I_eqn c1)
    have g5 : zs_in (t_1).toInt 1 1 := (zs_nel 1 1 r4 pt_1 zlI_0 (by decide))
    refine zs_bd_ (zd_23 h_σ (s0 := ((0 : Int32), (0 : Int32))) ⟨(zs_w zlI_0 (by decide)), (zs_w zlI_0 (by decide))⟩) (fun t_4 pt_4 => ?_)
    obtain ⟨ret, er, hr⟩ := zc_148 h_σ pt_4
    refine ⟨ret, er, ?_⟩
    exact (zs_w hr (by decide))
-- BX9_bits_4
theorem zc_150 {x0 : Int32} {x1 : Int32} {x2 : Int32} (h_x2 : zs_in x2.toInt 0 30) {c : Int} (hc : x2.toInt = c + 0) : zs_ok (BX9_bits_4 x0 x1 x2) (fun r => zs_sum (fun v => ((True ∧ zs_in (v.2).toInt 1 30)) ∧ v.2.toInt = c + 1) (fun v => True) r) := by
  unfold BX9_bits_4
  refine zs_ite (fun c1 => ?_) (fun c1 => ?_)
  · skip
    have r2 := (zs_I_le c1)
    have g3 : zs_in (x2).toInt 30 30 := (zs_ler 30 30 r2 zlI_30 h_x2 (by decide))
    exact zs_some (zs_inr (trivial))
  · skip
    have r4 := (zs_I_len c1)
    have g5 : zs_in (x2).toInt 0 29 := (zs_ltl 0 29 r4 h_x2 zlI_30 (by decide))
    refine zs_lt (Q := fun z => True) trivial (fun y_2 hy_2 => ?_)
    refine zs_lt (Q := fun z => zs_in z.toInt 1 30 ∧ z.toInt = c + 1) ⟨(zs_addI 1 30 g5 zlI_1 (by decide)), (zs_syI 1 hc g5 zlI_1 (by decide) (by decide))⟩ (fun y_4 hy_4 => ?_)
    exact zs_some (zs_inl ⟨⟨trivial, hy_4.1⟩, hy_4.2⟩)
theorem zd_24 {x0 : Int32} {s0 : (Int32 × Int32)} (h0 : (True ∧ zs_in (s0.2).toInt 0 30)) : zs_ok (sn_it (LX9_bits_4 x0) 5000 s0) (fun t => True) := by
  refine zs_it (I := fun s => (True ∧ zs_in (s.2).toInt 0 30)) (m := fun s => 30 - s.2.toInt) (fun s hs => ?_) (fun s hs => ?_) (by exact h0)
  · have h1 := hs.2; unfold zs_in at h1
    omega
  · obtain ⟨b, eb, hb⟩ := zc_150 hs.2 (c := s.2.toInt) (Int.add_zero _).symm
    exact ⟨b, eb, zs_sumw hb (fun v w => ⟨⟨w.1.1, (zs_w w.1.2 (by decide))⟩, by have := w.2; omega⟩) (fun v w => w)⟩
-- fX9_bits
theorem zc_151 {x0 : Int32} : zs_ok (fX9_bits x0) (fun r => True) := by
  unfold fX9_bits
  refine zs_bd_ (zd_24  (s0 := ((0 : Int32), (0 : Int32))) ⟨trivial, (zs_w zlI_0 (by decide))⟩) (fun t_1 pt_1 => ?_)
  obtain ⟨ret, er, hr⟩ := zc_108
  refine ⟨ret, er, ?_⟩
  exact hr
-- BX9_chorus_14
theorem zc_152 {σ0 : sn_S} {σ : sn_S} (h_σ : zs_M σ0 σ) {x1 : Int32} (h_x1 : zs_in x1.toInt 0 2147483647) {x2 : Int32} (h_x2 : zs_in x2.toInt 0 30) {c : Int} (hc : x2.toInt = c + 0) : zs_ok (BX9_chorus_14 σ x1 x2) (fun r => zs_sum (fun v => ((zs_in (v.1).toInt 0 2147483647 ∧ zs_in (v.2).toInt 1 30)) ∧ v.2.toInt = c + 1) (fun v => zs_in (v).toInt 0 2147483647) r) := by
  unfold BX9_chorus_14
  refine zs_bd_ (zc_21 h_σ) (fun t_1 pt_1 => ?_)
  refine zs_ite (fun c1 => ?_) (fun c1 => ?_)
  · skip
    have r2 := (zs_I_le c1)
    exact zs_some (zs_inr (h_x1))
  · skip
    have r3 := (zs_I_len c1)
    have g4 : zs_in (x2).toInt 0 29 := (zs_ltl 0 29 r3 h_x2 pt_1 (by decide))
    have g5 : zs_in (t_1).toInt 1 30 := (zs_ltr 1 30 r3 h_x2 pt_1 (by decide))
    refine zs_gd (zs_gin g4 (by decide)) ?_
    refine zs_bd_ (zc_151) (fun t_5 pt_5 => ?_)
    refine zs_lt (Q := fun z => zs_in z.toInt 0 2147483647) (zs_max 0 2147483647 h_x1 (zs_topI _) (by decide)) (fun y_7 hy_7 => ?_)
    refine zs_lt (Q := fun z => zs_in z.toInt 1 30 ∧ z.toInt = c + 1) ⟨(zs_addI 1 30 g4 zlI_1 (by decide)), (zs_syI 1 hc g4 zlI_1 (by decide) (by decide))⟩ (fun y_9 hy_9 => ?_)
    exact zs_some (zs_inl ⟨⟨hy_7, hy_9.1⟩, hy_9.2⟩)
theorem zd_25 {σ0 : sn_S} {σ : sn_S} (h_σ : zs_M σ0 σ) {s0 : (Int32 × Int32)} (h0 : (zs_in (s0.1).toInt 0 2147483647 ∧ zs_in (s0.2).toInt 0 30)) : zs_ok (sn_it (LX9_chorus_14 σ) 5000 s0) (fun t => zs_in (t).toInt 0 2147483647) := by
  refine zs_it (I := fun s => (zs_in (s.1).toInt 0 2147483647 ∧ zs_in (s.2).toInt 0 30)) (m := fun s => 30 - s.2.toInt) (fun s hs => ?_) (fun s hs => ?_) (by exact h0)
  · have h1 := hs.2; unfold zs_in at h1
    omega
  · obtain ⟨b, eb, hb⟩ := zc_152 h_σ hs.1 hs.2 (c := s.2.toInt) (Int.add_zero _).symm
    exact ⟨b, eb, zs_sumw hb (fun v w => ⟨⟨w.1.1, (zs_w w.1.2 (by decide))⟩, by have := w.2; omega⟩) (fun v w => w)⟩
-- BX9_chorus_42
theorem zc_153 {σ0 : sn_S} {σ : sn_S} (h_σ : zs_M σ0 σ) {x1 : Int32} (h_x1 : zs_in x1.toInt 0 2147483647) : zs_ok (BX9_chorus_42 σ x1) (fun r => (zs_in (r.1).toInt 0 2147483647 ∧ zs_M σ0 r.2)) := by
  unfold BX9_chorus_42
  exact zs_some ⟨h_x1, h_σ⟩
-- fX9_chorus
theorem zc_154 {σ0 : sn_S} {σ : sn_S} (h_σ : zs_M σ0 σ) : zs_ok (fX9_chorus σ) (fun r => (zs_in (r.1).toInt (-2) 2147483647 ∧ zs_M σ0 r.2)) := by
  unfold fX9_chorus
  refine zs_bd_ (zc_92 h_σ) (fun t_1 pt_1 => ?_)
  refine zs_ite (fun c1 => ?_) (fun c1 => ?_)
  · skip
    have r2 := (zs_I_eq c1)
    have g3 : zs_in (t_1.1).toInt 0 0 := (zs_eql 0 0 r2 pt_1.1 zlI_0 (by decide))
    exact zs_some ⟨(zs_w zlI_m2 (by decide)), pt_1.2⟩
  · skip
    have r4 := (zs_I_eqn c1)
    have g5 : zs_in (t_1.1).toInt 1 1 := (zs_nel 1 1 r4 pt_1.1 zlI_0 (by decide))
    refine zs_bd_ (zd_25 pt_1.2 (s0 := ((0 : Int32), (0 : Int32))) ⟨(zs_w zlI_0 (by decide)), (zs_w zlI_0 (by decide))⟩) (fun t_4 pt_4 => ?_)
    obtain ⟨ret, er, hr⟩ := zc_153 pt_1.2 pt_4
    refine ⟨ret, er, ?_⟩
    exact ⟨(zs_w hr.1 (by decide)), hr.2⟩
-- BX8_calm_46
theorem zc_155 {σ0 : sn_S} {σ : sn_S} (h_σ : zs_C σ0 σ) {x1 : Int32} (h_x1 : zs_in x1.toInt 0 2147483647) {x2 : Int32} {x3 : Int32} (h_x3 : zs_in x3.toInt 0 29) {t0 : Int32} {c : Int} (hc : x3.toInt = c + 0) : zs_ok (BX8_calm_46 σ x1 x2 x3 t0) (fun r => zs_sum (fun v => ((zs_in (v.1).toInt 0 2147483647 ∧ (True ∧ zs_in (v.2.2).toInt 1 30))) ∧ v.2.2.toInt = c + 1) (fun v => False) r) := by
  unfold BX8_calm_46
  refine zs_lt (Q := fun z => zs_in z.toInt 0 2147483647) (zs_max 0 2147483647 h_x1 (zs_topI _) (by decide)) (fun y_1 hy_1 => ?_)
  refine zs_lt (Q := fun z => zs_in z.toInt 1 30 ∧ z.toInt = c + 1) ⟨(zs_addI 1 30 h_x3 zlI_1 (by decide)), (zs_syI 1 hc h_x3 zlI_1 (by decide) (by decide))⟩ (fun y_3 hy_3 => ?_)
  exact zs_some (zs_inl ⟨⟨hy_1, ⟨trivial, hy_3.1⟩⟩, hy_3.2⟩)
-- BX8_calm_46
theorem zc_156 {σ0 : sn_S} {σ : sn_S} (h_σ : zs_C σ0 σ) {x1 : Int32} (h_x1 : zs_in x1.toInt 0 2147483647) {x2 : Int32} {x3 : Int32} (h_x3 : zs_in x3.toInt 0 29) {t0 : Int32} (h_t0 : zs_in t0.toInt 0 0) {c : Int} (hc : x3.toInt = c + 0) : zs_ok (BX8_calm_46 σ x1 x2 x3 t0) (fun r => zs_sum (fun v => ((zs_in (v.1).toInt 0 2147483647 ∧ (zs_in (v.2.1).toInt 0 0 ∧ zs_in (v.2.2).toInt 1 30))) ∧ v.2.2.toInt = c + 1) (fun v => False) r) := by
  unfold BX8_calm_46
  obtain rfl : t0 = (0 : Int32) := zs_eqv h_t0 (by decide)
  refine zs_lt (Q := fun z => zs_in z.toInt 0 2147483647) (zs_max 0 2147483647 h_x1 h_t0 (by decide)) (fun y_1 hy_1 => ?_)
  refine zs_lt (Q := fun z => zs_in z.toInt 1 30 ∧ z.toInt = c + 1) ⟨(zs_addI 1 30 h_x3 zlI_1 (by decide)), (zs_syI 1 hc h_x3 zlI_1 (by decide) (by decide))⟩ (fun y_3 hy_3 => ?_)
  exact zs_some (zs_inl ⟨⟨hy_1, ⟨h_t0, hy_3.1⟩⟩, hy_3.2⟩)
-- BX8_calm_16
theorem zc_157 {σ0 : sn_S} {σ : sn_S} (h_σ : zs_C σ0 σ) {x1 : Int32} (h_x1 : zs_in x1.toInt 0 2147483647) {x2 : Int32} {x3 : Int32} (h_x3 : zs_in x3.toInt 0 30) {c : Int} (hc : x3.toInt = c + 0) : zs_ok (BX8_calm_16 σ x1 x2 x3) (fun r => zs_sum (fun v => ((zs_in (v.1).toInt 0 2147483647 ∧ (True ∧ zs_in (v.2.2).toInt 1 30))) ∧ v.2.2.toInt = c + 1) (fun v => zs_in (v).toInt 0 2147483647) r) := by
  unfold BX8_calm_16
  refine zs_ite (fun c1 => ?_) (fun c1 => ?_)
  · skip
    have r2 := (zs_I_le c1)
    exact zs_some (zs_inr (h_x1))
  · skip
    have r3 := (zs_I_len c1)
    have g4 : zs_in (x3).toInt 0 29 := (zs_ltl 0 29 r3 h_x3 (zs_rdk (q := 27) (k := 0) (z := (0, 30)) h_σ.1 rfl) (by decide))
    have g5 : zs_in ((sn_I σ 27 0)).toInt 1 30 := (zs_ltr 1 30 r3 h_x3 (zs_rdk (q := 27) (k := 0) (z := (0, 30)) h_σ.1 rfl) (by decide))
    refine zs_gd (zs_gin g4 (by decide)) ?_
    refine zs_ite (fun c6 => ?_) (fun c6 => ?_)
    · skip
      have r7 := (zs_I_eq c6)
      have g8 : zs_in ((sn_I σ (27 + 9) x3.toNatClampNeg)).toInt 0 0 := (zs_eql 0 0 r7 (zs_topI _) zlI_0 (by decide))
      obtain ⟨ret, er, hr⟩ := zc_155 h_σ h_x1 g4 hc
      refine ⟨ret, er, ?_⟩
      exact (zs_sumw hr (fun v w => ⟨w.1, w.2⟩) (fun v w => w.elim))
    · skip
      have r9 := (zs_I_eqn c6)
      obtain ⟨ret, er, hr⟩ := zc_156 h_σ h_x1 g4 zlI_0 hc
      refine ⟨ret, er, ?_⟩
      exact (zs_sumw hr (fun v w => ⟨⟨w.1.1, ⟨trivial, w.1.2.2⟩⟩, w.2⟩) (fun v w => w.elim))
theorem zd_26 {σ0 : sn_S} {σ : sn_S} (h_σ : zs_C σ0 σ) {s0 : (Int32 × (Int32 × Int32))} (h0 : (zs_in (s0.1).toInt 0 2147483647 ∧ (True ∧ zs_in (s0.2.2).toInt 0 30))) : zs_ok (sn_it (LX8_calm_16 σ) 5000 s0) (fun t => zs_in (t).toInt 0 2147483647) := by
  refine zs_it (I := fun s => (zs_in (s.1).toInt 0 2147483647 ∧ (True ∧ zs_in (s.2.2).toInt 0 30))) (m := fun s => 30 - s.2.2.toInt) (fun s hs => ?_) (fun s hs => ?_) (by exact h0)
  · have h1 := hs.2.2; unfold zs_in at h1
    omega
  · obtain ⟨b, eb, hb⟩ := zc_157 h_σ hs.1 hs.2.2 (c := s.2.2.toInt) (Int.add_zero _).symm
    exact ⟨b, eb, zs_sumw hb (fun v w => ⟨⟨w.1.1, ⟨w.1.2.1, (zs_w w.1.2.2 (by decide))⟩⟩, by have := w.2; omega⟩) (fun v w => w)⟩
-- BX8_calm_59
theorem zc_158 {σ0 : sn_S} {σ : sn_S} (h_σ : zs_C σ0 σ) {x1 : Int32} (h_x1 : zs_in x1.toInt 0 2147483647) : zs_ok (BX8_calm_59 σ x1) (fun r => zs_in (r).toInt 0 2147483647) := by
  unfold BX8_calm_59
  exact zs_some h_x1
-- fX8_calm
theorem zc_159 {σ0 : sn_S} {σ : sn_S} (h_σ : zs_C σ0 σ) : zs_ok (fX8_calm σ) (fun r => zs_in (r).toInt (-2) 2147483647) := by
  unfold fX8_calm
  refine zs_bd_ (zc_102 h_σ) (fun t_1 pt_1 => ?_)
  refine zs_ite (fun c1 => ?_) (fun c1 => ?_)
  · skip
    have r2 := (zs_I_eq c1)
    have g3 : zs_in (t_1).toInt 0 0 := (zs_eql 0 0 r2 pt_1 zlI_0 (by decide))
    exact zs_some (zs_w zlI_m2 (by decide))
  · skip
    have r4 := (zs_I_eqn c1)
    have g5 : zs_in (t_1).toInt 1 1 := (zs_nel 1 1 r4 pt_1 zlI_0 (by decide))
    refine zs_bd_ (zd_26 h_σ (s0 := ((0 : Int32), ((0 : Int32), (0 : Int32)))) ⟨(zs_w zlI_0 (by decide)), ⟨trivial, (zs_w zlI_0 (by decide))⟩⟩) (fun t_4 pt_4 => ?_)
    obtain ⟨ret, er, hr⟩ := zc_158 h_σ pt_4
    refine ⟨ret, er, ?_⟩
    exact (zs_w hr (by decide))
-- BX9_calm_40
theorem zc_160 {σ0 : sn_S} {σ : sn_S} (h_σ : zs_M σ0 σ) {x1 : Int32} (h_x1 : zs_in x1.toInt 0 2147483647) {x2 : Int32} {x3 : Int32} (h_x3 : zs_in x3.toInt 0 29) {t0 : Int32} {c : Int} (hc : x3.toInt = c + 0) : zs_ok (BX9_calm_40 σ x1 x2 x3 t0) (fun r => zs_sum (fun v => ((zs_in (v.1).toInt 0 2147483647 ∧ (True ∧ zs_in (v.2.2).toInt 1 30))) ∧ v.2.2.toInt = c + 1) (fun v => False) r) := by
  unfold BX9_calm_40
  refine zs_lt (Q := fun z => zs_in z.toInt 0 2147483647) (zs_max 0 2147483647 h_x1 (zs_topI _) (by decide)) (fun y_1 hy_1 => ?_)
  refine zs_lt (Q := fun z => zs_in z.toInt 1 30 ∧ z.toInt = c + 1) ⟨(zs_addI 1 30 h_x3 zlI_1 (by decide)), (zs_syI 1 hc h_x3 zlI_1 (by decide) (by decide))⟩ (fun y_3 hy_3 => ?_)
  exact zs_some (zs_inl ⟨⟨hy_1, ⟨trivial, hy_3.1⟩⟩, hy_3.2⟩)
-- BX9_calm_40
theorem zc_161 {σ0 : sn_S} {σ : sn_S} (h_σ : zs_M σ0 σ) {x1 : Int32} (h_x1 : zs_in x1.toInt 0 2147483647) {x2 : Int32} {x3 : Int32} (h_x3 : zs_in x3.toInt 0 29) {t0 : Int32} (h_t0 : zs_in t0.toInt 0 0) {c : Int} (hc : x3.toInt = c + 0) : zs_ok (BX9_calm_40 σ x1 x2 x3 t0) (fun r => zs_sum (fun v => ((zs_in (v.1).toInt 0 2147483647 ∧ (zs_in (v.2.1).toInt 0 0 ∧ zs_in (v.2.2).toInt 1 30))) ∧ v.2.2.toInt = c + 1) (fun v => False) r) := by
  unfold BX9_calm_40
  obtain rfl : t0 = (0 : Int32) := zs_eqv h_t0 (by decide)
  refine zs_lt (Q := fun z => zs_in z.toInt 0 2147483647) (zs_max 0 2147483647 h_x1 h_t0 (by decide)) (fun y_1 hy_1 => ?_)
  refine zs_lt (Q := fun z => zs_in z.toInt 1 30 ∧ z.toInt = c + 1) ⟨(zs_addI 1 30 h_x3 zlI_1 (by decide)), (zs_syI 1 hc h_x3 zlI_1 (by decide) (by decide))⟩ (fun y_3 hy_3 => ?_)
  exact zs_some (zs_inl ⟨⟨hy_1, ⟨h_t0, hy_3.1⟩⟩, hy_3.2⟩)
-- BX9_calm_16
theorem zc_162 {σ0 : sn_S} {σ : sn_S} (h_σ : zs_M σ0 σ) {x1 : Int32} (h_x1 : zs_in x1.toInt 0 2147483647) {x2 : Int32} {x3 : Int32} (h_x3 : zs_in x3.toInt 0 30) {c : Int} (hc : x3.toInt = c + 0) : zs_ok (BX9_calm_16 σ x1 x2 x3) (fun r => zs_sum (fun v => ((zs_in (v.1).toInt 0 2147483647 ∧ (True ∧ zs_in (v.2.2).toInt 1 30))) ∧ v.2.2.toInt = c + 1) (fun v => zs_in (v).toInt 0 2147483647) r) := by
  unfold BX9_calm_16
  refine zs_bd_ (zc_21 h_σ) (fun t_1 pt_1 => ?_)
  refine zs_ite (fun c1 => ?_) (fun c1 => ?_)
  · skip
    have r2 := (zs_I_le c1)
    exact zs_some (zs_inr (h_x1))
  · skip
    have r3 := (zs_I_len c1)
    have g4 : zs_in (x3).toInt 0 29 := (zs_ltl 0 29 r3 h_x3 pt_1 (by decide))
    have g5 : zs_in (t_1).toInt 1 30 := (zs_ltr 1 30 r3 h_x3 pt_1 (by decide))
    refine zs_gd (zs_gin g4 (by decide)) ?_
    refine zs_ite (fun c6 => ?_) (fun c6 => ?_)
    · skip
      have r7 := (zs_I_eq c6)
      have g8 : zs_in ((sn_I σ 11 x3.toNatClampNeg)).toInt 0 0 := (zs_eql 0 0 r7 (zs_topI _) zlI_0 (by decide))
      obtain ⟨ret, er, hr⟩ := zc_160 h_σ h_x1 g4 hc
      refine ⟨ret, er, ?_⟩
      exact (zs_sumw hr (fun v w => ⟨w.1, w.2⟩) (fun v w => w.elim))
    · skip
      have r9 := (zs_I_eqn c6)
      obtain ⟨ret, er, hr⟩ := zc_161 h_σ h_x1 g4 zlI_0 hc
      refine ⟨ret, er, ?_⟩
      exact (zs_sumw hr (fun v w => ⟨⟨w.1.1, ⟨trivial, w.1.2.2⟩⟩, w.2⟩) (fun v w => w.elim))
theorem zd_27 {σ0 : sn_S} {σ : sn_S} (h_σ : zs_M σ0 σ) {s0 : (Int32 × (Int32 × Int32))} (h0 : (zs_in (s0.1).toInt 0 2147483647 ∧ (True ∧ zs_in (s0.2.2).toInt 0 30))) : zs_ok (sn_it (LX9_calm_16 σ) 5000 s0) (fun t => zs_in (t).toInt 0 2147483647) := by
  refine zs_it (I := fun s => (zs_in (s.1).toInt 0 2147483647 ∧ (True ∧ zs_in (s.2.2).toInt 0 30))) (m := fun s => 30 - s.2.2.toInt) (fun s hs => ?_) (fun s hs => ?_) (by exact h0)
  · have h1 := hs.2.2; unfold zs_in at h1
    omega
  · obtain ⟨b, eb, hb⟩ := zc_162 h_σ hs.1 hs.2.2 (c := s.2.2.toInt) (Int.add_zero _).symm
    exact ⟨b, eb, zs_sumw hb (fun v w => ⟨⟨w.1.1, ⟨w.1.2.1, (zs_w w.1.2.2 (by decide))⟩⟩, by have := w.2; omega⟩) (fun v w => w)⟩
-- BX9_calm_53
theorem zc_163 {σ0 : sn_S} {σ : sn_S} (h_σ : zs_M σ0 σ) {x1 : Int32} (h_x1 : zs_in x1.toInt 0 2147483647) : zs_ok (BX9_calm_53 σ x1) (fun r => (zs_in (r.1).toInt 0 2147483647 ∧ zs_M σ0 r.2)) := by
  unfold BX9_calm_53
  exact zs_some ⟨h_x1, h_σ⟩
-- fX9_calm
theorem zc_164 {σ0 : sn_S} {σ : sn_S} (h_σ : zs_M σ0 σ) : zs_ok (fX9_calm σ) (fun r => (zs_in (r.1).toInt (-2) 2147483647 ∧ zs_M σ0 r.2)) := by
  unfold fX9_calm
  refine zs_bd_ (zc_92 h_σ) (fun t_1 pt_1 => ?_)
  refine zs_ite (fun c1 => ?_) (fun c1 => ?_)
  · skip
    have r2 := (zs_I_eq c1)
    have g3 : zs_in (t_1.1).toInt 0 0 := (zs_eql 0 0 r2 pt_1.1 zlI_0 (by decide))
    exact zs_some ⟨(zs_w zlI_m2 (by decide)), pt_1.2⟩
  · skip
    have r4 := (zs_I_eqn c1)
    have g5 : zs_in (t_1.1).toInt 1 1 := (zs_nel 1 1 r4 pt_1.1 zlI_0 (by decide))
    refine zs_bd_ (zd_27 pt_1.2 (s0 := ((0 : Int32), ((0 : Int32), (0 : Int32)))) ⟨(zs_w zlI_0 (by decide)), ⟨trivial, (zs_w zlI_0 (by decide))⟩⟩) (fun t_4 pt_4 => ?_)
    obtain ⟨ret, er, hr⟩ := zc_163 pt_1.2 pt_4
    refine ⟨ret, er, ?_⟩
    exact ⟨(zs_w hr.1 (by decide)), hr.2⟩
-- fX8_hasBit
theorem zc_165 {x0 : Int32} (h_x0 : zs_in x0.toInt 0 1073741823) {x1 : Int32} (h_x1 : zs_in x1.toInt 0 29) : zs_ok (fX8_hasBit x0 x1) (fun r => zs_in (r).toInt 0 1) := by
  unfold fX8_hasBit
  refine zs_ite (fun c1 => ?_) (fun c1 => ?_)
  · skip
    have r2 := (zs_I_eq c1)
    have g3 : zs_in (((x0 >>> (x1 &&& 31)) &&& (1 : Int32))).toInt 1 1 := (zs_eql 1 1 r2 (zs_and zlI_1 (by decide)) zlI_1 (by decide))
    refine zs_gd (zs_b01 zlI_1 (by decide)) ?_
    exact zs_some (zs_w zlI_1 (by decide))
  · skip
    have r4 := (zs_I_eqn c1)
    have g5 : zs_in (((x0 >>> (x1 &&& 31)) &&& (1 : Int32))).toInt 0 0 := (zs_neh 0 0 r4 (zs_and zlI_1 (by decide)) zlI_1 (by decide))
    refine zs_gd (zs_b01 zlI_0 (by decide)) ?_
    exact zs_some (zs_w zlI_0 (by decide))
-- BX8_pause_73
theorem zc_166 {σ0 : sn_S} {σ : sn_S} (h_σ : zs_C σ0 σ) {x1 : Int32} (h_x1 : zs_in x1.toInt 0 5) {x2 : Int32} (h_x2 : zs_in x2.toInt (-2147483648) 29) {x3 : Int32} (h_x3 : zs_in x3.toInt (-1) 29) {x4 : Int32} (h_x4 : zs_in x4.toInt 0 29) {c : Int} (hc : x4.toInt = c + 0) : zs_ok (BX8_pause_73 σ x1 x2 x3 x4) (fun r => zs_sum (fun v => ((zs_in (v.1).toInt (-2147483648) 29 ∧ (zs_in (v.2.1).toInt (-1) 29 ∧ zs_in (v.2.2).toInt 1 30))) ∧ v.2.2.toInt = c + 1) (fun v => False) r) := by
  unfold BX8_pause_73
  refine zs_lt (Q := fun z => zs_in z.toInt 1 30 ∧ z.toInt = c + 1) ⟨(zs_addI 1 30 h_x4 zlI_1 (by decide)), (zs_syI 1 hc h_x4 zlI_1 (by decide) (by decide))⟩ (fun y_1 hy_1 => ?_)
  exact zs_some (zs_inl ⟨⟨h_x2, ⟨h_x3, hy_1.1⟩⟩, hy_1.2⟩)
-- BX8_pause_73
theorem zc_167 {σ0 : sn_S} {σ : sn_S} (h_σ : zs_C σ0 σ) {x1 : Int32} (h_x1 : zs_in x1.toInt 0 5) {x2 : Int32} (h_x2 : zs_in x2.toInt (-2147483648) 29) {x3 : Int32} (h_x3 : zs_in x3.toInt 0 29) {x4 : Int32} (h_x4 : zs_in x4.toInt 0 29) {c : Int} (hc : x4.toInt = c + 0) : zs_ok (BX8_pause_73 σ x1 x2 x3 x4) (fun r => zs_sum (fun v => ((zs_in (v.1).toInt (-2147483648) 29 ∧ (zs_in (v.2.1).toInt 0 29 ∧ zs_in (v.2.2).toInt 1 30))) ∧ v.2.2.toInt = c + 1) (fun v => False) r) := by
  unfold BX8_pause_73
  refine zs_lt (Q := fun z => zs_in z.toInt 1 30 ∧ z.toInt = c + 1) ⟨(zs_addI 1 30 h_x4 zlI_1 (by decide)), (zs_syI 1 hc h_x4 zlI_1 (by decide) (by decide))⟩ (fun y_1 hy_1 => ?_)
  exact zs_some (zs_inl ⟨⟨h_x2, ⟨h_x3, hy_1.1⟩⟩, hy_1.2⟩)
-- BX8_pause_70
theorem zc_168 {σ0 : sn_S} {σ : sn_S} (h_σ : zs_C σ0 σ) {x1 : Int32} (h_x1 : zs_in x1.toInt 0 5) {x2 : Int32} (h_x2 : zs_in x2.toInt (-2147483648) 29) {x3 : Int32} (h_x3 : zs_in x3.toInt (-1) (-1)) {x4 : Int32} (h_x4 : zs_in x4.toInt 0 29) {c : Int} (hc : x4.toInt = c + 0) : zs_ok (BX8_pause_70 σ x1 x2 x3 x4) (fun r => zs_sum (fun v => ((zs_in (v.1).toInt (-2147483648) 29 ∧ (zs_in (v.2.1).toInt 0 29 ∧ zs_in (v.2.2).toInt 1 30))) ∧ v.2.2.toInt = c + 1) (fun v => False) r) := by
  unfold BX8_pause_70
  obtain rfl : x3 = (-1 : Int32) := zs_eqv h_x3 (by decide)
  obtain ⟨ret, er, hr⟩ := zc_167 h_σ h_x1 h_x2 h_x4 h_x4 hc
  refine ⟨ret, er, ?_⟩
  exact (zs_sumw hr (fun v w => ⟨w.1, w.2⟩) (fun v w => w.elim))
-- BX8_pause_73
theorem zc_169 {σ0 : sn_S} {σ : sn_S} (h_σ : zs_C σ0 σ) {x1 : Int32} (h_x1 : zs_in x1.toInt 0 5) {x2 : Int32} (h_x2 : zs_in x2.toInt (-29) 29) {x3 : Int32} (h_x3 : zs_in x3.toInt 0 29) {x4 : Int32} (h_x4 : zs_in x4.toInt 0 29) {c : Int} (hc : x4.toInt = c + 0) : zs_ok (BX8_pause_73 σ x1 x2 x3 x4) (fun r => zs_sum (fun v => ((zs_in (v.1).toInt (-29) 29 ∧ (zs_in (v.2.1).toInt 0 29 ∧ zs_in (v.2.2).toInt 1 30))) ∧ v.2.2.toInt = c + 1) (fun v => False) r) := by
  unfold BX8_pause_73
  refine zs_lt (Q := fun z => zs_in z.toInt 1 30 ∧ z.toInt = c + 1) ⟨(zs_addI 1 30 h_x4 zlI_1 (by decide)), (zs_syI 1 hc h_x4 zlI_1 (by decide) (by decide))⟩ (fun y_1 hy_1 => ?_)
  exact zs_some (zs_inl ⟨⟨h_x2, ⟨h_x3, hy_1.1⟩⟩, hy_1.2⟩)
-- BX8_pause_70
theorem zc_170 {σ0 : sn_S} {σ : sn_S} (h_σ : zs_C σ0 σ) {x1 : Int32} (h_x1 : zs_in x1.toInt 0 5) {x2 : Int32} (h_x2 : zs_in x2.toInt (-29) 29) {x3 : Int32} (h_x3 : zs_in x3.toInt 0 29) {x4 : Int32} (h_x4 : zs_in x4.toInt 0 29) {c : Int} (hc : x4.toInt = c + 0) : zs_ok (BX8_pause_70 σ x1 x2 x3 x4) (fun r => zs_sum (fun v => ((zs_in (v.1).toInt (-29) 29 ∧ (zs_in (v.2.1).toInt 0 29 ∧ zs_in (v.2.2).toInt 1 30))) ∧ v.2.2.toInt = c + 1) (fun v => False) r) := by
  unfold BX8_pause_70
  obtain ⟨ret, er, hr⟩ := zc_169 h_σ h_x1 h_x2 h_x4 h_x4 hc
  refine ⟨ret, er, ?_⟩
  exact (zs_sumw hr (fun v w => ⟨w.1, w.2⟩) (fun v w => w.elim))
-- BX8_pause_65
theorem zc_171 {σ0 : sn_S} {σ : sn_S} (h_σ : zs_C σ0 σ) {x1 : Int32} (h_x1 : zs_in x1.toInt 0 5) {x2 : Int32} (h_x2 : zs_in x2.toInt (-1) (-1)) {x3 : Int32} (h_x3 : zs_in x3.toInt 0 29) {x4 : Int32} (h_x4 : zs_in x4.toInt 0 29) {c : Int} (hc : x4.toInt = c + 0) : zs_ok (BX8_pause_65 σ x1 x2 x3 x4) (fun r => zs_sum (fun v => ((zs_in (v.1).toInt (-29) 29 ∧ (zs_in (v.2.1).toInt 0 29 ∧ zs_in (v.2.2).toInt 1 30))) ∧ v.2.2.toInt = c + 1) (fun v => False) r) := by
  unfold BX8_pause_65
  obtain rfl : x2 = (-1 : Int32) := zs_eqv h_x2 (by decide)
  refine zs_lt (Q := fun z => zs_in z.toInt (-29) 29) (zs_subI (-29) 29 h_x4 h_x3 (by decide)) (fun y_1 hy_1 => ?_)
  obtain ⟨ret, er, hr⟩ := zc_170 h_σ h_x1 hy_1 h_x3 h_x4 hc
  refine ⟨ret, er, ?_⟩
  exact (zs_sumw hr (fun v w => ⟨w.1, w.2⟩) (fun v w => w.elim))
-- BX8_pause_70
theorem zc_172 {σ0 : sn_S} {σ : sn_S} (h_σ : zs_C σ0 σ) {x1 : Int32} (h_x1 : zs_in x1.toInt 0 5) {x2 : Int32} (h_x2 : zs_in x2.toInt (-2147483648) 29) {x3 : Int32} (h_x3 : zs_in x3.toInt 0 29) {x4 : Int32} (h_x4 : zs_in x4.toInt 0 29) {c : Int} (hc : x4.toInt = c + 0) : zs_ok (BX8_pause_70 σ x1 x2 x3 x4) (fun r => zs_sum (fun v => ((zs_in (v.1).toInt (-2147483648) 29 ∧ (zs_in (v.2.1).toInt 0 29 ∧ zs_in (v.2.2).toInt 1 30))) ∧ v.2.2.toInt = c + 1) (fun v => False) r) := by
  unfold BX8_pause_70
  obtain ⟨ret, er, hr⟩ := zc_167 h_σ h_x1 h_x2 h_x4 h_x4 hc
  refine ⟨ret, er, ?_⟩
  exact (zs_sumw hr (fun v w => ⟨w.1, w.2⟩) (fun v w => w.elim))
-- BX8_pause_65
theorem zc_173 {σ0 : sn_S} {σ : sn_S} (h_σ : zs_C σ0 σ) {x1 : Int32} (h_x1 : zs_in x1.toInt 0 5) {x2 : Int32} (h_x2 : zs_in x2.toInt (-28) 29) {x3 : Int32} (h_x3 : zs_in x3.toInt 0 29) {x4 : Int32} (h_x4 : zs_in x4.toInt 0 29) {c : Int} (hc : x4.toInt = c + 0) : zs_ok (BX8_pause_65 σ x1 x2 x3 x4) (fun r => zs_sum (fun v => ((zs_in (v.1).toInt (-29) 29 ∧ (zs_in (v.2.1).toInt 0 29 ∧ zs_in (v.2.2).toInt 1 30))) ∧ v.2.2.toInt = c + 1) (fun v => False) r) := by
  unfold BX8_pause_65
  refine zs_lt (Q := fun z => zs_in z.toInt (-29) 29) (zs_subI (-29) 29 h_x4 h_x3 (by decide)) (fun y_1 hy_1 => ?_)
  obtain ⟨ret, er, hr⟩ := zc_170 h_σ h_x1 hy_1 h_x3 h_x4 hc
  refine ⟨ret, er, ?_⟩
  exact (zs_sumw hr (fun v w => ⟨w.1, w.2⟩) (fun v w => w.elim))
-- BX8_pause_18
theorem zc_174 {σ0 : sn_S} {σ : sn_S} (h_σ : zs_C σ0 σ) {x1 : Int32} (h_x1 : zs_in x1.toInt 0 5) {x2 : Int32} (h_x2 : zs_in x2.toInt (-2147483648) 29) {x3 : Int32} (h_x3 : zs_in x3.toInt (-1) 29) {x4 : Int32} (h_x4 : zs_in x4.toInt 0 30) {c : Int} (hc : x4.toInt = c + 0) : zs_ok (BX8_pause_18 σ x1 x2 x3 x4) (fun r => zs_sum (fun v => ((zs_in (v.1).toInt (-2147483648) 29 ∧ (zs_in (v.2.1).toInt (-1) 29 ∧ zs_in (v.2.2).toInt 1 30))) ∧ v.2.2.toInt = c + 1) (fun v => zs_in (v).toInt (-2147483648) 29) r) := by
  unfold BX8_pause_18
  refine zs_ite (fun c1 => ?_) (fun c1 => ?_)
  · skip
    have r2 := (zs_I_le c1)
    exact zs_some (zs_inr (h_x2))
  · skip
    have r3 := (zs_I_len c1)
    have g4 : zs_in (x4).toInt 0 29 := (zs_ltl 0 29 r3 h_x4 (zs_rdk (q := 27) (k := 0) (z := (0, 30)) h_σ.1 rfl) (by decide))
    have g5 : zs_in ((sn_I σ 27 0)).toInt 1 30 := (zs_ltr 1 30 r3 h_x4 (zs_rdk (q := 27) (k := 0) (z := (0, 30)) h_σ.1 rfl) (by decide))
    refine zs_gd (zs_gin h_x1 (by decide)) ?_
    refine zs_bd_ (zc_165 (zs_rdu (q := 37) (z := (0, 1073741823)) h_σ.1 (fun _ => rfl)) g4) (fun t_3 pt_3 => ?_)
    refine zs_ite (fun c6 => ?_) (fun c6 => ?_)
    · skip
      have r7 := (zs_I_eq c6)
      have g8 : zs_in (t_3).toInt 0 0 := (zs_eql 0 0 r7 pt_3 zlI_0 (by decide))
      obtain ⟨ret, er, hr⟩ := zc_166 h_σ h_x1 h_x2 h_x3 g4 hc
      refine ⟨ret, er, ?_⟩
      exact (zs_sumw hr (fun v w => ⟨w.1, w.2⟩) (fun v w => w.elim))
    · skip
      have r9 := (zs_I_eqn c6)
      have g10 : zs_in (t_3).toInt 1 1 := (zs_nel 1 1 r9 pt_3 zlI_0 (by decide))
      refine zs_ite (fun c11 => ?_) (fun c11 => ?_)
      · skip
        have r12 := (zs_I_eq c11)
        have g13 : zs_in (x3).toInt (-1) (-1) := (zs_eql (-1) (-1) r12 h_x3 zlI_m1 (by decide))
        obtain ⟨ret, er, hr⟩ := zc_168 h_σ h_x1 h_x2 g13 g4 hc
        refine ⟨ret, er, ?_⟩
        exact (zs_sumw hr (fun v w => ⟨⟨w.1.1, ⟨(zs_w w.1.2.1 (by decide)), w.1.2.2⟩⟩, w.2⟩) (fun v w => w.elim))
      · skip
        have r14 := (zs_I_eqn c11)
        have g15 : zs_in (x3).toInt 0 29 := (zs_nel 0 29 r14 h_x3 zlI_m1 (by decide))
        refine zs_ite (fun c16 => ?_) (fun c16 => ?_)
        · skip
          have r17 := (zs_I_eq c16)
          have g18 : zs_in (x2).toInt (-1) (-1) := (zs_eql (-1) (-1) r17 h_x2 zlI_m1 (by decide))
          obtain ⟨ret, er, hr⟩ := zc_171 h_σ h_x1 g18 g15 g4 hc
          refine ⟨ret, er, ?_⟩
          exact (zs_sumw hr (fun v w => ⟨⟨(zs_w w.1.1 (by decide)), ⟨(zs_w w.1.2.1 (by decide)), w.1.2.2⟩⟩, w.2⟩) (fun v w => w.elim))
        · skip
          have r19 := (zs_I_eqn c16)
          refine zs_ite (fun c20 => ?_) (fun c20 => ?_)
          · skip
            have r21 := (zs_I_le c20)
            obtain ⟨ret, er, hr⟩ := zc_172 h_σ h_x1 h_x2 g15 g4 hc
            refine ⟨ret, er, ?_⟩
            exact (zs_sumw hr (fun v w => ⟨⟨w.1.1, ⟨(zs_w w.1.2.1 (by decide)), w.1.2.2⟩⟩, w.2⟩) (fun v w => w.elim))
          · skip
            have r22 := (zs_I_len c20)
            have g23 : zs_in ((x4 - x3)).toInt (-29) 28 := (zs_ltl (-29) 28 r22 (zs_subI (-29) 29 g4 g15 (by decide)) h_x2 (by decide))
            have g24 : zs_in (x2).toInt (-28) 29 := (zs_ltr (-28) 29 r22 (zs_subI (-29) 29 g4 g15 (by decide)) h_x2 (by decide))
            obtain ⟨ret, er, hr⟩ := zc_173 h_σ h_x1 g24 g15 g4 hc
            refine ⟨ret, er, ?_⟩
            exact (zs_sumw hr (fun v w => ⟨⟨(zs_w w.1.1 (by decide)), ⟨(zs_w w.1.2.1 (by decide)), w.1.2.2⟩⟩, w.2⟩) (fun v w => w.elim))
theorem zd_28 {σ0 : sn_S} {σ : sn_S} (h_σ : zs_C σ0 σ) {x1 : Int32} (h_x1 : zs_in x1.toInt 0 5) {s0 : (Int32 × (Int32 × Int32))} (h0 : (zs_in (s0.1).toInt (-2147483648) 29 ∧ (zs_in (s0.2.1).toInt (-1) 29 ∧ zs_in (s0.2.2).toInt 0 30))) : zs_ok (sn_it (LX8_pause_18 σ x1) 5000 s0) (fun t => zs_in (t).toInt (-2147483648) 29) := by
  refine zs_it (I := fun s => (zs_in (s.1).toInt (-2147483648) 29 ∧ (zs_in (s.2.1).toInt (-1) 29 ∧ zs_in (s.2.2).toInt 0 30))) (m := fun s => 30 - s.2.2.toInt) (fun s hs => ?_) (fun s hs => ?_) (by exact h0)
  · have h1 := hs.2.2; unfold zs_in at h1
    omega
  · obtain ⟨b, eb, hb⟩ := zc_174 h_σ h_x1 hs.1 hs.2.1 hs.2.2 (c := s.2.2.toInt) (Int.add_zero _).symm
    exact ⟨b, eb, zs_sumw hb (fun v w => ⟨⟨w.1.1, ⟨w.1.2.1, (zs_w w.1.2.2 (by decide))⟩⟩, by have := w.2; omega⟩) (fun v w => w)⟩
-- BX8_pause_79
theorem zc_175 {σ0 : sn_S} {σ : sn_S} (h_σ : zs_C σ0 σ) {x2 : Int32} (h_x2 : zs_in x2.toInt (-2147483648) 29) : zs_ok (BX8_pause_79 σ x2) (fun r => zs_in (r).toInt (-2147483648) 29) := by
  unfold BX8_pause_79
  exact zs_some h_x2
-- fX8_pause
theorem zc_176 {σ0 : sn_S} {σ : sn_S} (h_σ : zs_C σ0 σ) {x1 : Int32} : zs_ok (fX8_pause σ x1) (fun r => (zs_in (r).toInt (-2147483648) 29) ∧ ((r).toInt = (-2) ∨ (zs_in (x1).toInt 0 5))) := by
  unfold fX8_pause
  refine zs_bd_ (zc_3 h_σ) (fun t_1 pt_1 => ?_)
  refine zs_ite (fun c1 => ?_) (fun c1 => ?_)
  · skip
    have r2 := (zs_I_eq c1)
    have g3 : zs_in (t_1).toInt 0 0 := (zs_eql 0 0 r2 pt_1.1 zlI_0 (by decide))
    exact zs_some ⟨(zs_w zlI_m2 (by decide)), Or.inl (zs_ptr zlI_m2)⟩
  · skip
    have r4 := (zs_I_eqn c1)
    have g5 : zs_in (t_1).toInt 1 1 := (zs_nel 1 1 r4 pt_1.1 zlI_0 (by decide))
    have q6 := (zs_or2 pt_1.2 g5 (by decide))
    have g7 : zs_in (x1).toInt 0 5 := q6
    refine zs_bd_ (zd_28 h_σ g7 (s0 := ((-1 : Int32), ((-1 : Int32), (0 : Int32)))) ⟨(zs_w zlI_m1 (by decide)), ⟨(zs_w zlI_m1 (by decide)), (zs_w zlI_0 (by decide))⟩⟩) (fun t_4 pt_4 => ?_)
    obtain ⟨ret, er, hr⟩ := zc_175 h_σ pt_4
    refine ⟨ret, er, ?_⟩
    exact ⟨hr, Or.inr g7⟩
-- fX9_bit
theorem zc_177 {x0 : Int32} (h_x0 : zs_in x0.toInt 0 1073741823) {x1 : Int32} (h_x1 : zs_in x1.toInt 1 29) : zs_ok (fX9_bit x0 x1) (fun r => zs_in (r).toInt 0 1) := by
  unfold fX9_bit
  exact zs_some (zs_and zlI_1 (by decide))
-- BX9_firstFrom_2
theorem zc_178 {x0 : Int32} (h_x0 : zs_in x0.toInt 0 1073741823) {x2 : Int32} (h_x2 : zs_in x2.toInt 1 30) {c : Int} (hc : x2.toInt = c + 0) : zs_ok (BX9_firstFrom_2 x0 x2) (fun r => zs_sum (fun v => (zs_in (v).toInt 2 30) ∧ v.toInt = c + 1) (fun v => zs_sum (fun v => True) (fun v => zs_in (v).toInt 1 29) v) r) := by
  unfold BX9_firstFrom_2
  refine zs_ite (fun c1 => ?_) (fun c1 => ?_)
  · skip
    have r2 := (zs_I_le c1)
    have g3 : zs_in (x2).toInt 30 30 := (zs_ler 30 30 r2 zlI_30 h_x2 (by decide))
    exact zs_some (zs_inr ((zs_inl (trivial))))
  · skip
    have r4 := (zs_I_len c1)
    have g5 : zs_in (x2).toInt 1 29 := (zs_ltl 1 29 r4 h_x2 zlI_30 (by decide))
    refine zs_bd_ (zc_177 h_x0 g5) (fun t_2 pt_2 => ?_)
    refine zs_ite (fun c6 => ?_) (fun c6 => ?_)
    · skip
      have r7 := (zs_I_eq c6)
      have g8 : zs_in (t_2).toInt 1 1 := (zs_eql 1 1 r7 pt_2 zlI_1 (by decide))
      exact zs_some (zs_inr ((zs_inr (g5))))
    · skip
      have r9 := (zs_I_eqn c6)
      have g10 : zs_in (t_2).toInt 0 0 := (zs_neh 0 0 r9 pt_2 zlI_1 (by decide))
      refine zs_lt (Q := fun z => zs_in z.toInt 2 30 ∧ z.toInt = c + 1) ⟨(zs_addI 2 30 g5 zlI_1 (by decide)), (zs_syI 1 hc g5 zlI_1 (by decide) (by decide))⟩ (fun y_5 hy_5 => ?_)
      exact zs_some (zs_inl ⟨hy_5.1, hy_5.2⟩)
theorem zd_29 {x0 : Int32} (h_x0 : zs_in x0.toInt 0 1073741823) {s0 : Int32} (h0 : zs_in (s0).toInt 1 30) : zs_ok (sn_it (LX9_firstFrom_2 x0) 5000 s0) (fun t => zs_sum (fun v => True) (fun v => zs_in (v).toInt 1 29) t) := by
  refine zs_it (I := fun s => zs_in (s).toInt 1 30) (m := fun s => 30 - s.toInt) (fun s hs => ?_) (fun s hs => ?_) (by exact h0)
  · have h1 := hs; unfold zs_in at h1
    omega
  · obtain ⟨b, eb, hb⟩ := zc_178 h_x0 hs (c := s.toInt) (Int.add_zero _).symm
    exact ⟨b, eb, zs_sumw hb (fun v w => ⟨(zs_w w.1 (by decide)), by have := w.2; omega⟩) (fun v w => w)⟩
-- BX9_firstFrom_25
theorem zc_179  : zs_ok (BX9_firstFrom_25) (fun r => zs_in (r).toInt (-1) (-1)) := by
  unfold BX9_firstFrom_25
  exact zs_some zlI_m1
-- fX9_firstFrom
theorem zc_180 {x0 : Int32} (h_x0 : zs_in x0.toInt 0 1073741823) {x1 : Int32} (h_x1 : zs_in x1.toInt 1 30) : zs_ok (fX9_firstFrom x0 x1) (fun r => zs_in (r).toInt (-1) 29) := by
  unfold fX9_firstFrom
  refine zs_bd_ (zd_29 h_x0 (s0 := x1) h_x1) (fun t_1 pt_1 => ?_)
  refine zs_elim pt_1 (fun v_3 pv_3 => ?_) (fun r_4 pr_4 => ?_)
  · skip
    obtain ⟨ret, er, hr⟩ := zc_179
    refine ⟨ret, er, ?_⟩
    exact (zs_w hr (by decide))
  · skip
    exact zs_some (zs_w pr_4 (by decide))
-- fX9_bit
theorem zc_181 {x0 : Int32} (h_x0 : zs_in x0.toInt 0 1073741823) {x1 : Int32} (h_x1 : zs_in x1.toInt 0 29) : zs_ok (fX9_bit x0 x1) (fun r => zs_in (r).toInt 0 1) := by
  unfold fX9_bit
  exact zs_some (zs_and zlI_1 (by decide))
-- BX9_pause_68
theorem zc_182 {σ0 : sn_S} {σ : sn_S} (h_σ : zs_M σ0 σ) {x1 : Int32} (h_x1 : zs_in x1.toInt 0 5) {x2 : Int32} (h_x2 : zs_in x2.toInt (-2147483648) 1000000000) {x3 : Int32} (h_x3 : zs_in x3.toInt 0 29) {c : Int} (hc : x3.toInt = c + 0) : zs_ok (BX9_pause_68 σ x1 x2 x3) (fun r => zs_sum (fun v => ((zs_in (v.1).toInt (-2147483648) 1000000000 ∧ zs_in (v.2).toInt 1 30)) ∧ v.2.toInt = c + 1) (fun v => False) r) := by
  unfold BX9_pause_68
  refine zs_lt (Q := fun z => zs_in z.toInt 1 30 ∧ z.toInt = c + 1) ⟨(zs_addI 1 30 h_x3 zlI_1 (by decide)), (zs_syI 1 hc h_x3 zlI_1 (by decide) (by decide))⟩ (fun y_1 hy_1 => ?_)
  exact zs_some (zs_inl ⟨⟨h_x2, hy_1.1⟩, hy_1.2⟩)
-- BX9_pause_68
theorem zc_183 {σ0 : sn_S} {σ : sn_S} (h_σ : zs_M σ0 σ) {x1 : Int32} (h_x1 : zs_in x1.toInt 0 5) {x2 : Int32} (h_x2 : zs_in x2.toInt (-2147483648) 29) {x3 : Int32} (h_x3 : zs_in x3.toInt 0 29) {c : Int} (hc : x3.toInt = c + 0) : zs_ok (BX9_pause_68 σ x1 x2 x3) (fun r => zs_sum (fun v => ((zs_in (v.1).toInt (-2147483648) 29 ∧ zs_in (v.2).toInt 1 30)) ∧ v.2.toInt = c + 1) (fun v => False) r) := by
  unfold BX9_pause_68
  refine zs_lt (Q := fun z => zs_in z.toInt 1 30 ∧ z.toInt = c + 1) ⟨(zs_addI 1 30 h_x3 zlI_1 (by decide)), (zs_syI 1 hc h_x3 zlI_1 (by decide) (by decide))⟩ (fun y_1 hy_1 => ?_)
  exact zs_some (zs_inl ⟨⟨h_x2, hy_1.1⟩, hy_1.2⟩)
-- BX9_pause_17
theorem zc_184 {σ0 : sn_S} {σ : sn_S} (h_σ : zs_M σ0 σ) {x1 : Int32} (h_x1 : zs_in x1.toInt 0 5) {x2 : Int32} (h_x2 : zs_in x2.toInt (-2147483648) 1000000000) {x3 : Int32} (h_x3 : zs_in x3.toInt 0 30) {c : Int} (hc : x3.toInt = c + 0) : zs_ok (BX9_pause_17 σ x1 x2 x3) (fun r => zs_sum (fun v => ((zs_in (v.1).toInt (-2147483648) 1000000000 ∧ zs_in (v.2).toInt 1 30)) ∧ v.2.toInt = c + 1) (fun v => zs_in (v).toInt (-2147483648) 1000000000) r) := by
  unfold BX9_pause_17
  refine zs_bd_ (zc_21 h_σ) (fun t_1 pt_1 => ?_)
  refine zs_ite (fun c1 => ?_) (fun c1 => ?_)
  · skip
    have r2 := (zs_I_le c1)
    exact zs_some (zs_inr (h_x2))
  · skip
    have r3 := (zs_I_len c1)
    have g4 : zs_in (x3).toInt 0 29 := (zs_ltl 0 29 r3 h_x3 pt_1 (by decide))
    have g5 : zs_in (t_1).toInt 1 30 := (zs_ltr 1 30 r3 h_x3 pt_1 (by decide))
    refine zs_gd (zs_gin h_x1 (by decide)) ?_
    refine zs_bd_ (zc_180 (zs_rdu (q := 10) (z := (0, 1073741823)) h_σ.1 (fun _ => rfl)) (zs_addI 1 30 g4 zlI_1 (by decide))) (fun t_5 pt_5 => ?_)
    refine zs_gd (zs_gin h_x1 (by decide)) ?_
    refine zs_bd_ (zc_181 (zs_rdu (q := 10) (z := (0, 1073741823)) h_σ.1 (fun _ => rfl)) g4) (fun t_8 pt_8 => ?_)
    refine zs_ite (fun c6 => ?_) (fun c6 => ?_)
    · skip
      have r7 := (zs_I_eq c6)
      have g8 : zs_in (t_8).toInt 1 1 := (zs_eql 1 1 r7 pt_8 zlI_1 (by decide))
      refine zs_ite (fun c9 => ?_) (fun c9 => ?_)
      · skip
        have r10 := (zs_I_eq c9)
        have g11 : zs_in (t_5).toInt (-1) (-1) := (zs_eql (-1) (-1) r10 pt_5 zlI_m1 (by decide))
        obtain ⟨ret, er, hr⟩ := zc_182 h_σ h_x1 h_x2 g4 hc
        refine ⟨ret, er, ?_⟩
        exact (zs_sumw hr (fun v w => ⟨w.1, w.2⟩) (fun v w => w.elim))
      · skip
        have r12 := (zs_I_eqn c9)
        have g13 : zs_in (t_5).toInt 0 29 := (zs_nel 0 29 r12 pt_5 zlI_m1 (by decide))
        refine zs_lt (Q := fun z => zs_in z.toInt (-2147483648) 29) (zs_min (-2147483648) 29 (zs_subI (-29) 29 g13 g4 (by decide)) h_x2 (by decide)) (fun y_12 hy_12 => ?_)
        obtain ⟨ret, er, hr⟩ := zc_183 h_σ h_x1 hy_12 g4 hc
        refine ⟨ret, er, ?_⟩
        exact (zs_sumw hr (fun v w => ⟨⟨(zs_w w.1.1 (by decide)), w.1.2⟩, w.2⟩) (fun v w => w.elim))
    · skip
      have r14 := (zs_I_eqn c6)
      have g15 : zs_in (t_8).toInt 0 0 := (zs_neh 0 0 r14 pt_8 zlI_1 (by decide))
      obtain ⟨ret, er, hr⟩ := zc_182 h_σ h_x1 h_x2 g4 hc
      refine ⟨ret, er, ?_⟩
      exact (zs_sumw hr (fun v w => ⟨w.1, w.2⟩) (fun v w => w.elim))
theorem zd_30 {σ0 : sn_S} {σ : sn_S} (h_σ : zs_M σ0 σ) {x1 : Int32} (h_x1 : zs_in x1.toInt 0 5) {s0 : (Int32 × Int32)} (h0 : (zs_in (s0.1).toInt (-2147483648) 1000000000 ∧ zs_in (s0.2).toInt 0 30)) : zs_ok (sn_it (LX9_pause_17 σ x1) 5000 s0) (fun t => zs_in (t).toInt (-2147483648) 1000000000) := by
  refine zs_it (I := fun s => (zs_in (s.1).toInt (-2147483648) 1000000000 ∧ zs_in (s.2).toInt 0 30)) (m := fun s => 30 - s.2.toInt) (fun s hs => ?_) (fun s hs => ?_) (by exact h0)
  · have h1 := hs.2; unfold zs_in at h1
    omega
  · obtain ⟨b, eb, hb⟩ := zc_184 h_σ h_x1 hs.1 hs.2 (c := s.2.toInt) (Int.add_zero _).symm
    exact ⟨b, eb, zs_sumw hb (fun v w => ⟨⟨w.1.1, (zs_w w.1.2 (by decide))⟩, by have := w.2; omega⟩) (fun v w => w)⟩
-- BX9_pause_74
theorem zc_185 {σ0 : sn_S} {σ : sn_S} (h_σ : zs_M σ0 σ) {x2 : Int32} (h_x2 : zs_in x2.toInt (-2147483648) 1000000000) : zs_ok (BX9_pause_74 σ x2) (fun r => ((zs_in (r.1).toInt (-2147483648) 999999999 ∧ zs_M σ0 r.2)) ∧ ((r.1).toInt = (-1) ∨ (zs_in (x2).toInt (-2147483648) 999999999))) := by
  unfold BX9_pause_74
  refine zs_ite (fun c1 => ?_) (fun c1 => ?_)
  · skip
    have r2 := (zs_I_eq c1)
    have g3 : zs_in (x2).toInt 1000000000 1000000000 := (zs_eql 1000000000 1000000000 r2 h_x2 zlI_1000000000 (by decide))
    exact zs_some ⟨⟨(zs_w zlI_m1 (by decide)), h_σ⟩, Or.inl (zs_ptr zlI_m1)⟩
  · skip
    have r4 := (zs_I_eqn c1)
    have g5 : zs_in (x2).toInt (-2147483648) 999999999 := (zs_neh (-2147483648) 999999999 r4 h_x2 zlI_1000000000 (by decide))
    exact zs_some ⟨⟨g5, h_σ⟩, Or.inr g5⟩
-- fX9_pause
theorem zc_186 {σ0 : sn_S} {σ : sn_S} (h_σ : zs_M σ0 σ) {x1 : Int32} : zs_ok (fX9_pause σ x1) (fun r => ((zs_in (r.1).toInt (-2147483648) 999999999 ∧ zs_M σ0 r.2)) ∧ ((r.1).toInt = (-2) ∨ (zs_in (x1).toInt 0 5))) := by
  unfold fX9_pause
  refine zs_bd_ (zc_98 h_σ) (fun t_1 pt_1 => ?_)
  refine zs_ite (fun c1 => ?_) (fun c1 => ?_)
  · skip
    have r2 := (zs_I_eq c1)
    have g3 : zs_in (t_1.1).toInt 0 0 := (zs_eql 0 0 r2 pt_1.1.1 zlI_0 (by decide))
    exact zs_some ⟨⟨(zs_w zlI_m2 (by decide)), pt_1.1.2⟩, Or.inl (zs_ptr zlI_m2)⟩
  · skip
    have r4 := (zs_I_eqn c1)
    have g5 : zs_in (t_1.1).toInt 1 1 := (zs_nel 1 1 r4 pt_1.1.1 zlI_0 (by decide))
    have q6 := (zs_or2 pt_1.2 g5 (by decide))
    have g7 : zs_in (x1).toInt 0 5 := q6
    refine zs_bd_ (zd_30 pt_1.1.2 g7 (s0 := ((1000000000 : Int32), (0 : Int32))) ⟨(zs_w zlI_1000000000 (by decide)), (zs_w zlI_0 (by decide))⟩) (fun t_4 pt_4 => ?_)
    obtain ⟨ret, er, hr⟩ := zc_185 pt_1.1.2 pt_4
    refine ⟨ret, er, ?_⟩
    refine ⟨hr.1, ?_⟩
    rcases hr.2 with z0 | z0
    · exact Or.inr g7
    · skip
      have q8 := z0
      have g9 : zs_in (t_4).toInt (-2147483648) 999999999 := q8
      exact Or.inr g7
-- fX8_firstMinutes
theorem zc_187 {x0 : Int32} (h_x0 : zs_in x0.toInt 0 29) : zs_ok (fX8_firstMinutes x0) (fun r => zs_in (r).toInt 0 536870911) := by
  unfold fX8_firstMinutes
  exact zs_some (zs_subI 0 536870911 (zs_cases h_x0 (fun z => zs_in ((1 : Int32) <<< (z &&& 31)).toInt 1 536870912) (by decide +kernel)) zlI_1 (by decide))
-- fX8_later
theorem zc_188 {σ0 : sn_S} {σ : sn_S} (h_σ : zs_C σ0 σ) {x1 : Int32} {x2 : Int32} : zs_ok (fX8_later σ x1 x2) (fun r => (zs_in (r).toInt (-2) 29) ∧ ((r).toInt = (-2) ∨ (zs_in (x1).toInt 0 5 ∧ zs_in (x2).toInt 0 29))) := by
  unfold fX8_later
  refine zs_bd_ (zc_3 h_σ) (fun t_1 pt_1 => ?_)
  refine zs_ite (fun c1 => ?_) (fun c1 => ?_)
  · skip
    have r2 := (zs_I_eq c1)
    have g3 : zs_in (t_1).toInt 0 0 := (zs_eql 0 0 r2 pt_1.1 zlI_0 (by decide))
    exact zs_some ⟨(zs_w zlI_m2 (by decide)), Or.inl (zs_ptr zlI_m2)⟩
  · skip
    have r4 := (zs_I_eqn c1)
    have g5 : zs_in (t_1).toInt 1 1 := (zs_nel 1 1 r4 pt_1.1 zlI_0 (by decide))
    have q6 := (zs_or2 pt_1.2 g5 (by decide))
    have g7 : zs_in (x1).toInt 0 5 := q6
    refine zs_bd_ (zc_44 h_σ) (fun t_4 pt_4 => ?_)
    refine zs_ite (fun c8 => ?_) (fun c8 => ?_)
    · skip
      have r9 := (zs_I_eq c8)
      have g10 : zs_in (t_4).toInt 0 0 := (zs_eql 0 0 r9 pt_4.1 zlI_0 (by decide))
      exact zs_some ⟨(zs_w zlI_m2 (by decide)), Or.inl (zs_ptr zlI_m2)⟩
    · skip
      have r11 := (zs_I_eqn c8)
      have g12 : zs_in (t_4).toInt 1 1 := (zs_nel 1 1 r11 pt_4.1 zlI_0 (by decide))
      have q13 := (zs_or2 pt_4.2 g12 (by decide))
      have g14 : zs_in (x2).toInt 0 29 := q13
      refine zs_gd (zs_gin g7 (by decide)) ?_
      refine zs_bd_ (zc_187 g14) (fun t_8 pt_8 => ?_)
      refine zs_bd_ (zo_low 30 29 (by decide) (zs_and2 (zs_rdu (q := 37) (z := (0, 1073741823)) h_σ.1 (fun _ => rfl)) (by decide))) (fun t_10 pt_10 => ?_)
      exact zs_some ⟨(zs_w pt_10 (by decide)), Or.inr ⟨g7, g14⟩⟩
-- BX9_firstFrom_2
theorem zc_189 {x0 : Int32} (h_x0 : zs_in x0.toInt 0 1073741823) {x2 : Int32} (h_x2 : zs_in x2.toInt 0 30) {c : Int} (hc : x2.toInt = c + 0) : zs_ok (BX9_firstFrom_2 x0 x2) (fun r => zs_sum (fun v => (zs_in (v).toInt 1 30) ∧ v.toInt = c + 1) (fun v => zs_sum (fun v => True) (fun v => zs_in (v).toInt 0 29) v) r) := by
  unfold BX9_firstFrom_2
  refine zs_ite (fun c1 => ?_) (fun c1 => ?_)
  · skip
    have r2 := (zs_I_le c1)
    have g3 : zs_in (x2).toInt 30 30 := (zs_ler 30 30 r2 zlI_30 h_x2 (by decide))
    exact zs_some (zs_inr ((zs_inl (trivial))))
  · skip
    have r4 := (zs_I_len c1)
    have g5 : zs_in (x2).toInt 0 29 := (zs_ltl 0 29 r4 h_x2 zlI_30 (by decide))
    refine zs_bd_ (zc_181 h_x0 g5) (fun t_2 pt_2 => ?_)
    refine zs_ite (fun c6 => ?_) (fun c6 => ?_)
    · skip
      have r7 := (zs_I_eq c6)
      have g8 : zs_in (t_2).toInt 1 1 := (zs_eql 1 1 r7 pt_2 zlI_1 (by decide))
      exact zs_some (zs_inr ((zs_inr (g5))))
    · skip
      have r9 := (zs_I_eqn c6)
      have g10 : zs_in (t_2).toInt 0 0 := (zs_neh 0 0 r9 pt_2 zlI_1 (by decide))
      refine zs_lt (Q := fun z => zs_in z.toInt 1 30 ∧ z.toInt = c + 1) ⟨(zs_addI 1 30 g5 zlI_1 (by decide)), (zs_syI 1 hc g5 zlI_1 (by decide) (by decide))⟩ (fun y_5 hy_5 => ?_)
      exact zs_some (zs_inl ⟨hy_5.1, hy_5.2⟩)
theorem zd_31 {x0 : Int32} (h_x0 : zs_in x0.toInt 0 1073741823) {s0 : Int32} (h0 : zs_in (s0).toInt 0 30) : zs_ok (sn_it (LX9_firstFrom_2 x0) 5000 s0) (fun t => zs_sum (fun v => True) (fun v => zs_in (v).toInt 0 29) t) := by
  refine zs_it (I := fun s => zs_in (s).toInt 0 30) (m := fun s => 30 - s.toInt) (fun s hs => ?_) (fun s hs => ?_) (by exact h0)
  · have h1 := hs; unfold zs_in at h1
    omega
  · obtain ⟨b, eb, hb⟩ := zc_189 h_x0 hs (c := s.toInt) (Int.add_zero _).symm
    exact ⟨b, eb, zs_sumw hb (fun v w => ⟨(zs_w w.1 (by decide)), by have := w.2; omega⟩) (fun v w => w)⟩
-- fX9_firstFrom
theorem zc_190 {x0 : Int32} (h_x0 : zs_in x0.toInt 0 1073741823) {x1 : Int32} (h_x1 : zs_in x1.toInt 0 29) : zs_ok (fX9_firstFrom x0 x1) (fun r => zs_in (r).toInt (-1) 29) := by
  unfold fX9_firstFrom
  refine zs_bd_ (zd_31 h_x0 (s0 := x1) (zs_w h_x1 (by decide))) (fun t_1 pt_1 => ?_)
  refine zs_elim pt_1 (fun v_3 pv_3 => ?_) (fun r_4 pr_4 => ?_)
  · skip
    obtain ⟨ret, er, hr⟩ := zc_179
    refine ⟨ret, er, ?_⟩
    exact (zs_w hr (by decide))
  · skip
    exact zs_some (zs_w pr_4 (by decide))
-- fX9_later
theorem zc_191 {σ0 : sn_S} {σ : sn_S} (h_σ : zs_M σ0 σ) {x1 : Int32} {x2 : Int32} : zs_ok (fX9_later σ x1 x2) (fun r => ((zs_in (r.1).toInt (-2) 29 ∧ zs_M σ0 r.2)) ∧ ((r.1).toInt = (-2) ∨ (zs_in (x1).toInt 0 5 ∧ zs_in (x2).toInt 0 29))) := by
  unfold fX9_later
  refine zs_bd_ (zc_95 h_σ) (fun t_1 pt_1 => ?_)
  refine zs_ite (fun c1 => ?_) (fun c1 => ?_)
  · skip
    have r2 := (zs_I_eq c1)
    have g3 : zs_in (t_1.1).toInt 0 0 := (zs_eql 0 0 r2 pt_1.1.1 zlI_0 (by decide))
    exact zs_some ⟨⟨(zs_w zlI_m2 (by decide)), pt_1.1.2⟩, Or.inl (zs_ptr zlI_m2)⟩
  · skip
    have r4 := (zs_I_eqn c1)
    have g5 : zs_in (t_1.1).toInt 1 1 := (zs_nel 1 1 r4 pt_1.1.1 zlI_0 (by decide))
    have q6 := (zs_or2 pt_1.2 g5 (by decide))
    have g7 : zs_in (x2).toInt 0 29 := q6
    refine zs_bd_ (zc_6 pt_1.1.2 (zs_64 (zs_topI _))) (fun t_4 pt_4 => ?_)
    refine zs_ite (fun c8 => ?_) (fun c8 => ?_)
    · skip
      have r9 := (zs_I_eq c8)
      have g10 : zs_in (t_4).toInt 0 0 := (zs_eql 0 0 r9 pt_4.1 zlI_0 (by decide))
      exact zs_some ⟨⟨(zs_w zlI_m2 (by decide)), pt_1.1.2⟩, Or.inl (zs_ptr zlI_m2)⟩
    · skip
      have r11 := (zs_I_eqn c8)
      have g12 : zs_in (t_4).toInt 1 1 := (zs_nel 1 1 r11 pt_4.1 zlI_0 (by decide))
      have q13 := (zs_or2 pt_4.2 g12 (by decide))
      have g14 : zs_in (x1.toInt64).toInt 0 5 := q13
      have g15 : zs_in (x1).toInt 0 5 := (zs_64r g14)
      refine zs_gd (zs_gin g15 (by decide)) ?_
      refine zs_bd_ (zc_190 (zs_rdu (q := 10) (z := (0, 1073741823)) pt_1.1.2.1 (fun _ => rfl)) g7) (fun t_8 pt_8 => ?_)
      exact zs_some ⟨⟨(zs_w pt_8 (by decide)), pt_1.1.2⟩, Or.inr ⟨g15, g7⟩⟩
-- fX2_ofPolicy
theorem zc_192 {σ0 : sn_S} {σ : sn_S} (h_σ : zs_C σ0 σ) {x1 : Int32} (h_x1 : zs_in x1.toInt 0 5) {x2 : Int32} (h_x2 : zs_in x2.toInt 0 0) : zs_ok (fX2_ofPolicy σ 1 x1 x2) (fun r => True) := by
  unfold fX2_ofPolicy
  obtain rfl : x2 = (0 : Int32) := zs_eqv h_x2 (by decide)
  refine zs_gd (zs_gin (zs_addI 0 25 (zs_mulI 0 25 zlI_5 h_x1 (by decide)) h_x2 (by decide)) (by decide)) ?_
  exact zs_some trivial
-- fX2_window
theorem zc_193 {σ0 : sn_S} {σ : sn_S} (h_σ : zs_C σ0 σ) {x1 : Int32} (h_x1 : zs_in x1.toInt 0 5) : zs_ok (fX2_window σ 1 x1) (fun r => True) := by
  unfold fX2_window
  refine zs_lt (Q := fun z => zs_in z.toInt 0 25) (zs_mulI 0 25 zlI_5 h_x1 (by decide)) (fun y_1 hy_1 => ?_)
  refine zs_gd (zs_gin (zs_addI 2 27 hy_1 zlI_2 (by decide)) (by decide)) ?_
  refine zs_gd (zs_gin (zs_addI 1 26 hy_1 zlI_1 (by decide)) (by decide)) ?_
  exact zs_some trivial
-- BX8_minutesCovered_42
theorem zc_194 {σ0 : sn_S} {σ : sn_S} (h_σ : zs_C σ0 σ) {x1 : Int32} (h_x1 : zs_in x1.toInt 0 5) {x2 : Int32} {x3 : Int32} (h_x3 : zs_in x3.toInt 0 5) {c : Int} (hc : x3.toInt = c + 0) : zs_ok (BX8_minutesCovered_42 σ x1 x2 x3) (fun r => zs_sum (fun v => ((True ∧ zs_in (v.2).toInt 1 6)) ∧ v.2.toInt = c + 1) (fun v => False) r) := by
  unfold BX8_minutesCovered_42
  refine zs_lt (Q := fun z => zs_in z.toInt 1 6 ∧ z.toInt = c + 1) ⟨(zs_addI 1 6 h_x3 zlI_1 (by decide)), (zs_syI 1 hc h_x3 zlI_1 (by decide) (by decide))⟩ (fun y_1 hy_1 => ?_)
  exact zs_some (zs_inl ⟨⟨trivial, hy_1.1⟩, hy_1.2⟩)
-- BX8_minutesCovered_4
theorem zc_195 {σ0 : sn_S} {σ : sn_S} (h_σ : zs_C σ0 σ) {x1 : Int32} (h_x1 : zs_in x1.toInt 0 5) {x2 : Int32} {x3 : Int32} (h_x3 : zs_in x3.toInt 0 6) {c : Int} (hc : x3.toInt = c + 0) : zs_ok (BX8_minutesCovered_4 σ x1 x2 x3) (fun r => zs_sum (fun v => ((True ∧ zs_in (v.2).toInt 1 6)) ∧ v.2.toInt = c + 1) (fun v => True) r) := by
  unfold BX8_minutesCovered_4
  refine zs_gd (zs_gin zlI_8 (by decide)) ?_
  refine zs_ite (fun c1 => ?_) (fun c1 => ?_)
  · skip
    have r2 := (zs_I_le c1)
    exact zs_some (zs_inr (trivial))
  · skip
    have r3 := (zs_I_len c1)
    have g4 : zs_in (x3).toInt 0 5 := (zs_ltl 0 5 r3 h_x3 (zs_rdk (q := 2) (k := (8 : Int32).toNatClampNeg) (z := (0, 6)) h_σ.1 rfl) (by decide))
    have g5 : zs_in ((sn_I σ (1 + 1) (8 : Int32).toNatClampNeg)).toInt 1 6 := (zs_ltr 1 6 r3 h_x3 (zs_rdk (q := 2) (k := (8 : Int32).toNatClampNeg) (z := (0, 6)) h_σ.1 rfl) (by decide))
    refine zs_bd_ (zc_192 h_σ g4 zlI_0) (fun t_3 pt_3 => ?_)
    refine zs_ite (fun c6 => ?_) (fun c6 => ?_)
    · skip
      have r7 := (zs_I_eq c6)
      have g8 : zs_in (t_3).toInt 0 5 := (zs_eql 0 5 r7 (zs_topI _) h_x1 (by decide))
      refine zs_bd_ (zc_193 h_σ g4) (fun t_6 pt_6 => ?_)
      refine zs_lt (Q := fun z => True) trivial (fun y_8 hy_8 => ?_)
      obtain ⟨ret, er, hr⟩ := zc_194 h_σ h_x1 g4 hc
      refine ⟨ret, er, ?_⟩
      exact (zs_sumw hr (fun v w => ⟨w.1, w.2⟩) (fun v w => w.elim))
    · skip
      have r9 := (zs_I_eqn c6)
      obtain ⟨ret, er, hr⟩ := zc_194 h_σ h_x1 g4 hc
      refine ⟨ret, er, ?_⟩
      exact (zs_sumw hr (fun v w => ⟨w.1, w.2⟩) (fun v w => w.elim))
theorem zd_32 {σ0 : sn_S} {σ : sn_S} (h_σ : zs_C σ0 σ) {x1 : Int32} (h_x1 : zs_in x1.toInt 0 5) {s0 : (Int32 × Int32)} (h0 : (True ∧ zs_in (s0.2).toInt 0 6)) : zs_ok (sn_it (LX8_minutesCovered_4 σ x1) 5000 s0) (fun t => True) := by
  refine zs_it (I := fun s => (True ∧ zs_in (s.2).toInt 0 6)) (m := fun s => 6 - s.2.toInt) (fun s hs => ?_) (fun s hs => ?_) (by exact h0)
  · have h1 := hs.2; unfold zs_in at h1
    omega
  · obtain ⟨b, eb, hb⟩ := zc_195 h_σ h_x1 hs.2 (c := s.2.toInt) (Int.add_zero _).symm
    exact ⟨b, eb, zs_sumw hb (fun v w => ⟨⟨w.1.1, (zs_w w.1.2 (by decide))⟩, by have := w.2; omega⟩) (fun v w => w)⟩
-- fX8_firstMinutes
theorem zc_196 {x0 : Int32} (h_x0 : zs_in x0.toInt 0 30) : zs_ok (fX8_firstMinutes x0) (fun r => zs_in (r).toInt 0 1073741823) := by
  unfold fX8_firstMinutes
  exact zs_some (zs_subI 0 1073741823 (zs_cases h_x0 (fun z => zs_in ((1 : Int32) <<< (z &&& 31)).toInt 1 1073741824) (by decide +kernel)) zlI_1 (by decide))
-- BX8_minutesCovered_48
theorem zc_197 {σ0 : sn_S} {σ : sn_S} (h_σ : zs_C σ0 σ) {x2 : Int32} : zs_ok (BX8_minutesCovered_48 σ x2) (fun r => zs_in (r).toInt 0 1073741823) := by
  unfold BX8_minutesCovered_48
  refine zs_gd (zs_gin zlI_0 (by decide)) ?_
  refine zs_bd_ (zc_196 (zs_rdk (q := 2) (k := (0 : Int32).toNatClampNeg) (z := (0, 30)) h_σ.1 rfl)) (fun t_2 pt_2 => ?_)
  exact zs_some (zs_and pt_2 (by decide))
-- fX8_minutesCovered
theorem zc_198 {σ0 : sn_S} {σ : sn_S} (h_σ : zs_C σ0 σ) {x1 : Int32} (h_x1 : zs_in x1.toInt 0 5) : zs_ok (fX8_minutesCovered σ x1) (fun r => zs_in (r).toInt 0 1073741823) := by
  unfold fX8_minutesCovered
  refine zs_bd_ (zd_32 h_σ h_x1 (s0 := ((0 : Int32), (0 : Int32))) ⟨trivial, (zs_w zlI_0 (by decide))⟩) (fun t_1 pt_1 => ?_)
  obtain ⟨ret, er, hr⟩ := zc_197 h_σ
  refine ⟨ret, er, ?_⟩
  exact hr
-- fX8_covered
theorem zc_199 {σ0 : sn_S} {σ : sn_S} (h_σ : zs_C σ0 σ) {x1 : Int32} : zs_ok (fX8_covered σ x1) (fun r => (zs_in (r).toInt (-2) 1073741823) ∧ ((r).toInt = (-2) ∨ (zs_in (x1).toInt 0 5))) := by
  unfold fX8_covered
  refine zs_bd_ (zc_3 h_σ) (fun t_1 pt_1 => ?_)
  refine zs_ite (fun c1 => ?_) (fun c1 => ?_)
  · skip
    have r2 := (zs_I_eq c1)
    have g3 : zs_in (t_1).toInt 0 0 := (zs_eql 0 0 r2 pt_1.1 zlI_0 (by decide))
    exact zs_some ⟨(zs_w zlI_m2 (by decide)), Or.inl (zs_ptr zlI_m2)⟩
  · skip
    have r4 := (zs_I_eqn c1)
    have g5 : zs_in (t_1).toInt 1 1 := (zs_nel 1 1 r4 pt_1.1 zlI_0 (by decide))
    have q6 := (zs_or2 pt_1.2 g5 (by decide))
    have g7 : zs_in (x1).toInt 0 5 := q6
    refine zs_bd_ (zc_198 h_σ g7) (fun t_4 pt_4 => ?_)
    exact zs_some ⟨(zs_w pt_4 (by decide)), Or.inr g7⟩
-- fX9_of
theorem zc_200 {σ0 : sn_S} {σ : sn_S} (h_σ : zs_M σ0 σ) {x1 : Int32} (h_x1 : zs_in x1.toInt 0 5) {x2 : Int32} (h_x2 : zs_in x2.toInt 0 0) : zs_ok (fX9_of σ x1 x2) (fun r => zs_in (r).toInt 0 5) := by
  unfold fX9_of
  obtain rfl : x2 = (0 : Int32) := zs_eqv h_x2 (by decide)
  refine zs_gd (zs_gin (zs_addI 49 74 (zs_addI 49 74 zlI_49 (zs_mulI 0 25 zlI_5 h_x1 (by decide)) (by decide)) h_x2 (by decide)) (by decide)) ?_
  exact zs_some (zs_rdb (q := 1) (lo := 0) (hi := 5) h_σ.1 (zs_cases h_x1 (fun z => zs_bd (zs_tM 1 (((49 : Int32) + ((5 : Int32) * z)) + (0 : Int32)).toNatClampNeg) 0 5) (by decide +kernel)))
-- fX9_of
theorem zc_201 {σ0 : sn_S} {σ : sn_S} (h_σ : zs_M σ0 σ) {x1 : Int32} (h_x1 : zs_in x1.toInt 0 5) {x2 : Int32} (h_x2 : zs_in x2.toInt 1 1) : zs_ok (fX9_of σ x1 x2) (fun r => zs_in (r).toInt 0 29) := by
  unfold fX9_of
  obtain rfl : x2 = (1 : Int32) := zs_eqv h_x2 (by decide)
  refine zs_gd (zs_gin (zs_addI 50 75 (zs_addI 49 74 zlI_49 (zs_mulI 0 25 zlI_5 h_x1 (by decide)) (by decide)) h_x2 (by decide)) (by decide)) ?_
  exact zs_some (zs_rdb (q := 1) (lo := 0) (hi := 29) h_σ.1 (zs_cases h_x1 (fun z => zs_bd (zs_tM 1 (((49 : Int32) + ((5 : Int32) * z)) + (1 : Int32)).toNatClampNeg) 0 29) (by decide +kernel)))
-- fX9_of
theorem zc_202 {σ0 : sn_S} {σ : sn_S} (h_σ : zs_M σ0 σ) {x1 : Int32} (h_x1 : zs_in x1.toInt 0 5) {x2 : Int32} (h_x2 : zs_in x2.toInt 2 2) : zs_ok (fX9_of σ x1 x2) (fun r => zs_in (r).toInt 0 29) := by
  unfold fX9_of
  obtain rfl : x2 = (2 : Int32) := zs_eqv h_x2 (by decide)
  refine zs_gd (zs_gin (zs_addI 51 76 (zs_addI 49 74 zlI_49 (zs_mulI 0 25 zlI_5 h_x1 (by decide)) (by decide)) h_x2 (by decide)) (by decide)) ?_
  exact zs_some (zs_rdb (q := 1) (lo := 0) (hi := 29) h_σ.1 (zs_cases h_x1 (fun z => zs_bd (zs_tM 1 (((49 : Int32) + ((5 : Int32) * z)) + (2 : Int32)).toNatClampNeg) 0 29) (by decide +kernel)))
-- BX9_windowOf_9
theorem zc_203 {σ0 : sn_S} {σ : sn_S} (h_σ : zs_M σ0 σ) {x1 : Int32} (h_x1 : zs_in x1.toInt 0 5) {x2 : Int32} (h_x2 : zs_in x2.toInt 0 1073741823) {x3 : Int32} (h_x3 : zs_in x3.toInt 0 30) {c : Int} (hc : x3.toInt = c + 0) : zs_ok (BX9_windowOf_9 σ x1 x2 x3) (fun r => zs_sum (fun v => ((zs_in (v.1).toInt 0 1073741823 ∧ zs_in (v.2).toInt 1 30)) ∧ v.2.toInt = c + 1) (fun v => zs_in (v).toInt 0 1073741823) r) := by
  unfold BX9_windowOf_9
  refine zs_bd_ (zc_202 h_σ h_x1 zlI_2) (fun t_1 pt_1 => ?_)
  refine zs_ite (fun c1 => ?_) (fun c1 => ?_)
  · skip
    have r2 := (zs_I_lt c1)
    have g3 : zs_in (x3).toInt 1 30 := (zs_ltr 1 30 r2 pt_1 h_x3 (by decide))
    exact zs_some (zs_inr (h_x2))
  · skip
    have r4 := (zs_I_ltn c1)
    have g5 : zs_in (x3).toInt 0 29 := (zs_lel 0 29 r4 h_x3 pt_1 (by decide))
    refine zs_ite (fun c6 => ?_) (fun c6 => ?_)
    · skip
      have r7 := (zs_I_lt c6)
      have g8 : zs_in ((sn_I σ 0 22)).toInt (-1) 28 := (zs_ltl (-1) 28 r7 (zs_rdk (q := 0) (k := 22) (z := ((-1), 29)) h_σ.1 rfl) g5 (by decide))
      exact zs_some (zs_inr (h_x2))
    · skip
      have r9 := (zs_I_ltn c6)
      have g10 : zs_in ((sn_I σ 0 22)).toInt 0 29 := (zs_ler 0 29 r9 g5 (zs_rdk (q := 0) (k := 22) (z := ((-1), 29)) h_σ.1 rfl) (by decide))
      refine zs_lt (Q := fun z => zs_in z.toInt 0 1073741823) (zs_or 30 1073741823 h_x2 (zs_cases g5 (fun z => zs_in ((1 : Int32) <<< (z &&& 31)).toInt 1 536870912) (by decide +kernel)) (by decide)) (fun y_5 hy_5 => ?_)
      refine zs_lt (Q := fun z => zs_in z.toInt 1 30 ∧ z.toInt = c + 1) ⟨(zs_addI 1 30 g5 zlI_1 (by decide)), (zs_syI 1 hc g5 zlI_1 (by decide) (by decide))⟩ (fun y_7 hy_7 => ?_)
      exact zs_some (zs_inl ⟨⟨hy_5, hy_7.1⟩, hy_7.2⟩)
theorem zd_33 {σ0 : sn_S} {σ : sn_S} (h_σ : zs_M σ0 σ) {x1 : Int32} (h_x1 : zs_in x1.toInt 0 5) {s0 : (Int32 × Int32)} (h0 : (zs_in (s0.1).toInt 0 1073741823 ∧ zs_in (s0.2).toInt 0 30)) : zs_ok (sn_it (LX9_windowOf_9 σ x1) 5000 s0) (fun t => zs_in (t).toInt 0 1073741823) := by
  refine zs_it (I := fun s => (zs_in (s.1).toInt 0 1073741823 ∧ zs_in (s.2).toInt 0 30)) (m := fun s => 30 - s.2.toInt) (fun s hs => ?_) (fun s hs => ?_) (by exact h0)
  · have h1 := hs.2; unfold zs_in at h1
    omega
  · obtain ⟨b, eb, hb⟩ := zc_203 h_σ h_x1 hs.1 hs.2 (c := s.2.toInt) (Int.add_zero _).symm
    exact ⟨b, eb, zs_sumw hb (fun v w => ⟨⟨w.1.1, (zs_w w.1.2 (by decide))⟩, by have := w.2; omega⟩) (fun v w => w)⟩
-- BX9_windowOf_39
theorem zc_204 {σ0 : sn_S} {σ : sn_S} (h_σ : zs_M σ0 σ) {x2 : Int32} (h_x2 : zs_in x2.toInt 0 1073741823) : zs_ok (BX9_windowOf_39 σ x2) (fun r => zs_in (r).toInt 0 1073741823) := by
  unfold BX9_windowOf_39
  exact zs_some h_x2
-- fX9_windowOf
theorem zc_205 {σ0 : sn_S} {σ : sn_S} (h_σ : zs_M σ0 σ) {x1 : Int32} (h_x1 : zs_in x1.toInt 0 5) : zs_ok (fX9_windowOf σ x1) (fun r => zs_in (r).toInt 0 1073741823) := by
  unfold fX9_windowOf
  refine zs_bd_ (zc_201 h_σ h_x1 zlI_1) (fun t_1 pt_1 => ?_)
  refine zs_bd_ (zd_33 h_σ h_x1 (s0 := ((0 : Int32), t_1)) ⟨(zs_w zlI_0 (by decide)), (zs_w pt_1 (by decide))⟩) (fun t_3 pt_3 => ?_)
  obtain ⟨ret, er, hr⟩ := zc_204 h_σ pt_3
  refine ⟨ret, er, ?_⟩
  exact hr
-- BX9_coveredOf_35
theorem zc_206 {σ0 : sn_S} {σ : sn_S} (h_σ : zs_M σ0 σ) {x1 : Int32} (h_x1 : zs_in x1.toInt 0 5) {x2 : Int32} (h_x2 : zs_in x2.toInt 0 1073741823) {x3 : Int32} (h_x3 : zs_in x3.toInt 0 5) {t0 : Int32} (h_t0 : zs_in t0.toInt 0 1073741823) {t1 : Int32} (h_t1 : zs_in t1.toInt 0 1073741823) {c : Int} (hc : x3.toInt = c + 0) : zs_ok (BX9_coveredOf_35 σ x1 x2 x3 t0 t1) (fun r => zs_sum (fun v => ((zs_in (v.1).toInt 0 1073741823 ∧ zs_in (v.2).toInt 1 6)) ∧ v.2.toInt = c + 1) (fun v => False) r) := by
  unfold BX9_coveredOf_35
  refine zs_lt (Q := fun z => zs_in z.toInt 0 1073741823) (zs_or 30 1073741823 h_t0 h_t1 (by decide)) (fun y_1 hy_1 => ?_)
  refine zs_lt (Q := fun z => zs_in z.toInt 1 6 ∧ z.toInt = c + 1) ⟨(zs_addI 1 6 h_x3 zlI_1 (by decide)), (zs_syI 1 hc h_x3 zlI_1 (by decide) (by decide))⟩ (fun y_3 hy_3 => ?_)
  exact zs_some (zs_inl ⟨⟨hy_1, hy_3.1⟩, hy_3.2⟩)
-- BX9_coveredOf_35
theorem zc_207 {σ0 : sn_S} {σ : sn_S} (h_σ : zs_M σ0 σ) {x1 : Int32} (h_x1 : zs_in x1.toInt 0 5) {x2 : Int32} (h_x2 : zs_in x2.toInt 0 1073741823) {x3 : Int32} (h_x3 : zs_in x3.toInt 0 5) {t0 : Int32} (h_t0 : zs_in t0.toInt 0 1073741823) {t1 : Int32} (h_t1 : zs_in t1.toInt 0 0) {c : Int} (hc : x3.toInt = c + 0) : zs_ok (BX9_coveredOf_35 σ x1 x2 x3 t0 t1) (fun r => zs_sum (fun v => ((zs_in (v.1).toInt 0 1073741823 ∧ zs_in (v.2).toInt 1 6)) ∧ v.2.toInt = c + 1) (fun v => False) r) := by
  unfold BX9_coveredOf_35
  obtain rfl : t1 = (0 : Int32) := zs_eqv h_t1 (by decide)
  refine zs_lt (Q := fun z => zs_in z.toInt 0 1073741823) (zs_or 30 1073741823 h_t0 h_t1 (by decide)) (fun y_1 hy_1 => ?_)
  refine zs_lt (Q := fun z => zs_in z.toInt 1 6 ∧ z.toInt = c + 1) ⟨(zs_addI 1 6 h_x3 zlI_1 (by decide)), (zs_syI 1 hc h_x3 zlI_1 (by decide) (by decide))⟩ (fun y_3 hy_3 => ?_)
  exact zs_some (zs_inl ⟨⟨hy_1, hy_3.1⟩, hy_3.2⟩)
-- BX9_coveredOf_4
theorem zc_208 {σ0 : sn_S} {σ : sn_S} (h_σ : zs_M σ0 σ) {x1 : Int32} (h_x1 : zs_in x1.toInt 0 5) {x2 : Int32} (h_x2 : zs_in x2.toInt 0 1073741823) {x3 : Int32} (h_x3 : zs_in x3.toInt 0 6) {c : Int} (hc : x3.toInt = c + 0) : zs_ok (BX9_coveredOf_4 σ x1 x2 x3) (fun r => zs_sum (fun v => ((zs_in (v.1).toInt 0 1073741823 ∧ zs_in (v.2).toInt 1 6)) ∧ v.2.toInt = c + 1) (fun v => zs_in (v).toInt 0 1073741823) r) := by
  unfold BX9_coveredOf_4
  refine zs_gd (zs_gin zlI_8 (by decide)) ?_
  refine zs_ite (fun c1 => ?_) (fun c1 => ?_)
  · skip
    have r2 := (zs_I_le c1)
    exact zs_some (zs_inr (h_x2))
  · skip
    have r3 := (zs_I_len c1)
    have g4 : zs_in (x3).toInt 0 5 := (zs_ltl 0 5 r3 h_x3 (zs_rdk (q := 1) (k := (8 : Int32).toNatClampNeg) (z := (0, 6)) h_σ.1 rfl) (by decide))
    have g5 : zs_in ((sn_I σ 1 (8 : Int32).toNatClampNeg)).toInt 1 6 := (zs_ltr 1 6 r3 h_x3 (zs_rdk (q := 1) (k := (8 : Int32).toNatClampNeg) (z := (0, 6)) h_σ.1 rfl) (by decide))
    refine zs_bd_ (zc_200 h_σ g4 zlI_0) (fun t_3 pt_3 => ?_)
    refine zs_ite (fun c6 => ?_) (fun c6 => ?_)
    · skip
      have r7 := (zs_I_eq c6)
      refine zs_bd_ (zc_205 h_σ g4) (fun t_6 pt_6 => ?_)
      obtain ⟨ret, er, hr⟩ := zc_206 h_σ h_x1 h_x2 g4 h_x2 pt_6 hc
      refine ⟨ret, er, ?_⟩
      exact (zs_sumw hr (fun v w => ⟨w.1, w.2⟩) (fun v w => w.elim))
    · skip
      have r8 := (zs_I_eqn c6)
      obtain ⟨ret, er, hr⟩ := zc_207 h_σ h_x1 h_x2 g4 h_x2 zlI_0 hc
      refine ⟨ret, er, ?_⟩
      exact (zs_sumw hr (fun v w => ⟨w.1, w.2⟩) (fun v w => w.elim))
theorem zd_34 {σ0 : sn_S} {σ : sn_S} (h_σ : zs_M σ0 σ) {x1 : Int32} (h_x1 : zs_in x1.toInt 0 5) {s0 : (Int32 × Int32)} (h0 : (zs_in (s0.1).toInt 0 1073741823 ∧ zs_in (s0.2).toInt 0 6)) : zs_ok (sn_it (LX9_coveredOf_4 σ x1) 5000 s0) (fun t => zs_in (t).toInt 0 1073741823) := by
  refine zs_it (I := fun s => (zs_in (s.1).toInt 0 1073741823 ∧ zs_in (s.2).toInt 0 6)) (m := fun s => 6 - s.2.toInt) (fun s hs => ?_) (fun s hs => ?_) (by exact h0)
  · have h1 := hs.2; unfold zs_in at h1
    omega
  · obtain ⟨b, eb, hb⟩ := zc_208 h_σ h_x1 hs.1 hs.2 (c := s.2.toInt) (Int.add_zero _).symm
    exact ⟨b, eb, zs_sumw hb (fun v w => ⟨⟨w.1.1, (zs_w w.1.2 (by decide))⟩, by have := w.2; omega⟩) (fun v w => w)⟩
-- BX9_coveredOf_43
theorem zc_209 {σ0 : sn_S} {σ : sn_S} (h_σ : zs_M σ0 σ) {x2 : Int32} (h_x2 : zs_in x2.toInt 0 1073741823) : zs_ok (BX9_coveredOf_43 σ x2) (fun r => zs_in (r).toInt 0 1073741823) := by
  unfold BX9_coveredOf_43
  exact zs_some h_x2
-- fX9_coveredOf
theorem zc_210 {σ0 : sn_S} {σ : sn_S} (h_σ : zs_M σ0 σ) {x1 : Int32} (h_x1 : zs_in x1.toInt 0 5) : zs_ok (fX9_coveredOf σ x1) (fun r => zs_in (r).toInt 0 1073741823) := by
  unfold fX9_coveredOf
  refine zs_bd_ (zd_34 h_σ h_x1 (s0 := ((0 : Int32), (0 : Int32))) ⟨(zs_w zlI_0 (by decide)), (zs_w zlI_0 (by decide))⟩) (fun t_1 pt_1 => ?_)
  obtain ⟨ret, er, hr⟩ := zc_209 h_σ pt_1
  refine ⟨ret, er, ?_⟩
  exact hr
-- fX9_covered
theorem zc_211 {σ0 : sn_S} {σ : sn_S} (h_σ : zs_M σ0 σ) {x1 : Int32} : zs_ok (fX9_covered σ x1) (fun r => ((zs_in (r.1).toInt (-2) 1073741823 ∧ zs_M σ0 r.2)) ∧ ((r.1).toInt = (-2) ∨ (zs_in (x1).toInt 0 5))) := by
  unfold fX9_covered
  refine zs_bd_ (zc_98 h_σ) (fun t_1 pt_1 => ?_)
  refine zs_ite (fun c1 => ?_) (fun c1 => ?_)
  · skip
    have r2 := (zs_I_eq c1)
    have g3 : zs_in (t_1.1).toInt 0 0 := (zs_eql 0 0 r2 pt_1.1.1 zlI_0 (by decide))
    exact zs_some ⟨⟨(zs_w zlI_m2 (by decide)), pt_1.1.2⟩, Or.inl (zs_ptr zlI_m2)⟩
  · skip
    have r4 := (zs_I_eqn c1)
    have g5 : zs_in (t_1.1).toInt 1 1 := (zs_nel 1 1 r4 pt_1.1.1 zlI_0 (by decide))
    have q6 := (zs_or2 pt_1.2 g5 (by decide))
    have g7 : zs_in (x1).toInt 0 5 := q6
    refine zs_bd_ (zc_210 pt_1.1.2 g7) (fun t_4 pt_4 => ?_)
    exact zs_some ⟨⟨(zs_w pt_4 (by decide)), pt_1.1.2⟩, Or.inr g7⟩
-- BX8_naked_51
theorem zc_212 {σ0 : sn_S} {σ : sn_S} (h_σ : zs_C σ0 σ) {x1 : Int32} {x2 : Int32} (h_x2 : zs_in x2.toInt 0 5) {c : Int} (hc : x2.toInt = c + 0) : zs_ok (BX8_naked_51 σ x1 x2) (fun r => zs_sum (fun v => ((True ∧ zs_in (v.2).toInt 1 6)) ∧ v.2.toInt = c + 1) (fun v => False) r) := by
  unfold BX8_naked_51
  refine zs_lt (Q := fun z => zs_in z.toInt 1 6 ∧ z.toInt = c + 1) ⟨(zs_addI 1 6 h_x2 zlI_1 (by decide)), (zs_syI 1 hc h_x2 zlI_1 (by decide) (by decide))⟩ (fun y_1 hy_1 => ?_)
  exact zs_some (zs_inl ⟨⟨trivial, hy_1.1⟩, hy_1.2⟩)
-- BX8_naked_14
theorem zc_213 {σ0 : sn_S} {σ : sn_S} (h_σ : zs_C σ0 σ) {x1 : Int32} {x2 : Int32} (h_x2 : zs_in x2.toInt 0 6) {c : Int} (hc : x2.toInt = c + 0) : zs_ok (BX8_naked_14 σ x1 x2) (fun r => zs_sum (fun v => ((True ∧ zs_in (v.2).toInt 1 6)) ∧ v.2.toInt = c + 1) (fun v => True) r) := by
  unfold BX8_naked_14
  refine zs_ite (fun c1 => ?_) (fun c1 => ?_)
  · skip
    have r2 := (zs_I_le c1)
    exact zs_some (zs_inr (trivial))
  · skip
    have r3 := (zs_I_len c1)
    have g4 : zs_in (x2).toInt 0 5 := (zs_ltl 0 5 r3 h_x2 (zs_rdk (q := 27) (k := 1) (z := (0, 6)) h_σ.1 rfl) (by decide))
    have g5 : zs_in ((sn_I σ 27 1)).toInt 1 6 := (zs_ltr 1 6 r3 h_x2 (zs_rdk (q := 27) (k := 1) (z := (0, 6)) h_σ.1 rfl) (by decide))
    refine zs_gd (zs_gin g4 (by decide)) ?_
    refine zs_bd_ (zc_198 h_σ g4) (fun t_3 pt_3 => ?_)
    refine zs_ite (fun c6 => ?_) (fun c6 => ?_)
    · skip
      have r7 := (zs_I_eq c6)
      have g8 : zs_in (((sn_I σ (27 + 10) x2.toNatClampNeg) &&& (t_3 ^^^ (-1 : Int32)))).toInt 0 0 := (zs_eql 0 0 r7 (zs_and2 (zs_rdu (q := 37) (z := (0, 1073741823)) h_σ.1 (fun _ => rfl)) (by decide)) zlI_0 (by decide))
      obtain ⟨ret, er, hr⟩ := zc_212 h_σ g4 hc
      refine ⟨ret, er, ?_⟩
      exact (zs_sumw hr (fun v w => ⟨w.1, w.2⟩) (fun v w => w.elim))
    · skip
      have r9 := (zs_I_eqn c6)
      have g10 : zs_in (((sn_I σ (27 + 10) x2.toNatClampNeg) &&& (t_3 ^^^ (-1 : Int32)))).toInt 1 1073741823 := (zs_nel 1 1073741823 r9 (zs_and2 (zs_rdu (q := 37) (z := (0, 1073741823)) h_σ.1 (fun _ => rfl)) (by decide)) zlI_0 (by decide))
      refine zs_lt (Q := fun z => True) trivial (fun y_6 hy_6 => ?_)
      obtain ⟨ret, er, hr⟩ := zc_212 h_σ g4 hc
      refine ⟨ret, er, ?_⟩
      exact (zs_sumw hr (fun v w => ⟨w.1, w.2⟩) (fun v w => w.elim))
theorem zd_35 {σ0 : sn_S} {σ : sn_S} (h_σ : zs_C σ0 σ) {s0 : (Int32 × Int32)} (h0 : (True ∧ zs_in (s0.2).toInt 0 6)) : zs_ok (sn_it (LX8_naked_14 σ) 5000 s0) (fun t => True) := by
  refine zs_it (I := fun s => (True ∧ zs_in (s.2).toInt 0 6)) (m := fun s => 6 - s.2.toInt) (fun s hs => ?_) (fun s hs => ?_) (by exact h0)
  · have h1 := hs.2; unfold zs_in at h1
    omega
  · obtain ⟨b, eb, hb⟩ := zc_213 h_σ hs.2 (c := s.2.toInt) (Int.add_zero _).symm
    exact ⟨b, eb, zs_sumw hb (fun v w => ⟨⟨w.1.1, (zs_w w.1.2 (by decide))⟩, by have := w.2; omega⟩) (fun v w => w)⟩
-- BX8_naked_57
theorem zc_214 {σ0 : sn_S} {σ : sn_S} (h_σ : zs_C σ0 σ) {x1 : Int32} : zs_ok (BX8_naked_57 σ x1) (fun r => True) := by
  unfold BX8_naked_57
  exact zs_some trivial
-- fX8_naked
theorem zc_215 {σ0 : sn_S} {σ : sn_S} (h_σ : zs_C σ0 σ) : zs_ok (fX8_naked σ) (fun r => True) := by
  unfold fX8_naked
  refine zs_bd_ (zc_102 h_σ) (fun t_1 pt_1 => ?_)
  refine zs_ite (fun c1 => ?_) (fun c1 => ?_)
  · skip
    have r2 := (zs_I_eq c1)
    have g3 : zs_in (t_1).toInt 0 0 := (zs_eql 0 0 r2 pt_1 zlI_0 (by decide))
    exact zs_some trivial
  · skip
    have r4 := (zs_I_eqn c1)
    have g5 : zs_in (t_1).toInt 1 1 := (zs_nel 1 1 r4 pt_1 zlI_0 (by decide))
    refine zs_bd_ (zd_35 h_σ (s0 := ((0 : Int32), (0 : Int32))) ⟨trivial, (zs_w zlI_0 (by decide))⟩) (fun t_4 pt_4 => ?_)
    obtain ⟨ret, er, hr⟩ := zc_214 h_σ
    refine ⟨ret, er, ?_⟩
    exact hr
-- BX9_naked_49
theorem zc_216 {σ0 : sn_S} {σ : sn_S} (h_σ : zs_M σ0 σ) {x1 : Int32} {x2 : Int32} (h_x2 : zs_in x2.toInt 0 5) {t0 : Int32} {t1 : Int32} (h_t1 : zs_in t1.toInt 0 0) {c : Int} (hc : x2.toInt = c + 0) : zs_ok (BX9_naked_49 σ x1 x2 t0 t1) (fun r => zs_sum (fun v => ((True ∧ zs_in (v.2).toInt 1 6)) ∧ v.2.toInt = c + 1) (fun v => False) r) := by
  unfold BX9_naked_49
  obtain rfl : t1 = (0 : Int32) := zs_eqv h_t1 (by decide)
  refine zs_lt (Q := fun z => True) trivial (fun y_1 hy_1 => ?_)
  refine zs_lt (Q := fun z => zs_in z.toInt 1 6 ∧ z.toInt = c + 1) ⟨(zs_addI 1 6 h_x2 zlI_1 (by decide)), (zs_syI 1 hc h_x2 zlI_1 (by decide) (by decide))⟩ (fun y_3 hy_3 => ?_)
  exact zs_some (zs_inl ⟨⟨trivial, hy_3.1⟩, hy_3.2⟩)
-- BX9_naked_49
theorem zc_217 {σ0 : sn_S} {σ : sn_S} (h_σ : zs_M σ0 σ) {x1 : Int32} {x2 : Int32} (h_x2 : zs_in x2.toInt 0 5) {t0 : Int32} {t1 : Int32} (h_t1 : zs_in t1.toInt 1 32) {c : Int} (hc : x2.toInt = c + 0) : zs_ok (BX9_naked_49 σ x1 x2 t0 t1) (fun r => zs_sum (fun v => ((True ∧ zs_in (v.2).toInt 1 6)) ∧ v.2.toInt = c + 1) (fun v => False) r) := by
  unfold BX9_naked_49
  refine zs_lt (Q := fun z => True) trivial (fun y_1 hy_1 => ?_)
  refine zs_lt (Q := fun z => zs_in z.toInt 1 6 ∧ z.toInt = c + 1) ⟨(zs_addI 1 6 h_x2 zlI_1 (by decide)), (zs_syI 1 hc h_x2 zlI_1 (by decide) (by decide))⟩ (fun y_3 hy_3 => ?_)
  exact zs_some (zs_inl ⟨⟨trivial, hy_3.1⟩, hy_3.2⟩)
-- BX9_naked_14
theorem zc_218 {σ0 : sn_S} {σ : sn_S} (h_σ : zs_M σ0 σ) {x1 : Int32} {x2 : Int32} (h_x2 : zs_in x2.toInt 0 6) {c : Int} (hc : x2.toInt = c + 0) : zs_ok (BX9_naked_14 σ x1 x2) (fun r => zs_sum (fun v => ((True ∧ zs_in (v.2).toInt 1 6)) ∧ v.2.toInt = c + 1) (fun v => True) r) := by
  unfold BX9_naked_14
  refine zs_gd (zs_gin zlI_5 (by decide)) ?_
  refine zs_ite (fun c1 => ?_) (fun c1 => ?_)
  · skip
    have r2 := (zs_I_le c1)
    exact zs_some (zs_inr (trivial))
  · skip
    have r3 := (zs_I_len c1)
    have g4 : zs_in (x2).toInt 0 5 := (zs_ltl 0 5 r3 h_x2 (zs_rdk (q := 1) (k := (5 : Int32).toNatClampNeg) (z := (0, 6)) h_σ.1 rfl) (by decide))
    have g5 : zs_in ((sn_I σ 1 (5 : Int32).toNatClampNeg)).toInt 1 6 := (zs_ltr 1 6 r3 h_x2 (zs_rdk (q := 1) (k := (5 : Int32).toNatClampNeg) (z := (0, 6)) h_σ.1 rfl) (by decide))
    refine zs_gd (zs_gin g4 (by decide)) ?_
    refine zs_bd_ (zc_210 h_σ g4) (fun t_4 pt_4 => ?_)
    refine zs_ite (fun c6 => ?_) (fun c6 => ?_)
    · skip
      have r7 := (zs_I_eq c6)
      have g8 : zs_in (((sn_I σ 10 x2.toNatClampNeg) &&& (t_4 ^^^ (-1 : Int32)))).toInt 0 0 := (zs_eql 0 0 r7 (zs_and2 (zs_rdu (q := 10) (z := (0, 1073741823)) h_σ.1 (fun _ => rfl)) (by decide)) zlI_0 (by decide))
      obtain ⟨ret, er, hr⟩ := zc_216 h_σ g4 zlI_0 hc
      refine ⟨ret, er, ?_⟩
      exact (zs_sumw hr (fun v w => ⟨w.1, w.2⟩) (fun v w => w.elim))
    · skip
      have r9 := (zs_I_eqn c6)
      have g10 : zs_in (((sn_I σ 10 x2.toNatClampNeg) &&& (t_4 ^^^ (-1 : Int32)))).toInt 1 1073741823 := (zs_nel 1 1073741823 r9 (zs_and2 (zs_rdu (q := 10) (z := (0, 1073741823)) h_σ.1 (fun _ => rfl)) (by decide)) zlI_0 (by decide))
      obtain ⟨ret, er, hr⟩ := zc_217 h_σ g4 (zs_cases g4 (fun z => zs_in ((1 : Int32) <<< (z &&& 31)).toInt 1 32) (by decide +kernel)) hc
      refine ⟨ret, er, ?_⟩
      exact (zs_sumw hr (fun v w => ⟨w.1, w.2⟩) (fun v w => w.elim))
theorem zd_36 {σ0 : sn_S} {σ : sn_S} (h_σ : zs_M σ0 σ) {s0 : (Int32 × Int32)} (h0 : (True ∧ zs_in (s0.2).toInt 0 6)) : zs_ok (sn_it (LX9_naked_14 σ) 5000 s0) (fun t => True) := by
  refine zs_it (I := fun s => (True ∧ zs_in (s.2).toInt 0 6)) (m := fun s => 6 - s.2.toInt) (fun s hs => ?_) (fun s hs => ?_) (by exact h0)
  · have h1 := hs.2; unfold zs_in at h1
    omega
  · obtain ⟨b, eb, hb⟩ := zc_218 h_σ hs.2 (c := s.2.toInt) (Int.add_zero _).symm
    exact ⟨b, eb, zs_sumw hb (fun v w => ⟨⟨w.1.1, (zs_w w.1.2 (by decide))⟩, by have := w.2; omega⟩) (fun v w => w)⟩
