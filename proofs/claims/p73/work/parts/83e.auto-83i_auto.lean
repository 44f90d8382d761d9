section
theorem zd_76 {σ0 : sn_S} {σ : sn_S} (h_σ : zs_C σ0 σ) {s0 : (Int32 × (Int32 × Int32))} (h0 : (zs_in (s0.1).toInt (-1) 5 ∧ (zs_in (s0.2.1).toInt 0 2147483647 ∧ zs_in (s0.2.2).toInt 0 6))) : zs_ok (sn_it (LX8_dear_22 σ) 5000 s0) (fun t => zs_in (t).toInt (-1) 5) := by
  refine zs_it (I := fun s => (zs_in (s.1).toInt (-1) 5 ∧ (zs_in (s.2.1).toInt 0 2147483647 ∧ zs_in (s.2.2).toInt 0 6))) (m := fun s => 6 - s.2.2.toInt) (fun s hs => ?_) (fun s hs => ?_) (by exact h0)
  · have h1 := hs.2.2; unfold zs_in at h1
    omega
  · obtain ⟨b, eb, hb⟩ := zc_423 h_σ hs.1 hs.2.1 hs.2.2 (c := s.2.2.toInt) (Int.add_zero _).symm
    exact ⟨b, eb, zs_sumw hb (fun v w => ⟨⟨w.1.1, ⟨w.1.2.1, (zs_w w.1.2.2 (by decide))⟩⟩, by have := w.2; omega⟩) (fun v w => w)⟩
-- BX8_dear_69
theorem zc_424 {σ0 : sn_S} {σ : sn_S} (h_σ : zs_C σ0 σ) {x2 : Int32} (h_x2 : zs_in x2.toInt (-1) 5) : zs_ok (BX8_dear_69 σ x2) (fun r => (zs_in (r.1).toInt (-1) 5 ∧ zs_C σ0 r.2)) := by
  unfold BX8_dear_69
  exact zs_some ⟨h_x2, h_σ⟩
-- fX8_dear
theorem zc_425 {σ0 : sn_S} {σ : sn_S} (h_σ : zs_C σ0 σ) : zs_ok (fX8_dear σ) (fun r => (zs_in (r.1).toInt (-2) 5 ∧ zs_C σ0 r.2)) := by
  unfold fX8_dear
  refine zs_bd_ (zc_102 h_σ) (fun t_1 pt_1 => ?_)
  refine zs_ite (fun c1 => ?_) (fun c1 => ?_)
  · skip
    have r2 := (zs_I_eq c1)
    have g3 : zs_in (t_1).toInt 0 0 := (zs_eql 0 0 r2 pt_1 zlI_0 (by decide))
    exact zs_some ⟨(zs_w zlI_m2 (by decide)), h_σ⟩
  · skip
    have r4 := (zs_I_eqn c1)
    have g5 : zs_in (t_1).toInt 1 1 := (zs_nel 1 1 r4 pt_1 zlI_0 (by decide))
    refine zs_bd_ (zc_237 h_σ) (fun t_4 pt_4 => ?_)
    refine zs_bd_ (zd_76 pt_4 (s0 := ((-1 : Int32), ((0 : Int32), (0 : Int32)))) ⟨(zs_w zlI_m1 (by decide)), ⟨(zs_w zlI_0 (by decide)), (zs_w zlI_0 (by decide))⟩⟩) (fun t_6 pt_6 => ?_)
    obtain ⟨ret, er, hr⟩ := zc_424 pt_4 pt_6
    refine ⟨ret, er, ?_⟩
    exact ⟨(zs_w hr.1 (by decide)), hr.2⟩
-- BX9_dear_55
theorem zc_426 {σ0 : sn_S} {σ : sn_S} (h_σ : zs_M σ0 σ) {x1 : Int32} (h_x1 : zs_in x1.toInt 0 5) {x2 : Int32} (h_x2 : zs_in x2.toInt 1 2147483647) {x3 : Int32} (h_x3 : zs_in x3.toInt 0 5) {c : Int} (hc : x3.toInt = c + 0) : zs_ok (BX9_dear_55 σ x1 x2 x3) (fun r => zs_sum (fun v => ((zs_M σ0 v.1 ∧ (zs_in (v.2.1).toInt 0 5 ∧ (zs_in (v.2.2.1).toInt 1 2147483647 ∧ zs_in (v.2.2.2).toInt 1 6)))) ∧ v.2.2.2.toInt = c + 1) (fun v => False) r) := by
  unfold BX9_dear_55
  refine zs_lt (Q := fun z => zs_in z.toInt 1 6 ∧ z.toInt = c + 1) ⟨(zs_addI 1 6 h_x3 zlI_1 (by decide)), (zs_syI 1 hc h_x3 zlI_1 (by decide) (by decide))⟩ (fun y_1 hy_1 => ?_)
  exact zs_some (zs_inl ⟨⟨h_σ, ⟨h_x1, ⟨h_x2, hy_1.1⟩⟩⟩, hy_1.2⟩)
-- BX9_dear_55
theorem zc_427 {σ0 : sn_S} {σ : sn_S} (h_σ : zs_M σ0 σ) {x1 : Int32} (h_x1 : zs_in x1.toInt (-1) 5) {x2 : Int32} (h_x2 : zs_in x2.toInt 0 2147483647) {x3 : Int32} (h_x3 : zs_in x3.toInt 0 5) {c : Int} (hc : x3.toInt = c + 0) : zs_ok (BX9_dear_55 σ x1 x2 x3) (fun r => zs_sum (fun v => ((zs_M σ0 v.1 ∧ (zs_in (v.2.1).toInt (-1) 5 ∧ (zs_in (v.2.2.1).toInt 0 2147483647 ∧ zs_in (v.2.2.2).toInt 1 6)))) ∧ v.2.2.2.toInt = c + 1) (fun v => False) r) := by
  unfold BX9_dear_55
  refine zs_lt (Q := fun z => zs_in z.toInt 1 6 ∧ z.toInt = c + 1) ⟨(zs_addI 1 6 h_x3 zlI_1 (by decide)), (zs_syI 1 hc h_x3 zlI_1 (by decide) (by decide))⟩ (fun y_1 hy_1 => ?_)
  exact zs_some (zs_inl ⟨⟨h_σ, ⟨h_x1, ⟨h_x2, hy_1.1⟩⟩⟩, hy_1.2⟩)
-- BX9_dear_16
theorem zc_428 {σ0 : sn_S} {σ : sn_S} (h_σ : zs_M σ0 σ) {x1 : Int32} (h_x1 : zs_in x1.toInt (-1) 5) {x2 : Int32} (h_x2 : zs_in x2.toInt 0 2147483647) {x3 : Int32} (h_x3 : zs_in x3.toInt 0 6) {c : Int} (hc : x3.toInt = c + 0) : zs_ok (BX9_dear_16 σ x1 x2 x3) (fun r => zs_sum (fun v => ((zs_M σ0 v.1 ∧ (zs_in (v.2.1).toInt (-1) 5 ∧ (zs_in (v.2.2.1).toInt 0 2147483647 ∧ zs_in (v.2.2.2).toInt 1 6)))) ∧ v.2.2.2.toInt = c + 1) (fun v => (zs_M σ0 v.1 ∧ zs_in (v.2).toInt (-1) 5)) r) := by
  unfold BX9_dear_16
  refine zs_gd (zs_gin zlI_8 (by decide)) ?_
  refine zs_ite (fun c1 => ?_) (fun c1 => ?_)
  · skip
    have r2 := (zs_I_le c1)
    exact zs_some (zs_inr (⟨h_σ, h_x1⟩))
  · skip
    have r3 := (zs_I_len c1)
    have g4 : zs_in (x3).toInt 0 5 := (zs_ltl 0 5 r3 h_x3 (zs_rdk (q := 1) (k := (8 : Int32).toNatClampNeg) (z := (0, 6)) h_σ.1 rfl) (by decide))
    have g5 : zs_in ((sn_I σ 1 (8 : Int32).toNatClampNeg)).toInt 1 6 := (zs_ltr 1 6 r3 h_x3 (zs_rdk (q := 1) (k := (8 : Int32).toNatClampNeg) (z := (0, 6)) h_σ.1 rfl) (by decide))
    refine zs_bd_ (zc_262 h_σ g4) (fun t_3 pt_3 => ?_)
    refine zs_bd_ (zc_240 pt_3.2 g4 zlI_4) (fun t_5 pt_5 => ?_)
    refine zs_lt (Q := fun z => True) trivial (fun y_7 hy_7 => ?_)
    refine zs_ite (fun c6 => ?_) (fun c6 => ?_)
    · skip
      have r7 := (zs_I_lt c6)
      have g8 : zs_in (x2).toInt 0 2147483646 := (zs_ltl 0 2147483646 r7 h_x2 (zs_topI _) (by decide))
      have g9 : zs_in (y_7).toInt 1 2147483647 := (zs_ltr 1 2147483647 r7 h_x2 (zs_topI _) (by decide))
      obtain ⟨ret, er, hr⟩ := zc_426 pt_3.2 g4 g9 g4 hc
      refine ⟨ret, er, ?_⟩
      exact (zs_sumw hr (fun v w => ⟨⟨w.1.1, ⟨(zs_w w.1.2.1 (by decide)), ⟨(zs_w w.1.2.2.1 (by decide)), w.1.2.2.2⟩⟩⟩, w.2⟩) (fun v w => w.elim))
    · skip
      have r10 := (zs_I_ltn c6)
      obtain ⟨ret, er, hr⟩ := zc_427 pt_3.2 h_x1 h_x2 g4 hc
      refine ⟨ret, er, ?_⟩
      exact (zs_sumw hr (fun v w => ⟨w.1, w.2⟩) (fun v w => w.elim))
theorem zd_77 {σ0 : sn_S}  {s0 : (sn_S × (Int32 × (Int32 × Int32)))} (h0 : (zs_M σ0 s0.1 ∧ (zs_in (s0.2.1).toInt (-1) 5 ∧ (zs_in (s0.2.2.1).toInt 0 2147483647 ∧ zs_in (s0.2.2.2).toInt 0 6)))) : zs_ok (sn_it (LX9_dear_16) 5000 s0) (fun t => (zs_M σ0 t.1 ∧ zs_in (t.2).toInt (-1) 5)) := by
  refine zs_it (I := fun s => (zs_M σ0 s.1 ∧ (zs_in (s.2.1).toInt (-1) 5 ∧ (zs_in (s.2.2.1).toInt 0 2147483647 ∧ zs_in (s.2.2.2).toInt 0 6)))) (m := fun s => 6 - s.2.2.2.toInt) (fun s hs => ?_) (fun s hs => ?_) (by exact h0)
  · have h1 := hs.2.2.2; unfold zs_in at h1
    omega
  · obtain ⟨b, eb, hb⟩ := zc_428 hs.1 hs.2.1 hs.2.2.1 hs.2.2.2 (c := s.2.2.2.toInt) (Int.add_zero _).symm
    exact ⟨b, eb, zs_sumw hb (fun v w => ⟨⟨w.1.1, ⟨w.1.2.1, ⟨w.1.2.2.1, (zs_w w.1.2.2.2 (by decide))⟩⟩⟩, by have := w.2; omega⟩) (fun v w => w)⟩
-- BX9_dear_61
theorem zc_429 {σ0 : sn_S} {σ : sn_S} (h_σ : zs_M σ0 σ) {x1 : Int32} (h_x1 : zs_in x1.toInt (-1) 5) : zs_ok (BX9_dear_61 σ x1) (fun r => (zs_in (r.1).toInt (-1) 5 ∧ zs_M σ0 r.2)) := by
  unfold BX9_dear_61
  exact zs_some ⟨h_x1, h_σ⟩
-- fX9_dear
theorem zc_430 {σ0 : sn_S} {σ : sn_S} (h_σ : zs_M σ0 σ) : zs_ok (fX9_dear σ) (fun r => (zs_in (r.1).toInt (-2) 5 ∧ zs_M σ0 r.2)) := by
  unfold fX9_dear
  refine zs_bd_ (zc_92 h_σ) (fun t_1 pt_1 => ?_)
  refine zs_ite (fun c1 => ?_) (fun c1 => ?_)
  · skip
    have r2 := (zs_I_eq c1)
    have g3 : zs_in (t_1.1).toInt 0 0 := (zs_eql 0 0 r2 pt_1.1 zlI_0 (by decide))
    exact zs_some ⟨(zs_w zlI_m2 (by decide)), pt_1.2⟩
  · skip
    have r4 := (zs_I_eqn c1)
    have g5 : zs_in (t_1.1).toInt 1 1 := (zs_nel 1 1 r4 pt_1.1 zlI_0 (by decide))
    refine zs_bd_ (zd_77  (s0 := (t_1.2, ((-1 : Int32), ((0 : Int32), (0 : Int32))))) ⟨pt_1.2, ⟨(zs_w zlI_m1 (by decide)), ⟨(zs_w zlI_0 (by decide)), (zs_w zlI_0 (by decide))⟩⟩⟩) (fun t_4 pt_4 => ?_)
    obtain ⟨ret, er, hr⟩ := zc_429 pt_4.1 pt_4.2
    refine ⟨ret, er, ?_⟩
    exact ⟨(zs_w hr.1 (by decide)), hr.2⟩
-- BX3_moneyAt_44
theorem zc_431 {σ0 : sn_S} {σ : sn_S} (h_σ : zs_C σ0 σ) {x1 : Int32} (h_x1 : zs_in x1.toInt (-1) 29) {x2 : Int32} {x3 : Int32} (h_x3 : zs_in x3.toInt 0 5) {c : Int} (hc : x3.toInt = c + 0) : zs_ok (BX3_moneyAt_44 σ 49 x1 x2 x3) (fun r => zs_sum (fun v => ((True ∧ zs_in (v.2).toInt 1 6)) ∧ v.2.toInt = c + 1) (fun v => False) r) := by
  unfold BX3_moneyAt_44
  refine zs_lt (Q := fun z => zs_in z.toInt 1 6 ∧ z.toInt = c + 1) ⟨(zs_addI 1 6 h_x3 zlI_1 (by decide)), (zs_syI 1 hc h_x3 zlI_1 (by decide) (by decide))⟩ (fun y_1 hy_1 => ?_)
  exact zs_some (zs_inl ⟨⟨trivial, hy_1.1⟩, hy_1.2⟩)
-- BX3_moneyAt_7
theorem zc_432 {σ0 : sn_S} {σ : sn_S} (h_σ : zs_C σ0 σ) {x1 : Int32} (h_x1 : zs_in x1.toInt (-1) 29) {x2 : Int32} {x3 : Int32} (h_x3 : zs_in x3.toInt 0 6) {c : Int} (hc : x3.toInt = c + 0) : zs_ok (BX3_moneyAt_7 σ 49 x1 x2 x3) (fun r => zs_sum (fun v => ((True ∧ zs_in (v.2).toInt 1 6)) ∧ v.2.toInt = c + 1) (fun v => True) r) := by
  unfold BX3_moneyAt_7
  refine zs_ite (fun c1 => ?_) (fun c1 => ?_)
  · skip
    have r2 := (zs_I_le c1)
    exact zs_some (zs_inr (trivial))
  · skip
    have r3 := (zs_I_len c1)
    have g4 : zs_in (x3).toInt 0 5 := (zs_ltl 0 5 r3 h_x3 (zs_rdk (q := 49) (k := 2) (z := (0, 6)) h_σ.1 rfl) (by decide))
    have g5 : zs_in ((sn_I σ 49 2)).toInt 1 6 := (zs_ltr 1 6 r3 h_x3 (zs_rdk (q := 49) (k := 2) (z := (0, 6)) h_σ.1 rfl) (by decide))
    refine zs_gd (zs_gin g4 (by decide)) ?_
    refine zs_ite (fun c6 => ?_) (fun c6 => ?_)
    · skip
      have r7 := (zs_I_eq c6)
      have g8 : zs_in ((sn_I σ (49 + 2) x3.toNatClampNeg)).toInt (-1) (-1) := (zs_eql (-1) (-1) r7 (zs_rdu (q := 51) (z := ((-1), 63)) h_σ.1 (fun _ => rfl)) zlI_m1 (by decide))
      obtain ⟨ret, er, hr⟩ := zc_431 h_σ h_x1 g4 hc
      refine ⟨ret, er, ?_⟩
      exact (zs_sumw hr (fun v w => ⟨w.1, w.2⟩) (fun v w => w.elim))
    · skip
      have r9 := (zs_I_eqn c6)
      have g10 : zs_in ((sn_I σ (49 + 2) x3.toNatClampNeg)).toInt 0 63 := (zs_nel 0 63 r9 (zs_rdu (q := 51) (z := ((-1), 63)) h_σ.1 (fun _ => rfl)) zlI_m1 (by decide))
      refine zs_gd (zs_gin g4 (by decide)) ?_
      refine zs_ite (fun c11 => ?_) (fun c11 => ?_)
      · skip
        have r12 := (zs_I_lt c11)
        obtain ⟨ret, er, hr⟩ := zc_431 h_σ h_x1 g4 hc
        refine ⟨ret, er, ?_⟩
        exact (zs_sumw hr (fun v w => ⟨w.1, w.2⟩) (fun v w => w.elim))
      · skip
        have r13 := (zs_I_ltn c11)
        have g14 : zs_in ((sn_I σ (49 + 2) x3.toNatClampNeg)).toInt 0 29 := (zs_lel 0 29 r13 g10 h_x1 (by decide))
        have g15 : zs_in (x1).toInt 0 29 := (zs_ler 0 29 r13 g10 h_x1 (by decide))
        refine zs_gd (zs_gin g4 (by decide)) ?_
        refine zs_lt (Q := fun z => True) trivial (fun y_7 hy_7 => ?_)
        obtain ⟨ret, er, hr⟩ := zc_268 h_σ g15 g4 hc
        refine ⟨ret, er, ?_⟩
        exact (zs_sumw hr (fun v w => ⟨w.1, w.2⟩) (fun v w => w.elim))
theorem zd_78 {σ0 : sn_S} {σ : sn_S} (h_σ : zs_C σ0 σ) {x1 : Int32} (h_x1 : zs_in x1.toInt (-1) 29) {s0 : (Int32 × Int32)} (h0 : (True ∧ zs_in (s0.2).toInt 0 6)) : zs_ok (sn_it (LX3_moneyAt_7 σ 49 x1) 5000 s0) (fun t => True) := by
  refine zs_it (I := fun s => (True ∧ zs_in (s.2).toInt 0 6)) (m := fun s => 6 - s.2.toInt) (fun s hs => ?_) (fun s hs => ?_) (by exact h0)
  · have h1 := hs.2; unfold zs_in at h1
    omega
  · obtain ⟨b, eb, hb⟩ := zc_432 h_σ h_x1 hs.2 (c := s.2.toInt) (Int.add_zero _).symm
    exact ⟨b, eb, zs_sumw hb (fun v w => ⟨⟨w.1.1, (zs_w w.1.2 (by decide))⟩, by have := w.2; omega⟩) (fun v w => w)⟩
-- fX3_moneyAt
theorem zc_433 {σ0 : sn_S} {σ : sn_S} (h_σ : zs_C σ0 σ) {x1 : Int32} (h_x1 : zs_in x1.toInt (-1) 29) : zs_ok (fX3_moneyAt σ 49 x1) (fun r => True) := by
  unfold fX3_moneyAt
  refine zs_lt (Q := fun z => True) trivial (fun y_1 hy_1 => ?_)
  refine zs_bd_ (zd_78 h_σ h_x1 (s0 := (y_1, (0 : Int32))) ⟨trivial, (zs_w zlI_0 (by decide))⟩) (fun t_3 pt_3 => ?_)
  obtain ⟨ret, er, hr⟩ := zc_266 h_σ
  refine ⟨ret, er, ?_⟩
  exact hr
-- fX8_reserve
theorem zc_434 {σ0 : sn_S} {σ : sn_S} (h_σ : zs_C σ0 σ) : zs_ok (fX8_reserve σ) (fun r => (zs_in (r.1).toInt (-2) 999 ∧ zs_C σ0 r.2)) := by
  unfold fX8_reserve
  refine zs_bd_ (zc_102 h_σ) (fun t_1 pt_1 => ?_)
  refine zs_ite (fun c1 => ?_) (fun c1 => ?_)
  · skip
    have r2 := (zs_I_eq c1)
    have g3 : zs_in (t_1).toInt 0 0 := (zs_eql 0 0 r2 pt_1 zlI_0 (by decide))
    exact zs_some ⟨(zs_w zlI_m2 (by decide)), h_σ⟩
  · skip
    have r4 := (zs_I_eqn c1)
    have g5 : zs_in (t_1).toInt 1 1 := (zs_nel 1 1 r4 pt_1 zlI_0 (by decide))
    refine zs_gd (zs_gin zlI_3 (by decide)) ?_
    refine zs_bd_ (zc_237 h_σ) (fun t_5 pt_5 => ?_)
    refine zs_bd_ (zc_433 pt_5 (zs_subI (-1) 29 (zs_rdk (q := 27) (k := 0) (z := (0, 30)) pt_5.1 rfl) zlI_1 (by decide))) (fun t_7 pt_7 => ?_)
    refine zs_lt (Q := fun z => True) trivial (fun y_9 hy_9 => ?_)
    refine zs_lt (Q := fun z => zs_in z.toInt 0 2147483647) (zs_max 0 2147483647 zlI_0 (zs_topI _) (by decide)) (fun y_11 hy_11 => ?_)
    refine zs_ite (fun c6 => ?_) (fun c6 => ?_)
    · skip
      have r7 := (zs_I_le c6)
      have g8 : zs_in (y_11).toInt 0 999 := (zs_lel 0 999 r7 hy_11 zlI_999 (by decide))
      exact zs_some ⟨(zs_w g8 (by decide)), pt_5⟩
    · skip
      have r9 := (zs_I_len c6)
      have g10 : zs_in (y_11).toInt 1000 2147483647 := (zs_ltr 1000 2147483647 r9 zlI_999 hy_11 (by decide))
      exact zs_some ⟨(zs_w zlI_m1 (by decide)), pt_5⟩
-- BX8_by_16
theorem zc_435 {σ0 : sn_S} {σ : sn_S} (h_σ : zs_C σ0 σ) : zs_ok (BX8_by_16 σ) (fun r => (zs_in (r.1).toInt (-100000) (-100000) ∧ zs_C σ0 r.2)) := by
  unfold BX8_by_16
  exact zs_some ⟨zlI_m100000, h_σ⟩
-- fX8_moneyInTheEnd
theorem zc_436 {σ0 : sn_S} {σ : sn_S} (h_σ : zs_C σ0 σ) {x1 : Int32} (h_x1 : zs_in x1.toInt 0 3) : zs_ok (fX8_moneyInTheEnd σ x1) (fun r => (True ∧ zs_C σ0 r.2)) := by
  unfold fX8_moneyInTheEnd
  refine zs_bd_ (zo_reckon_49_27_0_3 h_σ h_x1) (fun t_1 pt_1 => ?_)
  refine zs_bd_ (zc_433 pt_1 (zs_subI (-1) 29 (zs_rdk (q := 27) (k := 0) (z := (0, 30)) pt_1.1 rfl) zlI_1 (by decide))) (fun t_3 pt_3 => ?_)
  exact zs_some ⟨trivial, pt_1⟩
-- fX8_by
theorem zc_437 {σ0 : sn_S} {σ : sn_S} (h_σ : zs_C σ0 σ) {x1 : Int32} : zs_ok (fX8_by σ x1) (fun r => (True ∧ zs_C σ0 r.2)) := by
  unfold fX8_by
  refine zs_bd_ (zc_102 h_σ) (fun t_1 pt_1 => ?_)
  refine zs_ite (fun c1 => ?_) (fun c1 => ?_)
  · skip
    have r2 := (zs_I_eq c1)
    have g3 : zs_in (t_1).toInt 0 0 := (zs_eql 0 0 r2 pt_1 zlI_0 (by decide))
    obtain ⟨ret, er, hr⟩ := zc_435 h_σ
    refine ⟨ret, er, ?_⟩
    exact ⟨trivial, hr.2⟩
  · skip
    have r4 := (zs_I_eqn c1)
    have g5 : zs_in (t_1).toInt 1 1 := (zs_nel 1 1 r4 pt_1 zlI_0 (by decide))
    refine zs_ite (fun c6 => ?_) (fun c6 => ?_)
    · skip
      have r7 := (zs_I_lt c6)
      have g8 : zs_in (x1).toInt (-2147483648) (-1) := (zs_ltl (-2147483648) (-1) r7 (zs_topI _) zlI_0 (by decide))
      obtain ⟨ret, er, hr⟩ := zc_435 h_σ
      refine ⟨ret, er, ?_⟩
      exact ⟨trivial, hr.2⟩
    · skip
      have r9 := (zs_I_ltn c6)
      have g10 : zs_in (x1).toInt 0 2147483647 := (zs_ler 0 2147483647 r9 zlI_0 (zs_topI _) (by decide))
      refine zs_ite (fun c11 => ?_) (fun c11 => ?_)
      · skip
        have r12 := (zs_I_lt c11)
        have g13 : zs_in (x1).toInt 0 3 := (zs_ltl 0 3 r12 g10 zlI_4 (by decide))
        refine zs_bd_ (zc_436 h_σ g13) (fun t_6 pt_6 => ?_)
        exact zs_some ⟨trivial, pt_6.2⟩
      · skip
        have r14 := (zs_I_ltn c11)
        have g15 : zs_in (x1).toInt 4 2147483647 := (zs_ler 4 2147483647 r14 zlI_4 g10 (by decide))
        obtain ⟨ret, er, hr⟩ := zc_435 h_σ
        refine ⟨ret, er, ?_⟩
        exact ⟨trivial, hr.2⟩
-- BX9_by_22
theorem zc_438 {σ0 : sn_S} {σ : sn_S} (h_σ : zs_M σ0 σ) : zs_ok (BX9_by_22 σ) (fun r => (zs_in (r.1).toInt (-100000) (-100000) ∧ zs_M σ0 r.2)) := by
  unfold BX9_by_22
  exact zs_some ⟨zlI_m100000, h_σ⟩
-- fX9_in
theorem zc_439 {x0 : Int64} (h_x0 : zs_in x0.toInt (-2147483648) 2147483647) {x2 : Int64} (h_x2 : zs_in x2.toInt 0 0) {x4 : Int64} (h_x4 : zs_in x4.toInt 3 3) : zs_ok (fX9_in x0 x2 x4) (fun r => (zs_in (r).toInt 0 1) ∧ ((r).toInt = 0 ∨ (zs_in (x0).toInt 0 3))) := by
  unfold fX9_in
  refine zs_ite (fun c1 => ?_) (fun c1 => ?_)
  · skip
    have r2 := (zs_lg_lt c1)
    have g3 : zs_in (x0).toInt (-2147483648) (-1) := (zs_ltl (-2147483648) (-1) r2 h_x0 h_x2 (by decide))
    refine zs_gd (zs_b01 zlI_0 (by decide)) ?_
    exact zs_some ⟨(zs_w zlI_0 (by decide)), Or.inl (zs_ptr zlI_0)⟩
  · skip
    have r4 := (zs_lg_ltn c1)
    have g5 : zs_in (x0).toInt 0 2147483647 := (zs_ler 0 2147483647 r4 h_x2 h_x0 (by decide))
    refine zs_ite (fun c6 => ?_) (fun c6 => ?_)
    · skip
      have r7 := (zs_lg_ltf c6)
      have g8 : zs_in (x0).toInt 4 2147483647 := (zs_ltr 4 2147483647 r7 h_x4 g5 (by decide))
      refine zs_gd (zs_b01 zlI_0 (by decide)) ?_
      exact zs_some ⟨(zs_w zlI_0 (by decide)), Or.inl (zs_ptr zlI_0)⟩
    · skip
      have r9 := (zs_lg_ltfn c6)
      have g10 : zs_in (x0).toInt 0 3 := (zs_lel 0 3 r9 g5 h_x4 (by decide))
      refine zs_gd (zs_b01 zlI_1 (by decide)) ?_
      exact zs_some ⟨(zs_w zlI_1 (by decide)), Or.inr g10⟩
-- fX9_isLaw
theorem zc_440 {x0 : Int32} : zs_ok (fX9_isLaw x0) (fun r => (zs_in (r).toInt 0 1) ∧ ((r).toInt = 0 ∨ (zs_in (x0).toInt 0 3))) := by
  unfold fX9_isLaw
  refine zs_bd_ (zc_439 (zs_64 (zs_topI _)) zlL_0 zlL_3) (fun t_1 pt_1 => ?_)
  refine zs_gd (zs_b01 pt_1.1 (by decide)) ?_
  rcases pt_1.2 with z0 | z0
  · skip
    have g1 : zs_in (t_1).toInt 0 0 := (zs_pt z0)
    exact zs_some ⟨(zs_w g1 (by decide)), Or.inl (zs_ptr g1)⟩
  · skip
    have q2 := z0
    have g3 : zs_in (x0.toInt64).toInt 0 3 := q2
    have g4 : zs_in (x0).toInt 0 3 := (zs_64r g3)
    exact zs_some ⟨pt_1.1, Or.inr g4⟩
-- BX9_moneyAt_7
theorem zc_441 {σ0 : sn_S} {σ : sn_S} (h_σ : zs_M σ0 σ) {x1 : Int32} (h_x1 : zs_in x1.toInt (-1) 29) {x2 : Int32} {x3 : Int32} (h_x3 : zs_in x3.toInt 0 6) {c : Int} (hc : x3.toInt = c + 0) : zs_ok (BX9_moneyAt_7 σ x1 x2 x3) (fun r => zs_sum (fun v => ((True ∧ zs_in (v.2).toInt 1 6)) ∧ v.2.toInt = c + 1) (fun v => True) r) := by
  unfold BX9_moneyAt_7
  refine zs_gd (zs_gin zlI_8 (by decide)) ?_
  refine zs_ite (fun c1 => ?_) (fun c1 => ?_)
  · skip
    have r2 := (zs_I_le c1)
    exact zs_some (zs_inr (trivial))
  · skip
    have r3 := (zs_I_len c1)
    have g4 : zs_in (x3).toInt 0 5 := (zs_ltl 0 5 r3 h_x3 (zs_rdk (q := 1) (k := (8 : Int32).toNatClampNeg) (z := (0, 6)) h_σ.1 rfl) (by decide))
    have g5 : zs_in ((sn_I σ 1 (8 : Int32).toNatClampNeg)).toInt 1 6 := (zs_ltr 1 6 r3 h_x3 (zs_rdk (q := 1) (k := (8 : Int32).toNatClampNeg) (z := (0, 6)) h_σ.1 rfl) (by decide))
    refine zs_bd_ (zc_240 h_σ g4 zlI_4) (fun t_3 pt_3 => ?_)
    refine zs_lt (Q := fun z => True) trivial (fun y_5 hy_5 => ?_)
    refine zs_lt (Q := fun z => zs_in z.toInt 1 6 ∧ z.toInt = c + 1) ⟨(zs_addI 1 6 g4 zlI_1 (by decide)), (zs_syI 1 hc g4 zlI_1 (by decide) (by decide))⟩ (fun y_7 hy_7 => ?_)
    exact zs_some (zs_inl ⟨⟨trivial, hy_7.1⟩, hy_7.2⟩)
theorem zd_79 {σ0 : sn_S} {σ : sn_S} (h_σ : zs_M σ0 σ) {x1 : Int32} (h_x1 : zs_in x1.toInt (-1) 29) {s0 : (Int32 × Int32)} (h0 : (True ∧ zs_in (s0.2).toInt 0 6)) : zs_ok (sn_it (LX9_moneyAt_7 σ x1) 5000 s0) (fun t => True) := by
  refine zs_it (I := fun s => (True ∧ zs_in (s.2).toInt 0 6)) (m := fun s => 6 - s.2.toInt) (fun s hs => ?_) (fun s hs => ?_) (by exact h0)
  · have h1 := hs.2; unfold zs_in at h1
    omega
  · obtain ⟨b, eb, hb⟩ := zc_441 h_σ h_x1 hs.2 (c := s.2.toInt) (Int.add_zero _).symm
    exact ⟨b, eb, zs_sumw hb (fun v w => ⟨⟨w.1.1, (zs_w w.1.2 (by decide))⟩, by have := w.2; omega⟩) (fun v w => w)⟩
-- BX9_moneyAt_35
theorem zc_442 {σ0 : sn_S} {σ : sn_S} (h_σ : zs_M σ0 σ) {x1 : Int32} (h_x1 : zs_in x1.toInt (-1) 29) {x2 : Int32} {x3 : Int32} (h_x3 : zs_in x3.toInt 0 30) {c : Int} (hc : x3.toInt = c + 0) : zs_ok (BX9_moneyAt_35 σ x1 x2 x3) (fun r => zs_sum (fun v => ((True ∧ zs_in (v.2).toInt 1 30)) ∧ v.2.toInt = c + 1) (fun v => True) r) := by
  unfold BX9_moneyAt_35
  refine zs_ite (fun c1 => ?_) (fun c1 => ?_)
  · skip
    have r2 := (zs_I_lt c1)
    exact zs_some (zs_inr (trivial))
  · skip
    have r3 := (zs_I_ltn c1)
    have g4 : zs_in (x3).toInt 0 29 := (zs_lel 0 29 r3 h_x3 h_x1 (by decide))
    have g5 : zs_in (x1).toInt 0 29 := (zs_ler 0 29 r3 h_x3 h_x1 (by decide))
    refine zs_gd (zs_gin g4 (by decide)) ?_
    refine zs_lt (Q := fun z => True) trivial (fun y_3 hy_3 => ?_)
    refine zs_lt (Q := fun z => zs_in z.toInt 1 30 ∧ z.toInt = c + 1) ⟨(zs_addI 1 30 g4 zlI_1 (by decide)), (zs_syI 1 hc g4 zlI_1 (by decide) (by decide))⟩ (fun y_5 hy_5 => ?_)
    exact zs_some (zs_inl ⟨⟨trivial, hy_5.1⟩, hy_5.2⟩)
theorem zd_80 {σ0 : sn_S} {σ : sn_S} (h_σ : zs_M σ0 σ) {x1 : Int32} (h_x1 : zs_in x1.toInt (-1) 29) {s0 : (Int32 × Int32)} (h0 : (True ∧ zs_in (s0.2).toInt 0 30)) : zs_ok (sn_it (LX9_moneyAt_35 σ x1) 5000 s0) (fun t => True) := by
  refine zs_it (I := fun s => (True ∧ zs_in (s.2).toInt 0 30)) (m := fun s => 30 - s.2.toInt) (fun s hs => ?_) (fun s hs => ?_) (by exact h0)
  · have h1 := hs.2; unfold zs_in at h1
    omega
  · obtain ⟨b, eb, hb⟩ := zc_442 h_σ h_x1 hs.2 (c := s.2.toInt) (Int.add_zero _).symm
    exact ⟨b, eb, zs_sumw hb (fun v w => ⟨⟨w.1.1, (zs_w w.1.2 (by decide))⟩, by have := w.2; omega⟩) (fun v w => w)⟩
-- BX9_moneyAt_33
theorem zc_443 {σ0 : sn_S} {σ : sn_S} (h_σ : zs_M σ0 σ) {x1 : Int32} (h_x1 : zs_in x1.toInt (-1) 29) {x2 : Int32} : zs_ok (BX9_moneyAt_33 σ x1 x2) (fun r => True) := by
  unfold BX9_moneyAt_33
  refine zs_bd_ (zd_80 h_σ h_x1 (s0 := (x2, (0 : Int32))) ⟨trivial, (zs_w zlI_0 (by decide))⟩) (fun t_1 pt_1 => ?_)
  obtain ⟨ret, er, hr⟩ := zc_302 h_σ
  refine ⟨ret, er, ?_⟩
  exact hr
-- fX9_moneyAt
theorem zc_444 {σ0 : sn_S} {σ : sn_S} (h_σ : zs_M σ0 σ) {x1 : Int32} (h_x1 : zs_in x1.toInt (-1) 29) : zs_ok (fX9_moneyAt σ x1) (fun r => True) := by
  unfold fX9_moneyAt
  refine zs_lt (Q := fun z => zs_in z.toInt 0 1000) (zs_rdk (q := 0) (k := 21) (z := (0, 1000)) h_σ.1 rfl) (fun y_1 hy_1 => ?_)
  refine zs_bd_ (zd_79 h_σ h_x1 (s0 := (y_1, (0 : Int32))) ⟨trivial, (zs_w zlI_0 (by decide))⟩) (fun t_3 pt_3 => ?_)
  obtain ⟨ret, er, hr⟩ := zc_443 h_σ h_x1
  refine ⟨ret, er, ?_⟩
  exact hr
-- fX9_byLaw
theorem zc_445 {σ0 : sn_S} {σ : sn_S} (h_σ : zs_M σ0 σ) {x1 : Int32} (h_x1 : zs_in x1.toInt 0 3) : zs_ok (fX9_byLaw σ x1) (fun r => (True ∧ zs_M σ0 r.2)) := by
  unfold fX9_byLaw
  refine zs_lt (Q := fun z => zs_M σ0 z) (zs_wrkt h_σ rfl rfl) (fun σ_1 hσ_1 => ?_)
  refine zs_bd_ (zc_299 hσ_1) (fun t_3 pt_3 => ?_)
  refine zs_bd_ (zc_444 pt_3 (zs_rdk (q := 0) (k := 22) (z := ((-1), 29)) pt_3.1 rfl)) (fun t_5 pt_5 => ?_)
  exact zs_some ⟨trivial, pt_3⟩
-- fX9_by
theorem zc_446 {σ0 : sn_S} {σ : sn_S} (h_σ : zs_M σ0 σ) {x1 : Int32} : zs_ok (fX9_by σ x1) (fun r => (True ∧ zs_M σ0 r.2)) := by
  unfold fX9_by
  refine zs_bd_ (zc_92 h_σ) (fun t_1 pt_1 => ?_)
  refine zs_ite (fun c1 => ?_) (fun c1 => ?_)
  · skip
    have r2 := (zs_I_eq c1)
    have g3 : zs_in (t_1.1).toInt 0 0 := (zs_eql 0 0 r2 pt_1.1 zlI_0 (by decide))
    obtain ⟨ret, er, hr⟩ := zc_438 pt_1.2
    refine ⟨ret, er, ?_⟩
    exact ⟨trivial, hr.2⟩
  · skip
    have r4 := (zs_I_eqn c1)
    have g5 : zs_in (t_1.1).toInt 1 1 := (zs_nel 1 1 r4 pt_1.1 zlI_0 (by decide))
    refine zs_bd_ (zc_440) (fun t_4 pt_4 => ?_)
    refine zs_ite (fun c6 => ?_) (fun c6 => ?_)
    · skip
      have r7 := (zs_I_eq c6)
      have g8 : zs_in (t_4).toInt 0 0 := (zs_eql 0 0 r7 pt_4.1 zlI_0 (by decide))
      obtain ⟨ret, er, hr⟩ := zc_438 pt_1.2
      refine ⟨ret, er, ?_⟩
      exact ⟨trivial, hr.2⟩
    · skip
      have r9 := (zs_I_eqn c6)
      have g10 : zs_in (t_4).toInt 1 1 := (zs_nel 1 1 r9 pt_4.1 zlI_0 (by decide))
      have q11 := (zs_or2 pt_4.2 g10 (by decide))
      have g12 : zs_in (x1).toInt 0 3 := q11
      refine zs_bd_ (zc_445 pt_1.2 g12) (fun t_7 pt_7 => ?_)
      exact zs_some ⟨trivial, pt_7.2⟩
-- fX3_counting
theorem zc_447 {σ0 : sn_S} {σ : sn_S} (h_σ : zs_C σ0 σ) {x1 : Int32} (h_x1 : zs_in x1.toInt 0 0) {x2 : Int32} (h_x2 : zs_in x2.toInt 0 5) {x3 : Int32} (h_x3 : zs_in x3.toInt 0 1073741823) : zs_ok (fX3_counting σ 1 x1 x2 x3) (fun r => zs_in (r).toInt 0 1073741823) := by
  unfold fX3_counting
  obtain rfl : x1 = (0 : Int32) := zs_eqv h_x1 (by decide)
  refine zs_bd_ (zc_193 h_σ h_x2) (fun t_1 pt_1 => ?_)
  refine zs_lt (Q := fun z => zs_in z.toInt 0 1073741823) (zs_and2 h_x3 (by decide)) (fun y_3 hy_3 => ?_)
  refine zs_ite (fun c1 => ?_) (fun c1 => ?_)
  · skip
    have r2 := (zs_I_eq c1)
    exact (zs_botr r2 h_x1 zlI_1 (by decide)).elim
  · skip
    have r3 := (zs_I_eqn c1)
    exact zs_some hy_3
-- fX3_claimBy
theorem zc_448 {σ0 : sn_S} {σ : sn_S} (h_σ : zs_C σ0 σ) {x1 : Int32} (h_x1 : zs_in x1.toInt 0 0) {x2 : Int32} (h_x2 : zs_in x2.toInt 0 5) {x3 : Int32} (h_x3 : zs_in x3.toInt 0 1073741823) {x4 : Int32} : zs_ok (fX3_claimBy σ 1 x1 x2 x3 x4) (fun r => True) := by
  unfold fX3_claimBy
  obtain rfl : x1 = (0 : Int32) := zs_eqv h_x1 (by decide)
  refine zs_bd_ (zc_447 h_σ h_x1 h_x2 h_x3) (fun t_1 pt_1 => ?_)
  refine zs_bd_ (zc_234 h_σ h_x2 zlI_3) (fun t_3 pt_3 => ?_)
  refine zs_ite (fun c1 => ?_) (fun c1 => ?_)
  · skip
    have r2 := (zs_I_eq c1)
    have g3 : zs_in (t_1).toInt 0 0 := (zs_eql 0 0 r2 pt_1 zlI_0 (by decide))
    exact zs_some trivial
  · skip
    have r4 := (zs_I_eqn c1)
    have g5 : zs_in (t_1).toInt 1 1073741823 := (zs_nel 1 1073741823 r4 pt_1 zlI_0 (by decide))
    refine zs_ite (fun c6 => ?_) (fun c6 => ?_)
    · skip
      have r7 := (zs_I_eq c6)
      exact (zs_botr r7 h_x1 zlI_2 (by decide)).elim
    · skip
      have r8 := (zs_I_eqn c6)
      refine zs_bd_ (zo_low1 30 29 (by decide) g5) (fun t_7 pt_7 => ?_)
      refine zs_bd_ (zc_187 pt_7) (fun t_9 pt_9 => ?_)
      refine zs_bd_ (zc_193 h_σ h_x2) (fun t_11 pt_11 => ?_)
      refine zs_lt (Q := fun z => zs_in z.toInt 0 536870911) (zs_and2 pt_9 (by decide)) (fun y_13 hy_13 => ?_)
      refine zs_ite (fun c9 => ?_) (fun c9 => ?_)
      · skip
        have r10 := (zs_I_eq c9)
        exact (zs_botr r10 h_x1 zlI_3 (by decide)).elim
      · skip
        have r11 := (zs_I_eqn c9)
        exact zs_some trivial
theorem zo_reckon_49_27_0_0_l {σ0 : sn_S} {x3 : Int32} (h_x3 : zs_in x3.toInt 0 0) {s0 : sn_S × Int32} (h0 : zs_C σ0 s0.1 ∧ zs_in s0.2.toInt 0 6 ∧ (sn_I s0.1 49 2).toInt = (σ0.1 2 8).toInt) : zs_ok (sn_it (LX3_reckon_24 49 1 27 x3) 5000 s0) (fun t => zs_C σ0 t) := by
  refine zs_it (I := fun s => zs_C σ0 s.1 ∧ zs_in s.2.toInt 0 6 ∧ (sn_I s.1 49 2).toInt = (σ0.1 2 8).toInt) (m := fun s => 6 - s.2.toInt) (fun s hs => ⟨by have := hs.2.1; omega, by have := hs.2.1; omega⟩) (fun s hs => ?_) h0
  obtain ⟨σ, x4⟩ := s
  obtain ⟨h_σ, h_x4, hq⟩ := hs
  unfold LX3_reckon_24 BX3_reckon_24
  refine zs_ite (fun c1 => zs_some (zs_inr h_σ)) (fun c1 => ?_)
  have r3 := (zs_I_len c1)
  have g4 : zs_in (x4).toInt 0 5 := (zs_ltl 0 5 r3 h_x4 (zs_rdk (q := 49) (k := 2) (z := (0, 6)) h_σ.1 rfl) (by decide))
  haveI : zs_Ws σ0 x4 := ⟨⟨by have h1 : x4.toInt < (sn_I σ 49 2).toInt := r3; have h2 : (sn_I σ 49 2).toInt = (σ0.1 2 8).toInt := hq; omega⟩⟩
  refine zs_bd_ (zo_whose h_σ g4) (fun t_2 pt_2 => ?_)
  refine zs_gd (zs_gin pt_2 (by decide)) ?_
  refine zs_lt (Q := fun z => zs_in z.toInt 0 1073741823) (zs_rdu (q := 37) (z := (0, 1073741823)) h_σ.1 (fun _ => rfl)) (fun y_5 hy_5 => ?_)
  refine zs_bd_ (zc_229 h_σ g4 zlI_4) (fun t_7 pt_7 => ?_)
  refine zs_lt (Q := fun z => zs_C σ0 z ∧ (sn_I z 49 2).toInt = (σ0.1 2 8).toInt) ⟨zs_wrkt h_σ rfl rfl, hq⟩ (fun σ_9 hσ_9 => ?_)
  refine zs_gd (zs_gin pt_2 (by decide)) ?_
  refine zs_bd_ (zc_448 hσ_9.1 h_x3 g4 hy_5) (fun t_12 pt_12 => ?_)
  refine zs_gd (zs_gin g4 (by decide)) ?_
  refine zs_lt (Q := fun z => zs_C σ0 z ∧ (sn_I z 49 2).toInt = (σ0.1 2 8).toInt) ⟨zs_wrt hσ_9.1 (fun _ => rfl) (fun _ => rfl), hσ_9.2⟩ (fun σ_15 hσ_15 => ?_)
  refine zs_bd_ (zc_447 hσ_15.1 h_x3 g4 hy_5) (fun t_17 pt_17 => ?_)
  refine zs_bd_ (zo_low 30 29 (by decide) pt_17) (fun t_19 pt_19 => ?_)
  refine zs_gd (zs_gin g4 (by decide)) ?_
  refine zs_lt (Q := fun z => zs_C σ0 z ∧ (sn_I z 49 2).toInt = (σ0.1 2 8).toInt) ⟨zs_wru (z := ((-1), 63)) hσ_15.1 (fun _ => rfl) pt_19 (by decide) (fun _ => rfl), hσ_15.2⟩ (fun σ_22 hσ_22 => ?_)
  refine zs_lt (Q := fun z => zs_in z.toInt 1 6 ∧ z.toInt = x4.toInt + 1) ⟨(zs_addI 1 6 g4 zlI_1 (by decide)), (zs_syI 1 (show x4.toInt = x4.toInt + 0 by omega) g4 zlI_1 (by decide) (by decide))⟩ (fun y_24 hy_24 => ?_)
  exact zs_some (zs_inl ⟨⟨hσ_22.1, zs_w hy_24.1 (by decide), hσ_22.2⟩, by show 6 - y_24.toInt < 6 - x4.toInt; have := hy_24.2; omega⟩)
theorem zo_reckon_49_27_0_0 {σ0 : sn_S} {σ : sn_S} (h_σ : zs_C σ0 σ) {x3 : Int32} (h_x3 : zs_in x3.toInt 0 0) : zs_ok (fX3_reckon σ 49 1 27 x3) (fun r => zs_C σ0 r) := by
  unfold fX3_reckon
  have e8 : sn_I σ (1 + 1) (8 : Int32).toNatClampNeg = σ0.1 2 8 := h_σ.2.1 2 8 rfl
  refine zs_gd (by decide) ?_
  refine zs_lt (Q := fun z => zs_C σ0 z ∧ (sn_I z 49 2).toInt = (σ0.1 2 8).toInt) ⟨zs_wrk (z := (0, 6)) h_σ rfl (zs_rdk (q := 2) (k := (8 : Int32).toNatClampNeg) (z := (0, 6)) h_σ.1 rfl) (by decide) rfl, by
    show (sn_I σ (1 + 1) (8 : Int32).toNatClampNeg).toInt = _
    rw [e8]⟩ (fun σ_2 h2 => ?_)
  refine zs_gd (by decide) ?_
  refine zs_lt (Q := fun z => zs_C σ0 z ∧ (sn_I z 49 2).toInt = (σ0.1 2 8).toInt) ⟨zs_wrkt h2.1 rfl rfl, h2.2⟩ (fun σ_5 h5 => ?_)
  refine zs_bd_ (zo_reckon_49_27_0_0_l h_x3 (s0 := (σ_5, (0 : Int32))) ⟨h5.1, (by decide : zs_in (0 : Int32).toInt 0 6), h5.2⟩) (fun t_7 p7 => ?_)
  exact zc_236 p7
-- fX8_moneyInTheEnd
theorem zc_449 {σ0 : sn_S} {σ : sn_S} (h_σ : zs_C σ0 σ) {x1 : Int32} (h_x1 : zs_in x1.toInt 0 0) : zs_ok (fX8_moneyInTheEnd σ x1) (fun r => (True ∧ zs_C σ0 r.2)) := by
  unfold fX8_moneyInTheEnd
  obtain rfl : x1 = (0 : Int32) := zs_eqv h_x1 (by decide)
  refine zs_bd_ (zo_reckon_49_27_0_0 h_σ h_x1) (fun t_1 pt_1 => ?_)
  refine zs_bd_ (zc_433 pt_1 (zs_subI (-1) 29 (zs_rdk (q := 27) (k := 0) (z := (0, 30)) pt_1.1 rfl) zlI_1 (by decide))) (fun t_3 pt_3 => ?_)
  exact zs_some ⟨trivial, pt_1⟩
-- fX3_counting
theorem zc_450 {σ0 : sn_S} {σ : sn_S} (h_σ : zs_C σ0 σ) {x1 : Int32} (h_x1 : zs_in x1.toInt 1 3) {x2 : Int32} (h_x2 : zs_in x2.toInt 0 5) {x3 : Int32} (h_x3 : zs_in x3.toInt 0 1073741823) : zs_ok (fX3_counting σ 1 x1 x2 x3) (fun r => zs_in (r).toInt 0 1073741823) := by
  unfold fX3_counting
  refine zs_bd_ (zc_193 h_σ h_x2) (fun t_1 pt_1 => ?_)
  refine zs_lt (Q := fun z => zs_in z.toInt 0 1073741823) (zs_and2 h_x3 (by decide)) (fun y_3 hy_3 => ?_)
  refine zs_ite (fun c1 => ?_) (fun c1 => ?_)
  · skip
    have r2 := (zs_I_eq c1)
    have g3 : zs_in (x1).toInt 1 1 := (zs_eql 1 1 r2 h_x1 zlI_1 (by decide))
    refine zs_bd_ (zc_232 h_σ) (fun t_6 pt_6 => ?_)
    exact zs_some (zs_and2 hy_3 (by decide))
  · skip
    have r4 := (zs_I_eqn c1)
    have g5 : zs_in (x1).toInt 2 3 := (zs_nel 2 3 r4 h_x1 zlI_1 (by decide))
    exact zs_some hy_3
-- fX3_claimBy
theorem zc_451 {σ0 : sn_S} {σ : sn_S} (h_σ : zs_C σ0 σ) {x1 : Int32} (h_x1 : zs_in x1.toInt 1 3) {x2 : Int32} (h_x2 : zs_in x2.toInt 0 5) {x3 : Int32} (h_x3 : zs_in x3.toInt 0 1073741823) {x4 : Int32} : zs_ok (fX3_claimBy σ 1 x1 x2 x3 x4) (fun r => True) := by
  unfold fX3_claimBy
  refine zs_bd_ (zc_450 h_σ h_x1 h_x2 h_x3) (fun t_1 pt_1 => ?_)
  refine zs_bd_ (zc_234 h_σ h_x2 zlI_3) (fun t_3 pt_3 => ?_)
  refine zs_ite (fun c1 => ?_) (fun c1 => ?_)
  · skip
    have r2 := (zs_I_eq c1)
    have g3 : zs_in (t_1).toInt 0 0 := (zs_eql 0 0 r2 pt_1 zlI_0 (by decide))
    exact zs_some trivial
  · skip
    have r4 := (zs_I_eqn c1)
    have g5 : zs_in (t_1).toInt 1 1073741823 := (zs_nel 1 1073741823 r4 pt_1 zlI_0 (by decide))
    refine zs_ite (fun c6 => ?_) (fun c6 => ?_)
    · skip
      have r7 := (zs_I_eq c6)
      have g8 : zs_in (x1).toInt 2 2 := (zs_eql 2 2 r7 h_x1 zlI_2 (by decide))
      refine zs_bd_ (zo_bc 30 30 (by decide) g5) (fun t_17 pt_17 => ?_)
      refine zs_lt (Q := fun z => zs_in z.toInt 0 3) (zs_min 0 3 pt_17 zlI_3 (by decide)) (fun y_19 hy_19 => ?_)
      exact zs_some trivial
    · skip
      have r9 := (zs_I_eqn c6)
      refine zs_bd_ (zo_low1 30 29 (by decide) g5) (fun t_7 pt_7 => ?_)
      refine zs_bd_ (zc_187 pt_7) (fun t_9 pt_9 => ?_)
      refine zs_bd_ (zc_193 h_σ h_x2) (fun t_11 pt_11 => ?_)
      refine zs_lt (Q := fun z => zs_in z.toInt 0 536870911) (zs_and2 pt_9 (by decide)) (fun y_13 hy_13 => ?_)
      refine zs_ite (fun c10 => ?_) (fun c10 => ?_)
      · skip
        have r11 := (zs_I_eq c10)
        have g12 : zs_in (x1).toInt 3 3 := (zs_eql 3 3 r11 h_x1 zlI_3 (by decide))
        refine zs_ite (fun c13 => ?_) (fun c13 => ?_)
        · skip
          have r14 := (zs_I_eq c13)
          have g15 : zs_in ((x4 &&& y_13)).toInt 0 0 := (zs_eql 0 0 r14 (zs_and hy_13 (by decide)) zlI_0 (by decide))
          exact zs_some trivial
        · skip
          have r16 := (zs_I_eqn c13)
          have g17 : zs_in ((x4 &&& y_13)).toInt 1 536870911 := (zs_nel 1 536870911 r16 (zs_and hy_13 (by decide)) zlI_0 (by decide))
          exact zs_some trivial
      · skip
        have r18 := (zs_I_eqn c10)
        have g19 : zs_in (x1).toInt 1 2 := (zs_neh 1 2 r18 h_x1 zlI_3 (by decide))
        exact zs_some trivial
theorem zo_reckon_49_27_1_3_l {σ0 : sn_S} {x3 : Int32} (h_x3 : zs_in x3.toInt 1 3) {s0 : sn_S × Int32} (h0 : zs_C σ0 s0.1 ∧ zs_in s0.2.toInt 0 6 ∧ (sn_I s0.1 49 2).toInt = (σ0.1 2 8).toInt) : zs_ok (sn_it (LX3_reckon_24 49 1 27 x3) 5000 s0) (fun t => zs_C σ0 t) := by
  refine zs_it (I := fun s => zs_C σ0 s.1 ∧ zs_in s.2.toInt 0 6 ∧ (sn_I s.1 49 2).toInt = (σ0.1 2 8).toInt) (m := fun s => 6 - s.2.toInt) (fun s hs => ⟨by have := hs.2.1; omega, by have := hs.2.1; omega⟩) (fun s hs => ?_) h0
  obtain ⟨σ, x4⟩ := s
  obtain ⟨h_σ, h_x4, hq⟩ := hs
  unfold LX3_reckon_24 BX3_reckon_24
  refine zs_ite (fun c1 => zs_some (zs_inr h_σ)) (fun c1 => ?_)
  have r3 := (zs_I_len c1)
  have g4 : zs_in (x4).toInt 0 5 := (zs_ltl 0 5 r3 h_x4 (zs_rdk (q := 49) (k := 2) (z := (0, 6)) h_σ.1 rfl) (by decide))
  haveI : zs_Ws σ0 x4 := ⟨⟨by have h1 : x4.toInt < (sn_I σ 49 2).toInt := r3; have h2 : (sn_I σ 49 2).toInt = (σ0.1 2 8).toInt := hq; omega⟩⟩
  refine zs_bd_ (zo_whose h_σ g4) (fun t_2 pt_2 => ?_)
  refine zs_gd (zs_gin pt_2 (by decide)) ?_
  refine zs_lt (Q := fun z => zs_in z.toInt 0 1073741823) (zs_rdu (q := 37) (z := (0, 1073741823)) h_σ.1 (fun _ => rfl)) (fun y_5 hy_5 => ?_)
  refine zs_bd_ (zc_229 h_σ g4 zlI_4) (fun t_7 pt_7 => ?_)
  refine zs_lt (Q := fun z => zs_C σ0 z ∧ (sn_I z 49 2).toInt = (σ0.1 2 8).toInt) ⟨zs_wrkt h_σ rfl rfl, hq⟩ (fun σ_9 hσ_9 => ?_)
  refine zs_gd (zs_gin pt_2 (by decide)) ?_
  refine zs_bd_ (zc_451 hσ_9.1 h_x3 g4 hy_5) (fun t_12 pt_12 => ?_)
  refine zs_gd (zs_gin g4 (by decide)) ?_
  refine zs_lt (Q := fun z => zs_C σ0 z ∧ (sn_I z 49 2).toInt = (σ0.1 2 8).toInt) ⟨zs_wrt hσ_9.1 (fun _ => rfl) (fun _ => rfl), hσ_9.2⟩ (fun σ_15 hσ_15 => ?_)
  refine zs_bd_ (zc_450 hσ_15.1 h_x3 g4 hy_5) (fun t_17 pt_17 => ?_)
  refine zs_bd_ (zo_low 30 29 (by decide) pt_17) (fun t_19 pt_19 => ?_)
  refine zs_gd (zs_gin g4 (by decide)) ?_
  refine zs_lt (Q := fun z => zs_C σ0 z ∧ (sn_I z 49 2).toInt = (σ0.1 2 8).toInt) ⟨zs_wru (z := ((-1), 63)) hσ_15.1 (fun _ => rfl) pt_19 (by decide) (fun _ => rfl), hσ_15.2⟩ (fun σ_22 hσ_22 => ?_)
  refine zs_lt (Q := fun z => zs_in z.toInt 1 6 ∧ z.toInt = x4.toInt + 1) ⟨(zs_addI 1 6 g4 zlI_1 (by decide)), (zs_syI 1 (show x4.toInt = x4.toInt + 0 by omega) g4 zlI_1 (by decide) (by decide))⟩ (fun y_24 hy_24 => ?_)
  exact zs_some (zs_inl ⟨⟨hσ_22.1, zs_w hy_24.1 (by decide), hσ_22.2⟩, by show 6 - y_24.toInt < 6 - x4.toInt; have := hy_24.2; omega⟩)
theorem zo_reckon_49_27_1_3 {σ0 : sn_S} {σ : sn_S} (h_σ : zs_C σ0 σ) {x3 : Int32} (h_x3 : zs_in x3.toInt 1 3) : zs_ok (fX3_reckon σ 49 1 27 x3) (fun r => zs_C σ0 r) := by
  unfold fX3_reckon
  have e8 : sn_I σ (1 + 1) (8 : Int32).toNatClampNeg = σ0.1 2 8 := h_σ.2.1 2 8 rfl
  refine zs_gd (by decide) ?_
  refine zs_lt (Q := fun z => zs_C σ0 z ∧ (sn_I z 49 2).toInt = (σ0.1 2 8).toInt) ⟨zs_wrk (z := (0, 6)) h_σ rfl (zs_rdk (q := 2) (k := (8 : Int32).toNatClampNeg) (z := (0, 6)) h_σ.1 rfl) (by decide) rfl, by
    show (sn_I σ (1 + 1) (8 : Int32).toNatClampNeg).toInt = _
    rw [e8]⟩ (fun σ_2 h2 => ?_)
  refine zs_gd (by decide) ?_
  refine zs_lt (Q := fun z => zs_C σ0 z ∧ (sn_I z 49 2).toInt = (σ0.1 2 8).toInt) ⟨zs_wrkt h2.1 rfl rfl, h2.2⟩ (fun σ_5 h5 => ?_)
  refine zs_bd_ (zo_reckon_49_27_1_3_l h_x3 (s0 := (σ_5, (0 : Int32))) ⟨h5.1, (by decide : zs_in (0 : Int32).toInt 0 6), h5.2⟩) (fun t_7 p7 => ?_)
  exact zc_236 p7
-- fX8_moneyInTheEnd
theorem zc_452 {σ0 : sn_S} {σ : sn_S} (h_σ : zs_C σ0 σ) {x1 : Int32} (h_x1 : zs_in x1.toInt 1 3) : zs_ok (fX8_moneyInTheEnd σ x1) (fun r => (True ∧ zs_C σ0 r.2)) := by
  unfold fX8_moneyInTheEnd
  refine zs_bd_ (zo_reckon_49_27_1_3 h_σ h_x1) (fun t_1 pt_1 => ?_)
  refine zs_bd_ (zc_433 pt_1 (zs_subI (-1) 29 (zs_rdk (q := 27) (k := 0) (z := (0, 30)) pt_1.1 rfl) zlI_1 (by decide))) (fun t_3 pt_3 => ?_)
  exact zs_some ⟨trivial, pt_1⟩
-- BX8_law_43
theorem zc_453 {σ0 : sn_S} {σ : sn_S} (h_σ : zs_C σ0 σ) {x1 : Int32} (h_x1 : zs_in x1.toInt 0 3) {x2 : Int32} {x3 : Int32} (h_x3 : zs_in x3.toInt 1 3) {c : Int} (hc : x3.toInt = c + 0) : zs_ok (BX8_law_43 σ x1 x2 x3) (fun r => zs_sum (fun v => ((zs_C σ0 v.1 ∧ (zs_in (v.2.1).toInt 0 3 ∧ (True ∧ zs_in (v.2.2.2).toInt 2 4)))) ∧ v.2.2.2.toInt = c + 1) (fun v => False) r) := by
  unfold BX8_law_43
  refine zs_lt (Q := fun z => zs_in z.toInt 2 4 ∧ z.toInt = c + 1) ⟨(zs_addI 2 4 h_x3 zlI_1 (by decide)), (zs_syI 1 hc h_x3 zlI_1 (by decide) (by decide))⟩ (fun y_1 hy_1 => ?_)
  exact zs_some (zs_inl ⟨⟨h_σ, ⟨h_x1, ⟨trivial, hy_1.1⟩⟩⟩, hy_1.2⟩)
-- BX8_law_43
theorem zc_454 {σ0 : sn_S} {σ : sn_S} (h_σ : zs_C σ0 σ) {x1 : Int32} (h_x1 : zs_in x1.toInt 1 3) {x2 : Int32} (h_x2 : zs_in x2.toInt (-2147483647) 2147483647) {x3 : Int32} (h_x3 : zs_in x3.toInt 1 3) {c : Int} (hc : x3.toInt = c + 0) : zs_ok (BX8_law_43 σ x1 x2 x3) (fun r => zs_sum (fun v => ((zs_C σ0 v.1 ∧ (zs_in (v.2.1).toInt 1 3 ∧ (zs_in (v.2.2.1).toInt (-2147483647) 2147483647 ∧ zs_in (v.2.2.2).toInt 2 4)))) ∧ v.2.2.2.toInt = c + 1) (fun v => False) r) := by
  unfold BX8_law_43
  refine zs_lt (Q := fun z => zs_in z.toInt 2 4 ∧ z.toInt = c + 1) ⟨(zs_addI 2 4 h_x3 zlI_1 (by decide)), (zs_syI 1 hc h_x3 zlI_1 (by decide) (by decide))⟩ (fun y_1 hy_1 => ?_)
  exact zs_some (zs_inl ⟨⟨h_σ, ⟨h_x1, ⟨h_x2, hy_1.1⟩⟩⟩, hy_1.2⟩)
-- BX8_law_20
theorem zc_455 {σ0 : sn_S} {σ : sn_S} (h_σ : zs_C σ0 σ) {x1 : Int32} (h_x1 : zs_in x1.toInt 0 3) {x2 : Int32} {x3 : Int32} (h_x3 : zs_in x3.toInt 1 4) {c : Int} (hc : x3.toInt = c + 0) : zs_ok (BX8_law_20 σ x1 x2 x3) (fun r => zs_sum (fun v => ((zs_C σ0 v.1 ∧ (zs_in (v.2.1).toInt 0 3 ∧ (True ∧ zs_in (v.2.2.2).toInt 2 4)))) ∧ v.2.2.2.toInt = c + 1) (fun v => (zs_C σ0 v.1 ∧ zs_in (v.2).toInt 0 3)) r) := by
  unfold BX8_law_20
  refine zs_ite (fun c1 => ?_) (fun c1 => ?_)
  · skip
    have r2 := (zs_I_le c1)
    have g3 : zs_in (x3).toInt 4 4 := (zs_ler 4 4 r2 zlI_4 h_x3 (by decide))
    exact zs_some (zs_inr (⟨h_σ, h_x1⟩))
  · skip
    have r4 := (zs_I_len c1)
    have g5 : zs_in (x3).toInt 1 3 := (zs_ltl 1 3 r4 h_x3 zlI_4 (by decide))
    refine zs_bd_ (zc_452 h_σ g5) (fun t_2 pt_2 => ?_)
    refine zs_ite (fun c6 => ?_) (fun c6 => ?_)
    · skip
      have r7 := (zs_I_le c6)
      obtain ⟨ret, er, hr⟩ := zc_453 pt_2.2 h_x1 g5 hc
      refine ⟨ret, er, ?_⟩
      exact (zs_sumw hr (fun v w => ⟨w.1, w.2⟩) (fun v w => w.elim))
    · skip
      have r8 := (zs_I_len c6)
      have g9 : zs_in (x2).toInt (-2147483648) 2147483646 := (zs_ltl (-2147483648) 2147483646 r8 (zs_topI _) (zs_topI _) (by decide))
      have g10 : zs_in (t_2.1).toInt (-2147483647) 2147483647 := (zs_ltr (-2147483647) 2147483647 r8 (zs_topI _) (zs_topI _) (by decide))
      obtain ⟨ret, er, hr⟩ := zc_454 pt_2.2 g5 g10 g5 hc
      refine ⟨ret, er, ?_⟩
      exact (zs_sumw hr (fun v w => ⟨⟨w.1.1, ⟨(zs_w w.1.2.1 (by decide)), ⟨trivial, w.1.2.2.2⟩⟩⟩, w.2⟩) (fun v w => w.elim))
theorem zd_81 {σ0 : sn_S}  {s0 : (sn_S × (Int32 × (Int32 × Int32)))} (h0 : (zs_C σ0 s0.1 ∧ (zs_in (s0.2.1).toInt 0 3 ∧ (True ∧ zs_in (s0.2.2.2).toInt 1 4)))) : zs_ok (sn_it (LX8_law_20) 5000 s0) (fun t => (zs_C σ0 t.1 ∧ zs_in (t.2).toInt 0 3)) := by
  refine zs_it (I := fun s => (zs_C σ0 s.1 ∧ (zs_in (s.2.1).toInt 0 3 ∧ (True ∧ zs_in (s.2.2.2).toInt 1 4)))) (m := fun s => 4 - s.2.2.2.toInt) (fun s hs => ?_) (fun s hs => ?_) (by exact h0)
  · have h1 := hs.2.2.2; unfold zs_in at h1
    omega
  · obtain ⟨b, eb, hb⟩ := zc_455 hs.1 hs.2.1 hs.2.2.2 (c := s.2.2.2.toInt) (Int.add_zero _).symm
    exact ⟨b, eb, zs_sumw hb (fun v w => ⟨⟨w.1.1, ⟨w.1.2.1, ⟨w.1.2.2.1, (zs_w w.1.2.2.2 (by decide))⟩⟩⟩, by have := w.2; omega⟩) (fun v w => w)⟩
-- BX8_law_49
theorem zc_456 {σ0 : sn_S} {σ : sn_S} (h_σ : zs_C σ0 σ) {x1 : Int32} (h_x1 : zs_in x1.toInt 0 3) : zs_ok (BX8_law_49 σ x1) (fun r => (zs_in (r.1).toInt 0 3 ∧ zs_C σ0 r.2)) := by
  unfold BX8_law_49
  exact zs_some ⟨h_x1, h_σ⟩
-- fX8_law
theorem zc_457 {σ0 : sn_S} {σ : sn_S} (h_σ : zs_C σ0 σ) : zs_ok (fX8_law σ) (fun r => (zs_in (r.1).toInt (-2) 3 ∧ zs_C σ0 r.2)) := by
  unfold fX8_law
  refine zs_bd_ (zc_102 h_σ) (fun t_1 pt_1 => ?_)
  refine zs_ite (fun c1 => ?_) (fun c1 => ?_)
  · skip
    have r2 := (zs_I_eq c1)
    have g3 : zs_in (t_1).toInt 0 0 := (zs_eql 0 0 r2 pt_1 zlI_0 (by decide))
    exact zs_some ⟨(zs_w zlI_m2 (by decide)), h_σ⟩
  · skip
    have r4 := (zs_I_eqn c1)
    have g5 : zs_in (t_1).toInt 1 1 := (zs_nel 1 1 r4 pt_1 zlI_0 (by decide))
    refine zs_bd_ (zc_449 h_σ zlI_0) (fun t_4 pt_4 => ?_)
    refine zs_bd_ (zd_81  (s0 := (t_4.2, ((0 : Int32), (t_4.1, (1 : Int32))))) ⟨pt_4.2, ⟨(zs_w zlI_0 (by decide)), ⟨trivial, (zs_w zlI_1 (by decide))⟩⟩⟩) (fun t_6 pt_6 => ?_)
    obtain ⟨ret, er, hr⟩ := zc_456 pt_6.1 pt_6.2
    refine ⟨ret, er, ?_⟩
    exact ⟨(zs_w hr.1 (by decide)), hr.2⟩
-- fX9_byLaw
theorem zc_458 {σ0 : sn_S} {σ : sn_S} (h_σ : zs_M σ0 σ) {x1 : Int32} (h_x1 : zs_in x1.toInt 1 3) : zs_ok (fX9_byLaw σ x1) (fun r => (True ∧ zs_M σ0 r.2)) := by
  unfold fX9_byLaw
  refine zs_lt (Q := fun z => zs_M σ0 z) (zs_wrkt h_σ rfl rfl) (fun σ_1 hσ_1 => ?_)
  refine zs_bd_ (zc_299 hσ_1) (fun t_3 pt_3 => ?_)
  refine zs_bd_ (zc_444 pt_3 (zs_rdk (q := 0) (k := 22) (z := ((-1), 29)) pt_3.1 rfl)) (fun t_5 pt_5 => ?_)
  exact zs_some ⟨trivial, pt_3⟩
-- BX9_law_37
theorem zc_459 {σ0 : sn_S} {σ : sn_S} (h_σ : zs_M σ0 σ) {x1 : Int32} (h_x1 : zs_in x1.toInt 0 3) {x2 : Int32} (h_x2 : zs_in x2.toInt 1 3) {t0 : Int32} (h_t0 : zs_in t0.toInt 0 3) {c : Int} (hc : x2.toInt = c + 0) : zs_ok (BX9_law_37 σ x1 x2 t0) (fun r => zs_sum (fun v => ((zs_M σ0 v.1 ∧ (zs_in (v.2.1).toInt 0 3 ∧ zs_in (v.2.2).toInt 2 4))) ∧ v.2.2.toInt = c + 1) (fun v => False) r) := by
  unfold BX9_law_37
  refine zs_lt (Q := fun z => zs_in z.toInt 2 4 ∧ z.toInt = c + 1) ⟨(zs_addI 2 4 h_x2 zlI_1 (by decide)), (zs_syI 1 hc h_x2 zlI_1 (by decide) (by decide))⟩ (fun y_1 hy_1 => ?_)
  exact zs_some (zs_inl ⟨⟨h_σ, ⟨h_t0, hy_1.1⟩⟩, hy_1.2⟩)
-- BX9_law_37
theorem zc_460 {σ0 : sn_S} {σ : sn_S} (h_σ : zs_M σ0 σ) {x1 : Int32} (h_x1 : zs_in x1.toInt 0 3) {x2 : Int32} (h_x2 : zs_in x2.toInt 1 3) {t0 : Int32} (h_t0 : zs_in t0.toInt 1 3) {c : Int} (hc : x2.toInt = c + 0) : zs_ok (BX9_law_37 σ x1 x2 t0) (fun r => zs_sum (fun v => ((zs_M σ0 v.1 ∧ (zs_in (v.2.1).toInt 1 3 ∧ zs_in (v.2.2).toInt 2 4))) ∧ v.2.2.toInt = c + 1) (fun v => False) r) := by
  unfold BX9_law_37
  refine zs_lt (Q := fun z => zs_in z.toInt 2 4 ∧ z.toInt = c + 1) ⟨(zs_addI 2 4 h_x2 zlI_1 (by decide)), (zs_syI 1 hc h_x2 zlI_1 (by decide) (by decide))⟩ (fun y_1 hy_1 => ?_)
  exact zs_some (zs_inl ⟨⟨h_σ, ⟨h_t0, hy_1.1⟩⟩, hy_1.2⟩)
-- BX9_law_14
theorem zc_461 {σ0 : sn_S} {σ : sn_S} (h_σ : zs_M σ0 σ) {x1 : Int32} (h_x1 : zs_in x1.toInt 0 3) {x2 : Int32} (h_x2 : zs_in x2.toInt 1 4) {c : Int} (hc : x2.toInt = c + 0) : zs_ok (BX9_law_14 σ x1 x2) (fun r => zs_sum (fun v => ((zs_M σ0 v.1 ∧ (zs_in (v.2.1).toInt 0 3 ∧ zs_in (v.2.2).toInt 2 4))) ∧ v.2.2.toInt = c + 1) (fun v => (zs_M σ0 v.1 ∧ zs_in (v.2).toInt 0 3)) r) := by
  unfold BX9_law_14
  refine zs_ite (fun c1 => ?_) (fun c1 => ?_)
  · skip
    have r2 := (zs_I_le c1)
    have g3 : zs_in (x2).toInt 4 4 := (zs_ler 4 4 r2 zlI_4 h_x2 (by decide))
    exact zs_some (zs_inr (⟨h_σ, h_x1⟩))
  · skip
    have r4 := (zs_I_len c1)
    have g5 : zs_in (x2).toInt 1 3 := (zs_ltl 1 3 r4 h_x2 zlI_4 (by decide))
    refine zs_bd_ (zc_458 h_σ g5) (fun t_2 pt_2 => ?_)
    refine zs_bd_ (zc_445 pt_2.2 h_x1) (fun t_4 pt_4 => ?_)
    refine zs_ite (fun c6 => ?_) (fun c6 => ?_)
    · skip
      have r7 := (zs_I_le c6)
      obtain ⟨ret, er, hr⟩ := zc_459 pt_4.2 h_x1 g5 h_x1 hc
      refine ⟨ret, er, ?_⟩
      exact (zs_sumw hr (fun v w => ⟨w.1, w.2⟩) (fun v w => w.elim))
    · skip
      have r8 := (zs_I_len c6)
      have g9 : zs_in (t_4.1).toInt (-2147483648) 2147483646 := (zs_ltl (-2147483648) 2147483646 r8 (zs_topI _) (zs_topI _) (by decide))
      have g10 : zs_in (t_2.1).toInt (-2147483647) 2147483647 := (zs_ltr (-2147483647) 2147483647 r8 (zs_topI _) (zs_topI _) (by decide))
      obtain ⟨ret, er, hr⟩ := zc_460 pt_4.2 h_x1 g5 g5 hc
      refine ⟨ret, er, ?_⟩
      exact (zs_sumw hr (fun v w => ⟨⟨w.1.1, ⟨(zs_w w.1.2.1 (by decide)), w.1.2.2⟩⟩, w.2⟩) (fun v w => w.elim))
theorem zd_82 {σ0 : sn_S}  {s0 : (sn_S × (Int32 × Int32))} (h0 : (zs_M σ0 s0.1 ∧ (zs_in (s0.2.1).toInt 0 3 ∧ zs_in (s0.2.2).toInt 1 4))) : zs_ok (sn_it (LX9_law_14) 5000 s0) (fun t => (zs_M σ0 t.1 ∧ zs_in (t.2).toInt 0 3)) := by
  refine zs_it (I := fun s => (zs_M σ0 s.1 ∧ (zs_in (s.2.1).toInt 0 3 ∧ zs_in (s.2.2).toInt 1 4))) (m := fun s => 4 - s.2.2.toInt) (fun s hs => ?_) (fun s hs => ?_) (by exact h0)
  · have h1 := hs.2.2; unfold zs_in at h1
    omega
  · obtain ⟨b, eb, hb⟩ := zc_461 hs.1 hs.2.1 hs.2.2 (c := s.2.2.toInt) (Int.add_zero _).symm
    exact ⟨b, eb, zs_sumw hb (fun v w => ⟨⟨w.1.1, ⟨w.1.2.1, (zs_w w.1.2.2 (by decide))⟩⟩, by have := w.2; omega⟩) (fun v w => w)⟩
-- BX9_law_44
theorem zc_462 {σ0 : sn_S} {σ : sn_S} (h_σ : zs_M σ0 σ) {x1 : Int32} (h_x1 : zs_in x1.toInt 0 3) : zs_ok (BX9_law_44 σ x1) (fun r => (zs_in (r.1).toInt 0 3 ∧ zs_M σ0 r.2)) := by
  unfold BX9_law_44
  exact zs_some ⟨h_x1, h_σ⟩
-- fX9_law
theorem zc_463 {σ0 : sn_S} {σ : sn_S} (h_σ : zs_M σ0 σ) : zs_ok (fX9_law σ) (fun r => (zs_in (r.1).toInt (-2) 3 ∧ zs_M σ0 r.2)) := by
  unfold fX9_law
  refine zs_bd_ (zc_92 h_σ) (fun t_1 pt_1 => ?_)
  refine zs_ite (fun c1 => ?_) (fun c1 => ?_)
  · skip
    have r2 := (zs_I_eq c1)
    have g3 : zs_in (t_1.1).toInt 0 0 := (zs_eql 0 0 r2 pt_1.1 zlI_0 (by decide))
    exact zs_some ⟨(zs_w zlI_m2 (by decide)), pt_1.2⟩
  · skip
    have r4 := (zs_I_eqn c1)
    have g5 : zs_in (t_1.1).toInt 1 1 := (zs_nel 1 1 r4 pt_1.1 zlI_0 (by decide))
    refine zs_bd_ (zd_82  (s0 := (t_1.2, ((0 : Int32), (1 : Int32)))) ⟨pt_1.2, ⟨(zs_w zlI_0 (by decide)), (zs_w zlI_1 (by decide))⟩⟩) (fun t_4 pt_4 => ?_)
    obtain ⟨ret, er, hr⟩ := zc_462 pt_4.1 pt_4.2
    refine ⟨ret, er, ?_⟩
    exact ⟨(zs_w hr.1 (by decide)), hr.2⟩
-- fX8_claimAsIfOf
theorem zc_464 {σ0 : sn_S} {σ : sn_S} (h_σ : zs_C σ0 σ) {x1 : Int32} (h_x1 : zs_in x1.toInt 0 5) {x2 : Int32} (h_x2 : zs_in x2.toInt 0 5) : zs_ok (fX8_claimAsIfOf σ x1 x2) (fun r => True) := by
  unfold fX8_claimAsIfOf
  refine zs_gd (zs_gin zlI_2 (by decide)) ?_
  refine zs_gd (zs_gin h_x1 (by decide)) ?_
  refine zs_gd (zs_gin h_x1 (by decide)) ?_
  refine zs_bd_ (zc_235 h_σ (zs_rdk (q := 2) (k := (2 : Int32).toNatClampNeg) (z := (0, 3)) h_σ.1 rfl) h_x2 (zs_rdu (q := 37) (z := (0, 1073741823)) h_σ.1 (fun _ => rfl))) (fun t_4 pt_4 => ?_)
  exact zs_some trivial
-- fX8_gainBy
theorem zc_465 {σ0 : sn_S} {σ : sn_S} (h_σ : zs_C σ0 σ) {x1 : Int32} (h_x1 : zs_in x1.toInt 0 5) {x2 : Int32} (h_x2 : zs_in x2.toInt 0 5) : zs_ok (fX8_gainBy σ x1 x2) (fun r => True) := by
  unfold fX8_gainBy
  refine zs_bd_ (zc_464 h_σ h_x1 h_x2) (fun t_1 pt_1 => ?_)
  refine zs_bd_ (zc_229 h_σ h_x2 zlI_4) (fun t_3 pt_3 => ?_)
  exact zs_some trivial
-- BX8_bestOfMenu_43
theorem zc_466 {σ0 : sn_S} {σ : sn_S} (h_σ : zs_C σ0 σ) {x1 : Int32} (h_x1 : zs_in x1.toInt 0 5) {x2 : Int32} (h_x2 : zs_in x2.toInt (-1) 5) {x3 : Int32} (h_x3 : zs_in x3.toInt 0 2147483647) {x4 : Int32} (h_x4 : zs_in x4.toInt 0 5) {c : Int} (hc : x4.toInt = c + 0) : zs_ok (BX8_bestOfMenu_43 σ x1 x2 x3 x4) (fun r => zs_sum (fun v => ((zs_in (v.1).toInt (-1) 5 ∧ (zs_in (v.2.1).toInt 0 2147483647 ∧ zs_in (v.2.2).toInt 1 6))) ∧ v.2.2.toInt = c + 1) (fun v => False) r) := by
  unfold BX8_bestOfMenu_43
  refine zs_lt (Q := fun z => zs_in z.toInt 1 6 ∧ z.toInt = c + 1) ⟨(zs_addI 1 6 h_x4 zlI_1 (by decide)), (zs_syI 1 hc h_x4 zlI_1 (by decide) (by decide))⟩ (fun y_1 hy_1 => ?_)
  exact zs_some (zs_inl ⟨⟨h_x2, ⟨h_x3, hy_1.1⟩⟩, hy_1.2⟩)
-- BX8_bestOfMenu_43
theorem zc_467 {σ0 : sn_S} {σ : sn_S} (h_σ : zs_C σ0 σ) {x1 : Int32} (h_x1 : zs_in x1.toInt 0 5) {x2 : Int32} (h_x2 : zs_in x2.toInt 0 5) {x3 : Int32} (h_x3 : zs_in x3.toInt 1 2147483647) {x4 : Int32} (h_x4 : zs_in x4.toInt 0 5) {c : Int} (hc : x4.toInt = c + 0) : zs_ok (BX8_bestOfMenu_43 σ x1 x2 x3 x4) (fun r => zs_sum (fun v => ((zs_in (v.1).toInt 0 5 ∧ (zs_in (v.2.1).toInt 1 2147483647 ∧ zs_in (v.2.2).toInt 1 6))) ∧ v.2.2.toInt = c + 1) (fun v => False) r) := by
  unfold BX8_bestOfMenu_43
  refine zs_lt (Q := fun z => zs_in z.toInt 1 6 ∧ z.toInt = c + 1) ⟨(zs_addI 1 6 h_x4 zlI_1 (by decide)), (zs_syI 1 hc h_x4 zlI_1 (by decide) (by decide))⟩ (fun y_1 hy_1 => ?_)
  exact zs_some (zs_inl ⟨⟨h_x2, ⟨h_x3, hy_1.1⟩⟩, hy_1.2⟩)
-- BX8_bestOfMenu_7
theorem zc_468 {σ0 : sn_S} {σ : sn_S} (h_σ : zs_C σ0 σ) {x1 : Int32} (h_x1 : zs_in x1.toInt 0 5) {x2 : Int32} (h_x2 : zs_in x2.toInt (-1) 5) {x3 : Int32} (h_x3 : zs_in x3.toInt 0 2147483647) {x4 : Int32} (h_x4 : zs_in x4.toInt 0 6) {c : Int} (hc : x4.toInt = c + 0) : zs_ok (BX8_bestOfMenu_7 σ x1 x2 x3 x4) (fun r => zs_sum (fun v => ((zs_in (v.1).toInt (-1) 5 ∧ (zs_in (v.2.1).toInt 0 2147483647 ∧ zs_in (v.2.2).toInt 1 6))) ∧ v.2.2.toInt = c + 1) (fun v => zs_in (v).toInt (-1) 5) r) := by
  unfold BX8_bestOfMenu_7
  refine zs_gd (zs_gin zlI_8 (by decide)) ?_
  refine zs_ite (fun c1 => ?_) (fun c1 => ?_)
  · skip
    have r2 := (zs_I_le c1)
    exact zs_some (zs_inr (h_x2))
  · skip
    have r3 := (zs_I_len c1)
    have g4 : zs_in (x4).toInt 0 5 := (zs_ltl 0 5 r3 h_x4 (zs_rdk (q := 2) (k := (8 : Int32).toNatClampNeg) (z := (0, 6)) h_σ.1 rfl) (by decide))
    have g5 : zs_in ((sn_I σ (1 + 1) (8 : Int32).toNatClampNeg)).toInt 1 6 := (zs_ltr 1 6 r3 h_x4 (zs_rdk (q := 2) (k := (8 : Int32).toNatClampNeg) (z := (0, 6)) h_σ.1 rfl) (by decide))
    refine zs_bd_ (zc_465 h_σ h_x1 g4) (fun t_3 pt_3 => ?_)
    refine zs_ite (fun c6 => ?_) (fun c6 => ?_)
    · skip
      have r7 := (zs_I_le c6)
      obtain ⟨ret, er, hr⟩ := zc_466 h_σ h_x1 h_x2 h_x3 g4 hc
      refine ⟨ret, er, ?_⟩
      exact (zs_sumw hr (fun v w => ⟨w.1, w.2⟩) (fun v w => w.elim))
    · skip
      have r8 := (zs_I_len c6)
      have g9 : zs_in (x3).toInt 0 2147483646 := (zs_ltl 0 2147483646 r8 h_x3 (zs_topI _) (by decide))
      have g10 : zs_in (t_3).toInt 1 2147483647 := (zs_ltr 1 2147483647 r8 h_x3 (zs_topI _) (by decide))
      obtain ⟨ret, er, hr⟩ := zc_467 h_σ h_x1 g4 g10 g4 hc
      refine ⟨ret, er, ?_⟩
      exact (zs_sumw hr (fun v w => ⟨⟨(zs_w w.1.1 (by decide)), ⟨(zs_w w.1.2.1 (by decide)), w.1.2.2⟩⟩, w.2⟩) (fun v w => w.elim))
theorem zd_83 {σ0 : sn_S} {σ : sn_S} (h_σ : zs_C σ0 σ) {x1 : Int32} (h_x1 : zs_in x1.toInt 0 5) {s0 : (Int32 × (Int32 × Int32))} (h0 : (zs_in (s0.1).toInt (-1) 5 ∧ (zs_in (s0.2.1).toInt 0 2147483647 ∧ zs_in (s0.2.2).toInt 0 6))) : zs_ok (sn_it (LX8_bestOfMenu_7 σ x1) 5000 s0) (fun t => zs_in (t).toInt (-1) 5) := by
  refine zs_it (I := fun s => (zs_in (s.1).toInt (-1) 5 ∧ (zs_in (s.2.1).toInt 0 2147483647 ∧ zs_in (s.2.2).toInt 0 6))) (m := fun s => 6 - s.2.2.toInt) (fun s hs => ?_) (fun s hs => ?_) (by exact h0)
  · have h1 := hs.2.2; unfold zs_in at h1
    omega
  · obtain ⟨b, eb, hb⟩ := zc_468 h_σ h_x1 hs.1 hs.2.1 hs.2.2 (c := s.2.2.toInt) (Int.add_zero _).symm
    exact ⟨b, eb, zs_sumw hb (fun v w => ⟨⟨w.1.1, ⟨w.1.2.1, (zs_w w.1.2.2 (by decide))⟩⟩, by have := w.2; omega⟩) (fun v w => w)⟩
-- BX8_bestOfMenu_49
theorem zc_469 {σ0 : sn_S} {σ : sn_S} (h_σ : zs_C σ0 σ) {x2 : Int32} (h_x2 : zs_in x2.toInt (-1) 5) : zs_ok (BX8_bestOfMenu_49 σ x2) (fun r => zs_in (r).toInt (-1) 5) := by
  unfold BX8_bestOfMenu_49
  exact zs_some h_x2
-- fX8_bestOfMenu
theorem zc_470 {σ0 : sn_S} {σ : sn_S} (h_σ : zs_C σ0 σ) {x1 : Int32} (h_x1 : zs_in x1.toInt 0 5) : zs_ok (fX8_bestOfMenu σ x1) (fun r => zs_in (r).toInt (-1) 5) := by
  unfold fX8_bestOfMenu
  refine zs_bd_ (zd_83 h_σ h_x1 (s0 := ((-1 : Int32), ((0 : Int32), (0 : Int32)))) ⟨(zs_w zlI_m1 (by decide)), ⟨(zs_w zlI_0 (by decide)), (zs_w zlI_0 (by decide))⟩⟩) (fun t_1 pt_1 => ?_)
  obtain ⟨ret, er, hr⟩ := zc_469 h_σ pt_1
  refine ⟨ret, er, ?_⟩
  exact hr
-- fX8_takes
theorem zc_471 {σ0 : sn_S} {σ : sn_S} (h_σ : zs_C σ0 σ) {x1 : Int32} : zs_ok (fX8_takes σ x1) (fun r => (zs_in (r).toInt (-2) 5) ∧ ((r).toInt = (-2) ∨ (zs_in (x1).toInt 0 5))) := by
  unfold fX8_takes
  refine zs_bd_ (zc_3 h_σ) (fun t_1 pt_1 => ?_)
  refine zs_ite (fun c1 => ?_) (fun c1 => ?_)
  · skip
    have r2 := (zs_I_eq c1)
    have g3 : zs_in (t_1).toInt 0 0 := (zs_eql 0 0 r2 pt_1.1 zlI_0 (by decide))
    exact zs_some ⟨(zs_w zlI_m2 (by decide)), Or.inl (zs_ptr zlI_m2)⟩
  · skip
    have r4 := (zs_I_eqn c1)
    have g5 : zs_in (t_1).toInt 1 1 := (zs_nel 1 1 r4 pt_1.1 zlI_0 (by decide))
    have q6 := (zs_or2 pt_1.2 g5 (by decide))
    have g7 : zs_in (x1).toInt 0 5 := q6
    refine zs_bd_ (zc_470 h_σ g7) (fun t_4 pt_4 => ?_)
    exact zs_some ⟨(zs_w pt_4 (by decide)), Or.inr g7⟩
-- BX9_takesBy_73
theorem zc_472 {σ0 : sn_S} {σ : sn_S} (h_σ : zs_M σ0 σ) {x1 : Int32} (h_x1 : zs_in x1.toInt 0 5) {x2 : Int32} (h_x2 : zs_in x2.toInt (-1) (-1)) {x3 : Int32} (h_x3 : zs_in x3.toInt 0 0) {x4 : Int32} (h_x4 : zs_in x4.toInt 0 5) {x5 : Int32} (h_x5 : zs_in x5.toInt 0 5) {c : Int} (hc : x5.toInt = c + 0) : zs_ok (BX9_takesBy_73 σ x1 x2 x3 x4 x5) (fun r => zs_sum (fun v => ((zs_M σ0 v.1 ∧ (zs_in (v.2.1).toInt 0 5 ∧ zs_in (v.2.2).toInt 1 6))) ∧ v.2.2.toInt = c + 1) (fun v => False) r) := by
  unfold BX9_takesBy_73
  obtain rfl : x2 = (-1 : Int32) := zs_eqv h_x2 (by decide)
  obtain rfl : x3 = (0 : Int32) := zs_eqv h_x3 (by decide)
  refine zs_lt (Q := fun z => zs_in z.toInt 1 6 ∧ z.toInt = c + 1) ⟨(zs_addI 1 6 h_x5 zlI_1 (by decide)), (zs_syI 1 hc h_x5 zlI_1 (by decide) (by decide))⟩ (fun y_1 hy_1 => ?_)
  exact zs_some (zs_inl ⟨⟨h_σ, ⟨h_x4, hy_1.1⟩⟩, hy_1.2⟩)
-- BX9_takesBy_73
theorem zc_473 {σ0 : sn_S} {σ : sn_S} (h_σ : zs_M σ0 σ) {x1 : Int32} (h_x1 : zs_in x1.toInt 0 5) {x2 : Int32} (h_x2 : zs_in x2.toInt (-1) (-1)) {x3 : Int32} (h_x3 : zs_in x3.toInt 0 0) {x4 : Int32} (h_x4 : zs_in x4.toInt (-1) 5) {x5 : Int32} (h_x5 : zs_in x5.toInt 0 5) {c : Int} (hc : x5.toInt = c + 0) : zs_ok (BX9_takesBy_73 σ x1 x2 x3 x4 x5) (fun r => zs_sum (fun v => ((zs_M σ0 v.1 ∧ (zs_in (v.2.1).toInt (-1) 5 ∧ zs_in (v.2.2).toInt 1 6))) ∧ v.2.2.toInt = c + 1) (fun v => False) r) := by
  unfold BX9_takesBy_73
  obtain rfl : x2 = (-1 : Int32) := zs_eqv h_x2 (by decide)
  obtain rfl : x3 = (0 : Int32) := zs_eqv h_x3 (by decide)
  refine zs_lt (Q := fun z => zs_in z.toInt 1 6 ∧ z.toInt = c + 1) ⟨(zs_addI 1 6 h_x5 zlI_1 (by decide)), (zs_syI 1 hc h_x5 zlI_1 (by decide) (by decide))⟩ (fun y_1 hy_1 => ?_)
  exact zs_some (zs_inl ⟨⟨h_σ, ⟨h_x4, hy_1.1⟩⟩, hy_1.2⟩)
-- BX9_takesBy_48
theorem zc_474 {σ0 : sn_S} {σ : sn_S} (h_σ : zs_M σ0 σ) {x1 : Int32} (h_x1 : zs_in x1.toInt 0 5) {x2 : Int32} (h_x2 : zs_in x2.toInt (-1) (-1)) {x3 : Int32} (h_x3 : zs_in x3.toInt 0 0) {x4 : Int32} (h_x4 : zs_in x4.toInt (-1) 5) {x5 : Int32} (h_x5 : zs_in x5.toInt 0 5) {t0 : Int32} {t1 : Int32} (h_t1 : zs_in t1.toInt 0 99) {c : Int} (hc : x5.toInt = c + 0) : zs_ok (BX9_takesBy_48 σ x1 x2 x3 x4 x5 t0 t1) (fun r => zs_sum (fun v => ((zs_M σ0 v.1 ∧ (zs_in (v.2.1).toInt (-1) 5 ∧ zs_in (v.2.2).toInt 1 6))) ∧ v.2.2.toInt = c + 1) (fun v => False) r) := by
  unfold BX9_takesBy_48
  obtain rfl : x2 = (-1 : Int32) := zs_eqv h_x2 (by decide)
  obtain rfl : x3 = (0 : Int32) := zs_eqv h_x3 (by decide)
  refine zs_lt (Q := fun z => True) trivial (fun y_1 hy_1 => ?_)
  refine zs_ite (fun c1 => ?_) (fun c1 => ?_)
  · skip
    have r2 := (zs_I_lt c1)
    have g3 : zs_in ((sn_I σ 0 31)).toInt (-2147483648) 2147483646 := (zs_ltl (-2147483648) 2147483646 r2 (zs_topI _) (zs_topI _) (by decide))
    have g4 : zs_in (y_1).toInt (-2147483647) 2147483647 := (zs_ltr (-2147483647) 2147483647 r2 (zs_topI _) (zs_topI _) (by decide))
    refine zs_lt (Q := fun z => zs_M σ0 z) (zs_wrkt h_σ rfl rfl) (fun σ_4 hσ_4 => ?_)
    obtain ⟨ret, er, hr⟩ := zc_472 hσ_4 h_x1 h_x2 h_x3 h_x5 h_x5 hc
    refine ⟨ret, er, ?_⟩
    exact (zs_sumw hr (fun v w => ⟨⟨w.1.1, ⟨(zs_w w.1.2.1 (by decide)), w.1.2.2⟩⟩, w.2⟩) (fun v w => w.elim))
  · skip
    have r5 := (zs_I_ltn c1)
    obtain ⟨ret, er, hr⟩ := zc_473 h_σ h_x1 h_x2 h_x3 h_x4 h_x5 hc
    refine ⟨ret, er, ?_⟩
    exact (zs_sumw hr (fun v w => ⟨w.1, w.2⟩) (fun v w => w.elim))
-- BX9_takesBy_11
theorem zc_475 {σ0 : sn_S} {σ : sn_S} (h_σ : zs_M σ0 σ) {x1 : Int32} (h_x1 : zs_in x1.toInt 0 5) {x2 : Int32} (h_x2 : zs_in x2.toInt (-1) (-1)) {x3 : Int32} (h_x3 : zs_in x3.toInt 0 0) {x4 : Int32} (h_x4 : zs_in x4.toInt (-1) 5) {x5 : Int32} (h_x5 : zs_in x5.toInt 0 6) {c : Int} (hc : x5.toInt = c + 0) : zs_ok (BX9_takesBy_11 σ x1 x2 x3 x4 x5) (fun r => zs_sum (fun v => ((zs_M σ0 v.1 ∧ (zs_in (v.2.1).toInt (-1) 5 ∧ zs_in (v.2.2).toInt 1 6))) ∧ v.2.2.toInt = c + 1) (fun v => (zs_M σ0 v.1 ∧ zs_in (v.2).toInt (-1) 5)) r) := by
  unfold BX9_takesBy_11
  obtain rfl : x2 = (-1 : Int32) := zs_eqv h_x2 (by decide)
  obtain rfl : x3 = (0 : Int32) := zs_eqv h_x3 (by decide)
  refine zs_gd (zs_gin zlI_8 (by decide)) ?_
  refine zs_ite (fun c1 => ?_) (fun c1 => ?_)
  · skip
    have r2 := (zs_I_le c1)
    exact zs_some (zs_inr (⟨h_σ, h_x4⟩))
  · skip
    have r3 := (zs_I_len c1)
    have g4 : zs_in (x5).toInt 0 5 := (zs_ltl 0 5 r3 h_x5 (zs_rdk (q := 1) (k := (8 : Int32).toNatClampNeg) (z := (0, 6)) h_σ.1 rfl) (by decide))
    have g5 : zs_in ((sn_I σ 1 (8 : Int32).toNatClampNeg)).toInt 1 6 := (zs_ltr 1 6 r3 h_x5 (zs_rdk (q := 1) (k := (8 : Int32).toNatClampNeg) (z := (0, 6)) h_σ.1 rfl) (by decide))
    refine zs_bd_ (zc_261 h_σ g4 h_x1 zlI_0) (fun t_3 pt_3 => ?_)
    refine zs_ite (fun c6 => ?_) (fun c6 => ?_)
    · skip
      have r7 := (zs_I_eq c6)
      exact (zs_botr r7 g4 h_x2 (by decide)).elim
    · skip
      have r8 := (zs_I_eqn c6)
      refine zs_bd_ (zc_240 pt_3.2 g4 zlI_4) (fun t_6 pt_6 => ?_)
      obtain ⟨ret, er, hr⟩ := zc_474 pt_3.2 h_x1 h_x2 h_x3 h_x4 g4 pt_6 hc
      refine ⟨ret, er, ?_⟩
      exact (zs_sumw hr (fun v w => ⟨w.1, w.2⟩) (fun v w => w.elim))
theorem zd_84 {σ0 : sn_S} {x1 : Int32} (h_x1 : zs_in x1.toInt 0 5) {x2 : Int32} (h_x2 : zs_in x2.toInt (-1) (-1)) {x3 : Int32} (h_x3 : zs_in x3.toInt 0 0) {s0 : (sn_S × (Int32 × Int32))} (h0 : (zs_M σ0 s0.1 ∧ (zs_in (s0.2.1).toInt (-1) 5 ∧ zs_in (s0.2.2).toInt 0 6))) : zs_ok (sn_it (LX9_takesBy_11 x1 x2 x3) 5000 s0) (fun t => (zs_M σ0 t.1 ∧ zs_in (t.2).toInt (-1) 5)) := by
  refine zs_it (I := fun s => (zs_M σ0 s.1 ∧ (zs_in (s.2.1).toInt (-1) 5 ∧ zs_in (s.2.2).toInt 0 6))) (m := fun s => 6 - s.2.2.toInt) (fun s hs => ?_) (fun s hs => ?_) (by exact h0)
  · have h1 := hs.2.2; unfold zs_in at h1
    omega
  · obtain ⟨b, eb, hb⟩ := zc_475 hs.1 h_x1 h_x2 h_x3 hs.2.1 hs.2.2 (c := s.2.2.toInt) (Int.add_zero _).symm
    exact ⟨b, eb, zs_sumw hb (fun v w => ⟨⟨w.1.1, ⟨w.1.2.1, (zs_w w.1.2.2 (by decide))⟩⟩, by have := w.2; omega⟩) (fun v w => w)⟩
-- BX9_takesBy_79
theorem zc_476 {σ0 : sn_S} {σ : sn_S} (h_σ : zs_M σ0 σ) {x4 : Int32} (h_x4 : zs_in x4.toInt (-1) 5) : zs_ok (BX9_takesBy_79 σ x4) (fun r => (zs_in (r.1).toInt (-1) 5 ∧ zs_M σ0 r.2)) := by
  unfold BX9_takesBy_79
  exact zs_some ⟨h_x4, h_σ⟩
-- fX9_takesBy
theorem zc_477 {σ0 : sn_S} {σ : sn_S} (h_σ : zs_M σ0 σ) {x1 : Int32} (h_x1 : zs_in x1.toInt 0 5) {x2 : Int32} (h_x2 : zs_in x2.toInt (-1) (-1)) {x3 : Int32} (h_x3 : zs_in x3.toInt 0 0) : zs_ok (fX9_takesBy σ x1 x2 x3) (fun r => (zs_in (r.1).toInt (-1) 5 ∧ zs_M σ0 r.2)) := by
  unfold fX9_takesBy
  obtain rfl : x2 = (-1 : Int32) := zs_eqv h_x2 (by decide)
  obtain rfl : x3 = (0 : Int32) := zs_eqv h_x3 (by decide)
  refine zs_lt (Q := fun z => zs_M σ0 z) (zs_wrkt h_σ rfl rfl) (fun σ_1 hσ_1 => ?_)
  refine zs_bd_ (zd_84 h_x1 h_x2 h_x3 (s0 := (σ_1, ((-1 : Int32), (0 : Int32)))) ⟨hσ_1, ⟨(zs_w zlI_m1 (by decide)), (zs_w zlI_0 (by decide))⟩⟩) (fun t_3 pt_3 => ?_)
  obtain ⟨ret, er, hr⟩ := zc_476 pt_3.1 pt_3.2
  refine ⟨ret, er, ?_⟩
  exact hr
-- fX9_takes_
theorem zc_478 {σ0 : sn_S} {σ : sn_S} (h_σ : zs_M σ0 σ) {x1 : Int32} : zs_ok (fX9_takes_ σ x1) (fun r => ((zs_in (r.1).toInt (-2) 5 ∧ zs_M σ0 r.2)) ∧ ((r.1).toInt = (-2) ∨ (zs_in (x1).toInt 0 5))) := by
  unfold fX9_takes_
  refine zs_bd_ (zc_98 h_σ) (fun t_1 pt_1 => ?_)
  refine zs_ite (fun c1 => ?_) (fun c1 => ?_)
  · skip
    have r2 := (zs_I_eq c1)
    have g3 : zs_in (t_1.1).toInt 0 0 := (zs_eql 0 0 r2 pt_1.1.1 zlI_0 (by decide))
    exact zs_some ⟨⟨(zs_w zlI_m2 (by decide)), pt_1.1.2⟩, Or.inl (zs_ptr zlI_m2)⟩
  · skip
    have r4 := (zs_I_eqn c1)
    have g5 : zs_in (t_1.1).toInt 1 1 := (zs_nel 1 1 r4 pt_1.1.1 zlI_0 (by decide))
    have q6 := (zs_or2 pt_1.2 g5 (by decide))
    have g7 : zs_in (x1).toInt 0 5 := q6
    refine zs_bd_ (zc_477 pt_1.1.2 g7 zlI_m1 zlI_0) (fun t_4 pt_4 => ?_)
    exact zs_some ⟨⟨(zs_w pt_4.1 (by decide)), pt_4.2⟩, Or.inr g7⟩
-- fX8_gains
theorem zc_479 {σ0 : sn_S} {σ : sn_S} (h_σ : zs_C σ0 σ) {x1 : Int32} : zs_ok (fX8_gains σ x1) (fun r => (True) ∧ ((r).toInt = (-2) ∨ (zs_in (x1).toInt 0 5))) := by
  unfold fX8_gains
  refine zs_bd_ (zc_3 h_σ) (fun t_1 pt_1 => ?_)
  refine zs_ite (fun c1 => ?_) (fun c1 => ?_)
  · skip
    have r2 := (zs_I_eq c1)
    have g3 : zs_in (t_1).toInt 0 0 := (zs_eql 0 0 r2 pt_1.1 zlI_0 (by decide))
    exact zs_some ⟨trivial, Or.inl (zs_ptr zlI_m2)⟩
  · skip
    have r4 := (zs_I_eqn c1)
    have g5 : zs_in (t_1).toInt 1 1 := (zs_nel 1 1 r4 pt_1.1 zlI_0 (by decide))
    have q6 := (zs_or2 pt_1.2 g5 (by decide))
    have g7 : zs_in (x1).toInt 0 5 := q6
    refine zs_bd_ (zc_470 h_σ g7) (fun t_4 pt_4 => ?_)
    refine zs_ite (fun c8 => ?_) (fun c8 => ?_)
    · skip
      have r9 := (zs_I_eq c8)
      have g10 : zs_in (t_4).toInt (-1) (-1) := (zs_eql (-1) (-1) r9 pt_4 zlI_m1 (by decide))
      exact zs_some ⟨trivial, Or.inr g7⟩
    · skip
      have r11 := (zs_I_eqn c8)
      have g12 : zs_in (t_4).toInt 0 5 := (zs_nel 0 5 r11 pt_4 zlI_m1 (by decide))
      refine zs_bd_ (zc_465 h_σ g7 g12) (fun t_7 pt_7 => ?_)
      exact zs_some ⟨trivial, Or.inr g7⟩
-- fX9_gains
theorem zc_480 {σ0 : sn_S} {σ : sn_S} (h_σ : zs_M σ0 σ) {x1 : Int32} : zs_ok (fX9_gains σ x1) (fun r => ((True ∧ zs_M σ0 r.2)) ∧ ((r.1).toInt = (-2) ∨ (zs_in (x1).toInt 0 5))) := by
  unfold fX9_gains
  refine zs_bd_ (zc_98 h_σ) (fun t_1 pt_1 => ?_)
  refine zs_ite (fun c1 => ?_) (fun c1 => ?_)
  · skip
    have r2 := (zs_I_eq c1)
    have g3 : zs_in (t_1.1).toInt 0 0 := (zs_eql 0 0 r2 pt_1.1.1 zlI_0 (by decide))
    exact zs_some ⟨⟨trivial, pt_1.1.2⟩, Or.inl (zs_ptr zlI_m2)⟩
  · skip
    have r4 := (zs_I_eqn c1)
    have g5 : zs_in (t_1.1).toInt 1 1 := (zs_nel 1 1 r4 pt_1.1.1 zlI_0 (by decide))
    have q6 := (zs_or2 pt_1.2 g5 (by decide))
    have g7 : zs_in (x1).toInt 0 5 := q6
    refine zs_bd_ (zc_477 pt_1.1.2 g7 zlI_m1 zlI_0) (fun t_4 pt_4 => ?_)
    exact zs_some ⟨⟨trivial, pt_4.2⟩, Or.inr g7⟩
-- BX8_priceFor_60
theorem zc_481 {σ0 : sn_S} {σ : sn_S} (h_σ : zs_C σ0 σ) {x1 : Int32} (h_x1 : zs_in x1.toInt 0 5) {x2 : Int32} (h_x2 : zs_in x2.toInt 0 5) {x3 : Int32} (h_x3 : zs_in x3.toInt 0 2147483647) {x4 : Int32} (h_x4 : zs_in x4.toInt 0 5) {c : Int} (hc : x4.toInt = c + 0) : zs_ok (BX8_priceFor_60 σ x1 x2 x3 x4) (fun r => zs_sum (fun v => ((zs_in (v.1).toInt 0 2147483647 ∧ zs_in (v.2).toInt 1 6)) ∧ v.2.toInt = c + 1) (fun v => False) r) := by
  unfold BX8_priceFor_60
  refine zs_lt (Q := fun z => zs_in z.toInt 1 6 ∧ z.toInt = c + 1) ⟨(zs_addI 1 6 h_x4 zlI_1 (by decide)), (zs_syI 1 hc h_x4 zlI_1 (by decide) (by decide))⟩ (fun y_1 hy_1 => ?_)
  exact zs_some (zs_inl ⟨⟨h_x3, hy_1.1⟩, hy_1.2⟩)
-- BX8_priceFor_60
theorem zc_482 {σ0 : sn_S} {σ : sn_S} (h_σ : zs_C σ0 σ) {x1 : Int32} (h_x1 : zs_in x1.toInt 0 5) {x2 : Int32} (h_x2 : zs_in x2.toInt 0 4) {x3 : Int32} (h_x3 : zs_in x3.toInt 0 2147483647) {x4 : Int32} (h_x4 : zs_in x4.toInt 1 5) {c : Int} (hc : x4.toInt = c + 0) : zs_ok (BX8_priceFor_60 σ x1 x2 x3 x4) (fun r => zs_sum (fun v => ((zs_in (v.1).toInt 0 2147483647 ∧ zs_in (v.2).toInt 2 6)) ∧ v.2.toInt = c + 1) (fun v => False) r) := by
  unfold BX8_priceFor_60
  refine zs_lt (Q := fun z => zs_in z.toInt 2 6 ∧ z.toInt = c + 1) ⟨(zs_addI 2 6 h_x4 zlI_1 (by decide)), (zs_syI 1 hc h_x4 zlI_1 (by decide) (by decide))⟩ (fun y_1 hy_1 => ?_)
  exact zs_some (zs_inl ⟨⟨h_x3, hy_1.1⟩, hy_1.2⟩)
-- BX8_priceFor_60
theorem zc_483 {σ0 : sn_S} {σ : sn_S} (h_σ : zs_C σ0 σ) {x1 : Int32} (h_x1 : zs_in x1.toInt 0 5) {x2 : Int32} (h_x2 : zs_in x2.toInt 1 5) {x3 : Int32} (h_x3 : zs_in x3.toInt 0 2147483647) {x4 : Int32} (h_x4 : zs_in x4.toInt 0 4) {c : Int} (hc : x4.toInt = c + 0) : zs_ok (BX8_priceFor_60 σ x1 x2 x3 x4) (fun r => zs_sum (fun v => ((zs_in (v.1).toInt 0 2147483647 ∧ zs_in (v.2).toInt 1 5)) ∧ v.2.toInt = c + 1) (fun v => False) r) := by
  unfold BX8_priceFor_60
  refine zs_lt (Q := fun z => zs_in z.toInt 1 5 ∧ z.toInt = c + 1) ⟨(zs_addI 1 5 h_x4 zlI_1 (by decide)), (zs_syI 1 hc h_x4 zlI_1 (by decide) (by decide))⟩ (fun y_1 hy_1 => ?_)
  exact zs_some (zs_inl ⟨⟨h_x3, hy_1.1⟩, hy_1.2⟩)
-- BX8_priceFor_5
theorem zc_484 {σ0 : sn_S} {σ : sn_S} (h_σ : zs_C σ0 σ) {x1 : Int32} (h_x1 : zs_in x1.toInt 0 5) {x2 : Int32} (h_x2 : zs_in x2.toInt 0 5) {x3 : Int32} (h_x3 : zs_in x3.toInt 0 2147483647) {x4 : Int32} (h_x4 : zs_in x4.toInt 0 6) {c : Int} (hc : x4.toInt = c + 0) : zs_ok (BX8_priceFor_5 σ x1 x2 x3 x4) (fun r => zs_sum (fun v => ((zs_in (v.1).toInt 0 2147483647 ∧ zs_in (v.2).toInt 1 6)) ∧ v.2.toInt = c + 1) (fun v => zs_in (v).toInt 0 2147483647) r) := by
  unfold BX8_priceFor_5
  refine zs_gd (zs_gin zlI_8 (by decide)) ?_
  refine zs_ite (fun c1 => ?_) (fun c1 => ?_)
  · skip
    have r2 := (zs_I_le c1)
    exact zs_some (zs_inr (h_x3))
  · skip
    have r3 := (zs_I_len c1)
    have g4 : zs_in (x4).toInt 0 5 := (zs_ltl 0 5 r3 h_x4 (zs_rdk (q := 2) (k := (8 : Int32).toNatClampNeg) (z := (0, 6)) h_σ.1 rfl) (by decide))
    have g5 : zs_in ((sn_I σ (1 + 1) (8 : Int32).toNatClampNeg)).toInt 1 6 := (zs_ltr 1 6 r3 h_x4 (zs_rdk (q := 2) (k := (8 : Int32).toNatClampNeg) (z := (0, 6)) h_σ.1 rfl) (by decide))
    refine zs_bd_ (zc_465 h_σ h_x1 g4) (fun t_3 pt_3 => ?_)
    refine zs_ite (fun c6 => ?_) (fun c6 => ?_)
    · skip
      have r7 := (zs_I_le c6)
      refine zs_ite (fun c8 => ?_) (fun c8 => ?_)
      · skip
        have r9 := (zs_I_le c8)
        obtain ⟨ret, er, hr⟩ := zc_481 h_σ h_x1 h_x2 h_x3 g4 hc
        refine ⟨ret, er, ?_⟩
        exact (zs_sumw hr (fun v w => ⟨w.1, w.2⟩) (fun v w => w.elim))
      · skip
        have r10 := (zs_I_len c8)
        have g11 : zs_in (x2).toInt 0 4 := (zs_ltl 0 4 r10 h_x2 g4 (by decide))
        have g12 : zs_in (x4).toInt 1 5 := (zs_ltr 1 5 r10 h_x2 g4 (by decide))
        refine zs_lt (Q := fun z => zs_in z.toInt 0 2147483647) (zs_max 0 2147483647 h_x3 (zs_topI _) (by decide)) (fun y_7 hy_7 => ?_)
        obtain ⟨ret, er, hr⟩ := zc_482 h_σ h_x1 g11 hy_7 g12 hc
        refine ⟨ret, er, ?_⟩
        exact (zs_sumw hr (fun v w => ⟨⟨w.1.1, (zs_w w.1.2 (by decide))⟩, w.2⟩) (fun v w => w.elim))
    · skip
      have r13 := (zs_I_len c6)
      have g14 : zs_in (x4).toInt 0 4 := (zs_ltl 0 4 r13 g4 h_x2 (by decide))
      have g15 : zs_in (x2).toInt 1 5 := (zs_ltr 1 5 r13 g4 h_x2 (by decide))
      refine zs_lt (Q := fun z => zs_in z.toInt 0 2147483647) (zs_max 0 2147483647 h_x3 (zs_topI _) (by decide)) (fun y_9 hy_9 => ?_)
      obtain ⟨ret, er, hr⟩ := zc_483 h_σ h_x1 g15 hy_9 g14 hc
      refine ⟨ret, er, ?_⟩
      exact (zs_sumw hr (fun v w => ⟨⟨w.1.1, (zs_w w.1.2 (by decide))⟩, w.2⟩) (fun v w => w.elim))
theorem zd_85 {σ0 : sn_S} {σ : sn_S} (h_σ : zs_C σ0 σ) {x1 : Int32} (h_x1 : zs_in x1.toInt 0 5) {x2 : Int32} (h_x2 : zs_in x2.toInt 0 5) {s0 : (Int32 × Int32)} (h0 : (zs_in (s0.1).toInt 0 2147483647 ∧ zs_in (s0.2).toInt 0 6)) : zs_ok (sn_it (LX8_priceFor_5 σ x1 x2) 5000 s0) (fun t => zs_in (t).toInt 0 2147483647) := by
  refine zs_it (I := fun s => (zs_in (s.1).toInt 0 2147483647 ∧ zs_in (s.2).toInt 0 6)) (m := fun s => 6 - s.2.toInt) (fun s hs => ?_) (fun s hs => ?_) (by exact h0)
  · have h1 := hs.2; unfold zs_in at h1
    omega
  · obtain ⟨b, eb, hb⟩ := zc_484 h_σ h_x1 h_x2 hs.1 hs.2 (c := s.2.toInt) (Int.add_zero _).symm
    exact ⟨b, eb, zs_sumw hb (fun v w => ⟨⟨w.1.1, (zs_w w.1.2 (by decide))⟩, by have := w.2; omega⟩) (fun v w => w)⟩
-- BX8_priceFor_66
theorem zc_485 {σ0 : sn_S} {σ : sn_S} (h_σ : zs_C σ0 σ) {x1 : Int32} (h_x1 : zs_in x1.toInt 0 5) {x2 : Int32} (h_x2 : zs_in x2.toInt 0 5) {x3 : Int32} (h_x3 : zs_in x3.toInt 0 2147483647) : zs_ok (BX8_priceFor_66 σ x1 x2 x3) (fun r => zs_in (r).toInt 0 2147483647) := by
  unfold BX8_priceFor_66
  refine zs_bd_ (zc_464 h_σ h_x1 h_x2) (fun t_1 pt_1 => ?_)
  refine zs_lt (Q := fun z => zs_in z.toInt 0 2147483647) (zs_max 0 2147483647 zlI_0 (zs_topI _) (by decide)) (fun y_3 hy_3 => ?_)
  exact zs_some hy_3
-- fX8_priceFor
theorem zc_486 {σ0 : sn_S} {σ : sn_S} (h_σ : zs_C σ0 σ) {x1 : Int32} (h_x1 : zs_in x1.toInt 0 5) {x2 : Int32} (h_x2 : zs_in x2.toInt 0 5) : zs_ok (fX8_priceFor σ x1 x2) (fun r => zs_in (r).toInt 0 2147483647) := by
  unfold fX8_priceFor
  refine zs_bd_ (zd_85 h_σ h_x1 h_x2 (s0 := ((0 : Int32), (0 : Int32))) ⟨(zs_w zlI_0 (by decide)), (zs_w zlI_0 (by decide))⟩) (fun t_1 pt_1 => ?_)
  obtain ⟨ret, er, hr⟩ := zc_485 h_σ h_x1 h_x2 pt_1
  refine ⟨ret, er, ?_⟩
  exact hr
-- BX8_price_15
theorem zc_487 {σ0 : sn_S} {σ : sn_S} (h_σ : zs_C σ0 σ) {x1 : Int32} (h_x1 : zs_in x1.toInt 0 5) {x2 : Int32} (h_x2 : zs_in x2.toInt 0 2147483647) {x3 : Int32} (h_x3 : zs_in x3.toInt 0 6) {c : Int} (hc : x3.toInt = c + 0) : zs_ok (BX8_price_15 σ x1 x2 x3) (fun r => zs_sum (fun v => ((zs_in (v.1).toInt 0 2147483647 ∧ zs_in (v.2).toInt 1 6)) ∧ v.2.toInt = c + 1) (fun v => zs_in (v).toInt 0 2147483647) r) := by
  unfold BX8_price_15
  refine zs_ite (fun c1 => ?_) (fun c1 => ?_)
  · skip
    have r2 := (zs_I_le c1)
    exact zs_some (zs_inr (h_x2))
  · skip
    have r3 := (zs_I_len c1)
    have g4 : zs_in (x3).toInt 0 5 := (zs_ltl 0 5 r3 h_x3 (zs_rdk (q := 27) (k := 1) (z := (0, 6)) h_σ.1 rfl) (by decide))
    have g5 : zs_in ((sn_I σ 27 1)).toInt 1 6 := (zs_ltr 1 6 r3 h_x3 (zs_rdk (q := 27) (k := 1) (z := (0, 6)) h_σ.1 rfl) (by decide))
    refine zs_bd_ (zc_486 h_σ g4 h_x1) (fun t_2 pt_2 => ?_)
    refine zs_lt (Q := fun z => zs_in z.toInt 0 2147483647) (zs_max 0 2147483647 h_x2 pt_2 (by decide)) (fun y_4 hy_4 => ?_)
    refine zs_lt (Q := fun z => zs_in z.toInt 1 6 ∧ z.toInt = c + 1) ⟨(zs_addI 1 6 g4 zlI_1 (by decide)), (zs_syI 1 hc g4 zlI_1 (by decide) (by decide))⟩ (fun y_6 hy_6 => ?_)
    exact zs_some (zs_inl ⟨⟨hy_4, hy_6.1⟩, hy_6.2⟩)
theorem zd_86 {σ0 : sn_S} {σ : sn_S} (h_σ : zs_C σ0 σ) {x1 : Int32} (h_x1 : zs_in x1.toInt 0 5) {s0 : (Int32 × Int32)} (h0 : (zs_in (s0.1).toInt 0 2147483647 ∧ zs_in (s0.2).toInt 0 6)) : zs_ok (sn_it (LX8_price_15 σ x1) 5000 s0) (fun t => zs_in (t).toInt 0 2147483647) := by
  refine zs_it (I := fun s => (zs_in (s.1).toInt 0 2147483647 ∧ zs_in (s.2).toInt 0 6)) (m := fun s => 6 - s.2.toInt) (fun s hs => ?_) (fun s hs => ?_) (by exact h0)
  · have h1 := hs.2; unfold zs_in at h1
    omega
  · obtain ⟨b, eb, hb⟩ := zc_487 h_σ h_x1 hs.1 hs.2 (c := s.2.toInt) (Int.add_zero _).symm
    exact ⟨b, eb, zs_sumw hb (fun v w => ⟨⟨w.1.1, (zs_w w.1.2 (by decide))⟩, by have := w.2; omega⟩) (fun v w => w)⟩
-- BX8_price_43
theorem zc_488 {σ0 : sn_S} {σ : sn_S} (h_σ : zs_C σ0 σ) {x2 : Int32} (h_x2 : zs_in x2.toInt 0 2147483647) : zs_ok (BX8_price_43 σ x2) (fun r => zs_in (r).toInt 0 2147483647) := by
  unfold BX8_price_43
  exact zs_some h_x2
-- fX8_price
theorem zc_489 {σ0 : sn_S} {σ : sn_S} (h_σ : zs_C σ0 σ) {x1 : Int32} : zs_ok (fX8_price σ x1) (fun r => (zs_in (r).toInt (-2) 2147483647) ∧ ((r).toInt = (-2) ∨ (zs_in (x1).toInt 0 5))) := by
  unfold fX8_price
  refine zs_bd_ (zo_isPolicy h_σ) (fun t_1 pt_1 => ?_)
  refine zs_ite (fun c1 => ?_) (fun c1 => ?_)
  · skip
    have r2 := (zs_I_eq c1)
    have g3 : zs_in (t_1).toInt 0 0 := (zs_eql 0 0 r2 pt_1.1 zlI_0 (by decide))
    exact zs_some ⟨(zs_w zlI_m2 (by decide)), Or.inl (zs_ptr zlI_m2)⟩
  · skip
    have r4 := (zs_I_eqn c1)
    have g5 : zs_in (t_1).toInt 1 1 := (zs_nel 1 1 r4 pt_1.1 zlI_0 (by decide))
    have q6 := (zs_or2 pt_1.2.1 g5 (by decide))
    have g7 : zs_in (x1).toInt 0 5 := q6
    haveI := zs_or2 pt_1.2.2 g5 (by decide)
    refine zs_bd_ (zd_86 h_σ g7 (s0 := ((0 : Int32), (0 : Int32))) ⟨(zs_w zlI_0 (by decide)), (zs_w zlI_0 (by decide))⟩) (fun t_4 pt_4 => ?_)
    obtain ⟨ret, er, hr⟩ := zc_488 h_σ pt_4
    refine ⟨ret, er, ?_⟩
    exact ⟨(zs_w hr (by decide)), Or.inr g7⟩
-- fX2_ofPolicy
theorem zc_490 {σ0 : sn_S} {σ : sn_S} (h_σ : zs_C σ0 σ) {x1 : Int32} (h_x1 : zs_in x1.toInt 0 5) {x2 : Int32} (h_x2 : zs_in x2.toInt 1 1) : zs_ok (fX2_ofPolicy σ 1 x1 x2) (fun r => True) := by
  unfold fX2_ofPolicy
  obtain rfl : x2 = (1 : Int32) := zs_eqv h_x2 (by decide)
  refine zs_gd (zs_gin (zs_addI 1 26 (zs_mulI 0 25 zlI_5 h_x1 (by decide)) h_x2 (by decide)) (by decide)) ?_
  exact zs_some trivial
-- fX2_ofPolicy
theorem zc_491 {σ0 : sn_S} {σ : sn_S} (h_σ : zs_C σ0 σ) {x1 : Int32} (h_x1 : zs_in x1.toInt 0 5) {x2 : Int32} (h_x2 : zs_in x2.toInt 2 2) : zs_ok (fX2_ofPolicy σ 1 x1 x2) (fun r => True) := by
  unfold fX2_ofPolicy
  obtain rfl : x2 = (2 : Int32) := zs_eqv h_x2 (by decide)
  refine zs_gd (zs_gin (zs_addI 2 27 (zs_mulI 0 25 zlI_5 h_x1 (by decide)) h_x2 (by decide)) (by decide)) ?_
  exact zs_some trivial
-- BJ7_fill_d0a16_6
theorem zc_492 {σ0 : sn_S} {σ : sn_S} (h_σ : zs_C σ0 σ) {x1 : Int64} (h_x1 : zs_in x1.toInt 4611686018427387904 4611686018427387904) {x3 : Int32} (h_x3 : zs_in x3.toInt 0 31) {x4 : Int32} (h_x4 : zs_in x4.toInt 31 31) {c : Int} (hc : x3.toInt = c + 0) : zs_ok (BJ7_fill_d0a16_6 σ 53 31 x1 x3 x4) (fun r => zs_sum (fun v => ((zs_C σ0 v.1 ∧ zs_in (v.2).toInt 1 31)) ∧ v.2.toInt = c + 1) (fun v => zs_C σ0 v) r) := by
  unfold BJ7_fill_d0a16_6
  obtain rfl : x4 = (31 : Int32) := zs_eqv h_x4 (by decide)
  refine zs_ite (fun c1 => ?_) (fun c1 => ?_)
  · skip
    have r2 := (zs_I_le c1)
    have g3 : zs_in (x3).toInt 31 31 := (zs_ler 31 31 r2 h_x4 h_x3 (by decide))
    exact zs_some (zs_inr (h_σ))
  · skip
    have r4 := (zs_I_len c1)
    have g5 : zs_in (x3).toInt 0 30 := (zs_ltl 0 30 r4 h_x3 h_x4 (by decide))
    refine zs_gd (zs_gin g5 (by decide)) ?_
    refine zs_lt (Q := fun z => zs_C σ0 z) (zs_wrL h_σ rfl) (fun σ_3 hσ_3 => ?_)
    refine zs_lt (Q := fun z => zs_in z.toInt 1 31 ∧ z.toInt = c + 1) ⟨(zs_addI 1 31 g5 zlI_1 (by decide)), (zs_syI 1 hc g5 zlI_1 (by decide) (by decide))⟩ (fun y_5 hy_5 => ?_)
    exact zs_some (zs_inl ⟨⟨hσ_3, hy_5.1⟩, hy_5.2⟩)
theorem zd_87 {σ0 : sn_S} {x1 : Int64} (h_x1 : zs_in x1.toInt 4611686018427387904 4611686018427387904) {x4 : Int32} (h_x4 : zs_in x4.toInt 31 31) {s0 : (sn_S × Int32)} (h0 : (zs_C σ0 s0.1 ∧ zs_in (s0.2).toInt 0 31)) : zs_ok (sn_it (LJ7_fill_d0a16_6 53 31 x1 x4) 5000 s0) (fun t => zs_C σ0 t) := by
  refine zs_it (I := fun s => (zs_C σ0 s.1 ∧ zs_in (s.2).toInt 0 31)) (m := fun s => 31 - s.2.toInt) (fun s hs => ?_) (fun s hs => ?_) (by exact h0)
  · have h1 := hs.2; unfold zs_in at h1
    omega
  · obtain ⟨b, eb, hb⟩ := zc_492 hs.1 h_x1 hs.2 h_x4 (c := s.2.toInt) (Int.add_zero _).symm
    exact ⟨b, eb, zs_sumw hb (fun v w => ⟨⟨w.1.1, (zs_w w.1.2 (by decide))⟩, by have := w.2; omega⟩) (fun v w => w)⟩
-- BJ7_fill_d0a16_22
theorem zc_493 {σ0 : sn_S} {σ : sn_S} (h_σ : zs_C σ0 σ) : zs_ok (BJ7_fill_d0a16_22 σ 53 31) (fun r => zs_C σ0 r) := by
  unfold BJ7_fill_d0a16_22
  exact zs_some h_σ
-- fJ7_fill_d0a16
theorem zc_494 {σ0 : sn_S} {σ : sn_S} (h_σ : zs_C σ0 σ) {x1 : Int64} (h_x1 : zs_in x1.toInt 4611686018427387904 4611686018427387904) : zs_ok (fJ7_fill_d0a16 σ 53 31 x1) (fun r => zs_C σ0 r) := by
  unfold fJ7_fill_d0a16
  refine zs_lt (Q := fun z => zs_in z.toInt 31 31) zlI_31 (fun y_1 hy_1 => ?_)
  refine zs_bd_ (zd_87 h_x1 hy_1 (s0 := (σ, (0 : Int32))) ⟨h_σ, (zs_w zlI_0 (by decide))⟩) (fun t_3 pt_3 => ?_)
  obtain ⟨ret, er, hr⟩ := zc_493 pt_3
  refine ⟨ret, er, ?_⟩
  exact hr
-- BX1_reckon_103
theorem zc_495 {σ0 : sn_S} {σ : sn_S} (h_σ : zs_C σ0 σ) {x3 : Int32} (h_x3 : zs_in x3.toInt 0 5) {x4 : Int32} (h_x4 : zs_in x4.toInt 0 29) {x5 : Int32} (h_x5 : zs_in x5.toInt (-2147483648) 29) {x6 : Int32} (h_x6 : zs_in x6.toInt 0 29) {c : Int} (hc : x6.toInt = c + 0) : zs_ok (BX1_reckon_103 σ 1 27 x3 x4 x5 x6) (fun r => zs_sum (fun v => ((zs_C σ0 v.1 ∧ zs_in (v.2).toInt 1 30)) ∧ v.2.toInt = c + 1) (fun v => False) r) := by
  unfold BX1_reckon_103
  refine zs_lt (Q := fun z => zs_in z.toInt 1 30 ∧ z.toInt = c + 1) ⟨(zs_addI 1 30 h_x6 zlI_1 (by decide)), (zs_syI 1 hc h_x6 zlI_1 (by decide) (by decide))⟩ (fun y_1 hy_1 => ?_)
  exact zs_some (zs_inl ⟨⟨h_σ, hy_1.1⟩, hy_1.2⟩)
-- BX0_comesTo_19
theorem zc_496 {σ0 : sn_S} {σ : sn_S} (h_σ : zs_C σ0 σ) {x1 : Int32} (h_x1 : zs_in x1.toInt 0 5) {x2 : Int32} (h_x2 : zs_in x2.toInt 0 29) {t0 : Int32} (h_t0 : zs_in t0.toInt 0 0) : zs_ok (BX0_comesTo_19 σ 27 x1 x2 t0) (fun r => True) := by
  unfold BX0_comesTo_19
  obtain rfl : t0 = (0 : Int32) := zs_eqv h_t0 (by decide)
  refine zs_gd (zs_gin h_x1 (by decide)) ?_
  refine zs_gd (zs_gin h_x2 (by decide)) ?_
  refine zs_bd_ (zc_125 h_σ h_x1 h_x2) (fun t_3 pt_3 => ?_)
  exact zs_some trivial
-- BX0_comesTo_19
theorem zc_497 {σ0 : sn_S} {σ : sn_S} (h_σ : zs_C σ0 σ) {x1 : Int32} (h_x1 : zs_in x1.toInt 0 5) {x2 : Int32} (h_x2 : zs_in x2.toInt 0 29) {t0 : Int32} (h_t0 : zs_in t0.toInt 40 40) : zs_ok (BX0_comesTo_19 σ 27 x1 x2 t0) (fun r => True) := by
  unfold BX0_comesTo_19
  obtain rfl : t0 = (40 : Int32) := zs_eqv h_t0 (by decide)
  refine zs_gd (zs_gin h_x1 (by decide)) ?_
  refine zs_gd (zs_gin h_x2 (by decide)) ?_
  refine zs_bd_ (zc_125 h_σ h_x1 h_x2) (fun t_3 pt_3 => ?_)
  exact zs_some trivial
-- fX0_comesTo
theorem zc_498 {σ0 : sn_S} {σ : sn_S} (h_σ : zs_C σ0 σ) {x1 : Int32} (h_x1 : zs_in x1.toInt 0 5) {x2 : Int32} (h_x2 : zs_in x2.toInt 0 29) : zs_ok (fX0_comesTo σ 27 x1 x2) (fun r => True) := by
  unfold fX0_comesTo
  refine zs_gd (zs_gin h_x1 (by decide)) ?_
  refine zs_bd_ (zc_221 h_x2) (fun t_2 pt_2 => ?_)
  refine zs_ite (fun c1 => ?_) (fun c1 => ?_)
  · skip
    have r2 := (zs_I_eq c1)
    have g3 : zs_in (t_2).toInt 0 0 := (zs_eql 0 0 r2 pt_2 zlI_0 (by decide))
    obtain ⟨ret, er, hr⟩ := zc_496 h_σ h_x1 h_x2 zlI_0
    refine ⟨ret, er, ?_⟩
    exact hr
  · skip
    have r4 := (zs_I_eqn c1)
    have g5 : zs_in (t_2).toInt 1 1 := (zs_nel 1 1 r4 pt_2 zlI_0 (by decide))
    obtain ⟨ret, er, hr⟩ := zc_497 h_σ h_x1 h_x2 zlI_40
    refine ⟨ret, er, ?_⟩
    exact hr
-- BX1_goOn_87
theorem zc_499 {σ0 : sn_S} {σ : sn_S} (h_σ : zs_C σ0 σ) {x2 : Int32} (h_x2 : zs_in x2.toInt 0 5) {x4 : Int32} (h_x4 : zs_in x4.toInt 0 29) {x5 : Int32} (h_x5 : zs_in x5.toInt 0 29) {x6 : Int64} {x8 : Int32} (h_x8 : zs_in x8.toInt (-2147483648) 2147483646) {x9 : Int32} (h_x9 : zs_in x9.toInt 0 29) {c : Int} (hc : x9.toInt = c + 0) : zs_ok (BX1_goOn_87 σ 27 x2 x4 x5 x6 x8 x9) (fun r => zs_sum (fun v => ((zs_C σ0 v.1 ∧ (True ∧ (zs_in (v.2.2.1).toInt (-2147483648) 2147483646 ∧ zs_in (v.2.2.2).toInt 1 30)))) ∧ v.2.2.2.toInt = c + 1) (fun v => False) r) := by
  unfold BX1_goOn_87
  refine zs_lt (Q := fun z => zs_in z.toInt 1 30 ∧ z.toInt = c + 1) ⟨(zs_addI 1 30 h_x9 zlI_1 (by decide)), (zs_syI 1 hc h_x9 zlI_1 (by decide) (by decide))⟩ (fun y_1 hy_1 => ?_)
  exact zs_some (zs_inl ⟨⟨h_σ, ⟨trivial, ⟨h_x8, hy_1.1⟩⟩⟩, hy_1.2⟩)
-- BX1_goOn_87
theorem zc_500 {σ0 : sn_S} {σ : sn_S} (h_σ : zs_C σ0 σ) {x2 : Int32} (h_x2 : zs_in x2.toInt 0 5) {x4 : Int32} (h_x4 : zs_in x4.toInt 0 29) {x5 : Int32} (h_x5 : zs_in x5.toInt 0 29) {x6 : Int64} {x8 : Int32} {x9 : Int32} (h_x9 : zs_in x9.toInt 0 29) {c : Int} (hc : x9.toInt = c + 0) : zs_ok (BX1_goOn_87 σ 27 x2 x4 x5 x6 x8 x9) (fun r => zs_sum (fun v => ((zs_C σ0 v.1 ∧ (True ∧ (True ∧ zs_in (v.2.2.2).toInt 1 30)))) ∧ v.2.2.2.toInt = c + 1) (fun v => False) r) := by
  unfold BX1_goOn_87
  refine zs_lt (Q := fun z => zs_in z.toInt 1 30 ∧ z.toInt = c + 1) ⟨(zs_addI 1 30 h_x9 zlI_1 (by decide)), (zs_syI 1 hc h_x9 zlI_1 (by decide) (by decide))⟩ (fun y_1 hy_1 => ?_)
  exact zs_some (zs_inl ⟨⟨h_σ, ⟨trivial, ⟨trivial, hy_1.1⟩⟩⟩, hy_1.2⟩)
-- BX1_goOn_74
theorem zc_501 {σ0 : sn_S} {σ : sn_S} (h_σ : zs_C σ0 σ) {x2 : Int32} (h_x2 : zs_in x2.toInt 0 5) {x4 : Int32} (h_x4 : zs_in x4.toInt 0 29) {x5 : Int32} (h_x5 : zs_in x5.toInt 0 29) {x6 : Int64} {x8 : Int32} {x9 : Int32} (h_x9 : zs_in x9.toInt 0 29) {c : Int} (hc : x9.toInt = c + 0) : zs_ok (BX1_goOn_74 σ 27 x2 x4 x5 x6 x8 x9) (fun r => zs_sum (fun v => ((zs_C σ0 v.1 ∧ (True ∧ (True ∧ zs_in (v.2.2.2).toInt 1 30)))) ∧ v.2.2.2.toInt = c + 1) (fun v => False) r) := by
  unfold BX1_goOn_74
  refine zs_lt (Q := fun z => True) trivial (fun y_1 hy_1 => ?_)
  obtain ⟨ret, er, hr⟩ := zc_500 h_σ h_x2 h_x4 h_x5 h_x9 hc
  refine ⟨ret, er, ?_⟩
  exact (zs_sumw hr (fun v w => ⟨w.1, w.2⟩) (fun v w => w.elim))
-- BX1_goOn_87
theorem zc_502 {σ0 : sn_S} {σ : sn_S} (h_σ : zs_C σ0 σ) {x2 : Int32} (h_x2 : zs_in x2.toInt 0 5) {x4 : Int32} (h_x4 : zs_in x4.toInt 1 29) {x5 : Int32} (h_x5 : zs_in x5.toInt 0 29) {x6 : Int64} {x8 : Int32} {x9 : Int32} (h_x9 : zs_in x9.toInt 0 28) {c : Int} (hc : x9.toInt = c + 0) : zs_ok (BX1_goOn_87 σ 27 x2 x4 x5 x6 x8 x9) (fun r => zs_sum (fun v => ((zs_C σ0 v.1 ∧ (True ∧ (True ∧ zs_in (v.2.2.2).toInt 1 29)))) ∧ v.2.2.2.toInt = c + 1) (fun v => False) r) := by
  unfold BX1_goOn_87
  refine zs_lt (Q := fun z => zs_in z.toInt 1 29 ∧ z.toInt = c + 1) ⟨(zs_addI 1 29 h_x9 zlI_1 (by decide)), (zs_syI 1 hc h_x9 zlI_1 (by decide) (by decide))⟩ (fun y_1 hy_1 => ?_)
  exact zs_some (zs_inl ⟨⟨h_σ, ⟨trivial, ⟨trivial, hy_1.1⟩⟩⟩, hy_1.2⟩)
-- BX1_goOn_74
theorem zc_503 {σ0 : sn_S} {σ : sn_S} (h_σ : zs_C σ0 σ) {x2 : Int32} (h_x2 : zs_in x2.toInt 0 5) {x4 : Int32} (h_x4 : zs_in x4.toInt 1 29) {x5 : Int32} (h_x5 : zs_in x5.toInt 0 29) {x6 : Int64} {x8 : Int32} {x9 : Int32} (h_x9 : zs_in x9.toInt 0 28) {c : Int} (hc : x9.toInt = c + 0) : zs_ok (BX1_goOn_74 σ 27 x2 x4 x5 x6 x8 x9) (fun r => zs_sum (fun v => ((zs_C σ0 v.1 ∧ (True ∧ (True ∧ zs_in (v.2.2.2).toInt 1 29)))) ∧ v.2.2.2.toInt = c + 1) (fun v => False) r) := by
  unfold BX1_goOn_74
  refine zs_lt (Q := fun z => True) trivial (fun y_1 hy_1 => ?_)
  obtain ⟨ret, er, hr⟩ := zc_502 h_σ h_x2 h_x4 h_x5 h_x9 hc
  refine ⟨ret, er, ?_⟩
  exact (zs_sumw hr (fun v w => ⟨w.1, w.2⟩) (fun v w => w.elim))
-- BX1_goOn_14
theorem zc_504 {σ0 : sn_S} {σ : sn_S} (h_σ : zs_C σ0 σ) {x2 : Int32} (h_x2 : zs_in x2.toInt 0 5) {x4 : Int32} (h_x4 : zs_in x4.toInt 0 29) {x5 : Int32} (h_x5 : zs_in x5.toInt (-2147483648) 29) {x6 : Int64} {x8 : Int32} {x9 : Int32} (h_x9 : zs_in x9.toInt 0 30) {c : Int} (hc : x9.toInt = c + 0) : zs_ok (BX1_goOn_14 σ 27 x2 x4 x5 x6 x8 x9) (fun r => zs_sum (fun v => ((zs_C σ0 v.1 ∧ (True ∧ (True ∧ zs_in (v.2.2.2).toInt 1 30)))) ∧ v.2.2.2.toInt = c + 1) (fun v => (zs_C σ0 v.1 ∧ True)) r) := by
  unfold BX1_goOn_14
  refine zs_ite (fun c1 => ?_) (fun c1 => ?_)
  · skip
    have r2 := (zs_I_lt c1)
    exact zs_some (zs_inr (⟨h_σ, trivial⟩))
  · skip
    have r3 := (zs_I_ltn c1)
    have g4 : zs_in (x9).toInt 0 29 := (zs_lel 0 29 r3 h_x9 h_x5 (by decide))
    have g5 : zs_in (x5).toInt 0 29 := (zs_ler 0 29 r3 h_x9 h_x5 (by decide))
    refine zs_bd_ (zc_498 h_σ h_x2 g4) (fun t_2 pt_2 => ?_)
    refine zs_lt (Q := fun z => True) trivial (fun y_4 hy_4 => ?_)
    refine zs_gd (zs_gin h_x2 (by decide)) ?_
    refine zs_ite (fun c6 => ?_) (fun c6 => ?_)
    · skip
      have r7 := (zs_I_lt c6)
      have g8 : zs_in (y_4).toInt (-2147483648) 2147483646 := (zs_ltl (-2147483648) 2147483646 r7 (zs_topI _) (zs_topI _) (by decide))
      have g9 : zs_in ((sn_I σ (27 + 3) x2.toNatClampNeg)).toInt (-2147483647) 2147483647 := (zs_ltr (-2147483647) 2147483647 r7 (zs_topI _) (zs_topI _) (by decide))
      obtain ⟨ret, er, hr⟩ := zc_499 h_σ h_x2 h_x4 g5 g8 g4 hc
      refine ⟨ret, er, ?_⟩
      exact (zs_sumw hr (fun v w => ⟨⟨w.1.1, ⟨w.1.2.1, ⟨trivial, w.1.2.2.2⟩⟩⟩, w.2⟩) (fun v w => w.elim))
    · skip
      have r10 := (zs_I_ltn c6)
      refine zs_ite (fun c11 => ?_) (fun c11 => ?_)
      · skip
        have r12 := (zs_I_le c11)
        obtain ⟨ret, er, hr⟩ := zc_501 h_σ h_x2 h_x4 g5 g4 hc
        refine ⟨ret, er, ?_⟩
        exact (zs_sumw hr (fun v w => ⟨w.1, w.2⟩) (fun v w => w.elim))
      · skip
        have r13 := (zs_I_len c11)
        have g14 : zs_in (x9).toInt 0 28 := (zs_ltl 0 28 r13 g4 h_x4 (by decide))
        have g15 : zs_in (x4).toInt 1 29 := (zs_ltr 1 29 r13 g4 h_x4 (by decide))
        refine zs_gd (zs_gin (zs_addI 1 29 g14 zlI_1 (by decide)) (by decide)) ?_
        refine zs_lt (Q := fun z => True) trivial (fun y_10 hy_10 => ?_)
        refine zs_gd (zs_gin (zs_addI 1 29 g14 zlI_1 (by decide)) (by decide)) ?_
        refine zs_lt (Q := fun z => zs_C σ0 z) (zs_wrL h_σ rfl) (fun σ_13 hσ_13 => ?_)
        obtain ⟨ret, er, hr⟩ := zc_503 hσ_13 h_x2 g15 g5 g14 hc
        refine ⟨ret, er, ?_⟩
        exact (zs_sumw hr (fun v w => ⟨⟨w.1.1, ⟨w.1.2.1, ⟨w.1.2.2.1, (zs_w w.1.2.2.2 (by decide))⟩⟩⟩, w.2⟩) (fun v w => w.elim))
theorem zd_88 {σ0 : sn_S} {x2 : Int32} (h_x2 : zs_in x2.toInt 0 5) {x4 : Int32} (h_x4 : zs_in x4.toInt 0 29) {x5 : Int32} (h_x5 : zs_in x5.toInt (-2147483648) 29) {s0 : (sn_S × (Int64 × (Int32 × Int32)))} (h0 : (zs_C σ0 s0.1 ∧ (True ∧ (True ∧ zs_in (s0.2.2.2).toInt 0 30)))) : zs_ok (sn_it (LX1_goOn_14 27 x2 x4 x5) 5000 s0) (fun t => (zs_C σ0 t.1 ∧ True)) := by
  refine zs_it (I := fun s => (zs_C σ0 s.1 ∧ (True ∧ (True ∧ zs_in (s.2.2.2).toInt 0 30)))) (m := fun s => 30 - s.2.2.2.toInt) (fun s hs => ?_) (fun s hs => ?_) (by exact h0)
  · have h1 := hs.2.2.2; unfold zs_in at h1
    omega
  · obtain ⟨b, eb, hb⟩ := zc_504 hs.1 h_x2 h_x4 h_x5 hs.2.2.2 (c := s.2.2.2.toInt) (Int.add_zero _).symm
    exact ⟨b, eb, zs_sumw hb (fun v w => ⟨⟨w.1.1, ⟨w.1.2.1, ⟨w.1.2.2.1, (zs_w w.1.2.2.2 (by decide))⟩⟩⟩, by have := w.2; omega⟩) (fun v w => w)⟩
-- BX1_goOn_93
theorem zc_505 {σ0 : sn_S} {σ : sn_S} (h_σ : zs_C σ0 σ) {x6 : Int64} : zs_ok (BX1_goOn_93 σ 27 x6) (fun r => zs_C σ0 r) := by
  unfold BX1_goOn_93
  refine zs_lt (Q := fun z => True) trivial (fun y_1 hy_1 => ?_)
  refine zs_lt (Q := fun z => zs_C σ0 z) (zs_wrL h_σ rfl) (fun σ_3 hσ_3 => ?_)
  exact zs_some hσ_3
-- fX1_goOn
theorem zc_506 {σ0 : sn_S} {σ : sn_S} (h_σ : zs_C σ0 σ) {x2 : Int32} (h_x2 : zs_in x2.toInt 0 5) {x3 : Int32} (h_x3 : zs_in x3.toInt 0 29) {x4 : Int32} (h_x4 : zs_in x4.toInt 0 29) {x5 : Int32} (h_x5 : zs_in x5.toInt (-2147483648) 29) : zs_ok (fX1_goOn σ 27 x2 x3 x4 x5) (fun r => zs_C σ0 r) := by
  unfold fX1_goOn
  refine zs_gd (zs_gin h_x3 (by decide)) ?_
  refine zs_lt (Q := fun z => True) trivial (fun y_2 hy_2 => ?_)
  refine zs_bd_ (zd_88 h_x2 h_x4 h_x5 (s0 := (σ, (y_2, ((0 : Int32), x3)))) ⟨h_σ, ⟨trivial, ⟨trivial, (zs_w h_x3 (by decide))⟩⟩⟩) (fun t_4 pt_4 => ?_)
  obtain ⟨ret, er, hr⟩ := zc_505 pt_4.1
  refine ⟨ret, er, ?_⟩
  exact hr
-- BX1_reckon_65
theorem zc_507 {σ0 : sn_S} {σ : sn_S} (h_σ : zs_C σ0 σ) {x3 : Int32} (h_x3 : zs_in x3.toInt 0 5) [zs_Ws σ0 x3] {x4 : Int32} (h_x4 : zs_in x4.toInt (-2147483648) 29) {x5 : Int32} (h_x5 : zs_in x5.toInt (-2147483648) 29) {x6 : Int32} (h_x6 : zs_in x6.toInt 0 30) {c : Int} (hc : x6.toInt = c + 0) : zs_ok (BX1_reckon_65 σ 1 27 x3 x4 x5 x6) (fun r => zs_sum (fun v => ((zs_C σ0 v.1 ∧ zs_in (v.2).toInt 1 30)) ∧ v.2.toInt = c + 1) (fun v => zs_C σ0 v) r) := by
  unfold BX1_reckon_65
  refine zs_ite (fun c1 => ?_) (fun c1 => ?_)
  · skip
    have r2 := (zs_I_lt c1)
    exact zs_some (zs_inr (h_σ))
  · skip
    have r3 := (zs_I_ltn c1)
    have g4 : zs_in (x6).toInt 0 29 := (zs_lel 0 29 r3 h_x6 h_x4 (by decide))
    have g5 : zs_in (x4).toInt 0 29 := (zs_ler 0 29 r3 h_x6 h_x4 (by decide))
    refine zs_gd (zs_gin g4 (by decide)) ?_
    refine zs_ite (fun c6 => ?_) (fun c6 => ?_)
    · skip
      have r7 := (zs_lg_eq c6)
      have g8 : zs_in ((sn_L σ 53 x6.toNatClampNeg)).toInt 4611686018427387904 4611686018427387904 := (zs_eql 4611686018427387904 4611686018427387904 r7 (zs_topL _) zlL_4611686018427387904 (by decide))
      obtain ⟨ret, er, hr⟩ := zc_495 h_σ h_x3 g5 h_x5 g4 hc
      refine ⟨ret, er, ?_⟩
      exact (zs_sumw hr (fun v w => ⟨w.1, w.2⟩) (fun v w => w.elim))
    · skip
      have r9 := (zs_lg_eqn c6)
      refine zs_bd_ (zo_whose h_σ h_x3) (fun t_4 pt_4 => ?_)
      refine zs_bd_ (zc_506 h_σ pt_4 g4 g5 h_x5) (fun t_6 pt_6 => ?_)
      obtain ⟨ret, er, hr⟩ := zc_495 pt_6 h_x3 g5 h_x5 g4 hc
      refine ⟨ret, er, ?_⟩
      exact (zs_sumw hr (fun v w => ⟨w.1, w.2⟩) (fun v w => w.elim))
theorem zd_89 {σ0 : sn_S} {x3 : Int32} (h_x3 : zs_in x3.toInt 0 5) [zs_Ws σ0 x3] {x4 : Int32} (h_x4 : zs_in x4.toInt (-2147483648) 29) {x5 : Int32} (h_x5 : zs_in x5.toInt (-2147483648) 29) {s0 : (sn_S × Int32)} (h0 : (zs_C σ0 s0.1 ∧ zs_in (s0.2).toInt 0 30)) : zs_ok (sn_it (LX1_reckon_65 1 27 x3 x4 x5) 5000 s0) (fun t => zs_C σ0 t) := by
  refine zs_it (I := fun s => (zs_C σ0 s.1 ∧ zs_in (s.2).toInt 0 30)) (m := fun s => 30 - s.2.toInt) (fun s hs => ?_) (fun s hs => ?_) (by exact h0)
  · have h1 := hs.2; unfold zs_in at h1
    omega
  · obtain ⟨b, eb, hb⟩ := zc_507 hs.1 h_x3 h_x4 h_x5 hs.2 (c := s.2.toInt) (Int.add_zero _).symm
    exact ⟨b, eb, zs_sumw hb (fun v w => ⟨⟨w.1.1, (zs_w w.1.2 (by decide))⟩, by have := w.2; omega⟩) (fun v w => w)⟩
-- BX1_reckon_109
theorem zc_508 {σ0 : sn_S} {σ : sn_S} (h_σ : zs_C σ0 σ) : zs_ok (BX1_reckon_109 σ 1 27) (fun r => zs_C σ0 r) := by
  unfold BX1_reckon_109
  exact zs_some h_σ
-- fX1_reckon
theorem zc_509 {σ0 : sn_S} {σ : sn_S} (h_σ : zs_C σ0 σ) {x3 : Int32} (h_x3 : zs_in x3.toInt 0 5) [zs_Ws σ0 x3] : zs_ok (fX1_reckon σ 1 27 x3) (fun r => zs_C σ0 r) := by
  unfold fX1_reckon
  refine zs_bd_ (zc_490 h_σ h_x3 zlI_1) (fun t_1 pt_1 => ?_)
  refine zs_bd_ (zc_491 h_σ h_x3 zlI_2) (fun t_3 pt_3 => ?_)
  refine zs_lt (Q := fun z => zs_in z.toInt (-2147483648) 29) (zs_min (-2147483648) 29 (zs_subI (-1) 29 (zs_rdk (q := 27) (k := 0) (z := (0, 30)) h_σ.1 rfl) zlI_1 (by decide)) (zs_topI _) (by decide)) (fun y_5 hy_5 => ?_)
  refine zs_lt (Q := fun z => zs_C σ0 z) (zs_wrL h_σ rfl) (fun σ_7 hσ_7 => ?_)
  refine zs_ite (fun c1 => ?_) (fun c1 => ?_)
  · skip
    have r2 := (zs_I_le c1)
    have g3 : zs_in (t_1).toInt (-2147483648) 29 := (zs_lel (-2147483648) 29 r2 (zs_topI _) hy_5 (by decide))
    refine zs_lt (Q := fun z => zs_C σ0 z) (zs_wrL hσ_7 rfl) (fun σ_10 hσ_10 => ?_)
    refine zs_bd_ (zc_494 hσ_10 zlL_4611686018427387904) (fun t_12 pt_12 => ?_)
    refine zs_gd (zs_gin zlI_0 (by decide)) ?_
    refine zs_lt (Q := fun z => zs_C σ0 z) (zs_wrL pt_12 rfl) (fun σ_15 hσ_15 => ?_)
    refine zs_bd_ (zd_89 h_x3 g3 hy_5 (s0 := (σ_15, (0 : Int32))) ⟨hσ_15, (zs_w zlI_0 (by decide))⟩) (fun t_17 pt_17 => ?_)
    obtain ⟨ret, er, hr⟩ := zc_508 pt_17
    refine ⟨ret, er, ?_⟩
    exact hr
  · skip
    have r4 := (zs_I_len c1)
    have g5 : zs_in (t_1).toInt (-2147483647) 2147483647 := (zs_ltr (-2147483647) 2147483647 r4 hy_5 (zs_topI _) (by decide))
    exact zs_some hσ_7
-- fX1_fewest
theorem zc_510 {σ0 : sn_S} {σ : sn_S} (h_σ : zs_C σ0 σ) : zs_ok (fX1_fewest σ) (fun r => True) := by
  unfold fX1_fewest
  exact zs_some trivial
-- fX8_hold
theorem zc_511 {σ0 : sn_S} {σ : sn_S} (h_σ : zs_C σ0 σ) {x1 : Int32} : zs_ok (fX8_hold σ x1) (fun r => ((True ∧ zs_C σ0 r.2)) ∧ ((r.1).toInt = (-2) ∨ (zs_in (x1).toInt 0 5))) := by
  unfold fX8_hold
  refine zs_bd_ (zo_isPolicy h_σ) (fun t_1 pt_1 => ?_)
  refine zs_ite (fun c1 => ?_) (fun c1 => ?_)
  · skip
    have r2 := (zs_I_eq c1)
    have g3 : zs_in (t_1).toInt 0 0 := (zs_eql 0 0 r2 pt_1.1 zlI_0 (by decide))
    exact zs_some ⟨⟨trivial, h_σ⟩, Or.inl (zs_ptr zlI_m2)⟩
  · skip
    have r4 := (zs_I_eqn c1)
    have g5 : zs_in (t_1).toInt 1 1 := (zs_nel 1 1 r4 pt_1.1 zlI_0 (by decide))
    have q6 := (zs_or2 pt_1.2.1 g5 (by decide))
    have g7 : zs_in (x1).toInt 0 5 := q6
    haveI := zs_or2 pt_1.2.2 g5 (by decide)
    refine zs_bd_ (zc_509 h_σ g7) (fun t_4 pt_4 => ?_)
    refine zs_bd_ (zc_510 pt_4) (fun t_6 pt_6 => ?_)
    exact zs_some ⟨⟨trivial, pt_4⟩, Or.inr g7⟩
-- BX9_layHolds_12
theorem zc_512 {σ0 : sn_S} {σ : sn_S} (h_σ : zs_M σ0 σ) {x1 : Int32} (h_x1 : zs_in x1.toInt 0 5) {x2 : Int32} (h_x2 : zs_in x2.toInt 0 31) {c : Int} (hc : x2.toInt = c + 0) : zs_ok (BX9_layHolds_12 σ x1 x2) (fun r => zs_sum (fun v => ((zs_M σ0 v.1 ∧ zs_in (v.2).toInt 1 31)) ∧ v.2.toInt = c + 1) (fun v => zs_M σ0 v) r) := by
  unfold BX9_layHolds_12
  refine zs_ite (fun c1 => ?_) (fun c1 => ?_)
  · skip
    have r2 := (zs_I_le c1)
    have g3 : zs_in (x2).toInt 31 31 := (zs_ler 31 31 r2 zlI_31 h_x2 (by decide))
    exact zs_some (zs_inr (h_σ))
  · skip
    have r4 := (zs_I_len c1)
    have g5 : zs_in (x2).toInt 0 30 := (zs_ltl 0 30 r4 h_x2 zlI_31 (by decide))
    refine zs_bd_ (zc_21 h_σ) (fun t_2 pt_2 => ?_)
    refine zs_gd (zs_gin (zs_addI 0 960 (zs_mulI 0 930 zlI_31 pt_2 (by decide)) g5 (by decide)) (by decide)) ?_
    refine zs_lt (Q := fun z => zs_M σ0 z) (zs_wrt h_σ (fun _ => rfl) (fun _ => rfl)) (fun σ_5 hσ_5 => ?_)
    refine zs_bd_ (zc_21 hσ_5) (fun t_7 pt_7 => ?_)
    refine zs_gd (zs_gin (zs_addI 0 960 (zs_mulI 0 930 zlI_31 pt_7 (by decide)) g5 (by decide)) (by decide)) ?_
    refine zs_lt (Q := fun z => zs_M σ0 z) (zs_wrt hσ_5 (fun _ => rfl) (fun _ => rfl)) (fun σ_10 hσ_10 => ?_)
    refine zs_lt (Q := fun z => zs_in z.toInt 1 31 ∧ z.toInt = c + 1) ⟨(zs_addI 1 31 g5 zlI_1 (by decide)), (zs_syI 1 hc g5 zlI_1 (by decide) (by decide))⟩ (fun y_12 hy_12 => ?_)
    exact zs_some (zs_inl ⟨⟨hσ_10, hy_12.1⟩, hy_12.2⟩)
theorem zd_90 {σ0 : sn_S} {x1 : Int32} (h_x1 : zs_in x1.toInt 0 5) {s0 : (sn_S × Int32)} (h0 : (zs_M σ0 s0.1 ∧ zs_in (s0.2).toInt 0 31)) : zs_ok (sn_it (LX9_layHolds_12 x1) 5000 s0) (fun t => zs_M σ0 t) := by
  refine zs_it (I := fun s => (zs_M σ0 s.1 ∧ zs_in (s.2).toInt 0 31)) (m := fun s => 31 - s.2.toInt) (fun s hs => ?_) (fun s hs => ?_) (by exact h0)
  · have h1 := hs.2; unfold zs_in at h1
    omega
  · obtain ⟨b, eb, hb⟩ := zc_512 hs.1 h_x1 hs.2 (c := s.2.toInt) (Int.add_zero _).symm
    exact ⟨b, eb, zs_sumw hb (fun v w => ⟨⟨w.1.1, (zs_w w.1.2 (by decide))⟩, by have := w.2; omega⟩) (fun v w => w)⟩
-- BX9_tickleSince_6
theorem zc_513 {σ0 : sn_S} {σ : sn_S} (h_σ : zs_M σ0 σ) {x1 : Int32} (h_x1 : zs_in x1.toInt 0 5) {x3 : Int32} (h_x3 : zs_in x3.toInt 0 29) {x4 : Int32} {x5 : Int32} (h_x5 : zs_in x5.toInt 0 30) {c : Int} (hc : x5.toInt = c + 0) : zs_ok (BX9_tickleSince_6 σ x1 x3 x4 x5) (fun r => zs_sum (fun v => ((True ∧ zs_in (v.2).toInt 1 30)) ∧ v.2.toInt = c + 1) (fun v => True) r) := by
  unfold BX9_tickleSince_6
  refine zs_ite (fun c1 => ?_) (fun c1 => ?_)
  · skip
    have r2 := (zs_I_lt c1)
    have g3 : zs_in (x5).toInt 1 30 := (zs_ltr 1 30 r2 h_x3 h_x5 (by decide))
    exact zs_some (zs_inr (trivial))
  · skip
    have r4 := (zs_I_ltn c1)
    have g5 : zs_in (x5).toInt 0 29 := (zs_lel 0 29 r4 h_x5 h_x3 (by decide))
    refine zs_gd (zs_gin (zs_addI 0 179 (zs_mulI 0 174 zlI_6 g5 (by decide)) h_x1 (by decide)) (by decide)) ?_
    refine zs_lt (Q := fun z => True) trivial (fun y_3 hy_3 => ?_)
    refine zs_lt (Q := fun z => zs_in z.toInt 1 30 ∧ z.toInt = c + 1) ⟨(zs_addI 1 30 g5 zlI_1 (by decide)), (zs_syI 1 hc g5 zlI_1 (by decide) (by decide))⟩ (fun y_5 hy_5 => ?_)
    exact zs_some (zs_inl ⟨⟨trivial, hy_5.1⟩, hy_5.2⟩)
theorem zd_91 {σ0 : sn_S} {σ : sn_S} (h_σ : zs_M σ0 σ) {x1 : Int32} (h_x1 : zs_in x1.toInt 0 5) {x3 : Int32} (h_x3 : zs_in x3.toInt 0 29) {s0 : (Int32 × Int32)} (h0 : (True ∧ zs_in (s0.2).toInt 0 30)) : zs_ok (sn_it (LX9_tickleSince_6 σ x1 x3) 5000 s0) (fun t => True) := by
  refine zs_it (I := fun s => (True ∧ zs_in (s.2).toInt 0 30)) (m := fun s => 30 - s.2.toInt) (fun s hs => ?_) (fun s hs => ?_) (by exact h0)
  · have h1 := hs.2; unfold zs_in at h1
    omega
  · obtain ⟨b, eb, hb⟩ := zc_513 h_σ h_x1 h_x3 hs.2 (c := s.2.toInt) (Int.add_zero _).symm
    exact ⟨b, eb, zs_sumw hb (fun v w => ⟨⟨w.1.1, (zs_w w.1.2 (by decide))⟩, by have := w.2; omega⟩) (fun v w => w)⟩
-- BX9_tickleSince_35
theorem zc_514 {σ0 : sn_S} {σ : sn_S} (h_σ : zs_M σ0 σ) {x4 : Int32} : zs_ok (BX9_tickleSince_35 σ x4) (fun r => True) := by
  unfold BX9_tickleSince_35
  exact zs_some trivial
-- fX9_tickleSince
theorem zc_515 {σ0 : sn_S} {σ : sn_S} (h_σ : zs_M σ0 σ) {x1 : Int32} (h_x1 : zs_in x1.toInt 0 5) {x2 : Int32} (h_x2 : zs_in x2.toInt 0 29) {x3 : Int32} (h_x3 : zs_in x3.toInt 0 29) : zs_ok (fX9_tickleSince σ x1 x2 x3) (fun r => True) := by
  unfold fX9_tickleSince
  refine zs_bd_ (zd_91 h_σ h_x1 h_x3 (s0 := ((0 : Int32), x2)) ⟨trivial, (zs_w h_x2 (by decide))⟩) (fun t_1 pt_1 => ?_)
  obtain ⟨ret, er, hr⟩ := zc_514 h_σ
  refine ⟨ret, er, ?_⟩
  exact hr
-- BX9_layHold_185
theorem zc_516 {σ0 : sn_S} {σ : sn_S} (h_σ : zs_M σ0 σ) {x5 : Int32} (h_x5 : zs_in x5.toInt 0 928) {x7 : Int32} (h_x7 : zs_in x7.toInt 32 960) {t0 : Int32} (h_t0 : zs_in t0.toInt 1 1) : zs_ok (BX9_layHold_185 σ x5 x7 t0) (fun r => zs_M σ0 r) := by
  unfold BX9_layHold_185
  obtain rfl : t0 = (1 : Int32) := zs_eqv h_t0 (by decide)
  refine zs_ite (fun c1 => ?_) (fun c1 => ?_)
  · skip
    have r2 := (zs_I_eq c1)
    exact (zs_botr r2 h_t0 zlI_0 (by decide)).elim
  · skip
    have r3 := (zs_I_eqn c1)
    refine zs_gd (zs_gin h_x7 (by decide)) ?_
    refine zs_gd (zs_gin h_x5 (by decide)) ?_
    refine zs_lt (Q := fun z => zs_M σ0 z) (zs_wrt h_σ (fun _ => rfl) (fun _ => rfl)) (fun σ_4 hσ_4 => ?_)
    refine zs_gd (zs_gin h_x7 (by decide)) ?_
    refine zs_gd (zs_gin h_x5 (by decide)) ?_
    refine zs_lt (Q := fun z => zs_M σ0 z) (zs_wrt hσ_4 (fun _ => rfl) (fun _ => rfl)) (fun σ_8 hσ_8 => ?_)
    exact zs_some hσ_8
-- BX9_layHold_180
theorem zc_517 {σ0 : sn_S} {σ : sn_S} (h_σ : zs_M σ0 σ) {x5 : Int32} (h_x5 : zs_in x5.toInt 0 928) {x7 : Int32} (h_x7 : zs_in x7.toInt 32 960) : zs_ok (BX9_layHold_180 σ x5 x7) (fun r => zs_M σ0 r) := by
  unfold BX9_layHold_180
  obtain ⟨ret, er, hr⟩ := zc_516 h_σ h_x5 h_x7 zlI_1
  refine ⟨ret, er, ?_⟩
  exact hr
-- BX9_layHold_185
theorem zc_518 {σ0 : sn_S} {σ : sn_S} (h_σ : zs_M σ0 σ) {x5 : Int32} (h_x5 : zs_in x5.toInt 0 928) {x7 : Int32} (h_x7 : zs_in x7.toInt 32 960) {t0 : Int32} (h_t0 : zs_in t0.toInt 0 0) : zs_ok (BX9_layHold_185 σ x5 x7 t0) (fun r => zs_M σ0 r) := by
  unfold BX9_layHold_185
  obtain rfl : t0 = (0 : Int32) := zs_eqv h_t0 (by decide)
  refine zs_ite (fun c1 => ?_) (fun c1 => ?_)
  · skip
    have r2 := (zs_I_eq c1)
    exact zs_some h_σ
  · skip
    have r3 := (zs_I_eqn c1)
    exact (zs_botne r3 h_t0 zlI_0 (by decide)).elim
-- BX9_layHold_184
theorem zc_519 {σ0 : sn_S} {σ : sn_S} (h_σ : zs_M σ0 σ) {x5 : Int32} (h_x5 : zs_in x5.toInt 0 928) {x7 : Int32} (h_x7 : zs_in x7.toInt 32 960) : zs_ok (BX9_layHold_184 σ x5 x7) (fun r => zs_M σ0 r) := by
  unfold BX9_layHold_184
  obtain ⟨ret, er, hr⟩ := zc_518 h_σ h_x5 h_x7 zlI_0
  refine ⟨ret, er, ?_⟩
  exact hr
-- fX9_layHold
theorem zc_520 {σ0 : sn_S} {σ : sn_S} (h_σ : zs_M σ0 σ) {x1 : Int32} (h_x1 : zs_in x1.toInt 0 5) {x2 : Int32} (h_x2 : zs_in x2.toInt 0 1073741823) {x3 : Int32} (h_x3 : zs_in x3.toInt 0 29) {x4 : Int32} (h_x4 : zs_in x4.toInt 0 29) : zs_ok (fX9_layHold σ x1 x2 x3 x4) (fun r => zs_M σ0 r) := by
  unfold fX9_layHold
  refine zs_lt (Q := fun z => zs_in z.toInt 0 928) (zs_addI 0 928 (zs_mulI 0 899 zlI_31 h_x3 (by decide)) h_x4 (by decide)) (fun y_1 hy_1 => ?_)
  refine zs_lt (Q := fun z => zs_in z.toInt 31 959) (zs_addI 31 959 (zs_mulI 31 930 zlI_31 (zs_addI 1 30 h_x3 zlI_1 (by decide)) (by decide)) h_x4 (by decide)) (fun y_3 hy_3 => ?_)
  refine zs_gd (zs_gin hy_3 (by decide)) ?_
  refine zs_gd (zs_gin hy_1 (by decide)) ?_
  refine zs_lt (Q := fun z => zs_M σ0 z) (zs_wrt h_σ (fun _ => rfl) (fun _ => rfl)) (fun σ_7 hσ_7 => ?_)
  refine zs_gd (zs_gin hy_3 (by decide)) ?_
  refine zs_gd (zs_gin hy_1 (by decide)) ?_
  refine zs_lt (Q := fun z => zs_M σ0 z) (zs_wrt hσ_7 (fun _ => rfl) (fun _ => rfl)) (fun σ_11 hσ_11 => ?_)
  refine zs_bd_ (zc_515 hσ_11 h_x1 h_x4 h_x3) (fun t_13 pt_13 => ?_)
  refine zs_gd (zs_gin (zs_addI 12 22 (zs_addI 11 21 zlI_11 (zs_mulI 0 10 zlI_2 h_x1 (by decide)) (by decide)) zlI_1 (by decide)) (by decide)) ?_
  refine zs_ite (fun c1 => ?_) (fun c1 => ?_)
  · skip
    have r2 := (zs_I_le c1)
    have g3 : zs_in (t_13).toInt 0 2147483647 := (zs_ler 0 2147483647 r2 (zs_rdb (q := 1) (lo := 0) (hi := 99) hσ_11.1 (zs_cases h_x1 (fun z => zs_bd (zs_tM 1 (((11 : Int32) + ((2 : Int32) * z)) + (1 : Int32)).toNatClampNeg) 0 99) (by decide +kernel))) (zs_topI _) (by decide))
    refine zs_gd (zs_gin hy_3 (by decide)) ?_
    refine zs_gd (zs_gin hy_1 (by decide)) ?_
    refine zs_lt (Q := fun z => zs_M σ0 z) (zs_wrt hσ_11 (fun _ => rfl) (fun _ => rfl)) (fun σ_19 hσ_19 => ?_)
    refine zs_gd (zs_gin hy_3 (by decide)) ?_
    refine zs_gd (zs_gin hy_1 (by decide)) ?_
    refine zs_lt (Q := fun z => zs_M σ0 z) (zs_wrt hσ_19 (fun _ => rfl) (fun _ => rfl)) (fun σ_23 hσ_23 => ?_)
    refine zs_bd_ (zc_181 h_x2 h_x3) (fun t_25 pt_25 => ?_)
    refine zs_ite (fun c4 => ?_) (fun c4 => ?_)
    · skip
      have r5 := (zs_I_eq c4)
      have g6 : zs_in (t_25).toInt 1 1 := (zs_eql 1 1 r5 pt_25 zlI_1 (by decide))
      exact zs_some hσ_23
    · skip
      have r7 := (zs_I_eqn c4)
      have g8 : zs_in (t_25).toInt 0 0 := (zs_neh 0 0 r7 pt_25 zlI_1 (by decide))
      refine zs_lt (Q := fun z => zs_in z.toInt 32 960) (zs_addI 32 960 (zs_addI 31 959 (zs_mulI 31 930 zlI_31 (zs_addI 1 30 h_x3 zlI_1 (by decide)) (by decide)) h_x3 (by decide)) zlI_1 (by decide)) (fun y_28 hy_28 => ?_)
      refine zs_gd (zs_gin hy_28 (by decide)) ?_
      refine zs_gd (zs_gin hy_1 (by decide)) ?_
      refine zs_ite (fun c9 => ?_) (fun c9 => ?_)
      · skip
        have r10 := (zs_I_lt c9)
        have g11 : zs_in ((sn_I σ_23 17 y_28.toNatClampNeg)).toInt (-2147483648) 2147483646 := (zs_ltl (-2147483648) 2147483646 r10 (zs_topI _) (zs_topI _) (by decide))
        have g12 : zs_in ((sn_I σ_23 17 y_1.toNatClampNeg)).toInt (-2147483647) 2147483647 := (zs_ltr (-2147483647) 2147483647 r10 (zs_topI _) (zs_topI _) (by decide))
        obtain ⟨ret, er, hr⟩ := zc_517 hσ_23 hy_1 hy_28
        refine ⟨ret, er, ?_⟩
        exact hr
      · skip
        have r13 := (zs_I_ltn c9)
        refine zs_gd (zs_gin hy_28 (by decide)) ?_
        refine zs_gd (zs_gin hy_1 (by decide)) ?_
        refine zs_ite (fun c14 => ?_) (fun c14 => ?_)
        · skip
          have r15 := (zs_I_eq c14)
          refine zs_gd (zs_gin hy_28 (by decide)) ?_
          refine zs_gd (zs_gin hy_1 (by decide)) ?_
          refine zs_ite (fun c16 => ?_) (fun c16 => ?_)
          · skip
            have r17 := (zs_I_le c16)
            obtain ⟨ret, er, hr⟩ := zc_519 hσ_23 hy_1 hy_28
            refine ⟨ret, er, ?_⟩
            exact hr
          · skip
            have r18 := (zs_I_len c16)
            have g19 : zs_in ((sn_I σ_23 18 y_28.toNatClampNeg)).toInt (-2147483648) 2147483646 := (zs_ltl (-2147483648) 2147483646 r18 (zs_topI _) (zs_topI _) (by decide))
            have g20 : zs_in ((sn_I σ_23 18 y_1.toNatClampNeg)).toInt (-2147483647) 2147483647 := (zs_ltr (-2147483647) 2147483647 r18 (zs_topI _) (zs_topI _) (by decide))
            obtain ⟨ret, er, hr⟩ := zc_517 hσ_23 hy_1 hy_28
            refine ⟨ret, er, ?_⟩
            exact hr
        · skip
          have r21 := (zs_I_eqn c14)
          obtain ⟨ret, er, hr⟩ := zc_519 hσ_23 hy_1 hy_28
          refine ⟨ret, er, ?_⟩
          exact hr
  · skip
    have r22 := (zs_I_len c1)
    have g23 : zs_in (t_13).toInt (-2147483648) 98 := (zs_ltl (-2147483648) 98 r22 (zs_topI _) (zs_rdb (q := 1) (lo := 0) (hi := 99) hσ_11.1 (zs_cases h_x1 (fun z => zs_bd (zs_tM 1 (((11 : Int32) + ((2 : Int32) * z)) + (1 : Int32)).toNatClampNeg) 0 99) (by decide +kernel))) (by decide))
    exact zs_some hσ_11
-- BX9_layHolds_67
theorem zc_521 {σ0 : sn_S} {σ : sn_S} (h_σ : zs_M σ0 σ) {x1 : Int32} (h_x1 : zs_in x1.toInt 0 5) {x2 : Int32} (h_x2 : zs_in x2.toInt 0 29) {x3 : Int32} (h_x3 : zs_in x3.toInt 0 30) {c : Int} (hc : x3.toInt = c + 0) : zs_ok (BX9_layHolds_67 σ x1 x2 x3) (fun r => zs_sum (fun v => ((zs_M σ0 v.1 ∧ zs_in (v.2).toInt 1 30)) ∧ v.2.toInt = c + 1) (fun v => zs_M σ0 v) r) := by
  unfold BX9_layHolds_67
  refine zs_ite (fun c1 => ?_) (fun c1 => ?_)
  · skip
    have r2 := (zs_I_lt c1)
    have g3 : zs_in (x3).toInt 1 30 := (zs_ltr 1 30 r2 h_x2 h_x3 (by decide))
    exact zs_some (zs_inr (h_σ))
  · skip
    have r4 := (zs_I_ltn c1)
    have g5 : zs_in (x3).toInt 0 29 := (zs_lel 0 29 r4 h_x3 h_x2 (by decide))
    refine zs_bd_ (zc_200 h_σ h_x1 zlI_0) (fun t_2 pt_2 => ?_)
    refine zs_bd_ (zc_205 h_σ h_x1) (fun t_4 pt_4 => ?_)
    refine zs_bd_ (zc_520 h_σ pt_2 pt_4 h_x2 g5) (fun t_6 pt_6 => ?_)
    refine zs_lt (Q := fun z => zs_in z.toInt 1 30 ∧ z.toInt = c + 1) ⟨(zs_addI 1 30 g5 zlI_1 (by decide)), (zs_syI 1 hc g5 zlI_1 (by decide) (by decide))⟩ (fun y_8 hy_8 => ?_)
    exact zs_some (zs_inl ⟨⟨pt_6, hy_8.1⟩, hy_8.2⟩)
theorem zd_92 {σ0 : sn_S} {x1 : Int32} (h_x1 : zs_in x1.toInt 0 5) {x2 : Int32} (h_x2 : zs_in x2.toInt 0 29) {s0 : (sn_S × Int32)} (h0 : (zs_M σ0 s0.1 ∧ zs_in (s0.2).toInt 0 30)) : zs_ok (sn_it (LX9_layHolds_67 x1 x2) 5000 s0) (fun t => zs_M σ0 t) := by
  refine zs_it (I := fun s => (zs_M σ0 s.1 ∧ zs_in (s.2).toInt 0 30)) (m := fun s => 30 - s.2.toInt) (fun s hs => ?_) (fun s hs => ?_) (by exact h0)
  · have h1 := hs.2; unfold zs_in at h1
    omega
  · obtain ⟨b, eb, hb⟩ := zc_521 hs.1 h_x1 h_x2 hs.2 (c := s.2.toInt) (Int.add_zero _).symm
    exact ⟨b, eb, zs_sumw hb (fun v w => ⟨⟨w.1.1, (zs_w w.1.2 (by decide))⟩, by have := w.2; omega⟩) (fun v w => w)⟩
-- BX9_layHolds_95
theorem zc_522 {σ0 : sn_S} {σ : sn_S} (h_σ : zs_M σ0 σ) {x1 : Int32} (h_x1 : zs_in x1.toInt 0 5) {x2 : Int32} (h_x2 : zs_in x2.toInt 0 29) {c : Int} (hc : x2.toInt = c + 0) : zs_ok (BX9_layHolds_95 σ x1 x2) (fun r => zs_sum (fun v => ((zs_M σ0 v.1 ∧ zs_in (v.2).toInt (-1) 28)) ∧ v.2.toInt = c + (-1)) (fun v => False) r) := by
  unfold BX9_layHolds_95
  refine zs_lt (Q := fun z => zs_in z.toInt (-1) 28 ∧ z.toInt = c + (-1)) ⟨(zs_addI (-1) 28 h_x2 zlI_m1 (by decide)), (zs_syI (-1) hc h_x2 zlI_m1 (by decide) (by decide))⟩ (fun y_1 hy_1 => ?_)
  exact zs_some (zs_inl ⟨⟨h_σ, hy_1.1⟩, hy_1.2⟩)
-- BX9_layHolds_61
theorem zc_523 {σ0 : sn_S} {σ : sn_S} (h_σ : zs_M σ0 σ) {x1 : Int32} (h_x1 : zs_in x1.toInt 0 5) {x2 : Int32} (h_x2 : zs_in x2.toInt (-1) 29) {c : Int} (hc : x2.toInt = c + 0) : zs_ok (BX9_layHolds_61 σ x1 x2) (fun r => zs_sum (fun v => ((zs_M σ0 v.1 ∧ zs_in (v.2).toInt (-1) 28)) ∧ v.2.toInt = c + (-1)) (fun v => zs_M σ0 v) r) := by
  unfold BX9_layHolds_61
  refine zs_ite (fun c1 => ?_) (fun c1 => ?_)
  · skip
    have r2 := (zs_I_lt c1)
    have g3 : zs_in (x2).toInt (-1) (-1) := (zs_ltl (-1) (-1) r2 h_x2 zlI_0 (by decide))
    exact zs_some (zs_inr (h_σ))
  · skip
    have r4 := (zs_I_ltn c1)
    have g5 : zs_in (x2).toInt 0 29 := (zs_ler 0 29 r4 zlI_0 h_x2 (by decide))
    refine zs_bd_ (zd_92 h_x1 g5 (s0 := (σ, (0 : Int32))) ⟨h_σ, (zs_w zlI_0 (by decide))⟩) (fun t_2 pt_2 => ?_)
    obtain ⟨ret, er, hr⟩ := zc_522 pt_2 h_x1 g5 hc
    refine ⟨ret, er, ?_⟩
    exact (zs_sumw hr (fun v w => ⟨w.1, w.2⟩) (fun v w => w.elim))
theorem zd_93 {σ0 : sn_S} {x1 : Int32} (h_x1 : zs_in x1.toInt 0 5) {s0 : (sn_S × Int32)} (h0 : (zs_M σ0 s0.1 ∧ zs_in (s0.2).toInt (-1) 29)) : zs_ok (sn_it (LX9_layHolds_61 x1) 5000 s0) (fun t => zs_M σ0 t) := by
  refine zs_it (I := fun s => (zs_M σ0 s.1 ∧ zs_in (s.2).toInt (-1) 29)) (m := fun s => s.2.toInt - (-1)) (fun s hs => ?_) (fun s hs => ?_) (by exact h0)
  · have h1 := hs.2; unfold zs_in at h1
    omega
  · obtain ⟨b, eb, hb⟩ := zc_523 hs.1 h_x1 hs.2 (c := s.2.toInt) (Int.add_zero _).symm
    exact ⟨b, eb, zs_sumw hb (fun v w => ⟨⟨w.1.1, (zs_w w.1.2 (by decide))⟩, by have := w.2; omega⟩) (fun v w => w)⟩
-- BX9_layHolds_101
theorem zc_524 {σ0 : sn_S} {σ : sn_S} (h_σ : zs_M σ0 σ) : zs_ok (BX9_layHolds_101 σ) (fun r => (zs_in (r.1).toInt 1 1 ∧ zs_M σ0 r.2)) := by
  unfold BX9_layHolds_101
  refine zs_gd (zs_b01 zlI_1 (by decide)) ?_
  exact zs_some ⟨zlI_1, h_σ⟩
-- BX9_layHolds_54
theorem zc_525 {σ0 : sn_S} {σ : sn_S} (h_σ : zs_M σ0 σ) {x1 : Int32} (h_x1 : zs_in x1.toInt 0 5) : zs_ok (BX9_layHolds_54 σ x1) (fun r => (zs_in (r.1).toInt 1 1 ∧ zs_M σ0 r.2)) := by
  unfold BX9_layHolds_54
  refine zs_bd_ (zc_21 h_σ) (fun t_1 pt_1 => ?_)
  refine zs_lt (Q := fun z => zs_in z.toInt (-1) 29) (zs_subI (-1) 29 pt_1 zlI_1 (by decide)) (fun y_3 hy_3 => ?_)
  refine zs_bd_ (zd_93 h_x1 (s0 := (σ, y_3)) ⟨h_σ, hy_3⟩) (fun t_5 pt_5 => ?_)
  obtain ⟨ret, er, hr⟩ := zc_524 pt_5
  refine ⟨ret, er, ?_⟩
  exact hr
-- fX9_layHolds
theorem zc_526 {σ0 : sn_S} {σ : sn_S} (h_σ : zs_M σ0 σ) {x1 : Int32} : zs_ok (fX9_layHolds σ x1) (fun r => ((zs_in (r.1).toInt 0 1 ∧ zs_M σ0 r.2)) ∧ ((r.1).toInt = 0 ∨ (zs_in (x1).toInt 0 5))) := by
  unfold fX9_layHolds
  refine zs_bd_ (zc_239 h_σ) (fun t_1 pt_1 => ?_)
  refine zs_ite (fun c1 => ?_) (fun c1 => ?_)
  · skip
    have r2 := (zs_I_eq c1)
    have g3 : zs_in (t_1.1).toInt 0 0 := (zs_eql 0 0 r2 pt_1.1.1 zlI_0 (by decide))
    refine zs_gd (zs_b01 zlI_0 (by decide)) ?_
    exact zs_some ⟨⟨(zs_w zlI_0 (by decide)), pt_1.1.2⟩, Or.inl (zs_ptr zlI_0)⟩
  · skip
    have r4 := (zs_I_eqn c1)
    have g5 : zs_in (t_1.1).toInt 1 1 := (zs_nel 1 1 r4 pt_1.1.1 zlI_0 (by decide))
    have q6 := (zs_or2 pt_1.2 g5 (by decide))
    have g7 : zs_in (x1).toInt 0 5 := q6
    refine zs_bd_ (zd_90 g7 (s0 := (t_1.2, (0 : Int32))) ⟨pt_1.1.2, (zs_w zlI_0 (by decide))⟩) (fun t_4 pt_4 => ?_)
    obtain ⟨ret, er, hr⟩ := zc_525 pt_4 g7
    refine ⟨ret, er, ?_⟩
    exact ⟨⟨(zs_w hr.1 (by decide)), hr.2⟩, Or.inr g7⟩
-- fX9_hold
theorem zc_527 {σ0 : sn_S} {σ : sn_S} (h_σ : zs_M σ0 σ) {x1 : Int32} : zs_ok (fX9_hold σ x1) (fun r => ((True ∧ zs_M σ0 r.2)) ∧ ((r.1).toInt = (-2) ∨ (zs_in (x1).toInt 0 5))) := by
  unfold fX9_hold
  refine zs_bd_ (zc_526 h_σ) (fun t_1 pt_1 => ?_)
  refine zs_ite (fun c1 => ?_) (fun c1 => ?_)
  · skip
    have r2 := (zs_I_eq c1)
    have g3 : zs_in (t_1.1).toInt 0 0 := (zs_eql 0 0 r2 pt_1.1.1 zlI_0 (by decide))
    exact zs_some ⟨⟨trivial, pt_1.1.2⟩, Or.inl (zs_ptr zlI_m2)⟩
  · skip
    have r4 := (zs_I_eqn c1)
    have g5 : zs_in (t_1.1).toInt 1 1 := (zs_nel 1 1 r4 pt_1.1.1 zlI_0 (by decide))
    have q6 := (zs_or2 pt_1.2 g5 (by decide))
    have g7 : zs_in (x1).toInt 0 5 := q6
    refine zs_gd (zs_gin zlI_0 (by decide)) ?_
    exact zs_some ⟨⟨trivial, pt_1.1.2⟩, Or.inr g7⟩
-- fX1_minutesHeld
theorem zc_528 {σ0 : sn_S} {σ : sn_S} (h_σ : zs_C σ0 σ) : zs_ok (fX1_minutesHeld σ) (fun r => True) := by
  unfold fX1_minutesHeld
  exact zs_some trivial
-- fX8_holds
theorem zc_529 {σ0 : sn_S} {σ : sn_S} (h_σ : zs_C σ0 σ) {x1 : Int32} : zs_ok (fX8_holds σ x1) (fun r => ((True ∧ zs_C σ0 r.2)) ∧ ((r.1).toInt = (-2) ∨ (zs_in (x1).toInt 0 5))) := by
  unfold fX8_holds
  refine zs_bd_ (zo_isPolicy h_σ) (fun t_1 pt_1 => ?_)
  refine zs_ite (fun c1 => ?_) (fun c1 => ?_)
  · skip
    have r2 := (zs_I_eq c1)
    have g3 : zs_in (t_1).toInt 0 0 := (zs_eql 0 0 r2 pt_1.1 zlI_0 (by decide))
    exact zs_some ⟨⟨trivial, h_σ⟩, Or.inl (zs_ptr zlI_m2)⟩
  · skip
    have r4 := (zs_I_eqn c1)
    have g5 : zs_in (t_1).toInt 1 1 := (zs_nel 1 1 r4 pt_1.1 zlI_0 (by decide))
    have q6 := (zs_or2 pt_1.2.1 g5 (by decide))
    have g7 : zs_in (x1).toInt 0 5 := q6
    haveI := zs_or2 pt_1.2.2 g5 (by decide)
    refine zs_bd_ (zc_509 h_σ g7) (fun t_4 pt_4 => ?_)
    refine zs_bd_ (zc_528 pt_4) (fun t_6 pt_6 => ?_)
    exact zs_some ⟨⟨trivial, pt_4⟩, Or.inr g7⟩
end
section
-- fX9_holds
theorem zc_530 {σ0 : sn_S} {σ : sn_S} (h_σ : zs_M σ0 σ) {x1 : Int32} : zs_ok (fX9_holds σ x1) (fun r => ((True ∧ zs_M σ0 r.2)) ∧ ((r.1).toInt = (-2) ∨ (zs_in (x1).toInt 0 5))) := by
  unfold fX9_holds
  refine zs_bd_ (zc_526 h_σ) (fun t_1 pt_1 => ?_)
  refine zs_ite (fun c1 => ?_) (fun c1 => ?_)
  · skip
    have r2 := (zs_I_eq c1)
    have g3 : zs_in (t_1.1).toInt 0 0 := (zs_eql 0 0 r2 pt_1.1.1 zlI_0 (by decide))
    exact zs_some ⟨⟨trivial, pt_1.1.2⟩, Or.inl (zs_ptr zlI_m2)⟩
  · skip
    have r4 := (zs_I_eqn c1)
    have g5 : zs_in (t_1.1).toInt 1 1 := (zs_nel 1 1 r4 pt_1.1.1 zlI_0 (by decide))
    have q6 := (zs_or2 pt_1.2 g5 (by decide))
    have g7 : zs_in (x1).toInt 0 5 := q6
    refine zs_gd (zs_gin zlI_0 (by decide)) ?_
    exact zs_some ⟨⟨trivial, pt_1.1.2⟩, Or.inr g7⟩
-- BX0_live_2
theorem zc_531 {σ0 : sn_S} {σ : sn_S} (h_σ : zs_C σ0 σ) {x1 : Int32} (h_x1 : zs_in x1.toInt 0 29) {x2 : Int32} (h_x2 : zs_in x2.toInt 0 30) {x3 : Int32} (h_x3 : zs_in x3.toInt 0 6) {c : Int} (hc : x3.toInt = c + 0) : zs_ok (BX0_live_2 σ 38 x1 x2 x3) (fun r => zs_sum (fun v => ((zs_C σ0 v.1 ∧ zs_in (v.2).toInt 1 6)) ∧ v.2.toInt = c + 1) (fun v => zs_C σ0 v) r) := by
  unfold BX0_live_2
  refine zs_ite (fun c1 => ?_) (fun c1 => ?_)
  · skip
    have r2 := (zs_I_le c1)
    exact zs_some (zs_inr (h_σ))
  · skip
    have r3 := (zs_I_len c1)
    have g4 : zs_in (x3).toInt 0 5 := (zs_ltl 0 5 r3 h_x3 (zs_rdk (q := 38) (k := 1) (z := (0, 6)) h_σ.1 rfl) (by decide))
    have g5 : zs_in ((sn_I σ 38 1)).toInt 1 6 := (zs_ltr 1 6 r3 h_x3 (zs_rdk (q := 38) (k := 1) (z := (0, 6)) h_σ.1 rfl) (by decide))
    refine zs_gd (zs_gin g4 (by decide)) ?_
    refine zs_bd_ (zc_187 h_x1) (fun t_3 pt_3 => ?_)
    refine zs_gd (zs_gin g4 (by decide)) ?_
    refine zs_lt (Q := fun z => zs_C σ0 z) (zs_wru (z := (0, 1073741823)) h_σ (fun _ => rfl) (zs_and pt_3 (by decide)) (by decide) (fun _ => rfl)) (fun σ_6 hσ_6 => ?_)
    refine zs_lt (Q := fun z => zs_in z.toInt 1 6 ∧ z.toInt = c + 1) ⟨(zs_addI 1 6 g4 zlI_1 (by decide)), (zs_syI 1 hc g4 zlI_1 (by decide) (by decide))⟩ (fun y_8 hy_8 => ?_)
    exact zs_some (zs_inl ⟨⟨hσ_6, hy_8.1⟩, hy_8.2⟩)
theorem zd_94 {σ0 : sn_S} {x1 : Int32} (h_x1 : zs_in x1.toInt 0 29) {x2 : Int32} (h_x2 : zs_in x2.toInt 0 30) {s0 : (sn_S × Int32)} (h0 : (zs_C σ0 s0.1 ∧ zs_in (s0.2).toInt 0 6)) : zs_ok (sn_it (LX0_live_2 38 x1 x2) 5000 s0) (fun t => zs_C σ0 t) := by
  refine zs_it (I := fun s => (zs_C σ0 s.1 ∧ zs_in (s.2).toInt 0 6)) (m := fun s => 6 - s.2.toInt) (fun s hs => ?_) (fun s hs => ?_) (by exact h0)
  · have h1 := hs.2; unfold zs_in at h1
    omega
  · obtain ⟨b, eb, hb⟩ := zc_531 hs.1 h_x1 h_x2 hs.2 (c := s.2.toInt) (Int.add_zero _).symm
    exact ⟨b, eb, zs_sumw hb (fun v w => ⟨⟨w.1.1, (zs_w w.1.2 (by decide))⟩, by have := w.2; omega⟩) (fun v w => w)⟩
-- BX0_live_29
theorem zc_532 {σ0 : sn_S} {σ : sn_S} (h_σ : zs_C σ0 σ) {x1 : Int32} (h_x1 : zs_in x1.toInt 0 29) {x2 : Int32} (h_x2 : zs_in x2.toInt 0 30) : zs_ok (BX0_live_29 σ 38 x1 x2) (fun r => zs_C σ0 r) := by
  unfold BX0_live_29
  refine zs_bd_ (zd_58 h_x2 (s0 := (σ, x1)) ⟨h_σ, (zs_w h_x1 (by decide))⟩) (fun t_1 pt_1 => ?_)
  obtain ⟨ret, er, hr⟩ := zc_347 pt_1
  refine ⟨ret, er, ?_⟩
  exact hr
-- fX0_live
theorem zc_533 {σ0 : sn_S} {σ : sn_S} (h_σ : zs_C σ0 σ) {x1 : Int32} (h_x1 : zs_in x1.toInt 0 29) {x2 : Int32} (h_x2 : zs_in x2.toInt 0 30) : zs_ok (fX0_live σ 38 x1 x2) (fun r => zs_C σ0 r) := by
  unfold fX0_live
  refine zs_bd_ (zd_94 h_x1 h_x2 (s0 := (σ, (0 : Int32))) ⟨h_σ, (zs_w zlI_0 (by decide))⟩) (fun t_1 pt_1 => ?_)
  obtain ⟨ret, er, hr⟩ := zc_532 pt_1 h_x1 h_x2
  refine ⟨ret, er, ?_⟩
  exact hr
-- BX0_live_2
theorem zc_534 {σ0 : sn_S} {σ : sn_S} (h_σ : zs_C σ0 σ) {x1 : Int32} (h_x1 : zs_in x1.toInt 0 29) {x2 : Int32} (h_x2 : zs_in x2.toInt 1 30) {x3 : Int32} (h_x3 : zs_in x3.toInt 0 6) {c : Int} (hc : x3.toInt = c + 0) : zs_ok (BX0_live_2 σ 38 x1 x2 x3) (fun r => zs_sum (fun v => ((zs_C σ0 v.1 ∧ zs_in (v.2).toInt 1 6)) ∧ v.2.toInt = c + 1) (fun v => zs_C σ0 v) r) := by
  unfold BX0_live_2
  refine zs_ite (fun c1 => ?_) (fun c1 => ?_)
  · skip
    have r2 := (zs_I_le c1)
    exact zs_some (zs_inr (h_σ))
  · skip
    have r3 := (zs_I_len c1)
    have g4 : zs_in (x3).toInt 0 5 := (zs_ltl 0 5 r3 h_x3 (zs_rdk (q := 38) (k := 1) (z := (0, 6)) h_σ.1 rfl) (by decide))
    have g5 : zs_in ((sn_I σ 38 1)).toInt 1 6 := (zs_ltr 1 6 r3 h_x3 (zs_rdk (q := 38) (k := 1) (z := (0, 6)) h_σ.1 rfl) (by decide))
    refine zs_gd (zs_gin g4 (by decide)) ?_
    refine zs_bd_ (zc_187 h_x1) (fun t_3 pt_3 => ?_)
    refine zs_gd (zs_gin g4 (by decide)) ?_
    refine zs_lt (Q := fun z => zs_C σ0 z) (zs_wru (z := (0, 1073741823)) h_σ (fun _ => rfl) (zs_and pt_3 (by decide)) (by decide) (fun _ => rfl)) (fun σ_6 hσ_6 => ?_)
    refine zs_lt (Q := fun z => zs_in z.toInt 1 6 ∧ z.toInt = c + 1) ⟨(zs_addI 1 6 g4 zlI_1 (by decide)), (zs_syI 1 hc g4 zlI_1 (by decide) (by decide))⟩ (fun y_8 hy_8 => ?_)
    exact zs_some (zs_inl ⟨⟨hσ_6, hy_8.1⟩, hy_8.2⟩)
theorem zd_95 {σ0 : sn_S} {x1 : Int32} (h_x1 : zs_in x1.toInt 0 29) {x2 : Int32} (h_x2 : zs_in x2.toInt 1 30) {s0 : (sn_S × Int32)} (h0 : (zs_C σ0 s0.1 ∧ zs_in (s0.2).toInt 0 6)) : zs_ok (sn_it (LX0_live_2 38 x1 x2) 5000 s0) (fun t => zs_C σ0 t) := by
  refine zs_it (I := fun s => (zs_C σ0 s.1 ∧ zs_in (s.2).toInt 0 6)) (m := fun s => 6 - s.2.toInt) (fun s hs => ?_) (fun s hs => ?_) (by exact h0)
  · have h1 := hs.2; unfold zs_in at h1
    omega
  · obtain ⟨b, eb, hb⟩ := zc_534 hs.1 h_x1 h_x2 hs.2 (c := s.2.toInt) (Int.add_zero _).symm
    exact ⟨b, eb, zs_sumw hb (fun v w => ⟨⟨w.1.1, (zs_w w.1.2 (by decide))⟩, by have := w.2; omega⟩) (fun v w => w)⟩
-- BX0_live_31
theorem zc_535 {σ0 : sn_S} {σ : sn_S} (h_σ : zs_C σ0 σ) {x2 : Int32} (h_x2 : zs_in x2.toInt 1 30) {x3 : Int32} (h_x3 : zs_in x3.toInt 0 30) {c : Int} (hc : x3.toInt = c + 0) : zs_ok (BX0_live_31 σ 38 x2 x3) (fun r => zs_sum (fun v => ((zs_C σ0 v.1 ∧ zs_in (v.2).toInt 1 30)) ∧ v.2.toInt = c + 1) (fun v => zs_C σ0 v) r) := by
  unfold BX0_live_31
  refine zs_ite (fun c1 => ?_) (fun c1 => ?_)
  · skip
    have r2 := (zs_I_le c1)
    have g3 : zs_in (x3).toInt 1 30 := (zs_ler 1 30 r2 h_x2 h_x3 (by decide))
    exact zs_some (zs_inr (h_σ))
  · skip
    have r4 := (zs_I_len c1)
    have g5 : zs_in (x3).toInt 0 29 := (zs_ltl 0 29 r4 h_x3 h_x2 (by decide))
    refine zs_ite (fun c6 => ?_) (fun c6 => ?_)
    · skip
      have r7 := (zs_I_le c6)
      have g8 : zs_in ((sn_I σ 38 0)).toInt 0 29 := (zs_lel 0 29 r7 (zs_rdk (q := 38) (k := 0) (z := (0, 30)) h_σ.1 rfl) g5 (by decide))
      exact zs_some (zs_inr (h_σ))
    · skip
      have r9 := (zs_I_len c6)
      have g10 : zs_in ((sn_I σ 38 0)).toInt 1 30 := (zs_ltr 1 30 r9 g5 (zs_rdk (q := 38) (k := 0) (z := (0, 30)) h_σ.1 rfl) (by decide))
      refine zs_bd_ (zc_328 h_σ g5) (fun t_3 pt_3 => ?_)
      refine zs_bd_ (zc_345 pt_3 g5) (fun t_5 pt_5 => ?_)
      refine zs_lt (Q := fun z => zs_in z.toInt 1 30 ∧ z.toInt = c + 1) ⟨(zs_addI 1 30 g5 zlI_1 (by decide)), (zs_syI 1 hc g5 zlI_1 (by decide) (by decide))⟩ (fun y_7 hy_7 => ?_)
      exact zs_some (zs_inl ⟨⟨pt_5, hy_7.1⟩, hy_7.2⟩)
theorem zd_96 {σ0 : sn_S} {x2 : Int32} (h_x2 : zs_in x2.toInt 1 30) {s0 : (sn_S × Int32)} (h0 : (zs_C σ0 s0.1 ∧ zs_in (s0.2).toInt 0 30)) : zs_ok (sn_it (LX0_live_31 38 x2) 5000 s0) (fun t => zs_C σ0 t) := by
  refine zs_it (I := fun s => (zs_C σ0 s.1 ∧ zs_in (s.2).toInt 0 30)) (m := fun s => 30 - s.2.toInt) (fun s hs => ?_) (fun s hs => ?_) (by exact h0)
  · have h1 := hs.2; unfold zs_in at h1
    omega
  · obtain ⟨b, eb, hb⟩ := zc_535 hs.1 h_x2 hs.2 (c := s.2.toInt) (Int.add_zero _).symm
    exact ⟨b, eb, zs_sumw hb (fun v w => ⟨⟨w.1.1, (zs_w w.1.2 (by decide))⟩, by have := w.2; omega⟩) (fun v w => w)⟩
-- BX0_live_29
theorem zc_536 {σ0 : sn_S} {σ : sn_S} (h_σ : zs_C σ0 σ) {x1 : Int32} (h_x1 : zs_in x1.toInt 0 29) {x2 : Int32} (h_x2 : zs_in x2.toInt 1 30) : zs_ok (BX0_live_29 σ 38 x1 x2) (fun r => zs_C σ0 r) := by
  unfold BX0_live_29
  refine zs_bd_ (zd_96 h_x2 (s0 := (σ, x1)) ⟨h_σ, (zs_w h_x1 (by decide))⟩) (fun t_1 pt_1 => ?_)
  obtain ⟨ret, er, hr⟩ := zc_347 pt_1
  refine ⟨ret, er, ?_⟩
  exact hr
-- fX0_live
theorem zc_537 {σ0 : sn_S} {σ : sn_S} (h_σ : zs_C σ0 σ) {x1 : Int32} (h_x1 : zs_in x1.toInt 0 29) {x2 : Int32} (h_x2 : zs_in x2.toInt 1 30) : zs_ok (fX0_live σ 38 x1 x2) (fun r => zs_C σ0 r) := by
  unfold fX0_live
  refine zs_bd_ (zd_95 h_x1 h_x2 (s0 := (σ, (0 : Int32))) ⟨h_σ, (zs_w zlI_0 (by decide))⟩) (fun t_1 pt_1 => ?_)
  obtain ⟨ret, er, hr⟩ := zc_536 pt_1 h_x1 h_x2
  refine ⟨ret, er, ?_⟩
  exact hr
-- BX8_minutesOfFraud_133
theorem zc_538 {σ0 : sn_S} {σ : sn_S} (h_σ : zs_C σ0 σ) {x1 : Int32} (h_x1 : zs_in x1.toInt 0 5) {x2 : Int32} (h_x2 : zs_in x2.toInt 0 5) {x3 : Int32} {x4 : Int32} {x5 : Int32} (h_x5 : zs_in x5.toInt 0 29) {c : Int} (hc : x5.toInt = c + 0) : zs_ok (BX8_minutesOfFraud_133 σ x1 x2 x3 x4 x5) (fun r => zs_sum (fun v => ((zs_C σ0 v.1 ∧ (True ∧ zs_in (v.2.2).toInt 1 30))) ∧ v.2.2.toInt = c + 1) (fun v => False) r) := by
  unfold BX8_minutesOfFraud_133
  refine zs_gd (zs_gin h_x2 (by decide)) ?_
  refine zs_gd (zs_gin h_x2 (by decide)) ?_
  refine zs_lt (Q := fun z => zs_C σ0 z) (zs_wrt h_σ (fun _ => rfl) (fun _ => rfl)) (fun σ_3 hσ_3 => ?_)
  refine zs_bd_ (zc_537 hσ_3 h_x5 (zs_addI 1 30 h_x5 zlI_1 (by decide))) (fun t_5 pt_5 => ?_)
  refine zs_lt (Q := fun z => zs_in z.toInt 1 30 ∧ z.toInt = c + 1) ⟨(zs_addI 1 30 h_x5 zlI_1 (by decide)), (zs_syI 1 hc h_x5 zlI_1 (by decide) (by decide))⟩ (fun y_7 hy_7 => ?_)
  exact zs_some (zs_inl ⟨⟨pt_5, ⟨trivial, hy_7.1⟩⟩, hy_7.2⟩)
-- BX8_minutesOfFraud_133
theorem zc_539 {σ0 : sn_S} {σ : sn_S} (h_σ : zs_C σ0 σ) {x1 : Int32} (h_x1 : zs_in x1.toInt 0 5) {x2 : Int32} (h_x2 : zs_in x2.toInt 0 5) {x3 : Int32} (h_x3 : zs_in x3.toInt (-2147483648) 2147483646) {x4 : Int32} {x5 : Int32} (h_x5 : zs_in x5.toInt 0 29) {c : Int} (hc : x5.toInt = c + 0) : zs_ok (BX8_minutesOfFraud_133 σ x1 x2 x3 x4 x5) (fun r => zs_sum (fun v => ((zs_C σ0 v.1 ∧ (True ∧ zs_in (v.2.2).toInt 1 30))) ∧ v.2.2.toInt = c + 1) (fun v => False) r) := by
  unfold BX8_minutesOfFraud_133
  refine zs_gd (zs_gin h_x2 (by decide)) ?_
  refine zs_gd (zs_gin h_x2 (by decide)) ?_
  refine zs_lt (Q := fun z => zs_C σ0 z) (zs_wrt h_σ (fun _ => rfl) (fun _ => rfl)) (fun σ_3 hσ_3 => ?_)
  refine zs_bd_ (zc_537 hσ_3 h_x5 (zs_addI 1 30 h_x5 zlI_1 (by decide))) (fun t_5 pt_5 => ?_)
  refine zs_lt (Q := fun z => zs_in z.toInt 1 30 ∧ z.toInt = c + 1) ⟨(zs_addI 1 30 h_x5 zlI_1 (by decide)), (zs_syI 1 hc h_x5 zlI_1 (by decide) (by decide))⟩ (fun y_7 hy_7 => ?_)
  exact zs_some (zs_inl ⟨⟨pt_5, ⟨trivial, hy_7.1⟩⟩, hy_7.2⟩)
-- BX8_minutesOfFraud_34
theorem zc_540 {σ0 : sn_S} {σ : sn_S} (h_σ : zs_C σ0 σ) {x1 : Int32} (h_x1 : zs_in x1.toInt 0 5) {x2 : Int32} (h_x2 : zs_in x2.toInt 0 5) {x3 : Int32} {x4 : Int32} {x5 : Int32} (h_x5 : zs_in x5.toInt 0 30) {c : Int} (hc : x5.toInt = c + 0) : zs_ok (BX8_minutesOfFraud_34 σ x1 x2 x3 x4 x5) (fun r => zs_sum (fun v => ((zs_C σ0 v.1 ∧ (True ∧ zs_in (v.2.2).toInt 1 30))) ∧ v.2.2.toInt = c + 1) (fun v => (zs_C σ0 v.1 ∧ True)) r) := by
  unfold BX8_minutesOfFraud_34
  refine zs_ite (fun c1 => ?_) (fun c1 => ?_)
  · skip
    have r2 := (zs_I_le c1)
    exact zs_some (zs_inr (⟨h_σ, trivial⟩))
  · skip
    have r3 := (zs_I_len c1)
    have g4 : zs_in (x5).toInt 0 29 := (zs_ltl 0 29 r3 h_x5 (zs_rdk (q := 27) (k := 0) (z := (0, 30)) h_σ.1 rfl) (by decide))
    have g5 : zs_in ((sn_I σ 27 0)).toInt 1 30 := (zs_ltr 1 30 r3 h_x5 (zs_rdk (q := 27) (k := 0) (z := (0, 30)) h_σ.1 rfl) (by decide))
    refine zs_gd (zs_gin h_x2 (by decide)) ?_
    refine zs_gd (zs_gin h_x2 (by decide)) ?_
    refine zs_lt (Q := fun z => zs_C σ0 z) (zs_wrt h_σ (fun _ => rfl) (fun _ => rfl)) (fun σ_4 hσ_4 => ?_)
    refine zs_bd_ (zc_533 hσ_4 g4 (zs_rdk (q := 27) (k := 0) (z := (0, 30)) hσ_4.1 rfl)) (fun t_6 pt_6 => ?_)
    refine zs_gd (zs_gin zlI_2 (by decide)) ?_
    refine zs_gd (zs_gin h_x2 (by decide)) ?_
    refine zs_gd (zs_gin h_x2 (by decide)) ?_
    refine zs_bd_ (zc_235 pt_6 (zs_rdk (q := 2) (k := (2 : Int32).toNatClampNeg) (z := (0, 3)) pt_6.1 rfl) h_x1 (zs_rdu (q := 48) (z := (0, 1073741823)) pt_6.1 (fun _ => rfl))) (fun t_11 pt_11 => ?_)
    refine zs_ite (fun c6 => ?_) (fun c6 => ?_)
    · skip
      have r7 := (zs_I_le c6)
      obtain ⟨ret, er, hr⟩ := zc_538 pt_6 h_x1 h_x2 g4 hc
      refine ⟨ret, er, ?_⟩
      exact (zs_sumw hr (fun v w => ⟨w.1, w.2⟩) (fun v w => w.elim))
    · skip
      have r8 := (zs_I_len c6)
      have g9 : zs_in (x3).toInt (-2147483648) 2147483646 := (zs_ltl (-2147483648) 2147483646 r8 (zs_topI _) (zs_topI _) (by decide))
      have g10 : zs_in (t_11).toInt (-2147483647) 2147483647 := (zs_ltr (-2147483647) 2147483647 r8 (zs_topI _) (zs_topI _) (by decide))
      refine zs_lt (Q := fun z => True) trivial (fun y_14 hy_14 => ?_)
      obtain ⟨ret, er, hr⟩ := zc_539 pt_6 h_x1 h_x2 g9 g4 hc
      refine ⟨ret, er, ?_⟩
      exact (zs_sumw hr (fun v w => ⟨w.1, w.2⟩) (fun v w => w.elim))
theorem zd_97 {σ0 : sn_S} {x1 : Int32} (h_x1 : zs_in x1.toInt 0 5) {x2 : Int32} (h_x2 : zs_in x2.toInt 0 5) {x3 : Int32} {s0 : (sn_S × (Int32 × Int32))} (h0 : (zs_C σ0 s0.1 ∧ (True ∧ zs_in (s0.2.2).toInt 0 30))) : zs_ok (sn_it (LX8_minutesOfFraud_34 x1 x2 x3) 5000 s0) (fun t => (zs_C σ0 t.1 ∧ True)) := by
  refine zs_it (I := fun s => (zs_C σ0 s.1 ∧ (True ∧ zs_in (s.2.2).toInt 0 30))) (m := fun s => 30 - s.2.2.toInt) (fun s hs => ?_) (fun s hs => ?_) (by exact h0)
  · have h1 := hs.2.2; unfold zs_in at h1
    omega
  · obtain ⟨b, eb, hb⟩ := zc_540 hs.1 h_x1 h_x2 hs.2.2 (c := s.2.2.toInt) (Int.add_zero _).symm
    exact ⟨b, eb, zs_sumw hb (fun v w => ⟨⟨w.1.1, ⟨w.1.2.1, (zs_w w.1.2.2 (by decide))⟩⟩, by have := w.2; omega⟩) (fun v w => w)⟩
-- BX8_minutesOfFraud_170
theorem zc_541 {σ0 : sn_S} {σ : sn_S} (h_σ : zs_C σ0 σ) {x4 : Int32} : zs_ok (BX8_minutesOfFraud_170 σ x4) (fun r => (True ∧ zs_C σ0 r.2)) := by
  unfold BX8_minutesOfFraud_170
  exact zs_some ⟨trivial, h_σ⟩
-- fX8_minutesOfFraud
theorem zc_542 {σ0 : sn_S} {σ : sn_S} (h_σ : zs_C σ0 σ) {x1 : Int32} (h_x1 : zs_in x1.toInt 0 5) [zs_Ws σ0 x1] : zs_ok (fX8_minutesOfFraud σ x1) (fun r => (True ∧ zs_C σ0 r.2)) := by
  unfold fX8_minutesOfFraud
  refine zs_bd_ (zo_whose h_σ h_x1) (fun t_1 pt_1 => ?_)
  refine zs_bd_ (zc_464 h_σ pt_1 h_x1) (fun t_3 pt_3 => ?_)
  refine zs_bd_ (zo_dcopy h_σ) (fun t_5 pt_5 => ?_)
  refine zs_bd_ (zd_97 h_x1 pt_1 (s0 := (t_5, ((0 : Int32), (0 : Int32)))) ⟨pt_5, ⟨trivial, (zs_w zlI_0 (by decide))⟩⟩) (fun t_7 pt_7 => ?_)
  obtain ⟨ret, er, hr⟩ := zc_541 pt_7.1
  refine ⟨ret, er, ?_⟩
  exact hr
-- fX8_snuff
theorem zc_543 {σ0 : sn_S} {σ : sn_S} (h_σ : zs_C σ0 σ) {x1 : Int32} : zs_ok (fX8_snuff σ x1) (fun r => ((zs_in (r.1).toInt (-2) 63 ∧ zs_C σ0 r.2)) ∧ ((r.1).toInt = (-2) ∨ (zs_in (x1).toInt 0 5))) := by
  unfold fX8_snuff
  refine zs_bd_ (zo_isPolicy h_σ) (fun t_1 pt_1 => ?_)
  refine zs_ite (fun c1 => ?_) (fun c1 => ?_)
  · skip
    have r2 := (zs_I_eq c1)
    have g3 : zs_in (t_1).toInt 0 0 := (zs_eql 0 0 r2 pt_1.1 zlI_0 (by decide))
    exact zs_some ⟨⟨(zs_w zlI_m2 (by decide)), h_σ⟩, Or.inl (zs_ptr zlI_m2)⟩
  · skip
    have r4 := (zs_I_eqn c1)
    have g5 : zs_in (t_1).toInt 1 1 := (zs_nel 1 1 r4 pt_1.1 zlI_0 (by decide))
    have q6 := (zs_or2 pt_1.2.1 g5 (by decide))
    have g7 : zs_in (x1).toInt 0 5 := q6
    haveI := zs_or2 pt_1.2.2 g5 (by decide)
    refine zs_bd_ (zc_542 h_σ g7) (fun t_4 pt_4 => ?_)
    refine zs_bd_ (zo_lowt) (fun t_6 pt_6 => ?_)
    exact zs_some ⟨⟨(zs_w pt_6 (by decide)), pt_4.2⟩, Or.inr g7⟩
-- BX9_fraudsOf_72
theorem zc_544 {σ0 : sn_S} {σ : sn_S} (h_σ : zs_M σ0 σ) {x1 : Int32} (h_x1 : zs_in x1.toInt 0 5) {x2 : Int32} (h_x2 : zs_in x2.toInt 0 5) {x3 : Int32} {x4 : Int32} {x5 : Int32} {x6 : Int32} (h_x6 : zs_in x6.toInt 0 29) {t0 : Int32} {t1 : Int32} (h_t1 : zs_in t1.toInt 0 0) {c : Int} (hc : x6.toInt = c + 0) : zs_ok (BX9_fraudsOf_72 σ x1 x2 x3 x4 x5 x6 t0 t1) (fun r => zs_sum (fun v => ((zs_M σ0 v.1 ∧ (True ∧ zs_in (v.2.2).toInt 1 30))) ∧ v.2.2.toInt = c + 1) (fun v => False) r) := by
  unfold BX9_fraudsOf_72
  obtain rfl : t1 = (0 : Int32) := zs_eqv h_t1 (by decide)
  refine zs_lt (Q := fun z => True) trivial (fun y_1 hy_1 => ?_)
  refine zs_lt (Q := fun z => zs_in z.toInt 1 30 ∧ z.toInt = c + 1) ⟨(zs_addI 1 30 h_x6 zlI_1 (by decide)), (zs_syI 1 hc h_x6 zlI_1 (by decide) (by decide))⟩ (fun y_3 hy_3 => ?_)
  exact zs_some (zs_inl ⟨⟨h_σ, ⟨trivial, hy_3.1⟩⟩, hy_3.2⟩)
-- BX9_fraudsOf_72
theorem zc_545 {σ0 : sn_S} {σ : sn_S} (h_σ : zs_M σ0 σ) {x1 : Int32} (h_x1 : zs_in x1.toInt 0 5) {x2 : Int32} (h_x2 : zs_in x2.toInt 0 5) {x3 : Int32} (h_x3 : zs_in x3.toInt (-2147483648) 2147483646) {x4 : Int32} {x5 : Int32} {x6 : Int32} (h_x6 : zs_in x6.toInt 0 29) {t0 : Int32} {t1 : Int32} (h_t1 : zs_in t1.toInt 1 536870912) {c : Int} (hc : x6.toInt = c + 0) : zs_ok (BX9_fraudsOf_72 σ x1 x2 x3 x4 x5 x6 t0 t1) (fun r => zs_sum (fun v => ((zs_M σ0 v.1 ∧ (True ∧ zs_in (v.2.2).toInt 1 30))) ∧ v.2.2.toInt = c + 1) (fun v => False) r) := by
  unfold BX9_fraudsOf_72
  refine zs_lt (Q := fun z => True) trivial (fun y_1 hy_1 => ?_)
  refine zs_lt (Q := fun z => zs_in z.toInt 1 30 ∧ z.toInt = c + 1) ⟨(zs_addI 1 30 h_x6 zlI_1 (by decide)), (zs_syI 1 hc h_x6 zlI_1 (by decide) (by decide))⟩ (fun y_3 hy_3 => ?_)
  exact zs_some (zs_inl ⟨⟨h_σ, ⟨trivial, hy_3.1⟩⟩, hy_3.2⟩)
-- BX9_fraudsOf_27
theorem zc_546 {σ0 : sn_S} {σ : sn_S} (h_σ : zs_M σ0 σ) {x1 : Int32} (h_x1 : zs_in x1.toInt 0 5) {x2 : Int32} (h_x2 : zs_in x2.toInt 0 5) {x3 : Int32} {x4 : Int32} {x5 : Int32} {x6 : Int32} (h_x6 : zs_in x6.toInt 0 30) {c : Int} (hc : x6.toInt = c + 0) : zs_ok (BX9_fraudsOf_27 σ x1 x2 x3 x4 x5 x6) (fun r => zs_sum (fun v => ((zs_M σ0 v.1 ∧ (True ∧ zs_in (v.2.2).toInt 1 30))) ∧ v.2.2.toInt = c + 1) (fun v => (zs_M σ0 v.1 ∧ True)) r) := by
  unfold BX9_fraudsOf_27
  refine zs_bd_ (zc_21 h_σ) (fun t_1 pt_1 => ?_)
  refine zs_ite (fun c1 => ?_) (fun c1 => ?_)
  · skip
    have r2 := (zs_I_le c1)
    exact zs_some (zs_inr (⟨h_σ, trivial⟩))
  · skip
    have r3 := (zs_I_len c1)
    have g4 : zs_in (x6).toInt 0 29 := (zs_ltl 0 29 r3 h_x6 pt_1 (by decide))
    have g5 : zs_in (t_1).toInt 1 30 := (zs_ltr 1 30 r3 h_x6 pt_1 (by decide))
    refine zs_gd (zs_gin h_x2 (by decide)) ?_
    refine zs_lt (Q := fun z => zs_M σ0 z) (zs_wrt h_σ (fun _ => rfl) (fun _ => rfl)) (fun σ_5 hσ_5 => ?_)
    refine zs_bd_ (zc_90 hσ_5) (fun t_7 pt_7 => ?_)
    refine zs_bd_ (zc_262 pt_7 h_x1) (fun t_9 pt_9 => ?_)
    refine zs_ite (fun c6 => ?_) (fun c6 => ?_)
    · skip
      have r7 := (zs_I_le c6)
      obtain ⟨ret, er, hr⟩ := zc_544 pt_9.2 h_x1 h_x2 g4 zlI_0 hc
      refine ⟨ret, er, ?_⟩
      exact (zs_sumw hr (fun v w => ⟨w.1, w.2⟩) (fun v w => w.elim))
    · skip
      have r8 := (zs_I_len c6)
      have g9 : zs_in (x3).toInt (-2147483648) 2147483646 := (zs_ltl (-2147483648) 2147483646 r8 (zs_topI _) (zs_topI _) (by decide))
      have g10 : zs_in (t_9.1).toInt (-2147483647) 2147483647 := (zs_ltr (-2147483647) 2147483647 r8 (zs_topI _) (zs_topI _) (by decide))
      obtain ⟨ret, er, hr⟩ := zc_545 pt_9.2 h_x1 h_x2 g9 g4 (zs_cases g4 (fun z => zs_in ((1 : Int32) <<< (z &&& 31)).toInt 1 536870912) (by decide +kernel)) hc
      refine ⟨ret, er, ?_⟩
      exact (zs_sumw hr (fun v w => ⟨w.1, w.2⟩) (fun v w => w.elim))
theorem zd_98 {σ0 : sn_S} {x1 : Int32} (h_x1 : zs_in x1.toInt 0 5) {x2 : Int32} (h_x2 : zs_in x2.toInt 0 5) {x3 : Int32} {x4 : Int32} {s0 : (sn_S × (Int32 × Int32))} (h0 : (zs_M σ0 s0.1 ∧ (True ∧ zs_in (s0.2.2).toInt 0 30))) : zs_ok (sn_it (LX9_fraudsOf_27 x1 x2 x3 x4) 5000 s0) (fun t => (zs_M σ0 t.1 ∧ True)) := by
  refine zs_it (I := fun s => (zs_M σ0 s.1 ∧ (True ∧ zs_in (s.2.2).toInt 0 30))) (m := fun s => 30 - s.2.2.toInt) (fun s hs => ?_) (fun s hs => ?_) (by exact h0)
  · have h1 := hs.2.2; unfold zs_in at h1
    omega
  · obtain ⟨b, eb, hb⟩ := zc_546 hs.1 h_x1 h_x2 hs.2.2 (c := s.2.2.toInt) (Int.add_zero _).symm
    exact ⟨b, eb, zs_sumw hb (fun v w => ⟨⟨w.1.1, ⟨w.1.2.1, (zs_w w.1.2.2 (by decide))⟩⟩, by have := w.2; omega⟩) (fun v w => w)⟩
-- BX9_fraudsOf_81
theorem zc_547 {σ0 : sn_S} {σ : sn_S} (h_σ : zs_M σ0 σ) {x5 : Int32} : zs_ok (BX9_fraudsOf_81 σ x5) (fun r => (True ∧ zs_M σ0 r.2)) := by
  unfold BX9_fraudsOf_81
  exact zs_some ⟨trivial, h_σ⟩
-- fX9_fraudsOf
theorem zc_548 {σ0 : sn_S} {σ : sn_S} (h_σ : zs_M σ0 σ) {x1 : Int32} (h_x1 : zs_in x1.toInt 0 5) : zs_ok (fX9_fraudsOf σ x1) (fun r => (True ∧ zs_M σ0 r.2)) := by
  unfold fX9_fraudsOf
  refine zs_bd_ (zc_200 h_σ h_x1 zlI_0) (fun t_1 pt_1 => ?_)
  refine zs_bd_ (zc_262 h_σ h_x1) (fun t_3 pt_3 => ?_)
  refine zs_gd (zs_gin pt_1 (by decide)) ?_
  refine zs_lt (Q := fun z => True) trivial (fun y_6 hy_6 => ?_)
  refine zs_bd_ (zd_98 h_x1 pt_1 (s0 := (t_3.2, ((0 : Int32), (0 : Int32)))) ⟨pt_3.2, ⟨trivial, (zs_w zlI_0 (by decide))⟩⟩) (fun t_8 pt_8 => ?_)
  obtain ⟨ret, er, hr⟩ := zc_547 pt_8.1
  refine ⟨ret, er, ?_⟩
  exact hr
-- fX9_snuff
theorem zc_549 {σ0 : sn_S} {σ : sn_S} (h_σ : zs_M σ0 σ) {x1 : Int32} : zs_ok (fX9_snuff σ x1) (fun r => ((zs_in (r.1).toInt (-2) 29 ∧ zs_M σ0 r.2)) ∧ ((r.1).toInt = (-2) ∨ (zs_in (x1).toInt 0 5))) := by
  unfold fX9_snuff
  refine zs_bd_ (zc_239 h_σ) (fun t_1 pt_1 => ?_)
  refine zs_ite (fun c1 => ?_) (fun c1 => ?_)
  · skip
    have r2 := (zs_I_eq c1)
    have g3 : zs_in (t_1.1).toInt 0 0 := (zs_eql 0 0 r2 pt_1.1.1 zlI_0 (by decide))
    exact zs_some ⟨⟨(zs_w zlI_m2 (by decide)), pt_1.1.2⟩, Or.inl (zs_ptr zlI_m2)⟩
  · skip
    have r4 := (zs_I_eqn c1)
    have g5 : zs_in (t_1.1).toInt 1 1 := (zs_nel 1 1 r4 pt_1.1.1 zlI_0 (by decide))
    have q6 := (zs_or2 pt_1.2 g5 (by decide))
    have g7 : zs_in (x1).toInt 0 5 := q6
    refine zs_bd_ (zc_548 pt_1.1.2 g7) (fun t_4 pt_4 => ?_)
    refine zs_bd_ (zo_fot) (fun t_6 pt_6 => ?_)
    exact zs_some ⟨⟨(zs_w pt_6 (by decide)), pt_4.2⟩, Or.inr g7⟩
-- fX8_frauds
theorem zc_550 {σ0 : sn_S} {σ : sn_S} (h_σ : zs_C σ0 σ) {x1 : Int32} : zs_ok (fX8_frauds σ x1) (fun r => ((True ∧ zs_C σ0 r.2)) ∧ ((r.1).toInt = (-2) ∨ (zs_in (x1).toInt 0 5))) := by
  unfold fX8_frauds
  refine zs_bd_ (zo_isPolicy h_σ) (fun t_1 pt_1 => ?_)
  refine zs_ite (fun c1 => ?_) (fun c1 => ?_)
  · skip
    have r2 := (zs_I_eq c1)
    have g3 : zs_in (t_1).toInt 0 0 := (zs_eql 0 0 r2 pt_1.1 zlI_0 (by decide))
    exact zs_some ⟨⟨trivial, h_σ⟩, Or.inl (zs_ptr zlI_m2)⟩
  · skip
    have r4 := (zs_I_eqn c1)
    have g5 : zs_in (t_1).toInt 1 1 := (zs_nel 1 1 r4 pt_1.1 zlI_0 (by decide))
    have q6 := (zs_or2 pt_1.2.1 g5 (by decide))
    have g7 : zs_in (x1).toInt 0 5 := q6
    haveI := zs_or2 pt_1.2.2 g5 (by decide)
    refine zs_bd_ (zc_542 h_σ g7) (fun t_4 pt_4 => ?_)
    exact zs_some ⟨⟨trivial, pt_4.2⟩, Or.inr g7⟩
-- fX9_frauds
theorem zc_551 {σ0 : sn_S} {σ : sn_S} (h_σ : zs_M σ0 σ) {x1 : Int32} : zs_ok (fX9_frauds σ x1) (fun r => ((True ∧ zs_M σ0 r.2)) ∧ ((r.1).toInt = (-2) ∨ (zs_in (x1).toInt 0 5))) := by
  unfold fX9_frauds
  refine zs_bd_ (zc_239 h_σ) (fun t_1 pt_1 => ?_)
  refine zs_ite (fun c1 => ?_) (fun c1 => ?_)
  · skip
    have r2 := (zs_I_eq c1)
    have g3 : zs_in (t_1.1).toInt 0 0 := (zs_eql 0 0 r2 pt_1.1.1 zlI_0 (by decide))
    exact zs_some ⟨⟨trivial, pt_1.1.2⟩, Or.inl (zs_ptr zlI_m2)⟩
  · skip
    have r4 := (zs_I_eqn c1)
    have g5 : zs_in (t_1.1).toInt 1 1 := (zs_nel 1 1 r4 pt_1.1.1 zlI_0 (by decide))
    have q6 := (zs_or2 pt_1.2 g5 (by decide))
    have g7 : zs_in (x1).toInt 0 5 := q6
    refine zs_bd_ (zc_548 pt_1.1.2 g7) (fun t_4 pt_4 => ?_)
    exact zs_some ⟨⟨trivial, pt_4.2⟩, Or.inr g7⟩
-- fX6_isSlot
theorem zc_552 {x0 : Int32} : zs_ok (fX6_isSlot x0) (fun r => (zs_in (r).toInt 0 1) ∧ ((r).toInt = 0 ∨ (zs_in (x0).toInt 0 3))) := by
  unfold fX6_isSlot
  refine zs_ite (fun c1 => ?_) (fun c1 => ?_)
  · skip
    have r2 := (zs_I_lt c1)
    have g3 : zs_in (x0).toInt (-2147483648) (-1) := (zs_ltl (-2147483648) (-1) r2 (zs_topI _) zlI_0 (by decide))
    refine zs_gd (zs_b01 zlI_0 (by decide)) ?_
    exact zs_some ⟨(zs_w zlI_0 (by decide)), Or.inl (zs_ptr zlI_0)⟩
  · skip
    have r4 := (zs_I_ltn c1)
    have g5 : zs_in (x0).toInt 0 2147483647 := (zs_ler 0 2147483647 r4 zlI_0 (zs_topI _) (by decide))
    refine zs_ite (fun c6 => ?_) (fun c6 => ?_)
    · skip
      have r7 := (zs_I_le c6)
      have g8 : zs_in (x0).toInt 4 2147483647 := (zs_ler 4 2147483647 r7 zlI_4 g5 (by decide))
      refine zs_gd (zs_b01 zlI_0 (by decide)) ?_
      exact zs_some ⟨(zs_w zlI_0 (by decide)), Or.inl (zs_ptr zlI_0)⟩
    · skip
      have r9 := (zs_I_len c6)
      have g10 : zs_in (x0).toInt 0 3 := (zs_ltl 0 3 r9 g5 zlI_4 (by decide))
      refine zs_gd (zs_b01 zlI_1 (by decide)) ?_
      exact zs_some ⟨(zs_w zlI_1 (by decide)), Or.inr g10⟩
-- fX6_has
theorem zc_553 {σ0 : sn_S} {σ : sn_S} (h_σ : zs_C σ0 σ) {x1 : Int32} (h_x1 : zs_in x1.toInt 0 3) : zs_ok (fX6_has σ x1) (fun r => zs_in (r).toInt 0 1) := by
  unfold fX6_has
  refine zs_gd (zs_gin h_x1 (by decide)) ?_
  refine zs_ite (fun c1 => ?_) (fun c1 => ?_)
  · skip
    have r2 := (zs_I_eq c1)
    have g3 : zs_in ((sn_I σ 26 x1.toNatClampNeg)).toInt (-1) (-1) := (zs_eql (-1) (-1) r2 (zs_rdu (q := 26) (z := ((-1), 60)) h_σ.1 (fun _ => rfl)) zlI_m1 (by decide))
    refine zs_gd (zs_b01 zlI_0 (by decide)) ?_
    exact zs_some (zs_w zlI_0 (by decide))
  · skip
    have r4 := (zs_I_eqn c1)
    have g5 : zs_in ((sn_I σ 26 x1.toNatClampNeg)).toInt 0 60 := (zs_nel 0 60 r4 (zs_rdu (q := 26) (z := ((-1), 60)) h_σ.1 (fun _ => rfl)) zlI_m1 (by decide))
    refine zs_gd (zs_b01 zlI_1 (by decide)) ?_
    exact zs_some (zs_w zlI_1 (by decide))
-- BJ7_fill_53178_5
theorem zc_554 {σ0 : sn_S} {σ : sn_S} (h_σ : zs_C σ0 σ) {x1 : Int32} (h_x1 : zs_in x1.toInt 0 0) {x2 : Int32} (h_x2 : zs_in x2.toInt 0 6) {x3 : Int32} (h_x3 : zs_in x3.toInt 6 6) {c : Int} (hc : x2.toInt = c + 0) : zs_ok (BJ7_fill_53178_5 σ 55 6 x1 x2 x3) (fun r => zs_sum (fun v => ((zs_C σ0 v.1 ∧ zs_in (v.2).toInt 1 6)) ∧ v.2.toInt = c + 1) (fun v => zs_C σ0 v) r) := by
  unfold BJ7_fill_53178_5
  obtain rfl : x1 = (0 : Int32) := zs_eqv h_x1 (by decide)
  obtain rfl : x3 = (6 : Int32) := zs_eqv h_x3 (by decide)
  refine zs_ite (fun c1 => ?_) (fun c1 => ?_)
  · skip
    have r2 := (zs_I_le c1)
    have g3 : zs_in (x2).toInt 6 6 := (zs_ler 6 6 r2 h_x3 h_x2 (by decide))
    exact zs_some (zs_inr (h_σ))
  · skip
    have r4 := (zs_I_len c1)
    have g5 : zs_in (x2).toInt 0 5 := (zs_ltl 0 5 r4 h_x2 h_x3 (by decide))
    refine zs_gd (zs_gin g5 (by decide)) ?_
    refine zs_lt (Q := fun z => zs_C σ0 z) (zs_wrt h_σ (fun _ => rfl) (fun _ => rfl)) (fun σ_3 hσ_3 => ?_)
    refine zs_lt (Q := fun z => zs_in z.toInt 1 6 ∧ z.toInt = c + 1) ⟨(zs_addI 1 6 g5 zlI_1 (by decide)), (zs_syI 1 hc g5 zlI_1 (by decide) (by decide))⟩ (fun y_5 hy_5 => ?_)
    exact zs_some (zs_inl ⟨⟨hσ_3, hy_5.1⟩, hy_5.2⟩)
theorem zd_99 {σ0 : sn_S} {x1 : Int32} (h_x1 : zs_in x1.toInt 0 0) {x3 : Int32} (h_x3 : zs_in x3.toInt 6 6) {s0 : (sn_S × Int32)} (h0 : (zs_C σ0 s0.1 ∧ zs_in (s0.2).toInt 0 6)) : zs_ok (sn_it (LJ7_fill_53178_5 55 6 x1 x3) 5000 s0) (fun t => zs_C σ0 t) := by
  refine zs_it (I := fun s => (zs_C σ0 s.1 ∧ zs_in (s.2).toInt 0 6)) (m := fun s => 6 - s.2.toInt) (fun s hs => ?_) (fun s hs => ?_) (by exact h0)
  · have h1 := hs.2; unfold zs_in at h1
    omega
  · obtain ⟨b, eb, hb⟩ := zc_554 hs.1 h_x1 hs.2 h_x3 (c := s.2.toInt) (Int.add_zero _).symm
    exact ⟨b, eb, zs_sumw hb (fun v w => ⟨⟨w.1.1, (zs_w w.1.2 (by decide))⟩, by have := w.2; omega⟩) (fun v w => w)⟩
-- BJ7_fill_53178_20
theorem zc_555 {σ0 : sn_S} {σ : sn_S} (h_σ : zs_C σ0 σ) : zs_ok (BJ7_fill_53178_20 σ 55 6) (fun r => zs_C σ0 r) := by
  unfold BJ7_fill_53178_20
  exact zs_some h_σ
-- fJ7_fill_53178
theorem zc_556 {σ0 : sn_S} {σ : sn_S} (h_σ : zs_C σ0 σ) {x1 : Int32} (h_x1 : zs_in x1.toInt 0 0) : zs_ok (fJ7_fill_53178 σ 55 6 x1) (fun r => zs_C σ0 r) := by
  unfold fJ7_fill_53178
  obtain rfl : x1 = (0 : Int32) := zs_eqv h_x1 (by decide)
  refine zs_lt (Q := fun z => zs_in z.toInt 6 6) zlI_6 (fun y_1 hy_1 => ?_)
  refine zs_bd_ (zd_99 h_x1 hy_1 (s0 := (σ, (0 : Int32))) ⟨h_σ, (zs_w zlI_0 (by decide))⟩) (fun t_3 pt_3 => ?_)
  obtain ⟨ret, er, hr⟩ := zc_555 pt_3
  refine ⟨ret, er, ?_⟩
  exact hr
-- BJ7_fill_53178_5
theorem zc_557 {σ0 : sn_S} {σ : sn_S} (h_σ : zs_C σ0 σ) {x1 : Int32} (h_x1 : zs_in x1.toInt 0 0) {x2 : Int32} (h_x2 : zs_in x2.toInt 0 186) {x3 : Int32} (h_x3 : zs_in x3.toInt 186 186) {c : Int} (hc : x2.toInt = c + 0) : zs_ok (BJ7_fill_53178_5 σ 56 186 x1 x2 x3) (fun r => zs_sum (fun v => ((zs_C σ0 v.1 ∧ zs_in (v.2).toInt 1 186)) ∧ v.2.toInt = c + 1) (fun v => zs_C σ0 v) r) := by
  unfold BJ7_fill_53178_5
  obtain rfl : x1 = (0 : Int32) := zs_eqv h_x1 (by decide)
  obtain rfl : x3 = (186 : Int32) := zs_eqv h_x3 (by decide)
  refine zs_ite (fun c1 => ?_) (fun c1 => ?_)
  · skip
    have r2 := (zs_I_le c1)
    have g3 : zs_in (x2).toInt 186 186 := (zs_ler 186 186 r2 h_x3 h_x2 (by decide))
    exact zs_some (zs_inr (h_σ))
  · skip
    have r4 := (zs_I_len c1)
    have g5 : zs_in (x2).toInt 0 185 := (zs_ltl 0 185 r4 h_x2 h_x3 (by decide))
    refine zs_gd (zs_gin g5 (by decide)) ?_
    refine zs_lt (Q := fun z => zs_C σ0 z) (zs_wrt h_σ (fun _ => rfl) (fun _ => rfl)) (fun σ_3 hσ_3 => ?_)
    refine zs_lt (Q := fun z => zs_in z.toInt 1 186 ∧ z.toInt = c + 1) ⟨(zs_addI 1 186 g5 zlI_1 (by decide)), (zs_syI 1 hc g5 zlI_1 (by decide) (by decide))⟩ (fun y_5 hy_5 => ?_)
    exact zs_some (zs_inl ⟨⟨hσ_3, hy_5.1⟩, hy_5.2⟩)
theorem zd_100 {σ0 : sn_S} {x1 : Int32} (h_x1 : zs_in x1.toInt 0 0) {x3 : Int32} (h_x3 : zs_in x3.toInt 186 186) {s0 : (sn_S × Int32)} (h0 : (zs_C σ0 s0.1 ∧ zs_in (s0.2).toInt 0 186)) : zs_ok (sn_it (LJ7_fill_53178_5 56 186 x1 x3) 5000 s0) (fun t => zs_C σ0 t) := by
  refine zs_it (I := fun s => (zs_C σ0 s.1 ∧ zs_in (s.2).toInt 0 186)) (m := fun s => 186 - s.2.toInt) (fun s hs => ?_) (fun s hs => ?_) (by exact h0)
  · have h1 := hs.2; unfold zs_in at h1
    omega
  · obtain ⟨b, eb, hb⟩ := zc_557 hs.1 h_x1 hs.2 h_x3 (c := s.2.toInt) (Int.add_zero _).symm
    exact ⟨b, eb, zs_sumw hb (fun v w => ⟨⟨w.1.1, (zs_w w.1.2 (by decide))⟩, by have := w.2; omega⟩) (fun v w => w)⟩
-- BJ7_fill_53178_20
theorem zc_558 {σ0 : sn_S} {σ : sn_S} (h_σ : zs_C σ0 σ) : zs_ok (BJ7_fill_53178_20 σ 56 186) (fun r => zs_C σ0 r) := by
  unfold BJ7_fill_53178_20
  exact zs_some h_σ
-- fJ7_fill_53178
theorem zc_559 {σ0 : sn_S} {σ : sn_S} (h_σ : zs_C σ0 σ) {x1 : Int32} (h_x1 : zs_in x1.toInt 0 0) : zs_ok (fJ7_fill_53178 σ 56 186 x1) (fun r => zs_C σ0 r) := by
  unfold fJ7_fill_53178
  obtain rfl : x1 = (0 : Int32) := zs_eqv h_x1 (by decide)
  refine zs_lt (Q := fun z => zs_in z.toInt 186 186) zlI_186 (fun y_1 hy_1 => ?_)
  refine zs_bd_ (zd_100 h_x1 hy_1 (s0 := (σ, (0 : Int32))) ⟨h_σ, (zs_w zlI_0 (by decide))⟩) (fun t_3 pt_3 => ?_)
  obtain ⟨ret, er, hr⟩ := zc_558 pt_3
  refine ⟨ret, er, ?_⟩
  exact hr
-- fX7_forget
theorem zc_560 {σ0 : sn_S} {σ : sn_S} (h_σ : zs_C σ0 σ) : zs_ok (fX7_forget σ) (fun r => zs_C σ0 r) := by
  unfold fX7_forget
  refine zs_bd_ (zc_556 h_σ zlI_0) (fun t_1 pt_1 => ?_)
  refine zs_bd_ (zc_559 pt_1 zlI_0) (fun t_3 pt_3 => ?_)
  refine zs_lt (Q := fun z => zs_C σ0 z) (zs_wrt pt_3 (fun _ => rfl) (fun _ => rfl)) (fun σ_5 hσ_5 => ?_)
  refine zs_lt (Q := fun z => zs_C σ0 z) (zs_wrt hσ_5 (fun _ => rfl) (fun _ => rfl)) (fun σ_7 hσ_7 => ?_)
  refine zs_lt (Q := fun z => zs_C σ0 z) (zs_wrt hσ_7 (fun _ => rfl) (fun _ => rfl)) (fun σ_9 hσ_9 => ?_)
  exact zs_some hσ_9
-- BX8_seek_57
theorem zc_561 {σ0 : sn_S} {σ : sn_S} (h_σ : zs_C σ0 σ) {x1 : Int32} (h_x1 : zs_in x1.toInt 0 3) {x2 : Int32} (h_x2 : zs_in x2.toInt 0 60) {c : Int} (hc : x2.toInt = c + 0) : zs_ok (BX8_seek_57 σ x1 x2) (fun r => zs_sum (fun v => ((zs_C σ0 v.1 ∧ zs_in (v.2).toInt 2 60)) ∧ v.2.toInt = c + 2) (fun v => zs_sum (fun v => zs_C σ0 v) (fun v => (zs_in (v.1).toInt (-2) (-2) ∧ zs_C σ0 v.2)) v) r) := by
  unfold BX8_seek_57
  refine zs_gd (zs_gin h_x1 (by decide)) ?_
  refine zs_ite (fun c1 => ?_) (fun c1 => ?_)
  · skip
    have r2 := (zs_I_le c1)
    exact zs_some (zs_inr ((zs_inl (h_σ))))
  · skip
    have r3 := (zs_I_len c1)
    have g4 : zs_in ((x2 + (1 : Int32))).toInt 1 59 := (zs_ltl 1 59 r3 (zs_addI 1 61 h_x2 zlI_1 (by decide)) (zs_rdu (q := 26) (z := ((-1), 60)) h_σ.1 (fun _ => rfl)) (by decide))
    have g5 : zs_in (x2).toInt 0 58 := (zs_addlI 0 58 h_x2 zlI_1 g4 (by decide))
    have g6 : zs_in ((sn_I σ 26 x1.toNatClampNeg)).toInt 2 60 := (zs_ltr 2 60 r3 (zs_addI 1 61 h_x2 zlI_1 (by decide)) (zs_rdu (q := 26) (z := ((-1), 60)) h_σ.1 (fun _ => rfl)) (by decide))
    refine zs_gd (zs_gin h_x1 (by decide)) ?_
    refine zs_gd (zs_gin g5 (by decide)) ?_
    refine zs_lt (Q := fun z => True) trivial (fun y_5 hy_5 => ?_)
    refine zs_gd (zs_gin h_x1 (by decide)) ?_
    refine zs_gd (zs_gin g4 (by decide)) ?_
    refine zs_lt (Q := fun z => True) trivial (fun y_9 hy_9 => ?_)
    refine zs_ite (fun c7 => ?_) (fun c7 => ?_)
    · skip
      have r8 := (zs_lg_lt c7)
      have g9 : zs_in (y_5).toInt (-9223372036854775808) (-1) := (zs_ltl (-9223372036854775808) (-1) r8 (zs_topL _) zlL_0 (by decide))
      exact zs_some (zs_inr ((zs_inr (⟨zlI_m2, h_σ⟩))))
    · skip
      have r10 := (zs_lg_ltn c7)
      have g11 : zs_in (y_5).toInt 0 9223372036854775807 := (zs_ler 0 9223372036854775807 r10 zlL_0 (zs_topL _) (by decide))
      refine zs_ite (fun c12 => ?_) (fun c12 => ?_)
      · skip
        have r13 := (zs_lg_lef c12)
        exact zs_some (zs_inr ((zs_inr (⟨zlI_m2, h_σ⟩))))
      · skip
        have r14 := (zs_lg_lefn c12)
        have g15 : zs_in (y_5).toInt 0 5 := (zs_ltl 0 5 r14 g11 (zs_64 (zs_rdk (q := 27) (k := 1) (z := (0, 6)) h_σ.1 rfl)) (by decide))
        have g16 : zs_in ((sn_I σ 27 1).toInt64).toInt 1 6 := (zs_ltr 1 6 r14 g11 (zs_64 (zs_rdk (q := 27) (k := 1) (z := (0, 6)) h_σ.1 rfl)) (by decide))
        have g17 : zs_in ((sn_I σ 27 1)).toInt 1 6 := (zs_64r g16)
        refine zs_ite (fun c18 => ?_) (fun c18 => ?_)
        · skip
          have r19 := (zs_lg_lt c18)
          have g20 : zs_in (y_9).toInt (-9223372036854775808) (-1) := (zs_ltl (-9223372036854775808) (-1) r19 (zs_topL _) zlL_0 (by decide))
          exact zs_some (zs_inr ((zs_inr (⟨zlI_m2, h_σ⟩))))
        · skip
          have r21 := (zs_lg_ltn c18)
          have g22 : zs_in (y_9).toInt 0 9223372036854775807 := (zs_ler 0 9223372036854775807 r21 zlL_0 (zs_topL _) (by decide))
          refine zs_ite (fun c23 => ?_) (fun c23 => ?_)
          · skip
            have r24 := (zs_lg_lt c23)
            have g25 : zs_in (y_9).toInt 0 29 := (zs_ltl 0 29 r24 g22 (zs_64 (zs_rdk (q := 27) (k := 0) (z := (0, 30)) h_σ.1 rfl)) (by decide))
            have g26 : zs_in ((sn_I σ 27 0).toInt64).toInt 1 30 := (zs_ltr 1 30 r24 g22 (zs_64 (zs_rdk (q := 27) (k := 0) (z := (0, 30)) h_σ.1 rfl)) (by decide))
            have g27 : zs_in ((sn_I σ 27 0)).toInt 1 30 := (zs_64r g26)
            refine zs_gd (zs_gin (zs_32 g15 (by decide)) (by decide)) ?_
            refine zs_gd (zs_gin (zs_32 g15 (by decide)) (by decide)) ?_
            refine zs_lt (Q := fun z => zs_C σ0 z) (zs_wrt h_σ (fun _ => rfl) (fun _ => rfl)) (fun σ_17 hσ_17 => ?_)
            refine zs_lt (Q := fun z => zs_in z.toInt 2 60 ∧ z.toInt = c + 2) ⟨(zs_addI 2 60 g5 zlI_2 (by decide)), (zs_syI 2 hc g5 zlI_2 (by decide) (by decide))⟩ (fun y_19 hy_19 => ?_)
            exact zs_some (zs_inl ⟨⟨hσ_17, hy_19.1⟩, hy_19.2⟩)
          · skip
            have r28 := (zs_lg_ltn c23)
            exact zs_some (zs_inr ((zs_inr (⟨zlI_m2, h_σ⟩))))
theorem zd_101 {σ0 : sn_S} {x1 : Int32} (h_x1 : zs_in x1.toInt 0 3) {s0 : (sn_S × Int32)} (h0 : (zs_C σ0 s0.1 ∧ zs_in (s0.2).toInt 0 60)) : zs_ok (sn_it (LX8_seek_57 x1) 5000 s0) (fun t => zs_sum (fun v => zs_C σ0 v) (fun v => (zs_in (v.1).toInt (-2) (-2) ∧ zs_C σ0 v.2)) t) := by
  refine zs_it (I := fun s => (zs_C σ0 s.1 ∧ zs_in (s.2).toInt 0 60)) (m := fun s => 60 - s.2.toInt) (fun s hs => ?_) (fun s hs => ?_) (by exact h0)
  · have h1 := hs.2; unfold zs_in at h1
    omega
  · obtain ⟨b, eb, hb⟩ := zc_561 hs.1 h_x1 hs.2 (c := s.2.toInt) (Int.add_zero _).symm
    exact ⟨b, eb, zs_sumw hb (fun v w => ⟨⟨w.1.1, (zs_w w.1.2 (by decide))⟩, by have := w.2; omega⟩) (fun v w => w)⟩
-- BX7_meets_2
theorem zc_562 {σ0 : sn_S} {σ : sn_S} (h_σ : zs_C σ0 σ) {x2 : Int32} (h_x2 : zs_in x2.toInt 0 536870911) {x3 : Int32} (h_x3 : zs_in x3.toInt 0 6) {c : Int} (hc : x3.toInt = c + 0) : zs_ok (BX7_meets_2 σ 38 x2 x3) (fun r => zs_sum (fun v => (zs_in (v).toInt 1 6) ∧ v.toInt = c + 1) (fun v => zs_sum (fun v => True) (fun v => zs_in (v).toInt 0 0) v) r) := by
  unfold BX7_meets_2
  refine zs_ite (fun c1 => ?_) (fun c1 => ?_)
  · skip
    have r2 := (zs_I_le c1)
    exact zs_some (zs_inr ((zs_inl (trivial))))
  · skip
    have r3 := (zs_I_len c1)
    have g4 : zs_in (x3).toInt 0 5 := (zs_ltl 0 5 r3 h_x3 (zs_rdk (q := 38) (k := 1) (z := (0, 6)) h_σ.1 rfl) (by decide))
    have g5 : zs_in ((sn_I σ 38 1)).toInt 1 6 := (zs_ltr 1 6 r3 h_x3 (zs_rdk (q := 38) (k := 1) (z := (0, 6)) h_σ.1 rfl) (by decide))
    refine zs_gd (zs_gin g4 (by decide)) ?_
    refine zs_gd (zs_gin g4 (by decide)) ?_
    refine zs_ite (fun c6 => ?_) (fun c6 => ?_)
    · skip
      have r7 := (zs_I_eq c6)
      have g8 : zs_in ((((sn_I σ 55 x3.toNatClampNeg) &&& x2) &&& ((sn_I σ (38 + 10) x3.toNatClampNeg) ^^^ (-1 : Int32)))).toInt 0 0 := (zs_eql 0 0 r7 (zs_and2 (zs_and h_x2 (by decide)) (by decide)) zlI_0 (by decide))
      refine zs_lt (Q := fun z => zs_in z.toInt 1 6 ∧ z.toInt = c + 1) ⟨(zs_addI 1 6 g4 zlI_1 (by decide)), (zs_syI 1 hc g4 zlI_1 (by decide) (by decide))⟩ (fun y_5 hy_5 => ?_)
      exact zs_some (zs_inl ⟨hy_5.1, hy_5.2⟩)
    · skip
      have r9 := (zs_I_eqn c6)
      have g10 : zs_in ((((sn_I σ 55 x3.toNatClampNeg) &&& x2) &&& ((sn_I σ (38 + 10) x3.toNatClampNeg) ^^^ (-1 : Int32)))).toInt 1 536870911 := (zs_nel 1 536870911 r9 (zs_and2 (zs_and h_x2 (by decide)) (by decide)) zlI_0 (by decide))
      refine zs_gd (zs_b01 zlI_0 (by decide)) ?_
      exact zs_some (zs_inr ((zs_inr (zlI_0))))
theorem zd_102 {σ0 : sn_S} {σ : sn_S} (h_σ : zs_C σ0 σ) {x2 : Int32} (h_x2 : zs_in x2.toInt 0 536870911) {s0 : Int32} (h0 : zs_in (s0).toInt 0 6) : zs_ok (sn_it (LX7_meets_2 σ 38 x2) 5000 s0) (fun t => zs_sum (fun v => True) (fun v => zs_in (v).toInt 0 0) t) := by
  refine zs_it (I := fun s => zs_in (s).toInt 0 6) (m := fun s => 6 - s.toInt) (fun s hs => ?_) (fun s hs => ?_) (by exact h0)
  · have h1 := hs; unfold zs_in at h1
    omega
  · obtain ⟨b, eb, hb⟩ := zc_562 h_σ h_x2 hs (c := s.toInt) (Int.add_zero _).symm
    exact ⟨b, eb, zs_sumw hb (fun v w => ⟨(zs_w w.1 (by decide)), by have := w.2; omega⟩) (fun v w => w)⟩
-- BX7_meets_38
theorem zc_563 {σ0 : sn_S} {σ : sn_S} (h_σ : zs_C σ0 σ) : zs_ok (BX7_meets_38 σ 38) (fun r => zs_in (r).toInt 1 1) := by
  unfold BX7_meets_38
  refine zs_gd (zs_b01 zlI_1 (by decide)) ?_
  exact zs_some zlI_1
-- fX7_meets
theorem zc_564 {σ0 : sn_S} {σ : sn_S} (h_σ : zs_C σ0 σ) {x2 : Int32} (h_x2 : zs_in x2.toInt 0 536870911) : zs_ok (fX7_meets σ 38 x2) (fun r => zs_in (r).toInt 0 1) := by
  unfold fX7_meets
  refine zs_bd_ (zd_102 h_σ h_x2 (s0 := (0 : Int32)) (zs_w zlI_0 (by decide))) (fun t_1 pt_1 => ?_)
  refine zs_elim pt_1 (fun v_3 pv_3 => ?_) (fun r_4 pr_4 => ?_)
  · skip
    obtain ⟨ret, er, hr⟩ := zc_563 h_σ
    refine ⟨ret, er, ?_⟩
    exact (zs_w hr (by decide))
  · skip
    exact zs_some (zs_w pr_4 (by decide))
-- BX7_meets_2
theorem zc_565 {σ0 : sn_S} {σ : sn_S} (h_σ : zs_C σ0 σ) {x2 : Int32} (h_x2 : zs_in x2.toInt 0 1073741823) {x3 : Int32} (h_x3 : zs_in x3.toInt 0 6) {c : Int} (hc : x3.toInt = c + 0) : zs_ok (BX7_meets_2 σ 38 x2 x3) (fun r => zs_sum (fun v => (zs_in (v).toInt 1 6) ∧ v.toInt = c + 1) (fun v => zs_sum (fun v => True) (fun v => zs_in (v).toInt 0 0) v) r) := by
  unfold BX7_meets_2
  refine zs_ite (fun c1 => ?_) (fun c1 => ?_)
  · skip
    have r2 := (zs_I_le c1)
    exact zs_some (zs_inr ((zs_inl (trivial))))
  · skip
    have r3 := (zs_I_len c1)
    have g4 : zs_in (x3).toInt 0 5 := (zs_ltl 0 5 r3 h_x3 (zs_rdk (q := 38) (k := 1) (z := (0, 6)) h_σ.1 rfl) (by decide))
    have g5 : zs_in ((sn_I σ 38 1)).toInt 1 6 := (zs_ltr 1 6 r3 h_x3 (zs_rdk (q := 38) (k := 1) (z := (0, 6)) h_σ.1 rfl) (by decide))
    refine zs_gd (zs_gin g4 (by decide)) ?_
    refine zs_gd (zs_gin g4 (by decide)) ?_
    refine zs_ite (fun c6 => ?_) (fun c6 => ?_)
    · skip
      have r7 := (zs_I_eq c6)
      have g8 : zs_in ((((sn_I σ 55 x3.toNatClampNeg) &&& x2) &&& ((sn_I σ (38 + 10) x3.toNatClampNeg) ^^^ (-1 : Int32)))).toInt 0 0 := (zs_eql 0 0 r7 (zs_and2 (zs_and h_x2 (by decide)) (by decide)) zlI_0 (by decide))
      refine zs_lt (Q := fun z => zs_in z.toInt 1 6 ∧ z.toInt = c + 1) ⟨(zs_addI 1 6 g4 zlI_1 (by decide)), (zs_syI 1 hc g4 zlI_1 (by decide) (by decide))⟩ (fun y_5 hy_5 => ?_)
      exact zs_some (zs_inl ⟨hy_5.1, hy_5.2⟩)
    · skip
      have r9 := (zs_I_eqn c6)
      have g10 : zs_in ((((sn_I σ 55 x3.toNatClampNeg) &&& x2) &&& ((sn_I σ (38 + 10) x3.toNatClampNeg) ^^^ (-1 : Int32)))).toInt 1 1073741823 := (zs_nel 1 1073741823 r9 (zs_and2 (zs_and h_x2 (by decide)) (by decide)) zlI_0 (by decide))
      refine zs_gd (zs_b01 zlI_0 (by decide)) ?_
      exact zs_some (zs_inr ((zs_inr (zlI_0))))
theorem zd_103 {σ0 : sn_S} {σ : sn_S} (h_σ : zs_C σ0 σ) {x2 : Int32} (h_x2 : zs_in x2.toInt 0 1073741823) {s0 : Int32} (h0 : zs_in (s0).toInt 0 6) : zs_ok (sn_it (LX7_meets_2 σ 38 x2) 5000 s0) (fun t => zs_sum (fun v => True) (fun v => zs_in (v).toInt 0 0) t) := by
  refine zs_it (I := fun s => zs_in (s).toInt 0 6) (m := fun s => 6 - s.toInt) (fun s hs => ?_) (fun s hs => ?_) (by exact h0)
  · have h1 := hs; unfold zs_in at h1
    omega
  · obtain ⟨b, eb, hb⟩ := zc_565 h_σ h_x2 hs (c := s.toInt) (Int.add_zero _).symm
    exact ⟨b, eb, zs_sumw hb (fun v w => ⟨(zs_w w.1 (by decide)), by have := w.2; omega⟩) (fun v w => w)⟩
-- fX7_meets
theorem zc_566 {σ0 : sn_S} {σ : sn_S} (h_σ : zs_C σ0 σ) {x2 : Int32} (h_x2 : zs_in x2.toInt 0 1073741823) : zs_ok (fX7_meets σ 38 x2) (fun r => zs_in (r).toInt 0 1) := by
  unfold fX7_meets
  refine zs_bd_ (zd_103 h_σ h_x2 (s0 := (0 : Int32)) (zs_w zlI_0 (by decide))) (fun t_1 pt_1 => ?_)
  refine zs_elim pt_1 (fun v_3 pv_3 => ?_) (fun r_4 pr_4 => ?_)
  · skip
    obtain ⟨ret, er, hr⟩ := zc_563 h_σ
    refine ⟨ret, er, ?_⟩
    exact (zs_w hr (by decide))
  · skip
    exact zs_some (zs_w pr_4 (by decide))
-- BX7_seekIn_85
theorem zc_567 {σ0 : sn_S} {σ : sn_S} (h_σ : zs_C σ0 σ) {x3 : Int32} (h_x3 : zs_in x3.toInt 0 29) {x4 : Int32} (h_x4 : zs_in x4.toInt 1 9) {c : Int} (hc : x4.toInt = c + 0) : zs_ok (BX7_seekIn_85 σ 27 38 x3 x4) (fun r => zs_sum (fun v => ((zs_C σ0 v.1 ∧ zs_in (v.2).toInt 2 10)) ∧ v.2.toInt = c + 1) (fun v => False) r) := by
  unfold BX7_seekIn_85
  refine zs_lt (Q := fun z => zs_in z.toInt 2 10 ∧ z.toInt = c + 1) ⟨(zs_addI 2 10 h_x4 zlI_1 (by decide)), (zs_syI 1 hc h_x4 zlI_1 (by decide) (by decide))⟩ (fun y_1 hy_1 => ?_)
  exact zs_some (zs_inl ⟨⟨h_σ, hy_1.1⟩, hy_1.2⟩)
-- BX7_note_42
theorem zc_568 {σ0 : sn_S} {σ : sn_S} (h_σ : zs_C σ0 σ) {x4 : Int32} (h_x4 : zs_in x4.toInt 0 6) {c : Int} (hc : x4.toInt = c + 0) : zs_ok (BX7_note_42 σ 38 x4) (fun r => zs_sum (fun v => ((zs_C σ0 v.1 ∧ zs_in (v.2).toInt 1 6)) ∧ v.2.toInt = c + 1) (fun v => zs_C σ0 v) r) := by
  unfold BX7_note_42
  refine zs_ite (fun c1 => ?_) (fun c1 => ?_)
  · skip
    have r2 := (zs_I_le c1)
    exact zs_some (zs_inr (h_σ))
  · skip
    have r3 := (zs_I_len c1)
    have g4 : zs_in (x4).toInt 0 5 := (zs_ltl 0 5 r3 h_x4 (zs_rdk (q := 38) (k := 1) (z := (0, 6)) h_σ.1 rfl) (by decide))
    have g5 : zs_in ((sn_I σ 38 1)).toInt 1 6 := (zs_ltr 1 6 r3 h_x4 (zs_rdk (q := 38) (k := 1) (z := (0, 6)) h_σ.1 rfl) (by decide))
    refine zs_gd (zs_gin g4 (by decide)) ?_
    refine zs_bd_ (zo_bc 30 30 (by decide) (zs_rdu (q := 48) (z := (0, 1073741823)) h_σ.1 (fun _ => rfl))) (fun t_3 pt_3 => ?_)
    refine zs_gd (zs_gin (zs_addI 0 185 (zs_mulI 0 155 zlI_31 g4 (by decide)) pt_3 (by decide)) (by decide)) ?_
    refine zs_gd (zs_gin (zs_addI 0 185 (zs_mulI 0 155 zlI_31 g4 (by decide)) pt_3 (by decide)) (by decide)) ?_
    refine zs_lt (Q := fun z => zs_C σ0 z) (zs_wrt h_σ (fun _ => rfl) (fun _ => rfl)) (fun σ_7 hσ_7 => ?_)
    refine zs_lt (Q := fun z => zs_in z.toInt 1 6 ∧ z.toInt = c + 1) ⟨(zs_addI 1 6 g4 zlI_1 (by decide)), (zs_syI 1 hc g4 zlI_1 (by decide) (by decide))⟩ (fun y_9 hy_9 => ?_)
    exact zs_some (zs_inl ⟨⟨hσ_7, hy_9.1⟩, hy_9.2⟩)
theorem zd_104 {σ0 : sn_S}  {s0 : (sn_S × Int32)} (h0 : (zs_C σ0 s0.1 ∧ zs_in (s0.2).toInt 0 6)) : zs_ok (sn_it (LX7_note_42 38) 5000 s0) (fun t => zs_C σ0 t) := by
  refine zs_it (I := fun s => (zs_C σ0 s.1 ∧ zs_in (s.2).toInt 0 6)) (m := fun s => 6 - s.2.toInt) (fun s hs => ?_) (fun s hs => ?_) (by exact h0)
  · have h1 := hs.2; unfold zs_in at h1
    omega
  · obtain ⟨b, eb, hb⟩ := zc_568 hs.1 hs.2 (c := s.2.toInt) (Int.add_zero _).symm
    exact ⟨b, eb, zs_sumw hb (fun v w => ⟨⟨w.1.1, (zs_w w.1.2 (by decide))⟩, by have := w.2; omega⟩) (fun v w => w)⟩
-- BX7_note_82
theorem zc_569 {σ0 : sn_S} {σ : sn_S} (h_σ : zs_C σ0 σ) : zs_ok (BX7_note_82 σ 38) (fun r => zs_C σ0 r) := by
  unfold BX7_note_82
  exact zs_some h_σ
-- BX7_note_17
theorem zc_570 {σ0 : sn_S} {σ : sn_S} (h_σ : zs_C σ0 σ) {x2 : Int32} (h_x2 : zs_in x2.toInt 0 29) : zs_ok (BX7_note_17 σ 38 x2) (fun r => zs_C σ0 r) := by
  unfold BX7_note_17
  refine zs_lt (Q := fun z => zs_C σ0 z) (zs_wrt h_σ (fun _ => rfl) (fun _ => rfl)) (fun σ_1 hσ_1 => ?_)
  refine zs_lt (Q := fun z => zs_C σ0 z) (zs_wrt hσ_1 (fun _ => rfl) (fun _ => rfl)) (fun σ_3 hσ_3 => ?_)
  refine zs_bd_ (zd_104  (s0 := (σ_3, (0 : Int32))) ⟨hσ_3, (zs_w zlI_0 (by decide))⟩) (fun t_5 pt_5 => ?_)
  obtain ⟨ret, er, hr⟩ := zc_569 pt_5
  refine ⟨ret, er, ?_⟩
  exact hr
-- fX7_note
theorem zc_571 {σ0 : sn_S} {σ : sn_S} (h_σ : zs_C σ0 σ) {x2 : Int32} (h_x2 : zs_in x2.toInt 0 29) {x3 : Int32} (h_x3 : zs_in x3.toInt 1 9) : zs_ok (fX7_note σ 38 x2 x3) (fun r => zs_C σ0 r) := by
  unfold fX7_note
  refine zs_ite (fun c1 => ?_) (fun c1 => ?_)
  · skip
    have r2 := (zs_I_eq c1)
    have g3 : zs_in ((sn_I σ 54 1)).toInt 0 0 := (zs_eql 0 0 r2 (zs_topI _) zlI_0 (by decide))
    refine zs_lt (Q := fun z => zs_C σ0 z) (zs_wrt h_σ (fun _ => rfl) (fun _ => rfl)) (fun σ_2 hσ_2 => ?_)
    obtain ⟨ret, er, hr⟩ := zc_570 hσ_2 h_x2
    refine ⟨ret, er, ?_⟩
    exact hr
  · skip
    have r4 := (zs_I_eqn c1)
    obtain ⟨ret, er, hr⟩ := zc_570 h_σ h_x2
    refine ⟨ret, er, ?_⟩
    exact hr
-- BX7_seekIn_31
theorem zc_572 {σ0 : sn_S} {σ : sn_S} (h_σ : zs_C σ0 σ) {x3 : Int32} (h_x3 : zs_in x3.toInt 0 29) {x4 : Int32} (h_x4 : zs_in x4.toInt 1 10) {c : Int} (hc : x4.toInt = c + 0) : zs_ok (BX7_seekIn_31 σ 27 38 x3 x4) (fun r => zs_sum (fun v => ((zs_C σ0 v.1 ∧ zs_in (v.2).toInt 2 10)) ∧ v.2.toInt = c + 1) (fun v => zs_C σ0 v) r) := by
  unfold BX7_seekIn_31
  refine zs_ite (fun c1 => ?_) (fun c1 => ?_)
  · skip
    have r2 := (zs_I_lt c1)
    have g3 : zs_in (x4).toInt 10 10 := (zs_ltr 10 10 r2 zlI_9 h_x4 (by decide))
    exact zs_some (zs_inr (h_σ))
  · skip
    have r4 := (zs_I_ltn c1)
    have g5 : zs_in (x4).toInt 1 9 := (zs_lel 1 9 r4 h_x4 zlI_9 (by decide))
    refine zs_gd (zs_gin h_x3 (by decide)) ?_
    refine zs_gd (zs_gin h_x3 (by decide)) ?_
    refine zs_lt (Q := fun z => zs_C σ0 z) (zs_wrt h_σ (fun _ => rfl) (fun _ => rfl)) (fun σ_4 hσ_4 => ?_)
    refine zs_bd_ (zc_533 hσ_4 h_x3 (zs_rdk (q := 27) (k := 0) (z := (0, 30)) hσ_4.1 rfl)) (fun t_6 pt_6 => ?_)
    refine zs_bd_ (zc_196 (zs_rdk (q := 27) (k := 0) (z := (0, 30)) pt_6.1 rfl)) (fun t_8 pt_8 => ?_)
    refine zs_bd_ (zc_566 pt_6 pt_8) (fun t_10 pt_10 => ?_)
    refine zs_ite (fun c6 => ?_) (fun c6 => ?_)
    · skip
      have r7 := (zs_I_eq c6)
      have g8 : zs_in (t_10).toInt 0 0 := (zs_eql 0 0 r7 pt_10 zlI_0 (by decide))
      obtain ⟨ret, er, hr⟩ := zc_567 pt_6 h_x3 g5 hc
      refine ⟨ret, er, ?_⟩
      exact (zs_sumw hr (fun v w => ⟨w.1, w.2⟩) (fun v w => w.elim))
    · skip
      have r9 := (zs_I_eqn c6)
      have g10 : zs_in (t_10).toInt 1 1 := (zs_nel 1 1 r9 pt_10 zlI_0 (by decide))
      refine zs_bd_ (zc_571 pt_6 h_x3 g5) (fun t_13 pt_13 => ?_)
      obtain ⟨ret, er, hr⟩ := zc_567 pt_13 h_x3 g5 hc
      refine ⟨ret, er, ?_⟩
      exact (zs_sumw hr (fun v w => ⟨w.1, w.2⟩) (fun v w => w.elim))
theorem zd_105 {σ0 : sn_S} {x3 : Int32} (h_x3 : zs_in x3.toInt 0 29) {s0 : (sn_S × Int32)} (h0 : (zs_C σ0 s0.1 ∧ zs_in (s0.2).toInt 1 10)) : zs_ok (sn_it (LX7_seekIn_31 27 38 x3) 5000 s0) (fun t => zs_C σ0 t) := by
  refine zs_it (I := fun s => (zs_C σ0 s.1 ∧ zs_in (s.2).toInt 1 10)) (m := fun s => 10 - s.2.toInt) (fun s hs => ?_) (fun s hs => ?_) (by exact h0)
  · have h1 := hs.2; unfold zs_in at h1
    omega
  · obtain ⟨b, eb, hb⟩ := zc_572 hs.1 h_x3 hs.2 (c := s.2.toInt) (Int.add_zero _).symm
    exact ⟨b, eb, zs_sumw hb (fun v w => ⟨⟨w.1.1, (zs_w w.1.2 (by decide))⟩, by have := w.2; omega⟩) (fun v w => w)⟩
-- BX7_seekIn_91
theorem zc_573 {σ0 : sn_S} {σ : sn_S} (h_σ : zs_C σ0 σ) {x3 : Int32} (h_x3 : zs_in x3.toInt 0 29) {c : Int} (hc : x3.toInt = c + 0) : zs_ok (BX7_seekIn_91 σ 27 38 x3) (fun r => zs_sum (fun v => ((zs_C σ0 v.1 ∧ zs_in (v.2).toInt 1 30)) ∧ v.2.toInt = c + 1) (fun v => False) r) := by
  unfold BX7_seekIn_91
  refine zs_gd (zs_gin h_x3 (by decide)) ?_
  refine zs_gd (zs_gin h_x3 (by decide)) ?_
  refine zs_lt (Q := fun z => zs_C σ0 z) (zs_wrt h_σ (fun _ => rfl) (fun _ => rfl)) (fun σ_3 hσ_3 => ?_)
  refine zs_bd_ (zc_537 hσ_3 h_x3 (zs_addI 1 30 h_x3 zlI_1 (by decide))) (fun t_5 pt_5 => ?_)
  refine zs_lt (Q := fun z => zs_in z.toInt 1 30 ∧ z.toInt = c + 1) ⟨(zs_addI 1 30 h_x3 zlI_1 (by decide)), (zs_syI 1 hc h_x3 zlI_1 (by decide) (by decide))⟩ (fun y_7 hy_7 => ?_)
  exact zs_some (zs_inl ⟨⟨pt_5, hy_7.1⟩, hy_7.2⟩)
-- BX7_seekIn_7
theorem zc_574 {σ0 : sn_S} {σ : sn_S} (h_σ : zs_C σ0 σ) {x3 : Int32} (h_x3 : zs_in x3.toInt 0 30) {c : Int} (hc : x3.toInt = c + 0) : zs_ok (BX7_seekIn_7 σ 27 38 x3) (fun r => zs_sum (fun v => ((zs_C σ0 v.1 ∧ zs_in (v.2).toInt 1 30)) ∧ v.2.toInt = c + 1) (fun v => zs_sum (fun v => zs_C σ0 v) (fun v => zs_C σ0 v) v) r) := by
  unfold BX7_seekIn_7
  refine zs_ite (fun c1 => ?_) (fun c1 => ?_)
  · skip
    have r2 := (zs_I_le c1)
    exact zs_some (zs_inr ((zs_inl (h_σ))))
  · skip
    have r3 := (zs_I_len c1)
    have g4 : zs_in (x3).toInt 0 29 := (zs_ltl 0 29 r3 h_x3 (zs_rdk (q := 27) (k := 0) (z := (0, 30)) h_σ.1 rfl) (by decide))
    have g5 : zs_in ((sn_I σ 27 0)).toInt 1 30 := (zs_ltr 1 30 r3 h_x3 (zs_rdk (q := 27) (k := 0) (z := (0, 30)) h_σ.1 rfl) (by decide))
    refine zs_bd_ (zc_187 g4) (fun t_2 pt_2 => ?_)
    refine zs_bd_ (zc_564 h_σ pt_2) (fun t_4 pt_4 => ?_)
    refine zs_ite (fun c6 => ?_) (fun c6 => ?_)
    · skip
      have r7 := (zs_I_eq c6)
      have g8 : zs_in (t_4).toInt 0 0 := (zs_eql 0 0 r7 pt_4 zlI_0 (by decide))
      exact zs_some (zs_inr ((zs_inr (h_σ))))
    · skip
      have r9 := (zs_I_eqn c6)
      have g10 : zs_in (t_4).toInt 1 1 := (zs_nel 1 1 r9 pt_4 zlI_0 (by decide))
      refine zs_bd_ (zd_105 g4 (s0 := (σ, (1 : Int32))) ⟨h_σ, (zs_w zlI_1 (by decide))⟩) (fun t_7 pt_7 => ?_)
      obtain ⟨ret, er, hr⟩ := zc_573 pt_7 g4 hc
      refine ⟨ret, er, ?_⟩
      exact (zs_sumw hr (fun v w => ⟨w.1, w.2⟩) (fun v w => w.elim))
theorem zd_106 {σ0 : sn_S}  {s0 : (sn_S × Int32)} (h0 : (zs_C σ0 s0.1 ∧ zs_in (s0.2).toInt 0 30)) : zs_ok (sn_it (LX7_seekIn_7 27 38) 5000 s0) (fun t => zs_sum (fun v => zs_C σ0 v) (fun v => zs_C σ0 v) t) := by
  refine zs_it (I := fun s => (zs_C σ0 s.1 ∧ zs_in (s.2).toInt 0 30)) (m := fun s => 30 - s.2.toInt) (fun s hs => ?_) (fun s hs => ?_) (by exact h0)
  · have h1 := hs.2; unfold zs_in at h1
    omega
  · obtain ⟨b, eb, hb⟩ := zc_574 hs.1 hs.2 (c := s.2.toInt) (Int.add_zero _).symm
    exact ⟨b, eb, zs_sumw hb (fun v w => ⟨⟨w.1.1, (zs_w w.1.2 (by decide))⟩, by have := w.2; omega⟩) (fun v w => w)⟩
-- BX7_seekIn_117
theorem zc_575 {σ0 : sn_S} {σ : sn_S} (h_σ : zs_C σ0 σ) : zs_ok (BX7_seekIn_117 σ 27 38) (fun r => zs_C σ0 r) := by
  unfold BX7_seekIn_117
  exact zs_some h_σ
-- fX7_seekIn
theorem zc_576 {σ0 : sn_S} {σ : sn_S} (h_σ : zs_C σ0 σ) : zs_ok (fX7_seekIn σ 27 38) (fun r => zs_C σ0 r) := by
  unfold fX7_seekIn
  refine zs_bd_ (zo_dcopy h_σ) (fun t_1 pt_1 => ?_)
  refine zs_bd_ (zd_106  (s0 := (t_1, (0 : Int32))) ⟨pt_1, (zs_w zlI_0 (by decide))⟩) (fun t_3 pt_3 => ?_)
  refine zs_elim pt_3 (fun v_5 pv_5 => ?_) (fun r_6 pr_6 => ?_)
  · skip
    obtain ⟨ret, er, hr⟩ := zc_575 pv_5
    refine ⟨ret, er, ?_⟩
    exact hr
  · skip
    exact zs_some pr_6
-- BX8_seek_166
theorem zc_577 {σ0 : sn_S} {σ : sn_S} (h_σ : zs_C σ0 σ) : zs_ok (BX8_seek_166 σ) (fun r => (zs_in (r.1).toInt 0 0 ∧ zs_C σ0 r.2)) := by
  unfold BX8_seek_166
  refine zs_bd_ (zc_576 h_σ) (fun t_1 pt_1 => ?_)
  exact zs_some ⟨zlI_0, pt_1⟩
-- fX8_seek
theorem zc_578 {σ0 : sn_S} {σ : sn_S} (h_σ : zs_C σ0 σ) {x1 : Int32} : zs_ok (fX8_seek σ x1) (fun r => ((zs_in (r.1).toInt (-6) 0 ∧ zs_C σ0 r.2)) ∧ ((r.1).toInt = (-2) ∨ (zs_in (x1).toInt 0 3))) := by
  unfold fX8_seek
  refine zs_bd_ (zc_552) (fun t_1 pt_1 => ?_)
  refine zs_ite (fun c1 => ?_) (fun c1 => ?_)
  · skip
    have r2 := (zs_I_eq c1)
    have g3 : zs_in (t_1).toInt 0 0 := (zs_eql 0 0 r2 pt_1.1 zlI_0 (by decide))
    exact zs_some ⟨⟨(zs_w zlI_m2 (by decide)), h_σ⟩, Or.inl (zs_ptr zlI_m2)⟩
  · skip
    have r4 := (zs_I_eqn c1)
    have g5 : zs_in (t_1).toInt 1 1 := (zs_nel 1 1 r4 pt_1.1 zlI_0 (by decide))
    have q6 := (zs_or2 pt_1.2 g5 (by decide))
    have g7 : zs_in (x1).toInt 0 3 := q6
    refine zs_bd_ (zc_102 h_σ) (fun t_4 pt_4 => ?_)
    refine zs_ite (fun c8 => ?_) (fun c8 => ?_)
    · skip
      have r9 := (zs_I_eq c8)
      have g10 : zs_in (t_4).toInt 0 0 := (zs_eql 0 0 r9 pt_4 zlI_0 (by decide))
      exact zs_some ⟨⟨(zs_w zlI_m2 (by decide)), h_σ⟩, Or.inl (zs_ptr zlI_m2)⟩
    · skip
      have r11 := (zs_I_eqn c8)
      have g12 : zs_in (t_4).toInt 1 1 := (zs_nel 1 1 r11 pt_4 zlI_0 (by decide))
      refine zs_bd_ (zc_553 h_σ g7) (fun t_7 pt_7 => ?_)
      refine zs_ite (fun c13 => ?_) (fun c13 => ?_)
      · skip
        have r14 := (zs_I_eq c13)
        have g15 : zs_in (t_7).toInt 0 0 := (zs_eql 0 0 r14 pt_7 zlI_0 (by decide))
        exact zs_some ⟨⟨(zs_w zlI_m6 (by decide)), h_σ⟩, Or.inr g7⟩
      · skip
        have r16 := (zs_I_eqn c13)
        have g17 : zs_in (t_7).toInt 1 1 := (zs_nel 1 1 r16 pt_7 zlI_0 (by decide))
        refine zs_gd (zs_gin g7 (by decide)) ?_
        refine zs_ite (fun c18 => ?_) (fun c18 => ?_)
        · skip
          have r19 := (zs_I_eq c18)
          have g20 : zs_in (((sn_I σ 26 x1.toNatClampNeg) - (((sn_I σ 26 x1.toNatClampNeg) / (2 : Int32)) * (2 : Int32)))).toInt 0 0 := (zs_eql 0 0 r19 (zs_topI _) zlI_0 (by decide))
          refine zs_bd_ (zc_560 h_σ) (fun t_12 pt_12 => ?_)
          refine zs_bd_ (zd_101 g7 (s0 := (t_12, (0 : Int32))) ⟨pt_12, (zs_w zlI_0 (by decide))⟩) (fun t_14 pt_14 => ?_)
          refine zs_elim pt_14 (fun v_16 pv_16 => ?_) (fun r_17 pr_17 => ?_)
          · skip
            obtain ⟨ret, er, hr⟩ := zc_577 pv_16
            refine ⟨ret, er, ?_⟩
            exact ⟨⟨(zs_w hr.1 (by decide)), hr.2⟩, Or.inr g7⟩
          · skip
            exact zs_some ⟨⟨(zs_w pr_17.1 (by decide)), pr_17.2⟩, Or.inl (zs_ptr pr_17.1)⟩
        · skip
          have r21 := (zs_I_eqn c18)
          exact zs_some ⟨⟨(zs_w zlI_m2 (by decide)), h_σ⟩, Or.inl (zs_ptr zlI_m2)⟩
-- fX8_which
theorem zc_579 {σ0 : sn_S} {σ : sn_S} (h_σ : zs_C σ0 σ) {x1 : Int32} : zs_ok (fX8_which σ x1) (fun r => ((True ∧ zs_C σ0 r.2)) ∧ ((r.1).toInt = (-2) ∨ (zs_in (x1).toInt 0 3))) := by
  unfold fX8_which
  refine zs_bd_ (zc_578 h_σ) (fun t_1 pt_1 => ?_)
  refine zs_ite (fun c1 => ?_) (fun c1 => ?_)
  · skip
    have r2 := (zs_I_eq c1)
    have g3 : zs_in (t_1.1).toInt 0 0 := (zs_eql 0 0 r2 pt_1.1.1 zlI_0 (by decide))
    have q4 := (zs_or2 pt_1.2 g3 (by decide))
    have g5 : zs_in (x1).toInt 0 3 := q4
    exact zs_some ⟨⟨trivial, pt_1.1.2⟩, Or.inr g5⟩
  · skip
    have r6 := (zs_I_eqn c1)
    have g7 : zs_in (t_1.1).toInt (-6) (-1) := (zs_neh (-6) (-1) r6 pt_1.1.1 zlI_0 (by decide))
    rcases pt_1.2 with z0 | z0
    · skip
      have g8 : zs_in (t_1.1).toInt (-2) (-2) := (zs_pt z0)
      exact zs_some ⟨⟨trivial, pt_1.1.2⟩, Or.inl (zs_ptr g8)⟩
    · skip
      have q9 := z0
      have g10 : zs_in (x1).toInt 0 3 := q9
      exact zs_some ⟨⟨trivial, pt_1.1.2⟩, Or.inr g10⟩
-- fX8_when
theorem zc_580 {σ0 : sn_S} {σ : sn_S} (h_σ : zs_C σ0 σ) {x1 : Int32} : zs_ok (fX8_when σ x1) (fun r => ((True ∧ zs_C σ0 r.2)) ∧ ((r.1).toInt = (-2) ∨ (zs_in (x1).toInt 0 3))) := by
  unfold fX8_when
  refine zs_bd_ (zc_578 h_σ) (fun t_1 pt_1 => ?_)
  refine zs_ite (fun c1 => ?_) (fun c1 => ?_)
  · skip
    have r2 := (zs_I_eq c1)
    have g3 : zs_in (t_1.1).toInt 0 0 := (zs_eql 0 0 r2 pt_1.1.1 zlI_0 (by decide))
    have q4 := (zs_or2 pt_1.2 g3 (by decide))
    have g5 : zs_in (x1).toInt 0 3 := q4
    exact zs_some ⟨⟨trivial, pt_1.1.2⟩, Or.inr g5⟩
  · skip
    have r6 := (zs_I_eqn c1)
    have g7 : zs_in (t_1.1).toInt (-6) (-1) := (zs_neh (-6) (-1) r6 pt_1.1.1 zlI_0 (by decide))
    rcases pt_1.2 with z0 | z0
    · skip
      have g8 : zs_in (t_1.1).toInt (-2) (-2) := (zs_pt z0)
      exact zs_some ⟨⟨trivial, pt_1.1.2⟩, Or.inl (zs_ptr g8)⟩
    · skip
      have q9 := z0
      have g10 : zs_in (x1).toInt 0 3 := q9
      exact zs_some ⟨⟨trivial, pt_1.1.2⟩, Or.inr g10⟩
-- fX8_gust
theorem zc_581 {σ0 : sn_S} {σ : sn_S} (h_σ : zs_C σ0 σ) {x1 : Int32} : zs_ok (fX8_gust σ x1) (fun r => ((True ∧ zs_C σ0 r.2)) ∧ ((r.1).toInt = (-2) ∨ (zs_in (x1).toInt 0 3))) := by
  unfold fX8_gust
  refine zs_bd_ (zc_578 h_σ) (fun t_1 pt_1 => ?_)
  refine zs_ite (fun c1 => ?_) (fun c1 => ?_)
  · skip
    have r2 := (zs_I_eq c1)
    have g3 : zs_in (t_1.1).toInt 0 0 := (zs_eql 0 0 r2 pt_1.1.1 zlI_0 (by decide))
    have q4 := (zs_or2 pt_1.2 g3 (by decide))
    have g5 : zs_in (x1).toInt 0 3 := q4
    exact zs_some ⟨⟨trivial, pt_1.1.2⟩, Or.inr g5⟩
  · skip
    have r6 := (zs_I_eqn c1)
    have g7 : zs_in (t_1.1).toInt (-6) (-1) := (zs_neh (-6) (-1) r6 pt_1.1.1 zlI_0 (by decide))
    rcases pt_1.2 with z0 | z0
    · skip
      have g8 : zs_in (t_1.1).toInt (-2) (-2) := (zs_pt z0)
      exact zs_some ⟨⟨trivial, pt_1.1.2⟩, Or.inl (zs_ptr g8)⟩
    · skip
      have q9 := z0
      have g10 : zs_in (x1).toInt 0 3 := q9
      exact zs_some ⟨⟨trivial, pt_1.1.2⟩, Or.inr g10⟩
-- BX7_atWorst_4
theorem zc_582 {σ0 : sn_S} {σ : sn_S} (h_σ : zs_C σ0 σ) {x1 : Int32} (h_x1 : zs_in x1.toInt 0 5) {x2 : Int32} (h_x2 : zs_in x2.toInt 0 2147483647) {x3 : Int32} (h_x3 : zs_in x3.toInt 0 31) {c : Int} (hc : x3.toInt = c + 0) : zs_ok (BX7_atWorst_4 σ x1 x2 x3) (fun r => zs_sum (fun v => ((zs_in (v.1).toInt 0 2147483647 ∧ zs_in (v.2).toInt 1 31)) ∧ v.2.toInt = c + 1) (fun v => zs_in (v).toInt 0 2147483647) r) := by
  unfold BX7_atWorst_4
  refine zs_ite (fun c1 => ?_) (fun c1 => ?_)
  · skip
    have r2 := (zs_I_le c1)
    have g3 : zs_in (x3).toInt 31 31 := (zs_ler 31 31 r2 zlI_31 h_x3 (by decide))
    exact zs_some (zs_inr (h_x2))
  · skip
    have r4 := (zs_I_len c1)
    have g5 : zs_in (x3).toInt 0 30 := (zs_ltl 0 30 r4 h_x3 zlI_31 (by decide))
    refine zs_gd (zs_gin (zs_addI 0 185 (zs_mulI 0 155 zlI_31 h_x1 (by decide)) g5 (by decide)) (by decide)) ?_
    refine zs_lt (Q := fun z => zs_in z.toInt 0 2147483647) (zs_max 0 2147483647 h_x2 (zs_topI _) (by decide)) (fun y_3 hy_3 => ?_)
    refine zs_lt (Q := fun z => zs_in z.toInt 1 31 ∧ z.toInt = c + 1) ⟨(zs_addI 1 31 g5 zlI_1 (by decide)), (zs_syI 1 hc g5 zlI_1 (by decide) (by decide))⟩ (fun y_5 hy_5 => ?_)
    exact zs_some (zs_inl ⟨⟨hy_3, hy_5.1⟩, hy_5.2⟩)
theorem zd_107 {σ0 : sn_S} {σ : sn_S} (h_σ : zs_C σ0 σ) {x1 : Int32} (h_x1 : zs_in x1.toInt 0 5) {s0 : (Int32 × Int32)} (h0 : (zs_in (s0.1).toInt 0 2147483647 ∧ zs_in (s0.2).toInt 0 31)) : zs_ok (sn_it (LX7_atWorst_4 σ x1) 5000 s0) (fun t => zs_in (t).toInt 0 2147483647) := by
  refine zs_it (I := fun s => (zs_in (s.1).toInt 0 2147483647 ∧ zs_in (s.2).toInt 0 31)) (m := fun s => 31 - s.2.toInt) (fun s hs => ?_) (fun s hs => ?_) (by exact h0)
  · have h1 := hs.2; unfold zs_in at h1
    omega
  · obtain ⟨b, eb, hb⟩ := zc_582 h_σ h_x1 hs.1 hs.2 (c := s.2.toInt) (Int.add_zero _).symm
    exact ⟨b, eb, zs_sumw hb (fun v w => ⟨⟨w.1.1, (zs_w w.1.2 (by decide))⟩, by have := w.2; omega⟩) (fun v w => w)⟩
-- BX7_atWorst_32
theorem zc_583 {σ0 : sn_S} {σ : sn_S} (h_σ : zs_C σ0 σ) {x2 : Int32} (h_x2 : zs_in x2.toInt 0 2147483647) : zs_ok (BX7_atWorst_32 σ x2) (fun r => zs_in (r).toInt 0 2147483647) := by
  unfold BX7_atWorst_32
  exact zs_some h_x2
-- fX7_atWorst
theorem zc_584 {σ0 : sn_S} {σ : sn_S} (h_σ : zs_C σ0 σ) {x1 : Int32} (h_x1 : zs_in x1.toInt 0 5) : zs_ok (fX7_atWorst σ x1) (fun r => zs_in (r).toInt 0 2147483647) := by
  unfold fX7_atWorst
  refine zs_bd_ (zd_107 h_σ h_x1 (s0 := ((0 : Int32), (0 : Int32))) ⟨(zs_w zlI_0 (by decide)), (zs_w zlI_0 (by decide))⟩) (fun t_1 pt_1 => ?_)
  obtain ⟨ret, er, hr⟩ := zc_583 h_σ pt_1
  refine ⟨ret, er, ?_⟩
  exact hr
-- BX7_whomToAsk_36
theorem zc_585 {σ0 : sn_S} {σ : sn_S} (h_σ : zs_C σ0 σ) {x1 : Int32} (h_x1 : zs_in x1.toInt 1 6) {x2 : Int32} (h_x2 : zs_in x2.toInt (-1) 5) {x3 : Int32} {x4 : Int32} (h_x4 : zs_in x4.toInt 0 5) {c : Int} (hc : x4.toInt = c + 0) : zs_ok (BX7_whomToAsk_36 σ x1 x2 x3 x4) (fun r => zs_sum (fun v => ((zs_in (v.1).toInt (-1) 5 ∧ (True ∧ zs_in (v.2.2).toInt 1 6))) ∧ v.2.2.toInt = c + 1) (fun v => False) r) := by
  unfold BX7_whomToAsk_36
  refine zs_lt (Q := fun z => zs_in z.toInt 1 6 ∧ z.toInt = c + 1) ⟨(zs_addI 1 6 h_x4 zlI_1 (by decide)), (zs_syI 1 hc h_x4 zlI_1 (by decide) (by decide))⟩ (fun y_1 hy_1 => ?_)
  exact zs_some (zs_inl ⟨⟨h_x2, ⟨trivial, hy_1.1⟩⟩, hy_1.2⟩)
-- BX7_whomToAsk_36
theorem zc_586 {σ0 : sn_S} {σ : sn_S} (h_σ : zs_C σ0 σ) {x1 : Int32} (h_x1 : zs_in x1.toInt 1 6) {x2 : Int32} (h_x2 : zs_in x2.toInt 0 5) {x3 : Int32} (h_x3 : zs_in x3.toInt 0 2147483646) {x4 : Int32} (h_x4 : zs_in x4.toInt 0 5) {c : Int} (hc : x4.toInt = c + 0) : zs_ok (BX7_whomToAsk_36 σ x1 x2 x3 x4) (fun r => zs_sum (fun v => ((zs_in (v.1).toInt 0 5 ∧ (zs_in (v.2.1).toInt 0 2147483646 ∧ zs_in (v.2.2).toInt 1 6))) ∧ v.2.2.toInt = c + 1) (fun v => False) r) := by
  unfold BX7_whomToAsk_36
  refine zs_lt (Q := fun z => zs_in z.toInt 1 6 ∧ z.toInt = c + 1) ⟨(zs_addI 1 6 h_x4 zlI_1 (by decide)), (zs_syI 1 hc h_x4 zlI_1 (by decide) (by decide))⟩ (fun y_1 hy_1 => ?_)
  exact zs_some (zs_inl ⟨⟨h_x2, ⟨h_x3, hy_1.1⟩⟩, hy_1.2⟩)
-- BX7_whomToAsk_10
theorem zc_587 {σ0 : sn_S} {σ : sn_S} (h_σ : zs_C σ0 σ) {x1 : Int32} (h_x1 : zs_in x1.toInt 0 6) {x2 : Int32} (h_x2 : zs_in x2.toInt (-1) 5) {x3 : Int32} {x4 : Int32} (h_x4 : zs_in x4.toInt 0 6) {c : Int} (hc : x4.toInt = c + 0) : zs_ok (BX7_whomToAsk_10 σ x1 x2 x3 x4) (fun r => zs_sum (fun v => ((zs_in (v.1).toInt (-1) 5 ∧ (True ∧ zs_in (v.2.2).toInt 1 6))) ∧ v.2.2.toInt = c + 1) (fun v => zs_in (v).toInt (-1) 5) r) := by
  unfold BX7_whomToAsk_10
  refine zs_ite (fun c1 => ?_) (fun c1 => ?_)
  · skip
    have r2 := (zs_I_le c1)
    exact zs_some (zs_inr (h_x2))
  · skip
    have r3 := (zs_I_len c1)
    have g4 : zs_in (x4).toInt 0 5 := (zs_ltl 0 5 r3 h_x4 h_x1 (by decide))
    have g5 : zs_in (x1).toInt 1 6 := (zs_ltr 1 6 r3 h_x4 h_x1 (by decide))
    refine zs_bd_ (zc_584 h_σ g4) (fun t_2 pt_2 => ?_)
    refine zs_ite (fun c6 => ?_) (fun c6 => ?_)
    · skip
      have r7 := (zs_I_le c6)
      obtain ⟨ret, er, hr⟩ := zc_585 h_σ g5 h_x2 g4 hc
      refine ⟨ret, er, ?_⟩
      exact (zs_sumw hr (fun v w => ⟨w.1, w.2⟩) (fun v w => w.elim))
    · skip
      have r8 := (zs_I_len c6)
      have g9 : zs_in (t_2).toInt 0 2147483646 := (zs_ltl 0 2147483646 r8 pt_2 (zs_topI _) (by decide))
      have g10 : zs_in (x3).toInt 1 2147483647 := (zs_ltr 1 2147483647 r8 pt_2 (zs_topI _) (by decide))
      obtain ⟨ret, er, hr⟩ := zc_586 h_σ g5 g4 g9 g4 hc
      refine ⟨ret, er, ?_⟩
      exact (zs_sumw hr (fun v w => ⟨⟨(zs_w w.1.1 (by decide)), ⟨trivial, w.1.2.2⟩⟩, w.2⟩) (fun v w => w.elim))
theorem zd_108 {σ0 : sn_S} {σ : sn_S} (h_σ : zs_C σ0 σ) {x1 : Int32} (h_x1 : zs_in x1.toInt 0 6) {s0 : (Int32 × (Int32 × Int32))} (h0 : (zs_in (s0.1).toInt (-1) 5 ∧ (True ∧ zs_in (s0.2.2).toInt 0 6))) : zs_ok (sn_it (LX7_whomToAsk_10 σ x1) 5000 s0) (fun t => zs_in (t).toInt (-1) 5) := by
  refine zs_it (I := fun s => (zs_in (s.1).toInt (-1) 5 ∧ (True ∧ zs_in (s.2.2).toInt 0 6))) (m := fun s => 6 - s.2.2.toInt) (fun s hs => ?_) (fun s hs => ?_) (by exact h0)
  · have h1 := hs.2.2; unfold zs_in at h1
    omega
  · obtain ⟨b, eb, hb⟩ := zc_587 h_σ h_x1 hs.1 hs.2.2 (c := s.2.2.toInt) (Int.add_zero _).symm
    exact ⟨b, eb, zs_sumw hb (fun v w => ⟨⟨w.1.1, ⟨w.1.2.1, (zs_w w.1.2.2 (by decide))⟩⟩, by have := w.2; omega⟩) (fun v w => w)⟩
-- BX7_whomToAsk_42
theorem zc_588 {σ0 : sn_S} {σ : sn_S} (h_σ : zs_C σ0 σ) {x2 : Int32} (h_x2 : zs_in x2.toInt (-1) 5) : zs_ok (BX7_whomToAsk_42 σ x2) (fun r => zs_in (r).toInt (-1) 5) := by
  unfold BX7_whomToAsk_42
  exact zs_some h_x2
-- fX7_whomToAsk
theorem zc_589 {σ0 : sn_S} {σ : sn_S} (h_σ : zs_C σ0 σ) {x1 : Int32} (h_x1 : zs_in x1.toInt 0 6) : zs_ok (fX7_whomToAsk σ x1) (fun r => zs_in (r).toInt (-1) 5) := by
  unfold fX7_whomToAsk
  refine zs_lt (Q := fun z => True) trivial (fun y_1 hy_1 => ?_)
  refine zs_bd_ (zd_108 h_σ h_x1 (s0 := ((-1 : Int32), (y_1, (0 : Int32)))) ⟨(zs_w zlI_m1 (by decide)), ⟨trivial, (zs_w zlI_0 (by decide))⟩⟩) (fun t_3 pt_3 => ?_)
  obtain ⟨ret, er, hr⟩ := zc_588 h_σ pt_3
  refine ⟨ret, er, ?_⟩
  exact hr
-- fX8_ask
theorem zc_590 {σ0 : sn_S} {σ : sn_S} (h_σ : zs_C σ0 σ) {x1 : Int32} : zs_ok (fX8_ask σ x1) (fun r => ((zs_in (r.1).toInt (-6) 5 ∧ zs_C σ0 r.2)) ∧ ((r.1).toInt = (-2) ∨ (zs_in (x1).toInt 0 3))) := by
  unfold fX8_ask
  refine zs_bd_ (zc_578 h_σ) (fun t_1 pt_1 => ?_)
  refine zs_ite (fun c1 => ?_) (fun c1 => ?_)
  · skip
    have r2 := (zs_I_eq c1)
    have g3 : zs_in (t_1.1).toInt 0 0 := (zs_eql 0 0 r2 pt_1.1.1 zlI_0 (by decide))
    have q4 := (zs_or2 pt_1.2 g3 (by decide))
    have g5 : zs_in (x1).toInt 0 3 := q4
    refine zs_bd_ (zc_589 pt_1.1.2 (zs_rdk (q := 27) (k := 1) (z := (0, 6)) pt_1.1.2.1 rfl)) (fun t_4 pt_4 => ?_)
    exact zs_some ⟨⟨(zs_w pt_4 (by decide)), pt_1.1.2⟩, Or.inr g5⟩
  · skip
    have r6 := (zs_I_eqn c1)
    have g7 : zs_in (t_1.1).toInt (-6) (-1) := (zs_neh (-6) (-1) r6 pt_1.1.1 zlI_0 (by decide))
    rcases pt_1.2 with z0 | z0
    · skip
      have g8 : zs_in (t_1.1).toInt (-2) (-2) := (zs_pt z0)
      exact zs_some ⟨⟨(zs_w g8 (by decide)), pt_1.1.2⟩, Or.inl (zs_ptr g8)⟩
    · skip
      have q9 := z0
      have g10 : zs_in (x1).toInt 0 3 := q9
      exact zs_some ⟨⟨(zs_w g7 (by decide)), pt_1.1.2⟩, Or.inr g10⟩
-- fX8_leaves
theorem zc_591 {σ0 : sn_S} {σ : sn_S} (h_σ : zs_C σ0 σ) {x1 : Int32} : zs_ok (fX8_leaves σ x1) (fun r => ((True ∧ zs_C σ0 r.2)) ∧ ((r.1).toInt = (-2) ∨ (zs_in (x1).toInt 0 3))) := by
  unfold fX8_leaves
  refine zs_bd_ (zc_578 h_σ) (fun t_1 pt_1 => ?_)
  refine zs_ite (fun c1 => ?_) (fun c1 => ?_)
  · skip
    have r2 := (zs_I_eq c1)
    have g3 : zs_in (t_1.1).toInt 0 0 := (zs_eql 0 0 r2 pt_1.1.1 zlI_0 (by decide))
    have q4 := (zs_or2 pt_1.2 g3 (by decide))
    have g5 : zs_in (x1).toInt 0 3 := q4
    refine zs_bd_ (zc_589 pt_1.1.2 (zs_rdk (q := 27) (k := 1) (z := (0, 6)) pt_1.1.2.1 rfl)) (fun t_4 pt_4 => ?_)
    refine zs_ite (fun c6 => ?_) (fun c6 => ?_)
    · skip
      have r7 := (zs_I_eq c6)
      have g8 : zs_in (t_4).toInt (-1) (-1) := (zs_eql (-1) (-1) r7 pt_4 zlI_m1 (by decide))
      exact zs_some ⟨⟨trivial, pt_1.1.2⟩, Or.inr g5⟩
    · skip
      have r9 := (zs_I_eqn c6)
      have g10 : zs_in (t_4).toInt 0 5 := (zs_nel 0 5 r9 pt_4 zlI_m1 (by decide))
      refine zs_bd_ (zc_584 pt_1.1.2 g10) (fun t_7 pt_7 => ?_)
      exact zs_some ⟨⟨trivial, pt_1.1.2⟩, Or.inr g5⟩
  · skip
    have r11 := (zs_I_eqn c1)
    have g12 : zs_in (t_1.1).toInt (-6) (-1) := (zs_neh (-6) (-1) r11 pt_1.1.1 zlI_0 (by decide))
    rcases pt_1.2 with z0 | z0
    · skip
      have g13 : zs_in (t_1.1).toInt (-2) (-2) := (zs_pt z0)
      exact zs_some ⟨⟨trivial, pt_1.1.2⟩, Or.inl (zs_ptr g13)⟩
    · skip
      have q14 := z0
      have g15 : zs_in (x1).toInt 0 3 := q14
      exact zs_some ⟨⟨trivial, pt_1.1.2⟩, Or.inr g15⟩
-- BX8_lossOf_85
theorem zc_592 {σ0 : sn_S} {σ : sn_S} (h_σ : zs_C σ0 σ) {x1 : Int32} (h_x1 : zs_in x1.toInt 0 5) {t0 : Int32} (h_t0 : zs_in t0.toInt 0 7) : zs_ok (BX8_lossOf_85 σ x1 t0) (fun r => (zs_in (r.1).toInt 0 97 ∧ zs_C σ0 r.2)) := by
  unfold BX8_lossOf_85
  refine zs_gd (zs_gin h_x1 (by decide)) ?_
  refine zs_bd_ (zo_bc 30 30 (by decide) (zs_rdu (q := 48) (z := (0, 1073741823)) h_σ.1 (fun _ => rfl))) (fun t_2 pt_2 => ?_)
  exact zs_some ⟨(zs_addI 0 97 (zs_mulI 0 90 zlI_3 pt_2 (by decide)) h_t0 (by decide)), h_σ⟩
-- BX8_lossOf_60
theorem zc_593 {σ0 : sn_S} {σ : sn_S} (h_σ : zs_C σ0 σ) {x1 : Int32} (h_x1 : zs_in x1.toInt 0 5) {x3 : Int32} (h_x3 : zs_in x3.toInt 1 1) : zs_ok (BX8_lossOf_60 σ x1 x3) (fun r => (zs_in (r.1).toInt 0 97 ∧ zs_C σ0 r.2)) := by
  unfold BX8_lossOf_60
  obtain rfl : x3 = (1 : Int32) := zs_eqv h_x3 (by decide)
  refine zs_bd_ (zc_350 h_σ) (fun t_1 pt_1 => ?_)
  refine zs_ite (fun c1 => ?_) (fun c1 => ?_)
  · skip
    have r2 := (zs_I_eq c1)
    obtain ⟨ret, er, hr⟩ := zc_592 pt_1 h_x1 (zs_divI 0 7 (zs_rdk (q := 27) (k := 0) (z := (0, 30)) pt_1.1 rfl) zlI_4 (by decide))
    refine ⟨ret, er, ?_⟩
    exact hr
  · skip
    have r3 := (zs_I_eqn c1)
    exact (zs_botne r3 h_x3 zlI_1 (by decide)).elim
-- BX8_lossOf_35
theorem zc_594 {σ0 : sn_S} {σ : sn_S} (h_σ : zs_C σ0 σ) {x1 : Int32} (h_x1 : zs_in x1.toInt 0 5) {x2 : Int32} (h_x2 : zs_in x2.toInt 0 5) {x3 : Int32} (h_x3 : zs_in x3.toInt 1 1) {x4 : Int32} (h_x4 : zs_in x4.toInt 0 1) : zs_ok (BX8_lossOf_35 σ x1 x2 x3 x4) (fun r => (zs_in (r.1).toInt 0 97 ∧ zs_C σ0 r.2)) := by
  unfold BX8_lossOf_35
  obtain rfl : x3 = (1 : Int32) := zs_eqv h_x3 (by decide)
  refine zs_ite (fun c1 => ?_) (fun c1 => ?_)
  · skip
    have r2 := (zs_I_eq c1)
    have g3 : zs_in (x4).toInt 1 1 := (zs_eql 1 1 r2 h_x4 zlI_1 (by decide))
    refine zs_bd_ (zc_196 (zs_rdk (q := 27) (k := 0) (z := (0, 30)) h_σ.1 rfl)) (fun t_2 pt_2 => ?_)
    refine zs_gd (zs_gin h_x2 (by decide)) ?_
    refine zs_lt (Q := fun z => zs_C σ0 z) (zs_wrt h_σ (fun _ => rfl) (fun _ => rfl)) (fun σ_5 hσ_5 => ?_)
    obtain ⟨ret, er, hr⟩ := zc_593 hσ_5 h_x1 h_x3
    refine ⟨ret, er, ?_⟩
    exact hr
  · skip
    have r4 := (zs_I_eqn c1)
    have g5 : zs_in (x4).toInt 0 0 := (zs_neh 0 0 r4 h_x4 zlI_1 (by decide))
    obtain ⟨ret, er, hr⟩ := zc_593 h_σ h_x1 h_x3
    refine ⟨ret, er, ?_⟩
    exact hr
-- BX8_lossOf_85
theorem zc_595 {σ0 : sn_S} {σ : sn_S} (h_σ : zs_C σ0 σ) {x1 : Int32} (h_x1 : zs_in x1.toInt 0 5) {t0 : Int32} (h_t0 : zs_in t0.toInt 0 0) : zs_ok (BX8_lossOf_85 σ x1 t0) (fun r => (zs_in (r.1).toInt 0 90 ∧ zs_C σ0 r.2)) := by
  unfold BX8_lossOf_85
  obtain rfl : t0 = (0 : Int32) := zs_eqv h_t0 (by decide)
  refine zs_gd (zs_gin h_x1 (by decide)) ?_
  refine zs_bd_ (zo_bc 30 30 (by decide) (zs_rdu (q := 48) (z := (0, 1073741823)) h_σ.1 (fun _ => rfl))) (fun t_2 pt_2 => ?_)
  exact zs_some ⟨(zs_addI 0 90 (zs_mulI 0 90 zlI_3 pt_2 (by decide)) h_t0 (by decide)), h_σ⟩
-- BX8_lossOf_60
theorem zc_596 {σ0 : sn_S} {σ : sn_S} (h_σ : zs_C σ0 σ) {x1 : Int32} (h_x1 : zs_in x1.toInt 0 5) {x3 : Int32} (h_x3 : zs_in x3.toInt 0 0) : zs_ok (BX8_lossOf_60 σ x1 x3) (fun r => (zs_in (r.1).toInt 0 90 ∧ zs_C σ0 r.2)) := by
  unfold BX8_lossOf_60
  obtain rfl : x3 = (0 : Int32) := zs_eqv h_x3 (by decide)
  refine zs_bd_ (zc_350 h_σ) (fun t_1 pt_1 => ?_)
  refine zs_ite (fun c1 => ?_) (fun c1 => ?_)
  · skip
    have r2 := (zs_I_eq c1)
    exact (zs_botr r2 h_x3 zlI_1 (by decide)).elim
  · skip
    have r3 := (zs_I_eqn c1)
    obtain ⟨ret, er, hr⟩ := zc_595 pt_1 h_x1 zlI_0
    refine ⟨ret, er, ?_⟩
    exact hr
-- BX8_lossOf_35
theorem zc_597 {σ0 : sn_S} {σ : sn_S} (h_σ : zs_C σ0 σ) {x1 : Int32} (h_x1 : zs_in x1.toInt 0 5) {x2 : Int32} (h_x2 : zs_in x2.toInt 0 5) {x3 : Int32} (h_x3 : zs_in x3.toInt 0 0) {x4 : Int32} (h_x4 : zs_in x4.toInt 0 1) : zs_ok (BX8_lossOf_35 σ x1 x2 x3 x4) (fun r => (zs_in (r.1).toInt 0 90 ∧ zs_C σ0 r.2)) := by
  unfold BX8_lossOf_35
  obtain rfl : x3 = (0 : Int32) := zs_eqv h_x3 (by decide)
  refine zs_ite (fun c1 => ?_) (fun c1 => ?_)
  · skip
    have r2 := (zs_I_eq c1)
    have g3 : zs_in (x4).toInt 1 1 := (zs_eql 1 1 r2 h_x4 zlI_1 (by decide))
    refine zs_bd_ (zc_196 (zs_rdk (q := 27) (k := 0) (z := (0, 30)) h_σ.1 rfl)) (fun t_2 pt_2 => ?_)
    refine zs_gd (zs_gin h_x2 (by decide)) ?_
    refine zs_lt (Q := fun z => zs_C σ0 z) (zs_wrt h_σ (fun _ => rfl) (fun _ => rfl)) (fun σ_5 hσ_5 => ?_)
    obtain ⟨ret, er, hr⟩ := zc_596 hσ_5 h_x1 h_x3
    refine ⟨ret, er, ?_⟩
    exact hr
  · skip
    have r4 := (zs_I_eqn c1)
    have g5 : zs_in (x4).toInt 0 0 := (zs_neh 0 0 r4 h_x4 zlI_1 (by decide))
    obtain ⟨ret, er, hr⟩ := zc_596 h_σ h_x1 h_x3
    refine ⟨ret, er, ?_⟩
    exact hr
-- fX8_lossOf
theorem zc_598 {σ0 : sn_S} {σ : sn_S} (h_σ : zs_C σ0 σ) {x1 : Int32} (h_x1 : zs_in x1.toInt 0 5) {x2 : Int32} (h_x2 : zs_in x2.toInt 0 5) {x3 : Int32} (h_x3 : zs_in x3.toInt 0 1) {x4 : Int32} (h_x4 : zs_in x4.toInt 0 1) : zs_ok (fX8_lossOf σ x1 x2 x3 x4) (fun r => (zs_in (r.1).toInt 0 97 ∧ zs_C σ0 r.2)) := by
  unfold fX8_lossOf
  refine zs_bd_ (zo_dcopy h_σ) (fun t_1 pt_1 => ?_)
  refine zs_ite (fun c1 => ?_) (fun c1 => ?_)
  · skip
    have r2 := (zs_I_eq c1)
    have g3 : zs_in (x3).toInt 1 1 := (zs_eql 1 1 r2 h_x3 zlI_1 (by decide))
    refine zs_bd_ (zc_196 (zs_rdk (q := 27) (k := 0) (z := (0, 30)) pt_1.1 rfl)) (fun t_4 pt_4 => ?_)
    refine zs_gd (zs_gin h_x1 (by decide)) ?_
    refine zs_lt (Q := fun z => zs_C σ0 z) (zs_wrt pt_1 (fun _ => rfl) (fun _ => rfl)) (fun σ_7 hσ_7 => ?_)
    obtain ⟨ret, er, hr⟩ := zc_594 hσ_7 h_x1 h_x2 g3 h_x4
    refine ⟨ret, er, ?_⟩
    exact hr
  · skip
    have r4 := (zs_I_eqn c1)
    have g5 : zs_in (x3).toInt 0 0 := (zs_neh 0 0 r4 h_x3 zlI_1 (by decide))
    obtain ⟨ret, er, hr⟩ := zc_597 pt_1 h_x1 h_x2 g5 h_x4
    refine ⟨ret, er, ?_⟩
    exact ⟨(zs_w hr.1 (by decide)), hr.2⟩
-- BX8_rests_118
theorem zc_599 {σ0 : sn_S} {σ : sn_S} (h_σ : zs_C σ0 σ) {x1 : Int32} (h_x1 : zs_in x1.toInt 0 5) {x2 : Int32} (h_x2 : zs_in x2.toInt 0 5) {x3 : Int32} (h_x3 : zs_in x3.toInt 0 15) {x4 : Int32} (h_x4 : zs_in x4.toInt 0 1) {x5 : Int32} (h_x5 : zs_in x5.toInt 0 1) {c : Int} (hc : x5.toInt = c + 0) : zs_ok (BX8_rests_118 σ x1 x2 x3 x4 x5) (fun r => zs_sum (fun v => ((zs_C σ0 v.1 ∧ (zs_in (v.2.1).toInt 0 15 ∧ zs_in (v.2.2).toInt 1 2))) ∧ v.2.2.toInt = c + 1) (fun v => False) r) := by
  unfold BX8_rests_118
  refine zs_lt (Q := fun z => zs_in z.toInt 1 2 ∧ z.toInt = c + 1) ⟨(zs_addI 1 2 h_x5 zlI_1 (by decide)), (zs_syI 1 hc h_x5 zlI_1 (by decide) (by decide))⟩ (fun y_1 hy_1 => ?_)
  exact zs_some (zs_inl ⟨⟨h_σ, ⟨h_x3, hy_1.1⟩⟩, hy_1.2⟩)
-- BX8_rests_74
theorem zc_600 {σ0 : sn_S} {σ : sn_S} (h_σ : zs_C σ0 σ) {x1 : Int32} (h_x1 : zs_in x1.toInt 0 5) {x2 : Int32} (h_x2 : zs_in x2.toInt 0 5) {x3 : Int32} (h_x3 : zs_in x3.toInt 0 15) {x4 : Int32} (h_x4 : zs_in x4.toInt 0 1) {x5 : Int32} (h_x5 : zs_in x5.toInt 0 1) {t0 : Int32} (h_t0 : zs_in t0.toInt 0 0) {c : Int} (hc : x5.toInt = c + 0) : zs_ok (BX8_rests_74 σ x1 x2 x3 x4 x5 t0) (fun r => zs_sum (fun v => ((zs_C σ0 v.1 ∧ (zs_in (v.2.1).toInt 0 15 ∧ zs_in (v.2.2).toInt 1 2))) ∧ v.2.2.toInt = c + 1) (fun v => False) r) := by
  unfold BX8_rests_74
  obtain rfl : t0 = (0 : Int32) := zs_eqv h_t0 (by decide)
  refine zs_ite (fun c1 => ?_) (fun c1 => ?_)
  · skip
    have r2 := (zs_I_eq c1)
    obtain ⟨ret, er, hr⟩ := zc_599 h_σ h_x1 h_x2 h_x3 h_x4 h_x5 hc
    refine ⟨ret, er, ?_⟩
    exact (zs_sumw hr (fun v w => ⟨w.1, w.2⟩) (fun v w => w.elim))
  · skip
    have r3 := (zs_I_eqn c1)
    exact (zs_botne r3 h_t0 zlI_0 (by decide)).elim
-- BX8_rests_74
theorem zc_601 {σ0 : sn_S} {σ : sn_S} (h_σ : zs_C σ0 σ) {x1 : Int32} (h_x1 : zs_in x1.toInt 0 5) {x2 : Int32} (h_x2 : zs_in x2.toInt 0 5) {x3 : Int32} (h_x3 : zs_in x3.toInt 0 15) {x4 : Int32} (h_x4 : zs_in x4.toInt 0 1) {x5 : Int32} (h_x5 : zs_in x5.toInt 0 1) {t0 : Int32} (h_t0 : zs_in t0.toInt 1 1) {c : Int} (hc : x5.toInt = c + 0) : zs_ok (BX8_rests_74 σ x1 x2 x3 x4 x5 t0) (fun r => zs_sum (fun v => ((zs_C σ0 v.1 ∧ (zs_in (v.2.1).toInt 0 15 ∧ zs_in (v.2.2).toInt 1 2))) ∧ v.2.2.toInt = c + 1) (fun v => False) r) := by
  unfold BX8_rests_74
  obtain rfl : t0 = (1 : Int32) := zs_eqv h_t0 (by decide)
  refine zs_ite (fun c1 => ?_) (fun c1 => ?_)
  · skip
    have r2 := (zs_I_eq c1)
    exact (zs_botr r2 h_t0 zlI_0 (by decide)).elim
  · skip
    have r3 := (zs_I_eqn c1)
    refine zs_bd_ (zc_598 h_σ h_x2 h_x1 h_x5 h_x4) (fun t_2 pt_2 => ?_)
    refine zs_bd_ (zc_598 pt_2.2 h_x2 h_x1 (zs_subI 0 1 zlI_1 h_x5 (by decide)) h_x4) (fun t_4 pt_4 => ?_)
    refine zs_ite (fun c4 => ?_) (fun c4 => ?_)
    · skip
      have r5 := (zs_I_lt c4)
      have g6 : zs_in (t_4.1).toInt 0 96 := (zs_ltl 0 96 r5 pt_4.1 pt_2.1 (by decide))
      have g7 : zs_in (t_2.1).toInt 1 97 := (zs_ltr 1 97 r5 pt_4.1 pt_2.1 (by decide))
      obtain ⟨ret, er, hr⟩ := zc_599 pt_4.2 h_x1 h_x2 h_x3 h_x4 h_x5 hc
      refine ⟨ret, er, ?_⟩
      exact (zs_sumw hr (fun v w => ⟨w.1, w.2⟩) (fun v w => w.elim))
    · skip
      have r8 := (zs_I_ltn c4)
      refine zs_lt (Q := fun z => zs_in z.toInt 0 15) (zs_or 4 15 h_x3 (zs_cases (zs_addI 0 3 h_x4 (zs_mulI 0 2 zlI_2 h_x5 (by decide)) (by decide)) (fun z => zs_in ((1 : Int32) <<< (z &&& 31)).toInt 1 8) (by decide +kernel)) (by decide)) (fun y_7 hy_7 => ?_)
      obtain ⟨ret, er, hr⟩ := zc_599 pt_4.2 h_x1 h_x2 hy_7 h_x4 h_x5 hc
      refine ⟨ret, er, ?_⟩
      exact (zs_sumw hr (fun v w => ⟨w.1, w.2⟩) (fun v w => w.elim))
-- BX8_rests_38
theorem zc_602 {σ0 : sn_S} {σ : sn_S} (h_σ : zs_C σ0 σ) {x1 : Int32} (h_x1 : zs_in x1.toInt 0 5) {x2 : Int32} (h_x2 : zs_in x2.toInt 0 5) {x3 : Int32} (h_x3 : zs_in x3.toInt 0 15) {x4 : Int32} (h_x4 : zs_in x4.toInt 0 1) {x5 : Int32} (h_x5 : zs_in x5.toInt 0 2) {c : Int} (hc : x5.toInt = c + 0) : zs_ok (BX8_rests_38 σ x1 x2 x3 x4 x5) (fun r => zs_sum (fun v => ((zs_C σ0 v.1 ∧ (zs_in (v.2.1).toInt 0 15 ∧ zs_in (v.2.2).toInt 1 2))) ∧ v.2.2.toInt = c + 1) (fun v => (zs_C σ0 v.1 ∧ zs_in (v.2).toInt 0 15)) r) := by
  unfold BX8_rests_38
  refine zs_ite (fun c1 => ?_) (fun c1 => ?_)
  · skip
    have r2 := (zs_I_le c1)
    have g3 : zs_in (x5).toInt 2 2 := (zs_ler 2 2 r2 zlI_2 h_x5 (by decide))
    exact zs_some (zs_inr (⟨h_σ, h_x3⟩))
  · skip
    have r4 := (zs_I_len c1)
    have g5 : zs_in (x5).toInt 0 1 := (zs_ltl 0 1 r4 h_x5 zlI_2 (by decide))
    refine zs_bd_ (zc_598 h_σ h_x1 h_x2 h_x4 g5) (fun t_2 pt_2 => ?_)
    refine zs_bd_ (zc_598 pt_2.2 h_x1 h_x2 (zs_subI 0 1 zlI_1 h_x4 (by decide)) g5) (fun t_4 pt_4 => ?_)
    refine zs_ite (fun c6 => ?_) (fun c6 => ?_)
    · skip
      have r7 := (zs_I_lt c6)
      have g8 : zs_in (t_4.1).toInt 0 96 := (zs_ltl 0 96 r7 pt_4.1 pt_2.1 (by decide))
      have g9 : zs_in (t_2.1).toInt 1 97 := (zs_ltr 1 97 r7 pt_4.1 pt_2.1 (by decide))
      obtain ⟨ret, er, hr⟩ := zc_600 pt_4.2 h_x1 h_x2 h_x3 h_x4 g5 zlI_0 hc
      refine ⟨ret, er, ?_⟩
      exact (zs_sumw hr (fun v w => ⟨w.1, w.2⟩) (fun v w => w.elim))
    · skip
      have r10 := (zs_I_ltn c6)
      obtain ⟨ret, er, hr⟩ := zc_601 pt_4.2 h_x1 h_x2 h_x3 h_x4 g5 zlI_1 hc
      refine ⟨ret, er, ?_⟩
      exact (zs_sumw hr (fun v w => ⟨w.1, w.2⟩) (fun v w => w.elim))
theorem zd_109 {σ0 : sn_S} {x1 : Int32} (h_x1 : zs_in x1.toInt 0 5) {x2 : Int32} (h_x2 : zs_in x2.toInt 0 5) {x4 : Int32} (h_x4 : zs_in x4.toInt 0 1) {s0 : (sn_S × (Int32 × Int32))} (h0 : (zs_C σ0 s0.1 ∧ (zs_in (s0.2.1).toInt 0 15 ∧ zs_in (s0.2.2).toInt 0 2))) : zs_ok (sn_it (LX8_rests_38 x1 x2 x4) 5000 s0) (fun t => (zs_C σ0 t.1 ∧ zs_in (t.2).toInt 0 15)) := by
  refine zs_it (I := fun s => (zs_C σ0 s.1 ∧ (zs_in (s.2.1).toInt 0 15 ∧ zs_in (s.2.2).toInt 0 2))) (m := fun s => 2 - s.2.2.toInt) (fun s hs => ?_) (fun s hs => ?_) (by exact h0)
  · have h1 := hs.2.2; unfold zs_in at h1
    omega
  · obtain ⟨b, eb, hb⟩ := zc_602 hs.1 h_x1 h_x2 hs.2.1 h_x4 hs.2.2 (c := s.2.2.toInt) (Int.add_zero _).symm
    exact ⟨b, eb, zs_sumw hb (fun v w => ⟨⟨w.1.1, ⟨w.1.2.1, (zs_w w.1.2.2 (by decide))⟩⟩, by have := w.2; omega⟩) (fun v w => w)⟩
-- BX8_rests_124
theorem zc_603 {σ0 : sn_S} {σ : sn_S} (h_σ : zs_C σ0 σ) {x1 : Int32} (h_x1 : zs_in x1.toInt 0 5) {x2 : Int32} (h_x2 : zs_in x2.toInt 0 5) {x3 : Int32} (h_x3 : zs_in x3.toInt 0 15) {x4 : Int32} (h_x4 : zs_in x4.toInt 0 1) {c : Int} (hc : x4.toInt = c + 0) : zs_ok (BX8_rests_124 σ x1 x2 x3 x4) (fun r => zs_sum (fun v => ((zs_C σ0 v.1 ∧ (zs_in (v.2.1).toInt 0 15 ∧ zs_in (v.2.2).toInt 1 2))) ∧ v.2.2.toInt = c + 1) (fun v => False) r) := by
  unfold BX8_rests_124
  refine zs_lt (Q := fun z => zs_in z.toInt 1 2 ∧ z.toInt = c + 1) ⟨(zs_addI 1 2 h_x4 zlI_1 (by decide)), (zs_syI 1 hc h_x4 zlI_1 (by decide) (by decide))⟩ (fun y_1 hy_1 => ?_)
  exact zs_some (zs_inl ⟨⟨h_σ, ⟨h_x3, hy_1.1⟩⟩, hy_1.2⟩)
-- BX8_rests_29
theorem zc_604 {σ0 : sn_S} {σ : sn_S} (h_σ : zs_C σ0 σ) {x1 : Int32} (h_x1 : zs_in x1.toInt 0 5) {x2 : Int32} (h_x2 : zs_in x2.toInt 0 5) {x3 : Int32} (h_x3 : zs_in x3.toInt 0 15) {x4 : Int32} (h_x4 : zs_in x4.toInt 0 2) {c : Int} (hc : x4.toInt = c + 0) : zs_ok (BX8_rests_29 σ x1 x2 x3 x4) (fun r => zs_sum (fun v => ((zs_C σ0 v.1 ∧ (zs_in (v.2.1).toInt 0 15 ∧ zs_in (v.2.2).toInt 1 2))) ∧ v.2.2.toInt = c + 1) (fun v => (zs_C σ0 v.1 ∧ zs_in (v.2).toInt 0 15)) r) := by
  unfold BX8_rests_29
  refine zs_ite (fun c1 => ?_) (fun c1 => ?_)
  · skip
    have r2 := (zs_I_le c1)
    have g3 : zs_in (x4).toInt 2 2 := (zs_ler 2 2 r2 zlI_2 h_x4 (by decide))
    exact zs_some (zs_inr (⟨h_σ, h_x3⟩))
  · skip
    have r4 := (zs_I_len c1)
    have g5 : zs_in (x4).toInt 0 1 := (zs_ltl 0 1 r4 h_x4 zlI_2 (by decide))
    refine zs_bd_ (zd_109 h_x1 h_x2 g5 (s0 := (σ, (x3, (0 : Int32)))) ⟨h_σ, ⟨h_x3, (zs_w zlI_0 (by decide))⟩⟩) (fun t_2 pt_2 => ?_)
    obtain ⟨ret, er, hr⟩ := zc_603 pt_2.1 h_x1 h_x2 pt_2.2 g5 hc
    refine ⟨ret, er, ?_⟩
    exact (zs_sumw hr (fun v w => ⟨w.1, w.2⟩) (fun v w => w.elim))
theorem zd_110 {σ0 : sn_S} {x1 : Int32} (h_x1 : zs_in x1.toInt 0 5) {x2 : Int32} (h_x2 : zs_in x2.toInt 0 5) {s0 : (sn_S × (Int32 × Int32))} (h0 : (zs_C σ0 s0.1 ∧ (zs_in (s0.2.1).toInt 0 15 ∧ zs_in (s0.2.2).toInt 0 2))) : zs_ok (sn_it (LX8_rests_29 x1 x2) 5000 s0) (fun t => (zs_C σ0 t.1 ∧ zs_in (t.2).toInt 0 15)) := by
  refine zs_it (I := fun s => (zs_C σ0 s.1 ∧ (zs_in (s.2.1).toInt 0 15 ∧ zs_in (s.2.2).toInt 0 2))) (m := fun s => 2 - s.2.2.toInt) (fun s hs => ?_) (fun s hs => ?_) (by exact h0)
  · have h1 := hs.2.2; unfold zs_in at h1
    omega
  · obtain ⟨b, eb, hb⟩ := zc_604 hs.1 h_x1 h_x2 hs.2.1 hs.2.2 (c := s.2.2.toInt) (Int.add_zero _).symm
    exact ⟨b, eb, zs_sumw hb (fun v w => ⟨⟨w.1.1, ⟨w.1.2.1, (zs_w w.1.2.2 (by decide))⟩⟩, by have := w.2; omega⟩) (fun v w => w)⟩
-- BX8_rests_130
theorem zc_605 {σ0 : sn_S} {σ : sn_S} (h_σ : zs_C σ0 σ) {x3 : Int32} (h_x3 : zs_in x3.toInt 0 15) : zs_ok (BX8_rests_130 σ x3) (fun r => (zs_in (r.1).toInt 0 15 ∧ zs_C σ0 r.2)) := by
  unfold BX8_rests_130
  exact zs_some ⟨h_x3, h_σ⟩
-- fX8_rests
theorem zc_606 {σ0 : sn_S} {σ : sn_S} (h_σ : zs_C σ0 σ) {x1 : Int32} {x2 : Int32} : zs_ok (fX8_rests σ x1 x2) (fun r => ((zs_in (r.1).toInt (-2) 15 ∧ zs_C σ0 r.2)) ∧ ((r.1).toInt = (-2) ∨ (zs_in (x1).toInt 0 5 ∧ zs_in (x2).toInt 0 5))) := by
  unfold fX8_rests
  refine zs_bd_ (zc_3 h_σ) (fun t_1 pt_1 => ?_)
  refine zs_ite (fun c1 => ?_) (fun c1 => ?_)
  · skip
    have r2 := (zs_I_eq c1)
    have g3 : zs_in (t_1).toInt 0 0 := (zs_eql 0 0 r2 pt_1.1 zlI_0 (by decide))
    exact zs_some ⟨⟨(zs_w zlI_m2 (by decide)), h_σ⟩, Or.inl (zs_ptr zlI_m2)⟩
  · skip
    have r4 := (zs_I_eqn c1)
    have g5 : zs_in (t_1).toInt 1 1 := (zs_nel 1 1 r4 pt_1.1 zlI_0 (by decide))
    have q6 := (zs_or2 pt_1.2 g5 (by decide))
    have g7 : zs_in (x1).toInt 0 5 := q6
    refine zs_bd_ (zc_3 h_σ) (fun t_4 pt_4 => ?_)
    refine zs_ite (fun c8 => ?_) (fun c8 => ?_)
    · skip
      have r9 := (zs_I_eq c8)
      have g10 : zs_in (t_4).toInt 0 0 := (zs_eql 0 0 r9 pt_4.1 zlI_0 (by decide))
      exact zs_some ⟨⟨(zs_w zlI_m2 (by decide)), h_σ⟩, Or.inl (zs_ptr zlI_m2)⟩
    · skip
      have r11 := (zs_I_eqn c8)
      have g12 : zs_in (t_4).toInt 1 1 := (zs_nel 1 1 r11 pt_4.1 zlI_0 (by decide))
      have q13 := (zs_or2 pt_4.2 g12 (by decide))
      have g14 : zs_in (x2).toInt 0 5 := q13
      refine zs_ite (fun c15 => ?_) (fun c15 => ?_)
      · skip
        have r16 := (zs_I_eq c15)
        exact zs_some ⟨⟨(zs_w zlI_m2 (by decide)), h_σ⟩, Or.inl (zs_ptr zlI_m2)⟩
      · skip
        have r17 := (zs_I_eqn c15)
        refine zs_bd_ (zd_110 g7 g14 (s0 := (σ, ((0 : Int32), (0 : Int32)))) ⟨h_σ, ⟨(zs_w zlI_0 (by decide)), (zs_w zlI_0 (by decide))⟩⟩) (fun t_8 pt_8 => ?_)
        obtain ⟨ret, er, hr⟩ := zc_605 pt_8.1 pt_8.2
        refine ⟨ret, er, ?_⟩
        exact ⟨⟨(zs_w hr.1 (by decide)), hr.2⟩, Or.inr ⟨g7, g14⟩⟩
-- fX9_areTwo
theorem zc_607 {σ0 : sn_S} {σ : sn_S} (h_σ : zs_M σ0 σ) {x1 : Int32} {x2 : Int32} : zs_ok (fX9_areTwo σ x1 x2) (fun r => (zs_in (r).toInt 0 1) ∧ ((r).toInt = 0 ∨ (zs_in (x1).toInt 0 5 ∧ zs_in (x2).toInt 0 5))) := by
  unfold fX9_areTwo
  refine zs_bd_ (zc_6 h_σ (zs_64 (zs_topI _))) (fun t_1 pt_1 => ?_)
  refine zs_ite (fun c1 => ?_) (fun c1 => ?_)
  · skip
    have r2 := (zs_I_eq c1)
    have g3 : zs_in (t_1).toInt 0 0 := (zs_eql 0 0 r2 pt_1.1 zlI_0 (by decide))
    refine zs_gd (zs_b01 zlI_0 (by decide)) ?_
    exact zs_some ⟨(zs_w zlI_0 (by decide)), Or.inl (zs_ptr zlI_0)⟩
  · skip
    have r4 := (zs_I_eqn c1)
    have g5 : zs_in (t_1).toInt 1 1 := (zs_nel 1 1 r4 pt_1.1 zlI_0 (by decide))
    have q6 := (zs_or2 pt_1.2 g5 (by decide))
    have g7 : zs_in (x1.toInt64).toInt 0 5 := q6
    have g8 : zs_in (x1).toInt 0 5 := (zs_64r g7)
    refine zs_bd_ (zc_6 h_σ (zs_64 (zs_topI _))) (fun t_5 pt_5 => ?_)
    refine zs_ite (fun c9 => ?_) (fun c9 => ?_)
    · skip
      have r10 := (zs_I_eq c9)
      have g11 : zs_in (t_5).toInt 0 0 := (zs_eql 0 0 r10 pt_5.1 zlI_0 (by decide))
      refine zs_gd (zs_b01 zlI_0 (by decide)) ?_
      exact zs_some ⟨(zs_w zlI_0 (by decide)), Or.inl (zs_ptr zlI_0)⟩
    · skip
      have r12 := (zs_I_eqn c9)
      have g13 : zs_in (t_5).toInt 1 1 := (zs_nel 1 1 r12 pt_5.1 zlI_0 (by decide))
      have q14 := (zs_or2 pt_5.2 g13 (by decide))
      have g15 : zs_in (x2.toInt64).toInt 0 5 := q14
      have g16 : zs_in (x2).toInt 0 5 := (zs_64r g15)
      refine zs_ite (fun c17 => ?_) (fun c17 => ?_)
      · skip
        have r18 := (zs_I_eq c17)
        refine zs_gd (zs_b01 zlI_0 (by decide)) ?_
        exact zs_some ⟨(zs_w zlI_0 (by decide)), Or.inl (zs_ptr zlI_0)⟩
      · skip
        have r19 := (zs_I_eqn c17)
        refine zs_gd (zs_b01 zlI_1 (by decide)) ?_
        exact zs_some ⟨(zs_w zlI_1 (by decide)), Or.inr ⟨g8, g16⟩⟩
-- BX9_losesBy_94
theorem zc_608 {σ0 : sn_S} {σ : sn_S} (h_σ : zs_M σ0 σ) {t0 : Int32} {t1 : Int32} (h_t1 : zs_in t1.toInt 0 7) : zs_ok (BX9_losesBy_94 σ t0 t1) (fun r => (True ∧ zs_M σ0 r.2)) := by
  unfold BX9_losesBy_94
  exact zs_some ⟨trivial, h_σ⟩
-- BX9_losesBy_80
theorem zc_609 {σ0 : sn_S} {σ : sn_S} (h_σ : zs_M σ0 σ) {t0 : Int32} {t1 : Int32} (h_t1 : zs_in t1.toInt 1 1) : zs_ok (BX9_losesBy_80 σ t0 t1) (fun r => (True ∧ zs_M σ0 r.2)) := by
  unfold BX9_losesBy_80
  obtain rfl : t1 = (1 : Int32) := zs_eqv h_t1 (by decide)
  refine zs_ite (fun c1 => ?_) (fun c1 => ?_)
  · skip
    have r2 := (zs_I_eq c1)
    refine zs_bd_ (zc_21 h_σ) (fun t_2 pt_2 => ?_)
    obtain ⟨ret, er, hr⟩ := zc_608 h_σ (zs_divI 0 7 pt_2 zlI_4 (by decide))
    refine ⟨ret, er, ?_⟩
    exact hr
  · skip
    have r3 := (zs_I_eqn c1)
    exact (zs_botne r3 h_t1 zlI_1 (by decide)).elim
-- BX9_losesBy_55
theorem zc_610 {σ0 : sn_S} {σ : sn_S} (h_σ : zs_M σ0 σ) {x3 : Int32} (h_x3 : zs_in x3.toInt 1 1) {x4 : Int32} (h_x4 : zs_in x4.toInt 1 1) {x5 : Int32} (h_x5 : zs_in x5.toInt 0 0) {t0 : Int32} (h_t0 : zs_in t0.toInt 0 5) : zs_ok (BX9_losesBy_55 σ x3 x4 x5 t0) (fun r => (True ∧ zs_M σ0 r.2)) := by
  unfold BX9_losesBy_55
  obtain rfl : x3 = (1 : Int32) := zs_eqv h_x3 (by decide)
  obtain rfl : x4 = (1 : Int32) := zs_eqv h_x4 (by decide)
  obtain rfl : x5 = (0 : Int32) := zs_eqv h_x5 (by decide)
  refine zs_gd (zs_gin h_t0 (by decide)) ?_
  refine zs_bd_ (zc_109 (zs_rdu (q := 10) (z := (0, 1073741823)) h_σ.1 (fun _ => rfl))) (fun t_2 pt_2 => ?_)
  refine zs_ite (fun c1 => ?_) (fun c1 => ?_)
  · skip
    have r2 := (zs_I_eq c1)
    obtain ⟨ret, er, hr⟩ := zc_609 h_σ h_x3
    refine ⟨ret, er, ?_⟩
    exact hr
  · skip
    have r3 := (zs_I_eqn c1)
    exact (zs_botne r3 h_x5 zlI_0 (by decide)).elim
-- BX9_losesBy_41
theorem zc_611 {σ0 : sn_S} {σ : sn_S} (h_σ : zs_M σ0 σ) {x1 : Int32} (h_x1 : zs_in x1.toInt 0 5) {x2 : Int32} (h_x2 : zs_in x2.toInt 0 5) {x3 : Int32} (h_x3 : zs_in x3.toInt 1 1) {x4 : Int32} (h_x4 : zs_in x4.toInt 1 1) {x5 : Int32} (h_x5 : zs_in x5.toInt 0 0) : zs_ok (BX9_losesBy_41 σ x1 x2 x3 x4 x5) (fun r => (True ∧ zs_M σ0 r.2)) := by
  unfold BX9_losesBy_41
  obtain rfl : x3 = (1 : Int32) := zs_eqv h_x3 (by decide)
  obtain rfl : x4 = (1 : Int32) := zs_eqv h_x4 (by decide)
  obtain rfl : x5 = (0 : Int32) := zs_eqv h_x5 (by decide)
  refine zs_bd_ (zc_90 h_σ) (fun t_1 pt_1 => ?_)
  refine zs_ite (fun c1 => ?_) (fun c1 => ?_)
  · skip
    have r2 := (zs_I_eq c1)
    obtain ⟨ret, er, hr⟩ := zc_610 pt_1 h_x3 h_x4 h_x5 h_x1
    refine ⟨ret, er, ?_⟩
    exact hr
  · skip
    have r3 := (zs_I_eqn c1)
    exact (zs_botne r3 h_x5 zlI_0 (by decide)).elim
-- BX9_losesBy_55
theorem zc_612 {σ0 : sn_S} {σ : sn_S} (h_σ : zs_M σ0 σ) {x3 : Int32} (h_x3 : zs_in x3.toInt 1 1) {x4 : Int32} {x5 : Int32} (h_x5 : zs_in x5.toInt 0 0) {t0 : Int32} (h_t0 : zs_in t0.toInt 0 5) : zs_ok (BX9_losesBy_55 σ x3 x4 x5 t0) (fun r => (True ∧ zs_M σ0 r.2)) := by
  unfold BX9_losesBy_55
  obtain rfl : x3 = (1 : Int32) := zs_eqv h_x3 (by decide)
  obtain rfl : x5 = (0 : Int32) := zs_eqv h_x5 (by decide)
  refine zs_gd (zs_gin h_t0 (by decide)) ?_
  refine zs_bd_ (zc_109 (zs_rdu (q := 10) (z := (0, 1073741823)) h_σ.1 (fun _ => rfl))) (fun t_2 pt_2 => ?_)
  refine zs_ite (fun c1 => ?_) (fun c1 => ?_)
  · skip
    have r2 := (zs_I_eq c1)
    obtain ⟨ret, er, hr⟩ := zc_609 h_σ h_x3
    refine ⟨ret, er, ?_⟩
    exact hr
  · skip
    have r3 := (zs_I_eqn c1)
    exact (zs_botne r3 h_x5 zlI_0 (by decide)).elim
-- BX9_losesBy_41
theorem zc_613 {σ0 : sn_S} {σ : sn_S} (h_σ : zs_M σ0 σ) {x1 : Int32} (h_x1 : zs_in x1.toInt 0 5) {x2 : Int32} (h_x2 : zs_in x2.toInt 0 5) {x3 : Int32} (h_x3 : zs_in x3.toInt 1 1) {x4 : Int32} {x5 : Int32} (h_x5 : zs_in x5.toInt 0 0) : zs_ok (BX9_losesBy_41 σ x1 x2 x3 x4 x5) (fun r => (True ∧ zs_M σ0 r.2)) := by
  unfold BX9_losesBy_41
  obtain rfl : x3 = (1 : Int32) := zs_eqv h_x3 (by decide)
  obtain rfl : x5 = (0 : Int32) := zs_eqv h_x5 (by decide)
  refine zs_bd_ (zc_90 h_σ) (fun t_1 pt_1 => ?_)
  refine zs_ite (fun c1 => ?_) (fun c1 => ?_)
  · skip
    have r2 := (zs_I_eq c1)
    obtain ⟨ret, er, hr⟩ := zc_612 pt_1 h_x3 h_x5 h_x1
    refine ⟨ret, er, ?_⟩
    exact hr
  · skip
    have r3 := (zs_I_eqn c1)
    exact (zs_botne r3 h_x5 zlI_0 (by decide)).elim
-- BX9_losesBy_27
theorem zc_614 {σ0 : sn_S} {σ : sn_S} (h_σ : zs_M σ0 σ) {x1 : Int32} (h_x1 : zs_in x1.toInt 0 5) {x2 : Int32} (h_x2 : zs_in x2.toInt 0 5) {x3 : Int32} (h_x3 : zs_in x3.toInt 1 1) {x4 : Int32} {x5 : Int32} (h_x5 : zs_in x5.toInt 0 0) {x6 : Int32} (h_x6 : zs_in x6.toInt 0 1073741823) : zs_ok (BX9_losesBy_27 σ x1 x2 x3 x4 x5 x6) (fun r => (True ∧ zs_M σ0 r.2)) := by
  unfold BX9_losesBy_27
  obtain rfl : x3 = (1 : Int32) := zs_eqv h_x3 (by decide)
  obtain rfl : x5 = (0 : Int32) := zs_eqv h_x5 (by decide)
  refine zs_ite (fun c1 => ?_) (fun c1 => ?_)
  · skip
    have r2 := (zs_I_eq c1)
    have g3 : zs_in (x4).toInt 1 1 := (zs_eql 1 1 r2 (zs_topI _) zlI_1 (by decide))
    refine zs_gd (zs_gin h_x2 (by decide)) ?_
    refine zs_lt (Q := fun z => zs_M σ0 z) (zs_wrt h_σ (fun _ => rfl) (fun _ => rfl)) (fun σ_3 hσ_3 => ?_)
    obtain ⟨ret, er, hr⟩ := zc_611 hσ_3 h_x1 h_x2 h_x3 g3 h_x5
    refine ⟨ret, er, ?_⟩
    exact hr
  · skip
    have r4 := (zs_I_eqn c1)
    obtain ⟨ret, er, hr⟩ := zc_613 h_σ h_x1 h_x2 h_x3 h_x5
    refine ⟨ret, er, ?_⟩
    exact hr
-- BX9_losesBy_94
theorem zc_615 {σ0 : sn_S} {σ : sn_S} (h_σ : zs_M σ0 σ) {t0 : Int32} {t1 : Int32} (h_t1 : zs_in t1.toInt 0 0) : zs_ok (BX9_losesBy_94 σ t0 t1) (fun r => (True ∧ zs_M σ0 r.2)) := by
  unfold BX9_losesBy_94
  obtain rfl : t1 = (0 : Int32) := zs_eqv h_t1 (by decide)
  exact zs_some ⟨trivial, h_σ⟩
-- BX9_losesBy_80
theorem zc_616 {σ0 : sn_S} {σ : sn_S} (h_σ : zs_M σ0 σ) {t0 : Int32} {t1 : Int32} (h_t1 : zs_in t1.toInt 0 0) : zs_ok (BX9_losesBy_80 σ t0 t1) (fun r => (True ∧ zs_M σ0 r.2)) := by
  unfold BX9_losesBy_80
  obtain rfl : t1 = (0 : Int32) := zs_eqv h_t1 (by decide)
  refine zs_ite (fun c1 => ?_) (fun c1 => ?_)
  · skip
    have r2 := (zs_I_eq c1)
    exact (zs_botr r2 h_t1 zlI_1 (by decide)).elim
  · skip
    have r3 := (zs_I_eqn c1)
    obtain ⟨ret, er, hr⟩ := zc_615 h_σ zlI_0
    refine ⟨ret, er, ?_⟩
    exact hr
-- BX9_losesBy_55
theorem zc_617 {σ0 : sn_S} {σ : sn_S} (h_σ : zs_M σ0 σ) {x3 : Int32} (h_x3 : zs_in x3.toInt 0 0) {x4 : Int32} (h_x4 : zs_in x4.toInt 1 1) {x5 : Int32} (h_x5 : zs_in x5.toInt 0 0) {t0 : Int32} (h_t0 : zs_in t0.toInt 0 5) : zs_ok (BX9_losesBy_55 σ x3 x4 x5 t0) (fun r => (True ∧ zs_M σ0 r.2)) := by
  unfold BX9_losesBy_55
  obtain rfl : x3 = (0 : Int32) := zs_eqv h_x3 (by decide)
  obtain rfl : x4 = (1 : Int32) := zs_eqv h_x4 (by decide)
  obtain rfl : x5 = (0 : Int32) := zs_eqv h_x5 (by decide)
  refine zs_gd (zs_gin h_t0 (by decide)) ?_
  refine zs_bd_ (zc_109 (zs_rdu (q := 10) (z := (0, 1073741823)) h_σ.1 (fun _ => rfl))) (fun t_2 pt_2 => ?_)
  refine zs_ite (fun c1 => ?_) (fun c1 => ?_)
  · skip
    have r2 := (zs_I_eq c1)
    obtain ⟨ret, er, hr⟩ := zc_616 h_σ h_x3
    refine ⟨ret, er, ?_⟩
    exact hr
  · skip
    have r3 := (zs_I_eqn c1)
    exact (zs_botne r3 h_x5 zlI_0 (by decide)).elim
-- BX9_losesBy_41
theorem zc_618 {σ0 : sn_S} {σ : sn_S} (h_σ : zs_M σ0 σ) {x1 : Int32} (h_x1 : zs_in x1.toInt 0 5) {x2 : Int32} (h_x2 : zs_in x2.toInt 0 5) {x3 : Int32} (h_x3 : zs_in x3.toInt 0 0) {x4 : Int32} (h_x4 : zs_in x4.toInt 1 1) {x5 : Int32} (h_x5 : zs_in x5.toInt 0 0) : zs_ok (BX9_losesBy_41 σ x1 x2 x3 x4 x5) (fun r => (True ∧ zs_M σ0 r.2)) := by
  unfold BX9_losesBy_41
  obtain rfl : x3 = (0 : Int32) := zs_eqv h_x3 (by decide)
  obtain rfl : x4 = (1 : Int32) := zs_eqv h_x4 (by decide)
  obtain rfl : x5 = (0 : Int32) := zs_eqv h_x5 (by decide)
  refine zs_bd_ (zc_90 h_σ) (fun t_1 pt_1 => ?_)
  refine zs_ite (fun c1 => ?_) (fun c1 => ?_)
  · skip
    have r2 := (zs_I_eq c1)
    obtain ⟨ret, er, hr⟩ := zc_617 pt_1 h_x3 h_x4 h_x5 h_x1
    refine ⟨ret, er, ?_⟩
    exact hr
  · skip
    have r3 := (zs_I_eqn c1)
    exact (zs_botne r3 h_x5 zlI_0 (by decide)).elim
-- BX9_losesBy_55
theorem zc_619 {σ0 : sn_S} {σ : sn_S} (h_σ : zs_M σ0 σ) {x3 : Int32} (h_x3 : zs_in x3.toInt 0 0) {x4 : Int32} {x5 : Int32} (h_x5 : zs_in x5.toInt 0 0) {t0 : Int32} (h_t0 : zs_in t0.toInt 0 5) : zs_ok (BX9_losesBy_55 σ x3 x4 x5 t0) (fun r => (True ∧ zs_M σ0 r.2)) := by
  unfold BX9_losesBy_55
  obtain rfl : x3 = (0 : Int32) := zs_eqv h_x3 (by decide)
  obtain rfl : x5 = (0 : Int32) := zs_eqv h_x5 (by decide)
  refine zs_gd (zs_gin h_t0 (by decide)) ?_
  refine zs_bd_ (zc_109 (zs_rdu (q := 10) (z := (0, 1073741823)) h_σ.1 (fun _ => rfl))) (fun t_2 pt_2 => ?_)
  refine zs_ite (fun c1 => ?_) (fun c1 => ?_)
  · skip
    have r2 := (zs_I_eq c1)
    obtain ⟨ret, er, hr⟩ := zc_616 h_σ h_x3
    refine ⟨ret, er, ?_⟩
    exact hr
  · skip
    have r3 := (zs_I_eqn c1)
    exact (zs_botne r3 h_x5 zlI_0 (by decide)).elim
-- BX9_losesBy_41
theorem zc_620 {σ0 : sn_S} {σ : sn_S} (h_σ : zs_M σ0 σ) {x1 : Int32} (h_x1 : zs_in x1.toInt 0 5) {x2 : Int32} (h_x2 : zs_in x2.toInt 0 5) {x3 : Int32} (h_x3 : zs_in x3.toInt 0 0) {x4 : Int32} {x5 : Int32} (h_x5 : zs_in x5.toInt 0 0) : zs_ok (BX9_losesBy_41 σ x1 x2 x3 x4 x5) (fun r => (True ∧ zs_M σ0 r.2)) := by
  unfold BX9_losesBy_41
  obtain rfl : x3 = (0 : Int32) := zs_eqv h_x3 (by decide)
  obtain rfl : x5 = (0 : Int32) := zs_eqv h_x5 (by decide)
  refine zs_bd_ (zc_90 h_σ) (fun t_1 pt_1 => ?_)
  refine zs_ite (fun c1 => ?_) (fun c1 => ?_)
  · skip
    have r2 := (zs_I_eq c1)
    obtain ⟨ret, er, hr⟩ := zc_619 pt_1 h_x3 h_x5 h_x1
    refine ⟨ret, er, ?_⟩
    exact hr
  · skip
    have r3 := (zs_I_eqn c1)
    exact (zs_botne r3 h_x5 zlI_0 (by decide)).elim
-- BX9_losesBy_27
theorem zc_621 {σ0 : sn_S} {σ : sn_S} (h_σ : zs_M σ0 σ) {x1 : Int32} (h_x1 : zs_in x1.toInt 0 5) {x2 : Int32} (h_x2 : zs_in x2.toInt 0 5) {x3 : Int32} (h_x3 : zs_in x3.toInt 0 0) {x4 : Int32} {x5 : Int32} (h_x5 : zs_in x5.toInt 0 0) {x6 : Int32} (h_x6 : zs_in x6.toInt 0 1073741823) : zs_ok (BX9_losesBy_27 σ x1 x2 x3 x4 x5 x6) (fun r => (True ∧ zs_M σ0 r.2)) := by
  unfold BX9_losesBy_27
  obtain rfl : x3 = (0 : Int32) := zs_eqv h_x3 (by decide)
  obtain rfl : x5 = (0 : Int32) := zs_eqv h_x5 (by decide)
  refine zs_ite (fun c1 => ?_) (fun c1 => ?_)
  · skip
    have r2 := (zs_I_eq c1)
    have g3 : zs_in (x4).toInt 1 1 := (zs_eql 1 1 r2 (zs_topI _) zlI_1 (by decide))
    refine zs_gd (zs_gin h_x2 (by decide)) ?_
    refine zs_lt (Q := fun z => zs_M σ0 z) (zs_wrt h_σ (fun _ => rfl) (fun _ => rfl)) (fun σ_3 hσ_3 => ?_)
    obtain ⟨ret, er, hr⟩ := zc_618 hσ_3 h_x1 h_x2 h_x3 g3 h_x5
    refine ⟨ret, er, ?_⟩
    exact hr
  · skip
    have r4 := (zs_I_eqn c1)
    obtain ⟨ret, er, hr⟩ := zc_620 h_σ h_x1 h_x2 h_x3 h_x5
    refine ⟨ret, er, ?_⟩
    exact hr
-- fX9_losesBy
theorem zc_622 {σ0 : sn_S} {σ : sn_S} (h_σ : zs_M σ0 σ) {x1 : Int32} (h_x1 : zs_in x1.toInt 0 5) {x2 : Int32} (h_x2 : zs_in x2.toInt 0 5) {x3 : Int32} (h_x3 : zs_in x3.toInt 0 1) {x4 : Int32} {x5 : Int32} (h_x5 : zs_in x5.toInt 0 0) : zs_ok (fX9_losesBy σ x1 x2 x3 x4 x5) (fun r => (True ∧ zs_M σ0 r.2)) := by
  unfold fX9_losesBy
  obtain rfl : x5 = (0 : Int32) := zs_eqv h_x5 (by decide)
  refine zs_bd_ (zc_31 h_σ) (fun t_1 pt_1 => ?_)
  refine zs_bd_ (zc_21 pt_1) (fun t_3 pt_3 => ?_)
  refine zs_lt (Q := fun z => zs_in z.toInt 0 1073741823) (zs_subI 0 1073741823 (zs_cases pt_3 (fun z => zs_in ((1 : Int32) <<< (z &&& 31)).toInt 1 1073741824) (by decide +kernel)) zlI_1 (by decide)) (fun y_5 hy_5 => ?_)
  refine zs_ite (fun c1 => ?_) (fun c1 => ?_)
  · skip
    have r2 := (zs_I_eq c1)
    have g3 : zs_in (x3).toInt 1 1 := (zs_eql 1 1 r2 h_x3 zlI_1 (by decide))
    refine zs_gd (zs_gin h_x1 (by decide)) ?_
    refine zs_lt (Q := fun z => zs_M σ0 z) (zs_wrt pt_1 (fun _ => rfl) (fun _ => rfl)) (fun σ_9 hσ_9 => ?_)
    obtain ⟨ret, er, hr⟩ := zc_614 hσ_9 h_x1 h_x2 g3 h_x5 hy_5
    refine ⟨ret, er, ?_⟩
    exact hr
  · skip
    have r4 := (zs_I_eqn c1)
    have g5 : zs_in (x3).toInt 0 0 := (zs_neh 0 0 r4 h_x3 zlI_1 (by decide))
    obtain ⟨ret, er, hr⟩ := zc_621 pt_1 h_x1 h_x2 g5 h_x5 hy_5
    refine ⟨ret, er, ?_⟩
    exact hr
-- BX9_rests_110
theorem zc_623 {σ0 : sn_S} {σ : sn_S} (h_σ : zs_M σ0 σ) {x1 : Int32} (h_x1 : zs_in x1.toInt 0 5) {x2 : Int32} (h_x2 : zs_in x2.toInt 0 5) {x3 : Int32} (h_x3 : zs_in x3.toInt 0 15) {x4 : Int32} (h_x4 : zs_in x4.toInt 0 3) {t0 : Int32} (h_t0 : zs_in t0.toInt 0 15) {t1 : Int32} (h_t1 : zs_in t1.toInt 0 0) {c : Int} (hc : x4.toInt = c + 0) : zs_ok (BX9_rests_110 σ x1 x2 x3 x4 t0 t1) (fun r => zs_sum (fun v => ((zs_M σ0 v.1 ∧ (zs_in (v.2.1).toInt 0 15 ∧ zs_in (v.2.2).toInt 1 4))) ∧ v.2.2.toInt = c + 1) (fun v => False) r) := by
  unfold BX9_rests_110
  obtain rfl : t1 = (0 : Int32) := zs_eqv h_t1 (by decide)
  refine zs_lt (Q := fun z => zs_in z.toInt 0 15) (zs_or 4 15 h_t0 h_t1 (by decide)) (fun y_1 hy_1 => ?_)
  refine zs_lt (Q := fun z => zs_in z.toInt 1 4 ∧ z.toInt = c + 1) ⟨(zs_addI 1 4 h_x4 zlI_1 (by decide)), (zs_syI 1 hc h_x4 zlI_1 (by decide) (by decide))⟩ (fun y_3 hy_3 => ?_)
  exact zs_some (zs_inl ⟨⟨h_σ, ⟨hy_1, hy_3.1⟩⟩, hy_3.2⟩)
-- BX9_rests_94
theorem zc_624 {σ0 : sn_S} {σ : sn_S} (h_σ : zs_M σ0 σ) {x1 : Int32} (h_x1 : zs_in x1.toInt 0 5) {x2 : Int32} (h_x2 : zs_in x2.toInt 0 5) {x3 : Int32} (h_x3 : zs_in x3.toInt 0 15) {x4 : Int32} (h_x4 : zs_in x4.toInt 0 3) {t0 : Int32} (h_t0 : zs_in t0.toInt 0 0) {c : Int} (hc : x4.toInt = c + 0) : zs_ok (BX9_rests_94 σ x1 x2 x3 x4 t0) (fun r => zs_sum (fun v => ((zs_M σ0 v.1 ∧ (zs_in (v.2.1).toInt 0 15 ∧ zs_in (v.2.2).toInt 1 4))) ∧ v.2.2.toInt = c + 1) (fun v => False) r) := by
  unfold BX9_rests_94
  obtain rfl : t0 = (0 : Int32) := zs_eqv h_t0 (by decide)
  refine zs_ite (fun c1 => ?_) (fun c1 => ?_)
  · skip
    have r2 := (zs_I_eq c1)
    obtain ⟨ret, er, hr⟩ := zc_623 h_σ h_x1 h_x2 h_x3 h_x4 h_x3 zlI_0 hc
    refine ⟨ret, er, ?_⟩
    exact (zs_sumw hr (fun v w => ⟨w.1, w.2⟩) (fun v w => w.elim))
  · skip
    have r3 := (zs_I_eqn c1)
    exact (zs_botne r3 h_t0 zlI_0 (by decide)).elim
-- BX9_rests_93
theorem zc_625 {σ0 : sn_S} {σ : sn_S} (h_σ : zs_M σ0 σ) {x1 : Int32} (h_x1 : zs_in x1.toInt 0 5) {x2 : Int32} (h_x2 : zs_in x2.toInt 0 5) {x3 : Int32} (h_x3 : zs_in x3.toInt 0 15) {x4 : Int32} (h_x4 : zs_in x4.toInt 0 3) {c : Int} (hc : x4.toInt = c + 0) : zs_ok (BX9_rests_93 σ x1 x2 x3 x4) (fun r => zs_sum (fun v => ((zs_M σ0 v.1 ∧ (zs_in (v.2.1).toInt 0 15 ∧ zs_in (v.2.2).toInt 1 4))) ∧ v.2.2.toInt = c + 1) (fun v => False) r) := by
  unfold BX9_rests_93
  obtain ⟨ret, er, hr⟩ := zc_624 h_σ h_x1 h_x2 h_x3 h_x4 zlI_0 hc
  refine ⟨ret, er, ?_⟩
  exact (zs_sumw hr (fun v w => ⟨w.1, w.2⟩) (fun v w => w.elim))
-- BX9_losesBy_55
theorem zc_626 {σ0 : sn_S} {σ : sn_S} (h_σ : zs_M σ0 σ) {x3 : Int32} (h_x3 : zs_in x3.toInt 1 1) {x4 : Int32} (h_x4 : zs_in x4.toInt 1 1) {x5 : Int32} (h_x5 : zs_in x5.toInt 1 1) {t0 : Int32} (h_t0 : zs_in t0.toInt 0 5) : zs_ok (BX9_losesBy_55 σ x3 x4 x5 t0) (fun r => (True ∧ zs_M σ0 r.2)) := by
  unfold BX9_losesBy_55
  obtain rfl : x3 = (1 : Int32) := zs_eqv h_x3 (by decide)
  obtain rfl : x4 = (1 : Int32) := zs_eqv h_x4 (by decide)
  obtain rfl : x5 = (1 : Int32) := zs_eqv h_x5 (by decide)
  refine zs_gd (zs_gin h_t0 (by decide)) ?_
  refine zs_bd_ (zc_109 (zs_rdu (q := 10) (z := (0, 1073741823)) h_σ.1 (fun _ => rfl))) (fun t_2 pt_2 => ?_)
  refine zs_ite (fun c1 => ?_) (fun c1 => ?_)
  · skip
    have r2 := (zs_I_eq c1)
    exact (zs_botr r2 h_x5 zlI_0 (by decide)).elim
  · skip
    have r3 := (zs_I_eqn c1)
    obtain ⟨ret, er, hr⟩ := zc_609 h_σ h_x4
    refine ⟨ret, er, ?_⟩
    exact hr
-- BX9_losesBy_41
theorem zc_627 {σ0 : sn_S} {σ : sn_S} (h_σ : zs_M σ0 σ) {x1 : Int32} (h_x1 : zs_in x1.toInt 0 5) {x2 : Int32} (h_x2 : zs_in x2.toInt 0 5) {x3 : Int32} (h_x3 : zs_in x3.toInt 1 1) {x4 : Int32} (h_x4 : zs_in x4.toInt 1 1) {x5 : Int32} (h_x5 : zs_in x5.toInt 1 1) : zs_ok (BX9_losesBy_41 σ x1 x2 x3 x4 x5) (fun r => (True ∧ zs_M σ0 r.2)) := by
  unfold BX9_losesBy_41
  obtain rfl : x3 = (1 : Int32) := zs_eqv h_x3 (by decide)
  obtain rfl : x4 = (1 : Int32) := zs_eqv h_x4 (by decide)
  obtain rfl : x5 = (1 : Int32) := zs_eqv h_x5 (by decide)
  refine zs_bd_ (zc_90 h_σ) (fun t_1 pt_1 => ?_)
  refine zs_ite (fun c1 => ?_) (fun c1 => ?_)
  · skip
    have r2 := (zs_I_eq c1)
    exact (zs_botr r2 h_x5 zlI_0 (by decide)).elim
  · skip
    have r3 := (zs_I_eqn c1)
    obtain ⟨ret, er, hr⟩ := zc_626 pt_1 h_x3 h_x4 h_x5 h_x2
    refine ⟨ret, er, ?_⟩
    exact hr
-- BX9_losesBy_80
theorem zc_628 {σ0 : sn_S} {σ : sn_S} (h_σ : zs_M σ0 σ) {t0 : Int32} {t1 : Int32} : zs_ok (BX9_losesBy_80 σ t0 t1) (fun r => (True ∧ zs_M σ0 r.2)) := by
  unfold BX9_losesBy_80
  refine zs_ite (fun c1 => ?_) (fun c1 => ?_)
  · skip
    have r2 := (zs_I_eq c1)
    have g3 : zs_in (t1).toInt 1 1 := (zs_eql 1 1 r2 (zs_topI _) zlI_1 (by decide))
    refine zs_bd_ (zc_21 h_σ) (fun t_2 pt_2 => ?_)
    obtain ⟨ret, er, hr⟩ := zc_608 h_σ (zs_divI 0 7 pt_2 zlI_4 (by decide))
    refine ⟨ret, er, ?_⟩
    exact hr
  · skip
    have r4 := (zs_I_eqn c1)
    obtain ⟨ret, er, hr⟩ := zc_615 h_σ zlI_0
    refine ⟨ret, er, ?_⟩
    exact hr
-- BX9_losesBy_55
theorem zc_629 {σ0 : sn_S} {σ : sn_S} (h_σ : zs_M σ0 σ) {x3 : Int32} (h_x3 : zs_in x3.toInt 1 1) {x4 : Int32} {x5 : Int32} (h_x5 : zs_in x5.toInt 1 1) {t0 : Int32} (h_t0 : zs_in t0.toInt 0 5) : zs_ok (BX9_losesBy_55 σ x3 x4 x5 t0) (fun r => (True ∧ zs_M σ0 r.2)) := by
  unfold BX9_losesBy_55
  obtain rfl : x3 = (1 : Int32) := zs_eqv h_x3 (by decide)
  obtain rfl : x5 = (1 : Int32) := zs_eqv h_x5 (by decide)
  refine zs_gd (zs_gin h_t0 (by decide)) ?_
  refine zs_bd_ (zc_109 (zs_rdu (q := 10) (z := (0, 1073741823)) h_σ.1 (fun _ => rfl))) (fun t_2 pt_2 => ?_)
  refine zs_ite (fun c1 => ?_) (fun c1 => ?_)
  · skip
    have r2 := (zs_I_eq c1)
    exact (zs_botr r2 h_x5 zlI_0 (by decide)).elim
  · skip
    have r3 := (zs_I_eqn c1)
    obtain ⟨ret, er, hr⟩ := zc_628 h_σ
    refine ⟨ret, er, ?_⟩
    exact hr
-- BX9_losesBy_41
theorem zc_630 {σ0 : sn_S} {σ : sn_S} (h_σ : zs_M σ0 σ) {x1 : Int32} (h_x1 : zs_in x1.toInt 0 5) {x2 : Int32} (h_x2 : zs_in x2.toInt 0 5) {x3 : Int32} (h_x3 : zs_in x3.toInt 1 1) {x4 : Int32} {x5 : Int32} (h_x5 : zs_in x5.toInt 1 1) : zs_ok (BX9_losesBy_41 σ x1 x2 x3 x4 x5) (fun r => (True ∧ zs_M σ0 r.2)) := by
  unfold BX9_losesBy_41
  obtain rfl : x3 = (1 : Int32) := zs_eqv h_x3 (by decide)
  obtain rfl : x5 = (1 : Int32) := zs_eqv h_x5 (by decide)
  refine zs_bd_ (zc_90 h_σ) (fun t_1 pt_1 => ?_)
  refine zs_ite (fun c1 => ?_) (fun c1 => ?_)
  · skip
    have r2 := (zs_I_eq c1)
    exact (zs_botr r2 h_x5 zlI_0 (by decide)).elim
  · skip
    have r3 := (zs_I_eqn c1)
    obtain ⟨ret, er, hr⟩ := zc_629 pt_1 h_x3 h_x5 h_x2
    refine ⟨ret, er, ?_⟩
    exact hr
-- BX9_losesBy_27
theorem zc_631 {σ0 : sn_S} {σ : sn_S} (h_σ : zs_M σ0 σ) {x1 : Int32} (h_x1 : zs_in x1.toInt 0 5) {x2 : Int32} (h_x2 : zs_in x2.toInt 0 5) {x3 : Int32} (h_x3 : zs_in x3.toInt 1 1) {x4 : Int32} {x5 : Int32} (h_x5 : zs_in x5.toInt 1 1) {x6 : Int32} (h_x6 : zs_in x6.toInt 0 1073741823) : zs_ok (BX9_losesBy_27 σ x1 x2 x3 x4 x5 x6) (fun r => (True ∧ zs_M σ0 r.2)) := by
  unfold BX9_losesBy_27
  obtain rfl : x3 = (1 : Int32) := zs_eqv h_x3 (by decide)
  obtain rfl : x5 = (1 : Int32) := zs_eqv h_x5 (by decide)
  refine zs_ite (fun c1 => ?_) (fun c1 => ?_)
  · skip
    have r2 := (zs_I_eq c1)
    have g3 : zs_in (x4).toInt 1 1 := (zs_eql 1 1 r2 (zs_topI _) zlI_1 (by decide))
    refine zs_gd (zs_gin h_x2 (by decide)) ?_
    refine zs_lt (Q := fun z => zs_M σ0 z) (zs_wrt h_σ (fun _ => rfl) (fun _ => rfl)) (fun σ_3 hσ_3 => ?_)
    obtain ⟨ret, er, hr⟩ := zc_627 hσ_3 h_x1 h_x2 h_x3 g3 h_x5
    refine ⟨ret, er, ?_⟩
    exact hr
  · skip
    have r4 := (zs_I_eqn c1)
    obtain ⟨ret, er, hr⟩ := zc_630 h_σ h_x1 h_x2 h_x3 h_x5
    refine ⟨ret, er, ?_⟩
    exact hr
-- BX9_losesBy_55
theorem zc_632 {σ0 : sn_S} {σ : sn_S} (h_σ : zs_M σ0 σ) {x3 : Int32} (h_x3 : zs_in x3.toInt 0 0) {x4 : Int32} (h_x4 : zs_in x4.toInt 1 1) {x5 : Int32} (h_x5 : zs_in x5.toInt 1 1) {t0 : Int32} (h_t0 : zs_in t0.toInt 0 5) : zs_ok (BX9_losesBy_55 σ x3 x4 x5 t0) (fun r => (True ∧ zs_M σ0 r.2)) := by
  unfold BX9_losesBy_55
  obtain rfl : x3 = (0 : Int32) := zs_eqv h_x3 (by decide)
  obtain rfl : x4 = (1 : Int32) := zs_eqv h_x4 (by decide)
  obtain rfl : x5 = (1 : Int32) := zs_eqv h_x5 (by decide)
  refine zs_gd (zs_gin h_t0 (by decide)) ?_
  refine zs_bd_ (zc_109 (zs_rdu (q := 10) (z := (0, 1073741823)) h_σ.1 (fun _ => rfl))) (fun t_2 pt_2 => ?_)
  refine zs_ite (fun c1 => ?_) (fun c1 => ?_)
  · skip
    have r2 := (zs_I_eq c1)
    exact (zs_botr r2 h_x5 zlI_0 (by decide)).elim
  · skip
    have r3 := (zs_I_eqn c1)
    obtain ⟨ret, er, hr⟩ := zc_609 h_σ h_x4
    refine ⟨ret, er, ?_⟩
    exact hr
-- BX9_losesBy_41
theorem zc_633 {σ0 : sn_S} {σ : sn_S} (h_σ : zs_M σ0 σ) {x1 : Int32} (h_x1 : zs_in x1.toInt 0 5) {x2 : Int32} (h_x2 : zs_in x2.toInt 0 5) {x3 : Int32} (h_x3 : zs_in x3.toInt 0 0) {x4 : Int32} (h_x4 : zs_in x4.toInt 1 1) {x5 : Int32} (h_x5 : zs_in x5.toInt 1 1) : zs_ok (BX9_losesBy_41 σ x1 x2 x3 x4 x5) (fun r => (True ∧ zs_M σ0 r.2)) := by
  unfold BX9_losesBy_41
  obtain rfl : x3 = (0 : Int32) := zs_eqv h_x3 (by decide)
  obtain rfl : x4 = (1 : Int32) := zs_eqv h_x4 (by decide)
  obtain rfl : x5 = (1 : Int32) := zs_eqv h_x5 (by decide)
  refine zs_bd_ (zc_90 h_σ) (fun t_1 pt_1 => ?_)
  refine zs_ite (fun c1 => ?_) (fun c1 => ?_)
  · skip
    have r2 := (zs_I_eq c1)
    exact (zs_botr r2 h_x5 zlI_0 (by decide)).elim
  · skip
    have r3 := (zs_I_eqn c1)
    obtain ⟨ret, er, hr⟩ := zc_632 pt_1 h_x3 h_x4 h_x5 h_x2
    refine ⟨ret, er, ?_⟩
    exact hr
-- BX9_losesBy_55
theorem zc_634 {σ0 : sn_S} {σ : sn_S} (h_σ : zs_M σ0 σ) {x3 : Int32} (h_x3 : zs_in x3.toInt 0 0) {x4 : Int32} {x5 : Int32} (h_x5 : zs_in x5.toInt 1 1) {t0 : Int32} (h_t0 : zs_in t0.toInt 0 5) : zs_ok (BX9_losesBy_55 σ x3 x4 x5 t0) (fun r => (True ∧ zs_M σ0 r.2)) := by
  unfold BX9_losesBy_55
  obtain rfl : x3 = (0 : Int32) := zs_eqv h_x3 (by decide)
  obtain rfl : x5 = (1 : Int32) := zs_eqv h_x5 (by decide)
  refine zs_gd (zs_gin h_t0 (by decide)) ?_
  refine zs_bd_ (zc_109 (zs_rdu (q := 10) (z := (0, 1073741823)) h_σ.1 (fun _ => rfl))) (fun t_2 pt_2 => ?_)
  refine zs_ite (fun c1 => ?_) (fun c1 => ?_)
  · skip
    have r2 := (zs_I_eq c1)
    exact (zs_botr r2 h_x5 zlI_0 (by decide)).elim
  · skip
    have r3 := (zs_I_eqn c1)
    obtain ⟨ret, er, hr⟩ := zc_628 h_σ
    refine ⟨ret, er, ?_⟩
    exact hr
-- BX9_losesBy_41
theorem zc_635 {σ0 : sn_S} {σ : sn_S} (h_σ : zs_M σ0 σ) {x1 : Int32} (h_x1 : zs_in x1.toInt 0 5) {x2 : Int32} (h_x2 : zs_in x2.toInt 0 5) {x3 : Int32} (h_x3 : zs_in x3.toInt 0 0) {x4 : Int32} {x5 : Int32} (h_x5 : zs_in x5.toInt 1 1) : zs_ok (BX9_losesBy_41 σ x1 x2 x3 x4 x5) (fun r => (True ∧ zs_M σ0 r.2)) := by
  unfold BX9_losesBy_41
  obtain rfl : x3 = (0 : Int32) := zs_eqv h_x3 (by decide)
  obtain rfl : x5 = (1 : Int32) := zs_eqv h_x5 (by decide)
  refine zs_bd_ (zc_90 h_σ) (fun t_1 pt_1 => ?_)
  refine zs_ite (fun c1 => ?_) (fun c1 => ?_)
  · skip
    have r2 := (zs_I_eq c1)
    exact (zs_botr r2 h_x5 zlI_0 (by decide)).elim
  · skip
    have r3 := (zs_I_eqn c1)
    obtain ⟨ret, er, hr⟩ := zc_634 pt_1 h_x3 h_x5 h_x2
    refine ⟨ret, er, ?_⟩
    exact hr
-- BX9_losesBy_27
theorem zc_636 {σ0 : sn_S} {σ : sn_S} (h_σ : zs_M σ0 σ) {x1 : Int32} (h_x1 : zs_in x1.toInt 0 5) {x2 : Int32} (h_x2 : zs_in x2.toInt 0 5) {x3 : Int32} (h_x3 : zs_in x3.toInt 0 0) {x4 : Int32} {x5 : Int32} (h_x5 : zs_in x5.toInt 1 1) {x6 : Int32} (h_x6 : zs_in x6.toInt 0 1073741823) : zs_ok (BX9_losesBy_27 σ x1 x2 x3 x4 x5 x6) (fun r => (True ∧ zs_M σ0 r.2)) := by
  unfold BX9_losesBy_27
  obtain rfl : x3 = (0 : Int32) := zs_eqv h_x3 (by decide)
  obtain rfl : x5 = (1 : Int32) := zs_eqv h_x5 (by decide)
  refine zs_ite (fun c1 => ?_) (fun c1 => ?_)
  · skip
    have r2 := (zs_I_eq c1)
    have g3 : zs_in (x4).toInt 1 1 := (zs_eql 1 1 r2 (zs_topI _) zlI_1 (by decide))
    refine zs_gd (zs_gin h_x2 (by decide)) ?_
    refine zs_lt (Q := fun z => zs_M σ0 z) (zs_wrt h_σ (fun _ => rfl) (fun _ => rfl)) (fun σ_3 hσ_3 => ?_)
    obtain ⟨ret, er, hr⟩ := zc_633 hσ_3 h_x1 h_x2 h_x3 g3 h_x5
    refine ⟨ret, er, ?_⟩
    exact hr
  · skip
    have r4 := (zs_I_eqn c1)
    obtain ⟨ret, er, hr⟩ := zc_635 h_σ h_x1 h_x2 h_x3 h_x5
    refine ⟨ret, er, ?_⟩
    exact hr
end
section
-- fX9_losesBy
theorem zc_637 {σ0 : sn_S} {σ : sn_S} (h_σ : zs_M σ0 σ) {x1 : Int32} (h_x1 : zs_in x1.toInt 0 5) {x2 : Int32} (h_x2 : zs_in x2.toInt 0 5) {x3 : Int32} (h_x3 : zs_in x3.toInt 0 1) {x4 : Int32} {x5 : Int32} (h_x5 : zs_in x5.toInt 1 1) : zs_ok (fX9_losesBy σ x1 x2 x3 x4 x5) (fun r => (True ∧ zs_M σ0 r.2)) := by
  unfold fX9_losesBy
  obtain rfl : x5 = (1 : Int32) := zs_eqv h_x5 (by decide)
  refine zs_bd_ (zc_31 h_σ) (fun t_1 pt_1 => ?_)
  refine zs_bd_ (zc_21 pt_1) (fun t_3 pt_3 => ?_)
  refine zs_lt (Q := fun z => zs_in z.toInt 0 1073741823) (zs_subI 0 1073741823 (zs_cases pt_3 (fun z => zs_in ((1 : Int32) <<< (z &&& 31)).toInt 1 1073741824) (by decide +kernel)) zlI_1 (by decide)) (fun y_5 hy_5 => ?_)
  refine zs_ite (fun c1 => ?_) (fun c1 => ?_)
  · skip
    have r2 := (zs_I_eq c1)
    have g3 : zs_in (x3).toInt 1 1 := (zs_eql 1 1 r2 h_x3 zlI_1 (by decide))
    refine zs_gd (zs_gin h_x1 (by decide)) ?_
    refine zs_lt (Q := fun z => zs_M σ0 z) (zs_wrt pt_1 (fun _ => rfl) (fun _ => rfl)) (fun σ_9 hσ_9 => ?_)
    obtain ⟨ret, er, hr⟩ := zc_631 hσ_9 h_x1 h_x2 g3 h_x5 hy_5
    refine ⟨ret, er, ?_⟩
    exact hr
  · skip
    have r4 := (zs_I_eqn c1)
    have g5 : zs_in (x3).toInt 0 0 := (zs_neh 0 0 r4 h_x3 zlI_1 (by decide))
    obtain ⟨ret, er, hr⟩ := zc_636 pt_1 h_x1 h_x2 g5 h_x5 hy_5
    refine ⟨ret, er, ?_⟩
    exact hr
-- BX9_rests_110
theorem zc_638 {σ0 : sn_S} {σ : sn_S} (h_σ : zs_M σ0 σ) {x1 : Int32} (h_x1 : zs_in x1.toInt 0 5) {x2 : Int32} (h_x2 : zs_in x2.toInt 0 5) {x3 : Int32} (h_x3 : zs_in x3.toInt 0 15) {x4 : Int32} (h_x4 : zs_in x4.toInt 0 3) {t0 : Int32} (h_t0 : zs_in t0.toInt 0 15) {t1 : Int32} (h_t1 : zs_in t1.toInt 1 8) {c : Int} (hc : x4.toInt = c + 0) : zs_ok (BX9_rests_110 σ x1 x2 x3 x4 t0 t1) (fun r => zs_sum (fun v => ((zs_M σ0 v.1 ∧ (zs_in (v.2.1).toInt 0 15 ∧ zs_in (v.2.2).toInt 1 4))) ∧ v.2.2.toInt = c + 1) (fun v => False) r) := by
  unfold BX9_rests_110
  refine zs_lt (Q := fun z => zs_in z.toInt 0 15) (zs_or 4 15 h_t0 h_t1 (by decide)) (fun y_1 hy_1 => ?_)
  refine zs_lt (Q := fun z => zs_in z.toInt 1 4 ∧ z.toInt = c + 1) ⟨(zs_addI 1 4 h_x4 zlI_1 (by decide)), (zs_syI 1 hc h_x4 zlI_1 (by decide) (by decide))⟩ (fun y_3 hy_3 => ?_)
  exact zs_some (zs_inl ⟨⟨h_σ, ⟨hy_1, hy_3.1⟩⟩, hy_3.2⟩)
-- BX9_rests_94
theorem zc_639 {σ0 : sn_S} {σ : sn_S} (h_σ : zs_M σ0 σ) {x1 : Int32} (h_x1 : zs_in x1.toInt 0 5) {x2 : Int32} (h_x2 : zs_in x2.toInt 0 5) {x3 : Int32} (h_x3 : zs_in x3.toInt 0 15) {x4 : Int32} (h_x4 : zs_in x4.toInt 0 3) {t0 : Int32} (h_t0 : zs_in t0.toInt 1 1) {c : Int} (hc : x4.toInt = c + 0) : zs_ok (BX9_rests_94 σ x1 x2 x3 x4 t0) (fun r => zs_sum (fun v => ((zs_M σ0 v.1 ∧ (zs_in (v.2.1).toInt 0 15 ∧ zs_in (v.2.2).toInt 1 4))) ∧ v.2.2.toInt = c + 1) (fun v => False) r) := by
  unfold BX9_rests_94
  obtain rfl : t0 = (1 : Int32) := zs_eqv h_t0 (by decide)
  refine zs_ite (fun c1 => ?_) (fun c1 => ?_)
  · skip
    have r2 := (zs_I_eq c1)
    exact (zs_botr r2 h_t0 zlI_0 (by decide)).elim
  · skip
    have r3 := (zs_I_eqn c1)
    obtain ⟨ret, er, hr⟩ := zc_638 h_σ h_x1 h_x2 h_x3 h_x4 h_x3 (zs_cases h_x4 (fun z => zs_in ((1 : Int32) <<< (z &&& 31)).toInt 1 8) (by decide +kernel)) hc
    refine ⟨ret, er, ?_⟩
    exact (zs_sumw hr (fun v w => ⟨w.1, w.2⟩) (fun v w => w.elim))
-- BX9_rests_17
theorem zc_640 {σ0 : sn_S} {σ : sn_S} (h_σ : zs_M σ0 σ) {x1 : Int32} (h_x1 : zs_in x1.toInt 0 5) {x2 : Int32} (h_x2 : zs_in x2.toInt 0 5) {x3 : Int32} (h_x3 : zs_in x3.toInt 0 15) {x4 : Int32} (h_x4 : zs_in x4.toInt 0 4) {c : Int} (hc : x4.toInt = c + 0) : zs_ok (BX9_rests_17 σ x1 x2 x3 x4) (fun r => zs_sum (fun v => ((zs_M σ0 v.1 ∧ (zs_in (v.2.1).toInt 0 15 ∧ zs_in (v.2.2).toInt 1 4))) ∧ v.2.2.toInt = c + 1) (fun v => (zs_M σ0 v.1 ∧ zs_in (v.2).toInt 0 15)) r) := by
  unfold BX9_rests_17
  refine zs_ite (fun c1 => ?_) (fun c1 => ?_)
  · skip
    have r2 := (zs_I_le c1)
    have g3 : zs_in (x4).toInt 4 4 := (zs_ler 4 4 r2 zlI_4 h_x4 (by decide))
    exact zs_some (zs_inr (⟨h_σ, h_x3⟩))
  · skip
    have r4 := (zs_I_len c1)
    have g5 : zs_in (x4).toInt 0 3 := (zs_ltl 0 3 r4 h_x4 zlI_4 (by decide))
    refine zs_lt (Q := fun z => zs_in z.toInt 0 1) (zs_and zlI_1 (by decide)) (fun y_2 hy_2 => ?_)
    refine zs_lt (Q := fun z => True) trivial (fun y_4 hy_4 => ?_)
    refine zs_bd_ (zc_622 h_σ h_x1 h_x2 hy_2 zlI_0) (fun t_6 pt_6 => ?_)
    refine zs_bd_ (zc_622 pt_6.2 h_x1 h_x2 (zs_subI 0 1 zlI_1 hy_2 (by decide)) zlI_0) (fun t_8 pt_8 => ?_)
    refine zs_ite (fun c6 => ?_) (fun c6 => ?_)
    · skip
      have r7 := (zs_I_lt c6)
      have g8 : zs_in (t_8.1).toInt (-2147483648) 2147483646 := (zs_ltl (-2147483648) 2147483646 r7 (zs_topI _) (zs_topI _) (by decide))
      have g9 : zs_in (t_6.1).toInt (-2147483647) 2147483647 := (zs_ltr (-2147483647) 2147483647 r7 (zs_topI _) (zs_topI _) (by decide))
      obtain ⟨ret, er, hr⟩ := zc_625 pt_8.2 h_x1 h_x2 h_x3 g5 hc
      refine ⟨ret, er, ?_⟩
      exact (zs_sumw hr (fun v w => ⟨w.1, w.2⟩) (fun v w => w.elim))
    · skip
      have r10 := (zs_I_ltn c6)
      refine zs_bd_ (zc_637 pt_8.2 h_x1 h_x2 hy_2 zlI_1) (fun t_11 pt_11 => ?_)
      refine zs_bd_ (zc_637 pt_11.2 h_x1 h_x2 hy_2 zlI_1) (fun t_13 pt_13 => ?_)
      refine zs_ite (fun c11 => ?_) (fun c11 => ?_)
      · skip
        have r12 := (zs_I_lt c11)
        have g13 : zs_in (t_13.1).toInt (-2147483648) 2147483646 := (zs_ltl (-2147483648) 2147483646 r12 (zs_topI _) (zs_topI _) (by decide))
        have g14 : zs_in (t_11.1).toInt (-2147483647) 2147483647 := (zs_ltr (-2147483647) 2147483647 r12 (zs_topI _) (zs_topI _) (by decide))
        obtain ⟨ret, er, hr⟩ := zc_625 pt_13.2 h_x1 h_x2 h_x3 g5 hc
        refine ⟨ret, er, ?_⟩
        exact (zs_sumw hr (fun v w => ⟨w.1, w.2⟩) (fun v w => w.elim))
      · skip
        have r15 := (zs_I_ltn c11)
        obtain ⟨ret, er, hr⟩ := zc_639 pt_13.2 h_x1 h_x2 h_x3 g5 zlI_1 hc
        refine ⟨ret, er, ?_⟩
        exact (zs_sumw hr (fun v w => ⟨w.1, w.2⟩) (fun v w => w.elim))
theorem zd_111 {σ0 : sn_S} {x1 : Int32} (h_x1 : zs_in x1.toInt 0 5) {x2 : Int32} (h_x2 : zs_in x2.toInt 0 5) {s0 : (sn_S × (Int32 × Int32))} (h0 : (zs_M σ0 s0.1 ∧ (zs_in (s0.2.1).toInt 0 15 ∧ zs_in (s0.2.2).toInt 0 4))) : zs_ok (sn_it (LX9_rests_17 x1 x2) 5000 s0) (fun t => (zs_M σ0 t.1 ∧ zs_in (t.2).toInt 0 15)) := by
  refine zs_it (I := fun s => (zs_M σ0 s.1 ∧ (zs_in (s.2.1).toInt 0 15 ∧ zs_in (s.2.2).toInt 0 4))) (m := fun s => 4 - s.2.2.toInt) (fun s hs => ?_) (fun s hs => ?_) (by exact h0)
  · have h1 := hs.2.2; unfold zs_in at h1
    omega
  · obtain ⟨b, eb, hb⟩ := zc_640 hs.1 h_x1 h_x2 hs.2.1 hs.2.2 (c := s.2.2.toInt) (Int.add_zero _).symm
    exact ⟨b, eb, zs_sumw hb (fun v w => ⟨⟨w.1.1, ⟨w.1.2.1, (zs_w w.1.2.2 (by decide))⟩⟩, by have := w.2; omega⟩) (fun v w => w)⟩
-- BX9_rests_118
theorem zc_641 {σ0 : sn_S} {σ : sn_S} (h_σ : zs_M σ0 σ) {x3 : Int32} (h_x3 : zs_in x3.toInt 0 15) : zs_ok (BX9_rests_118 σ x3) (fun r => (zs_in (r.1).toInt 0 15 ∧ zs_M σ0 r.2)) := by
  unfold BX9_rests_118
  exact zs_some ⟨h_x3, h_σ⟩
-- fX9_rests
theorem zc_642 {σ0 : sn_S} {σ : sn_S} (h_σ : zs_M σ0 σ) {x1 : Int32} {x2 : Int32} : zs_ok (fX9_rests σ x1 x2) (fun r => ((zs_in (r.1).toInt (-2) 15 ∧ zs_M σ0 r.2)) ∧ ((r.1).toInt = (-2) ∨ (zs_in (x1).toInt 0 5 ∧ zs_in (x2).toInt 0 5))) := by
  unfold fX9_rests
  refine zs_bd_ (zc_607 h_σ) (fun t_1 pt_1 => ?_)
  refine zs_ite (fun c1 => ?_) (fun c1 => ?_)
  · skip
    have r2 := (zs_I_eq c1)
    have g3 : zs_in (t_1).toInt 0 0 := (zs_eql 0 0 r2 pt_1.1 zlI_0 (by decide))
    exact zs_some ⟨⟨(zs_w zlI_m2 (by decide)), h_σ⟩, Or.inl (zs_ptr zlI_m2)⟩
  · skip
    have r4 := (zs_I_eqn c1)
    have g5 : zs_in (t_1).toInt 1 1 := (zs_nel 1 1 r4 pt_1.1 zlI_0 (by decide))
    have q6 := (zs_or2 pt_1.2 g5 (by decide))
    have g7 : zs_in (x1).toInt 0 5 := q6.1
    have g8 : zs_in (x2).toInt 0 5 := q6.2
    refine zs_bd_ (zd_111 g7 g8 (s0 := (σ, ((0 : Int32), (0 : Int32)))) ⟨h_σ, ⟨(zs_w zlI_0 (by decide)), (zs_w zlI_0 (by decide))⟩⟩) (fun t_4 pt_4 => ?_)
    obtain ⟨ret, er, hr⟩ := zc_641 pt_4.1 pt_4.2
    refine ⟨ret, er, ?_⟩
    exact ⟨⟨(zs_w hr.1 (by decide)), hr.2⟩, Or.inr ⟨g7, g8⟩⟩
-- fX8_loses
theorem zc_643 {σ0 : sn_S} {σ : sn_S} (h_σ : zs_C σ0 σ) {x1 : Int32} {x2 : Int32} {x3 : Int32} {x4 : Int32} : zs_ok (fX8_loses σ x1 x2 x3 x4) (fun r => ((zs_in (r.1).toInt (-2) 97 ∧ zs_C σ0 r.2)) ∧ ((r.1).toInt = (-2) ∨ (zs_in (x1).toInt 0 5 ∧ zs_in (x2).toInt 0 5 ∧ zs_in (x3).toInt 0 1 ∧ zs_in (x4).toInt 0 1))) := by
  unfold fX8_loses
  refine zs_bd_ (zc_3 h_σ) (fun t_1 pt_1 => ?_)
  refine zs_ite (fun c1 => ?_) (fun c1 => ?_)
  · skip
    have r2 := (zs_I_eq c1)
    have g3 : zs_in (t_1).toInt 0 0 := (zs_eql 0 0 r2 pt_1.1 zlI_0 (by decide))
    exact zs_some ⟨⟨(zs_w zlI_m2 (by decide)), h_σ⟩, Or.inl (zs_ptr zlI_m2)⟩
  · skip
    have r4 := (zs_I_eqn c1)
    have g5 : zs_in (t_1).toInt 1 1 := (zs_nel 1 1 r4 pt_1.1 zlI_0 (by decide))
    have q6 := (zs_or2 pt_1.2 g5 (by decide))
    have g7 : zs_in (x1).toInt 0 5 := q6
    refine zs_bd_ (zc_3 h_σ) (fun t_4 pt_4 => ?_)
    refine zs_ite (fun c8 => ?_) (fun c8 => ?_)
    · skip
      have r9 := (zs_I_eq c8)
      have g10 : zs_in (t_4).toInt 0 0 := (zs_eql 0 0 r9 pt_4.1 zlI_0 (by decide))
      exact zs_some ⟨⟨(zs_w zlI_m2 (by decide)), h_σ⟩, Or.inl (zs_ptr zlI_m2)⟩
    · skip
      have r11 := (zs_I_eqn c8)
      have g12 : zs_in (t_4).toInt 1 1 := (zs_nel 1 1 r11 pt_4.1 zlI_0 (by decide))
      have q13 := (zs_or2 pt_4.2 g12 (by decide))
      have g14 : zs_in (x2).toInt 0 5 := q13
      refine zs_ite (fun c15 => ?_) (fun c15 => ?_)
      · skip
        have r16 := (zs_I_eq c15)
        exact zs_some ⟨⟨(zs_w zlI_m2 (by decide)), h_σ⟩, Or.inl (zs_ptr zlI_m2)⟩
      · skip
        have r17 := (zs_I_eqn c15)
        refine zs_ite (fun c18 => ?_) (fun c18 => ?_)
        · skip
          have r19 := (zs_I_lt c18)
          have g20 : zs_in (x3).toInt (-2147483648) (-1) := (zs_ltl (-2147483648) (-1) r19 (zs_topI _) zlI_0 (by decide))
          exact zs_some ⟨⟨(zs_w zlI_m2 (by decide)), h_σ⟩, Or.inl (zs_ptr zlI_m2)⟩
        · skip
          have r21 := (zs_I_ltn c18)
          have g22 : zs_in (x3).toInt 0 2147483647 := (zs_ler 0 2147483647 r21 zlI_0 (zs_topI _) (by decide))
          refine zs_ite (fun c23 => ?_) (fun c23 => ?_)
          · skip
            have r24 := (zs_I_lt c23)
            have g25 : zs_in (x3).toInt 2 2147483647 := (zs_ltr 2 2147483647 r24 zlI_1 g22 (by decide))
            exact zs_some ⟨⟨(zs_w zlI_m2 (by decide)), h_σ⟩, Or.inl (zs_ptr zlI_m2)⟩
          · skip
            have r26 := (zs_I_ltn c23)
            have g27 : zs_in (x3).toInt 0 1 := (zs_lel 0 1 r26 g22 zlI_1 (by decide))
            refine zs_ite (fun c28 => ?_) (fun c28 => ?_)
            · skip
              have r29 := (zs_I_lt c28)
              have g30 : zs_in (x4).toInt (-2147483648) (-1) := (zs_ltl (-2147483648) (-1) r29 (zs_topI _) zlI_0 (by decide))
              exact zs_some ⟨⟨(zs_w zlI_m2 (by decide)), h_σ⟩, Or.inl (zs_ptr zlI_m2)⟩
            · skip
              have r31 := (zs_I_ltn c28)
              have g32 : zs_in (x4).toInt 0 2147483647 := (zs_ler 0 2147483647 r31 zlI_0 (zs_topI _) (by decide))
              refine zs_ite (fun c33 => ?_) (fun c33 => ?_)
              · skip
                have r34 := (zs_I_le c33)
                have g35 : zs_in (x4).toInt 0 1 := (zs_lel 0 1 r34 g32 zlI_1 (by decide))
                refine zs_bd_ (zc_598 h_σ g7 g14 g27 g35) (fun t_12 pt_12 => ?_)
                exact zs_some ⟨⟨(zs_w pt_12.1 (by decide)), pt_12.2⟩, Or.inr ⟨g7, g14, g27, g35⟩⟩
              · skip
                have r36 := (zs_I_len c33)
                have g37 : zs_in (x4).toInt 2 2147483647 := (zs_ltr 2 2147483647 r36 zlI_1 g32 (by decide))
                exact zs_some ⟨⟨(zs_w zlI_m2 (by decide)), h_σ⟩, Or.inl (zs_ptr zlI_m2)⟩
-- BX9_losesBy_55
theorem zc_644 {σ0 : sn_S} {σ : sn_S} (h_σ : zs_M σ0 σ) {x3 : Int32} (h_x3 : zs_in x3.toInt 1 1) {x4 : Int32} (h_x4 : zs_in x4.toInt 0 0) {x5 : Int32} (h_x5 : zs_in x5.toInt 0 0) {t0 : Int32} (h_t0 : zs_in t0.toInt 0 5) : zs_ok (BX9_losesBy_55 σ x3 x4 x5 t0) (fun r => (True ∧ zs_M σ0 r.2)) := by
  unfold BX9_losesBy_55
  obtain rfl : x3 = (1 : Int32) := zs_eqv h_x3 (by decide)
  obtain rfl : x4 = (0 : Int32) := zs_eqv h_x4 (by decide)
  obtain rfl : x5 = (0 : Int32) := zs_eqv h_x5 (by decide)
  refine zs_gd (zs_gin h_t0 (by decide)) ?_
  refine zs_bd_ (zc_109 (zs_rdu (q := 10) (z := (0, 1073741823)) h_σ.1 (fun _ => rfl))) (fun t_2 pt_2 => ?_)
  refine zs_ite (fun c1 => ?_) (fun c1 => ?_)
  · skip
    have r2 := (zs_I_eq c1)
    obtain ⟨ret, er, hr⟩ := zc_609 h_σ h_x3
    refine ⟨ret, er, ?_⟩
    exact hr
  · skip
    have r3 := (zs_I_eqn c1)
    exact (zs_botne r3 h_x5 zlI_0 (by decide)).elim
-- BX9_losesBy_41
theorem zc_645 {σ0 : sn_S} {σ : sn_S} (h_σ : zs_M σ0 σ) {x1 : Int32} (h_x1 : zs_in x1.toInt 0 5) {x2 : Int32} (h_x2 : zs_in x2.toInt 0 5) {x3 : Int32} (h_x3 : zs_in x3.toInt 1 1) {x4 : Int32} (h_x4 : zs_in x4.toInt 0 0) {x5 : Int32} (h_x5 : zs_in x5.toInt 0 0) : zs_ok (BX9_losesBy_41 σ x1 x2 x3 x4 x5) (fun r => (True ∧ zs_M σ0 r.2)) := by
  unfold BX9_losesBy_41
  obtain rfl : x3 = (1 : Int32) := zs_eqv h_x3 (by decide)
  obtain rfl : x4 = (0 : Int32) := zs_eqv h_x4 (by decide)
  obtain rfl : x5 = (0 : Int32) := zs_eqv h_x5 (by decide)
  refine zs_bd_ (zc_90 h_σ) (fun t_1 pt_1 => ?_)
  refine zs_ite (fun c1 => ?_) (fun c1 => ?_)
  · skip
    have r2 := (zs_I_eq c1)
    obtain ⟨ret, er, hr⟩ := zc_644 pt_1 h_x3 h_x4 h_x5 h_x1
    refine ⟨ret, er, ?_⟩
    exact hr
  · skip
    have r3 := (zs_I_eqn c1)
    exact (zs_botne r3 h_x5 zlI_0 (by decide)).elim
-- BX9_losesBy_27
theorem zc_646 {σ0 : sn_S} {σ : sn_S} (h_σ : zs_M σ0 σ) {x1 : Int32} (h_x1 : zs_in x1.toInt 0 5) {x2 : Int32} (h_x2 : zs_in x2.toInt 0 5) {x3 : Int32} (h_x3 : zs_in x3.toInt 1 1) {x4 : Int32} (h_x4 : zs_in x4.toInt 0 1) {x5 : Int32} (h_x5 : zs_in x5.toInt 0 0) {x6 : Int32} (h_x6 : zs_in x6.toInt 0 1073741823) : zs_ok (BX9_losesBy_27 σ x1 x2 x3 x4 x5 x6) (fun r => (True ∧ zs_M σ0 r.2)) := by
  unfold BX9_losesBy_27
  obtain rfl : x3 = (1 : Int32) := zs_eqv h_x3 (by decide)
  obtain rfl : x5 = (0 : Int32) := zs_eqv h_x5 (by decide)
  refine zs_ite (fun c1 => ?_) (fun c1 => ?_)
  · skip
    have r2 := (zs_I_eq c1)
    have g3 : zs_in (x4).toInt 1 1 := (zs_eql 1 1 r2 h_x4 zlI_1 (by decide))
    refine zs_gd (zs_gin h_x2 (by decide)) ?_
    refine zs_lt (Q := fun z => zs_M σ0 z) (zs_wrt h_σ (fun _ => rfl) (fun _ => rfl)) (fun σ_3 hσ_3 => ?_)
    obtain ⟨ret, er, hr⟩ := zc_611 hσ_3 h_x1 h_x2 h_x3 g3 h_x5
    refine ⟨ret, er, ?_⟩
    exact hr
  · skip
    have r4 := (zs_I_eqn c1)
    have g5 : zs_in (x4).toInt 0 0 := (zs_neh 0 0 r4 h_x4 zlI_1 (by decide))
    obtain ⟨ret, er, hr⟩ := zc_645 h_σ h_x1 h_x2 h_x3 g5 h_x5
    refine ⟨ret, er, ?_⟩
    exact hr
-- BX9_losesBy_55
theorem zc_647 {σ0 : sn_S} {σ : sn_S} (h_σ : zs_M σ0 σ) {x3 : Int32} (h_x3 : zs_in x3.toInt 0 0) {x4 : Int32} (h_x4 : zs_in x4.toInt 0 0) {x5 : Int32} (h_x5 : zs_in x5.toInt 0 0) {t0 : Int32} (h_t0 : zs_in t0.toInt 0 5) : zs_ok (BX9_losesBy_55 σ x3 x4 x5 t0) (fun r => (True ∧ zs_M σ0 r.2)) := by
  unfold BX9_losesBy_55
  obtain rfl : x3 = (0 : Int32) := zs_eqv h_x3 (by decide)
  obtain rfl : x4 = (0 : Int32) := zs_eqv h_x4 (by decide)
  obtain rfl : x5 = (0 : Int32) := zs_eqv h_x5 (by decide)
  refine zs_gd (zs_gin h_t0 (by decide)) ?_
  refine zs_bd_ (zc_109 (zs_rdu (q := 10) (z := (0, 1073741823)) h_σ.1 (fun _ => rfl))) (fun t_2 pt_2 => ?_)
  refine zs_ite (fun c1 => ?_) (fun c1 => ?_)
  · skip
    have r2 := (zs_I_eq c1)
    obtain ⟨ret, er, hr⟩ := zc_616 h_σ h_x3
    refine ⟨ret, er, ?_⟩
    exact hr
  · skip
    have r3 := (zs_I_eqn c1)
    exact (zs_botne r3 h_x5 zlI_0 (by decide)).elim
-- BX9_losesBy_41
theorem zc_648 {σ0 : sn_S} {σ : sn_S} (h_σ : zs_M σ0 σ) {x1 : Int32} (h_x1 : zs_in x1.toInt 0 5) {x2 : Int32} (h_x2 : zs_in x2.toInt 0 5) {x3 : Int32} (h_x3 : zs_in x3.toInt 0 0) {x4 : Int32} (h_x4 : zs_in x4.toInt 0 0) {x5 : Int32} (h_x5 : zs_in x5.toInt 0 0) : zs_ok (BX9_losesBy_41 σ x1 x2 x3 x4 x5) (fun r => (True ∧ zs_M σ0 r.2)) := by
  unfold BX9_losesBy_41
  obtain rfl : x3 = (0 : Int32) := zs_eqv h_x3 (by decide)
  obtain rfl : x4 = (0 : Int32) := zs_eqv h_x4 (by decide)
  obtain rfl : x5 = (0 : Int32) := zs_eqv h_x5 (by decide)
  refine zs_bd_ (zc_90 h_σ) (fun t_1 pt_1 => ?_)
  refine zs_ite (fun c1 => ?_) (fun c1 => ?_)
  · skip
    have r2 := (zs_I_eq c1)
    obtain ⟨ret, er, hr⟩ := zc_647 pt_1 h_x3 h_x4 h_x5 h_x1
    refine ⟨ret, er, ?_⟩
    exact hr
  · skip
    have r3 := (zs_I_eqn c1)
    exact (zs_botne r3 h_x5 zlI_0 (by decide)).elim
-- BX9_losesBy_27
theorem zc_649 {σ0 : sn_S} {σ : sn_S} (h_σ : zs_M σ0 σ) {x1 : Int32} (h_x1 : zs_in x1.toInt 0 5) {x2 : Int32} (h_x2 : zs_in x2.toInt 0 5) {x3 : Int32} (h_x3 : zs_in x3.toInt 0 0) {x4 : Int32} (h_x4 : zs_in x4.toInt 0 1) {x5 : Int32} (h_x5 : zs_in x5.toInt 0 0) {x6 : Int32} (h_x6 : zs_in x6.toInt 0 1073741823) : zs_ok (BX9_losesBy_27 σ x1 x2 x3 x4 x5 x6) (fun r => (True ∧ zs_M σ0 r.2)) := by
  unfold BX9_losesBy_27
  obtain rfl : x3 = (0 : Int32) := zs_eqv h_x3 (by decide)
  obtain rfl : x5 = (0 : Int32) := zs_eqv h_x5 (by decide)
  refine zs_ite (fun c1 => ?_) (fun c1 => ?_)
  · skip
    have r2 := (zs_I_eq c1)
    have g3 : zs_in (x4).toInt 1 1 := (zs_eql 1 1 r2 h_x4 zlI_1 (by decide))
    refine zs_gd (zs_gin h_x2 (by decide)) ?_
    refine zs_lt (Q := fun z => zs_M σ0 z) (zs_wrt h_σ (fun _ => rfl) (fun _ => rfl)) (fun σ_3 hσ_3 => ?_)
    obtain ⟨ret, er, hr⟩ := zc_618 hσ_3 h_x1 h_x2 h_x3 g3 h_x5
    refine ⟨ret, er, ?_⟩
    exact hr
  · skip
    have r4 := (zs_I_eqn c1)
    have g5 : zs_in (x4).toInt 0 0 := (zs_neh 0 0 r4 h_x4 zlI_1 (by decide))
    obtain ⟨ret, er, hr⟩ := zc_648 h_σ h_x1 h_x2 h_x3 g5 h_x5
    refine ⟨ret, er, ?_⟩
    exact hr
-- fX9_losesBy
theorem zc_650 {σ0 : sn_S} {σ : sn_S} (h_σ : zs_M σ0 σ) {x1 : Int32} (h_x1 : zs_in x1.toInt 0 5) {x2 : Int32} (h_x2 : zs_in x2.toInt 0 5) {x3 : Int32} (h_x3 : zs_in x3.toInt 0 1) {x4 : Int32} (h_x4 : zs_in x4.toInt 0 1) {x5 : Int32} (h_x5 : zs_in x5.toInt 0 0) : zs_ok (fX9_losesBy σ x1 x2 x3 x4 x5) (fun r => (True ∧ zs_M σ0 r.2)) := by
  unfold fX9_losesBy
  obtain rfl : x5 = (0 : Int32) := zs_eqv h_x5 (by decide)
  refine zs_bd_ (zc_31 h_σ) (fun t_1 pt_1 => ?_)
  refine zs_bd_ (zc_21 pt_1) (fun t_3 pt_3 => ?_)
  refine zs_lt (Q := fun z => zs_in z.toInt 0 1073741823) (zs_subI 0 1073741823 (zs_cases pt_3 (fun z => zs_in ((1 : Int32) <<< (z &&& 31)).toInt 1 1073741824) (by decide +kernel)) zlI_1 (by decide)) (fun y_5 hy_5 => ?_)
  refine zs_ite (fun c1 => ?_) (fun c1 => ?_)
  · skip
    have r2 := (zs_I_eq c1)
    have g3 : zs_in (x3).toInt 1 1 := (zs_eql 1 1 r2 h_x3 zlI_1 (by decide))
    refine zs_gd (zs_gin h_x1 (by decide)) ?_
    refine zs_lt (Q := fun z => zs_M σ0 z) (zs_wrt pt_1 (fun _ => rfl) (fun _ => rfl)) (fun σ_9 hσ_9 => ?_)
    obtain ⟨ret, er, hr⟩ := zc_646 hσ_9 h_x1 h_x2 g3 h_x4 h_x5 hy_5
    refine ⟨ret, er, ?_⟩
    exact hr
  · skip
    have r4 := (zs_I_eqn c1)
    have g5 : zs_in (x3).toInt 0 0 := (zs_neh 0 0 r4 h_x3 zlI_1 (by decide))
    obtain ⟨ret, er, hr⟩ := zc_649 pt_1 h_x1 h_x2 g5 h_x4 h_x5 hy_5
    refine ⟨ret, er, ?_⟩
    exact hr
-- fX9_loses
theorem zc_651 {σ0 : sn_S} {σ : sn_S} (h_σ : zs_M σ0 σ) {x1 : Int32} {x2 : Int32} {x3 : Int32} {x4 : Int32} : zs_ok (fX9_loses σ x1 x2 x3 x4) (fun r => ((True ∧ zs_M σ0 r.2)) ∧ ((r.1).toInt = (-2) ∨ (zs_in (x1).toInt 0 5 ∧ zs_in (x2).toInt 0 5 ∧ zs_in (x3).toInt 0 1 ∧ zs_in (x4).toInt 0 1))) := by
  unfold fX9_loses
  refine zs_bd_ (zc_607 h_σ) (fun t_1 pt_1 => ?_)
  refine zs_ite (fun c1 => ?_) (fun c1 => ?_)
  · skip
    have r2 := (zs_I_eq c1)
    have g3 : zs_in (t_1).toInt 0 0 := (zs_eql 0 0 r2 pt_1.1 zlI_0 (by decide))
    exact zs_some ⟨⟨trivial, h_σ⟩, Or.inl (zs_ptr zlI_m2)⟩
  · skip
    have r4 := (zs_I_eqn c1)
    have g5 : zs_in (t_1).toInt 1 1 := (zs_nel 1 1 r4 pt_1.1 zlI_0 (by decide))
    have q6 := (zs_or2 pt_1.2 g5 (by decide))
    have g7 : zs_in (x1).toInt 0 5 := q6.1
    have g8 : zs_in (x2).toInt 0 5 := q6.2
    refine zs_bd_ (zc_7 (zs_64 (zs_topI _)) zlL_0 zlL_1) (fun t_4 pt_4 => ?_)
    refine zs_ite (fun c9 => ?_) (fun c9 => ?_)
    · skip
      have r10 := (zs_I_eq c9)
      have g11 : zs_in (t_4).toInt 0 0 := (zs_eql 0 0 r10 pt_4.1 zlI_0 (by decide))
      exact zs_some ⟨⟨trivial, h_σ⟩, Or.inl (zs_ptr zlI_m2)⟩
    · skip
      have r12 := (zs_I_eqn c9)
      have g13 : zs_in (t_4).toInt 1 1 := (zs_nel 1 1 r12 pt_4.1 zlI_0 (by decide))
      have q14 := (zs_or2 pt_4.2 g13 (by decide))
      have g15 : zs_in (x3.toInt64).toInt 0 1 := q14
      have g16 : zs_in (x3).toInt 0 1 := (zs_64r g15)
      refine zs_bd_ (zc_7 (zs_64 (zs_topI _)) zlL_0 zlL_1) (fun t_7 pt_7 => ?_)
      refine zs_ite (fun c17 => ?_) (fun c17 => ?_)
      · skip
        have r18 := (zs_I_eq c17)
        have g19 : zs_in (t_7).toInt 0 0 := (zs_eql 0 0 r18 pt_7.1 zlI_0 (by decide))
        exact zs_some ⟨⟨trivial, h_σ⟩, Or.inl (zs_ptr zlI_m2)⟩
      · skip
        have r20 := (zs_I_eqn c17)
        have g21 : zs_in (t_7).toInt 1 1 := (zs_nel 1 1 r20 pt_7.1 zlI_0 (by decide))
        have q22 := (zs_or2 pt_7.2 g21 (by decide))
        have g23 : zs_in (x4.toInt64).toInt 0 1 := q22
        have g24 : zs_in (x4).toInt 0 1 := (zs_64r g23)
        refine zs_bd_ (zc_650 h_σ g7 g8 g16 g24 zlI_0) (fun t_10 pt_10 => ?_)
        exact zs_some ⟨⟨trivial, pt_10.2⟩, Or.inr ⟨g7, g8, g16, g24⟩⟩
-- fX8_isNet
theorem zc_652 {σ0 : sn_S} {σ : sn_S} (h_σ : zs_C σ0 σ) {x1 : Int32} : zs_ok (fX8_isNet σ x1) (fun r => (zs_in (r).toInt 0 1) ∧ ((r).toInt = 0 ∨ (zs_in (x1).toInt 0 7))) := by
  unfold fX8_isNet
  refine zs_ite (fun c1 => ?_) (fun c1 => ?_)
  · skip
    have r2 := (zs_I_lt c1)
    have g3 : zs_in (x1).toInt (-2147483648) (-1) := (zs_ltl (-2147483648) (-1) r2 (zs_topI _) zlI_0 (by decide))
    refine zs_gd (zs_b01 zlI_0 (by decide)) ?_
    exact zs_some ⟨(zs_w zlI_0 (by decide)), Or.inl (zs_ptr zlI_0)⟩
  · skip
    have r4 := (zs_I_ltn c1)
    have g5 : zs_in (x1).toInt 0 2147483647 := (zs_ler 0 2147483647 r4 zlI_0 (zs_topI _) (by decide))
    refine zs_gd (zs_gin zlI_7 (by decide)) ?_
    refine zs_ite (fun c6 => ?_) (fun c6 => ?_)
    · skip
      have r7 := (zs_I_le c6)
      refine zs_gd (zs_b01 zlI_0 (by decide)) ?_
      exact zs_some ⟨(zs_w zlI_0 (by decide)), Or.inl (zs_ptr zlI_0)⟩
    · skip
      have r8 := (zs_I_len c6)
      have g9 : zs_in (x1).toInt 0 7 := (zs_ltl 0 7 r8 g5 (zs_rdk (q := 2) (k := (7 : Int32).toNatClampNeg) (z := (0, 8)) h_σ.1 rfl) (by decide))
      have g10 : zs_in ((sn_I σ (1 + 1) (7 : Int32).toNatClampNeg)).toInt 1 8 := (zs_ltr 1 8 r8 g5 (zs_rdk (q := 2) (k := (7 : Int32).toNatClampNeg) (z := (0, 8)) h_σ.1 rfl) (by decide))
      refine zs_gd (zs_b01 zlI_1 (by decide)) ?_
      exact zs_some ⟨(zs_w zlI_1 (by decide)), Or.inr g9⟩
-- fX8_totalWithout
theorem zc_653 {σ0 : sn_S} {σ : sn_S} (h_σ : zs_C σ0 σ) {x1 : Int32} (h_x1 : zs_in x1.toInt 0 7) : zs_ok (fX8_totalWithout σ x1) (fun r => (True ∧ zs_C σ0 r.2)) := by
  unfold fX8_totalWithout
  refine zs_bd_ (zo_dcopy h_σ) (fun t_1 pt_1 => ?_)
  refine zs_lt (Q := fun z => zs_C σ0 z) (zs_wrkt pt_1 rfl rfl) (fun σ_3 hσ_3 => ?_)
  refine zs_bd_ (zc_350 hσ_3) (fun t_5 pt_5 => ?_)
  refine zs_bd_ (zc_362 pt_5) (fun t_7 pt_7 => ?_)
  exact zs_some ⟨trivial, pt_5⟩
-- fX8_cut
theorem zc_654 {σ0 : sn_S} {σ : sn_S} (h_σ : zs_C σ0 σ) {x1 : Int32} : zs_ok (fX8_cut σ x1) (fun r => ((True ∧ zs_C σ0 r.2)) ∧ ((r.1).toInt = (-2) ∨ (zs_in (x1).toInt 0 7))) := by
  unfold fX8_cut
  refine zs_bd_ (zc_652 h_σ) (fun t_1 pt_1 => ?_)
  refine zs_ite (fun c1 => ?_) (fun c1 => ?_)
  · skip
    have r2 := (zs_I_eq c1)
    have g3 : zs_in (t_1).toInt 0 0 := (zs_eql 0 0 r2 pt_1.1 zlI_0 (by decide))
    exact zs_some ⟨⟨trivial, h_σ⟩, Or.inl (zs_ptr zlI_m2)⟩
  · skip
    have r4 := (zs_I_eqn c1)
    have g5 : zs_in (t_1).toInt 1 1 := (zs_nel 1 1 r4 pt_1.1 zlI_0 (by decide))
    have q6 := (zs_or2 pt_1.2 g5 (by decide))
    have g7 : zs_in (x1).toInt 0 7 := q6
    refine zs_bd_ (zc_653 h_σ g7) (fun t_4 pt_4 => ?_)
    exact zs_some ⟨⟨trivial, pt_4.2⟩, Or.inr g7⟩
-- fX9_in
theorem zc_655 {x0 : Int64} (h_x0 : zs_in x0.toInt (-2147483648) 2147483647) {x2 : Int64} (h_x2 : zs_in x2.toInt 0 0) {x4 : Int64} (h_x4 : zs_in x4.toInt (-1) 7) : zs_ok (fX9_in x0 x2 x4) (fun r => (zs_in (r).toInt 0 1) ∧ ((r).toInt = 0 ∨ (zs_in (x0).toInt 0 7 ∧ zs_in (x4).toInt 0 7))) := by
  unfold fX9_in
  refine zs_ite (fun c1 => ?_) (fun c1 => ?_)
  · skip
    have r2 := (zs_lg_lt c1)
    have g3 : zs_in (x0).toInt (-2147483648) (-1) := (zs_ltl (-2147483648) (-1) r2 h_x0 h_x2 (by decide))
    refine zs_gd (zs_b01 zlI_0 (by decide)) ?_
    exact zs_some ⟨(zs_w zlI_0 (by decide)), Or.inl (zs_ptr zlI_0)⟩
  · skip
    have r4 := (zs_lg_ltn c1)
    have g5 : zs_in (x0).toInt 0 2147483647 := (zs_ler 0 2147483647 r4 h_x2 h_x0 (by decide))
    refine zs_ite (fun c6 => ?_) (fun c6 => ?_)
    · skip
      have r7 := (zs_lg_ltf c6)
      refine zs_gd (zs_b01 zlI_0 (by decide)) ?_
      exact zs_some ⟨(zs_w zlI_0 (by decide)), Or.inl (zs_ptr zlI_0)⟩
    · skip
      have r8 := (zs_lg_ltfn c6)
      have g9 : zs_in (x0).toInt 0 7 := (zs_lel 0 7 r8 g5 h_x4 (by decide))
      have g10 : zs_in (x4).toInt 0 7 := (zs_ler 0 7 r8 g5 h_x4 (by decide))
      refine zs_gd (zs_b01 zlI_1 (by decide)) ?_
      exact zs_some ⟨(zs_w zlI_1 (by decide)), Or.inr ⟨g9, g10⟩⟩
-- fX9_allWithout
theorem zc_656 {σ0 : sn_S} {σ : sn_S} (h_σ : zs_M σ0 σ) {x1 : Int32} (h_x1 : zs_in x1.toInt 0 7) : zs_ok (fX9_allWithout σ x1) (fun r => (True ∧ zs_M σ0 r.2)) := by
  unfold fX9_allWithout
  refine zs_lt (Q := fun z => zs_M σ0 z) (zs_wrkt h_σ rfl rfl) (fun σ_1 hσ_1 => ?_)
  refine zs_bd_ (zc_90 hσ_1) (fun t_3 pt_3 => ?_)
  refine zs_bd_ (zc_112 pt_3) (fun t_5 pt_5 => ?_)
  exact zs_some ⟨trivial, pt_3⟩
-- fX9_cut
theorem zc_657 {σ0 : sn_S} {σ : sn_S} (h_σ : zs_M σ0 σ) {x1 : Int32} : zs_ok (fX9_cut σ x1) (fun r => ((True ∧ zs_M σ0 r.2)) ∧ ((r.1).toInt = (-2) ∨ (zs_in (x1).toInt 0 7))) := by
  unfold fX9_cut
  refine zs_bd_ (zc_31 h_σ) (fun t_1 pt_1 => ?_)
  refine zs_gd (zs_gin zlI_7 (by decide)) ?_
  refine zs_bd_ (zc_655 (zs_64 (zs_topI _)) zlL_0 (zs_64 (zs_subI (-1) 7 (zs_rdk (q := 1) (k := (7 : Int32).toNatClampNeg) (z := (0, 8)) pt_1.1 rfl) zlI_1 (by decide)))) (fun t_4 pt_4 => ?_)
  refine zs_ite (fun c1 => ?_) (fun c1 => ?_)
  · skip
    have r2 := (zs_I_eq c1)
    have g3 : zs_in (t_4).toInt 0 0 := (zs_eql 0 0 r2 pt_4.1 zlI_0 (by decide))
    exact zs_some ⟨⟨trivial, pt_1⟩, Or.inl (zs_ptr zlI_m2)⟩
  · skip
    have r4 := (zs_I_eqn c1)
    have g5 : zs_in (t_4).toInt 1 1 := (zs_nel 1 1 r4 pt_4.1 zlI_0 (by decide))
    have q6 := (zs_or2 pt_4.2 g5 (by decide))
    have g7 : zs_in (x1.toInt64).toInt 0 7 := q6.1
    have g8 : zs_in (x1).toInt 0 7 := (zs_64r g7)
    have g9 : zs_in (((sn_I t_1 1 (7 : Int32).toNatClampNeg) - (1 : Int32)).toInt64).toInt 0 7 := q6.2
    have g10 : zs_in (((sn_I t_1 1 (7 : Int32).toNatClampNeg) - (1 : Int32))).toInt 0 7 := (zs_64r g9)
    have g11 : zs_in ((sn_I t_1 1 (7 : Int32).toNatClampNeg)).toInt 1 8 := (zs_sublI 1 8 (zs_rdk (q := 1) (k := (7 : Int32).toNatClampNeg) (z := (0, 8)) pt_1.1 rfl) zlI_1 g10 (by decide))
    refine zs_bd_ (zc_656 pt_1 g8) (fun t_7 pt_7 => ?_)
    exact zs_some ⟨⟨trivial, pt_7.2⟩, Or.inr g8⟩
-- BX8_cuts_54
theorem zc_658 {σ0 : sn_S} {σ : sn_S} (h_σ : zs_C σ0 σ) {x1 : Int32} (h_x1 : zs_in x1.toInt (-1) 7) {x2 : Int32} {x3 : Int32} (h_x3 : zs_in x3.toInt 0 7) {c : Int} (hc : x3.toInt = c + 0) : zs_ok (BX8_cuts_54 σ x1 x2 x3) (fun r => zs_sum (fun v => ((zs_C σ0 v.1 ∧ (zs_in (v.2.1).toInt (-1) 7 ∧ (True ∧ zs_in (v.2.2.2).toInt 1 8)))) ∧ v.2.2.2.toInt = c + 1) (fun v => False) r) := by
  unfold BX8_cuts_54
  refine zs_lt (Q := fun z => zs_in z.toInt 1 8 ∧ z.toInt = c + 1) ⟨(zs_addI 1 8 h_x3 zlI_1 (by decide)), (zs_syI 1 hc h_x3 zlI_1 (by decide) (by decide))⟩ (fun y_1 hy_1 => ?_)
  exact zs_some (zs_inl ⟨⟨h_σ, ⟨h_x1, ⟨trivial, hy_1.1⟩⟩⟩, hy_1.2⟩)
-- BX8_cuts_54
theorem zc_659 {σ0 : sn_S} {σ : sn_S} (h_σ : zs_C σ0 σ) {x1 : Int32} (h_x1 : zs_in x1.toInt 0 7) {x2 : Int32} (h_x2 : zs_in x2.toInt (-2147483648) 2147483646) {x3 : Int32} (h_x3 : zs_in x3.toInt 0 7) {c : Int} (hc : x3.toInt = c + 0) : zs_ok (BX8_cuts_54 σ x1 x2 x3) (fun r => zs_sum (fun v => ((zs_C σ0 v.1 ∧ (zs_in (v.2.1).toInt 0 7 ∧ (zs_in (v.2.2.1).toInt (-2147483648) 2147483646 ∧ zs_in (v.2.2.2).toInt 1 8)))) ∧ v.2.2.2.toInt = c + 1) (fun v => False) r) := by
  unfold BX8_cuts_54
  refine zs_lt (Q := fun z => zs_in z.toInt 1 8 ∧ z.toInt = c + 1) ⟨(zs_addI 1 8 h_x3 zlI_1 (by decide)), (zs_syI 1 hc h_x3 zlI_1 (by decide) (by decide))⟩ (fun y_1 hy_1 => ?_)
  exact zs_some (zs_inl ⟨⟨h_σ, ⟨h_x1, ⟨h_x2, hy_1.1⟩⟩⟩, hy_1.2⟩)
-- BX8_cuts_22
theorem zc_660 {σ0 : sn_S} {σ : sn_S} (h_σ : zs_C σ0 σ) {x1 : Int32} (h_x1 : zs_in x1.toInt (-1) 7) {x2 : Int32} {x3 : Int32} (h_x3 : zs_in x3.toInt 0 8) {c : Int} (hc : x3.toInt = c + 0) : zs_ok (BX8_cuts_22 σ x1 x2 x3) (fun r => zs_sum (fun v => ((zs_C σ0 v.1 ∧ (zs_in (v.2.1).toInt (-1) 7 ∧ (True ∧ zs_in (v.2.2.2).toInt 1 8)))) ∧ v.2.2.2.toInt = c + 1) (fun v => (zs_C σ0 v.1 ∧ zs_in (v.2).toInt (-1) 7)) r) := by
  unfold BX8_cuts_22
  refine zs_gd (zs_gin zlI_7 (by decide)) ?_
  refine zs_ite (fun c1 => ?_) (fun c1 => ?_)
  · skip
    have r2 := (zs_I_le c1)
    exact zs_some (zs_inr (⟨h_σ, h_x1⟩))
  · skip
    have r3 := (zs_I_len c1)
    have g4 : zs_in (x3).toInt 0 7 := (zs_ltl 0 7 r3 h_x3 (zs_rdk (q := 2) (k := (7 : Int32).toNatClampNeg) (z := (0, 8)) h_σ.1 rfl) (by decide))
    have g5 : zs_in ((sn_I σ (1 + 1) (7 : Int32).toNatClampNeg)).toInt 1 8 := (zs_ltr 1 8 r3 h_x3 (zs_rdk (q := 2) (k := (7 : Int32).toNatClampNeg) (z := (0, 8)) h_σ.1 rfl) (by decide))
    refine zs_bd_ (zc_653 h_σ g4) (fun t_3 pt_3 => ?_)
    refine zs_ite (fun c6 => ?_) (fun c6 => ?_)
    · skip
      have r7 := (zs_I_le c6)
      obtain ⟨ret, er, hr⟩ := zc_658 pt_3.2 h_x1 g4 hc
      refine ⟨ret, er, ?_⟩
      exact (zs_sumw hr (fun v w => ⟨w.1, w.2⟩) (fun v w => w.elim))
    · skip
      have r8 := (zs_I_len c6)
      have g9 : zs_in (t_3.1).toInt (-2147483648) 2147483646 := (zs_ltl (-2147483648) 2147483646 r8 (zs_topI _) (zs_topI _) (by decide))
      have g10 : zs_in (x2).toInt (-2147483647) 2147483647 := (zs_ltr (-2147483647) 2147483647 r8 (zs_topI _) (zs_topI _) (by decide))
      obtain ⟨ret, er, hr⟩ := zc_659 pt_3.2 g4 g9 g4 hc
      refine ⟨ret, er, ?_⟩
      exact (zs_sumw hr (fun v w => ⟨⟨w.1.1, ⟨(zs_w w.1.2.1 (by decide)), ⟨trivial, w.1.2.2.2⟩⟩⟩, w.2⟩) (fun v w => w.elim))
theorem zd_112 {σ0 : sn_S}  {s0 : (sn_S × (Int32 × (Int32 × Int32)))} (h0 : (zs_C σ0 s0.1 ∧ (zs_in (s0.2.1).toInt (-1) 7 ∧ (True ∧ zs_in (s0.2.2.2).toInt 0 8)))) : zs_ok (sn_it (LX8_cuts_22) 5000 s0) (fun t => (zs_C σ0 t.1 ∧ zs_in (t.2).toInt (-1) 7)) := by
  refine zs_it (I := fun s => (zs_C σ0 s.1 ∧ (zs_in (s.2.1).toInt (-1) 7 ∧ (True ∧ zs_in (s.2.2.2).toInt 0 8)))) (m := fun s => 8 - s.2.2.2.toInt) (fun s hs => ?_) (fun s hs => ?_) (by exact h0)
  · have h1 := hs.2.2.2; unfold zs_in at h1
    omega
  · obtain ⟨b, eb, hb⟩ := zc_660 hs.1 hs.2.1 hs.2.2.2 (c := s.2.2.2.toInt) (Int.add_zero _).symm
    exact ⟨b, eb, zs_sumw hb (fun v w => ⟨⟨w.1.1, ⟨w.1.2.1, ⟨w.1.2.2.1, (zs_w w.1.2.2.2 (by decide))⟩⟩⟩, by have := w.2; omega⟩) (fun v w => w)⟩
-- BX8_cuts_60
theorem zc_661 {σ0 : sn_S} {σ : sn_S} (h_σ : zs_C σ0 σ) {x1 : Int32} (h_x1 : zs_in x1.toInt (-1) 7) : zs_ok (BX8_cuts_60 σ x1) (fun r => (zs_in (r.1).toInt (-1) 7 ∧ zs_C σ0 r.2)) := by
  unfold BX8_cuts_60
  exact zs_some ⟨h_x1, h_σ⟩
-- fX8_cuts
theorem zc_662 {σ0 : sn_S} {σ : sn_S} (h_σ : zs_C σ0 σ) : zs_ok (fX8_cuts σ) (fun r => (zs_in (r.1).toInt (-2) 7 ∧ zs_C σ0 r.2)) := by
  unfold fX8_cuts
  refine zs_bd_ (zc_102 h_σ) (fun t_1 pt_1 => ?_)
  refine zs_ite (fun c1 => ?_) (fun c1 => ?_)
  · skip
    have r2 := (zs_I_eq c1)
    have g3 : zs_in (t_1).toInt 0 0 := (zs_eql 0 0 r2 pt_1 zlI_0 (by decide))
    exact zs_some ⟨(zs_w zlI_m2 (by decide)), h_σ⟩
  · skip
    have r4 := (zs_I_eqn c1)
    have g5 : zs_in (t_1).toInt 1 1 := (zs_nel 1 1 r4 pt_1 zlI_0 (by decide))
    refine zs_bd_ (zc_105 h_σ) (fun t_4 pt_4 => ?_)
    refine zs_bd_ (zd_112  (s0 := (σ, ((-1 : Int32), (t_4, (0 : Int32))))) ⟨h_σ, ⟨(zs_w zlI_m1 (by decide)), ⟨trivial, (zs_w zlI_0 (by decide))⟩⟩⟩) (fun t_6 pt_6 => ?_)
    obtain ⟨ret, er, hr⟩ := zc_661 pt_6.1 pt_6.2
    refine ⟨ret, er, ?_⟩
    exact ⟨(zs_w hr.1 (by decide)), hr.2⟩
-- BX9_cuts_51
theorem zc_663 {σ0 : sn_S} {σ : sn_S} (h_σ : zs_M σ0 σ) {x1 : Int32} (h_x1 : zs_in x1.toInt 0 7) {x2 : Int32} (h_x2 : zs_in x2.toInt (-2147483648) 2147483646) {x3 : Int32} (h_x3 : zs_in x3.toInt 0 7) {c : Int} (hc : x3.toInt = c + 0) : zs_ok (BX9_cuts_51 σ x1 x2 x3) (fun r => zs_sum (fun v => ((zs_M σ0 v.1 ∧ (zs_in (v.2.1).toInt 0 7 ∧ (zs_in (v.2.2.1).toInt (-2147483648) 2147483646 ∧ zs_in (v.2.2.2).toInt 1 8)))) ∧ v.2.2.2.toInt = c + 1) (fun v => False) r) := by
  unfold BX9_cuts_51
  refine zs_lt (Q := fun z => zs_in z.toInt 1 8 ∧ z.toInt = c + 1) ⟨(zs_addI 1 8 h_x3 zlI_1 (by decide)), (zs_syI 1 hc h_x3 zlI_1 (by decide) (by decide))⟩ (fun y_1 hy_1 => ?_)
  exact zs_some (zs_inl ⟨⟨h_σ, ⟨h_x1, ⟨h_x2, hy_1.1⟩⟩⟩, hy_1.2⟩)
-- BX9_cuts_51
theorem zc_664 {σ0 : sn_S} {σ : sn_S} (h_σ : zs_M σ0 σ) {x1 : Int32} (h_x1 : zs_in x1.toInt (-1) 7) {x2 : Int32} {x3 : Int32} (h_x3 : zs_in x3.toInt 0 7) {c : Int} (hc : x3.toInt = c + 0) : zs_ok (BX9_cuts_51 σ x1 x2 x3) (fun r => zs_sum (fun v => ((zs_M σ0 v.1 ∧ (zs_in (v.2.1).toInt (-1) 7 ∧ (True ∧ zs_in (v.2.2.2).toInt 1 8)))) ∧ v.2.2.2.toInt = c + 1) (fun v => False) r) := by
  unfold BX9_cuts_51
  refine zs_lt (Q := fun z => zs_in z.toInt 1 8 ∧ z.toInt = c + 1) ⟨(zs_addI 1 8 h_x3 zlI_1 (by decide)), (zs_syI 1 hc h_x3 zlI_1 (by decide) (by decide))⟩ (fun y_1 hy_1 => ?_)
  exact zs_some (zs_inl ⟨⟨h_σ, ⟨h_x1, ⟨trivial, hy_1.1⟩⟩⟩, hy_1.2⟩)
-- BX9_cuts_19
theorem zc_665 {σ0 : sn_S} {σ : sn_S} (h_σ : zs_M σ0 σ) {x1 : Int32} (h_x1 : zs_in x1.toInt (-1) 7) {x2 : Int32} {x3 : Int32} (h_x3 : zs_in x3.toInt 0 8) {c : Int} (hc : x3.toInt = c + 0) : zs_ok (BX9_cuts_19 σ x1 x2 x3) (fun r => zs_sum (fun v => ((zs_M σ0 v.1 ∧ (zs_in (v.2.1).toInt (-1) 7 ∧ (True ∧ zs_in (v.2.2.2).toInt 1 8)))) ∧ v.2.2.2.toInt = c + 1) (fun v => (zs_M σ0 v.1 ∧ zs_in (v.2).toInt (-1) 7)) r) := by
  unfold BX9_cuts_19
  refine zs_gd (zs_gin zlI_7 (by decide)) ?_
  refine zs_ite (fun c1 => ?_) (fun c1 => ?_)
  · skip
    have r2 := (zs_I_le c1)
    exact zs_some (zs_inr (⟨h_σ, h_x1⟩))
  · skip
    have r3 := (zs_I_len c1)
    have g4 : zs_in (x3).toInt 0 7 := (zs_ltl 0 7 r3 h_x3 (zs_rdk (q := 1) (k := (7 : Int32).toNatClampNeg) (z := (0, 8)) h_σ.1 rfl) (by decide))
    have g5 : zs_in ((sn_I σ 1 (7 : Int32).toNatClampNeg)).toInt 1 8 := (zs_ltr 1 8 r3 h_x3 (zs_rdk (q := 1) (k := (7 : Int32).toNatClampNeg) (z := (0, 8)) h_σ.1 rfl) (by decide))
    refine zs_bd_ (zc_656 h_σ g4) (fun t_3 pt_3 => ?_)
    refine zs_ite (fun c6 => ?_) (fun c6 => ?_)
    · skip
      have r7 := (zs_I_lt c6)
      have g8 : zs_in (t_3.1).toInt (-2147483648) 2147483646 := (zs_ltl (-2147483648) 2147483646 r7 (zs_topI _) (zs_topI _) (by decide))
      have g9 : zs_in (x2).toInt (-2147483647) 2147483647 := (zs_ltr (-2147483647) 2147483647 r7 (zs_topI _) (zs_topI _) (by decide))
      obtain ⟨ret, er, hr⟩ := zc_663 pt_3.2 g4 g8 g4 hc
      refine ⟨ret, er, ?_⟩
      exact (zs_sumw hr (fun v w => ⟨⟨w.1.1, ⟨(zs_w w.1.2.1 (by decide)), ⟨trivial, w.1.2.2.2⟩⟩⟩, w.2⟩) (fun v w => w.elim))
    · skip
      have r10 := (zs_I_ltn c6)
      obtain ⟨ret, er, hr⟩ := zc_664 pt_3.2 h_x1 g4 hc
      refine ⟨ret, er, ?_⟩
      exact (zs_sumw hr (fun v w => ⟨w.1, w.2⟩) (fun v w => w.elim))
theorem zd_113 {σ0 : sn_S}  {s0 : (sn_S × (Int32 × (Int32 × Int32)))} (h0 : (zs_M σ0 s0.1 ∧ (zs_in (s0.2.1).toInt (-1) 7 ∧ (True ∧ zs_in (s0.2.2.2).toInt 0 8)))) : zs_ok (sn_it (LX9_cuts_19) 5000 s0) (fun t => (zs_M σ0 t.1 ∧ zs_in (t.2).toInt (-1) 7)) := by
  refine zs_it (I := fun s => (zs_M σ0 s.1 ∧ (zs_in (s.2.1).toInt (-1) 7 ∧ (True ∧ zs_in (s.2.2.2).toInt 0 8)))) (m := fun s => 8 - s.2.2.2.toInt) (fun s hs => ?_) (fun s hs => ?_) (by exact h0)
  · have h1 := hs.2.2.2; unfold zs_in at h1
    omega
  · obtain ⟨b, eb, hb⟩ := zc_665 hs.1 hs.2.1 hs.2.2.2 (c := s.2.2.2.toInt) (Int.add_zero _).symm
    exact ⟨b, eb, zs_sumw hb (fun v w => ⟨⟨w.1.1, ⟨w.1.2.1, ⟨w.1.2.2.1, (zs_w w.1.2.2.2 (by decide))⟩⟩⟩, by have := w.2; omega⟩) (fun v w => w)⟩
-- BX9_cuts_57
theorem zc_666 {σ0 : sn_S} {σ : sn_S} (h_σ : zs_M σ0 σ) {x1 : Int32} (h_x1 : zs_in x1.toInt (-1) 7) : zs_ok (BX9_cuts_57 σ x1) (fun r => (zs_in (r.1).toInt (-1) 7 ∧ zs_M σ0 r.2)) := by
  unfold BX9_cuts_57
  exact zs_some ⟨h_x1, h_σ⟩
-- fX9_cuts
theorem zc_667 {σ0 : sn_S} {σ : sn_S} (h_σ : zs_M σ0 σ) : zs_ok (fX9_cuts σ) (fun r => (zs_in (r.1).toInt (-2) 7 ∧ zs_M σ0 r.2)) := by
  unfold fX9_cuts
  refine zs_bd_ (zc_92 h_σ) (fun t_1 pt_1 => ?_)
  refine zs_ite (fun c1 => ?_) (fun c1 => ?_)
  · skip
    have r2 := (zs_I_eq c1)
    have g3 : zs_in (t_1.1).toInt 0 0 := (zs_eql 0 0 r2 pt_1.1 zlI_0 (by decide))
    exact zs_some ⟨(zs_w zlI_m2 (by decide)), pt_1.2⟩
  · skip
    have r4 := (zs_I_eqn c1)
    have g5 : zs_in (t_1.1).toInt 1 1 := (zs_nel 1 1 r4 pt_1.1 zlI_0 (by decide))
    refine zs_bd_ (zc_112 pt_1.2) (fun t_4 pt_4 => ?_)
    refine zs_bd_ (zd_113  (s0 := (t_1.2, ((-1 : Int32), (t_4, (0 : Int32))))) ⟨pt_1.2, ⟨(zs_w zlI_m1 (by decide)), ⟨trivial, (zs_w zlI_0 (by decide))⟩⟩⟩) (fun t_6 pt_6 => ?_)
    obtain ⟨ret, er, hr⟩ := zc_666 pt_6.1 pt_6.2
    refine ⟨ret, er, ?_⟩
    exact ⟨(zs_w hr.1 (by decide)), hr.2⟩
-- fX8_isPuffMinute
theorem zc_668 {σ0 : sn_S} {σ : sn_S} (h_σ : zs_C σ0 σ) {x1 : Int32} : zs_ok (fX8_isPuffMinute σ x1) (fun r => (zs_in (r).toInt 0 1) ∧ ((r).toInt = 0 ∨ (zs_in (x1).toInt 0 7))) := by
  unfold fX8_isPuffMinute
  refine zs_bd_ (zc_44 h_σ) (fun t_1 pt_1 => ?_)
  refine zs_ite (fun c1 => ?_) (fun c1 => ?_)
  · skip
    have r2 := (zs_I_eq c1)
    have g3 : zs_in (t_1).toInt 0 0 := (zs_eql 0 0 r2 pt_1.1 zlI_0 (by decide))
    refine zs_gd (zs_b01 zlI_0 (by decide)) ?_
    exact zs_some ⟨(zs_w zlI_0 (by decide)), Or.inl (zs_ptr zlI_0)⟩
  · skip
    have r4 := (zs_I_eqn c1)
    have g5 : zs_in (t_1).toInt 1 1 := (zs_nel 1 1 r4 pt_1.1 zlI_0 (by decide))
    have q6 := (zs_or2 pt_1.2 g5 (by decide))
    have g7 : zs_in (x1).toInt 0 29 := q6
    refine zs_ite (fun c8 => ?_) (fun c8 => ?_)
    · skip
      have r9 := (zs_I_lt c8)
      have g10 : zs_in (x1).toInt 8 29 := (zs_ltr 8 29 r9 zlI_7 g7 (by decide))
      refine zs_gd (zs_b01 zlI_0 (by decide)) ?_
      exact zs_some ⟨(zs_w zlI_0 (by decide)), Or.inl (zs_ptr zlI_0)⟩
    · skip
      have r11 := (zs_I_ltn c8)
      have g12 : zs_in (x1).toInt 0 7 := (zs_lel 0 7 r11 g7 zlI_7 (by decide))
      refine zs_gd (zs_b01 zlI_1 (by decide)) ?_
      exact zs_some ⟨(zs_w zlI_1 (by decide)), Or.inr g12⟩
-- BX4_weigh_46
theorem zc_669 {σ0 : sn_S} {σ : sn_S} (h_σ : zs_C σ0 σ) {x1 : Int32} (h_x1 : zs_in x1.toInt 1 1) {x2 : Int32} (h_x2 : zs_in x2.toInt 0 10) {x3 : Int32} (h_x3 : zs_in x3.toInt 0 0) {x4 : Int64} {x6 : Int32} (h_x6 : zs_in x6.toInt 0 0) {t0 : Int64} {t1 : Int64} (h_t1 : zs_in t1.toInt 0 10) {c : Int} (hc : x6.toInt = c + 0) : zs_ok (BX4_weigh_46 σ x1 x2 x3 x4 x6 t0 t1) (fun r => zs_sum (fun v => ((True ∧ zs_in (v.2).toInt 1 1)) ∧ v.2.toInt = c + 1) (fun v => False) r) := by
  unfold BX4_weigh_46
  obtain rfl : x1 = (1 : Int32) := zs_eqv h_x1 (by decide)
  obtain rfl : x3 = (0 : Int32) := zs_eqv h_x3 (by decide)
  refine zs_lt (Q := fun z => True) trivial (fun y_1 hy_1 => ?_)
  refine zs_lt (Q := fun z => zs_in z.toInt 1 1 ∧ z.toInt = c + 1) ⟨(zs_addI 1 1 h_x6 zlI_1 (by decide)), (zs_syI 1 hc h_x6 zlI_1 (by decide) (by decide))⟩ (fun y_3 hy_3 => ?_)
  exact zs_some (zs_inl ⟨⟨trivial, hy_3.1⟩, hy_3.2⟩)
-- BX4_weigh_46
theorem zc_670 {σ0 : sn_S} {σ : sn_S} (h_σ : zs_C σ0 σ) {x1 : Int32} (h_x1 : zs_in x1.toInt 1 1) {x2 : Int32} (h_x2 : zs_in x2.toInt 0 10) {x3 : Int32} (h_x3 : zs_in x3.toInt 1 1) {x4 : Int64} {x6 : Int32} (h_x6 : zs_in x6.toInt 0 0) {t0 : Int64} {t1 : Int64} (h_t1 : zs_in t1.toInt 0 10) {c : Int} (hc : x6.toInt = c + 0) : zs_ok (BX4_weigh_46 σ x1 x2 x3 x4 x6 t0 t1) (fun r => zs_sum (fun v => ((True ∧ zs_in (v.2).toInt 1 1)) ∧ v.2.toInt = c + 1) (fun v => False) r) := by
  unfold BX4_weigh_46
  obtain rfl : x1 = (1 : Int32) := zs_eqv h_x1 (by decide)
  obtain rfl : x3 = (1 : Int32) := zs_eqv h_x3 (by decide)
  refine zs_lt (Q := fun z => True) trivial (fun y_1 hy_1 => ?_)
  refine zs_lt (Q := fun z => zs_in z.toInt 1 1 ∧ z.toInt = c + 1) ⟨(zs_addI 1 1 h_x6 zlI_1 (by decide)), (zs_syI 1 hc h_x6 zlI_1 (by decide) (by decide))⟩ (fun y_3 hy_3 => ?_)
  exact zs_some (zs_inl ⟨⟨trivial, hy_3.1⟩, hy_3.2⟩)
-- BX4_weigh_22
theorem zc_671 {σ0 : sn_S} {σ : sn_S} (h_σ : zs_C σ0 σ) {x1 : Int32} (h_x1 : zs_in x1.toInt 1 1) {x2 : Int32} (h_x2 : zs_in x2.toInt 0 10) {x3 : Int32} (h_x3 : zs_in x3.toInt 0 1) {x4 : Int64} {x6 : Int32} (h_x6 : zs_in x6.toInt 0 1) {c : Int} (hc : x6.toInt = c + 0) : zs_ok (BX4_weigh_22 σ x1 x2 x3 x4 x6) (fun r => zs_sum (fun v => ((True ∧ zs_in (v.2).toInt 1 1)) ∧ v.2.toInt = c + 1) (fun v => True) r) := by
  unfold BX4_weigh_22
  obtain rfl : x1 = (1 : Int32) := zs_eqv h_x1 (by decide)
  refine zs_ite (fun c1 => ?_) (fun c1 => ?_)
  · skip
    have r2 := (zs_I_le c1)
    have g3 : zs_in (x6).toInt 1 1 := (zs_ler 1 1 r2 h_x1 h_x6 (by decide))
    exact zs_some (zs_inr (trivial))
  · skip
    have r4 := (zs_I_len c1)
    have g5 : zs_in (x6).toInt 0 0 := (zs_ltl 0 0 r4 h_x6 h_x1 (by decide))
    refine zs_ite (fun c6 => ?_) (fun c6 => ?_)
    · skip
      have r7 := (zs_I_le c6)
      have g8 : zs_in (x3).toInt 0 0 := (zs_lel 0 0 r7 h_x3 g5 (by decide))
      obtain ⟨ret, er, hr⟩ := zc_669 h_σ h_x1 h_x2 g8 g5 (zs_64 (zs_subI 0 10 zlI_10 h_x2 (by decide))) hc
      refine ⟨ret, er, ?_⟩
      exact (zs_sumw hr (fun v w => ⟨w.1, w.2⟩) (fun v w => w.elim))
    · skip
      have r9 := (zs_I_len c6)
      have g10 : zs_in (x3).toInt 1 1 := (zs_ltr 1 1 r9 g5 h_x3 (by decide))
      obtain ⟨ret, er, hr⟩ := zc_670 h_σ h_x1 h_x2 g10 g5 (zs_64 h_x2) hc
      refine ⟨ret, er, ?_⟩
      exact (zs_sumw hr (fun v w => ⟨w.1, w.2⟩) (fun v w => w.elim))
theorem zd_114 {σ0 : sn_S} {σ : sn_S} (h_σ : zs_C σ0 σ) {x1 : Int32} (h_x1 : zs_in x1.toInt 1 1) {x2 : Int32} (h_x2 : zs_in x2.toInt 0 10) {x3 : Int32} (h_x3 : zs_in x3.toInt 0 1) {s0 : (Int64 × Int32)} (h0 : (True ∧ zs_in (s0.2).toInt 0 1)) : zs_ok (sn_it (LX4_weigh_22 σ x1 x2 x3) 5000 s0) (fun t => True) := by
  refine zs_it (I := fun s => (True ∧ zs_in (s.2).toInt 0 1)) (m := fun s => 1 - s.2.toInt) (fun s hs => ?_) (fun s hs => ?_) (by exact h0)
  · have h1 := hs.2; unfold zs_in at h1
    omega
  · obtain ⟨b, eb, hb⟩ := zc_671 h_σ h_x1 h_x2 h_x3 hs.2 (c := s.2.toInt) (Int.add_zero _).symm
    exact ⟨b, eb, zs_sumw hb (fun v w => ⟨⟨w.1.1, (zs_w w.1.2 (by decide))⟩, by have := w.2; omega⟩) (fun v w => w)⟩
-- BX4_weigh_55
theorem zc_672 {σ0 : sn_S} {σ : sn_S} (h_σ : zs_C σ0 σ) {x1 : Int32} (h_x1 : zs_in x1.toInt 1 1) {x2 : Int32} (h_x2 : zs_in x2.toInt 0 10) {x3 : Int32} (h_x3 : zs_in x3.toInt 0 1) {x4 : Int64} {c : Int} (hc : x3.toInt = c + 0) : zs_ok (BX4_weigh_55 σ x1 x2 x3 x4) (fun r => zs_sum (fun v => ((zs_C σ0 v.1 ∧ zs_in (v.2).toInt 1 2)) ∧ v.2.toInt = c + 1) (fun v => False) r) := by
  unfold BX4_weigh_55
  obtain rfl : x1 = (1 : Int32) := zs_eqv h_x1 (by decide)
  refine zs_gd (zs_gin h_x3 (by decide)) ?_
  refine zs_lt (Q := fun z => zs_C σ0 z) (zs_wrL h_σ rfl) (fun σ_2 hσ_2 => ?_)
  refine zs_lt (Q := fun z => zs_in z.toInt 1 2 ∧ z.toInt = c + 1) ⟨(zs_addI 1 2 h_x3 zlI_1 (by decide)), (zs_syI 1 hc h_x3 zlI_1 (by decide) (by decide))⟩ (fun y_4 hy_4 => ?_)
  exact zs_some (zs_inl ⟨⟨hσ_2, hy_4.1⟩, hy_4.2⟩)
-- BX4_weigh_2
theorem zc_673 {σ0 : sn_S} {σ : sn_S} (h_σ : zs_C σ0 σ) {x1 : Int32} (h_x1 : zs_in x1.toInt 1 1) {x2 : Int32} (h_x2 : zs_in x2.toInt 0 10) {x3 : Int32} (h_x3 : zs_in x3.toInt 0 2) {c : Int} (hc : x3.toInt = c + 0) : zs_ok (BX4_weigh_2 σ x1 x2 x3) (fun r => zs_sum (fun v => ((zs_C σ0 v.1 ∧ zs_in (v.2).toInt 1 2)) ∧ v.2.toInt = c + 1) (fun v => zs_C σ0 v) r) := by
  unfold BX4_weigh_2
  obtain rfl : x1 = (1 : Int32) := zs_eqv h_x1 (by decide)
  refine zs_ite (fun c1 => ?_) (fun c1 => ?_)
  · skip
    have r2 := (zs_I_lt c1)
    have g3 : zs_in (x3).toInt 2 2 := (zs_ltr 2 2 r2 h_x1 h_x3 (by decide))
    exact zs_some (zs_inr (h_σ))
  · skip
    have r4 := (zs_I_ltn c1)
    have g5 : zs_in (x3).toInt 0 1 := (zs_lel 0 1 r4 h_x3 h_x1 (by decide))
    refine zs_ite (fun c6 => ?_) (fun c6 => ?_)
    · skip
      have r7 := (zs_I_le c6)
      exact (zs_botle r7 zlI_9 g5 (by decide)).elim
    · skip
      have r8 := (zs_I_len c6)
      refine zs_bd_ (zd_114 h_σ h_x1 h_x2 g5 (s0 := ((1 : Int64), (0 : Int32))) ⟨trivial, (zs_w zlI_0 (by decide))⟩) (fun t_3 pt_3 => ?_)
      obtain ⟨ret, er, hr⟩ := zc_672 h_σ h_x1 h_x2 g5 hc
      refine ⟨ret, er, ?_⟩
      exact (zs_sumw hr (fun v w => ⟨w.1, w.2⟩) (fun v w => w.elim))
theorem zd_115 {σ0 : sn_S} {x1 : Int32} (h_x1 : zs_in x1.toInt 1 1) {x2 : Int32} (h_x2 : zs_in x2.toInt 0 10) {s0 : (sn_S × Int32)} (h0 : (zs_C σ0 s0.1 ∧ zs_in (s0.2).toInt 0 2)) : zs_ok (sn_it (LX4_weigh_2 x1 x2) 5000 s0) (fun t => zs_C σ0 t) := by
  refine zs_it (I := fun s => (zs_C σ0 s.1 ∧ zs_in (s.2).toInt 0 2)) (m := fun s => 2 - s.2.toInt) (fun s hs => ?_) (fun s hs => ?_) (by exact h0)
  · have h1 := hs.2; unfold zs_in at h1
    omega
  · obtain ⟨b, eb, hb⟩ := zc_673 hs.1 h_x1 h_x2 hs.2 (c := s.2.toInt) (Int.add_zero _).symm
    exact ⟨b, eb, zs_sumw hb (fun v w => ⟨⟨w.1.1, (zs_w w.1.2 (by decide))⟩, by have := w.2; omega⟩) (fun v w => w)⟩
-- BX4_weigh_69
theorem zc_674 {σ0 : sn_S} {σ : sn_S} (h_σ : zs_C σ0 σ) : zs_ok (BX4_weigh_69 σ) (fun r => zs_C σ0 r) := by
  unfold BX4_weigh_69
  exact zs_some h_σ
-- fX4_weigh
theorem zc_675 {σ0 : sn_S} {σ : sn_S} (h_σ : zs_C σ0 σ) {x1 : Int32} (h_x1 : zs_in x1.toInt 1 1) {x2 : Int32} (h_x2 : zs_in x2.toInt 0 10) : zs_ok (fX4_weigh σ x1 x2) (fun r => zs_C σ0 r) := by
  unfold fX4_weigh
  obtain rfl : x1 = (1 : Int32) := zs_eqv h_x1 (by decide)
  refine zs_bd_ (zd_115 h_x1 h_x2 (s0 := (σ, (0 : Int32))) ⟨h_σ, (zs_w zlI_0 (by decide))⟩) (fun t_1 pt_1 => ?_)
  obtain ⟨ret, er, hr⟩ := zc_674 pt_1
  refine ⟨ret, er, ?_⟩
  exact hr
-- fX8_hasBit
theorem zc_676 {x0 : Int32} (h_x0 : zs_in x0.toInt 0 0) {x1 : Int32} (h_x1 : zs_in x1.toInt 0 0) : zs_ok (fX8_hasBit x0 x1) (fun r => zs_in (r).toInt 0 1) := by
  unfold fX8_hasBit
  obtain rfl : x0 = (0 : Int32) := zs_eqv h_x0 (by decide)
  obtain rfl : x1 = (0 : Int32) := zs_eqv h_x1 (by decide)
  refine zs_ite (fun c1 => ?_) (fun c1 => ?_)
  · skip
    have r2 := (zs_I_eq c1)
    have g3 : zs_in ((((0 : Int32) >>> ((0 : Int32) &&& 31)) &&& (1 : Int32))).toInt 1 1 := (zs_eql 1 1 r2 (zs_and zlI_1 (by decide)) zlI_1 (by decide))
    refine zs_gd (zs_b01 zlI_1 (by decide)) ?_
    exact zs_some (zs_w zlI_1 (by decide))
  · skip
    have r4 := (zs_I_eqn c1)
    have g5 : zs_in ((((0 : Int32) >>> ((0 : Int32) &&& 31)) &&& (1 : Int32))).toInt 0 0 := (zs_neh 0 0 r4 (zs_and zlI_1 (by decide)) zlI_1 (by decide))
    refine zs_gd (zs_b01 zlI_0 (by decide)) ?_
    exact zs_some (zs_w zlI_0 (by decide))
-- BX4_reckon_111
theorem zc_677 {σ0 : sn_S} {σ : sn_S} (h_σ : zs_C σ0 σ) {x3 : Int32} (h_x3 : zs_in x3.toInt 0 0) {x4 : Int32} (h_x4 : zs_in x4.toInt 0 5) {x6 : Int32} (h_x6 : zs_in x6.toInt 1 1) {x7 : Int32} (h_x7 : zs_in x7.toInt 0 0) {x8 : Int32} (h_x8 : zs_in x8.toInt 0 0) {x9 : Int32} (h_x9 : zs_in x9.toInt 0 0) {t1 : Int32} (h_t1 : zs_in t1.toInt 0 0) {t2 : Int32} {t3 : Int32} (h_t3 : zs_in t3.toInt 0 0) {c : Int} (hc : x9.toInt = c + 0) : zs_ok (BX4_reckon_111 σ 1 27 x3 x4 x6 x7 x8 x9 t1 t2 t3) (fun r => zs_sum (fun v => ((zs_C σ0 v.1 ∧ zs_in (v.2).toInt 1 1)) ∧ v.2.toInt = c + 1) (fun v => False) r) := by
  unfold BX4_reckon_111
  obtain rfl : x3 = (0 : Int32) := zs_eqv h_x3 (by decide)
  obtain rfl : x6 = (1 : Int32) := zs_eqv h_x6 (by decide)
  obtain rfl : x7 = (0 : Int32) := zs_eqv h_x7 (by decide)
  obtain rfl : x8 = (0 : Int32) := zs_eqv h_x8 (by decide)
  obtain rfl : t1 = (0 : Int32) := zs_eqv h_t1 (by decide)
  obtain rfl : t3 = (0 : Int32) := zs_eqv h_t3 (by decide)
  refine zs_gd (zs_gin h_t1 (by decide)) ?_
  refine zs_lt (Q := fun z => zs_C σ0 z) (zs_wrt h_σ (fun _ => rfl) (fun _ => rfl)) (fun σ_2 hσ_2 => ?_)
  refine zs_lt (Q := fun z => zs_in z.toInt 1 1 ∧ z.toInt = c + 1) ⟨(zs_addI 1 1 h_x9 zlI_1 (by decide)), (zs_syI 1 hc h_x9 zlI_1 (by decide) (by decide))⟩ (fun y_4 hy_4 => ?_)
  exact zs_some (zs_inl ⟨⟨hσ_2, hy_4.1⟩, hy_4.2⟩)
-- BX4_reckon_111
theorem zc_678 {σ0 : sn_S} {σ : sn_S} (h_σ : zs_C σ0 σ) {x3 : Int32} (h_x3 : zs_in x3.toInt 0 0) {x4 : Int32} (h_x4 : zs_in x4.toInt 0 5) {x6 : Int32} (h_x6 : zs_in x6.toInt 1 1) {x7 : Int32} (h_x7 : zs_in x7.toInt 0 0) {x8 : Int32} (h_x8 : zs_in x8.toInt 0 0) {x9 : Int32} (h_x9 : zs_in x9.toInt 0 0) {t1 : Int32} (h_t1 : zs_in t1.toInt 0 0) {t2 : Int32} {t3 : Int32} (h_t3 : zs_in t3.toInt 3 3) {c : Int} (hc : x9.toInt = c + 0) : zs_ok (BX4_reckon_111 σ 1 27 x3 x4 x6 x7 x8 x9 t1 t2 t3) (fun r => zs_sum (fun v => ((zs_C σ0 v.1 ∧ zs_in (v.2).toInt 1 1)) ∧ v.2.toInt = c + 1) (fun v => False) r) := by
  unfold BX4_reckon_111
  obtain rfl : x3 = (0 : Int32) := zs_eqv h_x3 (by decide)
  obtain rfl : x6 = (1 : Int32) := zs_eqv h_x6 (by decide)
  obtain rfl : x7 = (0 : Int32) := zs_eqv h_x7 (by decide)
  obtain rfl : x8 = (0 : Int32) := zs_eqv h_x8 (by decide)
  obtain rfl : t1 = (0 : Int32) := zs_eqv h_t1 (by decide)
  obtain rfl : t3 = (3 : Int32) := zs_eqv h_t3 (by decide)
  refine zs_gd (zs_gin h_t1 (by decide)) ?_
  refine zs_lt (Q := fun z => zs_C σ0 z) (zs_wrt h_σ (fun _ => rfl) (fun _ => rfl)) (fun σ_2 hσ_2 => ?_)
  refine zs_lt (Q := fun z => zs_in z.toInt 1 1 ∧ z.toInt = c + 1) ⟨(zs_addI 1 1 h_x9 zlI_1 (by decide)), (zs_syI 1 hc h_x9 zlI_1 (by decide) (by decide))⟩ (fun y_4 hy_4 => ?_)
  exact zs_some (zs_inl ⟨⟨hσ_2, hy_4.1⟩, hy_4.2⟩)
-- BX4_reckon_68
theorem zc_679 {σ0 : sn_S} {σ : sn_S} (h_σ : zs_C σ0 σ) {x3 : Int32} (h_x3 : zs_in x3.toInt 0 0) {x4 : Int32} (h_x4 : zs_in x4.toInt 0 5) {x6 : Int32} (h_x6 : zs_in x6.toInt 1 1) {x7 : Int32} (h_x7 : zs_in x7.toInt 0 0) {x8 : Int32} (h_x8 : zs_in x8.toInt 0 0) {x9 : Int32} (h_x9 : zs_in x9.toInt 0 1) {c : Int} (hc : x9.toInt = c + 0) : zs_ok (BX4_reckon_68 σ 1 27 x3 x4 x6 x7 x8 x9) (fun r => zs_sum (fun v => ((zs_C σ0 v.1 ∧ zs_in (v.2).toInt 1 1)) ∧ v.2.toInt = c + 1) (fun v => zs_C σ0 v) r) := by
  unfold BX4_reckon_68
  obtain rfl : x3 = (0 : Int32) := zs_eqv h_x3 (by decide)
  obtain rfl : x6 = (1 : Int32) := zs_eqv h_x6 (by decide)
  obtain rfl : x7 = (0 : Int32) := zs_eqv h_x7 (by decide)
  obtain rfl : x8 = (0 : Int32) := zs_eqv h_x8 (by decide)
  refine zs_ite (fun c1 => ?_) (fun c1 => ?_)
  · skip
    have r2 := (zs_I_le c1)
    have g3 : zs_in (x9).toInt 1 1 := (zs_ler 1 1 r2 h_x6 h_x9 (by decide))
    exact zs_some (zs_inr (h_σ))
  · skip
    have r4 := (zs_I_len c1)
    have g5 : zs_in (x9).toInt 0 0 := (zs_ltl 0 0 r4 h_x9 h_x6 (by decide))
    refine zs_gd (zs_gin g5 (by decide)) ?_
    refine zs_bd_ (zc_676 h_x7 (zs_subI 0 0 (zs_subI 0 0 h_x6 zlI_1 (by decide)) g5 (by decide))) (fun t_3 pt_3 => ?_)
    refine zs_ite (fun c6 => ?_) (fun c6 => ?_)
    · skip
      have r7 := (zs_I_eq c6)
      have g8 : zs_in (t_3).toInt 0 0 := (zs_eql 0 0 r7 pt_3 zlI_0 (by decide))
      obtain ⟨ret, er, hr⟩ := zc_677 h_σ h_x3 h_x4 h_x6 h_x7 h_x8 g5 g5 zlI_0 hc
      refine ⟨ret, er, ?_⟩
      exact (zs_sumw hr (fun v w => ⟨w.1, w.2⟩) (fun v w => w.elim))
    · skip
      have r9 := (zs_I_eqn c6)
      have g10 : zs_in (t_3).toInt 1 1 := (zs_nel 1 1 r9 pt_3 zlI_0 (by decide))
      obtain ⟨ret, er, hr⟩ := zc_678 h_σ h_x3 h_x4 h_x6 h_x7 h_x8 g5 g5 zlI_3 hc
      refine ⟨ret, er, ?_⟩
      exact (zs_sumw hr (fun v w => ⟨w.1, w.2⟩) (fun v w => w.elim))
theorem zd_116 {σ0 : sn_S} {x3 : Int32} (h_x3 : zs_in x3.toInt 0 0) {x4 : Int32} (h_x4 : zs_in x4.toInt 0 5) {x6 : Int32} (h_x6 : zs_in x6.toInt 1 1) {x7 : Int32} (h_x7 : zs_in x7.toInt 0 0) {x8 : Int32} (h_x8 : zs_in x8.toInt 0 0) {s0 : (sn_S × Int32)} (h0 : (zs_C σ0 s0.1 ∧ zs_in (s0.2).toInt 0 1)) : zs_ok (sn_it (LX4_reckon_68 1 27 x3 x4 x6 x7 x8) 5000 s0) (fun t => zs_C σ0 t) := by
  refine zs_it (I := fun s => (zs_C σ0 s.1 ∧ zs_in (s.2).toInt 0 1)) (m := fun s => 1 - s.2.toInt) (fun s hs => ?_) (fun s hs => ?_) (by exact h0)
  · have h1 := hs.2; unfold zs_in at h1
    omega
  · obtain ⟨b, eb, hb⟩ := zc_679 hs.1 h_x3 h_x4 h_x6 h_x7 h_x8 hs.2 (c := s.2.toInt) (Int.add_zero _).symm
    exact ⟨b, eb, zs_sumw hb (fun v w => ⟨⟨w.1.1, (zs_w w.1.2 (by decide))⟩, by have := w.2; omega⟩) (fun v w => w)⟩
-- BX0_live_2
theorem zc_680 {σ0 : sn_S} {σ : sn_S} (h_σ : zs_C σ0 σ) {x1 : Int32} (h_x1 : zs_in x1.toInt 0 0) {x2 : Int32} (h_x2 : zs_in x2.toInt 1 1) {x3 : Int32} (h_x3 : zs_in x3.toInt 0 6) {c : Int} (hc : x3.toInt = c + 0) : zs_ok (BX0_live_2 σ 59 x1 x2 x3) (fun r => zs_sum (fun v => ((zs_C σ0 v.1 ∧ zs_in (v.2).toInt 1 6)) ∧ v.2.toInt = c + 1) (fun v => zs_C σ0 v) r) := by
  unfold BX0_live_2
  obtain rfl : x1 = (0 : Int32) := zs_eqv h_x1 (by decide)
  obtain rfl : x2 = (1 : Int32) := zs_eqv h_x2 (by decide)
  refine zs_ite (fun c1 => ?_) (fun c1 => ?_)
  · skip
    have r2 := (zs_I_le c1)
    exact zs_some (zs_inr (h_σ))
  · skip
    have r3 := (zs_I_len c1)
    have g4 : zs_in (x3).toInt 0 5 := (zs_ltl 0 5 r3 h_x3 (zs_rdk (q := 59) (k := 1) (z := (0, 6)) h_σ.1 rfl) (by decide))
    have g5 : zs_in ((sn_I σ 59 1)).toInt 1 6 := (zs_ltr 1 6 r3 h_x3 (zs_rdk (q := 59) (k := 1) (z := (0, 6)) h_σ.1 rfl) (by decide))
    refine zs_gd (zs_gin g4 (by decide)) ?_
    refine zs_bd_ (zc_314 h_x1) (fun t_3 pt_3 => ?_)
    refine zs_gd (zs_gin g4 (by decide)) ?_
    refine zs_lt (Q := fun z => zs_C σ0 z) (zs_wru (z := (0, 1073741823)) h_σ (fun _ => rfl) (zs_and pt_3 (by decide)) (by decide) (fun _ => rfl)) (fun σ_6 hσ_6 => ?_)
    refine zs_lt (Q := fun z => zs_in z.toInt 1 6 ∧ z.toInt = c + 1) ⟨(zs_addI 1 6 g4 zlI_1 (by decide)), (zs_syI 1 hc g4 zlI_1 (by decide) (by decide))⟩ (fun y_8 hy_8 => ?_)
    exact zs_some (zs_inl ⟨⟨hσ_6, hy_8.1⟩, hy_8.2⟩)
theorem zd_117 {σ0 : sn_S} {x1 : Int32} (h_x1 : zs_in x1.toInt 0 0) {x2 : Int32} (h_x2 : zs_in x2.toInt 1 1) {s0 : (sn_S × Int32)} (h0 : (zs_C σ0 s0.1 ∧ zs_in (s0.2).toInt 0 6)) : zs_ok (sn_it (LX0_live_2 59 x1 x2) 5000 s0) (fun t => zs_C σ0 t) := by
  refine zs_it (I := fun s => (zs_C σ0 s.1 ∧ zs_in (s.2).toInt 0 6)) (m := fun s => 6 - s.2.toInt) (fun s hs => ?_) (fun s hs => ?_) (by exact h0)
  · have h1 := hs.2; unfold zs_in at h1
    omega
  · obtain ⟨b, eb, hb⟩ := zc_680 hs.1 h_x1 h_x2 hs.2 (c := s.2.toInt) (Int.add_zero _).symm
    exact ⟨b, eb, zs_sumw hb (fun v w => ⟨⟨w.1.1, (zs_w w.1.2 (by decide))⟩, by have := w.2; omega⟩) (fun v w => w)⟩
-- BX0_tickleByNets_7
theorem zc_681 {σ0 : sn_S} {σ : sn_S} (h_σ : zs_C σ0 σ) {x1 : Int32} (h_x1 : zs_in x1.toInt 0 0) {x2 : Int32} (h_x2 : zs_in x2.toInt 0 0) {x3 : Int32} (h_x3 : zs_in x3.toInt 0 6) (hl_x1 : x2.toInt = 6 * x1.toInt) {c : Int} (hc : x3.toInt = c + 0) : zs_ok (BX0_tickleByNets_7 σ 59 x1 x2 x3) (fun r => zs_sum (fun v => ((zs_C σ0 v.1 ∧ zs_in (v.2).toInt 1 6)) ∧ v.2.toInt = c + 1) (fun v => zs_C σ0 v) r) := by
  unfold BX0_tickleByNets_7
  refine zs_ite (fun c1 => ?_) (fun c1 => ?_)
  · skip
    have r2 := (zs_I_le c1)
    exact zs_some (zs_inr (h_σ))
  · skip
    have r3 := (zs_I_len c1)
    have g4 : zs_in (x3).toInt 0 5 := (zs_ltl 0 5 r3 h_x3 (zs_rdk (q := 59) (k := 1) (z := (0, 6)) h_σ.1 rfl) (by decide))
    have g5 : zs_in ((sn_I σ 59 1)).toInt 1 6 := (zs_ltr 1 6 r3 h_x3 (zs_rdk (q := 59) (k := 1) (z := (0, 6)) h_σ.1 rfl) (by decide))
    refine zs_gd (zs_gin (zs_addI 0 5 h_x2 g4 (by decide)) (by decide)) ?_
    refine zs_lt (Q := fun z => zs_C σ0 z) (zs_wrt h_σ (fun _ => rfl) (fun _ => rfl)) (fun σ_3 hσ_3 => ?_)
    refine zs_lt (Q := fun z => zs_in z.toInt 1 6 ∧ z.toInt = c + 1) ⟨(zs_addI 1 6 g4 zlI_1 (by decide)), (zs_syI 1 hc g4 zlI_1 (by decide) (by decide))⟩ (fun y_5 hy_5 => ?_)
    exact zs_some (zs_inl ⟨⟨hσ_3, hy_5.1⟩, hy_5.2⟩)
theorem zd_118 {σ0 : sn_S} {x1 : Int32} (h_x1 : zs_in x1.toInt 0 0) {x2 : Int32} (h_x2 : zs_in x2.toInt 0 0) (hl_x1 : x2.toInt = 6 * x1.toInt) {s0 : (sn_S × Int32)} (h0 : (zs_C σ0 s0.1 ∧ zs_in (s0.2).toInt 0 6)) : zs_ok (sn_it (LX0_tickleByNets_7 59 x1 x2) 5000 s0) (fun t => zs_C σ0 t) := by
  refine zs_it (I := fun s => (zs_C σ0 s.1 ∧ zs_in (s.2).toInt 0 6)) (m := fun s => 6 - s.2.toInt) (fun s hs => ?_) (fun s hs => ?_) (by exact h0)
  · have h1 := hs.2; unfold zs_in at h1
    omega
  · obtain ⟨b, eb, hb⟩ := zc_681 hs.1 h_x1 h_x2 hs.2 hl_x1 (c := s.2.toInt) (Int.add_zero _).symm
    exact ⟨b, eb, zs_sumw hb (fun v w => ⟨⟨w.1.1, (zs_w w.1.2 (by decide))⟩, by have := w.2; omega⟩) (fun v w => w)⟩
-- BX0_tickleByNets_46
theorem zc_682 {σ0 : sn_S} {σ : sn_S} (h_σ : zs_C σ0 σ) {x2 : Int32} (h_x2 : zs_in x2.toInt 0 0) {t0 : Int32} (h_t0 : zs_in t0.toInt 0 0) : zs_ok (BX0_tickleByNets_46 σ 59 x2 t0) (fun r => zs_C σ0 r) := by
  unfold BX0_tickleByNets_46
  obtain rfl : x2 = (0 : Int32) := zs_eqv h_x2 (by decide)
  obtain rfl : t0 = (0 : Int32) := zs_eqv h_t0 (by decide)
  refine zs_ite (fun c1 => ?_) (fun c1 => ?_)
  · skip
    have r2 := (zs_I_eq c1)
    exact zs_some h_σ
  · skip
    have r3 := (zs_I_eqn c1)
    exact (zs_botne r3 h_t0 zlI_0 (by decide)).elim
-- BX0_tickleByNets_30
theorem zc_683 {σ0 : sn_S} {σ : sn_S} (h_σ : zs_C σ0 σ) {x1 : Int32} (h_x1 : zs_in x1.toInt 0 0) {x2 : Int32} (h_x2 : zs_in x2.toInt 0 0) (hl_x1 : x2.toInt = 6 * x1.toInt) : zs_ok (BX0_tickleByNets_30 σ 59 x1 x2) (fun r => zs_C σ0 r) := by
  unfold BX0_tickleByNets_30
  refine zs_ite (fun c1 => ?_) (fun c1 => ?_)
  · skip
    have r2 := (zs_I_eq c1)
    obtain ⟨ret, er, hr⟩ := zc_682 h_σ h_x2 zlI_0
    refine ⟨ret, er, ?_⟩
    exact hr
  · skip
    have r3 := (zs_I_eqn c1)
    exact (zs_botne r3 h_x1 zlI_0 (by decide)).elim
-- fX0_tickleByNets
theorem zc_684 {σ0 : sn_S} {σ : sn_S} (h_σ : zs_C σ0 σ) {x1 : Int32} (h_x1 : zs_in x1.toInt 0 0) : zs_ok (fX0_tickleByNets σ 59 x1) (fun r => zs_C σ0 r) := by
  unfold fX0_tickleByNets
  obtain rfl : x1 = (0 : Int32) := zs_eqv h_x1 (by decide)
  refine zs_lt (Q := fun z => zs_in z.toInt 0 0 ∧ z = ((6 : Int32) * (0 : Int32))) ⟨(zs_mulI 0 0 zlI_6 h_x1 (by decide)), rfl⟩ (fun y_1 hy_1 => ?_)
  refine zs_bd_ (zd_118 h_x1 hy_1.1 (zs_linv hy_1.2 zlI_6 h_x1 (by decide)) (s0 := (σ, (0 : Int32))) ⟨h_σ, (zs_w zlI_0 (by decide))⟩) (fun t_3 pt_3 => ?_)
  obtain ⟨ret, er, hr⟩ := zc_683 pt_3 h_x1 hy_1.1 (zs_linv hy_1.2 zlI_6 h_x1 (by decide))
  refine ⟨ret, er, ?_⟩
  exact hr
-- fX0_cameAt
theorem zc_685 {σ0 : sn_S} {σ : sn_S} (h_σ : zs_C σ0 σ) {x1 : Int32} (h_x1 : zs_in x1.toInt 0 5) {x2 : Int32} (h_x2 : zs_in x2.toInt 0 0) : zs_ok (fX0_cameAt σ 59 x1 x2) (fun r => True) := by
  unfold fX0_cameAt
  obtain rfl : x2 = (0 : Int32) := zs_eqv h_x2 (by decide)
  refine zs_gd (zs_gin (zs_addI 0 5 (zs_mulI 0 0 zlI_6 h_x2 (by decide)) h_x1 (by decide)) (by decide)) ?_
  exact zs_some trivial
-- BX0_comesTo_19
theorem zc_686 {σ0 : sn_S} {σ : sn_S} (h_σ : zs_C σ0 σ) {x1 : Int32} (h_x1 : zs_in x1.toInt 0 5) {x2 : Int32} (h_x2 : zs_in x2.toInt 0 0) {t0 : Int32} (h_t0 : zs_in t0.toInt 0 0) : zs_ok (BX0_comesTo_19 σ 59 x1 x2 t0) (fun r => True) := by
  unfold BX0_comesTo_19
  obtain rfl : x2 = (0 : Int32) := zs_eqv h_x2 (by decide)
  obtain rfl : t0 = (0 : Int32) := zs_eqv h_t0 (by decide)
  refine zs_gd (zs_gin h_x1 (by decide)) ?_
  refine zs_gd (zs_gin h_x2 (by decide)) ?_
  refine zs_bd_ (zc_685 h_σ h_x1 h_x2) (fun t_3 pt_3 => ?_)
  exact zs_some trivial
-- BX0_comesTo_19
theorem zc_687 {σ0 : sn_S} {σ : sn_S} (h_σ : zs_C σ0 σ) {x1 : Int32} (h_x1 : zs_in x1.toInt 0 5) {x2 : Int32} (h_x2 : zs_in x2.toInt 0 0) {t0 : Int32} (h_t0 : zs_in t0.toInt 40 40) : zs_ok (BX0_comesTo_19 σ 59 x1 x2 t0) (fun r => True) := by
  unfold BX0_comesTo_19
  obtain rfl : x2 = (0 : Int32) := zs_eqv h_x2 (by decide)
  obtain rfl : t0 = (40 : Int32) := zs_eqv h_t0 (by decide)
  refine zs_gd (zs_gin h_x1 (by decide)) ?_
  refine zs_gd (zs_gin h_x2 (by decide)) ?_
  refine zs_bd_ (zc_685 h_σ h_x1 h_x2) (fun t_3 pt_3 => ?_)
  exact zs_some trivial
-- fX0_comesTo
theorem zc_688 {σ0 : sn_S} {σ : sn_S} (h_σ : zs_C σ0 σ) {x1 : Int32} (h_x1 : zs_in x1.toInt 0 5) {x2 : Int32} (h_x2 : zs_in x2.toInt 0 0) : zs_ok (fX0_comesTo σ 59 x1 x2) (fun r => True) := by
  unfold fX0_comesTo
  obtain rfl : x2 = (0 : Int32) := zs_eqv h_x2 (by decide)
  refine zs_gd (zs_gin h_x1 (by decide)) ?_
  refine zs_bd_ (zc_334 h_x2) (fun t_2 pt_2 => ?_)
  refine zs_ite (fun c1 => ?_) (fun c1 => ?_)
  · skip
    have r2 := (zs_I_eq c1)
    have g3 : zs_in (t_2).toInt 0 0 := (zs_eql 0 0 r2 pt_2 zlI_0 (by decide))
    obtain ⟨ret, er, hr⟩ := zc_686 h_σ h_x1 h_x2 zlI_0
    refine ⟨ret, er, ?_⟩
    exact hr
  · skip
    have r4 := (zs_I_eqn c1)
    have g5 : zs_in (t_2).toInt 1 1 := (zs_nel 1 1 r4 pt_2 zlI_0 (by decide))
    obtain ⟨ret, er, hr⟩ := zc_687 h_σ h_x1 h_x2 zlI_40
    refine ⟨ret, er, ?_⟩
    exact hr
-- BX0_liveMinute_98
theorem zc_689 {σ0 : sn_S} {σ : sn_S} (h_σ : zs_C σ0 σ) {x1 : Int32} (h_x1 : zs_in x1.toInt 0 0) {x2 : Int32} (h_x2 : zs_in x2.toInt 0 0) {x3 : Int32} {x4 : Int32} (h_x4 : zs_in x4.toInt 0 5) {x5 : Int32} (h_x5 : zs_in x5.toInt (-2147483648) 2147483646) (hl_x1 : x2.toInt = 6 * x1.toInt) {c : Int} (hc : x4.toInt = c + 0) : zs_ok (BX0_liveMinute_98 σ 59 x1 x2 x3 x4 x5) (fun r => zs_sum (fun v => ((zs_C σ0 v.1 ∧ (True ∧ zs_in (v.2.2).toInt 1 6))) ∧ v.2.2.toInt = c + 1) (fun v => False) r) := by
  unfold BX0_liveMinute_98
  refine zs_gd (zs_gin (zs_addI 0 5 h_x2 h_x4 (by decide)) (by decide)) ?_
  refine zs_lt (Q := fun z => zs_C σ0 z) (zs_wrt h_σ (fun _ => rfl) (fun _ => rfl)) (fun σ_2 hσ_2 => ?_)
  refine zs_lt (Q := fun z => zs_in z.toInt 1 6 ∧ z.toInt = c + 1) ⟨(zs_addI 1 6 h_x4 zlI_1 (by decide)), (zs_syI 1 hc h_x4 zlI_1 (by decide) (by decide))⟩ (fun y_4 hy_4 => ?_)
  exact zs_some (zs_inl ⟨⟨hσ_2, ⟨trivial, hy_4.1⟩⟩, hy_4.2⟩)
-- BX0_liveMinute_98
theorem zc_690 {σ0 : sn_S} {σ : sn_S} (h_σ : zs_C σ0 σ) {x1 : Int32} (h_x1 : zs_in x1.toInt 0 0) {x2 : Int32} (h_x2 : zs_in x2.toInt 0 0) {x3 : Int32} {x4 : Int32} (h_x4 : zs_in x4.toInt 0 5) {x5 : Int32} (h_x5 : zs_in x5.toInt 0 0) (hl_x1 : x2.toInt = 6 * x1.toInt) {c : Int} (hc : x4.toInt = c + 0) : zs_ok (BX0_liveMinute_98 σ 59 x1 x2 x3 x4 x5) (fun r => zs_sum (fun v => ((zs_C σ0 v.1 ∧ (True ∧ zs_in (v.2.2).toInt 1 6))) ∧ v.2.2.toInt = c + 1) (fun v => False) r) := by
  unfold BX0_liveMinute_98
  obtain rfl : x5 = (0 : Int32) := zs_eqv h_x5 (by decide)
  refine zs_gd (zs_gin (zs_addI 0 5 h_x2 h_x4 (by decide)) (by decide)) ?_
  refine zs_lt (Q := fun z => zs_C σ0 z) (zs_wrt h_σ (fun _ => rfl) (fun _ => rfl)) (fun σ_2 hσ_2 => ?_)
  refine zs_lt (Q := fun z => zs_in z.toInt 1 6 ∧ z.toInt = c + 1) ⟨(zs_addI 1 6 h_x4 zlI_1 (by decide)), (zs_syI 1 hc h_x4 zlI_1 (by decide) (by decide))⟩ (fun y_4 hy_4 => ?_)
  exact zs_some (zs_inl ⟨⟨hσ_2, ⟨trivial, hy_4.1⟩⟩, hy_4.2⟩)
-- BX0_liveMinute_98
theorem zc_691 {σ0 : sn_S} {σ : sn_S} (h_σ : zs_C σ0 σ) {x1 : Int32} (h_x1 : zs_in x1.toInt 0 0) {x2 : Int32} (h_x2 : zs_in x2.toInt 0 0) {x3 : Int32} {x4 : Int32} (h_x4 : zs_in x4.toInt 0 5) {x5 : Int32} (hl_x1 : x2.toInt = 6 * x1.toInt) {c : Int} (hc : x4.toInt = c + 0) : zs_ok (BX0_liveMinute_98 σ 59 x1 x2 x3 x4 x5) (fun r => zs_sum (fun v => ((zs_C σ0 v.1 ∧ (True ∧ zs_in (v.2.2).toInt 1 6))) ∧ v.2.2.toInt = c + 1) (fun v => False) r) := by
  unfold BX0_liveMinute_98
  refine zs_gd (zs_gin (zs_addI 0 5 h_x2 h_x4 (by decide)) (by decide)) ?_
  refine zs_lt (Q := fun z => zs_C σ0 z) (zs_wrt h_σ (fun _ => rfl) (fun _ => rfl)) (fun σ_2 hσ_2 => ?_)
  refine zs_lt (Q := fun z => zs_in z.toInt 1 6 ∧ z.toInt = c + 1) ⟨(zs_addI 1 6 h_x4 zlI_1 (by decide)), (zs_syI 1 hc h_x4 zlI_1 (by decide) (by decide))⟩ (fun y_4 hy_4 => ?_)
  exact zs_some (zs_inl ⟨⟨hσ_2, ⟨trivial, hy_4.1⟩⟩, hy_4.2⟩)
-- BX0_liveMinute_46
theorem zc_692 {σ0 : sn_S} {σ : sn_S} (h_σ : zs_C σ0 σ) {x1 : Int32} (h_x1 : zs_in x1.toInt 0 0) {x2 : Int32} (h_x2 : zs_in x2.toInt 0 0) {x3 : Int32} {x4 : Int32} (h_x4 : zs_in x4.toInt 0 5) {t0 : Int32} {t1 : Int32} (h_t1 : zs_in t1.toInt 0 0) (hl_x1 : x2.toInt = 6 * x1.toInt) {c : Int} (hc : x4.toInt = c + 0) : zs_ok (BX0_liveMinute_46 σ 59 x1 x2 x3 x4 t0 t1) (fun r => zs_sum (fun v => ((zs_C σ0 v.1 ∧ (True ∧ zs_in (v.2.2).toInt 1 6))) ∧ v.2.2.toInt = c + 1) (fun v => False) r) := by
  unfold BX0_liveMinute_46
  obtain rfl : t1 = (0 : Int32) := zs_eqv h_t1 (by decide)
  refine zs_lt (Q := fun z => True) trivial (fun y_1 hy_1 => ?_)
  refine zs_gd (zs_gin h_x4 (by decide)) ?_
  refine zs_ite (fun c1 => ?_) (fun c1 => ?_)
  · skip
    have r2 := (zs_I_lt c1)
    have g3 : zs_in (y_1).toInt (-2147483648) 2147483646 := (zs_ltl (-2147483648) 2147483646 r2 (zs_topI _) (zs_topI _) (by decide))
    have g4 : zs_in ((sn_I σ (59 + 3) x4.toNatClampNeg)).toInt (-2147483647) 2147483647 := (zs_ltr (-2147483647) 2147483647 r2 (zs_topI _) (zs_topI _) (by decide))
    obtain ⟨ret, er, hr⟩ := zc_689 h_σ h_x1 h_x2 h_x4 g3 hl_x1 hc
    refine ⟨ret, er, ?_⟩
    exact (zs_sumw hr (fun v w => ⟨w.1, w.2⟩) (fun v w => w.elim))
  · skip
    have r5 := (zs_I_ltn c1)
    refine zs_gd (zs_gin h_x4 (by decide)) ?_
    refine zs_bd_ (zc_334 h_x1) (fun t_6 pt_6 => ?_)
    refine zs_ite (fun c6 => ?_) (fun c6 => ?_)
    · skip
      have r7 := (zs_I_eq c6)
      have g8 : zs_in (t_6).toInt 0 0 := (zs_eql 0 0 r7 pt_6 zlI_0 (by decide))
      refine zs_lt (Q := fun z => True) trivial (fun y_9 hy_9 => ?_)
      refine zs_gd (zs_gin h_x4 (by decide)) ?_
      refine zs_gd (zs_gin h_x4 (by decide)) ?_
      refine zs_lt (Q := fun z => zs_C σ0 z) (zs_wru (z := (0, 1073741823)) h_σ (fun _ => rfl) (zs_or 30 1073741823 (zs_rdu (q := 69) (z := (0, 1073741823)) h_σ.1 (fun _ => rfl)) (zs_cases h_x1 (fun z => zs_in ((1 : Int32) <<< (z &&& 31)).toInt 1 1) (by decide +kernel)) (by decide)) (by decide) (fun _ => rfl)) (fun σ_13 hσ_13 => ?_)
      obtain ⟨ret, er, hr⟩ := zc_690 hσ_13 h_x1 h_x2 h_x4 zlI_0 hl_x1 hc
      refine ⟨ret, er, ?_⟩
      exact (zs_sumw hr (fun v w => ⟨w.1, w.2⟩) (fun v w => w.elim))
    · skip
      have r9 := (zs_I_eqn c6)
      have g10 : zs_in (t_6).toInt 1 1 := (zs_nel 1 1 r9 pt_6 zlI_0 (by decide))
      obtain ⟨ret, er, hr⟩ := zc_691 h_σ h_x1 h_x2 h_x4 hl_x1 hc
      refine ⟨ret, er, ?_⟩
      exact (zs_sumw hr (fun v w => ⟨w.1, w.2⟩) (fun v w => w.elim))
-- BX0_liveMinute_10
theorem zc_693 {σ0 : sn_S} {σ : sn_S} (h_σ : zs_C σ0 σ) {x1 : Int32} (h_x1 : zs_in x1.toInt 0 0) {x2 : Int32} (h_x2 : zs_in x2.toInt 0 0) {x3 : Int32} {x4 : Int32} (h_x4 : zs_in x4.toInt 0 6) (hl_x1 : x2.toInt = 6 * x1.toInt) {c : Int} (hc : x4.toInt = c + 0) : zs_ok (BX0_liveMinute_10 σ 59 x1 x2 x3 x4) (fun r => zs_sum (fun v => ((zs_C σ0 v.1 ∧ (True ∧ zs_in (v.2.2).toInt 1 6))) ∧ v.2.2.toInt = c + 1) (fun v => (zs_C σ0 v.1 ∧ True)) r) := by
  unfold BX0_liveMinute_10
  refine zs_ite (fun c1 => ?_) (fun c1 => ?_)
  · skip
    have r2 := (zs_I_le c1)
    exact zs_some (zs_inr (⟨h_σ, trivial⟩))
  · skip
    have r3 := (zs_I_len c1)
    have g4 : zs_in (x4).toInt 0 5 := (zs_ltl 0 5 r3 h_x4 (zs_rdk (q := 59) (k := 1) (z := (0, 6)) h_σ.1 rfl) (by decide))
    have g5 : zs_in ((sn_I σ 59 1)).toInt 1 6 := (zs_ltr 1 6 r3 h_x4 (zs_rdk (q := 59) (k := 1) (z := (0, 6)) h_σ.1 rfl) (by decide))
    refine zs_bd_ (zc_688 h_σ g4 h_x1) (fun t_2 pt_2 => ?_)
    refine zs_ite (fun c6 => ?_) (fun c6 => ?_)
    · skip
      have r7 := (zs_I_eq c6)
      obtain ⟨ret, er, hr⟩ := zc_692 h_σ h_x1 h_x2 g4 zlI_0 hl_x1 hc
      refine ⟨ret, er, ?_⟩
      exact (zs_sumw hr (fun v w => ⟨w.1, w.2⟩) (fun v w => w.elim))
    · skip
      have r8 := (zs_I_eqn c6)
      exact (zs_botne r8 h_x1 zlI_0 (by decide)).elim
theorem zd_119 {σ0 : sn_S} {x1 : Int32} (h_x1 : zs_in x1.toInt 0 0) {x2 : Int32} (h_x2 : zs_in x2.toInt 0 0) (hl_x1 : x2.toInt = 6 * x1.toInt) {s0 : (sn_S × (Int32 × Int32))} (h0 : (zs_C σ0 s0.1 ∧ (True ∧ zs_in (s0.2.2).toInt 0 6))) : zs_ok (sn_it (LX0_liveMinute_10 59 x1 x2) 5000 s0) (fun t => (zs_C σ0 t.1 ∧ True)) := by
  refine zs_it (I := fun s => (zs_C σ0 s.1 ∧ (True ∧ zs_in (s.2.2).toInt 0 6))) (m := fun s => 6 - s.2.2.toInt) (fun s hs => ?_) (fun s hs => ?_) (by exact h0)
  · have h1 := hs.2.2; unfold zs_in at h1
    omega
  · obtain ⟨b, eb, hb⟩ := zc_693 hs.1 h_x1 h_x2 hs.2.2 hl_x1 (c := s.2.2.toInt) (Int.add_zero _).symm
    exact ⟨b, eb, zs_sumw hb (fun v w => ⟨⟨w.1.1, ⟨w.1.2.1, (zs_w w.1.2.2 (by decide))⟩⟩, by have := w.2; omega⟩) (fun v w => w)⟩
-- BX0_liveMinute_115
theorem zc_694 {σ0 : sn_S} {σ : sn_S} (h_σ : zs_C σ0 σ) {x1 : Int32} (h_x1 : zs_in x1.toInt 0 0) {x3 : Int32} : zs_ok (BX0_liveMinute_115 σ 59 x1 x3) (fun r => zs_C σ0 r) := by
  unfold BX0_liveMinute_115
  obtain rfl : x1 = (0 : Int32) := zs_eqv h_x1 (by decide)
  refine zs_gd (zs_gin h_x1 (by decide)) ?_
  refine zs_lt (Q := fun z => zs_C σ0 z) (zs_wrt h_σ (fun _ => rfl) (fun _ => rfl)) (fun σ_2 hσ_2 => ?_)
  exact zs_some hσ_2
-- fX0_liveMinute
theorem zc_695 {σ0 : sn_S} {σ : sn_S} (h_σ : zs_C σ0 σ) {x1 : Int32} (h_x1 : zs_in x1.toInt 0 0) : zs_ok (fX0_liveMinute σ 59 x1) (fun r => zs_C σ0 r) := by
  unfold fX0_liveMinute
  obtain rfl : x1 = (0 : Int32) := zs_eqv h_x1 (by decide)
  refine zs_lt (Q := fun z => zs_in z.toInt 0 0 ∧ z = ((6 : Int32) * (0 : Int32))) ⟨(zs_mulI 0 0 zlI_6 h_x1 (by decide)), rfl⟩ (fun y_1 hy_1 => ?_)
  refine zs_bd_ (zd_119 h_x1 hy_1.1 (zs_linv hy_1.2 zlI_6 h_x1 (by decide)) (s0 := (σ, ((0 : Int32), (0 : Int32)))) ⟨h_σ, ⟨trivial, (zs_w zlI_0 (by decide))⟩⟩) (fun t_3 pt_3 => ?_)
  obtain ⟨ret, er, hr⟩ := zc_694 pt_3.1 h_x1
  refine ⟨ret, er, ?_⟩
  exact hr
-- BX0_live_31
theorem zc_696 {σ0 : sn_S} {σ : sn_S} (h_σ : zs_C σ0 σ) {x2 : Int32} (h_x2 : zs_in x2.toInt 1 1) {x3 : Int32} (h_x3 : zs_in x3.toInt 0 1) {c : Int} (hc : x3.toInt = c + 0) : zs_ok (BX0_live_31 σ 59 x2 x3) (fun r => zs_sum (fun v => ((zs_C σ0 v.1 ∧ zs_in (v.2).toInt 1 1)) ∧ v.2.toInt = c + 1) (fun v => zs_C σ0 v) r) := by
  unfold BX0_live_31
  obtain rfl : x2 = (1 : Int32) := zs_eqv h_x2 (by decide)
  refine zs_ite (fun c1 => ?_) (fun c1 => ?_)
  · skip
    have r2 := (zs_I_le c1)
    have g3 : zs_in (x3).toInt 1 1 := (zs_ler 1 1 r2 h_x2 h_x3 (by decide))
    exact zs_some (zs_inr (h_σ))
  · skip
    have r4 := (zs_I_len c1)
    have g5 : zs_in (x3).toInt 0 0 := (zs_ltl 0 0 r4 h_x3 h_x2 (by decide))
    refine zs_ite (fun c6 => ?_) (fun c6 => ?_)
    · skip
      have r7 := (zs_I_le c6)
      have g8 : zs_in ((sn_I σ 59 0)).toInt 0 0 := (zs_lel 0 0 r7 (zs_rdk (q := 59) (k := 0) (z := (0, 30)) h_σ.1 rfl) g5 (by decide))
      exact zs_some (zs_inr (h_σ))
    · skip
      have r9 := (zs_I_len c6)
      have g10 : zs_in ((sn_I σ 59 0)).toInt 1 30 := (zs_ltr 1 30 r9 g5 (zs_rdk (q := 59) (k := 0) (z := (0, 30)) h_σ.1 rfl) (by decide))
      refine zs_bd_ (zc_684 h_σ g5) (fun t_3 pt_3 => ?_)
      refine zs_bd_ (zc_695 pt_3 g5) (fun t_5 pt_5 => ?_)
      refine zs_lt (Q := fun z => zs_in z.toInt 1 1 ∧ z.toInt = c + 1) ⟨(zs_addI 1 1 g5 zlI_1 (by decide)), (zs_syI 1 hc g5 zlI_1 (by decide) (by decide))⟩ (fun y_7 hy_7 => ?_)
      exact zs_some (zs_inl ⟨⟨pt_5, hy_7.1⟩, hy_7.2⟩)
theorem zd_120 {σ0 : sn_S} {x2 : Int32} (h_x2 : zs_in x2.toInt 1 1) {s0 : (sn_S × Int32)} (h0 : (zs_C σ0 s0.1 ∧ zs_in (s0.2).toInt 0 1)) : zs_ok (sn_it (LX0_live_31 59 x2) 5000 s0) (fun t => zs_C σ0 t) := by
  refine zs_it (I := fun s => (zs_C σ0 s.1 ∧ zs_in (s.2).toInt 0 1)) (m := fun s => 1 - s.2.toInt) (fun s hs => ?_) (fun s hs => ?_) (by exact h0)
  · have h1 := hs.2; unfold zs_in at h1
    omega
  · obtain ⟨b, eb, hb⟩ := zc_696 hs.1 h_x2 hs.2 (c := s.2.toInt) (Int.add_zero _).symm
    exact ⟨b, eb, zs_sumw hb (fun v w => ⟨⟨w.1.1, (zs_w w.1.2 (by decide))⟩, by have := w.2; omega⟩) (fun v w => w)⟩
-- BX0_live_60
theorem zc_697 {σ0 : sn_S} {σ : sn_S} (h_σ : zs_C σ0 σ) : zs_ok (BX0_live_60 σ 59) (fun r => zs_C σ0 r) := by
  unfold BX0_live_60
  exact zs_some h_σ
-- BX0_live_29
theorem zc_698 {σ0 : sn_S} {σ : sn_S} (h_σ : zs_C σ0 σ) {x1 : Int32} (h_x1 : zs_in x1.toInt 0 0) {x2 : Int32} (h_x2 : zs_in x2.toInt 1 1) : zs_ok (BX0_live_29 σ 59 x1 x2) (fun r => zs_C σ0 r) := by
  unfold BX0_live_29
  obtain rfl : x1 = (0 : Int32) := zs_eqv h_x1 (by decide)
  obtain rfl : x2 = (1 : Int32) := zs_eqv h_x2 (by decide)
  refine zs_bd_ (zd_120 h_x2 (s0 := (σ, (0 : Int32))) ⟨h_σ, (zs_w h_x1 (by decide))⟩) (fun t_1 pt_1 => ?_)
  obtain ⟨ret, er, hr⟩ := zc_697 pt_1
  refine ⟨ret, er, ?_⟩
  exact hr
-- fX0_live
theorem zc_699 {σ0 : sn_S} {σ : sn_S} (h_σ : zs_C σ0 σ) {x1 : Int32} (h_x1 : zs_in x1.toInt 0 0) {x2 : Int32} (h_x2 : zs_in x2.toInt 1 1) : zs_ok (fX0_live σ 59 x1 x2) (fun r => zs_C σ0 r) := by
  unfold fX0_live
  obtain rfl : x1 = (0 : Int32) := zs_eqv h_x1 (by decide)
  obtain rfl : x2 = (1 : Int32) := zs_eqv h_x2 (by decide)
  refine zs_bd_ (zd_117 h_x1 h_x2 (s0 := (σ, (0 : Int32))) ⟨h_σ, (zs_w zlI_0 (by decide))⟩) (fun t_1 pt_1 => ?_)
  obtain ⟨ret, er, hr⟩ := zc_698 pt_1 h_x1 h_x2
  refine ⟨ret, er, ?_⟩
  exact hr
-- fX4_worth
theorem zc_700 {σ0 : sn_S} {σ : sn_S} (h_σ : zs_C σ0 σ) {x2 : Int32} (h_x2 : zs_in x2.toInt 0 0) {x3 : Int32} (h_x3 : zs_in x3.toInt 0 5) {x4 : Int32} (h_x4 : zs_in x4.toInt 1 1) : zs_ok (fX4_worth σ 1 x2 x3 x4) (fun r => (zs_in (r.1).toInt 0 1 ∧ zs_C σ0 r.2)) := by
  unfold fX4_worth
  obtain rfl : x2 = (0 : Int32) := zs_eqv h_x2 (by decide)
  obtain rfl : x4 = (1 : Int32) := zs_eqv h_x4 (by decide)
  refine zs_ite (fun c1 => ?_) (fun c1 => ?_)
  · skip
    have r2 := (zs_I_eq c1)
    refine zs_gd (zs_gin h_x3 (by decide)) ?_
    refine zs_ite (fun c3 => ?_) (fun c3 => ?_)
    · skip
      have r4 := (zs_I_eq c3)
      have g5 : zs_in ((sn_I σ (59 + 10) x3.toNatClampNeg)).toInt 0 0 := (zs_eql 0 0 r4 (zs_rdu (q := 69) (z := (0, 1073741823)) h_σ.1 (fun _ => rfl)) zlI_0 (by decide))
      exact zs_some ⟨(zs_w zlL_0 (by decide)), h_σ⟩
    · skip
      have r6 := (zs_I_eqn c3)
      have g7 : zs_in ((sn_I σ (59 + 10) x3.toNatClampNeg)).toInt 1 1073741823 := (zs_nel 1 1073741823 r6 (zs_rdu (q := 69) (z := (0, 1073741823)) h_σ.1 (fun _ => rfl)) zlI_0 (by decide))
      exact zs_some ⟨(zs_w zlL_1 (by decide)), h_σ⟩
  · skip
    have r8 := (zs_I_eqn c1)
    exact (zs_botne r8 h_x2 zlI_0 (by decide)).elim
-- BX4_reckon_139
theorem zc_701 {σ0 : sn_S} {σ : sn_S} (h_σ : zs_C σ0 σ) {x3 : Int32} (h_x3 : zs_in x3.toInt 0 0) {x4 : Int32} (h_x4 : zs_in x4.toInt 0 5) {x6 : Int32} (h_x6 : zs_in x6.toInt 1 1) {x7 : Int32} (h_x7 : zs_in x7.toInt 0 0) {t1 : Int32} (h_t1 : zs_in t1.toInt 0 0) {t2 : Int32} (h_t2 : zs_in t2.toInt 1 1) {c : Int} (hc : x7.toInt = c + 0) : zs_ok (BX4_reckon_139 σ 1 27 x3 x4 x6 x7 t1 t2) (fun r => zs_sum (fun v => ((zs_C σ0 v.1 ∧ zs_in (v.2).toInt 1 1)) ∧ v.2.toInt = c + 1) (fun v => False) r) := by
  unfold BX4_reckon_139
  obtain rfl : x3 = (0 : Int32) := zs_eqv h_x3 (by decide)
  obtain rfl : x6 = (1 : Int32) := zs_eqv h_x6 (by decide)
  obtain rfl : t1 = (0 : Int32) := zs_eqv h_t1 (by decide)
  obtain rfl : t2 = (1 : Int32) := zs_eqv h_t2 (by decide)
  refine zs_bd_ (zc_699 h_σ h_t1 h_t2) (fun t_1 pt_1 => ?_)
  refine zs_bd_ (zo_bc 0 0 (by decide) h_x7) (fun t_3 pt_3 => ?_)
  refine zs_gd (zs_gin pt_3 (by decide)) ?_
  refine zs_bd_ (zc_700 pt_1 h_x3 h_x4 h_x6) (fun t_6 pt_6 => ?_)
  refine zs_lt (Q := fun z => zs_C σ0 z) (zs_wrL pt_6.2 rfl) (fun σ_8 hσ_8 => ?_)
  refine zs_lt (Q := fun z => zs_in z.toInt 1 1 ∧ z.toInt = c + 1) ⟨(zs_addI 1 1 h_x7 zlI_1 (by decide)), (zs_syI 1 hc h_x7 zlI_1 (by decide) (by decide))⟩ (fun y_10 hy_10 => ?_)
  exact zs_some (zs_inl ⟨⟨hσ_8, hy_10.1⟩, hy_10.2⟩)
-- BX4_reckon_119
theorem zc_702 {σ0 : sn_S} {σ : sn_S} (h_σ : zs_C σ0 σ) {x3 : Int32} (h_x3 : zs_in x3.toInt 0 0) {x4 : Int32} (h_x4 : zs_in x4.toInt 0 5) {x6 : Int32} (h_x6 : zs_in x6.toInt 1 1) {x7 : Int32} (h_x7 : zs_in x7.toInt 0 0) {x8 : Int32} (h_x8 : zs_in x8.toInt 0 0) {c : Int} (hc : x7.toInt = c + 0) : zs_ok (BX4_reckon_119 σ 1 27 x3 x4 x6 x7 x8) (fun r => zs_sum (fun v => ((zs_C σ0 v.1 ∧ zs_in (v.2).toInt 1 1)) ∧ v.2.toInt = c + 1) (fun v => False) r) := by
  unfold BX4_reckon_119
  obtain rfl : x3 = (0 : Int32) := zs_eqv h_x3 (by decide)
  obtain rfl : x6 = (1 : Int32) := zs_eqv h_x6 (by decide)
  obtain rfl : x8 = (0 : Int32) := zs_eqv h_x8 (by decide)
  refine zs_ite (fun c1 => ?_) (fun c1 => ?_)
  · skip
    have r2 := (zs_I_eq c1)
    exact (zs_botr r2 h_x3 zlI_2 (by decide)).elim
  · skip
    have r3 := (zs_I_eqn c1)
    obtain ⟨ret, er, hr⟩ := zc_701 h_σ h_x3 h_x4 h_x6 h_x7 h_x8 h_x6 hc
    refine ⟨ret, er, ?_⟩
    exact (zs_sumw hr (fun v w => ⟨w.1, w.2⟩) (fun v w => w.elim))
-- BX4_reckon_62
theorem zc_703 {σ0 : sn_S} {σ : sn_S} (h_σ : zs_C σ0 σ) {x3 : Int32} (h_x3 : zs_in x3.toInt 0 0) {x4 : Int32} (h_x4 : zs_in x4.toInt 0 5) {x6 : Int32} (h_x6 : zs_in x6.toInt 1 1) {x7 : Int32} (h_x7 : zs_in x7.toInt 0 0) {t0 : Int32} (h_t0 : zs_in t0.toInt 0 0) {c : Int} (hc : x7.toInt = c + 0) : zs_ok (BX4_reckon_62 σ 1 27 x3 x4 x6 x7 t0) (fun r => zs_sum (fun v => ((zs_C σ0 v.1 ∧ zs_in (v.2).toInt 1 1)) ∧ v.2.toInt = c + 1) (fun v => False) r) := by
  unfold BX4_reckon_62
  obtain rfl : x3 = (0 : Int32) := zs_eqv h_x3 (by decide)
  obtain rfl : x6 = (1 : Int32) := zs_eqv h_x6 (by decide)
  obtain rfl : t0 = (0 : Int32) := zs_eqv h_t0 (by decide)
  refine zs_bd_ (zd_116 h_x3 h_x4 h_x6 h_x7 h_t0 (s0 := (σ, (0 : Int32))) ⟨h_σ, (zs_w h_t0 (by decide))⟩) (fun t_1 pt_1 => ?_)
  obtain ⟨ret, er, hr⟩ := zc_702 pt_1 h_x3 h_x4 h_x6 h_x7 h_t0 hc
  refine ⟨ret, er, ?_⟩
  exact (zs_sumw hr (fun v w => ⟨w.1, w.2⟩) (fun v w => w.elim))
-- fX8_hasBit
theorem zc_704 {x0 : Int32} (h_x0 : zs_in x0.toInt 1 1) {x1 : Int32} (h_x1 : zs_in x1.toInt 0 0) : zs_ok (fX8_hasBit x0 x1) (fun r => zs_in (r).toInt 0 1) := by
  unfold fX8_hasBit
  obtain rfl : x0 = (1 : Int32) := zs_eqv h_x0 (by decide)
  obtain rfl : x1 = (0 : Int32) := zs_eqv h_x1 (by decide)
  refine zs_ite (fun c1 => ?_) (fun c1 => ?_)
  · skip
    have r2 := (zs_I_eq c1)
    have g3 : zs_in ((((1 : Int32) >>> ((0 : Int32) &&& 31)) &&& (1 : Int32))).toInt 1 1 := (zs_eql 1 1 r2 (zs_and zlI_1 (by decide)) zlI_1 (by decide))
    refine zs_gd (zs_b01 zlI_1 (by decide)) ?_
    exact zs_some (zs_w zlI_1 (by decide))
  · skip
    have r4 := (zs_I_eqn c1)
    have g5 : zs_in ((((1 : Int32) >>> ((0 : Int32) &&& 31)) &&& (1 : Int32))).toInt 0 0 := (zs_neh 0 0 r4 (zs_and zlI_1 (by decide)) zlI_1 (by decide))
    refine zs_gd (zs_b01 zlI_0 (by decide)) ?_
    exact zs_some (zs_w zlI_0 (by decide))
-- BX4_reckon_111
theorem zc_705 {σ0 : sn_S} {σ : sn_S} (h_σ : zs_C σ0 σ) {x3 : Int32} (h_x3 : zs_in x3.toInt 0 0) {x4 : Int32} (h_x4 : zs_in x4.toInt 0 5) {x6 : Int32} (h_x6 : zs_in x6.toInt 1 1) {x7 : Int32} (h_x7 : zs_in x7.toInt 1 1) {x8 : Int32} (h_x8 : zs_in x8.toInt 0 0) {x9 : Int32} (h_x9 : zs_in x9.toInt 0 0) {t1 : Int32} (h_t1 : zs_in t1.toInt 0 0) {t2 : Int32} {t3 : Int32} (h_t3 : zs_in t3.toInt 0 0) {c : Int} (hc : x9.toInt = c + 0) : zs_ok (BX4_reckon_111 σ 1 27 x3 x4 x6 x7 x8 x9 t1 t2 t3) (fun r => zs_sum (fun v => ((zs_C σ0 v.1 ∧ zs_in (v.2).toInt 1 1)) ∧ v.2.toInt = c + 1) (fun v => False) r) := by
  unfold BX4_reckon_111
  obtain rfl : x3 = (0 : Int32) := zs_eqv h_x3 (by decide)
  obtain rfl : x6 = (1 : Int32) := zs_eqv h_x6 (by decide)
  obtain rfl : x7 = (1 : Int32) := zs_eqv h_x7 (by decide)
  obtain rfl : x8 = (0 : Int32) := zs_eqv h_x8 (by decide)
  obtain rfl : t1 = (0 : Int32) := zs_eqv h_t1 (by decide)
  obtain rfl : t3 = (0 : Int32) := zs_eqv h_t3 (by decide)
  refine zs_gd (zs_gin h_t1 (by decide)) ?_
  refine zs_lt (Q := fun z => zs_C σ0 z) (zs_wrt h_σ (fun _ => rfl) (fun _ => rfl)) (fun σ_2 hσ_2 => ?_)
  refine zs_lt (Q := fun z => zs_in z.toInt 1 1 ∧ z.toInt = c + 1) ⟨(zs_addI 1 1 h_x9 zlI_1 (by decide)), (zs_syI 1 hc h_x9 zlI_1 (by decide) (by decide))⟩ (fun y_4 hy_4 => ?_)
  exact zs_some (zs_inl ⟨⟨hσ_2, hy_4.1⟩, hy_4.2⟩)
-- BX4_reckon_111
theorem zc_706 {σ0 : sn_S} {σ : sn_S} (h_σ : zs_C σ0 σ) {x3 : Int32} (h_x3 : zs_in x3.toInt 0 0) {x4 : Int32} (h_x4 : zs_in x4.toInt 0 5) {x6 : Int32} (h_x6 : zs_in x6.toInt 1 1) {x7 : Int32} (h_x7 : zs_in x7.toInt 1 1) {x8 : Int32} (h_x8 : zs_in x8.toInt 0 0) {x9 : Int32} (h_x9 : zs_in x9.toInt 0 0) {t1 : Int32} (h_t1 : zs_in t1.toInt 0 0) {t2 : Int32} {t3 : Int32} (h_t3 : zs_in t3.toInt 3 3) {c : Int} (hc : x9.toInt = c + 0) : zs_ok (BX4_reckon_111 σ 1 27 x3 x4 x6 x7 x8 x9 t1 t2 t3) (fun r => zs_sum (fun v => ((zs_C σ0 v.1 ∧ zs_in (v.2).toInt 1 1)) ∧ v.2.toInt = c + 1) (fun v => False) r) := by
  unfold BX4_reckon_111
  obtain rfl : x3 = (0 : Int32) := zs_eqv h_x3 (by decide)
  obtain rfl : x6 = (1 : Int32) := zs_eqv h_x6 (by decide)
  obtain rfl : x7 = (1 : Int32) := zs_eqv h_x7 (by decide)
  obtain rfl : x8 = (0 : Int32) := zs_eqv h_x8 (by decide)
  obtain rfl : t1 = (0 : Int32) := zs_eqv h_t1 (by decide)
  obtain rfl : t3 = (3 : Int32) := zs_eqv h_t3 (by decide)
  refine zs_gd (zs_gin h_t1 (by decide)) ?_
  refine zs_lt (Q := fun z => zs_C σ0 z) (zs_wrt h_σ (fun _ => rfl) (fun _ => rfl)) (fun σ_2 hσ_2 => ?_)
  refine zs_lt (Q := fun z => zs_in z.toInt 1 1 ∧ z.toInt = c + 1) ⟨(zs_addI 1 1 h_x9 zlI_1 (by decide)), (zs_syI 1 hc h_x9 zlI_1 (by decide) (by decide))⟩ (fun y_4 hy_4 => ?_)
  exact zs_some (zs_inl ⟨⟨hσ_2, hy_4.1⟩, hy_4.2⟩)
-- BX4_reckon_68
theorem zc_707 {σ0 : sn_S} {σ : sn_S} (h_σ : zs_C σ0 σ) {x3 : Int32} (h_x3 : zs_in x3.toInt 0 0) {x4 : Int32} (h_x4 : zs_in x4.toInt 0 5) {x6 : Int32} (h_x6 : zs_in x6.toInt 1 1) {x7 : Int32} (h_x7 : zs_in x7.toInt 1 1) {x8 : Int32} (h_x8 : zs_in x8.toInt 0 0) {x9 : Int32} (h_x9 : zs_in x9.toInt 0 1) {c : Int} (hc : x9.toInt = c + 0) : zs_ok (BX4_reckon_68 σ 1 27 x3 x4 x6 x7 x8 x9) (fun r => zs_sum (fun v => ((zs_C σ0 v.1 ∧ zs_in (v.2).toInt 1 1)) ∧ v.2.toInt = c + 1) (fun v => zs_C σ0 v) r) := by
  unfold BX4_reckon_68
  obtain rfl : x3 = (0 : Int32) := zs_eqv h_x3 (by decide)
  obtain rfl : x6 = (1 : Int32) := zs_eqv h_x6 (by decide)
  obtain rfl : x7 = (1 : Int32) := zs_eqv h_x7 (by decide)
  obtain rfl : x8 = (0 : Int32) := zs_eqv h_x8 (by decide)
  refine zs_ite (fun c1 => ?_) (fun c1 => ?_)
  · skip
    have r2 := (zs_I_le c1)
    have g3 : zs_in (x9).toInt 1 1 := (zs_ler 1 1 r2 h_x6 h_x9 (by decide))
    exact zs_some (zs_inr (h_σ))
  · skip
    have r4 := (zs_I_len c1)
    have g5 : zs_in (x9).toInt 0 0 := (zs_ltl 0 0 r4 h_x9 h_x6 (by decide))
    refine zs_gd (zs_gin g5 (by decide)) ?_
    refine zs_bd_ (zc_704 h_x7 (zs_subI 0 0 (zs_subI 0 0 h_x6 zlI_1 (by decide)) g5 (by decide))) (fun t_3 pt_3 => ?_)
    refine zs_ite (fun c6 => ?_) (fun c6 => ?_)
    · skip
      have r7 := (zs_I_eq c6)
      have g8 : zs_in (t_3).toInt 0 0 := (zs_eql 0 0 r7 pt_3 zlI_0 (by decide))
      obtain ⟨ret, er, hr⟩ := zc_705 h_σ h_x3 h_x4 h_x6 h_x7 h_x8 g5 g5 zlI_0 hc
      refine ⟨ret, er, ?_⟩
      exact (zs_sumw hr (fun v w => ⟨w.1, w.2⟩) (fun v w => w.elim))
    · skip
      have r9 := (zs_I_eqn c6)
      have g10 : zs_in (t_3).toInt 1 1 := (zs_nel 1 1 r9 pt_3 zlI_0 (by decide))
      obtain ⟨ret, er, hr⟩ := zc_706 h_σ h_x3 h_x4 h_x6 h_x7 h_x8 g5 g5 zlI_3 hc
      refine ⟨ret, er, ?_⟩
      exact (zs_sumw hr (fun v w => ⟨w.1, w.2⟩) (fun v w => w.elim))
theorem zd_121 {σ0 : sn_S} {x3 : Int32} (h_x3 : zs_in x3.toInt 0 0) {x4 : Int32} (h_x4 : zs_in x4.toInt 0 5) {x6 : Int32} (h_x6 : zs_in x6.toInt 1 1) {x7 : Int32} (h_x7 : zs_in x7.toInt 1 1) {x8 : Int32} (h_x8 : zs_in x8.toInt 0 0) {s0 : (sn_S × Int32)} (h0 : (zs_C σ0 s0.1 ∧ zs_in (s0.2).toInt 0 1)) : zs_ok (sn_it (LX4_reckon_68 1 27 x3 x4 x6 x7 x8) 5000 s0) (fun t => zs_C σ0 t) := by
  refine zs_it (I := fun s => (zs_C σ0 s.1 ∧ zs_in (s.2).toInt 0 1)) (m := fun s => 1 - s.2.toInt) (fun s hs => ?_) (fun s hs => ?_) (by exact h0)
  · have h1 := hs.2; unfold zs_in at h1
    omega
  · obtain ⟨b, eb, hb⟩ := zc_707 hs.1 h_x3 h_x4 h_x6 h_x7 h_x8 hs.2 (c := s.2.toInt) (Int.add_zero _).symm
    exact ⟨b, eb, zs_sumw hb (fun v w => ⟨⟨w.1.1, (zs_w w.1.2 (by decide))⟩, by have := w.2; omega⟩) (fun v w => w)⟩
-- BX4_reckon_139
theorem zc_708 {σ0 : sn_S} {σ : sn_S} (h_σ : zs_C σ0 σ) {x3 : Int32} (h_x3 : zs_in x3.toInt 0 0) {x4 : Int32} (h_x4 : zs_in x4.toInt 0 5) {x6 : Int32} (h_x6 : zs_in x6.toInt 1 1) {x7 : Int32} (h_x7 : zs_in x7.toInt 1 1) {t1 : Int32} (h_t1 : zs_in t1.toInt 0 0) {t2 : Int32} (h_t2 : zs_in t2.toInt 1 1) {c : Int} (hc : x7.toInt = c + 0) : zs_ok (BX4_reckon_139 σ 1 27 x3 x4 x6 x7 t1 t2) (fun r => zs_sum (fun v => ((zs_C σ0 v.1 ∧ zs_in (v.2).toInt 2 2)) ∧ v.2.toInt = c + 1) (fun v => False) r) := by
  unfold BX4_reckon_139
  obtain rfl : x3 = (0 : Int32) := zs_eqv h_x3 (by decide)
  obtain rfl : x6 = (1 : Int32) := zs_eqv h_x6 (by decide)
  obtain rfl : t1 = (0 : Int32) := zs_eqv h_t1 (by decide)
  obtain rfl : t2 = (1 : Int32) := zs_eqv h_t2 (by decide)
  refine zs_bd_ (zc_699 h_σ h_t1 h_t2) (fun t_1 pt_1 => ?_)
  refine zs_bd_ (zo_bc 1 1 (by decide) h_x7) (fun t_3 pt_3 => ?_)
  refine zs_gd (zs_gin pt_3 (by decide)) ?_
  refine zs_bd_ (zc_700 pt_1 h_x3 h_x4 h_x6) (fun t_6 pt_6 => ?_)
  refine zs_lt (Q := fun z => zs_C σ0 z) (zs_wrL pt_6.2 rfl) (fun σ_8 hσ_8 => ?_)
  refine zs_lt (Q := fun z => zs_in z.toInt 2 2 ∧ z.toInt = c + 1) ⟨(zs_addI 2 2 h_x7 zlI_1 (by decide)), (zs_syI 1 hc h_x7 zlI_1 (by decide) (by decide))⟩ (fun y_10 hy_10 => ?_)
  exact zs_some (zs_inl ⟨⟨hσ_8, hy_10.1⟩, hy_10.2⟩)
-- BX4_reckon_119
theorem zc_709 {σ0 : sn_S} {σ : sn_S} (h_σ : zs_C σ0 σ) {x3 : Int32} (h_x3 : zs_in x3.toInt 0 0) {x4 : Int32} (h_x4 : zs_in x4.toInt 0 5) {x6 : Int32} (h_x6 : zs_in x6.toInt 1 1) {x7 : Int32} (h_x7 : zs_in x7.toInt 1 1) {x8 : Int32} (h_x8 : zs_in x8.toInt 0 0) {c : Int} (hc : x7.toInt = c + 0) : zs_ok (BX4_reckon_119 σ 1 27 x3 x4 x6 x7 x8) (fun r => zs_sum (fun v => ((zs_C σ0 v.1 ∧ zs_in (v.2).toInt 2 2)) ∧ v.2.toInt = c + 1) (fun v => False) r) := by
  unfold BX4_reckon_119
  obtain rfl : x3 = (0 : Int32) := zs_eqv h_x3 (by decide)
  obtain rfl : x6 = (1 : Int32) := zs_eqv h_x6 (by decide)
  obtain rfl : x8 = (0 : Int32) := zs_eqv h_x8 (by decide)
  refine zs_ite (fun c1 => ?_) (fun c1 => ?_)
  · skip
    have r2 := (zs_I_eq c1)
    exact (zs_botr r2 h_x3 zlI_2 (by decide)).elim
  · skip
    have r3 := (zs_I_eqn c1)
    obtain ⟨ret, er, hr⟩ := zc_708 h_σ h_x3 h_x4 h_x6 h_x7 h_x8 h_x6 hc
    refine ⟨ret, er, ?_⟩
    exact (zs_sumw hr (fun v w => ⟨w.1, w.2⟩) (fun v w => w.elim))
-- BX4_reckon_62
theorem zc_710 {σ0 : sn_S} {σ : sn_S} (h_σ : zs_C σ0 σ) {x3 : Int32} (h_x3 : zs_in x3.toInt 0 0) {x4 : Int32} (h_x4 : zs_in x4.toInt 0 5) {x6 : Int32} (h_x6 : zs_in x6.toInt 1 1) {x7 : Int32} (h_x7 : zs_in x7.toInt 1 1) {t0 : Int32} (h_t0 : zs_in t0.toInt 0 0) {c : Int} (hc : x7.toInt = c + 0) : zs_ok (BX4_reckon_62 σ 1 27 x3 x4 x6 x7 t0) (fun r => zs_sum (fun v => ((zs_C σ0 v.1 ∧ zs_in (v.2).toInt 2 2)) ∧ v.2.toInt = c + 1) (fun v => False) r) := by
  unfold BX4_reckon_62
  obtain rfl : x3 = (0 : Int32) := zs_eqv h_x3 (by decide)
  obtain rfl : x6 = (1 : Int32) := zs_eqv h_x6 (by decide)
  obtain rfl : t0 = (0 : Int32) := zs_eqv h_t0 (by decide)
  refine zs_bd_ (zd_121 h_x3 h_x4 h_x6 h_x7 h_t0 (s0 := (σ, (0 : Int32))) ⟨h_σ, (zs_w h_t0 (by decide))⟩) (fun t_1 pt_1 => ?_)
  obtain ⟨ret, er, hr⟩ := zc_709 pt_1 h_x3 h_x4 h_x6 h_x7 h_t0 hc
  refine ⟨ret, er, ?_⟩
  exact (zs_sumw hr (fun v w => ⟨w.1, w.2⟩) (fun v w => w.elim))
-- BX4_reckon_34
theorem zc_711 {σ0 : sn_S} {σ : sn_S} (h_σ : zs_C σ0 σ) {x3 : Int32} (h_x3 : zs_in x3.toInt 0 0) {x4 : Int32} (h_x4 : zs_in x4.toInt 0 5) {x6 : Int32} (h_x6 : zs_in x6.toInt 1 1) {x7 : Int32} (h_x7 : zs_in x7.toInt 0 2) {c : Int} (hc : x7.toInt = c + 0) : zs_ok (BX4_reckon_34 σ 1 27 x3 x4 x6 x7) (fun r => zs_sum (fun v => ((zs_C σ0 v.1 ∧ zs_in (v.2).toInt 1 2)) ∧ v.2.toInt = c + 1) (fun v => zs_C σ0 v) r) := by
  unfold BX4_reckon_34
  obtain rfl : x3 = (0 : Int32) := zs_eqv h_x3 (by decide)
  obtain rfl : x6 = (1 : Int32) := zs_eqv h_x6 (by decide)
  refine zs_ite (fun c1 => ?_) (fun c1 => ?_)
  · skip
    have r2 := (zs_I_le c1)
    have g3 : zs_in (x7).toInt 2 2 := (zs_ler 2 2 r2 (zs_cases h_x6 (fun z => zs_in ((1 : Int32) <<< (z &&& 31)).toInt 2 2) (by decide +kernel)) h_x7 (by decide))
    exact zs_some (zs_inr (h_σ))
  · skip
    have r4 := (zs_I_len c1)
    have g5 : zs_in (x7).toInt 0 1 := (zs_ltl 0 1 r4 h_x7 (zs_cases h_x6 (fun z => zs_in ((1 : Int32) <<< (z &&& 31)).toInt 2 2) (by decide +kernel)) (by decide))
    refine zs_ite (fun c6 => ?_) (fun c6 => ?_)
    · skip
      have r7 := (zs_I_eq c6)
      have g8 : zs_in (x7).toInt 0 0 := (zs_eql 0 0 r7 g5 zlI_0 (by decide))
      obtain ⟨ret, er, hr⟩ := zc_703 h_σ h_x3 h_x4 h_x6 g8 zlI_0 hc
      refine ⟨ret, er, ?_⟩
      exact (zs_sumw hr (fun v w => ⟨⟨w.1.1, (zs_w w.1.2 (by decide))⟩, w.2⟩) (fun v w => w.elim))
    · skip
      have r9 := (zs_I_eqn c6)
      have g10 : zs_in (x7).toInt 1 1 := (zs_nel 1 1 r9 g5 zlI_0 (by decide))
      refine zs_bd_ (zo_low1 1 0 (by decide) g10) (fun t_3 pt_3 => ?_)
      obtain ⟨ret, er, hr⟩ := zc_710 h_σ h_x3 h_x4 h_x6 g10 (zs_subI 0 0 (zs_subI 0 0 h_x6 zlI_1 (by decide)) pt_3 (by decide)) hc
      refine ⟨ret, er, ?_⟩
      exact (zs_sumw hr (fun v w => ⟨⟨w.1.1, (zs_w w.1.2 (by decide))⟩, w.2⟩) (fun v w => w.elim))
theorem zd_122 {σ0 : sn_S} {x3 : Int32} (h_x3 : zs_in x3.toInt 0 0) {x4 : Int32} (h_x4 : zs_in x4.toInt 0 5) {x6 : Int32} (h_x6 : zs_in x6.toInt 1 1) {s0 : (sn_S × Int32)} (h0 : (zs_C σ0 s0.1 ∧ zs_in (s0.2).toInt 0 2)) : zs_ok (sn_it (LX4_reckon_34 1 27 x3 x4 x6) 5000 s0) (fun t => zs_C σ0 t) := by
  refine zs_it (I := fun s => (zs_C σ0 s.1 ∧ zs_in (s.2).toInt 0 2)) (m := fun s => 2 - s.2.toInt) (fun s hs => ?_) (fun s hs => ?_) (by exact h0)
  · have h1 := hs.2; unfold zs_in at h1
    omega
  · obtain ⟨b, eb, hb⟩ := zc_711 hs.1 h_x3 h_x4 h_x6 hs.2 (c := s.2.toInt) (Int.add_zero _).symm
    exact ⟨b, eb, zs_sumw hb (fun v w => ⟨⟨w.1.1, (zs_w w.1.2 (by decide))⟩, by have := w.2; omega⟩) (fun v w => w)⟩
-- BX4_reckon_186
theorem zc_712 {σ0 : sn_S} {σ : sn_S} (h_σ : zs_C σ0 σ) {x6 : Int32} (h_x6 : zs_in x6.toInt 1 1) {x7 : Int32} (h_x7 : zs_in x7.toInt 0 1) {c : Int} (hc : x7.toInt = c + 0) : zs_ok (BX4_reckon_186 σ 1 27 x6 x7) (fun r => zs_sum (fun v => ((zs_C σ0 v.1 ∧ zs_in (v.2).toInt 1 1)) ∧ v.2.toInt = c + 1) (fun v => zs_C σ0 v) r) := by
  unfold BX4_reckon_186
  obtain rfl : x6 = (1 : Int32) := zs_eqv h_x6 (by decide)
  refine zs_ite (fun c1 => ?_) (fun c1 => ?_)
  · skip
    have r2 := (zs_I_le c1)
    have g3 : zs_in (x7).toInt 1 1 := (zs_ler 1 1 r2 h_x6 h_x7 (by decide))
    exact zs_some (zs_inr (h_σ))
  · skip
    have r4 := (zs_I_len c1)
    have g5 : zs_in (x7).toInt 0 0 := (zs_ltl 0 0 r4 h_x7 h_x6 (by decide))
    refine zs_lt (Q := fun z => zs_C σ0 z) (zs_wrL h_σ rfl) (fun σ_2 hσ_2 => ?_)
    refine zs_lt (Q := fun z => zs_in z.toInt 1 1 ∧ z.toInt = c + 1) ⟨(zs_addI 1 1 g5 zlI_1 (by decide)), (zs_syI 1 hc g5 zlI_1 (by decide) (by decide))⟩ (fun y_4 hy_4 => ?_)
    exact zs_some (zs_inl ⟨⟨hσ_2, hy_4.1⟩, hy_4.2⟩)
theorem zd_123 {σ0 : sn_S} {x6 : Int32} (h_x6 : zs_in x6.toInt 1 1) {s0 : (sn_S × Int32)} (h0 : (zs_C σ0 s0.1 ∧ zs_in (s0.2).toInt 0 1)) : zs_ok (sn_it (LX4_reckon_186 1 27 x6) 5000 s0) (fun t => zs_C σ0 t) := by
  refine zs_it (I := fun s => (zs_C σ0 s.1 ∧ zs_in (s.2).toInt 0 1)) (m := fun s => 1 - s.2.toInt) (fun s hs => ?_) (fun s hs => ?_) (by exact h0)
  · have h1 := hs.2; unfold zs_in at h1
    omega
  · obtain ⟨b, eb, hb⟩ := zc_712 hs.1 h_x6 hs.2 (c := s.2.toInt) (Int.add_zero _).symm
    exact ⟨b, eb, zs_sumw hb (fun v w => ⟨⟨w.1.1, (zs_w w.1.2 (by decide))⟩, by have := w.2; omega⟩) (fun v w => w)⟩
-- BX4_lower_13
theorem zc_713 {σ0 : sn_S} {σ : sn_S} (h_σ : zs_C σ0 σ) {x1 : Int64} {x3 : Int64} {x5 : Int32} (h_x5 : zs_in x5.toInt 0 100) {c : Int} (hc : x5.toInt = c + 0) : zs_ok (BX4_lower_13 σ x1 x3 x5) (fun r => zs_sum (fun v => ((True ∧ (True ∧ zs_in (v.2.2).toInt 1 100))) ∧ v.2.2.toInt = c + 1) (fun v => True) r) := by
  unfold BX4_lower_13
  refine zs_ite (fun c1 => ?_) (fun c1 => ?_)
  · skip
    have r2 := (zs_I_le c1)
    have g3 : zs_in (x5).toInt 100 100 := (zs_ler 100 100 r2 zlI_100 h_x5 (by decide))
    exact zs_some (zs_inr (trivial))
  · skip
    have r4 := (zs_I_len c1)
    have g5 : zs_in (x5).toInt 0 99 := (zs_ltl 0 99 r4 h_x5 zlI_100 (by decide))
    refine zs_ite (fun c6 => ?_) (fun c6 => ?_)
    · skip
      have r7 := (zs_lg_eq c6)
      have g8 : zs_in (x1).toInt 0 0 := (zs_eql 0 0 r7 (zs_topL _) zlL_0 (by decide))
      exact zs_some (zs_inr (trivial))
    · skip
      have r9 := (zs_lg_eqn c6)
      refine zs_gd (zs_nzqL r9) ?_
      refine zs_lt (Q := fun z => True) trivial (fun y_4 hy_4 => ?_)
      refine zs_lt (Q := fun z => zs_in z.toInt 1 100 ∧ z.toInt = c + 1) ⟨(zs_addI 1 100 g5 zlI_1 (by decide)), (zs_syI 1 hc g5 zlI_1 (by decide) (by decide))⟩ (fun y_6 hy_6 => ?_)
      exact zs_some (zs_inl ⟨⟨trivial, ⟨trivial, hy_6.1⟩⟩, hy_6.2⟩)
theorem zd_124 {σ0 : sn_S} {σ : sn_S} (h_σ : zs_C σ0 σ) {s0 : (Int64 × (Int64 × Int32))} (h0 : (True ∧ (True ∧ zs_in (s0.2.2).toInt 0 100))) : zs_ok (sn_it (LX4_lower_13 σ) 5000 s0) (fun t => True) := by
  refine zs_it (I := fun s => (True ∧ (True ∧ zs_in (s.2.2).toInt 0 100))) (m := fun s => 100 - s.2.2.toInt) (fun s hs => ?_) (fun s hs => ?_) (by exact h0)
  · have h1 := hs.2.2; unfold zs_in at h1
    omega
  · obtain ⟨b, eb, hb⟩ := zc_713 h_σ hs.2.2 (c := s.2.2.toInt) (Int.add_zero _).symm
    exact ⟨b, eb, zs_sumw hb (fun v w => ⟨⟨w.1.1, ⟨w.1.2.1, (zs_w w.1.2.2 (by decide))⟩⟩, by have := w.2; omega⟩) (fun v w => w)⟩
-- BX4_lower_42
theorem zc_714 {σ0 : sn_S} {σ : sn_S} (h_σ : zs_C σ0 σ) {x3 : Int64} : zs_ok (BX4_lower_42 σ x3) (fun r => zs_C σ0 r) := by
  unfold BX4_lower_42
  refine zs_ite (fun c1 => ?_) (fun c1 => ?_)
  · skip
    have r2 := (zs_lg_le c1)
    have g3 : zs_in (x3).toInt (-9223372036854775808) 1 := (zs_lel (-9223372036854775808) 1 r2 (zs_topL _) zlL_1 (by decide))
    exact zs_some h_σ
  · skip
    have r4 := (zs_lg_len c1)
    have g5 : zs_in (x3).toInt 2 9223372036854775807 := (zs_ltr 2 9223372036854775807 r4 zlL_1 (zs_topL _) (by decide))
    refine zs_gd (zs_nzL g5 (by decide)) ?_
    refine zs_lt (Q := fun z => zs_C σ0 z) (zs_wrL h_σ rfl) (fun σ_3 hσ_3 => ?_)
    refine zs_gd (zs_nzL g5 (by decide)) ?_
    refine zs_lt (Q := fun z => zs_C σ0 z) (zs_wrL hσ_3 rfl) (fun σ_6 hσ_6 => ?_)
    exact zs_some hσ_6
-- fX4_lower
theorem zc_715 {σ0 : sn_S} {σ : sn_S} (h_σ : zs_C σ0 σ) : zs_ok (fX4_lower σ) (fun r => zs_C σ0 r) := by
  unfold fX4_lower
  refine zs_lt (Q := fun z => True) trivial (fun y_1 hy_1 => ?_)
  refine zs_lt (Q := fun z => True) trivial (fun y_3 hy_3 => ?_)
  refine zs_bd_ (zd_124 h_σ (s0 := (y_1, (y_3, (0 : Int32)))) ⟨trivial, ⟨trivial, (zs_w zlI_0 (by decide))⟩⟩) (fun t_5 pt_5 => ?_)
  obtain ⟨ret, er, hr⟩ := zc_714 h_σ
  refine ⟨ret, er, ?_⟩
  exact hr
-- BX4_reckon_211
theorem zc_716 {σ0 : sn_S} {σ : sn_S} (h_σ : zs_C σ0 σ) : zs_ok (BX4_reckon_211 σ 1 27) (fun r => zs_C σ0 r) := by
  unfold BX4_reckon_211
  refine zs_bd_ (zc_715 h_σ) (fun t_1 pt_1 => ?_)
  exact zs_some pt_1
-- BX4_reckon_178
theorem zc_717 {σ0 : sn_S} {σ : sn_S} (h_σ : zs_C σ0 σ) {x6 : Int32} (h_x6 : zs_in x6.toInt 1 1) : zs_ok (BX4_reckon_178 σ 1 27 x6) (fun r => zs_C σ0 r) := by
  unfold BX4_reckon_178
  obtain rfl : x6 = (1 : Int32) := zs_eqv h_x6 (by decide)
  refine zs_lt (Q := fun z => zs_C σ0 z) (zs_wrL h_σ rfl) (fun σ_1 hσ_1 => ?_)
  refine zs_bd_ (zd_123 h_x6 (s0 := (σ_1, (0 : Int32))) ⟨hσ_1, (zs_w zlI_0 (by decide))⟩) (fun t_3 pt_3 => ?_)
  obtain ⟨ret, er, hr⟩ := zc_716 pt_3
  refine ⟨ret, er, ?_⟩
  exact hr
-- fX4_reckon
theorem zc_718 {σ0 : sn_S} {σ : sn_S} (h_σ : zs_C σ0 σ) {x3 : Int32} (h_x3 : zs_in x3.toInt 0 0) {x4 : Int32} (h_x4 : zs_in x4.toInt 0 5) {x5 : Int32} (h_x5 : zs_in x5.toInt 0 0) : zs_ok (fX4_reckon σ 1 27 x3 x4 x5) (fun r => zs_C σ0 r) := by
  unfold fX4_reckon
  obtain rfl : x3 = (0 : Int32) := zs_eqv h_x3 (by decide)
  obtain rfl : x5 = (0 : Int32) := zs_eqv h_x5 (by decide)
  refine zs_lt (Q := fun z => zs_in z.toInt 1 1) (zs_addI 1 1 h_x5 zlI_1 (by decide)) (fun y_1 hy_1 => ?_)
  refine zs_gd (zs_gin zlI_4 (by decide)) ?_
  refine zs_bd_ (zc_675 h_σ hy_1 (zs_rdk (q := 2) (k := (4 : Int32).toNatClampNeg) (z := (0, 10)) h_σ.1 rfl)) (fun t_4 pt_4 => ?_)
  refine zs_bd_ (zo_dcopy pt_4) (fun t_6 pt_6 => ?_)
  refine zs_lt (Q := fun z => zs_C σ0 z) (zs_wrL pt_6 rfl) (fun σ_8 hσ_8 => ?_)
  refine zs_bd_ (zd_122 h_x3 h_x4 hy_1 (s0 := (σ_8, (0 : Int32))) ⟨hσ_8, (zs_w zlI_0 (by decide))⟩) (fun t_10 pt_10 => ?_)
  obtain ⟨ret, er, hr⟩ := zc_717 pt_10 hy_1
  refine ⟨ret, er, ?_⟩
  exact hr
-- BX4_weigh_46
theorem zc_719 {σ0 : sn_S} {σ : sn_S} (h_σ : zs_C σ0 σ) {x1 : Int32} (h_x1 : zs_in x1.toInt 2 2) {x2 : Int32} (h_x2 : zs_in x2.toInt 0 10) {x3 : Int32} (h_x3 : zs_in x3.toInt 0 1) {x4 : Int64} {x6 : Int32} (h_x6 : zs_in x6.toInt 0 1) {t0 : Int64} {t1 : Int64} (h_t1 : zs_in t1.toInt 0 10) {c : Int} (hc : x6.toInt = c + 0) : zs_ok (BX4_weigh_46 σ x1 x2 x3 x4 x6 t0 t1) (fun r => zs_sum (fun v => ((True ∧ zs_in (v.2).toInt 1 2)) ∧ v.2.toInt = c + 1) (fun v => False) r) := by
  unfold BX4_weigh_46
  obtain rfl : x1 = (2 : Int32) := zs_eqv h_x1 (by decide)
  refine zs_lt (Q := fun z => True) trivial (fun y_1 hy_1 => ?_)
  refine zs_lt (Q := fun z => zs_in z.toInt 1 2 ∧ z.toInt = c + 1) ⟨(zs_addI 1 2 h_x6 zlI_1 (by decide)), (zs_syI 1 hc h_x6 zlI_1 (by decide) (by decide))⟩ (fun y_3 hy_3 => ?_)
  exact zs_some (zs_inl ⟨⟨trivial, hy_3.1⟩, hy_3.2⟩)
-- BX4_weigh_46
theorem zc_720 {σ0 : sn_S} {σ : sn_S} (h_σ : zs_C σ0 σ) {x1 : Int32} (h_x1 : zs_in x1.toInt 2 2) {x2 : Int32} (h_x2 : zs_in x2.toInt 0 10) {x3 : Int32} (h_x3 : zs_in x3.toInt 1 2) {x4 : Int64} {x6 : Int32} (h_x6 : zs_in x6.toInt 0 1) {t0 : Int64} {t1 : Int64} (h_t1 : zs_in t1.toInt 0 10) {c : Int} (hc : x6.toInt = c + 0) : zs_ok (BX4_weigh_46 σ x1 x2 x3 x4 x6 t0 t1) (fun r => zs_sum (fun v => ((True ∧ zs_in (v.2).toInt 1 2)) ∧ v.2.toInt = c + 1) (fun v => False) r) := by
  unfold BX4_weigh_46
  obtain rfl : x1 = (2 : Int32) := zs_eqv h_x1 (by decide)
  refine zs_lt (Q := fun z => True) trivial (fun y_1 hy_1 => ?_)
  refine zs_lt (Q := fun z => zs_in z.toInt 1 2 ∧ z.toInt = c + 1) ⟨(zs_addI 1 2 h_x6 zlI_1 (by decide)), (zs_syI 1 hc h_x6 zlI_1 (by decide) (by decide))⟩ (fun y_3 hy_3 => ?_)
  exact zs_some (zs_inl ⟨⟨trivial, hy_3.1⟩, hy_3.2⟩)
-- BX4_weigh_22
theorem zc_721 {σ0 : sn_S} {σ : sn_S} (h_σ : zs_C σ0 σ) {x1 : Int32} (h_x1 : zs_in x1.toInt 2 2) {x2 : Int32} (h_x2 : zs_in x2.toInt 0 10) {x3 : Int32} (h_x3 : zs_in x3.toInt 0 2) {x4 : Int64} {x6 : Int32} (h_x6 : zs_in x6.toInt 0 2) {c : Int} (hc : x6.toInt = c + 0) : zs_ok (BX4_weigh_22 σ x1 x2 x3 x4 x6) (fun r => zs_sum (fun v => ((True ∧ zs_in (v.2).toInt 1 2)) ∧ v.2.toInt = c + 1) (fun v => True) r) := by
  unfold BX4_weigh_22
  obtain rfl : x1 = (2 : Int32) := zs_eqv h_x1 (by decide)
  refine zs_ite (fun c1 => ?_) (fun c1 => ?_)
  · skip
    have r2 := (zs_I_le c1)
    have g3 : zs_in (x6).toInt 2 2 := (zs_ler 2 2 r2 h_x1 h_x6 (by decide))
    exact zs_some (zs_inr (trivial))
  · skip
    have r4 := (zs_I_len c1)
    have g5 : zs_in (x6).toInt 0 1 := (zs_ltl 0 1 r4 h_x6 h_x1 (by decide))
    refine zs_ite (fun c6 => ?_) (fun c6 => ?_)
    · skip
      have r7 := (zs_I_le c6)
      have g8 : zs_in (x3).toInt 0 1 := (zs_lel 0 1 r7 h_x3 g5 (by decide))
      obtain ⟨ret, er, hr⟩ := zc_719 h_σ h_x1 h_x2 g8 g5 (zs_64 (zs_subI 0 10 zlI_10 h_x2 (by decide))) hc
      refine ⟨ret, er, ?_⟩
      exact (zs_sumw hr (fun v w => ⟨w.1, w.2⟩) (fun v w => w.elim))
    · skip
      have r9 := (zs_I_len c6)
      have g10 : zs_in (x3).toInt 1 2 := (zs_ltr 1 2 r9 g5 h_x3 (by decide))
      obtain ⟨ret, er, hr⟩ := zc_720 h_σ h_x1 h_x2 g10 g5 (zs_64 h_x2) hc
      refine ⟨ret, er, ?_⟩
      exact (zs_sumw hr (fun v w => ⟨w.1, w.2⟩) (fun v w => w.elim))
theorem zd_125 {σ0 : sn_S} {σ : sn_S} (h_σ : zs_C σ0 σ) {x1 : Int32} (h_x1 : zs_in x1.toInt 2 2) {x2 : Int32} (h_x2 : zs_in x2.toInt 0 10) {x3 : Int32} (h_x3 : zs_in x3.toInt 0 2) {s0 : (Int64 × Int32)} (h0 : (True ∧ zs_in (s0.2).toInt 0 2)) : zs_ok (sn_it (LX4_weigh_22 σ x1 x2 x3) 5000 s0) (fun t => True) := by
  refine zs_it (I := fun s => (True ∧ zs_in (s.2).toInt 0 2)) (m := fun s => 2 - s.2.toInt) (fun s hs => ?_) (fun s hs => ?_) (by exact h0)
  · have h1 := hs.2; unfold zs_in at h1
    omega
  · obtain ⟨b, eb, hb⟩ := zc_721 h_σ h_x1 h_x2 h_x3 hs.2 (c := s.2.toInt) (Int.add_zero _).symm
    exact ⟨b, eb, zs_sumw hb (fun v w => ⟨⟨w.1.1, (zs_w w.1.2 (by decide))⟩, by have := w.2; omega⟩) (fun v w => w)⟩
-- BX4_weigh_55
theorem zc_722 {σ0 : sn_S} {σ : sn_S} (h_σ : zs_C σ0 σ) {x1 : Int32} (h_x1 : zs_in x1.toInt 2 2) {x2 : Int32} (h_x2 : zs_in x2.toInt 0 10) {x3 : Int32} (h_x3 : zs_in x3.toInt 0 2) {x4 : Int64} {c : Int} (hc : x3.toInt = c + 0) : zs_ok (BX4_weigh_55 σ x1 x2 x3 x4) (fun r => zs_sum (fun v => ((zs_C σ0 v.1 ∧ zs_in (v.2).toInt 1 3)) ∧ v.2.toInt = c + 1) (fun v => False) r) := by
  unfold BX4_weigh_55
  obtain rfl : x1 = (2 : Int32) := zs_eqv h_x1 (by decide)
  refine zs_gd (zs_gin h_x3 (by decide)) ?_
  refine zs_lt (Q := fun z => zs_C σ0 z) (zs_wrL h_σ rfl) (fun σ_2 hσ_2 => ?_)
  refine zs_lt (Q := fun z => zs_in z.toInt 1 3 ∧ z.toInt = c + 1) ⟨(zs_addI 1 3 h_x3 zlI_1 (by decide)), (zs_syI 1 hc h_x3 zlI_1 (by decide) (by decide))⟩ (fun y_4 hy_4 => ?_)
  exact zs_some (zs_inl ⟨⟨hσ_2, hy_4.1⟩, hy_4.2⟩)
-- BX4_weigh_2
theorem zc_723 {σ0 : sn_S} {σ : sn_S} (h_σ : zs_C σ0 σ) {x1 : Int32} (h_x1 : zs_in x1.toInt 2 2) {x2 : Int32} (h_x2 : zs_in x2.toInt 0 10) {x3 : Int32} (h_x3 : zs_in x3.toInt 0 3) {c : Int} (hc : x3.toInt = c + 0) : zs_ok (BX4_weigh_2 σ x1 x2 x3) (fun r => zs_sum (fun v => ((zs_C σ0 v.1 ∧ zs_in (v.2).toInt 1 3)) ∧ v.2.toInt = c + 1) (fun v => zs_C σ0 v) r) := by
  unfold BX4_weigh_2
  obtain rfl : x1 = (2 : Int32) := zs_eqv h_x1 (by decide)
  refine zs_ite (fun c1 => ?_) (fun c1 => ?_)
  · skip
    have r2 := (zs_I_lt c1)
    have g3 : zs_in (x3).toInt 3 3 := (zs_ltr 3 3 r2 h_x1 h_x3 (by decide))
    exact zs_some (zs_inr (h_σ))
  · skip
    have r4 := (zs_I_ltn c1)
    have g5 : zs_in (x3).toInt 0 2 := (zs_lel 0 2 r4 h_x3 h_x1 (by decide))
    refine zs_ite (fun c6 => ?_) (fun c6 => ?_)
    · skip
      have r7 := (zs_I_le c6)
      exact (zs_botle r7 zlI_9 g5 (by decide)).elim
    · skip
      have r8 := (zs_I_len c6)
      refine zs_bd_ (zd_125 h_σ h_x1 h_x2 g5 (s0 := ((1 : Int64), (0 : Int32))) ⟨trivial, (zs_w zlI_0 (by decide))⟩) (fun t_3 pt_3 => ?_)
      obtain ⟨ret, er, hr⟩ := zc_722 h_σ h_x1 h_x2 g5 hc
      refine ⟨ret, er, ?_⟩
      exact (zs_sumw hr (fun v w => ⟨w.1, w.2⟩) (fun v w => w.elim))
theorem zd_126 {σ0 : sn_S} {x1 : Int32} (h_x1 : zs_in x1.toInt 2 2) {x2 : Int32} (h_x2 : zs_in x2.toInt 0 10) {s0 : (sn_S × Int32)} (h0 : (zs_C σ0 s0.1 ∧ zs_in (s0.2).toInt 0 3)) : zs_ok (sn_it (LX4_weigh_2 x1 x2) 5000 s0) (fun t => zs_C σ0 t) := by
  refine zs_it (I := fun s => (zs_C σ0 s.1 ∧ zs_in (s.2).toInt 0 3)) (m := fun s => 3 - s.2.toInt) (fun s hs => ?_) (fun s hs => ?_) (by exact h0)
  · have h1 := hs.2; unfold zs_in at h1
    omega
  · obtain ⟨b, eb, hb⟩ := zc_723 hs.1 h_x1 h_x2 hs.2 (c := s.2.toInt) (Int.add_zero _).symm
    exact ⟨b, eb, zs_sumw hb (fun v w => ⟨⟨w.1.1, (zs_w w.1.2 (by decide))⟩, by have := w.2; omega⟩) (fun v w => w)⟩
-- fX4_weigh
theorem zc_724 {σ0 : sn_S} {σ : sn_S} (h_σ : zs_C σ0 σ) {x1 : Int32} (h_x1 : zs_in x1.toInt 2 2) {x2 : Int32} (h_x2 : zs_in x2.toInt 0 10) : zs_ok (fX4_weigh σ x1 x2) (fun r => zs_C σ0 r) := by
  unfold fX4_weigh
  obtain rfl : x1 = (2 : Int32) := zs_eqv h_x1 (by decide)
  refine zs_bd_ (zd_126 h_x1 h_x2 (s0 := (σ, (0 : Int32))) ⟨h_σ, (zs_w zlI_0 (by decide))⟩) (fun t_1 pt_1 => ?_)
  obtain ⟨ret, er, hr⟩ := zc_674 pt_1
  refine ⟨ret, er, ?_⟩
  exact hr
-- fX8_hasBit
theorem zc_725 {x0 : Int32} (h_x0 : zs_in x0.toInt 0 0) {x1 : Int32} (h_x1 : zs_in x1.toInt 0 1) : zs_ok (fX8_hasBit x0 x1) (fun r => zs_in (r).toInt 0 1) := by
  unfold fX8_hasBit
  obtain rfl : x0 = (0 : Int32) := zs_eqv h_x0 (by decide)
  refine zs_ite (fun c1 => ?_) (fun c1 => ?_)
  · skip
    have r2 := (zs_I_eq c1)
    have g3 : zs_in ((((0 : Int32) >>> (x1 &&& 31)) &&& (1 : Int32))).toInt 1 1 := (zs_eql 1 1 r2 (zs_and zlI_1 (by decide)) zlI_1 (by decide))
    refine zs_gd (zs_b01 zlI_1 (by decide)) ?_
    exact zs_some (zs_w zlI_1 (by decide))
  · skip
    have r4 := (zs_I_eqn c1)
    have g5 : zs_in ((((0 : Int32) >>> (x1 &&& 31)) &&& (1 : Int32))).toInt 0 0 := (zs_neh 0 0 r4 (zs_and zlI_1 (by decide)) zlI_1 (by decide))
    refine zs_gd (zs_b01 zlI_0 (by decide)) ?_
    exact zs_some (zs_w zlI_0 (by decide))
-- BX4_reckon_111
theorem zc_726 {σ0 : sn_S} {σ : sn_S} (h_σ : zs_C σ0 σ) {x3 : Int32} (h_x3 : zs_in x3.toInt 0 0) {x4 : Int32} (h_x4 : zs_in x4.toInt 0 5) {x6 : Int32} (h_x6 : zs_in x6.toInt 2 2) {x7 : Int32} (h_x7 : zs_in x7.toInt 0 0) {x8 : Int32} (h_x8 : zs_in x8.toInt 0 0) {x9 : Int32} (h_x9 : zs_in x9.toInt 0 1) {t1 : Int32} (h_t1 : zs_in t1.toInt 0 1) {t2 : Int32} {t3 : Int32} (h_t3 : zs_in t3.toInt 0 0) {c : Int} (hc : x9.toInt = c + 0) : zs_ok (BX4_reckon_111 σ 1 27 x3 x4 x6 x7 x8 x9 t1 t2 t3) (fun r => zs_sum (fun v => ((zs_C σ0 v.1 ∧ zs_in (v.2).toInt 1 2)) ∧ v.2.toInt = c + 1) (fun v => False) r) := by
  unfold BX4_reckon_111
  obtain rfl : x3 = (0 : Int32) := zs_eqv h_x3 (by decide)
  obtain rfl : x6 = (2 : Int32) := zs_eqv h_x6 (by decide)
  obtain rfl : x7 = (0 : Int32) := zs_eqv h_x7 (by decide)
  obtain rfl : x8 = (0 : Int32) := zs_eqv h_x8 (by decide)
  obtain rfl : t3 = (0 : Int32) := zs_eqv h_t3 (by decide)
  refine zs_gd (zs_gin h_t1 (by decide)) ?_
  refine zs_lt (Q := fun z => zs_C σ0 z) (zs_wrt h_σ (fun _ => rfl) (fun _ => rfl)) (fun σ_2 hσ_2 => ?_)
  refine zs_lt (Q := fun z => zs_in z.toInt 1 2 ∧ z.toInt = c + 1) ⟨(zs_addI 1 2 h_x9 zlI_1 (by decide)), (zs_syI 1 hc h_x9 zlI_1 (by decide) (by decide))⟩ (fun y_4 hy_4 => ?_)
  exact zs_some (zs_inl ⟨⟨hσ_2, hy_4.1⟩, hy_4.2⟩)
-- BX4_reckon_111
theorem zc_727 {σ0 : sn_S} {σ : sn_S} (h_σ : zs_C σ0 σ) {x3 : Int32} (h_x3 : zs_in x3.toInt 0 0) {x4 : Int32} (h_x4 : zs_in x4.toInt 0 5) {x6 : Int32} (h_x6 : zs_in x6.toInt 2 2) {x7 : Int32} (h_x7 : zs_in x7.toInt 0 0) {x8 : Int32} (h_x8 : zs_in x8.toInt 0 0) {x9 : Int32} (h_x9 : zs_in x9.toInt 0 1) {t1 : Int32} (h_t1 : zs_in t1.toInt 0 1) {t2 : Int32} {t3 : Int32} (h_t3 : zs_in t3.toInt 3 3) {c : Int} (hc : x9.toInt = c + 0) : zs_ok (BX4_reckon_111 σ 1 27 x3 x4 x6 x7 x8 x9 t1 t2 t3) (fun r => zs_sum (fun v => ((zs_C σ0 v.1 ∧ zs_in (v.2).toInt 1 2)) ∧ v.2.toInt = c + 1) (fun v => False) r) := by
  unfold BX4_reckon_111
  obtain rfl : x3 = (0 : Int32) := zs_eqv h_x3 (by decide)
  obtain rfl : x6 = (2 : Int32) := zs_eqv h_x6 (by decide)
  obtain rfl : x7 = (0 : Int32) := zs_eqv h_x7 (by decide)
  obtain rfl : x8 = (0 : Int32) := zs_eqv h_x8 (by decide)
  obtain rfl : t3 = (3 : Int32) := zs_eqv h_t3 (by decide)
  refine zs_gd (zs_gin h_t1 (by decide)) ?_
  refine zs_lt (Q := fun z => zs_C σ0 z) (zs_wrt h_σ (fun _ => rfl) (fun _ => rfl)) (fun σ_2 hσ_2 => ?_)
  refine zs_lt (Q := fun z => zs_in z.toInt 1 2 ∧ z.toInt = c + 1) ⟨(zs_addI 1 2 h_x9 zlI_1 (by decide)), (zs_syI 1 hc h_x9 zlI_1 (by decide) (by decide))⟩ (fun y_4 hy_4 => ?_)
  exact zs_some (zs_inl ⟨⟨hσ_2, hy_4.1⟩, hy_4.2⟩)
-- BX4_reckon_68
theorem zc_728 {σ0 : sn_S} {σ : sn_S} (h_σ : zs_C σ0 σ) {x3 : Int32} (h_x3 : zs_in x3.toInt 0 0) {x4 : Int32} (h_x4 : zs_in x4.toInt 0 5) {x6 : Int32} (h_x6 : zs_in x6.toInt 2 2) {x7 : Int32} (h_x7 : zs_in x7.toInt 0 0) {x8 : Int32} (h_x8 : zs_in x8.toInt 0 0) {x9 : Int32} (h_x9 : zs_in x9.toInt 0 2) {c : Int} (hc : x9.toInt = c + 0) : zs_ok (BX4_reckon_68 σ 1 27 x3 x4 x6 x7 x8 x9) (fun r => zs_sum (fun v => ((zs_C σ0 v.1 ∧ zs_in (v.2).toInt 1 2)) ∧ v.2.toInt = c + 1) (fun v => zs_C σ0 v) r) := by
  unfold BX4_reckon_68
  obtain rfl : x3 = (0 : Int32) := zs_eqv h_x3 (by decide)
  obtain rfl : x6 = (2 : Int32) := zs_eqv h_x6 (by decide)
  obtain rfl : x7 = (0 : Int32) := zs_eqv h_x7 (by decide)
  obtain rfl : x8 = (0 : Int32) := zs_eqv h_x8 (by decide)
  refine zs_ite (fun c1 => ?_) (fun c1 => ?_)
  · skip
    have r2 := (zs_I_le c1)
    have g3 : zs_in (x9).toInt 2 2 := (zs_ler 2 2 r2 h_x6 h_x9 (by decide))
    exact zs_some (zs_inr (h_σ))
  · skip
    have r4 := (zs_I_len c1)
    have g5 : zs_in (x9).toInt 0 1 := (zs_ltl 0 1 r4 h_x9 h_x6 (by decide))
    refine zs_gd (zs_gin g5 (by decide)) ?_
    refine zs_bd_ (zc_725 h_x7 (zs_subI 0 1 (zs_subI 1 1 h_x6 zlI_1 (by decide)) g5 (by decide))) (fun t_3 pt_3 => ?_)
    refine zs_ite (fun c6 => ?_) (fun c6 => ?_)
    · skip
      have r7 := (zs_I_eq c6)
      have g8 : zs_in (t_3).toInt 0 0 := (zs_eql 0 0 r7 pt_3 zlI_0 (by decide))
      obtain ⟨ret, er, hr⟩ := zc_726 h_σ h_x3 h_x4 h_x6 h_x7 h_x8 g5 g5 zlI_0 hc
      refine ⟨ret, er, ?_⟩
      exact (zs_sumw hr (fun v w => ⟨w.1, w.2⟩) (fun v w => w.elim))
    · skip
      have r9 := (zs_I_eqn c6)
      have g10 : zs_in (t_3).toInt 1 1 := (zs_nel 1 1 r9 pt_3 zlI_0 (by decide))
      obtain ⟨ret, er, hr⟩ := zc_727 h_σ h_x3 h_x4 h_x6 h_x7 h_x8 g5 g5 zlI_3 hc
      refine ⟨ret, er, ?_⟩
      exact (zs_sumw hr (fun v w => ⟨w.1, w.2⟩) (fun v w => w.elim))
theorem zd_127 {σ0 : sn_S} {x3 : Int32} (h_x3 : zs_in x3.toInt 0 0) {x4 : Int32} (h_x4 : zs_in x4.toInt 0 5) {x6 : Int32} (h_x6 : zs_in x6.toInt 2 2) {x7 : Int32} (h_x7 : zs_in x7.toInt 0 0) {x8 : Int32} (h_x8 : zs_in x8.toInt 0 0) {s0 : (sn_S × Int32)} (h0 : (zs_C σ0 s0.1 ∧ zs_in (s0.2).toInt 0 2)) : zs_ok (sn_it (LX4_reckon_68 1 27 x3 x4 x6 x7 x8) 5000 s0) (fun t => zs_C σ0 t) := by
  refine zs_it (I := fun s => (zs_C σ0 s.1 ∧ zs_in (s.2).toInt 0 2)) (m := fun s => 2 - s.2.toInt) (fun s hs => ?_) (fun s hs => ?_) (by exact h0)
  · have h1 := hs.2; unfold zs_in at h1
    omega
  · obtain ⟨b, eb, hb⟩ := zc_728 hs.1 h_x3 h_x4 h_x6 h_x7 h_x8 hs.2 (c := s.2.toInt) (Int.add_zero _).symm
    exact ⟨b, eb, zs_sumw hb (fun v w => ⟨⟨w.1.1, (zs_w w.1.2 (by decide))⟩, by have := w.2; omega⟩) (fun v w => w)⟩
-- BX0_live_2
theorem zc_729 {σ0 : sn_S} {σ : sn_S} (h_σ : zs_C σ0 σ) {x1 : Int32} (h_x1 : zs_in x1.toInt 0 0) {x2 : Int32} (h_x2 : zs_in x2.toInt 2 2) {x3 : Int32} (h_x3 : zs_in x3.toInt 0 6) {c : Int} (hc : x3.toInt = c + 0) : zs_ok (BX0_live_2 σ 59 x1 x2 x3) (fun r => zs_sum (fun v => ((zs_C σ0 v.1 ∧ zs_in (v.2).toInt 1 6)) ∧ v.2.toInt = c + 1) (fun v => zs_C σ0 v) r) := by
  unfold BX0_live_2
  obtain rfl : x1 = (0 : Int32) := zs_eqv h_x1 (by decide)
  obtain rfl : x2 = (2 : Int32) := zs_eqv h_x2 (by decide)
  refine zs_ite (fun c1 => ?_) (fun c1 => ?_)
  · skip
    have r2 := (zs_I_le c1)
    exact zs_some (zs_inr (h_σ))
  · skip
    have r3 := (zs_I_len c1)
    have g4 : zs_in (x3).toInt 0 5 := (zs_ltl 0 5 r3 h_x3 (zs_rdk (q := 59) (k := 1) (z := (0, 6)) h_σ.1 rfl) (by decide))
    have g5 : zs_in ((sn_I σ 59 1)).toInt 1 6 := (zs_ltr 1 6 r3 h_x3 (zs_rdk (q := 59) (k := 1) (z := (0, 6)) h_σ.1 rfl) (by decide))
    refine zs_gd (zs_gin g4 (by decide)) ?_
    refine zs_bd_ (zc_314 h_x1) (fun t_3 pt_3 => ?_)
    refine zs_gd (zs_gin g4 (by decide)) ?_
    refine zs_lt (Q := fun z => zs_C σ0 z) (zs_wru (z := (0, 1073741823)) h_σ (fun _ => rfl) (zs_and pt_3 (by decide)) (by decide) (fun _ => rfl)) (fun σ_6 hσ_6 => ?_)
    refine zs_lt (Q := fun z => zs_in z.toInt 1 6 ∧ z.toInt = c + 1) ⟨(zs_addI 1 6 g4 zlI_1 (by decide)), (zs_syI 1 hc g4 zlI_1 (by decide) (by decide))⟩ (fun y_8 hy_8 => ?_)
    exact zs_some (zs_inl ⟨⟨hσ_6, hy_8.1⟩, hy_8.2⟩)
end
section
theorem zd_128 {σ0 : sn_S} {x1 : Int32} (h_x1 : zs_in x1.toInt 0 0) {x2 : Int32} (h_x2 : zs_in x2.toInt 2 2) {s0 : (sn_S × Int32)} (h0 : (zs_C σ0 s0.1 ∧ zs_in (s0.2).toInt 0 6)) : zs_ok (sn_it (LX0_live_2 59 x1 x2) 5000 s0) (fun t => zs_C σ0 t) := by
  refine zs_it (I := fun s => (zs_C σ0 s.1 ∧ zs_in (s.2).toInt 0 6)) (m := fun s => 6 - s.2.toInt) (fun s hs => ?_) (fun s hs => ?_) (by exact h0)
  · have h1 := hs.2; unfold zs_in at h1
    omega
  · obtain ⟨b, eb, hb⟩ := zc_729 hs.1 h_x1 h_x2 hs.2 (c := s.2.toInt) (Int.add_zero _).symm
    exact ⟨b, eb, zs_sumw hb (fun v w => ⟨⟨w.1.1, (zs_w w.1.2 (by decide))⟩, by have := w.2; omega⟩) (fun v w => w)⟩
-- BX0_tickleByNets_7
theorem zc_730 {σ0 : sn_S} {σ : sn_S} (h_σ : zs_C σ0 σ) {x1 : Int32} (h_x1 : zs_in x1.toInt 0 1) {x2 : Int32} (h_x2 : zs_in x2.toInt 0 6) {x3 : Int32} (h_x3 : zs_in x3.toInt 0 6) (hl_x1 : x2.toInt = 6 * x1.toInt) {c : Int} (hc : x3.toInt = c + 0) : zs_ok (BX0_tickleByNets_7 σ 59 x1 x2 x3) (fun r => zs_sum (fun v => ((zs_C σ0 v.1 ∧ zs_in (v.2).toInt 1 6)) ∧ v.2.toInt = c + 1) (fun v => zs_C σ0 v) r) := by
  unfold BX0_tickleByNets_7
  refine zs_ite (fun c1 => ?_) (fun c1 => ?_)
  · skip
    have r2 := (zs_I_le c1)
    exact zs_some (zs_inr (h_σ))
  · skip
    have r3 := (zs_I_len c1)
    have g4 : zs_in (x3).toInt 0 5 := (zs_ltl 0 5 r3 h_x3 (zs_rdk (q := 59) (k := 1) (z := (0, 6)) h_σ.1 rfl) (by decide))
    have g5 : zs_in ((sn_I σ 59 1)).toInt 1 6 := (zs_ltr 1 6 r3 h_x3 (zs_rdk (q := 59) (k := 1) (z := (0, 6)) h_σ.1 rfl) (by decide))
    refine zs_gd (zs_gin (zs_addI 0 11 h_x2 g4 (by decide)) (by decide)) ?_
    refine zs_lt (Q := fun z => zs_C σ0 z) (zs_wrt h_σ (fun _ => rfl) (fun _ => rfl)) (fun σ_3 hσ_3 => ?_)
    refine zs_lt (Q := fun z => zs_in z.toInt 1 6 ∧ z.toInt = c + 1) ⟨(zs_addI 1 6 g4 zlI_1 (by decide)), (zs_syI 1 hc g4 zlI_1 (by decide) (by decide))⟩ (fun y_5 hy_5 => ?_)
    exact zs_some (zs_inl ⟨⟨hσ_3, hy_5.1⟩, hy_5.2⟩)
theorem zd_129 {σ0 : sn_S} {x1 : Int32} (h_x1 : zs_in x1.toInt 0 1) {x2 : Int32} (h_x2 : zs_in x2.toInt 0 6) (hl_x1 : x2.toInt = 6 * x1.toInt) {s0 : (sn_S × Int32)} (h0 : (zs_C σ0 s0.1 ∧ zs_in (s0.2).toInt 0 6)) : zs_ok (sn_it (LX0_tickleByNets_7 59 x1 x2) 5000 s0) (fun t => zs_C σ0 t) := by
  refine zs_it (I := fun s => (zs_C σ0 s.1 ∧ zs_in (s.2).toInt 0 6)) (m := fun s => 6 - s.2.toInt) (fun s hs => ?_) (fun s hs => ?_) (by exact h0)
  · have h1 := hs.2; unfold zs_in at h1
    omega
  · obtain ⟨b, eb, hb⟩ := zc_730 hs.1 h_x1 h_x2 hs.2 hl_x1 (c := s.2.toInt) (Int.add_zero _).symm
    exact ⟨b, eb, zs_sumw hb (fun v w => ⟨⟨w.1.1, (zs_w w.1.2 (by decide))⟩, by have := w.2; omega⟩) (fun v w => w)⟩
-- BX0_tickleByNets_149
theorem zc_731 {σ0 : sn_S} {σ : sn_S} (h_σ : zs_C σ0 σ) {x2 : Int32} (h_x2 : zs_in x2.toInt 6 6) {x3 : Int32} {x4 : Int32} (h_x4 : zs_in x4.toInt 0 7) {c : Int} (hc : x4.toInt = c + 0) : zs_ok (BX0_tickleByNets_149 σ 59 x2 x3 x4) (fun r => zs_sum (fun v => ((zs_C σ0 v.1 ∧ zs_in (v.2).toInt 1 8)) ∧ v.2.toInt = c + 1) (fun v => False) r) := by
  unfold BX0_tickleByNets_149
  obtain rfl : x2 = (6 : Int32) := zs_eqv h_x2 (by decide)
  refine zs_lt (Q := fun z => zs_in z.toInt 1 8 ∧ z.toInt = c + 1) ⟨(zs_addI 1 8 h_x4 zlI_1 (by decide)), (zs_syI 1 hc h_x4 zlI_1 (by decide) (by decide))⟩ (fun y_1 hy_1 => ?_)
  exact zs_some (zs_inl ⟨⟨h_σ, hy_1.1⟩, hy_1.2⟩)
-- BX0_tickleByNets_147
theorem zc_732 {σ0 : sn_S} {σ : sn_S} (h_σ : zs_C σ0 σ) {x2 : Int32} (h_x2 : zs_in x2.toInt 6 6) {x3 : Int32} {x4 : Int32} (h_x4 : zs_in x4.toInt 0 7) {t1 : Int32} (h_t1 : zs_in t1.toInt 6 11) {t2 : Int32} {t3 : Int32} (h_t3 : zs_in t3.toInt 0 0) {c : Int} (hc : x4.toInt = c + 0) : zs_ok (BX0_tickleByNets_147 σ 59 x2 x3 x4 t1 t2 t3) (fun r => zs_sum (fun v => ((zs_C σ0 v.1 ∧ zs_in (v.2).toInt 1 8)) ∧ v.2.toInt = c + 1) (fun v => False) r) := by
  unfold BX0_tickleByNets_147
  obtain rfl : x2 = (6 : Int32) := zs_eqv h_x2 (by decide)
  obtain rfl : t3 = (0 : Int32) := zs_eqv h_t3 (by decide)
  refine zs_gd (zs_gin h_t1 (by decide)) ?_
  refine zs_lt (Q := fun z => zs_C σ0 z) (zs_wrt h_σ (fun _ => rfl) (fun _ => rfl)) (fun σ_2 hσ_2 => ?_)
  obtain ⟨ret, er, hr⟩ := zc_731 hσ_2 h_x2 h_x4 hc
  refine ⟨ret, er, ?_⟩
  exact (zs_sumw hr (fun v w => ⟨w.1, w.2⟩) (fun v w => w.elim))
-- BX0_tickleByNets_147
theorem zc_733 {σ0 : sn_S} {σ : sn_S} (h_σ : zs_C σ0 σ) {x2 : Int32} (h_x2 : zs_in x2.toInt 6 6) {x3 : Int32} {x4 : Int32} (h_x4 : zs_in x4.toInt 0 7) {t1 : Int32} (h_t1 : zs_in t1.toInt 6 11) {t2 : Int32} {t3 : Int32} (h_t3 : zs_in t3.toInt 5 5) {c : Int} (hc : x4.toInt = c + 0) : zs_ok (BX0_tickleByNets_147 σ 59 x2 x3 x4 t1 t2 t3) (fun r => zs_sum (fun v => ((zs_C σ0 v.1 ∧ zs_in (v.2).toInt 1 8)) ∧ v.2.toInt = c + 1) (fun v => False) r) := by
  unfold BX0_tickleByNets_147
  obtain rfl : x2 = (6 : Int32) := zs_eqv h_x2 (by decide)
  obtain rfl : t3 = (5 : Int32) := zs_eqv h_t3 (by decide)
  refine zs_gd (zs_gin h_t1 (by decide)) ?_
  refine zs_lt (Q := fun z => zs_C σ0 z) (zs_wrt h_σ (fun _ => rfl) (fun _ => rfl)) (fun σ_2 hσ_2 => ?_)
  obtain ⟨ret, er, hr⟩ := zc_731 hσ_2 h_x2 h_x4 hc
  refine ⟨ret, er, ?_⟩
  exact (zs_sumw hr (fun v w => ⟨w.1, w.2⟩) (fun v w => w.elim))
-- BX0_tickleByNets_121
theorem zc_734 {σ0 : sn_S} {σ : sn_S} (h_σ : zs_C σ0 σ) {x2 : Int32} (h_x2 : zs_in x2.toInt 6 6) {x3 : Int32} {x4 : Int32} (h_x4 : zs_in x4.toInt 0 7) {x5 : Int32} (h_x5 : zs_in x5.toInt 0 5) {x6 : Int32} (h_x6 : zs_in x6.toInt 0 5) {t1 : Int32} (h_t1 : zs_in t1.toInt 6 11) {t2 : Int32} {t3 : Int32} (h_t3 : zs_in t3.toInt 0 0) {c : Int} (hc : x4.toInt = c + 0) : zs_ok (BX0_tickleByNets_121 σ 59 x2 x3 x4 x5 x6 t1 t2 t3) (fun r => zs_sum (fun v => ((zs_C σ0 v.1 ∧ zs_in (v.2).toInt 1 8)) ∧ v.2.toInt = c + 1) (fun v => False) r) := by
  unfold BX0_tickleByNets_121
  obtain rfl : x2 = (6 : Int32) := zs_eqv h_x2 (by decide)
  obtain rfl : t3 = (0 : Int32) := zs_eqv h_t3 (by decide)
  refine zs_gd (zs_gin h_t1 (by decide)) ?_
  refine zs_lt (Q := fun z => zs_C σ0 z) (zs_wrt h_σ (fun _ => rfl) (fun _ => rfl)) (fun σ_2 hσ_2 => ?_)
  refine zs_gd (zs_gin (zs_addI 6 11 h_x2 h_x6 (by decide)) (by decide)) ?_
  refine zs_bd_ (zc_319 h_x5) (fun t_5 pt_5 => ?_)
  refine zs_ite (fun c1 => ?_) (fun c1 => ?_)
  · skip
    have r2 := (zs_I_eq c1)
    have g3 : zs_in (t_5).toInt 0 0 := (zs_eql 0 0 r2 pt_5 zlI_0 (by decide))
    obtain ⟨ret, er, hr⟩ := zc_732 hσ_2 h_x2 h_x4 (zs_addI 6 11 h_x2 h_x6 (by decide)) zlI_0 hc
    refine ⟨ret, er, ?_⟩
    exact (zs_sumw hr (fun v w => ⟨w.1, w.2⟩) (fun v w => w.elim))
  · skip
    have r4 := (zs_I_eqn c1)
    have g5 : zs_in (t_5).toInt 1 1 := (zs_nel 1 1 r4 pt_5 zlI_0 (by decide))
    obtain ⟨ret, er, hr⟩ := zc_733 hσ_2 h_x2 h_x4 (zs_addI 6 11 h_x2 h_x6 (by decide)) zlI_5 hc
    refine ⟨ret, er, ?_⟩
    exact (zs_sumw hr (fun v w => ⟨w.1, w.2⟩) (fun v w => w.elim))
-- BX0_tickleByNets_121
theorem zc_735 {σ0 : sn_S} {σ : sn_S} (h_σ : zs_C σ0 σ) {x2 : Int32} (h_x2 : zs_in x2.toInt 6 6) {x3 : Int32} {x4 : Int32} (h_x4 : zs_in x4.toInt 0 7) {x5 : Int32} (h_x5 : zs_in x5.toInt 0 5) {x6 : Int32} (h_x6 : zs_in x6.toInt 0 5) {t1 : Int32} (h_t1 : zs_in t1.toInt 6 11) {t2 : Int32} {t3 : Int32} (h_t3 : zs_in t3.toInt 5 5) {c : Int} (hc : x4.toInt = c + 0) : zs_ok (BX0_tickleByNets_121 σ 59 x2 x3 x4 x5 x6 t1 t2 t3) (fun r => zs_sum (fun v => ((zs_C σ0 v.1 ∧ zs_in (v.2).toInt 1 8)) ∧ v.2.toInt = c + 1) (fun v => False) r) := by
  unfold BX0_tickleByNets_121
  obtain rfl : x2 = (6 : Int32) := zs_eqv h_x2 (by decide)
  obtain rfl : t3 = (5 : Int32) := zs_eqv h_t3 (by decide)
  refine zs_gd (zs_gin h_t1 (by decide)) ?_
  refine zs_lt (Q := fun z => zs_C σ0 z) (zs_wrt h_σ (fun _ => rfl) (fun _ => rfl)) (fun σ_2 hσ_2 => ?_)
  refine zs_gd (zs_gin (zs_addI 6 11 h_x2 h_x6 (by decide)) (by decide)) ?_
  refine zs_bd_ (zc_319 h_x5) (fun t_5 pt_5 => ?_)
  refine zs_ite (fun c1 => ?_) (fun c1 => ?_)
  · skip
    have r2 := (zs_I_eq c1)
    have g3 : zs_in (t_5).toInt 0 0 := (zs_eql 0 0 r2 pt_5 zlI_0 (by decide))
    obtain ⟨ret, er, hr⟩ := zc_732 hσ_2 h_x2 h_x4 (zs_addI 6 11 h_x2 h_x6 (by decide)) zlI_0 hc
    refine ⟨ret, er, ?_⟩
    exact (zs_sumw hr (fun v w => ⟨w.1, w.2⟩) (fun v w => w.elim))
  · skip
    have r4 := (zs_I_eqn c1)
    have g5 : zs_in (t_5).toInt 1 1 := (zs_nel 1 1 r4 pt_5 zlI_0 (by decide))
    obtain ⟨ret, er, hr⟩ := zc_733 hσ_2 h_x2 h_x4 (zs_addI 6 11 h_x2 h_x6 (by decide)) zlI_5 hc
    refine ⟨ret, er, ?_⟩
    exact (zs_sumw hr (fun v w => ⟨w.1, w.2⟩) (fun v w => w.elim))
-- BX0_tickleByNets_55
theorem zc_736 {σ0 : sn_S} {σ : sn_S} (h_σ : zs_C σ0 σ) {x2 : Int32} (h_x2 : zs_in x2.toInt 6 6) {x3 : Int32} {x4 : Int32} (h_x4 : zs_in x4.toInt 0 8) {c : Int} (hc : x4.toInt = c + 0) : zs_ok (BX0_tickleByNets_55 σ 59 x2 x3 x4) (fun r => zs_sum (fun v => ((zs_C σ0 v.1 ∧ zs_in (v.2).toInt 1 8)) ∧ v.2.toInt = c + 1) (fun v => zs_C σ0 v) r) := by
  unfold BX0_tickleByNets_55
  obtain rfl : x2 = (6 : Int32) := zs_eqv h_x2 (by decide)
  refine zs_ite (fun c1 => ?_) (fun c1 => ?_)
  · skip
    have r2 := (zs_I_le c1)
    exact zs_some (zs_inr (h_σ))
  · skip
    have r3 := (zs_I_len c1)
    have g4 : zs_in (x4).toInt 0 7 := (zs_ltl 0 7 r3 h_x4 (zs_rdk (q := 59) (k := 2) (z := (0, 8)) h_σ.1 rfl) (by decide))
    have g5 : zs_in ((sn_I σ 59 2)).toInt 1 8 := (zs_ltr 1 8 r3 h_x4 (zs_rdk (q := 59) (k := 2) (z := (0, 8)) h_σ.1 rfl) (by decide))
    refine zs_ite (fun c6 => ?_) (fun c6 => ?_)
    · skip
      have r7 := (zs_I_eq c6)
      have g8 : zs_in ((sn_I σ 59 3)).toInt 0 7 := (zs_eqr 0 7 r7 g4 (zs_topI _) (by decide))
      obtain ⟨ret, er, hr⟩ := zc_731 h_σ h_x2 g4 hc
      refine ⟨ret, er, ?_⟩
      exact (zs_sumw hr (fun v w => ⟨w.1, w.2⟩) (fun v w => w.elim))
    · skip
      have r9 := (zs_I_eqn c6)
      refine zs_gd (zs_gin (zs_mulI 0 14 zlI_2 g4 (by decide)) (by decide)) ?_
      refine zs_lt (Q := fun z => zs_in z.toInt 0 5) (zs_use (h_σ.1.2 rfl).2.2.2.1 g4 (by decide) r3 (zs_i20 g4 (by decide))) (fun y_4 hy_4 => ?_)
      refine zs_gd (zs_gin (zs_addI 1 15 (zs_mulI 0 14 zlI_2 g4 (by decide)) zlI_1 (by decide)) (by decide)) ?_
      refine zs_lt (Q := fun z => zs_in z.toInt 0 5) (zs_use (h_σ.1.2 rfl).2.2.2.2 g4 (by decide) r3 (zs_i21 g4 (by decide))) (fun y_7 hy_7 => ?_)
      refine zs_gd (zs_gin (zs_addI 6 11 h_x2 hy_4 (by decide)) (by decide)) ?_
      refine zs_bd_ (zc_319 hy_7) (fun t_10 pt_10 => ?_)
      refine zs_ite (fun c10 => ?_) (fun c10 => ?_)
      · skip
        have r11 := (zs_I_eq c10)
        have g12 : zs_in (t_10).toInt 0 0 := (zs_eql 0 0 r11 pt_10 zlI_0 (by decide))
        obtain ⟨ret, er, hr⟩ := zc_734 h_σ h_x2 g4 hy_4 hy_7 (zs_addI 6 11 h_x2 hy_4 (by decide)) zlI_0 hc
        refine ⟨ret, er, ?_⟩
        exact (zs_sumw hr (fun v w => ⟨w.1, w.2⟩) (fun v w => w.elim))
      · skip
        have r13 := (zs_I_eqn c10)
        have g14 : zs_in (t_10).toInt 1 1 := (zs_nel 1 1 r13 pt_10 zlI_0 (by decide))
        obtain ⟨ret, er, hr⟩ := zc_735 h_σ h_x2 g4 hy_4 hy_7 (zs_addI 6 11 h_x2 hy_4 (by decide)) zlI_5 hc
        refine ⟨ret, er, ?_⟩
        exact (zs_sumw hr (fun v w => ⟨w.1, w.2⟩) (fun v w => w.elim))
theorem zd_130 {σ0 : sn_S} {x2 : Int32} (h_x2 : zs_in x2.toInt 6 6) {x3 : Int32} {s0 : (sn_S × Int32)} (h0 : (zs_C σ0 s0.1 ∧ zs_in (s0.2).toInt 0 8)) : zs_ok (sn_it (LX0_tickleByNets_55 59 x2 x3) 5000 s0) (fun t => zs_C σ0 t) := by
  refine zs_it (I := fun s => (zs_C σ0 s.1 ∧ zs_in (s.2).toInt 0 8)) (m := fun s => 8 - s.2.toInt) (fun s hs => ?_) (fun s hs => ?_) (by exact h0)
  · have h1 := hs.2; unfold zs_in at h1
    omega
  · obtain ⟨b, eb, hb⟩ := zc_736 hs.1 h_x2 hs.2 (c := s.2.toInt) (Int.add_zero _).symm
    exact ⟨b, eb, zs_sumw hb (fun v w => ⟨⟨w.1.1, (zs_w w.1.2 (by decide))⟩, by have := w.2; omega⟩) (fun v w => w)⟩
-- BX0_tickleByNets_155
theorem zc_737 {σ0 : sn_S} {σ : sn_S} (h_σ : zs_C σ0 σ) : zs_ok (BX0_tickleByNets_155 σ 59) (fun r => zs_C σ0 r) := by
  unfold BX0_tickleByNets_155
  exact zs_some h_σ
-- BX0_tickleByNets_46
theorem zc_738 {σ0 : sn_S} {σ : sn_S} (h_σ : zs_C σ0 σ) {x2 : Int32} (h_x2 : zs_in x2.toInt 6 6) {t0 : Int32} : zs_ok (BX0_tickleByNets_46 σ 59 x2 t0) (fun r => zs_C σ0 r) := by
  unfold BX0_tickleByNets_46
  obtain rfl : x2 = (6 : Int32) := zs_eqv h_x2 (by decide)
  refine zs_ite (fun c1 => ?_) (fun c1 => ?_)
  · skip
    have r2 := (zs_I_eq c1)
    have g3 : zs_in (t0).toInt 0 0 := (zs_eql 0 0 r2 (zs_topI _) zlI_0 (by decide))
    exact zs_some h_σ
  · skip
    have r4 := (zs_I_eqn c1)
    refine zs_bd_ (zd_130 h_x2 (s0 := (σ, (0 : Int32))) ⟨h_σ, (zs_w zlI_0 (by decide))⟩) (fun t_2 pt_2 => ?_)
    obtain ⟨ret, er, hr⟩ := zc_737 pt_2
    refine ⟨ret, er, ?_⟩
    exact hr
-- BX0_tickleByNets_30
theorem zc_739 {σ0 : sn_S} {σ : sn_S} (h_σ : zs_C σ0 σ) {x1 : Int32} (h_x1 : zs_in x1.toInt 0 1) {x2 : Int32} (h_x2 : zs_in x2.toInt 0 6) (hl_x1 : x2.toInt = 6 * x1.toInt) : zs_ok (BX0_tickleByNets_30 σ 59 x1 x2) (fun r => zs_C σ0 r) := by
  unfold BX0_tickleByNets_30
  refine zs_ite (fun c1 => ?_) (fun c1 => ?_)
  · skip
    have r2 := (zs_I_eq c1)
    have g3 : zs_in (x1).toInt 0 0 := (zs_eql 0 0 r2 h_x1 zlI_0 (by decide))
    have g4 : zs_in (x2).toInt 0 0 := (zs_lin 0 0 hl_x1 g3 (by decide))
    obtain ⟨ret, er, hr⟩ := zc_682 h_σ g4 zlI_0
    refine ⟨ret, er, ?_⟩
    exact hr
  · skip
    have r5 := (zs_I_eqn c1)
    have g6 : zs_in (x1).toInt 1 1 := (zs_nel 1 1 r5 h_x1 zlI_0 (by decide))
    have g7 : zs_in (x2).toInt 6 6 := (zs_lin 6 6 hl_x1 g6 (by decide))
    refine zs_gd (zs_gin (zs_subI 0 0 g6 zlI_1 (by decide)) (by decide)) ?_
    obtain ⟨ret, er, hr⟩ := zc_738 h_σ g7
    refine ⟨ret, er, ?_⟩
    exact hr
-- fX0_tickleByNets
theorem zc_740 {σ0 : sn_S} {σ : sn_S} (h_σ : zs_C σ0 σ) {x1 : Int32} (h_x1 : zs_in x1.toInt 0 1) : zs_ok (fX0_tickleByNets σ 59 x1) (fun r => zs_C σ0 r) := by
  unfold fX0_tickleByNets
  refine zs_lt (Q := fun z => zs_in z.toInt 0 6 ∧ z = ((6 : Int32) * x1)) ⟨(zs_mulI 0 6 zlI_6 h_x1 (by decide)), rfl⟩ (fun y_1 hy_1 => ?_)
  refine zs_bd_ (zd_129 h_x1 hy_1.1 (zs_linv hy_1.2 zlI_6 h_x1 (by decide)) (s0 := (σ, (0 : Int32))) ⟨h_σ, (zs_w zlI_0 (by decide))⟩) (fun t_3 pt_3 => ?_)
  obtain ⟨ret, er, hr⟩ := zc_739 pt_3 h_x1 hy_1.1 (zs_linv hy_1.2 zlI_6 h_x1 (by decide))
  refine ⟨ret, er, ?_⟩
  exact hr
-- fX8_hasBit
theorem zc_741 {x0 : Int32} {x1 : Int32} (h_x1 : zs_in x1.toInt 0 1) : zs_ok (fX8_hasBit x0 x1) (fun r => zs_in (r).toInt 0 1) := by
  unfold fX8_hasBit
  refine zs_ite (fun c1 => ?_) (fun c1 => ?_)
  · skip
    have r2 := (zs_I_eq c1)
    have g3 : zs_in (((x0 >>> (x1 &&& 31)) &&& (1 : Int32))).toInt 1 1 := (zs_eql 1 1 r2 (zs_and zlI_1 (by decide)) zlI_1 (by decide))
    refine zs_gd (zs_b01 zlI_1 (by decide)) ?_
    exact zs_some (zs_w zlI_1 (by decide))
  · skip
    have r4 := (zs_I_eqn c1)
    have g5 : zs_in (((x0 >>> (x1 &&& 31)) &&& (1 : Int32))).toInt 0 0 := (zs_neh 0 0 r4 (zs_and zlI_1 (by decide)) zlI_1 (by decide))
    refine zs_gd (zs_b01 zlI_0 (by decide)) ?_
    exact zs_some (zs_w zlI_0 (by decide))
-- fX0_cameAt
theorem zc_742 {σ0 : sn_S} {σ : sn_S} (h_σ : zs_C σ0 σ) {x1 : Int32} (h_x1 : zs_in x1.toInt 0 5) {x2 : Int32} (h_x2 : zs_in x2.toInt 0 1) : zs_ok (fX0_cameAt σ 59 x1 x2) (fun r => True) := by
  unfold fX0_cameAt
  refine zs_gd (zs_gin (zs_addI 0 11 (zs_mulI 0 6 zlI_6 h_x2 (by decide)) h_x1 (by decide)) (by decide)) ?_
  exact zs_some trivial
-- BX0_comesTo_19
theorem zc_743 {σ0 : sn_S} {σ : sn_S} (h_σ : zs_C σ0 σ) {x1 : Int32} (h_x1 : zs_in x1.toInt 0 5) {x2 : Int32} (h_x2 : zs_in x2.toInt 0 1) {t0 : Int32} (h_t0 : zs_in t0.toInt 0 0) : zs_ok (BX0_comesTo_19 σ 59 x1 x2 t0) (fun r => True) := by
  unfold BX0_comesTo_19
  obtain rfl : t0 = (0 : Int32) := zs_eqv h_t0 (by decide)
  refine zs_gd (zs_gin h_x1 (by decide)) ?_
  refine zs_gd (zs_gin h_x2 (by decide)) ?_
  refine zs_bd_ (zc_742 h_σ h_x1 h_x2) (fun t_3 pt_3 => ?_)
  exact zs_some trivial
-- BX0_comesTo_19
theorem zc_744 {σ0 : sn_S} {σ : sn_S} (h_σ : zs_C σ0 σ) {x1 : Int32} (h_x1 : zs_in x1.toInt 0 5) {x2 : Int32} (h_x2 : zs_in x2.toInt 0 1) {t0 : Int32} (h_t0 : zs_in t0.toInt 40 40) : zs_ok (BX0_comesTo_19 σ 59 x1 x2 t0) (fun r => True) := by
  unfold BX0_comesTo_19
  obtain rfl : t0 = (40 : Int32) := zs_eqv h_t0 (by decide)
  refine zs_gd (zs_gin h_x1 (by decide)) ?_
  refine zs_gd (zs_gin h_x2 (by decide)) ?_
  refine zs_bd_ (zc_742 h_σ h_x1 h_x2) (fun t_3 pt_3 => ?_)
  exact zs_some trivial
-- fX0_comesTo
theorem zc_745 {σ0 : sn_S} {σ : sn_S} (h_σ : zs_C σ0 σ) {x1 : Int32} (h_x1 : zs_in x1.toInt 0 5) {x2 : Int32} (h_x2 : zs_in x2.toInt 0 1) : zs_ok (fX0_comesTo σ 59 x1 x2) (fun r => True) := by
  unfold fX0_comesTo
  refine zs_gd (zs_gin h_x1 (by decide)) ?_
  refine zs_bd_ (zc_741 h_x2) (fun t_2 pt_2 => ?_)
  refine zs_ite (fun c1 => ?_) (fun c1 => ?_)
  · skip
    have r2 := (zs_I_eq c1)
    have g3 : zs_in (t_2).toInt 0 0 := (zs_eql 0 0 r2 pt_2 zlI_0 (by decide))
    obtain ⟨ret, er, hr⟩ := zc_743 h_σ h_x1 h_x2 zlI_0
    refine ⟨ret, er, ?_⟩
    exact hr
  · skip
    have r4 := (zs_I_eqn c1)
    have g5 : zs_in (t_2).toInt 1 1 := (zs_nel 1 1 r4 pt_2 zlI_0 (by decide))
    obtain ⟨ret, er, hr⟩ := zc_744 h_σ h_x1 h_x2 zlI_40
    refine ⟨ret, er, ?_⟩
    exact hr
-- BX0_liveMinute_98
theorem zc_746 {σ0 : sn_S} {σ : sn_S} (h_σ : zs_C σ0 σ) {x1 : Int32} (h_x1 : zs_in x1.toInt 1 1) {x2 : Int32} (h_x2 : zs_in x2.toInt 6 6) {x3 : Int32} {x4 : Int32} (h_x4 : zs_in x4.toInt 0 5) {x5 : Int32} (h_x5 : zs_in x5.toInt (-2147483648) 2147483646) (hl_x1 : x2.toInt = 6 * x1.toInt) {c : Int} (hc : x4.toInt = c + 0) : zs_ok (BX0_liveMinute_98 σ 59 x1 x2 x3 x4 x5) (fun r => zs_sum (fun v => ((zs_C σ0 v.1 ∧ (True ∧ zs_in (v.2.2).toInt 1 6))) ∧ v.2.2.toInt = c + 1) (fun v => False) r) := by
  unfold BX0_liveMinute_98
  refine zs_gd (zs_gin (zs_addI 6 11 h_x2 h_x4 (by decide)) (by decide)) ?_
  refine zs_lt (Q := fun z => zs_C σ0 z) (zs_wrt h_σ (fun _ => rfl) (fun _ => rfl)) (fun σ_2 hσ_2 => ?_)
  refine zs_lt (Q := fun z => zs_in z.toInt 1 6 ∧ z.toInt = c + 1) ⟨(zs_addI 1 6 h_x4 zlI_1 (by decide)), (zs_syI 1 hc h_x4 zlI_1 (by decide) (by decide))⟩ (fun y_4 hy_4 => ?_)
  exact zs_some (zs_inl ⟨⟨hσ_2, ⟨trivial, hy_4.1⟩⟩, hy_4.2⟩)
-- fX8_hasBit
theorem zc_747 {x0 : Int32} {x1 : Int32} (h_x1 : zs_in x1.toInt 1 1) : zs_ok (fX8_hasBit x0 x1) (fun r => zs_in (r).toInt 0 1) := by
  unfold fX8_hasBit
  obtain rfl : x1 = (1 : Int32) := zs_eqv h_x1 (by decide)
  refine zs_ite (fun c1 => ?_) (fun c1 => ?_)
  · skip
    have r2 := (zs_I_eq c1)
    have g3 : zs_in (((x0 >>> ((1 : Int32) &&& 31)) &&& (1 : Int32))).toInt 1 1 := (zs_eql 1 1 r2 (zs_and zlI_1 (by decide)) zlI_1 (by decide))
    refine zs_gd (zs_b01 zlI_1 (by decide)) ?_
    exact zs_some (zs_w zlI_1 (by decide))
  · skip
    have r4 := (zs_I_eqn c1)
    have g5 : zs_in (((x0 >>> ((1 : Int32) &&& 31)) &&& (1 : Int32))).toInt 0 0 := (zs_neh 0 0 r4 (zs_and zlI_1 (by decide)) zlI_1 (by decide))
    refine zs_gd (zs_b01 zlI_0 (by decide)) ?_
    exact zs_some (zs_w zlI_0 (by decide))
-- BX0_liveMinute_98
theorem zc_748 {σ0 : sn_S} {σ : sn_S} (h_σ : zs_C σ0 σ) {x1 : Int32} (h_x1 : zs_in x1.toInt 1 1) {x2 : Int32} (h_x2 : zs_in x2.toInt 6 6) {x3 : Int32} {x4 : Int32} (h_x4 : zs_in x4.toInt 0 5) {x5 : Int32} (h_x5 : zs_in x5.toInt 0 0) (hl_x1 : x2.toInt = 6 * x1.toInt) {c : Int} (hc : x4.toInt = c + 0) : zs_ok (BX0_liveMinute_98 σ 59 x1 x2 x3 x4 x5) (fun r => zs_sum (fun v => ((zs_C σ0 v.1 ∧ (True ∧ zs_in (v.2.2).toInt 1 6))) ∧ v.2.2.toInt = c + 1) (fun v => False) r) := by
  unfold BX0_liveMinute_98
  obtain rfl : x5 = (0 : Int32) := zs_eqv h_x5 (by decide)
  refine zs_gd (zs_gin (zs_addI 6 11 h_x2 h_x4 (by decide)) (by decide)) ?_
  refine zs_lt (Q := fun z => zs_C σ0 z) (zs_wrt h_σ (fun _ => rfl) (fun _ => rfl)) (fun σ_2 hσ_2 => ?_)
  refine zs_lt (Q := fun z => zs_in z.toInt 1 6 ∧ z.toInt = c + 1) ⟨(zs_addI 1 6 h_x4 zlI_1 (by decide)), (zs_syI 1 hc h_x4 zlI_1 (by decide) (by decide))⟩ (fun y_4 hy_4 => ?_)
  exact zs_some (zs_inl ⟨⟨hσ_2, ⟨trivial, hy_4.1⟩⟩, hy_4.2⟩)
-- BX0_liveMinute_98
theorem zc_749 {σ0 : sn_S} {σ : sn_S} (h_σ : zs_C σ0 σ) {x1 : Int32} (h_x1 : zs_in x1.toInt 1 1) {x2 : Int32} (h_x2 : zs_in x2.toInt 6 6) {x3 : Int32} {x4 : Int32} (h_x4 : zs_in x4.toInt 0 5) {x5 : Int32} (hl_x1 : x2.toInt = 6 * x1.toInt) {c : Int} (hc : x4.toInt = c + 0) : zs_ok (BX0_liveMinute_98 σ 59 x1 x2 x3 x4 x5) (fun r => zs_sum (fun v => ((zs_C σ0 v.1 ∧ (True ∧ zs_in (v.2.2).toInt 1 6))) ∧ v.2.2.toInt = c + 1) (fun v => False) r) := by
  unfold BX0_liveMinute_98
  refine zs_gd (zs_gin (zs_addI 6 11 h_x2 h_x4 (by decide)) (by decide)) ?_
  refine zs_lt (Q := fun z => zs_C σ0 z) (zs_wrt h_σ (fun _ => rfl) (fun _ => rfl)) (fun σ_2 hσ_2 => ?_)
  refine zs_lt (Q := fun z => zs_in z.toInt 1 6 ∧ z.toInt = c + 1) ⟨(zs_addI 1 6 h_x4 zlI_1 (by decide)), (zs_syI 1 hc h_x4 zlI_1 (by decide) (by decide))⟩ (fun y_4 hy_4 => ?_)
  exact zs_some (zs_inl ⟨⟨hσ_2, ⟨trivial, hy_4.1⟩⟩, hy_4.2⟩)
-- BX0_liveMinute_46
theorem zc_750 {σ0 : sn_S} {σ : sn_S} (h_σ : zs_C σ0 σ) {x1 : Int32} (h_x1 : zs_in x1.toInt 1 1) {x2 : Int32} (h_x2 : zs_in x2.toInt 6 6) {x3 : Int32} {x4 : Int32} (h_x4 : zs_in x4.toInt 0 5) {t0 : Int32} {t1 : Int32} (hl_x1 : x2.toInt = 6 * x1.toInt) {c : Int} (hc : x4.toInt = c + 0) : zs_ok (BX0_liveMinute_46 σ 59 x1 x2 x3 x4 t0 t1) (fun r => zs_sum (fun v => ((zs_C σ0 v.1 ∧ (True ∧ zs_in (v.2.2).toInt 1 6))) ∧ v.2.2.toInt = c + 1) (fun v => False) r) := by
  unfold BX0_liveMinute_46
  refine zs_lt (Q := fun z => True) trivial (fun y_1 hy_1 => ?_)
  refine zs_gd (zs_gin h_x4 (by decide)) ?_
  refine zs_ite (fun c1 => ?_) (fun c1 => ?_)
  · skip
    have r2 := (zs_I_lt c1)
    have g3 : zs_in (y_1).toInt (-2147483648) 2147483646 := (zs_ltl (-2147483648) 2147483646 r2 (zs_topI _) (zs_topI _) (by decide))
    have g4 : zs_in ((sn_I σ (59 + 3) x4.toNatClampNeg)).toInt (-2147483647) 2147483647 := (zs_ltr (-2147483647) 2147483647 r2 (zs_topI _) (zs_topI _) (by decide))
    obtain ⟨ret, er, hr⟩ := zc_746 h_σ h_x1 h_x2 h_x4 g3 hl_x1 hc
    refine ⟨ret, er, ?_⟩
    exact (zs_sumw hr (fun v w => ⟨w.1, w.2⟩) (fun v w => w.elim))
  · skip
    have r5 := (zs_I_ltn c1)
    refine zs_gd (zs_gin h_x4 (by decide)) ?_
    refine zs_bd_ (zc_747 h_x1) (fun t_6 pt_6 => ?_)
    refine zs_ite (fun c6 => ?_) (fun c6 => ?_)
    · skip
      have r7 := (zs_I_eq c6)
      have g8 : zs_in (t_6).toInt 0 0 := (zs_eql 0 0 r7 pt_6 zlI_0 (by decide))
      refine zs_lt (Q := fun z => True) trivial (fun y_9 hy_9 => ?_)
      refine zs_gd (zs_gin h_x4 (by decide)) ?_
      refine zs_gd (zs_gin h_x4 (by decide)) ?_
      refine zs_lt (Q := fun z => zs_C σ0 z) (zs_wru (z := (0, 1073741823)) h_σ (fun _ => rfl) (zs_or 30 1073741823 (zs_rdu (q := 69) (z := (0, 1073741823)) h_σ.1 (fun _ => rfl)) (zs_cases h_x1 (fun z => zs_in ((1 : Int32) <<< (z &&& 31)).toInt 2 2) (by decide +kernel)) (by decide)) (by decide) (fun _ => rfl)) (fun σ_13 hσ_13 => ?_)
      obtain ⟨ret, er, hr⟩ := zc_748 hσ_13 h_x1 h_x2 h_x4 zlI_0 hl_x1 hc
      refine ⟨ret, er, ?_⟩
      exact (zs_sumw hr (fun v w => ⟨w.1, w.2⟩) (fun v w => w.elim))
    · skip
      have r9 := (zs_I_eqn c6)
      have g10 : zs_in (t_6).toInt 1 1 := (zs_nel 1 1 r9 pt_6 zlI_0 (by decide))
      obtain ⟨ret, er, hr⟩ := zc_749 h_σ h_x1 h_x2 h_x4 hl_x1 hc
      refine ⟨ret, er, ?_⟩
      exact (zs_sumw hr (fun v w => ⟨w.1, w.2⟩) (fun v w => w.elim))
-- BX0_liveMinute_10
theorem zc_751 {σ0 : sn_S} {σ : sn_S} (h_σ : zs_C σ0 σ) {x1 : Int32} (h_x1 : zs_in x1.toInt 0 1) {x2 : Int32} (h_x2 : zs_in x2.toInt 0 6) {x3 : Int32} {x4 : Int32} (h_x4 : zs_in x4.toInt 0 6) (hl_x1 : x2.toInt = 6 * x1.toInt) {c : Int} (hc : x4.toInt = c + 0) : zs_ok (BX0_liveMinute_10 σ 59 x1 x2 x3 x4) (fun r => zs_sum (fun v => ((zs_C σ0 v.1 ∧ (True ∧ zs_in (v.2.2).toInt 1 6))) ∧ v.2.2.toInt = c + 1) (fun v => (zs_C σ0 v.1 ∧ True)) r) := by
  unfold BX0_liveMinute_10
  refine zs_ite (fun c1 => ?_) (fun c1 => ?_)
  · skip
    have r2 := (zs_I_le c1)
    exact zs_some (zs_inr (⟨h_σ, trivial⟩))
  · skip
    have r3 := (zs_I_len c1)
    have g4 : zs_in (x4).toInt 0 5 := (zs_ltl 0 5 r3 h_x4 (zs_rdk (q := 59) (k := 1) (z := (0, 6)) h_σ.1 rfl) (by decide))
    have g5 : zs_in ((sn_I σ 59 1)).toInt 1 6 := (zs_ltr 1 6 r3 h_x4 (zs_rdk (q := 59) (k := 1) (z := (0, 6)) h_σ.1 rfl) (by decide))
    refine zs_bd_ (zc_745 h_σ g4 h_x1) (fun t_2 pt_2 => ?_)
    refine zs_ite (fun c6 => ?_) (fun c6 => ?_)
    · skip
      have r7 := (zs_I_eq c6)
      have g8 : zs_in (x1).toInt 0 0 := (zs_eql 0 0 r7 h_x1 zlI_0 (by decide))
      have g9 : zs_in (x2).toInt 0 0 := (zs_lin 0 0 hl_x1 g8 (by decide))
      obtain ⟨ret, er, hr⟩ := zc_692 h_σ g8 g9 g4 zlI_0 hl_x1 hc
      refine ⟨ret, er, ?_⟩
      exact (zs_sumw hr (fun v w => ⟨w.1, w.2⟩) (fun v w => w.elim))
    · skip
      have r10 := (zs_I_eqn c6)
      have g11 : zs_in (x1).toInt 1 1 := (zs_nel 1 1 r10 h_x1 zlI_0 (by decide))
      have g12 : zs_in (x2).toInt 6 6 := (zs_lin 6 6 hl_x1 g11 (by decide))
      refine zs_gd (zs_gin (zs_addI 0 5 (zs_subI 0 0 g12 zlI_6 (by decide)) g4 (by decide)) (by decide)) ?_
      obtain ⟨ret, er, hr⟩ := zc_750 h_σ g11 g12 g4 hl_x1 hc
      refine ⟨ret, er, ?_⟩
      exact (zs_sumw hr (fun v w => ⟨w.1, w.2⟩) (fun v w => w.elim))
theorem zd_131 {σ0 : sn_S} {x1 : Int32} (h_x1 : zs_in x1.toInt 0 1) {x2 : Int32} (h_x2 : zs_in x2.toInt 0 6) (hl_x1 : x2.toInt = 6 * x1.toInt) {s0 : (sn_S × (Int32 × Int32))} (h0 : (zs_C σ0 s0.1 ∧ (True ∧ zs_in (s0.2.2).toInt 0 6))) : zs_ok (sn_it (LX0_liveMinute_10 59 x1 x2) 5000 s0) (fun t => (zs_C σ0 t.1 ∧ True)) := by
  refine zs_it (I := fun s => (zs_C σ0 s.1 ∧ (True ∧ zs_in (s.2.2).toInt 0 6))) (m := fun s => 6 - s.2.2.toInt) (fun s hs => ?_) (fun s hs => ?_) (by exact h0)
  · have h1 := hs.2.2; unfold zs_in at h1
    omega
  · obtain ⟨b, eb, hb⟩ := zc_751 hs.1 h_x1 h_x2 hs.2.2 hl_x1 (c := s.2.2.toInt) (Int.add_zero _).symm
    exact ⟨b, eb, zs_sumw hb (fun v w => ⟨⟨w.1.1, ⟨w.1.2.1, (zs_w w.1.2.2 (by decide))⟩⟩, by have := w.2; omega⟩) (fun v w => w)⟩
-- BX0_liveMinute_115
theorem zc_752 {σ0 : sn_S} {σ : sn_S} (h_σ : zs_C σ0 σ) {x1 : Int32} (h_x1 : zs_in x1.toInt 0 1) {x3 : Int32} : zs_ok (BX0_liveMinute_115 σ 59 x1 x3) (fun r => zs_C σ0 r) := by
  unfold BX0_liveMinute_115
  refine zs_gd (zs_gin h_x1 (by decide)) ?_
  refine zs_lt (Q := fun z => zs_C σ0 z) (zs_wrt h_σ (fun _ => rfl) (fun _ => rfl)) (fun σ_2 hσ_2 => ?_)
  exact zs_some hσ_2
-- fX0_liveMinute
theorem zc_753 {σ0 : sn_S} {σ : sn_S} (h_σ : zs_C σ0 σ) {x1 : Int32} (h_x1 : zs_in x1.toInt 0 1) : zs_ok (fX0_liveMinute σ 59 x1) (fun r => zs_C σ0 r) := by
  unfold fX0_liveMinute
  refine zs_lt (Q := fun z => zs_in z.toInt 0 6 ∧ z = ((6 : Int32) * x1)) ⟨(zs_mulI 0 6 zlI_6 h_x1 (by decide)), rfl⟩ (fun y_1 hy_1 => ?_)
  refine zs_bd_ (zd_131 h_x1 hy_1.1 (zs_linv hy_1.2 zlI_6 h_x1 (by decide)) (s0 := (σ, ((0 : Int32), (0 : Int32)))) ⟨h_σ, ⟨trivial, (zs_w zlI_0 (by decide))⟩⟩) (fun t_3 pt_3 => ?_)
  obtain ⟨ret, er, hr⟩ := zc_752 pt_3.1 h_x1
  refine ⟨ret, er, ?_⟩
  exact hr
-- BX0_live_31
theorem zc_754 {σ0 : sn_S} {σ : sn_S} (h_σ : zs_C σ0 σ) {x2 : Int32} (h_x2 : zs_in x2.toInt 2 2) {x3 : Int32} (h_x3 : zs_in x3.toInt 0 2) {c : Int} (hc : x3.toInt = c + 0) : zs_ok (BX0_live_31 σ 59 x2 x3) (fun r => zs_sum (fun v => ((zs_C σ0 v.1 ∧ zs_in (v.2).toInt 1 2)) ∧ v.2.toInt = c + 1) (fun v => zs_C σ0 v) r) := by
  unfold BX0_live_31
  obtain rfl : x2 = (2 : Int32) := zs_eqv h_x2 (by decide)
  refine zs_ite (fun c1 => ?_) (fun c1 => ?_)
  · skip
    have r2 := (zs_I_le c1)
    have g3 : zs_in (x3).toInt 2 2 := (zs_ler 2 2 r2 h_x2 h_x3 (by decide))
    exact zs_some (zs_inr (h_σ))
  · skip
    have r4 := (zs_I_len c1)
    have g5 : zs_in (x3).toInt 0 1 := (zs_ltl 0 1 r4 h_x3 h_x2 (by decide))
    refine zs_ite (fun c6 => ?_) (fun c6 => ?_)
    · skip
      have r7 := (zs_I_le c6)
      have g8 : zs_in ((sn_I σ 59 0)).toInt 0 1 := (zs_lel 0 1 r7 (zs_rdk (q := 59) (k := 0) (z := (0, 30)) h_σ.1 rfl) g5 (by decide))
      exact zs_some (zs_inr (h_σ))
    · skip
      have r9 := (zs_I_len c6)
      have g10 : zs_in ((sn_I σ 59 0)).toInt 1 30 := (zs_ltr 1 30 r9 g5 (zs_rdk (q := 59) (k := 0) (z := (0, 30)) h_σ.1 rfl) (by decide))
      refine zs_bd_ (zc_740 h_σ g5) (fun t_3 pt_3 => ?_)
      refine zs_bd_ (zc_753 pt_3 g5) (fun t_5 pt_5 => ?_)
      refine zs_lt (Q := fun z => zs_in z.toInt 1 2 ∧ z.toInt = c + 1) ⟨(zs_addI 1 2 g5 zlI_1 (by decide)), (zs_syI 1 hc g5 zlI_1 (by decide) (by decide))⟩ (fun y_7 hy_7 => ?_)
      exact zs_some (zs_inl ⟨⟨pt_5, hy_7.1⟩, hy_7.2⟩)
theorem zd_132 {σ0 : sn_S} {x2 : Int32} (h_x2 : zs_in x2.toInt 2 2) {s0 : (sn_S × Int32)} (h0 : (zs_C σ0 s0.1 ∧ zs_in (s0.2).toInt 0 2)) : zs_ok (sn_it (LX0_live_31 59 x2) 5000 s0) (fun t => zs_C σ0 t) := by
  refine zs_it (I := fun s => (zs_C σ0 s.1 ∧ zs_in (s.2).toInt 0 2)) (m := fun s => 2 - s.2.toInt) (fun s hs => ?_) (fun s hs => ?_) (by exact h0)
  · have h1 := hs.2; unfold zs_in at h1
    omega
  · obtain ⟨b, eb, hb⟩ := zc_754 hs.1 h_x2 hs.2 (c := s.2.toInt) (Int.add_zero _).symm
    exact ⟨b, eb, zs_sumw hb (fun v w => ⟨⟨w.1.1, (zs_w w.1.2 (by decide))⟩, by have := w.2; omega⟩) (fun v w => w)⟩
-- BX0_live_29
theorem zc_755 {σ0 : sn_S} {σ : sn_S} (h_σ : zs_C σ0 σ) {x1 : Int32} (h_x1 : zs_in x1.toInt 0 0) {x2 : Int32} (h_x2 : zs_in x2.toInt 2 2) : zs_ok (BX0_live_29 σ 59 x1 x2) (fun r => zs_C σ0 r) := by
  unfold BX0_live_29
  obtain rfl : x1 = (0 : Int32) := zs_eqv h_x1 (by decide)
  obtain rfl : x2 = (2 : Int32) := zs_eqv h_x2 (by decide)
  refine zs_bd_ (zd_132 h_x2 (s0 := (σ, (0 : Int32))) ⟨h_σ, (zs_w h_x1 (by decide))⟩) (fun t_1 pt_1 => ?_)
  obtain ⟨ret, er, hr⟩ := zc_697 pt_1
  refine ⟨ret, er, ?_⟩
  exact hr
-- fX0_live
theorem zc_756 {σ0 : sn_S} {σ : sn_S} (h_σ : zs_C σ0 σ) {x1 : Int32} (h_x1 : zs_in x1.toInt 0 0) {x2 : Int32} (h_x2 : zs_in x2.toInt 2 2) : zs_ok (fX0_live σ 59 x1 x2) (fun r => zs_C σ0 r) := by
  unfold fX0_live
  obtain rfl : x1 = (0 : Int32) := zs_eqv h_x1 (by decide)
  obtain rfl : x2 = (2 : Int32) := zs_eqv h_x2 (by decide)
  refine zs_bd_ (zd_128 h_x1 h_x2 (s0 := (σ, (0 : Int32))) ⟨h_σ, (zs_w zlI_0 (by decide))⟩) (fun t_1 pt_1 => ?_)
  obtain ⟨ret, er, hr⟩ := zc_755 pt_1 h_x1 h_x2
  refine ⟨ret, er, ?_⟩
  exact hr
-- fX4_worth
theorem zc_757 {σ0 : sn_S} {σ : sn_S} (h_σ : zs_C σ0 σ) {x2 : Int32} (h_x2 : zs_in x2.toInt 0 0) {x3 : Int32} (h_x3 : zs_in x3.toInt 0 5) {x4 : Int32} (h_x4 : zs_in x4.toInt 2 2) : zs_ok (fX4_worth σ 1 x2 x3 x4) (fun r => (zs_in (r.1).toInt 0 1 ∧ zs_C σ0 r.2)) := by
  unfold fX4_worth
  obtain rfl : x2 = (0 : Int32) := zs_eqv h_x2 (by decide)
  obtain rfl : x4 = (2 : Int32) := zs_eqv h_x4 (by decide)
  refine zs_ite (fun c1 => ?_) (fun c1 => ?_)
  · skip
    have r2 := (zs_I_eq c1)
    refine zs_gd (zs_gin h_x3 (by decide)) ?_
    refine zs_ite (fun c3 => ?_) (fun c3 => ?_)
    · skip
      have r4 := (zs_I_eq c3)
      have g5 : zs_in ((sn_I σ (59 + 10) x3.toNatClampNeg)).toInt 0 0 := (zs_eql 0 0 r4 (zs_rdu (q := 69) (z := (0, 1073741823)) h_σ.1 (fun _ => rfl)) zlI_0 (by decide))
      exact zs_some ⟨(zs_w zlL_0 (by decide)), h_σ⟩
    · skip
      have r6 := (zs_I_eqn c3)
      have g7 : zs_in ((sn_I σ (59 + 10) x3.toNatClampNeg)).toInt 1 1073741823 := (zs_nel 1 1073741823 r6 (zs_rdu (q := 69) (z := (0, 1073741823)) h_σ.1 (fun _ => rfl)) zlI_0 (by decide))
      exact zs_some ⟨(zs_w zlL_1 (by decide)), h_σ⟩
  · skip
    have r8 := (zs_I_eqn c1)
    exact (zs_botne r8 h_x2 zlI_0 (by decide)).elim
-- BX4_reckon_139
theorem zc_758 {σ0 : sn_S} {σ : sn_S} (h_σ : zs_C σ0 σ) {x3 : Int32} (h_x3 : zs_in x3.toInt 0 0) {x4 : Int32} (h_x4 : zs_in x4.toInt 0 5) {x6 : Int32} (h_x6 : zs_in x6.toInt 2 2) {x7 : Int32} (h_x7 : zs_in x7.toInt 0 0) {t1 : Int32} (h_t1 : zs_in t1.toInt 0 0) {t2 : Int32} (h_t2 : zs_in t2.toInt 2 2) {c : Int} (hc : x7.toInt = c + 0) : zs_ok (BX4_reckon_139 σ 1 27 x3 x4 x6 x7 t1 t2) (fun r => zs_sum (fun v => ((zs_C σ0 v.1 ∧ zs_in (v.2).toInt 1 1)) ∧ v.2.toInt = c + 1) (fun v => False) r) := by
  unfold BX4_reckon_139
  obtain rfl : x3 = (0 : Int32) := zs_eqv h_x3 (by decide)
  obtain rfl : x6 = (2 : Int32) := zs_eqv h_x6 (by decide)
  obtain rfl : t1 = (0 : Int32) := zs_eqv h_t1 (by decide)
  obtain rfl : t2 = (2 : Int32) := zs_eqv h_t2 (by decide)
  refine zs_bd_ (zc_756 h_σ h_t1 h_t2) (fun t_1 pt_1 => ?_)
  refine zs_bd_ (zo_bc 0 0 (by decide) h_x7) (fun t_3 pt_3 => ?_)
  refine zs_gd (zs_gin pt_3 (by decide)) ?_
  refine zs_bd_ (zc_757 pt_1 h_x3 h_x4 h_x6) (fun t_6 pt_6 => ?_)
  refine zs_lt (Q := fun z => zs_C σ0 z) (zs_wrL pt_6.2 rfl) (fun σ_8 hσ_8 => ?_)
  refine zs_lt (Q := fun z => zs_in z.toInt 1 1 ∧ z.toInt = c + 1) ⟨(zs_addI 1 1 h_x7 zlI_1 (by decide)), (zs_syI 1 hc h_x7 zlI_1 (by decide) (by decide))⟩ (fun y_10 hy_10 => ?_)
  exact zs_some (zs_inl ⟨⟨hσ_8, hy_10.1⟩, hy_10.2⟩)
-- BX4_reckon_119
theorem zc_759 {σ0 : sn_S} {σ : sn_S} (h_σ : zs_C σ0 σ) {x3 : Int32} (h_x3 : zs_in x3.toInt 0 0) {x4 : Int32} (h_x4 : zs_in x4.toInt 0 5) {x6 : Int32} (h_x6 : zs_in x6.toInt 2 2) {x7 : Int32} (h_x7 : zs_in x7.toInt 0 0) {x8 : Int32} (h_x8 : zs_in x8.toInt 0 0) {c : Int} (hc : x7.toInt = c + 0) : zs_ok (BX4_reckon_119 σ 1 27 x3 x4 x6 x7 x8) (fun r => zs_sum (fun v => ((zs_C σ0 v.1 ∧ zs_in (v.2).toInt 1 1)) ∧ v.2.toInt = c + 1) (fun v => False) r) := by
  unfold BX4_reckon_119
  obtain rfl : x3 = (0 : Int32) := zs_eqv h_x3 (by decide)
  obtain rfl : x6 = (2 : Int32) := zs_eqv h_x6 (by decide)
  obtain rfl : x8 = (0 : Int32) := zs_eqv h_x8 (by decide)
  refine zs_ite (fun c1 => ?_) (fun c1 => ?_)
  · skip
    have r2 := (zs_I_eq c1)
    exact (zs_botr r2 h_x3 zlI_2 (by decide)).elim
  · skip
    have r3 := (zs_I_eqn c1)
    obtain ⟨ret, er, hr⟩ := zc_758 h_σ h_x3 h_x4 h_x6 h_x7 h_x8 h_x6 hc
    refine ⟨ret, er, ?_⟩
    exact (zs_sumw hr (fun v w => ⟨w.1, w.2⟩) (fun v w => w.elim))
-- BX4_reckon_62
theorem zc_760 {σ0 : sn_S} {σ : sn_S} (h_σ : zs_C σ0 σ) {x3 : Int32} (h_x3 : zs_in x3.toInt 0 0) {x4 : Int32} (h_x4 : zs_in x4.toInt 0 5) {x6 : Int32} (h_x6 : zs_in x6.toInt 2 2) {x7 : Int32} (h_x7 : zs_in x7.toInt 0 0) {t0 : Int32} (h_t0 : zs_in t0.toInt 0 0) {c : Int} (hc : x7.toInt = c + 0) : zs_ok (BX4_reckon_62 σ 1 27 x3 x4 x6 x7 t0) (fun r => zs_sum (fun v => ((zs_C σ0 v.1 ∧ zs_in (v.2).toInt 1 1)) ∧ v.2.toInt = c + 1) (fun v => False) r) := by
  unfold BX4_reckon_62
  obtain rfl : x3 = (0 : Int32) := zs_eqv h_x3 (by decide)
  obtain rfl : x6 = (2 : Int32) := zs_eqv h_x6 (by decide)
  obtain rfl : t0 = (0 : Int32) := zs_eqv h_t0 (by decide)
  refine zs_bd_ (zd_127 h_x3 h_x4 h_x6 h_x7 h_t0 (s0 := (σ, (0 : Int32))) ⟨h_σ, (zs_w h_t0 (by decide))⟩) (fun t_1 pt_1 => ?_)
  obtain ⟨ret, er, hr⟩ := zc_759 pt_1 h_x3 h_x4 h_x6 h_x7 h_t0 hc
  refine ⟨ret, er, ?_⟩
  exact (zs_sumw hr (fun v w => ⟨w.1, w.2⟩) (fun v w => w.elim))
-- fX8_hasBit
theorem zc_761 {x0 : Int32} (h_x0 : zs_in x0.toInt 1 3) {x1 : Int32} (h_x1 : zs_in x1.toInt 0 1) : zs_ok (fX8_hasBit x0 x1) (fun r => zs_in (r).toInt 0 1) := by
  unfold fX8_hasBit
  refine zs_ite (fun c1 => ?_) (fun c1 => ?_)
  · skip
    have r2 := (zs_I_eq c1)
    have g3 : zs_in (((x0 >>> (x1 &&& 31)) &&& (1 : Int32))).toInt 1 1 := (zs_eql 1 1 r2 (zs_and zlI_1 (by decide)) zlI_1 (by decide))
    refine zs_gd (zs_b01 zlI_1 (by decide)) ?_
    exact zs_some (zs_w zlI_1 (by decide))
  · skip
    have r4 := (zs_I_eqn c1)
    have g5 : zs_in (((x0 >>> (x1 &&& 31)) &&& (1 : Int32))).toInt 0 0 := (zs_neh 0 0 r4 (zs_and zlI_1 (by decide)) zlI_1 (by decide))
    refine zs_gd (zs_b01 zlI_0 (by decide)) ?_
    exact zs_some (zs_w zlI_0 (by decide))
-- BX4_reckon_111
theorem zc_762 {σ0 : sn_S} {σ : sn_S} (h_σ : zs_C σ0 σ) {x3 : Int32} (h_x3 : zs_in x3.toInt 0 0) {x4 : Int32} (h_x4 : zs_in x4.toInt 0 5) {x6 : Int32} (h_x6 : zs_in x6.toInt 2 2) {x7 : Int32} (h_x7 : zs_in x7.toInt 1 3) {x8 : Int32} (h_x8 : zs_in x8.toInt 0 1) {x9 : Int32} (h_x9 : zs_in x9.toInt 0 1) {t1 : Int32} (h_t1 : zs_in t1.toInt 0 1) {t2 : Int32} {t3 : Int32} (h_t3 : zs_in t3.toInt 0 0) {c : Int} (hc : x9.toInt = c + 0) : zs_ok (BX4_reckon_111 σ 1 27 x3 x4 x6 x7 x8 x9 t1 t2 t3) (fun r => zs_sum (fun v => ((zs_C σ0 v.1 ∧ zs_in (v.2).toInt 1 2)) ∧ v.2.toInt = c + 1) (fun v => False) r) := by
  unfold BX4_reckon_111
  obtain rfl : x3 = (0 : Int32) := zs_eqv h_x3 (by decide)
  obtain rfl : x6 = (2 : Int32) := zs_eqv h_x6 (by decide)
  obtain rfl : t3 = (0 : Int32) := zs_eqv h_t3 (by decide)
  refine zs_gd (zs_gin h_t1 (by decide)) ?_
  refine zs_lt (Q := fun z => zs_C σ0 z) (zs_wrt h_σ (fun _ => rfl) (fun _ => rfl)) (fun σ_2 hσ_2 => ?_)
  refine zs_lt (Q := fun z => zs_in z.toInt 1 2 ∧ z.toInt = c + 1) ⟨(zs_addI 1 2 h_x9 zlI_1 (by decide)), (zs_syI 1 hc h_x9 zlI_1 (by decide) (by decide))⟩ (fun y_4 hy_4 => ?_)
  exact zs_some (zs_inl ⟨⟨hσ_2, hy_4.1⟩, hy_4.2⟩)
-- BX4_reckon_111
theorem zc_763 {σ0 : sn_S} {σ : sn_S} (h_σ : zs_C σ0 σ) {x3 : Int32} (h_x3 : zs_in x3.toInt 0 0) {x4 : Int32} (h_x4 : zs_in x4.toInt 0 5) {x6 : Int32} (h_x6 : zs_in x6.toInt 2 2) {x7 : Int32} (h_x7 : zs_in x7.toInt 1 3) {x8 : Int32} (h_x8 : zs_in x8.toInt 0 1) {x9 : Int32} (h_x9 : zs_in x9.toInt 0 1) {t1 : Int32} (h_t1 : zs_in t1.toInt 0 1) {t2 : Int32} {t3 : Int32} (h_t3 : zs_in t3.toInt 3 3) {c : Int} (hc : x9.toInt = c + 0) : zs_ok (BX4_reckon_111 σ 1 27 x3 x4 x6 x7 x8 x9 t1 t2 t3) (fun r => zs_sum (fun v => ((zs_C σ0 v.1 ∧ zs_in (v.2).toInt 1 2)) ∧ v.2.toInt = c + 1) (fun v => False) r) := by
  unfold BX4_reckon_111
  obtain rfl : x3 = (0 : Int32) := zs_eqv h_x3 (by decide)
  obtain rfl : x6 = (2 : Int32) := zs_eqv h_x6 (by decide)
  obtain rfl : t3 = (3 : Int32) := zs_eqv h_t3 (by decide)
  refine zs_gd (zs_gin h_t1 (by decide)) ?_
  refine zs_lt (Q := fun z => zs_C σ0 z) (zs_wrt h_σ (fun _ => rfl) (fun _ => rfl)) (fun σ_2 hσ_2 => ?_)
  refine zs_lt (Q := fun z => zs_in z.toInt 1 2 ∧ z.toInt = c + 1) ⟨(zs_addI 1 2 h_x9 zlI_1 (by decide)), (zs_syI 1 hc h_x9 zlI_1 (by decide) (by decide))⟩ (fun y_4 hy_4 => ?_)
  exact zs_some (zs_inl ⟨⟨hσ_2, hy_4.1⟩, hy_4.2⟩)
-- BX4_reckon_68
theorem zc_764 {σ0 : sn_S} {σ : sn_S} (h_σ : zs_C σ0 σ) {x3 : Int32} (h_x3 : zs_in x3.toInt 0 0) {x4 : Int32} (h_x4 : zs_in x4.toInt 0 5) {x6 : Int32} (h_x6 : zs_in x6.toInt 2 2) {x7 : Int32} (h_x7 : zs_in x7.toInt 1 3) {x8 : Int32} (h_x8 : zs_in x8.toInt 0 1) {x9 : Int32} (h_x9 : zs_in x9.toInt 0 2) {c : Int} (hc : x9.toInt = c + 0) : zs_ok (BX4_reckon_68 σ 1 27 x3 x4 x6 x7 x8 x9) (fun r => zs_sum (fun v => ((zs_C σ0 v.1 ∧ zs_in (v.2).toInt 1 2)) ∧ v.2.toInt = c + 1) (fun v => zs_C σ0 v) r) := by
  unfold BX4_reckon_68
  obtain rfl : x3 = (0 : Int32) := zs_eqv h_x3 (by decide)
  obtain rfl : x6 = (2 : Int32) := zs_eqv h_x6 (by decide)
  refine zs_ite (fun c1 => ?_) (fun c1 => ?_)
  · skip
    have r2 := (zs_I_le c1)
    have g3 : zs_in (x9).toInt 2 2 := (zs_ler 2 2 r2 h_x6 h_x9 (by decide))
    exact zs_some (zs_inr (h_σ))
  · skip
    have r4 := (zs_I_len c1)
    have g5 : zs_in (x9).toInt 0 1 := (zs_ltl 0 1 r4 h_x9 h_x6 (by decide))
    refine zs_gd (zs_gin g5 (by decide)) ?_
    refine zs_bd_ (zc_761 h_x7 (zs_subI 0 1 (zs_subI 1 1 h_x6 zlI_1 (by decide)) g5 (by decide))) (fun t_3 pt_3 => ?_)
    refine zs_ite (fun c6 => ?_) (fun c6 => ?_)
    · skip
      have r7 := (zs_I_eq c6)
      have g8 : zs_in (t_3).toInt 0 0 := (zs_eql 0 0 r7 pt_3 zlI_0 (by decide))
      obtain ⟨ret, er, hr⟩ := zc_762 h_σ h_x3 h_x4 h_x6 h_x7 h_x8 g5 g5 zlI_0 hc
      refine ⟨ret, er, ?_⟩
      exact (zs_sumw hr (fun v w => ⟨w.1, w.2⟩) (fun v w => w.elim))
    · skip
      have r9 := (zs_I_eqn c6)
      have g10 : zs_in (t_3).toInt 1 1 := (zs_nel 1 1 r9 pt_3 zlI_0 (by decide))
      obtain ⟨ret, er, hr⟩ := zc_763 h_σ h_x3 h_x4 h_x6 h_x7 h_x8 g5 g5 zlI_3 hc
      refine ⟨ret, er, ?_⟩
      exact (zs_sumw hr (fun v w => ⟨w.1, w.2⟩) (fun v w => w.elim))
theorem zd_133 {σ0 : sn_S} {x3 : Int32} (h_x3 : zs_in x3.toInt 0 0) {x4 : Int32} (h_x4 : zs_in x4.toInt 0 5) {x6 : Int32} (h_x6 : zs_in x6.toInt 2 2) {x7 : Int32} (h_x7 : zs_in x7.toInt 1 3) {x8 : Int32} (h_x8 : zs_in x8.toInt 0 1) {s0 : (sn_S × Int32)} (h0 : (zs_C σ0 s0.1 ∧ zs_in (s0.2).toInt 0 2)) : zs_ok (sn_it (LX4_reckon_68 1 27 x3 x4 x6 x7 x8) 5000 s0) (fun t => zs_C σ0 t) := by
  refine zs_it (I := fun s => (zs_C σ0 s.1 ∧ zs_in (s.2).toInt 0 2)) (m := fun s => 2 - s.2.toInt) (fun s hs => ?_) (fun s hs => ?_) (by exact h0)
  · have h1 := hs.2; unfold zs_in at h1
    omega
  · obtain ⟨b, eb, hb⟩ := zc_764 hs.1 h_x3 h_x4 h_x6 h_x7 h_x8 hs.2 (c := s.2.toInt) (Int.add_zero _).symm
    exact ⟨b, eb, zs_sumw hb (fun v w => ⟨⟨w.1.1, (zs_w w.1.2 (by decide))⟩, by have := w.2; omega⟩) (fun v w => w)⟩
-- fX8_firstMinutes
theorem zc_765 {x0 : Int32} (h_x0 : zs_in x0.toInt 0 1) : zs_ok (fX8_firstMinutes x0) (fun r => zs_in (r).toInt 0 1) := by
  unfold fX8_firstMinutes
  exact zs_some (zs_subI 0 1 (zs_cases h_x0 (fun z => zs_in ((1 : Int32) <<< (z &&& 31)).toInt 1 2) (by decide +kernel)) zlI_1 (by decide))
-- BX0_live_2
theorem zc_766 {σ0 : sn_S} {σ : sn_S} (h_σ : zs_C σ0 σ) {x1 : Int32} (h_x1 : zs_in x1.toInt 0 1) {x2 : Int32} (h_x2 : zs_in x2.toInt 2 2) {x3 : Int32} (h_x3 : zs_in x3.toInt 0 6) {c : Int} (hc : x3.toInt = c + 0) : zs_ok (BX0_live_2 σ 59 x1 x2 x3) (fun r => zs_sum (fun v => ((zs_C σ0 v.1 ∧ zs_in (v.2).toInt 1 6)) ∧ v.2.toInt = c + 1) (fun v => zs_C σ0 v) r) := by
  unfold BX0_live_2
  obtain rfl : x2 = (2 : Int32) := zs_eqv h_x2 (by decide)
  refine zs_ite (fun c1 => ?_) (fun c1 => ?_)
  · skip
    have r2 := (zs_I_le c1)
    exact zs_some (zs_inr (h_σ))
  · skip
    have r3 := (zs_I_len c1)
    have g4 : zs_in (x3).toInt 0 5 := (zs_ltl 0 5 r3 h_x3 (zs_rdk (q := 59) (k := 1) (z := (0, 6)) h_σ.1 rfl) (by decide))
    have g5 : zs_in ((sn_I σ 59 1)).toInt 1 6 := (zs_ltr 1 6 r3 h_x3 (zs_rdk (q := 59) (k := 1) (z := (0, 6)) h_σ.1 rfl) (by decide))
    refine zs_gd (zs_gin g4 (by decide)) ?_
    refine zs_bd_ (zc_765 h_x1) (fun t_3 pt_3 => ?_)
    refine zs_gd (zs_gin g4 (by decide)) ?_
    refine zs_lt (Q := fun z => zs_C σ0 z) (zs_wru (z := (0, 1073741823)) h_σ (fun _ => rfl) (zs_and pt_3 (by decide)) (by decide) (fun _ => rfl)) (fun σ_6 hσ_6 => ?_)
    refine zs_lt (Q := fun z => zs_in z.toInt 1 6 ∧ z.toInt = c + 1) ⟨(zs_addI 1 6 g4 zlI_1 (by decide)), (zs_syI 1 hc g4 zlI_1 (by decide) (by decide))⟩ (fun y_8 hy_8 => ?_)
    exact zs_some (zs_inl ⟨⟨hσ_6, hy_8.1⟩, hy_8.2⟩)
theorem zd_134 {σ0 : sn_S} {x1 : Int32} (h_x1 : zs_in x1.toInt 0 1) {x2 : Int32} (h_x2 : zs_in x2.toInt 2 2) {s0 : (sn_S × Int32)} (h0 : (zs_C σ0 s0.1 ∧ zs_in (s0.2).toInt 0 6)) : zs_ok (sn_it (LX0_live_2 59 x1 x2) 5000 s0) (fun t => zs_C σ0 t) := by
  refine zs_it (I := fun s => (zs_C σ0 s.1 ∧ zs_in (s.2).toInt 0 6)) (m := fun s => 6 - s.2.toInt) (fun s hs => ?_) (fun s hs => ?_) (by exact h0)
  · have h1 := hs.2; unfold zs_in at h1
    omega
  · obtain ⟨b, eb, hb⟩ := zc_766 hs.1 h_x1 h_x2 hs.2 (c := s.2.toInt) (Int.add_zero _).symm
    exact ⟨b, eb, zs_sumw hb (fun v w => ⟨⟨w.1.1, (zs_w w.1.2 (by decide))⟩, by have := w.2; omega⟩) (fun v w => w)⟩
-- BX0_live_29
theorem zc_767 {σ0 : sn_S} {σ : sn_S} (h_σ : zs_C σ0 σ) {x1 : Int32} (h_x1 : zs_in x1.toInt 0 1) {x2 : Int32} (h_x2 : zs_in x2.toInt 2 2) : zs_ok (BX0_live_29 σ 59 x1 x2) (fun r => zs_C σ0 r) := by
  unfold BX0_live_29
  obtain rfl : x2 = (2 : Int32) := zs_eqv h_x2 (by decide)
  refine zs_bd_ (zd_132 h_x2 (s0 := (σ, x1)) ⟨h_σ, (zs_w h_x1 (by decide))⟩) (fun t_1 pt_1 => ?_)
  obtain ⟨ret, er, hr⟩ := zc_697 pt_1
  refine ⟨ret, er, ?_⟩
  exact hr
-- fX0_live
theorem zc_768 {σ0 : sn_S} {σ : sn_S} (h_σ : zs_C σ0 σ) {x1 : Int32} (h_x1 : zs_in x1.toInt 0 1) {x2 : Int32} (h_x2 : zs_in x2.toInt 2 2) : zs_ok (fX0_live σ 59 x1 x2) (fun r => zs_C σ0 r) := by
  unfold fX0_live
  obtain rfl : x2 = (2 : Int32) := zs_eqv h_x2 (by decide)
  refine zs_bd_ (zd_134 h_x1 h_x2 (s0 := (σ, (0 : Int32))) ⟨h_σ, (zs_w zlI_0 (by decide))⟩) (fun t_1 pt_1 => ?_)
  obtain ⟨ret, er, hr⟩ := zc_767 pt_1 h_x1 h_x2
  refine ⟨ret, er, ?_⟩
  exact hr
-- BX4_reckon_139
theorem zc_769 {σ0 : sn_S} {σ : sn_S} (h_σ : zs_C σ0 σ) {x3 : Int32} (h_x3 : zs_in x3.toInt 0 0) {x4 : Int32} (h_x4 : zs_in x4.toInt 0 5) {x6 : Int32} (h_x6 : zs_in x6.toInt 2 2) {x7 : Int32} (h_x7 : zs_in x7.toInt 1 3) {t1 : Int32} (h_t1 : zs_in t1.toInt 0 1) {t2 : Int32} (h_t2 : zs_in t2.toInt 2 2) {c : Int} (hc : x7.toInt = c + 0) : zs_ok (BX4_reckon_139 σ 1 27 x3 x4 x6 x7 t1 t2) (fun r => zs_sum (fun v => ((zs_C σ0 v.1 ∧ zs_in (v.2).toInt 2 4)) ∧ v.2.toInt = c + 1) (fun v => False) r) := by
  unfold BX4_reckon_139
  obtain rfl : x3 = (0 : Int32) := zs_eqv h_x3 (by decide)
  obtain rfl : x6 = (2 : Int32) := zs_eqv h_x6 (by decide)
  obtain rfl : t2 = (2 : Int32) := zs_eqv h_t2 (by decide)
  refine zs_bd_ (zc_768 h_σ h_t1 h_t2) (fun t_1 pt_1 => ?_)
  refine zs_bd_ (zo_bc 2 2 (by decide) h_x7) (fun t_3 pt_3 => ?_)
  refine zs_gd (zs_gin pt_3 (by decide)) ?_
  refine zs_bd_ (zc_757 pt_1 h_x3 h_x4 h_x6) (fun t_6 pt_6 => ?_)
  refine zs_lt (Q := fun z => zs_C σ0 z) (zs_wrL pt_6.2 rfl) (fun σ_8 hσ_8 => ?_)
  refine zs_lt (Q := fun z => zs_in z.toInt 2 4 ∧ z.toInt = c + 1) ⟨(zs_addI 2 4 h_x7 zlI_1 (by decide)), (zs_syI 1 hc h_x7 zlI_1 (by decide) (by decide))⟩ (fun y_10 hy_10 => ?_)
  exact zs_some (zs_inl ⟨⟨hσ_8, hy_10.1⟩, hy_10.2⟩)
-- BX4_reckon_119
theorem zc_770 {σ0 : sn_S} {σ : sn_S} (h_σ : zs_C σ0 σ) {x3 : Int32} (h_x3 : zs_in x3.toInt 0 0) {x4 : Int32} (h_x4 : zs_in x4.toInt 0 5) {x6 : Int32} (h_x6 : zs_in x6.toInt 2 2) {x7 : Int32} (h_x7 : zs_in x7.toInt 1 3) {x8 : Int32} (h_x8 : zs_in x8.toInt 0 1) {c : Int} (hc : x7.toInt = c + 0) : zs_ok (BX4_reckon_119 σ 1 27 x3 x4 x6 x7 x8) (fun r => zs_sum (fun v => ((zs_C σ0 v.1 ∧ zs_in (v.2).toInt 2 4)) ∧ v.2.toInt = c + 1) (fun v => False) r) := by
  unfold BX4_reckon_119
  obtain rfl : x3 = (0 : Int32) := zs_eqv h_x3 (by decide)
  obtain rfl : x6 = (2 : Int32) := zs_eqv h_x6 (by decide)
  refine zs_ite (fun c1 => ?_) (fun c1 => ?_)
  · skip
    have r2 := (zs_I_eq c1)
    exact (zs_botr r2 h_x3 zlI_2 (by decide)).elim
  · skip
    have r3 := (zs_I_eqn c1)
    obtain ⟨ret, er, hr⟩ := zc_769 h_σ h_x3 h_x4 h_x6 h_x7 h_x8 h_x6 hc
    refine ⟨ret, er, ?_⟩
    exact (zs_sumw hr (fun v w => ⟨w.1, w.2⟩) (fun v w => w.elim))
-- BX4_reckon_62
theorem zc_771 {σ0 : sn_S} {σ : sn_S} (h_σ : zs_C σ0 σ) {x3 : Int32} (h_x3 : zs_in x3.toInt 0 0) {x4 : Int32} (h_x4 : zs_in x4.toInt 0 5) {x6 : Int32} (h_x6 : zs_in x6.toInt 2 2) {x7 : Int32} (h_x7 : zs_in x7.toInt 1 3) {t0 : Int32} (h_t0 : zs_in t0.toInt 0 1) {c : Int} (hc : x7.toInt = c + 0) : zs_ok (BX4_reckon_62 σ 1 27 x3 x4 x6 x7 t0) (fun r => zs_sum (fun v => ((zs_C σ0 v.1 ∧ zs_in (v.2).toInt 2 4)) ∧ v.2.toInt = c + 1) (fun v => False) r) := by
  unfold BX4_reckon_62
  obtain rfl : x3 = (0 : Int32) := zs_eqv h_x3 (by decide)
  obtain rfl : x6 = (2 : Int32) := zs_eqv h_x6 (by decide)
  refine zs_bd_ (zd_133 h_x3 h_x4 h_x6 h_x7 h_t0 (s0 := (σ, t0)) ⟨h_σ, (zs_w h_t0 (by decide))⟩) (fun t_1 pt_1 => ?_)
  obtain ⟨ret, er, hr⟩ := zc_770 pt_1 h_x3 h_x4 h_x6 h_x7 h_t0 hc
  refine ⟨ret, er, ?_⟩
  exact (zs_sumw hr (fun v w => ⟨w.1, w.2⟩) (fun v w => w.elim))
-- BX4_reckon_34
theorem zc_772 {σ0 : sn_S} {σ : sn_S} (h_σ : zs_C σ0 σ) {x3 : Int32} (h_x3 : zs_in x3.toInt 0 0) {x4 : Int32} (h_x4 : zs_in x4.toInt 0 5) {x6 : Int32} (h_x6 : zs_in x6.toInt 2 2) {x7 : Int32} (h_x7 : zs_in x7.toInt 0 4) {c : Int} (hc : x7.toInt = c + 0) : zs_ok (BX4_reckon_34 σ 1 27 x3 x4 x6 x7) (fun r => zs_sum (fun v => ((zs_C σ0 v.1 ∧ zs_in (v.2).toInt 1 4)) ∧ v.2.toInt = c + 1) (fun v => zs_C σ0 v) r) := by
  unfold BX4_reckon_34
  obtain rfl : x3 = (0 : Int32) := zs_eqv h_x3 (by decide)
  obtain rfl : x6 = (2 : Int32) := zs_eqv h_x6 (by decide)
  refine zs_ite (fun c1 => ?_) (fun c1 => ?_)
  · skip
    have r2 := (zs_I_le c1)
    have g3 : zs_in (x7).toInt 4 4 := (zs_ler 4 4 r2 (zs_cases h_x6 (fun z => zs_in ((1 : Int32) <<< (z &&& 31)).toInt 4 4) (by decide +kernel)) h_x7 (by decide))
    exact zs_some (zs_inr (h_σ))
  · skip
    have r4 := (zs_I_len c1)
    have g5 : zs_in (x7).toInt 0 3 := (zs_ltl 0 3 r4 h_x7 (zs_cases h_x6 (fun z => zs_in ((1 : Int32) <<< (z &&& 31)).toInt 4 4) (by decide +kernel)) (by decide))
    refine zs_ite (fun c6 => ?_) (fun c6 => ?_)
    · skip
      have r7 := (zs_I_eq c6)
      have g8 : zs_in (x7).toInt 0 0 := (zs_eql 0 0 r7 g5 zlI_0 (by decide))
      obtain ⟨ret, er, hr⟩ := zc_760 h_σ h_x3 h_x4 h_x6 g8 zlI_0 hc
      refine ⟨ret, er, ?_⟩
      exact (zs_sumw hr (fun v w => ⟨⟨w.1.1, (zs_w w.1.2 (by decide))⟩, w.2⟩) (fun v w => w.elim))
    · skip
      have r9 := (zs_I_eqn c6)
      have g10 : zs_in (x7).toInt 1 3 := (zs_nel 1 3 r9 g5 zlI_0 (by decide))
      refine zs_bd_ (zo_low1 2 1 (by decide) g10) (fun t_3 pt_3 => ?_)
      obtain ⟨ret, er, hr⟩ := zc_771 h_σ h_x3 h_x4 h_x6 g10 (zs_subI 0 1 (zs_subI 1 1 h_x6 zlI_1 (by decide)) pt_3 (by decide)) hc
      refine ⟨ret, er, ?_⟩
      exact (zs_sumw hr (fun v w => ⟨⟨w.1.1, (zs_w w.1.2 (by decide))⟩, w.2⟩) (fun v w => w.elim))
theorem zd_135 {σ0 : sn_S} {x3 : Int32} (h_x3 : zs_in x3.toInt 0 0) {x4 : Int32} (h_x4 : zs_in x4.toInt 0 5) {x6 : Int32} (h_x6 : zs_in x6.toInt 2 2) {s0 : (sn_S × Int32)} (h0 : (zs_C σ0 s0.1 ∧ zs_in (s0.2).toInt 0 4)) : zs_ok (sn_it (LX4_reckon_34 1 27 x3 x4 x6) 5000 s0) (fun t => zs_C σ0 t) := by
  refine zs_it (I := fun s => (zs_C σ0 s.1 ∧ zs_in (s.2).toInt 0 4)) (m := fun s => 4 - s.2.toInt) (fun s hs => ?_) (fun s hs => ?_) (by exact h0)
  · have h1 := hs.2; unfold zs_in at h1
    omega
  · obtain ⟨b, eb, hb⟩ := zc_772 hs.1 h_x3 h_x4 h_x6 hs.2 (c := s.2.toInt) (Int.add_zero _).symm
    exact ⟨b, eb, zs_sumw hb (fun v w => ⟨⟨w.1.1, (zs_w w.1.2 (by decide))⟩, by have := w.2; omega⟩) (fun v w => w)⟩
-- BX4_reckon_186
theorem zc_773 {σ0 : sn_S} {σ : sn_S} (h_σ : zs_C σ0 σ) {x6 : Int32} (h_x6 : zs_in x6.toInt 2 2) {x7 : Int32} (h_x7 : zs_in x7.toInt 0 2) {c : Int} (hc : x7.toInt = c + 0) : zs_ok (BX4_reckon_186 σ 1 27 x6 x7) (fun r => zs_sum (fun v => ((zs_C σ0 v.1 ∧ zs_in (v.2).toInt 1 2)) ∧ v.2.toInt = c + 1) (fun v => zs_C σ0 v) r) := by
  unfold BX4_reckon_186
  obtain rfl : x6 = (2 : Int32) := zs_eqv h_x6 (by decide)
  refine zs_ite (fun c1 => ?_) (fun c1 => ?_)
  · skip
    have r2 := (zs_I_le c1)
    have g3 : zs_in (x7).toInt 2 2 := (zs_ler 2 2 r2 h_x6 h_x7 (by decide))
    exact zs_some (zs_inr (h_σ))
  · skip
    have r4 := (zs_I_len c1)
    have g5 : zs_in (x7).toInt 0 1 := (zs_ltl 0 1 r4 h_x7 h_x6 (by decide))
    refine zs_lt (Q := fun z => zs_C σ0 z) (zs_wrL h_σ rfl) (fun σ_2 hσ_2 => ?_)
    refine zs_lt (Q := fun z => zs_in z.toInt 1 2 ∧ z.toInt = c + 1) ⟨(zs_addI 1 2 g5 zlI_1 (by decide)), (zs_syI 1 hc g5 zlI_1 (by decide) (by decide))⟩ (fun y_4 hy_4 => ?_)
    exact zs_some (zs_inl ⟨⟨hσ_2, hy_4.1⟩, hy_4.2⟩)
theorem zd_136 {σ0 : sn_S} {x6 : Int32} (h_x6 : zs_in x6.toInt 2 2) {s0 : (sn_S × Int32)} (h0 : (zs_C σ0 s0.1 ∧ zs_in (s0.2).toInt 0 2)) : zs_ok (sn_it (LX4_reckon_186 1 27 x6) 5000 s0) (fun t => zs_C σ0 t) := by
  refine zs_it (I := fun s => (zs_C σ0 s.1 ∧ zs_in (s.2).toInt 0 2)) (m := fun s => 2 - s.2.toInt) (fun s hs => ?_) (fun s hs => ?_) (by exact h0)
  · have h1 := hs.2; unfold zs_in at h1
    omega
  · obtain ⟨b, eb, hb⟩ := zc_773 hs.1 h_x6 hs.2 (c := s.2.toInt) (Int.add_zero _).symm
    exact ⟨b, eb, zs_sumw hb (fun v w => ⟨⟨w.1.1, (zs_w w.1.2 (by decide))⟩, by have := w.2; omega⟩) (fun v w => w)⟩
-- BX4_reckon_178
theorem zc_774 {σ0 : sn_S} {σ : sn_S} (h_σ : zs_C σ0 σ) {x6 : Int32} (h_x6 : zs_in x6.toInt 2 2) : zs_ok (BX4_reckon_178 σ 1 27 x6) (fun r => zs_C σ0 r) := by
  unfold BX4_reckon_178
  obtain rfl : x6 = (2 : Int32) := zs_eqv h_x6 (by decide)
  refine zs_lt (Q := fun z => zs_C σ0 z) (zs_wrL h_σ rfl) (fun σ_1 hσ_1 => ?_)
  refine zs_bd_ (zd_136 h_x6 (s0 := (σ_1, (0 : Int32))) ⟨hσ_1, (zs_w zlI_0 (by decide))⟩) (fun t_3 pt_3 => ?_)
  obtain ⟨ret, er, hr⟩ := zc_716 pt_3
  refine ⟨ret, er, ?_⟩
  exact hr
-- fX4_reckon
theorem zc_775 {σ0 : sn_S} {σ : sn_S} (h_σ : zs_C σ0 σ) {x3 : Int32} (h_x3 : zs_in x3.toInt 0 0) {x4 : Int32} (h_x4 : zs_in x4.toInt 0 5) {x5 : Int32} (h_x5 : zs_in x5.toInt 1 1) : zs_ok (fX4_reckon σ 1 27 x3 x4 x5) (fun r => zs_C σ0 r) := by
  unfold fX4_reckon
  obtain rfl : x3 = (0 : Int32) := zs_eqv h_x3 (by decide)
  obtain rfl : x5 = (1 : Int32) := zs_eqv h_x5 (by decide)
  refine zs_lt (Q := fun z => zs_in z.toInt 2 2) (zs_addI 2 2 h_x5 zlI_1 (by decide)) (fun y_1 hy_1 => ?_)
  refine zs_gd (zs_gin zlI_4 (by decide)) ?_
  refine zs_bd_ (zc_724 h_σ hy_1 (zs_rdk (q := 2) (k := (4 : Int32).toNatClampNeg) (z := (0, 10)) h_σ.1 rfl)) (fun t_4 pt_4 => ?_)
  refine zs_bd_ (zo_dcopy pt_4) (fun t_6 pt_6 => ?_)
  refine zs_lt (Q := fun z => zs_C σ0 z) (zs_wrL pt_6 rfl) (fun σ_8 hσ_8 => ?_)
  refine zs_bd_ (zd_135 h_x3 h_x4 hy_1 (s0 := (σ_8, (0 : Int32))) ⟨hσ_8, (zs_w zlI_0 (by decide))⟩) (fun t_10 pt_10 => ?_)
  obtain ⟨ret, er, hr⟩ := zc_774 pt_10 hy_1
  refine ⟨ret, er, ?_⟩
  exact hr
-- BX4_weigh_46
theorem zc_776 {σ0 : sn_S} {σ : sn_S} (h_σ : zs_C σ0 σ) {x1 : Int32} (h_x1 : zs_in x1.toInt 3 3) {x2 : Int32} (h_x2 : zs_in x2.toInt 0 10) {x3 : Int32} (h_x3 : zs_in x3.toInt 0 2) {x4 : Int64} {x6 : Int32} (h_x6 : zs_in x6.toInt 0 2) {t0 : Int64} {t1 : Int64} (h_t1 : zs_in t1.toInt 0 10) {c : Int} (hc : x6.toInt = c + 0) : zs_ok (BX4_weigh_46 σ x1 x2 x3 x4 x6 t0 t1) (fun r => zs_sum (fun v => ((True ∧ zs_in (v.2).toInt 1 3)) ∧ v.2.toInt = c + 1) (fun v => False) r) := by
  unfold BX4_weigh_46
  obtain rfl : x1 = (3 : Int32) := zs_eqv h_x1 (by decide)
  refine zs_lt (Q := fun z => True) trivial (fun y_1 hy_1 => ?_)
  refine zs_lt (Q := fun z => zs_in z.toInt 1 3 ∧ z.toInt = c + 1) ⟨(zs_addI 1 3 h_x6 zlI_1 (by decide)), (zs_syI 1 hc h_x6 zlI_1 (by decide) (by decide))⟩ (fun y_3 hy_3 => ?_)
  exact zs_some (zs_inl ⟨⟨trivial, hy_3.1⟩, hy_3.2⟩)
-- BX4_weigh_46
theorem zc_777 {σ0 : sn_S} {σ : sn_S} (h_σ : zs_C σ0 σ) {x1 : Int32} (h_x1 : zs_in x1.toInt 3 3) {x2 : Int32} (h_x2 : zs_in x2.toInt 0 10) {x3 : Int32} (h_x3 : zs_in x3.toInt 1 3) {x4 : Int64} {x6 : Int32} (h_x6 : zs_in x6.toInt 0 2) {t0 : Int64} {t1 : Int64} (h_t1 : zs_in t1.toInt 0 10) {c : Int} (hc : x6.toInt = c + 0) : zs_ok (BX4_weigh_46 σ x1 x2 x3 x4 x6 t0 t1) (fun r => zs_sum (fun v => ((True ∧ zs_in (v.2).toInt 1 3)) ∧ v.2.toInt = c + 1) (fun v => False) r) := by
  unfold BX4_weigh_46
  obtain rfl : x1 = (3 : Int32) := zs_eqv h_x1 (by decide)
  refine zs_lt (Q := fun z => True) trivial (fun y_1 hy_1 => ?_)
  refine zs_lt (Q := fun z => zs_in z.toInt 1 3 ∧ z.toInt = c + 1) ⟨(zs_addI 1 3 h_x6 zlI_1 (by decide)), (zs_syI 1 hc h_x6 zlI_1 (by decide) (by decide))⟩ (fun y_3 hy_3 => ?_)
  exact zs_some (zs_inl ⟨⟨trivial, hy_3.1⟩, hy_3.2⟩)
-- BX4_weigh_22
theorem zc_778 {σ0 : sn_S} {σ : sn_S} (h_σ : zs_C σ0 σ) {x1 : Int32} (h_x1 : zs_in x1.toInt 3 3) {x2 : Int32} (h_x2 : zs_in x2.toInt 0 10) {x3 : Int32} (h_x3 : zs_in x3.toInt 0 3) {x4 : Int64} {x6 : Int32} (h_x6 : zs_in x6.toInt 0 3) {c : Int} (hc : x6.toInt = c + 0) : zs_ok (BX4_weigh_22 σ x1 x2 x3 x4 x6) (fun r => zs_sum (fun v => ((True ∧ zs_in (v.2).toInt 1 3)) ∧ v.2.toInt = c + 1) (fun v => True) r) := by
  unfold BX4_weigh_22
  obtain rfl : x1 = (3 : Int32) := zs_eqv h_x1 (by decide)
  refine zs_ite (fun c1 => ?_) (fun c1 => ?_)
  · skip
    have r2 := (zs_I_le c1)
    have g3 : zs_in (x6).toInt 3 3 := (zs_ler 3 3 r2 h_x1 h_x6 (by decide))
    exact zs_some (zs_inr (trivial))
  · skip
    have r4 := (zs_I_len c1)
    have g5 : zs_in (x6).toInt 0 2 := (zs_ltl 0 2 r4 h_x6 h_x1 (by decide))
    refine zs_ite (fun c6 => ?_) (fun c6 => ?_)
    · skip
      have r7 := (zs_I_le c6)
      have g8 : zs_in (x3).toInt 0 2 := (zs_lel 0 2 r7 h_x3 g5 (by decide))
      obtain ⟨ret, er, hr⟩ := zc_776 h_σ h_x1 h_x2 g8 g5 (zs_64 (zs_subI 0 10 zlI_10 h_x2 (by decide))) hc
      refine ⟨ret, er, ?_⟩
      exact (zs_sumw hr (fun v w => ⟨w.1, w.2⟩) (fun v w => w.elim))
    · skip
      have r9 := (zs_I_len c6)
      have g10 : zs_in (x3).toInt 1 3 := (zs_ltr 1 3 r9 g5 h_x3 (by decide))
      obtain ⟨ret, er, hr⟩ := zc_777 h_σ h_x1 h_x2 g10 g5 (zs_64 h_x2) hc
      refine ⟨ret, er, ?_⟩
      exact (zs_sumw hr (fun v w => ⟨w.1, w.2⟩) (fun v w => w.elim))
theorem zd_137 {σ0 : sn_S} {σ : sn_S} (h_σ : zs_C σ0 σ) {x1 : Int32} (h_x1 : zs_in x1.toInt 3 3) {x2 : Int32} (h_x2 : zs_in x2.toInt 0 10) {x3 : Int32} (h_x3 : zs_in x3.toInt 0 3) {s0 : (Int64 × Int32)} (h0 : (True ∧ zs_in (s0.2).toInt 0 3)) : zs_ok (sn_it (LX4_weigh_22 σ x1 x2 x3) 5000 s0) (fun t => True) := by
  refine zs_it (I := fun s => (True ∧ zs_in (s.2).toInt 0 3)) (m := fun s => 3 - s.2.toInt) (fun s hs => ?_) (fun s hs => ?_) (by exact h0)
  · have h1 := hs.2; unfold zs_in at h1
    omega
  · obtain ⟨b, eb, hb⟩ := zc_778 h_σ h_x1 h_x2 h_x3 hs.2 (c := s.2.toInt) (Int.add_zero _).symm
    exact ⟨b, eb, zs_sumw hb (fun v w => ⟨⟨w.1.1, (zs_w w.1.2 (by decide))⟩, by have := w.2; omega⟩) (fun v w => w)⟩
-- BX4_weigh_55
theorem zc_779 {σ0 : sn_S} {σ : sn_S} (h_σ : zs_C σ0 σ) {x1 : Int32} (h_x1 : zs_in x1.toInt 3 3) {x2 : Int32} (h_x2 : zs_in x2.toInt 0 10) {x3 : Int32} (h_x3 : zs_in x3.toInt 0 3) {x4 : Int64} {c : Int} (hc : x3.toInt = c + 0) : zs_ok (BX4_weigh_55 σ x1 x2 x3 x4) (fun r => zs_sum (fun v => ((zs_C σ0 v.1 ∧ zs_in (v.2).toInt 1 4)) ∧ v.2.toInt = c + 1) (fun v => False) r) := by
  unfold BX4_weigh_55
  obtain rfl : x1 = (3 : Int32) := zs_eqv h_x1 (by decide)
  refine zs_gd (zs_gin h_x3 (by decide)) ?_
  refine zs_lt (Q := fun z => zs_C σ0 z) (zs_wrL h_σ rfl) (fun σ_2 hσ_2 => ?_)
  refine zs_lt (Q := fun z => zs_in z.toInt 1 4 ∧ z.toInt = c + 1) ⟨(zs_addI 1 4 h_x3 zlI_1 (by decide)), (zs_syI 1 hc h_x3 zlI_1 (by decide) (by decide))⟩ (fun y_4 hy_4 => ?_)
  exact zs_some (zs_inl ⟨⟨hσ_2, hy_4.1⟩, hy_4.2⟩)
-- BX4_weigh_2
theorem zc_780 {σ0 : sn_S} {σ : sn_S} (h_σ : zs_C σ0 σ) {x1 : Int32} (h_x1 : zs_in x1.toInt 3 3) {x2 : Int32} (h_x2 : zs_in x2.toInt 0 10) {x3 : Int32} (h_x3 : zs_in x3.toInt 0 4) {c : Int} (hc : x3.toInt = c + 0) : zs_ok (BX4_weigh_2 σ x1 x2 x3) (fun r => zs_sum (fun v => ((zs_C σ0 v.1 ∧ zs_in (v.2).toInt 1 4)) ∧ v.2.toInt = c + 1) (fun v => zs_C σ0 v) r) := by
  unfold BX4_weigh_2
  obtain rfl : x1 = (3 : Int32) := zs_eqv h_x1 (by decide)
  refine zs_ite (fun c1 => ?_) (fun c1 => ?_)
  · skip
    have r2 := (zs_I_lt c1)
    have g3 : zs_in (x3).toInt 4 4 := (zs_ltr 4 4 r2 h_x1 h_x3 (by decide))
    exact zs_some (zs_inr (h_σ))
  · skip
    have r4 := (zs_I_ltn c1)
    have g5 : zs_in (x3).toInt 0 3 := (zs_lel 0 3 r4 h_x3 h_x1 (by decide))
    refine zs_ite (fun c6 => ?_) (fun c6 => ?_)
    · skip
      have r7 := (zs_I_le c6)
      exact (zs_botle r7 zlI_9 g5 (by decide)).elim
    · skip
      have r8 := (zs_I_len c6)
      refine zs_bd_ (zd_137 h_σ h_x1 h_x2 g5 (s0 := ((1 : Int64), (0 : Int32))) ⟨trivial, (zs_w zlI_0 (by decide))⟩) (fun t_3 pt_3 => ?_)
      obtain ⟨ret, er, hr⟩ := zc_779 h_σ h_x1 h_x2 g5 hc
      refine ⟨ret, er, ?_⟩
      exact (zs_sumw hr (fun v w => ⟨w.1, w.2⟩) (fun v w => w.elim))
theorem zd_138 {σ0 : sn_S} {x1 : Int32} (h_x1 : zs_in x1.toInt 3 3) {x2 : Int32} (h_x2 : zs_in x2.toInt 0 10) {s0 : (sn_S × Int32)} (h0 : (zs_C σ0 s0.1 ∧ zs_in (s0.2).toInt 0 4)) : zs_ok (sn_it (LX4_weigh_2 x1 x2) 5000 s0) (fun t => zs_C σ0 t) := by
  refine zs_it (I := fun s => (zs_C σ0 s.1 ∧ zs_in (s.2).toInt 0 4)) (m := fun s => 4 - s.2.toInt) (fun s hs => ?_) (fun s hs => ?_) (by exact h0)
  · have h1 := hs.2; unfold zs_in at h1
    omega
  · obtain ⟨b, eb, hb⟩ := zc_780 hs.1 h_x1 h_x2 hs.2 (c := s.2.toInt) (Int.add_zero _).symm
    exact ⟨b, eb, zs_sumw hb (fun v w => ⟨⟨w.1.1, (zs_w w.1.2 (by decide))⟩, by have := w.2; omega⟩) (fun v w => w)⟩
-- fX4_weigh
theorem zc_781 {σ0 : sn_S} {σ : sn_S} (h_σ : zs_C σ0 σ) {x1 : Int32} (h_x1 : zs_in x1.toInt 3 3) {x2 : Int32} (h_x2 : zs_in x2.toInt 0 10) : zs_ok (fX4_weigh σ x1 x2) (fun r => zs_C σ0 r) := by
  unfold fX4_weigh
  obtain rfl : x1 = (3 : Int32) := zs_eqv h_x1 (by decide)
  refine zs_bd_ (zd_138 h_x1 h_x2 (s0 := (σ, (0 : Int32))) ⟨h_σ, (zs_w zlI_0 (by decide))⟩) (fun t_1 pt_1 => ?_)
  obtain ⟨ret, er, hr⟩ := zc_674 pt_1
  refine ⟨ret, er, ?_⟩
  exact hr
-- fX8_hasBit
theorem zc_782 {x0 : Int32} (h_x0 : zs_in x0.toInt 0 0) {x1 : Int32} (h_x1 : zs_in x1.toInt 0 2) : zs_ok (fX8_hasBit x0 x1) (fun r => zs_in (r).toInt 0 1) := by
  unfold fX8_hasBit
  obtain rfl : x0 = (0 : Int32) := zs_eqv h_x0 (by decide)
  refine zs_ite (fun c1 => ?_) (fun c1 => ?_)
  · skip
    have r2 := (zs_I_eq c1)
    have g3 : zs_in ((((0 : Int32) >>> (x1 &&& 31)) &&& (1 : Int32))).toInt 1 1 := (zs_eql 1 1 r2 (zs_and zlI_1 (by decide)) zlI_1 (by decide))
    refine zs_gd (zs_b01 zlI_1 (by decide)) ?_
    exact zs_some (zs_w zlI_1 (by decide))
  · skip
    have r4 := (zs_I_eqn c1)
    have g5 : zs_in ((((0 : Int32) >>> (x1 &&& 31)) &&& (1 : Int32))).toInt 0 0 := (zs_neh 0 0 r4 (zs_and zlI_1 (by decide)) zlI_1 (by decide))
    refine zs_gd (zs_b01 zlI_0 (by decide)) ?_
    exact zs_some (zs_w zlI_0 (by decide))
-- BX4_reckon_111
theorem zc_783 {σ0 : sn_S} {σ : sn_S} (h_σ : zs_C σ0 σ) {x3 : Int32} (h_x3 : zs_in x3.toInt 0 0) {x4 : Int32} (h_x4 : zs_in x4.toInt 0 5) {x6 : Int32} (h_x6 : zs_in x6.toInt 3 3) {x7 : Int32} (h_x7 : zs_in x7.toInt 0 0) {x8 : Int32} (h_x8 : zs_in x8.toInt 0 0) {x9 : Int32} (h_x9 : zs_in x9.toInt 0 2) {t1 : Int32} (h_t1 : zs_in t1.toInt 0 2) {t2 : Int32} {t3 : Int32} (h_t3 : zs_in t3.toInt 0 0) {c : Int} (hc : x9.toInt = c + 0) : zs_ok (BX4_reckon_111 σ 1 27 x3 x4 x6 x7 x8 x9 t1 t2 t3) (fun r => zs_sum (fun v => ((zs_C σ0 v.1 ∧ zs_in (v.2).toInt 1 3)) ∧ v.2.toInt = c + 1) (fun v => False) r) := by
  unfold BX4_reckon_111
  obtain rfl : x3 = (0 : Int32) := zs_eqv h_x3 (by decide)
  obtain rfl : x6 = (3 : Int32) := zs_eqv h_x6 (by decide)
  obtain rfl : x7 = (0 : Int32) := zs_eqv h_x7 (by decide)
  obtain rfl : x8 = (0 : Int32) := zs_eqv h_x8 (by decide)
  obtain rfl : t3 = (0 : Int32) := zs_eqv h_t3 (by decide)
  refine zs_gd (zs_gin h_t1 (by decide)) ?_
  refine zs_lt (Q := fun z => zs_C σ0 z) (zs_wrt h_σ (fun _ => rfl) (fun _ => rfl)) (fun σ_2 hσ_2 => ?_)
  refine zs_lt (Q := fun z => zs_in z.toInt 1 3 ∧ z.toInt = c + 1) ⟨(zs_addI 1 3 h_x9 zlI_1 (by decide)), (zs_syI 1 hc h_x9 zlI_1 (by decide) (by decide))⟩ (fun y_4 hy_4 => ?_)
  exact zs_some (zs_inl ⟨⟨hσ_2, hy_4.1⟩, hy_4.2⟩)
-- BX4_reckon_111
theorem zc_784 {σ0 : sn_S} {σ : sn_S} (h_σ : zs_C σ0 σ) {x3 : Int32} (h_x3 : zs_in x3.toInt 0 0) {x4 : Int32} (h_x4 : zs_in x4.toInt 0 5) {x6 : Int32} (h_x6 : zs_in x6.toInt 3 3) {x7 : Int32} (h_x7 : zs_in x7.toInt 0 0) {x8 : Int32} (h_x8 : zs_in x8.toInt 0 0) {x9 : Int32} (h_x9 : zs_in x9.toInt 0 2) {t1 : Int32} (h_t1 : zs_in t1.toInt 0 2) {t2 : Int32} {t3 : Int32} (h_t3 : zs_in t3.toInt 3 3) {c : Int} (hc : x9.toInt = c + 0) : zs_ok (BX4_reckon_111 σ 1 27 x3 x4 x6 x7 x8 x9 t1 t2 t3) (fun r => zs_sum (fun v => ((zs_C σ0 v.1 ∧ zs_in (v.2).toInt 1 3)) ∧ v.2.toInt = c + 1) (fun v => False) r) := by
  unfold BX4_reckon_111
  obtain rfl : x3 = (0 : Int32) := zs_eqv h_x3 (by decide)
  obtain rfl : x6 = (3 : Int32) := zs_eqv h_x6 (by decide)
  obtain rfl : x7 = (0 : Int32) := zs_eqv h_x7 (by decide)
  obtain rfl : x8 = (0 : Int32) := zs_eqv h_x8 (by decide)
  obtain rfl : t3 = (3 : Int32) := zs_eqv h_t3 (by decide)
  refine zs_gd (zs_gin h_t1 (by decide)) ?_
  refine zs_lt (Q := fun z => zs_C σ0 z) (zs_wrt h_σ (fun _ => rfl) (fun _ => rfl)) (fun σ_2 hσ_2 => ?_)
  refine zs_lt (Q := fun z => zs_in z.toInt 1 3 ∧ z.toInt = c + 1) ⟨(zs_addI 1 3 h_x9 zlI_1 (by decide)), (zs_syI 1 hc h_x9 zlI_1 (by decide) (by decide))⟩ (fun y_4 hy_4 => ?_)
  exact zs_some (zs_inl ⟨⟨hσ_2, hy_4.1⟩, hy_4.2⟩)
-- BX4_reckon_68
theorem zc_785 {σ0 : sn_S} {σ : sn_S} (h_σ : zs_C σ0 σ) {x3 : Int32} (h_x3 : zs_in x3.toInt 0 0) {x4 : Int32} (h_x4 : zs_in x4.toInt 0 5) {x6 : Int32} (h_x6 : zs_in x6.toInt 3 3) {x7 : Int32} (h_x7 : zs_in x7.toInt 0 0) {x8 : Int32} (h_x8 : zs_in x8.toInt 0 0) {x9 : Int32} (h_x9 : zs_in x9.toInt 0 3) {c : Int} (hc : x9.toInt = c + 0) : zs_ok (BX4_reckon_68 σ 1 27 x3 x4 x6 x7 x8 x9) (fun r => zs_sum (fun v => ((zs_C σ0 v.1 ∧ zs_in (v.2).toInt 1 3)) ∧ v.2.toInt = c + 1) (fun v => zs_C σ0 v) r) := by
  unfold BX4_reckon_68
  obtain rfl : x3 = (0 : Int32) := zs_eqv h_x3 (by decide)
  obtain rfl : x6 = (3 : Int32) := zs_eqv h_x6 (by decide)
  obtain rfl : x7 = (0 : Int32) := zs_eqv h_x7 (by decide)
  obtain rfl : x8 = (0 : Int32) := zs_eqv h_x8 (by decide)
  refine zs_ite (fun c1 => ?_) (fun c1 => ?_)
  · skip
    have r2 := (zs_I_le c1)
    have g3 : zs_in (x9).toInt 3 3 := (zs_ler 3 3 r2 h_x6 h_x9 (by decide))
    exact zs_some (zs_inr (h_σ))
  · skip
    have r4 := (zs_I_len c1)
    have g5 : zs_in (x9).toInt 0 2 := (zs_ltl 0 2 r4 h_x9 h_x6 (by decide))
    refine zs_gd (zs_gin g5 (by decide)) ?_
    refine zs_bd_ (zc_782 h_x7 (zs_subI 0 2 (zs_subI 2 2 h_x6 zlI_1 (by decide)) g5 (by decide))) (fun t_3 pt_3 => ?_)
    refine zs_ite (fun c6 => ?_) (fun c6 => ?_)
    · skip
      have r7 := (zs_I_eq c6)
      have g8 : zs_in (t_3).toInt 0 0 := (zs_eql 0 0 r7 pt_3 zlI_0 (by decide))
      obtain ⟨ret, er, hr⟩ := zc_783 h_σ h_x3 h_x4 h_x6 h_x7 h_x8 g5 g5 zlI_0 hc
      refine ⟨ret, er, ?_⟩
      exact (zs_sumw hr (fun v w => ⟨w.1, w.2⟩) (fun v w => w.elim))
    · skip
      have r9 := (zs_I_eqn c6)
      have g10 : zs_in (t_3).toInt 1 1 := (zs_nel 1 1 r9 pt_3 zlI_0 (by decide))
      obtain ⟨ret, er, hr⟩ := zc_784 h_σ h_x3 h_x4 h_x6 h_x7 h_x8 g5 g5 zlI_3 hc
      refine ⟨ret, er, ?_⟩
      exact (zs_sumw hr (fun v w => ⟨w.1, w.2⟩) (fun v w => w.elim))
theorem zd_139 {σ0 : sn_S} {x3 : Int32} (h_x3 : zs_in x3.toInt 0 0) {x4 : Int32} (h_x4 : zs_in x4.toInt 0 5) {x6 : Int32} (h_x6 : zs_in x6.toInt 3 3) {x7 : Int32} (h_x7 : zs_in x7.toInt 0 0) {x8 : Int32} (h_x8 : zs_in x8.toInt 0 0) {s0 : (sn_S × Int32)} (h0 : (zs_C σ0 s0.1 ∧ zs_in (s0.2).toInt 0 3)) : zs_ok (sn_it (LX4_reckon_68 1 27 x3 x4 x6 x7 x8) 5000 s0) (fun t => zs_C σ0 t) := by
  refine zs_it (I := fun s => (zs_C σ0 s.1 ∧ zs_in (s.2).toInt 0 3)) (m := fun s => 3 - s.2.toInt) (fun s hs => ?_) (fun s hs => ?_) (by exact h0)
  · have h1 := hs.2; unfold zs_in at h1
    omega
  · obtain ⟨b, eb, hb⟩ := zc_785 hs.1 h_x3 h_x4 h_x6 h_x7 h_x8 hs.2 (c := s.2.toInt) (Int.add_zero _).symm
    exact ⟨b, eb, zs_sumw hb (fun v w => ⟨⟨w.1.1, (zs_w w.1.2 (by decide))⟩, by have := w.2; omega⟩) (fun v w => w)⟩
-- BX0_live_2
theorem zc_786 {σ0 : sn_S} {σ : sn_S} (h_σ : zs_C σ0 σ) {x1 : Int32} (h_x1 : zs_in x1.toInt 0 0) {x2 : Int32} (h_x2 : zs_in x2.toInt 3 3) {x3 : Int32} (h_x3 : zs_in x3.toInt 0 6) {c : Int} (hc : x3.toInt = c + 0) : zs_ok (BX0_live_2 σ 59 x1 x2 x3) (fun r => zs_sum (fun v => ((zs_C σ0 v.1 ∧ zs_in (v.2).toInt 1 6)) ∧ v.2.toInt = c + 1) (fun v => zs_C σ0 v) r) := by
  unfold BX0_live_2
  obtain rfl : x1 = (0 : Int32) := zs_eqv h_x1 (by decide)
  obtain rfl : x2 = (3 : Int32) := zs_eqv h_x2 (by decide)
  refine zs_ite (fun c1 => ?_) (fun c1 => ?_)
  · skip
    have r2 := (zs_I_le c1)
    exact zs_some (zs_inr (h_σ))
  · skip
    have r3 := (zs_I_len c1)
    have g4 : zs_in (x3).toInt 0 5 := (zs_ltl 0 5 r3 h_x3 (zs_rdk (q := 59) (k := 1) (z := (0, 6)) h_σ.1 rfl) (by decide))
    have g5 : zs_in ((sn_I σ 59 1)).toInt 1 6 := (zs_ltr 1 6 r3 h_x3 (zs_rdk (q := 59) (k := 1) (z := (0, 6)) h_σ.1 rfl) (by decide))
    refine zs_gd (zs_gin g4 (by decide)) ?_
    refine zs_bd_ (zc_314 h_x1) (fun t_3 pt_3 => ?_)
    refine zs_gd (zs_gin g4 (by decide)) ?_
    refine zs_lt (Q := fun z => zs_C σ0 z) (zs_wru (z := (0, 1073741823)) h_σ (fun _ => rfl) (zs_and pt_3 (by decide)) (by decide) (fun _ => rfl)) (fun σ_6 hσ_6 => ?_)
    refine zs_lt (Q := fun z => zs_in z.toInt 1 6 ∧ z.toInt = c + 1) ⟨(zs_addI 1 6 g4 zlI_1 (by decide)), (zs_syI 1 hc g4 zlI_1 (by decide) (by decide))⟩ (fun y_8 hy_8 => ?_)
    exact zs_some (zs_inl ⟨⟨hσ_6, hy_8.1⟩, hy_8.2⟩)
theorem zd_140 {σ0 : sn_S} {x1 : Int32} (h_x1 : zs_in x1.toInt 0 0) {x2 : Int32} (h_x2 : zs_in x2.toInt 3 3) {s0 : (sn_S × Int32)} (h0 : (zs_C σ0 s0.1 ∧ zs_in (s0.2).toInt 0 6)) : zs_ok (sn_it (LX0_live_2 59 x1 x2) 5000 s0) (fun t => zs_C σ0 t) := by
  refine zs_it (I := fun s => (zs_C σ0 s.1 ∧ zs_in (s.2).toInt 0 6)) (m := fun s => 6 - s.2.toInt) (fun s hs => ?_) (fun s hs => ?_) (by exact h0)
  · have h1 := hs.2; unfold zs_in at h1
    omega
  · obtain ⟨b, eb, hb⟩ := zc_786 hs.1 h_x1 h_x2 hs.2 (c := s.2.toInt) (Int.add_zero _).symm
    exact ⟨b, eb, zs_sumw hb (fun v w => ⟨⟨w.1.1, (zs_w w.1.2 (by decide))⟩, by have := w.2; omega⟩) (fun v w => w)⟩
-- BX0_tickleByNets_7
theorem zc_787 {σ0 : sn_S} {σ : sn_S} (h_σ : zs_C σ0 σ) {x1 : Int32} (h_x1 : zs_in x1.toInt 0 2) {x2 : Int32} (h_x2 : zs_in x2.toInt 0 12) {x3 : Int32} (h_x3 : zs_in x3.toInt 0 6) (hl_x1 : x2.toInt = 6 * x1.toInt) {c : Int} (hc : x3.toInt = c + 0) : zs_ok (BX0_tickleByNets_7 σ 59 x1 x2 x3) (fun r => zs_sum (fun v => ((zs_C σ0 v.1 ∧ zs_in (v.2).toInt 1 6)) ∧ v.2.toInt = c + 1) (fun v => zs_C σ0 v) r) := by
  unfold BX0_tickleByNets_7
  refine zs_ite (fun c1 => ?_) (fun c1 => ?_)
  · skip
    have r2 := (zs_I_le c1)
    exact zs_some (zs_inr (h_σ))
  · skip
    have r3 := (zs_I_len c1)
    have g4 : zs_in (x3).toInt 0 5 := (zs_ltl 0 5 r3 h_x3 (zs_rdk (q := 59) (k := 1) (z := (0, 6)) h_σ.1 rfl) (by decide))
    have g5 : zs_in ((sn_I σ 59 1)).toInt 1 6 := (zs_ltr 1 6 r3 h_x3 (zs_rdk (q := 59) (k := 1) (z := (0, 6)) h_σ.1 rfl) (by decide))
    refine zs_gd (zs_gin (zs_addI 0 17 h_x2 g4 (by decide)) (by decide)) ?_
    refine zs_lt (Q := fun z => zs_C σ0 z) (zs_wrt h_σ (fun _ => rfl) (fun _ => rfl)) (fun σ_3 hσ_3 => ?_)
    refine zs_lt (Q := fun z => zs_in z.toInt 1 6 ∧ z.toInt = c + 1) ⟨(zs_addI 1 6 g4 zlI_1 (by decide)), (zs_syI 1 hc g4 zlI_1 (by decide) (by decide))⟩ (fun y_5 hy_5 => ?_)
    exact zs_some (zs_inl ⟨⟨hσ_3, hy_5.1⟩, hy_5.2⟩)
theorem zd_141 {σ0 : sn_S} {x1 : Int32} (h_x1 : zs_in x1.toInt 0 2) {x2 : Int32} (h_x2 : zs_in x2.toInt 0 12) (hl_x1 : x2.toInt = 6 * x1.toInt) {s0 : (sn_S × Int32)} (h0 : (zs_C σ0 s0.1 ∧ zs_in (s0.2).toInt 0 6)) : zs_ok (sn_it (LX0_tickleByNets_7 59 x1 x2) 5000 s0) (fun t => zs_C σ0 t) := by
  refine zs_it (I := fun s => (zs_C σ0 s.1 ∧ zs_in (s.2).toInt 0 6)) (m := fun s => 6 - s.2.toInt) (fun s hs => ?_) (fun s hs => ?_) (by exact h0)
  · have h1 := hs.2; unfold zs_in at h1
    omega
  · obtain ⟨b, eb, hb⟩ := zc_787 hs.1 h_x1 h_x2 hs.2 hl_x1 (c := s.2.toInt) (Int.add_zero _).symm
    exact ⟨b, eb, zs_sumw hb (fun v w => ⟨⟨w.1.1, (zs_w w.1.2 (by decide))⟩, by have := w.2; omega⟩) (fun v w => w)⟩
-- BX0_tickleByNets_149
theorem zc_788 {σ0 : sn_S} {σ : sn_S} (h_σ : zs_C σ0 σ) {x2 : Int32} (h_x2 : zs_in x2.toInt 6 12) {x3 : Int32} {x4 : Int32} (h_x4 : zs_in x4.toInt 0 7) {c : Int} (hc : x4.toInt = c + 0) : zs_ok (BX0_tickleByNets_149 σ 59 x2 x3 x4) (fun r => zs_sum (fun v => ((zs_C σ0 v.1 ∧ zs_in (v.2).toInt 1 8)) ∧ v.2.toInt = c + 1) (fun v => False) r) := by
  unfold BX0_tickleByNets_149
  refine zs_lt (Q := fun z => zs_in z.toInt 1 8 ∧ z.toInt = c + 1) ⟨(zs_addI 1 8 h_x4 zlI_1 (by decide)), (zs_syI 1 hc h_x4 zlI_1 (by decide) (by decide))⟩ (fun y_1 hy_1 => ?_)
  exact zs_some (zs_inl ⟨⟨h_σ, hy_1.1⟩, hy_1.2⟩)
-- BX0_tickleByNets_147
theorem zc_789 {σ0 : sn_S} {σ : sn_S} (h_σ : zs_C σ0 σ) {x2 : Int32} (h_x2 : zs_in x2.toInt 6 12) {x3 : Int32} {x4 : Int32} (h_x4 : zs_in x4.toInt 0 7) {t1 : Int32} (h_t1 : zs_in t1.toInt 6 17) {t2 : Int32} {t3 : Int32} (h_t3 : zs_in t3.toInt 0 0) {c : Int} (hc : x4.toInt = c + 0) : zs_ok (BX0_tickleByNets_147 σ 59 x2 x3 x4 t1 t2 t3) (fun r => zs_sum (fun v => ((zs_C σ0 v.1 ∧ zs_in (v.2).toInt 1 8)) ∧ v.2.toInt = c + 1) (fun v => False) r) := by
  unfold BX0_tickleByNets_147
  obtain rfl : t3 = (0 : Int32) := zs_eqv h_t3 (by decide)
  refine zs_gd (zs_gin h_t1 (by decide)) ?_
  refine zs_lt (Q := fun z => zs_C σ0 z) (zs_wrt h_σ (fun _ => rfl) (fun _ => rfl)) (fun σ_2 hσ_2 => ?_)
  obtain ⟨ret, er, hr⟩ := zc_788 hσ_2 h_x2 h_x4 hc
  refine ⟨ret, er, ?_⟩
  exact (zs_sumw hr (fun v w => ⟨w.1, w.2⟩) (fun v w => w.elim))
-- BX0_tickleByNets_147
theorem zc_790 {σ0 : sn_S} {σ : sn_S} (h_σ : zs_C σ0 σ) {x2 : Int32} (h_x2 : zs_in x2.toInt 6 12) {x3 : Int32} {x4 : Int32} (h_x4 : zs_in x4.toInt 0 7) {t1 : Int32} (h_t1 : zs_in t1.toInt 6 17) {t2 : Int32} {t3 : Int32} (h_t3 : zs_in t3.toInt 5 5) {c : Int} (hc : x4.toInt = c + 0) : zs_ok (BX0_tickleByNets_147 σ 59 x2 x3 x4 t1 t2 t3) (fun r => zs_sum (fun v => ((zs_C σ0 v.1 ∧ zs_in (v.2).toInt 1 8)) ∧ v.2.toInt = c + 1) (fun v => False) r) := by
  unfold BX0_tickleByNets_147
  obtain rfl : t3 = (5 : Int32) := zs_eqv h_t3 (by decide)
  refine zs_gd (zs_gin h_t1 (by decide)) ?_
  refine zs_lt (Q := fun z => zs_C σ0 z) (zs_wrt h_σ (fun _ => rfl) (fun _ => rfl)) (fun σ_2 hσ_2 => ?_)
  obtain ⟨ret, er, hr⟩ := zc_788 hσ_2 h_x2 h_x4 hc
  refine ⟨ret, er, ?_⟩
  exact (zs_sumw hr (fun v w => ⟨w.1, w.2⟩) (fun v w => w.elim))
-- BX0_tickleByNets_121
theorem zc_791 {σ0 : sn_S} {σ : sn_S} (h_σ : zs_C σ0 σ) {x2 : Int32} (h_x2 : zs_in x2.toInt 6 12) {x3 : Int32} {x4 : Int32} (h_x4 : zs_in x4.toInt 0 7) {x5 : Int32} (h_x5 : zs_in x5.toInt 0 5) {x6 : Int32} (h_x6 : zs_in x6.toInt 0 5) {t1 : Int32} (h_t1 : zs_in t1.toInt 6 17) {t2 : Int32} {t3 : Int32} (h_t3 : zs_in t3.toInt 0 0) {c : Int} (hc : x4.toInt = c + 0) : zs_ok (BX0_tickleByNets_121 σ 59 x2 x3 x4 x5 x6 t1 t2 t3) (fun r => zs_sum (fun v => ((zs_C σ0 v.1 ∧ zs_in (v.2).toInt 1 8)) ∧ v.2.toInt = c + 1) (fun v => False) r) := by
  unfold BX0_tickleByNets_121
  obtain rfl : t3 = (0 : Int32) := zs_eqv h_t3 (by decide)
  refine zs_gd (zs_gin h_t1 (by decide)) ?_
  refine zs_lt (Q := fun z => zs_C σ0 z) (zs_wrt h_σ (fun _ => rfl) (fun _ => rfl)) (fun σ_2 hσ_2 => ?_)
  refine zs_gd (zs_gin (zs_addI 6 17 h_x2 h_x6 (by decide)) (by decide)) ?_
  refine zs_bd_ (zc_319 h_x5) (fun t_5 pt_5 => ?_)
  refine zs_ite (fun c1 => ?_) (fun c1 => ?_)
  · skip
    have r2 := (zs_I_eq c1)
    have g3 : zs_in (t_5).toInt 0 0 := (zs_eql 0 0 r2 pt_5 zlI_0 (by decide))
    obtain ⟨ret, er, hr⟩ := zc_789 hσ_2 h_x2 h_x4 (zs_addI 6 17 h_x2 h_x6 (by decide)) zlI_0 hc
    refine ⟨ret, er, ?_⟩
    exact (zs_sumw hr (fun v w => ⟨w.1, w.2⟩) (fun v w => w.elim))
  · skip
    have r4 := (zs_I_eqn c1)
    have g5 : zs_in (t_5).toInt 1 1 := (zs_nel 1 1 r4 pt_5 zlI_0 (by decide))
    obtain ⟨ret, er, hr⟩ := zc_790 hσ_2 h_x2 h_x4 (zs_addI 6 17 h_x2 h_x6 (by decide)) zlI_5 hc
    refine ⟨ret, er, ?_⟩
    exact (zs_sumw hr (fun v w => ⟨w.1, w.2⟩) (fun v w => w.elim))
-- BX0_tickleByNets_121
theorem zc_792 {σ0 : sn_S} {σ : sn_S} (h_σ : zs_C σ0 σ) {x2 : Int32} (h_x2 : zs_in x2.toInt 6 12) {x3 : Int32} {x4 : Int32} (h_x4 : zs_in x4.toInt 0 7) {x5 : Int32} (h_x5 : zs_in x5.toInt 0 5) {x6 : Int32} (h_x6 : zs_in x6.toInt 0 5) {t1 : Int32} (h_t1 : zs_in t1.toInt 6 17) {t2 : Int32} {t3 : Int32} (h_t3 : zs_in t3.toInt 5 5) {c : Int} (hc : x4.toInt = c + 0) : zs_ok (BX0_tickleByNets_121 σ 59 x2 x3 x4 x5 x6 t1 t2 t3) (fun r => zs_sum (fun v => ((zs_C σ0 v.1 ∧ zs_in (v.2).toInt 1 8)) ∧ v.2.toInt = c + 1) (fun v => False) r) := by
  unfold BX0_tickleByNets_121
  obtain rfl : t3 = (5 : Int32) := zs_eqv h_t3 (by decide)
  refine zs_gd (zs_gin h_t1 (by decide)) ?_
  refine zs_lt (Q := fun z => zs_C σ0 z) (zs_wrt h_σ (fun _ => rfl) (fun _ => rfl)) (fun σ_2 hσ_2 => ?_)
  refine zs_gd (zs_gin (zs_addI 6 17 h_x2 h_x6 (by decide)) (by decide)) ?_
  refine zs_bd_ (zc_319 h_x5) (fun t_5 pt_5 => ?_)
  refine zs_ite (fun c1 => ?_) (fun c1 => ?_)
  · skip
    have r2 := (zs_I_eq c1)
    have g3 : zs_in (t_5).toInt 0 0 := (zs_eql 0 0 r2 pt_5 zlI_0 (by decide))
    obtain ⟨ret, er, hr⟩ := zc_789 hσ_2 h_x2 h_x4 (zs_addI 6 17 h_x2 h_x6 (by decide)) zlI_0 hc
    refine ⟨ret, er, ?_⟩
    exact (zs_sumw hr (fun v w => ⟨w.1, w.2⟩) (fun v w => w.elim))
  · skip
    have r4 := (zs_I_eqn c1)
    have g5 : zs_in (t_5).toInt 1 1 := (zs_nel 1 1 r4 pt_5 zlI_0 (by decide))
    obtain ⟨ret, er, hr⟩ := zc_790 hσ_2 h_x2 h_x4 (zs_addI 6 17 h_x2 h_x6 (by decide)) zlI_5 hc
    refine ⟨ret, er, ?_⟩
    exact (zs_sumw hr (fun v w => ⟨w.1, w.2⟩) (fun v w => w.elim))
-- BX0_tickleByNets_55
theorem zc_793 {σ0 : sn_S} {σ : sn_S} (h_σ : zs_C σ0 σ) {x2 : Int32} (h_x2 : zs_in x2.toInt 6 12) {x3 : Int32} {x4 : Int32} (h_x4 : zs_in x4.toInt 0 8) {c : Int} (hc : x4.toInt = c + 0) : zs_ok (BX0_tickleByNets_55 σ 59 x2 x3 x4) (fun r => zs_sum (fun v => ((zs_C σ0 v.1 ∧ zs_in (v.2).toInt 1 8)) ∧ v.2.toInt = c + 1) (fun v => zs_C σ0 v) r) := by
  unfold BX0_tickleByNets_55
  refine zs_ite (fun c1 => ?_) (fun c1 => ?_)
  · skip
    have r2 := (zs_I_le c1)
    exact zs_some (zs_inr (h_σ))
  · skip
    have r3 := (zs_I_len c1)
    have g4 : zs_in (x4).toInt 0 7 := (zs_ltl 0 7 r3 h_x4 (zs_rdk (q := 59) (k := 2) (z := (0, 8)) h_σ.1 rfl) (by decide))
    have g5 : zs_in ((sn_I σ 59 2)).toInt 1 8 := (zs_ltr 1 8 r3 h_x4 (zs_rdk (q := 59) (k := 2) (z := (0, 8)) h_σ.1 rfl) (by decide))
    refine zs_ite (fun c6 => ?_) (fun c6 => ?_)
    · skip
      have r7 := (zs_I_eq c6)
      have g8 : zs_in ((sn_I σ 59 3)).toInt 0 7 := (zs_eqr 0 7 r7 g4 (zs_topI _) (by decide))
      obtain ⟨ret, er, hr⟩ := zc_788 h_σ h_x2 g4 hc
      refine ⟨ret, er, ?_⟩
      exact (zs_sumw hr (fun v w => ⟨w.1, w.2⟩) (fun v w => w.elim))
    · skip
      have r9 := (zs_I_eqn c6)
      refine zs_gd (zs_gin (zs_mulI 0 14 zlI_2 g4 (by decide)) (by decide)) ?_
      refine zs_lt (Q := fun z => zs_in z.toInt 0 5) (zs_use (h_σ.1.2 rfl).2.2.2.1 g4 (by decide) r3 (zs_i20 g4 (by decide))) (fun y_4 hy_4 => ?_)
      refine zs_gd (zs_gin (zs_addI 1 15 (zs_mulI 0 14 zlI_2 g4 (by decide)) zlI_1 (by decide)) (by decide)) ?_
      refine zs_lt (Q := fun z => zs_in z.toInt 0 5) (zs_use (h_σ.1.2 rfl).2.2.2.2 g4 (by decide) r3 (zs_i21 g4 (by decide))) (fun y_7 hy_7 => ?_)
      refine zs_gd (zs_gin (zs_addI 6 17 h_x2 hy_4 (by decide)) (by decide)) ?_
      refine zs_bd_ (zc_319 hy_7) (fun t_10 pt_10 => ?_)
      refine zs_ite (fun c10 => ?_) (fun c10 => ?_)
      · skip
        have r11 := (zs_I_eq c10)
        have g12 : zs_in (t_10).toInt 0 0 := (zs_eql 0 0 r11 pt_10 zlI_0 (by decide))
        obtain ⟨ret, er, hr⟩ := zc_791 h_σ h_x2 g4 hy_4 hy_7 (zs_addI 6 17 h_x2 hy_4 (by decide)) zlI_0 hc
        refine ⟨ret, er, ?_⟩
        exact (zs_sumw hr (fun v w => ⟨w.1, w.2⟩) (fun v w => w.elim))
      · skip
        have r13 := (zs_I_eqn c10)
        have g14 : zs_in (t_10).toInt 1 1 := (zs_nel 1 1 r13 pt_10 zlI_0 (by decide))
        obtain ⟨ret, er, hr⟩ := zc_792 h_σ h_x2 g4 hy_4 hy_7 (zs_addI 6 17 h_x2 hy_4 (by decide)) zlI_5 hc
        refine ⟨ret, er, ?_⟩
        exact (zs_sumw hr (fun v w => ⟨w.1, w.2⟩) (fun v w => w.elim))
theorem zd_142 {σ0 : sn_S} {x2 : Int32} (h_x2 : zs_in x2.toInt 6 12) {x3 : Int32} {s0 : (sn_S × Int32)} (h0 : (zs_C σ0 s0.1 ∧ zs_in (s0.2).toInt 0 8)) : zs_ok (sn_it (LX0_tickleByNets_55 59 x2 x3) 5000 s0) (fun t => zs_C σ0 t) := by
  refine zs_it (I := fun s => (zs_C σ0 s.1 ∧ zs_in (s.2).toInt 0 8)) (m := fun s => 8 - s.2.toInt) (fun s hs => ?_) (fun s hs => ?_) (by exact h0)
  · have h1 := hs.2; unfold zs_in at h1
    omega
  · obtain ⟨b, eb, hb⟩ := zc_793 hs.1 h_x2 hs.2 (c := s.2.toInt) (Int.add_zero _).symm
    exact ⟨b, eb, zs_sumw hb (fun v w => ⟨⟨w.1.1, (zs_w w.1.2 (by decide))⟩, by have := w.2; omega⟩) (fun v w => w)⟩
-- BX0_tickleByNets_46
theorem zc_794 {σ0 : sn_S} {σ : sn_S} (h_σ : zs_C σ0 σ) {x2 : Int32} (h_x2 : zs_in x2.toInt 6 12) {t0 : Int32} : zs_ok (BX0_tickleByNets_46 σ 59 x2 t0) (fun r => zs_C σ0 r) := by
  unfold BX0_tickleByNets_46
  refine zs_ite (fun c1 => ?_) (fun c1 => ?_)
  · skip
    have r2 := (zs_I_eq c1)
    have g3 : zs_in (t0).toInt 0 0 := (zs_eql 0 0 r2 (zs_topI _) zlI_0 (by decide))
    exact zs_some h_σ
  · skip
    have r4 := (zs_I_eqn c1)
    refine zs_bd_ (zd_142 h_x2 (s0 := (σ, (0 : Int32))) ⟨h_σ, (zs_w zlI_0 (by decide))⟩) (fun t_2 pt_2 => ?_)
    obtain ⟨ret, er, hr⟩ := zc_737 pt_2
    refine ⟨ret, er, ?_⟩
    exact hr
-- BX0_tickleByNets_30
theorem zc_795 {σ0 : sn_S} {σ : sn_S} (h_σ : zs_C σ0 σ) {x1 : Int32} (h_x1 : zs_in x1.toInt 0 2) {x2 : Int32} (h_x2 : zs_in x2.toInt 0 12) (hl_x1 : x2.toInt = 6 * x1.toInt) : zs_ok (BX0_tickleByNets_30 σ 59 x1 x2) (fun r => zs_C σ0 r) := by
  unfold BX0_tickleByNets_30
  refine zs_ite (fun c1 => ?_) (fun c1 => ?_)
  · skip
    have r2 := (zs_I_eq c1)
    have g3 : zs_in (x1).toInt 0 0 := (zs_eql 0 0 r2 h_x1 zlI_0 (by decide))
    have g4 : zs_in (x2).toInt 0 0 := (zs_lin 0 0 hl_x1 g3 (by decide))
    obtain ⟨ret, er, hr⟩ := zc_682 h_σ g4 zlI_0
    refine ⟨ret, er, ?_⟩
    exact hr
  · skip
    have r5 := (zs_I_eqn c1)
    have g6 : zs_in (x1).toInt 1 2 := (zs_nel 1 2 r5 h_x1 zlI_0 (by decide))
    have g7 : zs_in (x2).toInt 6 12 := (zs_lin 6 12 hl_x1 g6 (by decide))
    refine zs_gd (zs_gin (zs_subI 0 1 g6 zlI_1 (by decide)) (by decide)) ?_
    obtain ⟨ret, er, hr⟩ := zc_794 h_σ g7
    refine ⟨ret, er, ?_⟩
    exact hr
-- fX0_tickleByNets
theorem zc_796 {σ0 : sn_S} {σ : sn_S} (h_σ : zs_C σ0 σ) {x1 : Int32} (h_x1 : zs_in x1.toInt 0 2) : zs_ok (fX0_tickleByNets σ 59 x1) (fun r => zs_C σ0 r) := by
  unfold fX0_tickleByNets
  refine zs_lt (Q := fun z => zs_in z.toInt 0 12 ∧ z = ((6 : Int32) * x1)) ⟨(zs_mulI 0 12 zlI_6 h_x1 (by decide)), rfl⟩ (fun y_1 hy_1 => ?_)
  refine zs_bd_ (zd_141 h_x1 hy_1.1 (zs_linv hy_1.2 zlI_6 h_x1 (by decide)) (s0 := (σ, (0 : Int32))) ⟨h_σ, (zs_w zlI_0 (by decide))⟩) (fun t_3 pt_3 => ?_)
  obtain ⟨ret, er, hr⟩ := zc_795 pt_3 h_x1 hy_1.1 (zs_linv hy_1.2 zlI_6 h_x1 (by decide))
  refine ⟨ret, er, ?_⟩
  exact hr
-- fX8_hasBit
theorem zc_797 {x0 : Int32} {x1 : Int32} (h_x1 : zs_in x1.toInt 0 2) : zs_ok (fX8_hasBit x0 x1) (fun r => zs_in (r).toInt 0 1) := by
  unfold fX8_hasBit
  refine zs_ite (fun c1 => ?_) (fun c1 => ?_)
  · skip
    have r2 := (zs_I_eq c1)
    have g3 : zs_in (((x0 >>> (x1 &&& 31)) &&& (1 : Int32))).toInt 1 1 := (zs_eql 1 1 r2 (zs_and zlI_1 (by decide)) zlI_1 (by decide))
    refine zs_gd (zs_b01 zlI_1 (by decide)) ?_
    exact zs_some (zs_w zlI_1 (by decide))
  · skip
    have r4 := (zs_I_eqn c1)
    have g5 : zs_in (((x0 >>> (x1 &&& 31)) &&& (1 : Int32))).toInt 0 0 := (zs_neh 0 0 r4 (zs_and zlI_1 (by decide)) zlI_1 (by decide))
    refine zs_gd (zs_b01 zlI_0 (by decide)) ?_
    exact zs_some (zs_w zlI_0 (by decide))
-- fX0_cameAt
theorem zc_798 {σ0 : sn_S} {σ : sn_S} (h_σ : zs_C σ0 σ) {x1 : Int32} (h_x1 : zs_in x1.toInt 0 5) {x2 : Int32} (h_x2 : zs_in x2.toInt 0 2) : zs_ok (fX0_cameAt σ 59 x1 x2) (fun r => True) := by
  unfold fX0_cameAt
  refine zs_gd (zs_gin (zs_addI 0 17 (zs_mulI 0 12 zlI_6 h_x2 (by decide)) h_x1 (by decide)) (by decide)) ?_
  exact zs_some trivial
-- BX0_comesTo_19
theorem zc_799 {σ0 : sn_S} {σ : sn_S} (h_σ : zs_C σ0 σ) {x1 : Int32} (h_x1 : zs_in x1.toInt 0 5) {x2 : Int32} (h_x2 : zs_in x2.toInt 0 2) {t0 : Int32} (h_t0 : zs_in t0.toInt 0 0) : zs_ok (BX0_comesTo_19 σ 59 x1 x2 t0) (fun r => True) := by
  unfold BX0_comesTo_19
  obtain rfl : t0 = (0 : Int32) := zs_eqv h_t0 (by decide)
  refine zs_gd (zs_gin h_x1 (by decide)) ?_
  refine zs_gd (zs_gin h_x2 (by decide)) ?_
  refine zs_bd_ (zc_798 h_σ h_x1 h_x2) (fun t_3 pt_3 => ?_)
  exact zs_some trivial
-- BX0_comesTo_19
theorem zc_800 {σ0 : sn_S} {σ : sn_S} (h_σ : zs_C σ0 σ) {x1 : Int32} (h_x1 : zs_in x1.toInt 0 5) {x2 : Int32} (h_x2 : zs_in x2.toInt 0 2) {t0 : Int32} (h_t0 : zs_in t0.toInt 40 40) : zs_ok (BX0_comesTo_19 σ 59 x1 x2 t0) (fun r => True) := by
  unfold BX0_comesTo_19
  obtain rfl : t0 = (40 : Int32) := zs_eqv h_t0 (by decide)
  refine zs_gd (zs_gin h_x1 (by decide)) ?_
  refine zs_gd (zs_gin h_x2 (by decide)) ?_
  refine zs_bd_ (zc_798 h_σ h_x1 h_x2) (fun t_3 pt_3 => ?_)
  exact zs_some trivial
-- fX0_comesTo
theorem zc_801 {σ0 : sn_S} {σ : sn_S} (h_σ : zs_C σ0 σ) {x1 : Int32} (h_x1 : zs_in x1.toInt 0 5) {x2 : Int32} (h_x2 : zs_in x2.toInt 0 2) : zs_ok (fX0_comesTo σ 59 x1 x2) (fun r => True) := by
  unfold fX0_comesTo
  refine zs_gd (zs_gin h_x1 (by decide)) ?_
  refine zs_bd_ (zc_797 h_x2) (fun t_2 pt_2 => ?_)
  refine zs_ite (fun c1 => ?_) (fun c1 => ?_)
  · skip
    have r2 := (zs_I_eq c1)
    have g3 : zs_in (t_2).toInt 0 0 := (zs_eql 0 0 r2 pt_2 zlI_0 (by decide))
    obtain ⟨ret, er, hr⟩ := zc_799 h_σ h_x1 h_x2 zlI_0
    refine ⟨ret, er, ?_⟩
    exact hr
  · skip
    have r4 := (zs_I_eqn c1)
    have g5 : zs_in (t_2).toInt 1 1 := (zs_nel 1 1 r4 pt_2 zlI_0 (by decide))
    obtain ⟨ret, er, hr⟩ := zc_800 h_σ h_x1 h_x2 zlI_40
    refine ⟨ret, er, ?_⟩
    exact hr
-- BX0_liveMinute_98
theorem zc_802 {σ0 : sn_S} {σ : sn_S} (h_σ : zs_C σ0 σ) {x1 : Int32} (h_x1 : zs_in x1.toInt 1 2) {x2 : Int32} (h_x2 : zs_in x2.toInt 6 12) {x3 : Int32} {x4 : Int32} (h_x4 : zs_in x4.toInt 0 5) {x5 : Int32} (h_x5 : zs_in x5.toInt (-2147483648) 2147483646) (hl_x1 : x2.toInt = 6 * x1.toInt) {c : Int} (hc : x4.toInt = c + 0) : zs_ok (BX0_liveMinute_98 σ 59 x1 x2 x3 x4 x5) (fun r => zs_sum (fun v => ((zs_C σ0 v.1 ∧ (True ∧ zs_in (v.2.2).toInt 1 6))) ∧ v.2.2.toInt = c + 1) (fun v => False) r) := by
  unfold BX0_liveMinute_98
  refine zs_gd (zs_gin (zs_addI 6 17 h_x2 h_x4 (by decide)) (by decide)) ?_
  refine zs_lt (Q := fun z => zs_C σ0 z) (zs_wrt h_σ (fun _ => rfl) (fun _ => rfl)) (fun σ_2 hσ_2 => ?_)
  refine zs_lt (Q := fun z => zs_in z.toInt 1 6 ∧ z.toInt = c + 1) ⟨(zs_addI 1 6 h_x4 zlI_1 (by decide)), (zs_syI 1 hc h_x4 zlI_1 (by decide) (by decide))⟩ (fun y_4 hy_4 => ?_)
  exact zs_some (zs_inl ⟨⟨hσ_2, ⟨trivial, hy_4.1⟩⟩, hy_4.2⟩)
-- fX8_hasBit
theorem zc_803 {x0 : Int32} {x1 : Int32} (h_x1 : zs_in x1.toInt 1 2) : zs_ok (fX8_hasBit x0 x1) (fun r => zs_in (r).toInt 0 1) := by
  unfold fX8_hasBit
  refine zs_ite (fun c1 => ?_) (fun c1 => ?_)
  · skip
    have r2 := (zs_I_eq c1)
    have g3 : zs_in (((x0 >>> (x1 &&& 31)) &&& (1 : Int32))).toInt 1 1 := (zs_eql 1 1 r2 (zs_and zlI_1 (by decide)) zlI_1 (by decide))
    refine zs_gd (zs_b01 zlI_1 (by decide)) ?_
    exact zs_some (zs_w zlI_1 (by decide))
  · skip
    have r4 := (zs_I_eqn c1)
    have g5 : zs_in (((x0 >>> (x1 &&& 31)) &&& (1 : Int32))).toInt 0 0 := (zs_neh 0 0 r4 (zs_and zlI_1 (by decide)) zlI_1 (by decide))
    refine zs_gd (zs_b01 zlI_0 (by decide)) ?_
    exact zs_some (zs_w zlI_0 (by decide))
-- BX0_liveMinute_98
theorem zc_804 {σ0 : sn_S} {σ : sn_S} (h_σ : zs_C σ0 σ) {x1 : Int32} (h_x1 : zs_in x1.toInt 1 2) {x2 : Int32} (h_x2 : zs_in x2.toInt 6 12) {x3 : Int32} {x4 : Int32} (h_x4 : zs_in x4.toInt 0 5) {x5 : Int32} (h_x5 : zs_in x5.toInt 0 0) (hl_x1 : x2.toInt = 6 * x1.toInt) {c : Int} (hc : x4.toInt = c + 0) : zs_ok (BX0_liveMinute_98 σ 59 x1 x2 x3 x4 x5) (fun r => zs_sum (fun v => ((zs_C σ0 v.1 ∧ (True ∧ zs_in (v.2.2).toInt 1 6))) ∧ v.2.2.toInt = c + 1) (fun v => False) r) := by
  unfold BX0_liveMinute_98
  obtain rfl : x5 = (0 : Int32) := zs_eqv h_x5 (by decide)
  refine zs_gd (zs_gin (zs_addI 6 17 h_x2 h_x4 (by decide)) (by decide)) ?_
  refine zs_lt (Q := fun z => zs_C σ0 z) (zs_wrt h_σ (fun _ => rfl) (fun _ => rfl)) (fun σ_2 hσ_2 => ?_)
  refine zs_lt (Q := fun z => zs_in z.toInt 1 6 ∧ z.toInt = c + 1) ⟨(zs_addI 1 6 h_x4 zlI_1 (by decide)), (zs_syI 1 hc h_x4 zlI_1 (by decide) (by decide))⟩ (fun y_4 hy_4 => ?_)
  exact zs_some (zs_inl ⟨⟨hσ_2, ⟨trivial, hy_4.1⟩⟩, hy_4.2⟩)
-- BX0_liveMinute_98
theorem zc_805 {σ0 : sn_S} {σ : sn_S} (h_σ : zs_C σ0 σ) {x1 : Int32} (h_x1 : zs_in x1.toInt 1 2) {x2 : Int32} (h_x2 : zs_in x2.toInt 6 12) {x3 : Int32} {x4 : Int32} (h_x4 : zs_in x4.toInt 0 5) {x5 : Int32} (hl_x1 : x2.toInt = 6 * x1.toInt) {c : Int} (hc : x4.toInt = c + 0) : zs_ok (BX0_liveMinute_98 σ 59 x1 x2 x3 x4 x5) (fun r => zs_sum (fun v => ((zs_C σ0 v.1 ∧ (True ∧ zs_in (v.2.2).toInt 1 6))) ∧ v.2.2.toInt = c + 1) (fun v => False) r) := by
  unfold BX0_liveMinute_98
  refine zs_gd (zs_gin (zs_addI 6 17 h_x2 h_x4 (by decide)) (by decide)) ?_
  refine zs_lt (Q := fun z => zs_C σ0 z) (zs_wrt h_σ (fun _ => rfl) (fun _ => rfl)) (fun σ_2 hσ_2 => ?_)
  refine zs_lt (Q := fun z => zs_in z.toInt 1 6 ∧ z.toInt = c + 1) ⟨(zs_addI 1 6 h_x4 zlI_1 (by decide)), (zs_syI 1 hc h_x4 zlI_1 (by decide) (by decide))⟩ (fun y_4 hy_4 => ?_)
  exact zs_some (zs_inl ⟨⟨hσ_2, ⟨trivial, hy_4.1⟩⟩, hy_4.2⟩)
-- BX0_liveMinute_46
theorem zc_806 {σ0 : sn_S} {σ : sn_S} (h_σ : zs_C σ0 σ) {x1 : Int32} (h_x1 : zs_in x1.toInt 1 2) {x2 : Int32} (h_x2 : zs_in x2.toInt 6 12) {x3 : Int32} {x4 : Int32} (h_x4 : zs_in x4.toInt 0 5) {t0 : Int32} {t1 : Int32} (hl_x1 : x2.toInt = 6 * x1.toInt) {c : Int} (hc : x4.toInt = c + 0) : zs_ok (BX0_liveMinute_46 σ 59 x1 x2 x3 x4 t0 t1) (fun r => zs_sum (fun v => ((zs_C σ0 v.1 ∧ (True ∧ zs_in (v.2.2).toInt 1 6))) ∧ v.2.2.toInt = c + 1) (fun v => False) r) := by
  unfold BX0_liveMinute_46
  refine zs_lt (Q := fun z => True) trivial (fun y_1 hy_1 => ?_)
  refine zs_gd (zs_gin h_x4 (by decide)) ?_
  refine zs_ite (fun c1 => ?_) (fun c1 => ?_)
  · skip
    have r2 := (zs_I_lt c1)
    have g3 : zs_in (y_1).toInt (-2147483648) 2147483646 := (zs_ltl (-2147483648) 2147483646 r2 (zs_topI _) (zs_topI _) (by decide))
    have g4 : zs_in ((sn_I σ (59 + 3) x4.toNatClampNeg)).toInt (-2147483647) 2147483647 := (zs_ltr (-2147483647) 2147483647 r2 (zs_topI _) (zs_topI _) (by decide))
    obtain ⟨ret, er, hr⟩ := zc_802 h_σ h_x1 h_x2 h_x4 g3 hl_x1 hc
    refine ⟨ret, er, ?_⟩
    exact (zs_sumw hr (fun v w => ⟨w.1, w.2⟩) (fun v w => w.elim))
  · skip
    have r5 := (zs_I_ltn c1)
    refine zs_gd (zs_gin h_x4 (by decide)) ?_
    refine zs_bd_ (zc_803 h_x1) (fun t_6 pt_6 => ?_)
    refine zs_ite (fun c6 => ?_) (fun c6 => ?_)
    · skip
      have r7 := (zs_I_eq c6)
      have g8 : zs_in (t_6).toInt 0 0 := (zs_eql 0 0 r7 pt_6 zlI_0 (by decide))
      refine zs_lt (Q := fun z => True) trivial (fun y_9 hy_9 => ?_)
      refine zs_gd (zs_gin h_x4 (by decide)) ?_
      refine zs_gd (zs_gin h_x4 (by decide)) ?_
      refine zs_lt (Q := fun z => zs_C σ0 z) (zs_wru (z := (0, 1073741823)) h_σ (fun _ => rfl) (zs_or 30 1073741823 (zs_rdu (q := 69) (z := (0, 1073741823)) h_σ.1 (fun _ => rfl)) (zs_cases h_x1 (fun z => zs_in ((1 : Int32) <<< (z &&& 31)).toInt 2 4) (by decide +kernel)) (by decide)) (by decide) (fun _ => rfl)) (fun σ_13 hσ_13 => ?_)
      obtain ⟨ret, er, hr⟩ := zc_804 hσ_13 h_x1 h_x2 h_x4 zlI_0 hl_x1 hc
      refine ⟨ret, er, ?_⟩
      exact (zs_sumw hr (fun v w => ⟨w.1, w.2⟩) (fun v w => w.elim))
    · skip
      have r9 := (zs_I_eqn c6)
      have g10 : zs_in (t_6).toInt 1 1 := (zs_nel 1 1 r9 pt_6 zlI_0 (by decide))
      obtain ⟨ret, er, hr⟩ := zc_805 h_σ h_x1 h_x2 h_x4 hl_x1 hc
      refine ⟨ret, er, ?_⟩
      exact (zs_sumw hr (fun v w => ⟨w.1, w.2⟩) (fun v w => w.elim))
-- BX0_liveMinute_10
theorem zc_807 {σ0 : sn_S} {σ : sn_S} (h_σ : zs_C σ0 σ) {x1 : Int32} (h_x1 : zs_in x1.toInt 0 2) {x2 : Int32} (h_x2 : zs_in x2.toInt 0 12) {x3 : Int32} {x4 : Int32} (h_x4 : zs_in x4.toInt 0 6) (hl_x1 : x2.toInt = 6 * x1.toInt) {c : Int} (hc : x4.toInt = c + 0) : zs_ok (BX0_liveMinute_10 σ 59 x1 x2 x3 x4) (fun r => zs_sum (fun v => ((zs_C σ0 v.1 ∧ (True ∧ zs_in (v.2.2).toInt 1 6))) ∧ v.2.2.toInt = c + 1) (fun v => (zs_C σ0 v.1 ∧ True)) r) := by
  unfold BX0_liveMinute_10
  refine zs_ite (fun c1 => ?_) (fun c1 => ?_)
  · skip
    have r2 := (zs_I_le c1)
    exact zs_some (zs_inr (⟨h_σ, trivial⟩))
  · skip
    have r3 := (zs_I_len c1)
    have g4 : zs_in (x4).toInt 0 5 := (zs_ltl 0 5 r3 h_x4 (zs_rdk (q := 59) (k := 1) (z := (0, 6)) h_σ.1 rfl) (by decide))
    have g5 : zs_in ((sn_I σ 59 1)).toInt 1 6 := (zs_ltr 1 6 r3 h_x4 (zs_rdk (q := 59) (k := 1) (z := (0, 6)) h_σ.1 rfl) (by decide))
    refine zs_bd_ (zc_801 h_σ g4 h_x1) (fun t_2 pt_2 => ?_)
    refine zs_ite (fun c6 => ?_) (fun c6 => ?_)
    · skip
      have r7 := (zs_I_eq c6)
      have g8 : zs_in (x1).toInt 0 0 := (zs_eql 0 0 r7 h_x1 zlI_0 (by decide))
      have g9 : zs_in (x2).toInt 0 0 := (zs_lin 0 0 hl_x1 g8 (by decide))
      obtain ⟨ret, er, hr⟩ := zc_692 h_σ g8 g9 g4 zlI_0 hl_x1 hc
      refine ⟨ret, er, ?_⟩
      exact (zs_sumw hr (fun v w => ⟨w.1, w.2⟩) (fun v w => w.elim))
    · skip
      have r10 := (zs_I_eqn c6)
      have g11 : zs_in (x1).toInt 1 2 := (zs_nel 1 2 r10 h_x1 zlI_0 (by decide))
      have g12 : zs_in (x2).toInt 6 12 := (zs_lin 6 12 hl_x1 g11 (by decide))
      refine zs_gd (zs_gin (zs_addI 0 11 (zs_subI 0 6 g12 zlI_6 (by decide)) g4 (by decide)) (by decide)) ?_
      obtain ⟨ret, er, hr⟩ := zc_806 h_σ g11 g12 g4 hl_x1 hc
      refine ⟨ret, er, ?_⟩
      exact (zs_sumw hr (fun v w => ⟨w.1, w.2⟩) (fun v w => w.elim))
theorem zd_143 {σ0 : sn_S} {x1 : Int32} (h_x1 : zs_in x1.toInt 0 2) {x2 : Int32} (h_x2 : zs_in x2.toInt 0 12) (hl_x1 : x2.toInt = 6 * x1.toInt) {s0 : (sn_S × (Int32 × Int32))} (h0 : (zs_C σ0 s0.1 ∧ (True ∧ zs_in (s0.2.2).toInt 0 6))) : zs_ok (sn_it (LX0_liveMinute_10 59 x1 x2) 5000 s0) (fun t => (zs_C σ0 t.1 ∧ True)) := by
  refine zs_it (I := fun s => (zs_C σ0 s.1 ∧ (True ∧ zs_in (s.2.2).toInt 0 6))) (m := fun s => 6 - s.2.2.toInt) (fun s hs => ?_) (fun s hs => ?_) (by exact h0)
  · have h1 := hs.2.2; unfold zs_in at h1
    omega
  · obtain ⟨b, eb, hb⟩ := zc_807 hs.1 h_x1 h_x2 hs.2.2 hl_x1 (c := s.2.2.toInt) (Int.add_zero _).symm
    exact ⟨b, eb, zs_sumw hb (fun v w => ⟨⟨w.1.1, ⟨w.1.2.1, (zs_w w.1.2.2 (by decide))⟩⟩, by have := w.2; omega⟩) (fun v w => w)⟩
-- BX0_liveMinute_115
theorem zc_808 {σ0 : sn_S} {σ : sn_S} (h_σ : zs_C σ0 σ) {x1 : Int32} (h_x1 : zs_in x1.toInt 0 2) {x3 : Int32} : zs_ok (BX0_liveMinute_115 σ 59 x1 x3) (fun r => zs_C σ0 r) := by
  unfold BX0_liveMinute_115
  refine zs_gd (zs_gin h_x1 (by decide)) ?_
  refine zs_lt (Q := fun z => zs_C σ0 z) (zs_wrt h_σ (fun _ => rfl) (fun _ => rfl)) (fun σ_2 hσ_2 => ?_)
  exact zs_some hσ_2
-- fX0_liveMinute
theorem zc_809 {σ0 : sn_S} {σ : sn_S} (h_σ : zs_C σ0 σ) {x1 : Int32} (h_x1 : zs_in x1.toInt 0 2) : zs_ok (fX0_liveMinute σ 59 x1) (fun r => zs_C σ0 r) := by
  unfold fX0_liveMinute
  refine zs_lt (Q := fun z => zs_in z.toInt 0 12 ∧ z = ((6 : Int32) * x1)) ⟨(zs_mulI 0 12 zlI_6 h_x1 (by decide)), rfl⟩ (fun y_1 hy_1 => ?_)
  refine zs_bd_ (zd_143 h_x1 hy_1.1 (zs_linv hy_1.2 zlI_6 h_x1 (by decide)) (s0 := (σ, ((0 : Int32), (0 : Int32)))) ⟨h_σ, ⟨trivial, (zs_w zlI_0 (by decide))⟩⟩) (fun t_3 pt_3 => ?_)
  obtain ⟨ret, er, hr⟩ := zc_808 pt_3.1 h_x1
  refine ⟨ret, er, ?_⟩
  exact hr
-- BX0_live_31
theorem zc_810 {σ0 : sn_S} {σ : sn_S} (h_σ : zs_C σ0 σ) {x2 : Int32} (h_x2 : zs_in x2.toInt 3 3) {x3 : Int32} (h_x3 : zs_in x3.toInt 0 3) {c : Int} (hc : x3.toInt = c + 0) : zs_ok (BX0_live_31 σ 59 x2 x3) (fun r => zs_sum (fun v => ((zs_C σ0 v.1 ∧ zs_in (v.2).toInt 1 3)) ∧ v.2.toInt = c + 1) (fun v => zs_C σ0 v) r) := by
  unfold BX0_live_31
  obtain rfl : x2 = (3 : Int32) := zs_eqv h_x2 (by decide)
  refine zs_ite (fun c1 => ?_) (fun c1 => ?_)
  · skip
    have r2 := (zs_I_le c1)
    have g3 : zs_in (x3).toInt 3 3 := (zs_ler 3 3 r2 h_x2 h_x3 (by decide))
    exact zs_some (zs_inr (h_σ))
  · skip
    have r4 := (zs_I_len c1)
    have g5 : zs_in (x3).toInt 0 2 := (zs_ltl 0 2 r4 h_x3 h_x2 (by decide))
    refine zs_ite (fun c6 => ?_) (fun c6 => ?_)
    · skip
      have r7 := (zs_I_le c6)
      have g8 : zs_in ((sn_I σ 59 0)).toInt 0 2 := (zs_lel 0 2 r7 (zs_rdk (q := 59) (k := 0) (z := (0, 30)) h_σ.1 rfl) g5 (by decide))
      exact zs_some (zs_inr (h_σ))
    · skip
      have r9 := (zs_I_len c6)
      have g10 : zs_in ((sn_I σ 59 0)).toInt 1 30 := (zs_ltr 1 30 r9 g5 (zs_rdk (q := 59) (k := 0) (z := (0, 30)) h_σ.1 rfl) (by decide))
      refine zs_bd_ (zc_796 h_σ g5) (fun t_3 pt_3 => ?_)
      refine zs_bd_ (zc_809 pt_3 g5) (fun t_5 pt_5 => ?_)
      refine zs_lt (Q := fun z => zs_in z.toInt 1 3 ∧ z.toInt = c + 1) ⟨(zs_addI 1 3 g5 zlI_1 (by decide)), (zs_syI 1 hc g5 zlI_1 (by decide) (by decide))⟩ (fun y_7 hy_7 => ?_)
      exact zs_some (zs_inl ⟨⟨pt_5, hy_7.1⟩, hy_7.2⟩)
theorem zd_144 {σ0 : sn_S} {x2 : Int32} (h_x2 : zs_in x2.toInt 3 3) {s0 : (sn_S × Int32)} (h0 : (zs_C σ0 s0.1 ∧ zs_in (s0.2).toInt 0 3)) : zs_ok (sn_it (LX0_live_31 59 x2) 5000 s0) (fun t => zs_C σ0 t) := by
  refine zs_it (I := fun s => (zs_C σ0 s.1 ∧ zs_in (s.2).toInt 0 3)) (m := fun s => 3 - s.2.toInt) (fun s hs => ?_) (fun s hs => ?_) (by exact h0)
  · have h1 := hs.2; unfold zs_in at h1
    omega
  · obtain ⟨b, eb, hb⟩ := zc_810 hs.1 h_x2 hs.2 (c := s.2.toInt) (Int.add_zero _).symm
    exact ⟨b, eb, zs_sumw hb (fun v w => ⟨⟨w.1.1, (zs_w w.1.2 (by decide))⟩, by have := w.2; omega⟩) (fun v w => w)⟩
-- BX0_live_29
theorem zc_811 {σ0 : sn_S} {σ : sn_S} (h_σ : zs_C σ0 σ) {x1 : Int32} (h_x1 : zs_in x1.toInt 0 0) {x2 : Int32} (h_x2 : zs_in x2.toInt 3 3) : zs_ok (BX0_live_29 σ 59 x1 x2) (fun r => zs_C σ0 r) := by
  unfold BX0_live_29
  obtain rfl : x1 = (0 : Int32) := zs_eqv h_x1 (by decide)
  obtain rfl : x2 = (3 : Int32) := zs_eqv h_x2 (by decide)
  refine zs_bd_ (zd_144 h_x2 (s0 := (σ, (0 : Int32))) ⟨h_σ, (zs_w h_x1 (by decide))⟩) (fun t_1 pt_1 => ?_)
  obtain ⟨ret, er, hr⟩ := zc_697 pt_1
  refine ⟨ret, er, ?_⟩
  exact hr
-- fX0_live
theorem zc_812 {σ0 : sn_S} {σ : sn_S} (h_σ : zs_C σ0 σ) {x1 : Int32} (h_x1 : zs_in x1.toInt 0 0) {x2 : Int32} (h_x2 : zs_in x2.toInt 3 3) : zs_ok (fX0_live σ 59 x1 x2) (fun r => zs_C σ0 r) := by
  unfold fX0_live
  obtain rfl : x1 = (0 : Int32) := zs_eqv h_x1 (by decide)
  obtain rfl : x2 = (3 : Int32) := zs_eqv h_x2 (by decide)
  refine zs_bd_ (zd_140 h_x1 h_x2 (s0 := (σ, (0 : Int32))) ⟨h_σ, (zs_w zlI_0 (by decide))⟩) (fun t_1 pt_1 => ?_)
  obtain ⟨ret, er, hr⟩ := zc_811 pt_1 h_x1 h_x2
  refine ⟨ret, er, ?_⟩
  exact hr
-- fX4_worth
theorem zc_813 {σ0 : sn_S} {σ : sn_S} (h_σ : zs_C σ0 σ) {x2 : Int32} (h_x2 : zs_in x2.toInt 0 0) {x3 : Int32} (h_x3 : zs_in x3.toInt 0 5) {x4 : Int32} (h_x4 : zs_in x4.toInt 3 3) : zs_ok (fX4_worth σ 1 x2 x3 x4) (fun r => (zs_in (r.1).toInt 0 1 ∧ zs_C σ0 r.2)) := by
  unfold fX4_worth
  obtain rfl : x2 = (0 : Int32) := zs_eqv h_x2 (by decide)
  obtain rfl : x4 = (3 : Int32) := zs_eqv h_x4 (by decide)
  refine zs_ite (fun c1 => ?_) (fun c1 => ?_)
  · skip
    have r2 := (zs_I_eq c1)
    refine zs_gd (zs_gin h_x3 (by decide)) ?_
    refine zs_ite (fun c3 => ?_) (fun c3 => ?_)
    · skip
      have r4 := (zs_I_eq c3)
      have g5 : zs_in ((sn_I σ (59 + 10) x3.toNatClampNeg)).toInt 0 0 := (zs_eql 0 0 r4 (zs_rdu (q := 69) (z := (0, 1073741823)) h_σ.1 (fun _ => rfl)) zlI_0 (by decide))
      exact zs_some ⟨(zs_w zlL_0 (by decide)), h_σ⟩
    · skip
      have r6 := (zs_I_eqn c3)
      have g7 : zs_in ((sn_I σ (59 + 10) x3.toNatClampNeg)).toInt 1 1073741823 := (zs_nel 1 1073741823 r6 (zs_rdu (q := 69) (z := (0, 1073741823)) h_σ.1 (fun _ => rfl)) zlI_0 (by decide))
      exact zs_some ⟨(zs_w zlL_1 (by decide)), h_σ⟩
  · skip
    have r8 := (zs_I_eqn c1)
    exact (zs_botne r8 h_x2 zlI_0 (by decide)).elim
-- BX4_reckon_139
theorem zc_814 {σ0 : sn_S} {σ : sn_S} (h_σ : zs_C σ0 σ) {x3 : Int32} (h_x3 : zs_in x3.toInt 0 0) {x4 : Int32} (h_x4 : zs_in x4.toInt 0 5) {x6 : Int32} (h_x6 : zs_in x6.toInt 3 3) {x7 : Int32} (h_x7 : zs_in x7.toInt 0 0) {t1 : Int32} (h_t1 : zs_in t1.toInt 0 0) {t2 : Int32} (h_t2 : zs_in t2.toInt 3 3) {c : Int} (hc : x7.toInt = c + 0) : zs_ok (BX4_reckon_139 σ 1 27 x3 x4 x6 x7 t1 t2) (fun r => zs_sum (fun v => ((zs_C σ0 v.1 ∧ zs_in (v.2).toInt 1 1)) ∧ v.2.toInt = c + 1) (fun v => False) r) := by
  unfold BX4_reckon_139
  obtain rfl : x3 = (0 : Int32) := zs_eqv h_x3 (by decide)
  obtain rfl : x6 = (3 : Int32) := zs_eqv h_x6 (by decide)
  obtain rfl : t1 = (0 : Int32) := zs_eqv h_t1 (by decide)
  obtain rfl : t2 = (3 : Int32) := zs_eqv h_t2 (by decide)
  refine zs_bd_ (zc_812 h_σ h_t1 h_t2) (fun t_1 pt_1 => ?_)
  refine zs_bd_ (zo_bc 0 0 (by decide) h_x7) (fun t_3 pt_3 => ?_)
  refine zs_gd (zs_gin pt_3 (by decide)) ?_
  refine zs_bd_ (zc_813 pt_1 h_x3 h_x4 h_x6) (fun t_6 pt_6 => ?_)
  refine zs_lt (Q := fun z => zs_C σ0 z) (zs_wrL pt_6.2 rfl) (fun σ_8 hσ_8 => ?_)
  refine zs_lt (Q := fun z => zs_in z.toInt 1 1 ∧ z.toInt = c + 1) ⟨(zs_addI 1 1 h_x7 zlI_1 (by decide)), (zs_syI 1 hc h_x7 zlI_1 (by decide) (by decide))⟩ (fun y_10 hy_10 => ?_)
  exact zs_some (zs_inl ⟨⟨hσ_8, hy_10.1⟩, hy_10.2⟩)
-- BX4_reckon_119
theorem zc_815 {σ0 : sn_S} {σ : sn_S} (h_σ : zs_C σ0 σ) {x3 : Int32} (h_x3 : zs_in x3.toInt 0 0) {x4 : Int32} (h_x4 : zs_in x4.toInt 0 5) {x6 : Int32} (h_x6 : zs_in x6.toInt 3 3) {x7 : Int32} (h_x7 : zs_in x7.toInt 0 0) {x8 : Int32} (h_x8 : zs_in x8.toInt 0 0) {c : Int} (hc : x7.toInt = c + 0) : zs_ok (BX4_reckon_119 σ 1 27 x3 x4 x6 x7 x8) (fun r => zs_sum (fun v => ((zs_C σ0 v.1 ∧ zs_in (v.2).toInt 1 1)) ∧ v.2.toInt = c + 1) (fun v => False) r) := by
  unfold BX4_reckon_119
  obtain rfl : x3 = (0 : Int32) := zs_eqv h_x3 (by decide)
  obtain rfl : x6 = (3 : Int32) := zs_eqv h_x6 (by decide)
  obtain rfl : x8 = (0 : Int32) := zs_eqv h_x8 (by decide)
  refine zs_ite (fun c1 => ?_) (fun c1 => ?_)
  · skip
    have r2 := (zs_I_eq c1)
    exact (zs_botr r2 h_x3 zlI_2 (by decide)).elim
  · skip
    have r3 := (zs_I_eqn c1)
    obtain ⟨ret, er, hr⟩ := zc_814 h_σ h_x3 h_x4 h_x6 h_x7 h_x8 h_x6 hc
    refine ⟨ret, er, ?_⟩
    exact (zs_sumw hr (fun v w => ⟨w.1, w.2⟩) (fun v w => w.elim))
-- BX4_reckon_62
theorem zc_816 {σ0 : sn_S} {σ : sn_S} (h_σ : zs_C σ0 σ) {x3 : Int32} (h_x3 : zs_in x3.toInt 0 0) {x4 : Int32} (h_x4 : zs_in x4.toInt 0 5) {x6 : Int32} (h_x6 : zs_in x6.toInt 3 3) {x7 : Int32} (h_x7 : zs_in x7.toInt 0 0) {t0 : Int32} (h_t0 : zs_in t0.toInt 0 0) {c : Int} (hc : x7.toInt = c + 0) : zs_ok (BX4_reckon_62 σ 1 27 x3 x4 x6 x7 t0) (fun r => zs_sum (fun v => ((zs_C σ0 v.1 ∧ zs_in (v.2).toInt 1 1)) ∧ v.2.toInt = c + 1) (fun v => False) r) := by
  unfold BX4_reckon_62
  obtain rfl : x3 = (0 : Int32) := zs_eqv h_x3 (by decide)
  obtain rfl : x6 = (3 : Int32) := zs_eqv h_x6 (by decide)
  obtain rfl : t0 = (0 : Int32) := zs_eqv h_t0 (by decide)
  refine zs_bd_ (zd_139 h_x3 h_x4 h_x6 h_x7 h_t0 (s0 := (σ, (0 : Int32))) ⟨h_σ, (zs_w h_t0 (by decide))⟩) (fun t_1 pt_1 => ?_)
  obtain ⟨ret, er, hr⟩ := zc_815 pt_1 h_x3 h_x4 h_x6 h_x7 h_t0 hc
  refine ⟨ret, er, ?_⟩
  exact (zs_sumw hr (fun v w => ⟨w.1, w.2⟩) (fun v w => w.elim))
-- fX8_hasBit
theorem zc_817 {x0 : Int32} (h_x0 : zs_in x0.toInt 1 7) {x1 : Int32} (h_x1 : zs_in x1.toInt 0 2) : zs_ok (fX8_hasBit x0 x1) (fun r => zs_in (r).toInt 0 1) := by
  unfold fX8_hasBit
  refine zs_ite (fun c1 => ?_) (fun c1 => ?_)
  · skip
    have r2 := (zs_I_eq c1)
    have g3 : zs_in (((x0 >>> (x1 &&& 31)) &&& (1 : Int32))).toInt 1 1 := (zs_eql 1 1 r2 (zs_and zlI_1 (by decide)) zlI_1 (by decide))
    refine zs_gd (zs_b01 zlI_1 (by decide)) ?_
    exact zs_some (zs_w zlI_1 (by decide))
  · skip
    have r4 := (zs_I_eqn c1)
    have g5 : zs_in (((x0 >>> (x1 &&& 31)) &&& (1 : Int32))).toInt 0 0 := (zs_neh 0 0 r4 (zs_and zlI_1 (by decide)) zlI_1 (by decide))
    refine zs_gd (zs_b01 zlI_0 (by decide)) ?_
    exact zs_some (zs_w zlI_0 (by decide))
-- BX4_reckon_111
theorem zc_818 {σ0 : sn_S} {σ : sn_S} (h_σ : zs_C σ0 σ) {x3 : Int32} (h_x3 : zs_in x3.toInt 0 0) {x4 : Int32} (h_x4 : zs_in x4.toInt 0 5) {x6 : Int32} (h_x6 : zs_in x6.toInt 3 3) {x7 : Int32} (h_x7 : zs_in x7.toInt 1 7) {x8 : Int32} (h_x8 : zs_in x8.toInt 0 2) {x9 : Int32} (h_x9 : zs_in x9.toInt 0 2) {t1 : Int32} (h_t1 : zs_in t1.toInt 0 2) {t2 : Int32} {t3 : Int32} (h_t3 : zs_in t3.toInt 0 0) {c : Int} (hc : x9.toInt = c + 0) : zs_ok (BX4_reckon_111 σ 1 27 x3 x4 x6 x7 x8 x9 t1 t2 t3) (fun r => zs_sum (fun v => ((zs_C σ0 v.1 ∧ zs_in (v.2).toInt 1 3)) ∧ v.2.toInt = c + 1) (fun v => False) r) := by
  unfold BX4_reckon_111
  obtain rfl : x3 = (0 : Int32) := zs_eqv h_x3 (by decide)
  obtain rfl : x6 = (3 : Int32) := zs_eqv h_x6 (by decide)
  obtain rfl : t3 = (0 : Int32) := zs_eqv h_t3 (by decide)
  refine zs_gd (zs_gin h_t1 (by decide)) ?_
  refine zs_lt (Q := fun z => zs_C σ0 z) (zs_wrt h_σ (fun _ => rfl) (fun _ => rfl)) (fun σ_2 hσ_2 => ?_)
  refine zs_lt (Q := fun z => zs_in z.toInt 1 3 ∧ z.toInt = c + 1) ⟨(zs_addI 1 3 h_x9 zlI_1 (by decide)), (zs_syI 1 hc h_x9 zlI_1 (by decide) (by decide))⟩ (fun y_4 hy_4 => ?_)
  exact zs_some (zs_inl ⟨⟨hσ_2, hy_4.1⟩, hy_4.2⟩)
-- BX4_reckon_111
theorem zc_819 {σ0 : sn_S} {σ : sn_S} (h_σ : zs_C σ0 σ) {x3 : Int32} (h_x3 : zs_in x3.toInt 0 0) {x4 : Int32} (h_x4 : zs_in x4.toInt 0 5) {x6 : Int32} (h_x6 : zs_in x6.toInt 3 3) {x7 : Int32} (h_x7 : zs_in x7.toInt 1 7) {x8 : Int32} (h_x8 : zs_in x8.toInt 0 2) {x9 : Int32} (h_x9 : zs_in x9.toInt 0 2) {t1 : Int32} (h_t1 : zs_in t1.toInt 0 2) {t2 : Int32} {t3 : Int32} (h_t3 : zs_in t3.toInt 3 3) {c : Int} (hc : x9.toInt = c + 0) : zs_ok (BX4_reckon_111 σ 1 27 x3 x4 x6 x7 x8 x9 t1 t2 t3) (fun r => zs_sum (fun v => ((zs_C σ0 v.1 ∧ zs_in (v.2).toInt 1 3)) ∧ v.2.toInt = c + 1) (fun v => False) r) := by
  unfold BX4_reckon_111
  obtain rfl : x3 = (0 : Int32) := zs_eqv h_x3 (by decide)
  obtain rfl : x6 = (3 : Int32) := zs_eqv h_x6 (by decide)
  obtain rfl : t3 = (3 : Int32) := zs_eqv h_t3 (by decide)
  refine zs_gd (zs_gin h_t1 (by decide)) ?_
  refine zs_lt (Q := fun z => zs_C σ0 z) (zs_wrt h_σ (fun _ => rfl) (fun _ => rfl)) (fun σ_2 hσ_2 => ?_)
  refine zs_lt (Q := fun z => zs_in z.toInt 1 3 ∧ z.toInt = c + 1) ⟨(zs_addI 1 3 h_x9 zlI_1 (by decide)), (zs_syI 1 hc h_x9 zlI_1 (by decide) (by decide))⟩ (fun y_4 hy_4 => ?_)
  exact zs_some (zs_inl ⟨⟨hσ_2, hy_4.1⟩, hy_4.2⟩)
-- BX4_reckon_68
theorem zc_820 {σ0 : sn_S} {σ : sn_S} (h_σ : zs_C σ0 σ) {x3 : Int32} (h_x3 : zs_in x3.toInt 0 0) {x4 : Int32} (h_x4 : zs_in x4.toInt 0 5) {x6 : Int32} (h_x6 : zs_in x6.toInt 3 3) {x7 : Int32} (h_x7 : zs_in x7.toInt 1 7) {x8 : Int32} (h_x8 : zs_in x8.toInt 0 2) {x9 : Int32} (h_x9 : zs_in x9.toInt 0 3) {c : Int} (hc : x9.toInt = c + 0) : zs_ok (BX4_reckon_68 σ 1 27 x3 x4 x6 x7 x8 x9) (fun r => zs_sum (fun v => ((zs_C σ0 v.1 ∧ zs_in (v.2).toInt 1 3)) ∧ v.2.toInt = c + 1) (fun v => zs_C σ0 v) r) := by
  unfold BX4_reckon_68
  obtain rfl : x3 = (0 : Int32) := zs_eqv h_x3 (by decide)
  obtain rfl : x6 = (3 : Int32) := zs_eqv h_x6 (by decide)
  refine zs_ite (fun c1 => ?_) (fun c1 => ?_)
  · skip
    have r2 := (zs_I_le c1)
    have g3 : zs_in (x9).toInt 3 3 := (zs_ler 3 3 r2 h_x6 h_x9 (by decide))
    exact zs_some (zs_inr (h_σ))
  · skip
    have r4 := (zs_I_len c1)
    have g5 : zs_in (x9).toInt 0 2 := (zs_ltl 0 2 r4 h_x9 h_x6 (by decide))
    refine zs_gd (zs_gin g5 (by decide)) ?_
    refine zs_bd_ (zc_817 h_x7 (zs_subI 0 2 (zs_subI 2 2 h_x6 zlI_1 (by decide)) g5 (by decide))) (fun t_3 pt_3 => ?_)
    refine zs_ite (fun c6 => ?_) (fun c6 => ?_)
    · skip
      have r7 := (zs_I_eq c6)
      have g8 : zs_in (t_3).toInt 0 0 := (zs_eql 0 0 r7 pt_3 zlI_0 (by decide))
      obtain ⟨ret, er, hr⟩ := zc_818 h_σ h_x3 h_x4 h_x6 h_x7 h_x8 g5 g5 zlI_0 hc
      refine ⟨ret, er, ?_⟩
      exact (zs_sumw hr (fun v w => ⟨w.1, w.2⟩) (fun v w => w.elim))
    · skip
      have r9 := (zs_I_eqn c6)
      have g10 : zs_in (t_3).toInt 1 1 := (zs_nel 1 1 r9 pt_3 zlI_0 (by decide))
      obtain ⟨ret, er, hr⟩ := zc_819 h_σ h_x3 h_x4 h_x6 h_x7 h_x8 g5 g5 zlI_3 hc
      refine ⟨ret, er, ?_⟩
      exact (zs_sumw hr (fun v w => ⟨w.1, w.2⟩) (fun v w => w.elim))
theorem zd_145 {σ0 : sn_S} {x3 : Int32} (h_x3 : zs_in x3.toInt 0 0) {x4 : Int32} (h_x4 : zs_in x4.toInt 0 5) {x6 : Int32} (h_x6 : zs_in x6.toInt 3 3) {x7 : Int32} (h_x7 : zs_in x7.toInt 1 7) {x8 : Int32} (h_x8 : zs_in x8.toInt 0 2) {s0 : (sn_S × Int32)} (h0 : (zs_C σ0 s0.1 ∧ zs_in (s0.2).toInt 0 3)) : zs_ok (sn_it (LX4_reckon_68 1 27 x3 x4 x6 x7 x8) 5000 s0) (fun t => zs_C σ0 t) := by
  refine zs_it (I := fun s => (zs_C σ0 s.1 ∧ zs_in (s.2).toInt 0 3)) (m := fun s => 3 - s.2.toInt) (fun s hs => ?_) (fun s hs => ?_) (by exact h0)
  · have h1 := hs.2; unfold zs_in at h1
    omega
  · obtain ⟨b, eb, hb⟩ := zc_820 hs.1 h_x3 h_x4 h_x6 h_x7 h_x8 hs.2 (c := s.2.toInt) (Int.add_zero _).symm
    exact ⟨b, eb, zs_sumw hb (fun v w => ⟨⟨w.1.1, (zs_w w.1.2 (by decide))⟩, by have := w.2; omega⟩) (fun v w => w)⟩
-- fX8_firstMinutes
theorem zc_821 {x0 : Int32} (h_x0 : zs_in x0.toInt 0 2) : zs_ok (fX8_firstMinutes x0) (fun r => zs_in (r).toInt 0 3) := by
  unfold fX8_firstMinutes
  exact zs_some (zs_subI 0 3 (zs_cases h_x0 (fun z => zs_in ((1 : Int32) <<< (z &&& 31)).toInt 1 4) (by decide +kernel)) zlI_1 (by decide))
-- BX0_live_2
theorem zc_822 {σ0 : sn_S} {σ : sn_S} (h_σ : zs_C σ0 σ) {x1 : Int32} (h_x1 : zs_in x1.toInt 0 2) {x2 : Int32} (h_x2 : zs_in x2.toInt 3 3) {x3 : Int32} (h_x3 : zs_in x3.toInt 0 6) {c : Int} (hc : x3.toInt = c + 0) : zs_ok (BX0_live_2 σ 59 x1 x2 x3) (fun r => zs_sum (fun v => ((zs_C σ0 v.1 ∧ zs_in (v.2).toInt 1 6)) ∧ v.2.toInt = c + 1) (fun v => zs_C σ0 v) r) := by
  unfold BX0_live_2
  obtain rfl : x2 = (3 : Int32) := zs_eqv h_x2 (by decide)
  refine zs_ite (fun c1 => ?_) (fun c1 => ?_)
  · skip
    have r2 := (zs_I_le c1)
    exact zs_some (zs_inr (h_σ))
  · skip
    have r3 := (zs_I_len c1)
    have g4 : zs_in (x3).toInt 0 5 := (zs_ltl 0 5 r3 h_x3 (zs_rdk (q := 59) (k := 1) (z := (0, 6)) h_σ.1 rfl) (by decide))
    have g5 : zs_in ((sn_I σ 59 1)).toInt 1 6 := (zs_ltr 1 6 r3 h_x3 (zs_rdk (q := 59) (k := 1) (z := (0, 6)) h_σ.1 rfl) (by decide))
    refine zs_gd (zs_gin g4 (by decide)) ?_
    refine zs_bd_ (zc_821 h_x1) (fun t_3 pt_3 => ?_)
    refine zs_gd (zs_gin g4 (by decide)) ?_
    refine zs_lt (Q := fun z => zs_C σ0 z) (zs_wru (z := (0, 1073741823)) h_σ (fun _ => rfl) (zs_and pt_3 (by decide)) (by decide) (fun _ => rfl)) (fun σ_6 hσ_6 => ?_)
    refine zs_lt (Q := fun z => zs_in z.toInt 1 6 ∧ z.toInt = c + 1) ⟨(zs_addI 1 6 g4 zlI_1 (by decide)), (zs_syI 1 hc g4 zlI_1 (by decide) (by decide))⟩ (fun y_8 hy_8 => ?_)
    exact zs_some (zs_inl ⟨⟨hσ_6, hy_8.1⟩, hy_8.2⟩)
theorem zd_146 {σ0 : sn_S} {x1 : Int32} (h_x1 : zs_in x1.toInt 0 2) {x2 : Int32} (h_x2 : zs_in x2.toInt 3 3) {s0 : (sn_S × Int32)} (h0 : (zs_C σ0 s0.1 ∧ zs_in (s0.2).toInt 0 6)) : zs_ok (sn_it (LX0_live_2 59 x1 x2) 5000 s0) (fun t => zs_C σ0 t) := by
  refine zs_it (I := fun s => (zs_C σ0 s.1 ∧ zs_in (s.2).toInt 0 6)) (m := fun s => 6 - s.2.toInt) (fun s hs => ?_) (fun s hs => ?_) (by exact h0)
  · have h1 := hs.2; unfold zs_in at h1
    omega
  · obtain ⟨b, eb, hb⟩ := zc_822 hs.1 h_x1 h_x2 hs.2 (c := s.2.toInt) (Int.add_zero _).symm
    exact ⟨b, eb, zs_sumw hb (fun v w => ⟨⟨w.1.1, (zs_w w.1.2 (by decide))⟩, by have := w.2; omega⟩) (fun v w => w)⟩
-- BX0_live_29
theorem zc_823 {σ0 : sn_S} {σ : sn_S} (h_σ : zs_C σ0 σ) {x1 : Int32} (h_x1 : zs_in x1.toInt 0 2) {x2 : Int32} (h_x2 : zs_in x2.toInt 3 3) : zs_ok (BX0_live_29 σ 59 x1 x2) (fun r => zs_C σ0 r) := by
  unfold BX0_live_29
  obtain rfl : x2 = (3 : Int32) := zs_eqv h_x2 (by decide)
  refine zs_bd_ (zd_144 h_x2 (s0 := (σ, x1)) ⟨h_σ, (zs_w h_x1 (by decide))⟩) (fun t_1 pt_1 => ?_)
  obtain ⟨ret, er, hr⟩ := zc_697 pt_1
  refine ⟨ret, er, ?_⟩
  exact hr
-- fX0_live
theorem zc_824 {σ0 : sn_S} {σ : sn_S} (h_σ : zs_C σ0 σ) {x1 : Int32} (h_x1 : zs_in x1.toInt 0 2) {x2 : Int32} (h_x2 : zs_in x2.toInt 3 3) : zs_ok (fX0_live σ 59 x1 x2) (fun r => zs_C σ0 r) := by
  unfold fX0_live
  obtain rfl : x2 = (3 : Int32) := zs_eqv h_x2 (by decide)
  refine zs_bd_ (zd_146 h_x1 h_x2 (s0 := (σ, (0 : Int32))) ⟨h_σ, (zs_w zlI_0 (by decide))⟩) (fun t_1 pt_1 => ?_)
  obtain ⟨ret, er, hr⟩ := zc_823 pt_1 h_x1 h_x2
  refine ⟨ret, er, ?_⟩
  exact hr
-- BX4_reckon_139
theorem zc_825 {σ0 : sn_S} {σ : sn_S} (h_σ : zs_C σ0 σ) {x3 : Int32} (h_x3 : zs_in x3.toInt 0 0) {x4 : Int32} (h_x4 : zs_in x4.toInt 0 5) {x6 : Int32} (h_x6 : zs_in x6.toInt 3 3) {x7 : Int32} (h_x7 : zs_in x7.toInt 1 7) {t1 : Int32} (h_t1 : zs_in t1.toInt 0 2) {t2 : Int32} (h_t2 : zs_in t2.toInt 3 3) {c : Int} (hc : x7.toInt = c + 0) : zs_ok (BX4_reckon_139 σ 1 27 x3 x4 x6 x7 t1 t2) (fun r => zs_sum (fun v => ((zs_C σ0 v.1 ∧ zs_in (v.2).toInt 2 8)) ∧ v.2.toInt = c + 1) (fun v => False) r) := by
  unfold BX4_reckon_139
  obtain rfl : x3 = (0 : Int32) := zs_eqv h_x3 (by decide)
  obtain rfl : x6 = (3 : Int32) := zs_eqv h_x6 (by decide)
  obtain rfl : t2 = (3 : Int32) := zs_eqv h_t2 (by decide)
  refine zs_bd_ (zc_824 h_σ h_t1 h_t2) (fun t_1 pt_1 => ?_)
  refine zs_bd_ (zo_bc 3 3 (by decide) h_x7) (fun t_3 pt_3 => ?_)
  refine zs_gd (zs_gin pt_3 (by decide)) ?_
  refine zs_bd_ (zc_813 pt_1 h_x3 h_x4 h_x6) (fun t_6 pt_6 => ?_)
  refine zs_lt (Q := fun z => zs_C σ0 z) (zs_wrL pt_6.2 rfl) (fun σ_8 hσ_8 => ?_)
  refine zs_lt (Q := fun z => zs_in z.toInt 2 8 ∧ z.toInt = c + 1) ⟨(zs_addI 2 8 h_x7 zlI_1 (by decide)), (zs_syI 1 hc h_x7 zlI_1 (by decide) (by decide))⟩ (fun y_10 hy_10 => ?_)
  exact zs_some (zs_inl ⟨⟨hσ_8, hy_10.1⟩, hy_10.2⟩)
end
section
-- BX4_reckon_119
theorem zc_826 {σ0 : sn_S} {σ : sn_S} (h_σ : zs_C σ0 σ) {x3 : Int32} (h_x3 : zs_in x3.toInt 0 0) {x4 : Int32} (h_x4 : zs_in x4.toInt 0 5) {x6 : Int32} (h_x6 : zs_in x6.toInt 3 3) {x7 : Int32} (h_x7 : zs_in x7.toInt 1 7) {x8 : Int32} (h_x8 : zs_in x8.toInt 0 2) {c : Int} (hc : x7.toInt = c + 0) : zs_ok (BX4_reckon_119 σ 1 27 x3 x4 x6 x7 x8) (fun r => zs_sum (fun v => ((zs_C σ0 v.1 ∧ zs_in (v.2).toInt 2 8)) ∧ v.2.toInt = c + 1) (fun v => False) r) := by
  unfold BX4_reckon_119
  obtain rfl : x3 = (0 : Int32) := zs_eqv h_x3 (by decide)
  obtain rfl : x6 = (3 : Int32) := zs_eqv h_x6 (by decide)
  refine zs_ite (fun c1 => ?_) (fun c1 => ?_)
  · skip
    have r2 := (zs_I_eq c1)
    exact (zs_botr r2 h_x3 zlI_2 (by decide)).elim
  · skip
    have r3 := (zs_I_eqn c1)
    obtain ⟨ret, er, hr⟩ := zc_825 h_σ h_x3 h_x4 h_x6 h_x7 h_x8 h_x6 hc
    refine ⟨ret, er, ?_⟩
    exact (zs_sumw hr (fun v w => ⟨w.1, w.2⟩) (fun v w => w.elim))
-- BX4_reckon_62
theorem zc_827 {σ0 : sn_S} {σ : sn_S} (h_σ : zs_C σ0 σ) {x3 : Int32} (h_x3 : zs_in x3.toInt 0 0) {x4 : Int32} (h_x4 : zs_in x4.toInt 0 5) {x6 : Int32} (h_x6 : zs_in x6.toInt 3 3) {x7 : Int32} (h_x7 : zs_in x7.toInt 1 7) {t0 : Int32} (h_t0 : zs_in t0.toInt 0 2) {c : Int} (hc : x7.toInt = c + 0) : zs_ok (BX4_reckon_62 σ 1 27 x3 x4 x6 x7 t0) (fun r => zs_sum (fun v => ((zs_C σ0 v.1 ∧ zs_in (v.2).toInt 2 8)) ∧ v.2.toInt = c + 1) (fun v => False) r) := by
  unfold BX4_reckon_62
  obtain rfl : x3 = (0 : Int32) := zs_eqv h_x3 (by decide)
  obtain rfl : x6 = (3 : Int32) := zs_eqv h_x6 (by decide)
  refine zs_bd_ (zd_145 h_x3 h_x4 h_x6 h_x7 h_t0 (s0 := (σ, t0)) ⟨h_σ, (zs_w h_t0 (by decide))⟩) (fun t_1 pt_1 => ?_)
  obtain ⟨ret, er, hr⟩ := zc_826 pt_1 h_x3 h_x4 h_x6 h_x7 h_t0 hc
  refine ⟨ret, er, ?_⟩
  exact (zs_sumw hr (fun v w => ⟨w.1, w.2⟩) (fun v w => w.elim))
-- BX4_reckon_34
theorem zc_828 {σ0 : sn_S} {σ : sn_S} (h_σ : zs_C σ0 σ) {x3 : Int32} (h_x3 : zs_in x3.toInt 0 0) {x4 : Int32} (h_x4 : zs_in x4.toInt 0 5) {x6 : Int32} (h_x6 : zs_in x6.toInt 3 3) {x7 : Int32} (h_x7 : zs_in x7.toInt 0 8) {c : Int} (hc : x7.toInt = c + 0) : zs_ok (BX4_reckon_34 σ 1 27 x3 x4 x6 x7) (fun r => zs_sum (fun v => ((zs_C σ0 v.1 ∧ zs_in (v.2).toInt 1 8)) ∧ v.2.toInt = c + 1) (fun v => zs_C σ0 v) r) := by
  unfold BX4_reckon_34
  obtain rfl : x3 = (0 : Int32) := zs_eqv h_x3 (by decide)
  obtain rfl : x6 = (3 : Int32) := zs_eqv h_x6 (by decide)
  refine zs_ite (fun c1 => ?_) (fun c1 => ?_)
  · skip
    have r2 := (zs_I_le c1)
    have g3 : zs_in (x7).toInt 8 8 := (zs_ler 8 8 r2 (zs_cases h_x6 (fun z => zs_in ((1 : Int32) <<< (z &&& 31)).toInt 8 8) (by decide +kernel)) h_x7 (by decide))
    exact zs_some (zs_inr (h_σ))
  · skip
    have r4 := (zs_I_len c1)
    have g5 : zs_in (x7).toInt 0 7 := (zs_ltl 0 7 r4 h_x7 (zs_cases h_x6 (fun z => zs_in ((1 : Int32) <<< (z &&& 31)).toInt 8 8) (by decide +kernel)) (by decide))
    refine zs_ite (fun c6 => ?_) (fun c6 => ?_)
    · skip
      have r7 := (zs_I_eq c6)
      have g8 : zs_in (x7).toInt 0 0 := (zs_eql 0 0 r7 g5 zlI_0 (by decide))
      obtain ⟨ret, er, hr⟩ := zc_816 h_σ h_x3 h_x4 h_x6 g8 zlI_0 hc
      refine ⟨ret, er, ?_⟩
      exact (zs_sumw hr (fun v w => ⟨⟨w.1.1, (zs_w w.1.2 (by decide))⟩, w.2⟩) (fun v w => w.elim))
    · skip
      have r9 := (zs_I_eqn c6)
      have g10 : zs_in (x7).toInt 1 7 := (zs_nel 1 7 r9 g5 zlI_0 (by decide))
      refine zs_bd_ (zo_low1 3 2 (by decide) g10) (fun t_3 pt_3 => ?_)
      obtain ⟨ret, er, hr⟩ := zc_827 h_σ h_x3 h_x4 h_x6 g10 (zs_subI 0 2 (zs_subI 2 2 h_x6 zlI_1 (by decide)) pt_3 (by decide)) hc
      refine ⟨ret, er, ?_⟩
      exact (zs_sumw hr (fun v w => ⟨⟨w.1.1, (zs_w w.1.2 (by decide))⟩, w.2⟩) (fun v w => w.elim))
theorem zd_147 {σ0 : sn_S} {x3 : Int32} (h_x3 : zs_in x3.toInt 0 0) {x4 : Int32} (h_x4 : zs_in x4.toInt 0 5) {x6 : Int32} (h_x6 : zs_in x6.toInt 3 3) {s0 : (sn_S × Int32)} (h0 : (zs_C σ0 s0.1 ∧ zs_in (s0.2).toInt 0 8)) : zs_ok (sn_it (LX4_reckon_34 1 27 x3 x4 x6) 5000 s0) (fun t => zs_C σ0 t) := by
  refine zs_it (I := fun s => (zs_C σ0 s.1 ∧ zs_in (s.2).toInt 0 8)) (m := fun s => 8 - s.2.toInt) (fun s hs => ?_) (fun s hs => ?_) (by exact h0)
  · have h1 := hs.2; unfold zs_in at h1
    omega
  · obtain ⟨b, eb, hb⟩ := zc_828 hs.1 h_x3 h_x4 h_x6 hs.2 (c := s.2.toInt) (Int.add_zero _).symm
    exact ⟨b, eb, zs_sumw hb (fun v w => ⟨⟨w.1.1, (zs_w w.1.2 (by decide))⟩, by have := w.2; omega⟩) (fun v w => w)⟩
-- BX4_reckon_186
theorem zc_829 {σ0 : sn_S} {σ : sn_S} (h_σ : zs_C σ0 σ) {x6 : Int32} (h_x6 : zs_in x6.toInt 3 3) {x7 : Int32} (h_x7 : zs_in x7.toInt 0 3) {c : Int} (hc : x7.toInt = c + 0) : zs_ok (BX4_reckon_186 σ 1 27 x6 x7) (fun r => zs_sum (fun v => ((zs_C σ0 v.1 ∧ zs_in (v.2).toInt 1 3)) ∧ v.2.toInt = c + 1) (fun v => zs_C σ0 v) r) := by
  unfold BX4_reckon_186
  obtain rfl : x6 = (3 : Int32) := zs_eqv h_x6 (by decide)
  refine zs_ite (fun c1 => ?_) (fun c1 => ?_)
  · skip
    have r2 := (zs_I_le c1)
    have g3 : zs_in (x7).toInt 3 3 := (zs_ler 3 3 r2 h_x6 h_x7 (by decide))
    exact zs_some (zs_inr (h_σ))
  · skip
    have r4 := (zs_I_len c1)
    have g5 : zs_in (x7).toInt 0 2 := (zs_ltl 0 2 r4 h_x7 h_x6 (by decide))
    refine zs_lt (Q := fun z => zs_C σ0 z) (zs_wrL h_σ rfl) (fun σ_2 hσ_2 => ?_)
    refine zs_lt (Q := fun z => zs_in z.toInt 1 3 ∧ z.toInt = c + 1) ⟨(zs_addI 1 3 g5 zlI_1 (by decide)), (zs_syI 1 hc g5 zlI_1 (by decide) (by decide))⟩ (fun y_4 hy_4 => ?_)
    exact zs_some (zs_inl ⟨⟨hσ_2, hy_4.1⟩, hy_4.2⟩)
theorem zd_148 {σ0 : sn_S} {x6 : Int32} (h_x6 : zs_in x6.toInt 3 3) {s0 : (sn_S × Int32)} (h0 : (zs_C σ0 s0.1 ∧ zs_in (s0.2).toInt 0 3)) : zs_ok (sn_it (LX4_reckon_186 1 27 x6) 5000 s0) (fun t => zs_C σ0 t) := by
  refine zs_it (I := fun s => (zs_C σ0 s.1 ∧ zs_in (s.2).toInt 0 3)) (m := fun s => 3 - s.2.toInt) (fun s hs => ?_) (fun s hs => ?_) (by exact h0)
  · have h1 := hs.2; unfold zs_in at h1
    omega
  · obtain ⟨b, eb, hb⟩ := zc_829 hs.1 h_x6 hs.2 (c := s.2.toInt) (Int.add_zero _).symm
    exact ⟨b, eb, zs_sumw hb (fun v w => ⟨⟨w.1.1, (zs_w w.1.2 (by decide))⟩, by have := w.2; omega⟩) (fun v w => w)⟩
-- BX4_reckon_178
theorem zc_830 {σ0 : sn_S} {σ : sn_S} (h_σ : zs_C σ0 σ) {x6 : Int32} (h_x6 : zs_in x6.toInt 3 3) : zs_ok (BX4_reckon_178 σ 1 27 x6) (fun r => zs_C σ0 r) := by
  unfold BX4_reckon_178
  obtain rfl : x6 = (3 : Int32) := zs_eqv h_x6 (by decide)
  refine zs_lt (Q := fun z => zs_C σ0 z) (zs_wrL h_σ rfl) (fun σ_1 hσ_1 => ?_)
  refine zs_bd_ (zd_148 h_x6 (s0 := (σ_1, (0 : Int32))) ⟨hσ_1, (zs_w zlI_0 (by decide))⟩) (fun t_3 pt_3 => ?_)
  obtain ⟨ret, er, hr⟩ := zc_716 pt_3
  refine ⟨ret, er, ?_⟩
  exact hr
-- fX4_reckon
theorem zc_831 {σ0 : sn_S} {σ : sn_S} (h_σ : zs_C σ0 σ) {x3 : Int32} (h_x3 : zs_in x3.toInt 0 0) {x4 : Int32} (h_x4 : zs_in x4.toInt 0 5) {x5 : Int32} (h_x5 : zs_in x5.toInt 2 2) : zs_ok (fX4_reckon σ 1 27 x3 x4 x5) (fun r => zs_C σ0 r) := by
  unfold fX4_reckon
  obtain rfl : x3 = (0 : Int32) := zs_eqv h_x3 (by decide)
  obtain rfl : x5 = (2 : Int32) := zs_eqv h_x5 (by decide)
  refine zs_lt (Q := fun z => zs_in z.toInt 3 3) (zs_addI 3 3 h_x5 zlI_1 (by decide)) (fun y_1 hy_1 => ?_)
  refine zs_gd (zs_gin zlI_4 (by decide)) ?_
  refine zs_bd_ (zc_781 h_σ hy_1 (zs_rdk (q := 2) (k := (4 : Int32).toNatClampNeg) (z := (0, 10)) h_σ.1 rfl)) (fun t_4 pt_4 => ?_)
  refine zs_bd_ (zo_dcopy pt_4) (fun t_6 pt_6 => ?_)
  refine zs_lt (Q := fun z => zs_C σ0 z) (zs_wrL pt_6 rfl) (fun σ_8 hσ_8 => ?_)
  refine zs_bd_ (zd_147 h_x3 h_x4 hy_1 (s0 := (σ_8, (0 : Int32))) ⟨hσ_8, (zs_w zlI_0 (by decide))⟩) (fun t_10 pt_10 => ?_)
  obtain ⟨ret, er, hr⟩ := zc_830 pt_10 hy_1
  refine ⟨ret, er, ?_⟩
  exact hr
-- BX4_weigh_46
theorem zc_832 {σ0 : sn_S} {σ : sn_S} (h_σ : zs_C σ0 σ) {x1 : Int32} (h_x1 : zs_in x1.toInt 4 4) {x2 : Int32} (h_x2 : zs_in x2.toInt 0 10) {x3 : Int32} (h_x3 : zs_in x3.toInt 0 3) {x4 : Int64} {x6 : Int32} (h_x6 : zs_in x6.toInt 0 3) {t0 : Int64} {t1 : Int64} (h_t1 : zs_in t1.toInt 0 10) {c : Int} (hc : x6.toInt = c + 0) : zs_ok (BX4_weigh_46 σ x1 x2 x3 x4 x6 t0 t1) (fun r => zs_sum (fun v => ((True ∧ zs_in (v.2).toInt 1 4)) ∧ v.2.toInt = c + 1) (fun v => False) r) := by
  unfold BX4_weigh_46
  obtain rfl : x1 = (4 : Int32) := zs_eqv h_x1 (by decide)
  refine zs_lt (Q := fun z => True) trivial (fun y_1 hy_1 => ?_)
  refine zs_lt (Q := fun z => zs_in z.toInt 1 4 ∧ z.toInt = c + 1) ⟨(zs_addI 1 4 h_x6 zlI_1 (by decide)), (zs_syI 1 hc h_x6 zlI_1 (by decide) (by decide))⟩ (fun y_3 hy_3 => ?_)
  exact zs_some (zs_inl ⟨⟨trivial, hy_3.1⟩, hy_3.2⟩)
-- BX4_weigh_46
theorem zc_833 {σ0 : sn_S} {σ : sn_S} (h_σ : zs_C σ0 σ) {x1 : Int32} (h_x1 : zs_in x1.toInt 4 4) {x2 : Int32} (h_x2 : zs_in x2.toInt 0 10) {x3 : Int32} (h_x3 : zs_in x3.toInt 1 4) {x4 : Int64} {x6 : Int32} (h_x6 : zs_in x6.toInt 0 3) {t0 : Int64} {t1 : Int64} (h_t1 : zs_in t1.toInt 0 10) {c : Int} (hc : x6.toInt = c + 0) : zs_ok (BX4_weigh_46 σ x1 x2 x3 x4 x6 t0 t1) (fun r => zs_sum (fun v => ((True ∧ zs_in (v.2).toInt 1 4)) ∧ v.2.toInt = c + 1) (fun v => False) r) := by
  unfold BX4_weigh_46
  obtain rfl : x1 = (4 : Int32) := zs_eqv h_x1 (by decide)
  refine zs_lt (Q := fun z => True) trivial (fun y_1 hy_1 => ?_)
  refine zs_lt (Q := fun z => zs_in z.toInt 1 4 ∧ z.toInt = c + 1) ⟨(zs_addI 1 4 h_x6 zlI_1 (by decide)), (zs_syI 1 hc h_x6 zlI_1 (by decide) (by decide))⟩ (fun y_3 hy_3 => ?_)
  exact zs_some (zs_inl ⟨⟨trivial, hy_3.1⟩, hy_3.2⟩)
-- BX4_weigh_22
theorem zc_834 {σ0 : sn_S} {σ : sn_S} (h_σ : zs_C σ0 σ) {x1 : Int32} (h_x1 : zs_in x1.toInt 4 4) {x2 : Int32} (h_x2 : zs_in x2.toInt 0 10) {x3 : Int32} (h_x3 : zs_in x3.toInt 0 4) {x4 : Int64} {x6 : Int32} (h_x6 : zs_in x6.toInt 0 4) {c : Int} (hc : x6.toInt = c + 0) : zs_ok (BX4_weigh_22 σ x1 x2 x3 x4 x6) (fun r => zs_sum (fun v => ((True ∧ zs_in (v.2).toInt 1 4)) ∧ v.2.toInt = c + 1) (fun v => True) r) := by
  unfold BX4_weigh_22
  obtain rfl : x1 = (4 : Int32) := zs_eqv h_x1 (by decide)
  refine zs_ite (fun c1 => ?_) (fun c1 => ?_)
  · skip
    have r2 := (zs_I_le c1)
    have g3 : zs_in (x6).toInt 4 4 := (zs_ler 4 4 r2 h_x1 h_x6 (by decide))
    exact zs_some (zs_inr (trivial))
  · skip
    have r4 := (zs_I_len c1)
    have g5 : zs_in (x6).toInt 0 3 := (zs_ltl 0 3 r4 h_x6 h_x1 (by decide))
    refine zs_ite (fun c6 => ?_) (fun c6 => ?_)
    · skip
      have r7 := (zs_I_le c6)
      have g8 : zs_in (x3).toInt 0 3 := (zs_lel 0 3 r7 h_x3 g5 (by decide))
      obtain ⟨ret, er, hr⟩ := zc_832 h_σ h_x1 h_x2 g8 g5 (zs_64 (zs_subI 0 10 zlI_10 h_x2 (by decide))) hc
      refine ⟨ret, er, ?_⟩
      exact (zs_sumw hr (fun v w => ⟨w.1, w.2⟩) (fun v w => w.elim))
    · skip
      have r9 := (zs_I_len c6)
      have g10 : zs_in (x3).toInt 1 4 := (zs_ltr 1 4 r9 g5 h_x3 (by decide))
      obtain ⟨ret, er, hr⟩ := zc_833 h_σ h_x1 h_x2 g10 g5 (zs_64 h_x2) hc
      refine ⟨ret, er, ?_⟩
      exact (zs_sumw hr (fun v w => ⟨w.1, w.2⟩) (fun v w => w.elim))
theorem zd_149 {σ0 : sn_S} {σ : sn_S} (h_σ : zs_C σ0 σ) {x1 : Int32} (h_x1 : zs_in x1.toInt 4 4) {x2 : Int32} (h_x2 : zs_in x2.toInt 0 10) {x3 : Int32} (h_x3 : zs_in x3.toInt 0 4) {s0 : (Int64 × Int32)} (h0 : (True ∧ zs_in (s0.2).toInt 0 4)) : zs_ok (sn_it (LX4_weigh_22 σ x1 x2 x3) 5000 s0) (fun t => True) := by
  refine zs_it (I := fun s => (True ∧ zs_in (s.2).toInt 0 4)) (m := fun s => 4 - s.2.toInt) (fun s hs => ?_) (fun s hs => ?_) (by exact h0)
  · have h1 := hs.2; unfold zs_in at h1
    omega
  · obtain ⟨b, eb, hb⟩ := zc_834 h_σ h_x1 h_x2 h_x3 hs.2 (c := s.2.toInt) (Int.add_zero _).symm
    exact ⟨b, eb, zs_sumw hb (fun v w => ⟨⟨w.1.1, (zs_w w.1.2 (by decide))⟩, by have := w.2; omega⟩) (fun v w => w)⟩
-- BX4_weigh_55
theorem zc_835 {σ0 : sn_S} {σ : sn_S} (h_σ : zs_C σ0 σ) {x1 : Int32} (h_x1 : zs_in x1.toInt 4 4) {x2 : Int32} (h_x2 : zs_in x2.toInt 0 10) {x3 : Int32} (h_x3 : zs_in x3.toInt 0 4) {x4 : Int64} {c : Int} (hc : x3.toInt = c + 0) : zs_ok (BX4_weigh_55 σ x1 x2 x3 x4) (fun r => zs_sum (fun v => ((zs_C σ0 v.1 ∧ zs_in (v.2).toInt 1 5)) ∧ v.2.toInt = c + 1) (fun v => False) r) := by
  unfold BX4_weigh_55
  obtain rfl : x1 = (4 : Int32) := zs_eqv h_x1 (by decide)
  refine zs_gd (zs_gin h_x3 (by decide)) ?_
  refine zs_lt (Q := fun z => zs_C σ0 z) (zs_wrL h_σ rfl) (fun σ_2 hσ_2 => ?_)
  refine zs_lt (Q := fun z => zs_in z.toInt 1 5 ∧ z.toInt = c + 1) ⟨(zs_addI 1 5 h_x3 zlI_1 (by decide)), (zs_syI 1 hc h_x3 zlI_1 (by decide) (by decide))⟩ (fun y_4 hy_4 => ?_)
  exact zs_some (zs_inl ⟨⟨hσ_2, hy_4.1⟩, hy_4.2⟩)
-- BX4_weigh_2
theorem zc_836 {σ0 : sn_S} {σ : sn_S} (h_σ : zs_C σ0 σ) {x1 : Int32} (h_x1 : zs_in x1.toInt 4 4) {x2 : Int32} (h_x2 : zs_in x2.toInt 0 10) {x3 : Int32} (h_x3 : zs_in x3.toInt 0 5) {c : Int} (hc : x3.toInt = c + 0) : zs_ok (BX4_weigh_2 σ x1 x2 x3) (fun r => zs_sum (fun v => ((zs_C σ0 v.1 ∧ zs_in (v.2).toInt 1 5)) ∧ v.2.toInt = c + 1) (fun v => zs_C σ0 v) r) := by
  unfold BX4_weigh_2
  obtain rfl : x1 = (4 : Int32) := zs_eqv h_x1 (by decide)
  refine zs_ite (fun c1 => ?_) (fun c1 => ?_)
  · skip
    have r2 := (zs_I_lt c1)
    have g3 : zs_in (x3).toInt 5 5 := (zs_ltr 5 5 r2 h_x1 h_x3 (by decide))
    exact zs_some (zs_inr (h_σ))
  · skip
    have r4 := (zs_I_ltn c1)
    have g5 : zs_in (x3).toInt 0 4 := (zs_lel 0 4 r4 h_x3 h_x1 (by decide))
    refine zs_ite (fun c6 => ?_) (fun c6 => ?_)
    · skip
      have r7 := (zs_I_le c6)
      exact (zs_botle r7 zlI_9 g5 (by decide)).elim
    · skip
      have r8 := (zs_I_len c6)
      refine zs_bd_ (zd_149 h_σ h_x1 h_x2 g5 (s0 := ((1 : Int64), (0 : Int32))) ⟨trivial, (zs_w zlI_0 (by decide))⟩) (fun t_3 pt_3 => ?_)
      obtain ⟨ret, er, hr⟩ := zc_835 h_σ h_x1 h_x2 g5 hc
      refine ⟨ret, er, ?_⟩
      exact (zs_sumw hr (fun v w => ⟨w.1, w.2⟩) (fun v w => w.elim))
theorem zd_150 {σ0 : sn_S} {x1 : Int32} (h_x1 : zs_in x1.toInt 4 4) {x2 : Int32} (h_x2 : zs_in x2.toInt 0 10) {s0 : (sn_S × Int32)} (h0 : (zs_C σ0 s0.1 ∧ zs_in (s0.2).toInt 0 5)) : zs_ok (sn_it (LX4_weigh_2 x1 x2) 5000 s0) (fun t => zs_C σ0 t) := by
  refine zs_it (I := fun s => (zs_C σ0 s.1 ∧ zs_in (s.2).toInt 0 5)) (m := fun s => 5 - s.2.toInt) (fun s hs => ?_) (fun s hs => ?_) (by exact h0)
  · have h1 := hs.2; unfold zs_in at h1
    omega
  · obtain ⟨b, eb, hb⟩ := zc_836 hs.1 h_x1 h_x2 hs.2 (c := s.2.toInt) (Int.add_zero _).symm
    exact ⟨b, eb, zs_sumw hb (fun v w => ⟨⟨w.1.1, (zs_w w.1.2 (by decide))⟩, by have := w.2; omega⟩) (fun v w => w)⟩
-- fX4_weigh
theorem zc_837 {σ0 : sn_S} {σ : sn_S} (h_σ : zs_C σ0 σ) {x1 : Int32} (h_x1 : zs_in x1.toInt 4 4) {x2 : Int32} (h_x2 : zs_in x2.toInt 0 10) : zs_ok (fX4_weigh σ x1 x2) (fun r => zs_C σ0 r) := by
  unfold fX4_weigh
  obtain rfl : x1 = (4 : Int32) := zs_eqv h_x1 (by decide)
  refine zs_bd_ (zd_150 h_x1 h_x2 (s0 := (σ, (0 : Int32))) ⟨h_σ, (zs_w zlI_0 (by decide))⟩) (fun t_1 pt_1 => ?_)
  obtain ⟨ret, er, hr⟩ := zc_674 pt_1
  refine ⟨ret, er, ?_⟩
  exact hr
-- fX8_hasBit
theorem zc_838 {x0 : Int32} (h_x0 : zs_in x0.toInt 0 0) {x1 : Int32} (h_x1 : zs_in x1.toInt 0 3) : zs_ok (fX8_hasBit x0 x1) (fun r => zs_in (r).toInt 0 1) := by
  unfold fX8_hasBit
  obtain rfl : x0 = (0 : Int32) := zs_eqv h_x0 (by decide)
  refine zs_ite (fun c1 => ?_) (fun c1 => ?_)
  · skip
    have r2 := (zs_I_eq c1)
    have g3 : zs_in ((((0 : Int32) >>> (x1 &&& 31)) &&& (1 : Int32))).toInt 1 1 := (zs_eql 1 1 r2 (zs_and zlI_1 (by decide)) zlI_1 (by decide))
    refine zs_gd (zs_b01 zlI_1 (by decide)) ?_
    exact zs_some (zs_w zlI_1 (by decide))
  · skip
    have r4 := (zs_I_eqn c1)
    have g5 : zs_in ((((0 : Int32) >>> (x1 &&& 31)) &&& (1 : Int32))).toInt 0 0 := (zs_neh 0 0 r4 (zs_and zlI_1 (by decide)) zlI_1 (by decide))
    refine zs_gd (zs_b01 zlI_0 (by decide)) ?_
    exact zs_some (zs_w zlI_0 (by decide))
-- BX4_reckon_111
theorem zc_839 {σ0 : sn_S} {σ : sn_S} (h_σ : zs_C σ0 σ) {x3 : Int32} (h_x3 : zs_in x3.toInt 0 0) {x4 : Int32} (h_x4 : zs_in x4.toInt 0 5) {x6 : Int32} (h_x6 : zs_in x6.toInt 4 4) {x7 : Int32} (h_x7 : zs_in x7.toInt 0 0) {x8 : Int32} (h_x8 : zs_in x8.toInt 0 0) {x9 : Int32} (h_x9 : zs_in x9.toInt 0 3) {t1 : Int32} (h_t1 : zs_in t1.toInt 0 3) {t2 : Int32} {t3 : Int32} (h_t3 : zs_in t3.toInt 0 0) {c : Int} (hc : x9.toInt = c + 0) : zs_ok (BX4_reckon_111 σ 1 27 x3 x4 x6 x7 x8 x9 t1 t2 t3) (fun r => zs_sum (fun v => ((zs_C σ0 v.1 ∧ zs_in (v.2).toInt 1 4)) ∧ v.2.toInt = c + 1) (fun v => False) r) := by
  unfold BX4_reckon_111
  obtain rfl : x3 = (0 : Int32) := zs_eqv h_x3 (by decide)
  obtain rfl : x6 = (4 : Int32) := zs_eqv h_x6 (by decide)
  obtain rfl : x7 = (0 : Int32) := zs_eqv h_x7 (by decide)
  obtain rfl : x8 = (0 : Int32) := zs_eqv h_x8 (by decide)
  obtain rfl : t3 = (0 : Int32) := zs_eqv h_t3 (by decide)
  refine zs_gd (zs_gin h_t1 (by decide)) ?_
  refine zs_lt (Q := fun z => zs_C σ0 z) (zs_wrt h_σ (fun _ => rfl) (fun _ => rfl)) (fun σ_2 hσ_2 => ?_)
  refine zs_lt (Q := fun z => zs_in z.toInt 1 4 ∧ z.toInt = c + 1) ⟨(zs_addI 1 4 h_x9 zlI_1 (by decide)), (zs_syI 1 hc h_x9 zlI_1 (by decide) (by decide))⟩ (fun y_4 hy_4 => ?_)
  exact zs_some (zs_inl ⟨⟨hσ_2, hy_4.1⟩, hy_4.2⟩)
-- BX4_reckon_111
theorem zc_840 {σ0 : sn_S} {σ : sn_S} (h_σ : zs_C σ0 σ) {x3 : Int32} (h_x3 : zs_in x3.toInt 0 0) {x4 : Int32} (h_x4 : zs_in x4.toInt 0 5) {x6 : Int32} (h_x6 : zs_in x6.toInt 4 4) {x7 : Int32} (h_x7 : zs_in x7.toInt 0 0) {x8 : Int32} (h_x8 : zs_in x8.toInt 0 0) {x9 : Int32} (h_x9 : zs_in x9.toInt 0 3) {t1 : Int32} (h_t1 : zs_in t1.toInt 0 3) {t2 : Int32} {t3 : Int32} (h_t3 : zs_in t3.toInt 3 3) {c : Int} (hc : x9.toInt = c + 0) : zs_ok (BX4_reckon_111 σ 1 27 x3 x4 x6 x7 x8 x9 t1 t2 t3) (fun r => zs_sum (fun v => ((zs_C σ0 v.1 ∧ zs_in (v.2).toInt 1 4)) ∧ v.2.toInt = c + 1) (fun v => False) r) := by
  unfold BX4_reckon_111
  obtain rfl : x3 = (0 : Int32) := zs_eqv h_x3 (by decide)
  obtain rfl : x6 = (4 : Int32) := zs_eqv h_x6 (by decide)
  obtain rfl : x7 = (0 : Int32) := zs_eqv h_x7 (by decide)
  obtain rfl : x8 = (0 : Int32) := zs_eqv h_x8 (by decide)
  obtain rfl : t3 = (3 : Int32) := zs_eqv h_t3 (by decide)
  refine zs_gd (zs_gin h_t1 (by decide)) ?_
  refine zs_lt (Q := fun z => zs_C σ0 z) (zs_wrt h_σ (fun _ => rfl) (fun _ => rfl)) (fun σ_2 hσ_2 => ?_)
  refine zs_lt (Q := fun z => zs_in z.toInt 1 4 ∧ z.toInt = c + 1) ⟨(zs_addI 1 4 h_x9 zlI_1 (by decide)), (zs_syI 1 hc h_x9 zlI_1 (by decide) (by decide))⟩ (fun y_4 hy_4 => ?_)
  exact zs_some (zs_inl ⟨⟨hσ_2, hy_4.1⟩, hy_4.2⟩)
-- BX4_reckon_68
theorem zc_841 {σ0 : sn_S} {σ : sn_S} (h_σ : zs_C σ0 σ) {x3 : Int32} (h_x3 : zs_in x3.toInt 0 0) {x4 : Int32} (h_x4 : zs_in x4.toInt 0 5) {x6 : Int32} (h_x6 : zs_in x6.toInt 4 4) {x7 : Int32} (h_x7 : zs_in x7.toInt 0 0) {x8 : Int32} (h_x8 : zs_in x8.toInt 0 0) {x9 : Int32} (h_x9 : zs_in x9.toInt 0 4) {c : Int} (hc : x9.toInt = c + 0) : zs_ok (BX4_reckon_68 σ 1 27 x3 x4 x6 x7 x8 x9) (fun r => zs_sum (fun v => ((zs_C σ0 v.1 ∧ zs_in (v.2).toInt 1 4)) ∧ v.2.toInt = c + 1) (fun v => zs_C σ0 v) r) := by
  unfold BX4_reckon_68
  obtain rfl : x3 = (0 : Int32) := zs_eqv h_x3 (by decide)
  obtain rfl : x6 = (4 : Int32) := zs_eqv h_x6 (by decide)
  obtain rfl : x7 = (0 : Int32) := zs_eqv h_x7 (by decide)
  obtain rfl : x8 = (0 : Int32) := zs_eqv h_x8 (by decide)
  refine zs_ite (fun c1 => ?_) (fun c1 => ?_)
  · skip
    have r2 := (zs_I_le c1)
    have g3 : zs_in (x9).toInt 4 4 := (zs_ler 4 4 r2 h_x6 h_x9 (by decide))
    exact zs_some (zs_inr (h_σ))
  · skip
    have r4 := (zs_I_len c1)
    have g5 : zs_in (x9).toInt 0 3 := (zs_ltl 0 3 r4 h_x9 h_x6 (by decide))
    refine zs_gd (zs_gin g5 (by decide)) ?_
    refine zs_bd_ (zc_838 h_x7 (zs_subI 0 3 (zs_subI 3 3 h_x6 zlI_1 (by decide)) g5 (by decide))) (fun t_3 pt_3 => ?_)
    refine zs_ite (fun c6 => ?_) (fun c6 => ?_)
    · skip
      have r7 := (zs_I_eq c6)
      have g8 : zs_in (t_3).toInt 0 0 := (zs_eql 0 0 r7 pt_3 zlI_0 (by decide))
      obtain ⟨ret, er, hr⟩ := zc_839 h_σ h_x3 h_x4 h_x6 h_x7 h_x8 g5 g5 zlI_0 hc
      refine ⟨ret, er, ?_⟩
      exact (zs_sumw hr (fun v w => ⟨w.1, w.2⟩) (fun v w => w.elim))
    · skip
      have r9 := (zs_I_eqn c6)
      have g10 : zs_in (t_3).toInt 1 1 := (zs_nel 1 1 r9 pt_3 zlI_0 (by decide))
      obtain ⟨ret, er, hr⟩ := zc_840 h_σ h_x3 h_x4 h_x6 h_x7 h_x8 g5 g5 zlI_3 hc
      refine ⟨ret, er, ?_⟩
      exact (zs_sumw hr (fun v w => ⟨w.1, w.2⟩) (fun v w => w.elim))
theorem zd_151 {σ0 : sn_S} {x3 : Int32} (h_x3 : zs_in x3.toInt 0 0) {x4 : Int32} (h_x4 : zs_in x4.toInt 0 5) {x6 : Int32} (h_x6 : zs_in x6.toInt 4 4) {x7 : Int32} (h_x7 : zs_in x7.toInt 0 0) {x8 : Int32} (h_x8 : zs_in x8.toInt 0 0) {s0 : (sn_S × Int32)} (h0 : (zs_C σ0 s0.1 ∧ zs_in (s0.2).toInt 0 4)) : zs_ok (sn_it (LX4_reckon_68 1 27 x3 x4 x6 x7 x8) 5000 s0) (fun t => zs_C σ0 t) := by
  refine zs_it (I := fun s => (zs_C σ0 s.1 ∧ zs_in (s.2).toInt 0 4)) (m := fun s => 4 - s.2.toInt) (fun s hs => ?_) (fun s hs => ?_) (by exact h0)
  · have h1 := hs.2; unfold zs_in at h1
    omega
  · obtain ⟨b, eb, hb⟩ := zc_841 hs.1 h_x3 h_x4 h_x6 h_x7 h_x8 hs.2 (c := s.2.toInt) (Int.add_zero _).symm
    exact ⟨b, eb, zs_sumw hb (fun v w => ⟨⟨w.1.1, (zs_w w.1.2 (by decide))⟩, by have := w.2; omega⟩) (fun v w => w)⟩
-- BX0_live_2
theorem zc_842 {σ0 : sn_S} {σ : sn_S} (h_σ : zs_C σ0 σ) {x1 : Int32} (h_x1 : zs_in x1.toInt 0 0) {x2 : Int32} (h_x2 : zs_in x2.toInt 4 4) {x3 : Int32} (h_x3 : zs_in x3.toInt 0 6) {c : Int} (hc : x3.toInt = c + 0) : zs_ok (BX0_live_2 σ 59 x1 x2 x3) (fun r => zs_sum (fun v => ((zs_C σ0 v.1 ∧ zs_in (v.2).toInt 1 6)) ∧ v.2.toInt = c + 1) (fun v => zs_C σ0 v) r) := by
  unfold BX0_live_2
  obtain rfl : x1 = (0 : Int32) := zs_eqv h_x1 (by decide)
  obtain rfl : x2 = (4 : Int32) := zs_eqv h_x2 (by decide)
  refine zs_ite (fun c1 => ?_) (fun c1 => ?_)
  · skip
    have r2 := (zs_I_le c1)
    exact zs_some (zs_inr (h_σ))
  · skip
    have r3 := (zs_I_len c1)
    have g4 : zs_in (x3).toInt 0 5 := (zs_ltl 0 5 r3 h_x3 (zs_rdk (q := 59) (k := 1) (z := (0, 6)) h_σ.1 rfl) (by decide))
    have g5 : zs_in ((sn_I σ 59 1)).toInt 1 6 := (zs_ltr 1 6 r3 h_x3 (zs_rdk (q := 59) (k := 1) (z := (0, 6)) h_σ.1 rfl) (by decide))
    refine zs_gd (zs_gin g4 (by decide)) ?_
    refine zs_bd_ (zc_314 h_x1) (fun t_3 pt_3 => ?_)
    refine zs_gd (zs_gin g4 (by decide)) ?_
    refine zs_lt (Q := fun z => zs_C σ0 z) (zs_wru (z := (0, 1073741823)) h_σ (fun _ => rfl) (zs_and pt_3 (by decide)) (by decide) (fun _ => rfl)) (fun σ_6 hσ_6 => ?_)
    refine zs_lt (Q := fun z => zs_in z.toInt 1 6 ∧ z.toInt = c + 1) ⟨(zs_addI 1 6 g4 zlI_1 (by decide)), (zs_syI 1 hc g4 zlI_1 (by decide) (by decide))⟩ (fun y_8 hy_8 => ?_)
    exact zs_some (zs_inl ⟨⟨hσ_6, hy_8.1⟩, hy_8.2⟩)
theorem zd_152 {σ0 : sn_S} {x1 : Int32} (h_x1 : zs_in x1.toInt 0 0) {x2 : Int32} (h_x2 : zs_in x2.toInt 4 4) {s0 : (sn_S × Int32)} (h0 : (zs_C σ0 s0.1 ∧ zs_in (s0.2).toInt 0 6)) : zs_ok (sn_it (LX0_live_2 59 x1 x2) 5000 s0) (fun t => zs_C σ0 t) := by
  refine zs_it (I := fun s => (zs_C σ0 s.1 ∧ zs_in (s.2).toInt 0 6)) (m := fun s => 6 - s.2.toInt) (fun s hs => ?_) (fun s hs => ?_) (by exact h0)
  · have h1 := hs.2; unfold zs_in at h1
    omega
  · obtain ⟨b, eb, hb⟩ := zc_842 hs.1 h_x1 h_x2 hs.2 (c := s.2.toInt) (Int.add_zero _).symm
    exact ⟨b, eb, zs_sumw hb (fun v w => ⟨⟨w.1.1, (zs_w w.1.2 (by decide))⟩, by have := w.2; omega⟩) (fun v w => w)⟩
-- BX0_tickleByNets_7
theorem zc_843 {σ0 : sn_S} {σ : sn_S} (h_σ : zs_C σ0 σ) {x1 : Int32} (h_x1 : zs_in x1.toInt 0 3) {x2 : Int32} (h_x2 : zs_in x2.toInt 0 18) {x3 : Int32} (h_x3 : zs_in x3.toInt 0 6) (hl_x1 : x2.toInt = 6 * x1.toInt) {c : Int} (hc : x3.toInt = c + 0) : zs_ok (BX0_tickleByNets_7 σ 59 x1 x2 x3) (fun r => zs_sum (fun v => ((zs_C σ0 v.1 ∧ zs_in (v.2).toInt 1 6)) ∧ v.2.toInt = c + 1) (fun v => zs_C σ0 v) r) := by
  unfold BX0_tickleByNets_7
  refine zs_ite (fun c1 => ?_) (fun c1 => ?_)
  · skip
    have r2 := (zs_I_le c1)
    exact zs_some (zs_inr (h_σ))
  · skip
    have r3 := (zs_I_len c1)
    have g4 : zs_in (x3).toInt 0 5 := (zs_ltl 0 5 r3 h_x3 (zs_rdk (q := 59) (k := 1) (z := (0, 6)) h_σ.1 rfl) (by decide))
    have g5 : zs_in ((sn_I σ 59 1)).toInt 1 6 := (zs_ltr 1 6 r3 h_x3 (zs_rdk (q := 59) (k := 1) (z := (0, 6)) h_σ.1 rfl) (by decide))
    refine zs_gd (zs_gin (zs_addI 0 23 h_x2 g4 (by decide)) (by decide)) ?_
    refine zs_lt (Q := fun z => zs_C σ0 z) (zs_wrt h_σ (fun _ => rfl) (fun _ => rfl)) (fun σ_3 hσ_3 => ?_)
    refine zs_lt (Q := fun z => zs_in z.toInt 1 6 ∧ z.toInt = c + 1) ⟨(zs_addI 1 6 g4 zlI_1 (by decide)), (zs_syI 1 hc g4 zlI_1 (by decide) (by decide))⟩ (fun y_5 hy_5 => ?_)
    exact zs_some (zs_inl ⟨⟨hσ_3, hy_5.1⟩, hy_5.2⟩)
theorem zd_153 {σ0 : sn_S} {x1 : Int32} (h_x1 : zs_in x1.toInt 0 3) {x2 : Int32} (h_x2 : zs_in x2.toInt 0 18) (hl_x1 : x2.toInt = 6 * x1.toInt) {s0 : (sn_S × Int32)} (h0 : (zs_C σ0 s0.1 ∧ zs_in (s0.2).toInt 0 6)) : zs_ok (sn_it (LX0_tickleByNets_7 59 x1 x2) 5000 s0) (fun t => zs_C σ0 t) := by
  refine zs_it (I := fun s => (zs_C σ0 s.1 ∧ zs_in (s.2).toInt 0 6)) (m := fun s => 6 - s.2.toInt) (fun s hs => ?_) (fun s hs => ?_) (by exact h0)
  · have h1 := hs.2; unfold zs_in at h1
    omega
  · obtain ⟨b, eb, hb⟩ := zc_843 hs.1 h_x1 h_x2 hs.2 hl_x1 (c := s.2.toInt) (Int.add_zero _).symm
    exact ⟨b, eb, zs_sumw hb (fun v w => ⟨⟨w.1.1, (zs_w w.1.2 (by decide))⟩, by have := w.2; omega⟩) (fun v w => w)⟩
-- BX0_tickleByNets_149
theorem zc_844 {σ0 : sn_S} {σ : sn_S} (h_σ : zs_C σ0 σ) {x2 : Int32} (h_x2 : zs_in x2.toInt 6 18) {x3 : Int32} {x4 : Int32} (h_x4 : zs_in x4.toInt 0 7) {c : Int} (hc : x4.toInt = c + 0) : zs_ok (BX0_tickleByNets_149 σ 59 x2 x3 x4) (fun r => zs_sum (fun v => ((zs_C σ0 v.1 ∧ zs_in (v.2).toInt 1 8)) ∧ v.2.toInt = c + 1) (fun v => False) r) := by
  unfold BX0_tickleByNets_149
  refine zs_lt (Q := fun z => zs_in z.toInt 1 8 ∧ z.toInt = c + 1) ⟨(zs_addI 1 8 h_x4 zlI_1 (by decide)), (zs_syI 1 hc h_x4 zlI_1 (by decide) (by decide))⟩ (fun y_1 hy_1 => ?_)
  exact zs_some (zs_inl ⟨⟨h_σ, hy_1.1⟩, hy_1.2⟩)
-- BX0_tickleByNets_147
theorem zc_845 {σ0 : sn_S} {σ : sn_S} (h_σ : zs_C σ0 σ) {x2 : Int32} (h_x2 : zs_in x2.toInt 6 18) {x3 : Int32} {x4 : Int32} (h_x4 : zs_in x4.toInt 0 7) {t1 : Int32} (h_t1 : zs_in t1.toInt 6 23) {t2 : Int32} {t3 : Int32} (h_t3 : zs_in t3.toInt 0 0) {c : Int} (hc : x4.toInt = c + 0) : zs_ok (BX0_tickleByNets_147 σ 59 x2 x3 x4 t1 t2 t3) (fun r => zs_sum (fun v => ((zs_C σ0 v.1 ∧ zs_in (v.2).toInt 1 8)) ∧ v.2.toInt = c + 1) (fun v => False) r) := by
  unfold BX0_tickleByNets_147
  obtain rfl : t3 = (0 : Int32) := zs_eqv h_t3 (by decide)
  refine zs_gd (zs_gin h_t1 (by decide)) ?_
  refine zs_lt (Q := fun z => zs_C σ0 z) (zs_wrt h_σ (fun _ => rfl) (fun _ => rfl)) (fun σ_2 hσ_2 => ?_)
  obtain ⟨ret, er, hr⟩ := zc_844 hσ_2 h_x2 h_x4 hc
  refine ⟨ret, er, ?_⟩
  exact (zs_sumw hr (fun v w => ⟨w.1, w.2⟩) (fun v w => w.elim))
-- BX0_tickleByNets_147
theorem zc_846 {σ0 : sn_S} {σ : sn_S} (h_σ : zs_C σ0 σ) {x2 : Int32} (h_x2 : zs_in x2.toInt 6 18) {x3 : Int32} {x4 : Int32} (h_x4 : zs_in x4.toInt 0 7) {t1 : Int32} (h_t1 : zs_in t1.toInt 6 23) {t2 : Int32} {t3 : Int32} (h_t3 : zs_in t3.toInt 5 5) {c : Int} (hc : x4.toInt = c + 0) : zs_ok (BX0_tickleByNets_147 σ 59 x2 x3 x4 t1 t2 t3) (fun r => zs_sum (fun v => ((zs_C σ0 v.1 ∧ zs_in (v.2).toInt 1 8)) ∧ v.2.toInt = c + 1) (fun v => False) r) := by
  unfold BX0_tickleByNets_147
  obtain rfl : t3 = (5 : Int32) := zs_eqv h_t3 (by decide)
  refine zs_gd (zs_gin h_t1 (by decide)) ?_
  refine zs_lt (Q := fun z => zs_C σ0 z) (zs_wrt h_σ (fun _ => rfl) (fun _ => rfl)) (fun σ_2 hσ_2 => ?_)
  obtain ⟨ret, er, hr⟩ := zc_844 hσ_2 h_x2 h_x4 hc
  refine ⟨ret, er, ?_⟩
  exact (zs_sumw hr (fun v w => ⟨w.1, w.2⟩) (fun v w => w.elim))
-- BX0_tickleByNets_121
theorem zc_847 {σ0 : sn_S} {σ : sn_S} (h_σ : zs_C σ0 σ) {x2 : Int32} (h_x2 : zs_in x2.toInt 6 18) {x3 : Int32} {x4 : Int32} (h_x4 : zs_in x4.toInt 0 7) {x5 : Int32} (h_x5 : zs_in x5.toInt 0 5) {x6 : Int32} (h_x6 : zs_in x6.toInt 0 5) {t1 : Int32} (h_t1 : zs_in t1.toInt 6 23) {t2 : Int32} {t3 : Int32} (h_t3 : zs_in t3.toInt 0 0) {c : Int} (hc : x4.toInt = c + 0) : zs_ok (BX0_tickleByNets_121 σ 59 x2 x3 x4 x5 x6 t1 t2 t3) (fun r => zs_sum (fun v => ((zs_C σ0 v.1 ∧ zs_in (v.2).toInt 1 8)) ∧ v.2.toInt = c + 1) (fun v => False) r) := by
  unfold BX0_tickleByNets_121
  obtain rfl : t3 = (0 : Int32) := zs_eqv h_t3 (by decide)
  refine zs_gd (zs_gin h_t1 (by decide)) ?_
  refine zs_lt (Q := fun z => zs_C σ0 z) (zs_wrt h_σ (fun _ => rfl) (fun _ => rfl)) (fun σ_2 hσ_2 => ?_)
  refine zs_gd (zs_gin (zs_addI 6 23 h_x2 h_x6 (by decide)) (by decide)) ?_
  refine zs_bd_ (zc_319 h_x5) (fun t_5 pt_5 => ?_)
  refine zs_ite (fun c1 => ?_) (fun c1 => ?_)
  · skip
    have r2 := (zs_I_eq c1)
    have g3 : zs_in (t_5).toInt 0 0 := (zs_eql 0 0 r2 pt_5 zlI_0 (by decide))
    obtain ⟨ret, er, hr⟩ := zc_845 hσ_2 h_x2 h_x4 (zs_addI 6 23 h_x2 h_x6 (by decide)) zlI_0 hc
    refine ⟨ret, er, ?_⟩
    exact (zs_sumw hr (fun v w => ⟨w.1, w.2⟩) (fun v w => w.elim))
  · skip
    have r4 := (zs_I_eqn c1)
    have g5 : zs_in (t_5).toInt 1 1 := (zs_nel 1 1 r4 pt_5 zlI_0 (by decide))
    obtain ⟨ret, er, hr⟩ := zc_846 hσ_2 h_x2 h_x4 (zs_addI 6 23 h_x2 h_x6 (by decide)) zlI_5 hc
    refine ⟨ret, er, ?_⟩
    exact (zs_sumw hr (fun v w => ⟨w.1, w.2⟩) (fun v w => w.elim))
-- BX0_tickleByNets_121
theorem zc_848 {σ0 : sn_S} {σ : sn_S} (h_σ : zs_C σ0 σ) {x2 : Int32} (h_x2 : zs_in x2.toInt 6 18) {x3 : Int32} {x4 : Int32} (h_x4 : zs_in x4.toInt 0 7) {x5 : Int32} (h_x5 : zs_in x5.toInt 0 5) {x6 : Int32} (h_x6 : zs_in x6.toInt 0 5) {t1 : Int32} (h_t1 : zs_in t1.toInt 6 23) {t2 : Int32} {t3 : Int32} (h_t3 : zs_in t3.toInt 5 5) {c : Int} (hc : x4.toInt = c + 0) : zs_ok (BX0_tickleByNets_121 σ 59 x2 x3 x4 x5 x6 t1 t2 t3) (fun r => zs_sum (fun v => ((zs_C σ0 v.1 ∧ zs_in (v.2).toInt 1 8)) ∧ v.2.toInt = c + 1) (fun v => False) r) := by
  unfold BX0_tickleByNets_121
  obtain rfl : t3 = (5 : Int32) := zs_eqv h_t3 (by decide)
  refine zs_gd (zs_gin h_t1 (by decide)) ?_
  refine zs_lt (Q := fun z => zs_C σ0 z) (zs_wrt h_σ (fun _ => rfl) (fun _ => rfl)) (fun σ_2 hσ_2 => ?_)
  refine zs_gd (zs_gin (zs_addI 6 23 h_x2 h_x6 (by decide)) (by decide)) ?_
  refine zs_bd_ (zc_319 h_x5) (fun t_5 pt_5 => ?_)
  refine zs_ite (fun c1 => ?_) (fun c1 => ?_)
  · skip
    have r2 := (zs_I_eq c1)
    have g3 : zs_in (t_5).toInt 0 0 := (zs_eql 0 0 r2 pt_5 zlI_0 (by decide))
    obtain ⟨ret, er, hr⟩ := zc_845 hσ_2 h_x2 h_x4 (zs_addI 6 23 h_x2 h_x6 (by decide)) zlI_0 hc
    refine ⟨ret, er, ?_⟩
    exact (zs_sumw hr (fun v w => ⟨w.1, w.2⟩) (fun v w => w.elim))
  · skip
    have r4 := (zs_I_eqn c1)
    have g5 : zs_in (t_5).toInt 1 1 := (zs_nel 1 1 r4 pt_5 zlI_0 (by decide))
    obtain ⟨ret, er, hr⟩ := zc_846 hσ_2 h_x2 h_x4 (zs_addI 6 23 h_x2 h_x6 (by decide)) zlI_5 hc
    refine ⟨ret, er, ?_⟩
    exact (zs_sumw hr (fun v w => ⟨w.1, w.2⟩) (fun v w => w.elim))
-- BX0_tickleByNets_55
theorem zc_849 {σ0 : sn_S} {σ : sn_S} (h_σ : zs_C σ0 σ) {x2 : Int32} (h_x2 : zs_in x2.toInt 6 18) {x3 : Int32} {x4 : Int32} (h_x4 : zs_in x4.toInt 0 8) {c : Int} (hc : x4.toInt = c + 0) : zs_ok (BX0_tickleByNets_55 σ 59 x2 x3 x4) (fun r => zs_sum (fun v => ((zs_C σ0 v.1 ∧ zs_in (v.2).toInt 1 8)) ∧ v.2.toInt = c + 1) (fun v => zs_C σ0 v) r) := by
  unfold BX0_tickleByNets_55
  refine zs_ite (fun c1 => ?_) (fun c1 => ?_)
  · skip
    have r2 := (zs_I_le c1)
    exact zs_some (zs_inr (h_σ))
  · skip
    have r3 := (zs_I_len c1)
    have g4 : zs_in (x4).toInt 0 7 := (zs_ltl 0 7 r3 h_x4 (zs_rdk (q := 59) (k := 2) (z := (0, 8)) h_σ.1 rfl) (by decide))
    have g5 : zs_in ((sn_I σ 59 2)).toInt 1 8 := (zs_ltr 1 8 r3 h_x4 (zs_rdk (q := 59) (k := 2) (z := (0, 8)) h_σ.1 rfl) (by decide))
    refine zs_ite (fun c6 => ?_) (fun c6 => ?_)
    · skip
      have r7 := (zs_I_eq c6)
      have g8 : zs_in ((sn_I σ 59 3)).toInt 0 7 := (zs_eqr 0 7 r7 g4 (zs_topI _) (by decide))
      obtain ⟨ret, er, hr⟩ := zc_844 h_σ h_x2 g4 hc
      refine ⟨ret, er, ?_⟩
      exact (zs_sumw hr (fun v w => ⟨w.1, w.2⟩) (fun v w => w.elim))
    · skip
      have r9 := (zs_I_eqn c6)
      refine zs_gd (zs_gin (zs_mulI 0 14 zlI_2 g4 (by decide)) (by decide)) ?_
      refine zs_lt (Q := fun z => zs_in z.toInt 0 5) (zs_use (h_σ.1.2 rfl).2.2.2.1 g4 (by decide) r3 (zs_i20 g4 (by decide))) (fun y_4 hy_4 => ?_)
      refine zs_gd (zs_gin (zs_addI 1 15 (zs_mulI 0 14 zlI_2 g4 (by decide)) zlI_1 (by decide)) (by decide)) ?_
      refine zs_lt (Q := fun z => zs_in z.toInt 0 5) (zs_use (h_σ.1.2 rfl).2.2.2.2 g4 (by decide) r3 (zs_i21 g4 (by decide))) (fun y_7 hy_7 => ?_)
      refine zs_gd (zs_gin (zs_addI 6 23 h_x2 hy_4 (by decide)) (by decide)) ?_
      refine zs_bd_ (zc_319 hy_7) (fun t_10 pt_10 => ?_)
      refine zs_ite (fun c10 => ?_) (fun c10 => ?_)
      · skip
        have r11 := (zs_I_eq c10)
        have g12 : zs_in (t_10).toInt 0 0 := (zs_eql 0 0 r11 pt_10 zlI_0 (by decide))
        obtain ⟨ret, er, hr⟩ := zc_847 h_σ h_x2 g4 hy_4 hy_7 (zs_addI 6 23 h_x2 hy_4 (by decide)) zlI_0 hc
        refine ⟨ret, er, ?_⟩
        exact (zs_sumw hr (fun v w => ⟨w.1, w.2⟩) (fun v w => w.elim))
      · skip
        have r13 := (zs_I_eqn c10)
        have g14 : zs_in (t_10).toInt 1 1 := (zs_nel 1 1 r13 pt_10 zlI_0 (by decide))
        obtain ⟨ret, er, hr⟩ := zc_848 h_σ h_x2 g4 hy_4 hy_7 (zs_addI 6 23 h_x2 hy_4 (by decide)) zlI_5 hc
        refine ⟨ret, er, ?_⟩
        exact (zs_sumw hr (fun v w => ⟨w.1, w.2⟩) (fun v w => w.elim))
theorem zd_154 {σ0 : sn_S} {x2 : Int32} (h_x2 : zs_in x2.toInt 6 18) {x3 : Int32} {s0 : (sn_S × Int32)} (h0 : (zs_C σ0 s0.1 ∧ zs_in (s0.2).toInt 0 8)) : zs_ok (sn_it (LX0_tickleByNets_55 59 x2 x3) 5000 s0) (fun t => zs_C σ0 t) := by
  refine zs_it (I := fun s => (zs_C σ0 s.1 ∧ zs_in (s.2).toInt 0 8)) (m := fun s => 8 - s.2.toInt) (fun s hs => ?_) (fun s hs => ?_) (by exact h0)
  · have h1 := hs.2; unfold zs_in at h1
    omega
  · obtain ⟨b, eb, hb⟩ := zc_849 hs.1 h_x2 hs.2 (c := s.2.toInt) (Int.add_zero _).symm
    exact ⟨b, eb, zs_sumw hb (fun v w => ⟨⟨w.1.1, (zs_w w.1.2 (by decide))⟩, by have := w.2; omega⟩) (fun v w => w)⟩
-- BX0_tickleByNets_46
theorem zc_850 {σ0 : sn_S} {σ : sn_S} (h_σ : zs_C σ0 σ) {x2 : Int32} (h_x2 : zs_in x2.toInt 6 18) {t0 : Int32} : zs_ok (BX0_tickleByNets_46 σ 59 x2 t0) (fun r => zs_C σ0 r) := by
  unfold BX0_tickleByNets_46
  refine zs_ite (fun c1 => ?_) (fun c1 => ?_)
  · skip
    have r2 := (zs_I_eq c1)
    have g3 : zs_in (t0).toInt 0 0 := (zs_eql 0 0 r2 (zs_topI _) zlI_0 (by decide))
    exact zs_some h_σ
  · skip
    have r4 := (zs_I_eqn c1)
    refine zs_bd_ (zd_154 h_x2 (s0 := (σ, (0 : Int32))) ⟨h_σ, (zs_w zlI_0 (by decide))⟩) (fun t_2 pt_2 => ?_)
    obtain ⟨ret, er, hr⟩ := zc_737 pt_2
    refine ⟨ret, er, ?_⟩
    exact hr
-- BX0_tickleByNets_30
theorem zc_851 {σ0 : sn_S} {σ : sn_S} (h_σ : zs_C σ0 σ) {x1 : Int32} (h_x1 : zs_in x1.toInt 0 3) {x2 : Int32} (h_x2 : zs_in x2.toInt 0 18) (hl_x1 : x2.toInt = 6 * x1.toInt) : zs_ok (BX0_tickleByNets_30 σ 59 x1 x2) (fun r => zs_C σ0 r) := by
  unfold BX0_tickleByNets_30
  refine zs_ite (fun c1 => ?_) (fun c1 => ?_)
  · skip
    have r2 := (zs_I_eq c1)
    have g3 : zs_in (x1).toInt 0 0 := (zs_eql 0 0 r2 h_x1 zlI_0 (by decide))
    have g4 : zs_in (x2).toInt 0 0 := (zs_lin 0 0 hl_x1 g3 (by decide))
    obtain ⟨ret, er, hr⟩ := zc_682 h_σ g4 zlI_0
    refine ⟨ret, er, ?_⟩
    exact hr
  · skip
    have r5 := (zs_I_eqn c1)
    have g6 : zs_in (x1).toInt 1 3 := (zs_nel 1 3 r5 h_x1 zlI_0 (by decide))
    have g7 : zs_in (x2).toInt 6 18 := (zs_lin 6 18 hl_x1 g6 (by decide))
    refine zs_gd (zs_gin (zs_subI 0 2 g6 zlI_1 (by decide)) (by decide)) ?_
    obtain ⟨ret, er, hr⟩ := zc_850 h_σ g7
    refine ⟨ret, er, ?_⟩
    exact hr
-- fX0_tickleByNets
theorem zc_852 {σ0 : sn_S} {σ : sn_S} (h_σ : zs_C σ0 σ) {x1 : Int32} (h_x1 : zs_in x1.toInt 0 3) : zs_ok (fX0_tickleByNets σ 59 x1) (fun r => zs_C σ0 r) := by
  unfold fX0_tickleByNets
  refine zs_lt (Q := fun z => zs_in z.toInt 0 18 ∧ z = ((6 : Int32) * x1)) ⟨(zs_mulI 0 18 zlI_6 h_x1 (by decide)), rfl⟩ (fun y_1 hy_1 => ?_)
  refine zs_bd_ (zd_153 h_x1 hy_1.1 (zs_linv hy_1.2 zlI_6 h_x1 (by decide)) (s0 := (σ, (0 : Int32))) ⟨h_σ, (zs_w zlI_0 (by decide))⟩) (fun t_3 pt_3 => ?_)
  obtain ⟨ret, er, hr⟩ := zc_851 pt_3 h_x1 hy_1.1 (zs_linv hy_1.2 zlI_6 h_x1 (by decide))
  refine ⟨ret, er, ?_⟩
  exact hr
-- fX8_hasBit
theorem zc_853 {x0 : Int32} {x1 : Int32} (h_x1 : zs_in x1.toInt 0 3) : zs_ok (fX8_hasBit x0 x1) (fun r => zs_in (r).toInt 0 1) := by
  unfold fX8_hasBit
  refine zs_ite (fun c1 => ?_) (fun c1 => ?_)
  · skip
    have r2 := (zs_I_eq c1)
    have g3 : zs_in (((x0 >>> (x1 &&& 31)) &&& (1 : Int32))).toInt 1 1 := (zs_eql 1 1 r2 (zs_and zlI_1 (by decide)) zlI_1 (by decide))
    refine zs_gd (zs_b01 zlI_1 (by decide)) ?_
    exact zs_some (zs_w zlI_1 (by decide))
  · skip
    have r4 := (zs_I_eqn c1)
    have g5 : zs_in (((x0 >>> (x1 &&& 31)) &&& (1 : Int32))).toInt 0 0 := (zs_neh 0 0 r4 (zs_and zlI_1 (by decide)) zlI_1 (by decide))
    refine zs_gd (zs_b01 zlI_0 (by decide)) ?_
    exact zs_some (zs_w zlI_0 (by decide))
-- fX0_cameAt
theorem zc_854 {σ0 : sn_S} {σ : sn_S} (h_σ : zs_C σ0 σ) {x1 : Int32} (h_x1 : zs_in x1.toInt 0 5) {x2 : Int32} (h_x2 : zs_in x2.toInt 0 3) : zs_ok (fX0_cameAt σ 59 x1 x2) (fun r => True) := by
  unfold fX0_cameAt
  refine zs_gd (zs_gin (zs_addI 0 23 (zs_mulI 0 18 zlI_6 h_x2 (by decide)) h_x1 (by decide)) (by decide)) ?_
  exact zs_some trivial
-- BX0_comesTo_19
theorem zc_855 {σ0 : sn_S} {σ : sn_S} (h_σ : zs_C σ0 σ) {x1 : Int32} (h_x1 : zs_in x1.toInt 0 5) {x2 : Int32} (h_x2 : zs_in x2.toInt 0 3) {t0 : Int32} (h_t0 : zs_in t0.toInt 0 0) : zs_ok (BX0_comesTo_19 σ 59 x1 x2 t0) (fun r => True) := by
  unfold BX0_comesTo_19
  obtain rfl : t0 = (0 : Int32) := zs_eqv h_t0 (by decide)
  refine zs_gd (zs_gin h_x1 (by decide)) ?_
  refine zs_gd (zs_gin h_x2 (by decide)) ?_
  refine zs_bd_ (zc_854 h_σ h_x1 h_x2) (fun t_3 pt_3 => ?_)
  exact zs_some trivial
-- BX0_comesTo_19
theorem zc_856 {σ0 : sn_S} {σ : sn_S} (h_σ : zs_C σ0 σ) {x1 : Int32} (h_x1 : zs_in x1.toInt 0 5) {x2 : Int32} (h_x2 : zs_in x2.toInt 0 3) {t0 : Int32} (h_t0 : zs_in t0.toInt 40 40) : zs_ok (BX0_comesTo_19 σ 59 x1 x2 t0) (fun r => True) := by
  unfold BX0_comesTo_19
  obtain rfl : t0 = (40 : Int32) := zs_eqv h_t0 (by decide)
  refine zs_gd (zs_gin h_x1 (by decide)) ?_
  refine zs_gd (zs_gin h_x2 (by decide)) ?_
  refine zs_bd_ (zc_854 h_σ h_x1 h_x2) (fun t_3 pt_3 => ?_)
  exact zs_some trivial
-- fX0_comesTo
theorem zc_857 {σ0 : sn_S} {σ : sn_S} (h_σ : zs_C σ0 σ) {x1 : Int32} (h_x1 : zs_in x1.toInt 0 5) {x2 : Int32} (h_x2 : zs_in x2.toInt 0 3) : zs_ok (fX0_comesTo σ 59 x1 x2) (fun r => True) := by
  unfold fX0_comesTo
  refine zs_gd (zs_gin h_x1 (by decide)) ?_
  refine zs_bd_ (zc_853 h_x2) (fun t_2 pt_2 => ?_)
  refine zs_ite (fun c1 => ?_) (fun c1 => ?_)
  · skip
    have r2 := (zs_I_eq c1)
    have g3 : zs_in (t_2).toInt 0 0 := (zs_eql 0 0 r2 pt_2 zlI_0 (by decide))
    obtain ⟨ret, er, hr⟩ := zc_855 h_σ h_x1 h_x2 zlI_0
    refine ⟨ret, er, ?_⟩
    exact hr
  · skip
    have r4 := (zs_I_eqn c1)
    have g5 : zs_in (t_2).toInt 1 1 := (zs_nel 1 1 r4 pt_2 zlI_0 (by decide))
    obtain ⟨ret, er, hr⟩ := zc_856 h_σ h_x1 h_x2 zlI_40
    refine ⟨ret, er, ?_⟩
    exact hr
-- BX0_liveMinute_98
theorem zc_858 {σ0 : sn_S} {σ : sn_S} (h_σ : zs_C σ0 σ) {x1 : Int32} (h_x1 : zs_in x1.toInt 1 3) {x2 : Int32} (h_x2 : zs_in x2.toInt 6 18) {x3 : Int32} {x4 : Int32} (h_x4 : zs_in x4.toInt 0 5) {x5 : Int32} (h_x5 : zs_in x5.toInt (-2147483648) 2147483646) (hl_x1 : x2.toInt = 6 * x1.toInt) {c : Int} (hc : x4.toInt = c + 0) : zs_ok (BX0_liveMinute_98 σ 59 x1 x2 x3 x4 x5) (fun r => zs_sum (fun v => ((zs_C σ0 v.1 ∧ (True ∧ zs_in (v.2.2).toInt 1 6))) ∧ v.2.2.toInt = c + 1) (fun v => False) r) := by
  unfold BX0_liveMinute_98
  refine zs_gd (zs_gin (zs_addI 6 23 h_x2 h_x4 (by decide)) (by decide)) ?_
  refine zs_lt (Q := fun z => zs_C σ0 z) (zs_wrt h_σ (fun _ => rfl) (fun _ => rfl)) (fun σ_2 hσ_2 => ?_)
  refine zs_lt (Q := fun z => zs_in z.toInt 1 6 ∧ z.toInt = c + 1) ⟨(zs_addI 1 6 h_x4 zlI_1 (by decide)), (zs_syI 1 hc h_x4 zlI_1 (by decide) (by decide))⟩ (fun y_4 hy_4 => ?_)
  exact zs_some (zs_inl ⟨⟨hσ_2, ⟨trivial, hy_4.1⟩⟩, hy_4.2⟩)
-- fX8_hasBit
theorem zc_859 {x0 : Int32} {x1 : Int32} (h_x1 : zs_in x1.toInt 1 3) : zs_ok (fX8_hasBit x0 x1) (fun r => zs_in (r).toInt 0 1) := by
  unfold fX8_hasBit
  refine zs_ite (fun c1 => ?_) (fun c1 => ?_)
  · skip
    have r2 := (zs_I_eq c1)
    have g3 : zs_in (((x0 >>> (x1 &&& 31)) &&& (1 : Int32))).toInt 1 1 := (zs_eql 1 1 r2 (zs_and zlI_1 (by decide)) zlI_1 (by decide))
    refine zs_gd (zs_b01 zlI_1 (by decide)) ?_
    exact zs_some (zs_w zlI_1 (by decide))
  · skip
    have r4 := (zs_I_eqn c1)
    have g5 : zs_in (((x0 >>> (x1 &&& 31)) &&& (1 : Int32))).toInt 0 0 := (zs_neh 0 0 r4 (zs_and zlI_1 (by decide)) zlI_1 (by decide))
    refine zs_gd (zs_b01 zlI_0 (by decide)) ?_
    exact zs_some (zs_w zlI_0 (by decide))
-- BX0_liveMinute_98
theorem zc_860 {σ0 : sn_S} {σ : sn_S} (h_σ : zs_C σ0 σ) {x1 : Int32} (h_x1 : zs_in x1.toInt 1 3) {x2 : Int32} (h_x2 : zs_in x2.toInt 6 18) {x3 : Int32} {x4 : Int32} (h_x4 : zs_in x4.toInt 0 5) {x5 : Int32} (h_x5 : zs_in x5.toInt 0 0) (hl_x1 : x2.toInt = 6 * x1.toInt) {c : Int} (hc : x4.toInt = c + 0) : zs_ok (BX0_liveMinute_98 σ 59 x1 x2 x3 x4 x5) (fun r => zs_sum (fun v => ((zs_C σ0 v.1 ∧ (True ∧ zs_in (v.2.2).toInt 1 6))) ∧ v.2.2.toInt = c + 1) (fun v => False) r) := by
  unfold BX0_liveMinute_98
  obtain rfl : x5 = (0 : Int32) := zs_eqv h_x5 (by decide)
  refine zs_gd (zs_gin (zs_addI 6 23 h_x2 h_x4 (by decide)) (by decide)) ?_
  refine zs_lt (Q := fun z => zs_C σ0 z) (zs_wrt h_σ (fun _ => rfl) (fun _ => rfl)) (fun σ_2 hσ_2 => ?_)
  refine zs_lt (Q := fun z => zs_in z.toInt 1 6 ∧ z.toInt = c + 1) ⟨(zs_addI 1 6 h_x4 zlI_1 (by decide)), (zs_syI 1 hc h_x4 zlI_1 (by decide) (by decide))⟩ (fun y_4 hy_4 => ?_)
  exact zs_some (zs_inl ⟨⟨hσ_2, ⟨trivial, hy_4.1⟩⟩, hy_4.2⟩)
-- BX0_liveMinute_98
theorem zc_861 {σ0 : sn_S} {σ : sn_S} (h_σ : zs_C σ0 σ) {x1 : Int32} (h_x1 : zs_in x1.toInt 1 3) {x2 : Int32} (h_x2 : zs_in x2.toInt 6 18) {x3 : Int32} {x4 : Int32} (h_x4 : zs_in x4.toInt 0 5) {x5 : Int32} (hl_x1 : x2.toInt = 6 * x1.toInt) {c : Int} (hc : x4.toInt = c + 0) : zs_ok (BX0_liveMinute_98 σ 59 x1 x2 x3 x4 x5) (fun r => zs_sum (fun v => ((zs_C σ0 v.1 ∧ (True ∧ zs_in (v.2.2).toInt 1 6))) ∧ v.2.2.toInt = c + 1) (fun v => False) r) := by
  unfold BX0_liveMinute_98
  refine zs_gd (zs_gin (zs_addI 6 23 h_x2 h_x4 (by decide)) (by decide)) ?_
  refine zs_lt (Q := fun z => zs_C σ0 z) (zs_wrt h_σ (fun _ => rfl) (fun _ => rfl)) (fun σ_2 hσ_2 => ?_)
  refine zs_lt (Q := fun z => zs_in z.toInt 1 6 ∧ z.toInt = c + 1) ⟨(zs_addI 1 6 h_x4 zlI_1 (by decide)), (zs_syI 1 hc h_x4 zlI_1 (by decide) (by decide))⟩ (fun y_4 hy_4 => ?_)
  exact zs_some (zs_inl ⟨⟨hσ_2, ⟨trivial, hy_4.1⟩⟩, hy_4.2⟩)
-- BX0_liveMinute_46
theorem zc_862 {σ0 : sn_S} {σ : sn_S} (h_σ : zs_C σ0 σ) {x1 : Int32} (h_x1 : zs_in x1.toInt 1 3) {x2 : Int32} (h_x2 : zs_in x2.toInt 6 18) {x3 : Int32} {x4 : Int32} (h_x4 : zs_in x4.toInt 0 5) {t0 : Int32} {t1 : Int32} (hl_x1 : x2.toInt = 6 * x1.toInt) {c : Int} (hc : x4.toInt = c + 0) : zs_ok (BX0_liveMinute_46 σ 59 x1 x2 x3 x4 t0 t1) (fun r => zs_sum (fun v => ((zs_C σ0 v.1 ∧ (True ∧ zs_in (v.2.2).toInt 1 6))) ∧ v.2.2.toInt = c + 1) (fun v => False) r) := by
  unfold BX0_liveMinute_46
  refine zs_lt (Q := fun z => True) trivial (fun y_1 hy_1 => ?_)
  refine zs_gd (zs_gin h_x4 (by decide)) ?_
  refine zs_ite (fun c1 => ?_) (fun c1 => ?_)
  · skip
    have r2 := (zs_I_lt c1)
    have g3 : zs_in (y_1).toInt (-2147483648) 2147483646 := (zs_ltl (-2147483648) 2147483646 r2 (zs_topI _) (zs_topI _) (by decide))
    have g4 : zs_in ((sn_I σ (59 + 3) x4.toNatClampNeg)).toInt (-2147483647) 2147483647 := (zs_ltr (-2147483647) 2147483647 r2 (zs_topI _) (zs_topI _) (by decide))
    obtain ⟨ret, er, hr⟩ := zc_858 h_σ h_x1 h_x2 h_x4 g3 hl_x1 hc
    refine ⟨ret, er, ?_⟩
    exact (zs_sumw hr (fun v w => ⟨w.1, w.2⟩) (fun v w => w.elim))
  · skip
    have r5 := (zs_I_ltn c1)
    refine zs_gd (zs_gin h_x4 (by decide)) ?_
    refine zs_bd_ (zc_859 h_x1) (fun t_6 pt_6 => ?_)
    refine zs_ite (fun c6 => ?_) (fun c6 => ?_)
    · skip
      have r7 := (zs_I_eq c6)
      have g8 : zs_in (t_6).toInt 0 0 := (zs_eql 0 0 r7 pt_6 zlI_0 (by decide))
      refine zs_lt (Q := fun z => True) trivial (fun y_9 hy_9 => ?_)
      refine zs_gd (zs_gin h_x4 (by decide)) ?_
      refine zs_gd (zs_gin h_x4 (by decide)) ?_
      refine zs_lt (Q := fun z => zs_C σ0 z) (zs_wru (z := (0, 1073741823)) h_σ (fun _ => rfl) (zs_or 30 1073741823 (zs_rdu (q := 69) (z := (0, 1073741823)) h_σ.1 (fun _ => rfl)) (zs_cases h_x1 (fun z => zs_in ((1 : Int32) <<< (z &&& 31)).toInt 2 8) (by decide +kernel)) (by decide)) (by decide) (fun _ => rfl)) (fun σ_13 hσ_13 => ?_)
      obtain ⟨ret, er, hr⟩ := zc_860 hσ_13 h_x1 h_x2 h_x4 zlI_0 hl_x1 hc
      refine ⟨ret, er, ?_⟩
      exact (zs_sumw hr (fun v w => ⟨w.1, w.2⟩) (fun v w => w.elim))
    · skip
      have r9 := (zs_I_eqn c6)
      have g10 : zs_in (t_6).toInt 1 1 := (zs_nel 1 1 r9 pt_6 zlI_0 (by decide))
      obtain ⟨ret, er, hr⟩ := zc_861 h_σ h_x1 h_x2 h_x4 hl_x1 hc
      refine ⟨ret, er, ?_⟩
      exact (zs_sumw hr (fun v w => ⟨w.1, w.2⟩) (fun v w => w.elim))
-- BX0_liveMinute_10
theorem zc_863 {σ0 : sn_S} {σ : sn_S} (h_σ : zs_C σ0 σ) {x1 : Int32} (h_x1 : zs_in x1.toInt 0 3) {x2 : Int32} (h_x2 : zs_in x2.toInt 0 18) {x3 : Int32} {x4 : Int32} (h_x4 : zs_in x4.toInt 0 6) (hl_x1 : x2.toInt = 6 * x1.toInt) {c : Int} (hc : x4.toInt = c + 0) : zs_ok (BX0_liveMinute_10 σ 59 x1 x2 x3 x4) (fun r => zs_sum (fun v => ((zs_C σ0 v.1 ∧ (True ∧ zs_in (v.2.2).toInt 1 6))) ∧ v.2.2.toInt = c + 1) (fun v => (zs_C σ0 v.1 ∧ True)) r) := by
  unfold BX0_liveMinute_10
  refine zs_ite (fun c1 => ?_) (fun c1 => ?_)
  · skip
    have r2 := (zs_I_le c1)
    exact zs_some (zs_inr (⟨h_σ, trivial⟩))
  · skip
    have r3 := (zs_I_len c1)
    have g4 : zs_in (x4).toInt 0 5 := (zs_ltl 0 5 r3 h_x4 (zs_rdk (q := 59) (k := 1) (z := (0, 6)) h_σ.1 rfl) (by decide))
    have g5 : zs_in ((sn_I σ 59 1)).toInt 1 6 := (zs_ltr 1 6 r3 h_x4 (zs_rdk (q := 59) (k := 1) (z := (0, 6)) h_σ.1 rfl) (by decide))
    refine zs_bd_ (zc_857 h_σ g4 h_x1) (fun t_2 pt_2 => ?_)
    refine zs_ite (fun c6 => ?_) (fun c6 => ?_)
    · skip
      have r7 := (zs_I_eq c6)
      have g8 : zs_in (x1).toInt 0 0 := (zs_eql 0 0 r7 h_x1 zlI_0 (by decide))
      have g9 : zs_in (x2).toInt 0 0 := (zs_lin 0 0 hl_x1 g8 (by decide))
      obtain ⟨ret, er, hr⟩ := zc_692 h_σ g8 g9 g4 zlI_0 hl_x1 hc
      refine ⟨ret, er, ?_⟩
      exact (zs_sumw hr (fun v w => ⟨w.1, w.2⟩) (fun v w => w.elim))
    · skip
      have r10 := (zs_I_eqn c6)
      have g11 : zs_in (x1).toInt 1 3 := (zs_nel 1 3 r10 h_x1 zlI_0 (by decide))
      have g12 : zs_in (x2).toInt 6 18 := (zs_lin 6 18 hl_x1 g11 (by decide))
      refine zs_gd (zs_gin (zs_addI 0 17 (zs_subI 0 12 g12 zlI_6 (by decide)) g4 (by decide)) (by decide)) ?_
      obtain ⟨ret, er, hr⟩ := zc_862 h_σ g11 g12 g4 hl_x1 hc
      refine ⟨ret, er, ?_⟩
      exact (zs_sumw hr (fun v w => ⟨w.1, w.2⟩) (fun v w => w.elim))
theorem zd_155 {σ0 : sn_S} {x1 : Int32} (h_x1 : zs_in x1.toInt 0 3) {x2 : Int32} (h_x2 : zs_in x2.toInt 0 18) (hl_x1 : x2.toInt = 6 * x1.toInt) {s0 : (sn_S × (Int32 × Int32))} (h0 : (zs_C σ0 s0.1 ∧ (True ∧ zs_in (s0.2.2).toInt 0 6))) : zs_ok (sn_it (LX0_liveMinute_10 59 x1 x2) 5000 s0) (fun t => (zs_C σ0 t.1 ∧ True)) := by
  refine zs_it (I := fun s => (zs_C σ0 s.1 ∧ (True ∧ zs_in (s.2.2).toInt 0 6))) (m := fun s => 6 - s.2.2.toInt) (fun s hs => ?_) (fun s hs => ?_) (by exact h0)
  · have h1 := hs.2.2; unfold zs_in at h1
    omega
  · obtain ⟨b, eb, hb⟩ := zc_863 hs.1 h_x1 h_x2 hs.2.2 hl_x1 (c := s.2.2.toInt) (Int.add_zero _).symm
    exact ⟨b, eb, zs_sumw hb (fun v w => ⟨⟨w.1.1, ⟨w.1.2.1, (zs_w w.1.2.2 (by decide))⟩⟩, by have := w.2; omega⟩) (fun v w => w)⟩
-- BX0_liveMinute_115
theorem zc_864 {σ0 : sn_S} {σ : sn_S} (h_σ : zs_C σ0 σ) {x1 : Int32} (h_x1 : zs_in x1.toInt 0 3) {x3 : Int32} : zs_ok (BX0_liveMinute_115 σ 59 x1 x3) (fun r => zs_C σ0 r) := by
  unfold BX0_liveMinute_115
  refine zs_gd (zs_gin h_x1 (by decide)) ?_
  refine zs_lt (Q := fun z => zs_C σ0 z) (zs_wrt h_σ (fun _ => rfl) (fun _ => rfl)) (fun σ_2 hσ_2 => ?_)
  exact zs_some hσ_2
-- fX0_liveMinute
theorem zc_865 {σ0 : sn_S} {σ : sn_S} (h_σ : zs_C σ0 σ) {x1 : Int32} (h_x1 : zs_in x1.toInt 0 3) : zs_ok (fX0_liveMinute σ 59 x1) (fun r => zs_C σ0 r) := by
  unfold fX0_liveMinute
  refine zs_lt (Q := fun z => zs_in z.toInt 0 18 ∧ z = ((6 : Int32) * x1)) ⟨(zs_mulI 0 18 zlI_6 h_x1 (by decide)), rfl⟩ (fun y_1 hy_1 => ?_)
  refine zs_bd_ (zd_155 h_x1 hy_1.1 (zs_linv hy_1.2 zlI_6 h_x1 (by decide)) (s0 := (σ, ((0 : Int32), (0 : Int32)))) ⟨h_σ, ⟨trivial, (zs_w zlI_0 (by decide))⟩⟩) (fun t_3 pt_3 => ?_)
  obtain ⟨ret, er, hr⟩ := zc_864 pt_3.1 h_x1
  refine ⟨ret, er, ?_⟩
  exact hr
-- BX0_live_31
theorem zc_866 {σ0 : sn_S} {σ : sn_S} (h_σ : zs_C σ0 σ) {x2 : Int32} (h_x2 : zs_in x2.toInt 4 4) {x3 : Int32} (h_x3 : zs_in x3.toInt 0 4) {c : Int} (hc : x3.toInt = c + 0) : zs_ok (BX0_live_31 σ 59 x2 x3) (fun r => zs_sum (fun v => ((zs_C σ0 v.1 ∧ zs_in (v.2).toInt 1 4)) ∧ v.2.toInt = c + 1) (fun v => zs_C σ0 v) r) := by
  unfold BX0_live_31
  obtain rfl : x2 = (4 : Int32) := zs_eqv h_x2 (by decide)
  refine zs_ite (fun c1 => ?_) (fun c1 => ?_)
  · skip
    have r2 := (zs_I_le c1)
    have g3 : zs_in (x3).toInt 4 4 := (zs_ler 4 4 r2 h_x2 h_x3 (by decide))
    exact zs_some (zs_inr (h_σ))
  · skip
    have r4 := (zs_I_len c1)
    have g5 : zs_in (x3).toInt 0 3 := (zs_ltl 0 3 r4 h_x3 h_x2 (by decide))
    refine zs_ite (fun c6 => ?_) (fun c6 => ?_)
    · skip
      have r7 := (zs_I_le c6)
      have g8 : zs_in ((sn_I σ 59 0)).toInt 0 3 := (zs_lel 0 3 r7 (zs_rdk (q := 59) (k := 0) (z := (0, 30)) h_σ.1 rfl) g5 (by decide))
      exact zs_some (zs_inr (h_σ))
    · skip
      have r9 := (zs_I_len c6)
      have g10 : zs_in ((sn_I σ 59 0)).toInt 1 30 := (zs_ltr 1 30 r9 g5 (zs_rdk (q := 59) (k := 0) (z := (0, 30)) h_σ.1 rfl) (by decide))
      refine zs_bd_ (zc_852 h_σ g5) (fun t_3 pt_3 => ?_)
      refine zs_bd_ (zc_865 pt_3 g5) (fun t_5 pt_5 => ?_)
      refine zs_lt (Q := fun z => zs_in z.toInt 1 4 ∧ z.toInt = c + 1) ⟨(zs_addI 1 4 g5 zlI_1 (by decide)), (zs_syI 1 hc g5 zlI_1 (by decide) (by decide))⟩ (fun y_7 hy_7 => ?_)
      exact zs_some (zs_inl ⟨⟨pt_5, hy_7.1⟩, hy_7.2⟩)
theorem zd_156 {σ0 : sn_S} {x2 : Int32} (h_x2 : zs_in x2.toInt 4 4) {s0 : (sn_S × Int32)} (h0 : (zs_C σ0 s0.1 ∧ zs_in (s0.2).toInt 0 4)) : zs_ok (sn_it (LX0_live_31 59 x2) 5000 s0) (fun t => zs_C σ0 t) := by
  refine zs_it (I := fun s => (zs_C σ0 s.1 ∧ zs_in (s.2).toInt 0 4)) (m := fun s => 4 - s.2.toInt) (fun s hs => ?_) (fun s hs => ?_) (by exact h0)
  · have h1 := hs.2; unfold zs_in at h1
    omega
  · obtain ⟨b, eb, hb⟩ := zc_866 hs.1 h_x2 hs.2 (c := s.2.toInt) (Int.add_zero _).symm
    exact ⟨b, eb, zs_sumw hb (fun v w => ⟨⟨w.1.1, (zs_w w.1.2 (by decide))⟩, by have := w.2; omega⟩) (fun v w => w)⟩
-- BX0_live_29
theorem zc_867 {σ0 : sn_S} {σ : sn_S} (h_σ : zs_C σ0 σ) {x1 : Int32} (h_x1 : zs_in x1.toInt 0 0) {x2 : Int32} (h_x2 : zs_in x2.toInt 4 4) : zs_ok (BX0_live_29 σ 59 x1 x2) (fun r => zs_C σ0 r) := by
  unfold BX0_live_29
  obtain rfl : x1 = (0 : Int32) := zs_eqv h_x1 (by decide)
  obtain rfl : x2 = (4 : Int32) := zs_eqv h_x2 (by decide)
  refine zs_bd_ (zd_156 h_x2 (s0 := (σ, (0 : Int32))) ⟨h_σ, (zs_w h_x1 (by decide))⟩) (fun t_1 pt_1 => ?_)
  obtain ⟨ret, er, hr⟩ := zc_697 pt_1
  refine ⟨ret, er, ?_⟩
  exact hr
-- fX0_live
theorem zc_868 {σ0 : sn_S} {σ : sn_S} (h_σ : zs_C σ0 σ) {x1 : Int32} (h_x1 : zs_in x1.toInt 0 0) {x2 : Int32} (h_x2 : zs_in x2.toInt 4 4) : zs_ok (fX0_live σ 59 x1 x2) (fun r => zs_C σ0 r) := by
  unfold fX0_live
  obtain rfl : x1 = (0 : Int32) := zs_eqv h_x1 (by decide)
  obtain rfl : x2 = (4 : Int32) := zs_eqv h_x2 (by decide)
  refine zs_bd_ (zd_152 h_x1 h_x2 (s0 := (σ, (0 : Int32))) ⟨h_σ, (zs_w zlI_0 (by decide))⟩) (fun t_1 pt_1 => ?_)
  obtain ⟨ret, er, hr⟩ := zc_867 pt_1 h_x1 h_x2
  refine ⟨ret, er, ?_⟩
  exact hr
-- fX4_worth
theorem zc_869 {σ0 : sn_S} {σ : sn_S} (h_σ : zs_C σ0 σ) {x2 : Int32} (h_x2 : zs_in x2.toInt 0 0) {x3 : Int32} (h_x3 : zs_in x3.toInt 0 5) {x4 : Int32} (h_x4 : zs_in x4.toInt 4 4) : zs_ok (fX4_worth σ 1 x2 x3 x4) (fun r => (zs_in (r.1).toInt 0 1 ∧ zs_C σ0 r.2)) := by
  unfold fX4_worth
  obtain rfl : x2 = (0 : Int32) := zs_eqv h_x2 (by decide)
  obtain rfl : x4 = (4 : Int32) := zs_eqv h_x4 (by decide)
  refine zs_ite (fun c1 => ?_) (fun c1 => ?_)
  · skip
    have r2 := (zs_I_eq c1)
    refine zs_gd (zs_gin h_x3 (by decide)) ?_
    refine zs_ite (fun c3 => ?_) (fun c3 => ?_)
    · skip
      have r4 := (zs_I_eq c3)
      have g5 : zs_in ((sn_I σ (59 + 10) x3.toNatClampNeg)).toInt 0 0 := (zs_eql 0 0 r4 (zs_rdu (q := 69) (z := (0, 1073741823)) h_σ.1 (fun _ => rfl)) zlI_0 (by decide))
      exact zs_some ⟨(zs_w zlL_0 (by decide)), h_σ⟩
    · skip
      have r6 := (zs_I_eqn c3)
      have g7 : zs_in ((sn_I σ (59 + 10) x3.toNatClampNeg)).toInt 1 1073741823 := (zs_nel 1 1073741823 r6 (zs_rdu (q := 69) (z := (0, 1073741823)) h_σ.1 (fun _ => rfl)) zlI_0 (by decide))
      exact zs_some ⟨(zs_w zlL_1 (by decide)), h_σ⟩
  · skip
    have r8 := (zs_I_eqn c1)
    exact (zs_botne r8 h_x2 zlI_0 (by decide)).elim
-- BX4_reckon_139
theorem zc_870 {σ0 : sn_S} {σ : sn_S} (h_σ : zs_C σ0 σ) {x3 : Int32} (h_x3 : zs_in x3.toInt 0 0) {x4 : Int32} (h_x4 : zs_in x4.toInt 0 5) {x6 : Int32} (h_x6 : zs_in x6.toInt 4 4) {x7 : Int32} (h_x7 : zs_in x7.toInt 0 0) {t1 : Int32} (h_t1 : zs_in t1.toInt 0 0) {t2 : Int32} (h_t2 : zs_in t2.toInt 4 4) {c : Int} (hc : x7.toInt = c + 0) : zs_ok (BX4_reckon_139 σ 1 27 x3 x4 x6 x7 t1 t2) (fun r => zs_sum (fun v => ((zs_C σ0 v.1 ∧ zs_in (v.2).toInt 1 1)) ∧ v.2.toInt = c + 1) (fun v => False) r) := by
  unfold BX4_reckon_139
  obtain rfl : x3 = (0 : Int32) := zs_eqv h_x3 (by decide)
  obtain rfl : x6 = (4 : Int32) := zs_eqv h_x6 (by decide)
  obtain rfl : t1 = (0 : Int32) := zs_eqv h_t1 (by decide)
  obtain rfl : t2 = (4 : Int32) := zs_eqv h_t2 (by decide)
  refine zs_bd_ (zc_868 h_σ h_t1 h_t2) (fun t_1 pt_1 => ?_)
  refine zs_bd_ (zo_bc 0 0 (by decide) h_x7) (fun t_3 pt_3 => ?_)
  refine zs_gd (zs_gin pt_3 (by decide)) ?_
  refine zs_bd_ (zc_869 pt_1 h_x3 h_x4 h_x6) (fun t_6 pt_6 => ?_)
  refine zs_lt (Q := fun z => zs_C σ0 z) (zs_wrL pt_6.2 rfl) (fun σ_8 hσ_8 => ?_)
  refine zs_lt (Q := fun z => zs_in z.toInt 1 1 ∧ z.toInt = c + 1) ⟨(zs_addI 1 1 h_x7 zlI_1 (by decide)), (zs_syI 1 hc h_x7 zlI_1 (by decide) (by decide))⟩ (fun y_10 hy_10 => ?_)
  exact zs_some (zs_inl ⟨⟨hσ_8, hy_10.1⟩, hy_10.2⟩)
-- BX4_reckon_119
theorem zc_871 {σ0 : sn_S} {σ : sn_S} (h_σ : zs_C σ0 σ) {x3 : Int32} (h_x3 : zs_in x3.toInt 0 0) {x4 : Int32} (h_x4 : zs_in x4.toInt 0 5) {x6 : Int32} (h_x6 : zs_in x6.toInt 4 4) {x7 : Int32} (h_x7 : zs_in x7.toInt 0 0) {x8 : Int32} (h_x8 : zs_in x8.toInt 0 0) {c : Int} (hc : x7.toInt = c + 0) : zs_ok (BX4_reckon_119 σ 1 27 x3 x4 x6 x7 x8) (fun r => zs_sum (fun v => ((zs_C σ0 v.1 ∧ zs_in (v.2).toInt 1 1)) ∧ v.2.toInt = c + 1) (fun v => False) r) := by
  unfold BX4_reckon_119
  obtain rfl : x3 = (0 : Int32) := zs_eqv h_x3 (by decide)
  obtain rfl : x6 = (4 : Int32) := zs_eqv h_x6 (by decide)
  obtain rfl : x8 = (0 : Int32) := zs_eqv h_x8 (by decide)
  refine zs_ite (fun c1 => ?_) (fun c1 => ?_)
  · skip
    have r2 := (zs_I_eq c1)
    exact (zs_botr r2 h_x3 zlI_2 (by decide)).elim
  · skip
    have r3 := (zs_I_eqn c1)
    obtain ⟨ret, er, hr⟩ := zc_870 h_σ h_x3 h_x4 h_x6 h_x7 h_x8 h_x6 hc
    refine ⟨ret, er, ?_⟩
    exact (zs_sumw hr (fun v w => ⟨w.1, w.2⟩) (fun v w => w.elim))
-- BX4_reckon_62
theorem zc_872 {σ0 : sn_S} {σ : sn_S} (h_σ : zs_C σ0 σ) {x3 : Int32} (h_x3 : zs_in x3.toInt 0 0) {x4 : Int32} (h_x4 : zs_in x4.toInt 0 5) {x6 : Int32} (h_x6 : zs_in x6.toInt 4 4) {x7 : Int32} (h_x7 : zs_in x7.toInt 0 0) {t0 : Int32} (h_t0 : zs_in t0.toInt 0 0) {c : Int} (hc : x7.toInt = c + 0) : zs_ok (BX4_reckon_62 σ 1 27 x3 x4 x6 x7 t0) (fun r => zs_sum (fun v => ((zs_C σ0 v.1 ∧ zs_in (v.2).toInt 1 1)) ∧ v.2.toInt = c + 1) (fun v => False) r) := by
  unfold BX4_reckon_62
  obtain rfl : x3 = (0 : Int32) := zs_eqv h_x3 (by decide)
  obtain rfl : x6 = (4 : Int32) := zs_eqv h_x6 (by decide)
  obtain rfl : t0 = (0 : Int32) := zs_eqv h_t0 (by decide)
  refine zs_bd_ (zd_151 h_x3 h_x4 h_x6 h_x7 h_t0 (s0 := (σ, (0 : Int32))) ⟨h_σ, (zs_w h_t0 (by decide))⟩) (fun t_1 pt_1 => ?_)
  obtain ⟨ret, er, hr⟩ := zc_871 pt_1 h_x3 h_x4 h_x6 h_x7 h_t0 hc
  refine ⟨ret, er, ?_⟩
  exact (zs_sumw hr (fun v w => ⟨w.1, w.2⟩) (fun v w => w.elim))
-- fX8_hasBit
theorem zc_873 {x0 : Int32} (h_x0 : zs_in x0.toInt 1 15) {x1 : Int32} (h_x1 : zs_in x1.toInt 0 3) : zs_ok (fX8_hasBit x0 x1) (fun r => zs_in (r).toInt 0 1) := by
  unfold fX8_hasBit
  refine zs_ite (fun c1 => ?_) (fun c1 => ?_)
  · skip
    have r2 := (zs_I_eq c1)
    have g3 : zs_in (((x0 >>> (x1 &&& 31)) &&& (1 : Int32))).toInt 1 1 := (zs_eql 1 1 r2 (zs_and zlI_1 (by decide)) zlI_1 (by decide))
    refine zs_gd (zs_b01 zlI_1 (by decide)) ?_
    exact zs_some (zs_w zlI_1 (by decide))
  · skip
    have r4 := (zs_I_eqn c1)
    have g5 : zs_in (((x0 >>> (x1 &&& 31)) &&& (1 : Int32))).toInt 0 0 := (zs_neh 0 0 r4 (zs_and zlI_1 (by decide)) zlI_1 (by decide))
    refine zs_gd (zs_b01 zlI_0 (by decide)) ?_
    exact zs_some (zs_w zlI_0 (by decide))
-- BX4_reckon_111
theorem zc_874 {σ0 : sn_S} {σ : sn_S} (h_σ : zs_C σ0 σ) {x3 : Int32} (h_x3 : zs_in x3.toInt 0 0) {x4 : Int32} (h_x4 : zs_in x4.toInt 0 5) {x6 : Int32} (h_x6 : zs_in x6.toInt 4 4) {x7 : Int32} (h_x7 : zs_in x7.toInt 1 15) {x8 : Int32} (h_x8 : zs_in x8.toInt 0 3) {x9 : Int32} (h_x9 : zs_in x9.toInt 0 3) {t1 : Int32} (h_t1 : zs_in t1.toInt 0 3) {t2 : Int32} {t3 : Int32} (h_t3 : zs_in t3.toInt 0 0) {c : Int} (hc : x9.toInt = c + 0) : zs_ok (BX4_reckon_111 σ 1 27 x3 x4 x6 x7 x8 x9 t1 t2 t3) (fun r => zs_sum (fun v => ((zs_C σ0 v.1 ∧ zs_in (v.2).toInt 1 4)) ∧ v.2.toInt = c + 1) (fun v => False) r) := by
  unfold BX4_reckon_111
  obtain rfl : x3 = (0 : Int32) := zs_eqv h_x3 (by decide)
  obtain rfl : x6 = (4 : Int32) := zs_eqv h_x6 (by decide)
  obtain rfl : t3 = (0 : Int32) := zs_eqv h_t3 (by decide)
  refine zs_gd (zs_gin h_t1 (by decide)) ?_
  refine zs_lt (Q := fun z => zs_C σ0 z) (zs_wrt h_σ (fun _ => rfl) (fun _ => rfl)) (fun σ_2 hσ_2 => ?_)
  refine zs_lt (Q := fun z => zs_in z.toInt 1 4 ∧ z.toInt = c + 1) ⟨(zs_addI 1 4 h_x9 zlI_1 (by decide)), (zs_syI 1 hc h_x9 zlI_1 (by decide) (by decide))⟩ (fun y_4 hy_4 => ?_)
  exact zs_some (zs_inl ⟨⟨hσ_2, hy_4.1⟩, hy_4.2⟩)
-- BX4_reckon_111
theorem zc_875 {σ0 : sn_S} {σ : sn_S} (h_σ : zs_C σ0 σ) {x3 : Int32} (h_x3 : zs_in x3.toInt 0 0) {x4 : Int32} (h_x4 : zs_in x4.toInt 0 5) {x6 : Int32} (h_x6 : zs_in x6.toInt 4 4) {x7 : Int32} (h_x7 : zs_in x7.toInt 1 15) {x8 : Int32} (h_x8 : zs_in x8.toInt 0 3) {x9 : Int32} (h_x9 : zs_in x9.toInt 0 3) {t1 : Int32} (h_t1 : zs_in t1.toInt 0 3) {t2 : Int32} {t3 : Int32} (h_t3 : zs_in t3.toInt 3 3) {c : Int} (hc : x9.toInt = c + 0) : zs_ok (BX4_reckon_111 σ 1 27 x3 x4 x6 x7 x8 x9 t1 t2 t3) (fun r => zs_sum (fun v => ((zs_C σ0 v.1 ∧ zs_in (v.2).toInt 1 4)) ∧ v.2.toInt = c + 1) (fun v => False) r) := by
  unfold BX4_reckon_111
  obtain rfl : x3 = (0 : Int32) := zs_eqv h_x3 (by decide)
  obtain rfl : x6 = (4 : Int32) := zs_eqv h_x6 (by decide)
  obtain rfl : t3 = (3 : Int32) := zs_eqv h_t3 (by decide)
  refine zs_gd (zs_gin h_t1 (by decide)) ?_
  refine zs_lt (Q := fun z => zs_C σ0 z) (zs_wrt h_σ (fun _ => rfl) (fun _ => rfl)) (fun σ_2 hσ_2 => ?_)
  refine zs_lt (Q := fun z => zs_in z.toInt 1 4 ∧ z.toInt = c + 1) ⟨(zs_addI 1 4 h_x9 zlI_1 (by decide)), (zs_syI 1 hc h_x9 zlI_1 (by decide) (by decide))⟩ (fun y_4 hy_4 => ?_)
  exact zs_some (zs_inl ⟨⟨hσ_2, hy_4.1⟩, hy_4.2⟩)
-- BX4_reckon_68
theorem zc_876 {σ0 : sn_S} {σ : sn_S} (h_σ : zs_C σ0 σ) {x3 : Int32} (h_x3 : zs_in x3.toInt 0 0) {x4 : Int32} (h_x4 : zs_in x4.toInt 0 5) {x6 : Int32} (h_x6 : zs_in x6.toInt 4 4) {x7 : Int32} (h_x7 : zs_in x7.toInt 1 15) {x8 : Int32} (h_x8 : zs_in x8.toInt 0 3) {x9 : Int32} (h_x9 : zs_in x9.toInt 0 4) {c : Int} (hc : x9.toInt = c + 0) : zs_ok (BX4_reckon_68 σ 1 27 x3 x4 x6 x7 x8 x9) (fun r => zs_sum (fun v => ((zs_C σ0 v.1 ∧ zs_in (v.2).toInt 1 4)) ∧ v.2.toInt = c + 1) (fun v => zs_C σ0 v) r) := by
  unfold BX4_reckon_68
  obtain rfl : x3 = (0 : Int32) := zs_eqv h_x3 (by decide)
  obtain rfl : x6 = (4 : Int32) := zs_eqv h_x6 (by decide)
  refine zs_ite (fun c1 => ?_) (fun c1 => ?_)
  · skip
    have r2 := (zs_I_le c1)
    have g3 : zs_in (x9).toInt 4 4 := (zs_ler 4 4 r2 h_x6 h_x9 (by decide))
    exact zs_some (zs_inr (h_σ))
  · skip
    have r4 := (zs_I_len c1)
    have g5 : zs_in (x9).toInt 0 3 := (zs_ltl 0 3 r4 h_x9 h_x6 (by decide))
    refine zs_gd (zs_gin g5 (by decide)) ?_
    refine zs_bd_ (zc_873 h_x7 (zs_subI 0 3 (zs_subI 3 3 h_x6 zlI_1 (by decide)) g5 (by decide))) (fun t_3 pt_3 => ?_)
    refine zs_ite (fun c6 => ?_) (fun c6 => ?_)
    · skip
      have r7 := (zs_I_eq c6)
      have g8 : zs_in (t_3).toInt 0 0 := (zs_eql 0 0 r7 pt_3 zlI_0 (by decide))
      obtain ⟨ret, er, hr⟩ := zc_874 h_σ h_x3 h_x4 h_x6 h_x7 h_x8 g5 g5 zlI_0 hc
      refine ⟨ret, er, ?_⟩
      exact (zs_sumw hr (fun v w => ⟨w.1, w.2⟩) (fun v w => w.elim))
    · skip
      have r9 := (zs_I_eqn c6)
      have g10 : zs_in (t_3).toInt 1 1 := (zs_nel 1 1 r9 pt_3 zlI_0 (by decide))
      obtain ⟨ret, er, hr⟩ := zc_875 h_σ h_x3 h_x4 h_x6 h_x7 h_x8 g5 g5 zlI_3 hc
      refine ⟨ret, er, ?_⟩
      exact (zs_sumw hr (fun v w => ⟨w.1, w.2⟩) (fun v w => w.elim))
theorem zd_157 {σ0 : sn_S} {x3 : Int32} (h_x3 : zs_in x3.toInt 0 0) {x4 : Int32} (h_x4 : zs_in x4.toInt 0 5) {x6 : Int32} (h_x6 : zs_in x6.toInt 4 4) {x7 : Int32} (h_x7 : zs_in x7.toInt 1 15) {x8 : Int32} (h_x8 : zs_in x8.toInt 0 3) {s0 : (sn_S × Int32)} (h0 : (zs_C σ0 s0.1 ∧ zs_in (s0.2).toInt 0 4)) : zs_ok (sn_it (LX4_reckon_68 1 27 x3 x4 x6 x7 x8) 5000 s0) (fun t => zs_C σ0 t) := by
  refine zs_it (I := fun s => (zs_C σ0 s.1 ∧ zs_in (s.2).toInt 0 4)) (m := fun s => 4 - s.2.toInt) (fun s hs => ?_) (fun s hs => ?_) (by exact h0)
  · have h1 := hs.2; unfold zs_in at h1
    omega
  · obtain ⟨b, eb, hb⟩ := zc_876 hs.1 h_x3 h_x4 h_x6 h_x7 h_x8 hs.2 (c := s.2.toInt) (Int.add_zero _).symm
    exact ⟨b, eb, zs_sumw hb (fun v w => ⟨⟨w.1.1, (zs_w w.1.2 (by decide))⟩, by have := w.2; omega⟩) (fun v w => w)⟩
-- fX8_firstMinutes
theorem zc_877 {x0 : Int32} (h_x0 : zs_in x0.toInt 0 3) : zs_ok (fX8_firstMinutes x0) (fun r => zs_in (r).toInt 0 7) := by
  unfold fX8_firstMinutes
  exact zs_some (zs_subI 0 7 (zs_cases h_x0 (fun z => zs_in ((1 : Int32) <<< (z &&& 31)).toInt 1 8) (by decide +kernel)) zlI_1 (by decide))
-- BX0_live_2
theorem zc_878 {σ0 : sn_S} {σ : sn_S} (h_σ : zs_C σ0 σ) {x1 : Int32} (h_x1 : zs_in x1.toInt 0 3) {x2 : Int32} (h_x2 : zs_in x2.toInt 4 4) {x3 : Int32} (h_x3 : zs_in x3.toInt 0 6) {c : Int} (hc : x3.toInt = c + 0) : zs_ok (BX0_live_2 σ 59 x1 x2 x3) (fun r => zs_sum (fun v => ((zs_C σ0 v.1 ∧ zs_in (v.2).toInt 1 6)) ∧ v.2.toInt = c + 1) (fun v => zs_C σ0 v) r) := by
  unfold BX0_live_2
  obtain rfl : x2 = (4 : Int32) := zs_eqv h_x2 (by decide)
  refine zs_ite (fun c1 => ?_) (fun c1 => ?_)
  · skip
    have r2 := (zs_I_le c1)
    exact zs_some (zs_inr (h_σ))
  · skip
    have r3 := (zs_I_len c1)
    have g4 : zs_in (x3).toInt 0 5 := (zs_ltl 0 5 r3 h_x3 (zs_rdk (q := 59) (k := 1) (z := (0, 6)) h_σ.1 rfl) (by decide))
    have g5 : zs_in ((sn_I σ 59 1)).toInt 1 6 := (zs_ltr 1 6 r3 h_x3 (zs_rdk (q := 59) (k := 1) (z := (0, 6)) h_σ.1 rfl) (by decide))
    refine zs_gd (zs_gin g4 (by decide)) ?_
    refine zs_bd_ (zc_877 h_x1) (fun t_3 pt_3 => ?_)
    refine zs_gd (zs_gin g4 (by decide)) ?_
    refine zs_lt (Q := fun z => zs_C σ0 z) (zs_wru (z := (0, 1073741823)) h_σ (fun _ => rfl) (zs_and pt_3 (by decide)) (by decide) (fun _ => rfl)) (fun σ_6 hσ_6 => ?_)
    refine zs_lt (Q := fun z => zs_in z.toInt 1 6 ∧ z.toInt = c + 1) ⟨(zs_addI 1 6 g4 zlI_1 (by decide)), (zs_syI 1 hc g4 zlI_1 (by decide) (by decide))⟩ (fun y_8 hy_8 => ?_)
    exact zs_some (zs_inl ⟨⟨hσ_6, hy_8.1⟩, hy_8.2⟩)
theorem zd_158 {σ0 : sn_S} {x1 : Int32} (h_x1 : zs_in x1.toInt 0 3) {x2 : Int32} (h_x2 : zs_in x2.toInt 4 4) {s0 : (sn_S × Int32)} (h0 : (zs_C σ0 s0.1 ∧ zs_in (s0.2).toInt 0 6)) : zs_ok (sn_it (LX0_live_2 59 x1 x2) 5000 s0) (fun t => zs_C σ0 t) := by
  refine zs_it (I := fun s => (zs_C σ0 s.1 ∧ zs_in (s.2).toInt 0 6)) (m := fun s => 6 - s.2.toInt) (fun s hs => ?_) (fun s hs => ?_) (by exact h0)
  · have h1 := hs.2; unfold zs_in at h1
    omega
  · obtain ⟨b, eb, hb⟩ := zc_878 hs.1 h_x1 h_x2 hs.2 (c := s.2.toInt) (Int.add_zero _).symm
    exact ⟨b, eb, zs_sumw hb (fun v w => ⟨⟨w.1.1, (zs_w w.1.2 (by decide))⟩, by have := w.2; omega⟩) (fun v w => w)⟩
-- BX0_live_29
theorem zc_879 {σ0 : sn_S} {σ : sn_S} (h_σ : zs_C σ0 σ) {x1 : Int32} (h_x1 : zs_in x1.toInt 0 3) {x2 : Int32} (h_x2 : zs_in x2.toInt 4 4) : zs_ok (BX0_live_29 σ 59 x1 x2) (fun r => zs_C σ0 r) := by
  unfold BX0_live_29
  obtain rfl : x2 = (4 : Int32) := zs_eqv h_x2 (by decide)
  refine zs_bd_ (zd_156 h_x2 (s0 := (σ, x1)) ⟨h_σ, (zs_w h_x1 (by decide))⟩) (fun t_1 pt_1 => ?_)
  obtain ⟨ret, er, hr⟩ := zc_697 pt_1
  refine ⟨ret, er, ?_⟩
  exact hr
-- fX0_live
theorem zc_880 {σ0 : sn_S} {σ : sn_S} (h_σ : zs_C σ0 σ) {x1 : Int32} (h_x1 : zs_in x1.toInt 0 3) {x2 : Int32} (h_x2 : zs_in x2.toInt 4 4) : zs_ok (fX0_live σ 59 x1 x2) (fun r => zs_C σ0 r) := by
  unfold fX0_live
  obtain rfl : x2 = (4 : Int32) := zs_eqv h_x2 (by decide)
  refine zs_bd_ (zd_158 h_x1 h_x2 (s0 := (σ, (0 : Int32))) ⟨h_σ, (zs_w zlI_0 (by decide))⟩) (fun t_1 pt_1 => ?_)
  obtain ⟨ret, er, hr⟩ := zc_879 pt_1 h_x1 h_x2
  refine ⟨ret, er, ?_⟩
  exact hr
-- BX4_reckon_139
theorem zc_881 {σ0 : sn_S} {σ : sn_S} (h_σ : zs_C σ0 σ) {x3 : Int32} (h_x3 : zs_in x3.toInt 0 0) {x4 : Int32} (h_x4 : zs_in x4.toInt 0 5) {x6 : Int32} (h_x6 : zs_in x6.toInt 4 4) {x7 : Int32} (h_x7 : zs_in x7.toInt 1 15) {t1 : Int32} (h_t1 : zs_in t1.toInt 0 3) {t2 : Int32} (h_t2 : zs_in t2.toInt 4 4) {c : Int} (hc : x7.toInt = c + 0) : zs_ok (BX4_reckon_139 σ 1 27 x3 x4 x6 x7 t1 t2) (fun r => zs_sum (fun v => ((zs_C σ0 v.1 ∧ zs_in (v.2).toInt 2 16)) ∧ v.2.toInt = c + 1) (fun v => False) r) := by
  unfold BX4_reckon_139
  obtain rfl : x3 = (0 : Int32) := zs_eqv h_x3 (by decide)
  obtain rfl : x6 = (4 : Int32) := zs_eqv h_x6 (by decide)
  obtain rfl : t2 = (4 : Int32) := zs_eqv h_t2 (by decide)
  refine zs_bd_ (zc_880 h_σ h_t1 h_t2) (fun t_1 pt_1 => ?_)
  refine zs_bd_ (zo_bc 4 4 (by decide) h_x7) (fun t_3 pt_3 => ?_)
  refine zs_gd (zs_gin pt_3 (by decide)) ?_
  refine zs_bd_ (zc_869 pt_1 h_x3 h_x4 h_x6) (fun t_6 pt_6 => ?_)
  refine zs_lt (Q := fun z => zs_C σ0 z) (zs_wrL pt_6.2 rfl) (fun σ_8 hσ_8 => ?_)
  refine zs_lt (Q := fun z => zs_in z.toInt 2 16 ∧ z.toInt = c + 1) ⟨(zs_addI 2 16 h_x7 zlI_1 (by decide)), (zs_syI 1 hc h_x7 zlI_1 (by decide) (by decide))⟩ (fun y_10 hy_10 => ?_)
  exact zs_some (zs_inl ⟨⟨hσ_8, hy_10.1⟩, hy_10.2⟩)
-- BX4_reckon_119
theorem zc_882 {σ0 : sn_S} {σ : sn_S} (h_σ : zs_C σ0 σ) {x3 : Int32} (h_x3 : zs_in x3.toInt 0 0) {x4 : Int32} (h_x4 : zs_in x4.toInt 0 5) {x6 : Int32} (h_x6 : zs_in x6.toInt 4 4) {x7 : Int32} (h_x7 : zs_in x7.toInt 1 15) {x8 : Int32} (h_x8 : zs_in x8.toInt 0 3) {c : Int} (hc : x7.toInt = c + 0) : zs_ok (BX4_reckon_119 σ 1 27 x3 x4 x6 x7 x8) (fun r => zs_sum (fun v => ((zs_C σ0 v.1 ∧ zs_in (v.2).toInt 2 16)) ∧ v.2.toInt = c + 1) (fun v => False) r) := by
  unfold BX4_reckon_119
  obtain rfl : x3 = (0 : Int32) := zs_eqv h_x3 (by decide)
  obtain rfl : x6 = (4 : Int32) := zs_eqv h_x6 (by decide)
  refine zs_ite (fun c1 => ?_) (fun c1 => ?_)
  · skip
    have r2 := (zs_I_eq c1)
    exact (zs_botr r2 h_x3 zlI_2 (by decide)).elim
  · skip
    have r3 := (zs_I_eqn c1)
    obtain ⟨ret, er, hr⟩ := zc_881 h_σ h_x3 h_x4 h_x6 h_x7 h_x8 h_x6 hc
    refine ⟨ret, er, ?_⟩
    exact (zs_sumw hr (fun v w => ⟨w.1, w.2⟩) (fun v w => w.elim))
-- BX4_reckon_62
theorem zc_883 {σ0 : sn_S} {σ : sn_S} (h_σ : zs_C σ0 σ) {x3 : Int32} (h_x3 : zs_in x3.toInt 0 0) {x4 : Int32} (h_x4 : zs_in x4.toInt 0 5) {x6 : Int32} (h_x6 : zs_in x6.toInt 4 4) {x7 : Int32} (h_x7 : zs_in x7.toInt 1 15) {t0 : Int32} (h_t0 : zs_in t0.toInt 0 3) {c : Int} (hc : x7.toInt = c + 0) : zs_ok (BX4_reckon_62 σ 1 27 x3 x4 x6 x7 t0) (fun r => zs_sum (fun v => ((zs_C σ0 v.1 ∧ zs_in (v.2).toInt 2 16)) ∧ v.2.toInt = c + 1) (fun v => False) r) := by
  unfold BX4_reckon_62
  obtain rfl : x3 = (0 : Int32) := zs_eqv h_x3 (by decide)
  obtain rfl : x6 = (4 : Int32) := zs_eqv h_x6 (by decide)
  refine zs_bd_ (zd_157 h_x3 h_x4 h_x6 h_x7 h_t0 (s0 := (σ, t0)) ⟨h_σ, (zs_w h_t0 (by decide))⟩) (fun t_1 pt_1 => ?_)
  obtain ⟨ret, er, hr⟩ := zc_882 pt_1 h_x3 h_x4 h_x6 h_x7 h_t0 hc
  refine ⟨ret, er, ?_⟩
  exact (zs_sumw hr (fun v w => ⟨w.1, w.2⟩) (fun v w => w.elim))
-- BX4_reckon_34
theorem zc_884 {σ0 : sn_S} {σ : sn_S} (h_σ : zs_C σ0 σ) {x3 : Int32} (h_x3 : zs_in x3.toInt 0 0) {x4 : Int32} (h_x4 : zs_in x4.toInt 0 5) {x6 : Int32} (h_x6 : zs_in x6.toInt 4 4) {x7 : Int32} (h_x7 : zs_in x7.toInt 0 16) {c : Int} (hc : x7.toInt = c + 0) : zs_ok (BX4_reckon_34 σ 1 27 x3 x4 x6 x7) (fun r => zs_sum (fun v => ((zs_C σ0 v.1 ∧ zs_in (v.2).toInt 1 16)) ∧ v.2.toInt = c + 1) (fun v => zs_C σ0 v) r) := by
  unfold BX4_reckon_34
  obtain rfl : x3 = (0 : Int32) := zs_eqv h_x3 (by decide)
  obtain rfl : x6 = (4 : Int32) := zs_eqv h_x6 (by decide)
  refine zs_ite (fun c1 => ?_) (fun c1 => ?_)
  · skip
    have r2 := (zs_I_le c1)
    have g3 : zs_in (x7).toInt 16 16 := (zs_ler 16 16 r2 (zs_cases h_x6 (fun z => zs_in ((1 : Int32) <<< (z &&& 31)).toInt 16 16) (by decide +kernel)) h_x7 (by decide))
    exact zs_some (zs_inr (h_σ))
  · skip
    have r4 := (zs_I_len c1)
    have g5 : zs_in (x7).toInt 0 15 := (zs_ltl 0 15 r4 h_x7 (zs_cases h_x6 (fun z => zs_in ((1 : Int32) <<< (z &&& 31)).toInt 16 16) (by decide +kernel)) (by decide))
    refine zs_ite (fun c6 => ?_) (fun c6 => ?_)
    · skip
      have r7 := (zs_I_eq c6)
      have g8 : zs_in (x7).toInt 0 0 := (zs_eql 0 0 r7 g5 zlI_0 (by decide))
      obtain ⟨ret, er, hr⟩ := zc_872 h_σ h_x3 h_x4 h_x6 g8 zlI_0 hc
      refine ⟨ret, er, ?_⟩
      exact (zs_sumw hr (fun v w => ⟨⟨w.1.1, (zs_w w.1.2 (by decide))⟩, w.2⟩) (fun v w => w.elim))
    · skip
      have r9 := (zs_I_eqn c6)
      have g10 : zs_in (x7).toInt 1 15 := (zs_nel 1 15 r9 g5 zlI_0 (by decide))
      refine zs_bd_ (zo_low1 4 3 (by decide) g10) (fun t_3 pt_3 => ?_)
      obtain ⟨ret, er, hr⟩ := zc_883 h_σ h_x3 h_x4 h_x6 g10 (zs_subI 0 3 (zs_subI 3 3 h_x6 zlI_1 (by decide)) pt_3 (by decide)) hc
      refine ⟨ret, er, ?_⟩
      exact (zs_sumw hr (fun v w => ⟨⟨w.1.1, (zs_w w.1.2 (by decide))⟩, w.2⟩) (fun v w => w.elim))
theorem zd_159 {σ0 : sn_S} {x3 : Int32} (h_x3 : zs_in x3.toInt 0 0) {x4 : Int32} (h_x4 : zs_in x4.toInt 0 5) {x6 : Int32} (h_x6 : zs_in x6.toInt 4 4) {s0 : (sn_S × Int32)} (h0 : (zs_C σ0 s0.1 ∧ zs_in (s0.2).toInt 0 16)) : zs_ok (sn_it (LX4_reckon_34 1 27 x3 x4 x6) 5000 s0) (fun t => zs_C σ0 t) := by
  refine zs_it (I := fun s => (zs_C σ0 s.1 ∧ zs_in (s.2).toInt 0 16)) (m := fun s => 16 - s.2.toInt) (fun s hs => ?_) (fun s hs => ?_) (by exact h0)
  · have h1 := hs.2; unfold zs_in at h1
    omega
  · obtain ⟨b, eb, hb⟩ := zc_884 hs.1 h_x3 h_x4 h_x6 hs.2 (c := s.2.toInt) (Int.add_zero _).symm
    exact ⟨b, eb, zs_sumw hb (fun v w => ⟨⟨w.1.1, (zs_w w.1.2 (by decide))⟩, by have := w.2; omega⟩) (fun v w => w)⟩
-- BX4_reckon_186
theorem zc_885 {σ0 : sn_S} {σ : sn_S} (h_σ : zs_C σ0 σ) {x6 : Int32} (h_x6 : zs_in x6.toInt 4 4) {x7 : Int32} (h_x7 : zs_in x7.toInt 0 4) {c : Int} (hc : x7.toInt = c + 0) : zs_ok (BX4_reckon_186 σ 1 27 x6 x7) (fun r => zs_sum (fun v => ((zs_C σ0 v.1 ∧ zs_in (v.2).toInt 1 4)) ∧ v.2.toInt = c + 1) (fun v => zs_C σ0 v) r) := by
  unfold BX4_reckon_186
  obtain rfl : x6 = (4 : Int32) := zs_eqv h_x6 (by decide)
  refine zs_ite (fun c1 => ?_) (fun c1 => ?_)
  · skip
    have r2 := (zs_I_le c1)
    have g3 : zs_in (x7).toInt 4 4 := (zs_ler 4 4 r2 h_x6 h_x7 (by decide))
    exact zs_some (zs_inr (h_σ))
  · skip
    have r4 := (zs_I_len c1)
    have g5 : zs_in (x7).toInt 0 3 := (zs_ltl 0 3 r4 h_x7 h_x6 (by decide))
    refine zs_lt (Q := fun z => zs_C σ0 z) (zs_wrL h_σ rfl) (fun σ_2 hσ_2 => ?_)
    refine zs_lt (Q := fun z => zs_in z.toInt 1 4 ∧ z.toInt = c + 1) ⟨(zs_addI 1 4 g5 zlI_1 (by decide)), (zs_syI 1 hc g5 zlI_1 (by decide) (by decide))⟩ (fun y_4 hy_4 => ?_)
    exact zs_some (zs_inl ⟨⟨hσ_2, hy_4.1⟩, hy_4.2⟩)
theorem zd_160 {σ0 : sn_S} {x6 : Int32} (h_x6 : zs_in x6.toInt 4 4) {s0 : (sn_S × Int32)} (h0 : (zs_C σ0 s0.1 ∧ zs_in (s0.2).toInt 0 4)) : zs_ok (sn_it (LX4_reckon_186 1 27 x6) 5000 s0) (fun t => zs_C σ0 t) := by
  refine zs_it (I := fun s => (zs_C σ0 s.1 ∧ zs_in (s.2).toInt 0 4)) (m := fun s => 4 - s.2.toInt) (fun s hs => ?_) (fun s hs => ?_) (by exact h0)
  · have h1 := hs.2; unfold zs_in at h1
    omega
  · obtain ⟨b, eb, hb⟩ := zc_885 hs.1 h_x6 hs.2 (c := s.2.toInt) (Int.add_zero _).symm
    exact ⟨b, eb, zs_sumw hb (fun v w => ⟨⟨w.1.1, (zs_w w.1.2 (by decide))⟩, by have := w.2; omega⟩) (fun v w => w)⟩
-- BX4_reckon_178
theorem zc_886 {σ0 : sn_S} {σ : sn_S} (h_σ : zs_C σ0 σ) {x6 : Int32} (h_x6 : zs_in x6.toInt 4 4) : zs_ok (BX4_reckon_178 σ 1 27 x6) (fun r => zs_C σ0 r) := by
  unfold BX4_reckon_178
  obtain rfl : x6 = (4 : Int32) := zs_eqv h_x6 (by decide)
  refine zs_lt (Q := fun z => zs_C σ0 z) (zs_wrL h_σ rfl) (fun σ_1 hσ_1 => ?_)
  refine zs_bd_ (zd_160 h_x6 (s0 := (σ_1, (0 : Int32))) ⟨hσ_1, (zs_w zlI_0 (by decide))⟩) (fun t_3 pt_3 => ?_)
  obtain ⟨ret, er, hr⟩ := zc_716 pt_3
  refine ⟨ret, er, ?_⟩
  exact hr
-- fX4_reckon
theorem zc_887 {σ0 : sn_S} {σ : sn_S} (h_σ : zs_C σ0 σ) {x3 : Int32} (h_x3 : zs_in x3.toInt 0 0) {x4 : Int32} (h_x4 : zs_in x4.toInt 0 5) {x5 : Int32} (h_x5 : zs_in x5.toInt 3 3) : zs_ok (fX4_reckon σ 1 27 x3 x4 x5) (fun r => zs_C σ0 r) := by
  unfold fX4_reckon
  obtain rfl : x3 = (0 : Int32) := zs_eqv h_x3 (by decide)
  obtain rfl : x5 = (3 : Int32) := zs_eqv h_x5 (by decide)
  refine zs_lt (Q := fun z => zs_in z.toInt 4 4) (zs_addI 4 4 h_x5 zlI_1 (by decide)) (fun y_1 hy_1 => ?_)
  refine zs_gd (zs_gin zlI_4 (by decide)) ?_
  refine zs_bd_ (zc_837 h_σ hy_1 (zs_rdk (q := 2) (k := (4 : Int32).toNatClampNeg) (z := (0, 10)) h_σ.1 rfl)) (fun t_4 pt_4 => ?_)
  refine zs_bd_ (zo_dcopy pt_4) (fun t_6 pt_6 => ?_)
  refine zs_lt (Q := fun z => zs_C σ0 z) (zs_wrL pt_6 rfl) (fun σ_8 hσ_8 => ?_)
  refine zs_bd_ (zd_159 h_x3 h_x4 hy_1 (s0 := (σ_8, (0 : Int32))) ⟨hσ_8, (zs_w zlI_0 (by decide))⟩) (fun t_10 pt_10 => ?_)
  obtain ⟨ret, er, hr⟩ := zc_886 pt_10 hy_1
  refine ⟨ret, er, ?_⟩
  exact hr
-- BX4_weigh_46
theorem zc_888 {σ0 : sn_S} {σ : sn_S} (h_σ : zs_C σ0 σ) {x1 : Int32} (h_x1 : zs_in x1.toInt 5 5) {x2 : Int32} (h_x2 : zs_in x2.toInt 0 10) {x3 : Int32} (h_x3 : zs_in x3.toInt 0 4) {x4 : Int64} {x6 : Int32} (h_x6 : zs_in x6.toInt 0 4) {t0 : Int64} {t1 : Int64} (h_t1 : zs_in t1.toInt 0 10) {c : Int} (hc : x6.toInt = c + 0) : zs_ok (BX4_weigh_46 σ x1 x2 x3 x4 x6 t0 t1) (fun r => zs_sum (fun v => ((True ∧ zs_in (v.2).toInt 1 5)) ∧ v.2.toInt = c + 1) (fun v => False) r) := by
  unfold BX4_weigh_46
  obtain rfl : x1 = (5 : Int32) := zs_eqv h_x1 (by decide)
  refine zs_lt (Q := fun z => True) trivial (fun y_1 hy_1 => ?_)
  refine zs_lt (Q := fun z => zs_in z.toInt 1 5 ∧ z.toInt = c + 1) ⟨(zs_addI 1 5 h_x6 zlI_1 (by decide)), (zs_syI 1 hc h_x6 zlI_1 (by decide) (by decide))⟩ (fun y_3 hy_3 => ?_)
  exact zs_some (zs_inl ⟨⟨trivial, hy_3.1⟩, hy_3.2⟩)
-- BX4_weigh_46
theorem zc_889 {σ0 : sn_S} {σ : sn_S} (h_σ : zs_C σ0 σ) {x1 : Int32} (h_x1 : zs_in x1.toInt 5 5) {x2 : Int32} (h_x2 : zs_in x2.toInt 0 10) {x3 : Int32} (h_x3 : zs_in x3.toInt 1 5) {x4 : Int64} {x6 : Int32} (h_x6 : zs_in x6.toInt 0 4) {t0 : Int64} {t1 : Int64} (h_t1 : zs_in t1.toInt 0 10) {c : Int} (hc : x6.toInt = c + 0) : zs_ok (BX4_weigh_46 σ x1 x2 x3 x4 x6 t0 t1) (fun r => zs_sum (fun v => ((True ∧ zs_in (v.2).toInt 1 5)) ∧ v.2.toInt = c + 1) (fun v => False) r) := by
  unfold BX4_weigh_46
  obtain rfl : x1 = (5 : Int32) := zs_eqv h_x1 (by decide)
  refine zs_lt (Q := fun z => True) trivial (fun y_1 hy_1 => ?_)
  refine zs_lt (Q := fun z => zs_in z.toInt 1 5 ∧ z.toInt = c + 1) ⟨(zs_addI 1 5 h_x6 zlI_1 (by decide)), (zs_syI 1 hc h_x6 zlI_1 (by decide) (by decide))⟩ (fun y_3 hy_3 => ?_)
  exact zs_some (zs_inl ⟨⟨trivial, hy_3.1⟩, hy_3.2⟩)
-- BX4_weigh_22
theorem zc_890 {σ0 : sn_S} {σ : sn_S} (h_σ : zs_C σ0 σ) {x1 : Int32} (h_x1 : zs_in x1.toInt 5 5) {x2 : Int32} (h_x2 : zs_in x2.toInt 0 10) {x3 : Int32} (h_x3 : zs_in x3.toInt 0 5) {x4 : Int64} {x6 : Int32} (h_x6 : zs_in x6.toInt 0 5) {c : Int} (hc : x6.toInt = c + 0) : zs_ok (BX4_weigh_22 σ x1 x2 x3 x4 x6) (fun r => zs_sum (fun v => ((True ∧ zs_in (v.2).toInt 1 5)) ∧ v.2.toInt = c + 1) (fun v => True) r) := by
  unfold BX4_weigh_22
  obtain rfl : x1 = (5 : Int32) := zs_eqv h_x1 (by decide)
  refine zs_ite (fun c1 => ?_) (fun c1 => ?_)
  · skip
    have r2 := (zs_I_le c1)
    have g3 : zs_in (x6).toInt 5 5 := (zs_ler 5 5 r2 h_x1 h_x6 (by decide))
    exact zs_some (zs_inr (trivial))
  · skip
    have r4 := (zs_I_len c1)
    have g5 : zs_in (x6).toInt 0 4 := (zs_ltl 0 4 r4 h_x6 h_x1 (by decide))
    refine zs_ite (fun c6 => ?_) (fun c6 => ?_)
    · skip
      have r7 := (zs_I_le c6)
      have g8 : zs_in (x3).toInt 0 4 := (zs_lel 0 4 r7 h_x3 g5 (by decide))
      obtain ⟨ret, er, hr⟩ := zc_888 h_σ h_x1 h_x2 g8 g5 (zs_64 (zs_subI 0 10 zlI_10 h_x2 (by decide))) hc
      refine ⟨ret, er, ?_⟩
      exact (zs_sumw hr (fun v w => ⟨w.1, w.2⟩) (fun v w => w.elim))
    · skip
      have r9 := (zs_I_len c6)
      have g10 : zs_in (x3).toInt 1 5 := (zs_ltr 1 5 r9 g5 h_x3 (by decide))
      obtain ⟨ret, er, hr⟩ := zc_889 h_σ h_x1 h_x2 g10 g5 (zs_64 h_x2) hc
      refine ⟨ret, er, ?_⟩
      exact (zs_sumw hr (fun v w => ⟨w.1, w.2⟩) (fun v w => w.elim))
theorem zd_161 {σ0 : sn_S} {σ : sn_S} (h_σ : zs_C σ0 σ) {x1 : Int32} (h_x1 : zs_in x1.toInt 5 5) {x2 : Int32} (h_x2 : zs_in x2.toInt 0 10) {x3 : Int32} (h_x3 : zs_in x3.toInt 0 5) {s0 : (Int64 × Int32)} (h0 : (True ∧ zs_in (s0.2).toInt 0 5)) : zs_ok (sn_it (LX4_weigh_22 σ x1 x2 x3) 5000 s0) (fun t => True) := by
  refine zs_it (I := fun s => (True ∧ zs_in (s.2).toInt 0 5)) (m := fun s => 5 - s.2.toInt) (fun s hs => ?_) (fun s hs => ?_) (by exact h0)
  · have h1 := hs.2; unfold zs_in at h1
    omega
  · obtain ⟨b, eb, hb⟩ := zc_890 h_σ h_x1 h_x2 h_x3 hs.2 (c := s.2.toInt) (Int.add_zero _).symm
    exact ⟨b, eb, zs_sumw hb (fun v w => ⟨⟨w.1.1, (zs_w w.1.2 (by decide))⟩, by have := w.2; omega⟩) (fun v w => w)⟩
-- BX4_weigh_55
theorem zc_891 {σ0 : sn_S} {σ : sn_S} (h_σ : zs_C σ0 σ) {x1 : Int32} (h_x1 : zs_in x1.toInt 5 5) {x2 : Int32} (h_x2 : zs_in x2.toInt 0 10) {x3 : Int32} (h_x3 : zs_in x3.toInt 0 5) {x4 : Int64} {c : Int} (hc : x3.toInt = c + 0) : zs_ok (BX4_weigh_55 σ x1 x2 x3 x4) (fun r => zs_sum (fun v => ((zs_C σ0 v.1 ∧ zs_in (v.2).toInt 1 6)) ∧ v.2.toInt = c + 1) (fun v => False) r) := by
  unfold BX4_weigh_55
  obtain rfl : x1 = (5 : Int32) := zs_eqv h_x1 (by decide)
  refine zs_gd (zs_gin h_x3 (by decide)) ?_
  refine zs_lt (Q := fun z => zs_C σ0 z) (zs_wrL h_σ rfl) (fun σ_2 hσ_2 => ?_)
  refine zs_lt (Q := fun z => zs_in z.toInt 1 6 ∧ z.toInt = c + 1) ⟨(zs_addI 1 6 h_x3 zlI_1 (by decide)), (zs_syI 1 hc h_x3 zlI_1 (by decide) (by decide))⟩ (fun y_4 hy_4 => ?_)
  exact zs_some (zs_inl ⟨⟨hσ_2, hy_4.1⟩, hy_4.2⟩)
-- BX4_weigh_2
theorem zc_892 {σ0 : sn_S} {σ : sn_S} (h_σ : zs_C σ0 σ) {x1 : Int32} (h_x1 : zs_in x1.toInt 5 5) {x2 : Int32} (h_x2 : zs_in x2.toInt 0 10) {x3 : Int32} (h_x3 : zs_in x3.toInt 0 6) {c : Int} (hc : x3.toInt = c + 0) : zs_ok (BX4_weigh_2 σ x1 x2 x3) (fun r => zs_sum (fun v => ((zs_C σ0 v.1 ∧ zs_in (v.2).toInt 1 6)) ∧ v.2.toInt = c + 1) (fun v => zs_C σ0 v) r) := by
  unfold BX4_weigh_2
  obtain rfl : x1 = (5 : Int32) := zs_eqv h_x1 (by decide)
  refine zs_ite (fun c1 => ?_) (fun c1 => ?_)
  · skip
    have r2 := (zs_I_lt c1)
    have g3 : zs_in (x3).toInt 6 6 := (zs_ltr 6 6 r2 h_x1 h_x3 (by decide))
    exact zs_some (zs_inr (h_σ))
  · skip
    have r4 := (zs_I_ltn c1)
    have g5 : zs_in (x3).toInt 0 5 := (zs_lel 0 5 r4 h_x3 h_x1 (by decide))
    refine zs_ite (fun c6 => ?_) (fun c6 => ?_)
    · skip
      have r7 := (zs_I_le c6)
      exact (zs_botle r7 zlI_9 g5 (by decide)).elim
    · skip
      have r8 := (zs_I_len c6)
      refine zs_bd_ (zd_161 h_σ h_x1 h_x2 g5 (s0 := ((1 : Int64), (0 : Int32))) ⟨trivial, (zs_w zlI_0 (by decide))⟩) (fun t_3 pt_3 => ?_)
      obtain ⟨ret, er, hr⟩ := zc_891 h_σ h_x1 h_x2 g5 hc
      refine ⟨ret, er, ?_⟩
      exact (zs_sumw hr (fun v w => ⟨w.1, w.2⟩) (fun v w => w.elim))
theorem zd_162 {σ0 : sn_S} {x1 : Int32} (h_x1 : zs_in x1.toInt 5 5) {x2 : Int32} (h_x2 : zs_in x2.toInt 0 10) {s0 : (sn_S × Int32)} (h0 : (zs_C σ0 s0.1 ∧ zs_in (s0.2).toInt 0 6)) : zs_ok (sn_it (LX4_weigh_2 x1 x2) 5000 s0) (fun t => zs_C σ0 t) := by
  refine zs_it (I := fun s => (zs_C σ0 s.1 ∧ zs_in (s.2).toInt 0 6)) (m := fun s => 6 - s.2.toInt) (fun s hs => ?_) (fun s hs => ?_) (by exact h0)
  · have h1 := hs.2; unfold zs_in at h1
    omega
  · obtain ⟨b, eb, hb⟩ := zc_892 hs.1 h_x1 h_x2 hs.2 (c := s.2.toInt) (Int.add_zero _).symm
    exact ⟨b, eb, zs_sumw hb (fun v w => ⟨⟨w.1.1, (zs_w w.1.2 (by decide))⟩, by have := w.2; omega⟩) (fun v w => w)⟩
-- fX4_weigh
theorem zc_893 {σ0 : sn_S} {σ : sn_S} (h_σ : zs_C σ0 σ) {x1 : Int32} (h_x1 : zs_in x1.toInt 5 5) {x2 : Int32} (h_x2 : zs_in x2.toInt 0 10) : zs_ok (fX4_weigh σ x1 x2) (fun r => zs_C σ0 r) := by
  unfold fX4_weigh
  obtain rfl : x1 = (5 : Int32) := zs_eqv h_x1 (by decide)
  refine zs_bd_ (zd_162 h_x1 h_x2 (s0 := (σ, (0 : Int32))) ⟨h_σ, (zs_w zlI_0 (by decide))⟩) (fun t_1 pt_1 => ?_)
  obtain ⟨ret, er, hr⟩ := zc_674 pt_1
  refine ⟨ret, er, ?_⟩
  exact hr
-- fX8_hasBit
theorem zc_894 {x0 : Int32} (h_x0 : zs_in x0.toInt 0 0) {x1 : Int32} (h_x1 : zs_in x1.toInt 0 4) : zs_ok (fX8_hasBit x0 x1) (fun r => zs_in (r).toInt 0 1) := by
  unfold fX8_hasBit
  obtain rfl : x0 = (0 : Int32) := zs_eqv h_x0 (by decide)
  refine zs_ite (fun c1 => ?_) (fun c1 => ?_)
  · skip
    have r2 := (zs_I_eq c1)
    have g3 : zs_in ((((0 : Int32) >>> (x1 &&& 31)) &&& (1 : Int32))).toInt 1 1 := (zs_eql 1 1 r2 (zs_and zlI_1 (by decide)) zlI_1 (by decide))
    refine zs_gd (zs_b01 zlI_1 (by decide)) ?_
    exact zs_some (zs_w zlI_1 (by decide))
  · skip
    have r4 := (zs_I_eqn c1)
    have g5 : zs_in ((((0 : Int32) >>> (x1 &&& 31)) &&& (1 : Int32))).toInt 0 0 := (zs_neh 0 0 r4 (zs_and zlI_1 (by decide)) zlI_1 (by decide))
    refine zs_gd (zs_b01 zlI_0 (by decide)) ?_
    exact zs_some (zs_w zlI_0 (by decide))
-- BX4_reckon_111
theorem zc_895 {σ0 : sn_S} {σ : sn_S} (h_σ : zs_C σ0 σ) {x3 : Int32} (h_x3 : zs_in x3.toInt 0 0) {x4 : Int32} (h_x4 : zs_in x4.toInt 0 5) {x6 : Int32} (h_x6 : zs_in x6.toInt 5 5) {x7 : Int32} (h_x7 : zs_in x7.toInt 0 0) {x8 : Int32} (h_x8 : zs_in x8.toInt 0 0) {x9 : Int32} (h_x9 : zs_in x9.toInt 0 4) {t1 : Int32} (h_t1 : zs_in t1.toInt 0 4) {t2 : Int32} {t3 : Int32} (h_t3 : zs_in t3.toInt 0 0) {c : Int} (hc : x9.toInt = c + 0) : zs_ok (BX4_reckon_111 σ 1 27 x3 x4 x6 x7 x8 x9 t1 t2 t3) (fun r => zs_sum (fun v => ((zs_C σ0 v.1 ∧ zs_in (v.2).toInt 1 5)) ∧ v.2.toInt = c + 1) (fun v => False) r) := by
  unfold BX4_reckon_111
  obtain rfl : x3 = (0 : Int32) := zs_eqv h_x3 (by decide)
  obtain rfl : x6 = (5 : Int32) := zs_eqv h_x6 (by decide)
  obtain rfl : x7 = (0 : Int32) := zs_eqv h_x7 (by decide)
  obtain rfl : x8 = (0 : Int32) := zs_eqv h_x8 (by decide)
  obtain rfl : t3 = (0 : Int32) := zs_eqv h_t3 (by decide)
  refine zs_gd (zs_gin h_t1 (by decide)) ?_
  refine zs_lt (Q := fun z => zs_C σ0 z) (zs_wrt h_σ (fun _ => rfl) (fun _ => rfl)) (fun σ_2 hσ_2 => ?_)
  refine zs_lt (Q := fun z => zs_in z.toInt 1 5 ∧ z.toInt = c + 1) ⟨(zs_addI 1 5 h_x9 zlI_1 (by decide)), (zs_syI 1 hc h_x9 zlI_1 (by decide) (by decide))⟩ (fun y_4 hy_4 => ?_)
  exact zs_some (zs_inl ⟨⟨hσ_2, hy_4.1⟩, hy_4.2⟩)
-- BX4_reckon_111
theorem zc_896 {σ0 : sn_S} {σ : sn_S} (h_σ : zs_C σ0 σ) {x3 : Int32} (h_x3 : zs_in x3.toInt 0 0) {x4 : Int32} (h_x4 : zs_in x4.toInt 0 5) {x6 : Int32} (h_x6 : zs_in x6.toInt 5 5) {x7 : Int32} (h_x7 : zs_in x7.toInt 0 0) {x8 : Int32} (h_x8 : zs_in x8.toInt 0 0) {x9 : Int32} (h_x9 : zs_in x9.toInt 0 4) {t1 : Int32} (h_t1 : zs_in t1.toInt 0 4) {t2 : Int32} {t3 : Int32} (h_t3 : zs_in t3.toInt 3 3) {c : Int} (hc : x9.toInt = c + 0) : zs_ok (BX4_reckon_111 σ 1 27 x3 x4 x6 x7 x8 x9 t1 t2 t3) (fun r => zs_sum (fun v => ((zs_C σ0 v.1 ∧ zs_in (v.2).toInt 1 5)) ∧ v.2.toInt = c + 1) (fun v => False) r) := by
  unfold BX4_reckon_111
  obtain rfl : x3 = (0 : Int32) := zs_eqv h_x3 (by decide)
  obtain rfl : x6 = (5 : Int32) := zs_eqv h_x6 (by decide)
  obtain rfl : x7 = (0 : Int32) := zs_eqv h_x7 (by decide)
  obtain rfl : x8 = (0 : Int32) := zs_eqv h_x8 (by decide)
  obtain rfl : t3 = (3 : Int32) := zs_eqv h_t3 (by decide)
  refine zs_gd (zs_gin h_t1 (by decide)) ?_
  refine zs_lt (Q := fun z => zs_C σ0 z) (zs_wrt h_σ (fun _ => rfl) (fun _ => rfl)) (fun σ_2 hσ_2 => ?_)
  refine zs_lt (Q := fun z => zs_in z.toInt 1 5 ∧ z.toInt = c + 1) ⟨(zs_addI 1 5 h_x9 zlI_1 (by decide)), (zs_syI 1 hc h_x9 zlI_1 (by decide) (by decide))⟩ (fun y_4 hy_4 => ?_)
  exact zs_some (zs_inl ⟨⟨hσ_2, hy_4.1⟩, hy_4.2⟩)
-- BX4_reckon_68
theorem zc_897 {σ0 : sn_S} {σ : sn_S} (h_σ : zs_C σ0 σ) {x3 : Int32} (h_x3 : zs_in x3.toInt 0 0) {x4 : Int32} (h_x4 : zs_in x4.toInt 0 5) {x6 : Int32} (h_x6 : zs_in x6.toInt 5 5) {x7 : Int32} (h_x7 : zs_in x7.toInt 0 0) {x8 : Int32} (h_x8 : zs_in x8.toInt 0 0) {x9 : Int32} (h_x9 : zs_in x9.toInt 0 5) {c : Int} (hc : x9.toInt = c + 0) : zs_ok (BX4_reckon_68 σ 1 27 x3 x4 x6 x7 x8 x9) (fun r => zs_sum (fun v => ((zs_C σ0 v.1 ∧ zs_in (v.2).toInt 1 5)) ∧ v.2.toInt = c + 1) (fun v => zs_C σ0 v) r) := by
  unfold BX4_reckon_68
  obtain rfl : x3 = (0 : Int32) := zs_eqv h_x3 (by decide)
  obtain rfl : x6 = (5 : Int32) := zs_eqv h_x6 (by decide)
  obtain rfl : x7 = (0 : Int32) := zs_eqv h_x7 (by decide)
  obtain rfl : x8 = (0 : Int32) := zs_eqv h_x8 (by decide)
  refine zs_ite (fun c1 => ?_) (fun c1 => ?_)
  · skip
    have r2 := (zs_I_le c1)
    have g3 : zs_in (x9).toInt 5 5 := (zs_ler 5 5 r2 h_x6 h_x9 (by decide))
    exact zs_some (zs_inr (h_σ))
  · skip
    have r4 := (zs_I_len c1)
    have g5 : zs_in (x9).toInt 0 4 := (zs_ltl 0 4 r4 h_x9 h_x6 (by decide))
    refine zs_gd (zs_gin g5 (by decide)) ?_
    refine zs_bd_ (zc_894 h_x7 (zs_subI 0 4 (zs_subI 4 4 h_x6 zlI_1 (by decide)) g5 (by decide))) (fun t_3 pt_3 => ?_)
    refine zs_ite (fun c6 => ?_) (fun c6 => ?_)
    · skip
      have r7 := (zs_I_eq c6)
      have g8 : zs_in (t_3).toInt 0 0 := (zs_eql 0 0 r7 pt_3 zlI_0 (by decide))
      obtain ⟨ret, er, hr⟩ := zc_895 h_σ h_x3 h_x4 h_x6 h_x7 h_x8 g5 g5 zlI_0 hc
      refine ⟨ret, er, ?_⟩
      exact (zs_sumw hr (fun v w => ⟨w.1, w.2⟩) (fun v w => w.elim))
    · skip
      have r9 := (zs_I_eqn c6)
      have g10 : zs_in (t_3).toInt 1 1 := (zs_nel 1 1 r9 pt_3 zlI_0 (by decide))
      obtain ⟨ret, er, hr⟩ := zc_896 h_σ h_x3 h_x4 h_x6 h_x7 h_x8 g5 g5 zlI_3 hc
      refine ⟨ret, er, ?_⟩
      exact (zs_sumw hr (fun v w => ⟨w.1, w.2⟩) (fun v w => w.elim))
theorem zd_163 {σ0 : sn_S} {x3 : Int32} (h_x3 : zs_in x3.toInt 0 0) {x4 : Int32} (h_x4 : zs_in x4.toInt 0 5) {x6 : Int32} (h_x6 : zs_in x6.toInt 5 5) {x7 : Int32} (h_x7 : zs_in x7.toInt 0 0) {x8 : Int32} (h_x8 : zs_in x8.toInt 0 0) {s0 : (sn_S × Int32)} (h0 : (zs_C σ0 s0.1 ∧ zs_in (s0.2).toInt 0 5)) : zs_ok (sn_it (LX4_reckon_68 1 27 x3 x4 x6 x7 x8) 5000 s0) (fun t => zs_C σ0 t) := by
  refine zs_it (I := fun s => (zs_C σ0 s.1 ∧ zs_in (s.2).toInt 0 5)) (m := fun s => 5 - s.2.toInt) (fun s hs => ?_) (fun s hs => ?_) (by exact h0)
  · have h1 := hs.2; unfold zs_in at h1
    omega
  · obtain ⟨b, eb, hb⟩ := zc_897 hs.1 h_x3 h_x4 h_x6 h_x7 h_x8 hs.2 (c := s.2.toInt) (Int.add_zero _).symm
    exact ⟨b, eb, zs_sumw hb (fun v w => ⟨⟨w.1.1, (zs_w w.1.2 (by decide))⟩, by have := w.2; omega⟩) (fun v w => w)⟩
-- BX0_live_2
theorem zc_898 {σ0 : sn_S} {σ : sn_S} (h_σ : zs_C σ0 σ) {x1 : Int32} (h_x1 : zs_in x1.toInt 0 0) {x2 : Int32} (h_x2 : zs_in x2.toInt 5 5) {x3 : Int32} (h_x3 : zs_in x3.toInt 0 6) {c : Int} (hc : x3.toInt = c + 0) : zs_ok (BX0_live_2 σ 59 x1 x2 x3) (fun r => zs_sum (fun v => ((zs_C σ0 v.1 ∧ zs_in (v.2).toInt 1 6)) ∧ v.2.toInt = c + 1) (fun v => zs_C σ0 v) r) := by
  unfold BX0_live_2
  obtain rfl : x1 = (0 : Int32) := zs_eqv h_x1 (by decide)
  obtain rfl : x2 = (5 : Int32) := zs_eqv h_x2 (by decide)
  refine zs_ite (fun c1 => ?_) (fun c1 => ?_)
  · skip
    have r2 := (zs_I_le c1)
    exact zs_some (zs_inr (h_σ))
  · skip
    have r3 := (zs_I_len c1)
    have g4 : zs_in (x3).toInt 0 5 := (zs_ltl 0 5 r3 h_x3 (zs_rdk (q := 59) (k := 1) (z := (0, 6)) h_σ.1 rfl) (by decide))
    have g5 : zs_in ((sn_I σ 59 1)).toInt 1 6 := (zs_ltr 1 6 r3 h_x3 (zs_rdk (q := 59) (k := 1) (z := (0, 6)) h_σ.1 rfl) (by decide))
    refine zs_gd (zs_gin g4 (by decide)) ?_
    refine zs_bd_ (zc_314 h_x1) (fun t_3 pt_3 => ?_)
    refine zs_gd (zs_gin g4 (by decide)) ?_
    refine zs_lt (Q := fun z => zs_C σ0 z) (zs_wru (z := (0, 1073741823)) h_σ (fun _ => rfl) (zs_and pt_3 (by decide)) (by decide) (fun _ => rfl)) (fun σ_6 hσ_6 => ?_)
    refine zs_lt (Q := fun z => zs_in z.toInt 1 6 ∧ z.toInt = c + 1) ⟨(zs_addI 1 6 g4 zlI_1 (by decide)), (zs_syI 1 hc g4 zlI_1 (by decide) (by decide))⟩ (fun y_8 hy_8 => ?_)
    exact zs_some (zs_inl ⟨⟨hσ_6, hy_8.1⟩, hy_8.2⟩)
theorem zd_164 {σ0 : sn_S} {x1 : Int32} (h_x1 : zs_in x1.toInt 0 0) {x2 : Int32} (h_x2 : zs_in x2.toInt 5 5) {s0 : (sn_S × Int32)} (h0 : (zs_C σ0 s0.1 ∧ zs_in (s0.2).toInt 0 6)) : zs_ok (sn_it (LX0_live_2 59 x1 x2) 5000 s0) (fun t => zs_C σ0 t) := by
  refine zs_it (I := fun s => (zs_C σ0 s.1 ∧ zs_in (s.2).toInt 0 6)) (m := fun s => 6 - s.2.toInt) (fun s hs => ?_) (fun s hs => ?_) (by exact h0)
  · have h1 := hs.2; unfold zs_in at h1
    omega
  · obtain ⟨b, eb, hb⟩ := zc_898 hs.1 h_x1 h_x2 hs.2 (c := s.2.toInt) (Int.add_zero _).symm
    exact ⟨b, eb, zs_sumw hb (fun v w => ⟨⟨w.1.1, (zs_w w.1.2 (by decide))⟩, by have := w.2; omega⟩) (fun v w => w)⟩
-- BX0_tickleByNets_7
theorem zc_899 {σ0 : sn_S} {σ : sn_S} (h_σ : zs_C σ0 σ) {x1 : Int32} (h_x1 : zs_in x1.toInt 0 4) {x2 : Int32} (h_x2 : zs_in x2.toInt 0 24) {x3 : Int32} (h_x3 : zs_in x3.toInt 0 6) (hl_x1 : x2.toInt = 6 * x1.toInt) {c : Int} (hc : x3.toInt = c + 0) : zs_ok (BX0_tickleByNets_7 σ 59 x1 x2 x3) (fun r => zs_sum (fun v => ((zs_C σ0 v.1 ∧ zs_in (v.2).toInt 1 6)) ∧ v.2.toInt = c + 1) (fun v => zs_C σ0 v) r) := by
  unfold BX0_tickleByNets_7
  refine zs_ite (fun c1 => ?_) (fun c1 => ?_)
  · skip
    have r2 := (zs_I_le c1)
    exact zs_some (zs_inr (h_σ))
  · skip
    have r3 := (zs_I_len c1)
    have g4 : zs_in (x3).toInt 0 5 := (zs_ltl 0 5 r3 h_x3 (zs_rdk (q := 59) (k := 1) (z := (0, 6)) h_σ.1 rfl) (by decide))
    have g5 : zs_in ((sn_I σ 59 1)).toInt 1 6 := (zs_ltr 1 6 r3 h_x3 (zs_rdk (q := 59) (k := 1) (z := (0, 6)) h_σ.1 rfl) (by decide))
    refine zs_gd (zs_gin (zs_addI 0 29 h_x2 g4 (by decide)) (by decide)) ?_
    refine zs_lt (Q := fun z => zs_C σ0 z) (zs_wrt h_σ (fun _ => rfl) (fun _ => rfl)) (fun σ_3 hσ_3 => ?_)
    refine zs_lt (Q := fun z => zs_in z.toInt 1 6 ∧ z.toInt = c + 1) ⟨(zs_addI 1 6 g4 zlI_1 (by decide)), (zs_syI 1 hc g4 zlI_1 (by decide) (by decide))⟩ (fun y_5 hy_5 => ?_)
    exact zs_some (zs_inl ⟨⟨hσ_3, hy_5.1⟩, hy_5.2⟩)
theorem zd_165 {σ0 : sn_S} {x1 : Int32} (h_x1 : zs_in x1.toInt 0 4) {x2 : Int32} (h_x2 : zs_in x2.toInt 0 24) (hl_x1 : x2.toInt = 6 * x1.toInt) {s0 : (sn_S × Int32)} (h0 : (zs_C σ0 s0.1 ∧ zs_in (s0.2).toInt 0 6)) : zs_ok (sn_it (LX0_tickleByNets_7 59 x1 x2) 5000 s0) (fun t => zs_C σ0 t) := by
  refine zs_it (I := fun s => (zs_C σ0 s.1 ∧ zs_in (s.2).toInt 0 6)) (m := fun s => 6 - s.2.toInt) (fun s hs => ?_) (fun s hs => ?_) (by exact h0)
  · have h1 := hs.2; unfold zs_in at h1
    omega
  · obtain ⟨b, eb, hb⟩ := zc_899 hs.1 h_x1 h_x2 hs.2 hl_x1 (c := s.2.toInt) (Int.add_zero _).symm
    exact ⟨b, eb, zs_sumw hb (fun v w => ⟨⟨w.1.1, (zs_w w.1.2 (by decide))⟩, by have := w.2; omega⟩) (fun v w => w)⟩
-- BX0_tickleByNets_149
theorem zc_900 {σ0 : sn_S} {σ : sn_S} (h_σ : zs_C σ0 σ) {x2 : Int32} (h_x2 : zs_in x2.toInt 6 24) {x3 : Int32} {x4 : Int32} (h_x4 : zs_in x4.toInt 0 7) {c : Int} (hc : x4.toInt = c + 0) : zs_ok (BX0_tickleByNets_149 σ 59 x2 x3 x4) (fun r => zs_sum (fun v => ((zs_C σ0 v.1 ∧ zs_in (v.2).toInt 1 8)) ∧ v.2.toInt = c + 1) (fun v => False) r) := by
  unfold BX0_tickleByNets_149
  refine zs_lt (Q := fun z => zs_in z.toInt 1 8 ∧ z.toInt = c + 1) ⟨(zs_addI 1 8 h_x4 zlI_1 (by decide)), (zs_syI 1 hc h_x4 zlI_1 (by decide) (by decide))⟩ (fun y_1 hy_1 => ?_)
  exact zs_some (zs_inl ⟨⟨h_σ, hy_1.1⟩, hy_1.2⟩)
-- BX0_tickleByNets_147
theorem zc_901 {σ0 : sn_S} {σ : sn_S} (h_σ : zs_C σ0 σ) {x2 : Int32} (h_x2 : zs_in x2.toInt 6 24) {x3 : Int32} {x4 : Int32} (h_x4 : zs_in x4.toInt 0 7) {t1 : Int32} (h_t1 : zs_in t1.toInt 6 29) {t2 : Int32} {t3 : Int32} (h_t3 : zs_in t3.toInt 0 0) {c : Int} (hc : x4.toInt = c + 0) : zs_ok (BX0_tickleByNets_147 σ 59 x2 x3 x4 t1 t2 t3) (fun r => zs_sum (fun v => ((zs_C σ0 v.1 ∧ zs_in (v.2).toInt 1 8)) ∧ v.2.toInt = c + 1) (fun v => False) r) := by
  unfold BX0_tickleByNets_147
  obtain rfl : t3 = (0 : Int32) := zs_eqv h_t3 (by decide)
  refine zs_gd (zs_gin h_t1 (by decide)) ?_
  refine zs_lt (Q := fun z => zs_C σ0 z) (zs_wrt h_σ (fun _ => rfl) (fun _ => rfl)) (fun σ_2 hσ_2 => ?_)
  obtain ⟨ret, er, hr⟩ := zc_900 hσ_2 h_x2 h_x4 hc
  refine ⟨ret, er, ?_⟩
  exact (zs_sumw hr (fun v w => ⟨w.1, w.2⟩) (fun v w => w.elim))
-- BX0_tickleByNets_147
theorem zc_902 {σ0 : sn_S} {σ : sn_S} (h_σ : zs_C σ0 σ) {x2 : Int32} (h_x2 : zs_in x2.toInt 6 24) {x3 : Int32} {x4 : Int32} (h_x4 : zs_in x4.toInt 0 7) {t1 : Int32} (h_t1 : zs_in t1.toInt 6 29) {t2 : Int32} {t3 : Int32} (h_t3 : zs_in t3.toInt 5 5) {c : Int} (hc : x4.toInt = c + 0) : zs_ok (BX0_tickleByNets_147 σ 59 x2 x3 x4 t1 t2 t3) (fun r => zs_sum (fun v => ((zs_C σ0 v.1 ∧ zs_in (v.2).toInt 1 8)) ∧ v.2.toInt = c + 1) (fun v => False) r) := by
  unfold BX0_tickleByNets_147
  obtain rfl : t3 = (5 : Int32) := zs_eqv h_t3 (by decide)
  refine zs_gd (zs_gin h_t1 (by decide)) ?_
  refine zs_lt (Q := fun z => zs_C σ0 z) (zs_wrt h_σ (fun _ => rfl) (fun _ => rfl)) (fun σ_2 hσ_2 => ?_)
  obtain ⟨ret, er, hr⟩ := zc_900 hσ_2 h_x2 h_x4 hc
  refine ⟨ret, er, ?_⟩
  exact (zs_sumw hr (fun v w => ⟨w.1, w.2⟩) (fun v w => w.elim))
-- BX0_tickleByNets_121
theorem zc_903 {σ0 : sn_S} {σ : sn_S} (h_σ : zs_C σ0 σ) {x2 : Int32} (h_x2 : zs_in x2.toInt 6 24) {x3 : Int32} {x4 : Int32} (h_x4 : zs_in x4.toInt 0 7) {x5 : Int32} (h_x5 : zs_in x5.toInt 0 5) {x6 : Int32} (h_x6 : zs_in x6.toInt 0 5) {t1 : Int32} (h_t1 : zs_in t1.toInt 6 29) {t2 : Int32} {t3 : Int32} (h_t3 : zs_in t3.toInt 0 0) {c : Int} (hc : x4.toInt = c + 0) : zs_ok (BX0_tickleByNets_121 σ 59 x2 x3 x4 x5 x6 t1 t2 t3) (fun r => zs_sum (fun v => ((zs_C σ0 v.1 ∧ zs_in (v.2).toInt 1 8)) ∧ v.2.toInt = c + 1) (fun v => False) r) := by
  unfold BX0_tickleByNets_121
  obtain rfl : t3 = (0 : Int32) := zs_eqv h_t3 (by decide)
  refine zs_gd (zs_gin h_t1 (by decide)) ?_
  refine zs_lt (Q := fun z => zs_C σ0 z) (zs_wrt h_σ (fun _ => rfl) (fun _ => rfl)) (fun σ_2 hσ_2 => ?_)
  refine zs_gd (zs_gin (zs_addI 6 29 h_x2 h_x6 (by decide)) (by decide)) ?_
  refine zs_bd_ (zc_319 h_x5) (fun t_5 pt_5 => ?_)
  refine zs_ite (fun c1 => ?_) (fun c1 => ?_)
  · skip
    have r2 := (zs_I_eq c1)
    have g3 : zs_in (t_5).toInt 0 0 := (zs_eql 0 0 r2 pt_5 zlI_0 (by decide))
    obtain ⟨ret, er, hr⟩ := zc_901 hσ_2 h_x2 h_x4 (zs_addI 6 29 h_x2 h_x6 (by decide)) zlI_0 hc
    refine ⟨ret, er, ?_⟩
    exact (zs_sumw hr (fun v w => ⟨w.1, w.2⟩) (fun v w => w.elim))
  · skip
    have r4 := (zs_I_eqn c1)
    have g5 : zs_in (t_5).toInt 1 1 := (zs_nel 1 1 r4 pt_5 zlI_0 (by decide))
    obtain ⟨ret, er, hr⟩ := zc_902 hσ_2 h_x2 h_x4 (zs_addI 6 29 h_x2 h_x6 (by decide)) zlI_5 hc
    refine ⟨ret, er, ?_⟩
    exact (zs_sumw hr (fun v w => ⟨w.1, w.2⟩) (fun v w => w.elim))
-- BX0_tickleByNets_121
theorem zc_904 {σ0 : sn_S} {σ : sn_S} (h_σ : zs_C σ0 σ) {x2 : Int32} (h_x2 : zs_in x2.toInt 6 24) {x3 : Int32} {x4 : Int32} (h_x4 : zs_in x4.toInt 0 7) {x5 : Int32} (h_x5 : zs_in x5.toInt 0 5) {x6 : Int32} (h_x6 : zs_in x6.toInt 0 5) {t1 : Int32} (h_t1 : zs_in t1.toInt 6 29) {t2 : Int32} {t3 : Int32} (h_t3 : zs_in t3.toInt 5 5) {c : Int} (hc : x4.toInt = c + 0) : zs_ok (BX0_tickleByNets_121 σ 59 x2 x3 x4 x5 x6 t1 t2 t3) (fun r => zs_sum (fun v => ((zs_C σ0 v.1 ∧ zs_in (v.2).toInt 1 8)) ∧ v.2.toInt = c + 1) (fun v => False) r) := by
  unfold BX0_tickleByNets_121
  obtain rfl : t3 = (5 : Int32) := zs_eqv h_t3 (by decide)
  refine zs_gd (zs_gin h_t1 (by decide)) ?_
  refine zs_lt (Q := fun z => zs_C σ0 z) (zs_wrt h_σ (fun _ => rfl) (fun _ => rfl)) (fun σ_2 hσ_2 => ?_)
  refine zs_gd (zs_gin (zs_addI 6 29 h_x2 h_x6 (by decide)) (by decide)) ?_
  refine zs_bd_ (zc_319 h_x5) (fun t_5 pt_5 => ?_)
  refine zs_ite (fun c1 => ?_) (fun c1 => ?_)
  · skip
    have r2 := (zs_I_eq c1)
    have g3 : zs_in (t_5).toInt 0 0 := (zs_eql 0 0 r2 pt_5 zlI_0 (by decide))
    obtain ⟨ret, er, hr⟩ := zc_901 hσ_2 h_x2 h_x4 (zs_addI 6 29 h_x2 h_x6 (by decide)) zlI_0 hc
    refine ⟨ret, er, ?_⟩
    exact (zs_sumw hr (fun v w => ⟨w.1, w.2⟩) (fun v w => w.elim))
  · skip
    have r4 := (zs_I_eqn c1)
    have g5 : zs_in (t_5).toInt 1 1 := (zs_nel 1 1 r4 pt_5 zlI_0 (by decide))
    obtain ⟨ret, er, hr⟩ := zc_902 hσ_2 h_x2 h_x4 (zs_addI 6 29 h_x2 h_x6 (by decide)) zlI_5 hc
    refine ⟨ret, er, ?_⟩
    exact (zs_sumw hr (fun v w => ⟨w.1, w.2⟩) (fun v w => w.elim))
-- BX0_tickleByNets_55
theorem zc_905 {σ0 : sn_S} {σ : sn_S} (h_σ : zs_C σ0 σ) {x2 : Int32} (h_x2 : zs_in x2.toInt 6 24) {x3 : Int32} {x4 : Int32} (h_x4 : zs_in x4.toInt 0 8) {c : Int} (hc : x4.toInt = c + 0) : zs_ok (BX0_tickleByNets_55 σ 59 x2 x3 x4) (fun r => zs_sum (fun v => ((zs_C σ0 v.1 ∧ zs_in (v.2).toInt 1 8)) ∧ v.2.toInt = c + 1) (fun v => zs_C σ0 v) r) := by
  unfold BX0_tickleByNets_55
  refine zs_ite (fun c1 => ?_) (fun c1 => ?_)
  · skip
    have r2 := (zs_I_le c1)
    exact zs_some (zs_inr (h_σ))
  · skip
    have r3 := (zs_I_len c1)
    have g4 : zs_in (x4).toInt 0 7 := (zs_ltl 0 7 r3 h_x4 (zs_rdk (q := 59) (k := 2) (z := (0, 8)) h_σ.1 rfl) (by decide))
    have g5 : zs_in ((sn_I σ 59 2)).toInt 1 8 := (zs_ltr 1 8 r3 h_x4 (zs_rdk (q := 59) (k := 2) (z := (0, 8)) h_σ.1 rfl) (by decide))
    refine zs_ite (fun c6 => ?_) (fun c6 => ?_)
    · skip
      have r7 := (zs_I_eq c6)
      have g8 : zs_in ((sn_I σ 59 3)).toInt 0 7 := (zs_eqr 0 7 r7 g4 (zs_topI _) (by decide))
      obtain ⟨ret, er, hr⟩ := zc_900 h_σ h_x2 g4 hc
      refine ⟨ret, er, ?_⟩
      exact (zs_sumw hr (fun v w => ⟨w.1, w.2⟩) (fun v w => w.elim))
    · skip
      have r9 := (zs_I_eqn c6)
      refine zs_gd (zs_gin (zs_mulI 0 14 zlI_2 g4 (by decide)) (by decide)) ?_
      refine zs_lt (Q := fun z => zs_in z.toInt 0 5) (zs_use (h_σ.1.2 rfl).2.2.2.1 g4 (by decide) r3 (zs_i20 g4 (by decide))) (fun y_4 hy_4 => ?_)
      refine zs_gd (zs_gin (zs_addI 1 15 (zs_mulI 0 14 zlI_2 g4 (by decide)) zlI_1 (by decide)) (by decide)) ?_
      refine zs_lt (Q := fun z => zs_in z.toInt 0 5) (zs_use (h_σ.1.2 rfl).2.2.2.2 g4 (by decide) r3 (zs_i21 g4 (by decide))) (fun y_7 hy_7 => ?_)
      refine zs_gd (zs_gin (zs_addI 6 29 h_x2 hy_4 (by decide)) (by decide)) ?_
      refine zs_bd_ (zc_319 hy_7) (fun t_10 pt_10 => ?_)
      refine zs_ite (fun c10 => ?_) (fun c10 => ?_)
      · skip
        have r11 := (zs_I_eq c10)
        have g12 : zs_in (t_10).toInt 0 0 := (zs_eql 0 0 r11 pt_10 zlI_0 (by decide))
        obtain ⟨ret, er, hr⟩ := zc_903 h_σ h_x2 g4 hy_4 hy_7 (zs_addI 6 29 h_x2 hy_4 (by decide)) zlI_0 hc
        refine ⟨ret, er, ?_⟩
        exact (zs_sumw hr (fun v w => ⟨w.1, w.2⟩) (fun v w => w.elim))
      · skip
        have r13 := (zs_I_eqn c10)
        have g14 : zs_in (t_10).toInt 1 1 := (zs_nel 1 1 r13 pt_10 zlI_0 (by decide))
        obtain ⟨ret, er, hr⟩ := zc_904 h_σ h_x2 g4 hy_4 hy_7 (zs_addI 6 29 h_x2 hy_4 (by decide)) zlI_5 hc
        refine ⟨ret, er, ?_⟩
        exact (zs_sumw hr (fun v w => ⟨w.1, w.2⟩) (fun v w => w.elim))
theorem zd_166 {σ0 : sn_S} {x2 : Int32} (h_x2 : zs_in x2.toInt 6 24) {x3 : Int32} {s0 : (sn_S × Int32)} (h0 : (zs_C σ0 s0.1 ∧ zs_in (s0.2).toInt 0 8)) : zs_ok (sn_it (LX0_tickleByNets_55 59 x2 x3) 5000 s0) (fun t => zs_C σ0 t) := by
  refine zs_it (I := fun s => (zs_C σ0 s.1 ∧ zs_in (s.2).toInt 0 8)) (m := fun s => 8 - s.2.toInt) (fun s hs => ?_) (fun s hs => ?_) (by exact h0)
  · have h1 := hs.2; unfold zs_in at h1
    omega
  · obtain ⟨b, eb, hb⟩ := zc_905 hs.1 h_x2 hs.2 (c := s.2.toInt) (Int.add_zero _).symm
    exact ⟨b, eb, zs_sumw hb (fun v w => ⟨⟨w.1.1, (zs_w w.1.2 (by decide))⟩, by have := w.2; omega⟩) (fun v w => w)⟩
-- BX0_tickleByNets_46
theorem zc_906 {σ0 : sn_S} {σ : sn_S} (h_σ : zs_C σ0 σ) {x2 : Int32} (h_x2 : zs_in x2.toInt 6 24) {t0 : Int32} : zs_ok (BX0_tickleByNets_46 σ 59 x2 t0) (fun r => zs_C σ0 r) := by
  unfold BX0_tickleByNets_46
  refine zs_ite (fun c1 => ?_) (fun c1 => ?_)
  · skip
    have r2 := (zs_I_eq c1)
    have g3 : zs_in (t0).toInt 0 0 := (zs_eql 0 0 r2 (zs_topI _) zlI_0 (by decide))
    exact zs_some h_σ
  · skip
    have r4 := (zs_I_eqn c1)
    refine zs_bd_ (zd_166 h_x2 (s0 := (σ, (0 : Int32))) ⟨h_σ, (zs_w zlI_0 (by decide))⟩) (fun t_2 pt_2 => ?_)
    obtain ⟨ret, er, hr⟩ := zc_737 pt_2
    refine ⟨ret, er, ?_⟩
    exact hr
-- BX0_tickleByNets_30
theorem zc_907 {σ0 : sn_S} {σ : sn_S} (h_σ : zs_C σ0 σ) {x1 : Int32} (h_x1 : zs_in x1.toInt 0 4) {x2 : Int32} (h_x2 : zs_in x2.toInt 0 24) (hl_x1 : x2.toInt = 6 * x1.toInt) : zs_ok (BX0_tickleByNets_30 σ 59 x1 x2) (fun r => zs_C σ0 r) := by
  unfold BX0_tickleByNets_30
  refine zs_ite (fun c1 => ?_) (fun c1 => ?_)
  · skip
    have r2 := (zs_I_eq c1)
    have g3 : zs_in (x1).toInt 0 0 := (zs_eql 0 0 r2 h_x1 zlI_0 (by decide))
    have g4 : zs_in (x2).toInt 0 0 := (zs_lin 0 0 hl_x1 g3 (by decide))
    obtain ⟨ret, er, hr⟩ := zc_682 h_σ g4 zlI_0
    refine ⟨ret, er, ?_⟩
    exact hr
  · skip
    have r5 := (zs_I_eqn c1)
    have g6 : zs_in (x1).toInt 1 4 := (zs_nel 1 4 r5 h_x1 zlI_0 (by decide))
    have g7 : zs_in (x2).toInt 6 24 := (zs_lin 6 24 hl_x1 g6 (by decide))
    refine zs_gd (zs_gin (zs_subI 0 3 g6 zlI_1 (by decide)) (by decide)) ?_
    obtain ⟨ret, er, hr⟩ := zc_906 h_σ g7
    refine ⟨ret, er, ?_⟩
    exact hr
-- fX0_tickleByNets
theorem zc_908 {σ0 : sn_S} {σ : sn_S} (h_σ : zs_C σ0 σ) {x1 : Int32} (h_x1 : zs_in x1.toInt 0 4) : zs_ok (fX0_tickleByNets σ 59 x1) (fun r => zs_C σ0 r) := by
  unfold fX0_tickleByNets
  refine zs_lt (Q := fun z => zs_in z.toInt 0 24 ∧ z = ((6 : Int32) * x1)) ⟨(zs_mulI 0 24 zlI_6 h_x1 (by decide)), rfl⟩ (fun y_1 hy_1 => ?_)
  refine zs_bd_ (zd_165 h_x1 hy_1.1 (zs_linv hy_1.2 zlI_6 h_x1 (by decide)) (s0 := (σ, (0 : Int32))) ⟨h_σ, (zs_w zlI_0 (by decide))⟩) (fun t_3 pt_3 => ?_)
  obtain ⟨ret, er, hr⟩ := zc_907 pt_3 h_x1 hy_1.1 (zs_linv hy_1.2 zlI_6 h_x1 (by decide))
  refine ⟨ret, er, ?_⟩
  exact hr
-- fX8_hasBit
theorem zc_909 {x0 : Int32} {x1 : Int32} (h_x1 : zs_in x1.toInt 0 4) : zs_ok (fX8_hasBit x0 x1) (fun r => zs_in (r).toInt 0 1) := by
  unfold fX8_hasBit
  refine zs_ite (fun c1 => ?_) (fun c1 => ?_)
  · skip
    have r2 := (zs_I_eq c1)
    have g3 : zs_in (((x0 >>> (x1 &&& 31)) &&& (1 : Int32))).toInt 1 1 := (zs_eql 1 1 r2 (zs_and zlI_1 (by decide)) zlI_1 (by decide))
    refine zs_gd (zs_b01 zlI_1 (by decide)) ?_
    exact zs_some (zs_w zlI_1 (by decide))
  · skip
    have r4 := (zs_I_eqn c1)
    have g5 : zs_in (((x0 >>> (x1 &&& 31)) &&& (1 : Int32))).toInt 0 0 := (zs_neh 0 0 r4 (zs_and zlI_1 (by decide)) zlI_1 (by decide))
    refine zs_gd (zs_b01 zlI_0 (by decide)) ?_
    exact zs_some (zs_w zlI_0 (by decide))
-- fX0_cameAt
theorem zc_910 {σ0 : sn_S} {σ : sn_S} (h_σ : zs_C σ0 σ) {x1 : Int32} (h_x1 : zs_in x1.toInt 0 5) {x2 : Int32} (h_x2 : zs_in x2.toInt 0 4) : zs_ok (fX0_cameAt σ 59 x1 x2) (fun r => True) := by
  unfold fX0_cameAt
  refine zs_gd (zs_gin (zs_addI 0 29 (zs_mulI 0 24 zlI_6 h_x2 (by decide)) h_x1 (by decide)) (by decide)) ?_
  exact zs_some trivial
-- BX0_comesTo_19
theorem zc_911 {σ0 : sn_S} {σ : sn_S} (h_σ : zs_C σ0 σ) {x1 : Int32} (h_x1 : zs_in x1.toInt 0 5) {x2 : Int32} (h_x2 : zs_in x2.toInt 0 4) {t0 : Int32} (h_t0 : zs_in t0.toInt 0 0) : zs_ok (BX0_comesTo_19 σ 59 x1 x2 t0) (fun r => True) := by
  unfold BX0_comesTo_19
  obtain rfl : t0 = (0 : Int32) := zs_eqv h_t0 (by decide)
  refine zs_gd (zs_gin h_x1 (by decide)) ?_
  refine zs_gd (zs_gin h_x2 (by decide)) ?_
  refine zs_bd_ (zc_910 h_σ h_x1 h_x2) (fun t_3 pt_3 => ?_)
  exact zs_some trivial
-- BX0_comesTo_19
theorem zc_912 {σ0 : sn_S} {σ : sn_S} (h_σ : zs_C σ0 σ) {x1 : Int32} (h_x1 : zs_in x1.toInt 0 5) {x2 : Int32} (h_x2 : zs_in x2.toInt 0 4) {t0 : Int32} (h_t0 : zs_in t0.toInt 40 40) : zs_ok (BX0_comesTo_19 σ 59 x1 x2 t0) (fun r => True) := by
  unfold BX0_comesTo_19
  obtain rfl : t0 = (40 : Int32) := zs_eqv h_t0 (by decide)
  refine zs_gd (zs_gin h_x1 (by decide)) ?_
  refine zs_gd (zs_gin h_x2 (by decide)) ?_
  refine zs_bd_ (zc_910 h_σ h_x1 h_x2) (fun t_3 pt_3 => ?_)
  exact zs_some trivial
-- fX0_comesTo
theorem zc_913 {σ0 : sn_S} {σ : sn_S} (h_σ : zs_C σ0 σ) {x1 : Int32} (h_x1 : zs_in x1.toInt 0 5) {x2 : Int32} (h_x2 : zs_in x2.toInt 0 4) : zs_ok (fX0_comesTo σ 59 x1 x2) (fun r => True) := by
  unfold fX0_comesTo
  refine zs_gd (zs_gin h_x1 (by decide)) ?_
  refine zs_bd_ (zc_909 h_x2) (fun t_2 pt_2 => ?_)
  refine zs_ite (fun c1 => ?_) (fun c1 => ?_)
  · skip
    have r2 := (zs_I_eq c1)
    have g3 : zs_in (t_2).toInt 0 0 := (zs_eql 0 0 r2 pt_2 zlI_0 (by decide))
    obtain ⟨ret, er, hr⟩ := zc_911 h_σ h_x1 h_x2 zlI_0
    refine ⟨ret, er, ?_⟩
    exact hr
  · skip
    have r4 := (zs_I_eqn c1)
    have g5 : zs_in (t_2).toInt 1 1 := (zs_nel 1 1 r4 pt_2 zlI_0 (by decide))
    obtain ⟨ret, er, hr⟩ := zc_912 h_σ h_x1 h_x2 zlI_40
    refine ⟨ret, er, ?_⟩
    exact hr
-- BX0_liveMinute_98
theorem zc_914 {σ0 : sn_S} {σ : sn_S} (h_σ : zs_C σ0 σ) {x1 : Int32} (h_x1 : zs_in x1.toInt 1 4) {x2 : Int32} (h_x2 : zs_in x2.toInt 6 24) {x3 : Int32} {x4 : Int32} (h_x4 : zs_in x4.toInt 0 5) {x5 : Int32} (h_x5 : zs_in x5.toInt (-2147483648) 2147483646) (hl_x1 : x2.toInt = 6 * x1.toInt) {c : Int} (hc : x4.toInt = c + 0) : zs_ok (BX0_liveMinute_98 σ 59 x1 x2 x3 x4 x5) (fun r => zs_sum (fun v => ((zs_C σ0 v.1 ∧ (True ∧ zs_in (v.2.2).toInt 1 6))) ∧ v.2.2.toInt = c + 1) (fun v => False) r) := by
  unfold BX0_liveMinute_98
  refine zs_gd (zs_gin (zs_addI 6 29 h_x2 h_x4 (by decide)) (by decide)) ?_
  refine zs_lt (Q := fun z => zs_C σ0 z) (zs_wrt h_σ (fun _ => rfl) (fun _ => rfl)) (fun σ_2 hσ_2 => ?_)
  refine zs_lt (Q := fun z => zs_in z.toInt 1 6 ∧ z.toInt = c + 1) ⟨(zs_addI 1 6 h_x4 zlI_1 (by decide)), (zs_syI 1 hc h_x4 zlI_1 (by decide) (by decide))⟩ (fun y_4 hy_4 => ?_)
  exact zs_some (zs_inl ⟨⟨hσ_2, ⟨trivial, hy_4.1⟩⟩, hy_4.2⟩)
-- fX8_hasBit
theorem zc_915 {x0 : Int32} {x1 : Int32} (h_x1 : zs_in x1.toInt 1 4) : zs_ok (fX8_hasBit x0 x1) (fun r => zs_in (r).toInt 0 1) := by
  unfold fX8_hasBit
  refine zs_ite (fun c1 => ?_) (fun c1 => ?_)
  · skip
    have r2 := (zs_I_eq c1)
    have g3 : zs_in (((x0 >>> (x1 &&& 31)) &&& (1 : Int32))).toInt 1 1 := (zs_eql 1 1 r2 (zs_and zlI_1 (by decide)) zlI_1 (by decide))
    refine zs_gd (zs_b01 zlI_1 (by decide)) ?_
    exact zs_some (zs_w zlI_1 (by decide))
  · skip
    have r4 := (zs_I_eqn c1)
    have g5 : zs_in (((x0 >>> (x1 &&& 31)) &&& (1 : Int32))).toInt 0 0 := (zs_neh 0 0 r4 (zs_and zlI_1 (by decide)) zlI_1 (by decide))
    refine zs_gd (zs_b01 zlI_0 (by decide)) ?_
    exact zs_some (zs_w zlI_0 (by decide))
-- BX0_liveMinute_98
theorem zc_916 {σ0 : sn_S} {σ : sn_S} (h_σ : zs_C σ0 σ) {x1 : Int32} (h_x1 : zs_in x1.toInt 1 4) {x2 : Int32} (h_x2 : zs_in x2.toInt 6 24) {x3 : Int32} {x4 : Int32} (h_x4 : zs_in x4.toInt 0 5) {x5 : Int32} (h_x5 : zs_in x5.toInt 0 0) (hl_x1 : x2.toInt = 6 * x1.toInt) {c : Int} (hc : x4.toInt = c + 0) : zs_ok (BX0_liveMinute_98 σ 59 x1 x2 x3 x4 x5) (fun r => zs_sum (fun v => ((zs_C σ0 v.1 ∧ (True ∧ zs_in (v.2.2).toInt 1 6))) ∧ v.2.2.toInt = c + 1) (fun v => False) r) := by
  unfold BX0_liveMinute_98
  obtain rfl : x5 = (0 : Int32) := zs_eqv h_x5 (by decide)
  refine zs_gd (zs_gin (zs_addI 6 29 h_x2 h_x4 (by decide)) (by decide)) ?_
  refine zs_lt (Q := fun z => zs_C σ0 z) (zs_wrt h_σ (fun _ => rfl) (fun _ => rfl)) (fun σ_2 hσ_2 => ?_)
  refine zs_lt (Q := fun z => zs_in z.toInt 1 6 ∧ z.toInt = c + 1) ⟨(zs_addI 1 6 h_x4 zlI_1 (by decide)), (zs_syI 1 hc h_x4 zlI_1 (by decide) (by decide))⟩ (fun y_4 hy_4 => ?_)
  exact zs_some (zs_inl ⟨⟨hσ_2, ⟨trivial, hy_4.1⟩⟩, hy_4.2⟩)
-- BX0_liveMinute_98
theorem zc_917 {σ0 : sn_S} {σ : sn_S} (h_σ : zs_C σ0 σ) {x1 : Int32} (h_x1 : zs_in x1.toInt 1 4) {x2 : Int32} (h_x2 : zs_in x2.toInt 6 24) {x3 : Int32} {x4 : Int32} (h_x4 : zs_in x4.toInt 0 5) {x5 : Int32} (hl_x1 : x2.toInt = 6 * x1.toInt) {c : Int} (hc : x4.toInt = c + 0) : zs_ok (BX0_liveMinute_98 σ 59 x1 x2 x3 x4 x5) (fun r => zs_sum (fun v => ((zs_C σ0 v.1 ∧ (True ∧ zs_in (v.2.2).toInt 1 6))) ∧ v.2.2.toInt = c + 1) (fun v => False) r) := by
  unfold BX0_liveMinute_98
  refine zs_gd (zs_gin (zs_addI 6 29 h_x2 h_x4 (by decide)) (by decide)) ?_
  refine zs_lt (Q := fun z => zs_C σ0 z) (zs_wrt h_σ (fun _ => rfl) (fun _ => rfl)) (fun σ_2 hσ_2 => ?_)
  refine zs_lt (Q := fun z => zs_in z.toInt 1 6 ∧ z.toInt = c + 1) ⟨(zs_addI 1 6 h_x4 zlI_1 (by decide)), (zs_syI 1 hc h_x4 zlI_1 (by decide) (by decide))⟩ (fun y_4 hy_4 => ?_)
  exact zs_some (zs_inl ⟨⟨hσ_2, ⟨trivial, hy_4.1⟩⟩, hy_4.2⟩)
-- BX0_liveMinute_46
theorem zc_918 {σ0 : sn_S} {σ : sn_S} (h_σ : zs_C σ0 σ) {x1 : Int32} (h_x1 : zs_in x1.toInt 1 4) {x2 : Int32} (h_x2 : zs_in x2.toInt 6 24) {x3 : Int32} {x4 : Int32} (h_x4 : zs_in x4.toInt 0 5) {t0 : Int32} {t1 : Int32} (hl_x1 : x2.toInt = 6 * x1.toInt) {c : Int} (hc : x4.toInt = c + 0) : zs_ok (BX0_liveMinute_46 σ 59 x1 x2 x3 x4 t0 t1) (fun r => zs_sum (fun v => ((zs_C σ0 v.1 ∧ (True ∧ zs_in (v.2.2).toInt 1 6))) ∧ v.2.2.toInt = c + 1) (fun v => False) r) := by
  unfold BX0_liveMinute_46
  refine zs_lt (Q := fun z => True) trivial (fun y_1 hy_1 => ?_)
  refine zs_gd (zs_gin h_x4 (by decide)) ?_
  refine zs_ite (fun c1 => ?_) (fun c1 => ?_)
  · skip
    have r2 := (zs_I_lt c1)
    have g3 : zs_in (y_1).toInt (-2147483648) 2147483646 := (zs_ltl (-2147483648) 2147483646 r2 (zs_topI _) (zs_topI _) (by decide))
    have g4 : zs_in ((sn_I σ (59 + 3) x4.toNatClampNeg)).toInt (-2147483647) 2147483647 := (zs_ltr (-2147483647) 2147483647 r2 (zs_topI _) (zs_topI _) (by decide))
    obtain ⟨ret, er, hr⟩ := zc_914 h_σ h_x1 h_x2 h_x4 g3 hl_x1 hc
    refine ⟨ret, er, ?_⟩
    exact (zs_sumw hr (fun v w => ⟨w.1, w.2⟩) (fun v w => w.elim))
  · skip
    have r5 := (zs_I_ltn c1)
    refine zs_gd (zs_gin h_x4 (by decide)) ?_
    refine zs_bd_ (zc_915 h_x1) (fun t_6 pt_6 => ?_)
    refine zs_ite (fun c6 => ?_) (fun c6 => ?_)
    · skip
      have r7 := (zs_I_eq c6)
      have g8 : zs_in (t_6).toInt 0 0 := (zs_eql 0 0 r7 pt_6 zlI_0 (by decide))
      refine zs_lt (Q := fun z => True) trivial (fun y_9 hy_9 => ?_)
      refine zs_gd (zs_gin h_x4 (by decide)) ?_
      refine zs_gd (zs_gin h_x4 (by decide)) ?_
      refine zs_lt (Q := fun z => zs_C σ0 z) (zs_wru (z := (0, 1073741823)) h_σ (fun _ => rfl) (zs_or 30 1073741823 (zs_rdu (q := 69) (z := (0, 1073741823)) h_σ.1 (fun _ => rfl)) (zs_cases h_x1 (fun z => zs_in ((1 : Int32) <<< (z &&& 31)).toInt 2 16) (by decide +kernel)) (by decide)) (by decide) (fun _ => rfl)) (fun σ_13 hσ_13 => ?_)
      obtain ⟨ret, er, hr⟩ := zc_916 hσ_13 h_x1 h_x2 h_x4 zlI_0 hl_x1 hc
      refine ⟨ret, er, ?_⟩
      exact (zs_sumw hr (fun v w => ⟨w.1, w.2⟩) (fun v w => w.elim))
    · skip
      have r9 := (zs_I_eqn c6)
      have g10 : zs_in (t_6).toInt 1 1 := (zs_nel 1 1 r9 pt_6 zlI_0 (by decide))
      obtain ⟨ret, er, hr⟩ := zc_917 h_σ h_x1 h_x2 h_x4 hl_x1 hc
      refine ⟨ret, er, ?_⟩
      exact (zs_sumw hr (fun v w => ⟨w.1, w.2⟩) (fun v w => w.elim))
end
