theorem zd_76 {σ0 : sn_S} {σ : sn_S} (h_σ : zs_C σ0 σ) {s0 : (Int32 × (Int32 × Int32))} (h0 : (zs_in (s0.1).toInt (-1) 5 ∧ (zs_in (s0.2.1).toInt 0 2147483647 ∧ zs_in (s0.2.2).toInt 0 6))) : zs_ok (sn_it (LX8_dear_22 σ) 5000 s0) (fun t => zs_in (t).toInt (-1) 5) := by
  refine zs_it (I := fun s => (zs_in (s.1).toInt (-1) 5 ∧ (zs_in (s.2.1).toInt 0 2147483647 ∧ zs_in (s.2.2).toInt 0 6))) (m := fun s => 6 - s.2.2.toInt) (fun s hs => ?_) (fun s hs => ?_) (by exact h0)
  · have h1 := hs.2.2; unfold zs_in at h1
    omega
  · obtain ⟨b, eb, hb⟩ := zc_423 h_σ hs.1 hs.2.1 hs.2.2 (c := s.2.2.toInt) (Int.add_zero _).symm
    exact ⟨b, eb, zs_sumw hb (fun v w => ⟨⟨w.1.1, ⟨w.1.2.1, (zs_w w.1.2.2 (by decide))⟩⟩, by have := w.2; omega⟩) (fun v w => w)⟩
-- BX8_dear_69
theorem zc_424 {σ0 : sn_S} {σ : sn_S} (h_σ : zs_C σ0 σ) {x2 : Int32} (h_x2 : zs_in x2.toInt (-1) 5) : zs_ok (BX8_dear_69 σ x2) (fun r => (zs_in (r.1).toInt (-1) 5 ∧ zs_C σ0 r.2)) := by
  unfold BX8_dear_69
  exact zs_some ⟨h_x2, h_σ⟩
-- fX8_dear
theorem zc_425 {σ0 : sn_S} {σ : sn_S} (h_σ : zs_C σ0 σ) : zs_ok (fX8_dear σ) (fun r => (zs_in (r.1).toInt (-2) 5 ∧ zs_C σ0 r.2)) := by
  unfold fX8_dear
  refine zs_bd_ (zc_102 h_σ) (fun t_1 pt_1 => ?_)
  refine zs_ite (fun c1 => ?_) (fun c1 => ?_)
  · skip
    have r2 := (zs_I_eq c1)
    have g3 : zs_in (t_1).toInt 0 0 := (zs_eql 0 0 r2 pt_1 zlI_0 (by decide))
    exact zs_some ⟨(zs_w zlI_m2 (by decide)), h_σ⟩
  · skip
    have r4 := (zs_I_eqn c1)
    have g5 : zs_in (t_1).toInt 1 1 := (zs_nel 1 1 r4 pt_1 zlI_0 (by decide))
    refine zs_bd_ (zc_237 h_σ) (fun t_4 pt_4 => ?_)
    refine zs_bd_ (zd_76 pt_4 (s0 := ((-1 : Int32), ((0 : Int32), (0 : Int32)))) ⟨(zs_w zlI_m1 (by decide)), ⟨(zs_w zlI_0 (by decide)), (zs_w zlI_0 (by decide))⟩⟩) (fun t_6 pt_6 => ?_)
    obtain ⟨ret, er, hr⟩ := zc_424 pt_4 pt_6
    refine ⟨ret, er, ?_⟩
    exact ⟨(zs_w hr.1 (by decide)), hr.2⟩
-- BX9_dear_55
theorem zc_426 {σ0 : sn_S} {σ : sn_S} (h_σ : zs_M σ0 σ) {x1 : Int32} (h_x1 : zs_in x1.toInt 0 5) {x2 : Int32} (h_x2 : zs_in x2.toInt 1 2147483647) {x3 : Int32} (h_x3 : zs_in x3.toInt 0 5) {c : Int} (hc : x3.toInt = c + 0) : zs_ok (BX9_dear_55 σ x1 x2 x3) (fun r => zs_sum (fun v => ((zs_M σ0 v.1 ∧ (zs_in (v.2.1).toInt 0 5 ∧ (zs_in (v.2.2.1).toInt 1 2147483647 ∧ zs_in (v.2.2.2).toInt 1 6)))) ∧ v.2.2.2.toInt = c + 1) (fun v => False) r) := by
  unfold BX9_dear_55
  refine zs_lt (Q := fun z => zs_in z.toInt 1 6 ∧ z.toInt = c + 1) ⟨(zs_addI 1 6 h_x3 zlI_1 (by decide)), (zs_syI 1 hc h_x3 zlI_1 (by decide) (by decide))⟩ (fun y_1 hy_1 => ?_)
  exact zs_some (zs_inl ⟨⟨h_σ, ⟨h_x1, ⟨h_x2, hy_1.1⟩⟩⟩, hy_1.2⟩)
-- BX9_dear_55
theorem zc_427 {σ0 : sn_S} {σ : sn_S} (h_σ : zs_M σ0 σ) {x1 : Int32} (h_x1 : zs_in x1.toInt (-1) 5) {x2 : Int32} (h_x2 : zs_in x2.toInt 0 2147483647) {x3 : Int32} (h_x3 : zs_in x3.toInt 0 5) {c : Int} (hc : x3.toInt = c + 0) : zs_ok (BX9_dear_55 σ x1 x2 x3) (fun r => zs_sum (fun v => ((zs_M σ0 v.1 ∧ (zs_in (v.2.1).toInt (-1) 5 ∧ (zs_in (v.2.2.1).toInt 0 2147483647 ∧ zs_in (v.2.2.2).toInt 1 6)))) ∧ v.2.2.2.toInt = c + 1) (fun v => False) r) := by
  unfold BX9_dear_55
  refine zs_lt (Q := fun z => zs_in z.toInt 1 6 ∧ z.toInt = c + 1) ⟨(zs_addI 1 6 h_x3 zlI_1 (by decide)), (zs_syI 1 hc h_x3 zlI_1 (by decide) (by decide))⟩ (fun y_1 hy_1 => ?_)
  exact zs_some (zs_inl ⟨⟨h_σ, ⟨h_x1, ⟨h_x2, hy_1.1⟩⟩⟩, hy_1.2⟩)
-- BX9_dear_16
theorem zc_428 {σ0 : sn_S} {σ : sn_S} (h_σ : zs_M σ0 σ) {x1 : Int32} (h_x1 : zs_in x1.toInt (-1) 5) {x2 : Int32} (h_x2 : zs_in x2.toInt 0 2147483647) {x3 : Int32} (h_x3 : zs_in x3.toInt 0 6) {c : Int} (hc : x3.toInt = c + 0) : zs_ok (BX9_dear_16 σ x1 x2 x3) (fun r => zs_sum (fun v => ((zs_M σ0 v.1 ∧ (zs_in (v.2.1).toInt (-1) 5 ∧ (zs_in (v.2.2.1).toInt 0 2147483647 ∧ zs_in (v.2.2.2).toInt 1 6)))) ∧ v.2.2.2.toInt = c + 1) (fun v => (zs_M σ0 v.1 ∧ zs_in (v.2).toInt (-1) 5)) r) := by
  unfold BX9_dear_16
  refine zs_gd (zs_gin zlI_8 (by decide)) ?_
  refine zs_ite (fun c1 => ?_) (fun c1 => ?_)
  · skip
    have r2 := (zs_I_le c1)
    exact zs_some (zs_inr (⟨h_σ, h_x1⟩))
  · skip
    have r3 := (zs_I_len c1)
    have g4 : zs_in (x3).toInt 0 5 := (zs_ltl 0 5 r3 h_x3 (zs_rdk (q := 1) (k := (8 : Int32).toNatClampNeg) (z := (0, 6)) h_σ.1 rfl) (by decide))
    have g5 : zs_in ((sn_I σ 1 (8 : Int32).toNatClampNeg)).toInt 1 6 := (zs_ltr 1 6 r3 h_x3 (zs_rdk (q := 1) (k := (8 : Int32).toNatClampNeg) (z := (0, 6)) h_σ.1 rfl) (by decide))
    refine zs_bd_ (zc_262 h_σ g4) (fun t_3 pt_3 => ?_)
    refine zs_bd_ (zc_240 pt_3.2 g4 zlI_4) (fun t_5 pt_5 => ?_)
    refine zs_lt (Q := fun z => True) trivial (fun y_7 hy_7 => ?_)
    refine zs_ite (fun c6 => ?_) (fun c6 => ?_)
    · skip
      have r7 := (zs_I_lt c6)
      have g8 : zs_in (x2).toInt 0 2147483646 := (zs_ltl 0 2147483646 r7 h_x2 (zs_topI _) (by decide))
      have g9 : zs_in (y_7).toInt 1 2147483647 := (zs_ltr 1 2147483647 r7 h_x2 (zs_topI _) (by decide))
      obtain ⟨ret, er, hr⟩ := zc_426 pt_3.2 g4 g9 g4 hc
      refine ⟨ret, er, ?_⟩
      exact (zs_sumw hr (fun v w => ⟨⟨w.1.1, ⟨(zs_w w.1.2.1 (by decide)), ⟨(zs_w w.1.2.2.1 (by decide)), w.1.2.2.2⟩⟩⟩, w.2⟩) (fun v w => w.elim))
    · skip
      have r10 := (zs_I_ltn c6)
      obtain ⟨ret, er, hr⟩ := zc_427 pt_3.2 h_x1 h_x2 g4 hc
      refine ⟨ret, er, ?_⟩
      exact (zs_sumw hr (fun v w => ⟨w.1, w.2⟩) (fun v w => w.elim))
theorem zd_77 {σ0 : sn_S}  {s0 : (sn_S × (Int32 × (Int32 × Int32)))} (h0 : (zs_M σ0 s0.1 ∧ (zs_in (s0.2.1).toInt (-1) 5 ∧ (zs_in (s0.2.2.1).toInt 0 2147483647 ∧ zs_in (s0.2.2.2).toInt 0 6)))) : zs_ok (sn_it (LX9_dear_16) 5000 s0) (fun t => (zs_M σ0 t.1 ∧ zs_in (t.2).toInt (-1) 5)) := by
  refine zs_it (I := fun s => (zs_M σ0 s.1 ∧ (zs_in (s.2.1).toInt (-1) 5 ∧ (zs_in (s.2.2.1).toInt 0 2147483647 ∧ zs_in (s.2.2.2).toInt 0 6)))) (m := fun s => 6 - s.2.2.2.toInt) (fun s hs => ?_) (fun s hs => ?_) (by exact h0)
  · have h1 := hs.2.2.2; unfold zs_in at h1
    omega
  · obtain ⟨b, eb, hb⟩ := zc_428 hs.1 hs.2.1 hs.2.2.1 hs.2.2.2 (c := s.2.2.2.toInt) (Int.add_zero _).symm
    exact ⟨b, eb, zs_sumw hb (fun v w => ⟨⟨w.1.1, ⟨w.1.2.1, ⟨w.1.2.2.1, (zs_w w.1.2.2.2 (by decide))⟩⟩⟩, by have := w.2; omega⟩) (fun v w => w)⟩
-- BX9_dear_61
theorem zc_429 {σ0 : sn_S} {σ : sn_S} (h_σ : zs_M σ0 σ) {x1 : Int32} (h_x1 : zs_in x1.toInt (-1) 5) : zs_ok (BX9_dear_61 σ x1) (fun r => (zs_in (r.1).toInt (-1) 5 ∧ zs_M σ0 r.2)) := by
  unfold BX9_dear_61
  exact zs_some ⟨h_x1, h_σ⟩
-- fX9_dear
theorem zc_430 {σ0 : sn_S} {σ : sn_S} (h_σ : zs_M σ0 σ) : zs_ok (fX9_dear σ) (fun r => (zs_in (r.1).toInt (-2) 5 ∧ zs_M σ0 r.2)) := by
  unfold fX9_dear
  refine zs_bd_ (zc_92 h_σ) (fun t_1 pt_1 => ?_)
  refine zs_ite (fun c1 => ?_) (fun c1 => ?_)
  · skip
    have r2 := (zs_I_eq c1)
    have g3 : zs_in (t_1.1).toInt 0 0 := (zs_eql 0 0 r2 pt_1.1 zlI_0 (by decide))
    exact zs_some ⟨(zs_w zlI_m2 (by decide)), pt_1.2⟩
  · skip
    have r4 := (zs_I_eqn c1)
    have g5 : zs_in (t_1.1).toInt 1 1 := (zs_nel 1 1 r4 pt_1.1 zlI_0 (by decide))
    refine zs_bd_ (zd_77  (s0 := (t_1.2, ((-1 : Int32), ((0 : Int32), (0 : Int32))))) ⟨pt_1.2, ⟨(zs_w zlI_m1 (by decide)), ⟨(zs_w zlI_0 (by decide)), (zs_w zlI_0 (by decide))⟩⟩⟩) (fun t_4 pt_4 => ?_)
    obtain ⟨ret, er, hr⟩ := zc_429 pt_4.1 pt_4.2
    refine ⟨ret, er, ?_⟩
    exact ⟨(zs_w hr.1 (by decide)), hr.2⟩
-- BX3_moneyAt_44
theorem zc_431 {σ0 : sn_S} {σ : sn_S} (h_σ : zs_C σ0 σ) {x1 : Int32} (h_x1 : zs_in x1.toInt (-1) 29) {x2 : Int32} {x3 : Int32} (h_x3 : zs_in x3.toInt 0 5) {c : Int} (hc : x3.toInt = c + 0) : zs_ok (BX3_moneyAt_44 σ 49 x1 x2 x3) (fun r => zs_sum (fun v => ((True ∧ zs_in (v.2).toInt 1 6)) ∧ v.2.toInt = c + 1) (fun v => False) r) := by
  unfold BX3_moneyAt_44
  refine zs_lt (Q := fun z => zs_in z.toInt 1 6 ∧ z.toInt = c + 1) ⟨(zs_addI 1 6 h_x3 zlI_1 (by decide)), (zs_syI 1 hc h_x3 zlI_1 (by decide) (by decide))⟩ (fun y_1 hy_1 => ?_)
  exact zs_some (zs_inl ⟨⟨trivial, hy_1.1⟩, hy_1.2⟩)
-- BX3_moneyAt_7
theorem zc_432 {σ0 : sn_S} {σ : sn_S} (h_σ : zs_C σ0 σ) {x1 : Int32} (h_x1 : zs_in x1.toInt (-1) 29) {x2 : Int32} {x3 : Int32} (h_x3 : zs_in x3.toInt 0 6) {c : Int} (hc : x3.toInt = c + 0) : zs_ok (BX3_moneyAt_7 σ 49 x1 x2 x3) (fun r => zs_sum (fun v => ((True ∧ zs_in (v.2).toInt 1 6)) ∧ v.2.toInt = c + 1) (fun v => True) r) := by
  unfold BX3_moneyAt_7
  refine zs_ite (fun c1 => ?_) (fun c1 => ?_)
  · skip
    have r2 := (zs_I_le c1)
    exact zs_some (zs_inr (trivial))
  · skip
    have r3 := (zs_I_len c1)
    have g4 : zs_in (x3).toInt 0 5 := (zs_ltl 0 5 r3 h_x3 (zs_rdk (q := 49) (k := 2) (z := (0, 6)) h_σ.1 rfl) (by decide))
    have g5 : zs_in ((sn_I σ 49 2)).toInt 1 6 := (zs_ltr 1 6 r3 h_x3 (zs_rdk (q := 49) (k := 2) (z := (0, 6)) h_σ.1 rfl) (by decide))
    refine zs_gd (zs_gin g4 (by decide)) ?_
    refine zs_ite (fun c6 => ?_) (fun c6 => ?_)
    · skip
      have r7 := (zs_I_eq c6)
      have g8 : zs_in ((sn_I σ (49 + 2) x3.toNatClampNeg)).toInt (-1) (-1) := (zs_eql (-1) (-1) r7 (zs_rdu (q := 51) (z := ((-1), 63)) h_σ.1 (fun _ => rfl)) zlI_m1 (by decide))
      obtain ⟨ret, er, hr⟩ := zc_431 h_σ h_x1 g4 hc
      refine ⟨ret, er, ?_⟩
      exact (zs_sumw hr (fun v w => ⟨w.1, w.2⟩) (fun v w => w.elim))
    · skip
      have r9 := (zs_I_eqn c6)
      have g10 : zs_in ((sn_I σ (49 + 2) x3.toNatClampNeg)).toInt 0 63 := (zs_nel 0 63 r9 (zs_rdu (q := 51) (z := ((-1), 63)) h_σ.1 (fun _ => rfl)) zlI_m1 (by decide))
      refine zs_gd (zs_gin g4 (by decide)) ?_
      refine zs_ite (fun c11 => ?_) (fun c11 => ?_)
      · skip
        have r12 := (zs_I_lt c11)
        obtain ⟨ret, er, hr⟩ := zc_431 h_σ h_x1 g4 hc
        refine ⟨ret, er, ?_⟩
        exact (zs_sumw hr (fun v w => ⟨w.1, w.2⟩) (fun v w => w.elim))
      · skip
        have r13 := (zs_I_ltn c11)
        have g14 : zs_in ((sn_I σ (49 + 2) x3.toNatClampNeg)).toInt 0 29 := (zs_lel 0 29 r13 g10 h_x1 (by decide))
        have g15 : zs_in (x1).toInt 0 29 := (zs_ler 0 29 r13 g10 h_x1 (by decide))
        refine zs_gd (zs_gin g4 (by decide)) ?_
        refine zs_lt (Q := fun z => True) trivial (fun y_7 hy_7 => ?_)
        obtain ⟨ret, er, hr⟩ := zc_268 h_σ g15 g4 hc
        refine ⟨ret, er, ?_⟩
        exact (zs_sumw hr (fun v w => ⟨w.1, w.2⟩) (fun v w => w.elim))
theorem zd_78 {σ0 : sn_S} {σ : sn_S} (h_σ : zs_C σ0 σ) {x1 : Int32} (h_x1 : zs_in x1.toInt (-1) 29) {s0 : (Int32 × Int32)} (h0 : (True ∧ zs_in (s0.2).toInt 0 6)) : zs_ok (sn_it (LX3_moneyAt_7 σ 49 x1) 5000 s0) (fun t => True) := by
  refine zs_it (I := fun s => (True ∧ zs_in (s.2).toInt 0 6)) (m := fun s => 6 - s.2.toInt) (fun s hs => ?_) (fun s hs => ?_) (by exact h0)
  · have h1 := hs.2; unfold zs_in at h1
    omega
  · obtain ⟨b, eb, hb⟩ := zc_432 h_σ h_x1 hs.2 (c := s.2.toInt) (Int.add_zero _).symm
    exact ⟨b, eb, zs_sumw hb (fun v w => ⟨⟨w.1.1, (zs_w w.1.2 (by decide))⟩, by have := w.2; omega⟩) (fun v w => w)⟩
-- fX3_moneyAt
theorem zc_433 {σ0 : sn_S} {σ : sn_S} (h_σ : zs_C σ0 σ) {x1 : Int32} (h_x1 : zs_in x1.toInt (-1) 29) : zs_ok (fX3_moneyAt σ 49 x1) (fun r => True) := by
  unfold fX3_moneyAt
  refine zs_lt (Q := fun z => True) trivial (fun y_1 hy_1 => ?_)
  refine zs_bd_ (zd_78 h_σ h_x1 (s0 := (y_1, (0 : Int32))) ⟨trivial, (zs_w zlI_0 (by decide))⟩) (fun t_3 pt_3 => ?_)
  obtain ⟨ret, er, hr⟩ := zc_266 h_σ
  refine ⟨ret, er, ?_⟩
  exact hr
-- fX8_reserve
theorem zc_434 {σ0 : sn_S} {σ : sn_S} (h_σ : zs_C σ0 σ) : zs_ok (fX8_reserve σ) (fun r => (zs_in (r.1).toInt (-2) 999 ∧ zs_C σ0 r.2)) := by
  unfold fX8_reserve
  refine zs_bd_ (zc_102 h_σ) (fun t_1 pt_1 => ?_)
  refine zs_ite (fun c1 => ?_) (fun c1 => ?_)
  · skip
    have r2 := (zs_I_eq c1)
    have g3 : zs_in (t_1).toInt 0 0 := (zs_eql 0 0 r2 pt_1 zlI_0 (by decide))
    exact zs_some ⟨(zs_w zlI_m2 (by decide)), h_σ⟩
  · skip
    have r4 := (zs_I_eqn c1)
    have g5 : zs_in (t_1).toInt 1 1 := (zs_nel 1 1 r4 pt_1 zlI_0 (by decide))
    refine zs_gd (zs_gin zlI_3 (by decide)) ?_
    refine zs_bd_ (zc_237 h_σ) (fun t_5 pt_5 => ?_)
    refine zs_bd_ (zc_433 pt_5 (zs_subI (-1) 29 (zs_rdk (q := 27) (k := 0) (z := (0, 30)) pt_5.1 rfl) zlI_1 (by decide))) (fun t_7 pt_7 => ?_)
    refine zs_lt (Q := fun z => True) trivial (fun y_9 hy_9 => ?_)
    refine zs_lt (Q := fun z => zs_in z.toInt 0 2147483647) (zs_max 0 2147483647 zlI_0 (zs_topI _) (by decide)) (fun y_11 hy_11 => ?_)
    refine zs_ite (fun c6 => ?_) (fun c6 => ?_)
    · skip
      have r7 := (zs_I_le c6)
      have g8 : zs_in (y_11).toInt 0 999 := (zs_lel 0 999 r7 hy_11 zlI_999 (by decide))
      exact zs_some ⟨(zs_w g8 (by decide)), pt_5⟩
    · skip
      have r9 := (zs_I_len c6)
      have g10 : zs_in (y_11).toInt 1000 2147483647 := (zs_ltr 1000 2147483647 r9 zlI_999 hy_11 (by decide))
      exact zs_some ⟨(zs_w zlI_m1 (by decide)), pt_5⟩
-- BX8_by_16
theorem zc_435 {σ0 : sn_S} {σ : sn_S} (h_σ : zs_C σ0 σ) : zs_ok (BX8_by_16 σ) (fun r => (zs_in (r.1).toInt (-100000) (-100000) ∧ zs_C σ0 r.2)) := by
  unfold BX8_by_16
  exact zs_some ⟨zlI_m100000, h_σ⟩
-- fX8_moneyInTheEnd
theorem zc_436 {σ0 : sn_S} {σ : sn_S} (h_σ : zs_C σ0 σ) {x1 : Int32} (h_x1 : zs_in x1.toInt 0 3) : zs_ok (fX8_moneyInTheEnd σ x1) (fun r => (True ∧ zs_C σ0 r.2)) := by
  unfold fX8_moneyInTheEnd
  refine zs_bd_ (zo_reckon_49_27_0_3 h_σ h_x1) (fun t_1 pt_1 => ?_)
  refine zs_bd_ (zc_433 pt_1 (zs_subI (-1) 29 (zs_rdk (q := 27) (k := 0) (z := (0, 30)) pt_1.1 rfl) zlI_1 (by decide))) (fun t_3 pt_3 => ?_)
  exact zs_some ⟨trivial, pt_1⟩
-- fX8_by
theorem zc_437 {σ0 : sn_S} {σ : sn_S} (h_σ : zs_C σ0 σ) {x1 : Int32} : zs_ok (fX8_by σ x1) (fun r => (True ∧ zs_C σ0 r.2)) := by
  unfold fX8_by
  refine zs_bd_ (zc_102 h_σ) (fun t_1 pt_1 => ?_)
  refine zs_ite (fun c1 => ?_) (fun c1 => ?_)
  · skip
    have r2 := (zs_I_eq c1)
    have g3 : zs_in (t_1).toInt 0 0 := (zs_eql 0 0 r2 pt_1 zlI_0 (by decide))
    obtain ⟨ret, er, hr⟩ := zc_435 h_σ
    refine ⟨ret, er, ?_⟩
    exact ⟨trivial, hr.2⟩
  · skip
    have r4 := (zs_I_eqn c1)
    have g5 : zs_in (t_1).toInt 1 1 := (zs_nel 1 1 r4 pt_1 zlI_0 (by decide))
    refine zs_ite (fun c6 => ?_) (fun c6 => ?_)
    · skip
      have r7 := (zs_I_lt c6)
      have g8 : zs_in (x1).toInt (-2147483648) (-1) := (zs_ltl (-2147483648) (-1) r7 (zs_topI _) zlI_0 (by decide))
      obtain ⟨ret, er, hr⟩ := zc_435 h_σ
      refine ⟨ret, er, ?_⟩
      exact ⟨trivial, hr.2⟩
    · skip
      have r9 := (zs_I_ltn c6)
      have g10 : zs_in (x1).toInt 0 2147483647 := (zs_ler 0 2147483647 r9 zlI_0 (zs_topI _) (by decide))
      refine zs_ite (fun c11 => ?_) (fun c11 => ?_)
      · skip
        have r12 := (zs_I_lt c11)
        have g13 : zs_in (x1).toInt 0 3 := (zs_ltl 0 3 r12 g10 zlI_4 (by decide))
        refine zs_bd_ (zc_436 h_σ g13) (fun t_6 pt_6 => ?_)
        exact zs_some ⟨trivial, pt_6.2⟩
      · skip
        have r14 := (zs_I_ltn c11)
        have g15 : zs_in (x1).toInt 4 2147483647 := (zs_ler 4 2147483647 r14 zlI_4 g10 (by decide))
        obtain ⟨ret, er, hr⟩ := zc_435 h_σ
        refine ⟨ret, er, ?_⟩
        exact ⟨trivial, hr.2⟩
-- BX9_by_22
theorem zc_438 {σ0 : sn_S} {σ : sn_S} (h_σ : zs_M σ0 σ) : zs_ok (BX9_by_22 σ) (fun r => (zs_in (r.1).toInt (-100000) (-100000) ∧ zs_M σ0 r.2)) := by
  unfold BX9_by_22
  exact zs_some ⟨zlI_m100000, h_σ⟩
-- fX9_in
theorem zc_439 {x0 : Int64} (h_x0 : zs_in x0.toInt (-2147483648) 2147483647) {x2 : Int64} (h_x2 : zs_in x2.toInt 0 0) {x4 : Int64} (h_x4 : zs_in x4.toInt 3 3) : zs_ok (fX9_in x0 x2 x4) (fun r => (zs_in (r).toInt 0 1) ∧ ((r).toInt = 0 ∨ (zs_in (x0).toInt 0 3))) := by
  unfold fX9_in
  refine zs_ite (fun c1 => ?_) (fun c1 => ?_)
  · skip
    have r2 := (zs_lg_lt c1)
    have g3 : zs_in (x0).toInt (-2147483648) (-1) := (zs_ltl (-2147483648) (-1) r2 h_x0 h_x2 (by decide))
    refine zs_gd (zs_b01 zlI_0 (by decide)) ?_
    exact zs_some ⟨(zs_w zlI_0 (by decide)), Or.inl (zs_ptr zlI_0)⟩
  · skip
    have r4 := (zs_lg_ltn c1)
    have g5 : zs_in (x0).toInt 0 2147483647 := (zs_ler 0 2147483647 r4 h_x2 h_x0 (by decide))
    refine zs_ite (fun c6 => ?_) (fun c6 => ?_)
    · skip
      have r7 := (zs_lg_ltf c6)
      have g8 : zs_in (x0).toInt 4 2147483647 := (zs_ltr 4 2147483647 r7 h_x4 g5 (by decide))
      refine zs_gd (zs_b01 zlI_0 (by decide)) ?_
      exact zs_some ⟨(zs_w zlI_0 (by decide)), Or.inl (zs_ptr zlI_0)⟩
    · skip
      have r9 := (zs_lg_ltfn c6)
      have g10 : zs_in (x0).toInt 0 3 := (zs_lel 0 3 r9 g5 h_x4 (by decide))
      refine zs_gd (zs_b01 zlI_1 (by decide)) ?_
      exact zs_some ⟨(zs_w zlI_1 (by decide)), Or.inr g10⟩
-- fX9_isLaw
theorem zc_440 {x0 : Int32} : zs_ok (fX9_isLaw x0) (fun r => (zs_in (r).toInt 0 1) ∧ ((r).toInt = 0 ∨ (zs_in (x0).toInt 0 3))) := by
  unfold fX9_isLaw
  refine zs_bd_ (zc_439 (zs_64 (zs_topI _)) zlL_0 zlL_3) (fun t_1 pt_1 => ?_)
  refine zs_gd (zs_b01 pt_1.1 (by decide)) ?_
  rcases pt_1.2 with z0 | z0
  · skip
    have g1 : zs_in (t_1).toInt 0 0 := (zs_pt z0)
    exact zs_some ⟨(zs_w g1 (by decide)), Or.inl (zs_ptr g1)⟩
  · skip
    have q2 := z0
    have g3 : zs_in (x0.toInt64).toInt 0 3 := q2
    have g4 : zs_in (x0).toInt 0 3 := (zs_64r g3)
    exact zs_some ⟨pt_1.1, Or.inr g4⟩
-- BX9_moneyAt_7
theorem zc_441 {σ0 : sn_S} {σ : sn_S} (h_σ : zs_M σ0 σ) {x1 : Int32} (h_x1 : zs_in x1.toInt (-1) 29) {x2 : Int32} {x3 : Int32} (h_x3 : zs_in x3.toInt 0 6) {c : Int} (hc : x3.toInt = c + 0) : zs_ok (BX9_moneyAt_7 σ x1 x2 x3) (fun r => zs_sum (fun v => ((True ∧ zs_in (v.2).toInt 1 6)) ∧ v.2.toInt = c + 1) (fun v => True) r) := by
  unfold BX9_moneyAt_7
  refine zs_gd (zs_gin zlI_8 (by decide)) ?_
  refine zs_ite (fun c1 => ?_) (fun c1 => ?_)
  · skip
    have r2 := (zs_I_le c1)
    exact zs_some (zs_inr (trivial))
  · skip
    have r3 := (zs_I_len c1)
    have g4 : zs_in (x3).toInt 0 5 := (zs_ltl 0 5 r3 h_x3 (zs_rdk (q := 1) (k := (8 : Int32).toNatClampNeg) (z := (0, 6)) h_σ.1 rfl) (by decide))
    have g5 : zs_in ((sn_I σ 1 (8 : Int32).toNatClampNeg)).toInt 1 6 := (zs_ltr 1 6 r3 h_x3 (zs_rdk (q := 1) (k := (8 : Int32).toNatClampNeg) (z := (0, 6)) h_σ.1 rfl) (by decide))
    refine zs_bd_ (zc_240 h_σ g4 zlI_4) (fun t_3 pt_3 => ?_)
    refine zs_lt (Q := fun z => True) trivial (fun y_5 hy_5 => ?_)
    refine zs_lt (Q := fun z => zs_in z.toInt 1 6 ∧ z.toInt = c + 1) ⟨(zs_addI 1 6 g4 zlI_1 (by decide)), (zs_syI 1 hc g4 zlI_1 (by decide) (by decide))⟩ (fun y_7 hy_7 => ?_)
    exact zs_some (zs_inl ⟨⟨trivial, hy_7.1⟩, hy_7.2⟩)
theorem zd_79 {σ0 : sn_S} {σ : sn_S} (h_σ : zs_M σ0 σ) {x1 : Int32} (h_x1 : zs_in x1.toInt (-1) 29) {s0 : (Int32 × Int32)} (h0 : (True ∧ zs_in (s0.2).toInt 0 6)) : zs_ok (sn_it (LX9_moneyAt_7 σ x1) 5000 s0) (fun t => True) := by
  refine zs_it (I := fun s => (True ∧ zs_in (s.2).toInt 0 6)) (m := fun s => 6 - s.2.toInt) (fun s hs => ?_) (fun s hs => ?_) (by exact h0)
  · have h1 := hs.2; unfold zs_in at h1
    omega
  · obtain ⟨b, eb, hb⟩ := zc_441 h_σ h_x1 hs.2 (c := s.2.toInt) (Int.add_zero _).symm
    exact ⟨b, eb, zs_sumw hb (fun v w => ⟨⟨w.1.1, (zs_w w.1.2 (by decide))⟩, by have := w.2; omega⟩) (fun v w => w)⟩
-- BX9_moneyAt_35
theorem zc_442 {σ0 : sn_S} {σ : sn_S} (h_σ : zs_M σ0 σ) {x1 : Int32} (h_x1 : zs_in x1.toInt (-1) 29) {x2 : Int32} {x3 : Int32} (h_x3 : zs_in x3.toInt 0 30) {c : Int} (hc : x3.toInt = c + 0) : zs_ok (BX9_moneyAt_35 σ x1 x2 x3) (fun r => zs_sum (fun v => ((True ∧ zs_in (v.2).toInt 1 30)) ∧ v.2.toInt = c + 1) (fun v => True) r) := by
  unfold BX9_moneyAt_35
  refine zs_ite (fun c1 => ?_) (fun c1 => ?_)
  · skip
    have r2 := (zs_I_lt c1)
    exact zs_some (zs_inr (trivial))
  · skip
    have r3 := (zs_I_ltn c1)
    have g4 : zs_in (x3).toInt 0 29 := (zs_lel 0 29 r3 h_x3 h_x1 (by decide))
    have g5 : zs_in (x1).toInt 0 29 := (zs_ler 0 29 r3 h_x3 h_x1 (by decide))
    refine zs_gd (zs_gin g4 (by decide)) ?_
    refine zs_lt (Q := fun z => True) trivial (fun y_3 hy_3 => ?_)
    refine zs_lt (Q := fun z => zs_in z.toInt 1 30 ∧ z.toInt = c + 1) ⟨(zs_addI 1 30 g4 zlI_1 (by decide)), (zs_syI 1 hc g4 zlI_1 (by decide) (by decide))⟩ (fun y_5 hy_5 => ?_)
    exact zs_some (zs_inl ⟨⟨trivial, hy_5.1⟩, hy_5.2⟩)
theorem zd_80 {σ0 : sn_S} {σ : sn_S} (h_σ : zs_M σ0 σ) {x1 : Int32} (h_x1 : zs_in x1.toInt (-1) 29) {s0 : (Int32 × Int32)} (h0 : (True ∧ zs_in (s0.2).toInt 0 30)) : zs_ok (sn_it (LX9_moneyAt_35 σ x1) 5000 s0) (fun t => True) := by
  refine zs_it (I := fun s => (True ∧ zs_in (s.2).toInt 0 30)) (m := fun s => 30 - s.2.toInt) (fun s hs => ?_) (fun s hs => ?_) (by exact h0)
  · have h1 := hs.2; unfold zs_in at h1
    omega
  · obtain ⟨b, eb, hb⟩ := zc_442 h_σ h_x1 hs.2 (c := s.2.toInt) (Int.add_zero _).symm
    exact ⟨b, eb, zs_sumw hb (fun v w => ⟨⟨w.1.1, (zs_w w.1.2 (by decide))⟩, by have := w.2; omega⟩) (fun v w => w)⟩
-- BX9_moneyAt_33
theorem zc_443 {σ0 : sn_S} {σ : sn_S} (h_σ : zs_M σ0 σ) {x1 : Int32} (h_x1 : zs_in x1.toInt (-1) 29) {x2 : Int32} : zs_ok (BX9_moneyAt_33 σ x1 x2) (fun r => True) := by
  unfold BX9_moneyAt_33
  refine zs_bd_ (zd_80 h_σ h_x1 (s0 := (x2, (0 : Int32))) ⟨trivial, (zs_w zlI_0 (by decide))⟩) (fun t_1 pt_1 => ?_)
  obtain ⟨ret, er, hr⟩ := zc_302 h_σ
  refine ⟨ret, er, ?_⟩
  exact hr
-- fX9_moneyAt
theorem zc_444 {σ0 : sn_S} {σ : sn_S} (h_σ : zs_M σ0 σ) {x1 : Int32} (h_x1 : zs_in x1.toInt (-1) 29) : zs_ok (fX9_moneyAt σ x1) (fun r => True) := by
  unfold fX9_moneyAt
  refine zs_lt (Q := fun z => zs_in z.toInt 0 1000) (zs_rdk (q := 0) (k := 21) (z := (0, 1000)) h_σ.1 rfl) (fun y_1 hy_1 => ?_)
  refine zs_bd_ (zd_79 h_σ h_x1 (s0 := (y_1, (0 : Int32))) ⟨trivial, (zs_w zlI_0 (by decide))⟩) (fun t_3 pt_3 => ?_)
  obtain ⟨ret, er, hr⟩ := zc_443 h_σ h_x1
  refine ⟨ret, er, ?_⟩
  exact hr
-- fX9_byLaw
theorem zc_445 {σ0 : sn_S} {σ : sn_S} (h_σ : zs_M σ0 σ) {x1 : Int32} (h_x1 : zs_in x1.toInt 0 3) : zs_ok (fX9_byLaw σ x1) (fun r => (True ∧ zs_M σ0 r.2)) := by
  unfold fX9_byLaw
  refine zs_lt (Q := fun z => zs_M σ0 z) (zs_wrkt h_σ rfl rfl) (fun σ_1 hσ_1 => ?_)
  refine zs_bd_ (zc_299 hσ_1) (fun t_3 pt_3 => ?_)
  refine zs_bd_ (zc_444 pt_3 (zs_rdk (q := 0) (k := 22) (z := ((-1), 29)) pt_3.1 rfl)) (fun t_5 pt_5 => ?_)
  exact zs_some ⟨trivial, pt_3⟩
-- fX9_by
theorem zc_446 {σ0 : sn_S} {σ : sn_S} (h_σ : zs_M σ0 σ) {x1 : Int32} : zs_ok (fX9_by σ x1) (fun r => (True ∧ zs_M σ0 r.2)) := by
  unfold fX9_by
  refine zs_bd_ (zc_92 h_σ) (fun t_1 pt_1 => ?_)
  refine zs_ite (fun c1 => ?_) (fun c1 => ?_)
  · skip
    have r2 := (zs_I_eq c1)
    have g3 : zs_in (t_1.1).toInt 0 0 := (zs_eql 0 0 r2 pt_1.1 zlI_0 (by decide))
    obtain ⟨ret, er, hr⟩ := zc_438 pt_1.2
    refine ⟨ret, er, ?_⟩
    exact ⟨trivial, hr.2⟩
  · skip
    have r4 := (zs_I_eqn c1)
    have g5 : zs_in (t_1.1).toInt 1 1 := (zs_nel 1 1 r4 pt_1.1 zlI_0 (by decide))
    refine zs_bd_ (zc_440) (fun t_4 pt_4 => ?_)
    refine zs_ite (fun c6 => ?_) (fun c6 => ?_)
    · skip
      have r7 := (zs_I_eq c6)
      have g8 : zs_in (t_4).toInt 0 0 := (zs_eql 0 0 r7 pt_4.1 zlI_0 (by decide))
      obtain ⟨ret, er, hr⟩ := zc_438 pt_1.2
      refine ⟨ret, er, ?_⟩
      exact ⟨trivial, hr.2⟩
    · skip
      have r9 := (zs_I_eqn c6)
      have g10 : zs_in (t_4).toInt 1 1 := (zs_nel 1 1 r9 pt_4.1 zlI_0 (by decide))
      have q11 := (zs_or2 pt_4.2 g10 (by decide))
      have g12 : zs_in (x1).toInt 0 3 := q11
      refine zs_bd_ (zc_445 pt_1.2 g12) (fun t_7 pt_7 => ?_)
      exact zs_some ⟨trivial, pt_7.2⟩
-- fX3_counting
theorem zc_447 {σ0 : sn_S} {σ : sn_S} (h_σ : zs_C σ0 σ) {x1 : Int32} (h_x1 : zs_in x1.toInt 0 0) {x2 : Int32} (h_x2 : zs_in x2.toInt 0 5) {x3 : Int32} (h_x3 : zs_in x3.toInt 0 1073741823) : zs_ok (fX3_counting σ 1 x1 x2 x3) (fun r => zs_in (r).toInt 0 1073741823) := by
  unfold fX3_counting
  obtain rfl : x1 = (0 : Int32) := zs_eqv h_x1 (by decide)
  refine zs_bd_ (zc_193 h_σ h_x2) (fun t_1 pt_1 => ?_)
  refine zs_lt (Q := fun z => zs_in z.toInt 0 1073741823) (zs_and2 h_x3 (by decide)) (fun y_3 hy_3 => ?_)
  refine zs_ite (fun c1 => ?_) (fun c1 => ?_)
  · skip
    have r2 := (zs_I_eq c1)
    exact (zs_botr r2 h_x1 zlI_1 (by decide)).elim
  · skip
    have r3 := (zs_I_eqn c1)
    exact zs_some hy_3
-- fX3_claimBy
theorem zc_448 {σ0 : sn_S} {σ : sn_S} (h_σ : zs_C σ0 σ) {x1 : Int32} (h_x1 : zs_in x1.toInt 0 0) {x2 : Int32} (h_x2 : zs_in x2.toInt 0 5) {x3 : Int32} (h_x3 : zs_in x3.toInt 0 1073741823) {x4 : Int32} : zs_ok (fX3_claimBy σ 1 x1 x2 x3 x4) (fun r => True) := by
  unfold fX3_claimBy
  obtain rfl : x1 = (0 : Int32) := zs_eqv h_x1 (by decide)
  refine zs_bd_ (zc_447 h_σ h_x1 h_x2 h_x3) (fun t_1 pt_1 => ?_)
  refine zs_bd_ (zc_234 h_σ h_x2 zlI_3) (fun t_3 pt_3 => ?_)
  refine zs_ite (fun c1 => ?_) (fun c1 => ?_)
  · skip
    have r2 := (zs_I_eq c1)
    have g3 : zs_in (t_1).toInt 0 0 := (zs_eql 0 0 r2 pt_1 zlI_0 (by decide))
    exact zs_some trivial
  · skip
    have r4 := (zs_I_eqn c1)
    have g5 : zs_in (t_1).toInt 1 1073741823 := (zs_nel 1 1073741823 r4 pt_1 zlI_0 (by decide))
    refine zs_ite (fun c6 => ?_) (fun c6 => ?_)
    · skip
      have r7 := (zs_I_eq c6)
      exact (zs_botr r7 h_x1 zlI_2 (by decide)).elim
    · skip
      have r8 := (zs_I_eqn c6)
      refine zs_bd_ (zo_low1 30 29 (by decide) g5) (fun t_7 pt_7 => ?_)
      refine zs_bd_ (zc_187 pt_7) (fun t_9 pt_9 => ?_)
      refine zs_bd_ (zc_193 h_σ h_x2) (fun t_11 pt_11 => ?_)
      refine zs_lt (Q := fun z => zs_in z.toInt 0 536870911) (zs_and2 pt_9 (by decide)) (fun y_13 hy_13 => ?_)
      refine zs_ite (fun c9 => ?_) (fun c9 => ?_)
      · skip
        have r10 := (zs_I_eq c9)
        exact (zs_botr r10 h_x1 zlI_3 (by decide)).elim
      · skip
        have r11 := (zs_I_eqn c9)
        exact zs_some trivial
theorem zo_reckon_49_27_0_0_l {σ0 : sn_S} {x3 : Int32} (h_x3 : zs_in x3.toInt 0 0) {s0 : sn_S × Int32} (h0 : zs_C σ0 s0.1 ∧ zs_in s0.2.toInt 0 6 ∧ (sn_I s0.1 49 2).toInt = (σ0.1 2 8).toInt) : zs_ok (sn_it (LX3_reckon_24 49 1 27 x3) 5000 s0) (fun t => zs_C σ0 t) := by
  refine zs_it (I := fun s => zs_C σ0 s.1 ∧ zs_in s.2.toInt 0 6 ∧ (sn_I s.1 49 2).toInt = (σ0.1 2 8).toInt) (m := fun s => 6 - s.2.toInt) (fun s hs => ⟨by have := hs.2.1; omega, by have := hs.2.1; omega⟩) (fun s hs => ?_) h0
  obtain ⟨σ, x4⟩ := s
  obtain ⟨h_σ, h_x4, hq⟩ := hs
  unfold LX3_reckon_24 BX3_reckon_24
  refine zs_ite (fun c1 => zs_some (zs_inr h_σ)) (fun c1 => ?_)
  have r3 := (zs_I_len c1)
  have g4 : zs_in (x4).toInt 0 5 := (zs_ltl 0 5 r3 h_x4 (zs_rdk (q := 49) (k := 2) (z := (0, 6)) h_σ.1 rfl) (by decide))
  haveI : zs_Ws σ0 x4 := ⟨⟨by have h1 : x4.toInt < (sn_I σ 49 2).toInt := r3; have h2 : (sn_I σ 49 2).toInt = (σ0.1 2 8).toInt := hq; omega⟩⟩
  refine zs_bd_ (zo_whose h_σ g4) (fun t_2 pt_2 => ?_)
  refine zs_gd (zs_gin pt_2 (by decide)) ?_
  refine zs_lt (Q := fun z => zs_in z.toInt 0 1073741823) (zs_rdu (q := 37) (z := (0, 1073741823)) h_σ.1 (fun _ => rfl)) (fun y_5 hy_5 => ?_)
  refine zs_bd_ (zc_229 h_σ g4 zlI_4) (fun t_7 pt_7 => ?_)
  refine zs_lt (Q := fun z => zs_C σ0 z ∧ (sn_I z 49 2).toInt = (σ0.1 2 8).toInt) ⟨zs_wrkt h_σ rfl rfl, hq⟩ (fun σ_9 hσ_9 => ?_)
  refine zs_gd (zs_gin pt_2 (by decide)) ?_
  refine zs_bd_ (zc_448 hσ_9.1 h_x3 g4 hy_5) (fun t_12 pt_12 => ?_)
  refine zs_gd (zs_gin g4 (by decide)) ?_
  refine zs_lt (Q := fun z => zs_C σ0 z ∧ (sn_I z 49 2).toInt = (σ0.1 2 8).toInt) ⟨zs_wrt hσ_9.1 (fun _ => rfl) (fun _ => rfl), hσ_9.2⟩ (fun σ_15 hσ_15 => ?_)
  refine zs_bd_ (zc_447 hσ_15.1 h_x3 g4 hy_5) (fun t_17 pt_17 => ?_)
  refine zs_bd_ (zo_low 30 29 (by decide) pt_17) (fun t_19 pt_19 => ?_)
  refine zs_gd (zs_gin g4 (by decide)) ?_
  refine zs_lt (Q := fun z => zs_C σ0 z ∧ (sn_I z 49 2).toInt = (σ0.1 2 8).toInt) ⟨zs_wru (z := ((-1), 63)) hσ_15.1 (fun _ => rfl) pt_19 (by decide) (fun _ => rfl), hσ_15.2⟩ (fun σ_22 hσ_22 => ?_)
  refine zs_lt (Q := fun z => zs_in z.toInt 1 6 ∧ z.toInt = x4.toInt + 1) ⟨(zs_addI 1 6 g4 zlI_1 (by decide)), (zs_syI 1 (show x4.toInt = x4.toInt + 0 by omega) g4 zlI_1 (by decide) (by decide))⟩ (fun y_24 hy_24 => ?_)
  exact zs_some (zs_inl ⟨⟨hσ_22.1, zs_w hy_24.1 (by decide), hσ_22.2⟩, by show 6 - y_24.toInt < 6 - x4.toInt; have := hy_24.2; omega⟩)
theorem zo_reckon_49_27_0_0 {σ0 : sn_S} {σ : sn_S} (h_σ : zs_C σ0 σ) {x3 : Int32} (h_x3 : zs_in x3.toInt 0 0) : zs_ok (fX3_reckon σ 49 1 27 x3) (fun r => zs_C σ0 r) := by
  unfold fX3_reckon
  have e8 : sn_I σ (1 + 1) (8 : Int32).toNatClampNeg = σ0.1 2 8 := h_σ.2.1 2 8 rfl
  refine zs_gd (by decide) ?_
  refine zs_lt (Q := fun z => zs_C σ0 z ∧ (sn_I z 49 2).toInt = (σ0.1 2 8).toInt) ⟨zs_wrk (z := (0, 6)) h_σ rfl (zs_rdk (q := 2) (k := (8 : Int32).toNatClampNeg) (z := (0, 6)) h_σ.1 rfl) (by decide) rfl, by
    show (sn_I σ (1 + 1) (8 : Int32).toNatClampNeg).toInt = _
    rw [e8]⟩ (fun σ_2 h2 => ?_)
  refine zs_gd (by decide) ?_
  refine zs_lt (Q := fun z => zs_C σ0 z ∧ (sn_I z 49 2).toInt = (σ0.1 2 8).toInt) ⟨zs_wrkt h2.1 rfl rfl, h2.2⟩ (fun σ_5 h5 => ?_)
  refine zs_bd_ (zo_reckon_49_27_0_0_l h_x3 (s0 := (σ_5, (0 : Int32))) ⟨h5.1, (by decide : zs_in (0 : Int32).toInt 0 6), h5.2⟩) (fun t_7 p7 => ?_)
  exact zc_236 p7
-- fX8_moneyInTheEnd
theorem zc_449 {σ0 : sn_S} {σ : sn_S} (h_σ : zs_C σ0 σ) {x1 : Int32} (h_x1 : zs_in x1.toInt 0 0) : zs_ok (fX8_moneyInTheEnd σ x1) (fun r => (True ∧ zs_C σ0 r.2)) := by
  unfold fX8_moneyInTheEnd
  obtain rfl : x1 = (0 : Int32) := zs_eqv h_x1 (by decide)
  refine zs_bd_ (zo_reckon_49_27_0_0 h_σ h_x1) (fun t_1 pt_1 => ?_)
  refine zs_bd_ (zc_433 pt_1 (zs_subI (-1) 29 (zs_rdk (q := 27) (k := 0) (z := (0, 30)) pt_1.1 rfl) zlI_1 (by decide))) (fun t_3 pt_3 => ?_)
  exact zs_some ⟨trivial, pt_1⟩
-- fX3_counting
theorem zc_450 {σ0 : sn_S} {σ : sn_S} (h_σ : zs_C σ0 σ) {x1 : Int32} (h_x1 : zs_in x1.toInt 1 3) {x2 : Int32} (h_x2 : zs_in x2.toInt 0 5) {x3 : Int32} (h_x3 : zs_in x3.toInt 0 1073741823) : zs_ok (fX3_counting σ 1 x1 x2 x3) (fun r => zs_in (r).toInt 0 1073741823) := by
  unfold fX3_counting
  refine zs_bd_ (zc_193 h_σ h_x2) (fun t_1 pt_1 => ?_)
  refine zs_lt (Q := fun z => zs_in z.toInt 0 1073741823) (zs_and2 h_x3 (by decide)) (fun y_3 hy_3 => ?_)
  refine zs_ite (fun c1 => ?_) (fun c1 => ?_)
  · skip
    have r2 := (zs_I_eq c1)
    have g3 : zs_in (x1).toInt 1 1 := (zs_eql 1 1 r2 h_x1 zlI_1 (by decide))
    refine zs_bd_ (zc_232 h_σ) (fun t_6 pt_6 => ?_)
    exact zs_some (zs_and2 hy_3 (by decide))
  · skip
    have r4 := (zs_I_eqn c1)
    have g5 : zs_in (x1).toInt 2 3 := (zs_nel 2 3 r4 h_x1 zlI_1 (by decide))
    exact zs_some hy_3
-- fX3_claimBy
theorem zc_451 {σ0 : sn_S} {σ : sn_S} (h_σ : zs_C σ0 σ) {x1 : Int32} (h_x1 : zs_in x1.toInt 1 3) {x2 : Int32} (h_x2 : zs_in x2.toInt 0 5) {x3 : Int32} (h_x3 : zs_in x3.toInt 0 1073741823) {x4 : Int32} : zs_ok (fX3_claimBy σ 1 x1 x2 x3 x4) (fun r => True) := by
  unfold fX3_claimBy
  refine zs_bd_ (zc_450 h_σ h_x1 h_x2 h_x3) (fun t_1 pt_1 => ?_)
  refine zs_bd_ (zc_234 h_σ h_x2 zlI_3) (fun t_3 pt_3 => ?_)
  refine zs_ite (fun c1 => ?_) (fun c1 => ?_)
  · skip
    have r2 := (zs_I_eq c1)
    have g3 : zs_in (t_1).toInt 0 0 := (zs_eql 0 0 r2 pt_1 zlI_0 (by decide))
    exact zs_some trivial
  · skip
    have r4 := (zs_I_eqn c1)
    have g5 : zs_in (t_1).toInt 1 1073741823 := (zs_nel 1 1073741823 r4 pt_1 zlI_0 (by decide))
    refine zs_ite (fun c6 => ?_) (fun c6 => ?_)
    · skip
      have r7 := (zs_I_eq c6)
      have g8 : zs_in (x1).toInt 2 2 := (zs_eql 2 2 r7 h_x1 zlI_2 (by decide))
      refine zs_bd_ (zo_bc 30 30 (by decide) g5) (fun t_17 pt_17 => ?_)
      refine zs_lt (Q := fun z => zs_in z.toInt 0 3) (zs_min 0 3 pt_17 zlI_3 (by decide)) (fun y_19 hy_19 => ?_)
      exact zs_some trivial
    · skip
      have r9 := (zs_I_eqn c6)
      refine zs_bd_ (zo_low1 30 29 (by decide) g5) (fun t_7 pt_7 => ?_)
      refine zs_bd_ (zc_187 pt_7) (fun t_9 pt_9 => ?_)
      refine zs_bd_ (zc_193 h_σ h_x2) (fun t_11 pt_11 => ?_)
      refine zs_lt (Q := fun z => zs_in z.toInt 0 536870911) (zs_and2 pt_9 (by decide)) (fun y_13 hy_13 => ?_)
      refine zs_ite (fun c10 => ?_) (fun c10 => ?_)
      · skip
        have r11 := (zs_I_eq c10)
        have g12 : zs_in (x1).toInt 3 3 := (zs_eql 3 3 r11 h_x1 zlI_3 (by decide))
        refine zs_ite (fun c13 => ?_) (fun c13 => ?_)
        · skip
          have r14 := (zs_I_eq c13)
          have g15 : zs_in ((x4 &&& y_13)).toInt 0 0 := (zs_eql 0 0 r14 (zs_and hy_13 (by decide)) zlI_0 (by decide))
          exact zs_some trivial
        · skip
          have r16 := (zs_I_eqn c13)
          have g17 : zs_in ((x4 &&& y_13)).toInt 1 536870911 := (zs_nel 1 536870911 r16 (zs_and hy_13 (by decide)) zlI_0 (by decide))
          exact zs_some trivial
      · skip
        have r18 := (zs_I_eqn c10)
        have g19 : zs_in (x1).toInt 1 2 := (zs_neh 1 2 r18 h_x1 zlI_3 (by decide))
        exact zs_some trivial
theorem zo_reckon_49_27_1_3_l {σ0 : sn_S} {x3 : Int32} (h_x3 : zs_in x3.toInt 1 3) {s0 : sn_S × Int32} (h0 : zs_C σ0 s0.1 ∧ zs_in s0.2.toInt 0 6 ∧ (sn_I s0.1 49 2).toInt = (σ0.1 2 8).toInt) : zs_ok (sn_it (LX3_reckon_24 49 1 27 x3) 5000 s0) (fun t => zs_C σ0 t) := by
  refine zs_it (I := fun s => zs_C σ0 s.1 ∧ zs_in s.2.toInt 0 6 ∧ (sn_I s.1 49 2).toInt = (σ0.1 2 8).toInt) (m := fun s => 6 - s.2.toInt) (fun s hs => ⟨by have := hs.2.1; omega, by have := hs.2.1; omega⟩) (fun s hs => ?_) h0
  obtain ⟨σ, x4⟩ := s
  obtain ⟨h_σ, h_x4, hq⟩ := hs
  unfold LX3_reckon_24 BX3_reckon_24
  refine zs_ite (fun c1 => zs_some (zs_inr h_σ)) (fun c1 => ?_)
  have r3 := (zs_I_len c1)
  have g4 : zs_in (x4).toInt 0 5 := (zs_ltl 0 5 r3 h_x4 (zs_rdk (q := 49) (k := 2) (z := (0, 6)) h_σ.1 rfl) (by decide))
  haveI : zs_Ws σ0 x4 := ⟨⟨by have h1 : x4.toInt < (sn_I σ 49 2).toInt := r3; have h2 : (sn_I σ 49 2).toInt = (σ0.1 2 8).toInt := hq; omega⟩⟩
  refine zs_bd_ (zo_whose h_σ g4) (fun t_2 pt_2 => ?_)
  refine zs_gd (zs_gin pt_2 (by decide)) ?_
  refine zs_lt (Q := fun z => zs_in z.toInt 0 1073741823) (zs_rdu (q := 37) (z := (0, 1073741823)) h_σ.1 (fun _ => rfl)) (fun y_5 hy_5 => ?_)
  refine zs_bd_ (zc_229 h_σ g4 zlI_4) (fun t_7 pt_7 => ?_)
  refine zs_lt (Q := fun z => zs_C σ0 z ∧ (sn_I z 49 2).toInt = (σ0.1 2 8).toInt) ⟨zs_wrkt h_σ rfl rfl, hq⟩ (fun σ_9 hσ_9 => ?_)
  refine zs_gd (zs_gin pt_2 (by decide)) ?_
  refine zs_bd_ (zc_451 hσ_9.1 h_x3 g4 hy_5) (fun t_12 pt_12 => ?_)
  refine zs_gd (zs_gin g4 (by decide)) ?_
  refine zs_lt (Q := fun z => zs_C σ0 z ∧ (sn_I z 49 2).toInt = (σ0.1 2 8).toInt) ⟨zs_wrt hσ_9.1 (fun _ => rfl) (fun _ => rfl), hσ_9.2⟩ (fun σ_15 hσ_15 => ?_)
  refine zs_bd_ (zc_450 hσ_15.1 h_x3 g4 hy_5) (fun t_17 pt_17 => ?_)
  refine zs_bd_ (zo_low 30 29 (by decide) pt_17) (fun t_19 pt_19 => ?_)
  refine zs_gd (zs_gin g4 (by decide)) ?_
  refine zs_lt (Q := fun z => zs_C σ0 z ∧ (sn_I z 49 2).toInt = (σ0.1 2 8).toInt) ⟨zs_wru (z := ((-1), 63)) hσ_15.1 (fun _ => rfl) pt_19 (by decide) (fun _ => rfl), hσ_15.2⟩ (fun σ_22 hσ_22 => ?_)
  refine zs_lt (Q := fun z => zs_in z.toInt 1 6 ∧ z.toInt = x4.toInt + 1) ⟨(zs_addI 1 6 g4 zlI_1 (by decide)), (zs_syI 1 (show x4.toInt = x4.toInt + 0 by omega) g4 zlI_1 (by decide) (by decide))⟩ (fun y_24 hy_24 => ?_)
  exact zs_some (zs_inl ⟨⟨hσ_22.1, zs_w hy_24.1 (by decide), hσ_22.2⟩, by show 6 - y_24.toInt < 6 - x4.toInt; have := hy_24.2; omega⟩)
theorem zo_reckon_49_27_1_3 {σ0 : sn_S} {σ : sn_S} (h_σ : zs_C σ0 σ) {x3 : Int32} (h_x3 : zs_in x3.toInt 1 3) : zs_ok (fX3_reckon σ 49 1 27 x3) (fun r => zs_C σ0 r) := by
  unfold fX3_reckon
  have e8 : sn_I σ (1 + 1) (8 : Int32).toNatClampNeg = σ0.1 2 8 := h_σ.2.1 2 8 rfl
  refine zs_gd (by decide) ?_
  refine zs_lt (Q := fun z => zs_C σ0 z ∧ (sn_I z 49 2).toInt = (σ0.1 2 8).toInt) ⟨zs_wrk (z := (0, 6)) h_σ rfl (zs_rdk (q := 2) (k := (8 : Int32).toNatClampNeg) (z := (0, 6)) h_σ.1 rfl) (by decide) rfl, by
    show (sn_I σ (1 + 1) (8 : Int32).toNatClampNeg).toInt = _
    rw [e8]⟩ (fun σ_2 h2 => ?_)
  refine zs_gd (by decide) ?_
  refine zs_lt (Q := fun z => zs_C σ0 z ∧ (sn_I z 49 2).toInt = (σ0.1 2 8).toInt) ⟨zs_wrkt h2.1 rfl rfl, h2.2⟩ (fun σ_5 h5 => ?_)
  refine zs_bd_ (zo_reckon_49_27_1_3_l h_x3 (s0 := (σ_5, (0 : Int32))) ⟨h5.1, (by decide : zs_in (0 : Int32).toInt 0 6), h5.2⟩) (fun t_7 p7 => ?_)
  exact zc_236 p7
-- fX8_moneyInTheEnd
theorem zc_452 {σ0 : sn_S} {σ : sn_S} (h_σ : zs_C σ0 σ) {x1 : Int32} (h_x1 : zs_in x1.toInt 1 3) : zs_ok (fX8_moneyInTheEnd σ x1) (fun r => (True ∧ zs_C σ0 r.2)) := by
  unfold fX8_moneyInTheEnd
  refine zs_bd_ (zo_reckon_49_27_1_3 h_σ h_x1) (fun t_1 pt_1 => ?_)
  refine zs_bd_ (zc_433 pt_1 (zs_subI (-1) 29 (zs_rdk (q := 27) (k := 0) (z := (0, 30)) pt_1.1 rfl) zlI_1 (by decide))) (fun t_3 pt_3 => ?_)
  exact zs_some ⟨trivial, pt_1⟩
-- BX8_law_43
theorem zc_453 {σ0 : sn_S} {σ : sn_S} (h_σ : zs_C σ0 σ) {x1 : Int32} (h_x1 : zs_in x1.toInt 0 3) {x2 : Int32} {x3 : Int32} (h_x3 : zs_in x3.toInt 1 3) {c : Int} (hc : x3.toInt = c + 0) : zs_ok (BX8_law_43 σ x1 x2 x3) (fun r => zs_sum (fun v => ((zs_C σ0 v.1 ∧ (zs_in (v.2.1).toInt 0 3 ∧ (True ∧ zs_in (v.2.2.2).toInt 2 4)))) ∧ v.2.2.2.toInt = c + 1) (fun v => False) r) := by
  unfold BX8_law_43
  refine zs_lt (Q := fun z => zs_in z.toInt 2 4 ∧ z.toInt = c + 1) ⟨(zs_addI 2 4 h_x3 zlI_1 (by decide)), (zs_syI 1 hc h_x3 zlI_1 (by decide) (by decide))⟩ (fun y_1 hy_1 => ?_)
  exact zs_some (zs_inl ⟨⟨h_σ, ⟨h_x1, ⟨trivial, hy_1.1⟩⟩⟩, hy_1.2⟩)
-- BX8_law_43
theorem zc_454 {σ0 : sn_S} {σ : sn_S} (h_σ : zs_C σ0 σ) {x1 : Int32} (h_x1 : zs_in x1.toInt 1 3) {x2 : Int32} (h_x2 : zs_in x2.toInt (-2147483647) 2147483647) {x3 : Int32} (h_x3 : zs_in x3.toInt 1 3) {c : Int} (hc : x3.toInt = c + 0) : zs_ok (BX8_law_43 σ x1 x2 x3) (fun r => zs_sum (fun v => ((zs_C σ0 v.1 ∧ (zs_in (v.2.1).toInt 1 3 ∧ (zs_in (v.2.2.1).toInt (-2147483647) 2147483647 ∧ zs_in (v.2.2.2).toInt 2 4)))) ∧ v.2.2.2.toInt = c + 1) (fun v => False) r) := by
  unfold BX8_law_43
  refine zs_lt (Q := fun z => zs_in z.toInt 2 4 ∧ z.toInt = c + 1) ⟨(zs_addI 2 4 h_x3 zlI_1 (by decide)), (zs_syI 1 hc h_x3 zlI_1 (by decide) (by decide))⟩ (fun y_1 hy_1 => ?_)
  exact zs_some (zs_inl ⟨⟨h_σ, ⟨h_x1, ⟨h_x2, hy_1.1⟩⟩⟩, hy_1.2⟩)
-- BX8_law_20
theorem zc_455 {σ0 : sn_S} {σ : sn_S} (h_σ : zs_C σ0 σ) {x1 : Int32} (h_x1 : zs_in x1.toInt 0 3) {x2 : Int32} {x3 : Int32} (h_x3 : zs_in x3.toInt 1 4) {c : Int} (hc : x3.toInt = c + 0) : zs_ok (BX8_law_20 σ x1 x2 x3) (fun r => zs_sum (fun v => ((zs_C σ0 v.1 ∧ (zs_in (v.2.1).toInt 0 3 ∧ (True ∧ zs_in (v.2.2.2).toInt 2 4)))) ∧ v.2.2.2.toInt = c + 1) (fun v => (zs_C σ0 v.1 ∧ zs_in (v.2).toInt 0 3)) r) := by
  unfold BX8_law_20
  refine zs_ite (fun c1 => ?_) (fun c1 => ?_)
  · skip
    have r2 := (zs_I_le c1)
    have g3 : zs_in (x3).toInt 4 4 := (zs_ler 4 4 r2 zlI_4 h_x3 (by decide))
    exact zs_some (zs_inr (⟨h_σ, h_x1⟩))
  · skip
    have r4 := (zs_I_len c1)
    have g5 : zs_in (x3).toInt 1 3 := (zs_ltl 1 3 r4 h_x3 zlI_4 (by decide))
    refine zs_bd_ (zc_452 h_σ g5) (fun t_2 pt_2 => ?_)
    refine zs_ite (fun c6 => ?_) (fun c6 => ?_)
    · skip
      have r7 := (zs_I_le c6)
      obtain ⟨ret, er, hr⟩ := zc_453 pt_2.2 h_x1 g5 hc
      refine ⟨ret, er, ?_⟩
      exact (zs_sumw hr (fun v w => ⟨w.1, w.2⟩) (fun v w => w.elim))
    · skip
      have r8 := (zs_I_len c6)
      have g9 : zs_in (x2).toInt (-2147483648) 2147483646 := (zs_ltl (-2147483648) 2147483646 r8 (zs_topI _) (zs_topI _) (by decide))
      have g10 : zs_in (t_2.1).toInt (-2147483647) 2147483647 := (zs_ltr (-2147483647) 2147483647 r8 (zs_topI _) (zs_topI _) (by decide))
      obtain ⟨ret, er, hr⟩ := zc_454 pt_2.2 g5 g10 g5 hc
      refine ⟨ret, er, ?_⟩
      exact (zs_sumw hr (fun v w => ⟨⟨w.1.1, ⟨(zs_w w.1.2.1 (by decide)), ⟨trivial, w.1.2.2.2⟩⟩⟩, w.2⟩) (fun v w => w.elim))
theorem zd_81 {σ0 : sn_S}  {s0 : (sn_S × (Int32 × (Int32 × Int32)))} (h0 : (zs_C σ0 s0.1 ∧ (zs_in (s0.2.1).toInt 0 3 ∧ (True ∧ zs_in (s0.2.2.2).toInt 1 4)))) : zs_ok (sn_it (LX8_law_20) 5000 s0) (fun t => (zs_C σ0 t.1 ∧ zs_in (t.2).toInt 0 3)) := by
  refine zs_it (I := fun s => (zs_C σ0 s.1 ∧ (zs_in (s.2.1).toInt 0 3 ∧ (True ∧ zs_in (s.2.2.2).toInt 1 4)))) (m := fun s => 4 - s.2.2.2.toInt) (fun s hs => ?_) (fun s hs => ?_) (by exact h0)
  · have h1 := hs.2.2.2; unfold zs_in at h1
    omega
  · obtain ⟨b, eb, hb⟩ := zc_455 hs.1 hs.2.1 hs.2.2.2 (c := s.2.2.2.toInt) (Int.add_zero _).symm
    exact ⟨b, eb, zs_sumw hb (fun v w => ⟨⟨w.1.1, ⟨w.1.2.1, ⟨w.1.2.2.1, (zs_w w.1.2.2.2 (by decide))⟩⟩⟩, by have := w.2; omega⟩) (fun v w => w)⟩
-- BX8_law_49
theorem zc_456 {σ0 : sn_S} {σ : sn_S} (h_σ : zs_C σ0 σ) {x1 : Int32} (h_x1 : zs_in x1.toInt 0 3) : zs_ok (BX8_law_49 σ x1) (fun r => (zs_in (r.1).toInt 0 3 ∧ zs_C σ0 r.2)) := by
  unfold BX8_law_49
  exact zs_some ⟨h_x1, h_σ⟩
-- fX8_law
theorem zc_457 {σ0 : sn_S} {σ : sn_S} (h_σ : zs_C σ0 σ) : zs_ok (fX8_law σ) (fun r => (zs_in (r.1).toInt (-2) 3 ∧ zs_C σ0 r.2)) := by
  unfold fX8_law
  refine zs_bd_ (zc_102 h_σ) (fun t_1 pt_1 => ?_)
  refine zs_ite (fun c1 => ?_) (fun c1 => ?_)
  · skip
    have r2 := (zs_I_eq c1)
    have g3 : zs_in (t_1).toInt 0 0 := (zs_eql 0 0 r2 pt_1 zlI_0 (by decide))
    exact zs_some ⟨(zs_w zlI_m2 (by decide)), h_σ⟩
  · skip
    have r4 := (zs_I_eqn c1)
    have g5 : zs_in (t_1).toInt 1 1 := (zs_nel 1 1 r4 pt_1 zlI_0 (by decide))
    refine zs_bd_ (zc_449 h_σ zlI_0) (fun t_4 pt_4 => ?_)
    refine zs_bd_ (zd_81  (s0 := (t_4.2, ((0 : Int32), (t_4.1, (1 : Int32))))) ⟨pt_4.2, ⟨(zs_w zlI_0 (by decide)), ⟨trivial, (zs_w zlI_1 (by decide))⟩⟩⟩) (fun t_6 pt_6 => ?_)
    obtain ⟨ret, er, hr⟩ := zc_456 pt_6.1 pt_6.2
    refine ⟨ret, er, ?_⟩
    exact ⟨(zs_w hr.1 (by decide)), hr.2⟩
-- fX9_byLaw
theorem zc_458 {σ0 : sn_S} {σ : sn_S} (h_σ : zs_M σ0 σ) {x1 : Int32} (h_x1 : zs_in x1.toInt 1 3) : zs_ok (fX9_byLaw σ x1) (fun r => (True ∧ zs_M σ0 r.2)) := by
  unfold fX9_byLaw
  refine zs_lt (Q := fun z => zs_M σ0 z) (zs_wrkt h_σ rfl rfl) (fun σ_1 hσ_1 => ?_)
  refine zs_bd_ (zc_299 hσ_1) (fun t_3 pt_3 => ?_)
  refine zs_bd_ (zc_444 pt_3 (zs_rdk (q := 0) (k := 22) (z := ((-1), 29)) pt_3.1 rfl)) (fun t_5 pt_5 => ?_)
  exact zs_some ⟨trivial, pt_3⟩
-- BX9_law_37
theorem zc_459 {σ0 : sn_S} {σ : sn_S} (h_σ : zs_M σ0 σ) {x1 : Int32} (h_x1 : zs_in x1.toInt 0 3) {x2 : Int32} (h_x2 : zs_in x2.toInt 1 3) {t0 : Int32} (h_t0 : zs_in t0.toInt 0 3) {c : Int} (hc : x2.toInt = c + 0) : zs_ok (BX9_law_37 σ x1 x2 t0) (fun r => zs_sum (fun v => ((zs_M σ0 v.1 ∧ (zs_in (v.2.1).toInt 0 3 ∧ zs_in (v.2.2).toInt 2 4))) ∧ v.2.2.toInt = c + 1) (fun v => False) r) := by
  unfold BX9_law_37
  refine zs_lt (Q := fun z => zs_in z.toInt 2 4 ∧ z.toInt = c + 1) ⟨(zs_addI 2 4 h_x2 zlI_1 (by decide)), (zs_syI 1 hc h_x2 zlI_1 (by decide) (by decide))⟩ (fun y_1 hy_1 => ?_)
  exact zs_some (zs_inl ⟨⟨h_σ, ⟨h_t0, hy_1.1⟩⟩, hy_1.2⟩)
-- BX9_law_37
theorem zc_460 {σ0 : sn_S} {σ : sn_S} (h_σ : zs_M σ0 σ) {x1 : Int32} (h_x1 : zs_in x1.toInt 0 3) {x2 : Int32} (h_x2 : zs_in x2.toInt 1 3) {t0 : Int32} (h_t0 : zs_in t0.toInt 1 3) {c : Int} (hc : x2.toInt = c + 0) : zs_ok (BX9_law_37 σ x1 x2 t0) (fun r => zs_sum (fun v => ((zs_M σ0 v.1 ∧ (zs_in (v.2.1).toInt 1 3 ∧ zs_in (v.2.2).toInt 2 4))) ∧ v.2.2.toInt = c + 1) (fun v => False) r) := by
  unfold BX9_law_37
  refine zs_lt (Q := fun z => zs_in z.toInt 2 4 ∧ z.toInt = c + 1) ⟨(zs_addI 2 4 h_x2 zlI_1 (by decide)), (zs_syI 1 hc h_x2 zlI_1 (by decide) (by decide))⟩ (fun y_1 hy_1 => ?_)
  exact zs_some (zs_inl ⟨⟨h_σ, ⟨h_t0, hy_1.1⟩⟩, hy_1.2⟩)
-- BX9_law_14
theorem zc_461 {σ0 : sn_S} {σ : sn_S} (h_σ : zs_M σ0 σ) {x1 : Int32} (h_x1 : zs_in x1.toInt 0 3) {x2 : Int32} (h_x2 : zs_in x2.toInt 1 4) {c : Int} (hc : x2.toInt = c + 0) : zs_ok (BX9_law_14 σ x1 x2) (fun r => zs_sum (fun v => ((zs_M σ0 v.1 ∧ (zs_in (v.2.1).toInt 0 3 ∧ zs_in (v.2.2).toInt 2 4))) ∧ v.2.2.toInt = c + 1) (fun v => (zs_M σ0 v.1 ∧ zs_in (v.2).toInt 0 3)) r) := by
  unfold BX9_law_14
  refine zs_ite (fun c1 => ?_) (fun c1 => ?_)
  · skip
    have r2 := (zs_I_le c1)
    have g3 : zs_in (x2).toInt 4 4 := (zs_ler 4 4 r2 zlI_4 h_x2 (by decide))
    exact zs_some (zs_inr (⟨h_σ, h_x1⟩))
  · skip
    have r4 := (zs_I_len c1)
    have g5 : zs_in (x2).toInt 1 3 := (zs_ltl 1 3 r4 h_x2 zlI_4 (by decide))
    refine zs_bd_ (zc_458 h_σ g5) (fun t_2 pt_2 => ?_)
    refine zs_bd_ (zc_445 pt_2.2 h_x1) (fun t_4 pt_4 => ?_)
    refine zs_ite (fun c6 => ?_) (fun c6 => ?_)
    · skip
      have r7 := (zs_I_le c6)
      obtain ⟨ret, er, hr⟩ := zc_459 pt_4.2 h_x1 g5 h_x1 hc
      refine ⟨ret, er, ?_⟩
      exact (zs_sumw hr (fun v w => ⟨w.1, w.2⟩) (fun v w => w.elim))
    · skip
      have r8 := (zs_I_len c6)
      have g9 : zs_in (t_4.1).toInt (-2147483648) 2147483646 := (zs_ltl (-2147483648) 2147483646 r8 (zs_topI _) (zs_topI _) (by decide))
      have g10 : zs_in (t_2.1).toInt (-2147483647) 2147483647 := (zs_ltr (-2147483647) 2147483647 r8 (zs_topI _) (zs_topI _) (by decide))
      obtain ⟨ret, er, hr⟩ := zc_460 pt_4.2 h_x1 g5 g5 hc
      refine ⟨ret, er, ?_⟩
      exact (zs_sumw hr (fun v w => ⟨⟨w.1.1, ⟨(zs_w w.1.2.1 (by decide)), w.1.2.2⟩⟩, w.2⟩) (fun v w => w.elim))
theorem zd_82 {σ0 : sn_S}  {s0 : (sn_S × (Int32 × Int32))} (h0 : (zs_M σ0 s0.1 ∧ (zs_in (s0.2.1).toInt 0 3 ∧ zs_in (s0.2.2).toInt 1 4))) : zs_ok (sn_it (LX9_law_14) 5000 s0) (fun t => (zs_M σ0 t.1 ∧ zs_in (t.2).toInt 0 3)) := by
  refine zs_it (I := fun s => (zs_M σ0 s.1 ∧ (zs_in (s.2.1).toInt 0 3 ∧ zs_in (s.2.2).toInt 1 4))) (m := fun s => 4 - s.2.2.toInt) (fun s hs => ?_) (fun s hs => ?_) (by exact h0)
  · have h1 := hs.2.2; unfold zs_in at h1
    omega
  · obtain ⟨b, eb, hb⟩ := zc_461 hs.1 hs.2.1 hs.2.2 (c := s.2.2.toInt) (Int.add_zero _).symm
    exact ⟨b, eb, zs_sumw hb (fun v w => ⟨⟨w.1.1, ⟨w.1.2.1, (zs_w w.1.2.2 (by decide))⟩⟩, by have := w.2; omega⟩) (fun v w => w)⟩
-- BX9_law_44
theorem zc_462 {σ0 : sn_S} {σ : sn_S} (h_σ : zs_M σ0 σ) {x1 : Int32} (h_x1 : zs_in x1.toInt 0 3) : zs_ok (BX9_law_44 σ x1) (fun r => (zs_in (r.1).toInt 0 3 ∧ zs_M σ0 r.2)) := by
  unfold BX9_law_44
  exact zs_some ⟨h_x1, h_σ⟩
-- fX9_law
theorem zc_463 {σ0 : sn_S} {σ : sn_S} (h_σ : zs_M σ0 σ) : zs_ok (fX9_law σ) (fun r => (zs_in (r.1).toInt (-2) 3 ∧ zs_M σ0 r.2)) := by
  unfold fX9_law
  refine zs_bd_ (zc_92 h_σ) (fun t_1 pt_1 => ?_)
  refine zs_ite (fun c1 => ?_) (fun c1 => ?_)
  · skip
    have r2 := (zs_I_eq c1)
    have g3 : zs_in (t_1.1).toInt 0 0 := (zs_eql 0 0 r2 pt_1.1 zlI_0 (by decide))
    exact zs_some ⟨(zs_w zlI_m2 (by decide)), pt_1.2⟩
  · skip
    have r4 := (zs_I_eqn c1)
    have g5 : zs_in (t_1.1).toInt 1 1 := (zs_nel 1 1 r4 pt_1.1 zlI_0 (by decide))
    refine zs_bd_ (zd_82  (s0 := (t_1.2, ((0 : Int32), (1 : Int32)))) ⟨pt_1.2, ⟨(zs_w zlI_0 (by decide)), (zs_w zlI_1 (by decide))⟩⟩) (fun t_4 pt_4 => ?_)
    obtain ⟨ret, er, hr⟩ := zc_462 pt_4.1 pt_4.2
    refine ⟨ret, er, ?_⟩
    exact ⟨(zs_w hr.1 (by decide)), hr.2⟩
-- fX8_claimAsIfOf
theorem zc_464 {σ0 : sn_S} {σ : sn_S} (h_σ : zs_C σ0 σ) {x1 : Int32} (h_x1 : zs_in x1.toInt 0 5) {x2 : Int32} (h_x2 : zs_in x2.toInt 0 5) : zs_ok (fX8_claimAsIfOf σ x1 x2) (fun r => True) := by
  unfold fX8_claimAsIfOf
  refine zs_gd (zs_gin zlI_2 (by decide)) ?_
  refine zs_gd (zs_gin h_x1 (by decide)) ?_
  refine zs_gd (zs_gin h_x1 (by decide)) ?_
  refine zs_bd_ (zc_235 h_σ (zs_rdk (q := 2) (k := (2 : Int32).toNatClampNeg) (z := (0, 3)) h_σ.1 rfl) h_x2 (zs_rdu (q := 37) (z := (0, 1073741823)) h_σ.1 (fun _ => rfl))) (fun t_4 pt_4 => ?_)
  exact zs_some trivial
-- fX8_gainBy
theorem zc_465 {σ0 : sn_S} {σ : sn_S} (h_σ : zs_C σ0 σ) {x1 : Int32} (h_x1 : zs_in x1.toInt 0 5) {x2 : Int32} (h_x2 : zs_in x2.toInt 0 5) : zs_ok (fX8_gainBy σ x1 x2) (fun r => True) := by
  unfold fX8_gainBy
  refine zs_bd_ (zc_464 h_σ h_x1 h_x2) (fun t_1 pt_1 => ?_)
  refine zs_bd_ (zc_229 h_σ h_x2 zlI_4) (fun t_3 pt_3 => ?_)
  exact zs_some trivial
-- BX8_bestOfMenu_43
theorem zc_466 {σ0 : sn_S} {σ : sn_S} (h_σ : zs_C σ0 σ) {x1 : Int32} (h_x1 : zs_in x1.toInt 0 5) {x2 : Int32} (h_x2 : zs_in x2.toInt (-1) 5) {x3 : Int32} (h_x3 : zs_in x3.toInt 0 2147483647) {x4 : Int32} (h_x4 : zs_in x4.toInt 0 5) {c : Int} (hc : x4.toInt = c + 0) : zs_ok (BX8_bestOfMenu_43 σ x1 x2 x3 x4) (fun r => zs_sum (fun v => ((zs_in (v.1).toInt (-1) 5 ∧ (zs_in (v.2.1).toInt 0 2147483647 ∧ zs_in (v.2.2).toInt 1 6))) ∧ v.2.2.toInt = c + 1) (fun v => False) r) := by
  unfold BX8_bestOfMenu_43
  refine zs_lt (Q := fun z => zs_in z.toInt 1 6 ∧ z.toInt = c + 1) ⟨(zs_addI 1 6 h_x4 zlI_1 (by decide)), (zs_syI 1 hc h_x4 zlI_1 (by decide) (by decide))⟩ (fun y_1 hy_1 => ?_)
  exact zs_some (zs_inl ⟨⟨h_x2, ⟨h_x3, hy_1.1⟩⟩, hy_1.2⟩)
-- BX8_bestOfMenu_43
theorem zc_467 {σ0 : sn_S} {σ : sn_S} (h_σ : zs_C σ0 σ) {x1 : Int32} (h_x1 : zs_in x1.toInt 0 5) {x2 : Int32} (h_x2 : zs_in x2.toInt 0 5) {x3 : Int32} (h_x3 : zs_in x3.toInt 1 2147483647) {x4 : Int32} (h_x4 : zs_in x4.toInt 0 5) {c : Int} (hc : x4.toInt = c + 0) : zs_ok (BX8_bestOfMenu_43 σ x1 x2 x3 x4) (fun r => zs_sum (fun v => ((zs_in (v.1).toInt 0 5 ∧ (zs_in (v.2.1).toInt 1 2147483647 ∧ zs_in (v.2.2).toInt 1 6))) ∧ v.2.2.toInt = c + 1) (fun v => False) r) := by
  unfold BX8_bestOfMenu_43
  refine zs_lt (Q := fun z => zs_in z.toInt 1 6 ∧ z.toInt = c + 1) ⟨(zs_addI 1 6 h_x4 zlI_1 (by decide)), (zs_syI 1 hc h_x4 zlI_1 (by decide) (by decide))⟩ (fun y_1 hy_1 => ?_)
  exact zs_some (zs_inl ⟨⟨h_x2, ⟨h_x3, hy_1.1⟩⟩, hy_1.2⟩)
-- BX8_bestOfMenu_7
theorem zc_468 {σ0 : sn_S} {σ : sn_S} (h_σ : zs_C σ0 σ) {x1 : Int32} (h_x1 : zs_in x1.toInt 0 5) {x2 : Int32} (h_x2 : zs_in x2.toInt (-1) 5) {x3 : Int32} (h_x3 : zs_in x3.toInt 0 2147483647) {x4 : Int32} (h_x4 : zs_in x4.toInt 0 6) {c : Int} (hc : x4.toInt = c + 0) : zs_ok (BX8_bestOfMenu_7 σ x1 x2 x3 x4) (fun r => zs_sum (fun v => ((zs_in (v.1).toInt (-1) 5 ∧ (zs_in (v.2.1).toInt 0 2147483647 ∧ zs_in (v.2.2).toInt 1 6))) ∧ v.2.2.toInt = c + 1) (fun v => zs_in (v).toInt (-1) 5) r) := by
  unfold BX8_bestOfMenu_7
  refine zs_gd (zs_gin zlI_8 (by decide)) ?_
  refine zs_ite (fun c1 => ?_) (fun c1 => ?_)
  · skip
    have r2 := (zs_I_le c1)
    exact zs_some (zs_inr (h_x2))
  · skip
    have r3 := (zs_I_len c1)
    have g4 : zs_in (x4).toInt 0 5 := (zs_ltl 0 5 r3 h_x4 (zs_rdk (q := 2) (k := (8 : Int32).toNatClampNeg) (z := (0, 6)) h_σ.1 rfl) (by decide))
    have g5 : zs_in ((sn_I σ (1 + 1) (8 : Int32).toNatClampNeg)).toInt 1 6 := (zs_ltr 1 6 r3 h_x4 (zs_rdk (q := 2) (k := (8 : Int32).toNatClampNeg) (z := (0, 6)) h_σ.1 rfl) (by decide))
    refine zs_bd_ (zc_465 h_σ h_x1 g4) (fun t_3 pt_3 => ?_)
    refine zs_ite (fun c6 => ?_) (fun c6 => ?_)
    · skip
      have r7 := (zs_I_le c6)
      obtain ⟨ret, er, hr⟩ := zc_466 h_σ h_x1 h_x2 h_x3 g4 hc
      refine ⟨ret, er, ?_⟩
      exact (zs_sumw hr (fun v w => ⟨w.1, w.2⟩) (fun v w => w.elim))
    · skip
      have r8 := (zs_I_len c6)
      have g9 : zs_in (x3).toInt 0 2147483646 := (zs_ltl 0 2147483646 r8 h_x3 (zs_topI _) (by decide))
      have g10 : zs_in (t_3).toInt 1 2147483647 := (zs_ltr 1 2147483647 r8 h_x3 (zs_topI _) (by decide))
      obtain ⟨ret, er, hr⟩ := zc_467 h_σ h_x1 g4 g10 g4 hc
      refine ⟨ret, er, ?_⟩
      exact (zs_sumw hr (fun v w => ⟨⟨(zs_w w.1.1 (by decide)), ⟨(zs_w w.1.2.1 (by decide)), w.1.2.2⟩⟩, w.2⟩) (fun v w => w.elim))
theorem zd_83 {σ0 : sn_S} {σ : sn_S} (h_σ : zs_C σ0 σ) {x1 : Int32} (h_x1 : zs_in x1.toInt 0 5) {s0 : (Int32 × (Int32 × Int32))} (h0 : (zs_in (s0.1).toInt (-1) 5 ∧ (zs_in (s0.2.1).toInt 0 2147483647 ∧ zs_in (s0.2.2).toInt 0 6))) : zs_ok (sn_it (LX8_bestOfMenu_7 σ x1) 5000 s0) (fun t => zs_in (t).toInt (-1) 5) := by
  refine zs_it (I := fun s => (zs_in (s.1).toInt (-1) 5 ∧ (zs_in (s.2.1).toInt 0 2147483647 ∧ zs_in (s.2.2).toInt 0 6))) (m := fun s => 6 - s.2.2.toInt) (fun s hs => ?_) (fun s hs => ?_) (by exact h0)
  · have h1 := hs.2.2; unfold zs_in at h1
    omega
  · obtain ⟨b, eb, hb⟩ := zc_468 h_σ h_x1 hs.1 hs.2.1 hs.2.2 (c := s.2.2.toInt) (Int.add_zero _).symm
    exact ⟨b, eb, zs_sumw hb (fun v w => ⟨⟨w.1.1, ⟨w.1.2.1, (zs_w w.1.2.2 (by decide))⟩⟩, by have := w.2; omega⟩) (fun v w => w)⟩
-- BX8_bestOfMenu_49
theorem zc_469 {σ0 : sn_S} {σ : sn_S} (h_σ : zs_C σ0 σ) {x2 : Int32} (h_x2 : zs_in x2.toInt (-1) 5) : zs_ok (BX8_bestOfMenu_49 σ x2) (fun r => zs_in (r).toInt (-1) 5) := by
  unfold BX8_bestOfMenu_49
  exact zs_some h_x2
-- fX8_bestOfMenu
theorem zc_470 {σ0 : sn_S} {σ : sn_S} (h_σ : zs_C σ0 σ) {x1 : Int32} (h_x1 : zs_in x1.toInt 0 5) : zs_ok (fX8_bestOfMenu σ x1) (fun r => zs_in (r).toInt (-1) 5) := by
  unfold fX8_bestOfMenu
  refine zs_bd_ (zd_83 h_σ h_x1 (s0 := ((-1 : Int32), ((0 : Int32), (0 : Int32)))) ⟨(zs_w zlI_m1 (by decide)), ⟨(zs_w zlI_0 (by decide)), (zs_w zlI_0 (by decide))⟩⟩) (fun t_1 pt_1 => ?_)
  obtain ⟨ret, er, hr⟩ := zc_469 h_σ pt_1
  refine ⟨ret, er, ?_⟩
  exact hr
-- fX8_takes
theorem zc_471 {σ0 : sn_S} {σ : sn_S} (h_σ : zs_C σ0 σ) {x1 : Int32} : zs_ok (fX8_takes σ x1) (fun r => (zs_in (r).toInt (-2) 5) ∧ ((r).toInt = (-2) ∨ (zs_in (x1).toInt 0 5))) := by
  unfold fX8_takes
  refine zs_bd_ (zc_3 h_σ) (fun t_1 pt_1 => ?_)
  refine zs_ite (fun c1 => ?_) (fun c1 => ?_)
  · skip
    have r2 := (zs_I_eq c1)
    have g3 : zs_in (t_1).toInt 0 0 := (zs_eql 0 0 r2 pt_1.1 zlI_0 (by decide))
    exact zs_some ⟨(zs_w zlI_m2 (by decide)), Or.inl (zs_ptr zlI_m2)⟩
  · skip
    have r4 := (zs_I_eqn c1)
    have g5 : zs_in (t_1).toInt 1 1 := (zs_nel 1 1 r4 pt_1.1 zlI_0 (by decide))
    have q6 := (zs_or2 pt_1.2 g5 (by decide))
    have g7 : zs_in (x1).toInt 0 5 := q6
    refine zs_bd_ (zc_470 h_σ g7) (fun t_4 pt_4 => ?_)
    exact zs_some ⟨(zs_w pt_4 (by decide)), Or.inr g7⟩
-- BX9_takesBy_73
theorem zc_472 {σ0 : sn_S} {σ : sn_S} (h_σ : zs_M σ0 σ) {x1 : Int32} (h_x1 : zs_in x1.toInt 0 5) {x2 : Int32} (h_x2 : zs_in x2.toInt (-1) (-1)) {x3 : Int32} (h_x3 : zs_in x3.toInt 0 0) {x4 : Int32} (h_x4 : zs_in x4.toInt 0 5) {x5 : Int32} (h_x5 : zs_in x5.toInt 0 5) {c : Int} (hc : x5.toInt = c + 0) : zs_ok (BX9_takesBy_73 σ x1 x2 x3 x4 x5) (fun r => zs_sum (fun v => ((zs_M σ0 v.1 ∧ (zs_in (v.2.1).toInt 0 5 ∧ zs_in (v.2.2).toInt 1 6))) ∧ v.2.2.toInt = c + 1) (fun v => False) r) := by
  unfold BX9_takesBy_73
  obtain rfl : x2 = (-1 : Int32) := zs_eqv h_x2 (by decide)
  obtain rfl : x3 = (0 : Int32) := zs_eqv h_x3 (by decide)
  refine zs_lt (Q := fun z => zs_in z.toInt 1 6 ∧ z.toInt = c + 1) ⟨(zs_addI 1 6 h_x5 zlI_1 (by decide)), (zs_syI 1 hc h_x5 zlI_1 (by decide) (by decide))⟩ (fun y_1 hy_1 => ?_)
  exact zs_some (zs_inl ⟨⟨h_σ, ⟨h_x4, hy_1.1⟩⟩, hy_1.2⟩)
-- BX9_takesBy_73
theorem zc_473 {σ0 : sn_S} {σ : sn_S} (h_σ : zs_M σ0 σ) {x1 : Int32} (h_x1 : zs_in x1.toInt 0 5) {x2 : Int32} (h_x2 : zs_in x2.toInt (-1) (-1)) {x3 : Int32} (h_x3 : zs_in x3.toInt 0 0) {x4 : Int32} (h_x4 : zs_in x4.toInt (-1) 5) {x5 : Int32} (h_x5 : zs_in x5.toInt 0 5) {c : Int} (hc : x5.toInt = c + 0) : zs_ok (BX9_takesBy_73 σ x1 x2 x3 x4 x5) (fun r => zs_sum (fun v => ((zs_M σ0 v.1 ∧ (zs_in (v.2.1).toInt (-1) 5 ∧ zs_in (v.2.2).toInt 1 6))) ∧ v.2.2.toInt = c + 1) (fun v => False) r) := by
  unfold BX9_takesBy_73
  obtain rfl : x2 = (-1 : Int32) := zs_eqv h_x2 (by decide)
  obtain rfl : x3 = (0 : Int32) := zs_eqv h_x3 (by decide)
  refine zs_lt (Q := fun z => zs_in z.toInt 1 6 ∧ z.toInt = c + 1) ⟨(zs_addI 1 6 h_x5 zlI_1 (by decide)), (zs_syI 1 hc h_x5 zlI_1 (by decide) (by decide))⟩ (fun y_1 hy_1 => ?_)
  exact zs_some (zs_inl ⟨⟨h_σ, ⟨h_x4, hy_1.1⟩⟩, hy_1.2⟩)
-- BX9_takesBy_48
theorem zc_474 {σ0 : sn_S} {σ : sn_S} (h_σ : zs_M σ0 σ) {x1 : Int32} (h_x1 : zs_in x1.toInt 0 5) {x2 : Int32} (h_x2 : zs_in x2.toInt (-1) (-1)) {x3 : Int32} (h_x3 : zs_in x3.toInt 0 0) {x4 : Int32} (h_x4 : zs_in x4.toInt (-1) 5) {x5 : Int32} (h_x5 : zs_in x5.toInt 0 5) {t0 : Int32} {t1 : Int32} (h_t1 : zs_in t1.toInt 0 99) {c : Int} (hc : x5.toInt = c + 0) : zs_ok (BX9_takesBy_48 σ x1 x2 x3 x4 x5 t0 t1) (fun r => zs_sum (fun v => ((zs_M σ0 v.1 ∧ (zs_in (v.2.1).toInt (-1) 5 ∧ zs_in (v.2.2).toInt 1 6))) ∧ v.2.2.toInt = c + 1) (fun v => False) r) := by
  unfold BX9_takesBy_48
  obtain rfl : x2 = (-1 : Int32) := zs_eqv h_x2 (by decide)
  obtain rfl : x3 = (0 : Int32) := zs_eqv h_x3 (by decide)
  refine zs_lt (Q := fun z => True) trivial (fun y_1 hy_1 => ?_)
  refine zs_ite (fun c1 => ?_) (fun c1 => ?_)
  · skip
    have r2 := (zs_I_lt c1)
    have g3 : zs_in ((sn_I σ 0 31)).toInt (-2147483648) 2147483646 := (zs_ltl (-2147483648) 2147483646 r2 (zs_topI _) (zs_topI _) (by decide))
    have g4 : zs_in (y_1).toInt (-2147483647) 2147483647 := (zs_ltr (-2147483647) 2147483647 r2 (zs_topI _) (zs_topI _) (by decide))
    refine zs_lt (Q := fun z => zs_M σ0 z) (zs_wrkt h_σ rfl rfl) (fun σ_4 hσ_4 => ?_)
    obtain ⟨ret, er, hr⟩ := zc_472 hσ_4 h_x1 h_x2 h_x3 h_x5 h_x5 hc
    refine ⟨ret, er, ?_⟩
    exact (zs_sumw hr (fun v w => ⟨⟨w.1.1, ⟨(zs_w w.1.2.1 (by decide)), w.1.2.2⟩⟩, w.2⟩) (fun v w => w.elim))
  · skip
    have r5 := (zs_I_ltn c1)
    obtain ⟨ret, er, hr⟩ := zc_473 h_σ h_x1 h_x2 h_x3 h_x4 h_x5 hc
    refine ⟨ret, er, ?_⟩
    exact (zs_sumw hr (fun v w => ⟨w.1, w.2⟩) (fun v w => w.elim))
-- BX9_takesBy_11
theorem zc_475 {σ0 : sn_S} {σ : sn_S} (h_σ : zs_M σ0 σ) {x1 : Int32} (h_x1 : zs_in x1.toInt 0 5) {x2 : Int32} (h_x2 : zs_in x2.toInt (-1) (-1)) {x3 : Int32} (h_x3 : zs_in x3.toInt 0 0) {x4 : Int32} (h_x4 : zs_in x4.toInt (-1) 5) {x5 : Int32} (h_x5 : zs_in x5.toInt 0 6) {c : Int} (hc : x5.toInt = c + 0) : zs_ok (BX9_takesBy_11 σ x1 x2 x3 x4 x5) (fun r => zs_sum (fun v => ((zs_M σ0 v.1 ∧ (zs_in (v.2.1).toInt (-1) 5 ∧ zs_in (v.2.2).toInt 1 6))) ∧ v.2.2.toInt = c + 1) (fun v => (zs_M σ0 v.1 ∧ zs_in (v.2).toInt (-1) 5)) r) := by
  unfold BX9_takesBy_11
  obtain rfl : x2 = (-1 : Int32) := zs_eqv h_x2 (by decide)
  obtain rfl : x3 = (0 : Int32) := zs_eqv h_x3 (by decide)
  refine zs_gd (zs_gin zlI_8 (by decide)) ?_
  refine zs_ite (fun c1 => ?_) (fun c1 => ?_)
  · skip
    have r2 := (zs_I_le c1)
    exact zs_some (zs_inr (⟨h_σ, h_x4⟩))
  · skip
    have r3 := (zs_I_len c1)
    have g4 : zs_in (x5).toInt 0 5 := (zs_ltl 0 5 r3 h_x5 (zs_rdk (q := 1) (k := (8 : Int32).toNatClampNeg) (z := (0, 6)) h_σ.1 rfl) (by decide))
    have g5 : zs_in ((sn_I σ 1 (8 : Int32).toNatClampNeg)).toInt 1 6 := (zs_ltr 1 6 r3 h_x5 (zs_rdk (q := 1) (k := (8 : Int32).toNatClampNeg) (z := (0, 6)) h_σ.1 rfl) (by decide))
    refine zs_bd_ (zc_261 h_σ g4 h_x1 zlI_0) (fun t_3 pt_3 => ?_)
    refine zs_ite (fun c6 => ?_) (fun c6 => ?_)
    · skip
      have r7 := (zs_I_eq c6)
      exact (zs_botr r7 g4 h_x2 (by decide)).elim
    · skip
      have r8 := (zs_I_eqn c6)
      refine zs_bd_ (zc_240 pt_3.2 g4 zlI_4) (fun t_6 pt_6 => ?_)
      obtain ⟨ret, er, hr⟩ := zc_474 pt_3.2 h_x1 h_x2 h_x3 h_x4 g4 pt_6 hc
      refine ⟨ret, er, ?_⟩
      exact (zs_sumw hr (fun v w => ⟨w.1, w.2⟩) (fun v w => w.elim))
theorem zd_84 {σ0 : sn_S} {x1 : Int32} (h_x1 : zs_in x1.toInt 0 5) {x2 : Int32} (h_x2 : zs_in x2.toInt (-1) (-1)) {x3 : Int32} (h_x3 : zs_in x3.toInt 0 0) {s0 : (sn_S × (Int32 × Int32))} (h0 : (zs_M σ0 s0.1 ∧ (zs_in (s0.2.1).toInt (-1) 5 ∧ zs_in (s0.2.2).toInt 0 6))) : zs_ok (sn_it (LX9_takesBy_11 x1 x2 x3) 5000 s0) (fun t => (zs_M σ0 t.1 ∧ zs_in (t.2).toInt (-1) 5)) := by
  refine zs_it (I := fun s => (zs_M σ0 s.1 ∧ (zs_in (s.2.1).toInt (-1) 5 ∧ zs_in (s.2.2).toInt 0 6))) (m := fun s => 6 - s.2.2.toInt) (fun s hs => ?_) (fun s hs => ?_) (by exact h0)
  · have h1 := hs.2.2; unfold zs_in at h1
    omega
  · obtain ⟨b, eb, hb⟩ := zc_475 hs.1 h_x1 h_x2 h_x3 hs.2.1 hs.2.2 (c := s.2.2.toInt) (Int.add_zero _).symm
    exact ⟨b, eb, zs_sumw hb (fun v w => ⟨⟨w.1.1, ⟨w.1.2.1, (zs_w w.1.2.2 (by decide))⟩⟩, by have := w.2; omega⟩) (fun v w => w)⟩
-- BX9_takesBy_79
theorem zc_476 {σ0 : sn_S} {σ : sn_S} (h_σ : zs_M σ0 σ) {x4 : Int32} (h_x4 : zs_in x4.toInt (-1) 5) : zs_ok (BX9_takesBy_79 σ x4) (fun r => (zs_in (r.1).toInt (-1) 5 ∧ zs_M σ0 r.2)) := by
  unfold BX9_takesBy_79
  exact zs_some ⟨h_x4, h_σ⟩
-- fX9_takesBy
theorem zc_477 {σ0 : sn_S} {σ : sn_S} (h_σ : zs_M σ0 σ) {x1 : Int32} (h_x1 : zs_in x1.toInt 0 5) {x2 : Int32} (h_x2 : zs_in x2.toInt (-1) (-1)) {x3 : Int32} (h_x3 : zs_in x3.toInt 0 0) : zs_ok (fX9_takesBy σ x1 x2 x3) (fun r => (zs_in (r.1).toInt (-1) 5 ∧ zs_M σ0 r.2)) := by
  unfold fX9_takesBy
  obtain rfl : x2 = (-1 : Int32) := zs_eqv h_x2 (by decide)
  obtain rfl : x3 = (0 : Int32) := zs_eqv h_x3 (by decide)
  refine zs_lt (Q := fun z => zs_M σ0 z) (zs_wrkt h_σ rfl rfl) (fun σ_1 hσ_1 => ?_)
  refine zs_bd_ (zd_84 h_x1 h_x2 h_x3 (s0 := (σ_1, ((-1 : Int32), (0 : Int32)))) ⟨hσ_1, ⟨(zs_w zlI_m1 (by decide)), (zs_w zlI_0 (by decide))⟩⟩) (fun t_3 pt_3 => ?_)
  obtain ⟨ret, er, hr⟩ := zc_476 pt_3.1 pt_3.2
  refine ⟨ret, er, ?_⟩
  exact hr
-- fX9_takes_
theorem zc_478 {σ0 : sn_S} {σ : sn_S} (h_σ : zs_M σ0 σ) {x1 : Int32} : zs_ok (fX9_takes_ σ x1) (fun r => ((zs_in (r.1).toInt (-2) 5 ∧ zs_M σ0 r.2)) ∧ ((r.1).toInt = (-2) ∨ (zs_in (x1).toInt 0 5))) := by
  unfold fX9_takes_
  refine zs_bd_ (zc_98 h_σ) (fun t_1 pt_1 => ?_)
  refine zs_ite (fun c1 => ?_) (fun c1 => ?_)
  · skip
    have r2 := (zs_I_eq c1)
    have g3 : zs_in (t_1.1).toInt 0 0 := (zs_eql 0 0 r2 pt_1.1.1 zlI_0 (by decide))
    exact zs_some ⟨⟨(zs_w zlI_m2 (by decide)), pt_1.1.2⟩, Or.inl (zs_ptr zlI_m2)⟩
  · skip
    have r4 := (zs_I_eqn c1)
    have g5 : zs_in (t_1.1).toInt 1 1 := (zs_nel 1 1 r4 pt_1.1.1 zlI_0 (by decide))
    have q6 := (zs_or2 pt_1.2 g5 (by decide))
    have g7 : zs_in (x1).toInt 0 5 := q6
    refine zs_bd_ (zc_477 pt_1.1.2 g7 zlI_m1 zlI_0) (fun t_4 pt_4 => ?_)
    exact zs_some ⟨⟨(zs_w pt_4.1 (by decide)), pt_4.2⟩, Or.inr g7⟩
-- fX8_gains
theorem zc_479 {σ0 : sn_S} {σ : sn_S} (h_σ : zs_C σ0 σ) {x1 : Int32} : zs_ok (fX8_gains σ x1) (fun r => (True) ∧ ((r).toInt = (-2) ∨ (zs_in (x1).toInt 0 5))) := by
  unfold fX8_gains
  refine zs_bd_ (zc_3 h_σ) (fun t_1 pt_1 => ?_)
  refine zs_ite (fun c1 => ?_) (fun c1 => ?_)
  · skip
    have r2 := (zs_I_eq c1)
    have g3 : zs_in (t_1).toInt 0 0 := (zs_eql 0 0 r2 pt_1.1 zlI_0 (by decide))
    exact zs_some ⟨trivial, Or.inl (zs_ptr zlI_m2)⟩
  · skip
    have r4 := (zs_I_eqn c1)
    have g5 : zs_in (t_1).toInt 1 1 := (zs_nel 1 1 r4 pt_1.1 zlI_0 (by decide))
    have q6 := (zs_or2 pt_1.2 g5 (by decide))
    have g7 : zs_in (x1).toInt 0 5 := q6
    refine zs_bd_ (zc_470 h_σ g7) (fun t_4 pt_4 => ?_)
    refine zs_ite (fun c8 => ?_) (fun c8 => ?_)
    · skip
      have r9 := (zs_I_eq c8)
      have g10 : zs_in (t_4).toInt (-1) (-1) := (zs_eql (-1) (-1) r9 pt_4 zlI_m1 (by decide))
      exact zs_some ⟨trivial, Or.inr g7⟩
    · skip
      have r11 := (zs_I_eqn c8)
      have g12 : zs_in (t_4).toInt 0 5 := (zs_nel 0 5 r11 pt_4 zlI_m1 (by decide))
      refine zs_bd_ (zc_465 h_σ g7 g12) (fun t_7 pt_7 => ?_)
      exact zs_some ⟨trivial, Or.inr g7⟩
-- fX9_gains
theorem zc_480 {σ0 : sn_S} {σ : sn_S} (h_σ : zs_M σ0 σ) {x1 : Int32} : zs_ok (fX9_gains σ x1) (fun r => ((True ∧ zs_M σ0 r.2)) ∧ ((r.1).toInt = (-2) ∨ (zs_in (x1).toInt 0 5))) := by
  unfold fX9_gains
  refine zs_bd_ (zc_98 h_σ) (fun t_1 pt_1 => ?_)
  refine zs_ite (fun c1 => ?_) (fun c1 => ?_)
  · skip
    have r2 := (zs_I_eq c1)
    have g3 : zs_in (t_1.1).toInt 0 0 := (zs_eql 0 0 r2 pt_1.1.1 zlI_0 (by decide))
    exact zs_some ⟨⟨trivial, pt_1.1.2⟩, Or.inl (zs_ptr zlI_m2)⟩
  · skip
    have r4 := (zs_I_eqn c1)
    have g5 : zs_in (t_1.1).toInt 1 1 := (zs_nel 1 1 r4 pt_1.1.1 zlI_0 (by decide))
    have q6 := (zs_or2 pt_1.2 g5 (by decide))
    have g7 : zs_in (x1).toInt 0 5 := q6
    refine zs_bd_ (zc_477 pt_1.1.2 g7 zlI_m1 zlI_0) (fun t_4 pt_4 => ?_)
    exact zs_some ⟨⟨trivial, pt_4.2⟩, Or.inr g7⟩
-- BX8_priceFor_60
theorem zc_481 {σ0 : sn_S} {σ : sn_S} (h_σ : zs_C σ0 σ) {x1 : Int32} (h_x1 : zs_in x1.toInt 0 5) {x2 : Int32} (h_x2 : zs_in x2.toInt 0 5) {x3 : Int32} (h_x3 : zs_in x3.toInt 0 2147483647) {x4 : Int32} (h_x4 : zs_in x4.toInt 0 5) {c : Int} (hc : x4.toInt = c + 0) : zs_ok (BX8_priceFor_60 σ x1 x2 x3 x4) (fun r => zs_sum (fun v => ((zs_in (v.1).toInt 0 2147483647 ∧ zs_in (v.2).toInt 1 6)) ∧ v.2.toInt = c + 1) (fun v => False) r) := by
  unfold BX8_priceFor_60
  refine zs_lt (Q := fun z => zs_in z.toInt 1 6 ∧ z.toInt = c + 1) ⟨(zs_addI 1 6 h_x4 zlI_1 (by decide)), (zs_syI 1 hc h_x4 zlI_1 (by decide) (by decide))⟩ (fun y_1 hy_1 => ?_)
  exact zs_some (zs_inl ⟨⟨h_x3, hy_1.1⟩, hy_1.2⟩)
-- BX8_priceFor_60
theorem zc_482 {σ0 : sn_S} {σ : sn_S} (h_σ : zs_C σ0 σ) {x1 : Int32} (h_x1 : zs_in x1.toInt 0 5) {x2 : Int32} (h_x2 : zs_in x2.toInt 0 4) {x3 : Int32} (h_x3 : zs_in x3.toInt 0 2147483647) {x4 : Int32} (h_x4 : zs_in x4.toInt 1 5) {c : Int} (hc : x4.toInt = c + 0) : zs_ok (BX8_priceFor_60 σ x1 x2 x3 x4) (fun r => zs_sum (fun v => ((zs_in (v.1).toInt 0 2147483647 ∧ zs_in (v.2).toInt 2 6)) ∧ v.2.toInt = c + 1) (fun v => False) r) := by
  unfold BX8_priceFor_60
  refine zs_lt (Q := fun z => zs_in z.toInt 2 6 ∧ z.toInt = c + 1) ⟨(zs_addI 2 6 h_x4 zlI_1 (by decide)), (zs_syI 1 hc h_x4 zlI_1 (by decide) (by decide))⟩ (fun y_1 hy_1 => ?_)
  exact zs_some (zs_inl ⟨⟨h_x3, hy_1.1⟩, hy_1.2⟩)
-- BX8_priceFor_60
theorem zc_483 {σ0 : sn_S} {σ : sn_S} (h_σ : zs_C σ0 σ) {x1 : Int32} (h_x1 : zs_in x1.toInt 0 5) {x2 : Int32} (h_x2 : zs_in x2.toInt 1 5) {x3 : Int32} (h_x3 : zs_in x3.toInt 0 2147483647) {x4 : Int32} (h_x4 : zs_in x4.toInt 0 4) {c : Int} (hc : x4.toInt = c + 0) : zs_ok (BX8_priceFor_60 σ x1 x2 x3 x4) (fun r => zs_sum (fun v => ((zs_in (v.1).toInt 0 2147483647 ∧ zs_in (v.2).toInt 1 5)) ∧ v.2.toInt = c + 1) (fun v => False) r) := by
  unfold BX8_priceFor_60
  refine zs_lt (Q := fun z => zs_in z.toInt 1 5 ∧ z.toInt = c + 1) ⟨(zs_addI 1 5 h_x4 zlI_1 (by decide)), (zs_syI 1 hc h_x4 zlI_1 (by decide) (by decide))⟩ (fun y_1 hy_1 => ?_)
  exact zs_some (zs_inl ⟨⟨h_x3, hy_1.1⟩, hy_1.2⟩)
-- BX8_priceFor_5
theorem zc_484 {σ0 : sn_S} {σ : sn_S} (h_σ : zs_C σ0 σ) {x1 : Int32} (h_x1 : zs_in x1.toInt 0 5) {x2 : Int32} (h_x2 : zs_in x2.toInt 0 5) {x3 : Int32} (h_x3 : zs_in x3.toInt 0 2147483647) {x4 : Int32} (h_x4 : zs_in x4.toInt 0 6) {c : Int} (hc : x4.toInt = c + 0) : zs_ok (BX8_priceFor_5 σ x1 x2 x3 x4) (fun r => zs_sum (fun v => ((zs_in (v.1).toInt 0 2147483647 ∧ zs_in (v.2).toInt 1 6)) ∧ v.2.toInt = c + 1) (fun v => zs_in (v).toInt 0 2147483647) r) := by
  unfold BX8_priceFor_5
  refine zs_gd (zs_gin zlI_8 (by decide)) ?_
  refine zs_ite (fun c1 => ?_) (fun c1 => ?_)
  · skip
    have r2 := (zs_I_le c1)
    exact zs_some (zs_inr (h_x3))
  · skip
    have r3 := (zs_I_len c1)
    have g4 : zs_in (x4).toInt 0 5 := (zs_ltl 0 5 r3 h_x4 (zs_rdk (q := 2) (k := (8 : Int32).toNatClampNeg) (z := (0, 6)) h_σ.1 rfl) (by decide))
    have g5 : zs_in ((sn_I σ (1 + 1) (8 : Int32).toNatClampNeg)).toInt 1 6 := (zs_ltr 1 6 r3 h_x4 (zs_rdk (q := 2) (k := (8 : Int32).toNatClampNeg) (z := (0, 6)) h_σ.1 rfl) (by decide))
    refine zs_bd_ (zc_465 h_σ h_x1 g4) (fun t_3 pt_3 => ?_)
    refine zs_ite (fun c6 => ?_) (fun c6 => ?_)
    · skip
      have r7 := (zs_I_le c6)
      refine zs_ite (fun c8 => ?_) (fun c8 => ?_)
      · skip
        have r9 := (zs_I_le c8)
        obtain ⟨ret, er, hr⟩ := zc_481 h_σ h_x1 h_x2 h_x3 g4 hc
        refine ⟨ret, er, ?_⟩
        exact (zs_sumw hr (fun v w => ⟨w.1, w.2⟩) (fun v w => w.elim))
      · skip
        have r10 := (zs_I_len c8)
        have g11 : zs_in (x2).toInt 0 4 := (zs_ltl 0 4 r10 h_x2 g4 (by decide))
        have g12 : zs_in (x4).toInt 1 5 := (zs_ltr 1 5 r10 h_x2 g4 (by decide))
        refine zs_lt (Q := fun z => zs_in z.toInt 0 2147483647) (zs_max 0 2147483647 h_x3 (zs_topI _) (by decide)) (fun y_7 hy_7 => ?_)
        obtain ⟨ret, er, hr⟩ := zc_482 h_σ h_x1 g11 hy_7 g12 hc
        refine ⟨ret, er, ?_⟩
        exact (zs_sumw hr (fun v w => ⟨⟨w.1.1, (zs_w w.1.2 (by decide))⟩, w.2⟩) (fun v w => w.elim))
    · skip
      have r13 := (zs_I_len c6)
      have g14 : zs_in (x4).toInt 0 4 := (zs_ltl 0 4 r13 g4 h_x2 (by decide))
      have g15 : zs_in (x2).toInt 1 5 := (zs_ltr 1 5 r13 g4 h_x2 (by decide))
      refine zs_lt (Q := fun z => zs_in z.toInt 0 2147483647) (zs_max 0 2147483647 h_x3 (zs_topI _) (by decide)) (fun y_9 hy_9 => ?_)
      obtain ⟨ret, er, hr⟩ := zc_483 h_σ h_x1 g15 hy_9 g14 hc
      refine ⟨ret, er, ?_⟩
      exact (zs_sumw hr (fun v w => ⟨⟨w.1.1, (zs_w w.1.2 (by decide))⟩, w.2⟩) (fun v w => w.elim))
theorem zd_85 {σ0 : sn_S} {σ : sn_S} (h_σ : zs_C σ0 σ) {x1 : Int32} (h_x1 : zs_in x1.toInt 0 5) {x2 : Int32} (h_x2 : zs_in x2.toInt 0 5) {s0 : (Int32 × Int32)} (h0 : (zs_in (s0.1).toInt 0 2147483647 ∧ zs_in (s0.2).toInt 0 6)) : zs_ok (sn_it (LX8_priceFor_5 σ x1 x2) 5000 s0) (fun t => zs_in (t).toInt 0 2147483647) := by
  refine zs_it (I := fun s => (zs_in (s.1).toInt 0 2147483647 ∧ zs_in (s.2).toInt 0 6)) (m := fun s => 6 - s.2.toInt) (fun s hs => ?_) (fun s hs => ?_) (by exact h0)
  · have h1 := hs.2; unfold zs_in at h1
    omega
  · obtain ⟨b, eb, hb⟩ := zc_484 h_σ h_x1 h_x2 hs.1 hs.2 (c := s.2.toInt) (Int.add_zero _).symm
    exact ⟨b, eb, zs_sumw hb (fun v w => ⟨⟨w.1.1, (zs_w w.1.2 (by decide))⟩, by have := w.2; omega⟩) (fun v w => w)⟩
-- BX8_priceFor_66
theorem zc_485 {σ0 : sn_S} {σ : sn_S} (h_σ : zs_C σ0 σ) {x1 : Int32} (h_x1 : zs_in x1.toInt 0 5) {x2 : Int32} (h_x2 : zs_in x2.toInt 0 5) {x3 : Int32} (h_x3 : zs_in x3.toInt 0 2147483647) : zs_ok (BX8_priceFor_66 σ x1 x2 x3) (fun r => zs_in (r).toInt 0 2147483647) := by
  unfold BX8_priceFor_66
  refine zs_bd_ (zc_464 h_σ h_x1 h_x2) (fun t_1 pt_1 => ?_)
  refine zs_lt (Q := fun z => zs_in z.toInt 0 2147483647) (zs_max 0 2147483647 zlI_0 (zs_topI _) (by decide)) (fun y_3 hy_3 => ?_)
  exact zs_some hy_3
-- fX8_priceFor
theorem zc_486 {σ0 : sn_S} {σ : sn_S} (h_σ : zs_C σ0 σ) {x1 : Int32} (h_x1 : zs_in x1.toInt 0 5) {x2 : Int32} (h_x2 : zs_in x2.toInt 0 5) : zs_ok (fX8_priceFor σ x1 x2) (fun r => zs_in (r).toInt 0 2147483647) := by
  unfold fX8_priceFor
  refine zs_bd_ (zd_85 h_σ h_x1 h_x2 (s0 := ((0 : Int32), (0 : Int32))) ⟨(zs_w zlI_0 (by decide)), (zs_w zlI_0 (by decide))⟩) (fun t_1 pt_1 => ?_)
  obtain ⟨ret, er, hr⟩ := zc_485 h_σ h_x1 h_x2 pt_1
  refine ⟨ret, er, ?_⟩
  exact hr
-- BX8_price_15
theorem zc_487 {σ0 : sn_S} {σ : sn_S} (h_σ : zs_C σ0 σ) {x1 : Int32} (h_x1 : zs_in x1.toInt 0 5) {x2 : Int32} (h_x2 : zs_in x2.toInt 0 2147483647) {x3 : Int32} (h_x3 : zs_in x3.toInt 0 6) {c : Int} (hc : x3.toInt = c + 0) : zs_ok (BX8_price_15 σ x1 x2 x3) (fun r => zs_sum (fun v => ((zs_in (v.1).toInt 0 2147483647 ∧ zs_in (v.2).toInt 1 6)) ∧ v.2.toInt = c + 1) (fun v => zs_in (v).toInt 0 2147483647) r) := by
  unfold BX8_price_15
  refine zs_ite (fun c1 => ?_) (fun c1 => ?_)
  · skip
    have r2 := (zs_I_le c1)
    exact zs_some (zs_inr (h_x2))
  · skip
    have r3 := (zs_I_len c1)
    have g4 : zs_in (x3).toInt 0 5 := (zs_ltl 0 5 r3 h_x3 (zs_rdk (q := 27) (k := 1) (z := (0, 6)) h_σ.1 rfl) (by decide))
    have g5 : zs_in ((sn_I σ 27 1)).toInt 1 6 := (zs_ltr 1 6 r3 h_x3 (zs_rdk (q := 27) (k := 1) (z := (0, 6)) h_σ.1 rfl) (by decide))
    refine zs_bd_ (zc_486 h_σ g4 h_x1) (fun t_2 pt_2 => ?_)
    refine zs_lt (Q := fun z => zs_in z.toInt 0 2147483647) (zs_max 0 2147483647 h_x2 pt_2 (by decide)) (fun y_4 hy_4 => ?_)
    refine zs_lt (Q := fun z => zs_in z.toInt 1 6 ∧ z.toInt = c + 1) ⟨(zs_addI 1 6 g4 zlI_1 (by decide)), (zs_syI 1 hc g4 zlI_1 (by decide) (by decide))⟩ (fun y_6 hy_6 => ?_)
    exact zs_some (zs_inl ⟨⟨hy_4, hy_6.1⟩, hy_6.2⟩)
theorem zd_86 {σ0 : sn_S} {σ : sn_S} (h_σ : zs_C σ0 σ) {x1 : Int32} (h_x1 : zs_in x1.toInt 0 5) {s0 : (Int32 × Int32)} (h0 : (zs_in (s0.1).toInt 0 2147483647 ∧ zs_in (s0.2).toInt 0 6)) : zs_ok (sn_it (LX8_price_15 σ x1) 5000 s0) (fun t => zs_in (t).toInt 0 2147483647) := by
  refine zs_it (I := fun s => (zs_in (s.1).toInt 0 2147483647 ∧ zs_in (s.2).toInt 0 6)) (m := fun s => 6 - s.2.toInt) (fun s hs => ?_) (fun s hs => ?_) (by exact h0)
  · have h1 := hs.2; unfold zs_in at h1
    omega
  · obtain ⟨b, eb, hb⟩ := zc_487 h_σ h_x1 hs.1 hs.2 (c := s.2.toInt) (Int.add_zero _).symm
    exact ⟨b, eb, zs_sumw hb (fun v w => ⟨⟨w.1.1, (zs_w w.1.2 (by decide))⟩, by have := w.2; omega⟩) (fun v w => w)⟩
-- BX8_price_43
theorem zc_488 {σ0 : sn_S} {σ : sn_S} (h_σ : zs_C σ0 σ) {x2 : Int32} (h_x2 : zs_in x2.toInt 0 2147483647) : zs_ok (BX8_price_43 σ x2) (fun r => zs_in (r).toInt 0 2147483647) := by
  unfold BX8_price_43
  exact zs_some h_x2
-- fX8_price
theorem zc_489 {σ0 : sn_S} {σ : sn_S} (h_σ : zs_C σ0 σ) {x1 : Int32} : zs_ok (fX8_price σ x1) (fun r => (zs_in (r).toInt (-2) 2147483647) ∧ ((r).toInt = (-2) ∨ (zs_in (x1).toInt 0 5))) := by
  unfold fX8_price
  refine zs_bd_ (zo_isPolicy h_σ) (fun t_1 pt_1 => ?_)
  refine zs_ite (fun c1 => ?_) (fun c1 => ?_)
  · skip
    have r2 := (zs_I_eq c1)
    have g3 : zs_in (t_1).toInt 0 0 := (zs_eql 0 0 r2 pt_1.1 zlI_0 (by decide))
    exact zs_some ⟨(zs_w zlI_m2 (by decide)), Or.inl (zs_ptr zlI_m2)⟩
  · skip
    have r4 := (zs_I_eqn c1)
    have g5 : zs_in (t_1).toInt 1 1 := (zs_nel 1 1 r4 pt_1.1 zlI_0 (by decide))
    have q6 := (zs_or2 pt_1.2.1 g5 (by decide))
    have g7 : zs_in (x1).toInt 0 5 := q6
    haveI := zs_or2 pt_1.2.2 g5 (by decide)
    refine zs_bd_ (zd_86 h_σ g7 (s0 := ((0 : Int32), (0 : Int32))) ⟨(zs_w zlI_0 (by decide)), (zs_w zlI_0 (by decide))⟩) (fun t_4 pt_4 => ?_)
    obtain ⟨ret, er, hr⟩ := zc_488 h_σ pt_4
    refine ⟨ret, er, ?_⟩
    exact ⟨(zs_w hr (by decide)), Or.inr g7⟩
-- fX2_ofPolicy
theorem zc_490 {σ0 : sn_S} {σ : sn_S} (h_σ : zs_C σ0 σ) {x1 : Int32} (h_x1 : zs_in x1.toInt 0 5) {x2 : Int32} (h_x2 : zs_in x2.toInt 1 1) : zs_ok (fX2_ofPolicy σ 1 x1 x2) (fun r => True) := by
  unfold fX2_ofPolicy
  obtain rfl : x2 = (1 : Int32) := zs_eqv h_x2 (by decide)
  refine zs_gd (zs_gin (zs_addI 1 26 (zs_mulI 0 25 zlI_5 h_x1 (by decide)) h_x2 (by decide)) (by decide)) ?_
  exact zs_some trivial
-- fX2_ofPolicy
theorem zc_491 {σ0 : sn_S} {σ : sn_S} (h_σ : zs_C σ0 σ) {x1 : Int32} (h_x1 : zs_in x1.toInt 0 5) {x2 : Int32} (h_x2 : zs_in x2.toInt 2 2) : zs_ok (fX2_ofPolicy σ 1 x1 x2) (fun r => True) := by
  unfold fX2_ofPolicy
  obtain rfl : x2 = (2 : Int32) := zs_eqv h_x2 (by decide)
  refine zs_gd (zs_gin (zs_addI 2 27 (zs_mulI 0 25 zlI_5 h_x1 (by decide)) h_x2 (by decide)) (by decide)) ?_
  exact zs_some trivial
-- BJ7_fill_d0a16_6
theorem zc_492 {σ0 : sn_S} {σ : sn_S} (h_σ : zs_C σ0 σ) {x1 : Int64} (h_x1 : zs_in x1.toInt 4611686018427387904 4611686018427387904) {x3 : Int32} (h_x3 : zs_in x3.toInt 0 31) {x4 : Int32} (h_x4 : zs_in x4.toInt 31 31) {c : Int} (hc : x3.toInt = c + 0) : zs_ok (BJ7_fill_d0a16_6 σ 53 31 x1 x3 x4) (fun r => zs_sum (fun v => ((zs_C σ0 v.1 ∧ zs_in (v.2).toInt 1 31)) ∧ v.2.toInt = c + 1) (fun v => zs_C σ0 v) r) := by
  unfold BJ7_fill_d0a16_6
  obtain rfl : x4 = (31 : Int32) := zs_eqv h_x4 (by decide)
  refine zs_ite (fun c1 => ?_) (fun c1 => ?_)
  · skip
    have r2 := (zs_I_le c1)
    have g3 : zs_in (x3).toInt 31 31 := (zs_ler 31 31 r2 h_x4 h_x3 (by decide))
    exact zs_some (zs_inr (h_σ))
  · skip
    have r4 := (zs_I_len c1)
    have g5 : zs_in (x3).toInt 0 30 := (zs_ltl 0 30 r4 h_x3 h_x4 (by decide))
    refine zs_gd (zs_gin g5 (by decide)) ?_
    refine zs_lt (Q := fun z => zs_C σ0 z) (zs_wrL h_σ rfl) (fun σ_3 hσ_3 => ?_)
    refine zs_lt (Q := fun z => zs_in z.toInt 1 31 ∧ z.toInt = c + 1) ⟨(zs_addI 1 31 g5 zlI_1 (by decide)), (zs_syI 1 hc g5 zlI_1 (by decide) (by decide))⟩ (fun y_5 hy_5 => ?_)
    exact zs_some (zs_inl ⟨⟨hσ_3, hy_5.1⟩, hy_5.2⟩)
theorem zd_87 {σ0 : sn_S} {x1 : Int64} (h_x1 : zs_in x1.toInt 4611686018427387904 4611686018427387904) {x4 : Int32} (h_x4 : zs_in x4.toInt 31 31) {s0 : (sn_S × Int32)} (h0 : (zs_C σ0 s0.1 ∧ zs_in (s0.2).toInt 0 31)) : zs_ok (sn_it (LJ7_fill_d0a16_6 53 31 x1 x4) 5000 s0) (fun t => zs_C σ0 t) := by
  refine zs_it (I := fun s => (zs_C σ0 s.1 ∧ zs_in (s.2).toInt 0 31)) (m := fun s => 31 - s.2.toInt) (fun s hs => ?_) (fun s hs => ?_) (by exact h0)
  · have h1 := hs.2; unfold zs_in at h1
    omega
  · obtain ⟨b, eb, hb⟩ := zc_492 hs.1 h_x1 hs.2 h_x4 (c := s.2.toInt) (Int.add_zero _).symm
    exact ⟨b, eb, zs_sumw hb (fun v w => ⟨⟨w.1.1, (zs_w w.1.2 (by decide))⟩, by have := w.2; omega⟩) (fun v w => w)⟩
-- BJ7_fill_d0a16_22
theorem zc_493 {σ0 : sn_S} {σ : sn_S} (h_σ : zs_C σ0 σ) : zs_ok (BJ7_fill_d0a16_22 σ 53 31) (fun r => zs_C σ0 r) := by
  unfold BJ7_fill_d0a16_22
  exact zs_some h_σ
-- fJ7_fill_d0a16
theorem zc_494 {σ0 : sn_S} {σ : sn_S} (h_σ : zs_C σ0 σ) {x1 : Int64} (h_x1 : zs_in x1.toInt 4611686018427387904 4611686018427387904) : zs_ok (fJ7_fill_d0a16 σ 53 31 x1) (fun r => zs_C σ0 r) := by
  unfold fJ7_fill_d0a16
  refine zs_lt (Q := fun z => zs_in z.toInt 31 31) zlI_31 (fun y_1 hy_1 => ?_)
  refine zs_bd_ (zd_87 h_x1 hy_1 (s0 := (σ, (0 : Int32))) ⟨h_σ, (zs_w zlI_0 (by decide))⟩) (fun t_3 pt_3 => ?_)
  obtain ⟨ret, er, hr⟩ := zc_493 pt_3
  refine ⟨ret, er, ?_⟩
  exact hr
-- BX1_reckon_103
theorem zc_495 {σ0 : sn_S} {σ : sn_S} (h_σ : zs_C σ0 σ) {x3 : Int32} (h_x3 : zs_in x3.toInt 0 5) {x4 : Int32} (h_x4 : zs_in x4.toInt 0 29) {x5 : Int32} (h_x5 : zs_in x5.toInt (-2147483648) 29) {x6 : Int32} (h_x6 : zs_in x6.toInt 0 29) {c : Int} (hc : x6.toInt = c + 0) : zs_ok (BX1_reckon_103 σ 1 27 x3 x4 x5 x6) (fun r => zs_sum (fun v => ((zs_C σ0 v.1 ∧ zs_in (v.2).toInt 1 30)) ∧ v.2.toInt = c + 1) (fun v => False) r) := by
  unfold BX1_reckon_103
  refine zs_lt (Q := fun z => zs_in z.toInt 1 30 ∧ z.toInt = c + 1) ⟨(zs_addI 1 30 h_x6 zlI_1 (by decide)), (zs_syI 1 hc h_x6 zlI_1 (by decide) (by decide))⟩ (fun y_1 hy_1 => ?_)
  exact zs_some (zs_inl ⟨⟨h_σ, hy_1.1⟩, hy_1.2⟩)
-- BX0_comesTo_19
theorem zc_496 {σ0 : sn_S} {σ : sn_S} (h_σ : zs_C σ0 σ) {x1 : Int32} (h_x1 : zs_in x1.toInt 0 5) {x2 : Int32} (h_x2 : zs_in x2.toInt 0 29) {t0 : Int32} (h_t0 : zs_in t0.toInt 0 0) : zs_ok (BX0_comesTo_19 σ 27 x1 x2 t0) (fun r => True) := by
  unfold BX0_comesTo_19
  obtain rfl : t0 = (0 : Int32) := zs_eqv h_t0 (by decide)
  refine zs_gd (zs_gin h_x1 (by decide)) ?_
  refine zs_gd (zs_gin h_x2 (by decide)) ?_
  refine zs_bd_ (zc_125 h_σ h_x1 h_x2) (fun t_3 pt_3 => ?_)
  exact zs_some trivial
-- BX0_comesTo_19
theorem zc_497 {σ0 : sn_S} {σ : sn_S} (h_σ : zs_C σ0 σ) {x1 : Int32} (h_x1 : zs_in x1.toInt 0 5) {x2 : Int32} (h_x2 : zs_in x2.toInt 0 29) {t0 : Int32} (h_t0 : zs_in t0.toInt 40 40) : zs_ok (BX0_comesTo_19 σ 27 x1 x2 t0) (fun r => True) := by
  unfold BX0_comesTo_19
  obtain rfl : t0 = (40 : Int32) := zs_eqv h_t0 (by decide)
  refine zs_gd (zs_gin h_x1 (by decide)) ?_
  refine zs_gd (zs_gin h_x2 (by decide)) ?_
  refine zs_bd_ (zc_125 h_σ h_x1 h_x2) (fun t_3 pt_3 => ?_)
  exact zs_some trivial
-- fX0_comesTo
theorem zc_498 {σ0 : sn_S} {σ : sn_S} (h_σ : zs_C σ0 σ) {x1 : Int32} (h_x1 : zs_in x1.toInt 0 5) {x2 : Int32} (h_x2 : zs_in x2.toInt 0 29) : zs_ok (fX0_comesTo σ 27 x1 x2) (fun r => True) := by
  unfold fX0_comesTo
  refine zs_gd (zs_gin h_x1 (by decide)) ?_
  refine zs_bd_ (zc_221 h_x2) (fun t_2 pt_2 => ?_)
  refine zs_ite (fun c1 => ?_) (fun c1 => ?_)
  · skip
    have r2 := (zs_I_eq c1)
    have g3 : zs_in (t_2).toInt 0 0 := (zs_eql 0 0 r2 pt_2 zlI_0 (by decide))
    obtain ⟨ret, er, hr⟩ := zc_496 h_σ h_x1 h_x2 zlI_0
    refine ⟨ret, er, ?_⟩
    exact hr
  · skip
    have r4 := (zs_I_eqn c1)
    have g5 : zs_in (t_2).toInt 1 1 := (zs_nel 1 1 r4 pt_2 zlI_0 (by decide))
    obtain ⟨ret, er, hr⟩ := zc_497 h_σ h_x1 h_x2 zlI_40
    refine ⟨ret, er, ?_⟩
    exact hr
-- BX1_goOn_87
theorem zc_499 {σ0 : sn_S} {σ : sn_S} (h_σ : zs_C σ0 σ) {x2 : Int32} (h_x2 : zs_in x2.toInt 0 5) {x4 : Int32} (h_x4 : zs_in x4.toInt 0 29) {x5 : Int32} (h_x5 : zs_in x5.toInt 0 29) {x6 : Int64} {x8 : Int32} (h_x8 : zs_in x8.toInt (-2147483648) 2147483646) {x9 : Int32} (h_x9 : zs_in x9.toInt 0 29) {c : Int} (hc : x9.toInt = c + 0) : zs_ok (BX1_goOn_87 σ 27 x2 x4 x5 x6 x8 x9) (fun r => zs_sum (fun v => ((zs_C σ0 v.1 ∧ (True ∧ (zs_in (v.2.2.1).toInt (-2147483648) 2147483646 ∧ zs_in (v.2.2.2).toInt 1 30)))) ∧ v.2.2.2.toInt = c + 1) (fun v => False) r) := by
  unfold BX1_goOn_87
  refine zs_lt (Q := fun z => zs_in z.toInt 1 30 ∧ z.toInt = c + 1) ⟨(zs_addI 1 30 h_x9 zlI_1 (by decide)), (zs_syI 1 hc h_x9 zlI_1 (by decide) (by decide))⟩ (fun y_1 hy_1 => ?_)
  exact zs_some (zs_inl ⟨⟨h_σ, ⟨trivial, ⟨h_x8, hy_1.1⟩⟩⟩, hy_1.2⟩)
-- BX1_goOn_87
theorem zc_500 {σ0 : sn_S} {σ : sn_S} (h_σ : zs_C σ0 σ) {x2 : Int32} (h_x2 : zs_in x2.toInt 0 5) {x4 : Int32} (h_x4 : zs_in x4.toInt 0 29) {x5 : Int32} (h_x5 : zs_in x5.toInt 0 29) {x6 : Int64} {x8 : Int32} {x9 : Int32} (h_x9 : zs_in x9.toInt 0 29) {c : Int} (hc : x9.toInt = c + 0) : zs_ok (BX1_goOn_87 σ 27 x2 x4 x5 x6 x8 x9) (fun r => zs_sum (fun v => ((zs_C σ0 v.1 ∧ (True ∧ (True ∧ zs_in (v.2.2.2).toInt 1 30)))) ∧ v.2.2.2.toInt = c + 1) (fun v => False) r) := by
  unfold BX1_goOn_87
  refine zs_lt (Q := fun z => zs_in z.toInt 1 30 ∧ z.toInt = c + 1) ⟨(zs_addI 1 30 h_x9 zlI_1 (by decide)), (zs_syI 1 hc h_x9 zlI_1 (by decide) (by decide))⟩ (fun y_1 hy_1 => ?_)
  exact zs_some (zs_inl ⟨⟨h_σ, ⟨trivial, ⟨trivial, hy_1.1⟩⟩⟩, hy_1.2⟩)
-- BX1_goOn_74
theorem zc_501 {σ0 : sn_S} {σ : sn_S} (h_σ : zs_C σ0 σ) {x2 : Int32} (h_x2 : zs_in x2.toInt 0 5) {x4 : Int32} (h_x4 : zs_in x4.toInt 0 29) {x5 : Int32} (h_x5 : zs_in x5.toInt 0 29) {x6 : Int64} {x8 : Int32} {x9 : Int32} (h_x9 : zs_in x9.toInt 0 29) {c : Int} (hc : x9.toInt = c + 0) : zs_ok (BX1_goOn_74 σ 27 x2 x4 x5 x6 x8 x9) (fun r => zs_sum (fun v => ((zs_C σ0 v.1 ∧ (True ∧ (True ∧ zs_in (v.2.2.2).toInt 1 30)))) ∧ v.2.2.2.toInt = c + 1) (fun v => False) r) := by
  unfold BX1_goOn_74
  refine zs_lt (Q := fun z => True) trivial (fun y_1 hy_1 => ?_)
  obtain ⟨ret, er, hr⟩ := zc_500 h_σ h_x2 h_x4 h_x5 h_x9 hc
  refine ⟨ret, er, ?_⟩
  exact (zs_sumw hr (fun v w => ⟨w.1, w.2⟩) (fun v w => w.elim))
-- BX1_goOn_87
theorem zc_502 {σ0 : sn_S} {σ : sn_S} (h_σ : zs_C σ0 σ) {x2 : Int32} (h_x2 : zs_in x2.toInt 0 5) {x4 : Int32} (h_x4 : zs_in x4.toInt 1 29) {x5 : Int32} (h_x5 : zs_in x5.toInt 0 29) {x6 : Int64} {x8 : Int32} {x9 : Int32} (h_x9 : zs_in x9.toInt 0 28) {c : Int} (hc : x9.toInt = c + 0) : zs_ok (BX1_goOn_87 σ 27 x2 x4 x5 x6 x8 x9) (fun r => zs_sum (fun v => ((zs_C σ0 v.1 ∧ (True ∧ (True ∧ zs_in (v.2.2.2).toInt 1 29)))) ∧ v.2.2.2.toInt = c + 1) (fun v => False) r) := by
  unfold BX1_goOn_87
  refine zs_lt (Q := fun z => zs_in z.toInt 1 29 ∧ z.toInt = c + 1) ⟨(zs_addI 1 29 h_x9 zlI_1 (by decide)), (zs_syI 1 hc h_x9 zlI_1 (by decide) (by decide))⟩ (fun y_1 hy_1 => ?_)
  exact zs_some (zs_inl ⟨⟨h_σ, ⟨trivial, ⟨trivial, hy_1.1⟩⟩⟩, hy_1.2⟩)
-- BX1_goOn_74
theorem zc_503 {σ0 : sn_S} {σ : sn_S} (h_σ : zs_C σ0 σ) {x2 : Int32} (h_x2 : zs_in x2.toInt 0 5) {x4 : Int32} (h_x4 : zs_in x4.toInt 1 29) {x5 : Int32} (h_x5 : zs_in x5.toInt 0 29) {x6 : Int64} {x8 : Int32} {x9 : Int32} (h_x9 : zs_in x9.toInt 0 28) {c : Int} (hc : x9.toInt = c + 0) : zs_ok (BX1_goOn_74 σ 27 x2 x4 x5 x6 x8 x9) (fun r => zs_sum (fun v => ((zs_C σ0 v.1 ∧ (True ∧ (True ∧ zs_in (v.2.2.2).toInt 1 29)))) ∧ v.2.2.2.toInt = c + 1) (fun v => False) r) := by
  unfold BX1_goOn_74
  refine zs_lt (Q := fun z => True) trivial (fun y_1 hy_1 => ?_)
  obtain ⟨ret, er, hr⟩ := zc_502 h_σ h_x2 h_x4 h_x5 h_x9 hc
  refine ⟨ret, er, ?_⟩
  exact (zs_sumw hr (fun v w => ⟨w.1, w.2⟩) (fun v w => w.elim))
-- BX1_goOn_14
theorem zc_504 {σ0 : sn_S} {σ : sn_S} (h_σ : zs_C σ0 σ) {x2 : Int32} (h_x2 : zs_in x2.toInt 0 5) {x4 : Int32} (h_x4 : zs_in x4.toInt 0 29) {x5 : Int32} (h_x5 : zs_in x5.toInt (-2147483648) 29) {x6 : Int64} {x8 : Int32} {x9 : Int32} (h_x9 : zs_in x9.toInt 0 30) {c : Int} (hc : x9.toInt = c + 0) : zs_ok (BX1_goOn_14 σ 27 x2 x4 x5 x6 x8 x9) (fun r => zs_sum (fun v => ((zs_C σ0 v.1 ∧ (True ∧ (True ∧ zs_in (v.2.2.2).toInt 1 30)))) ∧ v.2.2.2.toInt = c + 1) (fun v => (zs_C σ0 v.1 ∧ True)) r) := by
  unfold BX1_goOn_14
  refine zs_ite (fun c1 => ?_) (fun c1 => ?_)
  · skip
    have r2 := (zs_I_lt c1)
    exact zs_some (zs_inr (⟨h_σ, trivial⟩))
  · skip
    have r3 := (zs_I_ltn c1)
    have g4 : zs_in (x9).toInt 0 29 := (zs_lel 0 29 r3 h_x9 h_x5 (by decide))
    have g5 : zs_in (x5).toInt 0 29 := (zs_ler 0 29 r3 h_x9 h_x5 (by decide))
    refine zs_bd_ (zc_498 h_σ h_x2 g4) (fun t_2 pt_2 => ?_)
    refine zs_lt (Q := fun z => True) trivial (fun y_4 hy_4 => ?_)
    refine zs_gd (zs_gin h_x2 (by decide)) ?_
    refine zs_ite (fun c6 => ?_) (fun c6 => ?_)
    · skip
      have r7 := (zs_I_lt c6)
      have g8 : zs_in (y_4).toInt (-2147483648) 2147483646 := (zs_ltl (-2147483648) 2147483646 r7 (zs_topI _) (zs_topI _) (by decide))
      have g9 : zs_in ((sn_I σ (27 + 3) x2.toNatClampNeg)).toInt (-2147483647) 2147483647 := (zs_ltr (-2147483647) 2147483647 r7 (zs_topI _) (zs_topI _) (by decide))
      obtain ⟨ret, er, hr⟩ := zc_499 h_σ h_x2 h_x4 g5 g8 g4 hc
      refine ⟨ret, er, ?_⟩
      exact (zs_sumw hr (fun v w => ⟨⟨w.1.1, ⟨w.1.2.1, ⟨trivial, w.1.2.2.2⟩⟩⟩, w.2⟩) (fun v w => w.elim))
    · skip
      have r10 := (zs_I_ltn c6)
      refine zs_ite (fun c11 => ?_) (fun c11 => ?_)
      · skip
        have r12 := (zs_I_le c11)
        obtain ⟨ret, er, hr⟩ := zc_501 h_σ h_x2 h_x4 g5 g4 hc
        refine ⟨ret, er, ?_⟩
        exact (zs_sumw hr (fun v w => ⟨w.1, w.2⟩) (fun v w => w.elim))
      · skip
        have r13 := (zs_I_len c11)
        have g14 : zs_in (x9).toInt 0 28 := (zs_ltl 0 28 r13 g4 h_x4 (by decide))
        have g15 : zs_in (x4).toInt 1 29 := (zs_ltr 1 29 r13 g4 h_x4 (by decide))
        refine zs_gd (zs_gin (zs_addI 1 29 g14 zlI_1 (by decide)) (by decide)) ?_
        refine zs_lt (Q := fun z => True) trivial (fun y_10 hy_10 => ?_)
        refine zs_gd (zs_gin (zs_addI 1 29 g14 zlI_1 (by decide)) (by decide)) ?_
        refine zs_lt (Q := fun z => zs_C σ0 z) (zs_wrL h_σ rfl) (fun σ_13 hσ_13 => ?_)
        obtain ⟨ret, er, hr⟩ := zc_503 hσ_13 h_x2 g15 g5 g14 hc
        refine ⟨ret, er, ?_⟩
        exact (zs_sumw hr (fun v w => ⟨⟨w.1.1, ⟨w.1.2.1, ⟨w.1.2.2.1, (zs_w w.1.2.2.2 (by decide))⟩⟩⟩, w.2⟩) (fun v w => w.elim))
theorem zd_88 {σ0 : sn_S} {x2 : Int32} (h_x2 : zs_in x2.toInt 0 5) {x4 : Int32} (h_x4 : zs_in x4.toInt 0 29) {x5 : Int32} (h_x5 : zs_in x5.toInt (-2147483648) 29) {s0 : (sn_S × (Int64 × (Int32 × Int32)))} (h0 : (zs_C σ0 s0.1 ∧ (True ∧ (True ∧ zs_in (s0.2.2.2).toInt 0 30)))) : zs_ok (sn_it (LX1_goOn_14 27 x2 x4 x5) 5000 s0) (fun t => (zs_C σ0 t.1 ∧ True)) := by
  refine zs_it (I := fun s => (zs_C σ0 s.1 ∧ (True ∧ (True ∧ zs_in (s.2.2.2).toInt 0 30)))) (m := fun s => 30 - s.2.2.2.toInt) (fun s hs => ?_) (fun s hs => ?_) (by exact h0)
  · have h1 := hs.2.2.2; unfold zs_in at h1
    omega
  · obtain ⟨b, eb, hb⟩ := zc_504 hs.1 h_x2 h_x4 h_x5 hs.2.2.2 (c := s.2.2.2.toInt) (Int.add_zero _).symm
    exact ⟨b, eb, zs_sumw hb (fun v w => ⟨⟨w.1.1, ⟨w.1.2.1, ⟨w.1.2.2.1, (zs_w w.1.2.2.2 (by decide))⟩⟩⟩, by have := w.2; omega⟩) (fun v w => w)⟩
-- BX1_goOn_93
theorem zc_505 {σ0 : sn_S} {σ : sn_S} (h_σ : zs_C σ0 σ) {x6 : Int64} : zs_ok (BX1_goOn_93 σ 27 x6) (fun r => zs_C σ0 r) := by
  unfold BX1_goOn_93
  refine zs_lt (Q := fun z => True) trivial (fun y_1 hy_1 => ?_)
  refine zs_lt (Q := fun z => zs_C σ0 z) (zs_wrL h_σ rfl) (fun σ_3 hσ_3 => ?_)
  exact zs_some hσ_3
-- fX1_goOn
theorem zc_506 {σ0 : sn_S} {σ : sn_S} (h_σ : zs_C σ0 σ) {x2 : Int32} (h_x2 : zs_in x2.toInt 0 5) {x3 : Int32} (h_x3 : zs_in x3.toInt 0 29) {x4 : Int32} (h_x4 : zs_in x4.toInt 0 29) {x5 : Int32} (h_x5 : zs_in x5.toInt (-2147483648) 29) : zs_ok (fX1_goOn σ 27 x2 x3 x4 x5) (fun r => zs_C σ0 r) := by
  unfold fX1_goOn
  refine zs_gd (zs_gin h_x3 (by decide)) ?_
  refine zs_lt (Q := fun z => True) trivial (fun y_2 hy_2 => ?_)
  refine zs_bd_ (zd_88 h_x2 h_x4 h_x5 (s0 := (σ, (y_2, ((0 : Int32), x3)))) ⟨h_σ, ⟨trivial, ⟨trivial, (zs_w h_x3 (by decide))⟩⟩⟩) (fun t_4 pt_4 => ?_)
  obtain ⟨ret, er, hr⟩ := zc_505 pt_4.1
  refine ⟨ret, er, ?_⟩
  exact hr
-- BX1_reckon_65
theorem zc_507 {σ0 : sn_S} {σ : sn_S} (h_σ : zs_C σ0 σ) {x3 : Int32} (h_x3 : zs_in x3.toInt 0 5) [zs_Ws σ0 x3] {x4 : Int32} (h_x4 : zs_in x4.toInt (-2147483648) 29) {x5 : Int32} (h_x5 : zs_in x5.toInt (-2147483648) 29) {x6 : Int32} (h_x6 : zs_in x6.toInt 0 30) {c : Int} (hc : x6.toInt = c + 0) : zs_ok (BX1_reckon_65 σ 1 27 x3 x4 x5 x6) (fun r => zs_sum (fun v => ((zs_C σ0 v.1 ∧ zs_in (v.2).toInt 1 30)) ∧ v.2.toInt = c + 1) (fun v => zs_C σ0 v) r) := by
  unfold BX1_reckon_65
  refine zs_ite (fun c1 => ?_) (fun c1 => ?_)
  · skip
    have r2 := (zs_I_lt c1)
    exact zs_some (zs_inr (h_σ))
  · skip
    have r3 := (zs_I_ltn c1)
    have g4 : zs_in (x6).toInt 0 29 := (zs_lel 0 29 r3 h_x6 h_x4 (by decide))
    have g5 : zs_in (x4).toInt 0 29 := (zs_ler 0 29 r3 h_x6 h_x4 (by decide))
    refine zs_gd (zs_gin g4 (by decide)) ?_
    refine zs_ite (fun c6 => ?_) (fun c6 => ?_)
    · skip
      have r7 := (zs_lg_eq c6)
      have g8 : zs_in ((sn_L σ 53 x6.toNatClampNeg)).toInt 4611686018427387904 4611686018427387904 := (zs_eql 4611686018427387904 4611686018427387904 r7 (zs_topL _) zlL_4611686018427387904 (by decide))
      obtain ⟨ret, er, hr⟩ := zc_495 h_σ h_x3 g5 h_x5 g4 hc
      refine ⟨ret, er, ?_⟩
      exact (zs_sumw hr (fun v w => ⟨w.1, w.2⟩) (fun v w => w.elim))
    · skip
      have r9 := (zs_lg_eqn c6)
      refine zs_bd_ (zo_whose h_σ h_x3) (fun t_4 pt_4 => ?_)
      refine zs_bd_ (zc_506 h_σ pt_4 g4 g5 h_x5) (fun t_6 pt_6 => ?_)
      obtain ⟨ret, er, hr⟩ := zc_495 pt_6 h_x3 g5 h_x5 g4 hc
      refine ⟨ret, er, ?_⟩
      exact (zs_sumw hr (fun v w => ⟨w.1, w.2⟩) (fun v w => w.elim))
theorem zd_89 {σ0 : sn_S} {x3 : Int32} (h_x3 : zs_in x3.toInt 0 5) [zs_Ws σ0 x3] {x4 : Int32} (h_x4 : zs_in x4.toInt (-2147483648) 29) {x5 : Int32} (h_x5 : zs_in x5.toInt (-2147483648) 29) {s0 : (sn_S × Int32)} (h0 : (zs_C σ0 s0.1 ∧ zs_in (s0.2).toInt 0 30)) : zs_ok (sn_it (LX1_reckon_65 1 27 x3 x4 x5) 5000 s0) (fun t => zs_C σ0 t) := by
  refine zs_it (I := fun s => (zs_C σ0 s.1 ∧ zs_in (s.2).toInt 0 30)) (m := fun s => 30 - s.2.toInt) (fun s hs => ?_) (fun s hs => ?_) (by exact h0)
  · have h1 := hs.2; unfold zs_in at h1
    omega
  · obtain ⟨b, eb, hb⟩ := zc_507 hs.1 h_x3 h_x4 h_x5 hs.2 (c := s.2.toInt) (Int.add_zero _).symm
    exact ⟨b, eb, zs_sumw hb (fun v w => ⟨⟨w.1.1, (zs_w w.1.2 (by decide))⟩, by have := w.2; omega⟩) (fun v w => w)⟩
-- BX1_reckon_109
theorem zc_508 {σ0 : sn_S} {σ : sn_S} (h_σ : zs_C σ0 σ) : zs_ok (BX1_reckon_109 σ 1 27) (fun r => zs_C σ0 r) := by
  unfold BX1_reckon_109
  exact zs_some h_σ
-- fX1_reckon
theorem zc_509 {σ0 : sn_S} {σ : sn_S} (h_σ : zs_C σ0 σ) {x3 : Int32} (h_x3 : zs_in x3.toInt 0 5) [zs_Ws σ0 x3] : zs_ok (fX1_reckon σ 1 27 x3) (fun r => zs_C σ0 r) := by
  unfold fX1_reckon
  refine zs_bd_ (zc_490 h_σ h_x3 zlI_1) (fun t_1 pt_1 => ?_)
  refine zs_bd_ (zc_491 h_σ h_x3 zlI_2) (fun t_3 pt_3 => ?_)
  refine zs_lt (Q := fun z => zs_in z.toInt (-2147483648) 29) (zs_min (-2147483648) 29 (zs_subI (-1) 29 (zs_rdk (q := 27) (k := 0) (z := (0, 30)) h_σ.1 rfl) zlI_1 (by decide)) (zs_topI _) (by decide)) (fun y_5 hy_5 => ?_)
  refine zs_lt (Q := fun z => zs_C σ0 z) (zs_wrL h_σ rfl) (fun σ_7 hσ_7 => ?_)
  refine zs_ite (fun c1 => ?_) (fun c1 => ?_)
  · skip
    have r2 := (zs_I_le c1)
    have g3 : zs_in (t_1).toInt (-2147483648) 29 := (zs_lel (-2147483648) 29 r2 (zs_topI _) hy_5 (by decide))
    refine zs_lt (Q := fun z => zs_C σ0 z) (zs_wrL hσ_7 rfl) (fun σ_10 hσ_10 => ?_)
    refine zs_bd_ (zc_494 hσ_10 zlL_4611686018427387904) (fun t_12 pt_12 => ?_)
    refine zs_gd (zs_gin zlI_0 (by decide)) ?_
    refine zs_lt (Q := fun z => zs_C σ0 z) (zs_wrL pt_12 rfl) (fun σ_15 hσ_15 => ?_)
    refine zs_bd_ (zd_89 h_x3 g3 hy_5 (s0 := (σ_15, (0 : Int32))) ⟨hσ_15, (zs_w zlI_0 (by decide))⟩) (fun t_17 pt_17 => ?_)
    obtain ⟨ret, er, hr⟩ := zc_508 pt_17
    refine ⟨ret, er, ?_⟩
    exact hr
  · skip
    have r4 := (zs_I_len c1)
    have g5 : zs_in (t_1).toInt (-2147483647) 2147483647 := (zs_ltr (-2147483647) 2147483647 r4 hy_5 (zs_topI _) (by decide))
    exact zs_some hσ_7
-- fX1_fewest
theorem zc_510 {σ0 : sn_S} {σ : sn_S} (h_σ : zs_C σ0 σ) : zs_ok (fX1_fewest σ) (fun r => True) := by
  unfold fX1_fewest
  exact zs_some trivial
-- fX8_hold
theorem zc_511 {σ0 : sn_S} {σ : sn_S} (h_σ : zs_C σ0 σ) {x1 : Int32} : zs_ok (fX8_hold σ x1) (fun r => ((True ∧ zs_C σ0 r.2)) ∧ ((r.1).toInt = (-2) ∨ (zs_in (x1).toInt 0 5))) := by
  unfold fX8_hold
  refine zs_bd_ (zo_isPolicy h_σ) (fun t_1 pt_1 => ?_)
  refine zs_ite (fun c1 => ?_) (fun c1 => ?_)
  · skip
    have r2 := (zs_I_eq c1)
    have g3 : zs_in (t_1).toInt 0 0 := (zs_eql 0 0 r2 pt_1.1 zlI_0 (by decide))
    exact zs_some ⟨⟨trivial, h_σ⟩, Or.inl (zs_ptr zlI_m2)⟩
  · skip
    have r4 := (zs_I_eqn c1)
    have g5 : zs_in (t_1).toInt 1 1 := (zs_nel 1 1 r4 pt_1.1 zlI_0 (by decide))
    have q6 := (zs_or2 pt_1.2.1 g5 (by decide))
    have g7 : zs_in (x1).toInt 0 5 := q6
    haveI := zs_or2 pt_1.2.2 g5 (by decide)
    refine zs_bd_ (zc_509 h_σ g7) (fun t_4 pt_4 => ?_)
    refine zs_bd_ (zc_510 pt_4) (fun t_6 pt_6 => ?_)
    exact zs_some ⟨⟨trivial, pt_4⟩, Or.inr g7⟩
-- BX9_layHolds_12
theorem zc_512 {σ0 : sn_S} {σ : sn_S} (h_σ : zs_M σ0 σ) {x1 : Int32} (h_x1 : zs_in x1.toInt 0 5) {x2 : Int32} (h_x2 : zs_in x2.toInt 0 31) {c : Int} (hc : x2.toInt = c + 0) : zs_ok (BX9_layHolds_12 σ x1 x2) (fun r => zs_sum (fun v => ((zs_M σ0 v.1 ∧ zs_in (v.2).toInt 1 31)) ∧ v.2.toInt = c + 1) (fun v => zs_M σ0 v) r) := by
  unfold BX9_layHolds_12
  refine zs_ite (fun c1 => ?_) (fun c1 => ?_)
  · skip
    have r2 := (zs_I_le c1)
    have g3 : zs_in (x2).toInt 31 31 := (zs_ler 31 31 r2 zlI_31 h_x2 (by decide))
    exact zs_some (zs_inr (h_σ))
  · skip
    have r4 := (zs_I_len c1)
    have g5 : zs_in (x2).toInt 0 30 := (zs_ltl 0 30 r4 h_x2 zlI_31 (by decide))
    refine zs_bd_ (zc_21 h_σ) (fun t_2 pt_2 => ?_)
    refine zs_gd (zs_gin (zs_addI 0 960 (zs_mulI 0 930 zlI_31 pt_2 (by decide)) g5 (by decide)) (by decide)) ?_
    refine zs_lt (Q := fun z => zs_M σ0 z) (zs_wrt h_σ (fun _ => rfl) (fun _ => rfl)) (fun σ_5 hσ_5 => ?_)
    refine zs_bd_ (zc_21 hσ_5) (fun t_7 pt_7 => ?_)
    refine zs_gd (zs_gin (zs_addI 0 960 (zs_mulI 0 930 zlI_31 pt_7 (by decide)) g5 (by decide)) (by decide)) ?_
    refine zs_lt (Q := fun z => zs_M σ0 z) (zs_wrt hσ_5 (fun _ => rfl) (fun _ => rfl)) (fun σ_10 hσ_10 => ?_)
    refine zs_lt (Q := fun z => zs_in z.toInt 1 31 ∧ z.toInt = c + 1) ⟨(zs_addI 1 31 g5 zlI_1 (by decide)), (zs_syI 1 hc g5 zlI_1 (by decide) (by decide))⟩ (fun y_12 hy_12 => ?_)
    exact zs_some (zs_inl ⟨⟨hσ_10, hy_12.1⟩, hy_12.2⟩)
theorem zd_90 {σ0 : sn_S} {x1 : Int32} (h_x1 : zs_in x1.toInt 0 5) {s0 : (sn_S × Int32)} (h0 : (zs_M σ0 s0.1 ∧ zs_in (s0.2).toInt 0 31)) : zs_ok (sn_it (LX9_layHolds_12 x1) 5000 s0) (fun t => zs_M σ0 t) := by
  refine zs_it (I := fun s => (zs_M σ0 s.1 ∧ zs_in (s.2).toInt 0 31)) (m := fun s => 31 - s.2.toInt) (fun s hs => ?_) (fun s hs => ?_) (by exact h0)
  · have h1 := hs.2; unfold zs_in at h1
    omega
  · obtain ⟨b, eb, hb⟩ := zc_512 hs.1 h_x1 hs.2 (c := s.2.toInt) (Int.add_zero _).symm
    exact ⟨b, eb, zs_sumw hb (fun v w => ⟨⟨w.1.1, (zs_w w.1.2 (by decide))⟩, by have := w.2; omega⟩) (fun v w => w)⟩
-- BX9_tickleSince_6
theorem zc_513 {σ0 : sn_S} {σ : sn_S} (h_σ : zs_M σ0 σ) {x1 : Int32} (h_x1 : zs_in x1.toInt 0 5) {x3 : Int32} (h_x3 : zs_in x3.toInt 0 29) {x4 : Int32} {x5 : Int32} (h_x5 : zs_in x5.toInt 0 30) {c : Int} (hc : x5.toInt = c + 0) : zs_ok (BX9_tickleSince_6 σ x1 x3 x4 x5) (fun r => zs_sum (fun v => ((True ∧ zs_in (v.2).toInt 1 30)) ∧ v.2.toInt = c + 1) (fun v => True) r) := by
  unfold BX9_tickleSince_6
  refine zs_ite (fun c1 => ?_) (fun c1 => ?_)
  · skip
    have r2 := (zs_I_lt c1)
    have g3 : zs_in (x5).toInt 1 30 := (zs_ltr 1 30 r2 h_x3 h_x5 (by decide))
    exact zs_some (zs_inr (trivial))
  · skip
    have r4 := (zs_I_ltn c1)
    have g5 : zs_in (x5).toInt 0 29 := (zs_lel 0 29 r4 h_x5 h_x3 (by decide))
    refine zs_gd (zs_gin (zs_addI 0 179 (zs_mulI 0 174 zlI_6 g5 (by decide)) h_x1 (by decide)) (by decide)) ?_
    refine zs_lt (Q := fun z => True) trivial (fun y_3 hy_3 => ?_)
    refine zs_lt (Q := fun z => zs_in z.toInt 1 30 ∧ z.toInt = c + 1) ⟨(zs_addI 1 30 g5 zlI_1 (by decide)), (zs_syI 1 hc g5 zlI_1 (by decide) (by decide))⟩ (fun y_5 hy_5 => ?_)
    exact zs_some (zs_inl ⟨⟨trivial, hy_5.1⟩, hy_5.2⟩)
theorem zd_91 {σ0 : sn_S} {σ : sn_S} (h_σ : zs_M σ0 σ) {x1 : Int32} (h_x1 : zs_in x1.toInt 0 5) {x3 : Int32} (h_x3 : zs_in x3.toInt 0 29) {s0 : (Int32 × Int32)} (h0 : (True ∧ zs_in (s0.2).toInt 0 30)) : zs_ok (sn_it (LX9_tickleSince_6 σ x1 x3) 5000 s0) (fun t => True) := by
  refine zs_it (I := fun s => (True ∧ zs_in (s.2).toInt 0 30)) (m := fun s => 30 - s.2.toInt) (fun s hs => ?_) (fun s hs => ?_) (by exact h0)
  · have h1 := hs.2; unfold zs_in at h1
    omega
  · obtain ⟨b, eb, hb⟩ := zc_513 h_σ h_x1 h_x3 hs.2 (c := s.2.toInt) (Int.add_zero _).symm
    exact ⟨b, eb, zs_sumw hb (fun v w => ⟨⟨w.1.1, (zs_w w.1.2 (by decide))⟩, by have := w.2; omega⟩) (fun v w => w)⟩
-- BX9_tickleSince_35
theorem zc_514 {σ0 : sn_S} {σ : sn_S} (h_σ : zs_M σ0 σ) {x4 : Int32} : zs_ok (BX9_tickleSince_35 σ x4) (fun r => True) := by
  unfold BX9_tickleSince_35
  exact zs_some trivial
-- fX9_tickleSince
theorem zc_515 {σ0 : sn_S} {σ : sn_S} (h_σ : zs_M σ0 σ) {x1 : Int32} (h_x1 : zs_in x1.toInt 0 5) {x2 : Int32} (h_x2 : zs_in x2.toInt 0 29) {x3 : Int32} (h_x3 : zs_in x3.toInt 0 29) : zs_ok (fX9_tickleSince σ x1 x2 x3) (fun r => True) := by
  unfold fX9_tickleSince
  refine zs_bd_ (zd_91 h_σ h_x1 h_x3 (s0 := ((0 : Int32), x2)) ⟨trivial, (zs_w h_x2 (by decide))⟩) (fun t_1 pt_1 => ?_)
  obtain ⟨ret, er, hr⟩ := zc_514 h_σ
  refine ⟨ret, er, ?_⟩
  exact hr
-- BX9_layHold_185
theorem zc_516 {σ0 : sn_S} {σ : sn_S} (h_σ : zs_M σ0 σ) {x5 : Int32} (h_x5 : zs_in x5.toInt 0 928) {x7 : Int32} (h_x7 : zs_in x7.toInt 32 960) {t0 : Int32} (h_t0 : zs_in t0.toInt 1 1) : zs_ok (BX9_layHold_185 σ x5 x7 t0) (fun r => zs_M σ0 r) := by
  unfold BX9_layHold_185
  obtain rfl : t0 = (1 : Int32) := zs_eqv h_t0 (by decide)
  refine zs_ite (fun c1 => ?_) (fun c1 => ?_)
  · skip
    have r2 := (zs_I_eq c1)
    exact (zs_botr r2 h_t0 zlI_0 (by decide)).elim
  · skip
    have r3 := (zs_I_eqn c1)
    refine zs_gd (zs_gin h_x7 (by decide)) ?_
    refine zs_gd (zs_gin h_x5 (by decide)) ?_
    refine zs_lt (Q := fun z => zs_M σ0 z) (zs_wrt h_σ (fun _ => rfl) (fun _ => rfl)) (fun σ_4 hσ_4 => ?_)
    refine zs_gd (zs_gin h_x7 (by decide)) ?_
    refine zs_gd (zs_gin h_x5 (by decide)) ?_
    refine zs_lt (Q := fun z => zs_M σ0 z) (zs_wrt hσ_4 (fun _ => rfl) (fun _ => rfl)) (fun σ_8 hσ_8 => ?_)
    exact zs_some hσ_8
-- BX9_layHold_180
theorem zc_517 {σ0 : sn_S} {σ : sn_S} (h_σ : zs_M σ0 σ) {x5 : Int32} (h_x5 : zs_in x5.toInt 0 928) {x7 : Int32} (h_x7 : zs_in x7.toInt 32 960) : zs_ok (BX9_layHold_180 σ x5 x7) (fun r => zs_M σ0 r) := by
  unfold BX9_layHold_180
  obtain ⟨ret, er, hr⟩ := zc_516 h_σ h_x5 h_x7 zlI_1
  refine ⟨ret, er, ?_⟩
  exact hr
-- BX9_layHold_185
theorem zc_518 {σ0 : sn_S} {σ : sn_S} (h_σ : zs_M σ0 σ) {x5 : Int32} (h_x5 : zs_in x5.toInt 0 928) {x7 : Int32} (h_x7 : zs_in x7.toInt 32 960) {t0 : Int32} (h_t0 : zs_in t0.toInt 0 0) : zs_ok (BX9_layHold_185 σ x5 x7 t0) (fun r => zs_M σ0 r) := by
  unfold BX9_layHold_185
  obtain rfl : t0 = (0 : Int32) := zs_eqv h_t0 (by decide)
  refine zs_ite (fun c1 => ?_) (fun c1 => ?_)
  · skip
    have r2 := (zs_I_eq c1)
    exact zs_some h_σ
  · skip
    have r3 := (zs_I_eqn c1)
    exact (zs_botne r3 h_t0 zlI_0 (by decide)).elim
-- BX9_layHold_184
theorem zc_519 {σ0 : sn_S} {σ : sn_S} (h_σ : zs_M σ0 σ) {x5 : Int32} (h_x5 : zs_in x5.toInt 0 928) {x7 : Int32} (h_x7 : zs_in x7.toInt 32 960) : zs_ok (BX9_layHold_184 σ x5 x7) (fun r => zs_M σ0 r) := by
  unfold BX9_layHold_184
  obtain ⟨ret, er, hr⟩ := zc_518 h_σ h_x5 h_x7 zlI_0
  refine ⟨ret, er, ?_⟩
  exact hr
-- fX9_layHold
theorem zc_520 {σ0 : sn_S} {σ : sn_S} (h_σ : zs_M σ0 σ) {x1 : Int32} (h_x1 : zs_in x1.toInt 0 5) {x2 : Int32} (h_x2 : zs_in x2.toInt 0 1073741823) {x3 : Int32} (h_x3 : zs_in x3.toInt 0 29) {x4 : Int32} (h_x4 : zs_in x4.toInt 0 29) : zs_ok (fX9_layHold σ x1 x2 x3 x4) (fun r => zs_M σ0 r) := by
  unfold fX9_layHold
  refine zs_lt (Q := fun z => zs_in z.toInt 0 928) (zs_addI 0 928 (zs_mulI 0 899 zlI_31 h_x3 (by decide)) h_x4 (by decide)) (fun y_1 hy_1 => ?_)
  refine zs_lt (Q := fun z => zs_in z.toInt 31 959) (zs_addI 31 959 (zs_mulI 31 930 zlI_31 (zs_addI 1 30 h_x3 zlI_1 (by decide)) (by decide)) h_x4 (by decide)) (fun y_3 hy_3 => ?_)
  refine zs_gd (zs_gin hy_3 (by decide)) ?_
  refine zs_gd (zs_gin hy_1 (by decide)) ?_
  refine zs_lt (Q := fun z => zs_M σ0 z) (zs_wrt h_σ (fun _ => rfl) (fun _ => rfl)) (fun σ_7 hσ_7 => ?_)
  refine zs_gd (zs_gin hy_3 (by decide)) ?_
  refine zs_gd (zs_gin hy_1 (by decide)) ?_
  refine zs_lt (Q := fun z => zs_M σ0 z) (zs_wrt hσ_7 (fun _ => rfl) (fun _ => rfl)) (fun σ_11 hσ_11 => ?_)
  refine zs_bd_ (zc_515 hσ_11 h_x1 h_x4 h_x3) (fun t_13 pt_13 => ?_)
  refine zs_gd (zs_gin (zs_addI 12 22 (zs_addI 11 21 zlI_11 (zs_mulI 0 10 zlI_2 h_x1 (by decide)) (by decide)) zlI_1 (by decide)) (by decide)) ?_
  refine zs_ite (fun c1 => ?_) (fun c1 => ?_)
  · skip
    have r2 := (zs_I_le c1)
    have g3 : zs_in (t_13).toInt 0 2147483647 := (zs_ler 0 2147483647 r2 (zs_rdb (q := 1) (lo := 0) (hi := 99) hσ_11.1 (zs_cases h_x1 (fun z => zs_bd (zs_tM 1 (((11 : Int32) + ((2 : Int32) * z)) + (1 : Int32)).toNatClampNeg) 0 99) (by decide +kernel))) (zs_topI _) (by decide))
    refine zs_gd (zs_gin hy_3 (by decide)) ?_
    refine zs_gd (zs_gin hy_1 (by decide)) ?_
    refine zs_lt (Q := fun z => zs_M σ0 z) (zs_wrt hσ_11 (fun _ => rfl) (fun _ => rfl)) (fun σ_19 hσ_19 => ?_)
    refine zs_gd (zs_gin hy_3 (by decide)) ?_
    refine zs_gd (zs_gin hy_1 (by decide)) ?_
    refine zs_lt (Q := fun z => zs_M σ0 z) (zs_wrt hσ_19 (fun _ => rfl) (fun _ => rfl)) (fun σ_23 hσ_23 => ?_)
    refine zs_bd_ (zc_181 h_x2 h_x3) (fun t_25 pt_25 => ?_)
    refine zs_ite (fun c4 => ?_) (fun c4 => ?_)
    · skip
      have r5 := (zs_I_eq c4)
      have g6 : zs_in (t_25).toInt 1 1 := (zs_eql 1 1 r5 pt_25 zlI_1 (by decide))
      exact zs_some hσ_23
    · skip
      have r7 := (zs_I_eqn c4)
      have g8 : zs_in (t_25).toInt 0 0 := (zs_neh 0 0 r7 pt_25 zlI_1 (by decide))
      refine zs_lt (Q := fun z => zs_in z.toInt 32 960) (zs_addI 32 960 (zs_addI 31 959 (zs_mulI 31 930 zlI_31 (zs_addI 1 30 h_x3 zlI_1 (by decide)) (by decide)) h_x3 (by decide)) zlI_1 (by decide)) (fun y_28 hy_28 => ?_)
      refine zs_gd (zs_gin hy_28 (by decide)) ?_
      refine zs_gd (zs_gin hy_1 (by decide)) ?_
      refine zs_ite (fun c9 => ?_) (fun c9 => ?_)
      · skip
        have r10 := (zs_I_lt c9)
        have g11 : zs_in ((sn_I σ_23 17 y_28.toNatClampNeg)).toInt (-2147483648) 2147483646 := (zs_ltl (-2147483648) 2147483646 r10 (zs_topI _) (zs_topI _) (by decide))
        have g12 : zs_in ((sn_I σ_23 17 y_1.toNatClampNeg)).toInt (-2147483647) 2147483647 := (zs_ltr (-2147483647) 2147483647 r10 (zs_topI _) (zs_topI _) (by decide))
        obtain ⟨ret, er, hr⟩ := zc_517 hσ_23 hy_1 hy_28
        refine ⟨ret, er, ?_⟩
        exact hr
      · skip
        have r13 := (zs_I_ltn c9)
        refine zs_gd (zs_gin hy_28 (by decide)) ?_
        refine zs_gd (zs_gin hy_1 (by decide)) ?_
        refine zs_ite (fun c14 => ?_) (fun c14 => ?_)
        · skip
          have r15 := (zs_I_eq c14)
          refine zs_gd (zs_gin hy_28 (by decide)) ?_
          refine zs_gd (zs_gin hy_1 (by decide)) ?_
          refine zs_ite (fun c16 => ?_) (fun c16 => ?_)
          · skip
            have r17 := (zs_I_le c16)
            obtain ⟨ret, er, hr⟩ := zc_519 hσ_23 hy_1 hy_28
            refine ⟨ret, er, ?_⟩
            exact hr
          · skip
            have r18 := (zs_I_len c16)
            have g19 : zs_in ((sn_I σ_23 18 y_28.toNatClampNeg)).toInt (-2147483648) 2147483646 := (zs_ltl (-2147483648) 2147483646 r18 (zs_topI _) (zs_topI _) (by decide))
            have g20 : zs_in ((sn_I σ_23 18 y_1.toNatClampNeg)).toInt (-2147483647) 2147483647 := (zs_ltr (-2147483647) 2147483647 r18 (zs_topI _) (zs_topI _) (by decide))
            obtain ⟨ret, er, hr⟩ := zc_517 hσ_23 hy_1 hy_28
            refine ⟨ret, er, ?_⟩
            exact hr
        · skip
          have r21 := (zs_I_eqn c14)
          obtain ⟨ret, er, hr⟩ := zc_519 hσ_23 hy_1 hy_28
          refine ⟨ret, er, ?_⟩
          exact hr
  · skip
    have r22 := (zs_I_len c1)
    have g23 : zs_in (t_13).toInt (-2147483648) 98 := (zs_ltl (-2147483648) 98 r22 (zs_topI _) (zs_rdb (q := 1) (lo := 0) (hi := 99) hσ_11.1 (zs_cases h_x1 (fun z => zs_bd (zs_tM 1 (((11 : Int32) + ((2 : Int32) * z)) + (1 : Int32)).toNatClampNeg) 0 99) (by decide +kernel))) (by decide))
    exact zs_some hσ_11
-- BX9_layHolds_67
theorem zc_521 {σ0 : sn_S} {σ : sn_S} (h_σ : zs_M σ0 σ) {x1 : Int32} (h_x1 : zs_in x1.toInt 0 5) {x2 : Int32} (h_x2 : zs_in x2.toInt 0 29) {x3 : Int32} (h_x3 : zs_in x3.toInt 0 30) {c : Int} (hc : x3.toInt = c + 0) : zs_ok (BX9_layHolds_67 σ x1 x2 x3) (fun r => zs_sum (fun v => ((zs_M σ0 v.1 ∧ zs_in (v.2).toInt 1 30)) ∧ v.2.toInt = c + 1) (fun v => zs_M σ0 v) r) := by
  unfold BX9_layHolds_67
  refine zs_ite (fun c1 => ?_) (fun c1 => ?_)
  · skip
    have r2 := (zs_I_lt c1)
    have g3 : zs_in (x3).toInt 1 30 := (zs_ltr 1 30 r2 h_x2 h_x3 (by decide))
    exact zs_some (zs_inr (h_σ))
  · skip
    have r4 := (zs_I_ltn c1)
    have g5 : zs_in (x3).toInt 0 29 := (zs_lel 0 29 r4 h_x3 h_x2 (by decide))
    refine zs_bd_ (zc_200 h_σ h_x1 zlI_0) (fun t_2 pt_2 => ?_)
    refine zs_bd_ (zc_205 h_σ h_x1) (fun t_4 pt_4 => ?_)
    refine zs_bd_ (zc_520 h_σ pt_2 pt_4 h_x2 g5) (fun t_6 pt_6 => ?_)
    refine zs_lt (Q := fun z => zs_in z.toInt 1 30 ∧ z.toInt = c + 1) ⟨(zs_addI 1 30 g5 zlI_1 (by decide)), (zs_syI 1 hc g5 zlI_1 (by decide) (by decide))⟩ (fun y_8 hy_8 => ?_)
    exact zs_some (zs_inl ⟨⟨pt_6, hy_8.1⟩, hy_8.2⟩)
theorem zd_92 {σ0 : sn_S} {x1 : Int32} (h_x1 : zs_in x1.toInt 0 5) {x2 : Int32} (h_x2 : zs_in x2.toInt 0 29) {s0 : (sn_S × Int32)} (h0 : (zs_M σ0 s0.1 ∧ zs_in (s0.2).toInt 0 30)) : zs_ok (sn_it (LX9_layHolds_67 x1 x2) 5000 s0) (fun t => zs_M σ0 t) := by
  refine zs_it (I := fun s => (zs_M σ0 s.1 ∧ zs_in (s.2).toInt 0 30)) (m := fun s => 30 - s.2.toInt) (fun s hs => ?_) (fun s hs => ?_) (by exact h0)
  · have h1 := hs.2; unfold zs_in at h1
    omega
  · obtain ⟨b, eb, hb⟩ := zc_521 hs.1 h_x1 h_x2 hs.2 (c := s.2.toInt) (Int.add_zero _).symm
    exact ⟨b, eb, zs_sumw hb (fun v w => ⟨⟨w.1.1, (zs_w w.1.2 (by decide))⟩, by have := w.2; omega⟩) (fun v w => w)⟩
-- BX9_layHolds_95
theorem zc_522 {σ0 : sn_S} {σ : sn_S} (h_σ : zs_M σ0 σ) {x1 : Int32} (h_x1 : zs_in x1.toInt 0 5) {x2 : Int32} (h_x2 : zs_in x2.toInt 0 29) {c : Int} (hc : x2.toInt = c + 0) : zs_ok (BX9_layHolds_95 σ x1 x2) (fun r => zs_sum (fun v => ((zs_M σ0 v.1 ∧ zs_in (v.2).toInt (-1) 28)) ∧ v.2.toInt = c + (-1)) (fun v => False) r) := by
  unfold BX9_layHolds_95
  refine zs_lt (Q := fun z => zs_in z.toInt (-1) 28 ∧ z.toInt = c + (-1)) ⟨(zs_addI (-1) 28 h_x2 zlI_m1 (by decide)), (zs_syI (-1) hc h_x2 zlI_m1 (by decide) (by decide))⟩ (fun y_1 hy_1 => ?_)
  exact zs_some (zs_inl ⟨⟨h_σ, hy_1.1⟩, hy_1.2⟩)
-- BX9_layHolds_61
theorem zc_523 {σ0 : sn_S} {σ : sn_S} (h_σ : zs_M σ0 σ) {x1 : Int32} (h_x1 : zs_in x1.toInt 0 5) {x2 : Int32} (h_x2 : zs_in x2.toInt (-1) 29) {c : Int} (hc : x2.toInt = c + 0) : zs_ok (BX9_layHolds_61 σ x1 x2) (fun r => zs_sum (fun v => ((zs_M σ0 v.1 ∧ zs_in (v.2).toInt (-1) 28)) ∧ v.2.toInt = c + (-1)) (fun v => zs_M σ0 v) r) := by
  unfold BX9_layHolds_61
  refine zs_ite (fun c1 => ?_) (fun c1 => ?_)
  · skip
    have r2 := (zs_I_lt c1)
    have g3 : zs_in (x2).toInt (-1) (-1) := (zs_ltl (-1) (-1) r2 h_x2 zlI_0 (by decide))
    exact zs_some (zs_inr (h_σ))
  · skip
    have r4 := (zs_I_ltn c1)
    have g5 : zs_in (x2).toInt 0 29 := (zs_ler 0 29 r4 zlI_0 h_x2 (by decide))
    refine zs_bd_ (zd_92 h_x1 g5 (s0 := (σ, (0 : Int32))) ⟨h_σ, (zs_w zlI_0 (by decide))⟩) (fun t_2 pt_2 => ?_)
    obtain ⟨ret, er, hr⟩ := zc_522 pt_2 h_x1 g5 hc
    refine ⟨ret, er, ?_⟩
    exact (zs_sumw hr (fun v w => ⟨w.1, w.2⟩) (fun v w => w.elim))
theorem zd_93 {σ0 : sn_S} {x1 : Int32} (h_x1 : zs_in x1.toInt 0 5) {s0 : (sn_S × Int32)} (h0 : (zs_M σ0 s0.1 ∧ zs_in (s0.2).toInt (-1) 29)) : zs_ok (sn_it (LX9_layHolds_61 x1) 5000 s0) (fun t => zs_M σ0 t) := by
  refine zs_it (I := fun s => (zs_M σ0 s.1 ∧ zs_in (s.2).toInt (-1) 29)) (m := fun s => s.2.toInt - (-1)) (fun s hs => ?_) (fun s hs => ?_) (by exact h0)
  · have h1 := hs.2; unfold zs_in at h1
    omega
  · obtain ⟨b, eb, hb⟩ := zc_523 hs.1 h_x1 hs.2 (c := s.2.toInt) (Int.add_zero _).symm
    exact ⟨b, eb, zs_sumw hb (fun v w => ⟨⟨w.1.1, (zs_w w.1.2 (by decide))⟩, by have := w.2; omega⟩) (fun v w => w)⟩
-- BX9_layHolds_101
theorem zc_524 {σ0 : sn_S} {σ : sn_S} (h_σ : zs_M σ0 σ) : zs_ok (BX9_layHolds_101 σ) (fun r => (zs_in (r.1).toInt 1 1 ∧ zs_M σ0 r.2)) := by
  unfold BX9_layHolds_101
  refine zs_gd (zs_b01 zlI_1 (by decide)) ?_
  exact zs_some ⟨zlI_1, h_σ⟩
-- BX9_layHolds_54
theorem zc_525 {σ0 : sn_S} {σ : sn_S} (h_σ : zs_M σ0 σ) {x1 : Int32} (h_x1 : zs_in x1.toInt 0 5) : zs_ok (BX9_layHolds_54 σ x1) (fun r => (zs_in (r.1).toInt 1 1 ∧ zs_M σ0 r.2)) := by
  unfold BX9_layHolds_54
  refine zs_bd_ (zc_21 h_σ) (fun t_1 pt_1 => ?_)
  refine zs_lt (Q := fun z => zs_in z.toInt (-1) 29) (zs_subI (-1) 29 pt_1 zlI_1 (by decide)) (fun y_3 hy_3 => ?_)
  refine zs_bd_ (zd_93 h_x1 (s0 := (σ, y_3)) ⟨h_σ, hy_3⟩) (fun t_5 pt_5 => ?_)
  obtain ⟨ret, er, hr⟩ := zc_524 pt_5
  refine ⟨ret, er, ?_⟩
  exact hr
-- fX9_layHolds
theorem zc_526 {σ0 : sn_S} {σ : sn_S} (h_σ : zs_M σ0 σ) {x1 : Int32} : zs_ok (fX9_layHolds σ x1) (fun r => ((zs_in (r.1).toInt 0 1 ∧ zs_M σ0 r.2)) ∧ ((r.1).toInt = 0 ∨ (zs_in (x1).toInt 0 5))) := by
  unfold fX9_layHolds
  refine zs_bd_ (zc_239 h_σ) (fun t_1 pt_1 => ?_)
  refine zs_ite (fun c1 => ?_) (fun c1 => ?_)
  · skip
    have r2 := (zs_I_eq c1)
    have g3 : zs_in (t_1.1).toInt 0 0 := (zs_eql 0 0 r2 pt_1.1.1 zlI_0 (by decide))
    refine zs_gd (zs_b01 zlI_0 (by decide)) ?_
    exact zs_some ⟨⟨(zs_w zlI_0 (by decide)), pt_1.1.2⟩, Or.inl (zs_ptr zlI_0)⟩
  · skip
    have r4 := (zs_I_eqn c1)
    have g5 : zs_in (t_1.1).toInt 1 1 := (zs_nel 1 1 r4 pt_1.1.1 zlI_0 (by decide))
    have q6 := (zs_or2 pt_1.2 g5 (by decide))
    have g7 : zs_in (x1).toInt 0 5 := q6
    refine zs_bd_ (zd_90 g7 (s0 := (t_1.2, (0 : Int32))) ⟨pt_1.1.2, (zs_w zlI_0 (by decide))⟩) (fun t_4 pt_4 => ?_)
    obtain ⟨ret, er, hr⟩ := zc_525 pt_4 g7
    refine ⟨ret, er, ?_⟩
    exact ⟨⟨(zs_w hr.1 (by decide)), hr.2⟩, Or.inr g7⟩
-- fX9_hold
theorem zc_527 {σ0 : sn_S} {σ : sn_S} (h_σ : zs_M σ0 σ) {x1 : Int32} : zs_ok (fX9_hold σ x1) (fun r => ((True ∧ zs_M σ0 r.2)) ∧ ((r.1).toInt = (-2) ∨ (zs_in (x1).toInt 0 5))) := by
  unfold fX9_hold
  refine zs_bd_ (zc_526 h_σ) (fun t_1 pt_1 => ?_)
  refine zs_ite (fun c1 => ?_) (fun c1 => ?_)
  · skip
    have r2 := (zs_I_eq c1)
    have g3 : zs_in (t_1.1).toInt 0 0 := (zs_eql 0 0 r2 pt_1.1.1 zlI_0 (by decide))
    exact zs_some ⟨⟨trivial, pt_1.1.2⟩, Or.inl (zs_ptr zlI_m2)⟩
  · skip
    have r4 := (zs_I_eqn c1)
    have g5 : zs_in (t_1.1).toInt 1 1 := (zs_nel 1 1 r4 pt_1.1.1 zlI_0 (by decide))
    have q6 := (zs_or2 pt_1.2 g5 (by decide))
    have g7 : zs_in (x1).toInt 0 5 := q6
    refine zs_gd (zs_gin zlI_0 (by decide)) ?_
    exact zs_some ⟨⟨trivial, pt_1.1.2⟩, Or.inr g7⟩
-- fX1_minutesHeld
theorem zc_528 {σ0 : sn_S} {σ : sn_S} (h_σ : zs_C σ0 σ) : zs_ok (fX1_minutesHeld σ) (fun r => True) := by
  unfold fX1_minutesHeld
  exact zs_some trivial
-- fX8_holds
theorem zc_529 {σ0 : sn_S} {σ : sn_S} (h_σ : zs_C σ0 σ) {x1 : Int32} : zs_ok (fX8_holds σ x1) (fun r => ((True ∧ zs_C σ0 r.2)) ∧ ((r.1).toInt = (-2) ∨ (zs_in (x1).toInt 0 5))) := by
  unfold fX8_holds
  refine zs_bd_ (zo_isPolicy h_σ) (fun t_1 pt_1 => ?_)
  refine zs_ite (fun c1 => ?_) (fun c1 => ?_)
  · skip
    have r2 := (zs_I_eq c1)
    have g3 : zs_in (t_1).toInt 0 0 := (zs_eql 0 0 r2 pt_1.1 zlI_0 (by decide))
    exact zs_some ⟨⟨trivial, h_σ⟩, Or.inl (zs_ptr zlI_m2)⟩
  · skip
    have r4 := (zs_I_eqn c1)
    have g5 : zs_in (t_1).toInt 1 1 := (zs_nel 1 1 r4 pt_1.1 zlI_0 (by decide))
    have q6 := (zs_or2 pt_1.2.1 g5 (by decide))
    have g7 : zs_in (x1).toInt 0 5 := q6
    haveI := zs_or2 pt_1.2.2 g5 (by decide)
    refine zs_bd_ (zc_509 h_σ g7) (fun t_4 pt_4 => ?_)
    refine zs_bd_ (zc_528 pt_4) (fun t_6 pt_6 => ?_)
    exact zs_some ⟨⟨trivial, pt_4⟩, Or.inr g7⟩
