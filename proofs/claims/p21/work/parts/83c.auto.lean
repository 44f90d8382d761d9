-- BX9_naked_57
theorem zc_219 {σ0 : sn_S} {σ : sn_S} (h_σ : zs_M σ0 σ) {x1 : Int32} : zs_ok (BX9_naked_57 σ x1) (fun r => (True ∧ zs_M σ0 r.2)) := by
  unfold BX9_naked_57
  exact zs_some ⟨trivial, h_σ⟩
-- fX9_naked
theorem zc_220 {σ0 : sn_S} {σ : sn_S} (h_σ : zs_M σ0 σ) : zs_ok (fX9_naked σ) (fun r => (True ∧ zs_M σ0 r.2)) := by
  unfold fX9_naked
  refine zs_bd_ (zc_92 h_σ) (fun t_1 pt_1 => ?_)
  refine zs_ite (fun c1 => ?_) (fun c1 => ?_)
  · skip
    have r2 := (zs_I_eq c1)
    have g3 : zs_in (t_1.1).toInt 0 0 := (zs_eql 0 0 r2 pt_1.1 zlI_0 (by decide))
    exact zs_some ⟨trivial, pt_1.2⟩
  · skip
    have r4 := (zs_I_eqn c1)
    have g5 : zs_in (t_1.1).toInt 1 1 := (zs_nel 1 1 r4 pt_1.1 zlI_0 (by decide))
    refine zs_bd_ (zd_36 pt_1.2 (s0 := ((0 : Int32), (0 : Int32))) ⟨trivial, (zs_w zlI_0 (by decide))⟩) (fun t_4 pt_4 => ?_)
    obtain ⟨ret, er, hr⟩ := zc_219 pt_1.2
    refine ⟨ret, er, ?_⟩
    exact hr
-- fX8_hasBit
theorem zc_221 {x0 : Int32} {x1 : Int32} (h_x1 : zs_in x1.toInt 0 29) : zs_ok (fX8_hasBit x0 x1) (fun r => zs_in (r).toInt 0 1) := by
  unfold fX8_hasBit
  refine zs_ite (fun c1 => ?_) (fun c1 => ?_)
  · skip
    have r2 := (zs_I_eq c1)
    have g3 : zs_in (((x0 >>> (x1 &&& 31)) &&& (1 : Int32))).toInt 1 1 := (zs_eql 1 1 r2 (zs_and zlI_1 (by decide)) zlI_1 (by decide))
    refine zs_gd (zs_b01 zlI_1 (by decide)) ?_
    exact zs_some (zs_w zlI_1 (by decide))
  · skip
    have r4 := (zs_I_eqn c1)
    have g5 : zs_in (((x0 >>> (x1 &&& 31)) &&& (1 : Int32))).toInt 0 0 := (zs_neh 0 0 r4 (zs_and zlI_1 (by decide)) zlI_1 (by decide))
    refine zs_gd (zs_b01 zlI_0 (by decide)) ?_
    exact zs_some (zs_w zlI_0 (by decide))
-- BX8_covers_50
theorem zc_222 {σ0 : sn_S} {σ : sn_S} (h_σ : zs_C σ0 σ) {x1 : Int32} (h_x1 : zs_in x1.toInt 0 29) {x2 : Int32} {x3 : Int32} (h_x3 : zs_in x3.toInt 0 5) {c : Int} (hc : x3.toInt = c + 0) : zs_ok (BX8_covers_50 σ x1 x2 x3) (fun r => zs_sum (fun v => ((True ∧ zs_in (v.2).toInt 1 6)) ∧ v.2.toInt = c + 1) (fun v => False) r) := by
  unfold BX8_covers_50
  refine zs_lt (Q := fun z => zs_in z.toInt 1 6 ∧ z.toInt = c + 1) ⟨(zs_addI 1 6 h_x3 zlI_1 (by decide)), (zs_syI 1 hc h_x3 zlI_1 (by decide) (by decide))⟩ (fun y_1 hy_1 => ?_)
  exact zs_some (zs_inl ⟨⟨trivial, hy_1.1⟩, hy_1.2⟩)
-- BX8_covers_15
theorem zc_223 {σ0 : sn_S} {σ : sn_S} (h_σ : zs_C σ0 σ) {x1 : Int32} (h_x1 : zs_in x1.toInt 0 29) {x2 : Int32} {x3 : Int32} (h_x3 : zs_in x3.toInt 0 6) {c : Int} (hc : x3.toInt = c + 0) : zs_ok (BX8_covers_15 σ x1 x2 x3) (fun r => zs_sum (fun v => ((True ∧ zs_in (v.2).toInt 1 6)) ∧ v.2.toInt = c + 1) (fun v => True) r) := by
  unfold BX8_covers_15
  refine zs_gd (zs_gin zlI_8 (by decide)) ?_
  refine zs_ite (fun c1 => ?_) (fun c1 => ?_)
  · skip
    have r2 := (zs_I_le c1)
    exact zs_some (zs_inr (trivial))
  · skip
    have r3 := (zs_I_len c1)
    have g4 : zs_in (x3).toInt 0 5 := (zs_ltl 0 5 r3 h_x3 (zs_rdk (q := 2) (k := (8 : Int32).toNatClampNeg) (z := (0, 6)) h_σ.1 rfl) (by decide))
    have g5 : zs_in ((sn_I σ (1 + 1) (8 : Int32).toNatClampNeg)).toInt 1 6 := (zs_ltr 1 6 r3 h_x3 (zs_rdk (q := 2) (k := (8 : Int32).toNatClampNeg) (z := (0, 6)) h_σ.1 rfl) (by decide))
    refine zs_bd_ (zc_193 h_σ g4) (fun t_3 pt_3 => ?_)
    refine zs_bd_ (zc_221 h_x1) (fun t_5 pt_5 => ?_)
    refine zs_ite (fun c6 => ?_) (fun c6 => ?_)
    · skip
      have r7 := (zs_I_eq c6)
      have g8 : zs_in (t_5).toInt 0 0 := (zs_eql 0 0 r7 pt_5 zlI_0 (by decide))
      obtain ⟨ret, er, hr⟩ := zc_222 h_σ h_x1 g4 hc
      refine ⟨ret, er, ?_⟩
      exact (zs_sumw hr (fun v w => ⟨w.1, w.2⟩) (fun v w => w.elim))
    · skip
      have r9 := (zs_I_eqn c6)
      have g10 : zs_in (t_5).toInt 1 1 := (zs_nel 1 1 r9 pt_5 zlI_0 (by decide))
      refine zs_lt (Q := fun z => True) trivial (fun y_8 hy_8 => ?_)
      obtain ⟨ret, er, hr⟩ := zc_222 h_σ h_x1 g4 hc
      refine ⟨ret, er, ?_⟩
      exact (zs_sumw hr (fun v w => ⟨w.1, w.2⟩) (fun v w => w.elim))
theorem zd_37 {σ0 : sn_S} {σ : sn_S} (h_σ : zs_C σ0 σ) {x1 : Int32} (h_x1 : zs_in x1.toInt 0 29) {s0 : (Int32 × Int32)} (h0 : (True ∧ zs_in (s0.2).toInt 0 6)) : zs_ok (sn_it (LX8_covers_15 σ x1) 5000 s0) (fun t => True) := by
  refine zs_it (I := fun s => (True ∧ zs_in (s.2).toInt 0 6)) (m := fun s => 6 - s.2.toInt) (fun s hs => ?_) (fun s hs => ?_) (by exact h0)
  · have h1 := hs.2; unfold zs_in at h1
    omega
  · obtain ⟨b, eb, hb⟩ := zc_223 h_σ h_x1 hs.2 (c := s.2.toInt) (Int.add_zero _).symm
    exact ⟨b, eb, zs_sumw hb (fun v w => ⟨⟨w.1.1, (zs_w w.1.2 (by decide))⟩, by have := w.2; omega⟩) (fun v w => w)⟩
-- BX8_covers_56
theorem zc_224 {σ0 : sn_S} {σ : sn_S} (h_σ : zs_C σ0 σ) {x2 : Int32} : zs_ok (BX8_covers_56 σ x2) (fun r => True) := by
  unfold BX8_covers_56
  exact zs_some trivial
-- fX8_covers
theorem zc_225 {σ0 : sn_S} {σ : sn_S} (h_σ : zs_C σ0 σ) {x1 : Int32} : zs_ok (fX8_covers σ x1) (fun r => (True) ∧ ((r).toInt = (-2) ∨ (zs_in (x1).toInt 0 29))) := by
  unfold fX8_covers
  refine zs_bd_ (zc_44 h_σ) (fun t_1 pt_1 => ?_)
  refine zs_ite (fun c1 => ?_) (fun c1 => ?_)
  · skip
    have r2 := (zs_I_eq c1)
    have g3 : zs_in (t_1).toInt 0 0 := (zs_eql 0 0 r2 pt_1.1 zlI_0 (by decide))
    exact zs_some ⟨trivial, Or.inl (zs_ptr zlI_m2)⟩
  · skip
    have r4 := (zs_I_eqn c1)
    have g5 : zs_in (t_1).toInt 1 1 := (zs_nel 1 1 r4 pt_1.1 zlI_0 (by decide))
    have q6 := (zs_or2 pt_1.2 g5 (by decide))
    have g7 : zs_in (x1).toInt 0 29 := q6
    refine zs_bd_ (zd_37 h_σ g7 (s0 := ((0 : Int32), (0 : Int32))) ⟨trivial, (zs_w zlI_0 (by decide))⟩) (fun t_4 pt_4 => ?_)
    obtain ⟨ret, er, hr⟩ := zc_224 h_σ
    refine ⟨ret, er, ?_⟩
    exact ⟨hr, Or.inr g7⟩
-- BX9_covers_15
theorem zc_226 {σ0 : sn_S} {σ : sn_S} (h_σ : zs_M σ0 σ) {x1 : Int32} (h_x1 : zs_in x1.toInt 0 29) {x2 : Int32} {x3 : Int32} (h_x3 : zs_in x3.toInt 0 6) {c : Int} (hc : x3.toInt = c + 0) : zs_ok (BX9_covers_15 σ x1 x2 x3) (fun r => zs_sum (fun v => ((True ∧ zs_in (v.2).toInt 1 6)) ∧ v.2.toInt = c + 1) (fun v => True) r) := by
  unfold BX9_covers_15
  refine zs_gd (zs_gin zlI_8 (by decide)) ?_
  refine zs_ite (fun c1 => ?_) (fun c1 => ?_)
  · skip
    have r2 := (zs_I_le c1)
    exact zs_some (zs_inr (trivial))
  · skip
    have r3 := (zs_I_len c1)
    have g4 : zs_in (x3).toInt 0 5 := (zs_ltl 0 5 r3 h_x3 (zs_rdk (q := 1) (k := (8 : Int32).toNatClampNeg) (z := (0, 6)) h_σ.1 rfl) (by decide))
    have g5 : zs_in ((sn_I σ 1 (8 : Int32).toNatClampNeg)).toInt 1 6 := (zs_ltr 1 6 r3 h_x3 (zs_rdk (q := 1) (k := (8 : Int32).toNatClampNeg) (z := (0, 6)) h_σ.1 rfl) (by decide))
    refine zs_bd_ (zc_205 h_σ g4) (fun t_3 pt_3 => ?_)
    refine zs_bd_ (zc_181 pt_3 h_x1) (fun t_5 pt_5 => ?_)
    refine zs_lt (Q := fun z => True) trivial (fun y_7 hy_7 => ?_)
    refine zs_lt (Q := fun z => zs_in z.toInt 1 6 ∧ z.toInt = c + 1) ⟨(zs_addI 1 6 g4 zlI_1 (by decide)), (zs_syI 1 hc g4 zlI_1 (by decide) (by decide))⟩ (fun y_9 hy_9 => ?_)
    exact zs_some (zs_inl ⟨⟨trivial, hy_9.1⟩, hy_9.2⟩)
theorem zd_38 {σ0 : sn_S} {σ : sn_S} (h_σ : zs_M σ0 σ) {x1 : Int32} (h_x1 : zs_in x1.toInt 0 29) {s0 : (Int32 × Int32)} (h0 : (True ∧ zs_in (s0.2).toInt 0 6)) : zs_ok (sn_it (LX9_covers_15 σ x1) 5000 s0) (fun t => True) := by
  refine zs_it (I := fun s => (True ∧ zs_in (s.2).toInt 0 6)) (m := fun s => 6 - s.2.toInt) (fun s hs => ?_) (fun s hs => ?_) (by exact h0)
  · have h1 := hs.2; unfold zs_in at h1
    omega
  · obtain ⟨b, eb, hb⟩ := zc_226 h_σ h_x1 hs.2 (c := s.2.toInt) (Int.add_zero _).symm
    exact ⟨b, eb, zs_sumw hb (fun v w => ⟨⟨w.1.1, (zs_w w.1.2 (by decide))⟩, by have := w.2; omega⟩) (fun v w => w)⟩
-- BX9_covers_46
theorem zc_227 {σ0 : sn_S} {σ : sn_S} (h_σ : zs_M σ0 σ) {x2 : Int32} : zs_ok (BX9_covers_46 σ x2) (fun r => (True ∧ zs_M σ0 r.2)) := by
  unfold BX9_covers_46
  exact zs_some ⟨trivial, h_σ⟩
-- fX9_covers
theorem zc_228 {σ0 : sn_S} {σ : sn_S} (h_σ : zs_M σ0 σ) {x1 : Int32} : zs_ok (fX9_covers σ x1) (fun r => ((True ∧ zs_M σ0 r.2)) ∧ ((r.1).toInt = (-2) ∨ (zs_in (x1).toInt 0 29))) := by
  unfold fX9_covers
  refine zs_bd_ (zc_95 h_σ) (fun t_1 pt_1 => ?_)
  refine zs_ite (fun c1 => ?_) (fun c1 => ?_)
  · skip
    have r2 := (zs_I_eq c1)
    have g3 : zs_in (t_1.1).toInt 0 0 := (zs_eql 0 0 r2 pt_1.1.1 zlI_0 (by decide))
    exact zs_some ⟨⟨trivial, pt_1.1.2⟩, Or.inl (zs_ptr zlI_m2)⟩
  · skip
    have r4 := (zs_I_eqn c1)
    have g5 : zs_in (t_1.1).toInt 1 1 := (zs_nel 1 1 r4 pt_1.1.1 zlI_0 (by decide))
    have q6 := (zs_or2 pt_1.2 g5 (by decide))
    have g7 : zs_in (x1).toInt 0 29 := q6
    refine zs_bd_ (zd_38 pt_1.1.2 g7 (s0 := ((0 : Int32), (0 : Int32))) ⟨trivial, (zs_w zlI_0 (by decide))⟩) (fun t_4 pt_4 => ?_)
    obtain ⟨ret, er, hr⟩ := zc_227 pt_1.1.2
    refine ⟨ret, er, ?_⟩
    exact ⟨hr, Or.inr g7⟩
-- fX2_ofPolicy
theorem zc_229 {σ0 : sn_S} {σ : sn_S} (h_σ : zs_C σ0 σ) {x1 : Int32} (h_x1 : zs_in x1.toInt 0 5) {x2 : Int32} (h_x2 : zs_in x2.toInt 4 4) : zs_ok (fX2_ofPolicy σ 1 x1 x2) (fun r => True) := by
  unfold fX2_ofPolicy
  obtain rfl : x2 = (4 : Int32) := zs_eqv h_x2 (by decide)
  refine zs_gd (zs_gin (zs_addI 4 29 (zs_mulI 0 25 zlI_5 h_x1 (by decide)) h_x2 (by decide)) (by decide)) ?_
  exact zs_some trivial
-- BX2_gustMinutes_4
theorem zc_230 {σ0 : sn_S} {σ : sn_S} (h_σ : zs_C σ0 σ) {x1 : Int32} (h_x1 : zs_in x1.toInt 0 1073741823) {x2 : Int32} (h_x2 : zs_in x2.toInt 0 5) {c : Int} (hc : x2.toInt = c + 0) : zs_ok (BX2_gustMinutes_4 σ 1 x1 x2) (fun r => zs_sum (fun v => ((zs_in (v.1).toInt 0 1073741823 ∧ zs_in (v.2).toInt 1 5)) ∧ v.2.toInt = c + 1) (fun v => zs_in (v).toInt 0 1073741823) r) := by
  unfold BX2_gustMinutes_4
  refine zs_gd (zs_gin zlI_6 (by decide)) ?_
  refine zs_ite (fun c1 => ?_) (fun c1 => ?_)
  · skip
    have r2 := (zs_I_le c1)
    exact zs_some (zs_inr (h_x1))
  · skip
    have r3 := (zs_I_len c1)
    have g4 : zs_in (x2).toInt 0 4 := (zs_ltl 0 4 r3 h_x2 (zs_rdk (q := 2) (k := (6 : Int32).toNatClampNeg) (z := (0, 5)) h_σ.1 rfl) (by decide))
    have g5 : zs_in ((sn_I σ (1 + 1) (6 : Int32).toNatClampNeg)).toInt 1 5 := (zs_ltr 1 5 r3 h_x2 (zs_rdk (q := 2) (k := (6 : Int32).toNatClampNeg) (z := (0, 5)) h_σ.1 rfl) (by decide))
    refine zs_gd (zs_gin (zs_addI 1 9 (zs_mulI 0 8 zlI_2 g4 (by decide)) zlI_1 (by decide)) (by decide)) ?_
    refine zs_lt (Q := fun z => zs_in z.toInt 0 1073741823) (zs_or 30 1073741823 h_x1 (zs_cases (zs_use (h_σ.1.2 rfl).1.1.1 g4 (by decide) r3 (zs_i21 g4 (by decide))) (fun z => zs_in ((1 : Int32) <<< (z &&& 31)).toInt 1 536870912) (by decide +kernel)) (by decide)) (fun y_4 hy_4 => ?_)
    refine zs_lt (Q := fun z => zs_in z.toInt 1 5 ∧ z.toInt = c + 1) ⟨(zs_addI 1 5 g4 zlI_1 (by decide)), (zs_syI 1 hc g4 zlI_1 (by decide) (by decide))⟩ (fun y_6 hy_6 => ?_)
    exact zs_some (zs_inl ⟨⟨hy_4, hy_6.1⟩, hy_6.2⟩)
theorem zd_39 {σ0 : sn_S} {σ : sn_S} (h_σ : zs_C σ0 σ) {s0 : (Int32 × Int32)} (h0 : (zs_in (s0.1).toInt 0 1073741823 ∧ zs_in (s0.2).toInt 0 5)) : zs_ok (sn_it (LX2_gustMinutes_4 σ 1) 5000 s0) (fun t => zs_in (t).toInt 0 1073741823) := by
  refine zs_it (I := fun s => (zs_in (s.1).toInt 0 1073741823 ∧ zs_in (s.2).toInt 0 5)) (m := fun s => 5 - s.2.toInt) (fun s hs => ?_) (fun s hs => ?_) (by exact h0)
  · have h1 := hs.2; unfold zs_in at h1
    omega
  · obtain ⟨b, eb, hb⟩ := zc_230 h_σ hs.1 hs.2 (c := s.2.toInt) (Int.add_zero _).symm
    exact ⟨b, eb, zs_sumw hb (fun v w => ⟨⟨w.1.1, (zs_w w.1.2 (by decide))⟩, by have := w.2; omega⟩) (fun v w => w)⟩
-- BX2_gustMinutes_36
theorem zc_231 {σ0 : sn_S} {σ : sn_S} (h_σ : zs_C σ0 σ) {x1 : Int32} (h_x1 : zs_in x1.toInt 0 1073741823) : zs_ok (BX2_gustMinutes_36 σ 1 x1) (fun r => zs_in (r).toInt 0 1073741823) := by
  unfold BX2_gustMinutes_36
  exact zs_some h_x1
-- fX2_gustMinutes
theorem zc_232 {σ0 : sn_S} {σ : sn_S} (h_σ : zs_C σ0 σ) : zs_ok (fX2_gustMinutes σ 1) (fun r => zs_in (r).toInt 0 1073741823) := by
  unfold fX2_gustMinutes
  refine zs_bd_ (zd_39 h_σ (s0 := ((0 : Int32), (0 : Int32))) ⟨(zs_w zlI_0 (by decide)), (zs_w zlI_0 (by decide))⟩) (fun t_1 pt_1 => ?_)
  obtain ⟨ret, er, hr⟩ := zc_231 h_σ pt_1
  refine ⟨ret, er, ?_⟩
  exact hr
-- fX3_counting
theorem zc_233 {σ0 : sn_S} {σ : sn_S} (h_σ : zs_C σ0 σ) {x1 : Int32} (h_x1 : zs_in x1.toInt 0 3) {x2 : Int32} (h_x2 : zs_in x2.toInt 0 5) {x3 : Int32} (h_x3 : zs_in x3.toInt 0 1073741823) : zs_ok (fX3_counting σ 1 x1 x2 x3) (fun r => zs_in (r).toInt 0 1073741823) := by
  unfold fX3_counting
  refine zs_bd_ (zc_193 h_σ h_x2) (fun t_1 pt_1 => ?_)
  refine zs_lt (Q := fun z => zs_in z.toInt 0 1073741823) (zs_and2 h_x3 (by decide)) (fun y_3 hy_3 => ?_)
  refine zs_ite (fun c1 => ?_) (fun c1 => ?_)
  · skip
    have r2 := (zs_I_eq c1)
    have g3 : zs_in (x1).toInt 1 1 := (zs_eql 1 1 r2 h_x1 zlI_1 (by decide))
    refine zs_bd_ (zc_232 h_σ) (fun t_6 pt_6 => ?_)
    exact zs_some (zs_and2 hy_3 (by decide))
  · skip
    have r4 := (zs_I_eqn c1)
    exact zs_some hy_3
-- fX2_ofPolicy
theorem zc_234 {σ0 : sn_S} {σ : sn_S} (h_σ : zs_C σ0 σ) {x1 : Int32} (h_x1 : zs_in x1.toInt 0 5) {x2 : Int32} (h_x2 : zs_in x2.toInt 3 3) : zs_ok (fX2_ofPolicy σ 1 x1 x2) (fun r => True) := by
  unfold fX2_ofPolicy
  obtain rfl : x2 = (3 : Int32) := zs_eqv h_x2 (by decide)
  refine zs_gd (zs_gin (zs_addI 3 28 (zs_mulI 0 25 zlI_5 h_x1 (by decide)) h_x2 (by decide)) (by decide)) ?_
  exact zs_some trivial
-- fX3_claimBy
theorem zc_235 {σ0 : sn_S} {σ : sn_S} (h_σ : zs_C σ0 σ) {x1 : Int32} (h_x1 : zs_in x1.toInt 0 3) {x2 : Int32} (h_x2 : zs_in x2.toInt 0 5) {x3 : Int32} (h_x3 : zs_in x3.toInt 0 1073741823) {x4 : Int32} : zs_ok (fX3_claimBy σ 1 x1 x2 x3 x4) (fun r => True) := by
  unfold fX3_claimBy
  refine zs_bd_ (zc_233 h_σ h_x1 h_x2 h_x3) (fun t_1 pt_1 => ?_)
  refine zs_bd_ (zc_234 h_σ h_x2 zlI_3) (fun t_3 pt_3 => ?_)
  refine zs_ite (fun c1 => ?_) (fun c1 => ?_)
  · skip
    have r2 := (zs_I_eq c1)
    have g3 : zs_in (t_1).toInt 0 0 := (zs_eql 0 0 r2 pt_1 zlI_0 (by decide))
    exact zs_some trivial
  · skip
    have r4 := (zs_I_eqn c1)
    have g5 : zs_in (t_1).toInt 1 1073741823 := (zs_nel 1 1073741823 r4 pt_1 zlI_0 (by decide))
    refine zs_ite (fun c6 => ?_) (fun c6 => ?_)
    · skip
      have r7 := (zs_I_eq c6)
      have g8 : zs_in (x1).toInt 2 2 := (zs_eql 2 2 r7 h_x1 zlI_2 (by decide))
      refine zs_bd_ (zo_bc 30 30 (by decide) g5) (fun t_17 pt_17 => ?_)
      refine zs_lt (Q := fun z => zs_in z.toInt 0 3) (zs_min 0 3 pt_17 zlI_3 (by decide)) (fun y_19 hy_19 => ?_)
      exact zs_some trivial
    · skip
      have r9 := (zs_I_eqn c6)
      refine zs_bd_ (zo_low1 30 29 (by decide) g5) (fun t_7 pt_7 => ?_)
      refine zs_bd_ (zc_187 pt_7) (fun t_9 pt_9 => ?_)
      refine zs_bd_ (zc_193 h_σ h_x2) (fun t_11 pt_11 => ?_)
      refine zs_lt (Q := fun z => zs_in z.toInt 0 536870911) (zs_and2 pt_9 (by decide)) (fun y_13 hy_13 => ?_)
      refine zs_ite (fun c10 => ?_) (fun c10 => ?_)
      · skip
        have r11 := (zs_I_eq c10)
        have g12 : zs_in (x1).toInt 3 3 := (zs_eql 3 3 r11 h_x1 zlI_3 (by decide))
        refine zs_ite (fun c13 => ?_) (fun c13 => ?_)
        · skip
          have r14 := (zs_I_eq c13)
          have g15 : zs_in ((x4 &&& y_13)).toInt 0 0 := (zs_eql 0 0 r14 (zs_and hy_13 (by decide)) zlI_0 (by decide))
          exact zs_some trivial
        · skip
          have r16 := (zs_I_eqn c13)
          have g17 : zs_in ((x4 &&& y_13)).toInt 1 536870911 := (zs_nel 1 536870911 r16 (zs_and hy_13 (by decide)) zlI_0 (by decide))
          exact zs_some trivial
      · skip
        have r18 := (zs_I_eqn c10)
        have g19 : zs_in (x1).toInt 0 2 := (zs_neh 0 2 r18 h_x1 zlI_3 (by decide))
        exact zs_some trivial
-- BX3_reckon_115
theorem zc_236 {σ0 : sn_S} {σ : sn_S} (h_σ : zs_C σ0 σ) : zs_ok (BX3_reckon_115 σ 49 1 27) (fun r => zs_C σ0 r) := by
  unfold BX3_reckon_115
  exact zs_some h_σ
theorem zo_reckon_49_27_0_3_l {σ0 : sn_S} {x3 : Int32} (h_x3 : zs_in x3.toInt 0 3) {s0 : sn_S × Int32} (h0 : zs_C σ0 s0.1 ∧ zs_in s0.2.toInt 0 6 ∧ (sn_I s0.1 49 2).toInt = (σ0.1 2 8).toInt) : zs_ok (sn_it (LX3_reckon_24 49 1 27 x3) 5000 s0) (fun t => zs_C σ0 t) := by
  refine zs_it (I := fun s => zs_C σ0 s.1 ∧ zs_in s.2.toInt 0 6 ∧ (sn_I s.1 49 2).toInt = (σ0.1 2 8).toInt) (m := fun s => 6 - s.2.toInt) (fun s hs => ⟨by have := hs.2.1; omega, by have := hs.2.1; omega⟩) (fun s hs => ?_) h0
  obtain ⟨σ, x4⟩ := s
  obtain ⟨h_σ, h_x4, hq⟩ := hs
  unfold LX3_reckon_24 BX3_reckon_24
  refine zs_ite (fun c1 => zs_some (zs_inr h_σ)) (fun c1 => ?_)
  have r3 := (zs_I_len c1)
  have g4 : zs_in (x4).toInt 0 5 := (zs_ltl 0 5 r3 h_x4 (zs_rdk (q := 49) (k := 2) (z := (0, 6)) h_σ.1 rfl) (by decide))
  haveI : zs_Ws σ0 x4 := ⟨⟨by have h1 : x4.toInt < (sn_I σ 49 2).toInt := r3; have h2 : (sn_I σ 49 2).toInt = (σ0.1 2 8).toInt := hq; omega⟩⟩
  refine zs_bd_ (zo_whose h_σ g4) (fun t_2 pt_2 => ?_)
  refine zs_gd (zs_gin pt_2 (by decide)) ?_
  refine zs_lt (Q := fun z => zs_in z.toInt 0 1073741823) (zs_rdu (q := 37) (z := (0, 1073741823)) h_σ.1 (fun _ => rfl)) (fun y_5 hy_5 => ?_)
  refine zs_bd_ (zc_229 h_σ g4 zlI_4) (fun t_7 pt_7 => ?_)
  refine zs_lt (Q := fun z => zs_C σ0 z ∧ (sn_I z 49 2).toInt = (σ0.1 2 8).toInt) ⟨zs_wrkt h_σ rfl rfl, hq⟩ (fun σ_9 hσ_9 => ?_)
  refine zs_gd (zs_gin pt_2 (by decide)) ?_
  refine zs_bd_ (zc_235 hσ_9.1 h_x3 g4 hy_5) (fun t_12 pt_12 => ?_)
  refine zs_gd (zs_gin g4 (by decide)) ?_
  refine zs_lt (Q := fun z => zs_C σ0 z ∧ (sn_I z 49 2).toInt = (σ0.1 2 8).toInt) ⟨zs_wrt hσ_9.1 (fun _ => rfl) (fun _ => rfl), hσ_9.2⟩ (fun σ_15 hσ_15 => ?_)
  refine zs_bd_ (zc_233 hσ_15.1 h_x3 g4 hy_5) (fun t_17 pt_17 => ?_)
  refine zs_bd_ (zo_low 30 29 (by decide) pt_17) (fun t_19 pt_19 => ?_)
  refine zs_gd (zs_gin g4 (by decide)) ?_
  refine zs_lt (Q := fun z => zs_C σ0 z ∧ (sn_I z 49 2).toInt = (σ0.1 2 8).toInt) ⟨zs_wru (z := ((-1), 63)) hσ_15.1 (fun _ => rfl) pt_19 (by decide) (fun _ => rfl), hσ_15.2⟩ (fun σ_22 hσ_22 => ?_)
  refine zs_lt (Q := fun z => zs_in z.toInt 1 6 ∧ z.toInt = x4.toInt + 1) ⟨(zs_addI 1 6 g4 zlI_1 (by decide)), (zs_syI 1 (show x4.toInt = x4.toInt + 0 by omega) g4 zlI_1 (by decide) (by decide))⟩ (fun y_24 hy_24 => ?_)
  exact zs_some (zs_inl ⟨⟨hσ_22.1, zs_w hy_24.1 (by decide), hσ_22.2⟩, by show 6 - y_24.toInt < 6 - x4.toInt; have := hy_24.2; omega⟩)
theorem zo_reckon_49_27_0_3 {σ0 : sn_S} {σ : sn_S} (h_σ : zs_C σ0 σ) {x3 : Int32} (h_x3 : zs_in x3.toInt 0 3) : zs_ok (fX3_reckon σ 49 1 27 x3) (fun r => zs_C σ0 r) := by
  unfold fX3_reckon
  have e8 : sn_I σ (1 + 1) (8 : Int32).toNatClampNeg = σ0.1 2 8 := h_σ.2.1 2 8 rfl
  refine zs_gd (by decide) ?_
  refine zs_lt (Q := fun z => zs_C σ0 z ∧ (sn_I z 49 2).toInt = (σ0.1 2 8).toInt) ⟨zs_wrk (z := (0, 6)) h_σ rfl (zs_rdk (q := 2) (k := (8 : Int32).toNatClampNeg) (z := (0, 6)) h_σ.1 rfl) (by decide) rfl, by
    show (sn_I σ (1 + 1) (8 : Int32).toNatClampNeg).toInt = _
    rw [e8]⟩ (fun σ_2 h2 => ?_)
  refine zs_gd (by decide) ?_
  refine zs_lt (Q := fun z => zs_C σ0 z ∧ (sn_I z 49 2).toInt = (σ0.1 2 8).toInt) ⟨zs_wrkt h2.1 rfl rfl, h2.2⟩ (fun σ_5 h5 => ?_)
  refine zs_bd_ (zo_reckon_49_27_0_3_l h_x3 (s0 := (σ_5, (0 : Int32))) ⟨h5.1, (by decide : zs_in (0 : Int32).toInt 0 6), h5.2⟩) (fun t_7 p7 => ?_)
  exact zc_236 p7
-- fX8_ledgerNow
theorem zc_237 {σ0 : sn_S} {σ : sn_S} (h_σ : zs_C σ0 σ) : zs_ok (fX8_ledgerNow σ) (fun r => zs_C σ0 r) := by
  unfold fX8_ledgerNow
  refine zs_gd (zs_gin zlI_2 (by decide)) ?_
  refine zs_bd_ (zo_reckon_49_27_0_3 h_σ (zs_rdk (q := 2) (k := (2 : Int32).toNatClampNeg) (z := (0, 3)) h_σ.1 rfl)) (fun t_2 pt_2 => ?_)
  exact zs_some pt_2
-- fX8_profit
theorem zc_238 {σ0 : sn_S} {σ : sn_S} (h_σ : zs_C σ0 σ) {x1 : Int32} : zs_ok (fX8_profit σ x1) (fun r => (True ∧ zs_C σ0 r.2)) := by
  unfold fX8_profit
  refine zs_bd_ (zo_isPolicy h_σ) (fun t_1 pt_1 => ?_)
  refine zs_ite (fun c1 => ?_) (fun c1 => ?_)
  · skip
    have r2 := (zs_I_eq c1)
    have g3 : zs_in (t_1).toInt 0 0 := (zs_eql 0 0 r2 pt_1.1 zlI_0 (by decide))
    exact zs_some ⟨trivial, h_σ⟩
  · skip
    have r4 := (zs_I_eqn c1)
    have g5 : zs_in (t_1).toInt 1 1 := (zs_nel 1 1 r4 pt_1.1 zlI_0 (by decide))
    have q6 := (zs_or2 pt_1.2.1 g5 (by decide))
    have g7 : zs_in (x1).toInt 0 5 := q6
    haveI := zs_or2 pt_1.2.2 g5 (by decide)
    refine zs_bd_ (zc_229 h_σ g7 zlI_4) (fun t_4 pt_4 => ?_)
    refine zs_bd_ (zc_237 h_σ) (fun t_6 pt_6 => ?_)
    refine zs_gd (zs_gin g7 (by decide)) ?_
    exact zs_some ⟨trivial, pt_6⟩
-- fX9_asksPolicy
theorem zc_239 {σ0 : sn_S} {σ : sn_S} (h_σ : zs_M σ0 σ) {x1 : Int32} : zs_ok (fX9_asksPolicy σ x1) (fun r => ((zs_in (r.1).toInt 0 1 ∧ zs_M σ0 r.2)) ∧ ((r.1).toInt = 0 ∨ (zs_in (x1).toInt 0 5))) := by
  unfold fX9_asksPolicy
  refine zs_bd_ (zc_92 h_σ) (fun t_1 pt_1 => ?_)
  refine zs_bd_ (zc_11 pt_1.2) (fun t_3 pt_3 => ?_)
  refine zs_gd (zs_b01 pt_3.1 (by decide)) ?_
  rcases pt_3.2 with z0 | z0
  · skip
    have g1 : zs_in (t_3).toInt 0 0 := (zs_pt z0)
    exact zs_some ⟨⟨(zs_w g1 (by decide)), pt_1.2⟩, Or.inl (zs_ptr g1)⟩
  · skip
    have q2 := z0
    have g3 : zs_in (x1).toInt 0 5 := q2
    exact zs_some ⟨⟨pt_3.1, pt_1.2⟩, Or.inr g3⟩
-- fX9_of
theorem zc_240 {σ0 : sn_S} {σ : sn_S} (h_σ : zs_M σ0 σ) {x1 : Int32} (h_x1 : zs_in x1.toInt 0 5) {x2 : Int32} (h_x2 : zs_in x2.toInt 4 4) : zs_ok (fX9_of σ x1 x2) (fun r => zs_in (r).toInt 0 99) := by
  unfold fX9_of
  obtain rfl : x2 = (4 : Int32) := zs_eqv h_x2 (by decide)
  refine zs_gd (zs_gin (zs_addI 53 78 (zs_addI 49 74 zlI_49 (zs_mulI 0 25 zlI_5 h_x1 (by decide)) (by decide)) h_x2 (by decide)) (by decide)) ?_
  exact zs_some (zs_rdb (q := 1) (lo := 0) (hi := 99) h_σ.1 (zs_cases h_x1 (fun z => zs_bd (zs_tM 1 (((49 : Int32) + ((5 : Int32) * z)) + (4 : Int32)).toNatClampNeg) 0 99) (by decide +kernel)))
-- fX9_ahead
theorem zc_241 {x1 : Int32} (h_x1 : zs_in x1.toInt 0 29) : zs_ok (fX9_ahead x1) (fun r => zs_in (r).toInt 0 536870911) := by
  unfold fX9_ahead
  exact zs_some (zs_subI 0 536870911 (zs_cases h_x1 (fun z => zs_in ((1 : Int32) <<< (z &&& 31)).toInt 1 536870912) (by decide +kernel)) zlI_1 (by decide))
-- fX9_of
theorem zc_242 {σ0 : sn_S} {σ : sn_S} (h_σ : zs_M σ0 σ) {x1 : Int32} (h_x1 : zs_in x1.toInt 0 5) {x2 : Int32} (h_x2 : zs_in x2.toInt 3 3) : zs_ok (fX9_of σ x1 x2) (fun r => zs_in (r).toInt 0 99) := by
  unfold fX9_of
  obtain rfl : x2 = (3 : Int32) := zs_eqv h_x2 (by decide)
  refine zs_gd (zs_gin (zs_addI 52 77 (zs_addI 49 74 zlI_49 (zs_mulI 0 25 zlI_5 h_x1 (by decide)) (by decide)) h_x2 (by decide)) (by decide)) ?_
  exact zs_some (zs_rdb (q := 1) (lo := 0) (hi := 99) h_σ.1 (zs_cases h_x1 (fun z => zs_bd (zs_tM 1 (((49 : Int32) + ((5 : Int32) * z)) + (3 : Int32)).toNatClampNeg) 0 99) (by decide +kernel)))
-- BX9_claimOf_177
theorem zc_243 {σ0 : sn_S} {σ : sn_S} (h_σ : zs_M σ0 σ) {x1 : Int32} (h_x1 : zs_in x1.toInt 0 5) {x2 : Int32} (h_x2 : zs_in x2.toInt 0 5) {x3 : Int32} (h_x3 : zs_in x3.toInt 0 0) {x4 : Int32} (h_x4 : zs_in x4.toInt 0 1073741823) {x5 : Int32} {x6 : Int32} (h_x6 : zs_in x6.toInt 3 3) {x7 : Int32} (h_x7 : zs_in x7.toInt 0 2) {c : Int} (hc : x7.toInt = c + 0) : zs_ok (BX9_claimOf_177 σ x1 x2 x3 x4 x5 x6 x7) (fun r => zs_sum (fun v => ((zs_M σ0 v.1 ∧ (zs_in (v.2.1).toInt 0 1073741823 ∧ (True ∧ zs_in (v.2.2.2).toInt 1 3)))) ∧ v.2.2.2.toInt = c + 1) (fun v => False) r) := by
  unfold BX9_claimOf_177
  obtain rfl : x3 = (0 : Int32) := zs_eqv h_x3 (by decide)
  obtain rfl : x6 = (3 : Int32) := zs_eqv h_x6 (by decide)
  refine zs_lt (Q := fun z => zs_in z.toInt 1 3 ∧ z.toInt = c + 1) ⟨(zs_addI 1 3 h_x7 zlI_1 (by decide)), (zs_syI 1 hc h_x7 zlI_1 (by decide) (by decide))⟩ (fun y_1 hy_1 => ?_)
  exact zs_some (zs_inl ⟨⟨h_σ, ⟨h_x4, ⟨trivial, hy_1.1⟩⟩⟩, hy_1.2⟩)
-- BX9_claimOf_152
theorem zc_244 {σ0 : sn_S} {σ : sn_S} (h_σ : zs_M σ0 σ) {x1 : Int32} (h_x1 : zs_in x1.toInt 0 5) {x2 : Int32} (h_x2 : zs_in x2.toInt 0 5) {x3 : Int32} (h_x3 : zs_in x3.toInt 0 0) {x4 : Int32} (h_x4 : zs_in x4.toInt 0 1073741823) {x5 : Int32} {x6 : Int32} (h_x6 : zs_in x6.toInt 3 3) {x7 : Int32} (h_x7 : zs_in x7.toInt 0 2) {x8 : Int32} (h_x8 : zs_in x8.toInt 0 29) {t0 : Int32} (h_t0 : zs_in t0.toInt 0 99) {c : Int} (hc : x7.toInt = c + 0) : zs_ok (BX9_claimOf_152 σ x1 x2 x3 x4 x5 x6 x7 x8 t0) (fun r => zs_sum (fun v => ((zs_M σ0 v.1 ∧ (zs_in (v.2.1).toInt 0 1073741823 ∧ (True ∧ zs_in (v.2.2.2).toInt 1 3)))) ∧ v.2.2.2.toInt = c + 1) (fun v => False) r) := by
  unfold BX9_claimOf_152
  obtain rfl : x3 = (0 : Int32) := zs_eqv h_x3 (by decide)
  obtain rfl : x6 = (3 : Int32) := zs_eqv h_x6 (by decide)
  refine zs_lt (Q := fun z => True) trivial (fun y_1 hy_1 => ?_)
  refine zs_ite (fun c1 => ?_) (fun c1 => ?_)
  · skip
    have r2 := (zs_I_eq c1)
    obtain ⟨ret, er, hr⟩ := zc_243 h_σ h_x1 h_x2 h_x3 h_x4 h_x6 h_x7 hc
    refine ⟨ret, er, ?_⟩
    exact (zs_sumw hr (fun v w => ⟨w.1, w.2⟩) (fun v w => w.elim))
  · skip
    have r3 := (zs_I_eqn c1)
    exact (zs_botne r3 h_x3 zlI_0 (by decide)).elim
-- BX9_claimOf_128
theorem zc_245 {σ0 : sn_S} {σ : sn_S} (h_σ : zs_M σ0 σ) {x1 : Int32} (h_x1 : zs_in x1.toInt 0 5) {x2 : Int32} (h_x2 : zs_in x2.toInt 0 5) {x3 : Int32} (h_x3 : zs_in x3.toInt 0 0) {x4 : Int32} (h_x4 : zs_in x4.toInt 0 1073741823) {x5 : Int32} {x6 : Int32} (h_x6 : zs_in x6.toInt 3 3) {x7 : Int32} (h_x7 : zs_in x7.toInt 0 2) {x8 : Int32} (h_x8 : zs_in x8.toInt 0 29) {t0 : Int32} (h_t0 : zs_in t0.toInt 0 0) {c : Int} (hc : x7.toInt = c + 0) : zs_ok (BX9_claimOf_128 σ x1 x2 x3 x4 x5 x6 x7 x8 t0) (fun r => zs_sum (fun v => ((zs_M σ0 v.1 ∧ (zs_in (v.2.1).toInt 0 1073741823 ∧ (True ∧ zs_in (v.2.2.2).toInt 1 3)))) ∧ v.2.2.2.toInt = c + 1) (fun v => False) r) := by
  unfold BX9_claimOf_128
  obtain rfl : x3 = (0 : Int32) := zs_eqv h_x3 (by decide)
  obtain rfl : x6 = (3 : Int32) := zs_eqv h_x6 (by decide)
  obtain rfl : t0 = (0 : Int32) := zs_eqv h_t0 (by decide)
  refine zs_ite (fun c1 => ?_) (fun c1 => ?_)
  · skip
    have r2 := (zs_I_eq c1)
    refine zs_bd_ (zc_242 h_σ h_x1 zlI_3) (fun t_2 pt_2 => ?_)
    obtain ⟨ret, er, hr⟩ := zc_244 h_σ h_x1 h_x2 h_x3 h_x4 h_x6 h_x7 h_x8 pt_2 hc
    refine ⟨ret, er, ?_⟩
    exact (zs_sumw hr (fun v w => ⟨w.1, w.2⟩) (fun v w => w.elim))
  · skip
    have r3 := (zs_I_eqn c1)
    exact (zs_botne r3 h_t0 zlI_0 (by decide)).elim
-- BX9_claimOf_127
theorem zc_246 {σ0 : sn_S} {σ : sn_S} (h_σ : zs_M σ0 σ) {x1 : Int32} (h_x1 : zs_in x1.toInt 0 5) {x2 : Int32} (h_x2 : zs_in x2.toInt 0 5) {x3 : Int32} (h_x3 : zs_in x3.toInt 0 0) {x4 : Int32} (h_x4 : zs_in x4.toInt 0 1073741823) {x5 : Int32} {x6 : Int32} (h_x6 : zs_in x6.toInt 3 3) {x7 : Int32} (h_x7 : zs_in x7.toInt 0 2) {x8 : Int32} (h_x8 : zs_in x8.toInt 0 29) {c : Int} (hc : x7.toInt = c + 0) : zs_ok (BX9_claimOf_127 σ x1 x2 x3 x4 x5 x6 x7 x8) (fun r => zs_sum (fun v => ((zs_M σ0 v.1 ∧ (zs_in (v.2.1).toInt 0 1073741823 ∧ (True ∧ zs_in (v.2.2.2).toInt 1 3)))) ∧ v.2.2.2.toInt = c + 1) (fun v => False) r) := by
  unfold BX9_claimOf_127
  obtain rfl : x3 = (0 : Int32) := zs_eqv h_x3 (by decide)
  obtain rfl : x6 = (3 : Int32) := zs_eqv h_x6 (by decide)
  obtain ⟨ret, er, hr⟩ := zc_245 h_σ h_x1 h_x2 h_x3 h_x4 h_x6 h_x7 h_x8 zlI_0 hc
  refine ⟨ret, er, ?_⟩
  exact (zs_sumw hr (fun v w => ⟨w.1, w.2⟩) (fun v w => w.elim))
-- BX9_claimOf_152
theorem zc_247 {σ0 : sn_S} {σ : sn_S} (h_σ : zs_M σ0 σ) {x1 : Int32} (h_x1 : zs_in x1.toInt 0 5) {x2 : Int32} (h_x2 : zs_in x2.toInt 0 5) {x3 : Int32} (h_x3 : zs_in x3.toInt 0 0) {x4 : Int32} (h_x4 : zs_in x4.toInt 0 1073741823) {x5 : Int32} {x6 : Int32} (h_x6 : zs_in x6.toInt 3 3) {x7 : Int32} (h_x7 : zs_in x7.toInt 0 2) {x8 : Int32} (h_x8 : zs_in x8.toInt 0 29) {t0 : Int32} (h_t0 : zs_in t0.toInt 0 49) {c : Int} (hc : x7.toInt = c + 0) : zs_ok (BX9_claimOf_152 σ x1 x2 x3 x4 x5 x6 x7 x8 t0) (fun r => zs_sum (fun v => ((zs_M σ0 v.1 ∧ (zs_in (v.2.1).toInt 0 1073741823 ∧ (True ∧ zs_in (v.2.2.2).toInt 1 3)))) ∧ v.2.2.2.toInt = c + 1) (fun v => False) r) := by
  unfold BX9_claimOf_152
  obtain rfl : x3 = (0 : Int32) := zs_eqv h_x3 (by decide)
  obtain rfl : x6 = (3 : Int32) := zs_eqv h_x6 (by decide)
  refine zs_lt (Q := fun z => True) trivial (fun y_1 hy_1 => ?_)
  refine zs_ite (fun c1 => ?_) (fun c1 => ?_)
  · skip
    have r2 := (zs_I_eq c1)
    obtain ⟨ret, er, hr⟩ := zc_243 h_σ h_x1 h_x2 h_x3 h_x4 h_x6 h_x7 hc
    refine ⟨ret, er, ?_⟩
    exact (zs_sumw hr (fun v w => ⟨w.1, w.2⟩) (fun v w => w.elim))
  · skip
    have r3 := (zs_I_eqn c1)
    exact (zs_botne r3 h_x3 zlI_0 (by decide)).elim
-- BX9_claimOf_128
theorem zc_248 {σ0 : sn_S} {σ : sn_S} (h_σ : zs_M σ0 σ) {x1 : Int32} (h_x1 : zs_in x1.toInt 0 5) {x2 : Int32} (h_x2 : zs_in x2.toInt 0 5) {x3 : Int32} (h_x3 : zs_in x3.toInt 0 0) {x4 : Int32} (h_x4 : zs_in x4.toInt 0 1073741823) {x5 : Int32} {x6 : Int32} (h_x6 : zs_in x6.toInt 3 3) {x7 : Int32} (h_x7 : zs_in x7.toInt 0 2) {x8 : Int32} (h_x8 : zs_in x8.toInt 0 29) {t0 : Int32} (h_t0 : zs_in t0.toInt 1 1) {c : Int} (hc : x7.toInt = c + 0) : zs_ok (BX9_claimOf_128 σ x1 x2 x3 x4 x5 x6 x7 x8 t0) (fun r => zs_sum (fun v => ((zs_M σ0 v.1 ∧ (zs_in (v.2.1).toInt 0 1073741823 ∧ (True ∧ zs_in (v.2.2.2).toInt 1 3)))) ∧ v.2.2.2.toInt = c + 1) (fun v => False) r) := by
  unfold BX9_claimOf_128
  obtain rfl : x3 = (0 : Int32) := zs_eqv h_x3 (by decide)
  obtain rfl : x6 = (3 : Int32) := zs_eqv h_x6 (by decide)
  obtain rfl : t0 = (1 : Int32) := zs_eqv h_t0 (by decide)
  refine zs_ite (fun c1 => ?_) (fun c1 => ?_)
  · skip
    have r2 := (zs_I_eq c1)
    exact (zs_botr r2 h_t0 zlI_0 (by decide)).elim
  · skip
    have r3 := (zs_I_eqn c1)
    refine zs_bd_ (zc_242 h_σ h_x1 zlI_3) (fun t_4 pt_4 => ?_)
    obtain ⟨ret, er, hr⟩ := zc_247 h_σ h_x1 h_x2 h_x3 h_x4 h_x6 h_x7 h_x8 (zs_divI 0 49 pt_4 zlI_2 (by decide)) hc
    refine ⟨ret, er, ?_⟩
    exact (zs_sumw hr (fun v w => ⟨w.1, w.2⟩) (fun v w => w.elim))
-- BX9_claimOf_63
theorem zc_249 {σ0 : sn_S} {σ : sn_S} (h_σ : zs_M σ0 σ) {x1 : Int32} (h_x1 : zs_in x1.toInt 0 5) {x2 : Int32} (h_x2 : zs_in x2.toInt 0 5) {x3 : Int32} (h_x3 : zs_in x3.toInt 0 0) {x4 : Int32} (h_x4 : zs_in x4.toInt 0 1073741823) {x5 : Int32} {x6 : Int32} (h_x6 : zs_in x6.toInt 3 3) {x7 : Int32} (h_x7 : zs_in x7.toInt 0 3) {c : Int} (hc : x7.toInt = c + 0) : zs_ok (BX9_claimOf_63 σ x1 x2 x3 x4 x5 x6 x7) (fun r => zs_sum (fun v => ((zs_M σ0 v.1 ∧ (zs_in (v.2.1).toInt 0 1073741823 ∧ (True ∧ zs_in (v.2.2.2).toInt 1 3)))) ∧ v.2.2.2.toInt = c + 1) (fun v => (zs_M σ0 v.1 ∧ True)) r) := by
  unfold BX9_claimOf_63
  obtain rfl : x3 = (0 : Int32) := zs_eqv h_x3 (by decide)
  obtain rfl : x6 = (3 : Int32) := zs_eqv h_x6 (by decide)
  refine zs_ite (fun c1 => ?_) (fun c1 => ?_)
  · skip
    have r2 := (zs_I_le c1)
    have g3 : zs_in (x7).toInt 3 3 := (zs_ler 3 3 r2 h_x6 h_x7 (by decide))
    exact zs_some (zs_inr (⟨h_σ, trivial⟩))
  · skip
    have r4 := (zs_I_len c1)
    have g5 : zs_in (x7).toInt 0 2 := (zs_ltl 0 2 r4 h_x7 h_x6 (by decide))
    refine zs_ite (fun c6 => ?_) (fun c6 => ?_)
    · skip
      have r7 := (zs_I_eq c6)
      have g8 : zs_in (x4).toInt 0 0 := (zs_eql 0 0 r7 h_x4 zlI_0 (by decide))
      exact zs_some (zs_inr (⟨h_σ, trivial⟩))
    · skip
      have r9 := (zs_I_eqn c6)
      have g10 : zs_in (x4).toInt 1 1073741823 := (zs_nel 1 1073741823 r9 h_x4 zlI_0 (by decide))
      refine zs_bd_ (zo_fo1 (by decide) g10) (fun t_3 pt_3 => ?_)
      refine zs_lt (Q := fun z => zs_in z.toInt 0 1073741823) (zs_and2 g10 (by decide)) (fun y_5 hy_5 => ?_)
      refine zs_ite (fun c11 => ?_) (fun c11 => ?_)
      · skip
        have r12 := (zs_I_eq c11)
        have g13 : zs_in ((sn_I σ 0 20)).toInt 3 3 := (zs_eql 3 3 r12 (zs_topI _) zlI_3 (by decide))
        refine zs_gd (zs_gin h_x2 (by decide)) ?_
        refine zs_bd_ (zc_205 h_σ h_x1) (fun t_9 pt_9 => ?_)
        refine zs_bd_ (zc_241 pt_3) (fun t_11 pt_11 => ?_)
        refine zs_ite (fun c14 => ?_) (fun c14 => ?_)
        · skip
          have r15 := (zs_I_eq c14)
          have g16 : zs_in ((((sn_I σ 8 x2.toNatClampNeg) &&& t_9) &&& t_11)).toInt 0 0 := (zs_eql 0 0 r15 (zs_and pt_11 (by decide)) zlI_0 (by decide))
          obtain ⟨ret, er, hr⟩ := zc_246 h_σ h_x1 h_x2 h_x3 hy_5 h_x6 g5 pt_3 hc
          refine ⟨ret, er, ?_⟩
          exact (zs_sumw hr (fun v w => ⟨w.1, w.2⟩) (fun v w => w.elim))
        · skip
          have r17 := (zs_I_eqn c14)
          have g18 : zs_in ((((sn_I σ 8 x2.toNatClampNeg) &&& t_9) &&& t_11)).toInt 1 536870911 := (zs_nel 1 536870911 r17 (zs_and pt_11 (by decide)) zlI_0 (by decide))
          obtain ⟨ret, er, hr⟩ := zc_248 h_σ h_x1 h_x2 h_x3 hy_5 h_x6 g5 pt_3 zlI_1 hc
          refine ⟨ret, er, ?_⟩
          exact (zs_sumw hr (fun v w => ⟨w.1, w.2⟩) (fun v w => w.elim))
      · skip
        have r19 := (zs_I_eqn c11)
        obtain ⟨ret, er, hr⟩ := zc_246 h_σ h_x1 h_x2 h_x3 hy_5 h_x6 g5 pt_3 hc
        refine ⟨ret, er, ?_⟩
        exact (zs_sumw hr (fun v w => ⟨w.1, w.2⟩) (fun v w => w.elim))
theorem zd_40 {σ0 : sn_S} {x1 : Int32} (h_x1 : zs_in x1.toInt 0 5) {x2 : Int32} (h_x2 : zs_in x2.toInt 0 5) {x3 : Int32} (h_x3 : zs_in x3.toInt 0 0) {x6 : Int32} (h_x6 : zs_in x6.toInt 3 3) {s0 : (sn_S × (Int32 × (Int32 × Int32)))} (h0 : (zs_M σ0 s0.1 ∧ (zs_in (s0.2.1).toInt 0 1073741823 ∧ (True ∧ zs_in (s0.2.2.2).toInt 0 3)))) : zs_ok (sn_it (LX9_claimOf_63 x1 x2 x3 x6) 5000 s0) (fun t => (zs_M σ0 t.1 ∧ True)) := by
  refine zs_it (I := fun s => (zs_M σ0 s.1 ∧ (zs_in (s.2.1).toInt 0 1073741823 ∧ (True ∧ zs_in (s.2.2.2).toInt 0 3)))) (m := fun s => 3 - s.2.2.2.toInt) (fun s hs => ?_) (fun s hs => ?_) (by exact h0)
  · have h1 := hs.2.2.2; unfold zs_in at h1
    omega
  · obtain ⟨b, eb, hb⟩ := zc_249 hs.1 h_x1 h_x2 h_x3 hs.2.1 h_x6 hs.2.2.2 (c := s.2.2.2.toInt) (Int.add_zero _).symm
    exact ⟨b, eb, zs_sumw hb (fun v w => ⟨⟨w.1.1, ⟨w.1.2.1, ⟨w.1.2.2.1, (zs_w w.1.2.2.2 (by decide))⟩⟩⟩, by have := w.2; omega⟩) (fun v w => w)⟩
-- BX9_claimOf_183
theorem zc_250 {σ0 : sn_S} {σ : sn_S} (h_σ : zs_M σ0 σ) {x5 : Int32} : zs_ok (BX9_claimOf_183 σ x5) (fun r => (True ∧ zs_M σ0 r.2)) := by
  unfold BX9_claimOf_183
  exact zs_some ⟨trivial, h_σ⟩
-- BX9_claimOf_58
theorem zc_251 {σ0 : sn_S} {σ : sn_S} (h_σ : zs_M σ0 σ) {x1 : Int32} (h_x1 : zs_in x1.toInt 0 5) {x2 : Int32} (h_x2 : zs_in x2.toInt 0 5) {x3 : Int32} (h_x3 : zs_in x3.toInt 0 0) {x4 : Int32} (h_x4 : zs_in x4.toInt 0 1073741823) {x5 : Int32} (h_x5 : zs_in x5.toInt 0 0) {t0 : Int32} (h_t0 : zs_in t0.toInt 3 3) : zs_ok (BX9_claimOf_58 σ x1 x2 x3 x4 x5 t0) (fun r => (True ∧ zs_M σ0 r.2)) := by
  unfold BX9_claimOf_58
  obtain rfl : x3 = (0 : Int32) := zs_eqv h_x3 (by decide)
  obtain rfl : x5 = (0 : Int32) := zs_eqv h_x5 (by decide)
  obtain rfl : t0 = (3 : Int32) := zs_eqv h_t0 (by decide)
  refine zs_bd_ (zd_40 h_x1 h_x2 h_x3 h_t0 (s0 := (σ, (x4, ((0 : Int32), (0 : Int32))))) ⟨h_σ, ⟨h_x4, ⟨trivial, (zs_w zlI_0 (by decide))⟩⟩⟩) (fun t_1 pt_1 => ?_)
  obtain ⟨ret, er, hr⟩ := zc_250 pt_1.1
  refine ⟨ret, er, ?_⟩
  exact hr
-- BX9_claimOf_177
theorem zc_252 {σ0 : sn_S} {σ : sn_S} (h_σ : zs_M σ0 σ) {x1 : Int32} (h_x1 : zs_in x1.toInt 0 5) {x2 : Int32} (h_x2 : zs_in x2.toInt 0 5) {x3 : Int32} (h_x3 : zs_in x3.toInt 0 0) {x4 : Int32} (h_x4 : zs_in x4.toInt 0 1073741823) {x5 : Int32} {x6 : Int32} (h_x6 : zs_in x6.toInt 1 1) {x7 : Int32} (h_x7 : zs_in x7.toInt 0 0) {c : Int} (hc : x7.toInt = c + 0) : zs_ok (BX9_claimOf_177 σ x1 x2 x3 x4 x5 x6 x7) (fun r => zs_sum (fun v => ((zs_M σ0 v.1 ∧ (zs_in (v.2.1).toInt 0 1073741823 ∧ (True ∧ zs_in (v.2.2.2).toInt 1 1)))) ∧ v.2.2.2.toInt = c + 1) (fun v => False) r) := by
  unfold BX9_claimOf_177
  obtain rfl : x3 = (0 : Int32) := zs_eqv h_x3 (by decide)
  obtain rfl : x6 = (1 : Int32) := zs_eqv h_x6 (by decide)
  refine zs_lt (Q := fun z => zs_in z.toInt 1 1 ∧ z.toInt = c + 1) ⟨(zs_addI 1 1 h_x7 zlI_1 (by decide)), (zs_syI 1 hc h_x7 zlI_1 (by decide) (by decide))⟩ (fun y_1 hy_1 => ?_)
  exact zs_some (zs_inl ⟨⟨h_σ, ⟨h_x4, ⟨trivial, hy_1.1⟩⟩⟩, hy_1.2⟩)
-- BX9_claimOf_152
theorem zc_253 {σ0 : sn_S} {σ : sn_S} (h_σ : zs_M σ0 σ) {x1 : Int32} (h_x1 : zs_in x1.toInt 0 5) {x2 : Int32} (h_x2 : zs_in x2.toInt 0 5) {x3 : Int32} (h_x3 : zs_in x3.toInt 0 0) {x4 : Int32} (h_x4 : zs_in x4.toInt 0 1073741823) {x5 : Int32} {x6 : Int32} (h_x6 : zs_in x6.toInt 1 1) {x7 : Int32} (h_x7 : zs_in x7.toInt 0 0) {x8 : Int32} (h_x8 : zs_in x8.toInt 0 29) {t0 : Int32} (h_t0 : zs_in t0.toInt 0 99) {c : Int} (hc : x7.toInt = c + 0) : zs_ok (BX9_claimOf_152 σ x1 x2 x3 x4 x5 x6 x7 x8 t0) (fun r => zs_sum (fun v => ((zs_M σ0 v.1 ∧ (zs_in (v.2.1).toInt 0 1073741823 ∧ (True ∧ zs_in (v.2.2.2).toInt 1 1)))) ∧ v.2.2.2.toInt = c + 1) (fun v => False) r) := by
  unfold BX9_claimOf_152
  obtain rfl : x3 = (0 : Int32) := zs_eqv h_x3 (by decide)
  obtain rfl : x6 = (1 : Int32) := zs_eqv h_x6 (by decide)
  refine zs_lt (Q := fun z => True) trivial (fun y_1 hy_1 => ?_)
  refine zs_ite (fun c1 => ?_) (fun c1 => ?_)
  · skip
    have r2 := (zs_I_eq c1)
    obtain ⟨ret, er, hr⟩ := zc_252 h_σ h_x1 h_x2 h_x3 h_x4 h_x6 h_x7 hc
    refine ⟨ret, er, ?_⟩
    exact (zs_sumw hr (fun v w => ⟨w.1, w.2⟩) (fun v w => w.elim))
  · skip
    have r3 := (zs_I_eqn c1)
    exact (zs_botne r3 h_x3 zlI_0 (by decide)).elim
-- BX9_claimOf_128
theorem zc_254 {σ0 : sn_S} {σ : sn_S} (h_σ : zs_M σ0 σ) {x1 : Int32} (h_x1 : zs_in x1.toInt 0 5) {x2 : Int32} (h_x2 : zs_in x2.toInt 0 5) {x3 : Int32} (h_x3 : zs_in x3.toInt 0 0) {x4 : Int32} (h_x4 : zs_in x4.toInt 0 1073741823) {x5 : Int32} {x6 : Int32} (h_x6 : zs_in x6.toInt 1 1) {x7 : Int32} (h_x7 : zs_in x7.toInt 0 0) {x8 : Int32} (h_x8 : zs_in x8.toInt 0 29) {t0 : Int32} (h_t0 : zs_in t0.toInt 0 0) {c : Int} (hc : x7.toInt = c + 0) : zs_ok (BX9_claimOf_128 σ x1 x2 x3 x4 x5 x6 x7 x8 t0) (fun r => zs_sum (fun v => ((zs_M σ0 v.1 ∧ (zs_in (v.2.1).toInt 0 1073741823 ∧ (True ∧ zs_in (v.2.2.2).toInt 1 1)))) ∧ v.2.2.2.toInt = c + 1) (fun v => False) r) := by
  unfold BX9_claimOf_128
  obtain rfl : x3 = (0 : Int32) := zs_eqv h_x3 (by decide)
  obtain rfl : x6 = (1 : Int32) := zs_eqv h_x6 (by decide)
  obtain rfl : t0 = (0 : Int32) := zs_eqv h_t0 (by decide)
  refine zs_ite (fun c1 => ?_) (fun c1 => ?_)
  · skip
    have r2 := (zs_I_eq c1)
    refine zs_bd_ (zc_242 h_σ h_x1 zlI_3) (fun t_2 pt_2 => ?_)
    obtain ⟨ret, er, hr⟩ := zc_253 h_σ h_x1 h_x2 h_x3 h_x4 h_x6 h_x7 h_x8 pt_2 hc
    refine ⟨ret, er, ?_⟩
    exact (zs_sumw hr (fun v w => ⟨w.1, w.2⟩) (fun v w => w.elim))
  · skip
    have r3 := (zs_I_eqn c1)
    exact (zs_botne r3 h_t0 zlI_0 (by decide)).elim
-- BX9_claimOf_127
theorem zc_255 {σ0 : sn_S} {σ : sn_S} (h_σ : zs_M σ0 σ) {x1 : Int32} (h_x1 : zs_in x1.toInt 0 5) {x2 : Int32} (h_x2 : zs_in x2.toInt 0 5) {x3 : Int32} (h_x3 : zs_in x3.toInt 0 0) {x4 : Int32} (h_x4 : zs_in x4.toInt 0 1073741823) {x5 : Int32} {x6 : Int32} (h_x6 : zs_in x6.toInt 1 1) {x7 : Int32} (h_x7 : zs_in x7.toInt 0 0) {x8 : Int32} (h_x8 : zs_in x8.toInt 0 29) {c : Int} (hc : x7.toInt = c + 0) : zs_ok (BX9_claimOf_127 σ x1 x2 x3 x4 x5 x6 x7 x8) (fun r => zs_sum (fun v => ((zs_M σ0 v.1 ∧ (zs_in (v.2.1).toInt 0 1073741823 ∧ (True ∧ zs_in (v.2.2.2).toInt 1 1)))) ∧ v.2.2.2.toInt = c + 1) (fun v => False) r) := by
  unfold BX9_claimOf_127
  obtain rfl : x3 = (0 : Int32) := zs_eqv h_x3 (by decide)
  obtain rfl : x6 = (1 : Int32) := zs_eqv h_x6 (by decide)
  obtain ⟨ret, er, hr⟩ := zc_254 h_σ h_x1 h_x2 h_x3 h_x4 h_x6 h_x7 h_x8 zlI_0 hc
  refine ⟨ret, er, ?_⟩
  exact (zs_sumw hr (fun v w => ⟨w.1, w.2⟩) (fun v w => w.elim))
-- BX9_claimOf_152
theorem zc_256 {σ0 : sn_S} {σ : sn_S} (h_σ : zs_M σ0 σ) {x1 : Int32} (h_x1 : zs_in x1.toInt 0 5) {x2 : Int32} (h_x2 : zs_in x2.toInt 0 5) {x3 : Int32} (h_x3 : zs_in x3.toInt 0 0) {x4 : Int32} (h_x4 : zs_in x4.toInt 0 1073741823) {x5 : Int32} {x6 : Int32} (h_x6 : zs_in x6.toInt 1 1) {x7 : Int32} (h_x7 : zs_in x7.toInt 0 0) {x8 : Int32} (h_x8 : zs_in x8.toInt 0 29) {t0 : Int32} (h_t0 : zs_in t0.toInt 0 49) {c : Int} (hc : x7.toInt = c + 0) : zs_ok (BX9_claimOf_152 σ x1 x2 x3 x4 x5 x6 x7 x8 t0) (fun r => zs_sum (fun v => ((zs_M σ0 v.1 ∧ (zs_in (v.2.1).toInt 0 1073741823 ∧ (True ∧ zs_in (v.2.2.2).toInt 1 1)))) ∧ v.2.2.2.toInt = c + 1) (fun v => False) r) := by
  unfold BX9_claimOf_152
  obtain rfl : x3 = (0 : Int32) := zs_eqv h_x3 (by decide)
  obtain rfl : x6 = (1 : Int32) := zs_eqv h_x6 (by decide)
  refine zs_lt (Q := fun z => True) trivial (fun y_1 hy_1 => ?_)
  refine zs_ite (fun c1 => ?_) (fun c1 => ?_)
  · skip
    have r2 := (zs_I_eq c1)
    obtain ⟨ret, er, hr⟩ := zc_252 h_σ h_x1 h_x2 h_x3 h_x4 h_x6 h_x7 hc
    refine ⟨ret, er, ?_⟩
    exact (zs_sumw hr (fun v w => ⟨w.1, w.2⟩) (fun v w => w.elim))
  · skip
    have r3 := (zs_I_eqn c1)
    exact (zs_botne r3 h_x3 zlI_0 (by decide)).elim
-- BX9_claimOf_128
theorem zc_257 {σ0 : sn_S} {σ : sn_S} (h_σ : zs_M σ0 σ) {x1 : Int32} (h_x1 : zs_in x1.toInt 0 5) {x2 : Int32} (h_x2 : zs_in x2.toInt 0 5) {x3 : Int32} (h_x3 : zs_in x3.toInt 0 0) {x4 : Int32} (h_x4 : zs_in x4.toInt 0 1073741823) {x5 : Int32} {x6 : Int32} (h_x6 : zs_in x6.toInt 1 1) {x7 : Int32} (h_x7 : zs_in x7.toInt 0 0) {x8 : Int32} (h_x8 : zs_in x8.toInt 0 29) {t0 : Int32} (h_t0 : zs_in t0.toInt 1 1) {c : Int} (hc : x7.toInt = c + 0) : zs_ok (BX9_claimOf_128 σ x1 x2 x3 x4 x5 x6 x7 x8 t0) (fun r => zs_sum (fun v => ((zs_M σ0 v.1 ∧ (zs_in (v.2.1).toInt 0 1073741823 ∧ (True ∧ zs_in (v.2.2.2).toInt 1 1)))) ∧ v.2.2.2.toInt = c + 1) (fun v => False) r) := by
  unfold BX9_claimOf_128
  obtain rfl : x3 = (0 : Int32) := zs_eqv h_x3 (by decide)
  obtain rfl : x6 = (1 : Int32) := zs_eqv h_x6 (by decide)
  obtain rfl : t0 = (1 : Int32) := zs_eqv h_t0 (by decide)
  refine zs_ite (fun c1 => ?_) (fun c1 => ?_)
  · skip
    have r2 := (zs_I_eq c1)
    exact (zs_botr r2 h_t0 zlI_0 (by decide)).elim
  · skip
    have r3 := (zs_I_eqn c1)
    refine zs_bd_ (zc_242 h_σ h_x1 zlI_3) (fun t_4 pt_4 => ?_)
    obtain ⟨ret, er, hr⟩ := zc_256 h_σ h_x1 h_x2 h_x3 h_x4 h_x6 h_x7 h_x8 (zs_divI 0 49 pt_4 zlI_2 (by decide)) hc
    refine ⟨ret, er, ?_⟩
    exact (zs_sumw hr (fun v w => ⟨w.1, w.2⟩) (fun v w => w.elim))
-- BX9_claimOf_63
theorem zc_258 {σ0 : sn_S} {σ : sn_S} (h_σ : zs_M σ0 σ) {x1 : Int32} (h_x1 : zs_in x1.toInt 0 5) {x2 : Int32} (h_x2 : zs_in x2.toInt 0 5) {x3 : Int32} (h_x3 : zs_in x3.toInt 0 0) {x4 : Int32} (h_x4 : zs_in x4.toInt 0 1073741823) {x5 : Int32} {x6 : Int32} (h_x6 : zs_in x6.toInt 1 1) {x7 : Int32} (h_x7 : zs_in x7.toInt 0 1) {c : Int} (hc : x7.toInt = c + 0) : zs_ok (BX9_claimOf_63 σ x1 x2 x3 x4 x5 x6 x7) (fun r => zs_sum (fun v => ((zs_M σ0 v.1 ∧ (zs_in (v.2.1).toInt 0 1073741823 ∧ (True ∧ zs_in (v.2.2.2).toInt 1 1)))) ∧ v.2.2.2.toInt = c + 1) (fun v => (zs_M σ0 v.1 ∧ True)) r) := by
  unfold BX9_claimOf_63
  obtain rfl : x3 = (0 : Int32) := zs_eqv h_x3 (by decide)
  obtain rfl : x6 = (1 : Int32) := zs_eqv h_x6 (by decide)
  refine zs_ite (fun c1 => ?_) (fun c1 => ?_)
  · skip
    have r2 := (zs_I_le c1)
    have g3 : zs_in (x7).toInt 1 1 := (zs_ler 1 1 r2 h_x6 h_x7 (by decide))
    exact zs_some (zs_inr (⟨h_σ, trivial⟩))
  · skip
    have r4 := (zs_I_len c1)
    have g5 : zs_in (x7).toInt 0 0 := (zs_ltl 0 0 r4 h_x7 h_x6 (by decide))
    refine zs_ite (fun c6 => ?_) (fun c6 => ?_)
    · skip
      have r7 := (zs_I_eq c6)
      have g8 : zs_in (x4).toInt 0 0 := (zs_eql 0 0 r7 h_x4 zlI_0 (by decide))
      exact zs_some (zs_inr (⟨h_σ, trivial⟩))
    · skip
      have r9 := (zs_I_eqn c6)
      have g10 : zs_in (x4).toInt 1 1073741823 := (zs_nel 1 1073741823 r9 h_x4 zlI_0 (by decide))
      refine zs_bd_ (zo_fo1 (by decide) g10) (fun t_3 pt_3 => ?_)
      refine zs_lt (Q := fun z => zs_in z.toInt 0 1073741823) (zs_and2 g10 (by decide)) (fun y_5 hy_5 => ?_)
      refine zs_ite (fun c11 => ?_) (fun c11 => ?_)
      · skip
        have r12 := (zs_I_eq c11)
        have g13 : zs_in ((sn_I σ 0 20)).toInt 3 3 := (zs_eql 3 3 r12 (zs_topI _) zlI_3 (by decide))
        refine zs_gd (zs_gin h_x2 (by decide)) ?_
        refine zs_bd_ (zc_205 h_σ h_x1) (fun t_9 pt_9 => ?_)
        refine zs_bd_ (zc_241 pt_3) (fun t_11 pt_11 => ?_)
        refine zs_ite (fun c14 => ?_) (fun c14 => ?_)
        · skip
          have r15 := (zs_I_eq c14)
          have g16 : zs_in ((((sn_I σ 8 x2.toNatClampNeg) &&& t_9) &&& t_11)).toInt 0 0 := (zs_eql 0 0 r15 (zs_and pt_11 (by decide)) zlI_0 (by decide))
          obtain ⟨ret, er, hr⟩ := zc_255 h_σ h_x1 h_x2 h_x3 hy_5 h_x6 g5 pt_3 hc
          refine ⟨ret, er, ?_⟩
          exact (zs_sumw hr (fun v w => ⟨w.1, w.2⟩) (fun v w => w.elim))
        · skip
          have r17 := (zs_I_eqn c14)
          have g18 : zs_in ((((sn_I σ 8 x2.toNatClampNeg) &&& t_9) &&& t_11)).toInt 1 536870911 := (zs_nel 1 536870911 r17 (zs_and pt_11 (by decide)) zlI_0 (by decide))
          obtain ⟨ret, er, hr⟩ := zc_257 h_σ h_x1 h_x2 h_x3 hy_5 h_x6 g5 pt_3 zlI_1 hc
          refine ⟨ret, er, ?_⟩
          exact (zs_sumw hr (fun v w => ⟨w.1, w.2⟩) (fun v w => w.elim))
      · skip
        have r19 := (zs_I_eqn c11)
        obtain ⟨ret, er, hr⟩ := zc_255 h_σ h_x1 h_x2 h_x3 hy_5 h_x6 g5 pt_3 hc
        refine ⟨ret, er, ?_⟩
        exact (zs_sumw hr (fun v w => ⟨w.1, w.2⟩) (fun v w => w.elim))
theorem zd_41 {σ0 : sn_S} {x1 : Int32} (h_x1 : zs_in x1.toInt 0 5) {x2 : Int32} (h_x2 : zs_in x2.toInt 0 5) {x3 : Int32} (h_x3 : zs_in x3.toInt 0 0) {x6 : Int32} (h_x6 : zs_in x6.toInt 1 1) {s0 : (sn_S × (Int32 × (Int32 × Int32)))} (h0 : (zs_M σ0 s0.1 ∧ (zs_in (s0.2.1).toInt 0 1073741823 ∧ (True ∧ zs_in (s0.2.2.2).toInt 0 1)))) : zs_ok (sn_it (LX9_claimOf_63 x1 x2 x3 x6) 5000 s0) (fun t => (zs_M σ0 t.1 ∧ True)) := by
  refine zs_it (I := fun s => (zs_M σ0 s.1 ∧ (zs_in (s.2.1).toInt 0 1073741823 ∧ (True ∧ zs_in (s.2.2.2).toInt 0 1)))) (m := fun s => 1 - s.2.2.2.toInt) (fun s hs => ?_) (fun s hs => ?_) (by exact h0)
  · have h1 := hs.2.2.2; unfold zs_in at h1
    omega
  · obtain ⟨b, eb, hb⟩ := zc_258 hs.1 h_x1 h_x2 h_x3 hs.2.1 h_x6 hs.2.2.2 (c := s.2.2.2.toInt) (Int.add_zero _).symm
    exact ⟨b, eb, zs_sumw hb (fun v w => ⟨⟨w.1.1, ⟨w.1.2.1, ⟨w.1.2.2.1, (zs_w w.1.2.2.2 (by decide))⟩⟩⟩, by have := w.2; omega⟩) (fun v w => w)⟩
-- BX9_claimOf_58
theorem zc_259 {σ0 : sn_S} {σ : sn_S} (h_σ : zs_M σ0 σ) {x1 : Int32} (h_x1 : zs_in x1.toInt 0 5) {x2 : Int32} (h_x2 : zs_in x2.toInt 0 5) {x3 : Int32} (h_x3 : zs_in x3.toInt 0 0) {x4 : Int32} (h_x4 : zs_in x4.toInt 0 1073741823) {x5 : Int32} (h_x5 : zs_in x5.toInt 0 0) {t0 : Int32} (h_t0 : zs_in t0.toInt 1 1) : zs_ok (BX9_claimOf_58 σ x1 x2 x3 x4 x5 t0) (fun r => (True ∧ zs_M σ0 r.2)) := by
  unfold BX9_claimOf_58
  obtain rfl : x3 = (0 : Int32) := zs_eqv h_x3 (by decide)
  obtain rfl : x5 = (0 : Int32) := zs_eqv h_x5 (by decide)
  obtain rfl : t0 = (1 : Int32) := zs_eqv h_t0 (by decide)
  refine zs_bd_ (zd_41 h_x1 h_x2 h_x3 h_t0 (s0 := (σ, (x4, ((0 : Int32), (0 : Int32))))) ⟨h_σ, ⟨h_x4, ⟨trivial, (zs_w zlI_0 (by decide))⟩⟩⟩) (fun t_1 pt_1 => ?_)
  obtain ⟨ret, er, hr⟩ := zc_250 pt_1.1
  refine ⟨ret, er, ?_⟩
  exact hr
-- BX9_claimOf_33
theorem zc_260 {σ0 : sn_S} {σ : sn_S} (h_σ : zs_M σ0 σ) {x1 : Int32} (h_x1 : zs_in x1.toInt 0 5) {x2 : Int32} (h_x2 : zs_in x2.toInt 0 5) {x3 : Int32} (h_x3 : zs_in x3.toInt 0 0) {x4 : Int32} (h_x4 : zs_in x4.toInt 0 1073741823) : zs_ok (BX9_claimOf_33 σ x1 x2 x3 x4) (fun r => (True ∧ zs_M σ0 r.2)) := by
  unfold BX9_claimOf_33
  obtain rfl : x3 = (0 : Int32) := zs_eqv h_x3 (by decide)
  refine zs_bd_ (zo_fot2 h_x4) (fun t_1 pt_1 => ?_)
  refine zs_lt (Q := fun z => zs_M σ0 z) (zs_wrkt h_σ rfl rfl) (fun σ_3 hσ_3 => ?_)
  refine zs_ite (fun c1 => ?_) (fun c1 => ?_)
  · skip
    have r2 := (zs_I_eq c1)
    have g3 : zs_in ((sn_I σ_3 0 20)).toInt 2 2 := (zs_eql 2 2 r2 (zs_topI _) zlI_2 (by decide))
    obtain ⟨ret, er, hr⟩ := zc_251 hσ_3 h_x1 h_x2 h_x3 h_x4 zlI_0 zlI_3
    refine ⟨ret, er, ?_⟩
    exact hr
  · skip
    have r4 := (zs_I_eqn c1)
    obtain ⟨ret, er, hr⟩ := zc_259 hσ_3 h_x1 h_x2 h_x3 h_x4 zlI_0 zlI_1
    refine ⟨ret, er, ?_⟩
    exact hr
-- fX9_claimOf
theorem zc_261 {σ0 : sn_S} {σ : sn_S} (h_σ : zs_M σ0 σ) {x1 : Int32} (h_x1 : zs_in x1.toInt 0 5) {x2 : Int32} (h_x2 : zs_in x2.toInt 0 5) {x3 : Int32} (h_x3 : zs_in x3.toInt 0 0) : zs_ok (fX9_claimOf σ x1 x2 x3) (fun r => (True ∧ zs_M σ0 r.2)) := by
  unfold fX9_claimOf
  obtain rfl : x3 = (0 : Int32) := zs_eqv h_x3 (by decide)
  refine zs_gd (zs_gin h_x2 (by decide)) ?_
  refine zs_bd_ (zc_205 h_σ h_x1) (fun t_2 pt_2 => ?_)
  refine zs_lt (Q := fun z => zs_in z.toInt 0 1073741823) (zs_and pt_2 (by decide)) (fun y_4 hy_4 => ?_)
  refine zs_ite (fun c1 => ?_) (fun c1 => ?_)
  · skip
    have r2 := (zs_I_eq c1)
    have g3 : zs_in ((sn_I σ 0 20)).toInt 1 1 := (zs_eql 1 1 r2 (zs_topI _) zlI_1 (by decide))
    refine zs_lt (Q := fun z => zs_in z.toInt 0 1073741823) (zs_and2 hy_4 (by decide)) (fun y_7 hy_7 => ?_)
    obtain ⟨ret, er, hr⟩ := zc_260 h_σ h_x1 h_x2 h_x3 hy_7
    refine ⟨ret, er, ?_⟩
    exact hr
  · skip
    have r4 := (zs_I_eqn c1)
    obtain ⟨ret, er, hr⟩ := zc_260 h_σ h_x1 h_x2 h_x3 hy_4
    refine ⟨ret, er, ?_⟩
    exact hr
-- fX9_claimOf_
theorem zc_262 {σ0 : sn_S} {σ : sn_S} (h_σ : zs_M σ0 σ) {x1 : Int32} (h_x1 : zs_in x1.toInt 0 5) : zs_ok (fX9_claimOf_ σ x1) (fun r => (True ∧ zs_M σ0 r.2)) := by
  unfold fX9_claimOf_
  refine zs_bd_ (zc_200 h_σ h_x1 zlI_0) (fun t_1 pt_1 => ?_)
  refine zs_bd_ (zc_261 h_σ h_x1 pt_1 zlI_0) (fun t_3 pt_3 => ?_)
  exact zs_some ⟨trivial, pt_3.2⟩
-- fX9_profit
theorem zc_263 {σ0 : sn_S} {σ : sn_S} (h_σ : zs_M σ0 σ) {x1 : Int32} : zs_ok (fX9_profit σ x1) (fun r => (True ∧ zs_M σ0 r.2)) := by
  unfold fX9_profit
  refine zs_bd_ (zc_239 h_σ) (fun t_1 pt_1 => ?_)
  refine zs_ite (fun c1 => ?_) (fun c1 => ?_)
  · skip
    have r2 := (zs_I_eq c1)
    have g3 : zs_in (t_1.1).toInt 0 0 := (zs_eql 0 0 r2 pt_1.1.1 zlI_0 (by decide))
    exact zs_some ⟨trivial, pt_1.1.2⟩
  · skip
    have r4 := (zs_I_eqn c1)
    have g5 : zs_in (t_1.1).toInt 1 1 := (zs_nel 1 1 r4 pt_1.1.1 zlI_0 (by decide))
    have q6 := (zs_or2 pt_1.2 g5 (by decide))
    have g7 : zs_in (x1).toInt 0 5 := q6
    refine zs_bd_ (zc_240 pt_1.1.2 g7 zlI_4) (fun t_4 pt_4 => ?_)
    refine zs_bd_ (zc_262 pt_1.1.2 g7) (fun t_6 pt_6 => ?_)
    exact zs_some ⟨trivial, pt_6.2⟩
-- BX3_moneyAt_44
theorem zc_264 {σ0 : sn_S} {σ : sn_S} (h_σ : zs_C σ0 σ) {x1 : Int32} (h_x1 : zs_in x1.toInt 1 29) {x2 : Int32} {x3 : Int32} (h_x3 : zs_in x3.toInt 0 5) {c : Int} (hc : x3.toInt = c + 0) : zs_ok (BX3_moneyAt_44 σ 49 x1 x2 x3) (fun r => zs_sum (fun v => ((True ∧ zs_in (v.2).toInt 1 6)) ∧ v.2.toInt = c + 1) (fun v => False) r) := by
  unfold BX3_moneyAt_44
  refine zs_lt (Q := fun z => zs_in z.toInt 1 6 ∧ z.toInt = c + 1) ⟨(zs_addI 1 6 h_x3 zlI_1 (by decide)), (zs_syI 1 hc h_x3 zlI_1 (by decide) (by decide))⟩ (fun y_1 hy_1 => ?_)
  exact zs_some (zs_inl ⟨⟨trivial, hy_1.1⟩, hy_1.2⟩)
-- BX3_moneyAt_7
theorem zc_265 {σ0 : sn_S} {σ : sn_S} (h_σ : zs_C σ0 σ) {x1 : Int32} (h_x1 : zs_in x1.toInt 1 29) {x2 : Int32} {x3 : Int32} (h_x3 : zs_in x3.toInt 0 6) {c : Int} (hc : x3.toInt = c + 0) : zs_ok (BX3_moneyAt_7 σ 49 x1 x2 x3) (fun r => zs_sum (fun v => ((True ∧ zs_in (v.2).toInt 1 6)) ∧ v.2.toInt = c + 1) (fun v => True) r) := by
  unfold BX3_moneyAt_7
  refine zs_ite (fun c1 => ?_) (fun c1 => ?_)
  · skip
    have r2 := (zs_I_le c1)
    exact zs_some (zs_inr (trivial))
  · skip
    have r3 := (zs_I_len c1)
    have g4 : zs_in (x3).toInt 0 5 := (zs_ltl 0 5 r3 h_x3 (zs_rdk (q := 49) (k := 2) (z := (0, 6)) h_σ.1 rfl) (by decide))
    have g5 : zs_in ((sn_I σ 49 2)).toInt 1 6 := (zs_ltr 1 6 r3 h_x3 (zs_rdk (q := 49) (k := 2) (z := (0, 6)) h_σ.1 rfl) (by decide))
    refine zs_gd (zs_gin g4 (by decide)) ?_
    refine zs_ite (fun c6 => ?_) (fun c6 => ?_)
    · skip
      have r7 := (zs_I_eq c6)
      have g8 : zs_in ((sn_I σ (49 + 2) x3.toNatClampNeg)).toInt (-1) (-1) := (zs_eql (-1) (-1) r7 (zs_rdu (q := 51) (z := ((-1), 63)) h_σ.1 (fun _ => rfl)) zlI_m1 (by decide))
      obtain ⟨ret, er, hr⟩ := zc_264 h_σ h_x1 g4 hc
      refine ⟨ret, er, ?_⟩
      exact (zs_sumw hr (fun v w => ⟨w.1, w.2⟩) (fun v w => w.elim))
    · skip
      have r9 := (zs_I_eqn c6)
      have g10 : zs_in ((sn_I σ (49 + 2) x3.toNatClampNeg)).toInt 0 63 := (zs_nel 0 63 r9 (zs_rdu (q := 51) (z := ((-1), 63)) h_σ.1 (fun _ => rfl)) zlI_m1 (by decide))
      refine zs_gd (zs_gin g4 (by decide)) ?_
      refine zs_ite (fun c11 => ?_) (fun c11 => ?_)
      · skip
        have r12 := (zs_I_lt c11)
        have g13 : zs_in ((sn_I σ (49 + 2) x3.toNatClampNeg)).toInt 2 63 := (zs_ltr 2 63 r12 h_x1 g10 (by decide))
        obtain ⟨ret, er, hr⟩ := zc_264 h_σ h_x1 g4 hc
        refine ⟨ret, er, ?_⟩
        exact (zs_sumw hr (fun v w => ⟨w.1, w.2⟩) (fun v w => w.elim))
      · skip
        have r14 := (zs_I_ltn c11)
        have g15 : zs_in ((sn_I σ (49 + 2) x3.toNatClampNeg)).toInt 0 29 := (zs_lel 0 29 r14 g10 h_x1 (by decide))
        refine zs_gd (zs_gin g4 (by decide)) ?_
        refine zs_lt (Q := fun z => True) trivial (fun y_7 hy_7 => ?_)
        obtain ⟨ret, er, hr⟩ := zc_264 h_σ h_x1 g4 hc
        refine ⟨ret, er, ?_⟩
        exact (zs_sumw hr (fun v w => ⟨w.1, w.2⟩) (fun v w => w.elim))
theorem zd_42 {σ0 : sn_S} {σ : sn_S} (h_σ : zs_C σ0 σ) {x1 : Int32} (h_x1 : zs_in x1.toInt 1 29) {s0 : (Int32 × Int32)} (h0 : (True ∧ zs_in (s0.2).toInt 0 6)) : zs_ok (sn_it (LX3_moneyAt_7 σ 49 x1) 5000 s0) (fun t => True) := by
  refine zs_it (I := fun s => (True ∧ zs_in (s.2).toInt 0 6)) (m := fun s => 6 - s.2.toInt) (fun s hs => ?_) (fun s hs => ?_) (by exact h0)
  · have h1 := hs.2; unfold zs_in at h1
    omega
  · obtain ⟨b, eb, hb⟩ := zc_265 h_σ h_x1 hs.2 (c := s.2.toInt) (Int.add_zero _).symm
    exact ⟨b, eb, zs_sumw hb (fun v w => ⟨⟨w.1.1, (zs_w w.1.2 (by decide))⟩, by have := w.2; omega⟩) (fun v w => w)⟩
-- BX3_moneyAt_50
theorem zc_266 {σ0 : sn_S} {σ : sn_S} (h_σ : zs_C σ0 σ) {x2 : Int32} : zs_ok (BX3_moneyAt_50 σ 49 x2) (fun r => True) := by
  unfold BX3_moneyAt_50
  exact zs_some trivial
-- fX3_moneyAt
theorem zc_267 {σ0 : sn_S} {σ : sn_S} (h_σ : zs_C σ0 σ) {x1 : Int32} (h_x1 : zs_in x1.toInt 1 29) : zs_ok (fX3_moneyAt σ 49 x1) (fun r => True) := by
  unfold fX3_moneyAt
  refine zs_lt (Q := fun z => True) trivial (fun y_1 hy_1 => ?_)
  refine zs_bd_ (zd_42 h_σ h_x1 (s0 := (y_1, (0 : Int32))) ⟨trivial, (zs_w zlI_0 (by decide))⟩) (fun t_3 pt_3 => ?_)
  obtain ⟨ret, er, hr⟩ := zc_266 h_σ
  refine ⟨ret, er, ?_⟩
  exact hr
-- BX3_moneyAt_44
theorem zc_268 {σ0 : sn_S} {σ : sn_S} (h_σ : zs_C σ0 σ) {x1 : Int32} (h_x1 : zs_in x1.toInt 0 29) {x2 : Int32} {x3 : Int32} (h_x3 : zs_in x3.toInt 0 5) {c : Int} (hc : x3.toInt = c + 0) : zs_ok (BX3_moneyAt_44 σ 49 x1 x2 x3) (fun r => zs_sum (fun v => ((True ∧ zs_in (v.2).toInt 1 6)) ∧ v.2.toInt = c + 1) (fun v => False) r) := by
  unfold BX3_moneyAt_44
  refine zs_lt (Q := fun z => zs_in z.toInt 1 6 ∧ z.toInt = c + 1) ⟨(zs_addI 1 6 h_x3 zlI_1 (by decide)), (zs_syI 1 hc h_x3 zlI_1 (by decide) (by decide))⟩ (fun y_1 hy_1 => ?_)
  exact zs_some (zs_inl ⟨⟨trivial, hy_1.1⟩, hy_1.2⟩)
-- BX3_moneyAt_7
theorem zc_269 {σ0 : sn_S} {σ : sn_S} (h_σ : zs_C σ0 σ) {x1 : Int32} (h_x1 : zs_in x1.toInt 0 29) {x2 : Int32} {x3 : Int32} (h_x3 : zs_in x3.toInt 0 6) {c : Int} (hc : x3.toInt = c + 0) : zs_ok (BX3_moneyAt_7 σ 49 x1 x2 x3) (fun r => zs_sum (fun v => ((True ∧ zs_in (v.2).toInt 1 6)) ∧ v.2.toInt = c + 1) (fun v => True) r) := by
  unfold BX3_moneyAt_7
  refine zs_ite (fun c1 => ?_) (fun c1 => ?_)
  · skip
    have r2 := (zs_I_le c1)
    exact zs_some (zs_inr (trivial))
  · skip
    have r3 := (zs_I_len c1)
    have g4 : zs_in (x3).toInt 0 5 := (zs_ltl 0 5 r3 h_x3 (zs_rdk (q := 49) (k := 2) (z := (0, 6)) h_σ.1 rfl) (by decide))
    have g5 : zs_in ((sn_I σ 49 2)).toInt 1 6 := (zs_ltr 1 6 r3 h_x3 (zs_rdk (q := 49) (k := 2) (z := (0, 6)) h_σ.1 rfl) (by decide))
    refine zs_gd (zs_gin g4 (by decide)) ?_
    refine zs_ite (fun c6 => ?_) (fun c6 => ?_)
    · skip
      have r7 := (zs_I_eq c6)
      have g8 : zs_in ((sn_I σ (49 + 2) x3.toNatClampNeg)).toInt (-1) (-1) := (zs_eql (-1) (-1) r7 (zs_rdu (q := 51) (z := ((-1), 63)) h_σ.1 (fun _ => rfl)) zlI_m1 (by decide))
      obtain ⟨ret, er, hr⟩ := zc_268 h_σ h_x1 g4 hc
      refine ⟨ret, er, ?_⟩
      exact (zs_sumw hr (fun v w => ⟨w.1, w.2⟩) (fun v w => w.elim))
    · skip
      have r9 := (zs_I_eqn c6)
      have g10 : zs_in ((sn_I σ (49 + 2) x3.toNatClampNeg)).toInt 0 63 := (zs_nel 0 63 r9 (zs_rdu (q := 51) (z := ((-1), 63)) h_σ.1 (fun _ => rfl)) zlI_m1 (by decide))
      refine zs_gd (zs_gin g4 (by decide)) ?_
      refine zs_ite (fun c11 => ?_) (fun c11 => ?_)
      · skip
        have r12 := (zs_I_lt c11)
        have g13 : zs_in ((sn_I σ (49 + 2) x3.toNatClampNeg)).toInt 1 63 := (zs_ltr 1 63 r12 h_x1 g10 (by decide))
        obtain ⟨ret, er, hr⟩ := zc_268 h_σ h_x1 g4 hc
        refine ⟨ret, er, ?_⟩
        exact (zs_sumw hr (fun v w => ⟨w.1, w.2⟩) (fun v w => w.elim))
      · skip
        have r14 := (zs_I_ltn c11)
        have g15 : zs_in ((sn_I σ (49 + 2) x3.toNatClampNeg)).toInt 0 29 := (zs_lel 0 29 r14 g10 h_x1 (by decide))
        refine zs_gd (zs_gin g4 (by decide)) ?_
        refine zs_lt (Q := fun z => True) trivial (fun y_7 hy_7 => ?_)
        obtain ⟨ret, er, hr⟩ := zc_268 h_σ h_x1 g4 hc
        refine ⟨ret, er, ?_⟩
        exact (zs_sumw hr (fun v w => ⟨w.1, w.2⟩) (fun v w => w.elim))
theorem zd_43 {σ0 : sn_S} {σ : sn_S} (h_σ : zs_C σ0 σ) {x1 : Int32} (h_x1 : zs_in x1.toInt 0 29) {s0 : (Int32 × Int32)} (h0 : (True ∧ zs_in (s0.2).toInt 0 6)) : zs_ok (sn_it (LX3_moneyAt_7 σ 49 x1) 5000 s0) (fun t => True) := by
  refine zs_it (I := fun s => (True ∧ zs_in (s.2).toInt 0 6)) (m := fun s => 6 - s.2.toInt) (fun s hs => ?_) (fun s hs => ?_) (by exact h0)
  · have h1 := hs.2; unfold zs_in at h1
    omega
  · obtain ⟨b, eb, hb⟩ := zc_269 h_σ h_x1 hs.2 (c := s.2.toInt) (Int.add_zero _).symm
    exact ⟨b, eb, zs_sumw hb (fun v w => ⟨⟨w.1.1, (zs_w w.1.2 (by decide))⟩, by have := w.2; omega⟩) (fun v w => w)⟩
-- fX3_moneyAt
theorem zc_270 {σ0 : sn_S} {σ : sn_S} (h_σ : zs_C σ0 σ) {x1 : Int32} (h_x1 : zs_in x1.toInt 0 29) : zs_ok (fX3_moneyAt σ 49 x1) (fun r => True) := by
  unfold fX3_moneyAt
  refine zs_lt (Q := fun z => True) trivial (fun y_1 hy_1 => ?_)
  refine zs_bd_ (zd_43 h_σ h_x1 (s0 := (y_1, (0 : Int32))) ⟨trivial, (zs_w zlI_0 (by decide))⟩) (fun t_3 pt_3 => ?_)
  obtain ⟨ret, er, hr⟩ := zc_266 h_σ
  refine ⟨ret, er, ?_⟩
  exact hr
-- BX3_poorestMinute_24
theorem zc_271 {σ0 : sn_S} {σ : sn_S} (h_σ : zs_C σ0 σ) {x1 : Int32} (h_x1 : zs_in x1.toInt 2 30) {x2 : Int32} (h_x2 : zs_in x2.toInt 0 29) {x3 : Int32} (h_x3 : zs_in x3.toInt 1 29) {c : Int} (hc : x3.toInt = c + 0) : zs_ok (BX3_poorestMinute_24 σ 49 x1 x2 x3) (fun r => zs_sum (fun v => ((zs_in (v.1).toInt 0 29 ∧ zs_in (v.2).toInt 2 30)) ∧ v.2.toInt = c + 1) (fun v => False) r) := by
  unfold BX3_poorestMinute_24
  refine zs_lt (Q := fun z => zs_in z.toInt 2 30 ∧ z.toInt = c + 1) ⟨(zs_addI 2 30 h_x3 zlI_1 (by decide)), (zs_syI 1 hc h_x3 zlI_1 (by decide) (by decide))⟩ (fun y_1 hy_1 => ?_)
  exact zs_some (zs_inl ⟨⟨h_x2, hy_1.1⟩, hy_1.2⟩)
-- BX3_poorestMinute_24
theorem zc_272 {σ0 : sn_S} {σ : sn_S} (h_σ : zs_C σ0 σ) {x1 : Int32} (h_x1 : zs_in x1.toInt 2 30) {x2 : Int32} (h_x2 : zs_in x2.toInt 1 29) {x3 : Int32} (h_x3 : zs_in x3.toInt 1 29) {c : Int} (hc : x3.toInt = c + 0) : zs_ok (BX3_poorestMinute_24 σ 49 x1 x2 x3) (fun r => zs_sum (fun v => ((zs_in (v.1).toInt 1 29 ∧ zs_in (v.2).toInt 2 30)) ∧ v.2.toInt = c + 1) (fun v => False) r) := by
  unfold BX3_poorestMinute_24
  refine zs_lt (Q := fun z => zs_in z.toInt 2 30 ∧ z.toInt = c + 1) ⟨(zs_addI 2 30 h_x3 zlI_1 (by decide)), (zs_syI 1 hc h_x3 zlI_1 (by decide) (by decide))⟩ (fun y_1 hy_1 => ?_)
  exact zs_some (zs_inl ⟨⟨h_x2, hy_1.1⟩, hy_1.2⟩)
-- BX3_poorestMinute_4
theorem zc_273 {σ0 : sn_S} {σ : sn_S} (h_σ : zs_C σ0 σ) {x1 : Int32} (h_x1 : zs_in x1.toInt 0 30) {x2 : Int32} (h_x2 : zs_in x2.toInt 0 29) {x3 : Int32} (h_x3 : zs_in x3.toInt 1 30) {c : Int} (hc : x3.toInt = c + 0) : zs_ok (BX3_poorestMinute_4 σ 49 x1 x2 x3) (fun r => zs_sum (fun v => ((zs_in (v.1).toInt 0 29 ∧ zs_in (v.2).toInt 2 30)) ∧ v.2.toInt = c + 1) (fun v => zs_in (v).toInt 0 29) r) := by
  unfold BX3_poorestMinute_4
  refine zs_ite (fun c1 => ?_) (fun c1 => ?_)
  · skip
    have r2 := (zs_I_le c1)
    exact zs_some (zs_inr (h_x2))
  · skip
    have r3 := (zs_I_len c1)
    have g4 : zs_in (x3).toInt 1 29 := (zs_ltl 1 29 r3 h_x3 h_x1 (by decide))
    have g5 : zs_in (x1).toInt 2 30 := (zs_ltr 2 30 r3 h_x3 h_x1 (by decide))
    refine zs_bd_ (zc_267 h_σ g4) (fun t_2 pt_2 => ?_)
    refine zs_bd_ (zc_270 h_σ h_x2) (fun t_4 pt_4 => ?_)
    refine zs_ite (fun c6 => ?_) (fun c6 => ?_)
    · skip
      have r7 := (zs_I_le c6)
      obtain ⟨ret, er, hr⟩ := zc_271 h_σ g5 h_x2 g4 hc
      refine ⟨ret, er, ?_⟩
      exact (zs_sumw hr (fun v w => ⟨w.1, w.2⟩) (fun v w => w.elim))
    · skip
      have r8 := (zs_I_len c6)
      have g9 : zs_in (t_2).toInt (-2147483648) 2147483646 := (zs_ltl (-2147483648) 2147483646 r8 (zs_topI _) (zs_topI _) (by decide))
      have g10 : zs_in (t_4).toInt (-2147483647) 2147483647 := (zs_ltr (-2147483647) 2147483647 r8 (zs_topI _) (zs_topI _) (by decide))
      obtain ⟨ret, er, hr⟩ := zc_272 h_σ g5 g4 g4 hc
      refine ⟨ret, er, ?_⟩
      exact (zs_sumw hr (fun v w => ⟨⟨(zs_w w.1.1 (by decide)), w.1.2⟩, w.2⟩) (fun v w => w.elim))
theorem zd_44 {σ0 : sn_S} {σ : sn_S} (h_σ : zs_C σ0 σ) {x1 : Int32} (h_x1 : zs_in x1.toInt 0 30) {s0 : (Int32 × Int32)} (h0 : (zs_in (s0.1).toInt 0 29 ∧ zs_in (s0.2).toInt 1 30)) : zs_ok (sn_it (LX3_poorestMinute_4 σ 49 x1) 5000 s0) (fun t => zs_in (t).toInt 0 29) := by
  refine zs_it (I := fun s => (zs_in (s.1).toInt 0 29 ∧ zs_in (s.2).toInt 1 30)) (m := fun s => 30 - s.2.toInt) (fun s hs => ?_) (fun s hs => ?_) (by exact h0)
  · have h1 := hs.2; unfold zs_in at h1
    omega
  · obtain ⟨b, eb, hb⟩ := zc_273 h_σ h_x1 hs.1 hs.2 (c := s.2.toInt) (Int.add_zero _).symm
    exact ⟨b, eb, zs_sumw hb (fun v w => ⟨⟨w.1.1, (zs_w w.1.2 (by decide))⟩, by have := w.2; omega⟩) (fun v w => w)⟩
-- BX3_poorestMinute_30
theorem zc_274 {σ0 : sn_S} {σ : sn_S} (h_σ : zs_C σ0 σ) {x2 : Int32} (h_x2 : zs_in x2.toInt 0 29) : zs_ok (BX3_poorestMinute_30 σ 49 x2) (fun r => zs_in (r).toInt 0 29) := by
  unfold BX3_poorestMinute_30
  exact zs_some h_x2
-- fX3_poorestMinute
theorem zc_275 {σ0 : sn_S} {σ : sn_S} (h_σ : zs_C σ0 σ) {x1 : Int32} (h_x1 : zs_in x1.toInt 0 30) : zs_ok (fX3_poorestMinute σ 49 x1) (fun r => zs_in (r).toInt 0 29) := by
  unfold fX3_poorestMinute
  refine zs_bd_ (zd_44 h_σ h_x1 (s0 := ((0 : Int32), (1 : Int32))) ⟨(zs_w zlI_0 (by decide)), (zs_w zlI_1 (by decide))⟩) (fun t_1 pt_1 => ?_)
  obtain ⟨ret, er, hr⟩ := zc_274 h_σ pt_1
  refine ⟨ret, er, ?_⟩
  exact hr
-- fX8_lowest
theorem zc_276 {σ0 : sn_S} {σ : sn_S} (h_σ : zs_C σ0 σ) : zs_ok (fX8_lowest σ) (fun r => (zs_in (r.1).toInt (-2) 29 ∧ zs_C σ0 r.2)) := by
  unfold fX8_lowest
  refine zs_bd_ (zc_102 h_σ) (fun t_1 pt_1 => ?_)
  refine zs_ite (fun c1 => ?_) (fun c1 => ?_)
  · skip
    have r2 := (zs_I_eq c1)
    have g3 : zs_in (t_1).toInt 0 0 := (zs_eql 0 0 r2 pt_1 zlI_0 (by decide))
    exact zs_some ⟨(zs_w zlI_m2 (by decide)), h_σ⟩
  · skip
    have r4 := (zs_I_eqn c1)
    have g5 : zs_in (t_1).toInt 1 1 := (zs_nel 1 1 r4 pt_1 zlI_0 (by decide))
    refine zs_bd_ (zc_237 h_σ) (fun t_4 pt_4 => ?_)
    refine zs_bd_ (zc_275 pt_4 (zs_rdk (q := 27) (k := 0) (z := (0, 30)) pt_4.1 rfl)) (fun t_6 pt_6 => ?_)
    exact zs_some ⟨(zs_w pt_6 (by decide)), pt_4⟩
-- BX9_layPaid_2
theorem zc_277 {σ0 : sn_S} {σ : sn_S} (h_σ : zs_M σ0 σ) {x1 : Int32} (h_x1 : zs_in x1.toInt 0 30) {c : Int} (hc : x1.toInt = c + 0) : zs_ok (BX9_layPaid_2 σ x1) (fun r => zs_sum (fun v => ((zs_M σ0 v.1 ∧ zs_in (v.2).toInt 1 30)) ∧ v.2.toInt = c + 1) (fun v => zs_M σ0 v) r) := by
  unfold BX9_layPaid_2
  refine zs_ite (fun c1 => ?_) (fun c1 => ?_)
  · skip
    have r2 := (zs_I_le c1)
    have g3 : zs_in (x1).toInt 30 30 := (zs_ler 30 30 r2 zlI_30 h_x1 (by decide))
    exact zs_some (zs_inr (h_σ))
  · skip
    have r4 := (zs_I_len c1)
    have g5 : zs_in (x1).toInt 0 29 := (zs_ltl 0 29 r4 h_x1 zlI_30 (by decide))
    refine zs_gd (zs_gin g5 (by decide)) ?_
    refine zs_lt (Q := fun z => zs_M σ0 z) (zs_wrt h_σ (fun _ => rfl) (fun _ => rfl)) (fun σ_3 hσ_3 => ?_)
    refine zs_lt (Q := fun z => zs_in z.toInt 1 30 ∧ z.toInt = c + 1) ⟨(zs_addI 1 30 g5 zlI_1 (by decide)), (zs_syI 1 hc g5 zlI_1 (by decide) (by decide))⟩ (fun y_5 hy_5 => ?_)
    exact zs_some (zs_inl ⟨⟨hσ_3, hy_5.1⟩, hy_5.2⟩)
theorem zd_45 {σ0 : sn_S}  {s0 : (sn_S × Int32)} (h0 : (zs_M σ0 s0.1 ∧ zs_in (s0.2).toInt 0 30)) : zs_ok (sn_it (LX9_layPaid_2) 5000 s0) (fun t => zs_M σ0 t) := by
  refine zs_it (I := fun s => (zs_M σ0 s.1 ∧ zs_in (s.2).toInt 0 30)) (m := fun s => 30 - s.2.toInt) (fun s hs => ?_) (fun s hs => ?_) (by exact h0)
  · have h1 := hs.2; unfold zs_in at h1
    omega
  · obtain ⟨b, eb, hb⟩ := zc_277 hs.1 hs.2 (c := s.2.toInt) (Int.add_zero _).symm
    exact ⟨b, eb, zs_sumw hb (fun v w => ⟨⟨w.1.1, (zs_w w.1.2 (by decide))⟩, by have := w.2; omega⟩) (fun v w => w)⟩
-- BX9_claimOf_177
theorem zc_278 {σ0 : sn_S} {σ : sn_S} (h_σ : zs_M σ0 σ) {x1 : Int32} (h_x1 : zs_in x1.toInt 0 5) {x2 : Int32} (h_x2 : zs_in x2.toInt 0 5) {x3 : Int32} (h_x3 : zs_in x3.toInt 1 1) {x4 : Int32} (h_x4 : zs_in x4.toInt 0 1073741823) {x5 : Int32} {x6 : Int32} (h_x6 : zs_in x6.toInt 3 3) {x7 : Int32} (h_x7 : zs_in x7.toInt 0 2) {c : Int} (hc : x7.toInt = c + 0) : zs_ok (BX9_claimOf_177 σ x1 x2 x3 x4 x5 x6 x7) (fun r => zs_sum (fun v => ((zs_M σ0 v.1 ∧ (zs_in (v.2.1).toInt 0 1073741823 ∧ (True ∧ zs_in (v.2.2.2).toInt 1 3)))) ∧ v.2.2.2.toInt = c + 1) (fun v => False) r) := by
  unfold BX9_claimOf_177
  obtain rfl : x3 = (1 : Int32) := zs_eqv h_x3 (by decide)
  obtain rfl : x6 = (3 : Int32) := zs_eqv h_x6 (by decide)
  refine zs_lt (Q := fun z => zs_in z.toInt 1 3 ∧ z.toInt = c + 1) ⟨(zs_addI 1 3 h_x7 zlI_1 (by decide)), (zs_syI 1 hc h_x7 zlI_1 (by decide) (by decide))⟩ (fun y_1 hy_1 => ?_)
  exact zs_some (zs_inl ⟨⟨h_σ, ⟨h_x4, ⟨trivial, hy_1.1⟩⟩⟩, hy_1.2⟩)
-- BX9_claimOf_152
theorem zc_279 {σ0 : sn_S} {σ : sn_S} (h_σ : zs_M σ0 σ) {x1 : Int32} (h_x1 : zs_in x1.toInt 0 5) {x2 : Int32} (h_x2 : zs_in x2.toInt 0 5) {x3 : Int32} (h_x3 : zs_in x3.toInt 1 1) {x4 : Int32} (h_x4 : zs_in x4.toInt 0 1073741823) {x5 : Int32} {x6 : Int32} (h_x6 : zs_in x6.toInt 3 3) {x7 : Int32} (h_x7 : zs_in x7.toInt 0 2) {x8 : Int32} (h_x8 : zs_in x8.toInt 0 29) {t0 : Int32} (h_t0 : zs_in t0.toInt 0 99) {c : Int} (hc : x7.toInt = c + 0) : zs_ok (BX9_claimOf_152 σ x1 x2 x3 x4 x5 x6 x7 x8 t0) (fun r => zs_sum (fun v => ((zs_M σ0 v.1 ∧ (zs_in (v.2.1).toInt 0 1073741823 ∧ (True ∧ zs_in (v.2.2.2).toInt 1 3)))) ∧ v.2.2.2.toInt = c + 1) (fun v => False) r) := by
  unfold BX9_claimOf_152
  obtain rfl : x3 = (1 : Int32) := zs_eqv h_x3 (by decide)
  obtain rfl : x6 = (3 : Int32) := zs_eqv h_x6 (by decide)
  refine zs_lt (Q := fun z => True) trivial (fun y_1 hy_1 => ?_)
  refine zs_ite (fun c1 => ?_) (fun c1 => ?_)
  · skip
    have r2 := (zs_I_eq c1)
    exact (zs_botr r2 h_x3 zlI_0 (by decide)).elim
  · skip
    have r3 := (zs_I_eqn c1)
    refine zs_gd (zs_gin h_x8 (by decide)) ?_
    refine zs_gd (zs_gin h_x8 (by decide)) ?_
    refine zs_lt (Q := fun z => zs_M σ0 z) (zs_wrt h_σ (fun _ => rfl) (fun _ => rfl)) (fun σ_6 hσ_6 => ?_)
    obtain ⟨ret, er, hr⟩ := zc_278 hσ_6 h_x1 h_x2 h_x3 h_x4 h_x6 h_x7 hc
    refine ⟨ret, er, ?_⟩
    exact (zs_sumw hr (fun v w => ⟨w.1, w.2⟩) (fun v w => w.elim))
-- BX9_claimOf_128
theorem zc_280 {σ0 : sn_S} {σ : sn_S} (h_σ : zs_M σ0 σ) {x1 : Int32} (h_x1 : zs_in x1.toInt 0 5) {x2 : Int32} (h_x2 : zs_in x2.toInt 0 5) {x3 : Int32} (h_x3 : zs_in x3.toInt 1 1) {x4 : Int32} (h_x4 : zs_in x4.toInt 0 1073741823) {x5 : Int32} {x6 : Int32} (h_x6 : zs_in x6.toInt 3 3) {x7 : Int32} (h_x7 : zs_in x7.toInt 0 2) {x8 : Int32} (h_x8 : zs_in x8.toInt 0 29) {t0 : Int32} (h_t0 : zs_in t0.toInt 0 0) {c : Int} (hc : x7.toInt = c + 0) : zs_ok (BX9_claimOf_128 σ x1 x2 x3 x4 x5 x6 x7 x8 t0) (fun r => zs_sum (fun v => ((zs_M σ0 v.1 ∧ (zs_in (v.2.1).toInt 0 1073741823 ∧ (True ∧ zs_in (v.2.2.2).toInt 1 3)))) ∧ v.2.2.2.toInt = c + 1) (fun v => False) r) := by
  unfold BX9_claimOf_128
  obtain rfl : x3 = (1 : Int32) := zs_eqv h_x3 (by decide)
  obtain rfl : x6 = (3 : Int32) := zs_eqv h_x6 (by decide)
  obtain rfl : t0 = (0 : Int32) := zs_eqv h_t0 (by decide)
  refine zs_ite (fun c1 => ?_) (fun c1 => ?_)
  · skip
    have r2 := (zs_I_eq c1)
    refine zs_bd_ (zc_242 h_σ h_x1 zlI_3) (fun t_2 pt_2 => ?_)
    obtain ⟨ret, er, hr⟩ := zc_279 h_σ h_x1 h_x2 h_x3 h_x4 h_x6 h_x7 h_x8 pt_2 hc
    refine ⟨ret, er, ?_⟩
    exact (zs_sumw hr (fun v w => ⟨w.1, w.2⟩) (fun v w => w.elim))
  · skip
    have r3 := (zs_I_eqn c1)
    exact (zs_botne r3 h_t0 zlI_0 (by decide)).elim
-- BX9_claimOf_127
theorem zc_281 {σ0 : sn_S} {σ : sn_S} (h_σ : zs_M σ0 σ) {x1 : Int32} (h_x1 : zs_in x1.toInt 0 5) {x2 : Int32} (h_x2 : zs_in x2.toInt 0 5) {x3 : Int32} (h_x3 : zs_in x3.toInt 1 1) {x4 : Int32} (h_x4 : zs_in x4.toInt 0 1073741823) {x5 : Int32} {x6 : Int32} (h_x6 : zs_in x6.toInt 3 3) {x7 : Int32} (h_x7 : zs_in x7.toInt 0 2) {x8 : Int32} (h_x8 : zs_in x8.toInt 0 29) {c : Int} (hc : x7.toInt = c + 0) : zs_ok (BX9_claimOf_127 σ x1 x2 x3 x4 x5 x6 x7 x8) (fun r => zs_sum (fun v => ((zs_M σ0 v.1 ∧ (zs_in (v.2.1).toInt 0 1073741823 ∧ (True ∧ zs_in (v.2.2.2).toInt 1 3)))) ∧ v.2.2.2.toInt = c + 1) (fun v => False) r) := by
  unfold BX9_claimOf_127
  obtain rfl : x3 = (1 : Int32) := zs_eqv h_x3 (by decide)
  obtain rfl : x6 = (3 : Int32) := zs_eqv h_x6 (by decide)
  obtain ⟨ret, er, hr⟩ := zc_280 h_σ h_x1 h_x2 h_x3 h_x4 h_x6 h_x7 h_x8 zlI_0 hc
  refine ⟨ret, er, ?_⟩
  exact (zs_sumw hr (fun v w => ⟨w.1, w.2⟩) (fun v w => w.elim))
-- BX9_claimOf_152
theorem zc_282 {σ0 : sn_S} {σ : sn_S} (h_σ : zs_M σ0 σ) {x1 : Int32} (h_x1 : zs_in x1.toInt 0 5) {x2 : Int32} (h_x2 : zs_in x2.toInt 0 5) {x3 : Int32} (h_x3 : zs_in x3.toInt 1 1) {x4 : Int32} (h_x4 : zs_in x4.toInt 0 1073741823) {x5 : Int32} {x6 : Int32} (h_x6 : zs_in x6.toInt 3 3) {x7 : Int32} (h_x7 : zs_in x7.toInt 0 2) {x8 : Int32} (h_x8 : zs_in x8.toInt 0 29) {t0 : Int32} (h_t0 : zs_in t0.toInt 0 49) {c : Int} (hc : x7.toInt = c + 0) : zs_ok (BX9_claimOf_152 σ x1 x2 x3 x4 x5 x6 x7 x8 t0) (fun r => zs_sum (fun v => ((zs_M σ0 v.1 ∧ (zs_in (v.2.1).toInt 0 1073741823 ∧ (True ∧ zs_in (v.2.2.2).toInt 1 3)))) ∧ v.2.2.2.toInt = c + 1) (fun v => False) r) := by
  unfold BX9_claimOf_152
  obtain rfl : x3 = (1 : Int32) := zs_eqv h_x3 (by decide)
  obtain rfl : x6 = (3 : Int32) := zs_eqv h_x6 (by decide)
  refine zs_lt (Q := fun z => True) trivial (fun y_1 hy_1 => ?_)
  refine zs_ite (fun c1 => ?_) (fun c1 => ?_)
  · skip
    have r2 := (zs_I_eq c1)
    exact (zs_botr r2 h_x3 zlI_0 (by decide)).elim
  · skip
    have r3 := (zs_I_eqn c1)
    refine zs_gd (zs_gin h_x8 (by decide)) ?_
    refine zs_gd (zs_gin h_x8 (by decide)) ?_
    refine zs_lt (Q := fun z => zs_M σ0 z) (zs_wrt h_σ (fun _ => rfl) (fun _ => rfl)) (fun σ_6 hσ_6 => ?_)
    obtain ⟨ret, er, hr⟩ := zc_278 hσ_6 h_x1 h_x2 h_x3 h_x4 h_x6 h_x7 hc
    refine ⟨ret, er, ?_⟩
    exact (zs_sumw hr (fun v w => ⟨w.1, w.2⟩) (fun v w => w.elim))
-- BX9_claimOf_128
theorem zc_283 {σ0 : sn_S} {σ : sn_S} (h_σ : zs_M σ0 σ) {x1 : Int32} (h_x1 : zs_in x1.toInt 0 5) {x2 : Int32} (h_x2 : zs_in x2.toInt 0 5) {x3 : Int32} (h_x3 : zs_in x3.toInt 1 1) {x4 : Int32} (h_x4 : zs_in x4.toInt 0 1073741823) {x5 : Int32} {x6 : Int32} (h_x6 : zs_in x6.toInt 3 3) {x7 : Int32} (h_x7 : zs_in x7.toInt 0 2) {x8 : Int32} (h_x8 : zs_in x8.toInt 0 29) {t0 : Int32} (h_t0 : zs_in t0.toInt 1 1) {c : Int} (hc : x7.toInt = c + 0) : zs_ok (BX9_claimOf_128 σ x1 x2 x3 x4 x5 x6 x7 x8 t0) (fun r => zs_sum (fun v => ((zs_M σ0 v.1 ∧ (zs_in (v.2.1).toInt 0 1073741823 ∧ (True ∧ zs_in (v.2.2.2).toInt 1 3)))) ∧ v.2.2.2.toInt = c + 1) (fun v => False) r) := by
  unfold BX9_claimOf_128
  obtain rfl : x3 = (1 : Int32) := zs_eqv h_x3 (by decide)
  obtain rfl : x6 = (3 : Int32) := zs_eqv h_x6 (by decide)
  obtain rfl : t0 = (1 : Int32) := zs_eqv h_t0 (by decide)
  refine zs_ite (fun c1 => ?_) (fun c1 => ?_)
  · skip
    have r2 := (zs_I_eq c1)
    exact (zs_botr r2 h_t0 zlI_0 (by decide)).elim
  · skip
    have r3 := (zs_I_eqn c1)
    refine zs_bd_ (zc_242 h_σ h_x1 zlI_3) (fun t_4 pt_4 => ?_)
    obtain ⟨ret, er, hr⟩ := zc_282 h_σ h_x1 h_x2 h_x3 h_x4 h_x6 h_x7 h_x8 (zs_divI 0 49 pt_4 zlI_2 (by decide)) hc
    refine ⟨ret, er, ?_⟩
    exact (zs_sumw hr (fun v w => ⟨w.1, w.2⟩) (fun v w => w.elim))
-- BX9_claimOf_63
theorem zc_284 {σ0 : sn_S} {σ : sn_S} (h_σ : zs_M σ0 σ) {x1 : Int32} (h_x1 : zs_in x1.toInt 0 5) {x2 : Int32} (h_x2 : zs_in x2.toInt 0 5) {x3 : Int32} (h_x3 : zs_in x3.toInt 1 1) {x4 : Int32} (h_x4 : zs_in x4.toInt 0 1073741823) {x5 : Int32} {x6 : Int32} (h_x6 : zs_in x6.toInt 3 3) {x7 : Int32} (h_x7 : zs_in x7.toInt 0 3) {c : Int} (hc : x7.toInt = c + 0) : zs_ok (BX9_claimOf_63 σ x1 x2 x3 x4 x5 x6 x7) (fun r => zs_sum (fun v => ((zs_M σ0 v.1 ∧ (zs_in (v.2.1).toInt 0 1073741823 ∧ (True ∧ zs_in (v.2.2.2).toInt 1 3)))) ∧ v.2.2.2.toInt = c + 1) (fun v => (zs_M σ0 v.1 ∧ True)) r) := by
  unfold BX9_claimOf_63
  obtain rfl : x3 = (1 : Int32) := zs_eqv h_x3 (by decide)
  obtain rfl : x6 = (3 : Int32) := zs_eqv h_x6 (by decide)
  refine zs_ite (fun c1 => ?_) (fun c1 => ?_)
  · skip
    have r2 := (zs_I_le c1)
    have g3 : zs_in (x7).toInt 3 3 := (zs_ler 3 3 r2 h_x6 h_x7 (by decide))
    exact zs_some (zs_inr (⟨h_σ, trivial⟩))
  · skip
    have r4 := (zs_I_len c1)
    have g5 : zs_in (x7).toInt 0 2 := (zs_ltl 0 2 r4 h_x7 h_x6 (by decide))
    refine zs_ite (fun c6 => ?_) (fun c6 => ?_)
    · skip
      have r7 := (zs_I_eq c6)
      have g8 : zs_in (x4).toInt 0 0 := (zs_eql 0 0 r7 h_x4 zlI_0 (by decide))
      exact zs_some (zs_inr (⟨h_σ, trivial⟩))
    · skip
      have r9 := (zs_I_eqn c6)
      have g10 : zs_in (x4).toInt 1 1073741823 := (zs_nel 1 1073741823 r9 h_x4 zlI_0 (by decide))
      refine zs_bd_ (zo_fo1 (by decide) g10) (fun t_3 pt_3 => ?_)
      refine zs_lt (Q := fun z => zs_in z.toInt 0 1073741823) (zs_and2 g10 (by decide)) (fun y_5 hy_5 => ?_)
      refine zs_ite (fun c11 => ?_) (fun c11 => ?_)
      · skip
        have r12 := (zs_I_eq c11)
        have g13 : zs_in ((sn_I σ 0 20)).toInt 3 3 := (zs_eql 3 3 r12 (zs_topI _) zlI_3 (by decide))
        refine zs_gd (zs_gin h_x2 (by decide)) ?_
        refine zs_bd_ (zc_205 h_σ h_x1) (fun t_9 pt_9 => ?_)
        refine zs_bd_ (zc_241 pt_3) (fun t_11 pt_11 => ?_)
        refine zs_ite (fun c14 => ?_) (fun c14 => ?_)
        · skip
          have r15 := (zs_I_eq c14)
          have g16 : zs_in ((((sn_I σ 8 x2.toNatClampNeg) &&& t_9) &&& t_11)).toInt 0 0 := (zs_eql 0 0 r15 (zs_and pt_11 (by decide)) zlI_0 (by decide))
          obtain ⟨ret, er, hr⟩ := zc_281 h_σ h_x1 h_x2 h_x3 hy_5 h_x6 g5 pt_3 hc
          refine ⟨ret, er, ?_⟩
          exact (zs_sumw hr (fun v w => ⟨w.1, w.2⟩) (fun v w => w.elim))
        · skip
          have r17 := (zs_I_eqn c14)
          have g18 : zs_in ((((sn_I σ 8 x2.toNatClampNeg) &&& t_9) &&& t_11)).toInt 1 536870911 := (zs_nel 1 536870911 r17 (zs_and pt_11 (by decide)) zlI_0 (by decide))
          obtain ⟨ret, er, hr⟩ := zc_283 h_σ h_x1 h_x2 h_x3 hy_5 h_x6 g5 pt_3 zlI_1 hc
          refine ⟨ret, er, ?_⟩
          exact (zs_sumw hr (fun v w => ⟨w.1, w.2⟩) (fun v w => w.elim))
      · skip
        have r19 := (zs_I_eqn c11)
        obtain ⟨ret, er, hr⟩ := zc_281 h_σ h_x1 h_x2 h_x3 hy_5 h_x6 g5 pt_3 hc
        refine ⟨ret, er, ?_⟩
        exact (zs_sumw hr (fun v w => ⟨w.1, w.2⟩) (fun v w => w.elim))
theorem zd_46 {σ0 : sn_S} {x1 : Int32} (h_x1 : zs_in x1.toInt 0 5) {x2 : Int32} (h_x2 : zs_in x2.toInt 0 5) {x3 : Int32} (h_x3 : zs_in x3.toInt 1 1) {x6 : Int32} (h_x6 : zs_in x6.toInt 3 3) {s0 : (sn_S × (Int32 × (Int32 × Int32)))} (h0 : (zs_M σ0 s0.1 ∧ (zs_in (s0.2.1).toInt 0 1073741823 ∧ (True ∧ zs_in (s0.2.2.2).toInt 0 3)))) : zs_ok (sn_it (LX9_claimOf_63 x1 x2 x3 x6) 5000 s0) (fun t => (zs_M σ0 t.1 ∧ True)) := by
  refine zs_it (I := fun s => (zs_M σ0 s.1 ∧ (zs_in (s.2.1).toInt 0 1073741823 ∧ (True ∧ zs_in (s.2.2.2).toInt 0 3)))) (m := fun s => 3 - s.2.2.2.toInt) (fun s hs => ?_) (fun s hs => ?_) (by exact h0)
  · have h1 := hs.2.2.2; unfold zs_in at h1
    omega
  · obtain ⟨b, eb, hb⟩ := zc_284 hs.1 h_x1 h_x2 h_x3 hs.2.1 h_x6 hs.2.2.2 (c := s.2.2.2.toInt) (Int.add_zero _).symm
    exact ⟨b, eb, zs_sumw hb (fun v w => ⟨⟨w.1.1, ⟨w.1.2.1, ⟨w.1.2.2.1, (zs_w w.1.2.2.2 (by decide))⟩⟩⟩, by have := w.2; omega⟩) (fun v w => w)⟩
-- BX9_claimOf_58
theorem zc_285 {σ0 : sn_S} {σ : sn_S} (h_σ : zs_M σ0 σ) {x1 : Int32} (h_x1 : zs_in x1.toInt 0 5) {x2 : Int32} (h_x2 : zs_in x2.toInt 0 5) {x3 : Int32} (h_x3 : zs_in x3.toInt 1 1) {x4 : Int32} (h_x4 : zs_in x4.toInt 0 1073741823) {x5 : Int32} (h_x5 : zs_in x5.toInt 0 0) {t0 : Int32} (h_t0 : zs_in t0.toInt 3 3) : zs_ok (BX9_claimOf_58 σ x1 x2 x3 x4 x5 t0) (fun r => (True ∧ zs_M σ0 r.2)) := by
  unfold BX9_claimOf_58
  obtain rfl : x3 = (1 : Int32) := zs_eqv h_x3 (by decide)
  obtain rfl : x5 = (0 : Int32) := zs_eqv h_x5 (by decide)
  obtain rfl : t0 = (3 : Int32) := zs_eqv h_t0 (by decide)
  refine zs_bd_ (zd_46 h_x1 h_x2 h_x3 h_t0 (s0 := (σ, (x4, ((0 : Int32), (0 : Int32))))) ⟨h_σ, ⟨h_x4, ⟨trivial, (zs_w zlI_0 (by decide))⟩⟩⟩) (fun t_1 pt_1 => ?_)
  obtain ⟨ret, er, hr⟩ := zc_250 pt_1.1
  refine ⟨ret, er, ?_⟩
  exact hr
-- BX9_claimOf_177
theorem zc_286 {σ0 : sn_S} {σ : sn_S} (h_σ : zs_M σ0 σ) {x1 : Int32} (h_x1 : zs_in x1.toInt 0 5) {x2 : Int32} (h_x2 : zs_in x2.toInt 0 5) {x3 : Int32} (h_x3 : zs_in x3.toInt 1 1) {x4 : Int32} (h_x4 : zs_in x4.toInt 0 1073741823) {x5 : Int32} {x6 : Int32} (h_x6 : zs_in x6.toInt 1 1) {x7 : Int32} (h_x7 : zs_in x7.toInt 0 0) {c : Int} (hc : x7.toInt = c + 0) : zs_ok (BX9_claimOf_177 σ x1 x2 x3 x4 x5 x6 x7) (fun r => zs_sum (fun v => ((zs_M σ0 v.1 ∧ (zs_in (v.2.1).toInt 0 1073741823 ∧ (True ∧ zs_in (v.2.2.2).toInt 1 1)))) ∧ v.2.2.2.toInt = c + 1) (fun v => False) r) := by
  unfold BX9_claimOf_177
  obtain rfl : x3 = (1 : Int32) := zs_eqv h_x3 (by decide)
  obtain rfl : x6 = (1 : Int32) := zs_eqv h_x6 (by decide)
  refine zs_lt (Q := fun z => zs_in z.toInt 1 1 ∧ z.toInt = c + 1) ⟨(zs_addI 1 1 h_x7 zlI_1 (by decide)), (zs_syI 1 hc h_x7 zlI_1 (by decide) (by decide))⟩ (fun y_1 hy_1 => ?_)
  exact zs_some (zs_inl ⟨⟨h_σ, ⟨h_x4, ⟨trivial, hy_1.1⟩⟩⟩, hy_1.2⟩)
-- BX9_claimOf_152
theorem zc_287 {σ0 : sn_S} {σ : sn_S} (h_σ : zs_M σ0 σ) {x1 : Int32} (h_x1 : zs_in x1.toInt 0 5) {x2 : Int32} (h_x2 : zs_in x2.toInt 0 5) {x3 : Int32} (h_x3 : zs_in x3.toInt 1 1) {x4 : Int32} (h_x4 : zs_in x4.toInt 0 1073741823) {x5 : Int32} {x6 : Int32} (h_x6 : zs_in x6.toInt 1 1) {x7 : Int32} (h_x7 : zs_in x7.toInt 0 0) {x8 : Int32} (h_x8 : zs_in x8.toInt 0 29) {t0 : Int32} (h_t0 : zs_in t0.toInt 0 99) {c : Int} (hc : x7.toInt = c + 0) : zs_ok (BX9_claimOf_152 σ x1 x2 x3 x4 x5 x6 x7 x8 t0) (fun r => zs_sum (fun v => ((zs_M σ0 v.1 ∧ (zs_in (v.2.1).toInt 0 1073741823 ∧ (True ∧ zs_in (v.2.2.2).toInt 1 1)))) ∧ v.2.2.2.toInt = c + 1) (fun v => False) r) := by
  unfold BX9_claimOf_152
  obtain rfl : x3 = (1 : Int32) := zs_eqv h_x3 (by decide)
  obtain rfl : x6 = (1 : Int32) := zs_eqv h_x6 (by decide)
  refine zs_lt (Q := fun z => True) trivial (fun y_1 hy_1 => ?_)
  refine zs_ite (fun c1 => ?_) (fun c1 => ?_)
  · skip
    have r2 := (zs_I_eq c1)
    exact (zs_botr r2 h_x3 zlI_0 (by decide)).elim
  · skip
    have r3 := (zs_I_eqn c1)
    refine zs_gd (zs_gin h_x8 (by decide)) ?_
    refine zs_gd (zs_gin h_x8 (by decide)) ?_
    refine zs_lt (Q := fun z => zs_M σ0 z) (zs_wrt h_σ (fun _ => rfl) (fun _ => rfl)) (fun σ_6 hσ_6 => ?_)
    obtain ⟨ret, er, hr⟩ := zc_286 hσ_6 h_x1 h_x2 h_x3 h_x4 h_x6 h_x7 hc
    refine ⟨ret, er, ?_⟩
    exact (zs_sumw hr (fun v w => ⟨w.1, w.2⟩) (fun v w => w.elim))
-- BX9_claimOf_128
theorem zc_288 {σ0 : sn_S} {σ : sn_S} (h_σ : zs_M σ0 σ) {x1 : Int32} (h_x1 : zs_in x1.toInt 0 5) {x2 : Int32} (h_x2 : zs_in x2.toInt 0 5) {x3 : Int32} (h_x3 : zs_in x3.toInt 1 1) {x4 : Int32} (h_x4 : zs_in x4.toInt 0 1073741823) {x5 : Int32} {x6 : Int32} (h_x6 : zs_in x6.toInt 1 1) {x7 : Int32} (h_x7 : zs_in x7.toInt 0 0) {x8 : Int32} (h_x8 : zs_in x8.toInt 0 29) {t0 : Int32} (h_t0 : zs_in t0.toInt 0 0) {c : Int} (hc : x7.toInt = c + 0) : zs_ok (BX9_claimOf_128 σ x1 x2 x3 x4 x5 x6 x7 x8 t0) (fun r => zs_sum (fun v => ((zs_M σ0 v.1 ∧ (zs_in (v.2.1).toInt 0 1073741823 ∧ (True ∧ zs_in (v.2.2.2).toInt 1 1)))) ∧ v.2.2.2.toInt = c + 1) (fun v => False) r) := by
  unfold BX9_claimOf_128
  obtain rfl : x3 = (1 : Int32) := zs_eqv h_x3 (by decide)
  obtain rfl : x6 = (1 : Int32) := zs_eqv h_x6 (by decide)
  obtain rfl : t0 = (0 : Int32) := zs_eqv h_t0 (by decide)
  refine zs_ite (fun c1 => ?_) (fun c1 => ?_)
  · skip
    have r2 := (zs_I_eq c1)
    refine zs_bd_ (zc_242 h_σ h_x1 zlI_3) (fun t_2 pt_2 => ?_)
    obtain ⟨ret, er, hr⟩ := zc_287 h_σ h_x1 h_x2 h_x3 h_x4 h_x6 h_x7 h_x8 pt_2 hc
    refine ⟨ret, er, ?_⟩
    exact (zs_sumw hr (fun v w => ⟨w.1, w.2⟩) (fun v w => w.elim))
  · skip
    have r3 := (zs_I_eqn c1)
    exact (zs_botne r3 h_t0 zlI_0 (by decide)).elim
-- BX9_claimOf_127
theorem zc_289 {σ0 : sn_S} {σ : sn_S} (h_σ : zs_M σ0 σ) {x1 : Int32} (h_x1 : zs_in x1.toInt 0 5) {x2 : Int32} (h_x2 : zs_in x2.toInt 0 5) {x3 : Int32} (h_x3 : zs_in x3.toInt 1 1) {x4 : Int32} (h_x4 : zs_in x4.toInt 0 1073741823) {x5 : Int32} {x6 : Int32} (h_x6 : zs_in x6.toInt 1 1) {x7 : Int32} (h_x7 : zs_in x7.toInt 0 0) {x8 : Int32} (h_x8 : zs_in x8.toInt 0 29) {c : Int} (hc : x7.toInt = c + 0) : zs_ok (BX9_claimOf_127 σ x1 x2 x3 x4 x5 x6 x7 x8) (fun r => zs_sum (fun v => ((zs_M σ0 v.1 ∧ (zs_in (v.2.1).toInt 0 1073741823 ∧ (True ∧ zs_in (v.2.2.2).toInt 1 1)))) ∧ v.2.2.2.toInt = c + 1) (fun v => False) r) := by
  unfold BX9_claimOf_127
  obtain rfl : x3 = (1 : Int32) := zs_eqv h_x3 (by decide)
  obtain rfl : x6 = (1 : Int32) := zs_eqv h_x6 (by decide)
  obtain ⟨ret, er, hr⟩ := zc_288 h_σ h_x1 h_x2 h_x3 h_x4 h_x6 h_x7 h_x8 zlI_0 hc
  refine ⟨ret, er, ?_⟩
  exact (zs_sumw hr (fun v w => ⟨w.1, w.2⟩) (fun v w => w.elim))
-- BX9_claimOf_152
theorem zc_290 {σ0 : sn_S} {σ : sn_S} (h_σ : zs_M σ0 σ) {x1 : Int32} (h_x1 : zs_in x1.toInt 0 5) {x2 : Int32} (h_x2 : zs_in x2.toInt 0 5) {x3 : Int32} (h_x3 : zs_in x3.toInt 1 1) {x4 : Int32} (h_x4 : zs_in x4.toInt 0 1073741823) {x5 : Int32} {x6 : Int32} (h_x6 : zs_in x6.toInt 1 1) {x7 : Int32} (h_x7 : zs_in x7.toInt 0 0) {x8 : Int32} (h_x8 : zs_in x8.toInt 0 29) {t0 : Int32} (h_t0 : zs_in t0.toInt 0 49) {c : Int} (hc : x7.toInt = c + 0) : zs_ok (BX9_claimOf_152 σ x1 x2 x3 x4 x5 x6 x7 x8 t0) (fun r => zs_sum (fun v => ((zs_M σ0 v.1 ∧ (zs_in (v.2.1).toInt 0 1073741823 ∧ (True ∧ zs_in (v.2.2.2).toInt 1 1)))) ∧ v.2.2.2.toInt = c + 1) (fun v => False) r) := by
  unfold BX9_claimOf_152
  obtain rfl : x3 = (1 : Int32) := zs_eqv h_x3 (by decide)
  obtain rfl : x6 = (1 : Int32) := zs_eqv h_x6 (by decide)
  refine zs_lt (Q := fun z => True) trivial (fun y_1 hy_1 => ?_)
  refine zs_ite (fun c1 => ?_) (fun c1 => ?_)
  · skip
    have r2 := (zs_I_eq c1)
    exact (zs_botr r2 h_x3 zlI_0 (by decide)).elim
  · skip
    have r3 := (zs_I_eqn c1)
    refine zs_gd (zs_gin h_x8 (by decide)) ?_
    refine zs_gd (zs_gin h_x8 (by decide)) ?_
    refine zs_lt (Q := fun z => zs_M σ0 z) (zs_wrt h_σ (fun _ => rfl) (fun _ => rfl)) (fun σ_6 hσ_6 => ?_)
    obtain ⟨ret, er, hr⟩ := zc_286 hσ_6 h_x1 h_x2 h_x3 h_x4 h_x6 h_x7 hc
    refine ⟨ret, er, ?_⟩
    exact (zs_sumw hr (fun v w => ⟨w.1, w.2⟩) (fun v w => w.elim))
-- BX9_claimOf_128
theorem zc_291 {σ0 : sn_S} {σ : sn_S} (h_σ : zs_M σ0 σ) {x1 : Int32} (h_x1 : zs_in x1.toInt 0 5) {x2 : Int32} (h_x2 : zs_in x2.toInt 0 5) {x3 : Int32} (h_x3 : zs_in x3.toInt 1 1) {x4 : Int32} (h_x4 : zs_in x4.toInt 0 1073741823) {x5 : Int32} {x6 : Int32} (h_x6 : zs_in x6.toInt 1 1) {x7 : Int32} (h_x7 : zs_in x7.toInt 0 0) {x8 : Int32} (h_x8 : zs_in x8.toInt 0 29) {t0 : Int32} (h_t0 : zs_in t0.toInt 1 1) {c : Int} (hc : x7.toInt = c + 0) : zs_ok (BX9_claimOf_128 σ x1 x2 x3 x4 x5 x6 x7 x8 t0) (fun r => zs_sum (fun v => ((zs_M σ0 v.1 ∧ (zs_in (v.2.1).toInt 0 1073741823 ∧ (True ∧ zs_in (v.2.2.2).toInt 1 1)))) ∧ v.2.2.2.toInt = c + 1) (fun v => False) r) := by
  unfold BX9_claimOf_128
  obtain rfl : x3 = (1 : Int32) := zs_eqv h_x3 (by decide)
  obtain rfl : x6 = (1 : Int32) := zs_eqv h_x6 (by decide)
  obtain rfl : t0 = (1 : Int32) := zs_eqv h_t0 (by decide)
  refine zs_ite (fun c1 => ?_) (fun c1 => ?_)
  · skip
    have r2 := (zs_I_eq c1)
    exact (zs_botr r2 h_t0 zlI_0 (by decide)).elim
  · skip
    have r3 := (zs_I_eqn c1)
    refine zs_bd_ (zc_242 h_σ h_x1 zlI_3) (fun t_4 pt_4 => ?_)
    obtain ⟨ret, er, hr⟩ := zc_290 h_σ h_x1 h_x2 h_x3 h_x4 h_x6 h_x7 h_x8 (zs_divI 0 49 pt_4 zlI_2 (by decide)) hc
    refine ⟨ret, er, ?_⟩
    exact (zs_sumw hr (fun v w => ⟨w.1, w.2⟩) (fun v w => w.elim))
-- BX9_claimOf_63
theorem zc_292 {σ0 : sn_S} {σ : sn_S} (h_σ : zs_M σ0 σ) {x1 : Int32} (h_x1 : zs_in x1.toInt 0 5) {x2 : Int32} (h_x2 : zs_in x2.toInt 0 5) {x3 : Int32} (h_x3 : zs_in x3.toInt 1 1) {x4 : Int32} (h_x4 : zs_in x4.toInt 0 1073741823) {x5 : Int32} {x6 : Int32} (h_x6 : zs_in x6.toInt 1 1) {x7 : Int32} (h_x7 : zs_in x7.toInt 0 1) {c : Int} (hc : x7.toInt = c + 0) : zs_ok (BX9_claimOf_63 σ x1 x2 x3 x4 x5 x6 x7) (fun r => zs_sum (fun v => ((zs_M σ0 v.1 ∧ (zs_in (v.2.1).toInt 0 1073741823 ∧ (True ∧ zs_in (v.2.2.2).toInt 1 1)))) ∧ v.2.2.2.toInt = c + 1) (fun v => (zs_M σ0 v.1 ∧ True)) r) := by
  unfold BX9_claimOf_63
  obtain rfl : x3 = (1 : Int32) := zs_eqv h_x3 (by decide)
  obtain rfl : x6 = (1 : Int32) := zs_eqv h_x6 (by decide)
  refine zs_ite (fun c1 => ?_) (fun c1 => ?_)
  · skip
    have r2 := (zs_I_le c1)
    have g3 : zs_in (x7).toInt 1 1 := (zs_ler 1 1 r2 h_x6 h_x7 (by decide))
    exact zs_some (zs_inr (⟨h_σ, trivial⟩))
  · skip
    have r4 := (zs_I_len c1)
    have g5 : zs_in (x7).toInt 0 0 := (zs_ltl 0 0 r4 h_x7 h_x6 (by decide))
    refine zs_ite (fun c6 => ?_) (fun c6 => ?_)
    · skip
      have r7 := (zs_I_eq c6)
      have g8 : zs_in (x4).toInt 0 0 := (zs_eql 0 0 r7 h_x4 zlI_0 (by decide))
      exact zs_some (zs_inr (⟨h_σ, trivial⟩))
    · skip
      have r9 := (zs_I_eqn c6)
      have g10 : zs_in (x4).toInt 1 1073741823 := (zs_nel 1 1073741823 r9 h_x4 zlI_0 (by decide))
      refine zs_bd_ (zo_fo1 (by decide) g10) (fun t_3 pt_3 => ?_)
      refine zs_lt (Q := fun z => zs_in z.toInt 0 1073741823) (zs_and2 g10 (by decide)) (fun y_5 hy_5 => ?_)
      refine zs_ite (fun c11 => ?_) (fun c11 => ?_)
      · skip
        have r12 := (zs_I_eq c11)
        have g13 : zs_in ((sn_I σ 0 20)).toInt 3 3 := (zs_eql 3 3 r12 (zs_topI _) zlI_3 (by decide))
        refine zs_gd (zs_gin h_x2 (by decide)) ?_
        refine zs_bd_ (zc_205 h_σ h_x1) (fun t_9 pt_9 => ?_)
        refine zs_bd_ (zc_241 pt_3) (fun t_11 pt_11 => ?_)
        refine zs_ite (fun c14 => ?_) (fun c14 => ?_)
        · skip
          have r15 := (zs_I_eq c14)
          have g16 : zs_in ((((sn_I σ 8 x2.toNatClampNeg) &&& t_9) &&& t_11)).toInt 0 0 := (zs_eql 0 0 r15 (zs_and pt_11 (by decide)) zlI_0 (by decide))
          obtain ⟨ret, er, hr⟩ := zc_289 h_σ h_x1 h_x2 h_x3 hy_5 h_x6 g5 pt_3 hc
          refine ⟨ret, er, ?_⟩
          exact (zs_sumw hr (fun v w => ⟨w.1, w.2⟩) (fun v w => w.elim))
        · skip
          have r17 := (zs_I_eqn c14)
          have g18 : zs_in ((((sn_I σ 8 x2.toNatClampNeg) &&& t_9) &&& t_11)).toInt 1 536870911 := (zs_nel 1 536870911 r17 (zs_and pt_11 (by decide)) zlI_0 (by decide))
          obtain ⟨ret, er, hr⟩ := zc_291 h_σ h_x1 h_x2 h_x3 hy_5 h_x6 g5 pt_3 zlI_1 hc
          refine ⟨ret, er, ?_⟩
          exact (zs_sumw hr (fun v w => ⟨w.1, w.2⟩) (fun v w => w.elim))
      · skip
        have r19 := (zs_I_eqn c11)
        obtain ⟨ret, er, hr⟩ := zc_289 h_σ h_x1 h_x2 h_x3 hy_5 h_x6 g5 pt_3 hc
        refine ⟨ret, er, ?_⟩
        exact (zs_sumw hr (fun v w => ⟨w.1, w.2⟩) (fun v w => w.elim))
theorem zd_47 {σ0 : sn_S} {x1 : Int32} (h_x1 : zs_in x1.toInt 0 5) {x2 : Int32} (h_x2 : zs_in x2.toInt 0 5) {x3 : Int32} (h_x3 : zs_in x3.toInt 1 1) {x6 : Int32} (h_x6 : zs_in x6.toInt 1 1) {s0 : (sn_S × (Int32 × (Int32 × Int32)))} (h0 : (zs_M σ0 s0.1 ∧ (zs_in (s0.2.1).toInt 0 1073741823 ∧ (True ∧ zs_in (s0.2.2.2).toInt 0 1)))) : zs_ok (sn_it (LX9_claimOf_63 x1 x2 x3 x6) 5000 s0) (fun t => (zs_M σ0 t.1 ∧ True)) := by
  refine zs_it (I := fun s => (zs_M σ0 s.1 ∧ (zs_in (s.2.1).toInt 0 1073741823 ∧ (True ∧ zs_in (s.2.2.2).toInt 0 1)))) (m := fun s => 1 - s.2.2.2.toInt) (fun s hs => ?_) (fun s hs => ?_) (by exact h0)
  · have h1 := hs.2.2.2; unfold zs_in at h1
    omega
  · obtain ⟨b, eb, hb⟩ := zc_292 hs.1 h_x1 h_x2 h_x3 hs.2.1 h_x6 hs.2.2.2 (c := s.2.2.2.toInt) (Int.add_zero _).symm
    exact ⟨b, eb, zs_sumw hb (fun v w => ⟨⟨w.1.1, ⟨w.1.2.1, ⟨w.1.2.2.1, (zs_w w.1.2.2.2 (by decide))⟩⟩⟩, by have := w.2; omega⟩) (fun v w => w)⟩
-- BX9_claimOf_58
theorem zc_293 {σ0 : sn_S} {σ : sn_S} (h_σ : zs_M σ0 σ) {x1 : Int32} (h_x1 : zs_in x1.toInt 0 5) {x2 : Int32} (h_x2 : zs_in x2.toInt 0 5) {x3 : Int32} (h_x3 : zs_in x3.toInt 1 1) {x4 : Int32} (h_x4 : zs_in x4.toInt 0 1073741823) {x5 : Int32} (h_x5 : zs_in x5.toInt 0 0) {t0 : Int32} (h_t0 : zs_in t0.toInt 1 1) : zs_ok (BX9_claimOf_58 σ x1 x2 x3 x4 x5 t0) (fun r => (True ∧ zs_M σ0 r.2)) := by
  unfold BX9_claimOf_58
  obtain rfl : x3 = (1 : Int32) := zs_eqv h_x3 (by decide)
  obtain rfl : x5 = (0 : Int32) := zs_eqv h_x5 (by decide)
  obtain rfl : t0 = (1 : Int32) := zs_eqv h_t0 (by decide)
  refine zs_bd_ (zd_47 h_x1 h_x2 h_x3 h_t0 (s0 := (σ, (x4, ((0 : Int32), (0 : Int32))))) ⟨h_σ, ⟨h_x4, ⟨trivial, (zs_w zlI_0 (by decide))⟩⟩⟩) (fun t_1 pt_1 => ?_)
  obtain ⟨ret, er, hr⟩ := zc_250 pt_1.1
  refine ⟨ret, er, ?_⟩
  exact hr
-- BX9_claimOf_33
theorem zc_294 {σ0 : sn_S} {σ : sn_S} (h_σ : zs_M σ0 σ) {x1 : Int32} (h_x1 : zs_in x1.toInt 0 5) {x2 : Int32} (h_x2 : zs_in x2.toInt 0 5) {x3 : Int32} (h_x3 : zs_in x3.toInt 1 1) {x4 : Int32} (h_x4 : zs_in x4.toInt 0 1073741823) : zs_ok (BX9_claimOf_33 σ x1 x2 x3 x4) (fun r => (True ∧ zs_M σ0 r.2)) := by
  unfold BX9_claimOf_33
  obtain rfl : x3 = (1 : Int32) := zs_eqv h_x3 (by decide)
  refine zs_bd_ (zo_fot2 h_x4) (fun t_1 pt_1 => ?_)
  refine zs_lt (Q := fun z => zs_M σ0 z) (zs_wrkt h_σ rfl rfl) (fun σ_3 hσ_3 => ?_)
  refine zs_ite (fun c1 => ?_) (fun c1 => ?_)
  · skip
    have r2 := (zs_I_eq c1)
    have g3 : zs_in ((sn_I σ_3 0 20)).toInt 2 2 := (zs_eql 2 2 r2 (zs_topI _) zlI_2 (by decide))
    obtain ⟨ret, er, hr⟩ := zc_285 hσ_3 h_x1 h_x2 h_x3 h_x4 zlI_0 zlI_3
    refine ⟨ret, er, ?_⟩
    exact hr
  · skip
    have r4 := (zs_I_eqn c1)
    obtain ⟨ret, er, hr⟩ := zc_293 hσ_3 h_x1 h_x2 h_x3 h_x4 zlI_0 zlI_1
    refine ⟨ret, er, ?_⟩
    exact hr
-- fX9_claimOf
theorem zc_295 {σ0 : sn_S} {σ : sn_S} (h_σ : zs_M σ0 σ) {x1 : Int32} (h_x1 : zs_in x1.toInt 0 5) {x2 : Int32} (h_x2 : zs_in x2.toInt 0 5) {x3 : Int32} (h_x3 : zs_in x3.toInt 1 1) : zs_ok (fX9_claimOf σ x1 x2 x3) (fun r => (True ∧ zs_M σ0 r.2)) := by
  unfold fX9_claimOf
  obtain rfl : x3 = (1 : Int32) := zs_eqv h_x3 (by decide)
  refine zs_gd (zs_gin h_x2 (by decide)) ?_
  refine zs_bd_ (zc_205 h_σ h_x1) (fun t_2 pt_2 => ?_)
  refine zs_lt (Q := fun z => zs_in z.toInt 0 1073741823) (zs_and pt_2 (by decide)) (fun y_4 hy_4 => ?_)
  refine zs_ite (fun c1 => ?_) (fun c1 => ?_)
  · skip
    have r2 := (zs_I_eq c1)
    have g3 : zs_in ((sn_I σ 0 20)).toInt 1 1 := (zs_eql 1 1 r2 (zs_topI _) zlI_1 (by decide))
    refine zs_lt (Q := fun z => zs_in z.toInt 0 1073741823) (zs_and2 hy_4 (by decide)) (fun y_7 hy_7 => ?_)
    obtain ⟨ret, er, hr⟩ := zc_294 h_σ h_x1 h_x2 h_x3 hy_7
    refine ⟨ret, er, ?_⟩
    exact hr
  · skip
    have r4 := (zs_I_eqn c1)
    obtain ⟨ret, er, hr⟩ := zc_294 h_σ h_x1 h_x2 h_x3 hy_4
    refine ⟨ret, er, ?_⟩
    exact hr
-- BX9_layPaid_23
theorem zc_296 {σ0 : sn_S} {σ : sn_S} (h_σ : zs_M σ0 σ) {x1 : Int32} (h_x1 : zs_in x1.toInt 0 6) {c : Int} (hc : x1.toInt = c + 0) : zs_ok (BX9_layPaid_23 σ x1) (fun r => zs_sum (fun v => ((zs_M σ0 v.1 ∧ zs_in (v.2).toInt 1 6)) ∧ v.2.toInt = c + 1) (fun v => zs_M σ0 v) r) := by
  unfold BX9_layPaid_23
  refine zs_gd (zs_gin zlI_8 (by decide)) ?_
  refine zs_ite (fun c1 => ?_) (fun c1 => ?_)
  · skip
    have r2 := (zs_I_le c1)
    exact zs_some (zs_inr (h_σ))
  · skip
    have r3 := (zs_I_len c1)
    have g4 : zs_in (x1).toInt 0 5 := (zs_ltl 0 5 r3 h_x1 (zs_rdk (q := 1) (k := (8 : Int32).toNatClampNeg) (z := (0, 6)) h_σ.1 rfl) (by decide))
    have g5 : zs_in ((sn_I σ 1 (8 : Int32).toNatClampNeg)).toInt 1 6 := (zs_ltr 1 6 r3 h_x1 (zs_rdk (q := 1) (k := (8 : Int32).toNatClampNeg) (z := (0, 6)) h_σ.1 rfl) (by decide))
    refine zs_bd_ (zc_200 h_σ g4 zlI_0) (fun t_3 pt_3 => ?_)
    refine zs_bd_ (zc_295 h_σ g4 pt_3 zlI_1) (fun t_5 pt_5 => ?_)
    refine zs_lt (Q := fun z => zs_in z.toInt 1 6 ∧ z.toInt = c + 1) ⟨(zs_addI 1 6 g4 zlI_1 (by decide)), (zs_syI 1 hc g4 zlI_1 (by decide) (by decide))⟩ (fun y_7 hy_7 => ?_)
    exact zs_some (zs_inl ⟨⟨pt_5.2, hy_7.1⟩, hy_7.2⟩)
theorem zd_48 {σ0 : sn_S}  {s0 : (sn_S × Int32)} (h0 : (zs_M σ0 s0.1 ∧ zs_in (s0.2).toInt 0 6)) : zs_ok (sn_it (LX9_layPaid_23) 5000 s0) (fun t => zs_M σ0 t) := by
  refine zs_it (I := fun s => (zs_M σ0 s.1 ∧ zs_in (s.2).toInt 0 6)) (m := fun s => 6 - s.2.toInt) (fun s hs => ?_) (fun s hs => ?_) (by exact h0)
  · have h1 := hs.2; unfold zs_in at h1
    omega
  · obtain ⟨b, eb, hb⟩ := zc_296 hs.1 hs.2 (c := s.2.toInt) (Int.add_zero _).symm
    exact ⟨b, eb, zs_sumw hb (fun v w => ⟨⟨w.1.1, (zs_w w.1.2 (by decide))⟩, by have := w.2; omega⟩) (fun v w => w)⟩
-- BX9_layPaid_53
theorem zc_297 {σ0 : sn_S} {σ : sn_S} (h_σ : zs_M σ0 σ) : zs_ok (BX9_layPaid_53 σ) (fun r => zs_M σ0 r) := by
  unfold BX9_layPaid_53
  exact zs_some h_σ
-- BX9_layPaid_21
theorem zc_298 {σ0 : sn_S} {σ : sn_S} (h_σ : zs_M σ0 σ) : zs_ok (BX9_layPaid_21 σ) (fun r => zs_M σ0 r) := by
  unfold BX9_layPaid_21
  refine zs_bd_ (zd_48  (s0 := (σ, (0 : Int32))) ⟨h_σ, (zs_w zlI_0 (by decide))⟩) (fun t_1 pt_1 => ?_)
  obtain ⟨ret, er, hr⟩ := zc_297 pt_1
  refine ⟨ret, er, ?_⟩
  exact hr
-- fX9_layPaid
theorem zc_299 {σ0 : sn_S} {σ : sn_S} (h_σ : zs_M σ0 σ) : zs_ok (fX9_layPaid σ) (fun r => zs_M σ0 r) := by
  unfold fX9_layPaid
  refine zs_bd_ (zd_45  (s0 := (σ, (0 : Int32))) ⟨h_σ, (zs_w zlI_0 (by decide))⟩) (fun t_1 pt_1 => ?_)
  obtain ⟨ret, er, hr⟩ := zc_298 pt_1
  refine ⟨ret, er, ?_⟩
  exact hr
-- BX9_moneyAt_7
theorem zc_300 {σ0 : sn_S} {σ : sn_S} (h_σ : zs_M σ0 σ) {x1 : Int32} (h_x1 : zs_in x1.toInt 1 29) {x2 : Int32} {x3 : Int32} (h_x3 : zs_in x3.toInt 0 6) {c : Int} (hc : x3.toInt = c + 0) : zs_ok (BX9_moneyAt_7 σ x1 x2 x3) (fun r => zs_sum (fun v => ((True ∧ zs_in (v.2).toInt 1 6)) ∧ v.2.toInt = c + 1) (fun v => True) r) := by
  unfold BX9_moneyAt_7
  refine zs_gd (zs_gin zlI_8 (by decide)) ?_
  refine zs_ite (fun c1 => ?_) (fun c1 => ?_)
  · skip
    have r2 := (zs_I_le c1)
    exact zs_some (zs_inr (trivial))
  · skip
    have r3 := (zs_I_len c1)
    have g4 : zs_in (x3).toInt 0 5 := (zs_ltl 0 5 r3 h_x3 (zs_rdk (q := 1) (k := (8 : Int32).toNatClampNeg) (z := (0, 6)) h_σ.1 rfl) (by decide))
    have g5 : zs_in ((sn_I σ 1 (8 : Int32).toNatClampNeg)).toInt 1 6 := (zs_ltr 1 6 r3 h_x3 (zs_rdk (q := 1) (k := (8 : Int32).toNatClampNeg) (z := (0, 6)) h_σ.1 rfl) (by decide))
    refine zs_bd_ (zc_240 h_σ g4 zlI_4) (fun t_3 pt_3 => ?_)
    refine zs_lt (Q := fun z => True) trivial (fun y_5 hy_5 => ?_)
    refine zs_lt (Q := fun z => zs_in z.toInt 1 6 ∧ z.toInt = c + 1) ⟨(zs_addI 1 6 g4 zlI_1 (by decide)), (zs_syI 1 hc g4 zlI_1 (by decide) (by decide))⟩ (fun y_7 hy_7 => ?_)
    exact zs_some (zs_inl ⟨⟨trivial, hy_7.1⟩, hy_7.2⟩)
theorem zd_49 {σ0 : sn_S} {σ : sn_S} (h_σ : zs_M σ0 σ) {x1 : Int32} (h_x1 : zs_in x1.toInt 1 29) {s0 : (Int32 × Int32)} (h0 : (True ∧ zs_in (s0.2).toInt 0 6)) : zs_ok (sn_it (LX9_moneyAt_7 σ x1) 5000 s0) (fun t => True) := by
  refine zs_it (I := fun s => (True ∧ zs_in (s.2).toInt 0 6)) (m := fun s => 6 - s.2.toInt) (fun s hs => ?_) (fun s hs => ?_) (by exact h0)
  · have h1 := hs.2; unfold zs_in at h1
    omega
  · obtain ⟨b, eb, hb⟩ := zc_300 h_σ h_x1 hs.2 (c := s.2.toInt) (Int.add_zero _).symm
    exact ⟨b, eb, zs_sumw hb (fun v w => ⟨⟨w.1.1, (zs_w w.1.2 (by decide))⟩, by have := w.2; omega⟩) (fun v w => w)⟩
-- BX9_moneyAt_35
theorem zc_301 {σ0 : sn_S} {σ : sn_S} (h_σ : zs_M σ0 σ) {x1 : Int32} (h_x1 : zs_in x1.toInt 1 29) {x2 : Int32} {x3 : Int32} (h_x3 : zs_in x3.toInt 0 30) {c : Int} (hc : x3.toInt = c + 0) : zs_ok (BX9_moneyAt_35 σ x1 x2 x3) (fun r => zs_sum (fun v => ((True ∧ zs_in (v.2).toInt 1 30)) ∧ v.2.toInt = c + 1) (fun v => True) r) := by
  unfold BX9_moneyAt_35
  refine zs_ite (fun c1 => ?_) (fun c1 => ?_)
  · skip
    have r2 := (zs_I_lt c1)
    have g3 : zs_in (x3).toInt 2 30 := (zs_ltr 2 30 r2 h_x1 h_x3 (by decide))
    exact zs_some (zs_inr (trivial))
  · skip
    have r4 := (zs_I_ltn c1)
    have g5 : zs_in (x3).toInt 0 29 := (zs_lel 0 29 r4 h_x3 h_x1 (by decide))
    refine zs_gd (zs_gin g5 (by decide)) ?_
    refine zs_lt (Q := fun z => True) trivial (fun y_3 hy_3 => ?_)
    refine zs_lt (Q := fun z => zs_in z.toInt 1 30 ∧ z.toInt = c + 1) ⟨(zs_addI 1 30 g5 zlI_1 (by decide)), (zs_syI 1 hc g5 zlI_1 (by decide) (by decide))⟩ (fun y_5 hy_5 => ?_)
    exact zs_some (zs_inl ⟨⟨trivial, hy_5.1⟩, hy_5.2⟩)
theorem zd_50 {σ0 : sn_S} {σ : sn_S} (h_σ : zs_M σ0 σ) {x1 : Int32} (h_x1 : zs_in x1.toInt 1 29) {s0 : (Int32 × Int32)} (h0 : (True ∧ zs_in (s0.2).toInt 0 30)) : zs_ok (sn_it (LX9_moneyAt_35 σ x1) 5000 s0) (fun t => True) := by
  refine zs_it (I := fun s => (True ∧ zs_in (s.2).toInt 0 30)) (m := fun s => 30 - s.2.toInt) (fun s hs => ?_) (fun s hs => ?_) (by exact h0)
  · have h1 := hs.2; unfold zs_in at h1
    omega
  · obtain ⟨b, eb, hb⟩ := zc_301 h_σ h_x1 hs.2 (c := s.2.toInt) (Int.add_zero _).symm
    exact ⟨b, eb, zs_sumw hb (fun v w => ⟨⟨w.1.1, (zs_w w.1.2 (by decide))⟩, by have := w.2; omega⟩) (fun v w => w)⟩
-- BX9_moneyAt_55
theorem zc_302 {σ0 : sn_S} {σ : sn_S} (h_σ : zs_M σ0 σ) {x2 : Int32} : zs_ok (BX9_moneyAt_55 σ x2) (fun r => True) := by
  unfold BX9_moneyAt_55
  exact zs_some trivial
-- BX9_moneyAt_33
theorem zc_303 {σ0 : sn_S} {σ : sn_S} (h_σ : zs_M σ0 σ) {x1 : Int32} (h_x1 : zs_in x1.toInt 1 29) {x2 : Int32} : zs_ok (BX9_moneyAt_33 σ x1 x2) (fun r => True) := by
  unfold BX9_moneyAt_33
  refine zs_bd_ (zd_50 h_σ h_x1 (s0 := (x2, (0 : Int32))) ⟨trivial, (zs_w zlI_0 (by decide))⟩) (fun t_1 pt_1 => ?_)
  obtain ⟨ret, er, hr⟩ := zc_302 h_σ
  refine ⟨ret, er, ?_⟩
  exact hr
-- fX9_moneyAt
theorem zc_304 {σ0 : sn_S} {σ : sn_S} (h_σ : zs_M σ0 σ) {x1 : Int32} (h_x1 : zs_in x1.toInt 1 29) : zs_ok (fX9_moneyAt σ x1) (fun r => True) := by
  unfold fX9_moneyAt
  refine zs_lt (Q := fun z => zs_in z.toInt 0 1000) (zs_rdk (q := 0) (k := 21) (z := (0, 1000)) h_σ.1 rfl) (fun y_1 hy_1 => ?_)
  refine zs_bd_ (zd_49 h_σ h_x1 (s0 := (y_1, (0 : Int32))) ⟨trivial, (zs_w zlI_0 (by decide))⟩) (fun t_3 pt_3 => ?_)
  obtain ⟨ret, er, hr⟩ := zc_303 h_σ h_x1
  refine ⟨ret, er, ?_⟩
  exact hr
-- BX9_moneyAt_7
theorem zc_305 {σ0 : sn_S} {σ : sn_S} (h_σ : zs_M σ0 σ) {x1 : Int32} (h_x1 : zs_in x1.toInt 0 29) {x2 : Int32} {x3 : Int32} (h_x3 : zs_in x3.toInt 0 6) {c : Int} (hc : x3.toInt = c + 0) : zs_ok (BX9_moneyAt_7 σ x1 x2 x3) (fun r => zs_sum (fun v => ((True ∧ zs_in (v.2).toInt 1 6)) ∧ v.2.toInt = c + 1) (fun v => True) r) := by
  unfold BX9_moneyAt_7
  refine zs_gd (zs_gin zlI_8 (by decide)) ?_
  refine zs_ite (fun c1 => ?_) (fun c1 => ?_)
  · skip
    have r2 := (zs_I_le c1)
    exact zs_some (zs_inr (trivial))
  · skip
    have r3 := (zs_I_len c1)
    have g4 : zs_in (x3).toInt 0 5 := (zs_ltl 0 5 r3 h_x3 (zs_rdk (q := 1) (k := (8 : Int32).toNatClampNeg) (z := (0, 6)) h_σ.1 rfl) (by decide))
    have g5 : zs_in ((sn_I σ 1 (8 : Int32).toNatClampNeg)).toInt 1 6 := (zs_ltr 1 6 r3 h_x3 (zs_rdk (q := 1) (k := (8 : Int32).toNatClampNeg) (z := (0, 6)) h_σ.1 rfl) (by decide))
    refine zs_bd_ (zc_240 h_σ g4 zlI_4) (fun t_3 pt_3 => ?_)
    refine zs_lt (Q := fun z => True) trivial (fun y_5 hy_5 => ?_)
    refine zs_lt (Q := fun z => zs_in z.toInt 1 6 ∧ z.toInt = c + 1) ⟨(zs_addI 1 6 g4 zlI_1 (by decide)), (zs_syI 1 hc g4 zlI_1 (by decide) (by decide))⟩ (fun y_7 hy_7 => ?_)
    exact zs_some (zs_inl ⟨⟨trivial, hy_7.1⟩, hy_7.2⟩)
theorem zd_51 {σ0 : sn_S} {σ : sn_S} (h_σ : zs_M σ0 σ) {x1 : Int32} (h_x1 : zs_in x1.toInt 0 29) {s0 : (Int32 × Int32)} (h0 : (True ∧ zs_in (s0.2).toInt 0 6)) : zs_ok (sn_it (LX9_moneyAt_7 σ x1) 5000 s0) (fun t => True) := by
  refine zs_it (I := fun s => (True ∧ zs_in (s.2).toInt 0 6)) (m := fun s => 6 - s.2.toInt) (fun s hs => ?_) (fun s hs => ?_) (by exact h0)
  · have h1 := hs.2; unfold zs_in at h1
    omega
  · obtain ⟨b, eb, hb⟩ := zc_305 h_σ h_x1 hs.2 (c := s.2.toInt) (Int.add_zero _).symm
    exact ⟨b, eb, zs_sumw hb (fun v w => ⟨⟨w.1.1, (zs_w w.1.2 (by decide))⟩, by have := w.2; omega⟩) (fun v w => w)⟩
-- BX9_moneyAt_35
theorem zc_306 {σ0 : sn_S} {σ : sn_S} (h_σ : zs_M σ0 σ) {x1 : Int32} (h_x1 : zs_in x1.toInt 0 29) {x2 : Int32} {x3 : Int32} (h_x3 : zs_in x3.toInt 0 30) {c : Int} (hc : x3.toInt = c + 0) : zs_ok (BX9_moneyAt_35 σ x1 x2 x3) (fun r => zs_sum (fun v => ((True ∧ zs_in (v.2).toInt 1 30)) ∧ v.2.toInt = c + 1) (fun v => True) r) := by
  unfold BX9_moneyAt_35
  refine zs_ite (fun c1 => ?_) (fun c1 => ?_)
  · skip
    have r2 := (zs_I_lt c1)
    have g3 : zs_in (x3).toInt 1 30 := (zs_ltr 1 30 r2 h_x1 h_x3 (by decide))
    exact zs_some (zs_inr (trivial))
  · skip
    have r4 := (zs_I_ltn c1)
    have g5 : zs_in (x3).toInt 0 29 := (zs_lel 0 29 r4 h_x3 h_x1 (by decide))
    refine zs_gd (zs_gin g5 (by decide)) ?_
    refine zs_lt (Q := fun z => True) trivial (fun y_3 hy_3 => ?_)
    refine zs_lt (Q := fun z => zs_in z.toInt 1 30 ∧ z.toInt = c + 1) ⟨(zs_addI 1 30 g5 zlI_1 (by decide)), (zs_syI 1 hc g5 zlI_1 (by decide) (by decide))⟩ (fun y_5 hy_5 => ?_)
    exact zs_some (zs_inl ⟨⟨trivial, hy_5.1⟩, hy_5.2⟩)
theorem zd_52 {σ0 : sn_S} {σ : sn_S} (h_σ : zs_M σ0 σ) {x1 : Int32} (h_x1 : zs_in x1.toInt 0 29) {s0 : (Int32 × Int32)} (h0 : (True ∧ zs_in (s0.2).toInt 0 30)) : zs_ok (sn_it (LX9_moneyAt_35 σ x1) 5000 s0) (fun t => True) := by
  refine zs_it (I := fun s => (True ∧ zs_in (s.2).toInt 0 30)) (m := fun s => 30 - s.2.toInt) (fun s hs => ?_) (fun s hs => ?_) (by exact h0)
  · have h1 := hs.2; unfold zs_in at h1
    omega
  · obtain ⟨b, eb, hb⟩ := zc_306 h_σ h_x1 hs.2 (c := s.2.toInt) (Int.add_zero _).symm
    exact ⟨b, eb, zs_sumw hb (fun v w => ⟨⟨w.1.1, (zs_w w.1.2 (by decide))⟩, by have := w.2; omega⟩) (fun v w => w)⟩
-- BX9_moneyAt_33
theorem zc_307 {σ0 : sn_S} {σ : sn_S} (h_σ : zs_M σ0 σ) {x1 : Int32} (h_x1 : zs_in x1.toInt 0 29) {x2 : Int32} : zs_ok (BX9_moneyAt_33 σ x1 x2) (fun r => True) := by
  unfold BX9_moneyAt_33
  refine zs_bd_ (zd_52 h_σ h_x1 (s0 := (x2, (0 : Int32))) ⟨trivial, (zs_w zlI_0 (by decide))⟩) (fun t_1 pt_1 => ?_)
  obtain ⟨ret, er, hr⟩ := zc_302 h_σ
  refine ⟨ret, er, ?_⟩
  exact hr
-- fX9_moneyAt
theorem zc_308 {σ0 : sn_S} {σ : sn_S} (h_σ : zs_M σ0 σ) {x1 : Int32} (h_x1 : zs_in x1.toInt 0 29) : zs_ok (fX9_moneyAt σ x1) (fun r => True) := by
  unfold fX9_moneyAt
  refine zs_lt (Q := fun z => zs_in z.toInt 0 1000) (zs_rdk (q := 0) (k := 21) (z := (0, 1000)) h_σ.1 rfl) (fun y_1 hy_1 => ?_)
  refine zs_bd_ (zd_51 h_σ h_x1 (s0 := (y_1, (0 : Int32))) ⟨trivial, (zs_w zlI_0 (by decide))⟩) (fun t_3 pt_3 => ?_)
  obtain ⟨ret, er, hr⟩ := zc_307 h_σ h_x1
  refine ⟨ret, er, ?_⟩
  exact hr
-- BX9_lowest_44
theorem zc_309 {σ0 : sn_S} {σ : sn_S} (h_σ : zs_M σ0 σ) {x1 : Int32} (h_x1 : zs_in x1.toInt 0 29) {x2 : Int32} (h_x2 : zs_in x2.toInt 1 29) {t0 : Int32} (h_t0 : zs_in t0.toInt 0 29) {c : Int} (hc : x2.toInt = c + 0) : zs_ok (BX9_lowest_44 σ x1 x2 t0) (fun r => zs_sum (fun v => ((zs_in (v.1).toInt 0 29 ∧ zs_in (v.2).toInt 2 30)) ∧ v.2.toInt = c + 1) (fun v => False) r) := by
  unfold BX9_lowest_44
  refine zs_lt (Q := fun z => zs_in z.toInt 2 30 ∧ z.toInt = c + 1) ⟨(zs_addI 2 30 h_x2 zlI_1 (by decide)), (zs_syI 1 hc h_x2 zlI_1 (by decide) (by decide))⟩ (fun y_1 hy_1 => ?_)
  exact zs_some (zs_inl ⟨⟨h_t0, hy_1.1⟩, hy_1.2⟩)
-- BX9_lowest_44
theorem zc_310 {σ0 : sn_S} {σ : sn_S} (h_σ : zs_M σ0 σ) {x1 : Int32} (h_x1 : zs_in x1.toInt 0 29) {x2 : Int32} (h_x2 : zs_in x2.toInt 1 29) {t0 : Int32} (h_t0 : zs_in t0.toInt 1 29) {c : Int} (hc : x2.toInt = c + 0) : zs_ok (BX9_lowest_44 σ x1 x2 t0) (fun r => zs_sum (fun v => ((zs_in (v.1).toInt 1 29 ∧ zs_in (v.2).toInt 2 30)) ∧ v.2.toInt = c + 1) (fun v => False) r) := by
  unfold BX9_lowest_44
  refine zs_lt (Q := fun z => zs_in z.toInt 2 30 ∧ z.toInt = c + 1) ⟨(zs_addI 2 30 h_x2 zlI_1 (by decide)), (zs_syI 1 hc h_x2 zlI_1 (by decide) (by decide))⟩ (fun y_1 hy_1 => ?_)
  exact zs_some (zs_inl ⟨⟨h_t0, hy_1.1⟩, hy_1.2⟩)
-- BX9_lowest_18
theorem zc_311 {σ0 : sn_S} {σ : sn_S} (h_σ : zs_M σ0 σ) {x1 : Int32} (h_x1 : zs_in x1.toInt 0 29) {x2 : Int32} (h_x2 : zs_in x2.toInt 1 30) {c : Int} (hc : x2.toInt = c + 0) : zs_ok (BX9_lowest_18 σ x1 x2) (fun r => zs_sum (fun v => ((zs_in (v.1).toInt 0 29 ∧ zs_in (v.2).toInt 2 30)) ∧ v.2.toInt = c + 1) (fun v => zs_in (v).toInt 0 29) r) := by
  unfold BX9_lowest_18
  refine zs_bd_ (zc_21 h_σ) (fun t_1 pt_1 => ?_)
  refine zs_ite (fun c1 => ?_) (fun c1 => ?_)
  · skip
    have r2 := (zs_I_le c1)
    exact zs_some (zs_inr (h_x1))
  · skip
    have r3 := (zs_I_len c1)
    have g4 : zs_in (x2).toInt 1 29 := (zs_ltl 1 29 r3 h_x2 pt_1 (by decide))
    have g5 : zs_in (t_1).toInt 2 30 := (zs_ltr 2 30 r3 h_x2 pt_1 (by decide))
    refine zs_bd_ (zc_304 h_σ g4) (fun t_4 pt_4 => ?_)
    refine zs_bd_ (zc_308 h_σ h_x1) (fun t_6 pt_6 => ?_)
    refine zs_ite (fun c6 => ?_) (fun c6 => ?_)
    · skip
      have r7 := (zs_I_le c6)
      obtain ⟨ret, er, hr⟩ := zc_309 h_σ h_x1 g4 h_x1 hc
      refine ⟨ret, er, ?_⟩
      exact (zs_sumw hr (fun v w => ⟨w.1, w.2⟩) (fun v w => w.elim))
    · skip
      have r8 := (zs_I_len c6)
      have g9 : zs_in (t_4).toInt (-2147483648) 2147483646 := (zs_ltl (-2147483648) 2147483646 r8 (zs_topI _) (zs_topI _) (by decide))
      have g10 : zs_in (t_6).toInt (-2147483647) 2147483647 := (zs_ltr (-2147483647) 2147483647 r8 (zs_topI _) (zs_topI _) (by decide))
      obtain ⟨ret, er, hr⟩ := zc_310 h_σ h_x1 g4 g4 hc
      refine ⟨ret, er, ?_⟩
      exact (zs_sumw hr (fun v w => ⟨⟨(zs_w w.1.1 (by decide)), w.1.2⟩, w.2⟩) (fun v w => w.elim))
theorem zd_53 {σ0 : sn_S} {σ : sn_S} (h_σ : zs_M σ0 σ) {s0 : (Int32 × Int32)} (h0 : (zs_in (s0.1).toInt 0 29 ∧ zs_in (s0.2).toInt 1 30)) : zs_ok (sn_it (LX9_lowest_18 σ) 5000 s0) (fun t => zs_in (t).toInt 0 29) := by
  refine zs_it (I := fun s => (zs_in (s.1).toInt 0 29 ∧ zs_in (s.2).toInt 1 30)) (m := fun s => 30 - s.2.toInt) (fun s hs => ?_) (fun s hs => ?_) (by exact h0)
  · have h1 := hs.2; unfold zs_in at h1
    omega
  · obtain ⟨b, eb, hb⟩ := zc_311 h_σ hs.1 hs.2 (c := s.2.toInt) (Int.add_zero _).symm
    exact ⟨b, eb, zs_sumw hb (fun v w => ⟨⟨w.1.1, (zs_w w.1.2 (by decide))⟩, by have := w.2; omega⟩) (fun v w => w)⟩
-- BX9_lowest_51
theorem zc_312 {σ0 : sn_S} {σ : sn_S} (h_σ : zs_M σ0 σ) {x1 : Int32} (h_x1 : zs_in x1.toInt 0 29) : zs_ok (BX9_lowest_51 σ x1) (fun r => (zs_in (r.1).toInt 0 29 ∧ zs_M σ0 r.2)) := by
  unfold BX9_lowest_51
  exact zs_some ⟨h_x1, h_σ⟩
-- fX9_lowest
theorem zc_313 {σ0 : sn_S} {σ : sn_S} (h_σ : zs_M σ0 σ) : zs_ok (fX9_lowest σ) (fun r => (zs_in (r.1).toInt (-2) 29 ∧ zs_M σ0 r.2)) := by
  unfold fX9_lowest
  refine zs_bd_ (zc_92 h_σ) (fun t_1 pt_1 => ?_)
  refine zs_ite (fun c1 => ?_) (fun c1 => ?_)
  · skip
    have r2 := (zs_I_eq c1)
    have g3 : zs_in (t_1.1).toInt 0 0 := (zs_eql 0 0 r2 pt_1.1 zlI_0 (by decide))
    exact zs_some ⟨(zs_w zlI_m2 (by decide)), pt_1.2⟩
  · skip
    have r4 := (zs_I_eqn c1)
    have g5 : zs_in (t_1.1).toInt 1 1 := (zs_nel 1 1 r4 pt_1.1 zlI_0 (by decide))
    refine zs_bd_ (zc_299 pt_1.2) (fun t_4 pt_4 => ?_)
    refine zs_bd_ (zd_53 pt_4 (s0 := ((0 : Int32), (1 : Int32))) ⟨(zs_w zlI_0 (by decide)), (zs_w zlI_1 (by decide))⟩) (fun t_6 pt_6 => ?_)
    obtain ⟨ret, er, hr⟩ := zc_312 pt_4 pt_6
    refine ⟨ret, er, ?_⟩
    exact ⟨(zs_w hr.1 (by decide)), hr.2⟩
-- fX8_firstMinutes
theorem zc_314 {x0 : Int32} (h_x0 : zs_in x0.toInt 0 0) : zs_ok (fX8_firstMinutes x0) (fun r => zs_in (r).toInt 0 0) := by
  unfold fX8_firstMinutes
  obtain rfl : x0 = (0 : Int32) := zs_eqv h_x0 (by decide)
  exact zs_some (zs_subI 0 0 (zs_cases h_x0 (fun z => zs_in ((1 : Int32) <<< (z &&& 31)).toInt 1 1) (by decide +kernel)) zlI_1 (by decide))
-- BX0_live_2
theorem zc_315 {σ0 : sn_S} {σ : sn_S} (h_σ : zs_C σ0 σ) {x1 : Int32} (h_x1 : zs_in x1.toInt 0 0) {x2 : Int32} (h_x2 : zs_in x2.toInt 0 30) {x3 : Int32} (h_x3 : zs_in x3.toInt 0 6) {c : Int} (hc : x3.toInt = c + 0) : zs_ok (BX0_live_2 σ 38 x1 x2 x3) (fun r => zs_sum (fun v => ((zs_C σ0 v.1 ∧ zs_in (v.2).toInt 1 6)) ∧ v.2.toInt = c + 1) (fun v => zs_C σ0 v) r) := by
  unfold BX0_live_2
  obtain rfl : x1 = (0 : Int32) := zs_eqv h_x1 (by decide)
  refine zs_ite (fun c1 => ?_) (fun c1 => ?_)
  · skip
    have r2 := (zs_I_le c1)
    exact zs_some (zs_inr (h_σ))
  · skip
    have r3 := (zs_I_len c1)
    have g4 : zs_in (x3).toInt 0 5 := (zs_ltl 0 5 r3 h_x3 (zs_rdk (q := 38) (k := 1) (z := (0, 6)) h_σ.1 rfl) (by decide))
    have g5 : zs_in ((sn_I σ 38 1)).toInt 1 6 := (zs_ltr 1 6 r3 h_x3 (zs_rdk (q := 38) (k := 1) (z := (0, 6)) h_σ.1 rfl) (by decide))
    refine zs_gd (zs_gin g4 (by decide)) ?_
    refine zs_bd_ (zc_314 h_x1) (fun t_3 pt_3 => ?_)
    refine zs_gd (zs_gin g4 (by decide)) ?_
    refine zs_lt (Q := fun z => zs_C σ0 z) (zs_wru (z := (0, 1073741823)) h_σ (fun _ => rfl) (zs_and pt_3 (by decide)) (by decide) (fun _ => rfl)) (fun σ_6 hσ_6 => ?_)
    refine zs_lt (Q := fun z => zs_in z.toInt 1 6 ∧ z.toInt = c + 1) ⟨(zs_addI 1 6 g4 zlI_1 (by decide)), (zs_syI 1 hc g4 zlI_1 (by decide) (by decide))⟩ (fun y_8 hy_8 => ?_)
    exact zs_some (zs_inl ⟨⟨hσ_6, hy_8.1⟩, hy_8.2⟩)
theorem zd_54 {σ0 : sn_S} {x1 : Int32} (h_x1 : zs_in x1.toInt 0 0) {x2 : Int32} (h_x2 : zs_in x2.toInt 0 30) {s0 : (sn_S × Int32)} (h0 : (zs_C σ0 s0.1 ∧ zs_in (s0.2).toInt 0 6)) : zs_ok (sn_it (LX0_live_2 38 x1 x2) 5000 s0) (fun t => zs_C σ0 t) := by
  refine zs_it (I := fun s => (zs_C σ0 s.1 ∧ zs_in (s.2).toInt 0 6)) (m := fun s => 6 - s.2.toInt) (fun s hs => ?_) (fun s hs => ?_) (by exact h0)
  · have h1 := hs.2; unfold zs_in at h1
    omega
  · obtain ⟨b, eb, hb⟩ := zc_315 hs.1 h_x1 h_x2 hs.2 (c := s.2.toInt) (Int.add_zero _).symm
    exact ⟨b, eb, zs_sumw hb (fun v w => ⟨⟨w.1.1, (zs_w w.1.2 (by decide))⟩, by have := w.2; omega⟩) (fun v w => w)⟩
-- BX0_tickleByNets_7
theorem zc_316 {σ0 : sn_S} {σ : sn_S} (h_σ : zs_C σ0 σ) {x1 : Int32} (h_x1 : zs_in x1.toInt 0 29) {x2 : Int32} (h_x2 : zs_in x2.toInt 0 174) {x3 : Int32} (h_x3 : zs_in x3.toInt 0 6) (hl_x1 : x2.toInt = 6 * x1.toInt) {c : Int} (hc : x3.toInt = c + 0) : zs_ok (BX0_tickleByNets_7 σ 38 x1 x2 x3) (fun r => zs_sum (fun v => ((zs_C σ0 v.1 ∧ zs_in (v.2).toInt 1 6)) ∧ v.2.toInt = c + 1) (fun v => zs_C σ0 v) r) := by
  unfold BX0_tickleByNets_7
  refine zs_ite (fun c1 => ?_) (fun c1 => ?_)
  · skip
    have r2 := (zs_I_le c1)
    exact zs_some (zs_inr (h_σ))
  · skip
    have r3 := (zs_I_len c1)
    have g4 : zs_in (x3).toInt 0 5 := (zs_ltl 0 5 r3 h_x3 (zs_rdk (q := 38) (k := 1) (z := (0, 6)) h_σ.1 rfl) (by decide))
    have g5 : zs_in ((sn_I σ 38 1)).toInt 1 6 := (zs_ltr 1 6 r3 h_x3 (zs_rdk (q := 38) (k := 1) (z := (0, 6)) h_σ.1 rfl) (by decide))
    refine zs_gd (zs_gin (zs_addI 0 179 h_x2 g4 (by decide)) (by decide)) ?_
    refine zs_lt (Q := fun z => zs_C σ0 z) (zs_wrt h_σ (fun _ => rfl) (fun _ => rfl)) (fun σ_3 hσ_3 => ?_)
    refine zs_lt (Q := fun z => zs_in z.toInt 1 6 ∧ z.toInt = c + 1) ⟨(zs_addI 1 6 g4 zlI_1 (by decide)), (zs_syI 1 hc g4 zlI_1 (by decide) (by decide))⟩ (fun y_5 hy_5 => ?_)
    exact zs_some (zs_inl ⟨⟨hσ_3, hy_5.1⟩, hy_5.2⟩)
