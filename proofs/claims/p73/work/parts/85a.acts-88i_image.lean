section
-- fX9_in
theorem zA_1 {x0 : Int64} (h_x0 : zs_in x0.toInt (-2147483648) 2147483647) {x2 : Int64} (h_x2 : zs_in x2.toInt 0 0) {x4 : Int64} (h_x4 : zs_in x4.toInt (-1) 5) : zs_ok (fX9_in x0 x2 x4) (fun r => (zs_in (r).toInt 0 1) ∧ ((r).toInt = 0 ∨ (zs_in (x0).toInt 0 5 ∧ zs_in (x4).toInt 0 5))) := by
  unfold fX9_in
  refine zs_ite (fun c1 => ?_) (fun c1 => ?_)
  · skip
    have r2 := (zs_lg_lt c1)
    have g3 : zs_in (x0).toInt (-2147483648) (-1) := (zs_ltl (-2147483648) (-1) r2 h_x0 h_x2 (by decide))
    refine zs_gd (zs_b01 zlI_0 (by decide)) ?_
    exact zs_some ⟨(zs_w zlI_0 (by decide)), Or.inl (zs_ptr zlI_0)⟩
  · skip
    have r4 := (zs_lg_ltn c1)
    have g5 : zs_in (x0).toInt 0 2147483647 := (zs_ler 0 2147483647 r4 h_x2 h_x0 (by decide))
    refine zs_ite (fun c6 => ?_) (fun c6 => ?_)
    · skip
      have r7 := (zs_lg_ltf c6)
      refine zs_gd (zs_b01 zlI_0 (by decide)) ?_
      exact zs_some ⟨(zs_w zlI_0 (by decide)), Or.inl (zs_ptr zlI_0)⟩
    · skip
      have r8 := (zs_lg_ltfn c6)
      have g9 : zs_in (x0).toInt 0 5 := (zs_lel 0 5 r8 g5 h_x4 (by decide))
      have g10 : zs_in (x4).toInt 0 5 := (zs_ler 0 5 r8 g5 h_x4 (by decide))
      refine zs_gd (zs_b01 zlI_1 (by decide)) ?_
      exact zs_some ⟨(zs_w zlI_1 (by decide)), Or.inr ⟨g9, g10⟩⟩
-- fX9_isPerson
theorem zA_2 {σ0 : sn_S} {σ : sn_S} (h_σ : zs_M0 σ0 σ) {x1 : Int64} (h_x1 : zs_in x1.toInt (-2147483648) 2147483647) : zs_ok (fX9_isPerson σ x1) (fun r => (zs_in (r).toInt 0 1) ∧ ((r).toInt = 0 ∨ (zs_in (x1).toInt 0 5))) := by
  unfold fX9_isPerson
  refine zs_gd (zs_gin zlI_5 (by decide)) ?_
  refine zs_bd_ (zA_1 h_x1 zlL_0 (zs_64 (zs_subI (-1) 5 (zs_rdk (q := 1) (k := (5 : Int32).toNatClampNeg) (z := (0, 6)) h_σ.1 rfl) zlI_1 (by decide)))) (fun t_2 pt_2 => ?_)
  refine zs_gd (zs_b01 pt_2.1 (by decide)) ?_
  rcases pt_2.2 with z0 | z0
  · skip
    have g1 : zs_in (t_2).toInt 0 0 := (zs_pt z0)
    exact zs_some ⟨(zs_w g1 (by decide)), Or.inl (zs_ptr g1)⟩
  · skip
    have q2 := z0
    have g3 : zs_in (x1).toInt 0 5 := q2.1
    have g4 : zs_in (((sn_I σ 1 (5 : Int32).toNatClampNeg) - (1 : Int32)).toInt64).toInt 0 5 := q2.2
    have g5 : zs_in (((sn_I σ 1 (5 : Int32).toNatClampNeg) - (1 : Int32))).toInt 0 5 := (zs_64r g4)
    have g6 : zs_in ((sn_I σ 1 (5 : Int32).toNatClampNeg)).toInt 1 6 := (zs_sublI 1 6 (zs_rdk (q := 1) (k := (5 : Int32).toNatClampNeg) (z := (0, 6)) h_σ.1 rfl) zlI_1 g5 (by decide))
    exact zs_some ⟨pt_2.1, Or.inr g3⟩
-- fX9_minutes
theorem zA_3 {σ0 : sn_S} {σ : sn_S} (h_σ : zs_M0 σ0 σ) : zs_ok (fX9_minutes σ) (fun r => zs_in (r).toInt 0 30) := by
  unfold fX9_minutes
  refine zs_gd (zs_gin zlI_0 (by decide)) ?_
  exact zs_some (zs_rdk (q := 1) (k := (0 : Int32).toNatClampNeg) (z := (0, 30)) h_σ.1 rfl)
-- BX9_asItIs_42
theorem zA_4 {σ0 : sn_S} {σ : sn_S} (h_σ : zs_M0 σ0 σ) {x1 : Int32} (h_x1 : zs_in x1.toInt 0 30) {c : Int} (hc : x1.toInt = c + 0) : zs_ok (BX9_asItIs_42 σ x1) (fun r => zs_sum (fun v => ((zs_M0 σ0 v.1 ∧ zs_in (v.2).toInt 1 30)) ∧ v.2.toInt = c + 1) (fun v => zs_M0 σ0 v) r) := by
  unfold BX9_asItIs_42
  refine zs_ite (fun c1 => ?_) (fun c1 => ?_)
  · skip
    have r2 := (zs_I_le c1)
    have g3 : zs_in (x1).toInt 30 30 := (zs_ler 30 30 r2 zlI_30 h_x1 (by decide))
    exact zs_some (zs_inr (h_σ))
  · skip
    have r4 := (zs_I_len c1)
    have g5 : zs_in (x1).toInt 0 29 := (zs_ltl 0 29 r4 h_x1 zlI_30 (by decide))
    refine zs_gd (zs_gin zlI_1 (by decide)) ?_
    refine zs_gd (zs_gin g5 (by decide)) ?_
    refine zs_lt (Q := fun z => zs_M0 σ0 z) (zs_wrt h_σ (fun _ => rfl) (fun _ => rfl)) (fun σ_4 hσ_4 => ?_)
    refine zs_lt (Q := fun z => zs_in z.toInt 1 30 ∧ z.toInt = c + 1) ⟨(zs_addI 1 30 g5 zlI_1 (by decide)), (zs_syI 1 hc g5 zlI_1 (by decide) (by decide))⟩ (fun y_6 hy_6 => ?_)
    exact zs_some (zs_inl ⟨⟨hσ_4, hy_6.1⟩, hy_6.2⟩)
theorem zB_1 {σ0 : sn_S}  {s0 : (sn_S × Int32)} (h0 : (zs_M0 σ0 s0.1 ∧ zs_in (s0.2).toInt 0 30)) : zs_ok (sn_it (LX9_asItIs_42) 5000 s0) (fun t => zs_M0 σ0 t) := by
  refine zs_it (I := fun s => (zs_M0 σ0 s.1 ∧ zs_in (s.2).toInt 0 30)) (m := fun s => 30 - s.2.toInt) (fun s hs => ?_) (fun s hs => ?_) (by exact h0)
  · have h1 := hs.2; unfold zs_in at h1
    omega
  · obtain ⟨b, eb, hb⟩ := zA_4 hs.1 hs.2 (c := s.2.toInt) (Int.add_zero _).symm
    exact ⟨b, eb, zs_sumw hb (fun v w => ⟨⟨w.1.1, (zs_w w.1.2 (by decide))⟩, by have := w.2; omega⟩) (fun v w => w)⟩
-- BX9_asItIs_68
theorem zA_5 {σ0 : sn_S} {σ : sn_S} (h_σ : zs_M0 σ0 σ) {x1 : Int32} (h_x1 : zs_in x1.toInt 0 5) {c : Int} (hc : x1.toInt = c + 0) : zs_ok (BX9_asItIs_68 σ x1) (fun r => zs_sum (fun v => ((zs_M0 σ0 v.1 ∧ zs_in (v.2).toInt 1 5)) ∧ v.2.toInt = c + 1) (fun v => zs_M0 σ0 v) r) := by
  unfold BX9_asItIs_68
  refine zs_gd (zs_gin zlI_6 (by decide)) ?_
  refine zs_ite (fun c1 => ?_) (fun c1 => ?_)
  · skip
    have r2 := (zs_I_le c1)
    exact zs_some (zs_inr (h_σ))
  · skip
    have r3 := (zs_I_len c1)
    have g4 : zs_in (x1).toInt 0 4 := (zs_ltl 0 4 r3 h_x1 (zs_rdk (q := 1) (k := (6 : Int32).toNatClampNeg) (z := (0, 5)) h_σ.1 rfl) (by decide))
    have g5 : zs_in ((sn_I σ 1 (6 : Int32).toNatClampNeg)).toInt 1 5 := (zs_ltr 1 5 r3 h_x1 (zs_rdk (q := 1) (k := (6 : Int32).toNatClampNeg) (z := (0, 5)) h_σ.1 rfl) (by decide))
    refine zs_gd (zs_gin (zs_addI 24 32 (zs_addI 23 31 zlI_23 (zs_mulI 0 8 zlI_2 g4 (by decide)) (by decide)) zlI_1 (by decide)) (by decide)) ?_
    refine zs_lt (Q := fun z => zs_in z.toInt 0 29) (zs_rdb (q := 1) (lo := 0) (hi := 29) h_σ.1 (zs_cases g4 (fun z => zs_bd (zs_tM 1 (((23 : Int32) + ((2 : Int32) * z)) + (1 : Int32)).toNatClampNeg) 0 29) (by decide +kernel))) (fun y_4 hy_4 => ?_)
    refine zs_gd (zs_gin hy_4 (by decide)) ?_
    refine zs_gd (zs_gin (zs_addI 23 31 zlI_23 (zs_mulI 0 8 zlI_2 g4 (by decide)) (by decide)) (by decide)) ?_
    refine zs_gd (zs_gin hy_4 (by decide)) ?_
    refine zs_lt (Q := fun z => zs_M0 σ0 z) (zs_wrt h_σ (fun _ => rfl) (fun _ => rfl)) (fun σ_9 hσ_9 => ?_)
    refine zs_lt (Q := fun z => zs_M0 σ0 z) (zs_wrkt hσ_9 rfl rfl) (fun σ_11 hσ_11 => ?_)
    refine zs_lt (Q := fun z => zs_in z.toInt 1 5 ∧ z.toInt = c + 1) ⟨(zs_addI 1 5 g4 zlI_1 (by decide)), (zs_syI 1 hc g4 zlI_1 (by decide) (by decide))⟩ (fun y_13 hy_13 => ?_)
    exact zs_some (zs_inl ⟨⟨hσ_11, hy_13.1⟩, hy_13.2⟩)
theorem zB_2 {σ0 : sn_S}  {s0 : (sn_S × Int32)} (h0 : (zs_M0 σ0 s0.1 ∧ zs_in (s0.2).toInt 0 5)) : zs_ok (sn_it (LX9_asItIs_68) 5000 s0) (fun t => zs_M0 σ0 t) := by
  refine zs_it (I := fun s => (zs_M0 σ0 s.1 ∧ zs_in (s.2).toInt 0 5)) (m := fun s => 5 - s.2.toInt) (fun s hs => ?_) (fun s hs => ?_) (by exact h0)
  · have h1 := hs.2; unfold zs_in at h1
    omega
  · obtain ⟨b, eb, hb⟩ := zA_5 hs.1 hs.2 (c := s.2.toInt) (Int.add_zero _).symm
    exact ⟨b, eb, zs_sumw hb (fun v w => ⟨⟨w.1.1, (zs_w w.1.2 (by decide))⟩, by have := w.2; omega⟩) (fun v w => w)⟩
-- BX9_asItIs_133
theorem zA_6 {σ0 : sn_S} {σ : sn_S} (h_σ : zs_M0 σ0 σ) {x1 : Int32} (h_x1 : zs_in x1.toInt 0 6) {c : Int} (hc : x1.toInt = c + 0) : zs_ok (BX9_asItIs_133 σ x1) (fun r => zs_sum (fun v => ((zs_M0 σ0 v.1 ∧ zs_in (v.2).toInt 1 6)) ∧ v.2.toInt = c + 1) (fun v => zs_M0 σ0 v) r) := by
  unfold BX9_asItIs_133
  refine zs_ite (fun c1 => ?_) (fun c1 => ?_)
  · skip
    have r2 := (zs_I_le c1)
    have g3 : zs_in (x1).toInt 6 6 := (zs_ler 6 6 r2 zlI_6 h_x1 (by decide))
    exact zs_some (zs_inr (h_σ))
  · skip
    have r4 := (zs_I_len c1)
    have g5 : zs_in (x1).toInt 0 5 := (zs_ltl 0 5 r4 h_x1 zlI_6 (by decide))
    refine zs_gd (zs_gin g5 (by decide)) ?_
    refine zs_lt (Q := fun z => zs_M0 σ0 z) (zs_wrt h_σ (fun _ => rfl) (fun _ => rfl)) (fun σ_3 hσ_3 => ?_)
    refine zs_gd (zs_gin g5 (by decide)) ?_
    refine zs_lt (Q := fun z => zs_M0 σ0 z) (zs_wrt hσ_3 (fun _ => rfl) (fun _ => rfl)) (fun σ_6 hσ_6 => ?_)
    refine zs_lt (Q := fun z => zs_in z.toInt 1 6 ∧ z.toInt = c + 1) ⟨(zs_addI 1 6 g5 zlI_1 (by decide)), (zs_syI 1 hc g5 zlI_1 (by decide) (by decide))⟩ (fun y_8 hy_8 => ?_)
    exact zs_some (zs_inl ⟨⟨hσ_6, hy_8.1⟩, hy_8.2⟩)
theorem zB_3 {σ0 : sn_S}  {s0 : (sn_S × Int32)} (h0 : (zs_M0 σ0 s0.1 ∧ zs_in (s0.2).toInt 0 6)) : zs_ok (sn_it (LX9_asItIs_133) 5000 s0) (fun t => zs_M0 σ0 t) := by
  refine zs_it (I := fun s => (zs_M0 σ0 s.1 ∧ zs_in (s.2).toInt 0 6)) (m := fun s => 6 - s.2.toInt) (fun s hs => ?_) (fun s hs => ?_) (by exact h0)
  · have h1 := hs.2; unfold zs_in at h1
    omega
  · obtain ⟨b, eb, hb⟩ := zA_6 hs.1 hs.2 (c := s.2.toInt) (Int.add_zero _).symm
    exact ⟨b, eb, zs_sumw hb (fun v w => ⟨⟨w.1.1, (zs_w w.1.2 (by decide))⟩, by have := w.2; omega⟩) (fun v w => w)⟩
-- BX9_asItIs_232
theorem zA_7 {σ0 : sn_S} {σ : sn_S} (h_σ : zs_M0 σ0 σ) {x1 : Int32} (h_x1 : zs_in x1.toInt 0 39) {c : Int} (hc : x1.toInt = c + 0) : zs_ok (BX9_asItIs_232 σ x1) (fun r => zs_sum (fun v => ((zs_M0 σ0 v.1 ∧ zs_in (v.2).toInt 1 40)) ∧ v.2.toInt = c + 1) (fun v => False) r) := by
  unfold BX9_asItIs_232
  refine zs_lt (Q := fun z => zs_in z.toInt 1 40 ∧ z.toInt = c + 1) ⟨(zs_addI 1 40 h_x1 zlI_1 (by decide)), (zs_syI 1 hc h_x1 zlI_1 (by decide) (by decide))⟩ (fun y_1 hy_1 => ?_)
  exact zs_some (zs_inl ⟨⟨h_σ, hy_1.1⟩, hy_1.2⟩)
-- BX9_asItIs_161
theorem zA_8 {σ0 : sn_S} {σ : sn_S} (h_σ : zs_M0 σ0 σ) {x1 : Int32} (h_x1 : zs_in x1.toInt 0 40) {c : Int} (hc : x1.toInt = c + 0) : zs_ok (BX9_asItIs_161 σ x1) (fun r => zs_sum (fun v => ((zs_M0 σ0 v.1 ∧ zs_in (v.2).toInt 1 40)) ∧ v.2.toInt = c + 1) (fun v => zs_M0 σ0 v) r) := by
  unfold BX9_asItIs_161
  refine zs_gd (zs_gin zlI_9 (by decide)) ?_
  refine zs_ite (fun c1 => ?_) (fun c1 => ?_)
  · skip
    have r2 := (zs_I_le c1)
    exact zs_some (zs_inr (h_σ))
  · skip
    have r3 := (zs_I_len c1)
    have g4 : zs_in (x1).toInt 0 39 := (zs_ltl 0 39 r3 h_x1 (zs_rdk (q := 1) (k := (9 : Int32).toNatClampNeg) (z := (0, 40)) h_σ.1 rfl) (by decide))
    have g5 : zs_in ((sn_I σ 1 (9 : Int32).toNatClampNeg)).toInt 1 40 := (zs_ltr 1 40 r3 h_x1 (zs_rdk (q := 1) (k := (9 : Int32).toNatClampNeg) (z := (0, 40)) h_σ.1 rfl) (by decide))
    refine zs_gd (zs_gin (zs_addI 79 118 zlI_79 g4 (by decide)) (by decide)) ?_
    refine zs_lt (Q := fun z => zs_in z.toInt 0 1199) (zs_rdb (q := 1) (lo := 0) (hi := 1199) h_σ.1 (zs_cases g4 (fun z => zs_bd (zs_tM 1 ((79 : Int32) + z).toNatClampNeg) 0 1199) (by decide +kernel))) (fun y_4 hy_4 => ?_)
    refine zs_lt (Q := fun z => zs_in z.toInt 0 5) (zs_divI 0 5 hy_4 zlI_200 (by decide)) (fun y_6 hy_6 => ?_)
    refine zs_lt (Q := fun z => zs_in z.toInt 0 99) (zs_mod 99 (zs_divI 0 599 hy_4 zlI_2 (by decide)) zlI_100 (by decide)) (fun y_8 hy_8 => ?_)
    refine zs_ite (fun c6 => ?_) (fun c6 => ?_)
    · skip
      have r7 := (zs_I_eq c6)
      have g8 : zs_in ((y_4 - ((y_4 / (2 : Int32)) * (2 : Int32)))).toInt 1 1 := (zs_eql 1 1 r7 (zs_mod 1 hy_4 zlI_2 (by decide)) zlI_1 (by decide))
      have g9 : zs_in (y_4).toInt 1 1199 := (zs_sublI 1 1199 hy_4 (zs_mulI 0 1198 (zs_divI 0 599 hy_4 zlI_2 (by decide)) zlI_2 (by decide)) g8 (by decide))
      refine zs_gd (zs_gin hy_6 (by decide)) ?_
      refine zs_gd (zs_gin hy_6 (by decide)) ?_
      refine zs_lt (Q := fun z => zs_M0 σ0 z) (zs_wrt h_σ (fun _ => rfl) (fun _ => rfl)) (fun σ_17 hσ_17 => ?_)
      obtain ⟨ret, er, hr⟩ := zA_7 hσ_17 g4 hc
      refine ⟨ret, er, ?_⟩
      exact (zs_sumw hr (fun v w => ⟨w.1, w.2⟩) (fun v w => w.elim))
    · skip
      have r10 := (zs_I_eqn c6)
      have g11 : zs_in ((y_4 - ((y_4 / (2 : Int32)) * (2 : Int32)))).toInt 0 0 := (zs_neh 0 0 r10 (zs_mod 1 hy_4 zlI_2 (by decide)) zlI_1 (by decide))
      have g12 : zs_in (y_4).toInt 0 1198 := (zs_sublI 0 1198 hy_4 (zs_mulI 0 1198 (zs_divI 0 599 hy_4 zlI_2 (by decide)) zlI_2 (by decide)) g11 (by decide))
      refine zs_gd (zs_gin hy_6 (by decide)) ?_
      refine zs_gd (zs_gin hy_6 (by decide)) ?_
      refine zs_lt (Q := fun z => zs_M0 σ0 z) (zs_wrt h_σ (fun _ => rfl) (fun _ => rfl)) (fun σ_13 hσ_13 => ?_)
      obtain ⟨ret, er, hr⟩ := zA_7 hσ_13 g4 hc
      refine ⟨ret, er, ?_⟩
      exact (zs_sumw hr (fun v w => ⟨w.1, w.2⟩) (fun v w => w.elim))
theorem zB_4 {σ0 : sn_S}  {s0 : (sn_S × Int32)} (h0 : (zs_M0 σ0 s0.1 ∧ zs_in (s0.2).toInt 0 40)) : zs_ok (sn_it (LX9_asItIs_161) 5000 s0) (fun t => zs_M0 σ0 t) := by
  refine zs_it (I := fun s => (zs_M0 σ0 s.1 ∧ zs_in (s.2).toInt 0 40)) (m := fun s => 40 - s.2.toInt) (fun s hs => ?_) (fun s hs => ?_) (by exact h0)
  · have h1 := hs.2; unfold zs_in at h1
    omega
  · obtain ⟨b, eb, hb⟩ := zA_8 hs.1 hs.2 (c := s.2.toInt) (Int.add_zero _).symm
    exact ⟨b, eb, zs_sumw hb (fun v w => ⟨⟨w.1.1, (zs_w w.1.2 (by decide))⟩, by have := w.2; omega⟩) (fun v w => w)⟩
-- BX9_asItIs_238
theorem zA_9 {σ0 : sn_S} {σ : sn_S} (h_σ : zs_M0 σ0 σ) : zs_ok (BX9_asItIs_238 σ) (fun r => zs_M0 σ0 r) := by
  unfold BX9_asItIs_238
  exact zs_some h_σ
-- BX9_asItIs_159
theorem zA_10 {σ0 : sn_S} {σ : sn_S} (h_σ : zs_M0 σ0 σ) : zs_ok (BX9_asItIs_159 σ) (fun r => zs_M0 σ0 r) := by
  unfold BX9_asItIs_159
  refine zs_bd_ (zB_4  (s0 := (σ, (0 : Int32))) ⟨h_σ, (zs_w zlI_0 (by decide))⟩) (fun t_1 pt_1 => ?_)
  obtain ⟨ret, er, hr⟩ := zA_9 pt_1
  refine ⟨ret, er, ?_⟩
  exact hr
-- BX9_asItIs_131
theorem zA_11 {σ0 : sn_S} {σ : sn_S} (h_σ : zs_M0 σ0 σ) : zs_ok (BX9_asItIs_131 σ) (fun r => zs_M0 σ0 r) := by
  unfold BX9_asItIs_131
  refine zs_bd_ (zB_3  (s0 := (σ, (0 : Int32))) ⟨h_σ, (zs_w zlI_0 (by decide))⟩) (fun t_1 pt_1 => ?_)
  obtain ⟨ret, er, hr⟩ := zA_10 pt_1
  refine ⟨ret, er, ?_⟩
  exact hr
-- BX9_asItIs_66
theorem zA_12 {σ0 : sn_S} {σ : sn_S} (h_σ : zs_M0 σ0 σ) : zs_ok (BX9_asItIs_66 σ) (fun r => zs_M0 σ0 r) := by
  unfold BX9_asItIs_66
  refine zs_bd_ (zB_2  (s0 := (σ, (0 : Int32))) ⟨h_σ, (zs_w zlI_0 (by decide))⟩) (fun t_1 pt_1 => ?_)
  obtain ⟨ret, er, hr⟩ := zA_11 pt_1
  refine ⟨ret, er, ?_⟩
  exact hr
-- fX9_asItIs
theorem zA_13 {σ0 : sn_S} {σ : sn_S} (h_σ : zs_M0 σ0 σ) : zs_ok (fX9_asItIs σ) (fun r => zs_M0 σ0 r) := by
  unfold fX9_asItIs
  refine zs_lt (Q := fun z => zs_M0 σ0 z) (zs_wrkt h_σ rfl rfl) (fun σ_1 hσ_1 => ?_)
  refine zs_lt (Q := fun z => zs_M0 σ0 z) (zs_wrkt hσ_1 rfl rfl) (fun σ_3 hσ_3 => ?_)
  refine zs_gd (zs_gin zlI_2 (by decide)) ?_
  refine zs_lt (Q := fun z => zs_M0 σ0 z) (zs_wrkt hσ_3 rfl rfl) (fun σ_6 hσ_6 => ?_)
  refine zs_gd (zs_gin zlI_3 (by decide)) ?_
  refine zs_lt (Q := fun z => zs_M0 σ0 z) (zs_wrk (z := (0, 1000)) hσ_6 rfl (zs_rdk (q := 1) (k := (3 : Int32).toNatClampNeg) (z := (0, 999)) hσ_6.1 rfl) (by decide) rfl) (fun σ_9 hσ_9 => ?_)
  refine zs_bd_ (zA_3 hσ_9) (fun t_11 pt_11 => ?_)
  refine zs_lt (Q := fun z => zs_M0 σ0 z) (zs_wrk (z := ((-1), 29)) hσ_9 rfl (zs_subI (-1) 29 pt_11 zlI_1 (by decide)) (by decide) rfl) (fun σ_13 hσ_13 => ?_)
  refine zs_bd_ (zB_1  (s0 := (σ_13, (0 : Int32))) ⟨hσ_13, (zs_w zlI_0 (by decide))⟩) (fun t_15 pt_15 => ?_)
  obtain ⟨ret, er, hr⟩ := zA_12 pt_15
  refine ⟨ret, er, ?_⟩
  exact hr
-- BX9_goAll_2
theorem zA_14 {σ0 : sn_S} {σ : sn_S} (h_σ : zs_M0 σ0 σ) {x1 : Int32} (h_x1 : zs_in x1.toInt 0 6) {c : Int} (hc : x1.toInt = c + 0) : zs_ok (BX9_goAll_2 σ x1) (fun r => zs_sum (fun v => ((zs_M0 σ0 v.1 ∧ zs_in (v.2).toInt 1 6)) ∧ v.2.toInt = c + 1) (fun v => zs_M0 σ0 v) r) := by
  unfold BX9_goAll_2
  refine zs_ite (fun c1 => ?_) (fun c1 => ?_)
  · skip
    have r2 := (zs_I_le c1)
    have g3 : zs_in (x1).toInt 6 6 := (zs_ler 6 6 r2 zlI_6 h_x1 (by decide))
    exact zs_some (zs_inr (h_σ))
  · skip
    have r4 := (zs_I_len c1)
    have g5 : zs_in (x1).toInt 0 5 := (zs_ltl 0 5 r4 h_x1 zlI_6 (by decide))
    refine zs_gd (zs_gin g5 (by decide)) ?_
    refine zs_lt (Q := fun z => zs_M0 σ0 z) (zs_wru (z := (0, 1073741823)) h_σ (fun _ => rfl) zlI_0 (by decide) (fun _ => rfl)) (fun σ_3 hσ_3 => ?_)
    refine zs_gd (zs_gin g5 (by decide)) ?_
    refine zs_lt (Q := fun z => zs_M0 σ0 z) (zs_wrt hσ_3 (fun _ => rfl) (fun _ => rfl)) (fun σ_6 hσ_6 => ?_)
    refine zs_lt (Q := fun z => zs_in z.toInt 1 6 ∧ z.toInt = c + 1) ⟨(zs_addI 1 6 g5 zlI_1 (by decide)), (zs_syI 1 hc g5 zlI_1 (by decide) (by decide))⟩ (fun y_8 hy_8 => ?_)
    exact zs_some (zs_inl ⟨⟨hσ_6, hy_8.1⟩, hy_8.2⟩)
theorem zB_5 {σ0 : sn_S}  {s0 : (sn_S × Int32)} (h0 : (zs_M0 σ0 s0.1 ∧ zs_in (s0.2).toInt 0 6)) : zs_ok (sn_it (LX9_goAll_2) 5000 s0) (fun t => zs_M0 σ0 t) := by
  refine zs_it (I := fun s => (zs_M0 σ0 s.1 ∧ zs_in (s.2).toInt 0 6)) (m := fun s => 6 - s.2.toInt) (fun s hs => ?_) (fun s hs => ?_) (by exact h0)
  · have h1 := hs.2; unfold zs_in at h1
    omega
  · obtain ⟨b, eb, hb⟩ := zA_14 hs.1 hs.2 (c := s.2.toInt) (Int.add_zero _).symm
    exact ⟨b, eb, zs_sumw hb (fun v w => ⟨⟨w.1.1, (zs_w w.1.2 (by decide))⟩, by have := w.2; omega⟩) (fun v w => w)⟩
-- BX9_netsTo_91
theorem zA_15 {σ0 : sn_S} {σ : sn_S} (h_σ : zs_M0 σ0 σ) {x1 : Int32} (h_x1 : zs_in x1.toInt 0 5) {x2 : Int32} (h_x2 : zs_in x2.toInt 0 0) {x3 : Int32} {x4 : Int32} (h_x4 : zs_in x4.toInt 0 7) {c : Int} (hc : x4.toInt = c + 0) : zs_ok (BX9_netsTo_91 σ x1 x2 x3 x4) (fun r => zs_sum (fun v => ((True ∧ zs_in (v.2).toInt 1 8)) ∧ v.2.toInt = c + 1) (fun v => False) r) := by
  unfold BX9_netsTo_91
  obtain rfl : x2 = (0 : Int32) := zs_eqv h_x2 (by decide)
  refine zs_lt (Q := fun z => zs_in z.toInt 1 8 ∧ z.toInt = c + 1) ⟨(zs_addI 1 8 h_x4 zlI_1 (by decide)), (zs_syI 1 hc h_x4 zlI_1 (by decide) (by decide))⟩ (fun y_1 hy_1 => ?_)
  exact zs_some (zs_inl ⟨⟨trivial, hy_1.1⟩, hy_1.2⟩)
-- fX9_bit
theorem zA_16 {x0 : Int32} (h_x0 : zs_in x0.toInt 0 0) {x1 : Int32} (h_x1 : zs_in x1.toInt 0 5) : zs_ok (fX9_bit x0 x1) (fun r => zs_in (r).toInt 0 1) := by
  unfold fX9_bit
  obtain rfl : x0 = (0 : Int32) := zs_eqv h_x0 (by decide)
  exact zs_some (zs_and zlI_1 (by decide))
-- BX9_netsTo_88
theorem zA_17 {σ0 : sn_S} {σ : sn_S} (h_σ : zs_M0 σ0 σ) {x1 : Int32} (h_x1 : zs_in x1.toInt 0 5) {x2 : Int32} (h_x2 : zs_in x2.toInt 0 0) {x3 : Int32} {x4 : Int32} (h_x4 : zs_in x4.toInt 0 7) {c : Int} (hc : x4.toInt = c + 0) : zs_ok (BX9_netsTo_88 σ x1 x2 x3 x4) (fun r => zs_sum (fun v => ((True ∧ zs_in (v.2).toInt 1 8)) ∧ v.2.toInt = c + 1) (fun v => False) r) := by
  unfold BX9_netsTo_88
  obtain rfl : x2 = (0 : Int32) := zs_eqv h_x2 (by decide)
  refine zs_lt (Q := fun z => True) trivial (fun y_1 hy_1 => ?_)
  obtain ⟨ret, er, hr⟩ := zA_15 h_σ h_x1 h_x2 h_x4 hc
  refine ⟨ret, er, ?_⟩
  exact (zs_sumw hr (fun v w => ⟨w.1, w.2⟩) (fun v w => w.elim))
-- BX9_netsTo_72
theorem zA_18 {σ0 : sn_S} {σ : sn_S} (h_σ : zs_M0 σ0 σ) {x1 : Int32} (h_x1 : zs_in x1.toInt 0 5) {x2 : Int32} (h_x2 : zs_in x2.toInt 0 0) {x3 : Int32} {x4 : Int32} (h_x4 : zs_in x4.toInt 0 7) {x5 : Int32} (h_x5 : zs_in x5.toInt 0 5) {x6 : Int32} (h_x6 : zs_in x6.toInt 0 5) {c : Int} (hc : x4.toInt = c + 0) : zs_ok (BX9_netsTo_72 σ x1 x2 x3 x4 x5 x6) (fun r => zs_sum (fun v => ((True ∧ zs_in (v.2).toInt 1 8)) ∧ v.2.toInt = c + 1) (fun v => False) r) := by
  unfold BX9_netsTo_72
  obtain rfl : x2 = (0 : Int32) := zs_eqv h_x2 (by decide)
  refine zs_ite (fun c1 => ?_) (fun c1 => ?_)
  · skip
    have r2 := (zs_I_eq c1)
    refine zs_bd_ (zA_16 h_x2 h_x5) (fun t_2 pt_2 => ?_)
    refine zs_ite (fun c3 => ?_) (fun c3 => ?_)
    · skip
      have r4 := (zs_I_eq c3)
      have g5 : zs_in (t_2).toInt 1 1 := (zs_eql 1 1 r4 pt_2 zlI_1 (by decide))
      obtain ⟨ret, er, hr⟩ := zA_17 h_σ h_x1 h_x2 h_x4 hc
      refine ⟨ret, er, ?_⟩
      exact (zs_sumw hr (fun v w => ⟨w.1, w.2⟩) (fun v w => w.elim))
    · skip
      have r6 := (zs_I_eqn c3)
      have g7 : zs_in (t_2).toInt 0 0 := (zs_neh 0 0 r6 pt_2 zlI_1 (by decide))
      obtain ⟨ret, er, hr⟩ := zA_15 h_σ h_x1 h_x2 h_x4 hc
      refine ⟨ret, er, ?_⟩
      exact (zs_sumw hr (fun v w => ⟨w.1, w.2⟩) (fun v w => w.elim))
  · skip
    have r8 := (zs_I_eqn c1)
    obtain ⟨ret, er, hr⟩ := zA_15 h_σ h_x1 h_x2 h_x4 hc
    refine ⟨ret, er, ?_⟩
    exact (zs_sumw hr (fun v w => ⟨w.1, w.2⟩) (fun v w => w.elim))
-- BX9_netsTo_5
theorem zA_19 {σ0 : sn_S} {σ : sn_S} (h_σ : zs_M0 σ0 σ) {x1 : Int32} (h_x1 : zs_in x1.toInt 0 5) {x2 : Int32} (h_x2 : zs_in x2.toInt 0 0) {x3 : Int32} {x4 : Int32} (h_x4 : zs_in x4.toInt 0 8) {c : Int} (hc : x4.toInt = c + 0) : zs_ok (BX9_netsTo_5 σ x1 x2 x3 x4) (fun r => zs_sum (fun v => ((True ∧ zs_in (v.2).toInt 1 8)) ∧ v.2.toInt = c + 1) (fun v => True) r) := by
  unfold BX9_netsTo_5
  obtain rfl : x2 = (0 : Int32) := zs_eqv h_x2 (by decide)
  refine zs_gd (zs_gin zlI_7 (by decide)) ?_
  refine zs_ite (fun c1 => ?_) (fun c1 => ?_)
  · skip
    have r2 := (zs_I_le c1)
    exact zs_some (zs_inr (trivial))
  · skip
    have r3 := (zs_I_len c1)
    have g4 : zs_in (x4).toInt 0 7 := (zs_ltl 0 7 r3 h_x4 (zs_rdk (q := 1) (k := (7 : Int32).toNatClampNeg) (z := (0, 8)) h_σ.1 rfl) (by decide))
    have g5 : zs_in ((sn_I σ 1 (7 : Int32).toNatClampNeg)).toInt 1 8 := (zs_ltr 1 8 r3 h_x4 (zs_rdk (q := 1) (k := (7 : Int32).toNatClampNeg) (z := (0, 8)) h_σ.1 rfl) (by decide))
    refine zs_gd (zs_gin (zs_addI 33 47 zlI_33 (zs_mulI 0 14 zlI_2 g4 (by decide)) (by decide)) (by decide)) ?_
    refine zs_lt (Q := fun z => zs_in z.toInt 0 5) (zs_rdb (q := 1) (lo := 0) (hi := 5) h_σ.1 (zs_cases g4 (fun z => zs_bd (zs_tM 1 ((33 : Int32) + ((2 : Int32) * z)).toNatClampNeg) 0 5) (by decide +kernel))) (fun y_4 hy_4 => ?_)
    refine zs_gd (zs_gin (zs_addI 34 48 (zs_addI 33 47 zlI_33 (zs_mulI 0 14 zlI_2 g4 (by decide)) (by decide)) zlI_1 (by decide)) (by decide)) ?_
    refine zs_lt (Q := fun z => zs_in z.toInt 0 5) (zs_rdb (q := 1) (lo := 0) (hi := 5) h_σ.1 (zs_cases g4 (fun z => zs_bd (zs_tM 1 (((33 : Int32) + ((2 : Int32) * z)) + (1 : Int32)).toNatClampNeg) 0 5) (by decide +kernel))) (fun y_7 hy_7 => ?_)
    refine zs_ite (fun c6 => ?_) (fun c6 => ?_)
    · skip
      have r7 := (zs_I_eq c6)
      have g8 : zs_in ((sn_I σ 0 19)).toInt 0 7 := (zs_eqr 0 7 r7 g4 (zs_topI _) (by decide))
      obtain ⟨ret, er, hr⟩ := zA_15 h_σ h_x1 h_x2 g4 hc
      refine ⟨ret, er, ?_⟩
      exact (zs_sumw hr (fun v w => ⟨w.1, w.2⟩) (fun v w => w.elim))
    · skip
      have r9 := (zs_I_eqn c6)
      refine zs_ite (fun c10 => ?_) (fun c10 => ?_)
      · skip
        have r11 := (zs_I_eq c10)
        refine zs_bd_ (zA_16 h_x2 hy_7) (fun t_11 pt_11 => ?_)
        refine zs_ite (fun c12 => ?_) (fun c12 => ?_)
        · skip
          have r13 := (zs_I_eq c12)
          have g14 : zs_in (t_11).toInt 1 1 := (zs_eql 1 1 r13 pt_11 zlI_1 (by decide))
          obtain ⟨ret, er, hr⟩ := zA_17 h_σ h_x1 h_x2 g4 hc
          refine ⟨ret, er, ?_⟩
          exact (zs_sumw hr (fun v w => ⟨w.1, w.2⟩) (fun v w => w.elim))
        · skip
          have r15 := (zs_I_eqn c12)
          have g16 : zs_in (t_11).toInt 0 0 := (zs_neh 0 0 r15 pt_11 zlI_1 (by decide))
          obtain ⟨ret, er, hr⟩ := zA_18 h_σ h_x1 h_x2 g4 hy_4 hy_7 hc
          refine ⟨ret, er, ?_⟩
          exact (zs_sumw hr (fun v w => ⟨w.1, w.2⟩) (fun v w => w.elim))
      · skip
        have r17 := (zs_I_eqn c10)
        obtain ⟨ret, er, hr⟩ := zA_18 h_σ h_x1 h_x2 g4 hy_4 hy_7 hc
        refine ⟨ret, er, ?_⟩
        exact (zs_sumw hr (fun v w => ⟨w.1, w.2⟩) (fun v w => w.elim))
theorem zB_6 {σ0 : sn_S} {σ : sn_S} (h_σ : zs_M0 σ0 σ) {x1 : Int32} (h_x1 : zs_in x1.toInt 0 5) {x2 : Int32} (h_x2 : zs_in x2.toInt 0 0) {s0 : (Int32 × Int32)} (h0 : (True ∧ zs_in (s0.2).toInt 0 8)) : zs_ok (sn_it (LX9_netsTo_5 σ x1 x2) 5000 s0) (fun t => True) := by
  refine zs_it (I := fun s => (True ∧ zs_in (s.2).toInt 0 8)) (m := fun s => 8 - s.2.toInt) (fun s hs => ?_) (fun s hs => ?_) (by exact h0)
  · have h1 := hs.2; unfold zs_in at h1
    omega
  · obtain ⟨b, eb, hb⟩ := zA_19 h_σ h_x1 h_x2 hs.2 (c := s.2.toInt) (Int.add_zero _).symm
    exact ⟨b, eb, zs_sumw hb (fun v w => ⟨⟨w.1.1, (zs_w w.1.2 (by decide))⟩, by have := w.2; omega⟩) (fun v w => w)⟩
-- BX9_netsTo_97
theorem zA_20 {σ0 : sn_S} {σ : sn_S} (h_σ : zs_M0 σ0 σ) {x3 : Int32} : zs_ok (BX9_netsTo_97 σ x3) (fun r => True) := by
  unfold BX9_netsTo_97
  exact zs_some trivial
-- fX9_netsTo
theorem zA_21 {σ0 : sn_S} {σ : sn_S} (h_σ : zs_M0 σ0 σ) {x1 : Int32} (h_x1 : zs_in x1.toInt 0 5) {x2 : Int32} (h_x2 : zs_in x2.toInt 0 0) : zs_ok (fX9_netsTo σ x1 x2) (fun r => True) := by
  unfold fX9_netsTo
  obtain rfl : x2 = (0 : Int32) := zs_eqv h_x2 (by decide)
  refine zs_bd_ (zB_6 h_σ h_x1 h_x2 (s0 := ((0 : Int32), (0 : Int32))) ⟨trivial, (zs_w zlI_0 (by decide))⟩) (fun t_1 pt_1 => ?_)
  obtain ⟨ret, er, hr⟩ := zA_20 h_σ
  refine ⟨ret, er, ?_⟩
  exact hr
-- fX9_bit
theorem zA_22 {x0 : Int32} {x1 : Int32} (h_x1 : zs_in x1.toInt 0 0) : zs_ok (fX9_bit x0 x1) (fun r => zs_in (r).toInt 0 1) := by
  unfold fX9_bit
  obtain rfl : x1 = (0 : Int32) := zs_eqv h_x1 (by decide)
  exact zs_some (zs_and zlI_1 (by decide))
-- BX9_goMinute_225
theorem zA_23 {σ0 : sn_S} {σ : sn_S} (h_σ : zs_M0 σ0 σ) {x1 : Int32} (h_x1 : zs_in x1.toInt 0 0) {x2 : Int32} (h_x2 : zs_in x2.toInt 0 0) {x3 : Int32} (h_x3 : zs_in x3.toInt 0 5) {c : Int} (hc : x3.toInt = c + 0) : zs_ok (BX9_goMinute_225 σ x1 x2 x3) (fun r => zs_sum (fun v => ((zs_M0 σ0 v.1 ∧ zs_in (v.2).toInt 1 6)) ∧ v.2.toInt = c + 1) (fun v => False) r) := by
  unfold BX9_goMinute_225
  obtain rfl : x1 = (0 : Int32) := zs_eqv h_x1 (by decide)
  obtain rfl : x2 = (0 : Int32) := zs_eqv h_x2 (by decide)
  refine zs_lt (Q := fun z => zs_in z.toInt 1 6 ∧ z.toInt = c + 1) ⟨(zs_addI 1 6 h_x3 zlI_1 (by decide)), (zs_syI 1 hc h_x3 zlI_1 (by decide) (by decide))⟩ (fun y_1 hy_1 => ?_)
  exact zs_some (zs_inl ⟨⟨h_σ, hy_1.1⟩, hy_1.2⟩)
-- BX9_goMinute_192
theorem zA_24 {σ0 : sn_S} {σ : sn_S} (h_σ : zs_M0 σ0 σ) {x1 : Int32} (h_x1 : zs_in x1.toInt 0 0) {x2 : Int32} (h_x2 : zs_in x2.toInt 0 0) {x3 : Int32} (h_x3 : zs_in x3.toInt 0 5) {x7 : Int32} (h_x7 : zs_in x7.toInt 0 0) {t1 : Int32} (h_t1 : zs_in t1.toInt 0 5) {t2 : Int32} (h_t2 : zs_in t2.toInt (-2147483648) 98) {c : Int} (hc : x3.toInt = c + 0) : zs_ok (BX9_goMinute_192 σ x1 x2 x3 x7 t1 t2) (fun r => zs_sum (fun v => ((zs_M0 σ0 v.1 ∧ zs_in (v.2).toInt 1 6)) ∧ v.2.toInt = c + 1) (fun v => False) r) := by
  unfold BX9_goMinute_192
  obtain rfl : x1 = (0 : Int32) := zs_eqv h_x1 (by decide)
  obtain rfl : x2 = (0 : Int32) := zs_eqv h_x2 (by decide)
  obtain rfl : x7 = (0 : Int32) := zs_eqv h_x7 (by decide)
  refine zs_gd (zs_gin h_t1 (by decide)) ?_
  refine zs_lt (Q := fun z => zs_M0 σ0 z) (zs_wrt h_σ (fun _ => rfl) (fun _ => rfl)) (fun σ_2 hσ_2 => ?_)
  refine zs_ite (fun c1 => ?_) (fun c1 => ?_)
  · skip
    have r2 := (zs_I_eq c1)
    obtain ⟨ret, er, hr⟩ := zA_23 hσ_2 h_x1 h_x2 h_x3 hc
    refine ⟨ret, er, ?_⟩
    exact (zs_sumw hr (fun v w => ⟨w.1, w.2⟩) (fun v w => w.elim))
  · skip
    have r3 := (zs_I_eqn c1)
    exact (zs_botne r3 h_x7 zlI_0 (by decide)).elim
-- BX9_goMinute_145
theorem zA_25 {σ0 : sn_S} {σ : sn_S} (h_σ : zs_M0 σ0 σ) {x1 : Int32} (h_x1 : zs_in x1.toInt 0 0) {x2 : Int32} (h_x2 : zs_in x2.toInt 0 0) {x3 : Int32} (h_x3 : zs_in x3.toInt 0 5) {x4 : Int32} {x5 : Int32} {x6 : Int32} (h_x6 : zs_in x6.toInt (-2147483648) 98) {t0 : Int32} (h_t0 : zs_in t0.toInt 0 0) {c : Int} (hc : x3.toInt = c + 0) : zs_ok (BX9_goMinute_145 σ x1 x2 x3 x4 x5 x6 t0) (fun r => zs_sum (fun v => ((zs_M0 σ0 v.1 ∧ zs_in (v.2).toInt 1 6)) ∧ v.2.toInt = c + 1) (fun v => False) r) := by
  unfold BX9_goMinute_145
  obtain rfl : x1 = (0 : Int32) := zs_eqv h_x1 (by decide)
  obtain rfl : x2 = (0 : Int32) := zs_eqv h_x2 (by decide)
  obtain rfl : t0 = (0 : Int32) := zs_eqv h_t0 (by decide)
  refine zs_gd (zs_gin h_x3 (by decide)) ?_
  refine zs_gd (zs_gin h_x3 (by decide)) ?_
  refine zs_lt (Q := fun z => zs_M0 σ0 z) (zs_wrt h_σ (fun _ => rfl) (fun _ => rfl)) (fun σ_3 hσ_3 => ?_)
  refine zs_gd (zs_gin (zs_addI 0 5 (zs_mulI 0 0 zlI_6 h_x1 (by decide)) h_x3 (by decide)) (by decide)) ?_
  refine zs_lt (Q := fun z => zs_M0 σ0 z) (zs_wrt hσ_3 (fun _ => rfl) (fun _ => rfl)) (fun σ_6 hσ_6 => ?_)
  refine zs_ite (fun c1 => ?_) (fun c1 => ?_)
  · skip
    have r2 := (zs_I_eq c1)
    obtain ⟨ret, er, hr⟩ := zA_24 hσ_6 h_x1 h_x2 h_x3 h_t0 (zs_addI 0 5 (zs_mulI 0 0 zlI_6 h_x1 (by decide)) h_x3 (by decide)) h_x6 hc
    refine ⟨ret, er, ?_⟩
    exact (zs_sumw hr (fun v w => ⟨w.1, w.2⟩) (fun v w => w.elim))
  · skip
    have r3 := (zs_I_eqn c1)
    exact (zs_botne r3 h_t0 zlI_0 (by decide)).elim
-- BX9_goMinute_144
theorem zA_26 {σ0 : sn_S} {σ : sn_S} (h_σ : zs_M0 σ0 σ) {x1 : Int32} (h_x1 : zs_in x1.toInt 0 0) {x2 : Int32} (h_x2 : zs_in x2.toInt 0 0) {x3 : Int32} (h_x3 : zs_in x3.toInt 0 5) {x4 : Int32} {x5 : Int32} {x6 : Int32} (h_x6 : zs_in x6.toInt (-2147483648) 98) {c : Int} (hc : x3.toInt = c + 0) : zs_ok (BX9_goMinute_144 σ x1 x2 x3 x4 x5 x6) (fun r => zs_sum (fun v => ((zs_M0 σ0 v.1 ∧ zs_in (v.2).toInt 1 6)) ∧ v.2.toInt = c + 1) (fun v => False) r) := by
  unfold BX9_goMinute_144
  obtain rfl : x1 = (0 : Int32) := zs_eqv h_x1 (by decide)
  obtain rfl : x2 = (0 : Int32) := zs_eqv h_x2 (by decide)
  obtain ⟨ret, er, hr⟩ := zA_25 h_σ h_x1 h_x2 h_x3 h_x6 zlI_0 hc
  refine ⟨ret, er, ?_⟩
  exact (zs_sumw hr (fun v w => ⟨w.1, w.2⟩) (fun v w => w.elim))
-- BX9_goMinute_192
theorem zA_27 {σ0 : sn_S} {σ : sn_S} (h_σ : zs_M0 σ0 σ) {x1 : Int32} (h_x1 : zs_in x1.toInt 0 0) {x2 : Int32} (h_x2 : zs_in x2.toInt 0 0) {x3 : Int32} (h_x3 : zs_in x3.toInt 0 5) {x7 : Int32} (h_x7 : zs_in x7.toInt 1 1) {t1 : Int32} (h_t1 : zs_in t1.toInt 0 5) {t2 : Int32} (h_t2 : zs_in t2.toInt 0 0) {c : Int} (hc : x3.toInt = c + 0) : zs_ok (BX9_goMinute_192 σ x1 x2 x3 x7 t1 t2) (fun r => zs_sum (fun v => ((zs_M0 σ0 v.1 ∧ zs_in (v.2).toInt 1 6)) ∧ v.2.toInt = c + 1) (fun v => False) r) := by
  unfold BX9_goMinute_192
  obtain rfl : x1 = (0 : Int32) := zs_eqv h_x1 (by decide)
  obtain rfl : x2 = (0 : Int32) := zs_eqv h_x2 (by decide)
  obtain rfl : x7 = (1 : Int32) := zs_eqv h_x7 (by decide)
  obtain rfl : t2 = (0 : Int32) := zs_eqv h_t2 (by decide)
  refine zs_gd (zs_gin h_t1 (by decide)) ?_
  refine zs_lt (Q := fun z => zs_M0 σ0 z) (zs_wrt h_σ (fun _ => rfl) (fun _ => rfl)) (fun σ_2 hσ_2 => ?_)
  refine zs_ite (fun c1 => ?_) (fun c1 => ?_)
  · skip
    have r2 := (zs_I_eq c1)
    exact (zs_botr r2 h_x7 zlI_0 (by decide)).elim
  · skip
    have r3 := (zs_I_eqn c1)
    refine zs_gd (zs_gin h_x1 (by decide)) ?_
    refine zs_gd (zs_gin h_x1 (by decide)) ?_
    refine zs_lt (Q := fun z => zs_M0 σ0 z) (zs_wrt hσ_2 (fun _ => rfl) (fun _ => rfl)) (fun σ_7 hσ_7 => ?_)
    refine zs_gd (zs_gin h_x3 (by decide)) ?_
    refine zs_gd (zs_gin h_x3 (by decide)) ?_
    refine zs_lt (Q := fun z => zs_M0 σ0 z) (zs_wru (z := (0, 1073741823)) hσ_7 (fun _ => rfl) (zs_or 30 1073741823 (zs_rdu (q := 10) (z := (0, 1073741823)) hσ_7.1 (fun _ => rfl)) (zs_cases h_x1 (fun z => zs_in ((1 : Int32) <<< (z &&& 31)).toInt 1 1) (by decide +kernel)) (by decide)) (by decide) (fun _ => rfl)) (fun σ_11 hσ_11 => ?_)
    obtain ⟨ret, er, hr⟩ := zA_23 hσ_11 h_x1 h_x2 h_x3 hc
    refine ⟨ret, er, ?_⟩
    exact (zs_sumw hr (fun v w => ⟨w.1, w.2⟩) (fun v w => w.elim))
-- BX9_goMinute_145
theorem zA_28 {σ0 : sn_S} {σ : sn_S} (h_σ : zs_M0 σ0 σ) {x1 : Int32} (h_x1 : zs_in x1.toInt 0 0) {x2 : Int32} (h_x2 : zs_in x2.toInt 0 0) {x3 : Int32} (h_x3 : zs_in x3.toInt 0 5) {x4 : Int32} {x5 : Int32} {x6 : Int32} (h_x6 : zs_in x6.toInt 0 2147483647) {t0 : Int32} (h_t0 : zs_in t0.toInt 1 1) {c : Int} (hc : x3.toInt = c + 0) : zs_ok (BX9_goMinute_145 σ x1 x2 x3 x4 x5 x6 t0) (fun r => zs_sum (fun v => ((zs_M0 σ0 v.1 ∧ zs_in (v.2).toInt 1 6)) ∧ v.2.toInt = c + 1) (fun v => False) r) := by
  unfold BX9_goMinute_145
  obtain rfl : x1 = (0 : Int32) := zs_eqv h_x1 (by decide)
  obtain rfl : x2 = (0 : Int32) := zs_eqv h_x2 (by decide)
  obtain rfl : t0 = (1 : Int32) := zs_eqv h_t0 (by decide)
  refine zs_gd (zs_gin h_x3 (by decide)) ?_
  refine zs_gd (zs_gin h_x3 (by decide)) ?_
  refine zs_lt (Q := fun z => zs_M0 σ0 z) (zs_wrt h_σ (fun _ => rfl) (fun _ => rfl)) (fun σ_3 hσ_3 => ?_)
  refine zs_gd (zs_gin (zs_addI 0 5 (zs_mulI 0 0 zlI_6 h_x1 (by decide)) h_x3 (by decide)) (by decide)) ?_
  refine zs_lt (Q := fun z => zs_M0 σ0 z) (zs_wrt hσ_3 (fun _ => rfl) (fun _ => rfl)) (fun σ_6 hσ_6 => ?_)
  refine zs_ite (fun c1 => ?_) (fun c1 => ?_)
  · skip
    have r2 := (zs_I_eq c1)
    exact (zs_botr r2 h_t0 zlI_0 (by decide)).elim
  · skip
    have r3 := (zs_I_eqn c1)
    obtain ⟨ret, er, hr⟩ := zA_27 hσ_6 h_x1 h_x2 h_x3 h_t0 (zs_addI 0 5 (zs_mulI 0 0 zlI_6 h_x1 (by decide)) h_x3 (by decide)) zlI_0 hc
    refine ⟨ret, er, ?_⟩
    exact (zs_sumw hr (fun v w => ⟨w.1, w.2⟩) (fun v w => w.elim))
-- BX9_goMinute_192
theorem zA_29 {σ0 : sn_S} {σ : sn_S} (h_σ : zs_M0 σ0 σ) {x1 : Int32} (h_x1 : zs_in x1.toInt 0 0) {x2 : Int32} (h_x2 : zs_in x2.toInt 0 0) {x3 : Int32} (h_x3 : zs_in x3.toInt 0 5) {x7 : Int32} (h_x7 : zs_in x7.toInt 0 0) {t1 : Int32} (h_t1 : zs_in t1.toInt 0 5) {t2 : Int32} (h_t2 : zs_in t2.toInt 0 2147483647) {c : Int} (hc : x3.toInt = c + 0) : zs_ok (BX9_goMinute_192 σ x1 x2 x3 x7 t1 t2) (fun r => zs_sum (fun v => ((zs_M0 σ0 v.1 ∧ zs_in (v.2).toInt 1 6)) ∧ v.2.toInt = c + 1) (fun v => False) r) := by
  unfold BX9_goMinute_192
  obtain rfl : x1 = (0 : Int32) := zs_eqv h_x1 (by decide)
  obtain rfl : x2 = (0 : Int32) := zs_eqv h_x2 (by decide)
  obtain rfl : x7 = (0 : Int32) := zs_eqv h_x7 (by decide)
  refine zs_gd (zs_gin h_t1 (by decide)) ?_
  refine zs_lt (Q := fun z => zs_M0 σ0 z) (zs_wrt h_σ (fun _ => rfl) (fun _ => rfl)) (fun σ_2 hσ_2 => ?_)
  refine zs_ite (fun c1 => ?_) (fun c1 => ?_)
  · skip
    have r2 := (zs_I_eq c1)
    obtain ⟨ret, er, hr⟩ := zA_23 hσ_2 h_x1 h_x2 h_x3 hc
    refine ⟨ret, er, ?_⟩
    exact (zs_sumw hr (fun v w => ⟨w.1, w.2⟩) (fun v w => w.elim))
  · skip
    have r3 := (zs_I_eqn c1)
    exact (zs_botne r3 h_x7 zlI_0 (by decide)).elim
-- BX9_goMinute_145
theorem zA_30 {σ0 : sn_S} {σ : sn_S} (h_σ : zs_M0 σ0 σ) {x1 : Int32} (h_x1 : zs_in x1.toInt 0 0) {x2 : Int32} (h_x2 : zs_in x2.toInt 0 0) {x3 : Int32} (h_x3 : zs_in x3.toInt 0 5) {x4 : Int32} {x5 : Int32} {x6 : Int32} (h_x6 : zs_in x6.toInt 0 2147483647) {t0 : Int32} (h_t0 : zs_in t0.toInt 0 0) {c : Int} (hc : x3.toInt = c + 0) : zs_ok (BX9_goMinute_145 σ x1 x2 x3 x4 x5 x6 t0) (fun r => zs_sum (fun v => ((zs_M0 σ0 v.1 ∧ zs_in (v.2).toInt 1 6)) ∧ v.2.toInt = c + 1) (fun v => False) r) := by
  unfold BX9_goMinute_145
  obtain rfl : x1 = (0 : Int32) := zs_eqv h_x1 (by decide)
  obtain rfl : x2 = (0 : Int32) := zs_eqv h_x2 (by decide)
  obtain rfl : t0 = (0 : Int32) := zs_eqv h_t0 (by decide)
  refine zs_gd (zs_gin h_x3 (by decide)) ?_
  refine zs_gd (zs_gin h_x3 (by decide)) ?_
  refine zs_lt (Q := fun z => zs_M0 σ0 z) (zs_wrt h_σ (fun _ => rfl) (fun _ => rfl)) (fun σ_3 hσ_3 => ?_)
  refine zs_gd (zs_gin (zs_addI 0 5 (zs_mulI 0 0 zlI_6 h_x1 (by decide)) h_x3 (by decide)) (by decide)) ?_
  refine zs_lt (Q := fun z => zs_M0 σ0 z) (zs_wrt hσ_3 (fun _ => rfl) (fun _ => rfl)) (fun σ_6 hσ_6 => ?_)
  refine zs_ite (fun c1 => ?_) (fun c1 => ?_)
  · skip
    have r2 := (zs_I_eq c1)
    obtain ⟨ret, er, hr⟩ := zA_29 hσ_6 h_x1 h_x2 h_x3 h_t0 (zs_addI 0 5 (zs_mulI 0 0 zlI_6 h_x1 (by decide)) h_x3 (by decide)) h_x6 hc
    refine ⟨ret, er, ?_⟩
    exact (zs_sumw hr (fun v w => ⟨w.1, w.2⟩) (fun v w => w.elim))
  · skip
    have r3 := (zs_I_eqn c1)
    exact (zs_botne r3 h_t0 zlI_0 (by decide)).elim
-- BX9_goMinute_144
theorem zA_31 {σ0 : sn_S} {σ : sn_S} (h_σ : zs_M0 σ0 σ) {x1 : Int32} (h_x1 : zs_in x1.toInt 0 0) {x2 : Int32} (h_x2 : zs_in x2.toInt 0 0) {x3 : Int32} (h_x3 : zs_in x3.toInt 0 5) {x4 : Int32} {x5 : Int32} {x6 : Int32} (h_x6 : zs_in x6.toInt 0 2147483647) {c : Int} (hc : x3.toInt = c + 0) : zs_ok (BX9_goMinute_144 σ x1 x2 x3 x4 x5 x6) (fun r => zs_sum (fun v => ((zs_M0 σ0 v.1 ∧ zs_in (v.2).toInt 1 6)) ∧ v.2.toInt = c + 1) (fun v => False) r) := by
  unfold BX9_goMinute_144
  obtain rfl : x1 = (0 : Int32) := zs_eqv h_x1 (by decide)
  obtain rfl : x2 = (0 : Int32) := zs_eqv h_x2 (by decide)
  obtain ⟨ret, er, hr⟩ := zA_30 h_σ h_x1 h_x2 h_x3 h_x6 zlI_0 hc
  refine ⟨ret, er, ?_⟩
  exact (zs_sumw hr (fun v w => ⟨w.1, w.2⟩) (fun v w => w.elim))
-- BX9_goMinute_104
theorem zA_32 {σ0 : sn_S} {σ : sn_S} (h_σ : zs_M0 σ0 σ) {x1 : Int32} (h_x1 : zs_in x1.toInt 0 0) {x2 : Int32} (h_x2 : zs_in x2.toInt 0 0) {x3 : Int32} (h_x3 : zs_in x3.toInt 0 5) {x4 : Int32} {x5 : Int32} {t0 : Int32} (h_t0 : zs_in t0.toInt 0 0) {c : Int} (hc : x3.toInt = c + 0) : zs_ok (BX9_goMinute_104 σ x1 x2 x3 x4 x5 t0) (fun r => zs_sum (fun v => ((zs_M0 σ0 v.1 ∧ zs_in (v.2).toInt 1 6)) ∧ v.2.toInt = c + 1) (fun v => False) r) := by
  unfold BX9_goMinute_104
  obtain rfl : x1 = (0 : Int32) := zs_eqv h_x1 (by decide)
  obtain rfl : x2 = (0 : Int32) := zs_eqv h_x2 (by decide)
  obtain rfl : t0 = (0 : Int32) := zs_eqv h_t0 (by decide)
  refine zs_lt (Q := fun z => True) trivial (fun y_1 hy_1 => ?_)
  refine zs_gd (zs_gin (zs_addI 12 22 (zs_addI 11 21 zlI_11 (zs_mulI 0 10 zlI_2 h_x3 (by decide)) (by decide)) zlI_1 (by decide)) (by decide)) ?_
  refine zs_ite (fun c1 => ?_) (fun c1 => ?_)
  · skip
    have r2 := (zs_I_lt c1)
    have g3 : zs_in (y_1).toInt (-2147483648) 98 := (zs_ltl (-2147483648) 98 r2 (zs_topI _) (zs_rdb (q := 1) (lo := 0) (hi := 99) h_σ.1 (zs_cases h_x3 (fun z => zs_bd (zs_tM 1 (((11 : Int32) + ((2 : Int32) * z)) + (1 : Int32)).toNatClampNeg) 0 99) (by decide +kernel))) (by decide))
    obtain ⟨ret, er, hr⟩ := zA_26 h_σ h_x1 h_x2 h_x3 g3 hc
    refine ⟨ret, er, ?_⟩
    exact (zs_sumw hr (fun v w => ⟨w.1, w.2⟩) (fun v w => w.elim))
  · skip
    have r4 := (zs_I_ltn c1)
    have g5 : zs_in (y_1).toInt 0 2147483647 := (zs_ler 0 2147483647 r4 (zs_rdb (q := 1) (lo := 0) (hi := 99) h_σ.1 (zs_cases h_x3 (fun z => zs_bd (zs_tM 1 (((11 : Int32) + ((2 : Int32) * z)) + (1 : Int32)).toNatClampNeg) 0 99) (by decide +kernel))) (zs_topI _) (by decide))
    refine zs_gd (zs_gin h_x3 (by decide)) ?_
    refine zs_bd_ (zA_22 h_x1) (fun t_6 pt_6 => ?_)
    refine zs_ite (fun c6 => ?_) (fun c6 => ?_)
    · skip
      have r7 := (zs_I_eq c6)
      have g8 : zs_in (t_6).toInt 0 0 := (zs_eql 0 0 r7 pt_6 zlI_0 (by decide))
      obtain ⟨ret, er, hr⟩ := zA_28 h_σ h_x1 h_x2 h_x3 g5 zlI_1 hc
      refine ⟨ret, er, ?_⟩
      exact (zs_sumw hr (fun v w => ⟨w.1, w.2⟩) (fun v w => w.elim))
    · skip
      have r9 := (zs_I_eqn c6)
      have g10 : zs_in (t_6).toInt 1 1 := (zs_nel 1 1 r9 pt_6 zlI_0 (by decide))
      obtain ⟨ret, er, hr⟩ := zA_31 h_σ h_x1 h_x2 h_x3 g5 hc
      refine ⟨ret, er, ?_⟩
      exact (zs_sumw hr (fun v w => ⟨w.1, w.2⟩) (fun v w => w.elim))
-- BX9_goMinute_26
theorem zA_33 {σ0 : sn_S} {σ : sn_S} (h_σ : zs_M0 σ0 σ) {x1 : Int32} (h_x1 : zs_in x1.toInt 0 0) {x2 : Int32} (h_x2 : zs_in x2.toInt 0 0) {x3 : Int32} (h_x3 : zs_in x3.toInt 0 6) {c : Int} (hc : x3.toInt = c + 0) : zs_ok (BX9_goMinute_26 σ x1 x2 x3) (fun r => zs_sum (fun v => ((zs_M0 σ0 v.1 ∧ zs_in (v.2).toInt 1 6)) ∧ v.2.toInt = c + 1) (fun v => zs_M0 σ0 v) r) := by
  unfold BX9_goMinute_26
  obtain rfl : x1 = (0 : Int32) := zs_eqv h_x1 (by decide)
  obtain rfl : x2 = (0 : Int32) := zs_eqv h_x2 (by decide)
  refine zs_gd (zs_gin zlI_5 (by decide)) ?_
  refine zs_ite (fun c1 => ?_) (fun c1 => ?_)
  · skip
    have r2 := (zs_I_le c1)
    exact zs_some (zs_inr (h_σ))
  · skip
    have r3 := (zs_I_len c1)
    have g4 : zs_in (x3).toInt 0 5 := (zs_ltl 0 5 r3 h_x3 (zs_rdk (q := 1) (k := (5 : Int32).toNatClampNeg) (z := (0, 6)) h_σ.1 rfl) (by decide))
    have g5 : zs_in ((sn_I σ 1 (5 : Int32).toNatClampNeg)).toInt 1 6 := (zs_ltr 1 6 r3 h_x3 (zs_rdk (q := 1) (k := (5 : Int32).toNatClampNeg) (z := (0, 6)) h_σ.1 rfl) (by decide))
    refine zs_bd_ (zA_21 h_σ g4 h_x2) (fun t_3 pt_3 => ?_)
    refine zs_lt (Q := fun z => True) trivial (fun y_5 hy_5 => ?_)
    refine zs_gd (zs_gin (zs_addI 11 21 zlI_11 (zs_mulI 0 10 zlI_2 g4 (by decide)) (by decide)) (by decide)) ?_
    refine zs_gd (zs_gin h_x1 (by decide)) ?_
    refine zs_gd (zs_gin g4 (by decide)) ?_
    refine zs_bd_ (zA_22 h_x1) (fun t_10 pt_10 => ?_)
    refine zs_lt (Q := fun z => True) trivial (fun y_12 hy_12 => ?_)
    refine zs_ite (fun c6 => ?_) (fun c6 => ?_)
    · skip
      have r7 := (zs_I_eq c6)
      obtain ⟨ret, er, hr⟩ := zA_32 h_σ h_x1 h_x2 g4 zlI_0 hc
      refine ⟨ret, er, ?_⟩
      exact (zs_sumw hr (fun v w => ⟨w.1, w.2⟩) (fun v w => w.elim))
    · skip
      have r8 := (zs_I_eqn c6)
      exact (zs_botne r8 h_x1 zlI_0 (by decide)).elim
theorem zB_7 {σ0 : sn_S} {x1 : Int32} (h_x1 : zs_in x1.toInt 0 0) {x2 : Int32} (h_x2 : zs_in x2.toInt 0 0) {s0 : (sn_S × Int32)} (h0 : (zs_M0 σ0 s0.1 ∧ zs_in (s0.2).toInt 0 6)) : zs_ok (sn_it (LX9_goMinute_26 x1 x2) 5000 s0) (fun t => zs_M0 σ0 t) := by
  refine zs_it (I := fun s => (zs_M0 σ0 s.1 ∧ zs_in (s.2).toInt 0 6)) (m := fun s => 6 - s.2.toInt) (fun s hs => ?_) (fun s hs => ?_) (by exact h0)
  · have h1 := hs.2; unfold zs_in at h1
    omega
  · obtain ⟨b, eb, hb⟩ := zA_33 hs.1 h_x1 h_x2 hs.2 (c := s.2.toInt) (Int.add_zero _).symm
    exact ⟨b, eb, zs_sumw hb (fun v w => ⟨⟨w.1.1, (zs_w w.1.2 (by decide))⟩, by have := w.2; omega⟩) (fun v w => w)⟩
-- BX9_goMinute_231
theorem zA_34 {σ0 : sn_S} {σ : sn_S} (h_σ : zs_M0 σ0 σ) : zs_ok (BX9_goMinute_231 σ) (fun r => zs_M0 σ0 r) := by
  unfold BX9_goMinute_231
  exact zs_some h_σ
-- BX9_goMinute_23
theorem zA_35 {σ0 : sn_S} {σ : sn_S} (h_σ : zs_M0 σ0 σ) {x1 : Int32} (h_x1 : zs_in x1.toInt 0 0) {t0 : Int32} (h_t0 : zs_in t0.toInt 0 0) : zs_ok (BX9_goMinute_23 σ x1 t0) (fun r => zs_M0 σ0 r) := by
  unfold BX9_goMinute_23
  obtain rfl : x1 = (0 : Int32) := zs_eqv h_x1 (by decide)
  obtain rfl : t0 = (0 : Int32) := zs_eqv h_t0 (by decide)
  refine zs_bd_ (zB_7 h_x1 h_t0 (s0 := (σ, (0 : Int32))) ⟨h_σ, (zs_w zlI_0 (by decide))⟩) (fun t_1 pt_1 => ?_)
  obtain ⟨ret, er, hr⟩ := zA_34 pt_1
  refine ⟨ret, er, ?_⟩
  exact hr
-- BX9_netsTo_91
theorem zA_36 {σ0 : sn_S} {σ : sn_S} (h_σ : zs_M0 σ0 σ) {x1 : Int32} (h_x1 : zs_in x1.toInt 0 5) {x2 : Int32} {x3 : Int32} {x4 : Int32} (h_x4 : zs_in x4.toInt 0 7) {c : Int} (hc : x4.toInt = c + 0) : zs_ok (BX9_netsTo_91 σ x1 x2 x3 x4) (fun r => zs_sum (fun v => ((True ∧ zs_in (v.2).toInt 1 8)) ∧ v.2.toInt = c + 1) (fun v => False) r) := by
  unfold BX9_netsTo_91
  refine zs_lt (Q := fun z => zs_in z.toInt 1 8 ∧ z.toInt = c + 1) ⟨(zs_addI 1 8 h_x4 zlI_1 (by decide)), (zs_syI 1 hc h_x4 zlI_1 (by decide) (by decide))⟩ (fun y_1 hy_1 => ?_)
  exact zs_some (zs_inl ⟨⟨trivial, hy_1.1⟩, hy_1.2⟩)
-- fX9_bit
theorem zA_37 {x0 : Int32} {x1 : Int32} (h_x1 : zs_in x1.toInt 0 5) : zs_ok (fX9_bit x0 x1) (fun r => zs_in (r).toInt 0 1) := by
  unfold fX9_bit
  exact zs_some (zs_and zlI_1 (by decide))
-- BX9_netsTo_88
theorem zA_38 {σ0 : sn_S} {σ : sn_S} (h_σ : zs_M0 σ0 σ) {x1 : Int32} (h_x1 : zs_in x1.toInt 0 5) {x2 : Int32} {x3 : Int32} {x4 : Int32} (h_x4 : zs_in x4.toInt 0 7) {c : Int} (hc : x4.toInt = c + 0) : zs_ok (BX9_netsTo_88 σ x1 x2 x3 x4) (fun r => zs_sum (fun v => ((True ∧ zs_in (v.2).toInt 1 8)) ∧ v.2.toInt = c + 1) (fun v => False) r) := by
  unfold BX9_netsTo_88
  refine zs_lt (Q := fun z => True) trivial (fun y_1 hy_1 => ?_)
  obtain ⟨ret, er, hr⟩ := zA_36 h_σ h_x1 h_x4 hc
  refine ⟨ret, er, ?_⟩
  exact (zs_sumw hr (fun v w => ⟨w.1, w.2⟩) (fun v w => w.elim))
-- BX9_netsTo_72
theorem zA_39 {σ0 : sn_S} {σ : sn_S} (h_σ : zs_M0 σ0 σ) {x1 : Int32} (h_x1 : zs_in x1.toInt 0 5) {x2 : Int32} {x3 : Int32} {x4 : Int32} (h_x4 : zs_in x4.toInt 0 7) {x5 : Int32} (h_x5 : zs_in x5.toInt 0 5) {x6 : Int32} (h_x6 : zs_in x6.toInt 0 5) {c : Int} (hc : x4.toInt = c + 0) : zs_ok (BX9_netsTo_72 σ x1 x2 x3 x4 x5 x6) (fun r => zs_sum (fun v => ((True ∧ zs_in (v.2).toInt 1 8)) ∧ v.2.toInt = c + 1) (fun v => False) r) := by
  unfold BX9_netsTo_72
  refine zs_ite (fun c1 => ?_) (fun c1 => ?_)
  · skip
    have r2 := (zs_I_eq c1)
    refine zs_bd_ (zA_37 h_x5) (fun t_2 pt_2 => ?_)
    refine zs_ite (fun c3 => ?_) (fun c3 => ?_)
    · skip
      have r4 := (zs_I_eq c3)
      have g5 : zs_in (t_2).toInt 1 1 := (zs_eql 1 1 r4 pt_2 zlI_1 (by decide))
      obtain ⟨ret, er, hr⟩ := zA_38 h_σ h_x1 h_x4 hc
      refine ⟨ret, er, ?_⟩
      exact (zs_sumw hr (fun v w => ⟨w.1, w.2⟩) (fun v w => w.elim))
    · skip
      have r6 := (zs_I_eqn c3)
      have g7 : zs_in (t_2).toInt 0 0 := (zs_neh 0 0 r6 pt_2 zlI_1 (by decide))
      obtain ⟨ret, er, hr⟩ := zA_36 h_σ h_x1 h_x4 hc
      refine ⟨ret, er, ?_⟩
      exact (zs_sumw hr (fun v w => ⟨w.1, w.2⟩) (fun v w => w.elim))
  · skip
    have r8 := (zs_I_eqn c1)
    obtain ⟨ret, er, hr⟩ := zA_36 h_σ h_x1 h_x4 hc
    refine ⟨ret, er, ?_⟩
    exact (zs_sumw hr (fun v w => ⟨w.1, w.2⟩) (fun v w => w.elim))
-- BX9_netsTo_5
theorem zA_40 {σ0 : sn_S} {σ : sn_S} (h_σ : zs_M0 σ0 σ) {x1 : Int32} (h_x1 : zs_in x1.toInt 0 5) {x2 : Int32} {x3 : Int32} {x4 : Int32} (h_x4 : zs_in x4.toInt 0 8) {c : Int} (hc : x4.toInt = c + 0) : zs_ok (BX9_netsTo_5 σ x1 x2 x3 x4) (fun r => zs_sum (fun v => ((True ∧ zs_in (v.2).toInt 1 8)) ∧ v.2.toInt = c + 1) (fun v => True) r) := by
  unfold BX9_netsTo_5
  refine zs_gd (zs_gin zlI_7 (by decide)) ?_
  refine zs_ite (fun c1 => ?_) (fun c1 => ?_)
  · skip
    have r2 := (zs_I_le c1)
    exact zs_some (zs_inr (trivial))
  · skip
    have r3 := (zs_I_len c1)
    have g4 : zs_in (x4).toInt 0 7 := (zs_ltl 0 7 r3 h_x4 (zs_rdk (q := 1) (k := (7 : Int32).toNatClampNeg) (z := (0, 8)) h_σ.1 rfl) (by decide))
    have g5 : zs_in ((sn_I σ 1 (7 : Int32).toNatClampNeg)).toInt 1 8 := (zs_ltr 1 8 r3 h_x4 (zs_rdk (q := 1) (k := (7 : Int32).toNatClampNeg) (z := (0, 8)) h_σ.1 rfl) (by decide))
    refine zs_gd (zs_gin (zs_addI 33 47 zlI_33 (zs_mulI 0 14 zlI_2 g4 (by decide)) (by decide)) (by decide)) ?_
    refine zs_lt (Q := fun z => zs_in z.toInt 0 5) (zs_rdb (q := 1) (lo := 0) (hi := 5) h_σ.1 (zs_cases g4 (fun z => zs_bd (zs_tM 1 ((33 : Int32) + ((2 : Int32) * z)).toNatClampNeg) 0 5) (by decide +kernel))) (fun y_4 hy_4 => ?_)
    refine zs_gd (zs_gin (zs_addI 34 48 (zs_addI 33 47 zlI_33 (zs_mulI 0 14 zlI_2 g4 (by decide)) (by decide)) zlI_1 (by decide)) (by decide)) ?_
    refine zs_lt (Q := fun z => zs_in z.toInt 0 5) (zs_rdb (q := 1) (lo := 0) (hi := 5) h_σ.1 (zs_cases g4 (fun z => zs_bd (zs_tM 1 (((33 : Int32) + ((2 : Int32) * z)) + (1 : Int32)).toNatClampNeg) 0 5) (by decide +kernel))) (fun y_7 hy_7 => ?_)
    refine zs_ite (fun c6 => ?_) (fun c6 => ?_)
    · skip
      have r7 := (zs_I_eq c6)
      have g8 : zs_in ((sn_I σ 0 19)).toInt 0 7 := (zs_eqr 0 7 r7 g4 (zs_topI _) (by decide))
      obtain ⟨ret, er, hr⟩ := zA_36 h_σ h_x1 g4 hc
      refine ⟨ret, er, ?_⟩
      exact (zs_sumw hr (fun v w => ⟨w.1, w.2⟩) (fun v w => w.elim))
    · skip
      have r9 := (zs_I_eqn c6)
      refine zs_ite (fun c10 => ?_) (fun c10 => ?_)
      · skip
        have r11 := (zs_I_eq c10)
        refine zs_bd_ (zA_37 hy_7) (fun t_11 pt_11 => ?_)
        refine zs_ite (fun c12 => ?_) (fun c12 => ?_)
        · skip
          have r13 := (zs_I_eq c12)
          have g14 : zs_in (t_11).toInt 1 1 := (zs_eql 1 1 r13 pt_11 zlI_1 (by decide))
          obtain ⟨ret, er, hr⟩ := zA_38 h_σ h_x1 g4 hc
          refine ⟨ret, er, ?_⟩
          exact (zs_sumw hr (fun v w => ⟨w.1, w.2⟩) (fun v w => w.elim))
        · skip
          have r15 := (zs_I_eqn c12)
          have g16 : zs_in (t_11).toInt 0 0 := (zs_neh 0 0 r15 pt_11 zlI_1 (by decide))
          obtain ⟨ret, er, hr⟩ := zA_39 h_σ h_x1 g4 hy_4 hy_7 hc
          refine ⟨ret, er, ?_⟩
          exact (zs_sumw hr (fun v w => ⟨w.1, w.2⟩) (fun v w => w.elim))
      · skip
        have r17 := (zs_I_eqn c10)
        obtain ⟨ret, er, hr⟩ := zA_39 h_σ h_x1 g4 hy_4 hy_7 hc
        refine ⟨ret, er, ?_⟩
        exact (zs_sumw hr (fun v w => ⟨w.1, w.2⟩) (fun v w => w.elim))
theorem zB_8 {σ0 : sn_S} {σ : sn_S} (h_σ : zs_M0 σ0 σ) {x1 : Int32} (h_x1 : zs_in x1.toInt 0 5) {x2 : Int32} {s0 : (Int32 × Int32)} (h0 : (True ∧ zs_in (s0.2).toInt 0 8)) : zs_ok (sn_it (LX9_netsTo_5 σ x1 x2) 5000 s0) (fun t => True) := by
  refine zs_it (I := fun s => (True ∧ zs_in (s.2).toInt 0 8)) (m := fun s => 8 - s.2.toInt) (fun s hs => ?_) (fun s hs => ?_) (by exact h0)
  · have h1 := hs.2; unfold zs_in at h1
    omega
  · obtain ⟨b, eb, hb⟩ := zA_40 h_σ h_x1 hs.2 (c := s.2.toInt) (Int.add_zero _).symm
    exact ⟨b, eb, zs_sumw hb (fun v w => ⟨⟨w.1.1, (zs_w w.1.2 (by decide))⟩, by have := w.2; omega⟩) (fun v w => w)⟩
-- fX9_netsTo
theorem zA_41 {σ0 : sn_S} {σ : sn_S} (h_σ : zs_M0 σ0 σ) {x1 : Int32} (h_x1 : zs_in x1.toInt 0 5) {x2 : Int32} : zs_ok (fX9_netsTo σ x1 x2) (fun r => True) := by
  unfold fX9_netsTo
  refine zs_bd_ (zB_8 h_σ h_x1 (s0 := ((0 : Int32), (0 : Int32))) ⟨trivial, (zs_w zlI_0 (by decide))⟩) (fun t_1 pt_1 => ?_)
  obtain ⟨ret, er, hr⟩ := zA_20 h_σ
  refine ⟨ret, er, ?_⟩
  exact hr
-- fX9_bit
theorem zA_42 {x0 : Int32} {x1 : Int32} (h_x1 : zs_in x1.toInt 1 29) : zs_ok (fX9_bit x0 x1) (fun r => zs_in (r).toInt 0 1) := by
  unfold fX9_bit
  exact zs_some (zs_and zlI_1 (by decide))
-- BX9_goMinute_225
theorem zA_43 {σ0 : sn_S} {σ : sn_S} (h_σ : zs_M0 σ0 σ) {x1 : Int32} (h_x1 : zs_in x1.toInt 1 29) {x2 : Int32} {x3 : Int32} (h_x3 : zs_in x3.toInt 0 5) {c : Int} (hc : x3.toInt = c + 0) : zs_ok (BX9_goMinute_225 σ x1 x2 x3) (fun r => zs_sum (fun v => ((zs_M0 σ0 v.1 ∧ zs_in (v.2).toInt 1 6)) ∧ v.2.toInt = c + 1) (fun v => False) r) := by
  unfold BX9_goMinute_225
  refine zs_lt (Q := fun z => zs_in z.toInt 1 6 ∧ z.toInt = c + 1) ⟨(zs_addI 1 6 h_x3 zlI_1 (by decide)), (zs_syI 1 hc h_x3 zlI_1 (by decide) (by decide))⟩ (fun y_1 hy_1 => ?_)
  exact zs_some (zs_inl ⟨⟨h_σ, hy_1.1⟩, hy_1.2⟩)
-- BX9_goMinute_192
theorem zA_44 {σ0 : sn_S} {σ : sn_S} (h_σ : zs_M0 σ0 σ) {x1 : Int32} (h_x1 : zs_in x1.toInt 1 29) {x2 : Int32} {x3 : Int32} (h_x3 : zs_in x3.toInt 0 5) {x7 : Int32} (h_x7 : zs_in x7.toInt 0 0) {t1 : Int32} (h_t1 : zs_in t1.toInt 6 179) {t2 : Int32} (h_t2 : zs_in t2.toInt (-2147483648) 98) {c : Int} (hc : x3.toInt = c + 0) : zs_ok (BX9_goMinute_192 σ x1 x2 x3 x7 t1 t2) (fun r => zs_sum (fun v => ((zs_M0 σ0 v.1 ∧ zs_in (v.2).toInt 1 6)) ∧ v.2.toInt = c + 1) (fun v => False) r) := by
  unfold BX9_goMinute_192
  obtain rfl : x7 = (0 : Int32) := zs_eqv h_x7 (by decide)
  refine zs_gd (zs_gin h_t1 (by decide)) ?_
  refine zs_lt (Q := fun z => zs_M0 σ0 z) (zs_wrt h_σ (fun _ => rfl) (fun _ => rfl)) (fun σ_2 hσ_2 => ?_)
  refine zs_ite (fun c1 => ?_) (fun c1 => ?_)
  · skip
    have r2 := (zs_I_eq c1)
    obtain ⟨ret, er, hr⟩ := zA_43 hσ_2 h_x1 h_x3 hc
    refine ⟨ret, er, ?_⟩
    exact (zs_sumw hr (fun v w => ⟨w.1, w.2⟩) (fun v w => w.elim))
  · skip
    have r3 := (zs_I_eqn c1)
    exact (zs_botne r3 h_x7 zlI_0 (by decide)).elim
-- BX9_goMinute_145
theorem zA_45 {σ0 : sn_S} {σ : sn_S} (h_σ : zs_M0 σ0 σ) {x1 : Int32} (h_x1 : zs_in x1.toInt 1 29) {x2 : Int32} {x3 : Int32} (h_x3 : zs_in x3.toInt 0 5) {x4 : Int32} {x5 : Int32} {x6 : Int32} (h_x6 : zs_in x6.toInt (-2147483648) 98) {t0 : Int32} (h_t0 : zs_in t0.toInt 0 0) {c : Int} (hc : x3.toInt = c + 0) : zs_ok (BX9_goMinute_145 σ x1 x2 x3 x4 x5 x6 t0) (fun r => zs_sum (fun v => ((zs_M0 σ0 v.1 ∧ zs_in (v.2).toInt 1 6)) ∧ v.2.toInt = c + 1) (fun v => False) r) := by
  unfold BX9_goMinute_145
  obtain rfl : t0 = (0 : Int32) := zs_eqv h_t0 (by decide)
  refine zs_gd (zs_gin h_x3 (by decide)) ?_
  refine zs_gd (zs_gin h_x3 (by decide)) ?_
  refine zs_lt (Q := fun z => zs_M0 σ0 z) (zs_wrt h_σ (fun _ => rfl) (fun _ => rfl)) (fun σ_3 hσ_3 => ?_)
  refine zs_gd (zs_gin (zs_addI 6 179 (zs_mulI 6 174 zlI_6 h_x1 (by decide)) h_x3 (by decide)) (by decide)) ?_
  refine zs_lt (Q := fun z => zs_M0 σ0 z) (zs_wrt hσ_3 (fun _ => rfl) (fun _ => rfl)) (fun σ_6 hσ_6 => ?_)
  refine zs_ite (fun c1 => ?_) (fun c1 => ?_)
  · skip
    have r2 := (zs_I_eq c1)
    obtain ⟨ret, er, hr⟩ := zA_44 hσ_6 h_x1 h_x3 h_t0 (zs_addI 6 179 (zs_mulI 6 174 zlI_6 h_x1 (by decide)) h_x3 (by decide)) h_x6 hc
    refine ⟨ret, er, ?_⟩
    exact (zs_sumw hr (fun v w => ⟨w.1, w.2⟩) (fun v w => w.elim))
  · skip
    have r3 := (zs_I_eqn c1)
    exact (zs_botne r3 h_t0 zlI_0 (by decide)).elim
-- BX9_goMinute_144
theorem zA_46 {σ0 : sn_S} {σ : sn_S} (h_σ : zs_M0 σ0 σ) {x1 : Int32} (h_x1 : zs_in x1.toInt 1 29) {x2 : Int32} {x3 : Int32} (h_x3 : zs_in x3.toInt 0 5) {x4 : Int32} {x5 : Int32} {x6 : Int32} (h_x6 : zs_in x6.toInt (-2147483648) 98) {c : Int} (hc : x3.toInt = c + 0) : zs_ok (BX9_goMinute_144 σ x1 x2 x3 x4 x5 x6) (fun r => zs_sum (fun v => ((zs_M0 σ0 v.1 ∧ zs_in (v.2).toInt 1 6)) ∧ v.2.toInt = c + 1) (fun v => False) r) := by
  unfold BX9_goMinute_144
  obtain ⟨ret, er, hr⟩ := zA_45 h_σ h_x1 h_x3 h_x6 zlI_0 hc
  refine ⟨ret, er, ?_⟩
  exact (zs_sumw hr (fun v w => ⟨w.1, w.2⟩) (fun v w => w.elim))
-- BX9_goMinute_192
theorem zA_47 {σ0 : sn_S} {σ : sn_S} (h_σ : zs_M0 σ0 σ) {x1 : Int32} (h_x1 : zs_in x1.toInt 1 29) {x2 : Int32} {x3 : Int32} (h_x3 : zs_in x3.toInt 0 5) {x7 : Int32} (h_x7 : zs_in x7.toInt 1 1) {t1 : Int32} (h_t1 : zs_in t1.toInt 6 179) {t2 : Int32} (h_t2 : zs_in t2.toInt 0 0) {c : Int} (hc : x3.toInt = c + 0) : zs_ok (BX9_goMinute_192 σ x1 x2 x3 x7 t1 t2) (fun r => zs_sum (fun v => ((zs_M0 σ0 v.1 ∧ zs_in (v.2).toInt 1 6)) ∧ v.2.toInt = c + 1) (fun v => False) r) := by
  unfold BX9_goMinute_192
  obtain rfl : x7 = (1 : Int32) := zs_eqv h_x7 (by decide)
  obtain rfl : t2 = (0 : Int32) := zs_eqv h_t2 (by decide)
  refine zs_gd (zs_gin h_t1 (by decide)) ?_
  refine zs_lt (Q := fun z => zs_M0 σ0 z) (zs_wrt h_σ (fun _ => rfl) (fun _ => rfl)) (fun σ_2 hσ_2 => ?_)
  refine zs_ite (fun c1 => ?_) (fun c1 => ?_)
  · skip
    have r2 := (zs_I_eq c1)
    exact (zs_botr r2 h_x7 zlI_0 (by decide)).elim
  · skip
    have r3 := (zs_I_eqn c1)
    refine zs_gd (zs_gin h_x1 (by decide)) ?_
    refine zs_gd (zs_gin h_x1 (by decide)) ?_
    refine zs_lt (Q := fun z => zs_M0 σ0 z) (zs_wrt hσ_2 (fun _ => rfl) (fun _ => rfl)) (fun σ_7 hσ_7 => ?_)
    refine zs_gd (zs_gin h_x3 (by decide)) ?_
    refine zs_gd (zs_gin h_x3 (by decide)) ?_
    refine zs_lt (Q := fun z => zs_M0 σ0 z) (zs_wru (z := (0, 1073741823)) hσ_7 (fun _ => rfl) (zs_or 30 1073741823 (zs_rdu (q := 10) (z := (0, 1073741823)) hσ_7.1 (fun _ => rfl)) (zs_cases h_x1 (fun z => zs_in ((1 : Int32) <<< (z &&& 31)).toInt 2 536870912) (by decide +kernel)) (by decide)) (by decide) (fun _ => rfl)) (fun σ_11 hσ_11 => ?_)
    obtain ⟨ret, er, hr⟩ := zA_43 hσ_11 h_x1 h_x3 hc
    refine ⟨ret, er, ?_⟩
    exact (zs_sumw hr (fun v w => ⟨w.1, w.2⟩) (fun v w => w.elim))
-- BX9_goMinute_145
theorem zA_48 {σ0 : sn_S} {σ : sn_S} (h_σ : zs_M0 σ0 σ) {x1 : Int32} (h_x1 : zs_in x1.toInt 1 29) {x2 : Int32} {x3 : Int32} (h_x3 : zs_in x3.toInt 0 5) {x4 : Int32} {x5 : Int32} {x6 : Int32} (h_x6 : zs_in x6.toInt 0 2147483647) {t0 : Int32} (h_t0 : zs_in t0.toInt 1 1) {c : Int} (hc : x3.toInt = c + 0) : zs_ok (BX9_goMinute_145 σ x1 x2 x3 x4 x5 x6 t0) (fun r => zs_sum (fun v => ((zs_M0 σ0 v.1 ∧ zs_in (v.2).toInt 1 6)) ∧ v.2.toInt = c + 1) (fun v => False) r) := by
  unfold BX9_goMinute_145
  obtain rfl : t0 = (1 : Int32) := zs_eqv h_t0 (by decide)
  refine zs_gd (zs_gin h_x3 (by decide)) ?_
  refine zs_gd (zs_gin h_x3 (by decide)) ?_
  refine zs_lt (Q := fun z => zs_M0 σ0 z) (zs_wrt h_σ (fun _ => rfl) (fun _ => rfl)) (fun σ_3 hσ_3 => ?_)
  refine zs_gd (zs_gin (zs_addI 6 179 (zs_mulI 6 174 zlI_6 h_x1 (by decide)) h_x3 (by decide)) (by decide)) ?_
  refine zs_lt (Q := fun z => zs_M0 σ0 z) (zs_wrt hσ_3 (fun _ => rfl) (fun _ => rfl)) (fun σ_6 hσ_6 => ?_)
  refine zs_ite (fun c1 => ?_) (fun c1 => ?_)
  · skip
    have r2 := (zs_I_eq c1)
    exact (zs_botr r2 h_t0 zlI_0 (by decide)).elim
  · skip
    have r3 := (zs_I_eqn c1)
    obtain ⟨ret, er, hr⟩ := zA_47 hσ_6 h_x1 h_x3 h_t0 (zs_addI 6 179 (zs_mulI 6 174 zlI_6 h_x1 (by decide)) h_x3 (by decide)) zlI_0 hc
    refine ⟨ret, er, ?_⟩
    exact (zs_sumw hr (fun v w => ⟨w.1, w.2⟩) (fun v w => w.elim))
-- BX9_goMinute_192
theorem zA_49 {σ0 : sn_S} {σ : sn_S} (h_σ : zs_M0 σ0 σ) {x1 : Int32} (h_x1 : zs_in x1.toInt 1 29) {x2 : Int32} {x3 : Int32} (h_x3 : zs_in x3.toInt 0 5) {x7 : Int32} (h_x7 : zs_in x7.toInt 0 0) {t1 : Int32} (h_t1 : zs_in t1.toInt 6 179) {t2 : Int32} (h_t2 : zs_in t2.toInt 0 2147483647) {c : Int} (hc : x3.toInt = c + 0) : zs_ok (BX9_goMinute_192 σ x1 x2 x3 x7 t1 t2) (fun r => zs_sum (fun v => ((zs_M0 σ0 v.1 ∧ zs_in (v.2).toInt 1 6)) ∧ v.2.toInt = c + 1) (fun v => False) r) := by
  unfold BX9_goMinute_192
  obtain rfl : x7 = (0 : Int32) := zs_eqv h_x7 (by decide)
  refine zs_gd (zs_gin h_t1 (by decide)) ?_
  refine zs_lt (Q := fun z => zs_M0 σ0 z) (zs_wrt h_σ (fun _ => rfl) (fun _ => rfl)) (fun σ_2 hσ_2 => ?_)
  refine zs_ite (fun c1 => ?_) (fun c1 => ?_)
  · skip
    have r2 := (zs_I_eq c1)
    obtain ⟨ret, er, hr⟩ := zA_43 hσ_2 h_x1 h_x3 hc
    refine ⟨ret, er, ?_⟩
    exact (zs_sumw hr (fun v w => ⟨w.1, w.2⟩) (fun v w => w.elim))
  · skip
    have r3 := (zs_I_eqn c1)
    exact (zs_botne r3 h_x7 zlI_0 (by decide)).elim
-- BX9_goMinute_145
theorem zA_50 {σ0 : sn_S} {σ : sn_S} (h_σ : zs_M0 σ0 σ) {x1 : Int32} (h_x1 : zs_in x1.toInt 1 29) {x2 : Int32} {x3 : Int32} (h_x3 : zs_in x3.toInt 0 5) {x4 : Int32} {x5 : Int32} {x6 : Int32} (h_x6 : zs_in x6.toInt 0 2147483647) {t0 : Int32} (h_t0 : zs_in t0.toInt 0 0) {c : Int} (hc : x3.toInt = c + 0) : zs_ok (BX9_goMinute_145 σ x1 x2 x3 x4 x5 x6 t0) (fun r => zs_sum (fun v => ((zs_M0 σ0 v.1 ∧ zs_in (v.2).toInt 1 6)) ∧ v.2.toInt = c + 1) (fun v => False) r) := by
  unfold BX9_goMinute_145
  obtain rfl : t0 = (0 : Int32) := zs_eqv h_t0 (by decide)
  refine zs_gd (zs_gin h_x3 (by decide)) ?_
  refine zs_gd (zs_gin h_x3 (by decide)) ?_
  refine zs_lt (Q := fun z => zs_M0 σ0 z) (zs_wrt h_σ (fun _ => rfl) (fun _ => rfl)) (fun σ_3 hσ_3 => ?_)
  refine zs_gd (zs_gin (zs_addI 6 179 (zs_mulI 6 174 zlI_6 h_x1 (by decide)) h_x3 (by decide)) (by decide)) ?_
  refine zs_lt (Q := fun z => zs_M0 σ0 z) (zs_wrt hσ_3 (fun _ => rfl) (fun _ => rfl)) (fun σ_6 hσ_6 => ?_)
  refine zs_ite (fun c1 => ?_) (fun c1 => ?_)
  · skip
    have r2 := (zs_I_eq c1)
    obtain ⟨ret, er, hr⟩ := zA_49 hσ_6 h_x1 h_x3 h_t0 (zs_addI 6 179 (zs_mulI 6 174 zlI_6 h_x1 (by decide)) h_x3 (by decide)) h_x6 hc
    refine ⟨ret, er, ?_⟩
    exact (zs_sumw hr (fun v w => ⟨w.1, w.2⟩) (fun v w => w.elim))
  · skip
    have r3 := (zs_I_eqn c1)
    exact (zs_botne r3 h_t0 zlI_0 (by decide)).elim
-- BX9_goMinute_144
theorem zA_51 {σ0 : sn_S} {σ : sn_S} (h_σ : zs_M0 σ0 σ) {x1 : Int32} (h_x1 : zs_in x1.toInt 1 29) {x2 : Int32} {x3 : Int32} (h_x3 : zs_in x3.toInt 0 5) {x4 : Int32} {x5 : Int32} {x6 : Int32} (h_x6 : zs_in x6.toInt 0 2147483647) {c : Int} (hc : x3.toInt = c + 0) : zs_ok (BX9_goMinute_144 σ x1 x2 x3 x4 x5 x6) (fun r => zs_sum (fun v => ((zs_M0 σ0 v.1 ∧ zs_in (v.2).toInt 1 6)) ∧ v.2.toInt = c + 1) (fun v => False) r) := by
  unfold BX9_goMinute_144
  obtain ⟨ret, er, hr⟩ := zA_50 h_σ h_x1 h_x3 h_x6 zlI_0 hc
  refine ⟨ret, er, ?_⟩
  exact (zs_sumw hr (fun v w => ⟨w.1, w.2⟩) (fun v w => w.elim))
-- BX9_goMinute_104
theorem zA_52 {σ0 : sn_S} {σ : sn_S} (h_σ : zs_M0 σ0 σ) {x1 : Int32} (h_x1 : zs_in x1.toInt 1 29) {x2 : Int32} {x3 : Int32} (h_x3 : zs_in x3.toInt 0 5) {x4 : Int32} {x5 : Int32} {t0 : Int32} {c : Int} (hc : x3.toInt = c + 0) : zs_ok (BX9_goMinute_104 σ x1 x2 x3 x4 x5 t0) (fun r => zs_sum (fun v => ((zs_M0 σ0 v.1 ∧ zs_in (v.2).toInt 1 6)) ∧ v.2.toInt = c + 1) (fun v => False) r) := by
  unfold BX9_goMinute_104
  refine zs_lt (Q := fun z => True) trivial (fun y_1 hy_1 => ?_)
  refine zs_gd (zs_gin (zs_addI 12 22 (zs_addI 11 21 zlI_11 (zs_mulI 0 10 zlI_2 h_x3 (by decide)) (by decide)) zlI_1 (by decide)) (by decide)) ?_
  refine zs_ite (fun c1 => ?_) (fun c1 => ?_)
  · skip
    have r2 := (zs_I_lt c1)
    have g3 : zs_in (y_1).toInt (-2147483648) 98 := (zs_ltl (-2147483648) 98 r2 (zs_topI _) (zs_rdb (q := 1) (lo := 0) (hi := 99) h_σ.1 (zs_cases h_x3 (fun z => zs_bd (zs_tM 1 (((11 : Int32) + ((2 : Int32) * z)) + (1 : Int32)).toNatClampNeg) 0 99) (by decide +kernel))) (by decide))
    obtain ⟨ret, er, hr⟩ := zA_46 h_σ h_x1 h_x3 g3 hc
    refine ⟨ret, er, ?_⟩
    exact (zs_sumw hr (fun v w => ⟨w.1, w.2⟩) (fun v w => w.elim))
  · skip
    have r4 := (zs_I_ltn c1)
    have g5 : zs_in (y_1).toInt 0 2147483647 := (zs_ler 0 2147483647 r4 (zs_rdb (q := 1) (lo := 0) (hi := 99) h_σ.1 (zs_cases h_x3 (fun z => zs_bd (zs_tM 1 (((11 : Int32) + ((2 : Int32) * z)) + (1 : Int32)).toNatClampNeg) 0 99) (by decide +kernel))) (zs_topI _) (by decide))
    refine zs_gd (zs_gin h_x3 (by decide)) ?_
    refine zs_bd_ (zA_42 h_x1) (fun t_6 pt_6 => ?_)
    refine zs_ite (fun c6 => ?_) (fun c6 => ?_)
    · skip
      have r7 := (zs_I_eq c6)
      have g8 : zs_in (t_6).toInt 0 0 := (zs_eql 0 0 r7 pt_6 zlI_0 (by decide))
      obtain ⟨ret, er, hr⟩ := zA_48 h_σ h_x1 h_x3 g5 zlI_1 hc
      refine ⟨ret, er, ?_⟩
      exact (zs_sumw hr (fun v w => ⟨w.1, w.2⟩) (fun v w => w.elim))
    · skip
      have r9 := (zs_I_eqn c6)
      have g10 : zs_in (t_6).toInt 1 1 := (zs_nel 1 1 r9 pt_6 zlI_0 (by decide))
      obtain ⟨ret, er, hr⟩ := zA_51 h_σ h_x1 h_x3 g5 hc
      refine ⟨ret, er, ?_⟩
      exact (zs_sumw hr (fun v w => ⟨w.1, w.2⟩) (fun v w => w.elim))
-- BX9_goMinute_26
theorem zA_53 {σ0 : sn_S} {σ : sn_S} (h_σ : zs_M0 σ0 σ) {x1 : Int32} (h_x1 : zs_in x1.toInt 1 29) {x2 : Int32} {x3 : Int32} (h_x3 : zs_in x3.toInt 0 6) {c : Int} (hc : x3.toInt = c + 0) : zs_ok (BX9_goMinute_26 σ x1 x2 x3) (fun r => zs_sum (fun v => ((zs_M0 σ0 v.1 ∧ zs_in (v.2).toInt 1 6)) ∧ v.2.toInt = c + 1) (fun v => zs_M0 σ0 v) r) := by
  unfold BX9_goMinute_26
  refine zs_gd (zs_gin zlI_5 (by decide)) ?_
  refine zs_ite (fun c1 => ?_) (fun c1 => ?_)
  · skip
    have r2 := (zs_I_le c1)
    exact zs_some (zs_inr (h_σ))
  · skip
    have r3 := (zs_I_len c1)
    have g4 : zs_in (x3).toInt 0 5 := (zs_ltl 0 5 r3 h_x3 (zs_rdk (q := 1) (k := (5 : Int32).toNatClampNeg) (z := (0, 6)) h_σ.1 rfl) (by decide))
    have g5 : zs_in ((sn_I σ 1 (5 : Int32).toNatClampNeg)).toInt 1 6 := (zs_ltr 1 6 r3 h_x3 (zs_rdk (q := 1) (k := (5 : Int32).toNatClampNeg) (z := (0, 6)) h_σ.1 rfl) (by decide))
    refine zs_bd_ (zA_41 h_σ g4) (fun t_3 pt_3 => ?_)
    refine zs_lt (Q := fun z => True) trivial (fun y_5 hy_5 => ?_)
    refine zs_gd (zs_gin (zs_addI 11 21 zlI_11 (zs_mulI 0 10 zlI_2 g4 (by decide)) (by decide)) (by decide)) ?_
    refine zs_gd (zs_gin h_x1 (by decide)) ?_
    refine zs_gd (zs_gin g4 (by decide)) ?_
    refine zs_bd_ (zA_42 h_x1) (fun t_10 pt_10 => ?_)
    refine zs_lt (Q := fun z => True) trivial (fun y_12 hy_12 => ?_)
    refine zs_ite (fun c6 => ?_) (fun c6 => ?_)
    · skip
      have r7 := (zs_I_eq c6)
      exact (zs_botr r7 h_x1 zlI_0 (by decide)).elim
    · skip
      have r8 := (zs_I_eqn c6)
      refine zs_gd (zs_gin (zs_addI 0 173 (zs_mulI 0 168 zlI_6 (zs_subI 0 28 h_x1 zlI_1 (by decide)) (by decide)) g4 (by decide)) (by decide)) ?_
      obtain ⟨ret, er, hr⟩ := zA_52 h_σ h_x1 g4 hc
      refine ⟨ret, er, ?_⟩
      exact (zs_sumw hr (fun v w => ⟨w.1, w.2⟩) (fun v w => w.elim))
theorem zB_9 {σ0 : sn_S} {x1 : Int32} (h_x1 : zs_in x1.toInt 1 29) {x2 : Int32} {s0 : (sn_S × Int32)} (h0 : (zs_M0 σ0 s0.1 ∧ zs_in (s0.2).toInt 0 6)) : zs_ok (sn_it (LX9_goMinute_26 x1 x2) 5000 s0) (fun t => zs_M0 σ0 t) := by
  refine zs_it (I := fun s => (zs_M0 σ0 s.1 ∧ zs_in (s.2).toInt 0 6)) (m := fun s => 6 - s.2.toInt) (fun s hs => ?_) (fun s hs => ?_) (by exact h0)
  · have h1 := hs.2; unfold zs_in at h1
    omega
  · obtain ⟨b, eb, hb⟩ := zA_53 hs.1 h_x1 hs.2 (c := s.2.toInt) (Int.add_zero _).symm
    exact ⟨b, eb, zs_sumw hb (fun v w => ⟨⟨w.1.1, (zs_w w.1.2 (by decide))⟩, by have := w.2; omega⟩) (fun v w => w)⟩
-- BX9_goMinute_23
theorem zA_54 {σ0 : sn_S} {σ : sn_S} (h_σ : zs_M0 σ0 σ) {x1 : Int32} (h_x1 : zs_in x1.toInt 1 29) {t0 : Int32} : zs_ok (BX9_goMinute_23 σ x1 t0) (fun r => zs_M0 σ0 r) := by
  unfold BX9_goMinute_23
  refine zs_bd_ (zB_9 h_x1 (s0 := (σ, (0 : Int32))) ⟨h_σ, (zs_w zlI_0 (by decide))⟩) (fun t_1 pt_1 => ?_)
  obtain ⟨ret, er, hr⟩ := zA_34 pt_1
  refine ⟨ret, er, ?_⟩
  exact hr
-- fX9_goMinute
theorem zA_55 {σ0 : sn_S} {σ : sn_S} (h_σ : zs_M0 σ0 σ) {x1 : Int32} (h_x1 : zs_in x1.toInt 0 29) : zs_ok (fX9_goMinute σ x1) (fun r => zs_M0 σ0 r) := by
  unfold fX9_goMinute
  refine zs_gd (zs_gin h_x1 (by decide)) ?_
  refine zs_lt (Q := fun z => zs_M0 σ0 z) (zs_wrt h_σ (fun _ => rfl) (fun _ => rfl)) (fun σ_2 hσ_2 => ?_)
  refine zs_ite (fun c1 => ?_) (fun c1 => ?_)
  · skip
    have r2 := (zs_I_eq c1)
    have g3 : zs_in (x1).toInt 0 0 := (zs_eql 0 0 r2 h_x1 zlI_0 (by decide))
    obtain ⟨ret, er, hr⟩ := zA_35 hσ_2 g3 zlI_0
    refine ⟨ret, er, ?_⟩
    exact hr
  · skip
    have r4 := (zs_I_eqn c1)
    have g5 : zs_in (x1).toInt 1 29 := (zs_nel 1 29 r4 h_x1 zlI_0 (by decide))
    refine zs_gd (zs_gin (zs_subI 0 28 g5 zlI_1 (by decide)) (by decide)) ?_
    obtain ⟨ret, er, hr⟩ := zA_54 hσ_2 g5
    refine ⟨ret, er, ?_⟩
    exact hr
-- BX9_goAll_30
theorem zA_56 {σ0 : sn_S} {σ : sn_S} (h_σ : zs_M0 σ0 σ) {x1 : Int32} (h_x1 : zs_in x1.toInt 0 30) {c : Int} (hc : x1.toInt = c + 0) : zs_ok (BX9_goAll_30 σ x1) (fun r => zs_sum (fun v => ((zs_M0 σ0 v.1 ∧ zs_in (v.2).toInt 1 30)) ∧ v.2.toInt = c + 1) (fun v => zs_M0 σ0 v) r) := by
  unfold BX9_goAll_30
  refine zs_ite (fun c1 => ?_) (fun c1 => ?_)
  · skip
    have r2 := (zs_I_lt c1)
    exact zs_some (zs_inr (h_σ))
  · skip
    have r3 := (zs_I_ltn c1)
    have g4 : zs_in (x1).toInt 0 29 := (zs_lel 0 29 r3 h_x1 (zs_rdk (q := 0) (k := 22) (z := ((-1), 29)) h_σ.1 rfl) (by decide))
    have g5 : zs_in ((sn_I σ 0 22)).toInt 0 29 := (zs_ler 0 29 r3 h_x1 (zs_rdk (q := 0) (k := 22) (z := ((-1), 29)) h_σ.1 rfl) (by decide))
    refine zs_bd_ (zA_55 h_σ g4) (fun t_2 pt_2 => ?_)
    refine zs_lt (Q := fun z => zs_in z.toInt 1 30 ∧ z.toInt = c + 1) ⟨(zs_addI 1 30 g4 zlI_1 (by decide)), (zs_syI 1 hc g4 zlI_1 (by decide) (by decide))⟩ (fun y_4 hy_4 => ?_)
    exact zs_some (zs_inl ⟨⟨pt_2, hy_4.1⟩, hy_4.2⟩)
theorem zB_10 {σ0 : sn_S}  {s0 : (sn_S × Int32)} (h0 : (zs_M0 σ0 s0.1 ∧ zs_in (s0.2).toInt 0 30)) : zs_ok (sn_it (LX9_goAll_30) 5000 s0) (fun t => zs_M0 σ0 t) := by
  refine zs_it (I := fun s => (zs_M0 σ0 s.1 ∧ zs_in (s.2).toInt 0 30)) (m := fun s => 30 - s.2.toInt) (fun s hs => ?_) (fun s hs => ?_) (by exact h0)
  · have h1 := hs.2; unfold zs_in at h1
    omega
  · obtain ⟨b, eb, hb⟩ := zA_56 hs.1 hs.2 (c := s.2.toInt) (Int.add_zero _).symm
    exact ⟨b, eb, zs_sumw hb (fun v w => ⟨⟨w.1.1, (zs_w w.1.2 (by decide))⟩, by have := w.2; omega⟩) (fun v w => w)⟩
-- BX9_goAll_49
theorem zA_57 {σ0 : sn_S} {σ : sn_S} (h_σ : zs_M0 σ0 σ) : zs_ok (BX9_goAll_49 σ) (fun r => zs_M0 σ0 r) := by
  unfold BX9_goAll_49
  exact zs_some h_σ
-- BX9_goAll_28
theorem zA_58 {σ0 : sn_S} {σ : sn_S} (h_σ : zs_M0 σ0 σ) : zs_ok (BX9_goAll_28 σ) (fun r => zs_M0 σ0 r) := by
  unfold BX9_goAll_28
  refine zs_bd_ (zB_10  (s0 := (σ, (0 : Int32))) ⟨h_σ, (zs_w zlI_0 (by decide))⟩) (fun t_1 pt_1 => ?_)
  obtain ⟨ret, er, hr⟩ := zA_57 pt_1
  refine ⟨ret, er, ?_⟩
  exact hr
-- fX9_goAll
theorem zA_59 {σ0 : sn_S} {σ : sn_S} (h_σ : zs_M0 σ0 σ) : zs_ok (fX9_goAll σ) (fun r => zs_M0 σ0 r) := by
  unfold fX9_goAll
  refine zs_bd_ (zB_5  (s0 := (σ, (0 : Int32))) ⟨h_σ, (zs_w zlI_0 (by decide))⟩) (fun t_1 pt_1 => ?_)
  obtain ⟨ret, er, hr⟩ := zA_58 pt_1
  refine ⟨ret, er, ?_⟩
  exact hr
-- fX9_isHouse
theorem zA_60 {σ0 : sn_S} {σ : sn_S} (h_σ : zs_M0 σ0 σ) : zs_ok (fX9_isHouse σ) (fun r => zs_in (r).toInt 0 1) := by
  unfold fX9_isHouse
  refine zs_gd (zs_gin zlI_10 (by decide)) ?_
  refine zs_ite (fun c1 => ?_) (fun c1 => ?_)
  · skip
    have r2 := (zs_I_le c1)
    have g3 : zs_in ((sn_I σ 1 (10 : Int32).toNatClampNeg)).toInt 0 0 := (zs_lel 0 0 r2 (zs_rdk (q := 1) (k := (10 : Int32).toNatClampNeg) (z := (0, 900)) h_σ.1 rfl) zlI_0 (by decide))
    refine zs_gd (zs_b01 zlI_0 (by decide)) ?_
    exact zs_some (zs_w zlI_0 (by decide))
  · skip
    have r4 := (zs_I_len c1)
    have g5 : zs_in ((sn_I σ 1 (10 : Int32).toNatClampNeg)).toInt 1 900 := (zs_ltr 1 900 r4 zlI_0 (zs_rdk (q := 1) (k := (10 : Int32).toNatClampNeg) (z := (0, 900)) h_σ.1 rfl) (by decide))
    refine zs_gd (zs_b01 zlI_1 (by decide)) ?_
    exact zs_some (zs_w zlI_1 (by decide))
-- fX9_asksHouse
theorem zA_61 {σ0 : sn_S} {σ : sn_S} (h_σ : zs_M0 σ0 σ) : zs_ok (fX9_asksHouse σ) (fun r => (zs_in (r.1).toInt 0 1 ∧ zs_M0 σ0 r.2)) := by
  unfold fX9_asksHouse
  refine zs_bd_ (zA_13 h_σ) (fun t_1 pt_1 => ?_)
  refine zs_bd_ (zA_59 pt_1) (fun t_3 pt_3 => ?_)
  refine zs_bd_ (zA_60 pt_3) (fun t_5 pt_5 => ?_)
  refine zs_gd (zs_b01 pt_5 (by decide)) ?_
  exact zs_some ⟨pt_5, pt_3⟩
-- BX9_quietBy_103
theorem zA_62 {σ0 : sn_S} {σ : sn_S} (h_σ : zs_M0 σ0 σ) {x1 : Int32} (h_x1 : zs_in x1.toInt 11 21) {x3 : Int32} (h_x3 : zs_in x3.toInt 0 0) {x4 : Int32} (h_x4 : zs_in x4.toInt 0 5) {x5 : Int32} (h_x5 : zs_in x5.toInt 0 99) {x6 : Int32} (h_x6 : zs_in x6.toInt (-1) (-1)) {x7 : Int32} (h_x7 : zs_in x7.toInt (-1) (-1)) {x8 : Int32} (h_x8 : zs_in x8.toInt 0 9) {t0 : Int32} (h_t0 : zs_in t0.toInt 0 9) {c : Int} (hc : x8.toInt = c + 0) : zs_ok (BX9_quietBy_103 σ x1 x3 x4 x5 x6 x7 x8 t0) (fun r => zs_sum (fun v => ((zs_M0 σ0 v.1 ∧ (zs_in (v.2.1).toInt 0 9 ∧ zs_in (v.2.2).toInt (-1) 8))) ∧ v.2.2.toInt = c + (-1)) (fun v => False) r) := by
  unfold BX9_quietBy_103
  obtain rfl : x3 = (0 : Int32) := zs_eqv h_x3 (by decide)
  obtain rfl : x6 = (-1 : Int32) := zs_eqv h_x6 (by decide)
  obtain rfl : x7 = (-1 : Int32) := zs_eqv h_x7 (by decide)
  refine zs_lt (Q := fun z => zs_in z.toInt (-1) 8 ∧ z.toInt = c + (-1)) ⟨(zs_addI (-1) 8 h_x8 h_x7 (by decide)), (zs_syI (-1) hc h_x8 zlI_m1 (by decide) (by decide))⟩ (fun y_1 hy_1 => ?_)
  exact zs_some (zs_inl ⟨⟨h_σ, ⟨h_t0, hy_1.1⟩⟩, hy_1.2⟩)
-- BX9_quietBy_90
theorem zA_63 {σ0 : sn_S} {σ : sn_S} (h_σ : zs_M0 σ0 σ) {x1 : Int32} (h_x1 : zs_in x1.toInt 11 21) {x3 : Int32} (h_x3 : zs_in x3.toInt 0 0) {x4 : Int32} (h_x4 : zs_in x4.toInt 0 5) {x5 : Int32} (h_x5 : zs_in x5.toInt 0 99) {x6 : Int32} (h_x6 : zs_in x6.toInt (-1) (-1)) {x7 : Int32} (h_x7 : zs_in x7.toInt (-1) (-1)) {x8 : Int32} (h_x8 : zs_in x8.toInt 0 9) {t0 : Int32} (h_t0 : zs_in t0.toInt 1 1) {c : Int} (hc : x8.toInt = c + 0) : zs_ok (BX9_quietBy_90 σ x1 x3 x4 x5 x6 x7 x8 t0) (fun r => zs_sum (fun v => ((zs_M0 σ0 v.1 ∧ (zs_in (v.2.1).toInt 0 9 ∧ zs_in (v.2.2).toInt (-1) 8))) ∧ v.2.2.toInt = c + (-1)) (fun v => False) r) := by
  unfold BX9_quietBy_90
  obtain rfl : x3 = (0 : Int32) := zs_eqv h_x3 (by decide)
  obtain rfl : x6 = (-1 : Int32) := zs_eqv h_x6 (by decide)
  obtain rfl : x7 = (-1 : Int32) := zs_eqv h_x7 (by decide)
  obtain rfl : t0 = (1 : Int32) := zs_eqv h_t0 (by decide)
  refine zs_ite (fun c1 => ?_) (fun c1 => ?_)
  · skip
    have r2 := (zs_I_eq c1)
    exact (zs_botr r2 h_t0 zlI_0 (by decide)).elim
  · skip
    have r3 := (zs_I_eqn c1)
    obtain ⟨ret, er, hr⟩ := zA_62 h_σ h_x1 h_x3 h_x4 h_x5 h_x6 h_x7 h_x8 h_x8 hc
    refine ⟨ret, er, ?_⟩
    exact (zs_sumw hr (fun v w => ⟨w.1, w.2⟩) (fun v w => w.elim))
-- BX9_quietBy_103
theorem zA_64 {σ0 : sn_S} {σ : sn_S} (h_σ : zs_M0 σ0 σ) {x1 : Int32} (h_x1 : zs_in x1.toInt 11 21) {x3 : Int32} (h_x3 : zs_in x3.toInt 0 0) {x4 : Int32} (h_x4 : zs_in x4.toInt 0 5) {x5 : Int32} (h_x5 : zs_in x5.toInt 0 99) {x6 : Int32} (h_x6 : zs_in x6.toInt (-1) (-1)) {x7 : Int32} (h_x7 : zs_in x7.toInt (-1) (-1)) {x8 : Int32} (h_x8 : zs_in x8.toInt 0 9) {t0 : Int32} (h_t0 : zs_in t0.toInt (-1) (-1)) {c : Int} (hc : x8.toInt = c + 0) : zs_ok (BX9_quietBy_103 σ x1 x3 x4 x5 x6 x7 x8 t0) (fun r => zs_sum (fun v => ((zs_M0 σ0 v.1 ∧ (zs_in (v.2.1).toInt (-1) (-1) ∧ zs_in (v.2.2).toInt (-1) 8))) ∧ v.2.2.toInt = c + (-1)) (fun v => False) r) := by
  unfold BX9_quietBy_103
  obtain rfl : x3 = (0 : Int32) := zs_eqv h_x3 (by decide)
  obtain rfl : x6 = (-1 : Int32) := zs_eqv h_x6 (by decide)
  obtain rfl : x7 = (-1 : Int32) := zs_eqv h_x7 (by decide)
  obtain rfl : t0 = (-1 : Int32) := zs_eqv h_t0 (by decide)
  refine zs_lt (Q := fun z => zs_in z.toInt (-1) 8 ∧ z.toInt = c + (-1)) ⟨(zs_addI (-1) 8 h_x8 h_x7 (by decide)), (zs_syI (-1) hc h_x8 zlI_m1 (by decide) (by decide))⟩ (fun y_1 hy_1 => ?_)
  exact zs_some (zs_inl ⟨⟨h_σ, ⟨h_t0, hy_1.1⟩⟩, hy_1.2⟩)
-- BX9_quietBy_90
theorem zA_65 {σ0 : sn_S} {σ : sn_S} (h_σ : zs_M0 σ0 σ) {x1 : Int32} (h_x1 : zs_in x1.toInt 11 21) {x3 : Int32} (h_x3 : zs_in x3.toInt 0 0) {x4 : Int32} (h_x4 : zs_in x4.toInt 0 5) {x5 : Int32} (h_x5 : zs_in x5.toInt 0 99) {x6 : Int32} (h_x6 : zs_in x6.toInt (-1) (-1)) {x7 : Int32} (h_x7 : zs_in x7.toInt (-1) (-1)) {x8 : Int32} (h_x8 : zs_in x8.toInt 0 9) {t0 : Int32} (h_t0 : zs_in t0.toInt 0 0) {c : Int} (hc : x8.toInt = c + 0) : zs_ok (BX9_quietBy_90 σ x1 x3 x4 x5 x6 x7 x8 t0) (fun r => zs_sum (fun v => ((zs_M0 σ0 v.1 ∧ (zs_in (v.2.1).toInt (-1) (-1) ∧ zs_in (v.2.2).toInt (-1) 8))) ∧ v.2.2.toInt = c + (-1)) (fun v => False) r) := by
  unfold BX9_quietBy_90
  obtain rfl : x3 = (0 : Int32) := zs_eqv h_x3 (by decide)
  obtain rfl : x6 = (-1 : Int32) := zs_eqv h_x6 (by decide)
  obtain rfl : x7 = (-1 : Int32) := zs_eqv h_x7 (by decide)
  obtain rfl : t0 = (0 : Int32) := zs_eqv h_t0 (by decide)
  refine zs_ite (fun c1 => ?_) (fun c1 => ?_)
  · skip
    have r2 := (zs_I_eq c1)
    obtain ⟨ret, er, hr⟩ := zA_64 h_σ h_x1 h_x3 h_x4 h_x5 h_x6 h_x7 h_x8 zlI_m1 hc
    refine ⟨ret, er, ?_⟩
    exact (zs_sumw hr (fun v w => ⟨w.1, w.2⟩) (fun v w => w.elim))
  · skip
    have r3 := (zs_I_eqn c1)
    exact (zs_botne r3 h_t0 zlI_0 (by decide)).elim
-- BX9_quietBy_26
theorem zA_66 {σ0 : sn_S} {σ : sn_S} (h_σ : zs_M0 σ0 σ) {x1 : Int32} (h_x1 : zs_in x1.toInt 11 21) {x3 : Int32} (h_x3 : zs_in x3.toInt 0 0) {x4 : Int32} (h_x4 : zs_in x4.toInt 0 5) {x5 : Int32} (h_x5 : zs_in x5.toInt 0 99) {x6 : Int32} (h_x6 : zs_in x6.toInt (-1) 9) {x7 : Int32} (h_x7 : zs_in x7.toInt (-1) (-1)) {x8 : Int32} (h_x8 : zs_in x8.toInt (-1) 9) {c : Int} (hc : x8.toInt = c + 0) : zs_ok (BX9_quietBy_26 σ x1 x3 x4 x5 x6 x7 x8) (fun r => zs_sum (fun v => ((zs_M0 σ0 v.1 ∧ (zs_in (v.2.1).toInt (-1) 9 ∧ zs_in (v.2.2).toInt (-1) 8))) ∧ v.2.2.toInt = c + (-1)) (fun v => (zs_M0 σ0 v.1 ∧ zs_in (v.2).toInt (-1) 9)) r) := by
  unfold BX9_quietBy_26
  obtain rfl : x3 = (0 : Int32) := zs_eqv h_x3 (by decide)
  obtain rfl : x7 = (-1 : Int32) := zs_eqv h_x7 (by decide)
  refine zs_ite (fun c1 => ?_) (fun c1 => ?_)
  · skip
    have r2 := (zs_I_eq c1)
    have g3 : zs_in (x8).toInt (-1) (-1) := (zs_eql (-1) (-1) r2 h_x8 (zs_addI (-1) (-1) h_x3 h_x7 (by decide)) (by decide))
    exact zs_some (zs_inr (⟨h_σ, h_x6⟩))
  · skip
    have r4 := (zs_I_eqn c1)
    have g5 : zs_in (x8).toInt 0 9 := (zs_nel 0 9 r4 h_x8 (zs_addI (-1) (-1) h_x3 h_x7 (by decide)) (by decide))
    refine zs_ite (fun c6 => ?_) (fun c6 => ?_)
    · skip
      have r7 := (zs_I_eq c6)
      have g8 : zs_in (x6).toInt (-1) (-1) := (zs_eql (-1) (-1) r7 h_x6 zlI_m1 (by decide))
      refine zs_gd (zs_gin h_x1 (by decide)) ?_
      refine zs_lt (Q := fun z => zs_M0 σ0 z) (zs_wrb h_σ g5 (zs_range h_x1 (fun k => zs_wb (zs_tM 1 k) 0 9 ∧ zs_fr zs_tM zs_kM0 1 k = false) (by decide +kernel))) (fun σ_4 hσ_4 => ?_)
      refine zs_bd_ (zA_61 hσ_4) (fun t_6 pt_6 => ?_)
      refine zs_ite (fun c9 => ?_) (fun c9 => ?_)
      · skip
        have r10 := (zs_I_eq c9)
        exact (zs_botr r10 h_x4 zlI_m1 (by decide)).elim
      · skip
        have r11 := (zs_I_eqn c9)
        refine zs_gd (zs_gin h_x4 (by decide)) ?_
        refine zs_ite (fun c12 => ?_) (fun c12 => ?_)
        · skip
          have r13 := (zs_I_eq c12)
          have g14 : zs_in ((sn_I t_6.2 10 x4.toNatClampNeg)).toInt 0 0 := (zs_eql 0 0 r13 (zs_rdu (q := 10) (z := (0, 1073741823)) pt_6.2.1 (fun _ => rfl)) zlI_0 (by decide))
          obtain ⟨ret, er, hr⟩ := zA_63 pt_6.2 h_x1 h_x3 h_x4 h_x5 g8 h_x7 g5 zlI_1 hc
          refine ⟨ret, er, ?_⟩
          exact (zs_sumw hr (fun v w => ⟨⟨w.1.1, ⟨(zs_w w.1.2.1 (by decide)), w.1.2.2⟩⟩, w.2⟩) (fun v w => w.elim))
        · skip
          have r15 := (zs_I_eqn c12)
          have g16 : zs_in ((sn_I t_6.2 10 x4.toNatClampNeg)).toInt 1 1073741823 := (zs_nel 1 1073741823 r15 (zs_rdu (q := 10) (z := (0, 1073741823)) pt_6.2.1 (fun _ => rfl)) zlI_0 (by decide))
          obtain ⟨ret, er, hr⟩ := zA_65 pt_6.2 h_x1 h_x3 h_x4 h_x5 g8 h_x7 g5 zlI_0 hc
          refine ⟨ret, er, ?_⟩
          exact (zs_sumw hr (fun v w => ⟨⟨w.1.1, ⟨(zs_w w.1.2.1 (by decide)), w.1.2.2⟩⟩, w.2⟩) (fun v w => w.elim))
    · skip
      have r17 := (zs_I_eqn c6)
      have g18 : zs_in (x6).toInt 0 9 := (zs_nel 0 9 r17 h_x6 zlI_m1 (by decide))
      exact zs_some (zs_inr (⟨h_σ, (zs_w g18 (by decide))⟩))
theorem zB_11 {σ0 : sn_S} {x1 : Int32} (h_x1 : zs_in x1.toInt 11 21) {x3 : Int32} (h_x3 : zs_in x3.toInt 0 0) {x4 : Int32} (h_x4 : zs_in x4.toInt 0 5) {x5 : Int32} (h_x5 : zs_in x5.toInt 0 99) {x7 : Int32} (h_x7 : zs_in x7.toInt (-1) (-1)) {s0 : (sn_S × (Int32 × Int32))} (h0 : (zs_M0 σ0 s0.1 ∧ (zs_in (s0.2.1).toInt (-1) 9 ∧ zs_in (s0.2.2).toInt (-1) 9))) : zs_ok (sn_it (LX9_quietBy_26 x1 x3 x4 x5 x7) 5000 s0) (fun t => (zs_M0 σ0 t.1 ∧ zs_in (t.2).toInt (-1) 9)) := by
  refine zs_it (I := fun s => (zs_M0 σ0 s.1 ∧ (zs_in (s.2.1).toInt (-1) 9 ∧ zs_in (s.2.2).toInt (-1) 9))) (m := fun s => s.2.2.toInt - (-1)) (fun s hs => ?_) (fun s hs => ?_) (by exact h0)
  · have h1 := hs.2.2; unfold zs_in at h1
    omega
  · obtain ⟨b, eb, hb⟩ := zA_66 hs.1 h_x1 h_x3 h_x4 h_x5 hs.2.1 h_x7 hs.2.2 (c := s.2.2.toInt) (Int.add_zero _).symm
    exact ⟨b, eb, zs_sumw hb (fun v w => ⟨⟨w.1.1, ⟨w.1.2.1, (zs_w w.1.2.2 (by decide))⟩⟩, by have := w.2; omega⟩) (fun v w => w)⟩
-- BX9_quietBy_115
theorem zA_67 {σ0 : sn_S} {σ : sn_S} (h_σ : zs_M0 σ0 σ) {x1 : Int32} (h_x1 : zs_in x1.toInt 11 21) {x5 : Int32} (h_x5 : zs_in x5.toInt 0 99) {x6 : Int32} (h_x6 : zs_in x6.toInt (-1) 9) : zs_ok (BX9_quietBy_115 σ x1 x5 x6) (fun r => (zs_in (r.1).toInt (-1) 9 ∧ zs_M0 σ0 r.2)) := by
  unfold BX9_quietBy_115
  refine zs_gd (zs_gin h_x1 (by decide)) ?_
  refine zs_lt (Q := fun z => zs_M0 σ0 z) (zs_wrb h_σ h_x5 (zs_range h_x1 (fun k => zs_wb (zs_tM 1 k) 0 99 ∧ zs_fr zs_tM zs_kM0 1 k = false) (by decide +kernel))) (fun σ_2 hσ_2 => ?_)
  exact zs_some ⟨h_x6, hσ_2⟩
-- BX9_quietBy_21
theorem zA_68 {σ0 : sn_S} {σ : sn_S} (h_σ : zs_M0 σ0 σ) {x1 : Int32} (h_x1 : zs_in x1.toInt 11 21) {x2 : Int32} (h_x2 : zs_in x2.toInt 9 9) {x3 : Int32} (h_x3 : zs_in x3.toInt 0 0) {x4 : Int32} (h_x4 : zs_in x4.toInt 0 5) {x5 : Int32} (h_x5 : zs_in x5.toInt 0 99) {x6 : Int32} (h_x6 : zs_in x6.toInt (-1) (-1)) {t0 : Int32} (h_t0 : zs_in t0.toInt (-1) (-1)) : zs_ok (BX9_quietBy_21 σ x1 x2 x3 x4 x5 x6 t0) (fun r => (zs_in (r.1).toInt (-1) 9 ∧ zs_M0 σ0 r.2)) := by
  unfold BX9_quietBy_21
  obtain rfl : x2 = (9 : Int32) := zs_eqv h_x2 (by decide)
  obtain rfl : x3 = (0 : Int32) := zs_eqv h_x3 (by decide)
  obtain rfl : x6 = (-1 : Int32) := zs_eqv h_x6 (by decide)
  obtain rfl : t0 = (-1 : Int32) := zs_eqv h_t0 (by decide)
  refine zs_bd_ (zB_11 h_x1 h_x3 h_x4 h_x5 h_t0 (s0 := (σ, ((-1 : Int32), (9 : Int32)))) ⟨h_σ, ⟨(zs_w h_x6 (by decide)), (zs_w h_x2 (by decide))⟩⟩) (fun t_1 pt_1 => ?_)
  obtain ⟨ret, er, hr⟩ := zA_67 pt_1.1 h_x1 h_x5 pt_1.2
  refine ⟨ret, er, ?_⟩
  exact hr
-- fX9_quietBy
theorem zA_69 {σ0 : sn_S} {σ : sn_S} (h_σ : zs_M0 σ0 σ) {x1 : Int32} (h_x1 : zs_in x1.toInt 11 21) {x2 : Int32} (h_x2 : zs_in x2.toInt 9 9) {x3 : Int32} (h_x3 : zs_in x3.toInt 0 0) {x4 : Int32} (h_x4 : zs_in x4.toInt 0 5) : zs_ok (fX9_quietBy σ x1 x2 x3 x4) (fun r => (zs_in (r.1).toInt (-1) 9 ∧ zs_M0 σ0 r.2)) := by
  unfold fX9_quietBy
  obtain rfl : x2 = (9 : Int32) := zs_eqv h_x2 (by decide)
  obtain rfl : x3 = (0 : Int32) := zs_eqv h_x3 (by decide)
  refine zs_gd (zs_gin h_x1 (by decide)) ?_
  refine zs_lt (Q := fun z => zs_in z.toInt 0 99) (zs_rdb (q := 1) (lo := 0) (hi := 99) h_σ.1 (zs_range h_x1 (fun k => zs_bd (zs_tM 1 k) 0 99) (by decide +kernel))) (fun y_2 hy_2 => ?_)
  refine zs_ite (fun c1 => ?_) (fun c1 => ?_)
  · skip
    have r2 := (zs_I_le c1)
    exact (zs_botle r2 h_x2 h_x3 (by decide)).elim
  · skip
    have r3 := (zs_I_len c1)
    obtain ⟨ret, er, hr⟩ := zA_68 h_σ h_x1 h_x2 h_x3 h_x4 hy_2 zlI_m1 zlI_m1
    refine ⟨ret, er, ?_⟩
    exact hr
-- fX9_dull
theorem zA_70 {σ0 : sn_S} {σ : sn_S} (h_σ : zs_M0 σ0 σ) {x1 : Int32} : zs_ok (fX9_dull σ x1) (fun r => ((zs_in (r.1).toInt (-2) 9 ∧ zs_M0 σ0 r.2)) ∧ ((r.1).toInt = (-2) ∨ (zs_in (x1).toInt 0 5))) := by
  unfold fX9_dull
  refine zs_bd_ (zA_2 h_σ (zs_64 (zs_topI _))) (fun t_1 pt_1 => ?_)
  refine zs_ite (fun c1 => ?_) (fun c1 => ?_)
  · skip
    have r2 := (zs_I_eq c1)
    have g3 : zs_in (t_1).toInt 0 0 := (zs_eql 0 0 r2 pt_1.1 zlI_0 (by decide))
    exact zs_some ⟨⟨(zs_w zlI_m2 (by decide)), h_σ⟩, Or.inl (zs_ptr zlI_m2)⟩
  · skip
    have r4 := (zs_I_eqn c1)
    have g5 : zs_in (t_1).toInt 1 1 := (zs_nel 1 1 r4 pt_1.1 zlI_0 (by decide))
    have q6 := (zs_or2 pt_1.2 g5 (by decide))
    have g7 : zs_in (x1.toInt64).toInt 0 5 := q6
    have g8 : zs_in (x1).toInt 0 5 := (zs_64r g7)
    refine zs_bd_ (zA_69 h_σ (zs_addI 11 21 zlI_11 (zs_mulI 0 10 zlI_2 g8 (by decide)) (by decide)) zlI_9 zlI_0 g8) (fun t_4 pt_4 => ?_)
    exact zs_some ⟨⟨(zs_w pt_4.1 (by decide)), pt_4.2⟩, Or.inr g8⟩
-- BX9_quietBy_103
theorem zA_71 {σ0 : sn_S} {σ : sn_S} (h_σ : zs_M0 σ0 σ) {x1 : Int32} (h_x1 : zs_in x1.toInt 12 22) {x3 : Int32} (h_x3 : zs_in x3.toInt 99 99) {x4 : Int32} (h_x4 : zs_in x4.toInt 0 5) {x5 : Int32} (h_x5 : zs_in x5.toInt 0 99) {x6 : Int32} (h_x6 : zs_in x6.toInt (-1) (-1)) {x7 : Int32} (h_x7 : zs_in x7.toInt 1 1) {x8 : Int32} (h_x8 : zs_in x8.toInt 1 99) {t0 : Int32} (h_t0 : zs_in t0.toInt 1 99) {c : Int} (hc : x8.toInt = c + 0) : zs_ok (BX9_quietBy_103 σ x1 x3 x4 x5 x6 x7 x8 t0) (fun r => zs_sum (fun v => ((zs_M0 σ0 v.1 ∧ (zs_in (v.2.1).toInt 1 99 ∧ zs_in (v.2.2).toInt 2 100))) ∧ v.2.2.toInt = c + 1) (fun v => False) r) := by
  unfold BX9_quietBy_103
  obtain rfl : x3 = (99 : Int32) := zs_eqv h_x3 (by decide)
  obtain rfl : x6 = (-1 : Int32) := zs_eqv h_x6 (by decide)
  obtain rfl : x7 = (1 : Int32) := zs_eqv h_x7 (by decide)
  refine zs_lt (Q := fun z => zs_in z.toInt 2 100 ∧ z.toInt = c + 1) ⟨(zs_addI 2 100 h_x8 h_x7 (by decide)), (zs_syI 1 hc h_x8 zlI_1 (by decide) (by decide))⟩ (fun y_1 hy_1 => ?_)
  exact zs_some (zs_inl ⟨⟨h_σ, ⟨h_t0, hy_1.1⟩⟩, hy_1.2⟩)
-- BX9_quietBy_90
theorem zA_72 {σ0 : sn_S} {σ : sn_S} (h_σ : zs_M0 σ0 σ) {x1 : Int32} (h_x1 : zs_in x1.toInt 12 22) {x3 : Int32} (h_x3 : zs_in x3.toInt 99 99) {x4 : Int32} (h_x4 : zs_in x4.toInt 0 5) {x5 : Int32} (h_x5 : zs_in x5.toInt 0 99) {x6 : Int32} (h_x6 : zs_in x6.toInt (-1) (-1)) {x7 : Int32} (h_x7 : zs_in x7.toInt 1 1) {x8 : Int32} (h_x8 : zs_in x8.toInt 1 99) {t0 : Int32} (h_t0 : zs_in t0.toInt 1 1) {c : Int} (hc : x8.toInt = c + 0) : zs_ok (BX9_quietBy_90 σ x1 x3 x4 x5 x6 x7 x8 t0) (fun r => zs_sum (fun v => ((zs_M0 σ0 v.1 ∧ (zs_in (v.2.1).toInt 1 99 ∧ zs_in (v.2.2).toInt 2 100))) ∧ v.2.2.toInt = c + 1) (fun v => False) r) := by
  unfold BX9_quietBy_90
  obtain rfl : x3 = (99 : Int32) := zs_eqv h_x3 (by decide)
  obtain rfl : x6 = (-1 : Int32) := zs_eqv h_x6 (by decide)
  obtain rfl : x7 = (1 : Int32) := zs_eqv h_x7 (by decide)
  obtain rfl : t0 = (1 : Int32) := zs_eqv h_t0 (by decide)
  refine zs_ite (fun c1 => ?_) (fun c1 => ?_)
  · skip
    have r2 := (zs_I_eq c1)
    exact (zs_botr r2 h_t0 zlI_0 (by decide)).elim
  · skip
    have r3 := (zs_I_eqn c1)
    obtain ⟨ret, er, hr⟩ := zA_71 h_σ h_x1 h_x3 h_x4 h_x5 h_x6 h_x7 h_x8 h_x8 hc
    refine ⟨ret, er, ?_⟩
    exact (zs_sumw hr (fun v w => ⟨w.1, w.2⟩) (fun v w => w.elim))
-- BX9_quietBy_103
theorem zA_73 {σ0 : sn_S} {σ : sn_S} (h_σ : zs_M0 σ0 σ) {x1 : Int32} (h_x1 : zs_in x1.toInt 12 22) {x3 : Int32} (h_x3 : zs_in x3.toInt 99 99) {x4 : Int32} (h_x4 : zs_in x4.toInt 0 5) {x5 : Int32} (h_x5 : zs_in x5.toInt 0 99) {x6 : Int32} (h_x6 : zs_in x6.toInt (-1) (-1)) {x7 : Int32} (h_x7 : zs_in x7.toInt 1 1) {x8 : Int32} (h_x8 : zs_in x8.toInt 1 99) {t0 : Int32} (h_t0 : zs_in t0.toInt (-1) (-1)) {c : Int} (hc : x8.toInt = c + 0) : zs_ok (BX9_quietBy_103 σ x1 x3 x4 x5 x6 x7 x8 t0) (fun r => zs_sum (fun v => ((zs_M0 σ0 v.1 ∧ (zs_in (v.2.1).toInt (-1) (-1) ∧ zs_in (v.2.2).toInt 2 100))) ∧ v.2.2.toInt = c + 1) (fun v => False) r) := by
  unfold BX9_quietBy_103
  obtain rfl : x3 = (99 : Int32) := zs_eqv h_x3 (by decide)
  obtain rfl : x6 = (-1 : Int32) := zs_eqv h_x6 (by decide)
  obtain rfl : x7 = (1 : Int32) := zs_eqv h_x7 (by decide)
  obtain rfl : t0 = (-1 : Int32) := zs_eqv h_t0 (by decide)
  refine zs_lt (Q := fun z => zs_in z.toInt 2 100 ∧ z.toInt = c + 1) ⟨(zs_addI 2 100 h_x8 h_x7 (by decide)), (zs_syI 1 hc h_x8 zlI_1 (by decide) (by decide))⟩ (fun y_1 hy_1 => ?_)
  exact zs_some (zs_inl ⟨⟨h_σ, ⟨h_t0, hy_1.1⟩⟩, hy_1.2⟩)
-- BX9_quietBy_90
theorem zA_74 {σ0 : sn_S} {σ : sn_S} (h_σ : zs_M0 σ0 σ) {x1 : Int32} (h_x1 : zs_in x1.toInt 12 22) {x3 : Int32} (h_x3 : zs_in x3.toInt 99 99) {x4 : Int32} (h_x4 : zs_in x4.toInt 0 5) {x5 : Int32} (h_x5 : zs_in x5.toInt 0 99) {x6 : Int32} (h_x6 : zs_in x6.toInt (-1) (-1)) {x7 : Int32} (h_x7 : zs_in x7.toInt 1 1) {x8 : Int32} (h_x8 : zs_in x8.toInt 1 99) {t0 : Int32} (h_t0 : zs_in t0.toInt 0 0) {c : Int} (hc : x8.toInt = c + 0) : zs_ok (BX9_quietBy_90 σ x1 x3 x4 x5 x6 x7 x8 t0) (fun r => zs_sum (fun v => ((zs_M0 σ0 v.1 ∧ (zs_in (v.2.1).toInt (-1) (-1) ∧ zs_in (v.2.2).toInt 2 100))) ∧ v.2.2.toInt = c + 1) (fun v => False) r) := by
  unfold BX9_quietBy_90
  obtain rfl : x3 = (99 : Int32) := zs_eqv h_x3 (by decide)
  obtain rfl : x6 = (-1 : Int32) := zs_eqv h_x6 (by decide)
  obtain rfl : x7 = (1 : Int32) := zs_eqv h_x7 (by decide)
  obtain rfl : t0 = (0 : Int32) := zs_eqv h_t0 (by decide)
  refine zs_ite (fun c1 => ?_) (fun c1 => ?_)
  · skip
    have r2 := (zs_I_eq c1)
    obtain ⟨ret, er, hr⟩ := zA_73 h_σ h_x1 h_x3 h_x4 h_x5 h_x6 h_x7 h_x8 zlI_m1 hc
    refine ⟨ret, er, ?_⟩
    exact (zs_sumw hr (fun v w => ⟨w.1, w.2⟩) (fun v w => w.elim))
  · skip
    have r3 := (zs_I_eqn c1)
    exact (zs_botne r3 h_t0 zlI_0 (by decide)).elim
-- BX9_quietBy_26
theorem zA_75 {σ0 : sn_S} {σ : sn_S} (h_σ : zs_M0 σ0 σ) {x1 : Int32} (h_x1 : zs_in x1.toInt 12 22) {x3 : Int32} (h_x3 : zs_in x3.toInt 99 99) {x4 : Int32} (h_x4 : zs_in x4.toInt 0 5) {x5 : Int32} (h_x5 : zs_in x5.toInt 0 99) {x6 : Int32} (h_x6 : zs_in x6.toInt (-1) 99) {x7 : Int32} (h_x7 : zs_in x7.toInt 1 1) {x8 : Int32} (h_x8 : zs_in x8.toInt 1 100) {c : Int} (hc : x8.toInt = c + 0) : zs_ok (BX9_quietBy_26 σ x1 x3 x4 x5 x6 x7 x8) (fun r => zs_sum (fun v => ((zs_M0 σ0 v.1 ∧ (zs_in (v.2.1).toInt (-1) 99 ∧ zs_in (v.2.2).toInt 2 100))) ∧ v.2.2.toInt = c + 1) (fun v => (zs_M0 σ0 v.1 ∧ zs_in (v.2).toInt (-1) 99)) r) := by
  unfold BX9_quietBy_26
  obtain rfl : x3 = (99 : Int32) := zs_eqv h_x3 (by decide)
  obtain rfl : x7 = (1 : Int32) := zs_eqv h_x7 (by decide)
  refine zs_ite (fun c1 => ?_) (fun c1 => ?_)
  · skip
    have r2 := (zs_I_eq c1)
    have g3 : zs_in (x8).toInt 100 100 := (zs_eql 100 100 r2 h_x8 (zs_addI 100 100 h_x3 h_x7 (by decide)) (by decide))
    exact zs_some (zs_inr (⟨h_σ, h_x6⟩))
  · skip
    have r4 := (zs_I_eqn c1)
    have g5 : zs_in (x8).toInt 1 99 := (zs_neh 1 99 r4 h_x8 (zs_addI 100 100 h_x3 h_x7 (by decide)) (by decide))
    refine zs_ite (fun c6 => ?_) (fun c6 => ?_)
    · skip
      have r7 := (zs_I_eq c6)
      have g8 : zs_in (x6).toInt (-1) (-1) := (zs_eql (-1) (-1) r7 h_x6 zlI_m1 (by decide))
      refine zs_gd (zs_gin h_x1 (by decide)) ?_
      refine zs_lt (Q := fun z => zs_M0 σ0 z) (zs_wrb h_σ g5 (zs_range h_x1 (fun k => zs_wb (zs_tM 1 k) 1 99 ∧ zs_fr zs_tM zs_kM0 1 k = false) (by decide +kernel))) (fun σ_4 hσ_4 => ?_)
      refine zs_bd_ (zA_61 hσ_4) (fun t_6 pt_6 => ?_)
      refine zs_ite (fun c9 => ?_) (fun c9 => ?_)
      · skip
        have r10 := (zs_I_eq c9)
        exact (zs_botr r10 h_x4 zlI_m1 (by decide)).elim
      · skip
        have r11 := (zs_I_eqn c9)
        refine zs_gd (zs_gin h_x4 (by decide)) ?_
        refine zs_ite (fun c12 => ?_) (fun c12 => ?_)
        · skip
          have r13 := (zs_I_eq c12)
          have g14 : zs_in ((sn_I t_6.2 10 x4.toNatClampNeg)).toInt 0 0 := (zs_eql 0 0 r13 (zs_rdu (q := 10) (z := (0, 1073741823)) pt_6.2.1 (fun _ => rfl)) zlI_0 (by decide))
          obtain ⟨ret, er, hr⟩ := zA_72 pt_6.2 h_x1 h_x3 h_x4 h_x5 g8 h_x7 g5 zlI_1 hc
          refine ⟨ret, er, ?_⟩
          exact (zs_sumw hr (fun v w => ⟨⟨w.1.1, ⟨(zs_w w.1.2.1 (by decide)), w.1.2.2⟩⟩, w.2⟩) (fun v w => w.elim))
        · skip
          have r15 := (zs_I_eqn c12)
          have g16 : zs_in ((sn_I t_6.2 10 x4.toNatClampNeg)).toInt 1 1073741823 := (zs_nel 1 1073741823 r15 (zs_rdu (q := 10) (z := (0, 1073741823)) pt_6.2.1 (fun _ => rfl)) zlI_0 (by decide))
          obtain ⟨ret, er, hr⟩ := zA_74 pt_6.2 h_x1 h_x3 h_x4 h_x5 g8 h_x7 g5 zlI_0 hc
          refine ⟨ret, er, ?_⟩
          exact (zs_sumw hr (fun v w => ⟨⟨w.1.1, ⟨(zs_w w.1.2.1 (by decide)), w.1.2.2⟩⟩, w.2⟩) (fun v w => w.elim))
    · skip
      have r17 := (zs_I_eqn c6)
      have g18 : zs_in (x6).toInt 0 99 := (zs_nel 0 99 r17 h_x6 zlI_m1 (by decide))
      exact zs_some (zs_inr (⟨h_σ, (zs_w g18 (by decide))⟩))
theorem zB_12 {σ0 : sn_S} {x1 : Int32} (h_x1 : zs_in x1.toInt 12 22) {x3 : Int32} (h_x3 : zs_in x3.toInt 99 99) {x4 : Int32} (h_x4 : zs_in x4.toInt 0 5) {x5 : Int32} (h_x5 : zs_in x5.toInt 0 99) {x7 : Int32} (h_x7 : zs_in x7.toInt 1 1) {s0 : (sn_S × (Int32 × Int32))} (h0 : (zs_M0 σ0 s0.1 ∧ (zs_in (s0.2.1).toInt (-1) 99 ∧ zs_in (s0.2.2).toInt 1 100))) : zs_ok (sn_it (LX9_quietBy_26 x1 x3 x4 x5 x7) 5000 s0) (fun t => (zs_M0 σ0 t.1 ∧ zs_in (t.2).toInt (-1) 99)) := by
  refine zs_it (I := fun s => (zs_M0 σ0 s.1 ∧ (zs_in (s.2.1).toInt (-1) 99 ∧ zs_in (s.2.2).toInt 1 100))) (m := fun s => 100 - s.2.2.toInt) (fun s hs => ?_) (fun s hs => ?_) (by exact h0)
  · have h1 := hs.2.2; unfold zs_in at h1
    omega
  · obtain ⟨b, eb, hb⟩ := zA_75 hs.1 h_x1 h_x3 h_x4 h_x5 hs.2.1 h_x7 hs.2.2 (c := s.2.2.toInt) (Int.add_zero _).symm
    exact ⟨b, eb, zs_sumw hb (fun v w => ⟨⟨w.1.1, ⟨w.1.2.1, (zs_w w.1.2.2 (by decide))⟩⟩, by have := w.2; omega⟩) (fun v w => w)⟩
-- BX9_quietBy_115
theorem zA_76 {σ0 : sn_S} {σ : sn_S} (h_σ : zs_M0 σ0 σ) {x1 : Int32} (h_x1 : zs_in x1.toInt 12 22) {x5 : Int32} (h_x5 : zs_in x5.toInt 0 99) {x6 : Int32} (h_x6 : zs_in x6.toInt (-1) 99) : zs_ok (BX9_quietBy_115 σ x1 x5 x6) (fun r => (zs_in (r.1).toInt (-1) 99 ∧ zs_M0 σ0 r.2)) := by
  unfold BX9_quietBy_115
  refine zs_gd (zs_gin h_x1 (by decide)) ?_
  refine zs_lt (Q := fun z => zs_M0 σ0 z) (zs_wrb h_σ h_x5 (zs_range h_x1 (fun k => zs_wb (zs_tM 1 k) 0 99 ∧ zs_fr zs_tM zs_kM0 1 k = false) (by decide +kernel))) (fun σ_2 hσ_2 => ?_)
  exact zs_some ⟨h_x6, hσ_2⟩
-- BX9_quietBy_21
theorem zA_77 {σ0 : sn_S} {σ : sn_S} (h_σ : zs_M0 σ0 σ) {x1 : Int32} (h_x1 : zs_in x1.toInt 12 22) {x2 : Int32} (h_x2 : zs_in x2.toInt 1 1) {x3 : Int32} (h_x3 : zs_in x3.toInt 99 99) {x4 : Int32} (h_x4 : zs_in x4.toInt 0 5) {x5 : Int32} (h_x5 : zs_in x5.toInt 0 99) {x6 : Int32} (h_x6 : zs_in x6.toInt (-1) (-1)) {t0 : Int32} (h_t0 : zs_in t0.toInt 1 1) : zs_ok (BX9_quietBy_21 σ x1 x2 x3 x4 x5 x6 t0) (fun r => (zs_in (r.1).toInt (-1) 99 ∧ zs_M0 σ0 r.2)) := by
  unfold BX9_quietBy_21
  obtain rfl : x2 = (1 : Int32) := zs_eqv h_x2 (by decide)
  obtain rfl : x3 = (99 : Int32) := zs_eqv h_x3 (by decide)
  obtain rfl : x6 = (-1 : Int32) := zs_eqv h_x6 (by decide)
  obtain rfl : t0 = (1 : Int32) := zs_eqv h_t0 (by decide)
  refine zs_bd_ (zB_12 h_x1 h_x3 h_x4 h_x5 h_t0 (s0 := (σ, ((-1 : Int32), (1 : Int32)))) ⟨h_σ, ⟨(zs_w h_x6 (by decide)), (zs_w h_x2 (by decide))⟩⟩) (fun t_1 pt_1 => ?_)
  obtain ⟨ret, er, hr⟩ := zA_76 pt_1.1 h_x1 h_x5 pt_1.2
  refine ⟨ret, er, ?_⟩
  exact hr
-- fX9_quietBy
theorem zA_78 {σ0 : sn_S} {σ : sn_S} (h_σ : zs_M0 σ0 σ) {x1 : Int32} (h_x1 : zs_in x1.toInt 12 22) {x2 : Int32} (h_x2 : zs_in x2.toInt 1 1) {x3 : Int32} (h_x3 : zs_in x3.toInt 99 99) {x4 : Int32} (h_x4 : zs_in x4.toInt 0 5) : zs_ok (fX9_quietBy σ x1 x2 x3 x4) (fun r => (zs_in (r.1).toInt (-1) 99 ∧ zs_M0 σ0 r.2)) := by
  unfold fX9_quietBy
  obtain rfl : x2 = (1 : Int32) := zs_eqv h_x2 (by decide)
  obtain rfl : x3 = (99 : Int32) := zs_eqv h_x3 (by decide)
  refine zs_gd (zs_gin h_x1 (by decide)) ?_
  refine zs_lt (Q := fun z => zs_in z.toInt 0 99) (zs_rdb (q := 1) (lo := 0) (hi := 99) h_σ.1 (zs_range h_x1 (fun k => zs_bd (zs_tM 1 k) 0 99) (by decide +kernel))) (fun y_2 hy_2 => ?_)
  refine zs_ite (fun c1 => ?_) (fun c1 => ?_)
  · skip
    have r2 := (zs_I_le c1)
    obtain ⟨ret, er, hr⟩ := zA_77 h_σ h_x1 h_x2 h_x3 h_x4 hy_2 zlI_m1 zlI_1
    refine ⟨ret, er, ?_⟩
    exact hr
  · skip
    have r3 := (zs_I_len c1)
    exact (zs_botlt r3 h_x3 h_x2 (by decide)).elim
-- fX9_bears
theorem zA_79 {σ0 : sn_S} {σ : sn_S} (h_σ : zs_M0 σ0 σ) {x1 : Int32} : zs_ok (fX9_bears σ x1) (fun r => ((zs_in (r.1).toInt (-2) 99 ∧ zs_M0 σ0 r.2)) ∧ ((r.1).toInt = (-2) ∨ (zs_in (x1).toInt 0 5))) := by
  unfold fX9_bears
  refine zs_bd_ (zA_2 h_σ (zs_64 (zs_topI _))) (fun t_1 pt_1 => ?_)
  refine zs_ite (fun c1 => ?_) (fun c1 => ?_)
  · skip
    have r2 := (zs_I_eq c1)
    have g3 : zs_in (t_1).toInt 0 0 := (zs_eql 0 0 r2 pt_1.1 zlI_0 (by decide))
    exact zs_some ⟨⟨(zs_w zlI_m2 (by decide)), h_σ⟩, Or.inl (zs_ptr zlI_m2)⟩
  · skip
    have r4 := (zs_I_eqn c1)
    have g5 : zs_in (t_1).toInt 1 1 := (zs_nel 1 1 r4 pt_1.1 zlI_0 (by decide))
    have q6 := (zs_or2 pt_1.2 g5 (by decide))
    have g7 : zs_in (x1.toInt64).toInt 0 5 := q6
    have g8 : zs_in (x1).toInt 0 5 := (zs_64r g7)
    refine zs_bd_ (zA_78 h_σ (zs_addI 12 22 (zs_addI 11 21 zlI_11 (zs_mulI 0 10 zlI_2 g8 (by decide)) (by decide)) zlI_1 (by decide)) zlI_1 zlI_99 g8) (fun t_4 pt_4 => ?_)
    exact zs_some ⟨⟨(zs_w pt_4.1 (by decide)), pt_4.2⟩, Or.inr g8⟩
-- BX9_bits_4
theorem zA_80 {x0 : Int32} (h_x0 : zs_in x0.toInt 0 1073741823) {x1 : Int32} {x2 : Int32} (h_x2 : zs_in x2.toInt 0 30) {c : Int} (hc : x2.toInt = c + 0) : zs_ok (BX9_bits_4 x0 x1 x2) (fun r => zs_sum (fun v => ((True ∧ zs_in (v.2).toInt 1 30)) ∧ v.2.toInt = c + 1) (fun v => True) r) := by
  unfold BX9_bits_4
  refine zs_ite (fun c1 => ?_) (fun c1 => ?_)
  · skip
    have r2 := (zs_I_le c1)
    have g3 : zs_in (x2).toInt 30 30 := (zs_ler 30 30 r2 zlI_30 h_x2 (by decide))
    exact zs_some (zs_inr (trivial))
  · skip
    have r4 := (zs_I_len c1)
    have g5 : zs_in (x2).toInt 0 29 := (zs_ltl 0 29 r4 h_x2 zlI_30 (by decide))
    refine zs_lt (Q := fun z => True) trivial (fun y_2 hy_2 => ?_)
    refine zs_lt (Q := fun z => zs_in z.toInt 1 30 ∧ z.toInt = c + 1) ⟨(zs_addI 1 30 g5 zlI_1 (by decide)), (zs_syI 1 hc g5 zlI_1 (by decide) (by decide))⟩ (fun y_4 hy_4 => ?_)
    exact zs_some (zs_inl ⟨⟨trivial, hy_4.1⟩, hy_4.2⟩)
theorem zB_13 {x0 : Int32} (h_x0 : zs_in x0.toInt 0 1073741823) {s0 : (Int32 × Int32)} (h0 : (True ∧ zs_in (s0.2).toInt 0 30)) : zs_ok (sn_it (LX9_bits_4 x0) 5000 s0) (fun t => True) := by
  refine zs_it (I := fun s => (True ∧ zs_in (s.2).toInt 0 30)) (m := fun s => 30 - s.2.toInt) (fun s hs => ?_) (fun s hs => ?_) (by exact h0)
  · have h1 := hs.2; unfold zs_in at h1
    omega
  · obtain ⟨b, eb, hb⟩ := zA_80 h_x0 hs.2 (c := s.2.toInt) (Int.add_zero _).symm
    exact ⟨b, eb, zs_sumw hb (fun v w => ⟨⟨w.1.1, (zs_w w.1.2 (by decide))⟩, by have := w.2; omega⟩) (fun v w => w)⟩
-- BX9_bits_24
theorem zA_81 {x1 : Int32} : zs_ok (BX9_bits_24 x1) (fun r => True) := by
  unfold BX9_bits_24
  exact zs_some trivial
-- fX9_bits
theorem zA_82 {x0 : Int32} (h_x0 : zs_in x0.toInt 0 1073741823) : zs_ok (fX9_bits x0) (fun r => True) := by
  unfold fX9_bits
  refine zs_bd_ (zB_13 h_x0 (s0 := ((0 : Int32), (0 : Int32))) ⟨trivial, (zs_w zlI_0 (by decide))⟩) (fun t_1 pt_1 => ?_)
  obtain ⟨ret, er, hr⟩ := zA_81
  refine ⟨ret, er, ?_⟩
  exact hr
-- BX9_allSneezes_4
theorem zA_83 {σ0 : sn_S} {σ : sn_S} (h_σ : zs_M0 σ0 σ) {x1 : Int32} {x2 : Int32} (h_x2 : zs_in x2.toInt 0 6) {c : Int} (hc : x2.toInt = c + 0) : zs_ok (BX9_allSneezes_4 σ x1 x2) (fun r => zs_sum (fun v => ((True ∧ zs_in (v.2).toInt 1 6)) ∧ v.2.toInt = c + 1) (fun v => True) r) := by
  unfold BX9_allSneezes_4
  refine zs_gd (zs_gin zlI_5 (by decide)) ?_
  refine zs_ite (fun c1 => ?_) (fun c1 => ?_)
  · skip
    have r2 := (zs_I_le c1)
    exact zs_some (zs_inr (trivial))
  · skip
    have r3 := (zs_I_len c1)
    have g4 : zs_in (x2).toInt 0 5 := (zs_ltl 0 5 r3 h_x2 (zs_rdk (q := 1) (k := (5 : Int32).toNatClampNeg) (z := (0, 6)) h_σ.1 rfl) (by decide))
    have g5 : zs_in ((sn_I σ 1 (5 : Int32).toNatClampNeg)).toInt 1 6 := (zs_ltr 1 6 r3 h_x2 (zs_rdk (q := 1) (k := (5 : Int32).toNatClampNeg) (z := (0, 6)) h_σ.1 rfl) (by decide))
    refine zs_gd (zs_gin g4 (by decide)) ?_
    refine zs_bd_ (zA_82 (zs_rdu (q := 10) (z := (0, 1073741823)) h_σ.1 (fun _ => rfl))) (fun t_4 pt_4 => ?_)
    refine zs_lt (Q := fun z => True) trivial (fun y_6 hy_6 => ?_)
    refine zs_lt (Q := fun z => zs_in z.toInt 1 6 ∧ z.toInt = c + 1) ⟨(zs_addI 1 6 g4 zlI_1 (by decide)), (zs_syI 1 hc g4 zlI_1 (by decide) (by decide))⟩ (fun y_8 hy_8 => ?_)
    exact zs_some (zs_inl ⟨⟨trivial, hy_8.1⟩, hy_8.2⟩)
theorem zB_14 {σ0 : sn_S} {σ : sn_S} (h_σ : zs_M0 σ0 σ) {s0 : (Int32 × Int32)} (h0 : (True ∧ zs_in (s0.2).toInt 0 6)) : zs_ok (sn_it (LX9_allSneezes_4 σ) 5000 s0) (fun t => True) := by
  refine zs_it (I := fun s => (True ∧ zs_in (s.2).toInt 0 6)) (m := fun s => 6 - s.2.toInt) (fun s hs => ?_) (fun s hs => ?_) (by exact h0)
  · have h1 := hs.2; unfold zs_in at h1
    omega
  · obtain ⟨b, eb, hb⟩ := zA_83 h_σ hs.2 (c := s.2.toInt) (Int.add_zero _).symm
    exact ⟨b, eb, zs_sumw hb (fun v w => ⟨⟨w.1.1, (zs_w w.1.2 (by decide))⟩, by have := w.2; omega⟩) (fun v w => w)⟩
-- BX9_allSneezes_32
theorem zA_84 {σ0 : sn_S} {σ : sn_S} (h_σ : zs_M0 σ0 σ) {x1 : Int32} : zs_ok (BX9_allSneezes_32 σ x1) (fun r => True) := by
  unfold BX9_allSneezes_32
  exact zs_some trivial
-- fX9_allSneezes
theorem zA_85 {σ0 : sn_S} {σ : sn_S} (h_σ : zs_M0 σ0 σ) : zs_ok (fX9_allSneezes σ) (fun r => True) := by
  unfold fX9_allSneezes
  refine zs_bd_ (zB_14 h_σ (s0 := ((0 : Int32), (0 : Int32))) ⟨trivial, (zs_w zlI_0 (by decide))⟩) (fun t_1 pt_1 => ?_)
  obtain ⟨ret, er, hr⟩ := zA_84 h_σ
  refine ⟨ret, er, ?_⟩
  exact hr
-- BX9_quietBy_103
theorem zA_86 {σ0 : sn_S} {σ : sn_S} (h_σ : zs_M0 σ0 σ) {x1 : Int32} (h_x1 : zs_in x1.toInt 1 1) {x3 : Int32} (h_x3 : zs_in x3.toInt 0 0) {x4 : Int32} (h_x4 : zs_in x4.toInt (-1) (-1)) {x5 : Int32} (h_x5 : zs_in x5.toInt 0 9) {x6 : Int32} (h_x6 : zs_in x6.toInt (-1) (-1)) {x7 : Int32} (h_x7 : zs_in x7.toInt (-1) (-1)) {x8 : Int32} (h_x8 : zs_in x8.toInt 0 9) {t0 : Int32} (h_t0 : zs_in t0.toInt 0 9) {c : Int} (hc : x8.toInt = c + 0) : zs_ok (BX9_quietBy_103 σ x1 x3 x4 x5 x6 x7 x8 t0) (fun r => zs_sum (fun v => ((zs_M0 σ0 v.1 ∧ (zs_in (v.2.1).toInt 0 9 ∧ zs_in (v.2.2).toInt (-1) 8))) ∧ v.2.2.toInt = c + (-1)) (fun v => False) r) := by
  unfold BX9_quietBy_103
  obtain rfl : x1 = (1 : Int32) := zs_eqv h_x1 (by decide)
  obtain rfl : x3 = (0 : Int32) := zs_eqv h_x3 (by decide)
  obtain rfl : x4 = (-1 : Int32) := zs_eqv h_x4 (by decide)
  obtain rfl : x6 = (-1 : Int32) := zs_eqv h_x6 (by decide)
  obtain rfl : x7 = (-1 : Int32) := zs_eqv h_x7 (by decide)
  refine zs_lt (Q := fun z => zs_in z.toInt (-1) 8 ∧ z.toInt = c + (-1)) ⟨(zs_addI (-1) 8 h_x8 h_x7 (by decide)), (zs_syI (-1) hc h_x8 zlI_m1 (by decide) (by decide))⟩ (fun y_1 hy_1 => ?_)
  exact zs_some (zs_inl ⟨⟨h_σ, ⟨h_t0, hy_1.1⟩⟩, hy_1.2⟩)
-- BX9_quietBy_90
theorem zA_87 {σ0 : sn_S} {σ : sn_S} (h_σ : zs_M0 σ0 σ) {x1 : Int32} (h_x1 : zs_in x1.toInt 1 1) {x3 : Int32} (h_x3 : zs_in x3.toInt 0 0) {x4 : Int32} (h_x4 : zs_in x4.toInt (-1) (-1)) {x5 : Int32} (h_x5 : zs_in x5.toInt 0 9) {x6 : Int32} (h_x6 : zs_in x6.toInt (-1) (-1)) {x7 : Int32} (h_x7 : zs_in x7.toInt (-1) (-1)) {x8 : Int32} (h_x8 : zs_in x8.toInt 0 9) {t0 : Int32} (h_t0 : zs_in t0.toInt 1 1) {c : Int} (hc : x8.toInt = c + 0) : zs_ok (BX9_quietBy_90 σ x1 x3 x4 x5 x6 x7 x8 t0) (fun r => zs_sum (fun v => ((zs_M0 σ0 v.1 ∧ (zs_in (v.2.1).toInt 0 9 ∧ zs_in (v.2.2).toInt (-1) 8))) ∧ v.2.2.toInt = c + (-1)) (fun v => False) r) := by
  unfold BX9_quietBy_90
  obtain rfl : x1 = (1 : Int32) := zs_eqv h_x1 (by decide)
  obtain rfl : x3 = (0 : Int32) := zs_eqv h_x3 (by decide)
  obtain rfl : x4 = (-1 : Int32) := zs_eqv h_x4 (by decide)
  obtain rfl : x6 = (-1 : Int32) := zs_eqv h_x6 (by decide)
  obtain rfl : x7 = (-1 : Int32) := zs_eqv h_x7 (by decide)
  obtain rfl : t0 = (1 : Int32) := zs_eqv h_t0 (by decide)
  refine zs_ite (fun c1 => ?_) (fun c1 => ?_)
  · skip
    have r2 := (zs_I_eq c1)
    exact (zs_botr r2 h_t0 zlI_0 (by decide)).elim
  · skip
    have r3 := (zs_I_eqn c1)
    obtain ⟨ret, er, hr⟩ := zA_86 h_σ h_x1 h_x3 h_x4 h_x5 h_x6 h_x7 h_x8 h_x8 hc
    refine ⟨ret, er, ?_⟩
    exact (zs_sumw hr (fun v w => ⟨w.1, w.2⟩) (fun v w => w.elim))
-- BX9_quietBy_103
theorem zA_88 {σ0 : sn_S} {σ : sn_S} (h_σ : zs_M0 σ0 σ) {x1 : Int32} (h_x1 : zs_in x1.toInt 1 1) {x3 : Int32} (h_x3 : zs_in x3.toInt 0 0) {x4 : Int32} (h_x4 : zs_in x4.toInt (-1) (-1)) {x5 : Int32} (h_x5 : zs_in x5.toInt 0 9) {x6 : Int32} (h_x6 : zs_in x6.toInt (-1) (-1)) {x7 : Int32} (h_x7 : zs_in x7.toInt (-1) (-1)) {x8 : Int32} (h_x8 : zs_in x8.toInt 0 9) {t0 : Int32} (h_t0 : zs_in t0.toInt (-1) (-1)) {c : Int} (hc : x8.toInt = c + 0) : zs_ok (BX9_quietBy_103 σ x1 x3 x4 x5 x6 x7 x8 t0) (fun r => zs_sum (fun v => ((zs_M0 σ0 v.1 ∧ (zs_in (v.2.1).toInt (-1) (-1) ∧ zs_in (v.2.2).toInt (-1) 8))) ∧ v.2.2.toInt = c + (-1)) (fun v => False) r) := by
  unfold BX9_quietBy_103
  obtain rfl : x1 = (1 : Int32) := zs_eqv h_x1 (by decide)
  obtain rfl : x3 = (0 : Int32) := zs_eqv h_x3 (by decide)
  obtain rfl : x4 = (-1 : Int32) := zs_eqv h_x4 (by decide)
  obtain rfl : x6 = (-1 : Int32) := zs_eqv h_x6 (by decide)
  obtain rfl : x7 = (-1 : Int32) := zs_eqv h_x7 (by decide)
  obtain rfl : t0 = (-1 : Int32) := zs_eqv h_t0 (by decide)
  refine zs_lt (Q := fun z => zs_in z.toInt (-1) 8 ∧ z.toInt = c + (-1)) ⟨(zs_addI (-1) 8 h_x8 h_x7 (by decide)), (zs_syI (-1) hc h_x8 zlI_m1 (by decide) (by decide))⟩ (fun y_1 hy_1 => ?_)
  exact zs_some (zs_inl ⟨⟨h_σ, ⟨h_t0, hy_1.1⟩⟩, hy_1.2⟩)
-- BX9_quietBy_90
theorem zA_89 {σ0 : sn_S} {σ : sn_S} (h_σ : zs_M0 σ0 σ) {x1 : Int32} (h_x1 : zs_in x1.toInt 1 1) {x3 : Int32} (h_x3 : zs_in x3.toInt 0 0) {x4 : Int32} (h_x4 : zs_in x4.toInt (-1) (-1)) {x5 : Int32} (h_x5 : zs_in x5.toInt 0 9) {x6 : Int32} (h_x6 : zs_in x6.toInt (-1) (-1)) {x7 : Int32} (h_x7 : zs_in x7.toInt (-1) (-1)) {x8 : Int32} (h_x8 : zs_in x8.toInt 0 9) {t0 : Int32} (h_t0 : zs_in t0.toInt 0 0) {c : Int} (hc : x8.toInt = c + 0) : zs_ok (BX9_quietBy_90 σ x1 x3 x4 x5 x6 x7 x8 t0) (fun r => zs_sum (fun v => ((zs_M0 σ0 v.1 ∧ (zs_in (v.2.1).toInt (-1) (-1) ∧ zs_in (v.2.2).toInt (-1) 8))) ∧ v.2.2.toInt = c + (-1)) (fun v => False) r) := by
  unfold BX9_quietBy_90
  obtain rfl : x1 = (1 : Int32) := zs_eqv h_x1 (by decide)
  obtain rfl : x3 = (0 : Int32) := zs_eqv h_x3 (by decide)
  obtain rfl : x4 = (-1 : Int32) := zs_eqv h_x4 (by decide)
  obtain rfl : x6 = (-1 : Int32) := zs_eqv h_x6 (by decide)
  obtain rfl : x7 = (-1 : Int32) := zs_eqv h_x7 (by decide)
  obtain rfl : t0 = (0 : Int32) := zs_eqv h_t0 (by decide)
  refine zs_ite (fun c1 => ?_) (fun c1 => ?_)
  · skip
    have r2 := (zs_I_eq c1)
    obtain ⟨ret, er, hr⟩ := zA_88 h_σ h_x1 h_x3 h_x4 h_x5 h_x6 h_x7 h_x8 zlI_m1 hc
    refine ⟨ret, er, ?_⟩
    exact (zs_sumw hr (fun v w => ⟨w.1, w.2⟩) (fun v w => w.elim))
  · skip
    have r3 := (zs_I_eqn c1)
    exact (zs_botne r3 h_t0 zlI_0 (by decide)).elim
-- BX9_quietBy_26
theorem zA_90 {σ0 : sn_S} {σ : sn_S} (h_σ : zs_M0 σ0 σ) {x1 : Int32} (h_x1 : zs_in x1.toInt 1 1) {x3 : Int32} (h_x3 : zs_in x3.toInt 0 0) {x4 : Int32} (h_x4 : zs_in x4.toInt (-1) (-1)) {x5 : Int32} (h_x5 : zs_in x5.toInt 0 9) {x6 : Int32} (h_x6 : zs_in x6.toInt (-1) 9) {x7 : Int32} (h_x7 : zs_in x7.toInt (-1) (-1)) {x8 : Int32} (h_x8 : zs_in x8.toInt (-1) 9) {c : Int} (hc : x8.toInt = c + 0) : zs_ok (BX9_quietBy_26 σ x1 x3 x4 x5 x6 x7 x8) (fun r => zs_sum (fun v => ((zs_M0 σ0 v.1 ∧ (zs_in (v.2.1).toInt (-1) 9 ∧ zs_in (v.2.2).toInt (-1) 8))) ∧ v.2.2.toInt = c + (-1)) (fun v => (zs_M0 σ0 v.1 ∧ zs_in (v.2).toInt (-1) 9)) r) := by
  unfold BX9_quietBy_26
  obtain rfl : x1 = (1 : Int32) := zs_eqv h_x1 (by decide)
  obtain rfl : x3 = (0 : Int32) := zs_eqv h_x3 (by decide)
  obtain rfl : x4 = (-1 : Int32) := zs_eqv h_x4 (by decide)
  obtain rfl : x7 = (-1 : Int32) := zs_eqv h_x7 (by decide)
  refine zs_ite (fun c1 => ?_) (fun c1 => ?_)
  · skip
    have r2 := (zs_I_eq c1)
    have g3 : zs_in (x8).toInt (-1) (-1) := (zs_eql (-1) (-1) r2 h_x8 (zs_addI (-1) (-1) h_x3 h_x7 (by decide)) (by decide))
    exact zs_some (zs_inr (⟨h_σ, h_x6⟩))
  · skip
    have r4 := (zs_I_eqn c1)
    have g5 : zs_in (x8).toInt 0 9 := (zs_nel 0 9 r4 h_x8 (zs_addI (-1) (-1) h_x3 h_x7 (by decide)) (by decide))
    refine zs_ite (fun c6 => ?_) (fun c6 => ?_)
    · skip
      have r7 := (zs_I_eq c6)
      have g8 : zs_in (x6).toInt (-1) (-1) := (zs_eql (-1) (-1) r7 h_x6 zlI_m1 (by decide))
      refine zs_gd (zs_gin h_x1 (by decide)) ?_
      refine zs_lt (Q := fun z => zs_M0 σ0 z) (zs_wrb h_σ g5 (zs_range zlI_1 (fun k => zs_wb (zs_tM 1 k) 0 9 ∧ zs_fr zs_tM zs_kM0 1 k = false) (by decide +kernel))) (fun σ_4 hσ_4 => ?_)
      refine zs_bd_ (zA_61 hσ_4) (fun t_6 pt_6 => ?_)
      refine zs_ite (fun c9 => ?_) (fun c9 => ?_)
      · skip
        have r10 := (zs_I_eq c9)
        refine zs_bd_ (zA_85 pt_6.2) (fun t_11 pt_11 => ?_)
        refine zs_ite (fun c11 => ?_) (fun c11 => ?_)
        · skip
          have r12 := (zs_I_eq c11)
          have g13 : zs_in (t_11).toInt 0 0 := (zs_eql 0 0 r12 (zs_topI _) zlI_0 (by decide))
          obtain ⟨ret, er, hr⟩ := zA_87 pt_6.2 h_x1 h_x3 h_x4 h_x5 g8 h_x7 g5 zlI_1 hc
          refine ⟨ret, er, ?_⟩
          exact (zs_sumw hr (fun v w => ⟨⟨w.1.1, ⟨(zs_w w.1.2.1 (by decide)), w.1.2.2⟩⟩, w.2⟩) (fun v w => w.elim))
        · skip
          have r14 := (zs_I_eqn c11)
          obtain ⟨ret, er, hr⟩ := zA_89 pt_6.2 h_x1 h_x3 h_x4 h_x5 g8 h_x7 g5 zlI_0 hc
          refine ⟨ret, er, ?_⟩
          exact (zs_sumw hr (fun v w => ⟨⟨w.1.1, ⟨(zs_w w.1.2.1 (by decide)), w.1.2.2⟩⟩, w.2⟩) (fun v w => w.elim))
      · skip
        have r15 := (zs_I_eqn c9)
        exact (zs_botne r15 h_x4 zlI_m1 (by decide)).elim
    · skip
      have r16 := (zs_I_eqn c6)
      have g17 : zs_in (x6).toInt 0 9 := (zs_nel 0 9 r16 h_x6 zlI_m1 (by decide))
      exact zs_some (zs_inr (⟨h_σ, (zs_w g17 (by decide))⟩))
theorem zB_15 {σ0 : sn_S} {x1 : Int32} (h_x1 : zs_in x1.toInt 1 1) {x3 : Int32} (h_x3 : zs_in x3.toInt 0 0) {x4 : Int32} (h_x4 : zs_in x4.toInt (-1) (-1)) {x5 : Int32} (h_x5 : zs_in x5.toInt 0 9) {x7 : Int32} (h_x7 : zs_in x7.toInt (-1) (-1)) {s0 : (sn_S × (Int32 × Int32))} (h0 : (zs_M0 σ0 s0.1 ∧ (zs_in (s0.2.1).toInt (-1) 9 ∧ zs_in (s0.2.2).toInt (-1) 9))) : zs_ok (sn_it (LX9_quietBy_26 x1 x3 x4 x5 x7) 5000 s0) (fun t => (zs_M0 σ0 t.1 ∧ zs_in (t.2).toInt (-1) 9)) := by
  refine zs_it (I := fun s => (zs_M0 σ0 s.1 ∧ (zs_in (s.2.1).toInt (-1) 9 ∧ zs_in (s.2.2).toInt (-1) 9))) (m := fun s => s.2.2.toInt - (-1)) (fun s hs => ?_) (fun s hs => ?_) (by exact h0)
  · have h1 := hs.2.2; unfold zs_in at h1
    omega
  · obtain ⟨b, eb, hb⟩ := zA_90 hs.1 h_x1 h_x3 h_x4 h_x5 hs.2.1 h_x7 hs.2.2 (c := s.2.2.toInt) (Int.add_zero _).symm
    exact ⟨b, eb, zs_sumw hb (fun v w => ⟨⟨w.1.1, ⟨w.1.2.1, (zs_w w.1.2.2 (by decide))⟩⟩, by have := w.2; omega⟩) (fun v w => w)⟩
-- BX9_quietBy_115
theorem zA_91 {σ0 : sn_S} {σ : sn_S} (h_σ : zs_M0 σ0 σ) {x1 : Int32} (h_x1 : zs_in x1.toInt 1 1) {x5 : Int32} (h_x5 : zs_in x5.toInt 0 9) {x6 : Int32} (h_x6 : zs_in x6.toInt (-1) 9) : zs_ok (BX9_quietBy_115 σ x1 x5 x6) (fun r => (zs_in (r.1).toInt (-1) 9 ∧ zs_M0 σ0 r.2)) := by
  unfold BX9_quietBy_115
  obtain rfl : x1 = (1 : Int32) := zs_eqv h_x1 (by decide)
  refine zs_gd (zs_gin h_x1 (by decide)) ?_
  refine zs_lt (Q := fun z => zs_M0 σ0 z) (zs_wrb h_σ h_x5 (zs_range zlI_1 (fun k => zs_wb (zs_tM 1 k) 0 9 ∧ zs_fr zs_tM zs_kM0 1 k = false) (by decide +kernel))) (fun σ_2 hσ_2 => ?_)
  exact zs_some ⟨h_x6, hσ_2⟩
-- BX9_quietBy_21
theorem zA_92 {σ0 : sn_S} {σ : sn_S} (h_σ : zs_M0 σ0 σ) {x1 : Int32} (h_x1 : zs_in x1.toInt 1 1) {x2 : Int32} (h_x2 : zs_in x2.toInt 9 9) {x3 : Int32} (h_x3 : zs_in x3.toInt 0 0) {x4 : Int32} (h_x4 : zs_in x4.toInt (-1) (-1)) {x5 : Int32} (h_x5 : zs_in x5.toInt 0 9) {x6 : Int32} (h_x6 : zs_in x6.toInt (-1) (-1)) {t0 : Int32} (h_t0 : zs_in t0.toInt (-1) (-1)) : zs_ok (BX9_quietBy_21 σ x1 x2 x3 x4 x5 x6 t0) (fun r => (zs_in (r.1).toInt (-1) 9 ∧ zs_M0 σ0 r.2)) := by
  unfold BX9_quietBy_21
  obtain rfl : x1 = (1 : Int32) := zs_eqv h_x1 (by decide)
  obtain rfl : x2 = (9 : Int32) := zs_eqv h_x2 (by decide)
  obtain rfl : x3 = (0 : Int32) := zs_eqv h_x3 (by decide)
  obtain rfl : x4 = (-1 : Int32) := zs_eqv h_x4 (by decide)
  obtain rfl : x6 = (-1 : Int32) := zs_eqv h_x6 (by decide)
  obtain rfl : t0 = (-1 : Int32) := zs_eqv h_t0 (by decide)
  refine zs_bd_ (zB_15 h_x1 h_x3 h_x4 h_x5 h_t0 (s0 := (σ, ((-1 : Int32), (9 : Int32)))) ⟨h_σ, ⟨(zs_w h_x6 (by decide)), (zs_w h_x2 (by decide))⟩⟩) (fun t_1 pt_1 => ?_)
  obtain ⟨ret, er, hr⟩ := zA_91 pt_1.1 h_x1 h_x5 pt_1.2
  refine ⟨ret, er, ?_⟩
  exact hr
-- fX9_quietBy
theorem zA_93 {σ0 : sn_S} {σ : sn_S} (h_σ : zs_M0 σ0 σ) {x1 : Int32} (h_x1 : zs_in x1.toInt 1 1) {x2 : Int32} (h_x2 : zs_in x2.toInt 9 9) {x3 : Int32} (h_x3 : zs_in x3.toInt 0 0) {x4 : Int32} (h_x4 : zs_in x4.toInt (-1) (-1)) : zs_ok (fX9_quietBy σ x1 x2 x3 x4) (fun r => (zs_in (r.1).toInt (-1) 9 ∧ zs_M0 σ0 r.2)) := by
  unfold fX9_quietBy
  obtain rfl : x1 = (1 : Int32) := zs_eqv h_x1 (by decide)
  obtain rfl : x2 = (9 : Int32) := zs_eqv h_x2 (by decide)
  obtain rfl : x3 = (0 : Int32) := zs_eqv h_x3 (by decide)
  obtain rfl : x4 = (-1 : Int32) := zs_eqv h_x4 (by decide)
  refine zs_gd (zs_gin h_x1 (by decide)) ?_
  refine zs_lt (Q := fun z => zs_in z.toInt 0 9) (zs_rdb (q := 1) (lo := 0) (hi := 9) h_σ.1 (zs_range zlI_1 (fun k => zs_bd (zs_tM 1 k) 0 9) (by decide +kernel))) (fun y_2 hy_2 => ?_)
  refine zs_ite (fun c1 => ?_) (fun c1 => ?_)
  · skip
    have r2 := (zs_I_le c1)
    exact (zs_botle r2 h_x2 h_x3 (by decide)).elim
  · skip
    have r3 := (zs_I_len c1)
    obtain ⟨ret, er, hr⟩ := zA_92 h_σ h_x1 h_x2 h_x3 h_x4 hy_2 zlI_m1 zlI_m1
    refine ⟨ret, er, ?_⟩
    exact hr
-- fX9_clean
theorem zA_94 {σ0 : sn_S} {σ : sn_S} (h_σ : zs_M0 σ0 σ) : zs_ok (fX9_clean σ) (fun r => (zs_in (r.1).toInt (-2) 9 ∧ zs_M0 σ0 r.2)) := by
  unfold fX9_clean
  refine zs_bd_ (zA_60 h_σ) (fun t_1 pt_1 => ?_)
  refine zs_ite (fun c1 => ?_) (fun c1 => ?_)
  · skip
    have r2 := (zs_I_eq c1)
    have g3 : zs_in (t_1).toInt 0 0 := (zs_eql 0 0 r2 pt_1 zlI_0 (by decide))
    exact zs_some ⟨(zs_w zlI_m2 (by decide)), h_σ⟩
  · skip
    have r4 := (zs_I_eqn c1)
    have g5 : zs_in (t_1).toInt 1 1 := (zs_nel 1 1 r4 pt_1 zlI_0 (by decide))
    refine zs_bd_ (zA_93 h_σ zlI_1 zlI_9 zlI_0 zlI_m1) (fun t_4 pt_4 => ?_)
    exact zs_some ⟨(zs_w pt_4.1 (by decide)), pt_4.2⟩
-- fX8_isPerson
theorem zA_95 {σ0 : sn_S} {σ : sn_S} (h_σ : zs_A σ0 σ) {x1 : Int32} : zs_ok (fX8_isPerson σ x1) (fun r => (zs_in (r).toInt 0 1) ∧ ((r).toInt = 0 ∨ (zs_in (x1).toInt 0 5))) := by
  unfold fX8_isPerson
  refine zs_ite (fun c1 => ?_) (fun c1 => ?_)
  · skip
    have r2 := (zs_I_lt c1)
    have g3 : zs_in (x1).toInt (-2147483648) (-1) := (zs_ltl (-2147483648) (-1) r2 (zs_topI _) zlI_0 (by decide))
    refine zs_gd (zs_b01 zlI_0 (by decide)) ?_
    exact zs_some ⟨(zs_w zlI_0 (by decide)), Or.inl (zs_ptr zlI_0)⟩
  · skip
    have r4 := (zs_I_ltn c1)
    have g5 : zs_in (x1).toInt 0 2147483647 := (zs_ler 0 2147483647 r4 zlI_0 (zs_topI _) (by decide))
    refine zs_gd (zs_gin zlI_5 (by decide)) ?_
    refine zs_ite (fun c6 => ?_) (fun c6 => ?_)
    · skip
      have r7 := (zs_I_le c6)
      refine zs_gd (zs_b01 zlI_0 (by decide)) ?_
      exact zs_some ⟨(zs_w zlI_0 (by decide)), Or.inl (zs_ptr zlI_0)⟩
    · skip
      have r8 := (zs_I_len c6)
      have g9 : zs_in (x1).toInt 0 5 := (zs_ltl 0 5 r8 g5 (zs_rdk (q := 2) (k := (5 : Int32).toNatClampNeg) (z := (0, 6)) h_σ.1 rfl) (by decide))
      have g10 : zs_in ((sn_I σ (1 + 1) (5 : Int32).toNatClampNeg)).toInt 1 6 := (zs_ltr 1 6 r8 g5 (zs_rdk (q := 2) (k := (5 : Int32).toNatClampNeg) (z := (0, 6)) h_σ.1 rfl) (by decide))
      refine zs_gd (zs_b01 zlI_1 (by decide)) ?_
      exact zs_some ⟨(zs_w zlI_1 (by decide)), Or.inr g9⟩
-- fX8_isMinute
theorem zA_96 {σ0 : sn_S} {σ : sn_S} (h_σ : zs_A σ0 σ) {x1 : Int32} : zs_ok (fX8_isMinute σ x1) (fun r => (zs_in (r).toInt 0 1) ∧ ((r).toInt = 0 ∨ (zs_in (x1).toInt 0 29))) := by
  unfold fX8_isMinute
  refine zs_ite (fun c1 => ?_) (fun c1 => ?_)
  · skip
    have r2 := (zs_I_lt c1)
    have g3 : zs_in (x1).toInt (-2147483648) (-1) := (zs_ltl (-2147483648) (-1) r2 (zs_topI _) zlI_0 (by decide))
    refine zs_gd (zs_b01 zlI_0 (by decide)) ?_
    exact zs_some ⟨(zs_w zlI_0 (by decide)), Or.inl (zs_ptr zlI_0)⟩
  · skip
    have r4 := (zs_I_ltn c1)
    have g5 : zs_in (x1).toInt 0 2147483647 := (zs_ler 0 2147483647 r4 zlI_0 (zs_topI _) (by decide))
    refine zs_gd (zs_gin zlI_0 (by decide)) ?_
    refine zs_ite (fun c6 => ?_) (fun c6 => ?_)
    · skip
      have r7 := (zs_I_le c6)
      refine zs_gd (zs_b01 zlI_0 (by decide)) ?_
      exact zs_some ⟨(zs_w zlI_0 (by decide)), Or.inl (zs_ptr zlI_0)⟩
    · skip
      have r8 := (zs_I_len c6)
      have g9 : zs_in (x1).toInt 0 29 := (zs_ltl 0 29 r8 g5 (zs_rdk (q := 2) (k := (0 : Int32).toNatClampNeg) (z := (0, 30)) h_σ.1 rfl) (by decide))
      have g10 : zs_in ((sn_I σ (1 + 1) (0 : Int32).toNatClampNeg)).toInt 1 30 := (zs_ltr 1 30 r8 g5 (zs_rdk (q := 2) (k := (0 : Int32).toNatClampNeg) (z := (0, 30)) h_σ.1 rfl) (by decide))
      refine zs_gd (zs_b01 zlI_1 (by decide)) ?_
      exact zs_some ⟨(zs_w zlI_1 (by decide)), Or.inr g9⟩
-- fX2_act
theorem zA_97 {σ0 : sn_S} {σ : sn_S} (h_σ : zs_A σ0 σ) {x1 : Int32} (h_x1 : zs_in x1.toInt 0 0) {x2 : Int32} (h_x2 : zs_in x2.toInt 0 5) {x3 : Int32} (h_x3 : zs_in x3.toInt 0 29) : zs_ok (fX2_act σ 1 x1 x2 x3) (fun r => (zs_in (r.1).toInt 0 1 ∧ zs_A σ0 r.2)) := by
  unfold fX2_act
  obtain rfl : x1 = (0 : Int32) := zs_eqv h_x1 (by decide)
  refine zs_gd (zs_gin zlI_9 (by decide)) ?_
  refine zs_lt (Q := fun z => zs_in z.toInt 0 40) (zs_rdk (q := 2) (k := (9 : Int32).toNatClampNeg) (z := (0, 40)) h_σ.1 rfl) (fun y_2 hy_2 => ?_)
  refine zs_ite (fun c1 => ?_) (fun c1 => ?_)
  · skip
    have r2 := (zs_I_lt c1)
    have g3 : zs_in (y_2).toInt 0 39 := (zs_ltl 0 39 r2 hy_2 zlI_40 (by decide))
    refine zs_gd (zs_gin (zs_mulI 0 117 zlI_3 g3 (by decide)) (by decide)) ?_
    refine zs_lt (Q := fun z => zs_A σ0 z) (zs_wru (z := (0, 29)) h_σ (fun _ => rfl) h_x1 (by decide) (fun _ => rfl)) (fun σ_6 hσ_6 => ?_)
    refine zs_gd (zs_gin (zs_addI 1 118 (zs_mulI 0 117 zlI_3 g3 (by decide)) zlI_1 (by decide)) (by decide)) ?_
    refine zs_lt (Q := fun z => zs_A σ0 z) (zs_wru (z := (0, 29)) hσ_6 (fun _ => rfl) h_x2 (by decide) (fun _ => rfl)) (fun σ_9 hσ_9 => ?_)
    refine zs_gd (zs_gin (zs_addI 2 119 (zs_mulI 0 117 zlI_3 g3 (by decide)) zlI_2 (by decide)) (by decide)) ?_
    refine zs_lt (Q := fun z => zs_A σ0 z) (zs_wru (z := (0, 29)) hσ_9 (fun _ => rfl) h_x3 (by decide) (fun _ => rfl)) (fun σ_12 hσ_12 => ?_)
    refine zs_gd (zs_gin zlI_9 (by decide)) ?_
    refine zs_lt (Q := fun z => zs_A σ0 z) (zs_wrk (z := (0, 40)) hσ_12 rfl (zs_addI 1 40 g3 zlI_1 (by decide)) (by decide) rfl) (fun σ_15 hσ_15 => ?_)
    refine zs_gd (zs_b01 zlI_1 (by decide)) ?_
    exact zs_some ⟨(zs_w zlI_1 (by decide)), hσ_15⟩
  · skip
    have r4 := (zs_I_ltn c1)
    have g5 : zs_in (y_2).toInt 40 40 := (zs_ler 40 40 r4 zlI_40 hy_2 (by decide))
    refine zs_gd (zs_b01 zlI_0 (by decide)) ?_
    exact zs_some ⟨(zs_w zlI_0 (by decide)), h_σ⟩
-- BX2_minutesOfActs_61
theorem zA_98 {σ0 : sn_S} {σ : sn_S} (h_σ : zs_A σ0 σ) {x1 : Int32} (h_x1 : zs_in x1.toInt 0 0) {x2 : Int32} (h_x2 : zs_in x2.toInt 0 5) {x3 : Int32} (h_x3 : zs_in x3.toInt 0 1073741823) {x4 : Int32} (h_x4 : zs_in x4.toInt 0 39) {c : Int} (hc : x4.toInt = c + 0) : zs_ok (BX2_minutesOfActs_61 σ 1 x1 x2 x3 x4) (fun r => zs_sum (fun v => ((zs_in (v.1).toInt 0 1073741823 ∧ zs_in (v.2).toInt 1 40)) ∧ v.2.toInt = c + 1) (fun v => False) r) := by
  unfold BX2_minutesOfActs_61
  obtain rfl : x1 = (0 : Int32) := zs_eqv h_x1 (by decide)
  refine zs_lt (Q := fun z => zs_in z.toInt 1 40 ∧ z.toInt = c + 1) ⟨(zs_addI 1 40 h_x4 zlI_1 (by decide)), (zs_syI 1 hc h_x4 zlI_1 (by decide) (by decide))⟩ (fun y_1 hy_1 => ?_)
  exact zs_some (zs_inl ⟨⟨h_x3, hy_1.1⟩, hy_1.2⟩)
-- BX2_minutesOfActs_5
theorem zA_99 {σ0 : sn_S} {σ : sn_S} (h_σ : zs_A σ0 σ) {x1 : Int32} (h_x1 : zs_in x1.toInt 0 0) {x2 : Int32} (h_x2 : zs_in x2.toInt 0 5) {x3 : Int32} (h_x3 : zs_in x3.toInt 0 1073741823) {x4 : Int32} (h_x4 : zs_in x4.toInt 0 40) {c : Int} (hc : x4.toInt = c + 0) : zs_ok (BX2_minutesOfActs_5 σ 1 x1 x2 x3 x4) (fun r => zs_sum (fun v => ((zs_in (v.1).toInt 0 1073741823 ∧ zs_in (v.2).toInt 1 40)) ∧ v.2.toInt = c + 1) (fun v => zs_in (v).toInt 0 1073741823) r) := by
  unfold BX2_minutesOfActs_5
  obtain rfl : x1 = (0 : Int32) := zs_eqv h_x1 (by decide)
  refine zs_gd (zs_gin zlI_9 (by decide)) ?_
  refine zs_ite (fun c1 => ?_) (fun c1 => ?_)
  · skip
    have r2 := (zs_I_le c1)
    exact zs_some (zs_inr (h_x3))
  · skip
    have r3 := (zs_I_len c1)
    have g4 : zs_in (x4).toInt 0 39 := (zs_ltl 0 39 r3 h_x4 (zs_rdk (q := 2) (k := (9 : Int32).toNatClampNeg) (z := (0, 40)) h_σ.1 rfl) (by decide))
    have g5 : zs_in ((sn_I σ (1 + 1) (9 : Int32).toNatClampNeg)).toInt 1 40 := (zs_ltr 1 40 r3 h_x4 (zs_rdk (q := 2) (k := (9 : Int32).toNatClampNeg) (z := (0, 40)) h_σ.1 rfl) (by decide))
    refine zs_gd (zs_gin (zs_mulI 0 117 zlI_3 g4 (by decide)) (by decide)) ?_
    refine zs_ite (fun c6 => ?_) (fun c6 => ?_)
    · skip
      have r7 := (zs_I_eq c6)
      have g8 : zs_in ((sn_I σ (1 + 6) ((3 : Int32) * x4).toNatClampNeg)).toInt 0 0 := (zs_eql 0 0 r7 (zs_rdu (q := 7) (z := (0, 29)) h_σ.1 (fun _ => rfl)) h_x1 (by decide))
      refine zs_gd (zs_gin (zs_addI 1 118 (zs_mulI 0 117 zlI_3 g4 (by decide)) zlI_1 (by decide)) (by decide)) ?_
      refine zs_ite (fun c9 => ?_) (fun c9 => ?_)
      · skip
        have r10 := (zs_I_eq c9)
        have g11 : zs_in ((sn_I σ (1 + 6) (((3 : Int32) * x4) + (1 : Int32)).toNatClampNeg)).toInt 0 5 := (zs_eql 0 5 r10 (zs_rdu (q := 7) (z := (0, 29)) h_σ.1 (fun _ => rfl)) h_x2 (by decide))
        refine zs_gd (zs_gin (zs_addI 2 119 (zs_mulI 0 117 zlI_3 g4 (by decide)) zlI_2 (by decide)) (by decide)) ?_
        refine zs_lt (Q := fun z => zs_in z.toInt 0 1073741823) (zs_or 30 1073741823 h_x3 (zs_cases (zs_rdu (q := 7) (z := (0, 29)) h_σ.1 (fun _ => rfl)) (fun z => zs_in ((1 : Int32) <<< (z &&& 31)).toInt 1 536870912) (by decide +kernel)) (by decide)) (fun y_8 hy_8 => ?_)
        obtain ⟨ret, er, hr⟩ := zA_98 h_σ h_x1 h_x2 hy_8 g4 hc
        refine ⟨ret, er, ?_⟩
        exact (zs_sumw hr (fun v w => ⟨w.1, w.2⟩) (fun v w => w.elim))
      · skip
        have r12 := (zs_I_eqn c9)
        obtain ⟨ret, er, hr⟩ := zA_98 h_σ h_x1 h_x2 h_x3 g4 hc
        refine ⟨ret, er, ?_⟩
        exact (zs_sumw hr (fun v w => ⟨w.1, w.2⟩) (fun v w => w.elim))
    · skip
      have r13 := (zs_I_eqn c6)
      have g14 : zs_in ((sn_I σ (1 + 6) ((3 : Int32) * x4).toNatClampNeg)).toInt 1 29 := (zs_nel 1 29 r13 (zs_rdu (q := 7) (z := (0, 29)) h_σ.1 (fun _ => rfl)) h_x1 (by decide))
      obtain ⟨ret, er, hr⟩ := zA_98 h_σ h_x1 h_x2 h_x3 g4 hc
      refine ⟨ret, er, ?_⟩
      exact (zs_sumw hr (fun v w => ⟨w.1, w.2⟩) (fun v w => w.elim))
theorem zB_16 {σ0 : sn_S} {σ : sn_S} (h_σ : zs_A σ0 σ) {x1 : Int32} (h_x1 : zs_in x1.toInt 0 0) {x2 : Int32} (h_x2 : zs_in x2.toInt 0 5) {s0 : (Int32 × Int32)} (h0 : (zs_in (s0.1).toInt 0 1073741823 ∧ zs_in (s0.2).toInt 0 40)) : zs_ok (sn_it (LX2_minutesOfActs_5 σ 1 x1 x2) 5000 s0) (fun t => zs_in (t).toInt 0 1073741823) := by
  refine zs_it (I := fun s => (zs_in (s.1).toInt 0 1073741823 ∧ zs_in (s.2).toInt 0 40)) (m := fun s => 40 - s.2.toInt) (fun s hs => ?_) (fun s hs => ?_) (by exact h0)
  · have h1 := hs.2; unfold zs_in at h1
    omega
  · obtain ⟨b, eb, hb⟩ := zA_99 h_σ h_x1 h_x2 hs.1 hs.2 (c := s.2.toInt) (Int.add_zero _).symm
    exact ⟨b, eb, zs_sumw hb (fun v w => ⟨⟨w.1.1, (zs_w w.1.2 (by decide))⟩, by have := w.2; omega⟩) (fun v w => w)⟩
-- BX2_minutesOfActs_67
theorem zA_100 {σ0 : sn_S} {σ : sn_S} (h_σ : zs_A σ0 σ) {x3 : Int32} (h_x3 : zs_in x3.toInt 0 1073741823) : zs_ok (BX2_minutesOfActs_67 σ 1 x3) (fun r => zs_in (r).toInt 0 1073741823) := by
  unfold BX2_minutesOfActs_67
  exact zs_some h_x3
-- fX2_minutesOfActs
theorem zA_101 {σ0 : sn_S} {σ : sn_S} (h_σ : zs_A σ0 σ) {x1 : Int32} (h_x1 : zs_in x1.toInt 0 0) {x2 : Int32} (h_x2 : zs_in x2.toInt 0 5) : zs_ok (fX2_minutesOfActs σ 1 x1 x2) (fun r => zs_in (r).toInt 0 1073741823) := by
  unfold fX2_minutesOfActs
  obtain rfl : x1 = (0 : Int32) := zs_eqv h_x1 (by decide)
  refine zs_bd_ (zB_16 h_σ h_x1 h_x2 (s0 := ((0 : Int32), (0 : Int32))) ⟨(zs_w zlI_0 (by decide)), (zs_w zlI_0 (by decide))⟩) (fun t_1 pt_1 => ?_)
  obtain ⟨ret, er, hr⟩ := zA_100 h_σ pt_1
  refine ⟨ret, er, ?_⟩
  exact hr
-- BX2_minutesOfActs_61
theorem zA_102 {σ0 : sn_S} {σ : sn_S} (h_σ : zs_A σ0 σ) {x1 : Int32} (h_x1 : zs_in x1.toInt 1 1) {x2 : Int32} (h_x2 : zs_in x2.toInt 0 5) {x3 : Int32} (h_x3 : zs_in x3.toInt 0 1073741823) {x4 : Int32} (h_x4 : zs_in x4.toInt 0 39) {c : Int} (hc : x4.toInt = c + 0) : zs_ok (BX2_minutesOfActs_61 σ 1 x1 x2 x3 x4) (fun r => zs_sum (fun v => ((zs_in (v.1).toInt 0 1073741823 ∧ zs_in (v.2).toInt 1 40)) ∧ v.2.toInt = c + 1) (fun v => False) r) := by
  unfold BX2_minutesOfActs_61
  obtain rfl : x1 = (1 : Int32) := zs_eqv h_x1 (by decide)
  refine zs_lt (Q := fun z => zs_in z.toInt 1 40 ∧ z.toInt = c + 1) ⟨(zs_addI 1 40 h_x4 zlI_1 (by decide)), (zs_syI 1 hc h_x4 zlI_1 (by decide) (by decide))⟩ (fun y_1 hy_1 => ?_)
  exact zs_some (zs_inl ⟨⟨h_x3, hy_1.1⟩, hy_1.2⟩)
-- BX2_minutesOfActs_5
theorem zA_103 {σ0 : sn_S} {σ : sn_S} (h_σ : zs_A σ0 σ) {x1 : Int32} (h_x1 : zs_in x1.toInt 1 1) {x2 : Int32} (h_x2 : zs_in x2.toInt 0 5) {x3 : Int32} (h_x3 : zs_in x3.toInt 0 1073741823) {x4 : Int32} (h_x4 : zs_in x4.toInt 0 40) {c : Int} (hc : x4.toInt = c + 0) : zs_ok (BX2_minutesOfActs_5 σ 1 x1 x2 x3 x4) (fun r => zs_sum (fun v => ((zs_in (v.1).toInt 0 1073741823 ∧ zs_in (v.2).toInt 1 40)) ∧ v.2.toInt = c + 1) (fun v => zs_in (v).toInt 0 1073741823) r) := by
  unfold BX2_minutesOfActs_5
  obtain rfl : x1 = (1 : Int32) := zs_eqv h_x1 (by decide)
  refine zs_gd (zs_gin zlI_9 (by decide)) ?_
  refine zs_ite (fun c1 => ?_) (fun c1 => ?_)
  · skip
    have r2 := (zs_I_le c1)
    exact zs_some (zs_inr (h_x3))
  · skip
    have r3 := (zs_I_len c1)
    have g4 : zs_in (x4).toInt 0 39 := (zs_ltl 0 39 r3 h_x4 (zs_rdk (q := 2) (k := (9 : Int32).toNatClampNeg) (z := (0, 40)) h_σ.1 rfl) (by decide))
    have g5 : zs_in ((sn_I σ (1 + 1) (9 : Int32).toNatClampNeg)).toInt 1 40 := (zs_ltr 1 40 r3 h_x4 (zs_rdk (q := 2) (k := (9 : Int32).toNatClampNeg) (z := (0, 40)) h_σ.1 rfl) (by decide))
    refine zs_gd (zs_gin (zs_mulI 0 117 zlI_3 g4 (by decide)) (by decide)) ?_
    refine zs_ite (fun c6 => ?_) (fun c6 => ?_)
    · skip
      have r7 := (zs_I_eq c6)
      have g8 : zs_in ((sn_I σ (1 + 6) ((3 : Int32) * x4).toNatClampNeg)).toInt 1 1 := (zs_eql 1 1 r7 (zs_rdu (q := 7) (z := (0, 29)) h_σ.1 (fun _ => rfl)) h_x1 (by decide))
      refine zs_gd (zs_gin (zs_addI 1 118 (zs_mulI 0 117 zlI_3 g4 (by decide)) zlI_1 (by decide)) (by decide)) ?_
      refine zs_ite (fun c9 => ?_) (fun c9 => ?_)
      · skip
        have r10 := (zs_I_eq c9)
        have g11 : zs_in ((sn_I σ (1 + 6) (((3 : Int32) * x4) + (1 : Int32)).toNatClampNeg)).toInt 0 5 := (zs_eql 0 5 r10 (zs_rdu (q := 7) (z := (0, 29)) h_σ.1 (fun _ => rfl)) h_x2 (by decide))
        refine zs_gd (zs_gin (zs_addI 2 119 (zs_mulI 0 117 zlI_3 g4 (by decide)) zlI_2 (by decide)) (by decide)) ?_
        refine zs_lt (Q := fun z => zs_in z.toInt 0 1073741823) (zs_or 30 1073741823 h_x3 (zs_cases (zs_rdu (q := 7) (z := (0, 29)) h_σ.1 (fun _ => rfl)) (fun z => zs_in ((1 : Int32) <<< (z &&& 31)).toInt 1 536870912) (by decide +kernel)) (by decide)) (fun y_8 hy_8 => ?_)
        obtain ⟨ret, er, hr⟩ := zA_102 h_σ h_x1 h_x2 hy_8 g4 hc
        refine ⟨ret, er, ?_⟩
        exact (zs_sumw hr (fun v w => ⟨w.1, w.2⟩) (fun v w => w.elim))
      · skip
        have r12 := (zs_I_eqn c9)
        obtain ⟨ret, er, hr⟩ := zA_102 h_σ h_x1 h_x2 h_x3 g4 hc
        refine ⟨ret, er, ?_⟩
        exact (zs_sumw hr (fun v w => ⟨w.1, w.2⟩) (fun v w => w.elim))
    · skip
      have r13 := (zs_I_eqn c6)
      obtain ⟨ret, er, hr⟩ := zA_102 h_σ h_x1 h_x2 h_x3 g4 hc
      refine ⟨ret, er, ?_⟩
      exact (zs_sumw hr (fun v w => ⟨w.1, w.2⟩) (fun v w => w.elim))
theorem zB_17 {σ0 : sn_S} {σ : sn_S} (h_σ : zs_A σ0 σ) {x1 : Int32} (h_x1 : zs_in x1.toInt 1 1) {x2 : Int32} (h_x2 : zs_in x2.toInt 0 5) {s0 : (Int32 × Int32)} (h0 : (zs_in (s0.1).toInt 0 1073741823 ∧ zs_in (s0.2).toInt 0 40)) : zs_ok (sn_it (LX2_minutesOfActs_5 σ 1 x1 x2) 5000 s0) (fun t => zs_in (t).toInt 0 1073741823) := by
  refine zs_it (I := fun s => (zs_in (s.1).toInt 0 1073741823 ∧ zs_in (s.2).toInt 0 40)) (m := fun s => 40 - s.2.toInt) (fun s hs => ?_) (fun s hs => ?_) (by exact h0)
  · have h1 := hs.2; unfold zs_in at h1
    omega
  · obtain ⟨b, eb, hb⟩ := zA_103 h_σ h_x1 h_x2 hs.1 hs.2 (c := s.2.toInt) (Int.add_zero _).symm
    exact ⟨b, eb, zs_sumw hb (fun v w => ⟨⟨w.1.1, (zs_w w.1.2 (by decide))⟩, by have := w.2; omega⟩) (fun v w => w)⟩
-- fX2_minutesOfActs
theorem zA_104 {σ0 : sn_S} {σ : sn_S} (h_σ : zs_A σ0 σ) {x1 : Int32} (h_x1 : zs_in x1.toInt 1 1) {x2 : Int32} (h_x2 : zs_in x2.toInt 0 5) : zs_ok (fX2_minutesOfActs σ 1 x1 x2) (fun r => zs_in (r).toInt 0 1073741823) := by
  unfold fX2_minutesOfActs
  obtain rfl : x1 = (1 : Int32) := zs_eqv h_x1 (by decide)
  refine zs_bd_ (zB_17 h_σ h_x1 h_x2 (s0 := ((0 : Int32), (0 : Int32))) ⟨(zs_w zlI_0 (by decide)), (zs_w zlI_0 (by decide))⟩) (fun t_1 pt_1 => ?_)
  obtain ⟨ret, er, hr⟩ := zA_100 h_σ pt_1
  refine ⟨ret, er, ?_⟩
  exact hr
-- BX0_tellFrom_56
theorem zA_105 {σ0 : sn_S} {σ : sn_S} (h_σ : zs_A σ0 σ) {x2 : Int32} (h_x2 : zs_in x2.toInt 0 6) {c : Int} (hc : x2.toInt = c + 0) : zs_ok (BX0_tellFrom_56 σ 27 1 x2) (fun r => zs_sum (fun v => ((zs_A σ0 v.1 ∧ zs_in (v.2).toInt 1 6)) ∧ v.2.toInt = c + 1) (fun v => zs_A σ0 v) r) := by
  unfold BX0_tellFrom_56
  refine zs_ite (fun c1 => ?_) (fun c1 => ?_)
  · skip
    have r2 := (zs_I_le c1)
    exact zs_some (zs_inr (h_σ))
  · skip
    have r3 := (zs_I_len c1)
    have g4 : zs_in (x2).toInt 0 5 := (zs_ltl 0 5 r3 h_x2 (zs_rdk (q := 27) (k := 1) (z := (0, 6)) h_σ.1 rfl) (by decide))
    have g5 : zs_in ((sn_I σ 27 1)).toInt 1 6 := (zs_ltr 1 6 r3 h_x2 (zs_rdk (q := 27) (k := 1) (z := (0, 6)) h_σ.1 rfl) (by decide))
    refine zs_gd (zs_gin (zs_mulI 0 10 zlI_2 g4 (by decide)) (by decide)) ?_
    refine zs_gd (zs_gin g4 (by decide)) ?_
    refine zs_lt (Q := fun z => zs_A σ0 z) (zs_wrt h_σ (fun _ => rfl) (fun _ => rfl)) (fun σ_4 hσ_4 => ?_)
    refine zs_gd (zs_gin (zs_addI 1 11 (zs_mulI 0 10 zlI_2 g4 (by decide)) zlI_1 (by decide)) (by decide)) ?_
    refine zs_gd (zs_gin g4 (by decide)) ?_
    refine zs_lt (Q := fun z => zs_A σ0 z) (zs_wrt hσ_4 (fun _ => rfl) (fun _ => rfl)) (fun σ_8 hσ_8 => ?_)
    refine zs_bd_ (zA_101 hσ_8 zlI_0 g4) (fun t_10 pt_10 => ?_)
    refine zs_gd (zs_gin g4 (by decide)) ?_
    refine zs_lt (Q := fun z => zs_A σ0 z) (zs_wrt hσ_8 (fun _ => rfl) (fun _ => rfl)) (fun σ_13 hσ_13 => ?_)
    refine zs_bd_ (zA_104 hσ_13 zlI_1 g4) (fun t_15 pt_15 => ?_)
    refine zs_gd (zs_gin g4 (by decide)) ?_
    refine zs_lt (Q := fun z => zs_A σ0 z) (zs_wrt hσ_13 (fun _ => rfl) (fun _ => rfl)) (fun σ_18 hσ_18 => ?_)
    refine zs_lt (Q := fun z => zs_in z.toInt 1 6 ∧ z.toInt = c + 1) ⟨(zs_addI 1 6 g4 zlI_1 (by decide)), (zs_syI 1 hc g4 zlI_1 (by decide) (by decide))⟩ (fun y_20 hy_20 => ?_)
    exact zs_some (zs_inl ⟨⟨hσ_18, hy_20.1⟩, hy_20.2⟩)
theorem zB_18 {σ0 : sn_S}  {s0 : (sn_S × Int32)} (h0 : (zs_A σ0 s0.1 ∧ zs_in (s0.2).toInt 0 6)) : zs_ok (sn_it (LX0_tellFrom_56 27 1) 5000 s0) (fun t => zs_A σ0 t) := by
  refine zs_it (I := fun s => (zs_A σ0 s.1 ∧ zs_in (s.2).toInt 0 6)) (m := fun s => 6 - s.2.toInt) (fun s hs => ?_) (fun s hs => ?_) (by exact h0)
  · have h1 := hs.2; unfold zs_in at h1
    omega
  · obtain ⟨b, eb, hb⟩ := zA_105 hs.1 hs.2 (c := s.2.toInt) (Int.add_zero _).symm
    exact ⟨b, eb, zs_sumw hb (fun v w => ⟨⟨w.1.1, (zs_w w.1.2 (by decide))⟩, by have := w.2; omega⟩) (fun v w => w)⟩
-- BJ7_fill_53178_5
theorem zA_106 {σ0 : sn_S} {σ : sn_S} (h_σ : zs_A σ0 σ) {x1 : Int32} (h_x1 : zs_in x1.toInt 0 9) {x2 : Int32} (h_x2 : zs_in x2.toInt 0 30) {x3 : Int32} (h_x3 : zs_in x3.toInt 30 30) {c : Int} (hc : x2.toInt = c + 0) : zs_ok (BJ7_fill_53178_5 σ 28 30 x1 x2 x3) (fun r => zs_sum (fun v => ((zs_A σ0 v.1 ∧ zs_in (v.2).toInt 1 30)) ∧ v.2.toInt = c + 1) (fun v => zs_A σ0 v) r) := by
  unfold BJ7_fill_53178_5
  obtain rfl : x3 = (30 : Int32) := zs_eqv h_x3 (by decide)
  refine zs_ite (fun c1 => ?_) (fun c1 => ?_)
  · skip
    have r2 := (zs_I_le c1)
    have g3 : zs_in (x2).toInt 30 30 := (zs_ler 30 30 r2 h_x3 h_x2 (by decide))
    exact zs_some (zs_inr (h_σ))
  · skip
    have r4 := (zs_I_len c1)
    have g5 : zs_in (x2).toInt 0 29 := (zs_ltl 0 29 r4 h_x2 h_x3 (by decide))
    refine zs_gd (zs_gin g5 (by decide)) ?_
    refine zs_lt (Q := fun z => zs_A σ0 z) (zs_wrt h_σ (fun _ => rfl) (fun _ => rfl)) (fun σ_3 hσ_3 => ?_)
    refine zs_lt (Q := fun z => zs_in z.toInt 1 30 ∧ z.toInt = c + 1) ⟨(zs_addI 1 30 g5 zlI_1 (by decide)), (zs_syI 1 hc g5 zlI_1 (by decide) (by decide))⟩ (fun y_5 hy_5 => ?_)
    exact zs_some (zs_inl ⟨⟨hσ_3, hy_5.1⟩, hy_5.2⟩)
theorem zB_19 {σ0 : sn_S} {x1 : Int32} (h_x1 : zs_in x1.toInt 0 9) {x3 : Int32} (h_x3 : zs_in x3.toInt 30 30) {s0 : (sn_S × Int32)} (h0 : (zs_A σ0 s0.1 ∧ zs_in (s0.2).toInt 0 30)) : zs_ok (sn_it (LJ7_fill_53178_5 28 30 x1 x3) 5000 s0) (fun t => zs_A σ0 t) := by
  refine zs_it (I := fun s => (zs_A σ0 s.1 ∧ zs_in (s.2).toInt 0 30)) (m := fun s => 30 - s.2.toInt) (fun s hs => ?_) (fun s hs => ?_) (by exact h0)
  · have h1 := hs.2; unfold zs_in at h1
    omega
  · obtain ⟨b, eb, hb⟩ := zA_106 hs.1 h_x1 hs.2 h_x3 (c := s.2.toInt) (Int.add_zero _).symm
    exact ⟨b, eb, zs_sumw hb (fun v w => ⟨⟨w.1.1, (zs_w w.1.2 (by decide))⟩, by have := w.2; omega⟩) (fun v w => w)⟩
-- BJ7_fill_53178_20
theorem zA_107 {σ0 : sn_S} {σ : sn_S} (h_σ : zs_A σ0 σ) : zs_ok (BJ7_fill_53178_20 σ 28 30) (fun r => zs_A σ0 r) := by
  unfold BJ7_fill_53178_20
  exact zs_some h_σ
-- fJ7_fill_53178
theorem zA_108 {σ0 : sn_S} {σ : sn_S} (h_σ : zs_A σ0 σ) {x1 : Int32} (h_x1 : zs_in x1.toInt 0 9) : zs_ok (fJ7_fill_53178 σ 28 30 x1) (fun r => zs_A σ0 r) := by
  unfold fJ7_fill_53178
  refine zs_lt (Q := fun z => zs_in z.toInt 30 30) zlI_30 (fun y_1 hy_1 => ?_)
  refine zs_bd_ (zB_19 h_x1 hy_1 (s0 := (σ, (0 : Int32))) ⟨h_σ, (zs_w zlI_0 (by decide))⟩) (fun t_3 pt_3 => ?_)
  obtain ⟨ret, er, hr⟩ := zA_107 pt_3
  refine ⟨ret, er, ?_⟩
  exact hr
-- BX0_tellFrom_139
theorem zA_109 {σ0 : sn_S} {σ : sn_S} (h_σ : zs_A σ0 σ) {x2 : Int32} (h_x2 : zs_in x2.toInt 0 5) {c : Int} (hc : x2.toInt = c + 0) : zs_ok (BX0_tellFrom_139 σ 27 1 x2) (fun r => zs_sum (fun v => ((zs_A σ0 v.1 ∧ zs_in (v.2).toInt 1 5)) ∧ v.2.toInt = c + 1) (fun v => zs_A σ0 v) r) := by
  unfold BX0_tellFrom_139
  refine zs_gd (zs_gin zlI_6 (by decide)) ?_
  refine zs_ite (fun c1 => ?_) (fun c1 => ?_)
  · skip
    have r2 := (zs_I_le c1)
    exact zs_some (zs_inr (h_σ))
  · skip
    have r3 := (zs_I_len c1)
    have g4 : zs_in (x2).toInt 0 4 := (zs_ltl 0 4 r3 h_x2 (zs_rdk (q := 2) (k := (6 : Int32).toNatClampNeg) (z := (0, 5)) h_σ.1 rfl) (by decide))
    have g5 : zs_in ((sn_I σ (1 + 1) (6 : Int32).toNatClampNeg)).toInt 1 5 := (zs_ltr 1 5 r3 h_x2 (zs_rdk (q := 2) (k := (6 : Int32).toNatClampNeg) (z := (0, 5)) h_σ.1 rfl) (by decide))
    refine zs_gd (zs_gin (zs_addI 1 9 (zs_mulI 0 8 zlI_2 g4 (by decide)) zlI_1 (by decide)) (by decide)) ?_
    refine zs_gd (zs_gin (zs_use (h_σ.1.2 rfl).1.1.1 g4 (by decide) r3 (zs_i21 g4 (by decide))) (by decide)) ?_
    refine zs_gd (zs_gin (zs_mulI 0 8 zlI_2 g4 (by decide)) (by decide)) ?_
    refine zs_gd (zs_gin (zs_use (h_σ.1.2 rfl).1.1.1 g4 (by decide) r3 (zs_i21 g4 (by decide))) (by decide)) ?_
    refine zs_lt (Q := fun z => zs_A σ0 z) (zs_wrt h_σ (fun _ => rfl) (fun _ => rfl)) (fun σ_7 hσ_7 => ?_)
    refine zs_lt (Q := fun z => zs_in z.toInt 1 5 ∧ z.toInt = c + 1) ⟨(zs_addI 1 5 g4 zlI_1 (by decide)), (zs_syI 1 hc g4 zlI_1 (by decide) (by decide))⟩ (fun y_9 hy_9 => ?_)
    exact zs_some (zs_inl ⟨⟨hσ_7, hy_9.1⟩, hy_9.2⟩)
theorem zB_20 {σ0 : sn_S}  {s0 : (sn_S × Int32)} (h0 : (zs_A σ0 s0.1 ∧ zs_in (s0.2).toInt 0 5)) : zs_ok (sn_it (LX0_tellFrom_139 27 1) 5000 s0) (fun t => zs_A σ0 t) := by
  refine zs_it (I := fun s => (zs_A σ0 s.1 ∧ zs_in (s.2).toInt 0 5)) (m := fun s => 5 - s.2.toInt) (fun s hs => ?_) (fun s hs => ?_) (by exact h0)
  · have h1 := hs.2; unfold zs_in at h1
    omega
  · obtain ⟨b, eb, hb⟩ := zA_109 hs.1 hs.2 (c := s.2.toInt) (Int.add_zero _).symm
    exact ⟨b, eb, zs_sumw hb (fun v w => ⟨⟨w.1.1, (zs_w w.1.2 (by decide))⟩, by have := w.2; omega⟩) (fun v w => w)⟩
-- BX0_tellFrom_182
theorem zA_110 {σ0 : sn_S} {σ : sn_S} (h_σ : zs_A σ0 σ) : zs_ok (BX0_tellFrom_182 σ 27 1) (fun r => zs_A σ0 r) := by
  unfold BX0_tellFrom_182
  exact zs_some h_σ
-- BX0_tellFrom_124
theorem zA_111 {σ0 : sn_S} {σ : sn_S} (h_σ : zs_A σ0 σ) : zs_ok (BX0_tellFrom_124 σ 27 1) (fun r => zs_A σ0 r) := by
  unfold BX0_tellFrom_124
  refine zs_gd (zs_gin zlI_1 (by decide)) ?_
  refine zs_bd_ (zA_108 h_σ (zs_rdk (q := 2) (k := (1 : Int32).toNatClampNeg) (z := (0, 9)) h_σ.1 rfl)) (fun t_2 pt_2 => ?_)
  refine zs_bd_ (zB_20  (s0 := (t_2, (0 : Int32))) ⟨pt_2, (zs_w zlI_0 (by decide))⟩) (fun t_4 pt_4 => ?_)
  obtain ⟨ret, er, hr⟩ := zA_110 pt_4
  refine ⟨ret, er, ?_⟩
  exact hr
-- fX0_tellFrom
theorem zA_112 {σ0 : sn_S} {σ : sn_S} (h_σ : zs_A σ0 σ) : zs_ok (fX0_tellFrom σ 27 1) (fun r => zs_A σ0 r) := by
  unfold fX0_tellFrom
  refine zs_gd (zs_gin zlI_0 (by decide)) ?_
  refine zs_lt (Q := fun z => zs_A σ0 z) (zs_wrk (z := (0, 30)) h_σ rfl (zs_rdk (q := 2) (k := (0 : Int32).toNatClampNeg) (z := (0, 30)) h_σ.1 rfl) (by decide) rfl) (fun σ_2 hσ_2 => ?_)
  refine zs_gd (zs_gin zlI_5 (by decide)) ?_
  refine zs_lt (Q := fun z => zs_A σ0 z) (zs_wrk (z := (0, 6)) hσ_2 rfl (zs_rdk (q := 2) (k := (5 : Int32).toNatClampNeg) (z := (0, 6)) hσ_2.1 rfl) (by decide) rfl) (fun σ_5 hσ_5 => ?_)
  refine zs_gd (zs_gin zlI_7 (by decide)) ?_
  refine zs_lt (Q := fun z => z = (sn_pI σ_5 27 2 (sn_I σ_5 (1 + 1) (7 : Int32).toNatClampNeg))) rfl (fun σ_8 hσ_8 => ?_)
  refine zs_lt (Q := fun z => z = (sn_pI σ_8 27 3 (-1 : Int32))) rfl (fun σ_10 hσ_10 => ?_)
  refine zs_gd (by decide) ?_
  refine zs_lt (Q := fun z => zs_A σ0 z) (by subst hσ_10; subst hσ_8; exact zoA_tell hσ_5) (fun σ_13 hσ_13 => ?_)
  refine zs_bd_ (zB_18  (s0 := (σ_13, (0 : Int32))) ⟨hσ_13, (zs_w zlI_0 (by decide))⟩) (fun t_15 pt_15 => ?_)
  obtain ⟨ret, er, hr⟩ := zA_111 pt_15
  refine ⟨ret, er, ?_⟩
  exact hr
-- fX8_firstMinutes
theorem zA_113 {x0 : Int32} (h_x0 : zs_in x0.toInt 0 0) : zs_ok (fX8_firstMinutes x0) (fun r => zs_in (r).toInt 0 0) := by
  unfold fX8_firstMinutes
  obtain rfl : x0 = (0 : Int32) := zs_eqv h_x0 (by decide)
  exact zs_some (zs_subI 0 0 (zs_cases h_x0 (fun z => zs_in ((1 : Int32) <<< (z &&& 31)).toInt 1 1) (by decide +kernel)) zlI_1 (by decide))
-- BX0_live_2
theorem zA_114 {σ0 : sn_S} {σ : sn_S} (h_σ : zs_A σ0 σ) {x1 : Int32} (h_x1 : zs_in x1.toInt 0 0) {x2 : Int32} (h_x2 : zs_in x2.toInt 0 30) {x3 : Int32} (h_x3 : zs_in x3.toInt 0 6) {c : Int} (hc : x3.toInt = c + 0) : zs_ok (BX0_live_2 σ 27 x1 x2 x3) (fun r => zs_sum (fun v => ((zs_A σ0 v.1 ∧ zs_in (v.2).toInt 1 6)) ∧ v.2.toInt = c + 1) (fun v => zs_A σ0 v) r) := by
  unfold BX0_live_2
  obtain rfl : x1 = (0 : Int32) := zs_eqv h_x1 (by decide)
  refine zs_ite (fun c1 => ?_) (fun c1 => ?_)
  · skip
    have r2 := (zs_I_le c1)
    exact zs_some (zs_inr (h_σ))
  · skip
    have r3 := (zs_I_len c1)
    have g4 : zs_in (x3).toInt 0 5 := (zs_ltl 0 5 r3 h_x3 (zs_rdk (q := 27) (k := 1) (z := (0, 6)) h_σ.1 rfl) (by decide))
    have g5 : zs_in ((sn_I σ 27 1)).toInt 1 6 := (zs_ltr 1 6 r3 h_x3 (zs_rdk (q := 27) (k := 1) (z := (0, 6)) h_σ.1 rfl) (by decide))
    refine zs_gd (zs_gin g4 (by decide)) ?_
    refine zs_bd_ (zA_113 h_x1) (fun t_3 pt_3 => ?_)
    refine zs_gd (zs_gin g4 (by decide)) ?_
    refine zs_lt (Q := fun z => zs_A σ0 z) (zs_wru (z := (0, 1073741823)) h_σ (fun _ => rfl) (zs_and pt_3 (by decide)) (by decide) (fun _ => rfl)) (fun σ_6 hσ_6 => ?_)
    refine zs_lt (Q := fun z => zs_in z.toInt 1 6 ∧ z.toInt = c + 1) ⟨(zs_addI 1 6 g4 zlI_1 (by decide)), (zs_syI 1 hc g4 zlI_1 (by decide) (by decide))⟩ (fun y_8 hy_8 => ?_)
    exact zs_some (zs_inl ⟨⟨hσ_6, hy_8.1⟩, hy_8.2⟩)
theorem zB_21 {σ0 : sn_S} {x1 : Int32} (h_x1 : zs_in x1.toInt 0 0) {x2 : Int32} (h_x2 : zs_in x2.toInt 0 30) {s0 : (sn_S × Int32)} (h0 : (zs_A σ0 s0.1 ∧ zs_in (s0.2).toInt 0 6)) : zs_ok (sn_it (LX0_live_2 27 x1 x2) 5000 s0) (fun t => zs_A σ0 t) := by
  refine zs_it (I := fun s => (zs_A σ0 s.1 ∧ zs_in (s.2).toInt 0 6)) (m := fun s => 6 - s.2.toInt) (fun s hs => ?_) (fun s hs => ?_) (by exact h0)
  · have h1 := hs.2; unfold zs_in at h1
    omega
  · obtain ⟨b, eb, hb⟩ := zA_114 hs.1 h_x1 h_x2 hs.2 (c := s.2.toInt) (Int.add_zero _).symm
    exact ⟨b, eb, zs_sumw hb (fun v w => ⟨⟨w.1.1, (zs_w w.1.2 (by decide))⟩, by have := w.2; omega⟩) (fun v w => w)⟩
-- BX0_tickleByNets_7
theorem zA_115 {σ0 : sn_S} {σ : sn_S} (h_σ : zs_A σ0 σ) {x1 : Int32} (h_x1 : zs_in x1.toInt 0 29) {x2 : Int32} (h_x2 : zs_in x2.toInt 0 174) {x3 : Int32} (h_x3 : zs_in x3.toInt 0 6) (hl_x1 : x2.toInt = 6 * x1.toInt) {c : Int} (hc : x3.toInt = c + 0) : zs_ok (BX0_tickleByNets_7 σ 27 x1 x2 x3) (fun r => zs_sum (fun v => ((zs_A σ0 v.1 ∧ zs_in (v.2).toInt 1 6)) ∧ v.2.toInt = c + 1) (fun v => zs_A σ0 v) r) := by
  unfold BX0_tickleByNets_7
  refine zs_ite (fun c1 => ?_) (fun c1 => ?_)
  · skip
    have r2 := (zs_I_le c1)
    exact zs_some (zs_inr (h_σ))
  · skip
    have r3 := (zs_I_len c1)
    have g4 : zs_in (x3).toInt 0 5 := (zs_ltl 0 5 r3 h_x3 (zs_rdk (q := 27) (k := 1) (z := (0, 6)) h_σ.1 rfl) (by decide))
    have g5 : zs_in ((sn_I σ 27 1)).toInt 1 6 := (zs_ltr 1 6 r3 h_x3 (zs_rdk (q := 27) (k := 1) (z := (0, 6)) h_σ.1 rfl) (by decide))
    refine zs_gd (zs_gin (zs_addI 0 179 h_x2 g4 (by decide)) (by decide)) ?_
    refine zs_lt (Q := fun z => zs_A σ0 z) (zs_wrt h_σ (fun _ => rfl) (fun _ => rfl)) (fun σ_3 hσ_3 => ?_)
    refine zs_lt (Q := fun z => zs_in z.toInt 1 6 ∧ z.toInt = c + 1) ⟨(zs_addI 1 6 g4 zlI_1 (by decide)), (zs_syI 1 hc g4 zlI_1 (by decide) (by decide))⟩ (fun y_5 hy_5 => ?_)
    exact zs_some (zs_inl ⟨⟨hσ_3, hy_5.1⟩, hy_5.2⟩)
theorem zB_22 {σ0 : sn_S} {x1 : Int32} (h_x1 : zs_in x1.toInt 0 29) {x2 : Int32} (h_x2 : zs_in x2.toInt 0 174) (hl_x1 : x2.toInt = 6 * x1.toInt) {s0 : (sn_S × Int32)} (h0 : (zs_A σ0 s0.1 ∧ zs_in (s0.2).toInt 0 6)) : zs_ok (sn_it (LX0_tickleByNets_7 27 x1 x2) 5000 s0) (fun t => zs_A σ0 t) := by
  refine zs_it (I := fun s => (zs_A σ0 s.1 ∧ zs_in (s.2).toInt 0 6)) (m := fun s => 6 - s.2.toInt) (fun s hs => ?_) (fun s hs => ?_) (by exact h0)
  · have h1 := hs.2; unfold zs_in at h1
    omega
  · obtain ⟨b, eb, hb⟩ := zA_115 hs.1 h_x1 h_x2 hs.2 hl_x1 (c := s.2.toInt) (Int.add_zero _).symm
    exact ⟨b, eb, zs_sumw hb (fun v w => ⟨⟨w.1.1, (zs_w w.1.2 (by decide))⟩, by have := w.2; omega⟩) (fun v w => w)⟩
-- BX0_tickleByNets_46
theorem zA_116 {σ0 : sn_S} {σ : sn_S} (h_σ : zs_A σ0 σ) {x2 : Int32} (h_x2 : zs_in x2.toInt 0 0) {t0 : Int32} (h_t0 : zs_in t0.toInt 0 0) : zs_ok (BX0_tickleByNets_46 σ 27 x2 t0) (fun r => zs_A σ0 r) := by
  unfold BX0_tickleByNets_46
  obtain rfl : x2 = (0 : Int32) := zs_eqv h_x2 (by decide)
  obtain rfl : t0 = (0 : Int32) := zs_eqv h_t0 (by decide)
  refine zs_ite (fun c1 => ?_) (fun c1 => ?_)
  · skip
    have r2 := (zs_I_eq c1)
    exact zs_some h_σ
  · skip
    have r3 := (zs_I_eqn c1)
    exact (zs_botne r3 h_t0 zlI_0 (by decide)).elim
-- BX0_tickleByNets_149
theorem zA_117 {σ0 : sn_S} {σ : sn_S} (h_σ : zs_A σ0 σ) {x2 : Int32} (h_x2 : zs_in x2.toInt 6 174) {x3 : Int32} {x4 : Int32} (h_x4 : zs_in x4.toInt 0 7) {c : Int} (hc : x4.toInt = c + 0) : zs_ok (BX0_tickleByNets_149 σ 27 x2 x3 x4) (fun r => zs_sum (fun v => ((zs_A σ0 v.1 ∧ zs_in (v.2).toInt 1 8)) ∧ v.2.toInt = c + 1) (fun v => False) r) := by
  unfold BX0_tickleByNets_149
  refine zs_lt (Q := fun z => zs_in z.toInt 1 8 ∧ z.toInt = c + 1) ⟨(zs_addI 1 8 h_x4 zlI_1 (by decide)), (zs_syI 1 hc h_x4 zlI_1 (by decide) (by decide))⟩ (fun y_1 hy_1 => ?_)
  exact zs_some (zs_inl ⟨⟨h_σ, hy_1.1⟩, hy_1.2⟩)
-- fX8_hasBit
theorem zA_118 {x0 : Int32} {x1 : Int32} (h_x1 : zs_in x1.toInt 0 5) : zs_ok (fX8_hasBit x0 x1) (fun r => zs_in (r).toInt 0 1) := by
  unfold fX8_hasBit
  refine zs_ite (fun c1 => ?_) (fun c1 => ?_)
  · skip
    have r2 := (zs_I_eq c1)
    have g3 : zs_in (((x0 >>> (x1 &&& 31)) &&& (1 : Int32))).toInt 1 1 := (zs_eql 1 1 r2 (zs_and zlI_1 (by decide)) zlI_1 (by decide))
    refine zs_gd (zs_b01 zlI_1 (by decide)) ?_
    exact zs_some (zs_w zlI_1 (by decide))
  · skip
    have r4 := (zs_I_eqn c1)
    have g5 : zs_in (((x0 >>> (x1 &&& 31)) &&& (1 : Int32))).toInt 0 0 := (zs_neh 0 0 r4 (zs_and zlI_1 (by decide)) zlI_1 (by decide))
    refine zs_gd (zs_b01 zlI_0 (by decide)) ?_
    exact zs_some (zs_w zlI_0 (by decide))
-- BX0_tickleByNets_147
theorem zA_119 {σ0 : sn_S} {σ : sn_S} (h_σ : zs_A σ0 σ) {x2 : Int32} (h_x2 : zs_in x2.toInt 6 174) {x3 : Int32} {x4 : Int32} (h_x4 : zs_in x4.toInt 0 7) {t1 : Int32} (h_t1 : zs_in t1.toInt 6 179) {t2 : Int32} {t3 : Int32} (h_t3 : zs_in t3.toInt 0 0) {c : Int} (hc : x4.toInt = c + 0) : zs_ok (BX0_tickleByNets_147 σ 27 x2 x3 x4 t1 t2 t3) (fun r => zs_sum (fun v => ((zs_A σ0 v.1 ∧ zs_in (v.2).toInt 1 8)) ∧ v.2.toInt = c + 1) (fun v => False) r) := by
  unfold BX0_tickleByNets_147
  obtain rfl : t3 = (0 : Int32) := zs_eqv h_t3 (by decide)
  refine zs_gd (zs_gin h_t1 (by decide)) ?_
  refine zs_lt (Q := fun z => zs_A σ0 z) (zs_wrt h_σ (fun _ => rfl) (fun _ => rfl)) (fun σ_2 hσ_2 => ?_)
  obtain ⟨ret, er, hr⟩ := zA_117 hσ_2 h_x2 h_x4 hc
  refine ⟨ret, er, ?_⟩
  exact (zs_sumw hr (fun v w => ⟨w.1, w.2⟩) (fun v w => w.elim))
-- BX0_tickleByNets_147
theorem zA_120 {σ0 : sn_S} {σ : sn_S} (h_σ : zs_A σ0 σ) {x2 : Int32} (h_x2 : zs_in x2.toInt 6 174) {x3 : Int32} {x4 : Int32} (h_x4 : zs_in x4.toInt 0 7) {t1 : Int32} (h_t1 : zs_in t1.toInt 6 179) {t2 : Int32} {t3 : Int32} (h_t3 : zs_in t3.toInt 5 5) {c : Int} (hc : x4.toInt = c + 0) : zs_ok (BX0_tickleByNets_147 σ 27 x2 x3 x4 t1 t2 t3) (fun r => zs_sum (fun v => ((zs_A σ0 v.1 ∧ zs_in (v.2).toInt 1 8)) ∧ v.2.toInt = c + 1) (fun v => False) r) := by
  unfold BX0_tickleByNets_147
  obtain rfl : t3 = (5 : Int32) := zs_eqv h_t3 (by decide)
  refine zs_gd (zs_gin h_t1 (by decide)) ?_
  refine zs_lt (Q := fun z => zs_A σ0 z) (zs_wrt h_σ (fun _ => rfl) (fun _ => rfl)) (fun σ_2 hσ_2 => ?_)
  obtain ⟨ret, er, hr⟩ := zA_117 hσ_2 h_x2 h_x4 hc
  refine ⟨ret, er, ?_⟩
  exact (zs_sumw hr (fun v w => ⟨w.1, w.2⟩) (fun v w => w.elim))
-- BX0_tickleByNets_121
theorem zA_121 {σ0 : sn_S} {σ : sn_S} (h_σ : zs_A σ0 σ) {x2 : Int32} (h_x2 : zs_in x2.toInt 6 174) {x3 : Int32} {x4 : Int32} (h_x4 : zs_in x4.toInt 0 7) {x5 : Int32} (h_x5 : zs_in x5.toInt 0 5) {x6 : Int32} (h_x6 : zs_in x6.toInt 0 5) {t1 : Int32} (h_t1 : zs_in t1.toInt 6 179) {t2 : Int32} {t3 : Int32} (h_t3 : zs_in t3.toInt 0 0) {c : Int} (hc : x4.toInt = c + 0) : zs_ok (BX0_tickleByNets_121 σ 27 x2 x3 x4 x5 x6 t1 t2 t3) (fun r => zs_sum (fun v => ((zs_A σ0 v.1 ∧ zs_in (v.2).toInt 1 8)) ∧ v.2.toInt = c + 1) (fun v => False) r) := by
  unfold BX0_tickleByNets_121
  obtain rfl : t3 = (0 : Int32) := zs_eqv h_t3 (by decide)
  refine zs_gd (zs_gin h_t1 (by decide)) ?_
  refine zs_lt (Q := fun z => zs_A σ0 z) (zs_wrt h_σ (fun _ => rfl) (fun _ => rfl)) (fun σ_2 hσ_2 => ?_)
  refine zs_gd (zs_gin (zs_addI 6 179 h_x2 h_x6 (by decide)) (by decide)) ?_
  refine zs_bd_ (zA_118 h_x5) (fun t_5 pt_5 => ?_)
  refine zs_ite (fun c1 => ?_) (fun c1 => ?_)
  · skip
    have r2 := (zs_I_eq c1)
    have g3 : zs_in (t_5).toInt 0 0 := (zs_eql 0 0 r2 pt_5 zlI_0 (by decide))
    obtain ⟨ret, er, hr⟩ := zA_119 hσ_2 h_x2 h_x4 (zs_addI 6 179 h_x2 h_x6 (by decide)) zlI_0 hc
    refine ⟨ret, er, ?_⟩
    exact (zs_sumw hr (fun v w => ⟨w.1, w.2⟩) (fun v w => w.elim))
  · skip
    have r4 := (zs_I_eqn c1)
    have g5 : zs_in (t_5).toInt 1 1 := (zs_nel 1 1 r4 pt_5 zlI_0 (by decide))
    obtain ⟨ret, er, hr⟩ := zA_120 hσ_2 h_x2 h_x4 (zs_addI 6 179 h_x2 h_x6 (by decide)) zlI_5 hc
    refine ⟨ret, er, ?_⟩
    exact (zs_sumw hr (fun v w => ⟨w.1, w.2⟩) (fun v w => w.elim))
-- BX0_tickleByNets_121
theorem zA_122 {σ0 : sn_S} {σ : sn_S} (h_σ : zs_A σ0 σ) {x2 : Int32} (h_x2 : zs_in x2.toInt 6 174) {x3 : Int32} {x4 : Int32} (h_x4 : zs_in x4.toInt 0 7) {x5 : Int32} (h_x5 : zs_in x5.toInt 0 5) {x6 : Int32} (h_x6 : zs_in x6.toInt 0 5) {t1 : Int32} (h_t1 : zs_in t1.toInt 6 179) {t2 : Int32} {t3 : Int32} (h_t3 : zs_in t3.toInt 5 5) {c : Int} (hc : x4.toInt = c + 0) : zs_ok (BX0_tickleByNets_121 σ 27 x2 x3 x4 x5 x6 t1 t2 t3) (fun r => zs_sum (fun v => ((zs_A σ0 v.1 ∧ zs_in (v.2).toInt 1 8)) ∧ v.2.toInt = c + 1) (fun v => False) r) := by
  unfold BX0_tickleByNets_121
  obtain rfl : t3 = (5 : Int32) := zs_eqv h_t3 (by decide)
  refine zs_gd (zs_gin h_t1 (by decide)) ?_
  refine zs_lt (Q := fun z => zs_A σ0 z) (zs_wrt h_σ (fun _ => rfl) (fun _ => rfl)) (fun σ_2 hσ_2 => ?_)
  refine zs_gd (zs_gin (zs_addI 6 179 h_x2 h_x6 (by decide)) (by decide)) ?_
  refine zs_bd_ (zA_118 h_x5) (fun t_5 pt_5 => ?_)
  refine zs_ite (fun c1 => ?_) (fun c1 => ?_)
  · skip
    have r2 := (zs_I_eq c1)
    have g3 : zs_in (t_5).toInt 0 0 := (zs_eql 0 0 r2 pt_5 zlI_0 (by decide))
    obtain ⟨ret, er, hr⟩ := zA_119 hσ_2 h_x2 h_x4 (zs_addI 6 179 h_x2 h_x6 (by decide)) zlI_0 hc
    refine ⟨ret, er, ?_⟩
    exact (zs_sumw hr (fun v w => ⟨w.1, w.2⟩) (fun v w => w.elim))
  · skip
    have r4 := (zs_I_eqn c1)
    have g5 : zs_in (t_5).toInt 1 1 := (zs_nel 1 1 r4 pt_5 zlI_0 (by decide))
    obtain ⟨ret, er, hr⟩ := zA_120 hσ_2 h_x2 h_x4 (zs_addI 6 179 h_x2 h_x6 (by decide)) zlI_5 hc
    refine ⟨ret, er, ?_⟩
    exact (zs_sumw hr (fun v w => ⟨w.1, w.2⟩) (fun v w => w.elim))
-- BX0_tickleByNets_55
theorem zA_123 {σ0 : sn_S} {σ : sn_S} (h_σ : zs_A σ0 σ) {x2 : Int32} (h_x2 : zs_in x2.toInt 6 174) {x3 : Int32} {x4 : Int32} (h_x4 : zs_in x4.toInt 0 8) {c : Int} (hc : x4.toInt = c + 0) : zs_ok (BX0_tickleByNets_55 σ 27 x2 x3 x4) (fun r => zs_sum (fun v => ((zs_A σ0 v.1 ∧ zs_in (v.2).toInt 1 8)) ∧ v.2.toInt = c + 1) (fun v => zs_A σ0 v) r) := by
  unfold BX0_tickleByNets_55
  refine zs_ite (fun c1 => ?_) (fun c1 => ?_)
  · skip
    have r2 := (zs_I_le c1)
    exact zs_some (zs_inr (h_σ))
  · skip
    have r3 := (zs_I_len c1)
    have g4 : zs_in (x4).toInt 0 7 := (zs_ltl 0 7 r3 h_x4 (zs_rdk (q := 27) (k := 2) (z := (0, 8)) h_σ.1 rfl) (by decide))
    have g5 : zs_in ((sn_I σ 27 2)).toInt 1 8 := (zs_ltr 1 8 r3 h_x4 (zs_rdk (q := 27) (k := 2) (z := (0, 8)) h_σ.1 rfl) (by decide))
    refine zs_ite (fun c6 => ?_) (fun c6 => ?_)
    · skip
      have r7 := (zs_I_eq c6)
      have g8 : zs_in ((sn_I σ 27 3)).toInt 0 7 := (zs_eqr 0 7 r7 g4 (zs_topI _) (by decide))
      obtain ⟨ret, er, hr⟩ := zA_117 h_σ h_x2 g4 hc
      refine ⟨ret, er, ?_⟩
      exact (zs_sumw hr (fun v w => ⟨w.1, w.2⟩) (fun v w => w.elim))
    · skip
      have r9 := (zs_I_eqn c6)
      refine zs_gd (zs_gin (zs_mulI 0 14 zlI_2 g4 (by decide)) (by decide)) ?_
      refine zs_lt (Q := fun z => zs_in z.toInt 0 5) (zs_use (h_σ.1.2 rfl).2.1.1 g4 (by decide) r3 (zs_i20 g4 (by decide))) (fun y_4 hy_4 => ?_)
      refine zs_gd (zs_gin (zs_addI 1 15 (zs_mulI 0 14 zlI_2 g4 (by decide)) zlI_1 (by decide)) (by decide)) ?_
      refine zs_lt (Q := fun z => zs_in z.toInt 0 5) (zs_use (h_σ.1.2 rfl).2.1.2 g4 (by decide) r3 (zs_i21 g4 (by decide))) (fun y_7 hy_7 => ?_)
      refine zs_gd (zs_gin (zs_addI 6 179 h_x2 hy_4 (by decide)) (by decide)) ?_
      refine zs_bd_ (zA_118 hy_7) (fun t_10 pt_10 => ?_)
      refine zs_ite (fun c10 => ?_) (fun c10 => ?_)
      · skip
        have r11 := (zs_I_eq c10)
        have g12 : zs_in (t_10).toInt 0 0 := (zs_eql 0 0 r11 pt_10 zlI_0 (by decide))
        obtain ⟨ret, er, hr⟩ := zA_121 h_σ h_x2 g4 hy_4 hy_7 (zs_addI 6 179 h_x2 hy_4 (by decide)) zlI_0 hc
        refine ⟨ret, er, ?_⟩
        exact (zs_sumw hr (fun v w => ⟨w.1, w.2⟩) (fun v w => w.elim))
      · skip
        have r13 := (zs_I_eqn c10)
        have g14 : zs_in (t_10).toInt 1 1 := (zs_nel 1 1 r13 pt_10 zlI_0 (by decide))
        obtain ⟨ret, er, hr⟩ := zA_122 h_σ h_x2 g4 hy_4 hy_7 (zs_addI 6 179 h_x2 hy_4 (by decide)) zlI_5 hc
        refine ⟨ret, er, ?_⟩
        exact (zs_sumw hr (fun v w => ⟨w.1, w.2⟩) (fun v w => w.elim))
theorem zB_23 {σ0 : sn_S} {x2 : Int32} (h_x2 : zs_in x2.toInt 6 174) {x3 : Int32} {s0 : (sn_S × Int32)} (h0 : (zs_A σ0 s0.1 ∧ zs_in (s0.2).toInt 0 8)) : zs_ok (sn_it (LX0_tickleByNets_55 27 x2 x3) 5000 s0) (fun t => zs_A σ0 t) := by
  refine zs_it (I := fun s => (zs_A σ0 s.1 ∧ zs_in (s.2).toInt 0 8)) (m := fun s => 8 - s.2.toInt) (fun s hs => ?_) (fun s hs => ?_) (by exact h0)
  · have h1 := hs.2; unfold zs_in at h1
    omega
  · obtain ⟨b, eb, hb⟩ := zA_123 hs.1 h_x2 hs.2 (c := s.2.toInt) (Int.add_zero _).symm
    exact ⟨b, eb, zs_sumw hb (fun v w => ⟨⟨w.1.1, (zs_w w.1.2 (by decide))⟩, by have := w.2; omega⟩) (fun v w => w)⟩
-- BX0_tickleByNets_155
theorem zA_124 {σ0 : sn_S} {σ : sn_S} (h_σ : zs_A σ0 σ) : zs_ok (BX0_tickleByNets_155 σ 27) (fun r => zs_A σ0 r) := by
  unfold BX0_tickleByNets_155
  exact zs_some h_σ
-- BX0_tickleByNets_46
theorem zA_125 {σ0 : sn_S} {σ : sn_S} (h_σ : zs_A σ0 σ) {x2 : Int32} (h_x2 : zs_in x2.toInt 6 174) {t0 : Int32} : zs_ok (BX0_tickleByNets_46 σ 27 x2 t0) (fun r => zs_A σ0 r) := by
  unfold BX0_tickleByNets_46
  refine zs_ite (fun c1 => ?_) (fun c1 => ?_)
  · skip
    have r2 := (zs_I_eq c1)
    have g3 : zs_in (t0).toInt 0 0 := (zs_eql 0 0 r2 (zs_topI _) zlI_0 (by decide))
    exact zs_some h_σ
  · skip
    have r4 := (zs_I_eqn c1)
    refine zs_bd_ (zB_23 h_x2 (s0 := (σ, (0 : Int32))) ⟨h_σ, (zs_w zlI_0 (by decide))⟩) (fun t_2 pt_2 => ?_)
    obtain ⟨ret, er, hr⟩ := zA_124 pt_2
    refine ⟨ret, er, ?_⟩
    exact hr
-- BX0_tickleByNets_30
theorem zA_126 {σ0 : sn_S} {σ : sn_S} (h_σ : zs_A σ0 σ) {x1 : Int32} (h_x1 : zs_in x1.toInt 0 29) {x2 : Int32} (h_x2 : zs_in x2.toInt 0 174) (hl_x1 : x2.toInt = 6 * x1.toInt) : zs_ok (BX0_tickleByNets_30 σ 27 x1 x2) (fun r => zs_A σ0 r) := by
  unfold BX0_tickleByNets_30
  refine zs_ite (fun c1 => ?_) (fun c1 => ?_)
  · skip
    have r2 := (zs_I_eq c1)
    have g3 : zs_in (x1).toInt 0 0 := (zs_eql 0 0 r2 h_x1 zlI_0 (by decide))
    have g4 : zs_in (x2).toInt 0 0 := (zs_lin 0 0 hl_x1 g3 (by decide))
    obtain ⟨ret, er, hr⟩ := zA_116 h_σ g4 zlI_0
    refine ⟨ret, er, ?_⟩
    exact hr
  · skip
    have r5 := (zs_I_eqn c1)
    have g6 : zs_in (x1).toInt 1 29 := (zs_nel 1 29 r5 h_x1 zlI_0 (by decide))
    have g7 : zs_in (x2).toInt 6 174 := (zs_lin 6 174 hl_x1 g6 (by decide))
    refine zs_gd (zs_gin (zs_subI 0 28 g6 zlI_1 (by decide)) (by decide)) ?_
    obtain ⟨ret, er, hr⟩ := zA_125 h_σ g7
    refine ⟨ret, er, ?_⟩
    exact hr
-- fX0_tickleByNets
theorem zA_127 {σ0 : sn_S} {σ : sn_S} (h_σ : zs_A σ0 σ) {x1 : Int32} (h_x1 : zs_in x1.toInt 0 29) : zs_ok (fX0_tickleByNets σ 27 x1) (fun r => zs_A σ0 r) := by
  unfold fX0_tickleByNets
  refine zs_lt (Q := fun z => zs_in z.toInt 0 174 ∧ z = ((6 : Int32) * x1)) ⟨(zs_mulI 0 174 zlI_6 h_x1 (by decide)), rfl⟩ (fun y_1 hy_1 => ?_)
  refine zs_bd_ (zB_22 h_x1 hy_1.1 (zs_linv hy_1.2 zlI_6 h_x1 (by decide)) (s0 := (σ, (0 : Int32))) ⟨h_σ, (zs_w zlI_0 (by decide))⟩) (fun t_3 pt_3 => ?_)
  obtain ⟨ret, er, hr⟩ := zA_126 pt_3 h_x1 hy_1.1 (zs_linv hy_1.2 zlI_6 h_x1 (by decide))
  refine ⟨ret, er, ?_⟩
  exact hr
-- fX8_hasBit
theorem zA_128 {x0 : Int32} {x1 : Int32} (h_x1 : zs_in x1.toInt 0 29) : zs_ok (fX8_hasBit x0 x1) (fun r => zs_in (r).toInt 0 1) := by
  unfold fX8_hasBit
  refine zs_ite (fun c1 => ?_) (fun c1 => ?_)
  · skip
    have r2 := (zs_I_eq c1)
    have g3 : zs_in (((x0 >>> (x1 &&& 31)) &&& (1 : Int32))).toInt 1 1 := (zs_eql 1 1 r2 (zs_and zlI_1 (by decide)) zlI_1 (by decide))
    refine zs_gd (zs_b01 zlI_1 (by decide)) ?_
    exact zs_some (zs_w zlI_1 (by decide))
  · skip
    have r4 := (zs_I_eqn c1)
    have g5 : zs_in (((x0 >>> (x1 &&& 31)) &&& (1 : Int32))).toInt 0 0 := (zs_neh 0 0 r4 (zs_and zlI_1 (by decide)) zlI_1 (by decide))
    refine zs_gd (zs_b01 zlI_0 (by decide)) ?_
    exact zs_some (zs_w zlI_0 (by decide))
-- fX0_cameAt
theorem zA_129 {σ0 : sn_S} {σ : sn_S} (h_σ : zs_A σ0 σ) {x1 : Int32} (h_x1 : zs_in x1.toInt 0 5) {x2 : Int32} (h_x2 : zs_in x2.toInt 0 29) : zs_ok (fX0_cameAt σ 27 x1 x2) (fun r => True) := by
  unfold fX0_cameAt
  refine zs_gd (zs_gin (zs_addI 0 179 (zs_mulI 0 174 zlI_6 h_x2 (by decide)) h_x1 (by decide)) (by decide)) ?_
  exact zs_some trivial
-- BX0_comesTo_19
theorem zA_130 {σ0 : sn_S} {σ : sn_S} (h_σ : zs_A σ0 σ) {x1 : Int32} (h_x1 : zs_in x1.toInt 0 5) {x2 : Int32} (h_x2 : zs_in x2.toInt 0 29) {t0 : Int32} (h_t0 : zs_in t0.toInt 0 0) : zs_ok (BX0_comesTo_19 σ 27 x1 x2 t0) (fun r => True) := by
  unfold BX0_comesTo_19
  obtain rfl : t0 = (0 : Int32) := zs_eqv h_t0 (by decide)
  refine zs_gd (zs_gin h_x1 (by decide)) ?_
  refine zs_gd (zs_gin h_x2 (by decide)) ?_
  refine zs_bd_ (zA_129 h_σ h_x1 h_x2) (fun t_3 pt_3 => ?_)
  exact zs_some trivial
-- BX0_comesTo_19
theorem zA_131 {σ0 : sn_S} {σ : sn_S} (h_σ : zs_A σ0 σ) {x1 : Int32} (h_x1 : zs_in x1.toInt 0 5) {x2 : Int32} (h_x2 : zs_in x2.toInt 0 29) {t0 : Int32} (h_t0 : zs_in t0.toInt 40 40) : zs_ok (BX0_comesTo_19 σ 27 x1 x2 t0) (fun r => True) := by
  unfold BX0_comesTo_19
  obtain rfl : t0 = (40 : Int32) := zs_eqv h_t0 (by decide)
  refine zs_gd (zs_gin h_x1 (by decide)) ?_
  refine zs_gd (zs_gin h_x2 (by decide)) ?_
  refine zs_bd_ (zA_129 h_σ h_x1 h_x2) (fun t_3 pt_3 => ?_)
  exact zs_some trivial
-- fX0_comesTo
theorem zA_132 {σ0 : sn_S} {σ : sn_S} (h_σ : zs_A σ0 σ) {x1 : Int32} (h_x1 : zs_in x1.toInt 0 5) {x2 : Int32} (h_x2 : zs_in x2.toInt 0 29) : zs_ok (fX0_comesTo σ 27 x1 x2) (fun r => True) := by
  unfold fX0_comesTo
  refine zs_gd (zs_gin h_x1 (by decide)) ?_
  refine zs_bd_ (zA_128 h_x2) (fun t_2 pt_2 => ?_)
  refine zs_ite (fun c1 => ?_) (fun c1 => ?_)
  · skip
    have r2 := (zs_I_eq c1)
    have g3 : zs_in (t_2).toInt 0 0 := (zs_eql 0 0 r2 pt_2 zlI_0 (by decide))
    obtain ⟨ret, er, hr⟩ := zA_130 h_σ h_x1 h_x2 zlI_0
    refine ⟨ret, er, ?_⟩
    exact hr
  · skip
    have r4 := (zs_I_eqn c1)
    have g5 : zs_in (t_2).toInt 1 1 := (zs_nel 1 1 r4 pt_2 zlI_0 (by decide))
    obtain ⟨ret, er, hr⟩ := zA_131 h_σ h_x1 h_x2 zlI_40
    refine ⟨ret, er, ?_⟩
    exact hr
-- BX0_liveMinute_98
theorem zA_133 {σ0 : sn_S} {σ : sn_S} (h_σ : zs_A σ0 σ) {x1 : Int32} (h_x1 : zs_in x1.toInt 0 0) {x2 : Int32} (h_x2 : zs_in x2.toInt 0 0) {x3 : Int32} {x4 : Int32} (h_x4 : zs_in x4.toInt 0 5) {x5 : Int32} (h_x5 : zs_in x5.toInt (-2147483648) 2147483646) (hl_x1 : x2.toInt = 6 * x1.toInt) {c : Int} (hc : x4.toInt = c + 0) : zs_ok (BX0_liveMinute_98 σ 27 x1 x2 x3 x4 x5) (fun r => zs_sum (fun v => ((zs_A σ0 v.1 ∧ (True ∧ zs_in (v.2.2).toInt 1 6))) ∧ v.2.2.toInt = c + 1) (fun v => False) r) := by
  unfold BX0_liveMinute_98
  refine zs_gd (zs_gin (zs_addI 0 5 h_x2 h_x4 (by decide)) (by decide)) ?_
  refine zs_lt (Q := fun z => zs_A σ0 z) (zs_wrt h_σ (fun _ => rfl) (fun _ => rfl)) (fun σ_2 hσ_2 => ?_)
  refine zs_lt (Q := fun z => zs_in z.toInt 1 6 ∧ z.toInt = c + 1) ⟨(zs_addI 1 6 h_x4 zlI_1 (by decide)), (zs_syI 1 hc h_x4 zlI_1 (by decide) (by decide))⟩ (fun y_4 hy_4 => ?_)
  exact zs_some (zs_inl ⟨⟨hσ_2, ⟨trivial, hy_4.1⟩⟩, hy_4.2⟩)
-- fX8_hasBit
theorem zA_134 {x0 : Int32} {x1 : Int32} (h_x1 : zs_in x1.toInt 0 0) : zs_ok (fX8_hasBit x0 x1) (fun r => zs_in (r).toInt 0 1) := by
  unfold fX8_hasBit
  obtain rfl : x1 = (0 : Int32) := zs_eqv h_x1 (by decide)
  refine zs_ite (fun c1 => ?_) (fun c1 => ?_)
  · skip
    have r2 := (zs_I_eq c1)
    have g3 : zs_in (((x0 >>> ((0 : Int32) &&& 31)) &&& (1 : Int32))).toInt 1 1 := (zs_eql 1 1 r2 (zs_and zlI_1 (by decide)) zlI_1 (by decide))
    refine zs_gd (zs_b01 zlI_1 (by decide)) ?_
    exact zs_some (zs_w zlI_1 (by decide))
  · skip
    have r4 := (zs_I_eqn c1)
    have g5 : zs_in (((x0 >>> ((0 : Int32) &&& 31)) &&& (1 : Int32))).toInt 0 0 := (zs_neh 0 0 r4 (zs_and zlI_1 (by decide)) zlI_1 (by decide))
    refine zs_gd (zs_b01 zlI_0 (by decide)) ?_
    exact zs_some (zs_w zlI_0 (by decide))
-- BX0_liveMinute_98
theorem zA_135 {σ0 : sn_S} {σ : sn_S} (h_σ : zs_A σ0 σ) {x1 : Int32} (h_x1 : zs_in x1.toInt 0 0) {x2 : Int32} (h_x2 : zs_in x2.toInt 0 0) {x3 : Int32} {x4 : Int32} (h_x4 : zs_in x4.toInt 0 5) {x5 : Int32} (h_x5 : zs_in x5.toInt 0 0) (hl_x1 : x2.toInt = 6 * x1.toInt) {c : Int} (hc : x4.toInt = c + 0) : zs_ok (BX0_liveMinute_98 σ 27 x1 x2 x3 x4 x5) (fun r => zs_sum (fun v => ((zs_A σ0 v.1 ∧ (True ∧ zs_in (v.2.2).toInt 1 6))) ∧ v.2.2.toInt = c + 1) (fun v => False) r) := by
  unfold BX0_liveMinute_98
  obtain rfl : x5 = (0 : Int32) := zs_eqv h_x5 (by decide)
  refine zs_gd (zs_gin (zs_addI 0 5 h_x2 h_x4 (by decide)) (by decide)) ?_
  refine zs_lt (Q := fun z => zs_A σ0 z) (zs_wrt h_σ (fun _ => rfl) (fun _ => rfl)) (fun σ_2 hσ_2 => ?_)
  refine zs_lt (Q := fun z => zs_in z.toInt 1 6 ∧ z.toInt = c + 1) ⟨(zs_addI 1 6 h_x4 zlI_1 (by decide)), (zs_syI 1 hc h_x4 zlI_1 (by decide) (by decide))⟩ (fun y_4 hy_4 => ?_)
  exact zs_some (zs_inl ⟨⟨hσ_2, ⟨trivial, hy_4.1⟩⟩, hy_4.2⟩)
-- BX0_liveMinute_98
theorem zA_136 {σ0 : sn_S} {σ : sn_S} (h_σ : zs_A σ0 σ) {x1 : Int32} (h_x1 : zs_in x1.toInt 0 0) {x2 : Int32} (h_x2 : zs_in x2.toInt 0 0) {x3 : Int32} {x4 : Int32} (h_x4 : zs_in x4.toInt 0 5) {x5 : Int32} (hl_x1 : x2.toInt = 6 * x1.toInt) {c : Int} (hc : x4.toInt = c + 0) : zs_ok (BX0_liveMinute_98 σ 27 x1 x2 x3 x4 x5) (fun r => zs_sum (fun v => ((zs_A σ0 v.1 ∧ (True ∧ zs_in (v.2.2).toInt 1 6))) ∧ v.2.2.toInt = c + 1) (fun v => False) r) := by
  unfold BX0_liveMinute_98
  refine zs_gd (zs_gin (zs_addI 0 5 h_x2 h_x4 (by decide)) (by decide)) ?_
  refine zs_lt (Q := fun z => zs_A σ0 z) (zs_wrt h_σ (fun _ => rfl) (fun _ => rfl)) (fun σ_2 hσ_2 => ?_)
  refine zs_lt (Q := fun z => zs_in z.toInt 1 6 ∧ z.toInt = c + 1) ⟨(zs_addI 1 6 h_x4 zlI_1 (by decide)), (zs_syI 1 hc h_x4 zlI_1 (by decide) (by decide))⟩ (fun y_4 hy_4 => ?_)
  exact zs_some (zs_inl ⟨⟨hσ_2, ⟨trivial, hy_4.1⟩⟩, hy_4.2⟩)
-- BX0_liveMinute_46
theorem zA_137 {σ0 : sn_S} {σ : sn_S} (h_σ : zs_A σ0 σ) {x1 : Int32} (h_x1 : zs_in x1.toInt 0 0) {x2 : Int32} (h_x2 : zs_in x2.toInt 0 0) {x3 : Int32} {x4 : Int32} (h_x4 : zs_in x4.toInt 0 5) {t0 : Int32} {t1 : Int32} (h_t1 : zs_in t1.toInt 0 0) (hl_x1 : x2.toInt = 6 * x1.toInt) {c : Int} (hc : x4.toInt = c + 0) : zs_ok (BX0_liveMinute_46 σ 27 x1 x2 x3 x4 t0 t1) (fun r => zs_sum (fun v => ((zs_A σ0 v.1 ∧ (True ∧ zs_in (v.2.2).toInt 1 6))) ∧ v.2.2.toInt = c + 1) (fun v => False) r) := by
  unfold BX0_liveMinute_46
  obtain rfl : t1 = (0 : Int32) := zs_eqv h_t1 (by decide)
  refine zs_lt (Q := fun z => True) trivial (fun y_1 hy_1 => ?_)
  refine zs_gd (zs_gin h_x4 (by decide)) ?_
  refine zs_ite (fun c1 => ?_) (fun c1 => ?_)
  · skip
    have r2 := (zs_I_lt c1)
    have g3 : zs_in (y_1).toInt (-2147483648) 2147483646 := (zs_ltl (-2147483648) 2147483646 r2 (zs_topI _) (zs_topI _) (by decide))
    have g4 : zs_in ((sn_I σ (27 + 3) x4.toNatClampNeg)).toInt (-2147483647) 2147483647 := (zs_ltr (-2147483647) 2147483647 r2 (zs_topI _) (zs_topI _) (by decide))
    obtain ⟨ret, er, hr⟩ := zA_133 h_σ h_x1 h_x2 h_x4 g3 hl_x1 hc
    refine ⟨ret, er, ?_⟩
    exact (zs_sumw hr (fun v w => ⟨w.1, w.2⟩) (fun v w => w.elim))
  · skip
    have r5 := (zs_I_ltn c1)
    refine zs_gd (zs_gin h_x4 (by decide)) ?_
    refine zs_bd_ (zA_134 h_x1) (fun t_6 pt_6 => ?_)
    refine zs_ite (fun c6 => ?_) (fun c6 => ?_)
    · skip
      have r7 := (zs_I_eq c6)
      have g8 : zs_in (t_6).toInt 0 0 := (zs_eql 0 0 r7 pt_6 zlI_0 (by decide))
      refine zs_lt (Q := fun z => True) trivial (fun y_9 hy_9 => ?_)
      refine zs_gd (zs_gin h_x4 (by decide)) ?_
      refine zs_gd (zs_gin h_x4 (by decide)) ?_
      refine zs_lt (Q := fun z => zs_A σ0 z) (zs_wru (z := (0, 1073741823)) h_σ (fun _ => rfl) (zs_or 30 1073741823 (zs_rdu (q := 37) (z := (0, 1073741823)) h_σ.1 (fun _ => rfl)) (zs_cases h_x1 (fun z => zs_in ((1 : Int32) <<< (z &&& 31)).toInt 1 1) (by decide +kernel)) (by decide)) (by decide) (fun _ => rfl)) (fun σ_13 hσ_13 => ?_)
      obtain ⟨ret, er, hr⟩ := zA_135 hσ_13 h_x1 h_x2 h_x4 zlI_0 hl_x1 hc
      refine ⟨ret, er, ?_⟩
      exact (zs_sumw hr (fun v w => ⟨w.1, w.2⟩) (fun v w => w.elim))
    · skip
      have r9 := (zs_I_eqn c6)
      have g10 : zs_in (t_6).toInt 1 1 := (zs_nel 1 1 r9 pt_6 zlI_0 (by decide))
      obtain ⟨ret, er, hr⟩ := zA_136 h_σ h_x1 h_x2 h_x4 hl_x1 hc
      refine ⟨ret, er, ?_⟩
      exact (zs_sumw hr (fun v w => ⟨w.1, w.2⟩) (fun v w => w.elim))
-- BX0_liveMinute_98
theorem zA_138 {σ0 : sn_S} {σ : sn_S} (h_σ : zs_A σ0 σ) {x1 : Int32} (h_x1 : zs_in x1.toInt 1 29) {x2 : Int32} (h_x2 : zs_in x2.toInt 6 174) {x3 : Int32} {x4 : Int32} (h_x4 : zs_in x4.toInt 0 5) {x5 : Int32} (h_x5 : zs_in x5.toInt (-2147483648) 2147483646) (hl_x1 : x2.toInt = 6 * x1.toInt) {c : Int} (hc : x4.toInt = c + 0) : zs_ok (BX0_liveMinute_98 σ 27 x1 x2 x3 x4 x5) (fun r => zs_sum (fun v => ((zs_A σ0 v.1 ∧ (True ∧ zs_in (v.2.2).toInt 1 6))) ∧ v.2.2.toInt = c + 1) (fun v => False) r) := by
  unfold BX0_liveMinute_98
  refine zs_gd (zs_gin (zs_addI 6 179 h_x2 h_x4 (by decide)) (by decide)) ?_
  refine zs_lt (Q := fun z => zs_A σ0 z) (zs_wrt h_σ (fun _ => rfl) (fun _ => rfl)) (fun σ_2 hσ_2 => ?_)
  refine zs_lt (Q := fun z => zs_in z.toInt 1 6 ∧ z.toInt = c + 1) ⟨(zs_addI 1 6 h_x4 zlI_1 (by decide)), (zs_syI 1 hc h_x4 zlI_1 (by decide) (by decide))⟩ (fun y_4 hy_4 => ?_)
  exact zs_some (zs_inl ⟨⟨hσ_2, ⟨trivial, hy_4.1⟩⟩, hy_4.2⟩)
-- fX8_hasBit
theorem zA_139 {x0 : Int32} {x1 : Int32} (h_x1 : zs_in x1.toInt 1 29) : zs_ok (fX8_hasBit x0 x1) (fun r => zs_in (r).toInt 0 1) := by
  unfold fX8_hasBit
  refine zs_ite (fun c1 => ?_) (fun c1 => ?_)
  · skip
    have r2 := (zs_I_eq c1)
    have g3 : zs_in (((x0 >>> (x1 &&& 31)) &&& (1 : Int32))).toInt 1 1 := (zs_eql 1 1 r2 (zs_and zlI_1 (by decide)) zlI_1 (by decide))
    refine zs_gd (zs_b01 zlI_1 (by decide)) ?_
    exact zs_some (zs_w zlI_1 (by decide))
  · skip
    have r4 := (zs_I_eqn c1)
    have g5 : zs_in (((x0 >>> (x1 &&& 31)) &&& (1 : Int32))).toInt 0 0 := (zs_neh 0 0 r4 (zs_and zlI_1 (by decide)) zlI_1 (by decide))
    refine zs_gd (zs_b01 zlI_0 (by decide)) ?_
    exact zs_some (zs_w zlI_0 (by decide))
-- BX0_liveMinute_98
theorem zA_140 {σ0 : sn_S} {σ : sn_S} (h_σ : zs_A σ0 σ) {x1 : Int32} (h_x1 : zs_in x1.toInt 1 29) {x2 : Int32} (h_x2 : zs_in x2.toInt 6 174) {x3 : Int32} {x4 : Int32} (h_x4 : zs_in x4.toInt 0 5) {x5 : Int32} (h_x5 : zs_in x5.toInt 0 0) (hl_x1 : x2.toInt = 6 * x1.toInt) {c : Int} (hc : x4.toInt = c + 0) : zs_ok (BX0_liveMinute_98 σ 27 x1 x2 x3 x4 x5) (fun r => zs_sum (fun v => ((zs_A σ0 v.1 ∧ (True ∧ zs_in (v.2.2).toInt 1 6))) ∧ v.2.2.toInt = c + 1) (fun v => False) r) := by
  unfold BX0_liveMinute_98
  obtain rfl : x5 = (0 : Int32) := zs_eqv h_x5 (by decide)
  refine zs_gd (zs_gin (zs_addI 6 179 h_x2 h_x4 (by decide)) (by decide)) ?_
  refine zs_lt (Q := fun z => zs_A σ0 z) (zs_wrt h_σ (fun _ => rfl) (fun _ => rfl)) (fun σ_2 hσ_2 => ?_)
  refine zs_lt (Q := fun z => zs_in z.toInt 1 6 ∧ z.toInt = c + 1) ⟨(zs_addI 1 6 h_x4 zlI_1 (by decide)), (zs_syI 1 hc h_x4 zlI_1 (by decide) (by decide))⟩ (fun y_4 hy_4 => ?_)
  exact zs_some (zs_inl ⟨⟨hσ_2, ⟨trivial, hy_4.1⟩⟩, hy_4.2⟩)
-- BX0_liveMinute_98
theorem zA_141 {σ0 : sn_S} {σ : sn_S} (h_σ : zs_A σ0 σ) {x1 : Int32} (h_x1 : zs_in x1.toInt 1 29) {x2 : Int32} (h_x2 : zs_in x2.toInt 6 174) {x3 : Int32} {x4 : Int32} (h_x4 : zs_in x4.toInt 0 5) {x5 : Int32} (hl_x1 : x2.toInt = 6 * x1.toInt) {c : Int} (hc : x4.toInt = c + 0) : zs_ok (BX0_liveMinute_98 σ 27 x1 x2 x3 x4 x5) (fun r => zs_sum (fun v => ((zs_A σ0 v.1 ∧ (True ∧ zs_in (v.2.2).toInt 1 6))) ∧ v.2.2.toInt = c + 1) (fun v => False) r) := by
  unfold BX0_liveMinute_98
  refine zs_gd (zs_gin (zs_addI 6 179 h_x2 h_x4 (by decide)) (by decide)) ?_
  refine zs_lt (Q := fun z => zs_A σ0 z) (zs_wrt h_σ (fun _ => rfl) (fun _ => rfl)) (fun σ_2 hσ_2 => ?_)
  refine zs_lt (Q := fun z => zs_in z.toInt 1 6 ∧ z.toInt = c + 1) ⟨(zs_addI 1 6 h_x4 zlI_1 (by decide)), (zs_syI 1 hc h_x4 zlI_1 (by decide) (by decide))⟩ (fun y_4 hy_4 => ?_)
  exact zs_some (zs_inl ⟨⟨hσ_2, ⟨trivial, hy_4.1⟩⟩, hy_4.2⟩)
-- BX0_liveMinute_46
theorem zA_142 {σ0 : sn_S} {σ : sn_S} (h_σ : zs_A σ0 σ) {x1 : Int32} (h_x1 : zs_in x1.toInt 1 29) {x2 : Int32} (h_x2 : zs_in x2.toInt 6 174) {x3 : Int32} {x4 : Int32} (h_x4 : zs_in x4.toInt 0 5) {t0 : Int32} {t1 : Int32} (hl_x1 : x2.toInt = 6 * x1.toInt) {c : Int} (hc : x4.toInt = c + 0) : zs_ok (BX0_liveMinute_46 σ 27 x1 x2 x3 x4 t0 t1) (fun r => zs_sum (fun v => ((zs_A σ0 v.1 ∧ (True ∧ zs_in (v.2.2).toInt 1 6))) ∧ v.2.2.toInt = c + 1) (fun v => False) r) := by
  unfold BX0_liveMinute_46
  refine zs_lt (Q := fun z => True) trivial (fun y_1 hy_1 => ?_)
  refine zs_gd (zs_gin h_x4 (by decide)) ?_
  refine zs_ite (fun c1 => ?_) (fun c1 => ?_)
  · skip
    have r2 := (zs_I_lt c1)
    have g3 : zs_in (y_1).toInt (-2147483648) 2147483646 := (zs_ltl (-2147483648) 2147483646 r2 (zs_topI _) (zs_topI _) (by decide))
    have g4 : zs_in ((sn_I σ (27 + 3) x4.toNatClampNeg)).toInt (-2147483647) 2147483647 := (zs_ltr (-2147483647) 2147483647 r2 (zs_topI _) (zs_topI _) (by decide))
    obtain ⟨ret, er, hr⟩ := zA_138 h_σ h_x1 h_x2 h_x4 g3 hl_x1 hc
    refine ⟨ret, er, ?_⟩
    exact (zs_sumw hr (fun v w => ⟨w.1, w.2⟩) (fun v w => w.elim))
  · skip
    have r5 := (zs_I_ltn c1)
    refine zs_gd (zs_gin h_x4 (by decide)) ?_
    refine zs_bd_ (zA_139 h_x1) (fun t_6 pt_6 => ?_)
    refine zs_ite (fun c6 => ?_) (fun c6 => ?_)
    · skip
      have r7 := (zs_I_eq c6)
      have g8 : zs_in (t_6).toInt 0 0 := (zs_eql 0 0 r7 pt_6 zlI_0 (by decide))
      refine zs_lt (Q := fun z => True) trivial (fun y_9 hy_9 => ?_)
      refine zs_gd (zs_gin h_x4 (by decide)) ?_
      refine zs_gd (zs_gin h_x4 (by decide)) ?_
      refine zs_lt (Q := fun z => zs_A σ0 z) (zs_wru (z := (0, 1073741823)) h_σ (fun _ => rfl) (zs_or 30 1073741823 (zs_rdu (q := 37) (z := (0, 1073741823)) h_σ.1 (fun _ => rfl)) (zs_cases h_x1 (fun z => zs_in ((1 : Int32) <<< (z &&& 31)).toInt 2 536870912) (by decide +kernel)) (by decide)) (by decide) (fun _ => rfl)) (fun σ_13 hσ_13 => ?_)
      obtain ⟨ret, er, hr⟩ := zA_140 hσ_13 h_x1 h_x2 h_x4 zlI_0 hl_x1 hc
      refine ⟨ret, er, ?_⟩
      exact (zs_sumw hr (fun v w => ⟨w.1, w.2⟩) (fun v w => w.elim))
    · skip
      have r9 := (zs_I_eqn c6)
      have g10 : zs_in (t_6).toInt 1 1 := (zs_nel 1 1 r9 pt_6 zlI_0 (by decide))
      obtain ⟨ret, er, hr⟩ := zA_141 h_σ h_x1 h_x2 h_x4 hl_x1 hc
      refine ⟨ret, er, ?_⟩
      exact (zs_sumw hr (fun v w => ⟨w.1, w.2⟩) (fun v w => w.elim))
-- BX0_liveMinute_10
theorem zA_143 {σ0 : sn_S} {σ : sn_S} (h_σ : zs_A σ0 σ) {x1 : Int32} (h_x1 : zs_in x1.toInt 0 29) {x2 : Int32} (h_x2 : zs_in x2.toInt 0 174) {x3 : Int32} {x4 : Int32} (h_x4 : zs_in x4.toInt 0 6) (hl_x1 : x2.toInt = 6 * x1.toInt) {c : Int} (hc : x4.toInt = c + 0) : zs_ok (BX0_liveMinute_10 σ 27 x1 x2 x3 x4) (fun r => zs_sum (fun v => ((zs_A σ0 v.1 ∧ (True ∧ zs_in (v.2.2).toInt 1 6))) ∧ v.2.2.toInt = c + 1) (fun v => (zs_A σ0 v.1 ∧ True)) r) := by
  unfold BX0_liveMinute_10
  refine zs_ite (fun c1 => ?_) (fun c1 => ?_)
  · skip
    have r2 := (zs_I_le c1)
    exact zs_some (zs_inr (⟨h_σ, trivial⟩))
  · skip
    have r3 := (zs_I_len c1)
    have g4 : zs_in (x4).toInt 0 5 := (zs_ltl 0 5 r3 h_x4 (zs_rdk (q := 27) (k := 1) (z := (0, 6)) h_σ.1 rfl) (by decide))
    have g5 : zs_in ((sn_I σ 27 1)).toInt 1 6 := (zs_ltr 1 6 r3 h_x4 (zs_rdk (q := 27) (k := 1) (z := (0, 6)) h_σ.1 rfl) (by decide))
    refine zs_bd_ (zA_132 h_σ g4 h_x1) (fun t_2 pt_2 => ?_)
    refine zs_ite (fun c6 => ?_) (fun c6 => ?_)
    · skip
      have r7 := (zs_I_eq c6)
      have g8 : zs_in (x1).toInt 0 0 := (zs_eql 0 0 r7 h_x1 zlI_0 (by decide))
      have g9 : zs_in (x2).toInt 0 0 := (zs_lin 0 0 hl_x1 g8 (by decide))
      obtain ⟨ret, er, hr⟩ := zA_137 h_σ g8 g9 g4 zlI_0 hl_x1 hc
      refine ⟨ret, er, ?_⟩
      exact (zs_sumw hr (fun v w => ⟨w.1, w.2⟩) (fun v w => w.elim))
    · skip
      have r10 := (zs_I_eqn c6)
      have g11 : zs_in (x1).toInt 1 29 := (zs_nel 1 29 r10 h_x1 zlI_0 (by decide))
      have g12 : zs_in (x2).toInt 6 174 := (zs_lin 6 174 hl_x1 g11 (by decide))
      refine zs_gd (zs_gin (zs_addI 0 173 (zs_subI 0 168 g12 zlI_6 (by decide)) g4 (by decide)) (by decide)) ?_
      obtain ⟨ret, er, hr⟩ := zA_142 h_σ g11 g12 g4 hl_x1 hc
      refine ⟨ret, er, ?_⟩
      exact (zs_sumw hr (fun v w => ⟨w.1, w.2⟩) (fun v w => w.elim))
theorem zB_24 {σ0 : sn_S} {x1 : Int32} (h_x1 : zs_in x1.toInt 0 29) {x2 : Int32} (h_x2 : zs_in x2.toInt 0 174) (hl_x1 : x2.toInt = 6 * x1.toInt) {s0 : (sn_S × (Int32 × Int32))} (h0 : (zs_A σ0 s0.1 ∧ (True ∧ zs_in (s0.2.2).toInt 0 6))) : zs_ok (sn_it (LX0_liveMinute_10 27 x1 x2) 5000 s0) (fun t => (zs_A σ0 t.1 ∧ True)) := by
  refine zs_it (I := fun s => (zs_A σ0 s.1 ∧ (True ∧ zs_in (s.2.2).toInt 0 6))) (m := fun s => 6 - s.2.2.toInt) (fun s hs => ?_) (fun s hs => ?_) (by exact h0)
  · have h1 := hs.2.2; unfold zs_in at h1
    omega
  · obtain ⟨b, eb, hb⟩ := zA_143 hs.1 h_x1 h_x2 hs.2.2 hl_x1 (c := s.2.2.toInt) (Int.add_zero _).symm
    exact ⟨b, eb, zs_sumw hb (fun v w => ⟨⟨w.1.1, ⟨w.1.2.1, (zs_w w.1.2.2 (by decide))⟩⟩, by have := w.2; omega⟩) (fun v w => w)⟩
-- BX0_liveMinute_115
theorem zA_144 {σ0 : sn_S} {σ : sn_S} (h_σ : zs_A σ0 σ) {x1 : Int32} (h_x1 : zs_in x1.toInt 0 29) {x3 : Int32} : zs_ok (BX0_liveMinute_115 σ 27 x1 x3) (fun r => zs_A σ0 r) := by
  unfold BX0_liveMinute_115
  refine zs_gd (zs_gin h_x1 (by decide)) ?_
  refine zs_lt (Q := fun z => zs_A σ0 z) (zs_wrt h_σ (fun _ => rfl) (fun _ => rfl)) (fun σ_2 hσ_2 => ?_)
  exact zs_some hσ_2
-- fX0_liveMinute
theorem zA_145 {σ0 : sn_S} {σ : sn_S} (h_σ : zs_A σ0 σ) {x1 : Int32} (h_x1 : zs_in x1.toInt 0 29) : zs_ok (fX0_liveMinute σ 27 x1) (fun r => zs_A σ0 r) := by
  unfold fX0_liveMinute
  refine zs_lt (Q := fun z => zs_in z.toInt 0 174 ∧ z = ((6 : Int32) * x1)) ⟨(zs_mulI 0 174 zlI_6 h_x1 (by decide)), rfl⟩ (fun y_1 hy_1 => ?_)
  refine zs_bd_ (zB_24 h_x1 hy_1.1 (zs_linv hy_1.2 zlI_6 h_x1 (by decide)) (s0 := (σ, ((0 : Int32), (0 : Int32)))) ⟨h_σ, ⟨trivial, (zs_w zlI_0 (by decide))⟩⟩) (fun t_3 pt_3 => ?_)
  obtain ⟨ret, er, hr⟩ := zA_144 pt_3.1 h_x1
  refine ⟨ret, er, ?_⟩
  exact hr
-- BX0_live_31
theorem zA_146 {σ0 : sn_S} {σ : sn_S} (h_σ : zs_A σ0 σ) {x2 : Int32} (h_x2 : zs_in x2.toInt 0 30) {x3 : Int32} (h_x3 : zs_in x3.toInt 0 30) {c : Int} (hc : x3.toInt = c + 0) : zs_ok (BX0_live_31 σ 27 x2 x3) (fun r => zs_sum (fun v => ((zs_A σ0 v.1 ∧ zs_in (v.2).toInt 1 30)) ∧ v.2.toInt = c + 1) (fun v => zs_A σ0 v) r) := by
  unfold BX0_live_31
  refine zs_ite (fun c1 => ?_) (fun c1 => ?_)
  · skip
    have r2 := (zs_I_le c1)
    exact zs_some (zs_inr (h_σ))
  · skip
    have r3 := (zs_I_len c1)
    have g4 : zs_in (x3).toInt 0 29 := (zs_ltl 0 29 r3 h_x3 h_x2 (by decide))
    have g5 : zs_in (x2).toInt 1 30 := (zs_ltr 1 30 r3 h_x3 h_x2 (by decide))
    refine zs_ite (fun c6 => ?_) (fun c6 => ?_)
    · skip
      have r7 := (zs_I_le c6)
      have g8 : zs_in ((sn_I σ 27 0)).toInt 0 29 := (zs_lel 0 29 r7 (zs_rdk (q := 27) (k := 0) (z := (0, 30)) h_σ.1 rfl) g4 (by decide))
      exact zs_some (zs_inr (h_σ))
    · skip
      have r9 := (zs_I_len c6)
      have g10 : zs_in ((sn_I σ 27 0)).toInt 1 30 := (zs_ltr 1 30 r9 g4 (zs_rdk (q := 27) (k := 0) (z := (0, 30)) h_σ.1 rfl) (by decide))
      refine zs_bd_ (zA_127 h_σ g4) (fun t_3 pt_3 => ?_)
      refine zs_bd_ (zA_145 pt_3 g4) (fun t_5 pt_5 => ?_)
      refine zs_lt (Q := fun z => zs_in z.toInt 1 30 ∧ z.toInt = c + 1) ⟨(zs_addI 1 30 g4 zlI_1 (by decide)), (zs_syI 1 hc g4 zlI_1 (by decide) (by decide))⟩ (fun y_7 hy_7 => ?_)
      exact zs_some (zs_inl ⟨⟨pt_5, hy_7.1⟩, hy_7.2⟩)
theorem zB_25 {σ0 : sn_S} {x2 : Int32} (h_x2 : zs_in x2.toInt 0 30) {s0 : (sn_S × Int32)} (h0 : (zs_A σ0 s0.1 ∧ zs_in (s0.2).toInt 0 30)) : zs_ok (sn_it (LX0_live_31 27 x2) 5000 s0) (fun t => zs_A σ0 t) := by
  refine zs_it (I := fun s => (zs_A σ0 s.1 ∧ zs_in (s.2).toInt 0 30)) (m := fun s => 30 - s.2.toInt) (fun s hs => ?_) (fun s hs => ?_) (by exact h0)
  · have h1 := hs.2; unfold zs_in at h1
    omega
  · obtain ⟨b, eb, hb⟩ := zA_146 hs.1 h_x2 hs.2 (c := s.2.toInt) (Int.add_zero _).symm
    exact ⟨b, eb, zs_sumw hb (fun v w => ⟨⟨w.1.1, (zs_w w.1.2 (by decide))⟩, by have := w.2; omega⟩) (fun v w => w)⟩
-- BX0_live_60
theorem zA_147 {σ0 : sn_S} {σ : sn_S} (h_σ : zs_A σ0 σ) : zs_ok (BX0_live_60 σ 27) (fun r => zs_A σ0 r) := by
  unfold BX0_live_60
  exact zs_some h_σ
-- BX0_live_29
theorem zA_148 {σ0 : sn_S} {σ : sn_S} (h_σ : zs_A σ0 σ) {x1 : Int32} (h_x1 : zs_in x1.toInt 0 0) {x2 : Int32} (h_x2 : zs_in x2.toInt 0 30) : zs_ok (BX0_live_29 σ 27 x1 x2) (fun r => zs_A σ0 r) := by
  unfold BX0_live_29
  obtain rfl : x1 = (0 : Int32) := zs_eqv h_x1 (by decide)
  refine zs_bd_ (zB_25 h_x2 (s0 := (σ, (0 : Int32))) ⟨h_σ, (zs_w h_x1 (by decide))⟩) (fun t_1 pt_1 => ?_)
  obtain ⟨ret, er, hr⟩ := zA_147 pt_1
  refine ⟨ret, er, ?_⟩
  exact hr
-- fX0_live
theorem zA_149 {σ0 : sn_S} {σ : sn_S} (h_σ : zs_A σ0 σ) {x1 : Int32} (h_x1 : zs_in x1.toInt 0 0) {x2 : Int32} (h_x2 : zs_in x2.toInt 0 30) : zs_ok (fX0_live σ 27 x1 x2) (fun r => zs_A σ0 r) := by
  unfold fX0_live
  obtain rfl : x1 = (0 : Int32) := zs_eqv h_x1 (by decide)
  refine zs_bd_ (zB_21 h_x1 h_x2 (s0 := (σ, (0 : Int32))) ⟨h_σ, (zs_w zlI_0 (by decide))⟩) (fun t_1 pt_1 => ?_)
  obtain ⟨ret, er, hr⟩ := zA_148 pt_1 h_x1 h_x2
  refine ⟨ret, er, ?_⟩
  exact hr
-- fX0_liveWhole
theorem zA_150 {σ0 : sn_S} {σ : sn_S} (h_σ : zs_A σ0 σ) : zs_ok (fX0_liveWhole σ 27) (fun r => zs_A σ0 r) := by
  unfold fX0_liveWhole
  refine zs_bd_ (zA_149 h_σ zlI_0 (zs_rdk (q := 27) (k := 0) (z := (0, 30)) h_σ.1 rfl)) (fun t_1 pt_1 => ?_)
  exact zs_some pt_1
-- fX8_liveAnew
theorem zA_151 {σ0 : sn_S} {σ : sn_S} (h_σ : zs_A σ0 σ) : zs_ok (fX8_liveAnew σ) (fun r => zs_A σ0 r) := by
  unfold fX8_liveAnew
  refine zs_bd_ (zA_112 h_σ) (fun t_1 pt_1 => ?_)
  refine zs_bd_ (zA_150 pt_1) (fun t_3 pt_3 => ?_)
  exact zs_some pt_3
-- fX0_tickleAt
theorem zA_152 {σ0 : sn_S} {σ : sn_S} (h_σ : zs_A σ0 σ) {x1 : Int32} (h_x1 : zs_in x1.toInt 0 5) {x2 : Int32} (h_x2 : zs_in x2.toInt 0 29) : zs_ok (fX0_tickleAt σ 27 x1 x2) (fun r => True) := by
  unfold fX0_tickleAt
  refine zs_gd (zs_gin (zs_addI 0 179 (zs_mulI 0 174 zlI_6 h_x2 (by decide)) h_x1 (by decide)) (by decide)) ?_
  exact zs_some trivial
-- fX8_stifle
theorem zA_153 {σ0 : sn_S} {σ : sn_S} (h_σ : zs_A σ0 σ) {x1 : Int32} {x2 : Int32} : zs_ok (fX8_stifle σ x1 x2) (fun r => ((True ∧ zs_A σ0 r.2)) ∧ ((r.1).toInt = (-2) ∨ (zs_in (x1).toInt 0 5 ∧ zs_in (x2).toInt 0 29))) := by
  unfold fX8_stifle
  refine zs_bd_ (zA_95 h_σ) (fun t_1 pt_1 => ?_)
  refine zs_ite (fun c1 => ?_) (fun c1 => ?_)
  · skip
    have r2 := (zs_I_eq c1)
    have g3 : zs_in (t_1).toInt 0 0 := (zs_eql 0 0 r2 pt_1.1 zlI_0 (by decide))
    exact zs_some ⟨⟨trivial, h_σ⟩, Or.inl (zs_ptr zlI_m2)⟩
  · skip
    have r4 := (zs_I_eqn c1)
    have g5 : zs_in (t_1).toInt 1 1 := (zs_nel 1 1 r4 pt_1.1 zlI_0 (by decide))
    have q6 := (zs_or2 pt_1.2 g5 (by decide))
    have g7 : zs_in (x1).toInt 0 5 := q6
    refine zs_bd_ (zA_96 h_σ) (fun t_4 pt_4 => ?_)
    refine zs_ite (fun c8 => ?_) (fun c8 => ?_)
    · skip
      have r9 := (zs_I_eq c8)
      have g10 : zs_in (t_4).toInt 0 0 := (zs_eql 0 0 r9 pt_4.1 zlI_0 (by decide))
      exact zs_some ⟨⟨trivial, h_σ⟩, Or.inl (zs_ptr zlI_m2)⟩
    · skip
      have r11 := (zs_I_eqn c8)
      have g12 : zs_in (t_4).toInt 1 1 := (zs_nel 1 1 r11 pt_4.1 zlI_0 (by decide))
      have q13 := (zs_or2 pt_4.2 g12 (by decide))
      have g14 : zs_in (x2).toInt 0 29 := q13
      refine zs_bd_ (zA_97 h_σ zlI_0 g7 g14) (fun t_7 pt_7 => ?_)
      refine zs_ite (fun c15 => ?_) (fun c15 => ?_)
      · skip
        have r16 := (zs_I_eq c15)
        have g17 : zs_in (t_7.1).toInt 0 0 := (zs_eql 0 0 r16 pt_7.1 zlI_0 (by decide))
        exact zs_some ⟨⟨trivial, pt_7.2⟩, Or.inr ⟨g7, g14⟩⟩
      · skip
        have r18 := (zs_I_eqn c15)
        have g19 : zs_in (t_7.1).toInt 1 1 := (zs_nel 1 1 r18 pt_7.1 zlI_0 (by decide))
        refine zs_bd_ (zA_151 pt_7.2) (fun t_10 pt_10 => ?_)
        refine zs_bd_ (zA_152 pt_10 g7 g14) (fun t_12 pt_12 => ?_)
        exact zs_some ⟨⟨trivial, pt_10⟩, Or.inr ⟨g7, g14⟩⟩
-- fX9_in
theorem zA_154 {x0 : Int64} (h_x0 : zs_in x0.toInt (-2147483648) 2147483647) {x2 : Int64} (h_x2 : zs_in x2.toInt 0 0) {x4 : Int64} (h_x4 : zs_in x4.toInt (-1) 29) : zs_ok (fX9_in x0 x2 x4) (fun r => (zs_in (r).toInt 0 1) ∧ ((r).toInt = 0 ∨ (zs_in (x0).toInt 0 29 ∧ zs_in (x4).toInt 0 29))) := by
  unfold fX9_in
  refine zs_ite (fun c1 => ?_) (fun c1 => ?_)
  · skip
    have r2 := (zs_lg_lt c1)
    have g3 : zs_in (x0).toInt (-2147483648) (-1) := (zs_ltl (-2147483648) (-1) r2 h_x0 h_x2 (by decide))
    refine zs_gd (zs_b01 zlI_0 (by decide)) ?_
    exact zs_some ⟨(zs_w zlI_0 (by decide)), Or.inl (zs_ptr zlI_0)⟩
  · skip
    have r4 := (zs_lg_ltn c1)
    have g5 : zs_in (x0).toInt 0 2147483647 := (zs_ler 0 2147483647 r4 h_x2 h_x0 (by decide))
    refine zs_ite (fun c6 => ?_) (fun c6 => ?_)
    · skip
      have r7 := (zs_lg_ltf c6)
      refine zs_gd (zs_b01 zlI_0 (by decide)) ?_
      exact zs_some ⟨(zs_w zlI_0 (by decide)), Or.inl (zs_ptr zlI_0)⟩
    · skip
      have r8 := (zs_lg_ltfn c6)
      have g9 : zs_in (x0).toInt 0 29 := (zs_lel 0 29 r8 g5 h_x4 (by decide))
      have g10 : zs_in (x4).toInt 0 29 := (zs_ler 0 29 r8 g5 h_x4 (by decide))
      refine zs_gd (zs_b01 zlI_1 (by decide)) ?_
      exact zs_some ⟨(zs_w zlI_1 (by decide)), Or.inr ⟨g9, g10⟩⟩
-- fX9_isMinute
theorem zA_155 {σ0 : sn_S} {σ : sn_S} (h_σ : zs_M0 σ0 σ) {x1 : Int64} (h_x1 : zs_in x1.toInt (-2147483648) 2147483647) : zs_ok (fX9_isMinute σ x1) (fun r => (zs_in (r).toInt 0 1) ∧ ((r).toInt = 0 ∨ (zs_in (x1).toInt 0 29))) := by
  unfold fX9_isMinute
  refine zs_gd (zs_gin zlI_0 (by decide)) ?_
  refine zs_bd_ (zA_154 h_x1 zlL_0 (zs_64 (zs_subI (-1) 29 (zs_rdk (q := 1) (k := (0 : Int32).toNatClampNeg) (z := (0, 30)) h_σ.1 rfl) zlI_1 (by decide)))) (fun t_2 pt_2 => ?_)
  refine zs_gd (zs_b01 pt_2.1 (by decide)) ?_
  rcases pt_2.2 with z0 | z0
  · skip
    have g1 : zs_in (t_2).toInt 0 0 := (zs_pt z0)
    exact zs_some ⟨(zs_w g1 (by decide)), Or.inl (zs_ptr g1)⟩
  · skip
    have q2 := z0
    have g3 : zs_in (x1).toInt 0 29 := q2.1
    have g4 : zs_in (((sn_I σ 1 (0 : Int32).toNatClampNeg) - (1 : Int32)).toInt64).toInt 0 29 := q2.2
    have g5 : zs_in (((sn_I σ 1 (0 : Int32).toNatClampNeg) - (1 : Int32))).toInt 0 29 := (zs_64r g4)
    have g6 : zs_in ((sn_I σ 1 (0 : Int32).toNatClampNeg)).toInt 1 30 := (zs_sublI 1 30 (zs_rdk (q := 1) (k := (0 : Int32).toNatClampNeg) (z := (0, 30)) h_σ.1 rfl) zlI_1 g5 (by decide))
    exact zs_some ⟨pt_2.1, Or.inr g3⟩
theorem zo_keepAct {σ0 σ : sn_S} (h_σ : zs_M0 σ0 σ) {x1 : Int32} {a b : Int} (h_x1 : zs_in x1.toInt a b) (hd : 0 ≤ a ∧ b ≤ 1199) : zs_ok (fX9_keepAct σ x1) (fun r => (zs_in (r.1).toInt (-5) 0 ∧ zs_M0 σ0 r.2)) := by
  have h9 : zs_in (sn_I σ 1 (9 : Int32).toNatClampNeg).toInt 0 40 := zs_rdk (q := 1) (k := (9 : Int32).toNatClampNeg) (z := (0, 40)) h_σ.1 rfl
  unfold fX9_keepAct
  refine zs_gd (by decide) ?_
  refine zs_ite (fun c => ?_) (fun c => ?_)
  · exact zs_some ⟨(by decide : zs_in (-5 : Int32).toInt (-5) 0), h_σ⟩
  · have c2 := zs_I_eqn c
    have h9b : zs_in (sn_I σ 1 (9 : Int32).toNatClampNeg).toInt 0 39 := by
      have e : (40 : Int32).toInt = 40 := by decide
      exact ⟨by omega, by omega⟩
    have hi : zs_in ((79 : Int32) + sn_I σ 1 (9 : Int32).toNatClampNeg).toInt 79 118 := zs_addI 79 118 (by decide : zs_in (79 : Int32).toInt 79 79) h9b (by decide)
    refine zs_gd (by decide) (zs_gd (zs_gin hi (by decide)) ?_)
    have hw : zs_M0 σ0 (sn_pI σ 1 ((79 : Int32) + sn_I σ 1 (9 : Int32).toNatClampNeg).toNatClampNeg x1) := zs_wrb h_σ (zs_w h_x1 (show 0 ≤ a ∧ b ≤ 1199 from hd)) (zs_range hi (fun k => zs_wb (zs_tM 1 k) 0 1199 ∧ zs_fr zs_tM zs_kM0 1 k = false) (by decide +kernel))
    refine zs_lt (Q := fun z => zs_M0 σ0 z ∧ zs_in (sn_I z 1 (9 : Int32).toNatClampNeg).toInt 0 39) ⟨hw, ?_⟩ (fun z hz => ?_)
    · have hne : ¬ ((9 : Int32).toNatClampNeg = ((79 : Int32) + sn_I σ 1 (9 : Int32).toNatClampNeg).toNatClampNeg) := by
        have e1 : ((79 : Int32) + sn_I σ 1 (9 : Int32).toNatClampNeg).toNatClampNeg = ((79 : Int32) + sn_I σ 1 (9 : Int32).toNatClampNeg).toInt.toNat := rfl
        have e2 : (9 : Int32).toNatClampNeg = 9 := by decide
        omega
      show zs_in (if 1 = 1 ∧ (9 : Int32).toNatClampNeg = ((79 : Int32) + sn_I σ 1 (9 : Int32).toNatClampNeg).toNatClampNeg then x1 else sn_I σ 1 (9 : Int32).toNatClampNeg).toInt 0 39
      rw [if_neg (fun e => hne e.2)]
      exact h9b
    · refine zs_gd (by decide) (zs_gd (by decide) ?_)
      refine zs_lt (Q := fun z => zs_M0 σ0 z) (zs_wrk (z := (0, 40)) hz.1 rfl (zs_addI 1 40 hz.2 (by decide : zs_in (1 : Int32).toInt 1 1) (by decide)) (by decide) rfl) (fun y hy => ?_)
      refine zs_bd_ (zA_61 hy) (fun t ht => ?_)
      exact zs_some ⟨(by decide : zs_in (0 : Int32).toInt (-5) 0), ht.2⟩
-- fX9_stifle
theorem zA_156 {σ0 : sn_S} {σ : sn_S} (h_σ : zs_M0 σ0 σ) {x1 : Int32} {x2 : Int32} : zs_ok (fX9_stifle σ x1 x2) (fun r => ((True ∧ zs_M0 σ0 r.2)) ∧ ((r.1).toInt = (-2) ∨ (zs_in (x1).toInt 0 5 ∧ zs_in (x2).toInt 0 29))) := by
  unfold fX9_stifle
  refine zs_bd_ (zA_2 h_σ (zs_64 (zs_topI _))) (fun t_1 pt_1 => ?_)
  refine zs_ite (fun c1 => ?_) (fun c1 => ?_)
  · skip
    have r2 := (zs_I_eq c1)
    have g3 : zs_in (t_1).toInt 0 0 := (zs_eql 0 0 r2 pt_1.1 zlI_0 (by decide))
    exact zs_some ⟨⟨trivial, h_σ⟩, Or.inl (zs_ptr zlI_m2)⟩
  · skip
    have r4 := (zs_I_eqn c1)
    have g5 : zs_in (t_1).toInt 1 1 := (zs_nel 1 1 r4 pt_1.1 zlI_0 (by decide))
    have q6 := (zs_or2 pt_1.2 g5 (by decide))
    have g7 : zs_in (x1.toInt64).toInt 0 5 := q6
    have g8 : zs_in (x1).toInt 0 5 := (zs_64r g7)
    refine zs_bd_ (zA_155 h_σ (zs_64 (zs_topI _))) (fun t_4 pt_4 => ?_)
    refine zs_ite (fun c9 => ?_) (fun c9 => ?_)
    · skip
      have r10 := (zs_I_eq c9)
      have g11 : zs_in (t_4).toInt 0 0 := (zs_eql 0 0 r10 pt_4.1 zlI_0 (by decide))
      exact zs_some ⟨⟨trivial, h_σ⟩, Or.inl (zs_ptr zlI_m2)⟩
    · skip
      have r12 := (zs_I_eqn c9)
      have g13 : zs_in (t_4).toInt 1 1 := (zs_nel 1 1 r12 pt_4.1 zlI_0 (by decide))
      have q14 := (zs_or2 pt_4.2 g13 (by decide))
      have g15 : zs_in (x2.toInt64).toInt 0 29 := q14
      have g16 : zs_in (x2).toInt 0 29 := (zs_64r g15)
      refine zs_bd_ (zo_keepAct h_σ (zs_addI 0 1058 (zs_mulI 0 1000 zlI_200 g8 (by decide)) (zs_mulI 0 58 zlI_2 g16 (by decide)) (by decide)) (by decide)) (fun t_7 pt_7 => ?_)
      refine zs_ite (fun c17 => ?_) (fun c17 => ?_)
      · skip
        have r18 := (zs_I_le c17)
        have g19 : zs_in (t_7.1).toInt 0 0 := (zs_ler 0 0 r18 zlI_0 pt_7.1 (by decide))
        refine zs_gd (zs_gin (zs_addI 0 179 (zs_mulI 0 174 zlI_6 g16 (by decide)) g8 (by decide)) (by decide)) ?_
        exact zs_some ⟨⟨trivial, pt_7.2⟩, Or.inr ⟨g8, g16⟩⟩
      · skip
        have r20 := (zs_I_len c17)
        have g21 : zs_in (t_7.1).toInt (-5) (-1) := (zs_ltl (-5) (-1) r20 pt_7.1 zlI_0 (by decide))
        exact zs_some ⟨⟨trivial, pt_7.2⟩, Or.inr ⟨g8, g16⟩⟩
-- fX2_act
theorem zA_157 {σ0 : sn_S} {σ : sn_S} (h_σ : zs_A σ0 σ) {x1 : Int32} (h_x1 : zs_in x1.toInt 1 1) {x2 : Int32} (h_x2 : zs_in x2.toInt 0 5) {x3 : Int32} (h_x3 : zs_in x3.toInt 0 29) : zs_ok (fX2_act σ 1 x1 x2 x3) (fun r => (zs_in (r.1).toInt 0 1 ∧ zs_A σ0 r.2)) := by
  unfold fX2_act
  obtain rfl : x1 = (1 : Int32) := zs_eqv h_x1 (by decide)
  refine zs_gd (zs_gin zlI_9 (by decide)) ?_
  refine zs_lt (Q := fun z => zs_in z.toInt 0 40) (zs_rdk (q := 2) (k := (9 : Int32).toNatClampNeg) (z := (0, 40)) h_σ.1 rfl) (fun y_2 hy_2 => ?_)
  refine zs_ite (fun c1 => ?_) (fun c1 => ?_)
  · skip
    have r2 := (zs_I_lt c1)
    have g3 : zs_in (y_2).toInt 0 39 := (zs_ltl 0 39 r2 hy_2 zlI_40 (by decide))
    refine zs_gd (zs_gin (zs_mulI 0 117 zlI_3 g3 (by decide)) (by decide)) ?_
    refine zs_lt (Q := fun z => zs_A σ0 z) (zs_wru (z := (0, 29)) h_σ (fun _ => rfl) h_x1 (by decide) (fun _ => rfl)) (fun σ_6 hσ_6 => ?_)
    refine zs_gd (zs_gin (zs_addI 1 118 (zs_mulI 0 117 zlI_3 g3 (by decide)) zlI_1 (by decide)) (by decide)) ?_
    refine zs_lt (Q := fun z => zs_A σ0 z) (zs_wru (z := (0, 29)) hσ_6 (fun _ => rfl) h_x2 (by decide) (fun _ => rfl)) (fun σ_9 hσ_9 => ?_)
    refine zs_gd (zs_gin (zs_addI 2 119 (zs_mulI 0 117 zlI_3 g3 (by decide)) zlI_2 (by decide)) (by decide)) ?_
    refine zs_lt (Q := fun z => zs_A σ0 z) (zs_wru (z := (0, 29)) hσ_9 (fun _ => rfl) h_x3 (by decide) (fun _ => rfl)) (fun σ_12 hσ_12 => ?_)
    refine zs_gd (zs_gin zlI_9 (by decide)) ?_
    refine zs_lt (Q := fun z => zs_A σ0 z) (zs_wrk (z := (0, 40)) hσ_12 rfl (zs_addI 1 40 g3 zlI_1 (by decide)) (by decide) rfl) (fun σ_15 hσ_15 => ?_)
    refine zs_gd (zs_b01 zlI_1 (by decide)) ?_
    exact zs_some ⟨(zs_w zlI_1 (by decide)), hσ_15⟩
  · skip
    have r4 := (zs_I_ltn c1)
    have g5 : zs_in (y_2).toInt 40 40 := (zs_ler 40 40 r4 zlI_40 hy_2 (by decide))
    refine zs_gd (zs_b01 zlI_0 (by decide)) ?_
    exact zs_some ⟨(zs_w zlI_0 (by decide)), h_σ⟩
-- fX8_hasBit
theorem zA_158 {x0 : Int32} (h_x0 : zs_in x0.toInt 0 1073741823) {x1 : Int32} (h_x1 : zs_in x1.toInt 0 29) : zs_ok (fX8_hasBit x0 x1) (fun r => zs_in (r).toInt 0 1) := by
  unfold fX8_hasBit
  refine zs_ite (fun c1 => ?_) (fun c1 => ?_)
  · skip
    have r2 := (zs_I_eq c1)
    have g3 : zs_in (((x0 >>> (x1 &&& 31)) &&& (1 : Int32))).toInt 1 1 := (zs_eql 1 1 r2 (zs_and zlI_1 (by decide)) zlI_1 (by decide))
    refine zs_gd (zs_b01 zlI_1 (by decide)) ?_
    exact zs_some (zs_w zlI_1 (by decide))
  · skip
    have r4 := (zs_I_eqn c1)
    have g5 : zs_in (((x0 >>> (x1 &&& 31)) &&& (1 : Int32))).toInt 0 0 := (zs_neh 0 0 r4 (zs_and zlI_1 (by decide)) zlI_1 (by decide))
    refine zs_gd (zs_b01 zlI_0 (by decide)) ?_
    exact zs_some (zs_w zlI_0 (by decide))
-- fX8_sniff
theorem zA_159 {σ0 : sn_S} {σ : sn_S} (h_σ : zs_A σ0 σ) {x1 : Int32} {x2 : Int32} : zs_ok (fX8_sniff σ x1 x2) (fun r => ((zs_in (r.1).toInt (-5) 1 ∧ zs_A σ0 r.2)) ∧ ((r.1).toInt = (-2) ∨ (zs_in (x1).toInt 0 5 ∧ zs_in (x2).toInt 0 29))) := by
  unfold fX8_sniff
  refine zs_bd_ (zA_95 h_σ) (fun t_1 pt_1 => ?_)
  refine zs_ite (fun c1 => ?_) (fun c1 => ?_)
  · skip
    have r2 := (zs_I_eq c1)
    have g3 : zs_in (t_1).toInt 0 0 := (zs_eql 0 0 r2 pt_1.1 zlI_0 (by decide))
    exact zs_some ⟨⟨(zs_w zlI_m2 (by decide)), h_σ⟩, Or.inl (zs_ptr zlI_m2)⟩
  · skip
    have r4 := (zs_I_eqn c1)
    have g5 : zs_in (t_1).toInt 1 1 := (zs_nel 1 1 r4 pt_1.1 zlI_0 (by decide))
    have q6 := (zs_or2 pt_1.2 g5 (by decide))
    have g7 : zs_in (x1).toInt 0 5 := q6
    refine zs_bd_ (zA_96 h_σ) (fun t_4 pt_4 => ?_)
    refine zs_ite (fun c8 => ?_) (fun c8 => ?_)
    · skip
      have r9 := (zs_I_eq c8)
      have g10 : zs_in (t_4).toInt 0 0 := (zs_eql 0 0 r9 pt_4.1 zlI_0 (by decide))
      exact zs_some ⟨⟨(zs_w zlI_m2 (by decide)), h_σ⟩, Or.inl (zs_ptr zlI_m2)⟩
    · skip
      have r11 := (zs_I_eqn c8)
      have g12 : zs_in (t_4).toInt 1 1 := (zs_nel 1 1 r11 pt_4.1 zlI_0 (by decide))
      have q13 := (zs_or2 pt_4.2 g12 (by decide))
      have g14 : zs_in (x2).toInt 0 29 := q13
      refine zs_bd_ (zA_157 h_σ zlI_1 g7 g14) (fun t_7 pt_7 => ?_)
      refine zs_ite (fun c15 => ?_) (fun c15 => ?_)
      · skip
        have r16 := (zs_I_eq c15)
        have g17 : zs_in (t_7.1).toInt 0 0 := (zs_eql 0 0 r16 pt_7.1 zlI_0 (by decide))
        exact zs_some ⟨⟨(zs_w zlI_m5 (by decide)), pt_7.2⟩, Or.inr ⟨g7, g14⟩⟩
      · skip
        have r18 := (zs_I_eqn c15)
        have g19 : zs_in (t_7.1).toInt 1 1 := (zs_nel 1 1 r18 pt_7.1 zlI_0 (by decide))
        refine zs_bd_ (zA_151 pt_7.2) (fun t_10 pt_10 => ?_)
        refine zs_gd (zs_gin g7 (by decide)) ?_
        refine zs_bd_ (zA_158 (zs_rdu (q := 37) (z := (0, 1073741823)) pt_10.1 (fun _ => rfl)) g14) (fun t_13 pt_13 => ?_)
        refine zs_ite (fun c20 => ?_) (fun c20 => ?_)
        · skip
          have r21 := (zs_I_eq c20)
          have g22 : zs_in (t_13).toInt 0 0 := (zs_eql 0 0 r21 pt_13 zlI_0 (by decide))
          exact zs_some ⟨⟨(zs_w zlI_0 (by decide)), pt_10⟩, Or.inr ⟨g7, g14⟩⟩
        · skip
          have r23 := (zs_I_eqn c20)
          have g24 : zs_in (t_13).toInt 1 1 := (zs_nel 1 1 r23 pt_13 zlI_0 (by decide))
          exact zs_some ⟨⟨(zs_w zlI_1 (by decide)), pt_10⟩, Or.inr ⟨g7, g14⟩⟩
-- fX9_bit
theorem zA_160 {x0 : Int32} (h_x0 : zs_in x0.toInt 0 1073741823) {x1 : Int32} (h_x1 : zs_in x1.toInt 0 29) : zs_ok (fX9_bit x0 x1) (fun r => zs_in (r).toInt 0 1) := by
  unfold fX9_bit
  exact zs_some (zs_and zlI_1 (by decide))
-- fX9_sniff
theorem zA_161 {σ0 : sn_S} {σ : sn_S} (h_σ : zs_M0 σ0 σ) {x1 : Int32} {x2 : Int32} : zs_ok (fX9_sniff σ x1 x2) (fun r => ((zs_in (r.1).toInt (-5) 1 ∧ zs_M0 σ0 r.2)) ∧ ((r.1).toInt = (-2) ∨ (zs_in (x1).toInt 0 5 ∧ zs_in (x2).toInt 0 29))) := by
  unfold fX9_sniff
  refine zs_bd_ (zA_2 h_σ (zs_64 (zs_topI _))) (fun t_1 pt_1 => ?_)
  refine zs_ite (fun c1 => ?_) (fun c1 => ?_)
  · skip
    have r2 := (zs_I_eq c1)
    have g3 : zs_in (t_1).toInt 0 0 := (zs_eql 0 0 r2 pt_1.1 zlI_0 (by decide))
    exact zs_some ⟨⟨(zs_w zlI_m2 (by decide)), h_σ⟩, Or.inl (zs_ptr zlI_m2)⟩
  · skip
    have r4 := (zs_I_eqn c1)
    have g5 : zs_in (t_1).toInt 1 1 := (zs_nel 1 1 r4 pt_1.1 zlI_0 (by decide))
    have q6 := (zs_or2 pt_1.2 g5 (by decide))
    have g7 : zs_in (x1.toInt64).toInt 0 5 := q6
    have g8 : zs_in (x1).toInt 0 5 := (zs_64r g7)
    refine zs_bd_ (zA_155 h_σ (zs_64 (zs_topI _))) (fun t_4 pt_4 => ?_)
    refine zs_ite (fun c9 => ?_) (fun c9 => ?_)
    · skip
      have r10 := (zs_I_eq c9)
      have g11 : zs_in (t_4).toInt 0 0 := (zs_eql 0 0 r10 pt_4.1 zlI_0 (by decide))
      exact zs_some ⟨⟨(zs_w zlI_m2 (by decide)), h_σ⟩, Or.inl (zs_ptr zlI_m2)⟩
    · skip
      have r12 := (zs_I_eqn c9)
      have g13 : zs_in (t_4).toInt 1 1 := (zs_nel 1 1 r12 pt_4.1 zlI_0 (by decide))
      have q14 := (zs_or2 pt_4.2 g13 (by decide))
      have g15 : zs_in (x2.toInt64).toInt 0 29 := q14
      have g16 : zs_in (x2).toInt 0 29 := (zs_64r g15)
      refine zs_bd_ (zo_keepAct h_σ (zs_addI 1 1059 (zs_addI 0 1058 (zs_mulI 0 1000 zlI_200 g8 (by decide)) (zs_mulI 0 58 zlI_2 g16 (by decide)) (by decide)) zlI_1 (by decide)) (by decide)) (fun t_7 pt_7 => ?_)
      refine zs_ite (fun c17 => ?_) (fun c17 => ?_)
      · skip
        have r18 := (zs_I_le c17)
        have g19 : zs_in (t_7.1).toInt 0 0 := (zs_ler 0 0 r18 zlI_0 pt_7.1 (by decide))
        refine zs_gd (zs_gin g8 (by decide)) ?_
        refine zs_bd_ (zA_160 (zs_rdu (q := 10) (z := (0, 1073741823)) pt_7.2.1 (fun _ => rfl)) g16) (fun t_11 pt_11 => ?_)
        exact zs_some ⟨⟨(zs_w pt_11 (by decide)), pt_7.2⟩, Or.inr ⟨g8, g16⟩⟩
      · skip
        have r20 := (zs_I_len c17)
        have g21 : zs_in (t_7.1).toInt (-5) (-1) := (zs_ltl (-5) (-1) r20 pt_7.1 zlI_0 (by decide))
        exact zs_some ⟨⟨(zs_w zlI_m5 (by decide)), pt_7.2⟩, Or.inr ⟨g8, g16⟩⟩
-- fX8_isHouse
theorem zA_167 {σ0 : sn_S} {σ : sn_S} (h_σ : zs_A σ0 σ) {x1 : Int32} (h_x1 : zs_in x1.toInt 0 5) {x2 : Int32} (h_x2 : zs_in x2.toInt 4 4) : zs_ok (fX2_ofPolicy σ 1 x1 x2) (fun r => True) := by
  unfold fX2_ofPolicy
  obtain rfl : x2 = (4 : Int32) := zs_eqv h_x2 (by decide)
  refine zs_gd (zs_gin (zs_addI 4 29 (zs_mulI 0 25 zlI_5 h_x1 (by decide)) h_x2 (by decide)) (by decide)) ?_
  exact zs_some trivial
-- fX8_rate
theorem zA_168 {σ0 : sn_S} {σ : sn_S} (h_σ : zs_A σ0 σ) {x1 : Int32} {x2 : Int32} : zs_ok (fX8_rate σ x1 x2) (fun r => ((True ∧ zs_A σ0 r.2)) ∧ ((r.1).toInt = (-2) ∨ (zs_in (x1).toInt 0 5 ∧ zs_in (x2).toInt 0 99))) := by
  unfold fX8_rate
  refine zs_bd_ (zoA_isPolicy h_σ) (fun t_1 pt_1 => ?_)
  refine zs_ite (fun c1 => ?_) (fun c1 => ?_)
  · skip
    have r2 := (zs_I_eq c1)
    have g3 : zs_in (t_1).toInt 0 0 := (zs_eql 0 0 r2 pt_1.1 zlI_0 (by decide))
    exact zs_some ⟨⟨trivial, h_σ⟩, Or.inl (zs_ptr zlI_m2)⟩
  · skip
    have r4 := (zs_I_eqn c1)
    have g5 : zs_in (t_1).toInt 1 1 := (zs_nel 1 1 r4 pt_1.1 zlI_0 (by decide))
    have q6 := (zs_or2 pt_1.2.1 g5 (by decide))
    have g7 : zs_in (x1).toInt 0 5 := q6
    haveI := zs_or2 pt_1.2.2 g5 (by decide)
    refine zs_ite (fun c8 => ?_) (fun c8 => ?_)
    · skip
      have r9 := (zs_I_lt c8)
      have g10 : zs_in (x2).toInt (-2147483648) (-1) := (zs_ltl (-2147483648) (-1) r9 (zs_topI _) zlI_0 (by decide))
      exact zs_some ⟨⟨trivial, h_σ⟩, Or.inl (zs_ptr zlI_m2)⟩
    · skip
      have r11 := (zs_I_ltn c8)
      have g12 : zs_in (x2).toInt 0 2147483647 := (zs_ler 0 2147483647 r11 zlI_0 (zs_topI _) (by decide))
      refine zs_ite (fun c13 => ?_) (fun c13 => ?_)
      · skip
        have r14 := (zs_I_le c13)
        have g15 : zs_in (x2).toInt 0 99 := (zs_lel 0 99 r14 g12 zlI_99 (by decide))
        refine zs_gd (zs_gin zlI_9 (by decide)) ?_
        refine zs_ite (fun c16 => ?_) (fun c16 => ?_)
        · skip
          have r17 := (zs_I_le c16)
          have g18 : zs_in ((sn_I σ (1 + 1) (9 : Int32).toNatClampNeg)).toInt 0 0 := (zs_lel 0 0 r17 (zs_rdk (q := 2) (k := (9 : Int32).toNatClampNeg) (z := (0, 40)) h_σ.1 rfl) zlI_0 (by decide))
          refine zs_bd_ (zA_167 h_σ g7 zlI_4) (fun t_8 pt_8 => ?_)
          refine zs_gd (zs_gin (zs_addI 4 29 (zs_mulI 0 25 zlI_5 g7 (by decide)) zlI_4 (by decide)) (by decide)) ?_
          refine zs_lt (Q := fun z => zs_A σ0 z) (zs_wrb h_σ g15 (zs_cases g7 (fun z => zs_wb (zs_tC 6 (((5 : Int32) * z) + (4 : Int32)).toNatClampNeg) 0 99 ∧ zs_fr zs_tC zs_kA 6 (((5 : Int32) * z) + (4 : Int32)).toNatClampNeg = false) (by decide +kernel))) (fun σ_11 hσ_11 => ?_)
          exact zs_some ⟨⟨trivial, hσ_11⟩, Or.inr ⟨g7, g15⟩⟩
        · skip
          have r19 := (zs_I_len c16)
          have g20 : zs_in ((sn_I σ (1 + 1) (9 : Int32).toNatClampNeg)).toInt 1 40 := (zs_ltr 1 40 r19 zlI_0 (zs_rdk (q := 2) (k := (9 : Int32).toNatClampNeg) (z := (0, 40)) h_σ.1 rfl) (by decide))
          exact zs_some ⟨⟨trivial, h_σ⟩, Or.inr ⟨g7, g15⟩⟩
      · skip
        have r21 := (zs_I_len c13)
        have g22 : zs_in (x2).toInt 100 2147483647 := (zs_ltr 100 2147483647 r21 zlI_99 g12 (by decide))
        exact zs_some ⟨⟨trivial, h_σ⟩, Or.inl (zs_ptr zlI_m2)⟩
-- fX9_isPolicy
theorem zA_169 {σ0 : sn_S} {σ : sn_S} (h_σ : zs_M0 σ0 σ) {x1 : Int32} : zs_ok (fX9_isPolicy σ x1) (fun r => (zs_in (r).toInt 0 1) ∧ ((r).toInt = 0 ∨ (zs_in (x1).toInt 0 5))) := by
  unfold fX9_isPolicy
  refine zs_gd (zs_gin zlI_8 (by decide)) ?_
  refine zs_bd_ (zA_1 (zs_64 (zs_topI _)) zlL_0 (zs_64 (zs_subI (-1) 5 (zs_rdk (q := 1) (k := (8 : Int32).toNatClampNeg) (z := (0, 6)) h_σ.1 rfl) zlI_1 (by decide)))) (fun t_2 pt_2 => ?_)
  refine zs_gd (zs_b01 pt_2.1 (by decide)) ?_
  rcases pt_2.2 with z0 | z0
  · skip
    have g1 : zs_in (t_2).toInt 0 0 := (zs_pt z0)
    exact zs_some ⟨(zs_w g1 (by decide)), Or.inl (zs_ptr g1)⟩
  · skip
    have q2 := z0
    have g3 : zs_in (x1.toInt64).toInt 0 5 := q2.1
    have g4 : zs_in (x1).toInt 0 5 := (zs_64r g3)
    have g5 : zs_in (((sn_I σ 1 (8 : Int32).toNatClampNeg) - (1 : Int32)).toInt64).toInt 0 5 := q2.2
    have g6 : zs_in (((sn_I σ 1 (8 : Int32).toNatClampNeg) - (1 : Int32))).toInt 0 5 := (zs_64r g5)
    have g7 : zs_in ((sn_I σ 1 (8 : Int32).toNatClampNeg)).toInt 1 6 := (zs_sublI 1 6 (zs_rdk (q := 1) (k := (8 : Int32).toNatClampNeg) (z := (0, 6)) h_σ.1 rfl) zlI_1 g6 (by decide))
    exact zs_some ⟨pt_2.1, Or.inr g4⟩
-- fX9_in
theorem zA_170 {x0 : Int64} (h_x0 : zs_in x0.toInt (-2147483648) 2147483647) {x2 : Int64} (h_x2 : zs_in x2.toInt 0 0) {x4 : Int64} (h_x4 : zs_in x4.toInt 99 99) : zs_ok (fX9_in x0 x2 x4) (fun r => (zs_in (r).toInt 0 1) ∧ ((r).toInt = 0 ∨ (zs_in (x0).toInt 0 99))) := by
  unfold fX9_in
  refine zs_ite (fun c1 => ?_) (fun c1 => ?_)
  · skip
    have r2 := (zs_lg_lt c1)
    have g3 : zs_in (x0).toInt (-2147483648) (-1) := (zs_ltl (-2147483648) (-1) r2 h_x0 h_x2 (by decide))
    refine zs_gd (zs_b01 zlI_0 (by decide)) ?_
    exact zs_some ⟨(zs_w zlI_0 (by decide)), Or.inl (zs_ptr zlI_0)⟩
  · skip
    have r4 := (zs_lg_ltn c1)
    have g5 : zs_in (x0).toInt 0 2147483647 := (zs_ler 0 2147483647 r4 h_x2 h_x0 (by decide))
    refine zs_ite (fun c6 => ?_) (fun c6 => ?_)
    · skip
      have r7 := (zs_lg_ltf c6)
      have g8 : zs_in (x0).toInt 100 2147483647 := (zs_ltr 100 2147483647 r7 h_x4 g5 (by decide))
      refine zs_gd (zs_b01 zlI_0 (by decide)) ?_
      exact zs_some ⟨(zs_w zlI_0 (by decide)), Or.inl (zs_ptr zlI_0)⟩
    · skip
      have r9 := (zs_lg_ltfn c6)
      have g10 : zs_in (x0).toInt 0 99 := (zs_lel 0 99 r9 g5 h_x4 (by decide))
      refine zs_gd (zs_b01 zlI_1 (by decide)) ?_
      exact zs_some ⟨(zs_w zlI_1 (by decide)), Or.inr g10⟩
-- fX9_of
theorem zA_171 {σ0 : sn_S} {σ : sn_S} (h_σ : zs_M0 σ0 σ) {x1 : Int32} (h_x1 : zs_in x1.toInt 0 5) {x2 : Int32} (h_x2 : zs_in x2.toInt 4 4) : zs_ok (fX9_of σ x1 x2) (fun r => zs_in (r).toInt 0 99) := by
  unfold fX9_of
  obtain rfl : x2 = (4 : Int32) := zs_eqv h_x2 (by decide)
  refine zs_gd (zs_gin (zs_addI 53 78 (zs_addI 49 74 zlI_49 (zs_mulI 0 25 zlI_5 h_x1 (by decide)) (by decide)) h_x2 (by decide)) (by decide)) ?_
  exact zs_some (zs_rdb (q := 1) (lo := 0) (hi := 99) h_σ.1 (zs_cases h_x1 (fun z => zs_bd (zs_tM 1 (((49 : Int32) + ((5 : Int32) * z)) + (4 : Int32)).toNatClampNeg) 0 99) (by decide +kernel)))
-- fX9_rate
theorem zA_172 {σ0 : sn_S} {σ : sn_S} (h_σ : zs_M0 σ0 σ) {x1 : Int32} {x2 : Int32} : zs_ok (fX9_rate σ x1 x2) (fun r => ((zs_in (r.1).toInt (-5) 99 ∧ zs_M0 σ0 r.2)) ∧ ((r.1).toInt = (-2) ∨ (zs_in (x1).toInt 0 5 ∧ zs_in (x2).toInt 0 99))) := by
  unfold fX9_rate
  refine zs_bd_ (zA_169 h_σ) (fun t_1 pt_1 => ?_)
  refine zs_ite (fun c1 => ?_) (fun c1 => ?_)
  · skip
    have r2 := (zs_I_eq c1)
    have g3 : zs_in (t_1).toInt 0 0 := (zs_eql 0 0 r2 pt_1.1 zlI_0 (by decide))
    exact zs_some ⟨⟨(zs_w zlI_m2 (by decide)), h_σ⟩, Or.inl (zs_ptr zlI_m2)⟩
  · skip
    have r4 := (zs_I_eqn c1)
    have g5 : zs_in (t_1).toInt 1 1 := (zs_nel 1 1 r4 pt_1.1 zlI_0 (by decide))
    have q6 := (zs_or2 pt_1.2 g5 (by decide))
    have g7 : zs_in (x1).toInt 0 5 := q6
    refine zs_bd_ (zA_170 (zs_64 (zs_topI _)) zlL_0 zlL_99) (fun t_4 pt_4 => ?_)
    refine zs_ite (fun c8 => ?_) (fun c8 => ?_)
    · skip
      have r9 := (zs_I_eq c8)
      have g10 : zs_in (t_4).toInt 0 0 := (zs_eql 0 0 r9 pt_4.1 zlI_0 (by decide))
      exact zs_some ⟨⟨(zs_w zlI_m2 (by decide)), h_σ⟩, Or.inl (zs_ptr zlI_m2)⟩
    · skip
      have r11 := (zs_I_eqn c8)
      have g12 : zs_in (t_4).toInt 1 1 := (zs_nel 1 1 r11 pt_4.1 zlI_0 (by decide))
      have q13 := (zs_or2 pt_4.2 g12 (by decide))
      have g14 : zs_in (x2.toInt64).toInt 0 99 := q13
      have g15 : zs_in (x2).toInt 0 99 := (zs_64r g14)
      refine zs_gd (zs_gin zlI_9 (by decide)) ?_
      refine zs_ite (fun c16 => ?_) (fun c16 => ?_)
      · skip
        have r17 := (zs_I_le c16)
        have g18 : zs_in ((sn_I σ 1 (9 : Int32).toNatClampNeg)).toInt 0 0 := (zs_lel 0 0 r17 (zs_rdk (q := 1) (k := (9 : Int32).toNatClampNeg) (z := (0, 40)) h_σ.1 rfl) zlI_0 (by decide))
        refine zs_bd_ (zA_171 h_σ g7 zlI_4) (fun t_9 pt_9 => ?_)
        refine zs_gd (zs_gin (zs_addI 53 78 (zs_addI 49 74 zlI_49 (zs_mulI 0 25 zlI_5 g7 (by decide)) (by decide)) zlI_4 (by decide)) (by decide)) ?_
        refine zs_lt (Q := fun z => zs_M0 σ0 z) (zs_wrb h_σ g15 (zs_cases g7 (fun z => zs_wb (zs_tM 1 (((49 : Int32) + ((5 : Int32) * z)) + (4 : Int32)).toNatClampNeg) 0 99 ∧ zs_fr zs_tM zs_kM0 1 (((49 : Int32) + ((5 : Int32) * z)) + (4 : Int32)).toNatClampNeg = false) (by decide +kernel))) (fun σ_12 hσ_12 => ?_)
        exact zs_some ⟨⟨(zs_w pt_9 (by decide)), hσ_12⟩, Or.inr ⟨g7, g15⟩⟩
      · skip
        have r19 := (zs_I_len c16)
        have g20 : zs_in ((sn_I σ 1 (9 : Int32).toNatClampNeg)).toInt 1 40 := (zs_ltr 1 40 r19 zlI_0 (zs_rdk (q := 1) (k := (9 : Int32).toNatClampNeg) (z := (0, 40)) h_σ.1 rfl) (by decide))
        exact zs_some ⟨⟨(zs_w zlI_m5 (by decide)), h_σ⟩, Or.inr ⟨g7, g15⟩⟩
end
section
/-! the program's reader -/
theorem zs_okw {α : Type} {o : Option α} {P Q : α → Prop} (h : zs_ok o P) (l : ∀ a, P a → Q a) : zs_ok o Q := by
  obtain ⟨a, e, p⟩ := h
  exact ⟨a, e, l a p⟩
def zk_fr (σ z : sn_S) : Prop := (∀ q, q ≠ 17 → z.1 q = σ.1 q) ∧ z.1 17 1 = σ.1 17 1 ∧ z.2 = σ.2
theorem zk_fr0 {σ : sn_S} : zk_fr σ σ := ⟨fun _ _ => rfl, rfl, rfl⟩
theorem zk_frt {a b c : sn_S} (h : zk_fr a b) (g : zk_fr b c) : zk_fr a c := ⟨fun q hq => (g.1 q hq).trans (h.1 q hq), g.2.1.trans h.2.1, g.2.2.trans h.2.2⟩
theorem zk_frw {σ z : sn_S} {k : Nat} {v : Int32} (hk : k ≠ 1) (h : zk_fr σ z) : zk_fr σ (sn_pI z 17 k v) := ⟨fun q hq => by
  rw [pI_ne hq, h.1 q hq], by
  rw [pI_slot (fun e => hk e.symm)]
  exact h.2.1, h.2.2⟩
def zk_pos (z : sn_S) : Prop := 0 ≤ (z.1 17 4).toInt ∧ (z.1 17 4).toInt ≤ (z.1 17 5).toInt ∧ (z.1 17 5).toInt ≤ (z.1 17 1).toInt ∧ (z.1 17 1).toInt ≤ 900
theorem zk_inc {x : Int32} (h : 0 ≤ x.toInt) (h2 : x.toInt ≤ 5000) : (x + (1 : Int32)).toInt = x.toInt + 1 := by
  rw [Int32.toInt_add, show (1 : Int32).toInt = 1 by decide, zs_bm ⟨by omega, by omega⟩]
theorem zk_k59 {σ : sn_S} {y : Int32} : zs_ok (BX5_kindAt_59 σ y) (fun r => zs_in r.toInt 0 5) := by
  unfold BX5_kindAt_59
  exact zs_ite (fun _ => zs_some (by decide)) (fun _ => zs_some (by decide))
theorem zk_k45 {σ : sn_S} {y : Int32} : zs_ok (BX5_kindAt_45 σ y) (fun r => zs_in r.toInt 0 5) := by
  unfold BX5_kindAt_45
  exact zs_ite (fun _ => zk_k59) (fun _ => zs_ite (fun _ => zk_k59) (fun _ => zs_some (by decide)))
theorem zk_kindAt {σ : sn_S} (hl : (σ.1 17 1).toInt ≤ 900) {x1 : Int32} (hx : 0 ≤ x1.toInt) : zs_ok (fX5_kindAt σ x1) (fun r => zs_in r.toInt 0 5) := by
  unfold fX5_kindAt
  refine zs_ite (fun c => ?_) (fun _ => zs_some (by decide))
  have c1 : x1.toInt < (σ.1 17 1).toInt := zs_I_lt c
  refine zs_gd (zs_gin (a := 0) (b := 899) ⟨hx, by omega⟩ (by decide)) ?_
  refine zs_lt (Q := fun _ => True) trivial (fun y _ => ?_)
  exact zs_ite (fun _ => zs_some (by decide)) (fun _ => zs_ite (fun _ => zs_some (by decide)) (fun _ => zs_ite (fun _ => zk_k45) (fun _ => zs_ite (fun _ => zk_k45) (fun _ => zs_some (by decide)))))
theorem zk_step {σ : sn_S} (h0 : 0 ≤ (σ.1 17 5).toInt) (h1 : (σ.1 17 5).toInt ≤ (σ.1 17 1).toInt) (hl : (σ.1 17 1).toInt ≤ 900) : zs_ok (fX5_step σ) (fun z => zk_fr σ z ∧ z.1 17 2 = σ.1 17 2 ∧ zk_pos z) := by
  unfold fX5_step
  refine zs_lt (Q := fun z => zk_fr σ z ∧ z.1 17 2 = σ.1 17 2 ∧ 0 ≤ (z.1 17 4).toInt ∧ (z.1 17 4).toInt ≤ (σ.1 17 1).toInt) ⟨zk_frw (by decide) zk_fr0, rfl, h0, h1⟩ (fun z1 g1 => ?_)
  refine zs_bd_ (zs_it (E := fun z => zk_fr σ z ∧ z.1 17 2 = σ.1 17 2 ∧ 0 ≤ (z.1 17 4).toInt ∧ (z.1 17 4).toInt ≤ (σ.1 17 1).toInt) (I := fun z => zk_fr σ z ∧ z.1 17 2 = σ.1 17 2 ∧ 0 ≤ (z.1 17 4).toInt ∧ (z.1 17 4).toInt ≤ (σ.1 17 1).toInt) (m := fun z => 900 - (z.1 17 4).toInt) (fun z hz => ⟨by have := hz.2.2; omega, by have := hz.2.2; omega⟩) (fun z hz => ?_) g1) (fun z2 g2 => ?_)
  · unfold LX5_step_8 BX5_step_8
    refine zs_ite (fun _ => zs_some (zs_inr hz)) (fun c => ?_)
    have c1 : (z.1 17 4).toInt < (z.1 17 1).toInt := zs_I_len c
    have e1 := congrArg Int32.toInt hz.1.2.1
    refine zs_bd_ (zk_kindAt (by omega) hz.2.2.1) (fun t _ => zs_ite (fun _ => ?_) (fun _ => zs_some (zs_inr hz)))
    have e2 := zk_inc hz.2.2.1 (by omega)
    refine zs_lt (Q := fun y => y = sn_pI z 17 4 ((sn_I z 17 4) + (1 : Int32))) rfl (fun y hy => ?_)
    subst hy
    exact zs_some (zs_inl ⟨⟨zk_frw (by decide) hz.1, hz.2.1, by show 0 ≤ (z.1 17 4 + (1 : Int32)).toInt; omega, by show (z.1 17 4 + (1 : Int32)).toInt ≤ _; omega⟩, by show 900 - (z.1 17 4 + (1 : Int32)).toInt < 900 - (z.1 17 4).toInt; omega⟩)
  · unfold BX5_step_44
    have e1 := congrArg Int32.toInt g2.1.2.1
    refine zs_bd_ (zk_kindAt (by omega) g2.2.2.1) (fun t _ => ?_)
    refine zs_lt (Q := fun y => y = sn_pI z2 17 6 t) rfl (fun z3 h3 => ?_)
    have f1 : z3.1 17 1 = z2.1 17 1 := by rw [h3]; rfl
    have f2 : z3.1 17 2 = z2.1 17 2 := by rw [h3]; rfl
    have f4 : z3.1 17 4 = z2.1 17 4 := by rw [h3]; rfl
    have g3 : zk_fr σ z3 := by rw [h3]; exact zk_frw (by decide) g2.1
    refine zs_lt (Q := fun y => (z2.1 17 4).toInt ≤ y.toInt ∧ y.toInt ≤ (z2.1 17 1).toInt) ?_ (fun y hy => ?_)
    · show (z2.1 17 4).toInt ≤ (if (z3.1 17 1) < ((z3.1 17 4) + (1 : Int32)) then (z3.1 17 1) else ((z3.1 17 4) + (1 : Int32))).toInt ∧ (if (z3.1 17 1) < ((z3.1 17 4) + (1 : Int32)) then (z3.1 17 1) else ((z3.1 17 4) + (1 : Int32))).toInt ≤ (z2.1 17 1).toInt
      rw [f1, f4]
      have e2 := zk_inc g2.2.2.1 (by omega)
      by_cases c : (z2.1 17 1) < ((z2.1 17 4) + (1 : Int32))
      · rw [if_pos c]
        exact ⟨by omega, by omega⟩
      · rw [if_neg c]
        have := zs_I_ltn c
        exact ⟨by omega, by omega⟩
    · refine zs_lt (Q := fun z => zk_fr σ z ∧ z.1 17 2 = σ.1 17 2 ∧ zk_pos z) ⟨zk_frw (by decide) g3, f2.trans g2.2.1, ?_, ?_, ?_, ?_⟩ (fun z4 g4 => ?_)
      · show 0 ≤ (z3.1 17 4).toInt
        rw [f4]
        exact g2.2.2.1
      · show (z3.1 17 4).toInt ≤ y.toInt
        rw [f4]
        exact hy.1
      · show y.toInt ≤ (z3.1 17 1).toInt
        rw [f1]
        exact hy.2
      · show (z3.1 17 1).toInt ≤ 900
        rw [f1]
        omega
      · have s89 : ∀ w, (zk_fr σ w ∧ w.1 17 2 = σ.1 17 2 ∧ zk_pos w) → zs_ok (BX5_step_89 w) (zs_sum (fun s' => (zk_fr σ s' ∧ s'.1 17 2 = σ.1 17 2 ∧ zk_pos s') ∧ 900 - (s'.1 17 5).toInt < 900 - (w.1 17 5).toInt) (fun z => zk_fr σ z ∧ z.1 17 2 = σ.1 17 2 ∧ zk_pos z)) := by
          intro w hw
          unfold BX5_step_89
          refine zs_ite (fun _ => zs_some (zs_inr hw)) (fun c => ?_)
          have c1 : (w.1 17 5).toInt < (w.1 17 1).toInt := zs_I_len c
          obtain ⟨w1, w2, p1, p2, p3, p4⟩ := hw
          have e2 := zk_inc (x := w.1 17 5) (by omega) (by omega)
          refine zs_bd_ (zk_kindAt p4 (show 0 ≤ (w.1 17 5).toInt by omega)) (fun t _ => zs_ite (fun _ => ?_) (fun _ => zs_some (zs_inr ⟨w1, w2, p1, p2, p3, p4⟩)))
          refine zs_lt (Q := fun y => y = sn_pI w 17 5 ((sn_I w 17 5) + (1 : Int32))) rfl (fun y hy => ?_)
          subst hy
          exact zs_some (zs_inl ⟨⟨zk_frw (by decide) w1, w2, p1, by show (w.1 17 4).toInt ≤ (w.1 17 5 + (1 : Int32)).toInt; omega, by show (w.1 17 5 + (1 : Int32)).toInt ≤ (w.1 17 1).toInt; omega, p4⟩, by show 900 - (w.1 17 5 + (1 : Int32)).toInt < 900 - (w.1 17 5).toInt; omega⟩)
        refine zs_bd_ (zs_it (E := fun z => zk_fr σ z ∧ z.1 17 2 = σ.1 17 2 ∧ zk_pos z) (I := fun z => zk_fr σ z ∧ z.1 17 2 = σ.1 17 2 ∧ zk_pos z) (m := fun z => 900 - (z.1 17 5).toInt) (fun z hz => ⟨by have := hz.2.2; unfold zk_pos at this; omega, by have := hz.2.2; unfold zk_pos at this; omega⟩) (fun z hz => ?_) g4) (fun z5 g5 => ?_)
        · unfold LX5_step_73 BX5_step_73
          exact zs_ite (fun _ => s89 z hz) (fun _ => zs_ite (fun _ => s89 z hz) (fun _ => zs_some (zs_inr hz)))
        · unfold BX5_step_128
          exact zs_some g5
theorem zk_isWord {σ : sn_S} (hp : zk_pos σ) {k : Nat} (hk : k < 16) : zs_ok (fX5_isWord σ k) (fun _ => True) := by
  obtain ⟨p1, p2, p3, p4⟩ := hp
  unfold fX5_isWord
  have b0 : sn_b01 (0 : Int32) = true := by decide
  refine zs_ite (fun _ => ?_) (fun _ => zs_gd b0 (zs_some trivial))
  have e : sn_slen k = some (Int32.ofNat (sn_len.getD k 0)) := by
    unfold sn_slen
    rw [if_pos hk]
  rw [e]
  show zs_ok (if (sn_I σ 17 5 - sn_I σ 17 4) = Int32.ofNat (sn_len.getD k 0) then _ else _) _
  refine zs_ite (fun c => ?_) (fun _ => zs_gd b0 (zs_some trivial))
  have hL : sn_len.getD k 0 < 8 := sn_len8 k hk
  have c2 : (σ.1 17 5).toInt - (σ.1 17 4).toInt = ((sn_len.getD k 0 : Nat) : Int) := by
    have h1 := congrArg Int32.toInt c
    have h2 : (Int32.ofNat (sn_len.getD k 0)).toInt = ((sn_len.getD k 0 : Nat) : Int) := nI_toInt (by omega)
    rw [h2] at h1
    rw [← h1]
    show _ = (σ.1 17 5 - σ.1 17 4).toInt
    rw [Int32.toInt_sub, zs_bm ⟨by omega, by omega⟩]
  refine zs_lt (Q := fun y => y = σ.1 17 4) rfl (fun y hy => ?_)
  refine zs_bd_ (zs_it (E := fun _ => True) (I := fun x : Int32 => (σ.1 17 4).toInt ≤ x.toInt ∧ x.toInt ≤ (σ.1 17 5).toInt) (m := fun x => 900 - x.toInt) (fun x hx => ⟨by omega, by omega⟩) (fun x hx => ?_) (by rw [hy]; exact ⟨Int.le_refl _, p2⟩)) (fun t _ => ?_)
  · unfold LX5_isWord_31 BX5_isWord_31
    refine zs_ite (fun _ => zs_some (zs_inr trivial)) (fun c3 => ?_)
    have c4 : x.toInt < (σ.1 17 5).toInt := zs_I_len c3
    refine zs_gd (zs_gin (a := 0) (b := 899) ⟨by omega, by omega⟩ (by decide)) ?_
    have e5 : (x - sn_I σ 17 4).toInt = x.toInt - (σ.1 17 4).toInt := by
      show (x - σ.1 17 4).toInt = _
      rw [Int32.toInt_sub, zs_bm ⟨by omega, by omega⟩]
    have e6 : ∃ v, sn_sat k (x - sn_I σ 17 4) = some v := by
      unfold sn_sat
      rw [if_pos ⟨hk, zs_gin (a := 0) (b := ((sn_len.getD k 0 : Nat) : Int) - 1) ⟨by omega, by omega⟩ ⟨by omega, by omega⟩⟩]
      exact ⟨_, rfl⟩
    obtain ⟨v, ev⟩ := e6
    rw [ev]
    show zs_ok (if sn_I σ 18 x.toNatClampNeg = v then _ else _) _
    refine zs_ite (fun _ => ?_) (fun _ => zs_gd b0 (zs_some (zs_inr trivial)))
    have e7 := zk_inc (x := x) (by omega) (by omega)
    refine zs_lt (Q := fun y => y = x + 1) rfl (fun y hy2 => ?_)
    subst hy2
    exact zs_some (zs_inl ⟨⟨by omega, by omega⟩, by show 900 - (x + 1).toInt < _; omega⟩)
  · cases t with
    | inl u =>
      show zs_ok (BX5_isWord_66 σ k) _
      unfold BX5_isWord_66
      exact zs_gd (by decide) (zs_some trivial)
    | inr r => exact zs_some trivial
theorem zk_value {σ : sn_S} (hp : zk_pos σ) : zs_ok (fX5_value σ) (fun _ => True) := by
  obtain ⟨p1, p2, p3, p4⟩ := hp
  unfold fX5_value
  refine zs_lt (Q := fun y => y = σ.1 17 4) rfl (fun y hy => ?_)
  refine zs_bd_ (zs_it (E := fun _ => True) (I := fun s : Int32 × Int32 => (σ.1 17 4).toInt ≤ s.2.toInt ∧ s.2.toInt ≤ (σ.1 17 5).toInt) (m := fun s => 900 - s.2.toInt) (fun x hx => ⟨by omega, by omega⟩) (fun x hx => ?_) (by show (σ.1 17 4).toInt ≤ y.toInt ∧ _; rw [hy]; exact ⟨Int.le_refl _, p2⟩)) (fun t _ => ?_)
  · unfold LX5_value_7 BX5_value_7
    refine zs_ite (fun _ => zs_some (zs_inr trivial)) (fun c3 => ?_)
    have c4 : x.2.toInt < (σ.1 17 5).toInt := zs_I_len c3
    refine zs_gd (zs_gin (a := 0) (b := 899) ⟨by omega, by omega⟩ (by decide)) ?_
    refine zs_lt (Q := fun _ => True) trivial (fun w _ => ?_)
    have e7 := zk_inc (x := x.2) (by omega) (by omega)
    refine zs_lt (Q := fun y => y = x.2 + 1) rfl (fun y hy2 => ?_)
    subst hy2
    exact zs_some (zs_inl ⟨⟨by show _ ≤ (x.2 + 1).toInt; omega, by show (x.2 + 1).toInt ≤ _; omega⟩, by show 900 - (x.2 + 1).toInt < _; omega⟩)
  · unfold BX5_value_41
    exact zs_some trivial
theorem zk_blame {σ : sn_S} {x1 : Int32} (hx : x1 ≠ 0) : zs_ok (fX5_blame σ x1) (fun z => zk_fr σ z ∧ z.1 17 2 ≠ 0 ∧ z.1 17 4 = σ.1 17 4 ∧ z.1 17 5 = σ.1 17 5) := by
  unfold fX5_blame
  refine zs_ite (fun _ => ?_) (fun c => zs_some ⟨zk_fr0, c, rfl, rfl⟩)
  refine zs_lt (Q := fun z => zk_fr σ z ∧ z.1 17 2 = x1 ∧ z.1 17 4 = σ.1 17 4 ∧ z.1 17 5 = σ.1 17 5) ⟨zk_frw (by decide) zk_fr0, rfl, rfl, rfl⟩ (fun z h => ?_)
  refine zs_lt (Q := fun z => zk_fr σ z ∧ z.1 17 2 = x1 ∧ z.1 17 4 = σ.1 17 4 ∧ z.1 17 5 = σ.1 17 5) ⟨zk_frw (by decide) h.1, h.2.1, h.2.2.1, h.2.2.2⟩ (fun z h => zs_some ⟨h.1, by rw [h.2.1]; exact hx, h.2.2⟩)
theorem zk_posf {σ z : sn_S} (hp : zk_pos σ) (h1 : z.1 17 1 = σ.1 17 1) (h4 : z.1 17 4 = σ.1 17 4) (h5 : z.1 17 5 = σ.1 17 5) : zk_pos z := by
  unfold zk_pos
  rw [h1, h4, h5]
  exact hp
theorem zk_stepp {σ : sn_S} (hp : zk_pos σ) : zs_ok (fX5_step σ) (fun z => zk_fr σ z ∧ z.1 17 2 = σ.1 17 2 ∧ zk_pos z) := zk_step (by have := hp.1; have := hp.2.1; omega) hp.2.2.1 hp.2.2.2
theorem zk_n44 {σ : sn_S} (hp : zk_pos σ) {x : Int32} : zs_ok (BX5_number_44 σ x) (fun r => r.1 = x ∧ zk_fr σ r.2 ∧ zk_pos r.2 ∧ r.2.1 17 2 = σ.1 17 2) := by
  unfold BX5_number_44
  exact zs_bd_ (zk_stepp hp) (fun t ht => zs_some ⟨rfl, ht.1, ht.2.2, ht.2.1⟩)
theorem zk_n39 {σ : sn_S} (hp : zk_pos σ) {x : Int32} : zs_ok (BX5_number_39 σ x) (fun r => zk_fr σ r.2 ∧ zk_pos r.2 ∧ r.2.1 17 2 ≠ 0) := by
  unfold BX5_number_39
  refine zs_bd_ (zk_blame (by decide)) (fun t ht => ?_)
  exact zs_okw (zk_n44 (zk_posf hp ht.1.2.1 ht.2.2.1 ht.2.2.2)) (fun a ha => ⟨zk_frt ht.1 ha.2.1, ha.2.2.1, by rw [ha.2.2.2]; exact ht.2.1⟩)
theorem zk_number {σ : sn_S} (hp : zk_pos σ) {lo hi but : Int32} : zs_ok (fX5_number σ lo hi but) (fun r => zk_fr σ r.2 ∧ zk_pos r.2 ∧ (r.2.1 17 2 = 0 → σ.1 17 2 = 0 ∧ lo.toInt ≤ r.1.toInt ∧ r.1.toInt ≤ hi.toInt)) := by
  unfold fX5_number
  have bad : ∀ x, zs_ok (BX5_number_39 σ x) (fun r => zk_fr σ r.2 ∧ zk_pos r.2 ∧ (r.2.1 17 2 = 0 → σ.1 17 2 = 0 ∧ lo.toInt ≤ r.1.toInt ∧ r.1.toInt ≤ hi.toInt)) := fun x => zs_okw (zk_n39 hp) (fun a ha => ⟨ha.1, ha.2.1, fun z => absurd z ha.2.2⟩)
  refine zs_ite (fun _ => ?_) (fun _ => ?_)
  · refine zs_bd_ (zk_value hp) (fun t _ => zs_ite (fun _ => bad t) (fun c1 => zs_ite (fun _ => bad t) (fun c2 => zs_ite (fun _ => bad t) (fun _ => ?_))))
    exact zs_okw (zk_n44 hp) (fun a ha => ⟨ha.2.1, ha.2.2.1, fun z => ⟨ha.2.2.2.symm.trans z, by rw [ha.1]; exact zs_I_ltn c1, by rw [ha.1]; exact zs_I_ltn c2⟩⟩)
  · exact zs_bd_ (zk_blame (by decide)) (fun t ht => zs_some ⟨ht.1, zk_posf hp ht.1.2.1 ht.2.2.1 ht.2.2.2, fun z => absurd z ht.2.1⟩)
theorem zk_word {σ : sn_S} (hp : zk_pos σ) {k : Nat} (hk : k < 16) : zs_ok (fX5_word σ k) (fun z => zk_fr σ z ∧ zk_pos z ∧ (z.1 17 2 = 0 → σ.1 17 2 = 0)) := by
  unfold fX5_word
  refine zs_bd_ (zk_isWord hp hk) (fun t _ => zs_ite (fun _ => ?_) (fun _ => ?_))
  · exact zs_bd_ (zk_blame (by decide)) (fun t ht => zs_some ⟨ht.1, zk_posf hp ht.1.2.1 ht.2.2.1 ht.2.2.2, fun z => absurd z ht.2.1⟩)
  · exact zs_bd_ (zk_stepp hp) (fun t ht => zs_some ⟨ht.1, ht.2.2, fun z => ht.2.1.symm.trans z⟩)
theorem zk_sign {σ : sn_S} (hp : zk_pos σ) : zs_ok (fX5_sign σ) (fun z => zk_fr σ z ∧ zk_pos z ∧ (z.1 17 2 = 0 → σ.1 17 2 = 0)) := by
  unfold fX5_sign
  refine zs_ite (fun _ => ?_) (fun _ => ?_)
  · exact zs_bd_ (zk_stepp hp) (fun t ht => zs_some ⟨ht.1, ht.2.2, fun z => ht.2.1.symm.trans z⟩)
  · exact zs_bd_ (zk_blame (by decide)) (fun t ht => zs_some ⟨ht.1, zk_posf hp ht.1.2.1 ht.2.2.1 ht.2.2.2, fun z => absurd z ht.2.1⟩)
/-! what stays at every step of reading -/
def zk_D (z : sn_S) : Prop := (∀ k, k < 11 → (zs_cnt k).1 ≤ (z.1 9 k).toInt ∧ (z.1 9 k).toInt ≤ (zs_cnt k).2) ∧ zs_H 8 z
def zk_k (q k : Nat) : Bool := bif Nat.beq q 17 then (Nat.beq k 1) else (zs_kC q k)
def zk_I (σ0 z : sn_S) : Prop := zs_G zs_tC zk_k zs_lC σ0 z ∧ zk_pos z ∧ sn_R z 17 7 = some 8 ∧ (z.1 17 2 = 0 → zk_D z)
theorem zk_kX17 {q k : Nat} (h : zs_kX q k = true) : q ≠ 17 := fun e => by
  subst e
  cases h
theorem zk_If {σ0 z w : sn_S} (h : zk_I σ0 z) (hf : zk_fr z w) (hp : zk_pos w) (hc : w.1 17 2 = 0 → z.1 17 2 = 0) : zk_I σ0 w := by
  have o : ∀ q k, q ≠ 17 → w.1 q k = z.1 q k := fun q k hq => by rw [hf.1 q hq]
  refine ⟨⟨⟨fun q k => ?_, fun hC => zs_RC_c (fun q k hk => o q k (zk_kX17 hk)) (h.1.1.2 hC)⟩, fun q k hk => ?_, fun q hq => ?_⟩, hp, ?_, fun hz => ?_⟩
  · by_cases e : q = 17
    · subst e
      by_cases e1 : k = 1
      · subst e1
        rw [hf.2.1]
        exact h.1.1.1 17 1
      · have : zs_tC 17 k = (-2147483648, 2147483647) := by
          have e2 : Nat.beq k 1 = false := by
            cases e3 : Nat.beq k 1 with
            | false => rfl
            | true => exact absurd (Nat.eq_of_beq_eq_true e3) e1
          show (bif Nat.beq k 1 then (0, 900) else ((-2147483648 : Int), (2147483647 : Int))) = _
          rw [e2]
          rfl
        rw [this]
        exact zs_topI _
    · rw [o q k e]
      exact h.1.1.1 q k
  · by_cases e : q = 17
    · subst e
      have e1 : k = 1 := Nat.eq_of_beq_eq_true hk
      subst e1
      rw [hf.2.1]
      exact h.1.2.1 17 1 rfl
    · rw [o q k e]
      exact h.1.2.1 q k hk
  · rw [show w.2.1 = z.2.1 from by rw [hf.2.2]]
    exact h.1.2.2 q hq
  · show w.2.2 17 7 = _
    rw [hf.2.2]
    exact h.2.2.1
  · have d := h.2.2.2 (hc hz)
    exact ⟨fun k hk => by rw [o 9 k (by decide)]; exact d.1 k hk, zs_H_c (o _ _ (by decide)) (o _ _ (by decide)) (o _ _ (by decide)) (fun k => o _ _ (by decide)) (fun k => o _ _ (by decide)) (fun j => o _ _ (by decide)) d.2⟩
theorem zk_Iw {σ0 z : sn_S} {q k : Nat} {v : Int32} (h : zk_I σ0 z) (hq : q = 9 ∨ q = 10 ∨ q = 11 ∨ q = 12 ∨ q = 13) (ht : (zs_tC q k).1 ≤ v.toInt ∧ v.toInt ≤ (zs_tC q k).2) (hD : z.1 17 2 = 0 → zk_D z → zk_D (sn_pI z q k v)) : zk_I σ0 (sn_pI z q k v) := by
  have q17 : q ≠ 17 := by omega
  have e : ∀ j, (sn_pI z q k v).1 17 j = z.1 17 j := fun j => by rw [pI_ne (fun e => q17 e.symm)]
  refine ⟨zs_wr h.1 ht ?_, ?_, h.2.2.1, fun hz => ?_⟩
  · rcases hq with e | e | e | e | e <;> subst e <;> rfl
  · exact zk_posf h.2.1 (e 1) (e 4) (e 5)
  · rw [e 2] at hz
    exact hD hz (h.2.2.2 hz)
def zk_Q (σ0 : sn_S) (ck n : Nat) (X : sn_S → Prop) (z : sn_S) : Prop := zk_I σ0 z ∧ z.1 9 ck = nI n ∧ (z.1 17 2 = 0 → X z)
section
variable {σ0 σ : sn_S} {ck n : Nat} {X : sn_S → Prop}
theorem zk_Qf {z w : sn_S} (hX : ∀ a b, zk_fr a b → X a → X b) (h : zk_Q σ0 ck n X z) (hf : zk_fr z w) (hp : zk_pos w) (hc : w.1 17 2 = 0 → z.1 17 2 = 0) : zk_Q σ0 ck n X w := ⟨zk_If h.1 hf hp hc, by rw [hf.1 9 (by decide)]; exact h.2.1, fun hz => hX _ _ hf (h.2.2 (hc hz))⟩
theorem zk_Qword (hX : ∀ a b, zk_fr a b → X a → X b) (h : zk_Q σ0 ck n X σ) {k : Nat} (hk : k < 16) : zs_ok (fX5_word σ k) (zk_Q σ0 ck n X) := zs_okw (zk_word h.1.2.1 hk) (fun a ha => zk_Qf hX h ha.1 ha.2.1 ha.2.2)
theorem zk_Qsign (hX : ∀ a b, zk_fr a b → X a → X b) (h : zk_Q σ0 ck n X σ) : zs_ok (fX5_sign σ) (zk_Q σ0 ck n X) := zs_okw (zk_sign h.1.2.1) (fun a ha => zk_Qf hX h ha.1 ha.2.1 ha.2.2)
theorem zk_Qnum (hX : ∀ a b, zk_fr a b → X a → X b) (h : zk_Q σ0 ck n X σ) {lo hi but : Int32} : zs_ok (fX5_number σ lo hi but) (fun r => zk_Q σ0 ck n X r.2 ∧ (r.2.1 17 2 = 0 → lo.toInt ≤ r.1.toInt ∧ r.1.toInt ≤ hi.toInt)) := zs_okw (zk_number h.1.2.1) (fun a ha => ⟨zk_Qf hX h ha.1 ha.2.1 (fun z => (ha.2.2 z).1), fun z => (ha.2.2 z).2⟩)
theorem zk_R (h : zk_Q σ0 ck n X σ) : (sn_R σ 17 7 == some 8) = true := by
  rw [h.1.2.2.1]
  rfl
theorem zk_TX : ∀ a b : sn_S, zk_fr a b → True → True := fun _ _ _ _ => trivial
end
theorem zk_If0 {σ0 z w : sn_S} (hG : zs_G zs_tC zk_k zs_lC σ0 z) (hR : sn_R z 17 7 = some 8) (hD : z.1 17 2 = 0 → zk_D z) (hf : zk_fr z w) (hp : zk_pos w) (hc : w.1 17 2 = 0 → z.1 17 2 = 0) : zk_I σ0 w := by
  have o : ∀ q k, q ≠ 17 → w.1 q k = z.1 q k := fun q k hq => by rw [hf.1 q hq]
  refine ⟨⟨⟨fun q k => ?_, fun hC => zs_RC_c (fun q k hk => o q k (zk_kX17 hk)) (hG.1.2 hC)⟩, fun q k hk => ?_, fun q hq => ?_⟩, hp, ?_, fun hz => ?_⟩
  · by_cases e : q = 17
    · subst e
      by_cases e1 : k = 1
      · subst e1
        rw [hf.2.1]
        exact hG.1.1 17 1
      · have : zs_tC 17 k = (-2147483648, 2147483647) := by
          have e2 : Nat.beq k 1 = false := by
            cases e3 : Nat.beq k 1 with
            | false => rfl
            | true => exact absurd (Nat.eq_of_beq_eq_true e3) e1
          show (bif Nat.beq k 1 then (0, 900) else ((-2147483648 : Int), (2147483647 : Int))) = _
          rw [e2]
          rfl
        rw [this]
        exact zs_topI _
    · rw [o q k e]
      exact hG.1.1 q k
  · by_cases e : q = 17
    · subst e
      have e1 : k = 1 := Nat.eq_of_beq_eq_true hk
      subst e1
      rw [hf.2.1]
      exact hG.2.1 17 1 rfl
    · rw [o q k e]
      exact hG.2.1 q k hk
  · rw [show w.2.1 = z.2.1 from by rw [hf.2.2]]
    exact hG.2.2 q hq
  · show w.2.2 17 7 = _
    rw [hf.2.2]
    exact hR
  · have d := hD (hc hz)
    exact ⟨fun k hk => by rw [o 9 k (by decide)]; exact d.1 k hk, zs_H_c (o _ _ (by decide)) (o _ _ (by decide)) (o _ _ (by decide)) (fun k => o _ _ (by decide)) (fun k => o _ _ (by decide)) (fun j => o _ _ (by decide)) d.2⟩
/-! the first row -/
section
variable {σ0 σ z : sn_S}
theorem zk_IR (h : zk_I σ0 σ) : (sn_R σ 17 7 == some 8) = true := by
  rw [h.2.2.1]
  rfl
theorem zk_Iword (h : zk_I σ0 σ) {k : Nat} (hk : k < 16) : zs_ok (fX5_word σ k) (fun z => zk_I σ0 z) := zs_okw (zk_word h.2.1 hk) (fun a ha => zk_If h ha.1 ha.2.1 ha.2.2)
theorem zk_Isign (h : zk_I σ0 σ) : zs_ok (fX5_sign σ) (fun z => zk_I σ0 z) := zs_okw (zk_sign h.2.1) (fun a ha => zk_If h ha.1 ha.2.1 ha.2.2)
theorem zk_Iblame (h : zk_I σ0 σ) {x : Int32} (hx : x ≠ 0) : zs_ok (fX5_blame σ x) (fun z => zk_I σ0 z) := zs_okw (zk_blame hx) (fun a ha => zk_If h ha.1 (zk_posf h.2.1 ha.1.2.1 ha.2.2.1 ha.2.2.2) (fun z => absurd z ha.2.1))
theorem zk_Inum (h : zk_I σ0 σ) {lo hi but : Int32} : zs_ok (fX5_number σ lo hi but) (fun r => zk_I σ0 r.2 ∧ (r.2.1 17 2 = 0 → lo.toInt ≤ r.1.toInt ∧ r.1.toInt ≤ hi.toInt)) := zs_okw (zk_number h.2.1) (fun a ha => ⟨zk_If h ha.1 ha.2.1 (fun z => (ha.2.2 z).1), fun z => (ha.2.2 z).2⟩)
theorem zk_bw {lo hi : Int32} {v a b : Int} (h : lo.toInt ≤ v ∧ v ≤ hi.toInt) (hl : a ≤ lo.toInt ∧ hi.toInt ≤ b) : a ≤ v ∧ v ≤ b := ⟨by omega, by omega⟩
theorem zk_D9 {i : Nat} {v : Int32} (hi : i ≠ 6 ∧ i ≠ 7 ∧ i ≠ 8) (hv : (zs_cnt i).1 ≤ v.toInt ∧ v.toInt ≤ (zs_cnt i).2) (d : zk_D z) : zk_D (sn_pI z 9 i v) := by
  refine ⟨fun k hk => ?_, zs_H_c (pI_slot (fun e => hi.1 e.symm)) (pI_slot (fun e => hi.2.1 e.symm)) (pI_slot (fun e => hi.2.2 e.symm)) (fun k => by rw [pI_ne (by decide)]) (fun k => by rw [pI_ne (by decide)]) (fun k => by rw [pI_ne (by decide)]) d.2⟩
  by_cases e : k = i
  · subst e
    rw [pI_self]
    exact hv
  · rw [pI_slot e]
    exact d.1 k hk
theorem zk_I9 {i : Nat} {v : Int32} (h : zk_I σ0 z) (ht : zs_tC 9 i = (-2147483648, 2147483647)) (hi : i ≠ 6 ∧ i ≠ 7 ∧ i ≠ 8) (hv : z.1 17 2 = 0 → (zs_cnt i).1 ≤ v.toInt ∧ v.toInt ≤ (zs_cnt i).2) : zk_I σ0 (sn_pI z 9 i v) := zk_Iw h (Or.inl rfl) (by rw [ht]; exact zs_topI v) (fun hz d => zk_D9 hi (hv hz) d)
theorem zk_readHouse (h : zk_I σ0 σ) : zs_ok (fX5_readHouse σ) (fun z => zk_I σ0 z) := by
  unfold fX5_readHouse
  refine zs_bd_ (zk_Iword h (by decide)) (fun t1 h1 => ?_)
  refine zs_bd_ (zk_Iword h1 (by decide)) (fun t2 h2 => ?_)
  refine zs_gd (zk_IR h2) (zs_bd_ (zk_Inum h2) (fun r3 h3 => zs_gd (by decide) ?_))
  refine zs_lt (Q := fun z => zk_I σ0 z) (zk_I9 h3.1 rfl (by decide) (fun z => zk_bw (h3.2 z) (by decide))) (fun s3 g3 => ?_)
  refine zs_bd_ (zk_Iword g3 (by decide)) (fun t4 h4 => ?_)
  refine zs_gd (zk_IR h4) (zs_bd_ (zk_Inum h4) (fun r5 h5 => zs_gd (by decide) ?_))
  refine zs_lt (Q := fun z => zk_I σ0 z) (zk_I9 h5.1 rfl (by decide) (fun z => zk_bw (h5.2 z) (by decide))) (fun s5 g5 => ?_)
  refine zs_bd_ (zk_Iword g5 (by decide)) (fun t6 h6 => ?_)
  refine zs_gd (zk_IR h6) (zs_bd_ (zk_Inum h6) (fun r7 h7 => zs_gd (by decide) ?_))
  refine zs_lt (Q := fun z => zk_I σ0 z) (zk_I9 h7.1 rfl (by decide) (fun z => zk_bw (h7.2 z) (by decide))) (fun s7 g7 => ?_)
  refine zs_bd_ (zk_Iword g7 (by decide)) (fun t8 h8 => ?_)
  refine zs_gd (zk_IR h8) (zs_bd_ (zk_Inum h8) (fun r9 h9 => zs_gd (by decide) ?_))
  refine zs_lt (Q := fun z => zk_I σ0 z) (zk_I9 h9.1 rfl (by decide) (fun z => zk_bw (h9.2 z) (by decide))) (fun s9 g9 => ?_)
  refine zs_bd_ (zk_Iword g9 (by decide)) (fun t10 h10 => ?_)
  refine zs_gd (zk_IR h10) (zs_bd_ (zk_Inum h10) (fun r11 h11 => zs_gd (by decide) ?_))
  refine zs_lt (Q := fun z => zk_I σ0 z) (zk_I9 h11.1 rfl (by decide) (fun z => zk_bw (h11.2 z) (by decide))) (fun s11 g11 => ?_)
  exact zs_bd_ (zk_Isign g11) (fun t12 h12 => zs_some h12)
/-! the rows behind it -/
theorem zk_Qw {ck n q k : Nat} {v : Int32} {X X' : sn_S → Prop} (h : zk_Q σ0 ck n X z) (hq : q = 10 ∨ q = 11 ∨ q = 12 ∨ q = 13) (hD : zk_D z → zk_D (sn_pI z q k v)) (hX : z.1 17 2 = 0 → X z → X' (sn_pI z q k v)) : zk_Q σ0 ck n X' (sn_pI z q k v) := by
  refine ⟨zk_Iw h.1 (Or.inr hq) ?_ (fun _ d => hD d), ?_, fun hz => ?_⟩
  · have : zs_tC q k = (-2147483648, 2147483647) := by rcases hq with e | e | e | e <;> subst e <;> rfl
    rw [this]
    exact zs_topI v
  · rw [pI_ne (show 9 ≠ q by omega)]
    exact h.2.1
  · rw [pI_ne (show 17 ≠ q by omega)] at hz
    exact hX hz (h.2.2 hz)
theorem zk_D10 {i : Nat} {v : Int32} (d : zk_D z) : zk_D (sn_pI z 10 i v) :=
  ⟨fun k hk => by rw [pI_ne (by decide)]; exact d.1 k hk, zs_H_c (by rw [pI_ne (by decide)]) (by rw [pI_ne (by decide)]) (by rw [pI_ne (by decide)]) (fun k => by rw [pI_ne (by decide)]) (fun k => by rw [pI_ne (by decide)]) (fun k => by rw [pI_ne (by decide)]) d.2⟩
theorem zk_ltn {n j : Nat} {x : Int32} (hx : x = nI n) (hn : n < 100) (h : (j : Int) < x.toInt) : j < n := by
  rw [hx, nI_toInt (by omega)] at h
  omega
theorem zk_D11 {n i : Nat} {v : Int32} (hn : n < 100) (hc : z.1 9 6 = nI n) (hi : ∀ j, j < n → i ≠ 2 * j + 1) (d : zk_D z) : zk_D (sn_pI z 11 i v) := by
  refine ⟨fun k hk => by rw [pI_ne (by decide)]; exact d.1 k hk, fun j hj hl => ?_, zs_Ru_c (by rw [pI_ne (by decide)]) (fun j _ => by rw [pI_ne (by decide)]) d.2.2.1, zs_Ru_c (by rw [pI_ne (by decide)]) (fun j _ => by rw [pI_ne (by decide)]) d.2.2.2.1, zs_Ru_c (by rw [pI_ne (by decide)]) (fun j _ => by rw [pI_ne (by decide)]) d.2.2.2.2⟩
  rw [pI_ne (by decide)] at hl
  have h1 := zk_ltn hc hn hl
  have e : (sn_pI z 11 i v).1 (8 + 3) (2 * j + 1) = z.1 11 (2 * j + 1) := pI_slot (fun e => hi j h1 e.symm)
  rw [e]
  exact d.2.1 j hj hl
theorem zk_D12 {n i : Nat} {v : Int32} (hn : n < 100) (hc : z.1 9 7 = nI n) (hi : ∀ j, j < n → i ≠ 2 * j + 0 ∧ i ≠ 2 * j + 1) (d : zk_D z) : zk_D (sn_pI z 12 i v) := by
  refine ⟨fun k hk => by rw [pI_ne (by decide)]; exact d.1 k hk, zs_Ru_c (by rw [pI_ne (by decide)]) (fun j _ => by rw [pI_ne (by decide)]) d.2.1, fun j hj hl => ?_, fun j hj hl => ?_, zs_Ru_c (by rw [pI_ne (by decide)]) (fun j _ => by rw [pI_ne (by decide)]) d.2.2.2.2⟩
  · rw [pI_ne (by decide)] at hl
    have h1 := zk_ltn hc hn hl
    have e : (sn_pI z 12 i v).1 (8 + 4) (2 * j + 0) = z.1 12 (2 * j + 0) := pI_slot (fun e => (hi j h1).1 e.symm)
    rw [e]
    exact d.2.2.1 j hj hl
  · rw [pI_ne (by decide)] at hl
    have h1 := zk_ltn hc hn hl
    have e : (sn_pI z 12 i v).1 (8 + 4) (2 * j + 1) = z.1 12 (2 * j + 1) := pI_slot (fun e => (hi j h1).2 e.symm)
    rw [e]
    exact d.2.2.2.1 j hj hl
theorem zk_D13 {n i : Nat} {v : Int32} (hn : n < 100) (hc : z.1 9 8 = nI n) (hi : ∀ j, j < n → i ≠ 5 * j + 0) (d : zk_D z) : zk_D (sn_pI z 13 i v) := by
  refine ⟨fun k hk => by rw [pI_ne (by decide)]; exact d.1 k hk, zs_Ru_c (by rw [pI_ne (by decide)]) (fun j _ => by rw [pI_ne (by decide)]) d.2.1, zs_Ru_c (by rw [pI_ne (by decide)]) (fun j _ => by rw [pI_ne (by decide)]) d.2.2.1, zs_Ru_c (by rw [pI_ne (by decide)]) (fun j _ => by rw [pI_ne (by decide)]) d.2.2.2.1, fun j hj hl => ?_⟩
  rw [pI_ne (by decide)] at hl
  have h1 := zk_ltn hc hn hl
  have e : (sn_pI z 13 i v).1 (8 + 5) (5 * j + 0) = z.1 13 (5 * j + 0) := pI_slot (fun e => hi j h1 e.symm)
  rw [e]
  exact d.2.2.2.2 j hj hl
theorem zk_2n (n : Nat) : (2 : Int32) * nI n = nI (2 * n) := nI_mul 2 n
theorem zk_5n (n : Nat) : (5 : Int32) * nI n = nI (5 * n) := nI_mul 5 n
theorem zk_readNose {n : Nat} (h : zk_I σ0 σ) (hn : σ.1 9 5 = nI n) (hb : n ≤ 6) : zs_ok (fX5_readNose σ (nI n)) (fun z => zk_I σ0 z) := by
  unfold fX5_readNose
  refine zs_ite (fun c => ?_) (fun _ => zs_bd_ (zk_Iblame h (by decide)) (fun t ht => zs_some ht))
  have c1 := zs_I_lt c
  rw [nI_toInt (by omega), show (6 : Int32).toInt = 6 by decide] at c1
  have hQ : zk_Q σ0 5 n (fun _ => True) σ := ⟨h, hn, fun _ => trivial⟩
  have e1 := zk_2n n
  have e2 : nI (2 * n) + (1 : Int32) = nI (2 * n + 1) := nI_1 _
  have e3 : nI n + (1 : Int32) = nI (n + 1) := nI_1 _
  rw [e1, e2, e3]
  refine zs_bd_ (zk_Qword zk_TX hQ (by decide)) (fun t1 h1 => ?_)
  refine zs_gd (zk_R h1) (zs_bd_ (zk_Qnum zk_TX h1) (fun r2 h2 => zs_gd (sn_in_nI (by omega) (by decide)) ?_))
  refine zs_lt (Q := zk_Q σ0 5 n (fun _ => True)) (zk_Qw h2.1 (Or.inl rfl) zk_D10 (fun _ _ => trivial)) (fun s3 h3 => ?_)
  refine zs_bd_ (zk_Qword zk_TX h3 (by decide)) (fun t4 h4 => ?_)
  refine zs_gd (zk_R h4) (zs_bd_ (zk_Qnum zk_TX h4) (fun r5 h5 => zs_gd (sn_in_nI (by omega) (by decide)) ?_))
  refine zs_lt (Q := zk_Q σ0 5 n (fun _ => True)) (zk_Qw h5.1 (Or.inl rfl) zk_D10 (fun _ _ => trivial)) (fun s6 h6 => ?_)
  refine zs_bd_ (zk_Qsign zk_TX h6) (fun t7 h7 => zs_gd (zk_R h7) (zs_gd (by decide) ?_))
  refine zs_lt (Q := fun z => zk_I σ0 z) (zk_Iw h7.1 (Or.inl rfl) ?_ (fun hz d => zk_D9 (by decide) ?_ d)) (fun s8 h8 => zs_some h8)
  · rw [nI_toInt (by omega), show zs_tC 9 (5 : Int32).toNatClampNeg = (0, 6) from rfl]
    exact ⟨by omega, by omega⟩
  · rw [nI_toInt (by omega), show zs_cnt (5 : Int32).toNatClampNeg = (0, 6) from rfl]
    exact ⟨by omega, by omega⟩
theorem zk_readGust {n : Nat} (h : zk_I σ0 σ) (hn : σ.1 9 6 = nI n) (hb : n ≤ 5) : zs_ok (fX5_readGust σ (nI n)) (fun z => zk_I σ0 z) := by
  unfold fX5_readGust
  refine zs_ite (fun c => ?_) (fun _ => zs_bd_ (zk_Iblame h (by decide)) (fun t ht => zs_some ht))
  have c1 := zs_I_lt c
  rw [nI_toInt (by omega), show (5 : Int32).toInt = 5 by decide] at c1
  have hQ : zk_Q σ0 6 n (fun _ => True) σ := ⟨h, hn, fun _ => trivial⟩
  have hX : ∀ a b : sn_S, zk_fr a b → (0 ≤ (a.1 11 (2 * n + 1)).toInt ∧ (a.1 11 (2 * n + 1)).toInt ≤ 29) → (0 ≤ (b.1 11 (2 * n + 1)).toInt ∧ (b.1 11 (2 * n + 1)).toInt ≤ 29) := fun a b hf hx => by
    rw [hf.1 11 (by decide)]
    exact hx
  have e1 := zk_2n n
  have e2 : nI (2 * n) + (1 : Int32) = nI (2 * n + 1) := nI_1 _
  have e3 : nI n + (1 : Int32) = nI (n + 1) := nI_1 _
  rw [e1, e2, e3]
  refine zs_bd_ (zk_Qword zk_TX hQ (by decide)) (fun t1 h1 => ?_)
  refine zs_gd (zk_R h1) (zs_bd_ (zk_Qnum zk_TX h1) (fun r2 h2 => zs_gd (sn_in_nI (by omega) (by decide)) ?_))
  rw [nI_clamp (show 2 * n < 2 ^ 31 by omega), nI_clamp (show 2 * n + 1 < 2 ^ 31 by omega)]
  refine zs_lt (Q := zk_Q σ0 6 n (fun _ => True)) (zk_Qw h2.1 (Or.inr (Or.inl rfl)) (zk_D11 (by omega) h2.1.2.1 (fun j hj => by omega)) (fun _ _ => trivial)) (fun s3 h3 => ?_)
  refine zs_bd_ (zk_Qword zk_TX h3 (by decide)) (fun t4 h4 => ?_)
  refine zs_gd (zk_R h4) (zs_bd_ (zk_Qnum zk_TX h4) (fun r5 h5 => zs_gd (sn_in_nI (by omega) (by decide)) ?_))
  refine zs_lt (Q := zk_Q σ0 6 n (fun z => 0 ≤ (z.1 11 (2 * n + 1)).toInt ∧ (z.1 11 (2 * n + 1)).toInt ≤ 29)) (zk_Qw h5.1 (Or.inr (Or.inl rfl)) (zk_D11 (by omega) h5.1.2.1 (fun j hj => by omega)) (fun hz _ => by rw [pI_self]; exact zk_bw (h5.2 hz) (by decide))) (fun s6 h6 => ?_)
  refine zs_bd_ (zk_Qsign hX h6) (fun t7 h7 => zs_gd (zk_R h7) (zs_gd (by decide) ?_))
  refine zs_lt (Q := fun z => zk_I σ0 z) (zk_Iw h7.1 (Or.inl rfl) ?_ (fun hz d => ?_)) (fun s8 h8 => zs_some h8)
  · rw [nI_toInt (by omega), show zs_tC 9 (6 : Int32).toNatClampNeg = (0, 5) from rfl]
    exact ⟨by omega, by omega⟩
  · show zk_D (sn_pI t7 9 6 (nI (n + 1)))
    refine ⟨fun k hk => ?_, fun j hj hl => ?_, zs_Ru_c (pI_slot (by decide)) (fun j _ => by rw [pI_ne (by decide)]) d.2.2.1, zs_Ru_c (pI_slot (by decide)) (fun j _ => by rw [pI_ne (by decide)]) d.2.2.2.1, zs_Ru_c (pI_slot (by decide)) (fun j _ => by rw [pI_ne (by decide)]) d.2.2.2.2⟩
    · by_cases e : k = 6
      · subst e
        rw [pI_self, nI_toInt (by omega), show zs_cnt 6 = (0, 5) from rfl]
        exact ⟨by omega, by omega⟩
      · rw [pI_slot e]
        exact d.1 k hk
    · have h1 := zk_ltn (n := n + 1) pI_self (by omega) hl
      rw [pI_ne (by decide)]
      by_cases e : j = n
      · subst e
        exact h7.2.2 hz
      · exact d.2.1 j hj (by rw [show t7.1 (8 + 1) 6 = nI n from h7.2.1, nI_toInt (by omega)]; omega)
theorem zk_hi5 {t : sn_S} (h : zk_I σ0 t) : ((sn_I t (8 + 1) (5 : Int32).toNatClampNeg) - (1 : Int32)).toInt ≤ 5 := by
  have hb : zs_in (sn_I t (8 + 1) (5 : Int32).toNatClampNeg).toInt 0 6 := zs_rdk (q := 9) (k := (5 : Int32).toNatClampNeg) (z := (0, 6)) h.1.1 rfl
  have := zs_subI (-1) 5 hb (show zs_in (1 : Int32).toInt 1 1 by decide) (by decide)
  exact this.2
theorem zk_bw5 {lo hi : Int32} {v : Int} (h : lo.toInt ≤ v ∧ v ≤ hi.toInt) (hl : 0 ≤ lo.toInt) (h5 : hi.toInt ≤ 5) : 0 ≤ v ∧ v ≤ 5 := ⟨by omega, by omega⟩
theorem zk_readNet {n : Nat} (h : zk_I σ0 σ) (hn : σ.1 9 7 = nI n) (hb : n ≤ 8) : zs_ok (fX5_readNet σ (nI n)) (fun z => zk_I σ0 z) := by
  unfold fX5_readNet
  refine zs_ite (fun c => ?_) (fun _ => zs_bd_ (zk_Iblame h (by decide)) (fun t ht => zs_some ht))
  have c1 := zs_I_lt c
  rw [nI_toInt (by omega), show (8 : Int32).toInt = 8 by decide] at c1
  have hQ : zk_Q σ0 7 n (fun _ => True) σ := ⟨h, hn, fun _ => trivial⟩
  have e1 := zk_2n n
  have e2 : nI (2 * n) + (1 : Int32) = nI (2 * n + 1) := nI_1 _
  have e3 : nI n + (1 : Int32) = nI (n + 1) := nI_1 _
  have hX1 : ∀ a b : sn_S, zk_fr a b → (0 ≤ (a.1 12 (2 * n)).toInt ∧ (a.1 12 (2 * n)).toInt ≤ 5) → (0 ≤ (b.1 12 (2 * n)).toInt ∧ (b.1 12 (2 * n)).toInt ≤ 5) := fun a b hf hx => by
    rw [hf.1 12 (by decide)]
    exact hx
  have hX2 : ∀ a b : sn_S, zk_fr a b → ((0 ≤ (a.1 12 (2 * n)).toInt ∧ (a.1 12 (2 * n)).toInt ≤ 5) ∧ (0 ≤ (a.1 12 (2 * n + 1)).toInt ∧ (a.1 12 (2 * n + 1)).toInt ≤ 5)) → ((0 ≤ (b.1 12 (2 * n)).toInt ∧ (b.1 12 (2 * n)).toInt ≤ 5) ∧ (0 ≤ (b.1 12 (2 * n + 1)).toInt ∧ (b.1 12 (2 * n + 1)).toInt ≤ 5)) := fun a b hf hx => by
    rw [hf.1 12 (by decide)]
    exact hx
  rw [e1, e2, e3]
  refine zs_bd_ (zk_Qword zk_TX hQ (by decide)) (fun t1 h1 => ?_)
  refine zs_gd (zk_R h1) (zs_gd (by decide) (zs_bd_ (zk_Qnum zk_TX h1) (fun r2 h2 => zs_gd (zk_R h2.1) (zs_gd (sn_in_nI (by omega) (by decide)) ?_))))
  rw [nI_clamp (show 2 * n < 2 ^ 31 by omega), nI_clamp (show 2 * n + 1 < 2 ^ 31 by omega)]
  refine zs_lt (Q := zk_Q σ0 7 n (fun z => 0 ≤ (z.1 12 (2 * n)).toInt ∧ (z.1 12 (2 * n)).toInt ≤ 5)) (zk_Qw h2.1 (Or.inr (Or.inr (Or.inl rfl))) (zk_D12 (by omega) h2.1.2.1 (fun j hj => ⟨by omega, by omega⟩)) (fun hz _ => by rw [pI_self]; exact zk_bw5 (h2.2 hz) (by decide) (zk_hi5 h1.1))) (fun s3 h3 => ?_)
  refine zs_gd (zk_R h3) (zs_gd (zk_R h3) (zs_gd (by decide) (zs_bd_ (zk_Qnum hX1 h3) (fun r5 h5 => zs_gd (sn_in_nI (by omega) (by decide)) ?_))))
  refine zs_lt (Q := zk_Q σ0 7 n (fun z => (0 ≤ (z.1 12 (2 * n)).toInt ∧ (z.1 12 (2 * n)).toInt ≤ 5) ∧ (0 ≤ (z.1 12 (2 * n + 1)).toInt ∧ (z.1 12 (2 * n + 1)).toInt ≤ 5))) (zk_Qw h5.1 (Or.inr (Or.inr (Or.inl rfl))) (zk_D12 (by omega) h5.1.2.1 (fun j hj => ⟨by omega, by omega⟩)) (fun hz hx => ⟨by rw [pI_slot (by omega)]; exact hx, by rw [pI_self]; exact zk_bw5 (h5.2 hz) (by decide) (zk_hi5 h3.1)⟩)) (fun s6 h6 => ?_)
  refine zs_bd_ (zk_Qsign hX2 h6) (fun t7 h7 => zs_gd (zk_R h7) (zs_gd (by decide) ?_))
  refine zs_lt (Q := fun z => zk_I σ0 z) (zk_Iw h7.1 (Or.inl rfl) ?_ (fun hz d => ?_)) (fun s8 h8 => zs_some h8)
  · rw [nI_toInt (by omega), show zs_tC 9 (7 : Int32).toNatClampNeg = (0, 8) from rfl]
    exact ⟨by omega, by omega⟩
  · show zk_D (sn_pI t7 9 7 (nI (n + 1)))
    refine ⟨fun k hk => ?_, zs_Ru_c (pI_slot (by decide)) (fun j _ => by rw [pI_ne (by decide)]) d.2.1, fun j hj hl => ?_, fun j hj hl => ?_, zs_Ru_c (pI_slot (by decide)) (fun j _ => by rw [pI_ne (by decide)]) d.2.2.2.2⟩
    · by_cases e : k = 7
      · subst e
        rw [pI_self, nI_toInt (by omega), show zs_cnt 7 = (0, 8) from rfl]
        exact ⟨by omega, by omega⟩
      · rw [pI_slot e]
        exact d.1 k hk
    · have h1 := zk_ltn (n := n + 1) pI_self (by omega) hl
      rw [pI_ne (by decide)]
      by_cases e : j = n
      · subst e
        exact (h7.2.2 hz).1
      · exact d.2.2.1 j hj (by rw [show t7.1 (8 + 1) 7 = nI n from h7.2.1, nI_toInt (by omega)]; omega)
    · have h1 := zk_ltn (n := n + 1) pI_self (by omega) hl
      rw [pI_ne (by decide)]
      by_cases e : j = n
      · subst e
        exact (h7.2.2 hz).2
      · exact d.2.2.2.1 j hj (by rw [show t7.1 (8 + 1) 7 = nI n from h7.2.1, nI_toInt (by omega)]; omega)
theorem zk_readPolicy {n : Nat} (h : zk_I σ0 σ) (hn : σ.1 9 8 = nI n) (hb : n ≤ 6) : zs_ok (fX5_readPolicy σ (nI n)) (fun z => zk_I σ0 z) := by
  unfold fX5_readPolicy
  refine zs_ite (fun c => ?_) (fun _ => zs_bd_ (zk_Iblame h (by decide)) (fun t ht => zs_some ht))
  have c1 := zs_I_lt c
  rw [nI_toInt (by omega), show (6 : Int32).toInt = 6 by decide] at c1
  have hQ : zk_Q σ0 8 n (fun _ => True) σ := ⟨h, hn, fun _ => trivial⟩
  have hX : ∀ a b : sn_S, zk_fr a b → (0 ≤ (a.1 13 (5 * n + 0)).toInt ∧ (a.1 13 (5 * n + 0)).toInt ≤ 5) → (0 ≤ (b.1 13 (5 * n + 0)).toInt ∧ (b.1 13 (5 * n + 0)).toInt ≤ 5) := fun a b hf hx => by
    rw [hf.1 13 (by decide)]
    exact hx
  refine zs_lt (Q := fun y => y = nI (5 * n)) (zk_5n n) (fun y hy => ?_)
  subst hy
  rw [show nI (5 * n) + (0 : Int32) = nI (5 * n + 0) from nI_add _ 0, show nI (5 * n) + (1 : Int32) = nI (5 * n + 1) from nI_add _ 1, show nI (5 * n) + (2 : Int32) = nI (5 * n + 2) from nI_add _ 2, show nI (5 * n) + (3 : Int32) = nI (5 * n + 3) from nI_add _ 3, show nI (5 * n) + (4 : Int32) = nI (5 * n + 4) from nI_add _ 4, show nI n + (1 : Int32) = nI (n + 1) from nI_1 _]
  have wr : ∀ (i : Nat) (z : sn_S) (v : Int32), 1 ≤ i → i ≤ 4 → zk_Q σ0 8 n (fun z => 0 ≤ (z.1 13 (5 * n + 0)).toInt ∧ (z.1 13 (5 * n + 0)).toInt ≤ 5) z → zk_Q σ0 8 n (fun z => 0 ≤ (z.1 13 (5 * n + 0)).toInt ∧ (z.1 13 (5 * n + 0)).toInt ≤ 5) (sn_pI z 13 (nI (5 * n + i)).toNatClampNeg v) := by
    intro i z v i1 i4 hz
    rw [nI_clamp (by omega)]
    exact zk_Qw hz (Or.inr (Or.inr (Or.inr rfl))) (zk_D13 (by omega) hz.2.1 (fun j hj => by omega)) (fun _ hx => by rw [pI_slot (by omega)]; exact hx)
  refine zs_bd_ (zk_Qword zk_TX hQ (by decide)) (fun t1 h1 => ?_)
  refine zs_gd (zk_R h1) (zs_gd (zk_R h1) (zs_gd (by decide) (zs_bd_ (zk_Qnum zk_TX h1) (fun r2 h2 => zs_gd (sn_in_nI (by omega) (by decide)) ?_))))
  refine zs_lt (Q := zk_Q σ0 8 n (fun z => 0 ≤ (z.1 13 (5 * n + 0)).toInt ∧ (z.1 13 (5 * n + 0)).toInt ≤ 5)) ?_ (fun s3 h3 => ?_)
  · rw [nI_clamp (show 5 * n + 0 < 2 ^ 31 by omega)]
    exact zk_Qw h2.1 (Or.inr (Or.inr (Or.inr rfl))) (zk_D13 (by omega) h2.1.2.1 (fun j hj => by omega)) (fun hz _ => by rw [pI_self]; exact zk_bw5 (h2.2 hz) (by decide) (zk_hi5 h1.1))
  refine zs_bd_ (zk_Qword hX h3 (by decide)) (fun t4 h4 => ?_)
  refine zs_bd_ (zk_Qnum hX h4) (fun r5 h5 => zs_gd (zk_R h5.1) (zs_gd (sn_in_nI (by omega) (by decide)) ?_))
  refine zs_lt (wr 1 _ _ (by decide) (by decide) h5.1) (fun s6 h6 => ?_)
  refine zs_bd_ (zk_Qword hX h6 (by decide)) (fun t7 h7 => ?_)
  refine zs_gd (zk_R h7) (zs_bd_ (zk_Qnum hX h7) (fun r8 h8 => zs_gd (sn_in_nI (by omega) (by decide)) ?_))
  refine zs_lt (wr 2 _ _ (by decide) (by decide) h8.1) (fun s9 h9 => ?_)
  refine zs_bd_ (zk_Qword hX h9 (by decide)) (fun t10 h10 => ?_)
  refine zs_gd (zk_R h10) (zs_bd_ (zk_Qnum hX h10) (fun r11 h11 => zs_gd (sn_in_nI (by omega) (by decide)) ?_))
  refine zs_lt (wr 3 _ _ (by decide) (by decide) h11.1) (fun s12 h12 => ?_)
  refine zs_bd_ (zk_Qword hX h12 (by decide)) (fun t13 h13 => ?_)
  refine zs_gd (zk_R h13) (zs_bd_ (zk_Qnum hX h13) (fun r14 h14 => zs_gd (sn_in_nI (by omega) (by decide)) ?_))
  refine zs_lt (wr 4 _ _ (by decide) (by decide) h14.1) (fun s15 h15 => ?_)
  refine zs_bd_ (zk_Qsign hX h15) (fun t16 h16 => zs_gd (zk_R h16) (zs_gd (by decide) ?_))
  refine zs_lt (Q := fun z => zk_I σ0 z) (zk_Iw h16.1 (Or.inl rfl) ?_ (fun hz d => ?_)) (fun s17 h17 => zs_some h17)
  · rw [nI_toInt (by omega), show zs_tC 9 (8 : Int32).toNatClampNeg = (0, 6) from rfl]
    exact ⟨by omega, by omega⟩
  · show zk_D (sn_pI t16 9 8 (nI (n + 1)))
    refine ⟨fun k hk => ?_, zs_Ru_c (pI_slot (by decide)) (fun j _ => by rw [pI_ne (by decide)]) d.2.1, zs_Ru_c (pI_slot (by decide)) (fun j _ => by rw [pI_ne (by decide)]) d.2.2.1, zs_Ru_c (pI_slot (by decide)) (fun j _ => by rw [pI_ne (by decide)]) d.2.2.2.1, fun j hj hl => ?_⟩
    · by_cases e : k = 8
      · subst e
        rw [pI_self, nI_toInt (by omega), show zs_cnt 8 = (0, 6) from rfl]
        exact ⟨by omega, by omega⟩
      · rw [pI_slot e]
        exact d.1 k hk
    · have h1 := zk_ltn (n := n + 1) pI_self (by omega) hl
      rw [pI_ne (by decide)]
      by_cases e : j = n
      · subst e
        exact h16.2.2 hz
      · exact d.2.2.2.2 j hj (by rw [show t16.1 (8 + 1) 8 = nI n from h16.2.1, nI_toInt (by omega)]; omega)
theorem zk_cnt {k : Nat} {b : Int} (h : zk_I σ0 σ) (hk : zs_tC 9 k = (0, b)) (hb : b < 100) : ∃ n : Nat, (n : Int) ≤ b ∧ σ.1 9 k = nI n := by
  have h1 := h.1.1.1 9 k
  rw [hk] at h1
  obtain ⟨j, j1, j2⟩ := zs_val (x := σ.1 9 k) (a := 0) (b := b) h1 ⟨by decide, by omega⟩
  exact ⟨j, by omega, j2⟩
theorem zk_readLine (h : zk_I σ0 σ) : zs_ok (fX5_readLine σ) (fun z => zk_I σ0 z) := by
  obtain ⟨n5, b5, e5⟩ := zk_cnt (k := 5) h rfl (by decide)
  obtain ⟨n6, b6, e6⟩ := zk_cnt (k := 6) h rfl (by decide)
  obtain ⟨n7, b7, e7⟩ := zk_cnt (k := 7) h rfl (by decide)
  obtain ⟨n8, b8, e8⟩ := zk_cnt (k := 8) h rfl (by decide)
  have f5 : sn_I σ (8 + 1) (5 : Int32).toNatClampNeg = nI n5 := e5
  have f6 : sn_I σ (8 + 1) (6 : Int32).toNatClampNeg = nI n6 := e6
  have f7 : sn_I σ (8 + 1) (7 : Int32).toNatClampNeg = nI n7 := e7
  have f8 : sn_I σ (8 + 1) (8 : Int32).toNatClampNeg = nI n8 := e8
  unfold fX5_readLine
  rw [f5, f6, f7, f8]
  refine zs_bd_ (zk_isWord h.2.1 (by decide)) (fun _ _ => zs_ite (fun _ => ?_) (fun _ => zs_gd (zk_IR h) (zs_gd (by decide) (zs_bd_ (zk_readNose h e5 (by omega)) (fun _ ht => zs_some ht)))))
  refine zs_bd_ (zk_isWord h.2.1 (by decide)) (fun _ _ => zs_ite (fun _ => ?_) (fun _ => zs_gd (zk_IR h) (zs_gd (by decide) (zs_bd_ (zk_readGust h e6 (by omega)) (fun _ ht => zs_some ht)))))
  refine zs_bd_ (zk_isWord h.2.1 (by decide)) (fun _ _ => zs_ite (fun _ => ?_) (fun _ => zs_gd (zk_IR h) (zs_gd (by decide) (zs_bd_ (zk_readNet h e7 (by omega)) (fun _ ht => zs_some ht)))))
  refine zs_bd_ (zk_isWord h.2.1 (by decide)) (fun _ _ => zs_ite (fun _ => ?_) (fun _ => zs_gd (zk_IR h) (zs_gd (by decide) (zs_bd_ (zk_readPolicy h e8 (by omega)) (fun _ ht => zs_some ht)))))
  exact zs_bd_ (zk_Iblame h (by decide)) (fun _ ht => zs_some ht)
end
/-! a house copied -/
theorem zh_hcp (σ : sn_S) (a b : Nat) (hd : b + 6 < a ∨ a + 6 < b) : ∃ z, fX2_copyFrom σ a b = some z ∧ zh_mix σ a b 6 z ∧ (∀ k, z.1 (a + 1) k = if k < 11 then σ.1 (b + 1) k else σ.1 (a + 1) k) ∧ (∀ k, k < 10 → z.1 (a + 3) k = σ.1 (b + 3) k) ∧ (∀ k, k < 16 → z.1 (a + 4) k = σ.1 (b + 4) k) ∧ ∀ k, k < 30 → z.1 (a + 5) k = σ.1 (b + 5) k := by
  have key : zs_ok (fX2_copyFrom σ a b) (fun z => zh_mix σ a b 6 z ∧ (∀ k, z.1 (a + 1) k = if k < 11 then σ.1 (b + 1) k else σ.1 (a + 1) k) ∧ (∀ k, k < 10 → z.1 (a + 3) k = σ.1 (b + 3) k) ∧ (∀ k, k < 16 → z.1 (a + 4) k = σ.1 (b + 4) k) ∧ ∀ k, k < 30 → z.1 (a + 5) k = σ.1 (b + 5) k) := by
    unfold fX2_copyFrom
    refine zs_gd (by decide) (zs_lt (Q := fun z => zh_mix σ a b 6 z ∧ (∀ k, z.1 (a + 1) k = if k < 11 then σ.1 (b + 1) k else σ.1 (a + 1) k)) ⟨zh_mixc (i := 1) (L := 11) hd (by decide) (by decide) zh_mix0, fun k => zh_cp_eq (by decide)⟩ (fun z1 m1 => ?_))
    refine zs_gd (by decide) (zs_lt (Q := fun z => zh_mix σ a b 6 z ∧ (∀ k, z.1 (a + 1) k = if k < 11 then σ.1 (b + 1) k else σ.1 (a + 1) k)) ⟨zh_mixc (i := 2) (L := 12) hd (by decide) (by decide) m1.1, fun k => ?_⟩ (fun z2 m2 => ?_))
    · show (zh_cp z1 (a + 2) (b + 2) 12).1 (a + 1) k = _
      rw [zh_cp_ne (by omega)]
      exact m1.2 k
    refine zs_gd (by decide) (zs_lt (Q := fun z => zh_mix σ a b 6 z ∧ (∀ k, z.1 (a + 1) k = if k < 11 then σ.1 (b + 1) k else σ.1 (a + 1) k) ∧ (∀ k, k < 10 → z.1 (a + 3) k = σ.1 (b + 3) k)) ⟨zh_mixc (i := 3) (L := 10) hd (by decide) (by decide) m2.1, fun k => ?_, fun k hk => ?_⟩ (fun z3 m3 => ?_))
    · show (zh_cp z2 (a + 3) (b + 3) 10).1 (a + 1) k = _
      rw [zh_cp_ne (by omega)]
      exact m2.2 k
    · show (zh_cp z2 (a + 3) (b + 3) 10).1 (a + 3) k = _
      rw [zh_cp_eq (by decide), if_pos hk, m2.1.2.1 (b + 3) (by omega)]
    refine zs_gd (by decide) (zs_lt (Q := fun z => zh_mix σ a b 6 z ∧ (∀ k, z.1 (a + 1) k = if k < 11 then σ.1 (b + 1) k else σ.1 (a + 1) k) ∧ (∀ k, k < 10 → z.1 (a + 3) k = σ.1 (b + 3) k) ∧ (∀ k, k < 16 → z.1 (a + 4) k = σ.1 (b + 4) k)) ⟨zh_mixc (i := 4) (L := 16) hd (by decide) (by decide) m3.1, fun k => ?_, fun k hk => ?_, fun k hk => ?_⟩ (fun z4 m4 => ?_))
    · show (zh_cp z3 (a + 4) (b + 4) 16).1 (a + 1) k = _
      rw [zh_cp_ne (by omega)]
      exact m3.2.1 k
    · show (zh_cp z3 (a + 4) (b + 4) 16).1 (a + 3) k = _
      rw [zh_cp_ne (by omega)]
      exact m3.2.2 k hk
    · show (zh_cp z3 (a + 4) (b + 4) 16).1 (a + 4) k = _
      rw [zh_cp_eq (by decide), if_pos hk, m3.1.2.1 (b + 4) (by omega)]
    refine zs_gd (by decide) (zs_lt (Q := fun z => zh_mix σ a b 6 z ∧ (∀ k, z.1 (a + 1) k = if k < 11 then σ.1 (b + 1) k else σ.1 (a + 1) k) ∧ (∀ k, k < 10 → z.1 (a + 3) k = σ.1 (b + 3) k) ∧ (∀ k, k < 16 → z.1 (a + 4) k = σ.1 (b + 4) k) ∧ ∀ k, k < 30 → z.1 (a + 5) k = σ.1 (b + 5) k) ⟨zh_mixc (i := 5) (L := 30) hd (by decide) (by decide) m4.1, fun k => ?_, fun k hk => ?_, fun k hk => ?_, fun k hk => ?_⟩ (fun z5 m5 => ?_))
    · show (zh_cp z4 (a + 5) (b + 5) 30).1 (a + 1) k = _
      rw [zh_cp_ne (by omega)]
      exact m4.2.1 k
    · show (zh_cp z4 (a + 5) (b + 5) 30).1 (a + 3) k = _
      rw [zh_cp_ne (by omega)]
      exact m4.2.2.1 k hk
    · show (zh_cp z4 (a + 5) (b + 5) 30).1 (a + 4) k = _
      rw [zh_cp_ne (by omega)]
      exact m4.2.2.2 k hk
    · show (zh_cp z4 (a + 5) (b + 5) 30).1 (a + 5) k = _
      rw [zh_cp_eq (by decide), if_pos hk, m4.1.2.1 (b + 5) (by omega)]
    refine zs_gd (by decide) (zs_lt (Q := fun z => zh_mix σ a b 6 z ∧ (∀ k, z.1 (a + 1) k = if k < 11 then σ.1 (b + 1) k else σ.1 (a + 1) k) ∧ (∀ k, k < 10 → z.1 (a + 3) k = σ.1 (b + 3) k) ∧ (∀ k, k < 16 → z.1 (a + 4) k = σ.1 (b + 4) k) ∧ ∀ k, k < 30 → z.1 (a + 5) k = σ.1 (b + 5) k) ⟨zh_mixc (i := 6) (L := 120) hd (by decide) (by decide) m5.1, fun k => ?_, fun k hk => ?_, fun k hk => ?_, fun k hk => ?_⟩ (fun z6 m6 => zs_some m6))
    · show (zh_cp z5 (a + 6) (b + 6) 120).1 (a + 1) k = _
      rw [zh_cp_ne (by omega)]
      exact m5.2.1 k
    · show (zh_cp z5 (a + 6) (b + 6) 120).1 (a + 3) k = _
      rw [zh_cp_ne (by omega)]
      exact m5.2.2.1 k hk
    · show (zh_cp z5 (a + 6) (b + 6) 120).1 (a + 4) k = _
      rw [zh_cp_ne (by omega)]
      exact m5.2.2.2.1 k hk
    · show (zh_cp z5 (a + 6) (b + 6) 120).1 (a + 5) k = _
      rw [zh_cp_ne (by omega)]
      exact m5.2.2.2.2 k hk
  obtain ⟨z, e, h⟩ := key
  exact ⟨z, e, h⟩
theorem zh_tab {a : Nat} (ha : a = 1 ∨ a = 73 ∨ a = 80 ∨ a = 87) (k : Nat) : zs_tC a k = (-2147483648, 2147483647) ∧ zs_tC (a + 1) k = zs_cnt k ∧ zs_tC (a + 2) k = (-2147483648, 2147483647) ∧ zs_tC (a + 3) k = (-2147483648, 2147483647) ∧ zs_tC (a + 4) k = (-2147483648, 2147483647) ∧ zs_tC (a + 5) k = (-2147483648, 2147483647) ∧ zs_tC (a + 6) k = (0, 29) := by
  rcases ha with e | e | e | e <;> subst e <;> exact ⟨rfl, rfl, rfl, rfl, rfl, rfl, rfl⟩
theorem zh_hSB {σ z : sn_S} {a b : Nat} (ha : a = 1 ∨ a = 73 ∨ a = 80 ∨ a = 87) (h : zs_SB zs_tC σ) (hb1 : ∀ k, k < 11 → (zs_cnt k).1 ≤ (σ.1 (b + 1) k).toInt ∧ (σ.1 (b + 1) k).toInt ≤ (zs_cnt k).2) (hb6 : ∀ k, 0 ≤ (σ.1 (b + 6) k).toInt ∧ (σ.1 (b + 6) k).toInt ≤ 29) (hH : zs_H b σ)
    (hm : zh_mix σ a b 6 z) (c1 : ∀ k, z.1 (a + 1) k = if k < 11 then σ.1 (b + 1) k else σ.1 (a + 1) k) (c3 : ∀ k, k < 10 → z.1 (a + 3) k = σ.1 (b + 3) k) (c4 : ∀ k, k < 16 → z.1 (a + 4) k = σ.1 (b + 4) k) (c5 : ∀ k, k < 30 → z.1 (a + 5) k = σ.1 (b + 5) k) : zs_SB zs_tC z := by
  have o : ∀ q k, q < a ∨ a + 6 < q → z.1 q k = σ.1 q k := fun q k hq => by rw [hm.2.1 q hq]
  obtain ⟨⟨r1, r2, r3, r4⟩, d1, d2, d3⟩ := h.2 rfl
  have hHz : zs_H a z := ⟨zh_Ru_mv (by rw [c1, if_pos (by decide)]) (fun j hj => c3 _ (by omega)) hH.1, zh_Ru_mv (by rw [c1, if_pos (by decide)]) (fun j hj => c4 _ (by omega)) hH.2.1, zh_Ru_mv (by rw [c1, if_pos (by decide)]) (fun j hj => c4 _ (by omega)) hH.2.2.1, zh_Ru_mv (by rw [c1, if_pos (by decide)]) (fun j hj => c5 _ (by omega)) hH.2.2.2⟩
  have other : ∀ {g : Nat}, (g + 6 < a ∨ a + 6 < g) → zs_H g σ → zs_H g z := fun hg hh => zs_H_c (o _ _ (by omega)) (o _ _ (by omega)) (o _ _ (by omega)) (fun k => o _ _ (by omega)) (fun k => o _ _ (by omega)) (fun j => o _ _ (by omega)) hh
  have day : ∀ {g : Nat}, (g + 6 < a ∨ a + 6 < g) → zs_D g σ → zs_D g z := fun hg hh => zs_D_c (o _ _ (by omega)) (fun k => o _ _ (by omega)) hh
  refine ⟨fun q k => ?_, fun _ => ⟨?_, day (by omega) d1, day (by omega) d2, day (by omega) d3⟩⟩
  · by_cases hq : q < a ∨ a + 6 < q
    · rw [o q k hq]
      exact h.1 q k
    · obtain ⟨t0, t1, t2, t3, t4, t5, t6⟩ := zh_tab ha k
      have e : q = a ∨ q = a + 1 ∨ q = a + 2 ∨ q = a + 3 ∨ q = a + 4 ∨ q = a + 5 ∨ q = a + 6 := by omega
      rcases e with e | e | e | e | e | e | e <;> subst e
      · rw [t0]; exact zs_topI _
      · rw [t1, c1]
        by_cases hk : k < 11
        · rw [if_pos hk]
          exact hb1 k hk
        · rw [if_neg hk]
          have := h.1 (a + 1) k
          rw [t1] at this
          exact this
      · rw [t2]; exact zs_topI _
      · rw [t3]; exact zs_topI _
      · rw [t4]; exact zs_topI _
      · rw [t5]; exact zs_topI _
      · rw [t6]
        rcases hm.2.2 6 (by decide) k with g | g
        · rw [g]
          have := h.1 (a + 6) k
          rw [t6] at this
          exact this
        · rw [g]
          exact hb6 k
  · rcases ha with e | e | e | e <;> subst e
    · exact ⟨hHz, other (by decide) r2, other (by decide) r3, other (by decide) r4⟩
    · exact ⟨other (by decide) r1, hHz, other (by decide) r3, other (by decide) r4⟩
    · exact ⟨other (by decide) r1, other (by decide) r2, hHz, other (by decide) r4⟩
    · exact ⟨other (by decide) r1, other (by decide) r2, other (by decide) r3, hHz⟩
theorem zs_k0 {q k : Nat} (h : zs_kC0 q k = true) : q = 16 ∨ q = 17 ∨ q = 18 ∨ q = 25 ∨ q = 26 := by
  by_cases hn : q = 16 ∨ q = 17 ∨ q = 18 ∨ q = 25 ∨ q = 26
  · exact hn
  · exfalso
    have e : ∀ j, q ≠ j → Nat.beq q j = false := fun j hj => by
      cases e : Nat.beq q j with
      | false => rfl
      | true => exact absurd (Nat.eq_of_beq_eq_true e) hj
    unfold zs_kC0 at h
    rw [e 16 (by omega), e 17 (by omega), e 18 (by omega), e 25 (by omega), e 26 (by omega)] at h
    cases h
theorem zs_k0C {q k : Nat} (h : zs_kC0 q k = true) : zs_kA q k = true ∧ zs_kC q k = true := by
  rcases zs_k0 h with e | e | e | e | e <;> subst e <;> exact ⟨h, h⟩
theorem zs_c0 {σ0 σ : sn_S} (h : zs_C σ0 σ) : zs_C0 σ0 σ := ⟨h.1, fun q k hk => h.2.1 q k (zs_k0C hk).2, h.2.2⟩
theorem zs_a0 {σ0 σ : sn_S} (h : zs_A σ0 σ) : zs_C0 σ0 σ := ⟨h.1, fun q k hk => h.2.1 q k (zs_k0C hk).1, h.2.2⟩
theorem zs_k0M {q k : Nat} (h : zs_kM0 q k = true) : zs_kM q k = true := by
  unfold zs_kM
  cases (Nat.beq q 1 || Nat.beq q 2)
  · exact h
  · rfl
theorem zs_m0 {σ0 σ : sn_S} (h : zs_M σ0 σ) : zs_M0 σ0 σ := ⟨h.1, fun q k hk => h.2.1 q k (zs_k0M hk), h.2.2⟩
theorem zs_c0t {a b c : sn_S} (h : zs_C0 a b) (g : zs_C b c) : zs_C0 a c := ⟨g.1, fun q k hk => ((zs_c0 g).2.1 q k hk).trans (h.2.1 q k hk), fun q hq => (g.2.2 q hq).trans (h.2.2 q hq)⟩
/-- a kept house is laid over another -/
theorem zh_hC {σ : sn_S} (h : zs_SB zs_tC σ) {a b : Nat} (ha : a = 1 ∨ a = 73 ∨ a = 80 ∨ a = 87) (hb : b = 1 ∨ b = 73 ∨ b = 80 ∨ b = 87) (hab : a ≠ b) : ∃ z, zs_C0 σ z ∧ fX2_copyFrom σ a b = some z := by
  obtain ⟨z, e, hm, c1, c3, c4, c5⟩ := zh_hcp σ a b (by omega)
  obtain ⟨⟨r1, r2, r3, r4⟩, d1, d2, d3⟩ := h.2 rfl
  have hH : zs_H b σ := by
    rcases hb with e | e | e | e <;> subst e
    · exact r1
    · exact r2
    · exact r3
    · exact r4
  refine ⟨z, ⟨zh_hSB ha h (fun k _ => ?_) (fun k => ?_) hH hm c1 c3 c4 c5, fun q k hk => ?_, fun q _ => ?_⟩, e⟩
  · have := h.1 (b + 1) k
    rw [(zh_tab hb k).2.1] at this
    exact this
  · have := h.1 (b + 6) k
    rw [(zh_tab hb k).2.2.2.2.2.2] at this
    exact this
  · have := zs_k0 hk
    rw [hm.2.1 q (by omega)]
  · rw [hm.1]
/-! the program reads a house -/
theorem fillI (σ : sn_S) (q n : Nat) (v : Int32) (hn : n < 5000) : fJ7_fill_53178 σ q n v = some ((fun a b => if a = q ∧ b < n then v else σ.1 a b), σ.2) := by
  unfold fJ7_fill_53178
  show ((sn_it (LJ7_fill_53178_5 q n v (Int32.ofNat n)) 5000 (σ, (0 : Int32))).bind _) = _
  obtain ⟨t, e1, e2⟩ := sn_for (f := LJ7_fill_53178_5 q n v (Int32.ofNat n)) n (fun k s => s = (((fun a b => if a = q ∧ b < k then v else σ.1 a b), σ.2), nI k)) (fun t => t = ((fun a b => if a = q ∧ b < n then v else σ.1 a b), σ.2))
    (fun k s hk hs => by
      subst hs
      refine ⟨_, ?_, rfl⟩
      unfold LJ7_fill_53178_5 BJ7_fill_53178_5
      rw [if_neg (show ¬ Int32.ofNat n ≤ nI k from nI_ge hk (by omega))]
      show sn_gd (sn_in (nI k) n) (some (Sum.inl (sn_pI _ q (nI k).toNatClampNeg v, nI k + 1))) = _
      rw [sn_in_nI hk (by omega), gd_T, nI_clamp (by omega), nI_1]
      refine congrArg (fun z => some (Sum.inl ((z, σ.2), nI (k + 1)))) ?_
      funext a b
      show (if a = q ∧ b = k then v else if a = q ∧ b < k then v else σ.1 a b) = _
      by_cases ha : a = q
      · by_cases hb : b = k
        · rw [if_pos ⟨ha, hb⟩, if_pos ⟨ha, by omega⟩]
        · rw [if_neg (fun h => hb h.2)]
          by_cases hb2 : b < k
          · rw [if_pos ⟨ha, hb2⟩, if_pos ⟨ha, by omega⟩]
          · rw [if_neg (fun h => hb2 h.2), if_neg (fun h => hb2 (by have := h.2; omega))]
      · rw [if_neg (fun h => ha h.1), if_neg (fun h => ha h.1), if_neg (fun h => ha h.1)])
    (fun s hs => by
      subst hs
      refine ⟨_, ?_, rfl⟩
      unfold LJ7_fill_53178_5 BJ7_fill_53178_5
      rw [if_pos (show Int32.ofNat n ≤ nI n from Int32.le_refl _)])
    hn (s := (σ, (0 : Int32))) (by
      show (σ, (0 : Int32)) = _
      rw [nI_0]
      simp)
  rw [e1, e2]
  rfl
theorem zk_read {σ : sn_S} (h : zs_SB zs_tC σ) : zs_ok (fX5_read σ 8) (fun z => zk_I σ z) := by
  unfold fX5_read
  refine zs_lt (Q := fun z => zs_G zs_tC zk_k zs_lC σ z ∧ sn_R z 17 7 = some 8) ⟨zs_wrR (zs_rf h), by
    show (if 17 = 17 ∧ 7 = 7 then some 8 else σ.2.2 17 7) = some 8
    rw [if_pos ⟨rfl, rfl⟩]⟩ (fun s1 g1 => ?_)
  refine zs_gd (by rw [g1.2]; rfl) ?_
  refine zs_bd_ (Q := fun z => zs_G zs_tC zk_k zs_lC σ z ∧ sn_R z 17 7 = some 8 ∧ ∀ k, k < 11 → z.1 9 k = 0) ?_ (fun s2 g2 => ?_)
  · unfold fX2_clear
    rw [fillI s1 (8 + 1) 11 0 (by decide)]
    show zs_ok (some ((fun a b => if a = 8 + 1 ∧ b < 11 then (0 : Int32) else s1.1 a b), s1.2)) _
    have o : ∀ q k, q ≠ 9 → ((fun a b => if a = 8 + 1 ∧ b < 11 then (0 : Int32) else s1.1 a b) : Nat → Nat → Int32) q k = s1.1 q k := fun q k hq => if_neg (fun e => hq e.1)
    refine zs_some ⟨⟨⟨fun q k => ?_, fun hC => zs_RC_c (fun q k hk => o q k (fun e => by subst e; cases hk)) (g1.1.1.2 hC)⟩, fun q k hk => ?_, g1.1.2.2⟩, g1.2, fun k hk => if_pos ⟨rfl, hk⟩⟩
    · show (zs_tC q k).1 ≤ (if q = 8 + 1 ∧ k < 11 then (0 : Int32) else s1.1 q k).toInt ∧ (if q = 8 + 1 ∧ k < 11 then (0 : Int32) else s1.1 q k).toInt ≤ (zs_tC q k).2
      by_cases e : q = 8 + 1 ∧ k < 11
      · rw [if_pos e, e.1]
        have : ∀ k, k < 11 → (zs_tC (8 + 1) k).1 ≤ (0 : Int32).toInt ∧ (0 : Int32).toInt ≤ (zs_tC (8 + 1) k).2 := by decide +kernel
        exact this k e.2
      · rw [if_neg e]
        exact g1.1.1.1 q k
    · show (if q = 8 + 1 ∧ k < 11 then (0 : Int32) else s1.1 q k) = _
      rw [if_neg (fun e => by rw [e.1] at hk; cases hk)]
      exact g1.1.2.1 q k hk
  refine zs_lt (Q := fun z => zs_G zs_tC zk_k zs_lC σ z ∧ sn_R z 17 7 = some 8 ∧ ∀ k, k < 11 → z.1 9 k = 0) ⟨zs_wrkt g2.1 rfl rfl, g2.2.1, g2.2.2⟩ (fun s3 g3 => ?_)
  refine zs_lt (Q := fun z => zs_G zs_tC zk_k zs_lC σ z ∧ sn_R z 17 7 = some 8 ∧ ∀ k, k < 11 → z.1 9 k = 0) ⟨zs_wrkt g3.1 rfl rfl, g3.2.1, g3.2.2⟩ (fun s4 g4 => ?_)
  refine zs_lt (Q := fun z => zs_G zs_tC zk_k zs_lC σ z ∧ sn_R z 17 7 = some 8 ∧ (∀ k, k < 11 → z.1 9 k = 0) ∧ z.1 17 5 = 0) ⟨zs_wrkt g4.1 rfl rfl, g4.2.1, g4.2.2, rfl⟩ (fun s5 g5 => ?_)
  have l1 := g5.1.1.1 17 1
  rw [show zs_tC 17 1 = (0, 900) from rfl] at l1
  have z0 : (s5.1 17 5).toInt = 0 := by rw [g5.2.2.2]; decide
  have hD : s5.1 17 2 = 0 → zk_D s5 := fun _ => by
    have e0 : (0 : Int32).toInt = 0 := by decide
    have v : ∀ k, k < 11 → (s5.1 9 k).toInt = 0 := fun k hk => by rw [g5.2.2.1 k hk]; exact e0
    have c : ∀ k, k < 11 → (zs_cnt k).1 ≤ 0 ∧ 0 ≤ (zs_cnt k).2 := by decide +kernel
    exact ⟨fun k hk => by rw [v k hk]; exact c k hk, fun j _ hj => by have hj : (j : Int) < (s5.1 9 6).toInt := hj; have := v 6 (by decide); omega, fun j _ hj => by have hj : (j : Int) < (s5.1 9 7).toInt := hj; have := v 7 (by decide); omega, fun j _ hj => by have hj : (j : Int) < (s5.1 9 7).toInt := hj; have := v 7 (by decide); omega, fun j _ hj => by have hj : (j : Int) < (s5.1 9 8).toInt := hj; have := v 8 (by decide); omega⟩
  refine zs_bd_ (zk_step (σ := s5) (by omega) (by have := l1.1; omega) l1.2) (fun s6 g6 => ?_)
  have hI : zk_I σ s6 := zk_If0 g5.1 g5.2.1 hD g6.1 g6.2.2 (fun z => g6.2.1.symm.trans z)
  refine zs_bd_ (zs_it (E := fun z => zk_I σ z) (I := fun s : sn_S × Int32 => zk_I σ s.1 ∧ zs_in s.2.toInt 0 900) (m := fun s => 900 - s.2.toInt) (fun s hs => ⟨by have := hs.2; omega, by have := hs.2; omega⟩) (fun s hs => ?_) ⟨hI, (show zs_in (0 : Int32).toInt 0 900 by decide)⟩) (fun s7 g7 => ?_)
  · obtain ⟨w, x⟩ := s
    have hw : zk_I σ w := hs.1
    have hx : zs_in x.toInt 0 900 := hs.2
    have b69 : ∀ u, zk_I σ u → ¬ (900 : Int32) ≤ x → zs_ok (BX5_read_69 u 8 x) (zs_sum (fun s' : sn_S × Int32 => (zk_I σ s'.1 ∧ zs_in s'.2.toInt 0 900) ∧ 900 - s'.2.toInt < 900 - x.toInt) (fun z => zk_I σ z)) := by
      intro u hu c
      have c1 : x.toInt < 900 := zs_I_len c
      have e1 := zk_inc (x := x) hx.1 (by omega)
      unfold BX5_read_69
      refine zs_gd (zk_IR hu) (zs_gd (by decide) ?_)
      refine zs_lt (Q := fun z => zk_I σ z) (zk_I9 hu rfl (by decide) (fun _ => by rw [show zs_cnt (10 : Int32).toNatClampNeg = (0, 900) from rfl]; exact ⟨by have := hx.1; show 0 ≤ (x + (1 : Int32)).toInt; omega, by show (x + (1 : Int32)).toInt ≤ 900; omega⟩)) (fun v hv => ?_)
      refine zs_lt (Q := fun y => y = x + 1) rfl (fun y hy => ?_)
      subst hy
      exact zs_some (zs_inl ⟨⟨hv, by show zs_in (x + 1).toInt 0 900; exact ⟨by have := hx.1; omega, by omega⟩⟩, by show 900 - (x + 1).toInt < 900 - x.toInt; omega⟩)
    unfold LX5_read_33 BX5_read_33
    refine zs_ite (fun _ => zs_some (zs_inr hw)) (fun c => zs_ite (fun _ => ?_) (fun _ => zs_some (zs_inr hw)))
    refine zs_ite (fun _ => zs_some (zs_inr hw)) (fun _ => zs_ite (fun _ => ?_) (fun _ => ?_))
    · exact zs_bd_ (zk_readHouse hw) (fun u hu => b69 u hu c)
    · exact zs_bd_ (zk_readLine hw) (fun u hu => b69 u hu c)
  · unfold BX5_read_88
    exact zs_some g7
end
section
/-! calls whose step is by hand -/
theorem zh_kMN (q k : Nat) (h : zs_kM q k = true) : zs_kN q k = true := by
  have e : ∀ a b : Nat, a ≠ b → Nat.beq a b = false := fun a b hj => by
    cases e : Nat.beq a b with
    | false => rfl
    | true => exact absurd (Nat.eq_of_beq_eq_true e) hj
  have hq : q = 0 ∨ q = 1 ∨ q = 2 ∨ q = 3 ∨ q = 4 ∨ q = 21 ∨ q = 22 := by
    by_cases hn : q = 0 ∨ q = 1 ∨ q = 2 ∨ q = 3 ∨ q = 4 ∨ q = 21 ∨ q = 22
    · exact hn
    · exfalso
      unfold zs_kM zs_kM0 at h
      rw [e q 0 (by omega), e q 1 (by omega), e q 2 (by omega), e q 3 (by omega), e q 4 (by omega), e q 21 (by omega), e q 22 (by omega)] at h
      cases h
  rcases hq with x | x | x | x | x | x | x <;> subst x
  · have hk : k = 5 ∨ k = 12 ∨ k = 13 := by
      by_cases hn : k = 5 ∨ k = 12 ∨ k = 13
      · exact hn
      · exfalso
        have : zs_kM 0 k = (Nat.beq k 5 || Nat.beq k 12 || Nat.beq k 13) := rfl
        rw [this, e k 5 (by omega), e k 12 (by omega), e k 13 (by omega)] at h
        cases h
    rcases hk with y | y | y <;> subst y <;> rfl
  · rfl
  · rfl
  · rfl
  · rfl
  · rfl
  · rfl
theorem zh_MN {σ0 σ τ : sn_S} (h : zs_M σ0 σ) (h2 : zs_N σ τ) : zs_M σ0 τ := ⟨h2.1, fun q k hk => (h2.2.1 q k (zh_kMN q k hk)).trans (h.2.1 q k hk), fun q hq => (h2.2.2 q rfl).trans (h.2.2 q hq)⟩
/-! reserve -/
theorem zh_resL {σ0 σ : sn_S} (h : zs_M σ0 σ) (h21 : zs_in (sn_I σ 0 21).toInt 0 1000) : zs_ok (sn_it LX9_reserve_15 5000 σ) (fun t => zs_M σ0 t) := by
  refine zs_it (I := fun s => zs_M σ0 s ∧ zs_in (sn_I s 0 21).toInt 0 1000) (m := fun s => 1000 - (sn_I s 0 21).toInt) (fun s hs => ⟨by have := hs.2; omega, by have := hs.2; omega⟩) (fun s hs => ?_) ⟨h, h21⟩
  unfold LX9_reserve_15 BX9_reserve_15
  refine zs_ite (fun _ => zs_some (zs_inr hs.1)) (fun c => ?_)
  have c1 := zs_I_len c
  have h2 : zs_in (sn_I s 0 21).toInt 0 999 := zs_ltl 0 999 c1 hs.2 (show zs_in (1000 : Int32).toInt 1000 1000 by decide) (by decide)
  refine zs_bd_ (zb_41 (zs_rf hs.1.1)) (fun t ht => ?_)
  have hM : zs_M σ0 t.2 := zh_MN hs.1 ht.2
  refine zs_ite (fun _ => zs_some (zs_inr hM)) (fun _ => ?_)
  have e21 : sn_I t.2 0 21 = sn_I s 0 21 := ht.2.2.1 0 21 rfl
  have h3 : zs_in (sn_I t.2 0 21).toInt 0 999 := by rw [e21]; exact h2
  have h4 : (sn_I t.2 0 21 + (1 : Int32)).toInt = (sn_I s 0 21).toInt + 1 := by
    rw [Int32.toInt_add, e21, show (1 : Int32).toInt = 1 by decide, zs_bm ⟨by omega, by omega⟩]
  refine zs_lt (Q := fun z => zs_M σ0 z ∧ (sn_I z 0 21).toInt = (sn_I s 0 21).toInt + 1) ⟨zs_wrk (z := (0, 1000)) hM rfl (zs_addI 1 1000 h3 (show zs_in (1 : Int32).toInt 1 1 by decide) (by decide)) (by decide) rfl, ?_⟩ (fun z hz => ?_)
  · show (if 0 = 0 ∧ 21 = 21 then sn_I t.2 0 21 + (1 : Int32) else sn_I t.2 0 21).toInt = _
    rw [if_pos ⟨rfl, rfl⟩]
    exact h4
  · exact zs_some (zs_inl ⟨⟨hz.1, ⟨by have := hz.2; omega, by have := hz.2; omega⟩⟩, by show 1000 - (sn_I z 0 21).toInt < 1000 - (sn_I s 0 21).toInt; have := hz.2; omega⟩)
theorem zh_reserve {σ0 σ : sn_S} (h : zs_M σ0 σ) : zs_ok (fX9_reserve σ) (fun r => zs_M σ0 r.2) := by
  unfold fX9_reserve
  refine zs_bd_ (zc_92 h) (fun t ht => ?_)
  refine zs_ite (fun _ => zs_some ht.2) (fun _ => ?_)
  refine zs_lt (Q := fun z => zs_M σ0 z ∧ sn_I z 0 21 = 0) ⟨zs_wrk (z := (0, 1000)) ht.2 rfl (show zs_in (0 : Int32).toInt 0 0 by decide) (by decide) rfl, ?_⟩ (fun z hz => ?_)
  · show (if 0 = 0 ∧ 21 = 21 then (0 : Int32) else sn_I t.2 0 21) = 0
    rw [if_pos ⟨rfl, rfl⟩]
  · refine zs_bd_ (zh_resL hz.1 (by rw [hz.2]; decide)) (fun u hu => ?_)
    unfold BX9_reserve_46
    exact zs_ite (fun _ => zs_some hu) (fun _ => zs_some hu)
/-! images -/
theorem zh_imgL {σ0 σ : sn_S} (h : zs_M0 σ0 σ) {x1 : Int32} (hx : zs_in x1.toInt 0 2) : zs_ok (sn_it (LX9_image_17 x1) 5000 (σ, (0 : Int32))) (fun t => zs_M0 σ0 t) := by
  refine zs_it (I := fun s => zs_M0 σ0 s.1 ∧ zs_in s.2.toInt 0 119) (m := fun s => 119 - s.2.toInt) (fun s hs => ⟨by have := hs.2; omega, by have := hs.2; omega⟩) (fun s hs => ?_) ⟨h, (show zs_in (0 : Int32).toInt 0 119 by decide)⟩
  unfold LX9_image_17 BX9_image_17
  refine zs_ite (fun _ => zs_some (zs_inr hs.1)) (fun c => ?_)
  have c1 := zs_I_len c
  have h2 : zs_in s.2.toInt 0 118 := zs_ltl 0 118 c1 hs.2 (show zs_in (119 : Int32).toInt 119 119 by decide) (by decide)
  refine zs_gd (zs_gin h2 (by decide)) (zs_gd (zs_gin (zs_addI 0 356 (zs_mulI 0 238 (show zs_in (119 : Int32).toInt 119 119 by decide) hx (by decide)) h2 (by decide)) (by decide)) ?_)
  refine zs_lt (Q := fun z => zs_M0 σ0 z) (zs_wrim2 hs.1 hx h2) (fun y hy => ?_)
  refine zs_lt (Q := fun z => zs_in z.toInt 1 119 ∧ z.toInt = s.2.toInt + 1) ⟨zs_addI 1 119 h2 (show zs_in (1 : Int32).toInt 1 1 by decide) (by decide), zs_syI 1 (show s.2.toInt = s.2.toInt + 0 by omega) h2 (show zs_in (1 : Int32).toInt 1 1 by decide) (by decide) (by decide)⟩ (fun z hz => ?_)
  exact zs_some (zs_inl ⟨⟨hy, zs_w hz.1 (by decide)⟩, by show 119 - z.toInt < 119 - s.2.toInt; have := hz.2; omega⟩)
theorem zh_backL {σ0 σ : sn_S} (h : zs_M0 σ0 σ) {x1 : Int32} (hx : zs_in x1.toInt 0 2) : zs_ok (sn_it (LX9_back_29 x1) 5000 (σ, (0 : Int32))) (fun t => zs_M0 σ0 t) := by
  refine zs_it (I := fun s => zs_M0 σ0 s.1 ∧ zs_in s.2.toInt 0 119) (m := fun s => 119 - s.2.toInt) (fun s hs => ⟨by have := hs.2; omega, by have := hs.2; omega⟩) (fun s hs => ?_) ⟨h, (show zs_in (0 : Int32).toInt 0 119 by decide)⟩
  unfold LX9_back_29 BX9_back_29
  refine zs_ite (fun _ => zs_some (zs_inr hs.1)) (fun c => ?_)
  have c1 := zs_I_len c
  have h2 : zs_in s.2.toInt 0 118 := zs_ltl 0 118 c1 hs.2 (show zs_in (119 : Int32).toInt 119 119 by decide) (by decide)
  refine zs_gd (zs_gin (zs_addI 0 356 (zs_mulI 0 238 (show zs_in (119 : Int32).toInt 119 119 by decide) hx (by decide)) h2 (by decide)) (by decide)) (zs_gd (zs_gin h2 (by decide)) ?_)
  refine zs_lt (Q := fun z => zs_M0 σ0 z) (zs_wrim1 hs.1 hx h2) (fun y hy => ?_)
  refine zs_lt (Q := fun z => zs_in z.toInt 1 119 ∧ z.toInt = s.2.toInt + 1) ⟨zs_addI 1 119 h2 (show zs_in (1 : Int32).toInt 1 1 by decide) (by decide), zs_syI 1 (show s.2.toInt = s.2.toInt + 0 by omega) h2 (show zs_in (1 : Int32).toInt 1 1 by decide) (by decide) (by decide)⟩ (fun z hz => ?_)
  exact zs_some (zs_inl ⟨⟨hy, zs_w hz.1 (by decide)⟩, by show 119 - z.toInt < 119 - s.2.toInt; have := hz.2; omega⟩)
/-- which image is meant, on both sides alike -/
theorem zh_k3 (x : Int32) : (∃ j, j < 3 ∧ x = nI j) ∨ (¬ (0 ≤ x ∧ x ≤ 2) ∧ (x < 0 ∨ (¬ x < 0 ∧ ¬ x < 3))) := by
  by_cases h0 : x < 0
  · exact Or.inr ⟨fun z => absurd h0 (Int32.not_lt.mpr z.1), Or.inl h0⟩
  · by_cases h3 : x < 3
    · exact Or.inl (nI_idx (n := 3) (by decide) (Int32.not_lt.mp h0) h3)
    · refine Or.inr ⟨fun z => h3 (Int32.lt_of_le_of_lt z.2 (by decide)), Or.inr ⟨h0, h3⟩⟩
theorem zh_in02 (x : Int32) : fX9_in x.toInt64 (0 : Int64) (2 : Int64) = some (if 0 ≤ x ∧ x ≤ 2 then 1 else 0) := in_eq32 x 0 2
theorem zh_j3 {j : Nat} (h : j < 3) : zs_in (nI j).toInt 0 2 ∧ (0 ≤ nI j ∧ nI j ≤ 2) ∧ sn_in (nI j) 3 = true ∧ (nI j).toNatClampNeg = j ∧ ¬ nI j < 0 ∧ nI j < 3 := by
  have : ∀ j, j < 3 → zs_in (nI j).toInt 0 2 ∧ (0 ≤ nI j ∧ nI j ≤ 2) ∧ sn_in (nI j) 3 = true ∧ (nI j).toNatClampNeg = j ∧ ¬ nI j < 0 ∧ nI j < 3 := by decide +kernel
  exact this j h
theorem zh_mimage {σ : sn_S} (h : zs_SB zs_tM σ) {j : Nat} (hj : j < 3) : ∃ t, zs_M0 σ t ∧ fX9_image σ (nI j) = some (0, sn_pI t 3 j (vp_nar .boolean 1)) := by
  obtain ⟨h1, h2, h3, h4, h5, h6⟩ := zh_j3 hj
  obtain ⟨t, e, ht⟩ := zh_imgL (zs_rf h) h1
  refine ⟨t, ht, ?_⟩
  unfold fX9_image
  rw [zh_in02, if_pos h2]
  show ((sn_it (LX9_image_17 (nI j)) 5000 (σ, (0 : Int32))).bind fun t_4 => BX9_image_46 t_4 (nI j)) = _
  rw [e]
  show BX9_image_46 t (nI j) = _
  unfold BX9_image_46
  rw [h3, h4]
  rfl
theorem zh_mimage0 {σ : sn_S} {x : Int32} (h : ¬ (0 ≤ x ∧ x ≤ 2)) : fX9_image σ x = some (-2, σ) := by
  unfold fX9_image
  rw [zh_in02, if_neg h]
  rfl
theorem zh_cimage {σ : sn_S} (h : zs_SB zs_tC σ) {j : Nat} (hj : j < 3) : ∃ t, zs_C0 σ t ∧ fX8_image σ (nI j) = some (0, sn_pI t 16 j (vp_nar .boolean 1)) := by
  obtain ⟨h1, h2, h3, h4, h5, h6⟩ := zh_j3 hj
  have key : ∃ t, zs_C0 σ t ∧ fX2_copyFrom σ (sn_at sn_rs15 (nI j)) 1 = some t := by
    match j, hj with
    | 0, _ => exact zh_hC h (a := 73) (b := 1) (by decide) (by decide) (by decide)
    | 1, _ => exact zh_hC h (a := 80) (b := 1) (by decide) (by decide) (by decide)
    | 2, _ => exact zh_hC h (a := 87) (b := 1) (by decide) (by decide) (by decide)
  obtain ⟨t, q, e⟩ := key
  refine ⟨t, q, ?_⟩
  unfold fX8_image
  rw [if_neg h5, if_pos h6, h3, gd_T, e, h4]
  rfl
theorem zh_cimage0 {σ : sn_S} {x : Int32} (h : x < 0 ∨ (¬ x < 0 ∧ ¬ x < 3)) : fX8_image σ x = some (-2, σ) := by
  unfold fX8_image
  rcases h with h | h
  · rw [if_pos h]
  · rw [if_neg h.1, if_neg h.2]
theorem zh_mback {σ : sn_S} (h : zs_SB zs_tM σ) {j : Nat} (hj : j < 3) : ∃ r t, zs_M0 σ t ∧ fX9_back σ (nI j) = some (r, t) ∧ r = if sn_I σ 3 j = 0 then -6 else 0 := by
  obtain ⟨h1, h2, h3, h4, h5, h6⟩ := zh_j3 hj
  obtain ⟨t, e, ht⟩ := zh_backL (zs_rf h) h1
  by_cases hk : sn_I σ 3 j = 0
  · refine ⟨-6, σ, zs_rf h, ?_, by rw [if_pos hk]⟩
    unfold fX9_back
    rw [zh_in02, if_pos h2]
    show sn_gd (sn_in (nI j) 3) (if sn_I σ 3 (nI j).toNatClampNeg = 0 then _ else _) = _
    rw [h3, gd_T, h4, if_pos hk]
  · refine ⟨0, t, ht, ?_, by rw [if_neg hk]⟩
    unfold fX9_back
    rw [zh_in02, if_pos h2]
    show sn_gd (sn_in (nI j) 3) (if sn_I σ 3 (nI j).toNatClampNeg = 0 then _ else _) = _
    rw [h3, gd_T, h4, if_neg hk, e]
    rfl
theorem zh_mback0 {σ : sn_S} {x : Int32} (h : ¬ (0 ≤ x ∧ x ≤ 2)) : fX9_back σ x = some (-2, σ) := by
  unfold fX9_back
  rw [zh_in02, if_neg h]
  rfl
theorem zh_cback {σ : sn_S} (h : zs_SB zs_tC σ) {j : Nat} (hj : j < 3) : ∃ r t, zs_C0 σ t ∧ fX8_back σ (nI j) = some (r, t) ∧ r = if sn_I σ 16 j = 0 then -6 else 0 := by
  obtain ⟨h1, h2, h3, h4, h5, h6⟩ := zh_j3 hj
  by_cases hk : sn_I σ 16 j = 0
  · refine ⟨-6, σ, zs_rf h, ?_, by rw [if_pos hk]⟩
    unfold fX8_back
    rw [if_neg h5, if_pos h6, h3, gd_T, h4, if_pos hk]
  · have key : ∃ t, zs_C0 σ t ∧ fX2_copyFrom σ 1 (sn_at sn_rs15 (nI j)) = some t := by
      match j, hj with
      | 0, _ => exact zh_hC h (a := 1) (b := 73) (by decide) (by decide) (by decide)
      | 1, _ => exact zh_hC h (a := 1) (b := 80) (by decide) (by decide) (by decide)
      | 2, _ => exact zh_hC h (a := 1) (b := 87) (by decide) (by decide) (by decide)
    obtain ⟨t, q, e⟩ := key
    obtain ⟨u, e2, q2⟩ := zc_1529 (zs_rf q.1)
    refine ⟨0, u, zs_c0t q q2, ?_, by rw [if_neg hk]⟩
    unfold fX8_back
    rw [if_neg h5, if_pos h6, h3, gd_T, h4, if_neg hk, gd_T, e]
    show (fX8_liveAnew t).bind _ = _
    rw [e2]
    rfl
theorem zh_cback0 {σ : sn_S} {x : Int32} (h : x < 0 ∨ (¬ x < 0 ∧ ¬ x < 3)) : fX8_back σ x = some (-2, σ) := by
  unfold fX8_back
  rcases h with h | h
  · rw [if_pos h]
  · rw [if_neg h.1, if_neg h.2]

/-! the tape -/
theorem zh_cend (σ : sn_S) (a : Int32) : fX8_end σ a = some (if 0 ≤ a ∧ a ≤ σ.1 17 1 then (a, sn_pI σ 17 1 a) else (-1, σ)) := by
  unfold fX8_end
  by_cases h1 : a < 0
  · rw [if_pos h1, if_neg (fun h => absurd h1 (Int32.not_lt.mpr h.1))]
  · rw [if_neg h1]
    show (if a ≤ σ.1 17 1 then _ else _) = _
    by_cases h2 : a ≤ σ.1 17 1
    · rw [if_pos h2, if_pos ⟨Int32.not_lt.mp h1, h2⟩]
      rfl
    · rw [if_neg h2, if_neg (fun h => h2 h.2)]
theorem zh_mend (τ : sn_S) (a : Int32) : fX9_end τ a = some (if 0 ≤ a ∧ a ≤ τ.1 0 5 then (a, sn_pI τ 0 5 a) else (-1, τ)) := by
  unfold fX9_end
  have e9 : fX9_in a.toInt64 (0 : Int64) ((sn_I τ 0 5).toInt64) = some (if (0 : Int32) ≤ a ∧ a ≤ τ.1 0 5 then 1 else 0) := in_eq32 a 0 (τ.1 0 5)
  rw [e9]
  by_cases h : 0 ≤ a ∧ a ≤ τ.1 0 5
  · rw [if_pos h, if_pos h]
    rfl
  · rw [if_neg h, if_neg h]
    rfl
theorem zh_put {σ : sn_S} {n : Nat} (h : zs_SB zs_tC σ) (hn : n + 4 ≤ 900) (h1 : σ.1 17 1 = nI n) (x : Int32) : ∃ τ, fX5_put σ x = some τ ∧ zs_SB zs_tC τ ∧ τ.1 17 1 = nI (n + 4) ∧ (∀ q k, q ≠ 18 → ¬ (q = 17 ∧ k = 1) → τ.1 q k = σ.1 q k) ∧ τ.2.1 = σ.2.1 := by
  unfold fX5_put
  have one : ∀ (j : Nat) (ρ : sn_S) (y : Int32), j < 900 → zs_SB zs_tC ρ → ρ.1 17 1 = nI j → ¬ y < 0 → ∃ τ, LX5_put_3 x (ρ, y) = some (.inl (τ, y + (-8))) ∧ zs_SB zs_tC τ ∧ τ.1 17 1 = nI (j + 1) ∧ (∀ q k, q ≠ 18 → ¬ (q = 17 ∧ k = 1) → τ.1 q k = ρ.1 q k) ∧ τ.2.1 = ρ.2.1 := by
    intro j ρ y hj hS h hy
    refine ⟨sn_pI (sn_pI ρ 18 j ((x >>> (y &&& 31)) &&& (255 : Int32))) 17 1 (nI j + 1), ?_, ?_, ?_, ?_, rfl⟩
    · unfold LX5_put_3 BX5_put_3
      rw [if_neg hy]
      have e1 : sn_I ρ 17 1 = nI j := h
      show (if (900 : Int32) ≤ sn_I ρ 17 1 then _ else _) = _
      rw [e1, if_neg (show ¬ (900 : Int32) ≤ nI j from nI_ge (b := 900) hj (by decide)), sn_in_nI hj (by decide), gd_T, nI_clamp (by omega)]
      show some (Sum.inl (sn_pI (sn_pI ρ 18 j _) 17 1 ((sn_pI ρ 18 j _).1 17 1 + 1), y + (-8))) = _
      rw [pI_ne (by decide), h]
    · have hb : (zs_tC 17 1).1 ≤ (nI j + 1).toInt ∧ (nI j + 1).toInt ≤ (zs_tC 17 1).2 := by
        rw [nI_1, nI_toInt (by omega), show zs_tC 17 1 = (0, 900) from rfl]
        exact ⟨by omega, by omega⟩
      exact zs_sbw (zs_sbw hS (by rw [show zs_tC 18 j = (-2147483648, 2147483647) from rfl]; exact zs_topI _)) hb
    · rw [pI_self, nI_1]
    · intro q k h18 h17
      show (if q = 17 ∧ k = 1 then _ else if q = 18 ∧ k = j then _ else ρ.1 q k) = _
      rw [if_neg h17, if_neg (fun z => h18 z.1)]
  obtain ⟨τ1, e1, s1, h1, k1, l1⟩ := one n σ 24 (by omega) h h1 (by decide)
  obtain ⟨τ2, e2, s2, h2, k2, l2⟩ := one (n + 1) τ1 16 (by omega) s1 h1 (by decide)
  obtain ⟨τ3, e3, s3, h3, k3, l3⟩ := one (n + 2) τ2 8 (by omega) s2 h2 (by decide)
  obtain ⟨τ4, e4, s4, h4, k4, l4⟩ := one (n + 3) τ3 0 (by omega) s3 h3 (by decide)
  refine ⟨τ4, ?_, s4, h4, fun q k a b => by rw [k4 q k a b, k3 q k a b, k2 q k a b, k1 q k a b], by rw [l4, l3, l2, l1]⟩
  have e : sn_it (LX5_put_3 x) (4995 + 5) (σ, (24 : Int32)) = some τ4 := by
    unfold sn_it
    rw [e1]
    show sn_it (LX5_put_3 x) (4995 + 4) (τ1, (16 : Int32)) = some τ4
    unfold sn_it
    rw [e2]
    show sn_it (LX5_put_3 x) (4995 + 3) (τ2, (8 : Int32)) = some τ4
    unfold sn_it
    rw [e3]
    show sn_it (LX5_put_3 x) (4995 + 2) (τ3, (0 : Int32)) = some τ4
    unfold sn_it
    rw [e4]
    show sn_it (LX5_put_3 x) (4995 + 1) (τ4, (-8 : Int32)) = some τ4
    unfold sn_it LX5_put_3 BX5_put_3
    rfl
  show (sn_it (LX5_put_3 x) (4995 + 5) (σ, (24 : Int32))).bind _ = _
  rw [e]
  rfl
theorem zh_n {σ : sn_S} {q k : Nat} {t : zs_T} (h : zs_SB t σ) (ht : t q k = (0, 900)) : ∃ n : Nat, n ≤ 900 ∧ σ.1 q k = nI n := by
  have h1 := h.1 q k
  rw [ht] at h1
  obtain ⟨j, j1, j2⟩ := zs_val (x := σ.1 q k) (a := 0) (b := 900) h1 (by decide)
  exact ⟨j, by omega, j2⟩
theorem zh_cfeed {σ : sn_S} {n : Nat} (h : zs_SB zs_tC σ) (h1 : σ.1 17 1 = nI n) (hn : n ≤ 900) (a b c d e : Int32) : (900 < n + 20 ∧ fX8_feed σ a b c d e = some (-1, σ)) ∨ (n + 20 ≤ 900 ∧ ∃ τ, fX8_feed σ a b c d e = some (nI (n + 20), τ) ∧ zs_SB zs_tC τ ∧ τ.1 17 1 = nI (n + 20) ∧ (∀ q k, q ≠ 18 → ¬ (q = 17 ∧ k = 1) → τ.1 q k = σ.1 q k) ∧ τ.2.1 = σ.2.1) := by
  have e0 : sn_I σ 17 1 + (20 : Int32) = nI (n + 20) := by
    show σ.1 17 1 + nI 20 = _
    rw [h1, nI_add]
  by_cases hc : n + 20 ≤ 900
  · right
    refine ⟨hc, ?_⟩
    obtain ⟨s1, e1, b1, h1, k1, l1⟩ := zh_put h (by omega) h1 a
    obtain ⟨s2, e2, b2, h2, k2, l2⟩ := zh_put b1 (by omega) h1 b
    obtain ⟨s3, e3, b3, h3, k3, l3⟩ := zh_put b2 (by omega) h2 c
    obtain ⟨s4, e4, b4, h4, k4, l4⟩ := zh_put b3 (by omega) h3 d
    obtain ⟨s5, e5, b5, h5, k5, l5⟩ := zh_put b4 (by omega) h4 e
    refine ⟨s5, ?_, b5, h5, fun q k x y => by rw [k5 q k x y, k4 q k x y, k3 q k x y, k2 q k x y, k1 q k x y], by rw [l5, l4, l3, l2, l1]⟩
    unfold fX8_feed
    rw [e0, if_pos (show nI (n + 20) ≤ (900 : Int32) from nI_le (b := 900) hc (by decide)), e1]
    show (fX5_put s1 b).bind _ = _
    rw [e2]
    show (fX5_put s2 c).bind _ = _
    rw [e3]
    show (fX5_put s3 d).bind _ = _
    rw [e4]
    show (fX5_put s4 e).bind _ = _
    rw [e5]
    show some (s5.1 17 1, s5) = _
    rw [h5]
  · left
    refine ⟨by omega, ?_⟩
    unfold fX8_feed
    rw [e0, if_neg (show ¬ nI (n + 20) ≤ (900 : Int32) from nI_ge (a := 900) (by omega) (by omega))]
theorem zh_mfeedL {τ : sn_S} {n : Nat} (h : zs_SB zs_tM τ) (h5 : τ.1 0 5 = nI n) (hn : n + 20 ≤ 900) : ∃ t, sn_it LX9_feed_55 5000 (τ, (0 : Int32)) = some t ∧ (zs_SB zs_tM t ∧ (∀ q k, q ≠ 4 → t.1 q k = τ.1 q k) ∧ t.2.1 = τ.2.1) := by
  refine sn_for (f := LX9_feed_55) 20 (fun k z => z.2 = nI k ∧ zs_SB zs_tM z.1 ∧ (∀ q k, q ≠ 4 → z.1.1 q k = τ.1 q k) ∧ z.1.2.1 = τ.2.1) (fun t => zs_SB zs_tM t ∧ (∀ q k, q ≠ 4 → t.1 q k = τ.1 q k) ∧ t.2.1 = τ.2.1)
    (fun k z hk hz => ?_) (fun z hz => ?_) (n := 5000) (by decide) (s := (τ, (0 : Int32))) ⟨nI_0.symm, h, fun _ _ _ => rfl, rfl⟩
  · obtain ⟨z1, z2⟩ := z
    obtain ⟨rfl, hS, hK, hL⟩ := hz
    have h1 : sn_I z1 0 5 = nI n := (hK 0 5 (by decide)).trans h5
    have hd : nI k / 4 = nI (k / 4) := by
      have : ∀ k, k < 20 → nI k / 4 = nI (k / 4) := by decide +kernel
      exact this k hk
    have hv : ∃ v, LX9_feed_55 (z1, nI k) = some (.inl (sn_pI z1 4 (n + k) v, nI (k + 1))) := by
      unfold LX9_feed_55 BX9_feed_55
      show ∃ v, (if (20 : Int32) ≤ nI k then _ else _) = _
      rw [if_neg (show ¬ (20 : Int32) ≤ nI k from nI_ge (b := 20) hk (by decide)), h1, nI_add, hd, sn_in_nI (by omega) (by decide), gd_T, sn_in_nI (by omega) (by decide), gd_T, nI_clamp (show n + k < 2 ^ 31 by omega), ← nI_1]
      exact ⟨_, rfl⟩
    obtain ⟨v, hv⟩ := hv
    refine ⟨_, hv, rfl, zs_sbw hS (by rw [show zs_tM 4 (n + k) = (-2147483648, 2147483647) from rfl]; exact zs_topI _), fun q j hq => ?_, hL⟩
    show (sn_pI z1 4 (n + k) v).1 q j = _
    rw [pI_ne hq]
    exact hK q j hq
  · obtain ⟨z1, z2⟩ := z
    obtain ⟨rfl, hS, hK, hL⟩ := hz
    refine ⟨z1, ?_, hS, hK, hL⟩
    unfold LX9_feed_55 BX9_feed_55
    rw [if_pos (show (20 : Int32) ≤ nI 20 by decide)]
theorem zh_mfeed {τ : sn_S} {n : Nat} (h : zs_SB zs_tM τ) (h5 : τ.1 0 5 = nI n) (hn : n ≤ 900) (a b c d e : Int32) : (900 < n + 20 ∧ fX9_feed τ a b c d e = some (-1, τ)) ∨ (n + 20 ≤ 900 ∧ ∃ t, fX9_feed τ a b c d e = some (nI (n + 20), t) ∧ zs_SB zs_tM t ∧ t.1 0 5 = nI (n + 20) ∧ (∀ q k, q ≠ 4 → q ≠ 5 → ¬ (q = 0 ∧ k = 5) → t.1 q k = τ.1 q k) ∧ t.2.1 = τ.2.1) := by
  have e0 : sn_I τ 0 5 + (20 : Int32) = nI (n + 20) := by
    show τ.1 0 5 + nI 20 = _
    rw [h5, nI_add]
  by_cases hc : n + 20 ≤ 900
  · right
    refine ⟨hc, ?_⟩
    generalize hz : sn_pI (sn_pI (sn_pI (sn_pI (sn_pI τ 5 0 a) 5 1 b) 5 2 c) 5 3 d) 5 4 e = t0
    have hS : zs_SB zs_tM t0 := by
      rw [← hz]
      exact zs_sbw (zs_sbw (zs_sbw (zs_sbw (zs_sbw h (zs_topI _)) (zs_topI _)) (zs_topI _)) (zs_topI _)) (zs_topI _)
    have hK : ∀ q k, q ≠ 5 → t0.1 q k = τ.1 q k := fun q k hq => by
      rw [← hz, pI_ne hq, pI_ne hq, pI_ne hq, pI_ne hq, pI_ne hq]
    have hL : t0.2.1 = τ.2.1 := by rw [← hz]; rfl
    obtain ⟨t1, f1, g1, g2, g3⟩ := zh_mfeedL hS ((hK 0 5 (by decide)).trans h5) hc
    have g5 : sn_I t1 0 5 = nI n := (g2 0 5 (by decide)).trans ((hK 0 5 (by decide)).trans h5)
    refine ⟨sn_pI t1 0 5 (nI (n + 20)), ?_, zs_sbw g1 (by rw [nI_toInt (by omega), show zs_tM 0 5 = (0, 900) from rfl]; exact ⟨by omega, by omega⟩), pI_self, fun q k q4 q5 q0 => ?_, g3.trans hL⟩
    · unfold fX9_feed
      rw [e0, if_pos (show nI (n + 20) ≤ (900 : Int32) from nI_le (b := 900) hc (by decide))]
      show (sn_it LX9_feed_55 5000 (sn_pI (sn_pI (sn_pI (sn_pI (sn_pI τ 5 0 a) 5 1 b) 5 2 c) 5 3 d) 5 4 e, (0 : Int32))).bind _ = _
      rw [hz, f1]
      show some (sn_I (sn_pI t1 0 5 (sn_I t1 0 5 + (20 : Int32))) 0 5, sn_pI t1 0 5 (sn_I t1 0 5 + (20 : Int32))) = _
      rw [g5, show nI n + (20 : Int32) = nI (n + 20) from nI_add n 20]
      show some ((sn_pI t1 0 5 (nI (n + 20))).1 0 5, _) = _
      rw [pI_self]
    · show (if q = 0 ∧ k = 5 then _ else t1.1 q k) = _
      rw [if_neg q0, g2 q k q4, hK q k q5]
  · left
    refine ⟨by omega, ?_⟩
    unfold fX9_feed
    rw [e0, if_neg (show ¬ nI (n + 20) ≤ (900 : Int32) from nI_ge (a := 900) (by omega) (by omega))]
end
section
/-! the tape fed, byte for byte -/
theorem by_and (z : Int32) : (z &&& (255 : Int32)).toInt = z.toInt % 256 := by
  have e3 : (z &&& (255 : Int32)).toBitVec.toNat = z.toBitVec.toNat &&& 255 := by
    rw [Int32.toBitVec_and, BitVec.toNat_and]
    rfl
  have e4 : z.toBitVec.toNat &&& 255 = z.toBitVec.toNat % 256 := Nat.and_two_pow_sub_one_eq_mod _ 8
  have h1 : z.toInt = z.toBitVec.toInt := rfl
  have h2 := z.toBitVec.isLt
  rw [zs_ofnat (by omega), e3, e4, h1, BitVec.toInt_eq_toNat_cond]
  split
  · omega
  · omega
theorem by_8 (z : Int32) : (z.toInt8.toInt32 &&& (255 : Int32)).toInt = (z &&& (255 : Int32)).toInt ∧ -128 ≤ z.toInt8.toInt32.toInt ∧ z.toInt8.toInt32.toInt ≤ 127 := by
  have e : z.toInt8.toInt32.toInt = z.toInt.bmod 256 := by
    rw [Int8.toInt_toInt32, Int32.toInt_toInt8]
  have e5 : z.toInt.bmod 256 = if z.toInt % 256 < (256 + 1) / 2 then z.toInt % 256 else z.toInt % 256 - 256 := rfl
  rw [by_and, by_and, e, e5]
  have h0 := Int.emod_nonneg z.toInt (show (256 : Int) ≠ 0 by decide)
  have h1 := Int.emod_lt_of_pos z.toInt (show (0 : Int) < 256 by decide)
  split
  · omega
  · omega
def by_c (x : Int32) (i : Nat) : Int32 := (x >>> (nI (24 - 8 * i) &&& 31)) &&& (255 : Int32)
theorem zt_put {σ : sn_S} {n : Nat} (hn : n + 4 ≤ 900) (h1 : σ.1 17 1 = nI n) (x : Int32) : ∃ τ, fX5_put σ x = some τ ∧ τ.1 17 1 = nI (n + 4) ∧ (∀ j, j < n → τ.1 18 j = σ.1 18 j) ∧ ∀ i, i < 4 → τ.1 18 (n + i) = by_c x i := by
  have one : ∀ (j : Nat) (ρ : sn_S) (y : Int32), j < 900 → ρ.1 17 1 = nI j → ¬ y < 0 → ∃ τ, LX5_put_3 x (ρ, y) = some (.inl (τ, y + (-8))) ∧ τ.1 17 1 = nI (j + 1) ∧ τ.1 18 j = (x >>> (y &&& 31)) &&& (255 : Int32) ∧ ∀ i, i ≠ j → τ.1 18 i = ρ.1 18 i := by
    intro j ρ y hj h hy
    refine ⟨sn_pI (sn_pI ρ 18 j ((x >>> (y &&& 31)) &&& (255 : Int32))) 17 1 (nI j + 1), ?_, ?_, ?_, fun i hi => ?_⟩
    · unfold LX5_put_3 BX5_put_3
      rw [if_neg hy]
      have e1 : sn_I ρ 17 1 = nI j := h
      show (if (900 : Int32) ≤ sn_I ρ 17 1 then _ else _) = _
      rw [e1, if_neg (show ¬ (900 : Int32) ≤ nI j from nI_ge (b := 900) hj (by decide)), sn_in_nI hj (by decide), gd_T, nI_clamp (by omega)]
      show some (Sum.inl (sn_pI (sn_pI ρ 18 j _) 17 1 ((sn_pI ρ 18 j _).1 17 1 + 1), y + (-8))) = _
      rw [pI_ne (by decide), h]
    · rw [pI_self, nI_1]
    · rw [pI_ne (by decide), pI_self]
    · rw [pI_ne (by decide), pI_slot hi]
  obtain ⟨τ1, e1, h1, k1, l1⟩ := one n σ 24 (by omega) h1 (by decide)
  obtain ⟨τ2, e2, h2, k2, l2⟩ := one (n + 1) τ1 16 (by omega) h1 (by decide)
  obtain ⟨τ3, e3, h3, k3, l3⟩ := one (n + 2) τ2 8 (by omega) h2 (by decide)
  obtain ⟨τ4, e4, h4, k4, l4⟩ := one (n + 3) τ3 0 (by omega) h3 (by decide)
  refine ⟨τ4, ?_, h4, fun j hj => by rw [l4 j (by omega), l3 j (by omega), l2 j (by omega), l1 j (by omega)], fun i hi => ?_⟩
  · have e : sn_it (LX5_put_3 x) (4995 + 5) (σ, (24 : Int32)) = some τ4 := by
      unfold sn_it
      rw [e1]
      show sn_it (LX5_put_3 x) (4995 + 4) (τ1, (16 : Int32)) = some τ4
      unfold sn_it
      rw [e2]
      show sn_it (LX5_put_3 x) (4995 + 3) (τ2, (8 : Int32)) = some τ4
      unfold sn_it
      rw [e3]
      show sn_it (LX5_put_3 x) (4995 + 2) (τ3, (0 : Int32)) = some τ4
      unfold sn_it
      rw [e4]
      show sn_it (LX5_put_3 x) (4995 + 1) (τ4, (-8 : Int32)) = some τ4
      unfold sn_it LX5_put_3 BX5_put_3
      rfl
    unfold fX5_put
    show (sn_it (LX5_put_3 x) (4995 + 5) (σ, (24 : Int32))).bind _ = _
    rw [e]
    rfl
  · have : i = 0 ∨ i = 1 ∨ i = 2 ∨ i = 3 := by omega
    rcases this with e | e | e | e <;> subst e
    · rw [l4 (n + 0) (by omega), l3 (n + 0) (by omega), l2 (n + 0) (by omega)]
      exact k1
    · rw [l4 (n + 1) (by omega), l3 (n + 1) (by omega)]
      exact k2
    · rw [l4 (n + 2) (by omega)]
      exact k3
    · exact k4
def by_x (a b c d e : Int32) (j : Nat) : Int32 := if j = 0 then a else if j = 1 then b else if j = 2 then c else if j = 3 then d else e
theorem zt_cfeed {σ : sn_S} {n : Nat} (h1 : σ.1 17 1 = nI n) (hn : n + 20 ≤ 900) (a b c d e : Int32) : ∃ r τ, fX8_feed σ a b c d e = some (r, τ) ∧ (∀ j, j < n → τ.1 18 j = σ.1 18 j) ∧ ∀ i, i < 20 → τ.1 18 (n + i) = by_c (by_x a b c d e (i / 4)) (i % 4) := by
  have e0 : sn_I σ 17 1 + (20 : Int32) = nI (n + 20) := by
    show σ.1 17 1 + nI 20 = _
    rw [h1, nI_add]
  obtain ⟨s1, e1, h1, k1, l1⟩ := zt_put (by omega) h1 a
  obtain ⟨s2, e2, h2, k2, l2⟩ := zt_put (by omega) h1 b
  obtain ⟨s3, e3, h3, k3, l3⟩ := zt_put (by omega) h2 c
  obtain ⟨s4, e4, h4, k4, l4⟩ := zt_put (by omega) h3 d
  obtain ⟨s5, e5, h5, k5, l5⟩ := zt_put (by omega) h4 e
  refine ⟨s5.1 17 1, s5, ?_, fun j hj => by rw [k5 j (by omega), k4 j (by omega), k3 j (by omega), k2 j (by omega), k1 j (by omega)], fun i hi => ?_⟩
  · unfold fX8_feed
    rw [e0, if_pos (show nI (n + 20) ≤ (900 : Int32) from nI_le (b := 900) hn (by decide)), e1]
    show (fX5_put s1 b).bind _ = _
    rw [e2]
    show (fX5_put s2 c).bind _ = _
    rw [e3]
    show (fX5_put s3 d).bind _ = _
    rw [e4]
    show (fX5_put s4 e).bind _ = _
    rw [e5]
    rfl
  · have hd : i / 4 = 0 ∨ i / 4 = 1 ∨ i / 4 = 2 ∨ i / 4 = 3 ∨ i / 4 = 4 := by omega
    rcases hd with g | g | g | g | g <;> rw [g]
    · rw [k5 _ (by omega), k4 _ (by omega), k3 _ (by omega), k2 _ (by omega), show n + i = n + i % 4 by omega]
      exact l1 _ (by omega)
    · rw [k5 _ (by omega), k4 _ (by omega), k3 _ (by omega), show n + i = n + 4 + i % 4 by omega]
      exact l2 _ (by omega)
    · rw [k5 _ (by omega), k4 _ (by omega), show n + i = n + 4 + 4 + i % 4 by omega]
      exact l3 _ (by omega)
    · rw [k5 _ (by omega), show n + i = n + 4 + 4 + 4 + i % 4 by omega]
      exact l4 _ (by omega)
    · rw [show n + i = n + 4 + 4 + 4 + 4 + i % 4 by omega]
      exact l5 _ (by omega)
theorem zt_mfeed {τ : sn_S} {n : Nat} (h5 : τ.1 0 5 = nI n) (hn : n + 20 ≤ 900) (a b c d e : Int32) : ∃ r t, fX9_feed τ a b c d e = some (r, t) ∧ (∀ j, j < n → t.1 4 j = τ.1 4 j) ∧ ∀ i, i < 20 → (t.1 4 (n + i) &&& (255 : Int32)).toInt = (by_c (by_x a b c d e (i / 4)) (i % 4)).toInt ∧ -128 ≤ (t.1 4 (n + i)).toInt ∧ (t.1 4 (n + i)).toInt ≤ 127 := by
  have e0 : sn_I τ 0 5 + (20 : Int32) = nI (n + 20) := by
    show τ.1 0 5 + nI 20 = _
    rw [h5, nI_add]
  obtain ⟨t0, hz⟩ : ∃ t0, t0 = sn_pI (sn_pI (sn_pI (sn_pI (sn_pI τ 5 0 a) 5 1 b) 5 2 c) 5 3 d) 5 4 e := ⟨_, rfl⟩
  have r5 : ∀ j, j < 5 → t0.1 5 j = by_x a b c d e j := fun j hj => by
    have : j = 0 ∨ j = 1 ∨ j = 2 ∨ j = 3 ∨ j = 4 := by omega
    rcases this with g | g | g | g | g <;> subst g <;> rw [hz]
    · rw [pI_slot (by decide), pI_slot (by decide), pI_slot (by decide), pI_slot (by decide), pI_self]
      rfl
    · rw [pI_slot (by decide), pI_slot (by decide), pI_slot (by decide), pI_self]
      rfl
    · rw [pI_slot (by decide), pI_slot (by decide), pI_self]
      rfl
    · rw [pI_slot (by decide), pI_self]
      rfl
    · rw [pI_self]
      rfl
  have ro : ∀ q, q ≠ 5 → t0.1 q = τ.1 q := fun q hq => by rw [hz, pI_ne hq, pI_ne hq, pI_ne hq, pI_ne hq, pI_ne hq]
  obtain ⟨t, e1, e2, e3, e4⟩ := sn_for (f := LX9_feed_55) 20 (fun k z => z.2 = nI k ∧ (∀ q, q ≠ 4 → z.1.1 q = t0.1 q) ∧ (∀ j, j < n → z.1.1 4 j = τ.1 4 j) ∧ ∀ i, i < k → (z.1.1 4 (n + i) &&& (255 : Int32)).toInt = (by_c (by_x a b c d e (i / 4)) (i % 4)).toInt ∧ -128 ≤ (z.1.1 4 (n + i)).toInt ∧ (z.1.1 4 (n + i)).toInt ≤ 127) (fun t => (∀ q, q ≠ 4 → t.1 q = t0.1 q) ∧ (∀ j, j < n → t.1 4 j = τ.1 4 j) ∧ ∀ i, i < 20 → (t.1 4 (n + i) &&& (255 : Int32)).toInt = (by_c (by_x a b c d e (i / 4)) (i % 4)).toInt ∧ -128 ≤ (t.1 4 (n + i)).toInt ∧ (t.1 4 (n + i)).toInt ≤ 127)
    (fun k z hk hz2 => by
      obtain ⟨z1, z2⟩ := z
      obtain ⟨g1, g2, g3, g4⟩ := hz2
      have g1 : z2 = nI k := g1
      subst g1
      have g2 : ∀ q, q ≠ 4 → z1.1 q = t0.1 q := g2
      have h0 : sn_I z1 0 5 = nI n := (congrFun (g2 0 (by decide)) 5).trans ((congrFun (ro 0 (by decide)) 5).trans h5)
      have hd : nI k / 4 = nI (k / 4) := by
        have : ∀ k, k < 20 → nI k / 4 = nI (k / 4) := by decide +kernel
        exact this k hk
      have hs : ((24 : Int32) - ((8 : Int32) * (nI k - nI (k / 4) * (4 : Int32)))) = nI (24 - 8 * (k % 4)) := by
        have : ∀ k, k < 20 → ((24 : Int32) - ((8 : Int32) * (nI k - nI (k / 4) * (4 : Int32)))) = nI (24 - 8 * (k % 4)) := by decide +kernel
        exact this k hk
      refine ⟨(sn_pI z1 4 (n + k) ((by_x a b c d e (k / 4)) >>> (nI (24 - 8 * (k % 4)) &&& 31)).toInt8.toInt32, nI (k + 1)), ?_, rfl, fun q hq => ?_, fun j hj => ?_, fun i hi => ?_⟩
      · unfold LX9_feed_55 BX9_feed_55
        show (if (20 : Int32) ≤ nI k then _ else _) = _
        rw [if_neg (show ¬ (20 : Int32) ≤ nI k from nI_ge (b := 20) hk (by decide)), h0, nI_add, hd, sn_in_nI (by omega) (by decide), gd_T, sn_in_nI (by omega) (by decide), gd_T, nI_clamp (show n + k < 2 ^ 31 by omega), nI_clamp (show k / 4 < 2 ^ 31 by omega), hs]
        show some (Sum.inl (sn_pI z1 4 (n + k) (vp_nar .byte ((z1.1 5 (k / 4)) >>> (nI (24 - 8 * (k % 4)) &&& 31)).toInt8.toInt32), nI k + 1)) = _
        rw [pk_vb, nI_1, congrFun (g2 5 (by decide)) (k / 4), r5 _ (by omega)]
      · show (sn_pI z1 4 (n + k) _).1 q = _
        rw [pI_ne hq]
        exact g2 q hq
      · show (sn_pI z1 4 (n + k) _).1 4 j = _
        rw [pI_slot (by omega)]
        exact g3 j hj
      · show ((sn_pI z1 4 (n + k) _).1 4 (n + i) &&& (255 : Int32)).toInt = _ ∧ _
        by_cases x : i = k
        · subst x
          rw [pI_self]
          exact by_8 _
        · rw [pI_slot (by omega)]
          exact g4 i (by omega))
    (fun z hz2 => by
      obtain ⟨z1, z2⟩ := z
      obtain ⟨g1, g2, g3, g4⟩ := hz2
      have g1 : z2 = nI 20 := g1
      subst g1
      refine ⟨z1, ?_, g2, g3, g4⟩
      unfold LX9_feed_55 BX9_feed_55
      exact if_pos (show (20 : Int32) ≤ nI 20 by decide))
    (n := 5000) (by decide) (s := (t0, (0 : Int32))) ⟨nI_0.symm, fun _ _ => rfl, fun j _ => by show t0.1 4 j = _; rw [ro 4 (by decide)], fun i hi => absurd hi (by omega)⟩
  refine ⟨(sn_pI t 0 5 (sn_I t 0 5 + (20 : Int32))).1 0 5, sn_pI t 0 5 (sn_I t 0 5 + (20 : Int32)), ?_, fun j hj => ?_, fun i hi => ?_⟩
  · unfold fX9_feed
    rw [e0, if_pos (show nI (n + 20) ≤ (900 : Int32) from nI_le (b := 900) hn (by decide))]
    show (sn_it LX9_feed_55 5000 (sn_pI (sn_pI (sn_pI (sn_pI (sn_pI τ 5 0 a) 5 1 b) 5 2 c) 5 3 d) 5 4 e, (0 : Int32))).bind _ = _
    rw [← hz, e1]
    rfl
  · rw [pI_ne (by decide)]
    exact e3 j hj
  · rw [pI_ne (by decide)]
    exact e4 i hi
end
section
/-! what the two have in common for the parts: bounds on both sides, the tape's length, the kept images, the rows of numbers -/
def jS (le wi : Nat → Int32) (r0 r1 r2 r3 : Nat → Int64) (many width : Nat → Int32) (num : Nat → Int64) : Prop :=
  (∀ s, s < 4 → le s = many s ∧ wi s = width s ∧ (-1 ≤ le s ∧ le s ≤ 60) ∧ (0 ≤ wi s ∧ wi s ≤ 3)) ∧ ∀ i, i < 60 → r0 i = num i ∧ r1 i = num (60 + i) ∧ r2 i = num (120 + i) ∧ r3 i = num (180 + i)
/-- the tape and what was found wrong with it -/
def zt_J (σ τ : sn_S) : Prop := σ.1 17 1 = τ.1 0 5 ∧ σ.1 17 2 = τ.1 0 12 ∧ σ.1 17 3 = τ.1 0 13 ∧ ∀ k : Nat, (k : Int) < (σ.1 17 1).toInt → (σ.1 18 k).toInt = (τ.1 4 k &&& (255 : Int32)).toInt ∧ -128 ≤ (τ.1 4 k).toInt ∧ (τ.1 4 k).toInt ≤ 127
theorem zt_c {σ σ' τ τ' : sn_S} (c1 : σ'.1 17 1 = σ.1 17 1) (c2 : σ'.1 17 2 = σ.1 17 2) (c3 : σ'.1 17 3 = σ.1 17 3) (c4 : ∀ k, σ'.1 18 k = σ.1 18 k) (m1 : τ'.1 0 5 = τ.1 0 5) (m2 : τ'.1 0 12 = τ.1 0 12) (m3 : τ'.1 0 13 = τ.1 0 13) (m4 : ∀ k, τ'.1 4 k = τ.1 4 k) (h : zt_J σ τ) : zt_J σ' τ' := by
  unfold zt_J
  rw [c1, c2, c3, m1, m2, m3]
  exact ⟨h.1, h.2.1, h.2.2.1, fun k hk => by rw [c4 k, m4 k]; exact h.2.2.2 k hk⟩
def zj_J (σ τ : sn_S) : Prop := zs_SB zs_tC σ ∧ zs_SB zs_tM τ ∧ zt_J σ τ ∧ (∀ k, k < 3 → σ.1 16 k = τ.1 3 k) ∧ jS (σ.1 26) (σ.1 25) (σ.2.1 21) (σ.2.1 22) (σ.2.1 23) (σ.2.1 24) (τ.1 21) (τ.1 22) (τ.2.1 23)
theorem zj_keep {σ σ' τ τ' : sn_S} (hC : zs_C0 σ σ') (hM : zs_M0 τ τ') (h : zj_J σ τ) : zj_J σ' τ' := by
  obtain ⟨-, -, e1, e2, e3⟩ := h
  have c26 : σ'.1 26 = σ.1 26 := funext fun k => hC.2.1 26 k rfl
  have c25 : σ'.1 25 = σ.1 25 := funext fun k => hC.2.1 25 k rfl
  have m21 : τ'.1 21 = τ.1 21 := funext fun k => hM.2.1 21 k rfl
  have m22 : τ'.1 22 = τ.1 22 := funext fun k => hM.2.1 22 k rfl
  refine ⟨hC.1, hM.1, zt_c (hC.2.1 17 1 rfl) (hC.2.1 17 2 rfl) (hC.2.1 17 3 rfl) (fun k => hC.2.1 18 k rfl) (hM.2.1 0 5 rfl) (hM.2.1 0 12 rfl) (hM.2.1 0 13 rfl) (fun k => hM.2.1 4 k rfl) e1, fun k hk => ?_, ?_⟩
  · rw [hC.2.1 16 k rfl, hM.2.1 3 k rfl]
    exact e2 k hk
  · rw [c26, c25, m21, m22, hC.2.2 21 rfl, hC.2.2 22 rfl, hC.2.2 23 rfl, hC.2.2 24 rfl, hM.2.2 23 rfl]
    exact e3
theorem zj_rows {σ σ' τ τ' : sn_S} (hS : jS (σ'.1 26) (σ'.1 25) (σ'.2.1 21) (σ'.2.1 22) (σ'.2.1 23) (σ'.2.1 24) (τ'.1 21) (τ'.1 22) (τ'.2.1 23)) (c1 : ∀ q, q ≠ 25 → q ≠ 26 → σ'.1 q = σ.1 q) (m1 : ∀ q, q ≠ 21 → q ≠ 22 → τ'.1 q = τ.1 q) (bC : zs_SB zs_tC σ') (bM : zs_SB zs_tM τ') (h : zj_J σ τ) : zj_J σ' τ' := by
  obtain ⟨-, -, e1, e2, -⟩ := h
  refine ⟨bC, bM, zt_c (by rw [c1 17 (by decide) (by decide)]) (by rw [c1 17 (by decide) (by decide)]) (by rw [c1 17 (by decide) (by decide)]) (fun k => by rw [c1 18 (by decide) (by decide)]) (by rw [m1 0 (by decide) (by decide)]) (by rw [m1 0 (by decide) (by decide)]) (by rw [m1 0 (by decide) (by decide)]) (fun k => by rw [m1 4 (by decide) (by decide)]) e1, fun k hk => ?_, hS⟩
  · rw [c1 16 (by decide) (by decide), m1 3 (by decide) (by decide)]
    exact e2 k hk
theorem zj_0 : ∀ (σ τ : sn_S) (a b c d e : Int32), zj_J σ τ → ∃ r σ1 τ1, fX8_feed σ a b c d e = some (r, σ1) ∧ fX9_feed τ a b c d e = some (r, τ1) ∧ zj_J σ1 τ1 := by
  intro σ τ a b c d e h
  obtain ⟨n, hn, e1⟩ := zh_n (t := zs_tC) (q := 17) (k := 1) h.1 rfl
  have e2 : τ.1 0 5 = nI n := by rw [← h.2.2.1.1]; exact e1
  rcases zh_cfeed h.1 e1 hn a b c d e with ⟨g1, g2⟩ | ⟨g1, s1, g2, g3, g4, g5, g6⟩
  · rcases zh_mfeed h.2.1 e2 hn a b c d e with ⟨k1, k2⟩ | ⟨k1, t1, k2, k3, k4, k5, k6⟩
    · exact ⟨-1, σ, τ, g2, k2, h⟩
    · exact absurd g1 (by omega)
  · rcases zh_mfeed h.2.1 e2 hn a b c d e with ⟨k1, k2⟩ | ⟨k1, t1, k2, k3, k4, k5, k6⟩
    · exact absurd k1 (by omega)
    · obtain ⟨r1, s1', x1, x2, x3⟩ := zt_cfeed e1 g1 a b c d e
      rw [g2] at x1
      cases x1
      obtain ⟨r2, t1', y1, y2, y3⟩ := zt_mfeed e2 g1 a b c d e
      rw [k2] at y1
      cases y1
      refine ⟨nI (n + 20), s1, t1, g2, k2, g3, k3, ⟨g4.trans k4.symm, ?_, ?_, fun k hk => ?_⟩, fun k hk => ?_, ?_⟩
      · rw [g5 17 2 (by decide) (by simp), k5 0 12 (by decide) (by decide) (by simp)]
        exact h.2.2.1.2.1
      · rw [g5 17 3 (by decide) (by simp), k5 0 13 (by decide) (by decide) (by simp)]
        exact h.2.2.1.2.2.1
      · rw [g4, nI_toInt (by omega)] at hk
        by_cases z : k < n
        · rw [x2 k z, y2 k z]
          exact h.2.2.1.2.2.2 k (by rw [e1, nI_toInt (by omega)]; omega)
        · have ek : n + (k - n) = k := by omega
          have a1 := x3 (k - n) (by omega)
          have a2 := y3 (k - n) (by omega)
          rw [ek] at a1 a2
          rw [a1]
          exact ⟨a2.1.symm, a2.2⟩
      · rw [g5 16 k (by decide) (by simp), k5 3 k (by decide) (by decide) (by simp)]
        exact h.2.2.2.1 k hk
      · have c26 : s1.1 26 = σ.1 26 := funext fun k => g5 26 k (by decide) (by simp)
        have c25 : s1.1 25 = σ.1 25 := funext fun k => g5 25 k (by decide) (by simp)
        have m21 : t1.1 21 = τ.1 21 := funext fun k => k5 21 k (by decide) (by decide) (by simp)
        have m22 : t1.1 22 = τ.1 22 := funext fun k => k5 22 k (by decide) (by decide) (by simp)
        rw [c26, c25, m21, m22, g6, k6]
        exact h.2.2.2.2
theorem zj_1 : ∀ (σ τ : sn_S) (a : Int32), zj_J σ τ → ∃ r σ1 τ1, fX8_end σ a = some (r, σ1) ∧ fX9_end τ a = some (r, τ1) ∧ zj_J σ1 τ1 := by
  intro σ τ a h
  rw [zh_cend, zh_mend, h.2.2.1.1]
  by_cases c : 0 ≤ a ∧ a ≤ τ.1 0 5
  · rw [if_pos c, if_pos c]
    have hb := h.2.1.1 0 5
    rw [show zs_tM 0 5 = (0, 900) from rfl] at hb
    have c1 := zs_I_le c.1
    have c2 := zs_I_le c.2
    have e0 : (0 : Int32).toInt = 0 := by decide
    have hb2 : (τ.1 0 5).toInt ≤ 900 := hb.2
    refine ⟨a, _, _, rfl, rfl, zs_sbw h.1 (by rw [show zs_tC 17 1 = (0, 900) from rfl]; exact ⟨by omega, by omega⟩), zs_sbw h.2.1 (by rw [show zs_tM 0 5 = (0, 900) from rfl]; exact ⟨by omega, by omega⟩), ⟨by rw [pI_self, pI_self], by rw [pI_slot (by decide), pI_slot (by decide)]; exact h.2.2.1.2.1, by rw [pI_slot (by decide), pI_slot (by decide)]; exact h.2.2.1.2.2.1, fun k hk => ?_⟩, fun k hk => ?_, ?_⟩
    · rw [pI_self] at hk
      rw [pI_ne (by decide), pI_ne (by decide)]
      exact h.2.2.1.2.2.2 k (by rw [h.2.2.1.1]; omega)
    · rw [pI_ne (by decide), pI_ne (by decide)]
      exact h.2.2.2.1 k hk
    · rw [pI_ne (by decide), pI_ne (by decide), pI_ne (by decide), pI_ne (by decide)]
      exact h.2.2.2.2
  · rw [if_neg c, if_neg c]
    exact ⟨-1, σ, τ, rfl, rfl, h⟩
theorem zj_67 : ∀ (σ τ : sn_S) (a : Int32), zj_J σ τ → ∃ r σ1 τ1, fX8_image σ a = some (r, σ1) ∧ fX9_image τ a = some (r, τ1) ∧ zj_J σ1 τ1 := by
  intro σ τ a h
  rcases zh_k3 a with ⟨j, hj, rfl⟩ | ⟨g1, g2⟩
  · obtain ⟨s, hs, e1⟩ := zh_cimage h.1 hj
    obtain ⟨t, ht, e2⟩ := zh_mimage h.2.1 hj
    obtain ⟨k1, k2, k3, k4, k5⟩ := zj_keep hs ht h
    have ev : (vp_nar FieldType.boolean 1) = 1 := by decide
    rw [ev] at e1 e2
    refine ⟨0, _, _, e1, e2, zs_sbw k1 (by rw [show zs_tC 16 j = (0, 1) from rfl]; decide), zs_sbw k2 (by rw [show zs_tM 3 j = (0, 1) from rfl]; decide), ?_, fun k hk => ?_, ?_⟩
    · exact zt_c (by rw [pI_ne (by decide)]) (by rw [pI_ne (by decide)]) (by rw [pI_ne (by decide)]) (fun k => by rw [pI_ne (by decide)]) (by rw [pI_ne (by decide)]) (by rw [pI_ne (by decide)]) (by rw [pI_ne (by decide)]) (fun k => by rw [pI_ne (by decide)]) k3
    · show (if 16 = 16 ∧ k = j then (1 : Int32) else s.1 16 k) = (if 3 = 3 ∧ k = j then (1 : Int32) else t.1 3 k)
      by_cases e : k = j
      · rw [if_pos ⟨rfl, e⟩, if_pos ⟨rfl, e⟩]
      · rw [if_neg (fun z => e z.2), if_neg (fun z => e z.2)]
        exact k4 k hk
    · rw [pI_ne (by decide), pI_ne (by decide), pI_ne (by decide), pI_ne (by decide)]
      exact k5
  · exact ⟨-2, σ, τ, zh_cimage0 g2, zh_mimage0 g1, h⟩
theorem zj_68 : ∀ (σ τ : sn_S) (a : Int32), zj_J σ τ → ∃ r σ1 τ1, fX8_back σ a = some (r, σ1) ∧ fX9_back τ a = some (r, τ1) ∧ zj_J σ1 τ1 := by
  intro σ τ a h
  rcases zh_k3 a with ⟨j, hj, rfl⟩ | ⟨g1, g2⟩
  · obtain ⟨r, s, hs, e1, q1⟩ := zh_cback h.1 hj
    obtain ⟨r2, t, ht, e2, q2⟩ := zh_mback h.2.1 hj
    have hk : sn_I σ 16 j = sn_I τ 3 j := h.2.2.2.1 j hj
    have er : r = r2 := by rw [q1, q2, hk]
    rw [← er] at e2
    exact ⟨r, s, t, e1, e2, zj_keep hs ht h⟩
  · exact ⟨-2, σ, τ, zh_cback0 g2, zh_mback0 g1, h⟩
theorem cut8 (x : Int64) : (x <<< (56 : Int64)) >>> (56 : Int64) = x.toInt32.toInt8.toInt32.toInt64 := by
  apply Int64.toBitVec_inj.mp
  simp
  apply BitVec.eq_of_getLsbD_eq
  intro i hi
  simp [BitVec.getLsbD_sshiftRight, BitVec.getLsbD_signExtend]
  by_cases h8 : i < 8
  · have h1 : 56 + i < 64 := by omega
    have h2 : i < 64 := hi
    have h3 : ¬ 64 ≤ i := by omega
    have h4 : ¬ 56 + i < 56 := by omega
    have h5 : i < 32 := by omega
    simp [h8, h1, h2, h3, h4, h5]
  · have h1 : ¬ 56 + i < 64 := by omega
    have h2 : i < 64 := hi
    have h3 : ¬ 64 ≤ i := by omega
    simp [h8, h1, h2, h3, BitVec.msb_eq_getLsbD_last, BitVec.getLsbD_signExtend, BitVec.getMsbD_eq_getLsbD, BitVec.getElem_signExtend]
theorem cut16 (x : Int64) : (x <<< (48 : Int64)) >>> (48 : Int64) = x.toInt32.toInt16.toInt32.toInt64 := by
  apply Int64.toBitVec_inj.mp
  simp
  apply BitVec.eq_of_getLsbD_eq
  intro i hi
  simp [BitVec.getLsbD_sshiftRight, BitVec.getLsbD_signExtend]
  by_cases h8 : i < 16
  · have h1 : 48 + i < 64 := by omega
    have h2 : i < 64 := hi
    have h3 : ¬ 64 ≤ i := by omega
    have h4 : ¬ 48 + i < 48 := by omega
    have h5 : i < 32 := by omega
    simp [h8, h1, h2, h3, h4, h5]
  · have h1 : ¬ 48 + i < 64 := by omega
    have h2 : i < 64 := hi
    have h3 : ¬ 64 ≤ i := by omega
    simp [h8, h1, h2, h3, BitVec.msb_eq_getLsbD_last, BitVec.getLsbD_signExtend, BitVec.getMsbD_eq_getLsbD, BitVec.getElem_signExtend]
theorem cut32 (x : Int64) : (x <<< (32 : Int64)) >>> (32 : Int64) = x.toInt32.toInt64 := by
  apply Int64.toBitVec_inj.mp
  simp
  apply BitVec.eq_of_getLsbD_eq
  intro i hi
  simp [BitVec.getLsbD_sshiftRight, BitVec.getLsbD_signExtend]
  by_cases h8 : i < 32
  · have h1 : 32 + i < 64 := by omega
    have h2 : i < 64 := hi
    have h3 : ¬ 64 ≤ i := by omega
    have h4 : ¬ 32 + i < 32 := by omega
    have h5 : i < 32 := by omega
    simp [h8, h1, h2, h3, h4, h5]
  · have h1 : ¬ 32 + i < 64 := by omega
    have h2 : i < 64 := hi
    have h3 : ¬ 64 ≤ i := by omega
    simp [h8, h1, h2, h3, BitVec.msb_eq_getLsbD_last, BitVec.getLsbD_signExtend, BitVec.getMsbD_eq_getLsbD, BitVec.getElem_signExtend]
theorem c_has (σ : sn_S) {s : Nat} (hs : s < 4) : fX6_has σ (nI s) = some (if σ.1 26 s = -1 then 0 else 1) := by
  unfold fX6_has
  rw [sn_in_nI hs (by decide), gd_T, nI_clamp (by omega)]
  show (if σ.1 26 s = -1 then _ else _) = _
  by_cases h : σ.1 26 s = -1
  · rw [if_pos h, if_pos h]
    rfl
  · rw [if_neg h, if_neg h]
    rfl
/-- what a width keeps of a number -/
def sp_keep (w : Int32) (v : Int64) : Int64 := if w = 0 then v.toInt32.toInt8.toInt32.toInt64 else if w = 1 then v.toInt32.toInt16.toInt32.toInt64 else if w = 2 then v.toInt32.toInt64 else v
theorem c_put (σ : sn_S) {s i : Nat} (hs : s < 4) (hi : i < 60) (v : Int64) : fX6_put σ (nI s) (nI i) v = some (sn_pL σ (21 + s) i (sp_keep (σ.1 25 s) v)) := by
  unfold fX6_put
  simp only [sn_in_nI hs (by decide), sn_in_nI hi (by decide), gd_T, sn_lt, nI_clamp (show s < 2 ^ 31 by omega), nI_clamp (show i < 2 ^ 31 by omega), at20 hs]
  show (if σ.1 25 s = 0 then _ else if σ.1 25 s = 1 then _ else if σ.1 25 s = 2 then _ else _) = _
  unfold sp_keep
  split
  · rfl
  · split
    · rfl
    · split <;> rfl
theorem m_cut {w : Int32} (h : 0 ≤ w ∧ w ≤ 3) (v : Int64) : fX9_cut_ v w = some (sp_keep w v) := by
  obtain ⟨k, hk, rfl⟩ := nI_idx (n := 4) (by decide) h.1 (by
    have := h.2
    rw [Int32.le_iff_toInt_le] at this
    rw [Int32.lt_iff_toInt_lt]
    exact Int.lt_of_le_of_lt this (by decide))
  unfold fX9_cut_ sn_lt
  match k, hk with
  | 0, _ => exact congrArg some ((cut8 v).trans (by simp [sp_keep, nI_0]))
  | 1, _ => exact congrArg some ((cut16 v).trans (by rw [sp_keep, if_neg (by decide), if_pos (by decide)]))
  | 2, _ => exact congrArg some ((cut32 v).trans (by rw [sp_keep, if_neg (by decide), if_neg (by decide), if_pos (by decide)]))
  | 3, _ =>
    refine congrArg some ?_
    rw [sp_keep, if_neg (by decide), if_neg (by decide), if_neg (by decide)]
    show (v <<< (0 : Int64)) >>> (0 : Int64) = v
    apply Int64.toBitVec_inj.mp
    simp
/-! paste -/
theorem zp_spans {σ : sn_S} {s : Nat} (hs : s < 4) (h0 : 0 ≤ (σ.1 26 s).toInt) (a n : Int32) : fX6_spans σ (nI s) a n = some (if 0 ≤ a.toInt ∧ 0 ≤ n.toInt ∧ a.toInt + n.toInt ≤ (σ.1 26 s).toInt then 1 else 0) := by
  have e0 : (0 : Int32).toInt = 0 := by decide
  unfold fX6_spans
  by_cases c1 : a < 0
  · have := zs_I_lt c1
    rw [if_pos c1, if_neg (by omega)]
    rfl
  · have d1 := zs_I_ltn c1
    rw [if_neg c1]
    by_cases c2 : n < 0
    · have := zs_I_lt c2
      rw [if_pos c2, if_neg (by omega)]
      rfl
    · have d2 := zs_I_ltn c2
      rw [if_neg c2, sn_in_nI hs (by decide), gd_T, nI_clamp (show s < 2 ^ 31 by omega)]
      show (if σ.1 26 s < a then _ else _) = _
      by_cases c3 : σ.1 26 s < a
      · have := zs_I_lt c3
        rw [if_pos c3, if_neg (by omega)]
        rfl
      · have d3 := zs_I_ltn c3
        have e4 : (σ.1 26 s - a).toInt = (σ.1 26 s).toInt - a.toInt := by
          have := zs_topI (σ.1 26 s)
          rw [Int32.toInt_sub, zs_bm ⟨by omega, by omega⟩]
        rw [if_neg c3, gd_T]
        show (if σ.1 26 s - a < n then _ else _) = _
        by_cases c4 : σ.1 26 s - a < n
        · have := zs_I_lt c4
          rw [if_pos c4, if_neg (by omega)]
          rfl
        · have := zs_I_ltn c4
          rw [if_neg c4, if_pos (by omega)]
          rfl
theorem zp_take (τ : sn_S) {s i n : Nat} (x3 x4 : Int32) (hs : s < 4) (hn : i + n ≤ 60) : sn_it (LX9_paste_113 (nI s) (nI i) x3 x4 (nI n)) 5000 (τ, (0 : Int32)) = some (τ.1, (fun q b => if q = 24 ∧ b < n then τ.2.1 23 (60 * s + i + b) else τ.2.1 q b), τ.2.2) := by
  obtain ⟨t, e1, e2⟩ := sn_for (f := LX9_paste_113 (nI s) (nI i) x3 x4 (nI n)) n (fun k z => z = ((τ.1, (fun q b => if q = 24 ∧ b < k then τ.2.1 23 (60 * s + i + b) else τ.2.1 q b), τ.2.2), nI k)) (fun t => t = (τ.1, (fun q b => if q = 24 ∧ b < n then τ.2.1 23 (60 * s + i + b) else τ.2.1 q b), τ.2.2))
    (fun k z hk hz => by
      subst hz
      refine ⟨_, ?_, rfl⟩
      unfold LX9_paste_113 BX9_paste_113
      rw [if_neg (show ¬ nI n ≤ nI k from nI_ge hk (by omega))]
      have ei : (60 : Int32) * nI s + nI i + nI k = nI (60 * s + i + k) := by
        rw [← nI_add, ← nI_add, ← nI_mul]
        rfl
      show sn_gd (sn_in ((60 : Int32) * nI s + nI i + nI k) 240) (sn_gd (sn_in (nI k) 60) (some (Sum.inl (sn_pL _ 24 (nI k).toNatClampNeg (sn_L _ 23 ((60 : Int32) * nI s + nI i + nI k).toNatClampNeg), nI k + 1)))) = _
      rw [ei, sn_in_nI (by omega) (by decide), gd_T, sn_in_nI (by omega) (by decide), gd_T, nI_clamp (by omega), nI_clamp (by omega), nI_1]
      refine congrArg (fun z => some (Sum.inl ((τ.1, z, τ.2.2), nI (k + 1)))) ?_
      funext q b
      show (if q = 24 ∧ b = k then (if 23 = 24 ∧ 60 * s + i + k < k then τ.2.1 23 (60 * s + i + (60 * s + i + k)) else τ.2.1 23 (60 * s + i + k)) else if q = 24 ∧ b < k then τ.2.1 23 (60 * s + i + b) else τ.2.1 q b) = _
      rw [if_neg (show ¬ (23 = 24 ∧ 60 * s + i + k < k) by omega)]
      by_cases ha : q = 24
      · by_cases hb : b = k
        · rw [if_pos ⟨ha, hb⟩, if_pos ⟨ha, by omega⟩, hb]
        · rw [if_neg (fun h => hb h.2)]
          by_cases hb2 : b < k
          · rw [if_pos ⟨ha, hb2⟩, if_pos ⟨ha, by omega⟩]
          · rw [if_neg (fun h => hb2 h.2), if_neg (fun h => hb2 (by have := h.2; omega))]
      · rw [if_neg (fun h => ha h.1), if_neg (fun h => ha h.1), if_neg (fun h => ha h.1)])
    (fun z hz => by
      subst hz
      refine ⟨_, ?_, rfl⟩
      unfold LX9_paste_113 BX9_paste_113
      rw [if_pos (show nI n ≤ nI n from Int32.le_refl _)])
    (n := 5000) (by omega) (s := (τ, (0 : Int32))) (by
      show (τ, (0 : Int32)) = _
      rw [nI_0]
      refine congrArg (fun z => ((τ.1, z, τ.2.2), (0 : Int32))) ?_
      funext a b
      rw [if_neg (by omega)])
  rw [e1, e2]
theorem zp_put (τ : sn_S) {s i n : Nat} (hs : s < 4) (hn : i + n ≤ 60) : sn_it (LX9_paste_150 (nI s) (nI i) (nI n)) 5000 (τ, (0 : Int32)) = some (τ.1, (fun q b => if q = 23 ∧ 60 * s + i ≤ b ∧ b < 60 * s + i + n then τ.2.1 24 (b - (60 * s + i)) else τ.2.1 q b), τ.2.2) := by
  obtain ⟨t, e1, e2⟩ := sn_for (f := LX9_paste_150 (nI s) (nI i) (nI n)) n (fun k z => z = ((τ.1, (fun q b => if q = 23 ∧ 60 * s + i ≤ b ∧ b < 60 * s + i + k then τ.2.1 24 (b - (60 * s + i)) else τ.2.1 q b), τ.2.2), nI k)) (fun t => t = (τ.1, (fun q b => if q = 23 ∧ 60 * s + i ≤ b ∧ b < 60 * s + i + n then τ.2.1 24 (b - (60 * s + i)) else τ.2.1 q b), τ.2.2))
    (fun k z hk hz => by
      subst hz
      refine ⟨_, ?_, rfl⟩
      unfold LX9_paste_150 BX9_paste_150
      rw [if_neg (show ¬ nI n ≤ nI k from nI_ge hk (by omega))]
      have ei : (60 : Int32) * nI s + nI i + nI k = nI (60 * s + i + k) := by
        rw [← nI_add, ← nI_add, ← nI_mul]
        rfl
      show sn_gd (sn_in (nI k) 60) (sn_gd (sn_in ((60 : Int32) * nI s + nI i + nI k) 240) (some (Sum.inl (sn_pL _ 23 ((60 : Int32) * nI s + nI i + nI k).toNatClampNeg (sn_L _ 24 (nI k).toNatClampNeg), nI k + 1)))) = _
      rw [ei, sn_in_nI (by omega) (by decide), gd_T, sn_in_nI (by omega) (by decide), gd_T, nI_clamp (by omega), nI_clamp (by omega), nI_1]
      refine congrArg (fun z => some (Sum.inl ((τ.1, z, τ.2.2), nI (k + 1)))) ?_
      funext q b
      show (if q = 23 ∧ b = 60 * s + i + k then (if 24 = 23 ∧ 60 * s + i ≤ k ∧ k < 60 * s + i + k then τ.2.1 24 (k - (60 * s + i)) else τ.2.1 24 k) else if q = 23 ∧ 60 * s + i ≤ b ∧ b < 60 * s + i + k then τ.2.1 24 (b - (60 * s + i)) else τ.2.1 q b) = _
      rw [if_neg (show ¬ (24 = 23 ∧ 60 * s + i ≤ k ∧ k < 60 * s + i + k) by omega)]
      by_cases ha : q = 23
      · by_cases hb : b = 60 * s + i + k
        · rw [if_pos ⟨ha, hb⟩, if_pos ⟨ha, by omega⟩, hb, show 60 * s + i + k - (60 * s + i) = k by omega]
        · rw [if_neg (fun h => hb h.2)]
          by_cases hb2 : 60 * s + i ≤ b ∧ b < 60 * s + i + k
          · rw [if_pos ⟨ha, hb2⟩, if_pos ⟨ha, by omega⟩]
          · rw [if_neg (fun h => hb2 h.2), if_neg (fun h => hb2 (by have := h.2; omega))]
      · rw [if_neg (fun h => ha h.1), if_neg (fun h => ha h.1), if_neg (fun h => ha h.1)])
    (fun z hz => by
      subst hz
      refine ⟨_, ?_, rfl⟩
      unfold LX9_paste_150 BX9_paste_150
      rw [if_pos (show nI n ≤ nI n from Int32.le_refl _)])
    (n := 5000) (by omega) (s := (τ, (0 : Int32))) (by
      show (τ, (0 : Int32)) = _
      rw [nI_0]
      refine congrArg (fun z => ((τ.1, z, τ.2.2), (0 : Int32))) ?_
      funext a b
      rw [if_neg (by omega)])
  rw [e1, e2]
theorem zp_lt0 {x : Int32} : (x < 0 ↔ x.toInt < 0) := by
  rw [Int32.lt_iff_toInt_lt]
  rfl
theorem zp_add {x y : Int32} : (x.toInt64 + y.toInt64).toInt = x.toInt + y.toInt := by
  have h1 := zs_topI x
  have h2 := zs_topI y
  rw [Int64.toInt_add, Int32.toInt_toInt64, Int32.toInt_toInt64, zs_bmL ⟨by omega, by omega⟩]
/-- the reference's questions ahead of a paste, once the rows are of one width -/
theorem zp_mask {τ : sn_S} {s t : Nat} (hs : s < 4) (ht : t < 4) (hm : ¬ τ.1 21 s = -1) (hm2 : ¬ τ.1 21 t = -1) (hw : τ.1 22 s = τ.1 22 t) (i k n : Int32) : fX9_paste τ (nI s) i (nI t) k n = if (0 ≤ i.toInt ∧ 0 ≤ n.toInt ∧ i.toInt + n.toInt ≤ (τ.1 21 s).toInt) ∧ (0 ≤ k.toInt ∧ 0 ≤ n.toInt ∧ k.toInt + n.toInt ≤ (τ.1 21 t).toInt) then ((sn_it (LX9_paste_113 (nI s) i (nI t) k n) 5000 (τ, (0 : Int32))).bind fun t_21 => (BX9_paste_147 t_21 (nI t) k n)) else some (-7, τ) := by
  have ms := m_isSlot (nI s)
  have mt := m_isSlot (nI t)
  have p4 : ∀ s, s < 4 → (0 ≤ nI s ∧ nI s < 4) := by decide
  rw [if_pos (p4 s hs)] at ms
  rw [if_pos (p4 t ht)] at mt
  unfold fX9_paste
  rw [ms]
  show (fX9_isSlot (nI t)).bind _ = _
  rw [mt]
  show sn_gd (sn_in (nI s) 4) _ = _
  simp only [sn_in_nI hs (show 4 < 2 ^ 31 by decide), sn_in_nI ht (show 4 < 2 ^ 31 by decide), gd_T, nI_clamp (show s < 2 ^ 31 by omega), nI_clamp (show t < 2 ^ 31 by omega)]
  have hm' : ¬ sn_I τ 21 s = -1 := hm
  have hm2' : ¬ sn_I τ 21 t = -1 := hm2
  have hw' : sn_I τ 22 s = sn_I τ 22 t := hw
  rw [if_neg hm', if_neg hm2', if_pos hw']
  by_cases c1 : i < 0
  · rw [if_pos c1, if_neg (fun z => by have := zp_lt0.mp c1; omega)]
  · rw [if_neg c1]
    have d1 : ¬ i.toInt < 0 := fun z => c1 (zp_lt0.mpr z)
    by_cases c2 : k < 0
    · rw [if_pos c2, if_neg (fun z => by have := zp_lt0.mp c2; omega)]
    · rw [if_neg c2]
      have d2 : ¬ k.toInt < 0 := fun z => c2 (zp_lt0.mpr z)
      by_cases c3 : n < 0
      · rw [if_pos c3, if_neg (fun z => by have := zp_lt0.mp c3; omega)]
      · rw [if_neg c3]
        have d3 : ¬ n.toInt < 0 := fun z => c3 (zp_lt0.mpr z)
        have q1 : (τ.1 21 s).toInt64.toInt = (τ.1 21 s).toInt := Int32.toInt_toInt64 _
        have q2 : (τ.1 21 t).toInt64.toInt = (τ.1 21 t).toInt := Int32.toInt_toInt64 _
        by_cases c4 : 0 < lg_cmp (i.toInt64 + n.toInt64) (sn_I τ 21 s).toInt64
        · have c4' := zs_lg_ltf c4
          rw [zp_add] at c4'
          have c5 : (τ.1 21 s).toInt64.toInt < i.toInt + n.toInt := c4'
          rw [if_pos c4, if_neg (fun z => by omega)]
        · have c4' := zs_lg_ltfn c4
          rw [zp_add] at c4'
          have c5 : i.toInt + n.toInt ≤ (τ.1 21 s).toInt64.toInt := c4'
          rw [if_neg c4]
          by_cases c6 : lg_cmp (k.toInt64 + n.toInt64) (sn_I τ 21 t).toInt64 ≤ 0
          · have c6' := zs_lg_le c6
            rw [zp_add] at c6'
            have c7 : k.toInt + n.toInt ≤ (τ.1 21 t).toInt64.toInt := c6'
            rw [if_pos c6, if_pos ⟨⟨by omega, by omega, by omega⟩, by omega, by omega, by omega⟩]
          · have c6' := zs_lg_len c6
            rw [zp_add] at c6'
            have c7 : (τ.1 21 t).toInt64.toInt < k.toInt + n.toInt := c6'
            rw [if_neg c6, if_neg (fun z => by omega)]
theorem zp_neg1 {x : Int32} (h1 : -1 ≤ x) (h2 : ¬ x = -1) : 0 ≤ x.toInt := by
  have a1 := zs_I_le h1
  have a2 := zs_I_eqn h2
  have e : (-1 : Int32).toInt = -1 := by decide
  omega
end
section
/-! chances of the reference: the sum of all weights is above 0 -/
theorem zq_WM {σ0 σ τ : sn_S} (h : zs_M σ0 σ) (h2 : zs_W σ τ) : zs_M σ0 τ := ⟨h2.1, fun q k hk => (h2.2.1 q k (by unfold zs_kW; rw [hk]; rfl)).trans (h.2.1 q k hk), fun q hq => (h2.2.2 q rfl).trans (h.2.2 q hq)⟩
theorem zq_w1 {σ τ : sn_S} (h : zs_W σ τ) (k : Nat) : τ.1 1 k = σ.1 1 k := h.2.1 1 k (by unfold zs_kW; rw [show Nat.beq 1 1 = true from rfl, Bool.or_true])
theorem zq_wL {σ τ : sn_S} (h : zs_W σ τ) (q : Nat) : τ.2.1 q = σ.2.1 q := h.2.2 q rfl
/-- what stays between two states in a weight's turn -/
def zq_K (σ0 σ τ : sn_S) : Prop := zs_M σ0 τ ∧ (∀ k, τ.1 1 k = σ.1 1 k) ∧ sn_L τ 0 38 = sn_L σ 0 38
theorem zq_KW {σ0 σ τ υ : sn_S} (h : zq_K σ0 σ τ) (h2 : zs_W τ υ) : zq_K σ0 σ υ := ⟨zq_WM h.1 h2, fun k => (zq_w1 h2 k).trans (h.2.1 k), by
  have := congrFun (zq_wL h2 0) 38
  exact this.trans h.2.2⟩
theorem zq_KL {σ0 σ τ : sn_S} (h : zq_K σ0 σ τ) {k : Nat} (hk : 38 ≠ k) (v : Int64) : zq_K σ0 σ (sn_pL τ 0 k v) := ⟨zs_wrL h.1 rfl, h.2.1, by
  show (if 0 = 0 ∧ 38 = k then v else sn_L τ 0 38) = _
  rw [if_neg (fun z => hk z.2)]
  exact h.2.2⟩
theorem zq_213 {σ0 σ τ : sn_S} (h : zq_K σ0 σ τ) {x1 x2 x3 x4 : Int32} {t1 t2 : Int64} : ∃ υ, BX9_layPuffs_213 τ x1 x2 x3 x4 t1 t2 = some (.inl (υ, x4 + 1)) ∧ zq_K σ0 σ υ := ⟨_, rfl, zq_KL h (by decide) _⟩
theorem zq_190 {σ0 σ τ : sn_S} (h : zq_K σ0 σ τ) {x1 x2 x3 x4 : Int32} {x5 t1 t2 : Int64} : ∃ υ, BX9_layPuffs_190 τ x1 x2 x3 x4 x5 t1 t2 = some (.inl (υ, x4 + 1)) ∧ zq_K σ0 σ υ := by
  have h1 : zq_K σ0 σ (sn_pL τ 0 40 (t1 + t2)) := zq_KL h (by decide) _
  obtain ⟨r, e, hr⟩ := zw_117 (zs_rf h1.1.1)
  have h2 := zq_KW h1 hr.2
  have e' : BX9_layPuffs_190 τ x1 x2 x3 x4 x5 t1 t2 = (if r.1 = (-1 : Int32) then (BX9_layPuffs_213 r.2 x1 x2 x3 x4 (sn_L (sn_pL τ 0 40 (t1 + t2)) 0 41) (0 : Int64)) else (BX9_layPuffs_213 r.2 x1 x2 x3 x4 (sn_L (sn_pL τ 0 40 (t1 + t2)) 0 41) x5)) := by
    unfold BX9_layPuffs_190 sn_lt
    dsimp only
    rw [e]
    rfl
  rw [e']
  by_cases c : r.1 = -1
  · rw [if_pos c]
    exact zq_213 h2
  · rw [if_neg c]
    exact zq_213 h2
theorem zq_158 {σ0 σ τ : sn_S} (h : zq_K σ0 σ τ) {x1 x2 x3 x4 : Int32} {x5 t1 t2 : Int64} (h3 : zs_in x3.toInt 0 5) : ∃ υ, BX9_layPuffs_158 τ x1 x2 x3 x4 x5 t1 t2 = some (.inl (υ, x4 + 1)) ∧ zq_K σ0 σ υ := by
  have h1 : zq_K σ0 σ (sn_pL τ 0 39 (t1 + t2)) := zq_KL h (by decide) _
  obtain ⟨r, e, hr⟩ := zw_85 (zs_rf h1.1.1) h3
  have h2 := zq_KW h1 hr.2
  have e' : BX9_layPuffs_158 τ x1 x2 x3 x4 x5 t1 t2 = (if (sn_I (sn_pL τ 0 39 (t1 + t2)) 1 (8 : Int32).toNatClampNeg) ≤ 0 then (BX9_layPuffs_190 (sn_pL τ 0 39 (t1 + t2)) x1 x2 x3 x4 x5 (sn_L (sn_pL τ 0 39 (t1 + t2)) 0 40) (0 : Int64)) else (BX9_layPuffs_190 r.2 x1 x2 x3 x4 x5 (sn_L (sn_pL τ 0 39 (t1 + t2)) 0 40) (x5 * r.1.toInt64))) := by
    unfold BX9_layPuffs_158 sn_lt
    dsimp only
    rw [e, show sn_in (8 : Int32) 119 = true by decide, gd_T, Option.bind_some]
  rw [e']
  by_cases c : (sn_I (sn_pL τ 0 39 (t1 + t2)) 1 (8 : Int32).toNatClampNeg) ≤ 0
  · rw [if_pos c]
    exact zq_190 h1
  · rw [if_neg c]
    exact zq_190 h2
theorem zq_113 {σ0 σ : sn_S} (h : zs_M σ0 σ) {x1 x2 x3 x4 : Int32} {v : Int64} (h2 : zs_in x2.toInt 0 5) (h3 : zs_in x3.toInt 0 5) (hv : v.toInt ≠ 0) : ∃ υ, BX9_layPuffs_113 σ x1 x2 x3 x4 v = some (.inl (υ, x4 + 1)) ∧ zs_M σ0 υ ∧ (∀ k, υ.1 1 k = σ.1 1 k) ∧ sn_L υ 0 38 = sn_L σ 0 38 + v := by
  have c0 : ¬ lg_cmp v 0 = 0 := fun z => hv (by have := zs_lg_eq z; rw [this]; decide)
  obtain ⟨t, e, ht⟩ := zw_57 (zs_rf (key := zs_kW) (kl := zs_lN) h.1)
  have eL : sn_L t 0 38 = sn_L σ 0 38 := congrFun (zq_wL ht 0) 38
  have hM := zq_WM h ht
  have hb : zs_M σ0 (sn_pL t 0 38 (sn_L t 0 38 + v)) := zs_wrL hM rfl
  have hK : zq_K σ0 (sn_pL t 0 38 (sn_L t 0 38 + v)) (sn_pL t 0 38 (sn_L t 0 38 + v)) := ⟨hb, fun _ => rfl, rfl⟩
  have fin : ∀ {υ : sn_S}, zq_K σ0 (sn_pL t 0 38 (sn_L t 0 38 + v)) υ → zs_M σ0 υ ∧ (∀ k, υ.1 1 k = σ.1 1 k) ∧ sn_L υ 0 38 = sn_L σ 0 38 + v := fun {υ} hu => ⟨hu.1, fun k => (hu.2.1 k).trans (zq_w1 ht k), by
    rw [hu.2.2, ← eL]
    show (if 0 = 0 ∧ 38 = 38 then sn_L t 0 38 + v else sn_L t 0 38) = _
    rw [if_pos ⟨rfl, rfl⟩]⟩
  unfold BX9_layPuffs_113
  rw [if_neg c0, e]
  show ∃ υ, sn_gd (sn_in x2 6) (if (sn_I (sn_pL t 0 38 (sn_L t 0 38 + v)) 10 x2.toNatClampNeg) = 0 then _ else _) = _ ∧ _
  rw [zs_gin h2 (by decide), gd_T]
  by_cases c : (sn_I (sn_pL t 0 38 (sn_L t 0 38 + v)) 10 x2.toNatClampNeg) = 0
  · rw [if_pos c]
    obtain ⟨υ, e1, hu⟩ := zq_158 hK (x1 := x1) (x2 := x2) (x4 := x4) (x5 := v) (t1 := sn_L (sn_pL t 0 38 (sn_L t 0 38 + v)) 0 39) (t2 := 0) h3
    exact ⟨υ, e1, fin hu⟩
  · rw [if_neg c]
    obtain ⟨υ, e1, hu⟩ := zq_158 hK (x1 := x1) (x2 := x2) (x4 := x4) (x5 := v) (t1 := sn_L (sn_pL t 0 38 (sn_L t 0 38 + v)) 0 39) (t2 := v) h3
    exact ⟨υ, e1, fin hu⟩
/-- the weight of a set of puffs -/
theorem zq_46 {σ0 σ : sn_S} (h : zs_M σ0 σ) {x : Nat} (hx : x < 8) {x2 x3 x4 : Int32} {o : Int} (ho : (sn_I σ 1 4).toInt = o) (G : Prop) (hG : G → ∀ k, k ≤ x → ((x4 >>> (nI k &&& 31)) &&& (1 : Int32) = 1 → 1 ≤ o) ∧ (¬ (x4 >>> (nI k &&& 31)) &&& (1 : Int32) = 1 → o ≤ 9)) :
    ∃ t, sn_it (LX9_layPuffs_46 (nI x) x2 x3 x4) 5000 (σ, (1 : Int64), (0 : Int32)) = some t ∧ (zs_M σ0 t.1 ∧ (∀ k, t.1.1 1 k = σ.1 1 k) ∧ (sn_L t.1 0 38 = sn_L σ 0 38) ∧ 0 ≤ t.2.toInt ∧ t.2.toInt ≤ 10 ^ (x + 1) ∧ (G → 1 ≤ t.2.toInt)) := by
  have hb := h.1.1 1 4
  rw [show zs_tM 1 4 = (0, 10) from rfl] at hb
  have hb1 : 0 ≤ o := by rw [← ho]; exact hb.1
  have hb2 : o ≤ 10 := by rw [← ho]; exact hb.2
  refine sn_for (f := LX9_layPuffs_46 (nI x) x2 x3 x4) (x + 1) (fun k z => z.2.2 = nI k ∧ zs_M σ0 z.1 ∧ (∀ k, z.1.1 1 k = σ.1 1 k) ∧ sn_L z.1 0 38 = sn_L σ 0 38 ∧ 0 ≤ z.2.1.toInt ∧ z.2.1.toInt ≤ 10 ^ k ∧ (G → 1 ≤ z.2.1.toInt)) _
    (fun k z hk hz => ?_) (fun z hz => ?_) (n := 5000) (by omega) (s := (σ, (1 : Int64), (0 : Int32))) ⟨nI_0.symm, h, fun _ => rfl, rfl, (show 0 ≤ (1 : Int64).toInt by decide), (show (1 : Int64).toInt ≤ 10 ^ 0 by decide), fun _ => (show 1 ≤ (1 : Int64).toInt by decide)⟩
  · obtain ⟨ρ, v, i⟩ := z
    obtain ⟨rfl, hM, h1, hL, v0, v1, vG⟩ := hz
    have v0 : 0 ≤ v.toInt := v0
    have v1 : v.toInt ≤ 10 ^ k := v1
    have hp : (10 : Int) ^ k ≤ 10 ^ 8 := by
      have : ∀ k, k < 9 → (10 : Int) ^ k ≤ 10 ^ 8 := by decide
      exact this k (by omega)
    have hp2 : (10 : Int) ^ (k + 1) = 10 ^ k * 10 := Int.pow_succ 10 k
    have ik : sn_in (nI k) 30 = true := sn_in_nI (by omega) (by decide)
    generalize hbit : (x4 >>> (nI k &&& 31)) &&& (1 : Int32) = b
    have ebit : fX9_bit x4 (nI k) = some b := by rw [← hbit]; rfl
    have hρ : zs_M σ0 (sn_pI ρ 7 k ((sn_I ρ 7 k) + ((3 : Int32) * b))) := zs_wrt hM (fun _ => rfl) (fun _ => rfl)
    have hρ1 : ∀ j, (sn_pI ρ 7 k ((sn_I ρ 7 k) + ((3 : Int32) * b))).1 1 j = σ.1 1 j := fun j => by
      rw [pI_ne (by decide)]
      exact h1 j
    have eo : sn_I (sn_pI ρ 7 k ((sn_I ρ 7 k) + ((3 : Int32) * b))) 1 4 = sn_I σ 1 4 := hρ1 4
    have step : ∀ w : Int64, 0 ≤ w.toInt → w.toInt ≤ 10 → (G → 1 ≤ w.toInt) → 0 ≤ (v * w).toInt ∧ (v * w).toInt ≤ 10 ^ (k + 1) ∧ (G → 1 ≤ (v * w).toInt) := by
      intro w w0 w1 wG
      have m1 : 0 ≤ v.toInt * w.toInt := Int.mul_nonneg v0 w0
      have m2 : v.toInt * w.toInt ≤ 10 ^ k * 10 := Int.mul_le_mul v1 w1 w0 (by omega)
      have e : (v * w).toInt = v.toInt * w.toInt := by
        rw [Int64.toInt_mul, zs_bmL ⟨by omega, by omega⟩]
      rw [e, hp2]
      refine ⟨m1, m2, fun g => ?_⟩
      have g1 := vG g
      have g2 := wG g
      have g1 : 1 ≤ v.toInt := g1
      have := Int.mul_le_mul g1 g2 (by omega) (by omega)
      omega
    by_cases cb : b = 1
    · obtain ⟨s1, s2, s3⟩ := step (sn_I σ 1 4).toInt64 (by rw [Int32.toInt_toInt64]; omega) (by rw [Int32.toInt_toInt64]; omega) (fun g => by rw [Int32.toInt_toInt64, ho]; exact (hG g k (by omega)).1 (by rw [hbit]; exact cb))
      refine ⟨(sn_pI ρ 7 k ((sn_I ρ 7 k) + ((3 : Int32) * b)), v * (sn_I σ 1 4).toInt64, nI (k + 1)), ?_, rfl, hρ, hρ1, hL, s1, s2, s3⟩
      unfold LX9_layPuffs_46 BX9_layPuffs_46
      show (if nI x < nI k then _ else _) = _
      rw [if_neg (nI_nlt (by omega) (by omega)), ik, gd_T, ebit]
      show sn_gd true _ = _
      rw [gd_T, nI_clamp (by omega)]
      show (if b = 1 then _ else _) = _
      rw [if_pos cb]
      show BX9_layPuffs_104 (sn_pI ρ 7 k ((sn_I ρ 7 k) + ((3 : Int32) * b))) (nI x) x2 x3 x4 v (nI k) v (sn_I (sn_pI ρ 7 k ((sn_I ρ 7 k) + ((3 : Int32) * b))) 1 4).toInt64 = _
      rw [eo, ← nI_1]
      rfl
    · have e10 : ((10 : Int32) - sn_I σ 1 4).toInt = 10 - o := by
        rw [Int32.toInt_sub, ho, show (10 : Int32).toInt = 10 by decide, zs_bm ⟨by omega, by omega⟩]
      obtain ⟨s1, s2, s3⟩ := step ((10 : Int32) - sn_I σ 1 4).toInt64 (by rw [Int32.toInt_toInt64]; omega) (by rw [Int32.toInt_toInt64]; omega) (fun g => by rw [Int32.toInt_toInt64, e10]; have := (hG g k (by omega)).2 (by rw [hbit]; exact cb); omega)
      refine ⟨(sn_pI ρ 7 k ((sn_I ρ 7 k) + ((3 : Int32) * b)), v * ((10 : Int32) - sn_I σ 1 4).toInt64, nI (k + 1)), ?_, rfl, hρ, hρ1, hL, s1, s2, s3⟩
      unfold LX9_layPuffs_46 BX9_layPuffs_46
      show (if nI x < nI k then _ else _) = _
      rw [if_neg (nI_nlt (by omega) (by omega)), ik, gd_T, ebit]
      show sn_gd true _ = _
      rw [gd_T, nI_clamp (by omega)]
      show (if b = 1 then _ else _) = _
      rw [if_neg cb]
      show BX9_layPuffs_104 (sn_pI ρ 7 k ((sn_I ρ 7 k) + ((3 : Int32) * b))) (nI x) x2 x3 x4 v (nI k) v ((10 : Int32) - sn_I (sn_pI ρ 7 k ((sn_I ρ 7 k) + ((3 : Int32) * b))) 1 4).toInt64 = _
      rw [eo, ← nI_1]
      rfl
  · obtain ⟨ρ, v, i⟩ := z
    obtain ⟨rfl, hM, h1, hL, v0, v1, vG⟩ := hz
    refine ⟨(ρ, v), ?_, hM, h1, hL, v0, v1, vG⟩
    unfold LX9_layPuffs_46 BX9_layPuffs_46
    rw [if_pos (nI_lt (by omega) (by omega))]

theorem zq_bit0 : ∀ k, k < 8 → ¬ (((0 : Int32) >>> (nI k &&& 31)) &&& (1 : Int32) = 1) := by decide +kernel
theorem zq_bit1 : ∀ x, x < 8 → ∀ k, k < x + 1 → ((nI (2 ^ (x + 1) - 1)) >>> (nI k &&& 31)) &&& (1 : Int32) = 1 := by decide +kernel
theorem zq_two : ∀ x, x < 8 → (2 : Int32) <<< (nI x &&& 31) = nI (2 ^ (x + 1)) := by decide +kernel
theorem zq_lay {σ0 σ : sn_S} (h : zs_M σ0 σ) {x : Nat} (hx : x < 8) {x2 x3 : Int32} (h2 : zs_in x2.toInt 0 5) (h3 : zs_in x3.toInt 0 5) : ∃ t, fX9_layPuffs σ (nI x) x2 x3 = some t ∧ (zs_M σ0 t ∧ (sn_L t 0 38).toInt ≠ 0) := by
  obtain ⟨o, ho⟩ : ∃ o, o = (sn_I σ 1 4).toInt := ⟨_, rfl⟩
  have hb := h.1.1 1 4
  rw [show zs_tM 1 4 = (0, 10) from rfl] at hb
  have hb1 : 0 ≤ o := by rw [ho]; exact hb.1
  have hb2 : o ≤ 10 := by rw [ho]; exact hb.2
  have hp : (10 : Int) ^ (x + 1) ≤ 100000000 ∧ 2 ^ (x + 1) ≤ 256 ∧ 2 ≤ 2 ^ (x + 1) := by
    have : ∀ x, x < 8 → (10 : Int) ^ (x + 1) ≤ 100000000 ∧ 2 ^ (x + 1) ≤ 256 ∧ 2 ≤ 2 ^ (x + 1) := by decide
    exact this x hx
  obtain ⟨hp1, hp2, hp3⟩ := hp
  have h7 : zs_M σ0 (sn_pL (sn_pL (sn_pL (sn_pL σ 0 38 0) 0 39 0) 0 40 0) 0 41 0) := zs_wrL (zs_wrL (zs_wrL (zs_wrL h rfl) rfl) rfl) rfl
  generalize hs7 : sn_pL (sn_pL (sn_pL (sn_pL σ 0 38 0) 0 39 0) 0 40 0) 0 41 0 = σ7 at h7
  have h7w : ∀ k, σ7.1 1 k = σ.1 1 k := fun k => by rw [← hs7]; rfl
  have h7L : sn_L σ7 0 38 = 0 := by rw [← hs7]; rfl
  generalize hN : 2 ^ (x + 1) = N at hp2 hp3
  obtain ⟨t, e, ht⟩ := sn_for (f := LX9_layPuffs_23 (nI x) x2 x3) N (fun j z => z.2 = nI j ∧ zs_M σ0 z.1 ∧ (∀ k, z.1.1 1 k = σ.1 1 k) ∧ (0 ≤ (sn_L z.1 0 38).toInt ∧ (sn_L z.1 0 38).toInt ≤ 100000000 * (j : Int)) ∧ (o ≤ 9 → 1 ≤ j → 1 ≤ (sn_L z.1 0 38).toInt) ∧ (o = 10 → j = N → 1 ≤ (sn_L z.1 0 38).toInt)) (fun t => zs_M σ0 t ∧ (sn_L t 0 38).toInt ≠ 0)
    (fun j z hj hz => by
      obtain ⟨ρ, i⟩ := z
      obtain ⟨rfl, hM, hw, hA, hA1, hA2⟩ := hz
      have hA : 0 ≤ (sn_L ρ 0 38).toInt ∧ (sn_L ρ 0 38).toInt ≤ 100000000 * (j : Int) := hA
      obtain ⟨u, e1, hu⟩ := zw_11 (zs_rf (key := zs_kW) (kl := zs_lN) hM.1)
      have huM := zq_WM hM hu
      have hi : zs_in (nI x).toInt 0 7 := by rw [nI_toInt (by omega)]; exact ⟨by omega, by omega⟩
      have h22 : zs_M σ0 (sn_pI u 0 22 (nI x)) := zs_wrk (z := (-1, 29)) huM rfl hi (by decide) rfl
      have hw2 : ∀ k, (sn_pI u 0 22 (nI x)).1 1 k = σ.1 1 k := fun k => by
        rw [pI_ne (by decide), zq_w1 hu k]
        exact hw k
      have hL2 : sn_L (sn_pI u 0 22 (nI x)) 0 38 = sn_L ρ 0 38 := congrFun (zq_wL hu 0) 38
      obtain ⟨w, e2, g1, g2, g3, g4, g5, g6⟩ := zq_46 h22 hx (x2 := x2) (x3 := x3) (x4 := nI j) (o := o) (by rw [show sn_I (sn_pI u 0 22 (nI x)) 1 4 = sn_I σ 1 4 from hw2 4]; exact ho.symm) ((o ≤ 9 ∧ j = 0) ∨ (o = 10 ∧ j = N - 1)) (fun g k hk => by
        rcases g with ⟨o9, j0⟩ | ⟨o10, jN⟩
        · refine ⟨fun z => absurd z ?_, fun _ => o9⟩
          rw [j0, nI_0]
          exact zq_bit0 k (by omega)
        · refine ⟨fun _ => by omega, fun z => absurd ?_ z⟩
          rw [jN, ← hN]
          exact zq_bit1 x hx k (by omega))
      have head : LX9_layPuffs_23 (nI x) x2 x3 (ρ, nI j) = BX9_layPuffs_113 w.1 (nI x) x2 x3 (nI j) w.2 := by
        unfold LX9_layPuffs_23 BX9_layPuffs_23
        show (if (2 : Int32) <<< (nI x &&& 31) ≤ nI j then _ else _) = _
        rw [zq_two x hx, hN, if_neg (nI_ge hj (by omega))]
        show (fX9_asItIs ρ).bind _ = _
        rw [e1]
        show ((sn_it (LX9_layPuffs_46 (nI x) x2 x3 (nI j)) 5000 (sn_pI u 0 22 (nI x), (1 : Int64), (0 : Int32))).bind _) = _
        rw [e2, Option.bind_some]
      by_cases hv : w.2.toInt = 0
      · refine ⟨(w.1, nI j + 1), ?_, nI_1 j, g1, fun k => (g2 k).trans (hw2 k), ?_, fun a b => ?_, fun a b => ?_⟩
        · rw [head]
          unfold BX9_layPuffs_113
          have c0 : lg_cmp w.2 0 = 0 := by
            have : w.2 = 0 := Int64.toInt_inj.mp (by rw [hv]; decide)
            rw [this]
            decide
          rw [if_pos c0]
          rfl
        · show 0 ≤ (sn_L w.1 0 38).toInt ∧ (sn_L w.1 0 38).toInt ≤ 100000000 * ((j + 1 : Nat) : Int)
          rw [g3, hL2]
          exact ⟨hA.1, by omega⟩
        · show 1 ≤ (sn_L w.1 0 38).toInt
          rw [g3, hL2]
          by_cases j0 : j = 0
          · have := g6 (Or.inl ⟨a, j0⟩)
            omega
          · exact hA1 a (by omega)
        · exfalso
          have := g6 (Or.inr ⟨a, by omega⟩)
          omega
      · obtain ⟨υ, e3, k1, k2, k3⟩ := zq_113 g1 (x1 := nI x) (x2 := x2) (x3 := x3) (x4 := nI j) h2 h3 hv
        have eL : (sn_L υ 0 38).toInt = (sn_L ρ 0 38).toInt + w.2.toInt := by
          rw [k3, g3, hL2, Int64.toInt_add, zs_bmL ⟨by omega, by omega⟩]
        refine ⟨(υ, nI j + 1), head.trans e3, nI_1 j, k1, fun k => (k2 k).trans ((g2 k).trans (hw2 k)), ?_, fun a b => ?_, fun a b => ?_⟩
        · show 0 ≤ (sn_L υ 0 38).toInt ∧ (sn_L υ 0 38).toInt ≤ 100000000 * ((j + 1 : Nat) : Int)
          rw [eL]
          exact ⟨by omega, by omega⟩
        · show 1 ≤ (sn_L υ 0 38).toInt
          rw [eL]
          omega
        · show 1 ≤ (sn_L υ 0 38).toInt
          rw [eL]
          omega)
    (fun z hz => by
      obtain ⟨ρ, i⟩ := z
      obtain ⟨rfl, hM, hw, hA, hA1, hA2⟩ := hz
      refine ⟨ρ, ?_, hM, ?_⟩
      · unfold LX9_layPuffs_23 BX9_layPuffs_23
        show (if (2 : Int32) <<< (nI x &&& 31) ≤ nI N then _ else _) = _
        rw [zq_two x hx, hN, if_pos (Int32.le_refl _)]
      · by_cases o9 : o ≤ 9
        · have := hA1 o9 (by omega)
          intro z
          have z : (sn_L ρ 0 38).toInt = 0 := z
          have this : 1 ≤ (sn_L ρ 0 38).toInt := this
          omega
        · have := hA2 (by omega) rfl
          intro z
          have z : (sn_L ρ 0 38).toInt = 0 := z
          have this : 1 ≤ (sn_L ρ 0 38).toInt := this
          omega)
    (n := 5000) (by omega) (s := (σ7, (0 : Int32))) ⟨nI_0.symm, h7, h7w, by show 0 ≤ (sn_L σ7 0 38).toInt ∧ (sn_L σ7 0 38).toInt ≤ _; rw [h7L]; decide, fun _ b => absurd b (by omega), fun _ b => absurd b (by omega)⟩
  refine ⟨t, ?_, ht⟩
  show ((sn_it (LX9_layPuffs_23 (nI x) x2 x3) 5000 (sn_pL (sn_pL (sn_pL (sn_pL σ 0 38 0) 0 39 0) 0 40 0) 0 41 0, (0 : Int32))).bind _) = _
  rw [hs7, e]
  rfl
theorem zq_rem (x y : Int64) (hy : y.toInt ≠ 0) : (x - x / y * y).toInt = x.toInt.tmod y.toInt := by
  have h1 := zs_topL y
  have h2 : (x.toInt.tmod y.toInt).natAbs < y.toInt.natAbs := by
    rw [Int.natAbs_tmod]
    exact Nat.mod_lt _ (by omega)
  rw [Int64.toInt_sub, Int64.toInt_mul, Int64.toInt_div, Int.bmod_mul_bmod]
  rw [Int.sub_bmod_bmod, show x.toInt - x.toInt.tdiv y.toInt * y.toInt = x.toInt.tmod y.toInt by rw [Int.tmod_def, Int.mul_comm]]
  exact zs_bmL ⟨by omega, by omega⟩
theorem zq_gcd : ∀ (k n : Nat) (x y : Int64), x.toInt.natAbs + y.toInt.natAbs < 2 ^ k → y.toInt.natAbs < x.toInt.natAbs → 2 * k + 2 ≤ n → ∃ t, sn_it LX9_divisor_6 n (x, y) = some t ∧ t.toInt ≠ 0 := by
  have stop : ∀ (n : Nat) (x y : Int64), y.toInt.natAbs < x.toInt.natAbs → y.toInt = 0 → ∃ t, sn_it LX9_divisor_6 (n + 1) (x, y) = some t ∧ t.toInt ≠ 0 := by
    intro n x y h0 hy
    refine ⟨x, ?_, by omega⟩
    have e : y = 0 := Int64.toInt_inj.mp (by rw [hy]; decide)
    unfold sn_it LX9_divisor_6 BX9_divisor_6
    rw [if_pos (show lg_cmp (x, y).2 0 = 0 by show lg_cmp y 0 = 0; rw [e]; decide)]
  have go : ∀ (n : Nat) (x y : Int64), y.toInt ≠ 0 → sn_it LX9_divisor_6 (n + 1) (x, y) = sn_it LX9_divisor_6 n (y, x - x / y * y) := by
    intro n x y hy
    have c0 : ¬ lg_cmp y 0 = 0 := fun z => hy (by have := zs_lg_eq z; rw [this]; decide)
    have nz : (y != 0) = true := zs_nzqL (by rw [show (0 : Int64).toInt = 0 by decide]; exact hy)
    have e : LX9_divisor_6 (x, y) = some (.inl (y, x - x / y * y)) := by
      unfold LX9_divisor_6 BX9_divisor_6
      show (if lg_cmp y 0 = 0 then _ else sn_gd (y != 0) _) = _
      rw [if_neg c0, nz, gd_T]
      rfl
    rw [sn_it, e]
  intro k
  induction k with
  | zero => intro n x y h0 h1 _; omega
  | succ k ih =>
    intro n x y h0 h1 hn
    obtain ⟨n, rfl⟩ : ∃ m, n = m + 2 := ⟨n - 2, by omega⟩
    by_cases hy : y.toInt = 0
    · exact stop (n + 1) x y h1 hy
    · rw [go (n + 1) x y hy]
      have r1 := zq_rem x y hy
      generalize x - x / y * y = r at r1 ⊢
      have a1 : r.toInt.natAbs = x.toInt.natAbs % y.toInt.natAbs := by rw [r1, Int.natAbs_tmod]
      have a2 : r.toInt.natAbs < y.toInt.natAbs := by rw [a1]; exact Nat.mod_lt _ (by omega)
      have a3 : y.toInt.natAbs + r.toInt.natAbs ≤ x.toInt.natAbs := by
        have q1 := Nat.div_add_mod x.toInt.natAbs y.toInt.natAbs
        have q2 : 1 ≤ x.toInt.natAbs / y.toInt.natAbs := (Nat.le_div_iff_mul_le (by omega)).mpr (by omega)
        have q3 := Nat.mul_le_mul_left y.toInt.natAbs q2
        rw [← a1] at q1
        omega
      by_cases hr : r.toInt = 0
      · exact stop n y r a2 hr
      · rw [go n y r hr]
        have r2 := zq_rem y r hr
        generalize y - y / r * r = u at r2 ⊢
        have b1 : u.toInt.natAbs = y.toInt.natAbs % r.toInt.natAbs := by rw [r2, Int.natAbs_tmod]
        have b2 : u.toInt.natAbs < r.toInt.natAbs := by rw [b1]; exact Nat.mod_lt _ (by omega)
        have b3 : r.toInt.natAbs + u.toInt.natAbs ≤ y.toInt.natAbs := by
          have q1 := Nat.div_add_mod y.toInt.natAbs r.toInt.natAbs
          have q2 : 1 ≤ y.toInt.natAbs / r.toInt.natAbs := (Nat.le_div_iff_mul_le (by omega)).mpr (by omega)
          have q3 := Nat.mul_le_mul_left r.toInt.natAbs q2
          rw [← b1] at q1
          omega
        have hp : 2 ^ (k + 1) = 2 * 2 ^ k := by rw [Nat.pow_succ, Nat.mul_comm]
        exact ih n r u (by omega) b2 (by omega)
theorem zq_div {a b : Int64} (hb : b.toInt ≠ 0) : ∃ t, fX9_divisor a b = some t ∧ t.toInt ≠ 0 := by
  have key : ∃ t, sn_it LX9_divisor_6 5000 (a, b) = some t ∧ t.toInt ≠ 0 := by
    have c0 : ¬ lg_cmp b 0 = 0 := fun z => hb (by have := zs_lg_eq z; rw [this]; decide)
    have nz : (b != 0) = true := zs_nzqL (by rw [show (0 : Int64).toInt = 0 by decide]; exact hb)
    have e : LX9_divisor_6 (a, b) = some (.inl (b, a - a / b * b)) := by
      unfold LX9_divisor_6 BX9_divisor_6
      show (if lg_cmp b 0 = 0 then _ else sn_gd (b != 0) _) = _
      rw [if_neg c0, nz, gd_T]
      rfl
    have r1 := zq_rem a b hb
    have hbb := zs_topL b
    have e2 : sn_it LX9_divisor_6 (4999 + 1) (a, b) = sn_it LX9_divisor_6 4999 (b, a - a / b * b) := by rw [sn_it, e]
    show ∃ t, sn_it LX9_divisor_6 (4999 + 1) (a, b) = some t ∧ _
    rw [e2]
    generalize a - a / b * b = r at r1 ⊢
    have a2 : r.toInt.natAbs < b.toInt.natAbs := by rw [r1, Int.natAbs_tmod]; exact Nat.mod_lt _ (by omega)
    exact zq_gcd 65 4999 b r (by omega) a2 (by omega)
  obtain ⟨t, e, ht⟩ := key
  refine ⟨t, ?_, ht⟩
  unfold fX9_divisor
  rw [e]
  rfl
theorem zq_part {a b : Int64} (hb : b.toInt ≠ 0) (w : Int32) : ∃ t, fX9_part a b w = some t := by
  obtain ⟨t, e, ht⟩ := zq_div (a := a) hb
  have nz : (t != 0) = true := zs_nzqL (by rw [show (0 : Int64).toInt = 0 by decide]; exact ht)
  unfold fX9_part BX9_part_10
  rw [e]
  by_cases c : w = 0
  · rw [if_pos c]
    exact ⟨_, by show sn_gd (t != 0) _ = _; rw [nz, gd_T]⟩
  · rw [if_neg c]
    exact ⟨_, by show sn_gd (t != 0) _ = _; rw [nz, gd_T]⟩
theorem zq_chance {σ : sn_S} (h : zs_SB zs_tM σ) (a b c : Int32) : zs_ok (fX9_chance σ a b c) (fun r => zs_M σ r.2) := by
  unfold fX9_chance
  refine zs_bd_ (zc_6 (zs_rf (key := zs_kM) (kl := zs_lM) h) (zs_64 (zs_topI a))) (fun t ht => ?_)
  refine zs_ite (fun _ => zs_some (zs_rf h)) (fun c1 => ?_)
  have f1 := zs_or3 ht.2 (zs_I_eqn c1) (show zs_in (0 : Int32).toInt 0 0 by decide) (by decide)
  refine zs_bd_ (zc_1531 (zs_rf (key := zs_kM) (kl := zs_lM) h)) (fun u hu => ?_)
  refine zs_ite (fun _ => zs_some (zs_rf h)) (fun c2 => ?_)
  have f2 := zs_or3 hu.2 (zs_I_eqn c2) (show zs_in (0 : Int32).toInt 0 0 by decide) (by decide)
  obtain ⟨x, hx, ex⟩ := zs_val f2.1 (by decide)
  have hx : x < 8 := hx
  subst ex
  refine zs_bd_ (zq_lay (zs_rf h) hx (zs_64r f1) (show zs_in (0 : Int32).toInt 0 5 by decide)) (fun v hv => ?_)
  obtain ⟨w, ew⟩ := zq_part (a := sn_L v 0 39) hv.2 c
  rw [ew]
  exact zs_some hv.1
theorem zq_fair {σ : sn_S} (h : zs_SB zs_tM σ) (a b c : Int32) : zs_ok (fX9_fair σ a b c) (fun r => zs_M σ r.2) := by
  unfold fX9_fair
  refine zs_bd_ (zc_11 (zs_rf (key := zs_kM) (kl := zs_lM) h)) (fun t ht => ?_)
  refine zs_ite (fun _ => zs_some (zs_rf h)) (fun c1 => ?_)
  have f1 := zs_or3 ht.2 (zs_I_eqn c1) (show zs_in (0 : Int32).toInt 0 0 by decide) (by decide)
  refine zs_bd_ (zc_1531 (zs_rf (key := zs_kM) (kl := zs_lM) h)) (fun u hu => ?_)
  refine zs_ite (fun _ => zs_some (zs_rf h)) (fun c2 => ?_)
  have f2 := zs_or3 hu.2 (zs_I_eqn c2) (show zs_in (0 : Int32).toInt 0 0 by decide) (by decide)
  obtain ⟨x, hx, ex⟩ := zs_val f2.1 (by decide)
  have hx : x < 8 := hx
  subst ex
  refine zs_bd_ (zq_lay (zs_rf h) hx (show zs_in (0 : Int32).toInt 0 5 by decide) f1) (fun v hv => ?_)
  obtain ⟨w, ew⟩ := zq_part (a := sn_L v 0 40) hv.2 c
  rw [ew]
  exact zs_some hv.1
theorem zq_risk {σ : sn_S} (h : zs_SB zs_tM σ) (b c : Int32) : zs_ok (fX9_risk σ b c) (fun r => zs_M σ r.2) := by
  unfold fX9_risk
  refine zs_bd_ (zc_1531 (zs_rf (key := zs_kM) (kl := zs_lM) h)) (fun u hu => ?_)
  refine zs_ite (fun _ => zs_some (zs_rf h)) (fun c2 => ?_)
  have f2 := zs_or3 hu.2 (zs_I_eqn c2) (show zs_in (0 : Int32).toInt 0 0 by decide) (by decide)
  obtain ⟨x, hx, ex⟩ := zs_val f2.1 (by decide)
  have hx : x < 8 := hx
  subst ex
  refine zs_bd_ (zq_lay (zs_rf h) hx (show zs_in (0 : Int32).toInt 0 5 by decide) (show zs_in (0 : Int32).toInt 0 5 by decide)) (fun v hv => ?_)
  obtain ⟨w, ew⟩ := zq_part (a := sn_L v 0 41) hv.2 c
  rw [ew]
  exact zs_some hv.1
end
section
/-! price of the reference: it ends -/
theorem zr_it1 {S T : Type} {f : S → Option (S ⊕ T)} {n : Nat} {s : S} {A : S → Prop} {E E2 : T → Prop} (h : zs_ok (f s) (zs_sum A E)) (k : ∀ s', A s' → zs_ok (sn_it f n s') E2) (w : ∀ t, E t → E2 t) : zs_ok (sn_it f (n + 1) s) E2 := by
  obtain ⟨o, e, ho⟩ := h
  unfold sn_it
  rw [e]
  cases o with
  | inl s' => exact k s' ho
  | inr t => exact ⟨t, rfl, w t ho⟩
theorem zr_VM {σ0 σ τ : sn_S} (h : zs_M σ0 σ) (h2 : zs_V σ τ) : zs_M σ0 τ := ⟨h2.1, fun q k hk => (h2.2.1 q k (by
  unfold zs_kV
  cases e1 : Nat.beq q 16 with
  | true =>
    have : q = 16 := Nat.eq_of_beq_eq_true e1
    subst this
    exact absurd hk (by show ¬ (false = true); decide)
  | false =>
    cases e2 : Nat.beq q 0 with
    | false => rfl
    | true =>
      cases e3 : Nat.beq k 30 with
      | false => rfl
      | true =>
        have a1 : q = 0 := Nat.eq_of_beq_eq_true e2
        have a2 : k = 30 := Nat.eq_of_beq_eq_true e3
        subst a1
        subst a2
        exact absurd hk (by decide))).trans (h.2.1 q k hk), fun q hq => (h2.2.2 q rfl).trans (h.2.2 q hq)⟩
theorem zr_31 {σ τ : sn_S} (h : zs_V σ τ) : sn_I τ 0 31 = sn_I σ 0 31 := h.2.1 0 31 rfl
theorem zr_loop {σ0 σ : sn_S} (h : zs_V σ0 σ) {x1 x2 t0 x4 : Int32} (h1 : zs_in x1.toInt 0 5) (h2 : zs_in x2.toInt 0 5) (ht : zs_in t0.toInt 1 3) (h4 : zs_in x4.toInt 0 1073741823) : zs_ok (sn_it (LX9_claimOf_63 x1 x2 (0 : Int32) t0) 5000 (σ, x4, (0 : Int32), (0 : Int32))) (fun t => zs_V σ0 t.1 ∧ zs_in t.2.toInt 0 297) := by
  have z0 : zs_in (0 : Int32).toInt 0 0 := by decide
  refine zr_it1 (n := 4999) (zv_15 h h1 h2 z0 h4 z0 ht z0) (fun s hs => ?_) (fun t ht => ⟨ht.1, zs_w ht.2 (by decide)⟩)
  refine zr_it1 (n := 4998) (zv_23 hs.1 h1 h2 z0 hs.2.1 hs.2.2.1 ht hs.2.2.2) (fun s hs => ?_) (fun t ht => ⟨ht.1, zs_w ht.2 (by decide)⟩)
  refine zr_it1 (n := 4997) (zv_31 hs.1 h1 h2 z0 hs.2.1 hs.2.2.1 ht hs.2.2.2) (fun s hs => ?_) (fun t ht => ⟨ht.1, zs_w ht.2 (by decide)⟩)
  exact zr_it1 (n := 4996) (zv_32 hs.1 h1 h2 z0 hs.2.1 hs.2.2.1 ht hs.2.2.2) (fun s hs => hs.elim) (fun t ht => ⟨ht.1, zs_w ht.2 (by decide)⟩)
theorem zr_58 {σ0 σ : sn_S} (h : zs_V σ0 σ) {x1 x2 t0 x4 : Int32} (h1 : zs_in x1.toInt 0 5) (h2 : zs_in x2.toInt 0 5) (ht : zs_in t0.toInt 1 3) (h4 : zs_in x4.toInt 0 1073741823) : zs_ok (BX9_claimOf_58 σ x1 x2 (0 : Int32) x4 (0 : Int32) t0) (fun r => zs_in r.1.toInt 0 297 ∧ zs_V σ0 r.2) := by
  unfold BX9_claimOf_58
  refine zs_bd_ (zr_loop h h1 h2 ht h4) (fun t ht => ?_)
  unfold BX9_claimOf_183
  exact zs_some ⟨ht.2, ht.1⟩
theorem zr_33 {σ0 σ : sn_S} (h : zs_V σ0 σ) {x1 x2 x4 : Int32} (h1 : zs_in x1.toInt 0 5) (h2 : zs_in x2.toInt 0 5) (h4 : zs_in x4.toInt 0 1073741823) : zs_ok (BX9_claimOf_33 σ x1 x2 (0 : Int32) x4) (fun r => zs_in r.1.toInt 0 297 ∧ zs_V σ0 r.2) := by
  unfold BX9_claimOf_33
  refine zs_bd_ (zo_fot2 h4) (fun t ht => ?_)
  refine zs_lt (Q := fun z => zs_V σ0 z) (zs_wrkt h rfl rfl) (fun y hy => ?_)
  exact zs_ite (fun _ => zr_58 hy h1 h2 (show zs_in (3 : Int32).toInt 1 3 by decide) h4) (fun _ => zr_58 hy h1 h2 (show zs_in (1 : Int32).toInt 1 3 by decide) h4)
theorem zr_claim {σ0 σ : sn_S} (h : zs_V σ0 σ) {x1 x2 : Int32} (h1 : zs_in x1.toInt 0 5) (h2 : zs_in x2.toInt 0 5) : zs_ok (fX9_claimOf σ x1 x2 (0 : Int32)) (fun r => zs_in r.1.toInt 0 297 ∧ zs_V σ0 r.2) := by
  unfold fX9_claimOf
  refine zs_gd (zs_gin h2 (by decide)) ?_
  refine zs_bd_ (zv_5 h h1) (fun t ht => ?_)
  have hs : zs_in (sn_I σ 10 x2.toNatClampNeg).toInt 0 1073741823 := zs_rdu (q := 10) (z := (0, 1073741823)) h.1 (fun _ => rfl)
  refine zs_lt (Q := fun z => zs_in z.toInt 0 1073741823) (zs_and2 hs (by decide)) (fun y hy => ?_)
  refine zs_ite (fun _ => ?_) (fun _ => zr_33 h h1 h2 hy)
  exact zs_lt (Q := fun z => zs_in z.toInt 0 1073741823) (zs_and2 hy (by decide)) (fun w hw => zr_33 h h1 h2 hw)
/-- nobody takes a policy that pays 298 or more -/
theorem zr_73 {σ0 τ : sn_S} (hM : zs_M σ0 τ) (h31 : 0 ≤ (sn_I τ 0 31).toInt) {x1 x2 x3 b x5 : Int32} (hb : b.toInt ≠ x2.toInt) (h5 : zs_in x5.toInt 0 5) : zs_ok (BX9_takesBy_73 τ x1 x2 x3 b x5) (zs_sum (fun s => (zs_M σ0 s.1 ∧ zs_in s.2.2.toInt 0 6 ∧ s.2.1.toInt ≠ x2.toInt ∧ 0 ≤ (sn_I s.1 0 31).toInt) ∧ 6 - s.2.2.toInt < 6 - x5.toInt) (fun t => zs_M σ0 t.1 ∧ t.2.toInt ≠ x2.toInt)) := by
  unfold BX9_takesBy_73
  have e : (x5 + 1).toInt = x5.toInt + 1 := zs_syI 1 (show x5.toInt = x5.toInt + 0 by omega) h5 (show zs_in (1 : Int32).toInt 1 1 by decide) (by decide) (by decide)
  refine zs_lt (Q := fun z => z.toInt = x5.toInt + 1) e (fun z hz => ?_)
  exact zs_some (zs_inl ⟨⟨hM, ⟨by show 0 ≤ z.toInt; omega, by show z.toInt ≤ 6; omega⟩, hb, h31⟩, by show 6 - z.toInt < 6 - x5.toInt; omega⟩)
theorem zr_takes {σ0 σ : sn_S} (h : zs_M σ0 σ) {x1 x2 x3 : Int32} (h1 : zs_in x1.toInt 0 5) (h2 : 0 ≤ x2.toInt) (h3 : 298 ≤ x3.toInt) : zs_ok (fX9_takesBy σ x1 x2 x3) (fun r => r.1.toInt ≠ x2.toInt ∧ zs_M σ0 r.2) := by
  unfold fX9_takesBy
  refine zs_lt (Q := fun z => zs_M σ0 z ∧ sn_I z 0 31 = 0) ⟨zs_wrkt h rfl rfl, pI_self⟩ (fun σ1 hσ1 => ?_)
  refine zs_bd_ (Q := fun t => zs_M σ0 t.1 ∧ t.2.toInt ≠ x2.toInt) ?_ (fun t ht => ?_)
  · refine zs_it (I := fun s => zs_M σ0 s.1 ∧ zs_in s.2.2.toInt 0 6 ∧ s.2.1.toInt ≠ x2.toInt ∧ 0 ≤ (sn_I s.1 0 31).toInt) (m := fun s => 6 - s.2.2.toInt) (fun s hs => ⟨by have := hs.2.1; omega, by have := hs.2.1; omega⟩) (fun s hs => ?_) ⟨hσ1.1, (show zs_in (0 : Int32).toInt 0 6 by decide), ?_, ?_⟩
    · obtain ⟨hM, h6, hne, h31⟩ := hs
      unfold LX9_takesBy_11 BX9_takesBy_11
      refine zs_gd (by decide) ?_
      refine zs_ite (fun _ => zs_some (zs_inr ⟨hM, hne⟩)) (fun c => ?_)
      have h8 : zs_in (sn_I s.1 1 (8 : Int32).toNatClampNeg).toInt 0 6 := zs_rdk (q := 1) (k := (8 : Int32).toNatClampNeg) (z := (0, 6)) hM.1 rfl
      have h5 : zs_in s.2.2.toInt 0 5 := zs_ltl 0 5 (zs_I_len c) h6 h8 (by decide)
      refine zs_bd_ (zr_claim (zs_rf hM.1) h5 h1) (fun t ht => ?_)
      have hM2 := zr_VM hM ht.2
      have e31 := zr_31 ht.2
      refine zs_ite (fun c2 => ?_) (fun c2 => ?_)
      · unfold BX9_takesBy_48
        have ev : (t.1 - x3).toInt < 0 := by
          have hx := zs_topI x3
          have h297 := ht.1
          rw [Int32.toInt_sub, zs_bm ⟨by omega, by omega⟩]
          omega
        refine zs_lt (Q := fun z => z.toInt < 0) ev (fun y hy => ?_)
        refine zs_ite (fun c3 => ?_) (fun _ => zr_73 hM2 (by rw [e31]; exact h31) hne h5)
        have := zs_I_lt c3
        rw [e31] at this
        exact absurd this (by omega)
      · have hx5 := zs_I_eqn c2
        refine zs_bd_ (zc_240 hM2 h5 (show zs_in (4 : Int32).toInt 4 4 by decide)) (fun u hu => ?_)
        unfold BX9_takesBy_48
        refine zs_lt (Q := fun _ => True) trivial (fun y _ => ?_)
        refine zs_ite (fun c3 => ?_) (fun _ => zr_73 hM2 (by rw [e31]; exact h31) hne h5)
        have h3' := zs_I_lt c3
        rw [e31] at h3'
        refine zs_lt (Q := fun z => zs_M σ0 z ∧ sn_I z 0 31 = y) ⟨zs_wrkt hM2 rfl rfl, pI_self⟩ (fun z hz => ?_)
        exact zr_73 hz.1 (by rw [hz.2]; omega) hx5 h5
    · show (-1 : Int32).toInt ≠ x2.toInt
      rw [show (-1 : Int32).toInt = -1 by decide]
      omega
    · show 0 ≤ (sn_I σ1 0 31).toInt
      rw [hσ1.2]
      decide
  · unfold BX9_takesBy_79
    exact zs_some ⟨ht.2, ht.1⟩
theorem zr_taken {σ0 σ : sn_S} (h : zs_M σ0 σ) {x1 x2 : Int32} (h1 : zs_in x1.toInt 0 5) (h2 : 298 ≤ x2.toInt) : zs_ok (fX9_isTaken σ x1 x2) (fun r => r.1 = 0 ∧ zs_M σ0 r.2) := by
  unfold fX9_isTaken
  refine zs_bd_ (Q := zs_sum (fun v => zs_M σ0 v) (fun _ => False)) ?_ (fun t ht => zs_elim ht (fun v hv => ?_) (fun _ hr => hr.elim))
  · refine zs_it (E := zs_sum (fun v => zs_M σ0 v) (fun _ => False)) (I := fun s => zs_M σ0 s.1 ∧ zs_in s.2.toInt 0 6) (m := fun s => 6 - s.2.toInt) (fun s hs => ⟨by have := hs.2; omega, by have := hs.2; omega⟩) (fun s hs => ?_) ⟨h, (show zs_in (0 : Int32).toInt 0 6 by decide)⟩
    obtain ⟨hM, h6⟩ := hs
    unfold LX9_isTaken_2 BX9_isTaken_2
    refine zs_gd (by decide) ?_
    refine zs_ite (fun _ => zs_some (zs_inr (zs_inl hM))) (fun c => ?_)
    have h8 : zs_in (sn_I s.1 1 (5 : Int32).toNatClampNeg).toInt 0 6 := zs_rdk (q := 1) (k := (5 : Int32).toNatClampNeg) (z := (0, 6)) hM.1 rfl
    have h5 : zs_in s.2.toInt 0 5 := zs_ltl 0 5 (zs_I_len c) h6 h8 (by decide)
    refine zs_bd_ (zr_takes hM h5 (by omega) h2) (fun t ht => ?_)
    refine zs_ite (fun c2 => absurd (zs_I_eq c2) ht.1) (fun _ => ?_)
    have e : (s.2 + 1).toInt = s.2.toInt + 1 := zs_syI 1 (show s.2.toInt = s.2.toInt + 0 by omega) h5 (show zs_in (1 : Int32).toInt 1 1 by decide) (by decide) (by decide)
    refine zs_lt (Q := fun z => z.toInt = s.2.toInt + 1) e (fun z hz => ?_)
    exact zs_some (zs_inl ⟨⟨ht.2, ⟨by show 0 ≤ z.toInt; omega, by show z.toInt ≤ 6; omega⟩⟩, by show 6 - z.toInt < 6 - s.2.toInt; omega⟩)
  · unfold BX9_isTaken_31
    exact zs_gd (by decide) (zs_some ⟨rfl, hv⟩)
theorem zr_price {σ : sn_S} (h : zs_SB zs_tM σ) (a : Int32) : zs_ok (fX9_price σ a) (fun r => zs_M σ r.2) := by
  unfold fX9_price
  refine zs_bd_ (zc_239 (zs_rf (key := zs_kM) (kl := zs_lM) h)) (fun t ht => ?_)
  refine zs_ite (fun _ => zs_some ht.1.2) (fun c1 => ?_)
  have f1 := zs_or3 ht.2 (zs_I_eqn c1) (show zs_in (0 : Int32).toInt 0 0 by decide) (by decide)
  refine zs_bd_ (Q := fun t => zs_M σ t.1) ?_ (fun t ht => ?_)
  · refine zs_it (I := fun s => zs_M σ s.1 ∧ zs_in s.2.toInt 0 298) (m := fun s => 298 - s.2.toInt) (fun s hs => ⟨by have := hs.2; omega, by have := hs.2; omega⟩) (fun s hs => ?_) ⟨ht.1.2, (show zs_in (0 : Int32).toInt 0 298 by decide)⟩
    obtain ⟨hM, h298⟩ := hs
    unfold LX9_price_13 BX9_price_13
    by_cases hc : s.2.toInt = 298
    · refine zs_bd_ (zr_taken hM f1 (by omega)) (fun u hu => ?_)
      exact zs_ite (fun _ => zs_some (zs_inr hu.2)) (fun c => absurd hu.1 c)
    · have h297 : zs_in s.2.toInt 0 297 := ⟨h298.1, by have := h298.2; omega⟩
      refine zs_bd_ (zc_1540 hM f1 h297) (fun u hu => ?_)
      refine zs_ite (fun _ => zs_some (zs_inr hu.2)) (fun _ => ?_)
      have e : (s.2 + 1).toInt = s.2.toInt + 1 := zs_syI 1 (show s.2.toInt = s.2.toInt + 0 by omega) h297 (show zs_in (1 : Int32).toInt 1 1 by decide) (by decide) (by decide)
      refine zs_lt (Q := fun z => z.toInt = s.2.toInt + 1) e (fun z hz => ?_)
      exact zs_some (zs_inl ⟨⟨hu.2, ⟨by show 0 ≤ z.toInt; omega, by show z.toInt ≤ 298; omega⟩⟩, by show 298 - z.toInt < 298 - s.2.toInt; omega⟩)
  · unfold BX9_price_28
    exact zs_some ht
end
section
/-! the pairs of a minute and a gust -/
/-- the numbers of a row that are told as persons are such -/
def zt_good (σ : sn_S) (s L : Nat) : Prop := ∀ j, 2 * j < L → zs_in (sn_L σ 23 (60 * s + 2 * j)).toInt 0 5
theorem zt_num (σ : sn_S) {s i : Nat} (hs : s < 4) (hi : i < 60) : fX9_numberAt σ (nI s) (nI i) = some (sn_L σ 23 (60 * s + i)) := by
  have ei : (60 : Int32) * nI s + nI i = nI (60 * s + i) := by
    rw [← nI_add, ← nI_mul]
    rfl
  unfold fX9_numberAt
  rw [ei, sn_in_nI (by omega) (by decide), gd_T, nI_clamp (by omega)]
theorem zt_first {σ : sn_S} (h : zs_SB zs_tM σ) {s L : Nat} (hs : s < 4) (hL : sn_I σ 21 s = nI L) (hL60 : L ≤ 60) (he : L % 2 = 0) : ∃ t, sn_it (LX9_layPairs_46 σ (nI s)) 5000 (0 : Int32) = some t ∧ (t = .inr (-2, σ) ∨ (t = .inl () ∧ zt_good σ s L)) := by
  obtain ⟨t, e, ht⟩ := sn_it_rule (f := LX9_layPairs_46 σ (nI s)) (fun z => ∃ k, z = nI (2 * k) ∧ 2 * k ≤ L ∧ ∀ j, j < k → zs_in (sn_L σ 23 (60 * s + 2 * j)).toInt 0 5) (fun z => 100 - z.toInt.toNat) (fun t => t = .inr (-2, σ) ∨ (t = .inl () ∧ zt_good σ s L))
    (fun z hz => by
      obtain ⟨k, rfl, hk, hg⟩ := hz
      unfold LX9_layPairs_46 BX9_layPairs_46
      rw [sn_in_nI hs (by decide), gd_T, nI_clamp (show s < 2 ^ 31 by omega), hL]
      by_cases c : nI L ≤ nI (2 * k)
      · right
        rw [if_pos c]
        have : ¬ 2 * k < L := fun z => nI_ge z (by omega) c
        exact ⟨.inl (), rfl, Or.inr ⟨rfl, fun j hj => hg j (by omega)⟩⟩
      · rw [if_neg c, zt_num σ hs (show 2 * k < 60 by
          rcases Nat.lt_or_ge (2 * k) L with h1 | h1
          · omega
          · exact absurd (nI_le h1 (by omega)) c)]
        have hlt : 2 * k < L := by
          rcases Nat.lt_or_ge (2 * k) L with h1 | h1
          · exact h1
          · exact absurd (nI_le h1 (by omega)) c
        obtain ⟨t5, e5, h5⟩ := zc_1542 (zs_rf (key := zs_kM) (kl := zs_lM) h) (x1 := sn_L σ 23 (60 * s + 2 * k))
        rw [Option.bind_some, e5, Option.bind_some]
        by_cases c5 : t5 = 0
        · right
          rw [if_pos c5]
          exact ⟨.inr (-2, σ), rfl, Or.inl rfl⟩
        · have g5 := zs_or3 h5.2 (zs_I_eqn c5) (show zs_in (0 : Int32).toInt 0 0 by decide) (by decide)
          rw [if_neg c5, show nI (2 * k) + (1 : Int32) = nI (2 * k + 1) from nI_1 _, zt_num σ hs (show 2 * k + 1 < 60 by omega)]
          obtain ⟨t10, e10, h10⟩ := zc_1544 (zs_rf (key := zs_kM) (kl := zs_lM) h) (x1 := sn_L σ 23 (60 * s + (2 * k + 1)))
          rw [Option.bind_some, e10, Option.bind_some]
          by_cases c10 : t10 = 0
          · right
            rw [if_pos c10]
            exact ⟨.inr (-2, σ), rfl, Or.inl rfl⟩
          · left
            rw [if_neg c10]
            refine ⟨nI (2 * (k + 1)), ?_, ⟨k + 1, rfl, by omega, fun j hj => ?_⟩, ?_⟩
            · show some (Sum.inl (nI (2 * k) + nI 2)) = _
              rw [nI_add]
              rfl
            · by_cases ej : j = k
              · rw [ej]; exact g5
              · exact hg j (by omega)
            · rw [nI_toInt (by omega), nI_toInt (by omega)]
              omega) 5000 0 ⟨0, nI_0.symm, by omega, fun j hj => by omega⟩ (by decide)
  exact ⟨t, e, ht⟩
/-- whether a row's sneezes are all there: it answers -/
theorem zt_150 {σ ρ : sn_S} (hρ : zs_M σ ρ) {s L : Nat} (hs : s < 4) (hL : sn_I σ 21 s = nI L) (hL60 : L ≤ 60) (he : L % 2 = 0) (hg : zt_good σ s L) (x2 x3 : Int32) : ∃ t, sn_it (LX9_layPairs_150 ρ (nI s) x2 x3) 5000 ((1 : Int32), (0 : Int32)) = some t := by
  have hL' : sn_I ρ 21 s = nI L := (hρ.2.1 21 s rfl).trans hL
  have hn : ∀ i, sn_L ρ 23 i = sn_L σ 23 i := fun i => congrFun (hρ.2.2 23 rfl) i
  obtain ⟨t, e, -⟩ := sn_it_rule (f := LX9_layPairs_150 ρ (nI s) x2 x3) (fun z => ∃ k, z.2 = nI (2 * k) ∧ 2 * k ≤ L) (fun z => 100 - z.2.toInt.toNat) (fun _ => True)
    (fun z hz => by
      obtain ⟨b, i⟩ := z
      obtain ⟨k, hk0, hk⟩ := hz
      have hk0 : i = nI (2 * k) := hk0
      subst hk0
      unfold LX9_layPairs_150 BX9_layPairs_150
      dsimp only
      rw [sn_in_nI hs (by decide), gd_T, nI_clamp (show s < 2 ^ 31 by omega), hL']
      by_cases c : nI L ≤ nI (2 * k)
      · right
        rw [if_pos c]
        exact ⟨_, rfl, trivial⟩
      · left
        have hlt : 2 * k < L := by
          rcases Nat.lt_or_ge (2 * k) L with h1 | h1
          · exact h1
          · exact absurd (nI_le h1 (by omega)) c
        have next : ∀ d : Int32, (some (Sum.inl (d, nI (2 * k) + 2)) : Option ((Int32 × Int32) ⊕ Int32)) = some (Sum.inl (d, nI (2 * (k + 1)))) := fun d => by
          rw [show nI (2 * k) + (2 : Int32) = nI (2 * (k + 1)) from nI_add (2 * k) 2]
        have dec : 100 - (nI (2 * (k + 1))).toInt.toNat < 100 - (nI (2 * k)).toInt.toNat := by
          rw [nI_toInt (by omega), nI_toInt (by omega)]
          omega
        have inv : ∃ j, nI (2 * (k + 1)) = nI (2 * j) ∧ 2 * j ≤ L := ⟨k + 1, rfl, by omega⟩
        rw [if_neg c]
        by_cases cb : b = 0
        · rw [if_pos cb]
          exact ⟨(0, nI (2 * (k + 1))), next 0, inv, dec⟩
        · have g := hg k hlt
          rw [← hn] at g
          rw [if_neg cb, zt_num ρ hs (show 2 * k < 60 by omega), Option.bind_some, zs_gin (zs_32 g (by decide)) (by decide), gd_T, show nI (2 * k) + (1 : Int32) = nI (2 * k + 1) from nI_1 _, zt_num ρ hs (show 2 * k + 1 < 60 by omega), Option.bind_some]
          unfold fX9_bit
          rw [Option.bind_some]
          split
          · exact ⟨(1, nI (2 * (k + 1))), next 1, inv, dec⟩
          · exact ⟨(0, nI (2 * (k + 1))), next 0, inv, dec⟩) 5000 ((1 : Int32), (0 : Int32)) ⟨0, nI_0.symm, by omega⟩ (by decide)
  exact ⟨t, e⟩
/-- how often each sneezes, laid beside a pair -/
theorem zt_235 {σ ρ : sn_S} (hρ : zs_M σ ρ) {A : Nat} (hA : sn_I ρ 0 36 = nI A) (hA2 : A < 270) (x1 x2 x3 : Int32) : ∃ t, sn_it (LX9_layPairs_235 x1 x2 x3) 5000 (ρ, (0 : Int32)) = some t ∧ (zs_M σ t ∧ sn_I t 0 36 = nI A) := by
  refine sn_for (f := LX9_layPairs_235 x1 x2 x3) 6 (fun k z => z.2 = nI k ∧ zs_M σ z.1 ∧ sn_I z.1 0 36 = nI A) (fun t => zs_M σ t ∧ sn_I t 0 36 = nI A) (fun k z hk hz => ?_) (fun z hz => ?_) (n := 5000) (by decide) (s := (ρ, (0 : Int32))) ⟨nI_0.symm, hρ, hA⟩
  · obtain ⟨u, i⟩ := z
    obtain ⟨hi, hM, h36⟩ := hz
    have hi : i = nI k := hi
    have h36 : sn_I u 0 36 = nI A := h36
    subst hi
    obtain ⟨b, eb, -⟩ := zc_151 (x0 := sn_I u 10 k)
    have ei : (6 : Int32) * nI A + nI k = nI (6 * A + k) := by
      rw [← nI_add, ← nI_mul]
      rfl
    refine ⟨(sn_pI u 20 (6 * A + k) b, nI (k + 1)), ?_, rfl, zs_wrt hM (fun _ => rfl) (fun _ => rfl), ?_⟩
    · unfold LX9_layPairs_235 BX9_layPairs_235
      dsimp only
      rw [if_neg (show ¬ (6 : Int32) ≤ nI k from nI_ge (b := 6) hk (by decide)), sn_in_nI (by omega) (by decide), gd_T, nI_clamp (by omega), eb, Option.bind_some, h36, ei, sn_in_nI (by omega) (by decide), gd_T, nI_clamp (by omega), ← nI_1]
      rfl
    · show (sn_pI u 20 (6 * A + k) b).1 0 36 = nI A
      rw [pI_ne (by decide)]
      exact h36
  · obtain ⟨u, i⟩ := z
    obtain ⟨hi, hM, h36⟩ := hz
    have hi : i = nI 6 := hi
    subst hi
    refine ⟨u, ?_, hM, h36⟩
    unfold LX9_layPairs_235 BX9_layPairs_235
    dsimp only
    rw [if_pos (show (6 : Int32) ≤ nI 6 by decide)]
/-- a minute's nine gusts -/
theorem zt_114 {σ ρ : sn_S} (hρ : zs_M σ ρ) {s L m : Nat} (hs : s < 4) (hL : sn_I σ 21 s = nI L) (hL60 : L ≤ 60) (he : L % 2 = 0) (hg : zt_good σ s L) (hm : m < 30) (hA : ∃ A, A ≤ 9 * m ∧ sn_I ρ 0 36 = nI A) : ∃ t, sn_it (LX9_layPairs_114 (nI s) (nI m)) 5000 (ρ, (1 : Int32)) = some t ∧ (zs_M σ t ∧ ∃ A, A ≤ 9 * (m + 1) ∧ sn_I t 0 36 = nI A) := by
  refine sn_for (f := LX9_layPairs_114 (nI s) (nI m)) 9 (fun k z => z.2 = nI (k + 1) ∧ zs_M σ z.1 ∧ ∃ A, A ≤ 9 * m + k ∧ sn_I z.1 0 36 = nI A) (fun t => zs_M σ t ∧ ∃ A, A ≤ 9 * (m + 1) ∧ sn_I t 0 36 = nI A) (fun k z hk hz => ?_) (fun z hz => ?_) (n := 5000) (by decide) (s := (ρ, (1 : Int32))) ⟨rfl, hρ, hA⟩
  · obtain ⟨u, i⟩ := z
    obtain ⟨hi, hM, A, hA1, hA2⟩ := hz
    have hi : i = nI (k + 1) := hi
    have hA2 : sn_I u 0 36 = nI A := hA2
    subst hi
    have i30 : sn_in (nI m) 30 = true := sn_in_nI hm (by decide)
    have w1 : zs_M σ (sn_pI u 7 m (sn_I u 7 m + nI (k + 1))) := zs_wrt hM (fun _ => rfl) (fun _ => rfl)
    obtain ⟨v, ev, hv⟩ := zb_87 (zs_rf (key := zs_kN) (kl := zs_lN) w1.1)
    have hvM := zh_MN w1 hv
    have v36 : sn_I v 0 36 = nI A := (hv.2.1 0 36 rfl).trans (by show (sn_pI u 7 m _).1 0 36 = nI A; rw [pI_ne (by decide)]; exact hA2)
    have w2 : zs_M σ (sn_pI v 7 m (sn_I v 7 m - nI (k + 1))) := zs_wrt hvM (fun _ => rfl) (fun _ => rfl)
    have w36 : sn_I (sn_pI v 7 m (sn_I v 7 m - nI (k + 1))) 0 36 = nI A := by
      show (sn_pI v 7 m _).1 0 36 = nI A
      rw [pI_ne (by decide)]
      exact v36
    generalize hw : sn_pI v 7 m (sn_I v 7 m - nI (k + 1)) = w at w2 w36
    obtain ⟨is, eis⟩ := zt_150 w2 hs hL hL60 he hg (nI m) (nI (k + 1))
    have head : LX9_layPairs_114 (nI s) (nI m) (u, nI (k + 1)) = BX9_layPairs_209 w (nI s) (nI m) (nI (k + 1)) is := by
      unfold LX9_layPairs_114 BX9_layPairs_114 sn_lt
      dsimp only
      rw [if_neg (show ¬ (9 : Int32) < nI (k + 1) from nI_nlt (a := 9) (by omega) (by omega)), i30, gd_T, gd_T, nI_clamp (show m < 2 ^ 31 by omega), ev, Option.bind_some, gd_T, gd_T, hw, eis, Option.bind_some]
    by_cases ci : is = 0
    · refine ⟨(w, nI (k + 1) + 1), ?_, nI_1 _, w2, A, by omega, w36⟩
      rw [head]
      unfold BX9_layPairs_209
      rw [if_pos ci]
      rfl
    · have hi19 : zs_in ((10 : Int32) * nI m + nI (k + 1)).toInt 0 299 := zs_addI 0 299 (zs_mulI 0 290 (show zs_in (10 : Int32).toInt 10 10 by decide) (show zs_in (nI m).toInt 0 29 by rw [nI_toInt (by omega)]; exact ⟨by omega, by omega⟩) (by decide)) (show zs_in (nI (k + 1)).toInt 0 9 by rw [nI_toInt (by omega)]; exact ⟨by omega, by omega⟩) (by decide)
      have w3 : zs_M σ (sn_pI w 19 A ((10 : Int32) * nI m + nI (k + 1))) := zs_wru (z := (0, 299)) w2 (fun _ => rfl) hi19 (by decide) (fun _ => rfl)
      have w336 : sn_I (sn_pI w 19 A ((10 : Int32) * nI m + nI (k + 1))) 0 36 = nI A := by
        show (sn_pI w 19 A _).1 0 36 = nI A
        rw [pI_ne (by decide)]
        exact w36
      obtain ⟨x, ex, hx, hx36⟩ := zt_235 w3 w336 (by omega) (nI s) (nI m) (nI (k + 1))
      have w4 : zs_M σ (sn_pI x 0 36 (nI (A + 1))) := zs_wrk (z := (0, 270)) hx rfl (show zs_in (nI (A + 1)).toInt 0 270 by rw [nI_toInt (by omega)]; exact ⟨by omega, by omega⟩) (by decide) rfl
      refine ⟨(sn_pI x 0 36 (nI (A + 1)), nI (k + 1) + 1), ?_, nI_1 _, w4, A + 1, by omega, pI_self⟩
      rw [head]
      unfold BX9_layPairs_209 sn_lt
      dsimp only
      rw [if_neg ci, w36, sn_in_nI (by omega) (by decide), gd_T, nI_clamp (by omega), ex, Option.bind_some]
      unfold BX9_layPairs_273 sn_lt
      dsimp only
      rw [hx36, nI_1]
      rfl
  · obtain ⟨u, i⟩ := z
    obtain ⟨hi, hM, A, hA1, hA2⟩ := hz
    have hi : i = nI 10 := hi
    subst hi
    refine ⟨u, ?_, hM, A, by omega, hA2⟩
    unfold LX9_layPairs_114 BX9_layPairs_114
    dsimp only
    rw [if_pos (show (9 : Int32) < nI 10 by decide)]
theorem zt_93 {σ : sn_S} (h : zs_SB zs_tM σ) {s L : Nat} (hs : s < 4) (hL : sn_I σ 21 s = nI L) (hL60 : L ≤ 60) (he : L % 2 = 0) (hg : zt_good σ s L) : ∃ t, BX9_layPairs_93 σ (nI s) = some (0, t) ∧ zs_M σ t := by
  obtain ⟨u, eu, hu⟩ := zc_31 (zs_rf (key := zs_kM) (kl := zs_lM) h)
  have w0 : zs_M σ (sn_pI u 0 36 0) := zs_wrk (z := (0, 270)) hu rfl (show zs_in (0 : Int32).toInt 0 0 by decide) (by decide) rfl
  obtain ⟨t, et, ht⟩ := sn_it_rule (f := LX9_layPairs_104 (nI s)) (fun z => ∃ m, m ≤ 30 ∧ z.2 = nI m ∧ zs_M σ z.1 ∧ ∃ A, A ≤ 9 * m ∧ sn_I z.1 0 36 = nI A) (fun z => 31 - z.2.toInt.toNat) (fun t => zs_M σ t)
    (fun z hz => by
      obtain ⟨x, i⟩ := z
      obtain ⟨m, hm, hi, hM, hA⟩ := hz
      have hi : i = nI m := hi
      subst hi
      obtain ⟨q, eq, hq⟩ := zc_21 hM
      have q30 : zs_in q.toInt 0 30 := hq
      unfold LX9_layPairs_104 BX9_layPairs_104
      dsimp only
      rw [eq, Option.bind_some]
      by_cases c : q ≤ nI m
      · right
        rw [if_pos c]
        exact ⟨x, rfl, hM⟩
      · left
        have c1 := zs_I_len c
        rw [nI_toInt (by omega)] at c1
        obtain ⟨y, ey, hy, hyA⟩ := zt_114 hM hs hL hL60 he hg (show m < 30 by omega) hA
        rw [if_neg c, ey, Option.bind_some]
        refine ⟨(y, nI (m + 1)), ?_, ⟨m + 1, by omega, rfl, hy, hyA⟩, ?_⟩
        · unfold BX9_layPairs_289 sn_lt
          dsimp only
          rw [nI_1]
        · show 31 - (nI (m + 1)).toInt.toNat < 31 - (nI m).toInt.toNat
          rw [nI_toInt (by omega), nI_toInt (by omega)]
          omega) 5000 (sn_pI u 0 36 0, (0 : Int32)) ⟨0, by omega, nI_0.symm, w0, 0, by omega, by show (sn_pI u 0 36 0).1 0 36 = nI 0; rw [pI_self, nI_0]⟩ (by show 31 - (0 : Int32).toInt.toNat < 5000; decide)
  refine ⟨t, ?_, ht⟩
  unfold BX9_layPairs_93 sn_lt
  rw [eu, Option.bind_some]
  dsimp only
  rw [et, Option.bind_some]
  rfl
theorem zo_layPairs {σ0 σ : sn_S} (h_σ : zs_M σ0 σ) {x1 : Int32} : zs_ok (fX9_layPairs σ x1) (fun r => (zs_in (r.1).toInt (-6) 0 ∧ zs_M σ0 r.2)) := by
  have tr : ∀ {t : sn_S}, zs_M σ t → zs_M σ0 t := fun {t} ht => ⟨ht.1, fun q k hk => (ht.2.1 q k hk).trans (h_σ.2.1 q k hk), fun q hq => (ht.2.2 q hq).trans (h_σ.2.2 q hq)⟩
  have m2 : zs_in (-2 : Int32).toInt (-6) 0 := by decide
  unfold fX9_layPairs
  rw [m_isSlot]
  by_cases hs : 0 ≤ x1 ∧ x1 < 4
  · rw [if_pos hs, Option.bind_some, if_neg (show ¬ (1 : Int32) = 0 by decide)]
    obtain ⟨s, hs4, rfl⟩ := nI_idx (n := 4) (by decide) hs.1 hs.2
    refine zs_bd_ (zc_91 h_σ) (fun t4 _ => ?_)
    refine zs_ite (fun _ => zs_some ⟨m2, h_σ⟩) (fun _ => ?_)
    rw [sn_in_nI hs4 (by decide), gd_T, gd_T, nI_clamp (show s < 2 ^ 31 by omega)]
    refine zs_ite (fun _ => zs_some ⟨(by decide : zs_in (-6 : Int32).toInt (-6) 0), h_σ⟩) (fun c1 => ?_)
    have b21 : zs_in (sn_I σ 21 s).toInt (-1) 60 := zs_rdu (q := 21) (z := (-1, 60)) h_σ.1 (fun _ => rfl)
    have c1' := zs_I_eqn c1
    have e1 : (-1 : Int32).toInt = -1 := by decide
    obtain ⟨L, hL, eL⟩ := zs_val (x := sn_I σ 21 s) (a := 0) (b := 60) ⟨by omega, by omega⟩ (by decide)
    have hL60 : L ≤ 60 := by omega
    rw [eL]
    refine zs_ite (fun c2 => ?_) (fun _ => zs_some ⟨m2, h_σ⟩)
    have he : L % 2 = 0 := by
      have : ∀ L, L < 61 → (nI L - nI L / 2 * 2 = 0) → L % 2 = 0 := by decide +kernel
      exact this L (by omega) c2
    obtain ⟨t, et, ht⟩ := zt_first h_σ.1 hs4 eL hL60 he
    rw [et, Option.bind_some]
    rcases ht with rfl | ⟨rfl, hg⟩
    · exact zs_some ⟨m2, h_σ⟩
    · obtain ⟨u, eu, hu⟩ := zt_93 h_σ.1 hs4 eL hL60 he hg
      rw [Sum.elim_inl, eu]
      exact zs_some ⟨(by decide : zs_in (0 : Int32).toInt (-6) 0), tr hu⟩
  · rw [if_neg hs]
    exact zs_some ⟨m2, h_σ⟩
end
section
-- fX9_which
theorem zc_1545 {σ0 : sn_S} {σ : sn_S} (h_σ : zs_M σ0 σ) {x1 : Int32} : zs_ok (fX9_which σ x1) (fun r => (zs_in (r.1).toInt (-6) 270 ∧ zs_M σ0 r.2)) := by
  unfold fX9_which
  refine zs_bd_ (zo_layPairs h_σ) (fun t_1 pt_1 => ?_)
  refine zs_ite (fun c1 => ?_) (fun c1 => ?_)
  · skip
    have r2 := (zs_I_le c1)
    have g3 : zs_in (t_1.1).toInt 0 0 := (zs_ler 0 0 r2 zlI_0 pt_1.1 (by decide))
    exact zs_some ⟨(zs_w (zs_rdk (q := 0) (k := 36) (z := (0, 270)) pt_1.2.1 rfl) (by decide)), pt_1.2⟩
  · skip
    have r4 := (zs_I_len c1)
    have g5 : zs_in (t_1.1).toInt (-6) (-1) := (zs_ltl (-6) (-1) r4 pt_1.1 zlI_0 (by decide))
    exact zs_some ⟨(zs_w g5 (by decide)), pt_1.2⟩
-- BX9_when_17
theorem zc_1546 {σ0 : sn_S} {σ : sn_S} (h_σ : zs_M σ0 σ) {x3 : Int32} (h_x3 : zs_in x3.toInt 0 1073741823) {x4 : Int32} (h_x4 : zs_in x4.toInt 0 270) {c : Int} (hc : x4.toInt = c + 0) : zs_ok (BX9_when_17 σ x3 x4) (fun r => zs_sum (fun v => ((zs_in (v.1).toInt 0 1073741823 ∧ zs_in (v.2).toInt 1 270)) ∧ v.2.toInt = c + 1) (fun v => zs_in (v).toInt 0 1073741823) r) := by
  unfold BX9_when_17
  refine zs_ite (fun c1 => ?_) (fun c1 => ?_)
  · skip
    have r2 := (zs_I_le c1)
    exact zs_some (zs_inr (h_x3))
  · skip
    have r3 := (zs_I_len c1)
    have g4 : zs_in (x4).toInt 0 269 := (zs_ltl 0 269 r3 h_x4 (zs_rdk (q := 0) (k := 36) (z := (0, 270)) h_σ.1 rfl) (by decide))
    have g5 : zs_in ((sn_I σ 0 36)).toInt 1 270 := (zs_ltr 1 270 r3 h_x4 (zs_rdk (q := 0) (k := 36) (z := (0, 270)) h_σ.1 rfl) (by decide))
    refine zs_gd (zs_gin g4 (by decide)) ?_
    refine zs_lt (Q := fun z => zs_in z.toInt 0 1073741823) (zs_or 30 1073741823 h_x3 (zs_cases (zs_divI 0 29 (zs_rdu (q := 19) (z := (0, 299)) h_σ.1 (fun _ => rfl)) zlI_10 (by decide)) (fun z => zs_in ((1 : Int32) <<< (z &&& 31)).toInt 1 536870912) (by decide +kernel)) (by decide)) (fun y_3 hy_3 => ?_)
    refine zs_lt (Q := fun z => zs_in z.toInt 1 270 ∧ z.toInt = c + 1) ⟨(zs_addI 1 270 g4 zlI_1 (by decide)), (zs_syI 1 hc g4 zlI_1 (by decide) (by decide))⟩ (fun y_5 hy_5 => ?_)
    exact zs_some (zs_inl ⟨⟨hy_3, hy_5.1⟩, hy_5.2⟩)
theorem zd_303 {σ0 : sn_S} {σ : sn_S} (h_σ : zs_M σ0 σ) {s0 : (Int32 × Int32)} (h0 : (zs_in (s0.1).toInt 0 1073741823 ∧ zs_in (s0.2).toInt 0 270)) : zs_ok (sn_it (LX9_when_17 σ) 5000 s0) (fun t => zs_in (t).toInt 0 1073741823) := by
  refine zs_it (I := fun s => (zs_in (s.1).toInt 0 1073741823 ∧ zs_in (s.2).toInt 0 270)) (m := fun s => 270 - s.2.toInt) (fun s hs => ?_) (fun s hs => ?_) (by exact h0)
  · have h1 := hs.2; unfold zs_in at h1
    omega
  · obtain ⟨b, eb, hb⟩ := zc_1546 h_σ hs.1 hs.2 (c := s.2.toInt) (Int.add_zero _).symm
    exact ⟨b, eb, zs_sumw hb (fun v w => ⟨⟨w.1.1, (zs_w w.1.2 (by decide))⟩, by have := w.2; omega⟩) (fun v w => w)⟩
-- BX9_when_47
theorem zc_1547 {σ0 : sn_S} {σ : sn_S} (h_σ : zs_M σ0 σ) {x3 : Int32} (h_x3 : zs_in x3.toInt 0 1073741823) : zs_ok (BX9_when_47 σ x3) (fun r => (zs_in (r.1).toInt 0 1073741823 ∧ zs_M σ0 r.2)) := by
  unfold BX9_when_47
  exact zs_some ⟨h_x3, h_σ⟩
-- fX9_when
theorem zc_1548 {σ0 : sn_S} {σ : sn_S} (h_σ : zs_M σ0 σ) {x1 : Int32} : zs_ok (fX9_when σ x1) (fun r => (zs_in (r.1).toInt (-6) 1073741823 ∧ zs_M σ0 r.2)) := by
  unfold fX9_when
  refine zs_bd_ (zo_layPairs h_σ) (fun t_1 pt_1 => ?_)
  refine zs_ite (fun c1 => ?_) (fun c1 => ?_)
  · skip
    have r2 := (zs_I_le c1)
    have g3 : zs_in (t_1.1).toInt 0 0 := (zs_ler 0 0 r2 zlI_0 pt_1.1 (by decide))
    refine zs_bd_ (zd_303 pt_1.2 (s0 := ((0 : Int32), (0 : Int32))) ⟨(zs_w zlI_0 (by decide)), (zs_w zlI_0 (by decide))⟩) (fun t_4 pt_4 => ?_)
    obtain ⟨ret, er, hr⟩ := zc_1547 pt_1.2 pt_4
    refine ⟨ret, er, ?_⟩
    exact ⟨(zs_w hr.1 (by decide)), hr.2⟩
  · skip
    have r4 := (zs_I_len c1)
    have g5 : zs_in (t_1.1).toInt (-6) (-1) := (zs_ltl (-6) (-1) r4 pt_1.1 zlI_0 (by decide))
    exact zs_some ⟨(zs_w g5 (by decide)), pt_1.2⟩
-- fX9_gust
theorem zc_1549 {σ0 : sn_S} {σ : sn_S} (h_σ : zs_M σ0 σ) {x1 : Int32} : zs_ok (fX9_gust σ x1) (fun r => (zs_in (r.1).toInt (-6) 299 ∧ zs_M σ0 r.2)) := by
  unfold fX9_gust
  refine zs_bd_ (zo_layPairs h_σ) (fun t_1 pt_1 => ?_)
  refine zs_ite (fun c1 => ?_) (fun c1 => ?_)
  · skip
    have r2 := (zs_I_le c1)
    have g3 : zs_in (t_1.1).toInt 0 0 := (zs_ler 0 0 r2 zlI_0 pt_1.1 (by decide))
    refine zs_ite (fun c4 => ?_) (fun c4 => ?_)
    · skip
      have r5 := (zs_I_eq c4)
      have g6 : zs_in ((sn_I t_1.2 0 36)).toInt 0 0 := (zs_eql 0 0 r5 (zs_rdk (q := 0) (k := 36) (z := (0, 270)) pt_1.2.1 rfl) zlI_0 (by decide))
      exact zs_some ⟨(zs_w zlI_m1 (by decide)), pt_1.2⟩
    · skip
      have r7 := (zs_I_eqn c4)
      have g8 : zs_in ((sn_I t_1.2 0 36)).toInt 1 270 := (zs_nel 1 270 r7 (zs_rdk (q := 0) (k := 36) (z := (0, 270)) pt_1.2.1 rfl) zlI_0 (by decide))
      refine zs_gd (zs_gin zlI_0 (by decide)) ?_
      exact zs_some ⟨(zs_w (zs_rdu (q := 19) (z := (0, 299)) pt_1.2.1 (fun _ => rfl)) (by decide)), pt_1.2⟩
  · skip
    have r9 := (zs_I_len c1)
    have g10 : zs_in (t_1.1).toInt (-6) (-1) := (zs_ltl (-6) (-1) r9 pt_1.1 zlI_0 (by decide))
    exact zs_some ⟨(zs_w g10 (by decide)), pt_1.2⟩
-- BX9_askOf_73
theorem zc_1550 {σ0 : sn_S} {σ : sn_S} (h_σ : zs_M σ0 σ) {x1 : Int32} (h_x1 : zs_in x1.toInt (-1) 5) {x2 : Int32} (h_x2 : zs_in x2.toInt 0 5) {x3 : Int32} (h_x3 : zs_in x3.toInt 0 2147483647) {x4 : Int32} (h_x4 : zs_in x4.toInt 0 30) {x5 : Int32} {x6 : Int32} (h_x6 : zs_in x6.toInt 0 269) {t0 : Int32} {t1 : Int32} (h_t1 : zs_in t1.toInt 1 1) {c : Int} (hc : x6.toInt = c + 0) : zs_ok (BX9_askOf_73 σ x1 x2 x3 x4 x5 x6 t0 t1) (fun r => zs_sum (fun v => ((True ∧ zs_in (v.2).toInt 1 270)) ∧ v.2.toInt = c + 1) (fun v => False) r) := by
  unfold BX9_askOf_73
  obtain rfl : t1 = (1 : Int32) := zs_eqv h_t1 (by decide)
  refine zs_lt (Q := fun z => True) trivial (fun y_1 hy_1 => ?_)
  refine zs_lt (Q := fun z => zs_in z.toInt 1 270 ∧ z.toInt = c + 1) ⟨(zs_addI 1 270 h_x6 zlI_1 (by decide)), (zs_syI 1 hc h_x6 zlI_1 (by decide) (by decide))⟩ (fun y_3 hy_3 => ?_)
  exact zs_some (zs_inl ⟨⟨trivial, hy_3.1⟩, hy_3.2⟩)
-- BX9_askOf_73
theorem zc_1551 {σ0 : sn_S} {σ : sn_S} (h_σ : zs_M σ0 σ) {x1 : Int32} (h_x1 : zs_in x1.toInt (-1) 5) {x2 : Int32} (h_x2 : zs_in x2.toInt 0 5) {x3 : Int32} (h_x3 : zs_in x3.toInt 0 2147483647) {x4 : Int32} (h_x4 : zs_in x4.toInt 0 30) {x5 : Int32} {x6 : Int32} (h_x6 : zs_in x6.toInt 0 269) {t0 : Int32} {t1 : Int32} (h_t1 : zs_in t1.toInt 0 0) {c : Int} (hc : x6.toInt = c + 0) : zs_ok (BX9_askOf_73 σ x1 x2 x3 x4 x5 x6 t0 t1) (fun r => zs_sum (fun v => ((True ∧ zs_in (v.2).toInt 1 270)) ∧ v.2.toInt = c + 1) (fun v => False) r) := by
  unfold BX9_askOf_73
  obtain rfl : t1 = (0 : Int32) := zs_eqv h_t1 (by decide)
  refine zs_lt (Q := fun z => True) trivial (fun y_1 hy_1 => ?_)
  refine zs_lt (Q := fun z => zs_in z.toInt 1 270 ∧ z.toInt = c + 1) ⟨(zs_addI 1 270 h_x6 zlI_1 (by decide)), (zs_syI 1 hc h_x6 zlI_1 (by decide) (by decide))⟩ (fun y_3 hy_3 => ?_)
  exact zs_some (zs_inl ⟨⟨trivial, hy_3.1⟩, hy_3.2⟩)
-- BX9_askOf_40
theorem zc_1552 {σ0 : sn_S} {σ : sn_S} (h_σ : zs_M σ0 σ) {x1 : Int32} (h_x1 : zs_in x1.toInt (-1) 5) {x2 : Int32} (h_x2 : zs_in x2.toInt 0 5) {x3 : Int32} (h_x3 : zs_in x3.toInt 0 2147483647) {x4 : Int32} (h_x4 : zs_in x4.toInt 0 30) {x5 : Int32} {x6 : Int32} (h_x6 : zs_in x6.toInt 0 270) {c : Int} (hc : x6.toInt = c + 0) : zs_ok (BX9_askOf_40 σ x1 x2 x3 x4 x5 x6) (fun r => zs_sum (fun v => ((True ∧ zs_in (v.2).toInt 1 270)) ∧ v.2.toInt = c + 1) (fun v => True) r) := by
  unfold BX9_askOf_40
  refine zs_ite (fun c1 => ?_) (fun c1 => ?_)
  · skip
    have r2 := (zs_I_le c1)
    exact zs_some (zs_inr (trivial))
  · skip
    have r3 := (zs_I_len c1)
    have g4 : zs_in (x6).toInt 0 269 := (zs_ltl 0 269 r3 h_x6 (zs_rdk (q := 0) (k := 36) (z := (0, 270)) h_σ.1 rfl) (by decide))
    have g5 : zs_in ((sn_I σ 0 36)).toInt 1 270 := (zs_ltr 1 270 r3 h_x6 (zs_rdk (q := 0) (k := 36) (z := (0, 270)) h_σ.1 rfl) (by decide))
    refine zs_gd (zs_gin (zs_addI 0 1619 (zs_mulI 0 1614 zlI_6 g4 (by decide)) h_x2 (by decide)) (by decide)) ?_
    refine zs_ite (fun c6 => ?_) (fun c6 => ?_)
    · skip
      have r7 := (zs_I_eq c6)
      have g8 : zs_in ((sn_I σ 20 (((6 : Int32) * x6) + x2).toNatClampNeg)).toInt 0 30 := (zs_eql 0 30 r7 (zs_topI _) h_x4 (by decide))
      obtain ⟨ret, er, hr⟩ := zc_1550 h_σ h_x1 h_x2 h_x3 h_x4 g4 zlI_1 hc
      refine ⟨ret, er, ?_⟩
      exact (zs_sumw hr (fun v w => ⟨w.1, w.2⟩) (fun v w => w.elim))
    · skip
      have r9 := (zs_I_eqn c6)
      obtain ⟨ret, er, hr⟩ := zc_1551 h_σ h_x1 h_x2 h_x3 h_x4 g4 zlI_0 hc
      refine ⟨ret, er, ?_⟩
      exact (zs_sumw hr (fun v w => ⟨w.1, w.2⟩) (fun v w => w.elim))
theorem zd_304 {σ0 : sn_S} {σ : sn_S} (h_σ : zs_M σ0 σ) {x1 : Int32} (h_x1 : zs_in x1.toInt (-1) 5) {x2 : Int32} (h_x2 : zs_in x2.toInt 0 5) {x3 : Int32} (h_x3 : zs_in x3.toInt 0 2147483647) {x4 : Int32} (h_x4 : zs_in x4.toInt 0 30) {s0 : (Int32 × Int32)} (h0 : (True ∧ zs_in (s0.2).toInt 0 270)) : zs_ok (sn_it (LX9_askOf_40 σ x1 x2 x3 x4) 5000 s0) (fun t => True) := by
  refine zs_it (I := fun s => (True ∧ zs_in (s.2).toInt 0 270)) (m := fun s => 270 - s.2.toInt) (fun s hs => ?_) (fun s hs => ?_) (by exact h0)
  · have h1 := hs.2; unfold zs_in at h1
    omega
  · obtain ⟨b, eb, hb⟩ := zc_1552 h_σ h_x1 h_x2 h_x3 h_x4 hs.2 (c := s.2.toInt) (Int.add_zero _).symm
    exact ⟨b, eb, zs_sumw hb (fun v w => ⟨⟨w.1.1, (zs_w w.1.2 (by decide))⟩, by have := w.2; omega⟩) (fun v w => w)⟩
-- BX9_askOf_82
theorem zc_1553 {σ0 : sn_S} {σ : sn_S} (h_σ : zs_M σ0 σ) {x1 : Int32} (h_x1 : zs_in x1.toInt (-1) 5) {x2 : Int32} (h_x2 : zs_in x2.toInt 0 5) {x3 : Int32} (h_x3 : zs_in x3.toInt 0 2147483647) {x4 : Int32} (h_x4 : zs_in x4.toInt 0 30) {x5 : Int32} {c : Int} (hc : x4.toInt = c + 0) : zs_ok (BX9_askOf_82 σ x1 x2 x3 x4 x5) (fun r => zs_sum (fun v => ((zs_in (v.1).toInt 0 2147483647 ∧ zs_in (v.2).toInt 1 31)) ∧ v.2.toInt = c + 1) (fun v => False) r) := by
  unfold BX9_askOf_82
  refine zs_lt (Q := fun z => zs_in z.toInt 0 2147483647) (zs_max 0 2147483647 h_x3 (zs_topI _) (by decide)) (fun y_1 hy_1 => ?_)
  refine zs_lt (Q := fun z => zs_in z.toInt 1 31 ∧ z.toInt = c + 1) ⟨(zs_addI 1 31 h_x4 zlI_1 (by decide)), (zs_syI 1 hc h_x4 zlI_1 (by decide) (by decide))⟩ (fun y_3 hy_3 => ?_)
  exact zs_some (zs_inl ⟨⟨hy_1, hy_3.1⟩, hy_3.2⟩)
-- BX9_askOf_27
theorem zc_1554 {σ0 : sn_S} {σ : sn_S} (h_σ : zs_M σ0 σ) {x1 : Int32} (h_x1 : zs_in x1.toInt (-1) 5) {x2 : Int32} (h_x2 : zs_in x2.toInt 0 5) {x3 : Int32} (h_x3 : zs_in x3.toInt 0 2147483647) {x4 : Int32} (h_x4 : zs_in x4.toInt 0 31) {c : Int} (hc : x4.toInt = c + 0) : zs_ok (BX9_askOf_27 σ x1 x2 x3 x4) (fun r => zs_sum (fun v => ((zs_in (v.1).toInt 0 2147483647 ∧ zs_in (v.2).toInt 1 31)) ∧ v.2.toInt = c + 1) (fun v => zs_in (v).toInt 0 2147483647) r) := by
  unfold BX9_askOf_27
  refine zs_ite (fun c1 => ?_) (fun c1 => ?_)
  · skip
    have r2 := (zs_I_lt c1)
    have g3 : zs_in (x4).toInt 31 31 := (zs_ltr 31 31 r2 zlI_30 h_x4 (by decide))
    exact zs_some (zs_inr (h_x3))
  · skip
    have r4 := (zs_I_ltn c1)
    have g5 : zs_in (x4).toInt 0 30 := (zs_lel 0 30 r4 h_x4 zlI_30 (by decide))
    refine zs_bd_ (zd_304 h_σ h_x1 h_x2 h_x3 g5 (s0 := ((0 : Int32), (0 : Int32))) ⟨trivial, (zs_w zlI_0 (by decide))⟩) (fun t_2 pt_2 => ?_)
    obtain ⟨ret, er, hr⟩ := zc_1553 h_σ h_x1 h_x2 h_x3 g5 hc
    refine ⟨ret, er, ?_⟩
    exact (zs_sumw hr (fun v w => ⟨w.1, w.2⟩) (fun v w => w.elim))
theorem zd_305 {σ0 : sn_S} {σ : sn_S} (h_σ : zs_M σ0 σ) {x1 : Int32} (h_x1 : zs_in x1.toInt (-1) 5) {x2 : Int32} (h_x2 : zs_in x2.toInt 0 5) {s0 : (Int32 × Int32)} (h0 : (zs_in (s0.1).toInt 0 2147483647 ∧ zs_in (s0.2).toInt 0 31)) : zs_ok (sn_it (LX9_askOf_27 σ x1 x2) 5000 s0) (fun t => zs_in (t).toInt 0 2147483647) := by
  refine zs_it (I := fun s => (zs_in (s.1).toInt 0 2147483647 ∧ zs_in (s.2).toInt 0 31)) (m := fun s => 31 - s.2.toInt) (fun s hs => ?_) (fun s hs => ?_) (by exact h0)
  · have h1 := hs.2; unfold zs_in at h1
    omega
  · obtain ⟨b, eb, hb⟩ := zc_1554 h_σ h_x1 h_x2 hs.1 hs.2 (c := s.2.toInt) (Int.add_zero _).symm
    exact ⟨b, eb, zs_sumw hb (fun v w => ⟨⟨w.1.1, (zs_w w.1.2 (by decide))⟩, by have := w.2; omega⟩) (fun v w => w)⟩
-- BX9_askOf_113
theorem zc_1555 {σ0 : sn_S} {σ : sn_S} (h_σ : zs_M σ0 σ) {x1 : Int32} (h_x1 : zs_in x1.toInt 0 5) {x2 : Int32} (h_x2 : zs_in x2.toInt 0 5) {c : Int} (hc : x2.toInt = c + 0) : zs_ok (BX9_askOf_113 σ x1 x2) (fun r => zs_sum (fun v => ((zs_M σ0 v.1 ∧ (zs_in (v.2.1).toInt 0 5 ∧ zs_in (v.2.2).toInt 1 6))) ∧ v.2.2.toInt = c + 1) (fun v => False) r) := by
  unfold BX9_askOf_113
  refine zs_lt (Q := fun z => zs_in z.toInt 1 6 ∧ z.toInt = c + 1) ⟨(zs_addI 1 6 h_x2 zlI_1 (by decide)), (zs_syI 1 hc h_x2 zlI_1 (by decide) (by decide))⟩ (fun y_1 hy_1 => ?_)
  exact zs_some (zs_inl ⟨⟨h_σ, ⟨h_x1, hy_1.1⟩⟩, hy_1.2⟩)
-- BX9_askOf_113
theorem zc_1556 {σ0 : sn_S} {σ : sn_S} (h_σ : zs_M σ0 σ) {x1 : Int32} (h_x1 : zs_in x1.toInt (-1) 5) {x2 : Int32} (h_x2 : zs_in x2.toInt 0 5) {c : Int} (hc : x2.toInt = c + 0) : zs_ok (BX9_askOf_113 σ x1 x2) (fun r => zs_sum (fun v => ((zs_M σ0 v.1 ∧ (zs_in (v.2.1).toInt (-1) 5 ∧ zs_in (v.2.2).toInt 1 6))) ∧ v.2.2.toInt = c + 1) (fun v => False) r) := by
  unfold BX9_askOf_113
  refine zs_lt (Q := fun z => zs_in z.toInt 1 6 ∧ z.toInt = c + 1) ⟨(zs_addI 1 6 h_x2 zlI_1 (by decide)), (zs_syI 1 hc h_x2 zlI_1 (by decide) (by decide))⟩ (fun y_1 hy_1 => ?_)
  exact zs_some (zs_inl ⟨⟨h_σ, ⟨h_x1, hy_1.1⟩⟩, hy_1.2⟩)
-- BX9_askOf_95
theorem zc_1557 {σ0 : sn_S} {σ : sn_S} (h_σ : zs_M σ0 σ) {x1 : Int32} (h_x1 : zs_in x1.toInt (-1) 5) {x2 : Int32} (h_x2 : zs_in x2.toInt 0 5) {x3 : Int32} (h_x3 : zs_in x3.toInt 0 2147483647) {c : Int} (hc : x2.toInt = c + 0) : zs_ok (BX9_askOf_95 σ x1 x2 x3) (fun r => zs_sum (fun v => ((zs_M σ0 v.1 ∧ (zs_in (v.2.1).toInt (-1) 5 ∧ zs_in (v.2.2).toInt 1 6))) ∧ v.2.2.toInt = c + 1) (fun v => False) r) := by
  unfold BX9_askOf_95
  refine zs_ite (fun c1 => ?_) (fun c1 => ?_)
  · skip
    have r2 := (zs_I_lt c1)
    have g3 : zs_in (x3).toInt 0 2147483646 := (zs_ltl 0 2147483646 r2 h_x3 (zs_topI _) (by decide))
    have g4 : zs_in ((sn_I σ 0 37)).toInt 1 2147483647 := (zs_ltr 1 2147483647 r2 h_x3 (zs_topI _) (by decide))
    refine zs_lt (Q := fun z => zs_M σ0 z) (zs_wrkt h_σ rfl rfl) (fun σ_2 hσ_2 => ?_)
    obtain ⟨ret, er, hr⟩ := zc_1555 hσ_2 h_x2 h_x2 hc
    refine ⟨ret, er, ?_⟩
    exact (zs_sumw hr (fun v w => ⟨⟨w.1.1, ⟨(zs_w w.1.2.1 (by decide)), w.1.2.2⟩⟩, w.2⟩) (fun v w => w.elim))
  · skip
    have r5 := (zs_I_ltn c1)
    obtain ⟨ret, er, hr⟩ := zc_1556 h_σ h_x1 h_x2 hc
    refine ⟨ret, er, ?_⟩
    exact (zs_sumw hr (fun v w => ⟨w.1, w.2⟩) (fun v w => w.elim))
-- BX9_askOf_12
theorem zc_1558 {σ0 : sn_S} {σ : sn_S} (h_σ : zs_M σ0 σ) {x1 : Int32} (h_x1 : zs_in x1.toInt (-1) 5) {x2 : Int32} (h_x2 : zs_in x2.toInt 0 6) {c : Int} (hc : x2.toInt = c + 0) : zs_ok (BX9_askOf_12 σ x1 x2) (fun r => zs_sum (fun v => ((zs_M σ0 v.1 ∧ (zs_in (v.2.1).toInt (-1) 5 ∧ zs_in (v.2.2).toInt 1 6))) ∧ v.2.2.toInt = c + 1) (fun v => (zs_M σ0 v.1 ∧ zs_in (v.2).toInt (-1) 5)) r) := by
  unfold BX9_askOf_12
  refine zs_gd (zs_gin zlI_5 (by decide)) ?_
  refine zs_ite (fun c1 => ?_) (fun c1 => ?_)
  · skip
    have r2 := (zs_I_le c1)
    exact zs_some (zs_inr (⟨h_σ, h_x1⟩))
  · skip
    have r3 := (zs_I_len c1)
    have g4 : zs_in (x2).toInt 0 5 := (zs_ltl 0 5 r3 h_x2 (zs_rdk (q := 1) (k := (5 : Int32).toNatClampNeg) (z := (0, 6)) h_σ.1 rfl) (by decide))
    have g5 : zs_in ((sn_I σ 1 (5 : Int32).toNatClampNeg)).toInt 1 6 := (zs_ltr 1 6 r3 h_x2 (zs_rdk (q := 1) (k := (5 : Int32).toNatClampNeg) (z := (0, 6)) h_σ.1 rfl) (by decide))
    refine zs_bd_ (zd_305 h_σ h_x1 g4 (s0 := ((0 : Int32), (0 : Int32))) ⟨(zs_w zlI_0 (by decide)), (zs_w zlI_0 (by decide))⟩) (fun t_3 pt_3 => ?_)
    obtain ⟨ret, er, hr⟩ := zc_1557 h_σ h_x1 g4 pt_3 hc
    refine ⟨ret, er, ?_⟩
    exact (zs_sumw hr (fun v w => ⟨w.1, w.2⟩) (fun v w => w.elim))
theorem zd_306 {σ0 : sn_S}  {s0 : (sn_S × (Int32 × Int32))} (h0 : (zs_M σ0 s0.1 ∧ (zs_in (s0.2.1).toInt (-1) 5 ∧ zs_in (s0.2.2).toInt 0 6))) : zs_ok (sn_it (LX9_askOf_12) 5000 s0) (fun t => (zs_M σ0 t.1 ∧ zs_in (t.2).toInt (-1) 5)) := by
  refine zs_it (I := fun s => (zs_M σ0 s.1 ∧ (zs_in (s.2.1).toInt (-1) 5 ∧ zs_in (s.2.2).toInt 0 6))) (m := fun s => 6 - s.2.2.toInt) (fun s hs => ?_) (fun s hs => ?_) (by exact h0)
  · have h1 := hs.2.2; unfold zs_in at h1
    omega
  · obtain ⟨b, eb, hb⟩ := zc_1558 hs.1 hs.2.1 hs.2.2 (c := s.2.2.toInt) (Int.add_zero _).symm
    exact ⟨b, eb, zs_sumw hb (fun v w => ⟨⟨w.1.1, ⟨w.1.2.1, (zs_w w.1.2.2 (by decide))⟩⟩, by have := w.2; omega⟩) (fun v w => w)⟩
-- BX9_askOf_119
theorem zc_1559 {σ0 : sn_S} {σ : sn_S} (h_σ : zs_M σ0 σ) {x1 : Int32} (h_x1 : zs_in x1.toInt (-1) 5) : zs_ok (BX9_askOf_119 σ x1) (fun r => (zs_in (r.1).toInt (-1) 5 ∧ zs_M σ0 r.2)) := by
  unfold BX9_askOf_119
  exact zs_some ⟨h_x1, h_σ⟩
-- fX9_askOf
theorem zc_1560 {σ0 : sn_S} {σ : sn_S} (h_σ : zs_M σ0 σ) : zs_ok (fX9_askOf σ) (fun r => (zs_in (r.1).toInt (-1) 5 ∧ zs_M σ0 r.2)) := by
  unfold fX9_askOf
  refine zs_lt (Q := fun z => zs_M σ0 z) (zs_wrkt h_σ rfl rfl) (fun σ_1 hσ_1 => ?_)
  refine zs_bd_ (zd_306  (s0 := (σ_1, ((-1 : Int32), (0 : Int32)))) ⟨hσ_1, ⟨(zs_w zlI_m1 (by decide)), (zs_w zlI_0 (by decide))⟩⟩) (fun t_3 pt_3 => ?_)
  obtain ⟨ret, er, hr⟩ := zc_1559 pt_3.1 pt_3.2
  refine ⟨ret, er, ?_⟩
  exact hr
-- fX9_ask
theorem zc_1561 {σ0 : sn_S} {σ : sn_S} (h_σ : zs_M σ0 σ) {x1 : Int32} : zs_ok (fX9_ask σ x1) (fun r => (zs_in (r.1).toInt (-6) 5 ∧ zs_M σ0 r.2)) := by
  unfold fX9_ask
  refine zs_bd_ (zo_layPairs h_σ) (fun t_1 pt_1 => ?_)
  refine zs_ite (fun c1 => ?_) (fun c1 => ?_)
  · skip
    have r2 := (zs_I_le c1)
    have g3 : zs_in (t_1.1).toInt 0 0 := (zs_ler 0 0 r2 zlI_0 pt_1.1 (by decide))
    refine zs_bd_ (zc_1560 pt_1.2) (fun t_4 pt_4 => ?_)
    exact zs_some ⟨(zs_w pt_4.1 (by decide)), pt_4.2⟩
  · skip
    have r4 := (zs_I_len c1)
    have g5 : zs_in (t_1.1).toInt (-6) (-1) := (zs_ltl (-6) (-1) r4 pt_1.1 zlI_0 (by decide))
    exact zs_some ⟨(zs_w g5 (by decide)), pt_1.2⟩
-- fX9_leaves
theorem zc_1562 {σ0 : sn_S} {σ : sn_S} (h_σ : zs_M σ0 σ) {x1 : Int32} : zs_ok (fX9_leaves σ x1) (fun r => (True ∧ zs_M σ0 r.2)) := by
  unfold fX9_leaves
  refine zs_bd_ (zo_layPairs h_σ) (fun t_1 pt_1 => ?_)
  refine zs_ite (fun c1 => ?_) (fun c1 => ?_)
  · skip
    have r2 := (zs_I_le c1)
    have g3 : zs_in (t_1.1).toInt 0 0 := (zs_ler 0 0 r2 zlI_0 pt_1.1 (by decide))
    refine zs_bd_ (zc_1560 pt_1.2) (fun t_4 pt_4 => ?_)
    exact zs_some ⟨trivial, pt_4.2⟩
  · skip
    have r4 := (zs_I_len c1)
    have g5 : zs_in (t_1.1).toInt (-6) (-1) := (zs_ltl (-6) (-1) r4 pt_1.1 zlI_0 (by decide))
    exact zs_some ⟨trivial, pt_1.2⟩
end
section
/-! the reference's reader -/
def zm_k0 (q k : Nat) : Bool := bif Nat.beq q 0 then (Nat.beq k 5 || Nat.beq k 7) else (Nat.beq q 2 || Nat.beq q 3 || Nat.beq q 4 || Nat.beq q 21 || Nat.beq q 22)
def zm_k (q k : Nat) : Bool := bif Nat.beq q 1 then true else (zm_k0 q k)
abbrev zm_G := zs_G zs_tM zm_k zs_lM
abbrev zm_G0 := zs_G zs_tM zm_k0 zs_lM
theorem zm_w0 {a b : sn_S} (h : zm_G a b) : zm_G0 a b := ⟨h.1, fun q k hk => h.2.1 q k (by
  unfold zm_k
  cases Nat.beq q 1
  · exact hk
  · rfl), h.2.2⟩
def zm_pos (z : sn_S) : Prop := (z.1 0 9).toInt ≤ (z.1 0 8).toInt ∧ (z.1 0 8).toInt ≤ (z.1 0 7).toInt ∧ (z.1 0 10 ≠ 0 → (z.1 0 9).toInt < (z.1 0 7).toInt) ∧ (z.1 0 10 = 3 → (z.1 0 9).toInt < (z.1 0 8).toInt)
def zm_P (σ0 σ z : sn_S) : Prop := zm_G σ0 z ∧ zm_pos z ∧ (σ.1 0 9).toInt ≤ (z.1 0 9).toInt ∧ ∀ q, q ≠ 0 → z.1 q = σ.1 q
section
variable {σ0 σ z w s : sn_S}
theorem zm_Pt (a : zm_P σ0 σ z) (b : zm_P σ0 z w) : zm_P σ0 σ w := ⟨b.1, b.2.1, Int.le_trans a.2.2.1 b.2.2.1, fun q hq => (b.2.2.2 q hq).trans (a.2.2.2 q hq)⟩
theorem zm_P0 (h : zm_G σ0 σ) (hp : zm_pos σ) : zm_P σ0 σ σ := ⟨h, hp, Int.le_refl _, fun _ _ => rfl⟩
theorem zm_b {k : Nat} (h : zm_G σ0 z) (hk : zs_tM 0 k = (0, 900)) : 0 ≤ (z.1 0 k).toInt ∧ (z.1 0 k).toInt ≤ 900 := by
  have := h.1.1 0 k
  rw [hk] at this
  exact this
theorem zm_see (h : zm_G σ0 σ) {x : Int32} (hx : 0 ≤ x.toInt) : zs_ok (fX9_see σ x) (fun v => v ≠ -1 → x.toInt < (σ.1 0 7).toInt) := by
  unfold fX9_see
  refine zs_ite (fun _ => zs_some (fun e => absurd rfl e)) (fun c => ?_)
  have c1 : x.toInt < (σ.1 0 7).toInt := zs_I_len c
  have b7 := zm_b (k := 7) h rfl
  exact zs_gd (zs_gin (a := 0) (b := 899) ⟨hx, by omega⟩ (by decide)) (zs_some (fun _ => c1))
theorem zm_in (a b c : Int32) : zs_ok (fX9_in a.toInt64 b.toInt64 c.toInt64) (fun r => r ≠ 0 → b.toInt ≤ a.toInt ∧ a.toInt ≤ c.toInt) := by
  rw [in_eq32]
  by_cases e : b ≤ a ∧ a ≤ c
  · rw [if_pos e]
    exact zs_some (fun _ => ⟨Int32.le_iff_toInt_le.mp e.1, Int32.le_iff_toInt_le.mp e.2⟩)
  · rw [if_neg e]
    exact zs_some (fun e => absurd rfl e)
theorem zm_in1 (a : Int32) : zs_ok (fX9_in a.toInt64 (97 : Int64) (122 : Int64)) (fun r => r ≠ 0 → a ≠ -1) := zs_okw (zm_in a 97 122) (fun r h e e2 => by
  have := (h e).1
  rw [e2] at this
  exact absurd this (by decide))
theorem zm_in2 (a : Int32) : zs_ok (fX9_in a.toInt64 (48 : Int64) (57 : Int64)) (fun r => r ≠ 0 → a ≠ -1) := zs_okw (zm_in a 48 57) (fun r h e e2 => by
  have := (h e).1
  rw [e2] at this
  exact absurd this (by decide))
/-- between two of its places -/
def zm_A (σ0 σ z : sn_S) : Prop := zm_G σ0 z ∧ (σ.1 0 8).toInt ≤ (z.1 0 8).toInt ∧ (z.1 0 8).toInt ≤ (z.1 0 7).toInt ∧ (∀ q, q ≠ 0 → z.1 q = σ.1 q) ∧ z.1 0 12 = σ.1 0 12
theorem zm_o {v : Int32} {k : Nat} (h : ∀ q, q ≠ 0 → z.1 q = σ.1 q) : ∀ q, q ≠ 0 → (sn_pI z 0 k v).1 q = σ.1 q := fun q hq => by rw [pI_ne hq, h q hq]
theorem zm_mv (h : zm_A σ0 σ z) (hlt : (z.1 0 8).toInt < (z.1 0 7).toInt) : zm_A σ0 σ (sn_pI z 0 8 ((sn_I z 0 8) + (1 : Int32))) ∧ ((sn_I z 0 8) + (1 : Int32)).toInt = (z.1 0 8).toInt + 1 := by
  have b7 := zm_b (k := 7) h.1 rfl
  have b8 := zm_b (k := 8) h.1 rfl
  have e := zk_inc (x := z.1 0 8) b8.1 (by omega)
  have e2 : ((sn_I z 0 8) + (1 : Int32)).toInt = (z.1 0 8).toInt + 1 := e
  refine ⟨⟨zs_wrk (z := (0, 900)) (a := 0) (b := 900) h.1 rfl ⟨by omega, by omega⟩ (by decide) rfl, ?_, ?_, zm_o h.2.2.2.1, h.2.2.2.2⟩, e2⟩
  · show (σ.1 0 8).toInt ≤ ((sn_I z 0 8) + (1 : Int32)).toInt
    have := h.2.1
    omega
  · show ((sn_I z 0 8) + (1 : Int32)).toInt ≤ (z.1 0 7).toInt
    omega
theorem zm_m (h : zm_A σ0 σ z) : 0 ≤ 900 - (z.1 0 8).toInt ∧ 900 - (z.1 0 8).toInt < 4999 := by
  have b8 := zm_b (k := 8) h.1 rfl
  exact ⟨by omega, by omega⟩
theorem zm_skip (h : zm_A σ0 σ z) : zs_ok (sn_it LX9_advance_0 5000 z) (fun t => zm_A σ0 σ t) := by
  refine zs_it (I := fun s => zm_A σ0 σ s) (m := fun s => 900 - (s.1 0 8).toInt) (fun s hs => zm_m hs) (fun s hs => ?_) h
  have b8 := zm_b (k := 8) hs.1 rfl
  have mv : (s.1 0 8).toInt < (s.1 0 7).toInt → zs_ok (BX9_advance_26 s) (zs_sum (fun s' => zm_A σ0 σ s' ∧ 900 - (s'.1 0 8).toInt < 900 - (s.1 0 8).toInt) (fun t => zm_A σ0 σ t)) := by
    intro hlt
    have g := zm_mv hs hlt
    unfold BX9_advance_26
    refine zs_lt (Q := fun y => y = sn_pI s 0 8 ((sn_I s 0 8) + (1 : Int32))) rfl (fun y hy => ?_)
    subst hy
    exact zs_some (zs_inl ⟨g.1, by show 900 - ((sn_I s 0 8) + (1 : Int32)).toInt < _; have := g.2; omega⟩)
  unfold LX9_advance_0 BX9_advance_0
  refine zs_bd_ (zm_see hs.1 b8.1) (fun t ht => zs_ite (fun c => mv (ht (by rw [c]; decide))) (fun _ => ?_))
  exact zs_bd_ (zm_see hs.1 b8.1) (fun t ht => zs_ite (fun c => mv (ht (by rw [c]; decide))) (fun _ => zs_some (zs_inr hs)))
/-- behind a token's first place -/
def zm_B (σ0 σ z : sn_S) : Prop := zm_A σ0 σ z ∧ (σ.1 0 8).toInt ≤ (z.1 0 9).toInt ∧ (z.1 0 9).toInt ≤ (z.1 0 8).toInt ∧ (z.1 0 9).toInt < (z.1 0 7).toInt
theorem zm_Bmv (h : zm_B σ0 σ z) (hlt : (z.1 0 8).toInt < (z.1 0 7).toInt) : zm_B σ0 σ (sn_pI z 0 8 ((sn_I z 0 8) + (1 : Int32))) ∧ ((sn_I z 0 8) + (1 : Int32)).toInt = (z.1 0 8).toInt + 1 := by
  have g := zm_mv h.1 hlt
  refine ⟨⟨g.1, h.2.1, ?_, h.2.2.2⟩, g.2⟩
  show (z.1 0 9).toInt ≤ ((sn_I z 0 8) + (1 : Int32)).toInt
  have := g.2
  have := h.2.2.1
  omega
theorem zm_B11 {v : Int32} (h : zm_B σ0 σ z) : zm_B σ0 σ (sn_pI z 0 11 v) := ⟨⟨zs_wrkt h.1.1 rfl rfl, h.1.2.1, h.1.2.2.1, zm_o h.1.2.2.2.1, h.1.2.2.2.2⟩, h.2⟩
theorem zm_word (h : zm_B σ0 σ z) : zs_ok (sn_it LX9_advance_83 5000 z) (fun t => zm_B σ0 σ t) := by
  refine zs_it (I := fun s => zm_B σ0 σ s) (m := fun s => 900 - (s.1 0 8).toInt) (fun s hs => zm_m hs.1) (fun s hs => ?_) h
  have b8 := zm_b (k := 8) hs.1.1 rfl
  unfold LX9_advance_83 BX9_advance_83
  refine zs_bd_ (zm_see hs.1.1 b8.1) (fun t ht => zs_bd_ (zm_in1 t) (fun u hu => zs_ite (fun _ => zs_some (zs_inr hs)) (fun c => ?_)))
  have g := zm_Bmv hs (ht (hu c))
  refine zs_lt (Q := fun y => y = sn_pI s 0 8 ((sn_I s 0 8) + (1 : Int32))) rfl (fun y hy => ?_)
  subst hy
  exact zs_some (zs_inl ⟨g.1, by show 900 - ((sn_I s 0 8) + (1 : Int32)).toInt < _; have := g.2; omega⟩)
theorem zm_digits (h : zm_B σ0 σ z) : zs_ok (sn_it LX9_advance_144 5000 z) (fun t => zm_B σ0 σ t) := by
  refine zs_it (I := fun s => zm_B σ0 σ s) (m := fun s => 900 - (s.1 0 8).toInt) (fun s hs => zm_m hs.1) (fun s hs => ?_) h
  have b8 := zm_b (k := 8) hs.1.1 rfl
  unfold LX9_advance_144 BX9_advance_144
  refine zs_bd_ (zm_see hs.1.1 b8.1) (fun t ht => zs_bd_ (zm_in2 t) (fun u hu => zs_ite (fun _ => zs_some (zs_inr hs)) (fun c => ?_)))
  refine zs_bd_ (zm_see hs.1.1 b8.1) (fun t6 _ => ?_)
  refine zs_lt (Q := fun _ => True) trivial (fun y8 _ => ?_)
  refine zs_lt (Q := fun y => zm_B σ0 σ y ∧ y.1 0 8 = s.1 0 8 ∧ y.1 0 7 = s.1 0 7) ⟨zm_B11 hs, rfl, rfl⟩ (fun s1 h1 => ?_)
  have g := zm_Bmv h1.1 (by rw [h1.2.1, h1.2.2]; exact ht (hu c))
  refine zs_lt (Q := fun y => y = sn_pI s1 0 8 ((sn_I s1 0 8) + (1 : Int32))) rfl (fun y hy => ?_)
  subst hy
  refine zs_some (zs_inl ⟨g.1, ?_⟩)
  show 900 - ((sn_I s1 0 8) + (1 : Int32)).toInt < 900 - (s.1 0 8).toInt
  have h2 := g.2
  rw [h1.2.1] at h2
  omega
def zm_V (σ0 σ z : sn_S) : Prop := zm_G σ0 z ∧ zm_pos z ∧ (σ.1 0 8).toInt ≤ (z.1 0 9).toInt ∧ (∀ q, q ≠ 0 → z.1 q = σ.1 q) ∧ z.1 0 12 = σ.1 0 12
theorem zm_226 (h : zm_B σ0 σ z) (hlt : (z.1 0 8).toInt < (z.1 0 7).toInt) {t : Int32} : zs_ok (BX9_advance_226 z t) (fun u => zm_V σ0 σ u) := by
  unfold BX9_advance_226
  refine zs_lt (Q := fun y => zm_B σ0 σ y ∧ (y.1 0 8).toInt < (y.1 0 7).toInt) ⟨⟨⟨zs_wrkt h.1.1 rfl rfl, h.1.2.1, h.1.2.2.1, zm_o h.1.2.2.2.1, h.1.2.2.2.2⟩, h.2⟩, hlt⟩ (fun s1 h1 => ?_)
  have g := zm_Bmv h1.1 h1.2
  refine zs_lt (Q := fun y => y = sn_pI s1 0 8 ((sn_I s1 0 8) + (1 : Int32))) rfl (fun y hy => ?_)
  subst hy
  have k1 := h1.1.2.2.1
  have k2 := g.2
  exact zs_some ⟨g.1.1.1, ⟨g.1.2.2.1, g.1.1.2.2.1, fun _ => g.1.2.2.2, fun _ => by show (s1.1 0 9).toInt < ((sn_I s1 0 8) + (1 : Int32)).toInt; omega⟩, g.1.2.1, g.1.1.2.2.2.1, g.1.1.2.2.2.2⟩
theorem zm_tok (h : zm_B σ0 σ z) {t : Int32} (ht : t ≠ 3) : zm_V σ0 σ (sn_pI z 0 10 t) := ⟨zs_wrkt h.1.1 rfl rfl, ⟨h.2.2.1, h.1.2.2.1, fun _ => h.2.2.2, fun e => absurd e ht⟩, h.2.1, zm_o h.1.2.2.2.1, h.1.2.2.2.2⟩
theorem zm_adv (h : zm_G σ0 σ) (h8 : (σ.1 0 8).toInt ≤ (σ.1 0 7).toInt) : zs_ok (fX9_advance σ) (fun z => zm_V σ0 σ z) := by
  unfold fX9_advance
  refine zs_bd_ (zm_skip (σ := σ) ⟨h, Int.le_refl _, h8, fun _ _ => rfl, rfl⟩) (fun z1 g1 => ?_)
  unfold BX9_advance_39
  have b8 := zm_b (k := 8) g1.1 rfl
  refine zs_lt (Q := fun y => zm_A σ0 σ y ∧ y.1 0 9 = y.1 0 8) ⟨⟨zs_wrk (z := (0, 900)) (a := 0) (b := 900) g1.1 rfl b8 (by decide) rfl, g1.2.1, g1.2.2.1, zm_o g1.2.2.2.1, g1.2.2.2.2⟩, rfl⟩ (fun z2 g2 => ?_)
  have c8 := zm_b (k := 8) g2.1.1 rfl
  refine zs_bd_ (zm_see g2.1.1 c8.1) (fun t ht => zs_ite (fun _ => ?_) (fun c => ?_))
  · refine zs_lt (Q := fun u => zm_V σ0 σ u) ⟨zs_wrkt g2.1.1 rfl rfl, ⟨?_, g2.1.2.2.1, fun e => absurd rfl e, fun e => absurd (show (0 : Int32) = 3 from e) (by decide)⟩, ?_, zm_o g2.1.2.2.2.1, g2.1.2.2.2.2⟩ (fun u hu => zs_some hu)
    · show (z2.1 0 9).toInt ≤ (z2.1 0 8).toInt
      rw [g2.2]
      exact Int.le_refl _
    · show (σ.1 0 8).toInt ≤ (z2.1 0 9).toInt
      rw [g2.2]
      exact g2.1.2.1
  · have hlt : (z2.1 0 8).toInt < (z2.1 0 7).toInt := ht c
    have hB : zm_B σ0 σ z2 := ⟨g2.1, by rw [g2.2]; exact g2.1.2.1, by rw [g2.2]; exact Int.le_refl _, by rw [g2.2]; exact hlt⟩
    refine zs_bd_ (zm_in1 t) (fun t6 _ => zs_ite (fun _ => ?_) (fun _ => ?_))
    · refine zs_bd_ (zm_in2 t) (fun t9 _ => zs_ite (fun _ => ?_) (fun _ => ?_))
      · exact zs_ite (fun _ => zm_226 hB hlt) (fun _ => zm_226 hB hlt)
      · refine zs_lt (Q := fun y => zm_B σ0 σ y) (zm_B11 hB) (fun z3 g3 => zs_bd_ (zm_digits g3) (fun z4 g4 => ?_))
        unfold BX9_advance_206
        exact zs_lt (Q := fun u => zm_V σ0 σ u) (zm_tok g4 (by decide)) (fun u hu => zs_some hu)
    · refine zs_bd_ (zm_word hB) (fun z4 g4 => ?_)
      unfold BX9_advance_117
      exact zs_lt (Q := fun u => zm_V σ0 σ u) (zm_tok g4 (by decide)) (fun u hu => zs_some hu)
theorem zm_VP (hp : zm_pos σ) (h : zm_V σ0 σ z) : zm_P σ0 σ z := ⟨h.1, h.2.1, Int.le_trans hp.1 h.2.2.1, h.2.2.2.1⟩
theorem zm_good : zs_ok (fX9_good σ) (fun t => (t = 0 → σ.1 0 12 ≠ 0) ∧ (t ≠ 0 → σ.1 0 12 = 0)) := by
  unfold fX9_good
  exact zs_ite (fun c => zs_gd (by decide) (zs_some ⟨fun e => absurd e (by decide), fun _ => c⟩)) (fun c => zs_gd (by decide) (zs_some ⟨fun _ => c, fun e => absurd rfl e⟩))
theorem zm_errs (h : zm_G σ0 σ) (hp : zm_pos σ) {x : Int32} (hx : zs_in x.toInt 1 3) : zs_ok (fX9_errs σ x) (fun z => zm_P σ0 σ z ∧ z.1 0 12 ≠ 0) := by
  unfold fX9_errs
  refine zs_bd_ zm_good (fun t ht => zs_ite (fun c => zs_some ⟨zm_P0 h hp, ht.1 c⟩) (fun _ => ?_))
  have hx0 : x ≠ 0 := fun e => by
    rw [e] at hx
    exact absurd hx (by decide)
  refine zs_lt (Q := fun z => zm_P σ0 σ z ∧ z.1 0 12 ≠ 0) ⟨⟨zs_wrk (z := (0, 3)) h rfl hx (by decide) rfl, hp, Int.le_refl _, zm_o (fun _ _ => rfl)⟩, hx0⟩ (fun z1 g1 => ?_)
  exact zs_lt (Q := fun z => zm_P σ0 σ z ∧ z.1 0 12 ≠ 0) ⟨⟨zs_wrkt g1.1.1 rfl rfl, g1.1.2.1, g1.1.2.2.1, zm_o g1.1.2.2.2⟩, g1.2⟩ (fun z2 g2 => zs_some g2)
theorem zm_is36 (h : zm_G σ0 σ) {k : Nat} (hk : k < 16) {t : Int32} (ht : t = 0 ∨ (t = 1 ∧ (σ.1 0 9).toInt + ((sn_len.getD k 0 : Nat) : Int) ≤ 900)) : zs_ok (BX9_is_36 σ k t) (fun r => zs_in r.toInt 0 1) := by
  have hL : sn_len.getD k 0 < 8 := sn_len8 k hk
  have b9 := zm_b (k := 9) h rfl
  have es : sn_slen k = some (Int32.ofNat (sn_len.getD k 0)) := by
    unfold sn_slen
    rw [if_pos hk]
  have eL : (Int32.ofNat (sn_len.getD k 0)).toInt = ((sn_len.getD k 0 : Nat) : Int) := nI_toInt (by omega)
  unfold BX9_is_36
  refine zs_bd_ (zs_it (E := fun r : Int32 => zs_in r.toInt 0 1) (I := fun s : Int32 × Int32 => zs_in s.1.toInt 0 1 ∧ 0 ≤ s.2.toInt ∧ s.2.toInt ≤ ((sn_len.getD k 0 : Nat) : Int) ∧ (s.1 ≠ 0 → (σ.1 0 9).toInt + ((sn_len.getD k 0 : Nat) : Int) ≤ 900)) (m := fun s => 100 - s.2.toInt) (fun s hs => ⟨by have := hs.2; omega, by have := hs.2; omega⟩) (fun s hs => ?_) ?_) (fun r hr => ?_)
  · unfold LX9_is_39 BX9_is_39
    rw [es]
    show zs_ok (if Int32.ofNat (sn_len.getD k 0) ≤ s.2 then _ else _) _
    refine zs_ite (fun _ => zs_some (zs_inr hs.1)) (fun c => zs_ite (fun _ => zs_some (zs_inr hs.1)) (fun c2 => ?_))
    have c1 := zs_I_len c
    rw [eL] at c1
    have h9 := hs.2.2.2 c2
    have e5 : (sn_I σ 0 9 + s.2).toInt = (σ.1 0 9).toInt + s.2.toInt := by
      show (σ.1 0 9 + s.2).toInt = _
      rw [Int32.toInt_add, zs_bm ⟨by omega, by omega⟩]
    have e6 : ∃ v, sn_sat k s.2 = some v := by
      unfold sn_sat
      rw [if_pos ⟨hk, zs_gin (a := 0) (b := ((sn_len.getD k 0 : Nat) : Int) - 1) ⟨by omega, by omega⟩ ⟨by omega, by omega⟩⟩]
      exact ⟨_, rfl⟩
    obtain ⟨v, ev⟩ := e6
    refine zs_gd (zs_gin (a := 0) (b := 899) ⟨by omega, by omega⟩ (by decide)) ?_
    rw [ev]
    have e7 := zk_inc (x := s.2) hs.2.1 (by omega)
    have nx : ∀ t0 : Int32, zs_in t0.toInt 0 1 → zs_ok (BX9_is_75 σ k s.1 s.2 t0) (zs_sum (fun s' : Int32 × Int32 => (zs_in s'.1.toInt 0 1 ∧ 0 ≤ s'.2.toInt ∧ s'.2.toInt ≤ ((sn_len.getD k 0 : Nat) : Int) ∧ (s'.1 ≠ 0 → (σ.1 0 9).toInt + ((sn_len.getD k 0 : Nat) : Int) ≤ 900)) ∧ 100 - s'.2.toInt < 100 - s.2.toInt) (fun r : Int32 => zs_in r.toInt 0 1)) := by
      intro t0 h0
      unfold BX9_is_75
      refine zs_lt (Q := fun y => y = s.2 + 1) rfl (fun y hy => ?_)
      subst hy
      exact zs_some (zs_inl ⟨⟨h0, by show 0 ≤ (s.2 + 1).toInt; omega, by show (s.2 + 1).toInt ≤ _; omega, fun _ => h9⟩, by show 100 - (s.2 + 1).toInt < _; omega⟩)
    show zs_ok (if sn_I σ 4 (sn_I σ 0 9 + s.2).toNatClampNeg = v then _ else _) _
    exact zs_ite (fun _ => nx 1 (by decide)) (fun _ => nx 0 (by decide))
  · have z0 : (0 : Int32).toInt = 0 := by decide
    refine ⟨?_, (show (0 : Int) ≤ (0 : Int32).toInt by decide), (show (0 : Int32).toInt ≤ ((sn_len.getD k 0 : Nat) : Int) by omega), fun e => ?_⟩
    · rcases ht with e | e
      · show zs_in t.toInt 0 1
        rw [e]
        decide
      · show zs_in t.toInt 0 1
        rw [e.1]
        decide
    · rcases ht with e2 | e2
      · exact absurd e2 e
      · exact e2.2
  · unfold BX9_is_82
    exact zs_gd (zs_b01 hr (by decide)) (zs_some hr)
theorem zm_is (h : zm_G σ0 σ) (hp : zm_pos σ) {k : Nat} (hk : k < 16) : zs_ok (fX9_is σ k) (fun r => zs_in r.toInt 0 1) := by
  have z35 : zs_ok (BX9_is_35 σ k) (fun r => zs_in r.toInt 0 1) := by
    unfold BX9_is_35
    exact zm_is36 h hk (Or.inl rfl)
  have hL : sn_len.getD k 0 < 8 := sn_len8 k hk
  have es : sn_slen k = some (Int32.ofNat (sn_len.getD k 0)) := by
    unfold sn_slen
    rw [if_pos hk]
  unfold fX9_is
  refine zs_bd_ zm_good (fun t _ => zs_ite (fun _ => z35) (fun _ => zs_ite (fun _ => ?_) (fun _ => z35)))
  rw [es]
  show zs_ok (if (sn_I σ 0 8 - sn_I σ 0 9) = Int32.ofNat (sn_len.getD k 0) then _ else _) _
  refine zs_ite (fun c => zm_is36 h hk (Or.inr ⟨rfl, ?_⟩)) (fun _ => z35)
  have b9 := zm_b (k := 9) h rfl
  have b8 := zm_b (k := 8) h rfl
  have h1 := congrArg Int32.toInt c
  have h2 : (Int32.ofNat (sn_len.getD k 0)).toInt = ((sn_len.getD k 0 : Nat) : Int) := nI_toInt (by omega)
  rw [h2] at h1
  have h3 : (sn_I σ 0 8 - sn_I σ 0 9).toInt = (σ.1 0 8).toInt - (σ.1 0 9).toInt := by
    show (σ.1 0 8 - σ.1 0 9).toInt = _
    rw [Int32.toInt_sub, zs_bm ⟨by omega, by omega⟩]
  omega
theorem zm_advP (h : zm_G σ0 σ) (hp : zm_pos σ) : zs_ok (fX9_advance σ) (fun z => zm_P σ0 σ z) := zs_okw (zm_adv h hp.2.1) (fun _ hv => zm_VP hp hv)
theorem zm_takes (h : zm_G σ0 σ) (hp : zm_pos σ) {k : Nat} (hk : k < 16) : zs_ok (fX9_takes σ k) (fun r => zm_P σ0 σ r.2) := by
  unfold fX9_takes
  refine zs_bd_ (zm_is h hp hk) (fun t ht => zs_ite (fun _ => zs_gd (zs_b01 ht (by decide)) (zs_some (zm_P0 h hp))) (fun _ => ?_))
  exact zs_bd_ (zm_advP h hp) (fun u hu => zs_gd (zs_b01 ht (by decide)) (zs_some hu))
theorem zm_needs (h : zm_G σ0 σ) (hp : zm_pos σ) {k : Nat} (hk : k < 16) : zs_ok (fX9_needs σ k) (fun z => zm_P σ0 σ z) := by
  unfold fX9_needs
  refine zs_bd_ (zm_takes h hp hk) (fun t ht => zs_ite (fun _ => ?_) (fun _ => zs_some ht))
  exact zs_bd_ (zm_errs ht.1 ht.2.1 (by decide)) (fun u hu => zs_some (zm_Pt ht hu.1))
theorem zm_n47 (h : zm_G σ0 σ) (hp : zm_pos σ) {lo hi : Int} (hv : σ.1 0 12 = 0 → lo ≤ (σ.1 0 11).toInt ∧ (σ.1 0 11).toInt ≤ hi) : zs_ok (BX9_number_47 σ) (fun r => zm_P σ0 σ r.2 ∧ (r.1.toInt = 0 ∨ (lo ≤ r.1.toInt ∧ r.1.toInt ≤ hi))) := by
  unfold BX9_number_47
  refine zs_bd_ zm_good (fun t ht => zs_ite (fun _ => zs_some ⟨zm_P0 h hp, Or.inl (show (0 : Int32).toInt = 0 by decide)⟩) (fun c => ?_))
  refine zs_lt (Q := fun y => y = σ.1 0 11) rfl (fun y hy => zs_bd_ (zm_advP h hp) (fun u hu => zs_some ⟨hu, Or.inr ?_⟩))
  show lo ≤ y.toInt ∧ y.toInt ≤ hi
  rw [hy]
  exact hv (ht.2 c)
theorem zm_n20 (h : zm_G σ0 σ) (hp : zm_pos σ) {lo hi : Int32} : zs_ok (BX9_number_20 σ lo hi) (fun r => zm_P σ0 σ r.2 ∧ (r.1.toInt = 0 ∨ (lo.toInt ≤ r.1.toInt ∧ r.1.toInt ≤ hi.toInt))) := by
  unfold BX9_number_20
  refine zs_bd_ zm_good (fun t ht => zs_ite (fun c => zm_n47 h hp (fun e => absurd e (ht.1 c))) (fun c => ?_))
  refine zs_bd_ (zm_in (sn_I σ 0 11) lo hi) (fun u hu => zs_ite (fun _ => ?_) (fun c2 => zm_n47 h hp (fun _ => hu c2)))
  refine zs_bd_ (zm_errs h hp (by decide)) (fun z hz => ?_)
  exact zs_okw (zm_n47 (lo := lo.toInt) (hi := hi.toInt) hz.1.1 hz.1.2.1 (fun e => absurd e hz.2)) (fun r hr => ⟨zm_Pt hz.1 hr.1, hr.2⟩)
theorem zm_number (h : zm_G σ0 σ) (hp : zm_pos σ) {lo hi : Int32} : zs_ok (fX9_number σ lo hi) (fun r => zm_P σ0 σ r.2 ∧ (r.1.toInt = 0 ∨ (lo.toInt ≤ r.1.toInt ∧ r.1.toInt ≤ hi.toInt))) := by
  unfold fX9_number
  refine zs_bd_ zm_good (fun t _ => zs_ite (fun _ => zm_n20 h hp) (fun _ => zs_ite (fun _ => zm_n20 h hp) (fun _ => ?_)))
  refine zs_bd_ (zm_errs h hp (by decide)) (fun z hz => ?_)
  exact zs_okw (zm_n20 hz.1.1 hz.1.2.1) (fun r hr => ⟨zm_Pt hz.1 hr.1, hr.2⟩)
theorem zm_told (h : zm_G σ0 σ) (hp : zm_pos σ) {k : Nat} (hk : k < 16) {lo hi : Int32} : zs_ok (fX9_told σ k lo hi) (fun r => zm_P σ0 σ r.2 ∧ (r.1.toInt = 0 ∨ (lo.toInt ≤ r.1.toInt ∧ r.1.toInt ≤ hi.toInt))) := by
  unfold fX9_told
  refine zs_bd_ (zm_needs h hp hk) (fun t ht => zs_bd_ (zm_number ht.1 ht.2.1) (fun u hu => zs_some ⟨zm_Pt ht hu.1, hu.2⟩))
end
/-! the reference's rows -/
def zm_L (σ0 s z : sn_S) : Prop := zm_G σ0 z ∧ zm_pos z ∧ (s.1 0 9).toInt ≤ (z.1 0 9).toInt ∧ ∀ k, 5 ≤ k → k ≤ 10 → z.1 6 k = s.1 6 k
def zm_E (σ0 s z : sn_S) : Prop := zm_G σ0 z ∧ zm_pos z ∧ (s.1 0 9).toInt ≤ (z.1 0 9).toInt ∧ z.1 6 10 = s.1 6 10
def zm_F (k c : Nat) (lim : Int32) (z : sn_S) : Prop := z.1 0 12 = 0 → ∀ v, fX9_is z k = some v → v ≠ 0 → z.1 6 c ≠ lim
def zm_W (z : sn_S) : Prop := z.1 0 12 = 0 → ∀ v6 v7 v8 v9, fX9_is z 6 = some v6 → fX9_is z 7 = some v7 → fX9_is z 8 = some v8 → fX9_is z 9 = some v9 → v6 = 0 → v7 = 0 → v8 = 0 → v9 ≠ 0
section
variable {σ0 σ z w s : sn_S}
theorem zm_Lp (h : zm_L σ0 s z) (p : zm_P σ0 z w) : zm_L σ0 s w := ⟨p.1, p.2.1, Int.le_trans h.2.2.1 p.2.2.1, fun k a b => by rw [p.2.2.2 6 (by decide)]; exact h.2.2.2 k a b⟩
theorem zm_LE (h : zm_L σ0 s z) : zm_E σ0 s z := ⟨h.1, h.2.1, h.2.2.1, h.2.2.2 10 (by decide) (by decide)⟩
theorem zm_pos6 {i : Nat} {v : Int32} (h : zm_pos z) : zm_pos (sn_pI z 6 i v) := by
  unfold zm_pos
  rw [pI_ne (show (0 : Nat) ≠ 6 by decide)]
  exact h
theorem zm_Lw {i : Nat} {v : Int32} (h : zm_L σ0 s z) (hi : ¬ (5 ≤ i ∧ i ≤ 10)) (hb : (zs_tM 6 i).1 ≤ v.toInt ∧ v.toInt ≤ (zs_tM 6 i).2) : zm_L σ0 s (sn_pI z 6 i v) := ⟨zs_wr h.1 hb rfl, zm_pos6 h.2.1, by
  rw [pI_ne (show (0 : Nat) ≠ 6 by decide)]
  exact h.2.2.1, fun k a b => by
  rw [pI_slot (fun e => hi ⟨by omega, by omega⟩)]
  exact h.2.2.2 k a b⟩
theorem zm_Ec {c : Nat} {v : Int32} (h : zm_L σ0 s z) (hc : c ≠ 10) (hb : (zs_tM 6 c).1 ≤ v.toInt ∧ v.toInt ≤ (zs_tM 6 c).2) : zm_E σ0 s (sn_pI z 6 c v) := ⟨zs_wr h.1 hb rfl, zm_pos6 h.2.1, by
  rw [pI_ne (show (0 : Nat) ≠ 6 by decide)]
  exact h.2.2.1, by
  rw [pI_slot (fun e => hc e.symm)]
  exact h.2.2.2 10 (by decide) (by decide)⟩
theorem zm_vb {lo hi : Int32} {v a b : Int} (h : v = 0 ∨ (lo.toInt ≤ v ∧ v ≤ hi.toInt)) (hl : a ≤ 0 ∧ 0 ≤ b ∧ a ≤ lo.toInt ∧ hi.toInt ≤ b) : a ≤ v ∧ v ≤ b := ⟨by omega, by omega⟩
theorem zm_readFirst (h : zm_L σ0 s σ) : zs_ok (fX9_readFirst σ) (fun z => zm_E σ0 s z) := by
  unfold fX9_readFirst
  refine zs_bd_ (zm_needs h.1 h.2.1 (by decide)) (fun t1 p1 => ?_)
  have h1 := zm_Lp h p1
  refine zs_bd_ (zm_told h1.1 h1.2.1 (by decide)) (fun r2 p2 => zs_gd (by decide) ?_)
  refine zs_lt (Q := fun z => zm_L σ0 s z) (zm_Lw (zm_Lp h1 p2.1) (by decide) (zm_vb p2.2 (by decide))) (fun z2 h2 => ?_)
  refine zs_bd_ (zm_told h2.1 h2.2.1 (by decide)) (fun r3 p3 => zs_gd (by decide) ?_)
  refine zs_lt (Q := fun z => zm_L σ0 s z) (zm_Lw (zm_Lp h2 p3.1) (by decide) (zm_vb p3.2 (by decide))) (fun z3 h3 => ?_)
  refine zs_bd_ (zm_told h3.1 h3.2.1 (by decide)) (fun r4 p4 => zs_gd (by decide) ?_)
  refine zs_lt (Q := fun z => zm_L σ0 s z) (zm_Lw (zm_Lp h3 p4.1) (by decide) (zm_vb p4.2 (by decide))) (fun z4 h4 => ?_)
  refine zs_bd_ (zm_told h4.1 h4.2.1 (by decide)) (fun r5 p5 => zs_gd (by decide) ?_)
  refine zs_lt (Q := fun z => zm_L σ0 s z) (zm_Lw (zm_Lp h4 p5.1) (by decide) (zm_vb p5.2 (by decide))) (fun z5 h5 => ?_)
  refine zs_bd_ (zm_told h5.1 h5.2.1 (by decide)) (fun r6 p6 => zs_gd (by decide) ?_)
  exact zs_lt (Q := fun z => zm_L σ0 s z) (zm_Lw (zm_Lp h5 p6.1) (by decide) (zm_vb p6.2 (by decide))) (fun z6 h6 => zs_some (zm_LE h6))
theorem zm_hi5 (h : zm_G σ0 z) : ((sn_I z 6 (5 : Int32).toNatClampNeg) - (1 : Int32)).toInt ≤ 5 := by
  have hb : zs_in (sn_I z 6 (5 : Int32).toNatClampNeg).toInt 0 6 := zs_rdk (q := 6) (k := (5 : Int32).toNatClampNeg) (z := (0, 6)) h.1 rfl
  exact (zs_subI (-1) 5 hb (show zs_in (1 : Int32).toInt 1 1 by decide) (by decide)).2
theorem zm_tp : ∀ n, n < 6 → zs_tM 6 (49 + 5 * n + 0) = (0, 5) ∧ zs_tM 6 (49 + 5 * n + 1) = (0, 29) ∧ zs_tM 6 (49 + 5 * n + 2) = (0, 29) ∧ zs_tM 6 (49 + 5 * n + 3) = (0, 99) ∧ zs_tM 6 (49 + 5 * n + 4) = (0, 99) := by decide +kernel
theorem zm_tn : ∀ n, n < 8 → zs_tM 6 (33 + 2 * n) = (0, 5) ∧ zs_tM 6 (33 + 2 * n + 1) = (0, 5) := by decide +kernel
theorem zm_tg : ∀ n, n < 5 → zs_tM 6 (23 + 2 * n) = (0, 29) ∧ zs_tM 6 (23 + 2 * n + 1) = (0, 29) := by decide +kernel
theorem zm_to : ∀ n, n < 6 → zs_tM 6 (11 + 2 * n) = (0, 99) ∧ zs_tM 6 (11 + 2 * n + 1) = (0, 99) := by decide +kernel
theorem zm_readPolicy {n : Nat} (h : zm_L σ0 s σ) (hn : s.1 6 8 = nI n) (h5 : n < 6) : zs_ok (fX9_readPolicy σ) (fun z => zm_E σ0 s z) := by
  obtain ⟨q0, q1, q2, q3, q4⟩ := zm_tp n h5
  have ec : ∀ z, zm_L σ0 s z → sn_I z 6 (8 : Int32).toNatClampNeg = nI n := fun z hz => (hz.2.2.2 8 (by decide) (by decide)).trans hn
  unfold fX9_readPolicy
  rw [ec σ h]
  refine zs_gd (by decide) ?_
  refine zs_lt (Q := fun y => y = nI (49 + 5 * n)) (by rw [zk_5n]; exact nI_add 49 (5 * n)) (fun y hy => ?_)
  subst hy
  rw [show nI (49 + 5 * n) + (0 : Int32) = nI (49 + 5 * n + 0) from nI_add _ 0, show nI (49 + 5 * n) + (1 : Int32) = nI (49 + 5 * n + 1) from nI_add _ 1, show nI (49 + 5 * n) + (2 : Int32) = nI (49 + 5 * n + 2) from nI_add _ 2, show nI (49 + 5 * n) + (3 : Int32) = nI (49 + 5 * n + 3) from nI_add _ 3, show nI (49 + 5 * n) + (4 : Int32) = nI (49 + 5 * n + 4) from nI_add _ 4]
  rw [nI_clamp (show 49 + 5 * n + 0 < 2 ^ 31 by omega), nI_clamp (show 49 + 5 * n + 1 < 2 ^ 31 by omega), nI_clamp (show 49 + 5 * n + 2 < 2 ^ 31 by omega), nI_clamp (show 49 + 5 * n + 3 < 2 ^ 31 by omega), nI_clamp (show 49 + 5 * n + 4 < 2 ^ 31 by omega)]
  refine zs_gd (by decide) (zs_bd_ (zm_number h.1 h.2.1) (fun r1 p1 => zs_gd (sn_in_nI (by omega) (by decide)) ?_))
  refine zs_lt (Q := fun z => zm_L σ0 s z) (zm_Lw (zm_Lp h p1.1) (by omega) (by rw [q0]; exact zm_vb p1.2 ⟨by decide, by decide, by decide, zm_hi5 h.1⟩)) (fun z1 h1 => ?_)
  refine zs_bd_ (zm_told h1.1 h1.2.1 (by decide)) (fun r2 p2 => zs_gd (sn_in_nI (by omega) (by decide)) ?_)
  refine zs_lt (Q := fun z => zm_L σ0 s z) (zm_Lw (zm_Lp h1 p2.1) (by omega) (by rw [q1]; exact zm_vb p2.2 (by decide))) (fun z2 h2 => ?_)
  have lo2 : 0 ≤ (sn_I z2 6 (49 + 5 * n + 1)).toInt := by
    have := h2.1.1.1 6 (49 + 5 * n + 1)
    rw [q1] at this
    exact this.1
  refine zs_gd (sn_in_nI (by omega) (by decide)) (zs_bd_ (zm_told h2.1 h2.2.1 (by decide)) (fun r3 p3 => zs_gd (sn_in_nI (by omega) (by decide)) ?_))
  refine zs_lt (Q := fun z => zm_L σ0 s z) (zm_Lw (zm_Lp h2 p3.1) (by omega) (by rw [q2]; exact zm_vb p3.2 ⟨by decide, by decide, lo2, by decide⟩)) (fun z3 h3 => ?_)
  refine zs_bd_ (zm_told h3.1 h3.2.1 (by decide)) (fun r4 p4 => zs_gd (sn_in_nI (by omega) (by decide)) ?_)
  refine zs_lt (Q := fun z => zm_L σ0 s z) (zm_Lw (zm_Lp h3 p4.1) (by omega) (by rw [q3]; exact zm_vb p4.2 (by decide))) (fun z4 h4 => ?_)
  refine zs_bd_ (zm_told h4.1 h4.2.1 (by decide)) (fun r5 p5 => zs_gd (sn_in_nI (by omega) (by decide)) ?_)
  refine zs_lt (Q := fun z => zm_L σ0 s z) (zm_Lw (zm_Lp h4 p5.1) (by omega) (by rw [q4]; exact zm_vb p5.2 (by decide))) (fun z5 h5 => ?_)
  refine zs_gd (by decide) (zs_gd (by decide) (zs_lt (Q := fun z => zm_E σ0 s z) (zm_Ec h5 (by decide) ?_) (fun z6 h6 => zs_some h6)))
  rw [ec z5 h5, show zs_tM 6 (8 : Int32).toNatClampNeg = (0, 6) from rfl, show nI n + (1 : Int32) = nI (n + 1) from nI_1 _, nI_toInt (by omega)]
  exact ⟨by omega, by omega⟩
theorem zm_67 {n : Nat} {y5 : Int32} (h : zm_L σ0 s z) (hn : s.1 6 7 = nI n) (h7 : n < 8) (hy : y5.toInt ≤ 5) : zs_ok (BX9_readNet_67 z (nI (33 + 2 * n)) y5) (fun z => zm_E σ0 s z) := by
  have ec : ∀ z, zm_L σ0 s z → sn_I z 6 (7 : Int32).toNatClampNeg = nI n := fun z hz => (hz.2.2.2 7 (by decide) (by decide)).trans hn
  unfold BX9_readNet_67
  rw [show nI (33 + 2 * n) + (1 : Int32) = nI (33 + 2 * n + 1) from nI_1 _, nI_clamp (show 33 + 2 * n + 1 < 2 ^ 31 by omega)]
  refine zs_bd_ (zm_number h.1 h.2.1) (fun r1 p1 => zs_gd (sn_in_nI (by omega) (by decide)) ?_)
  refine zs_lt (Q := fun z => zm_L σ0 s z) (zm_Lw (zm_Lp h p1.1) (by omega) (by rw [(zm_tn n h7).2]; exact zm_vb p1.2 ⟨by decide, by decide, by decide, hy⟩)) (fun z1 h1 => ?_)
  refine zs_gd (by decide) (zs_gd (by decide) (zs_lt (Q := fun z => zm_E σ0 s z) (zm_Ec h1 (by decide) ?_) (fun z6 h6 => zs_some h6)))
  rw [ec z1 h1, show zs_tM 6 (7 : Int32).toNatClampNeg = (0, 8) from rfl, show nI n + (1 : Int32) = nI (n + 1) from nI_1 _, nI_toInt (by omega)]
  exact ⟨by omega, by omega⟩
theorem zm_readNet {n : Nat} (h : zm_L σ0 s σ) (hn : s.1 6 7 = nI n) (h7 : n < 8) : zs_ok (fX9_readNet σ) (fun z => zm_E σ0 s z) := by
  have ec : sn_I σ 6 (7 : Int32).toNatClampNeg = nI n := (h.2.2.2 7 (by decide) (by decide)).trans hn
  unfold fX9_readNet
  rw [ec]
  refine zs_gd (by decide) ?_
  refine zs_lt (Q := fun y => y = nI (33 + 2 * n)) (by rw [zk_2n]; exact nI_add 33 (2 * n)) (fun y hy => ?_)
  subst hy
  rw [nI_clamp (show 33 + 2 * n < 2 ^ 31 by omega)]
  refine zs_gd (by decide) ?_
  refine zs_lt (Q := fun y : Int32 => y.toInt ≤ 5) (zm_hi5 h.1) (fun y5 hy5 => ?_)
  refine zs_bd_ (zm_number h.1 h.2.1) (fun r1 p1 => zs_gd (sn_in_nI (by omega) (by decide)) ?_)
  refine zs_lt (Q := fun z => zm_L σ0 s z) (zm_Lw (zm_Lp h p1.1) (by omega) (by rw [(zm_tn n h7).1]; exact zm_vb p1.2 ⟨by decide, by decide, by decide, hy5⟩)) (fun z1 h1 => ?_)
  refine zs_bd_ zm_good (fun t _ => zs_ite (fun _ => zm_67 h1 hn h7 hy5) (fun _ => zs_ite (fun _ => zs_gd (sn_in_nI (by omega) (by decide)) ?_) (fun _ => zm_67 h1 hn h7 hy5)))
  refine zs_ite (fun _ => ?_) (fun _ => zm_67 h1 hn h7 hy5)
  exact zs_bd_ (zm_errs h1.1 h1.2.1 (by decide)) (fun u hu => zm_67 (zm_Lp h1 hu.1) hn h7 hy5)
theorem zm_tk (h : zm_G σ0 z) (hp : zm_pos z) {k : Nat} (hk : k < 16) : zs_ok (fX9_takes z k) (fun r => fX9_is z k = some r.1 ∧ (r.1 = 0 → r.2 = z) ∧ zm_P σ0 z r.2) := by
  obtain ⟨v, e, hv⟩ := zm_is h hp hk
  unfold fX9_takes
  refine zs_bd_ (Q := fun t => t = v) ⟨v, e, rfl⟩ (fun t ht => ?_)
  subst ht
  refine zs_ite (fun _ => zs_gd (zs_b01 hv (by decide)) (zs_some ⟨e, fun _ => rfl, zm_P0 h hp⟩)) (fun c => ?_)
  exact zs_bd_ (zm_advP h hp) (fun u hu => zs_gd (zs_b01 hv (by decide)) (zs_some ⟨e, fun e0 => absurd e0 c, hu⟩))
theorem zm_cn {c : Nat} {b : Int} (h : zm_L σ0 s z) (h5 : 5 ≤ c ∧ c ≤ 10) (hc : zs_tM 6 c = (0, b)) (hb : b < 1000) : ∃ n : Nat, (n : Int) ≤ b ∧ s.1 6 c = nI n ∧ z.1 6 c = nI n := by
  have h1 := h.1.1.1 6 c
  rw [hc] at h1
  obtain ⟨j, j1, j2⟩ := zs_val (x := z.1 6 c) (a := 0) (b := b) h1 ⟨by decide, by omega⟩
  exact ⟨j, by omega, (h.2.2.2 c h5.1 h5.2).symm.trans j2, j2⟩
theorem zm_143 (h : zm_L σ0 s z) (f6 : zm_F 6 5 6 z) (f7 : zm_F 7 6 5 z) (f8 : zm_F 8 7 8 z) (f9 : zm_F 9 8 6 z) (hw : zm_W z) : zs_ok (BX9_readNext_143 z) (fun z => zm_E σ0 s z) := by
  obtain ⟨n5, b5, c5, d5⟩ := zm_cn (c := 5) h (by decide) rfl (by decide)
  obtain ⟨n6, b6, c6, d6⟩ := zm_cn (c := 6) h (by decide) rfl (by decide)
  obtain ⟨n7, b7, c7, d7⟩ := zm_cn (c := 7) h (by decide) rfl (by decide)
  obtain ⟨n8, b8, c8, d8⟩ := zm_cn (c := 8) h (by decide) rfl (by decide)
  unfold BX9_readNext_143
  refine zs_bd_ zm_good (fun t ht => zs_ite (fun _ => zs_some (zm_LE h)) (fun c => ?_))
  have g := ht.2 c
  refine zs_bd_ (zm_tk h.1 h.2.1 (by decide)) (fun r6 p6 => zs_ite (fun k6 => ?_) (fun k6 => ?_))
  · rw [p6.2.1 k6]
    refine zs_bd_ (zm_tk h.1 h.2.1 (by decide)) (fun r7 p7 => zs_ite (fun k7 => ?_) (fun k7 => ?_))
    · rw [p7.2.1 k7]
      refine zs_bd_ (zm_tk h.1 h.2.1 (by decide)) (fun r8 p8 => zs_ite (fun k8 => ?_) (fun k8 => ?_))
      · rw [p8.2.1 k8]
        have k9 : n8 < 6 := by
          obtain ⟨v9, e9, _⟩ := zm_is h.1 h.2.1 (k := 9) (by decide)
          have h9 := hw g _ _ _ _ p6.1 p7.1 p8.1 e9 k6 k7 k8
          have h10 := f9 g v9 e9 h9
          rw [d8] at h10
          have : n8 ≠ 6 := fun e => h10 (by rw [e]; rfl)
          omega
        refine zs_bd_ (zm_advP h.1 h.2.1) (fun u hu => zs_bd_ (zm_readPolicy (zm_Lp h hu) c8 k9) (fun v hv => zs_some hv))
      · have k9 : n7 < 8 := by
          have h10 := f8 g _ p8.1 k8
          rw [d7] at h10
          have : n7 ≠ 8 := fun e => h10 (by rw [e]; rfl)
          omega
        exact zs_bd_ (zm_readNet (zm_Lp h p8.2.2) c7 k9) (fun v hv => zs_some hv)
    · have k9 : n6 < 5 := by
        have h10 := f7 g _ p7.1 k7
        rw [d6] at h10
        have : n6 ≠ 5 := fun e => h10 (by rw [e]; rfl)
        omega
      have h0 := zm_Lp h p7.2.2
      have ec : ∀ z, zm_L σ0 s z → sn_I z 6 (6 : Int32).toNatClampNeg = nI n6 := fun z hz => (hz.2.2.2 6 (by decide) (by decide)).trans c6
      refine zs_gd (by decide) ?_
      refine zs_lt (Q := fun y => y = nI (23 + 2 * n6)) (by rw [ec _ h0, zk_2n]; exact nI_add 23 (2 * n6)) (fun y hy => ?_)
      subst hy
      rw [show nI (23 + 2 * n6) + (1 : Int32) = nI (23 + 2 * n6 + 1) from nI_1 _, nI_clamp (show 23 + 2 * n6 < 2 ^ 31 by omega), nI_clamp (show 23 + 2 * n6 + 1 < 2 ^ 31 by omega)]
      refine zs_bd_ (zm_number h0.1 h0.2.1) (fun r1 p1 => zs_gd (sn_in_nI (by omega) (by decide)) ?_)
      refine zs_lt (Q := fun z => zm_L σ0 s z) (zm_Lw (zm_Lp h0 p1.1) (by omega) (by rw [(zm_tg n6 k9).1]; exact zm_vb p1.2 (by decide))) (fun z1 h1 => ?_)
      refine zs_bd_ (zm_told h1.1 h1.2.1 (by decide)) (fun r2 p2 => zs_gd (sn_in_nI (by omega) (by decide)) ?_)
      refine zs_lt (Q := fun z => zm_L σ0 s z) (zm_Lw (zm_Lp h1 p2.1) (by omega) (by rw [(zm_tg n6 k9).2]; exact zm_vb p2.2 (by decide))) (fun z2 h2 => ?_)
      refine zs_gd (by decide) (zs_gd (by decide) (zs_lt (Q := fun z => zm_E σ0 s z) (zm_Ec h2 (by decide) ?_) (fun z6 h6 => zs_some h6)))
      rw [ec z2 h2, show zs_tM 6 (6 : Int32).toNatClampNeg = (0, 5) from rfl, show nI n6 + (1 : Int32) = nI (n6 + 1) from nI_1 _, nI_toInt (by omega)]
      exact ⟨by omega, by omega⟩
  · have k9 : n5 < 6 := by
      have h10 := f6 g _ p6.1 k6
      rw [d5] at h10
      have : n5 ≠ 6 := fun e => h10 (by rw [e]; rfl)
      omega
    have h0 := zm_Lp h p6.2.2
    have ec : ∀ z, zm_L σ0 s z → sn_I z 6 (5 : Int32).toNatClampNeg = nI n5 := fun z hz => (hz.2.2.2 5 (by decide) (by decide)).trans c5
    refine zs_gd (by decide) ?_
    refine zs_lt (Q := fun y => y = nI (11 + 2 * n5)) (by rw [ec _ h0, zk_2n]; exact nI_add 11 (2 * n5)) (fun y hy => ?_)
    subst hy
    rw [show nI (11 + 2 * n5) + (1 : Int32) = nI (11 + 2 * n5 + 1) from nI_1 _, nI_clamp (show 11 + 2 * n5 < 2 ^ 31 by omega), nI_clamp (show 11 + 2 * n5 + 1 < 2 ^ 31 by omega)]
    refine zs_bd_ (zm_number h0.1 h0.2.1) (fun r1 p1 => zs_gd (sn_in_nI (by omega) (by decide)) ?_)
    refine zs_lt (Q := fun z => zm_L σ0 s z) (zm_Lw (zm_Lp h0 p1.1) (by omega) (by rw [(zm_to n5 k9).1]; exact zm_vb p1.2 (by decide))) (fun z1 h1 => ?_)
    refine zs_bd_ (zm_told h1.1 h1.2.1 (by decide)) (fun r2 p2 => zs_gd (sn_in_nI (by omega) (by decide)) ?_)
    refine zs_lt (Q := fun z => zm_L σ0 s z) (zm_Lw (zm_Lp h1 p2.1) (by omega) (by rw [(zm_to n5 k9).2]; exact zm_vb p2.2 (by decide))) (fun z2 h2 => ?_)
    refine zs_gd (by decide) (zs_gd (by decide) (zs_lt (Q := fun z => zm_E σ0 s z) (zm_Ec h2 (by decide) ?_) (fun z6 h6 => zs_some h6)))
    rw [ec z2 h2, show zs_tM 6 (5 : Int32).toNatClampNeg = (0, 6) from rfl, show nI n5 + (1 : Int32) = nI (n5 + 1) from nI_1 _, nI_toInt (by omega)]
    exact ⟨by omega, by omega⟩
theorem zm_isq (h : zm_G σ0 z) (hp : zm_pos z) {k : Nat} (hk : k < 16) : zs_ok (fX9_is z k) (fun t => fX9_is z k = some t) := by
  obtain ⟨v, e, _⟩ := zm_is h hp hk
  exact ⟨v, e, e⟩
theorem zm_F0 {k c : Nat} {lim t : Int32} (e : fX9_is z k = some t) (ht : t = 0) : zm_F k c lim z := fun _ v e2 hv => by
  rw [e] at e2
  cases e2
  exact absurd ht hv
theorem zm_Fn {k c : Nat} {lim : Int32} (hz : z.1 0 12 ≠ 0) : zm_F k c lim z := fun g => absurd g hz
theorem zm_Wn (hz : z.1 0 12 ≠ 0) : zm_W z := fun g => absurd g hz
theorem zm_138 (h : zm_L σ0 s z) : zs_ok (BX9_readNext_138 z) (fun z => zm_E σ0 s z) := by
  unfold BX9_readNext_138
  exact zs_bd_ (zm_errs h.1 h.2.1 (by decide)) (fun u hu => zm_143 (zm_Lp h hu.1) (zm_Fn hu.2) (zm_Fn hu.2) (zm_Fn hu.2) (zm_Fn hu.2) (zm_Wn hu.2))
theorem zm_117 (h : zm_L σ0 s z) (f6 : zm_F 6 5 6 z) (f7 : zm_F 7 6 5 z) (f8 : zm_F 8 7 8 z) (hw : zm_W z) : zs_ok (BX9_readNext_117 z) (fun z => zm_E σ0 s z) := by
  unfold BX9_readNext_117
  refine zs_bd_ (zm_isq h.1 h.2.1 (by decide)) (fun t e => zs_ite (fun c => zm_143 h f6 f7 f8 (zm_F0 e c) hw) (fun _ => zs_gd (by decide) ?_))
  exact zs_ite (fun _ => zm_138 h) (fun c => zm_143 h f6 f7 f8 (fun _ _ _ _ => c) hw)
theorem zm_96 (h : zm_L σ0 s z) (f6 : zm_F 6 5 6 z) (f7 : zm_F 7 6 5 z) (hw : zm_W z) : zs_ok (BX9_readNext_96 z) (fun z => zm_E σ0 s z) := by
  unfold BX9_readNext_96
  refine zs_bd_ (zm_isq h.1 h.2.1 (by decide)) (fun t e => zs_ite (fun c => zm_117 h f6 f7 (zm_F0 e c) hw) (fun _ => zs_gd (by decide) ?_))
  exact zs_ite (fun _ => zm_138 h) (fun c => zm_117 h f6 f7 (fun _ _ _ _ => c) hw)
theorem zm_91 (h : zm_L σ0 s z) : zs_ok (BX9_readNext_91 z) (fun z => zm_E σ0 s z) := by
  unfold BX9_readNext_91
  exact zs_bd_ (zm_errs h.1 h.2.1 (by decide)) (fun u hu => zm_96 (zm_Lp h hu.1) (zm_Fn hu.2) (zm_Fn hu.2) (zm_Wn hu.2))
theorem zm_71 (h : zm_L σ0 s z) (f6 : zm_F 6 5 6 z) (hw : zm_W z) : zs_ok (BX9_readNext_71 z) (fun z => zm_E σ0 s z) := by
  unfold BX9_readNext_71
  refine zs_bd_ (zm_isq h.1 h.2.1 (by decide)) (fun t e => zs_ite (fun c => zm_96 h f6 (zm_F0 e c) hw) (fun _ => zs_gd (by decide) ?_))
  exact zs_ite (fun _ => zm_91 h) (fun c => zm_96 h f6 (fun _ _ _ _ => c) hw)
theorem zm_51 (h : zm_L σ0 s z) (hw : zm_W z) : zs_ok (BX9_readNext_51 z) (fun z => zm_E σ0 s z) := by
  unfold BX9_readNext_51
  refine zs_bd_ (zm_isq h.1 h.2.1 (by decide)) (fun t e => zs_ite (fun c => zm_71 h (zm_F0 e c) hw) (fun _ => zs_gd (by decide) ?_))
  exact zs_ite (fun _ => zm_91 h) (fun c => zm_71 h (fun _ _ _ _ => c) hw)
theorem zm_36 (h : zm_L σ0 s z) (hw : zm_W z) : zs_ok (BX9_readNext_36 z) (fun z => zm_E σ0 s z) := by
  unfold BX9_readNext_36 BX9_readNext_41
  exact zs_ite (fun c => absurd c (by decide)) (fun _ => zm_51 h hw)
theorem zm_eqv {k : Nat} {a b : Int32} (e : fX9_is z k = some a) (e2 : fX9_is z k = some b) : b = a := by
  rw [e] at e2
  cases e2
  rfl
theorem zm_readNext (h : zm_L σ0 s z) : zs_ok (fX9_readNext z) (fun z => zm_E σ0 s z) := by
  unfold fX9_readNext
  refine zs_bd_ (zm_isq h.1 h.2.1 (by decide)) (fun t6 e6 => zs_ite (fun c6 => ?_) (fun c6 => zm_36 h (fun _ v6 v7 v8 v9 k6 k7 k8 k9 z6 z7 z8 => absurd ((zm_eqv k6 e6).trans z6) c6)))
  refine zs_bd_ (zm_isq h.1 h.2.1 (by decide)) (fun t7 e7 => zs_ite (fun c7 => ?_) (fun c7 => zm_36 h (fun _ v6 v7 v8 v9 k6 k7 k8 k9 z6 z7 z8 => absurd ((zm_eqv k7 e7).trans z7) c7)))
  refine zs_bd_ (zm_isq h.1 h.2.1 (by decide)) (fun t8 e8 => zs_ite (fun c8 => ?_) (fun c8 => zm_36 h (fun _ v6 v7 v8 v9 k6 k7 k8 k9 z6 z7 z8 => absurd ((zm_eqv k8 e8).trans z8) c8)))
  refine zs_bd_ (zm_isq h.1 h.2.1 (by decide)) (fun t9 e9 => zs_ite (fun c9 => ?_) (fun c9 => zm_36 h (fun _ v6 v7 v8 v9 k6 k7 k8 k9 z6 z7 z8 z9 => c9 ((zm_eqv k9 e9).trans z9))))
  unfold BX9_readNext_41
  refine zs_ite (fun _ => ?_) (fun c => absurd rfl c)
  exact zs_bd_ (zm_errs h.1 h.2.1 (by decide)) (fun u hu => zm_51 (zm_Lp h hu.1) (zm_Wn hu.2))
/-- behind a row: one row more, and on the tape it has gone on -/
def zm_H (σ0 s w : sn_S) : Prop := zm_G σ0 w ∧ zm_pos w ∧ (w.1 6 10).toInt = (s.1 6 10).toInt + 1 ∧ (w.1 0 12 = 0 → (s.1 0 9).toInt + 1 ≤ (w.1 0 9).toInt)
theorem zm_52 (hs : 0 ≤ (s.1 6 10).toInt ∧ (s.1 6 10).toInt ≤ 899) (h : zm_E σ0 s z) (ho : z.1 0 12 = 0 → (s.1 0 9).toInt + 1 ≤ (z.1 0 9).toInt) : zs_ok (BX9_readLine_52 z) (fun w => zm_H σ0 s w) := by
  unfold BX9_readLine_52
  have e := zk_inc (x := z.1 6 10) (by rw [h.2.2.2]; exact hs.1) (by rw [h.2.2.2]; omega)
  rw [h.2.2.2] at e
  have e2 : ((sn_I z 6 (10 : Int32).toNatClampNeg) + (1 : Int32)).toInt = (s.1 6 10).toInt + 1 := by
    rw [show sn_I z 6 (10 : Int32).toNatClampNeg = s.1 6 10 from h.2.2.2]
    exact e
  refine zs_gd (by decide) (zs_gd (by decide) (zs_lt (Q := fun w => zm_H σ0 s w) ⟨zs_wr h.1 ?_ rfl, zm_pos6 h.2.1, e2, ?_⟩ (fun w hw => zs_some hw)))
  · rw [show zs_tM 6 (10 : Int32).toNatClampNeg = (0, 900) from rfl]
    exact ⟨by omega, by omega⟩
  · rw [pI_ne (show (0 : Nat) ≠ 6 by decide)]
    exact ho
theorem zm_41 (hs : 0 ≤ (s.1 6 10).toInt ∧ (s.1 6 10).toInt ≤ 899) (h : zm_E σ0 s z) (h3 : z.1 0 12 = 0 → z.1 0 10 = 3) : zs_ok (BX9_readLine_41 z) (fun w => zm_H σ0 s w) := by
  unfold BX9_readLine_41
  refine zs_bd_ zm_good (fun t ht => zs_ite (fun c => zm_52 hs h (fun g => absurd g (ht.1 c))) (fun c => ?_))
  have lt := h.2.1.2.2.2 (h3 (ht.2 c))
  refine zs_bd_ (zm_adv h.1 h.2.1.2.1) (fun u hu => zm_52 hs ⟨hu.1, hu.2.1, ?_, by rw [hu.2.2.2.1 6 (by decide)]; exact h.2.2.2⟩ (fun _ => ?_))
  · have h1 := h.2.2.1
    have h2 := hu.2.2.1
    omega
  · have h1 := h.2.2.1
    have h2 := hu.2.2.1
    omega
theorem zm_21 (hs : 0 ≤ (s.1 6 10).toInt ∧ (s.1 6 10).toInt ≤ 899) (h : zm_E σ0 s z) : zs_ok (BX9_readLine_21 z) (fun w => zm_H σ0 s w) := by
  unfold BX9_readLine_21
  refine zs_bd_ zm_good (fun t ht => zs_ite (fun c => zm_41 hs h (fun g => absurd g (ht.1 c))) (fun _ => zs_ite (fun c3 => zm_41 hs h (fun _ => c3)) (fun _ => ?_)))
  exact zs_bd_ (zm_errs h.1 h.2.1 (by decide)) (fun u hu => zm_41 hs ⟨hu.1.1, hu.1.2.1, Int.le_trans h.2.2.1 hu.1.2.2.1, by rw [hu.1.2.2.2 6 (by decide)]; exact h.2.2.2⟩ (fun g => absurd g hu.2))
theorem zm_readLine (h : zm_G σ0 s) (hp : zm_pos s) (hs : 0 ≤ (s.1 6 10).toInt ∧ (s.1 6 10).toInt ≤ 899) : zs_ok (fX9_readLine s) (fun w => zm_H σ0 s w) := by
  have hL : zm_L σ0 s s := ⟨h, hp, Int.le_refl _, fun _ _ _ => rfl⟩
  unfold fX9_readLine
  refine zs_gd (by decide) (zs_ite (fun _ => ?_) (fun _ => ?_))
  · exact zs_bd_ (zm_readFirst hL) (fun u hu => zm_21 hs hu)
  · exact zs_bd_ (zm_readNext hL) (fun u hu => zm_21 hs hu)
theorem zm_zero : ∀ k, (zs_tM 6 k).1 ≤ 0 ∧ 0 ≤ (zs_tM 6 k).2 := fun k => by
  have hc : (zs_cnt k).1 ≤ 0 ∧ 0 ≤ (zs_cnt k).2 := by
    unfold zs_cnt
    repeat' first | exact zs_bif (P := fun p : Int × Int => p.1 ≤ 0 ∧ 0 ≤ p.2) (by decide) (by decide) | refine zs_bif (P := fun p : Int × Int => p.1 ≤ 0 ∧ 0 ≤ p.2) (by decide) ?_
  have hp : ∀ j, (zs_pol j).1 ≤ 0 ∧ 0 ≤ (zs_pol j).2 := fun j => by
    unfold zs_pol
    exact zs_bif (P := fun p : Int × Int => p.1 ≤ 0 ∧ 0 ≤ p.2) (by decide) (zs_bif (P := fun p : Int × Int => p.1 ≤ 0 ∧ 0 ≤ p.2) (by decide) (by decide))
  show (zs_row k).1 ≤ 0 ∧ 0 ≤ (zs_row k).2
  unfold zs_row
  exact zs_bif (P := fun p : Int × Int => p.1 ≤ 0 ∧ 0 ≤ p.2) hc (zs_bif (P := fun p : Int × Int => p.1 ≤ 0 ∧ 0 ≤ p.2) (by decide) (zs_bif (P := fun p : Int × Int => p.1 ≤ 0 ∧ 0 ≤ p.2) (by decide) (zs_bif (P := fun p : Int × Int => p.1 ≤ 0 ∧ 0 ≤ p.2) (by decide) (zs_bif (P := fun p : Int × Int => p.1 ≤ 0 ∧ 0 ≤ p.2) (hp _) (by decide)))))
theorem zm_clear (h : zm_G σ0 σ) : zs_ok (sn_it LX9_house_30 5000 (σ, (0 : Int32))) (fun t => zm_G σ0 t ∧ (∀ q, q ≠ 6 → t.1 q = σ.1 q) ∧ t.1 6 10 = 0) := by
  refine zs_it (I := fun s : sn_S × Int32 => zm_G σ0 s.1 ∧ (∀ q, q ≠ 6 → s.1.1 q = σ.1 q) ∧ zs_in s.2.toInt 0 119 ∧ (10 < s.2.toInt → s.1.1 6 10 = 0)) (m := fun s => 119 - s.2.toInt) (fun s hs => ⟨by have := hs.2.2.1; omega, by have := hs.2.2.1; omega⟩) (fun s hs => ?_) ⟨h, fun _ _ => rfl, (show zs_in (0 : Int32).toInt 0 119 by decide), fun e => absurd e (by show ¬ (10 : Int) < (0 : Int32).toInt; decide)⟩
  obtain ⟨z, x⟩ := s
  have h1 : zm_G σ0 z := hs.1
  have h2 : ∀ q, q ≠ 6 → z.1 q = σ.1 q := hs.2.1
  have h3 : zs_in x.toInt 0 119 := hs.2.2.1
  have h4 : 10 < x.toInt → z.1 6 10 = 0 := hs.2.2.2
  unfold LX9_house_30 BX9_house_30
  refine zs_ite (fun c => zs_some (zs_inr ⟨h1, h2, h4 ?_⟩)) (fun c => ?_)
  · have c1 : (119 : Int32).toInt ≤ x.toInt := zs_I_le c
    rw [show (119 : Int32).toInt = 119 by decide] at c1
    omega
  · have c1 := zs_I_len c
    have c2 : x.toInt < 119 := c1
    refine zs_gd (zs_gin (a := 0) (b := 118) (show zs_in x.toInt 0 118 from ⟨h3.1, by omega⟩) (by decide)) ?_
    refine zs_lt (Q := fun y => y = sn_pI z 6 x.toNatClampNeg (0 : Int32)) rfl (fun y hy => ?_)
    have e1 := zk_inc (x := x) h3.1 (by omega)
    refine zs_lt (Q := fun v => v = x + 1) rfl (fun v hv => ?_)
    subst hv
    refine zs_some (zs_inl ⟨⟨?_, fun q hq => ?_, ?_, fun e => ?_⟩, by show 119 - (x + 1).toInt < 119 - x.toInt; omega⟩)
    · show zm_G σ0 y
      rw [hy]
      refine zs_wr h1 ?_ rfl
      have := zm_zero x.toNatClampNeg
      rw [show (0 : Int32).toInt = 0 by decide]
      exact this
    · show y.1 q = _
      rw [hy, pI_ne hq, h2 q hq]
    · show zs_in (x + 1).toInt 0 119
      exact ⟨by have := h3.1; omega, by omega⟩
    · show y.1 6 10 = 0
      have e : 10 < (x + 1).toInt := e
      rw [hy]
      by_cases e5 : 10 = x.toNatClampNeg
      · rw [← e5, pI_self]
      · rw [pI_slot e5]
        refine h4 ?_
        have e6 : x.toNatClampNeg = x.toInt.toNat := rfl
        omega
theorem zm_world (h : zm_G0 σ0 σ) : zs_ok (sn_it LX9_house_86 5000 (σ, (0 : Int32))) (fun t => zm_G0 σ0 t) := by
  refine zs_it (I := fun s : sn_S × Int32 => zm_G0 σ0 s.1 ∧ zs_in s.2.toInt 0 119) (m := fun s => 119 - s.2.toInt) (fun s hs => ⟨by have := hs.2; omega, by have := hs.2; omega⟩) (fun s hs => ?_) ⟨h, (show zs_in (0 : Int32).toInt 0 119 by decide)⟩
  obtain ⟨z, x⟩ := s
  have h1 : zm_G0 σ0 z := hs.1
  have h3 : zs_in x.toInt 0 119 := hs.2
  unfold LX9_house_86 BX9_house_86
  refine zs_ite (fun c => zs_some (zs_inr h1)) (fun c => ?_)
  have c1 := zs_I_len c
  have c2 : x.toInt < 119 := c1
  refine zs_gd (zs_gin (a := 0) (b := 118) (show zs_in x.toInt 0 118 from ⟨h3.1, by omega⟩) (by decide)) (zs_gd (zs_gin (a := 0) (b := 118) (show zs_in x.toInt 0 118 from ⟨h3.1, by omega⟩) (by decide)) ?_)
  refine zs_lt (Q := fun y => zm_G0 σ0 y) (zs_wrcp (q2 := 6) h1 (fun _ => rfl) (fun _ => rfl)) (fun y hy => ?_)
  have e1 := zk_inc (x := x) h3.1 (by omega)
  refine zs_lt (Q := fun v => v = x + 1) rfl (fun v hv => ?_)
  subst hv
  exact zs_some (zs_inl ⟨⟨hy, by show zs_in (x + 1).toInt 0 119; exact ⟨by have := h3.1; omega, by omega⟩⟩, by show 119 - (x + 1).toInt < 119 - x.toInt; omega⟩)
theorem zm_house {τ : sn_S} (h : zs_SB zs_tM τ) : ∃ r z, fX9_house τ = some (r, z) ∧ zs_SB zs_tM z ∧ z.1 0 5 = 0 ∧ z.1 3 = τ.1 3 ∧ z.1 21 = τ.1 21 ∧ z.1 22 = τ.1 22 ∧ z.2.1 23 = τ.2.1 23 ∧ z.1 2 = τ.1 2 := by
  have b5 := h.1 0 5
  rw [show zs_tM 0 5 = (0, 900) from rfl] at b5
  have z0 : (0 : Int32).toInt = 0 := by decide
  have key : zs_ok (fX9_house τ) (fun r => zs_SB zs_tM r.2 ∧ r.2.1 0 5 = 0 ∧ r.2.1 3 = τ.1 3 ∧ r.2.1 21 = τ.1 21 ∧ r.2.1 22 = τ.1 22 ∧ r.2.2.1 23 = τ.2.1 23 ∧ r.2.1 2 = τ.1 2) := by
    unfold fX9_house
    refine zs_lt (Q := fun z => zs_SB zs_tM z ∧ (∀ q, q ≠ 0 → z.1 q = τ.1 q) ∧ z.2 = τ.2) ⟨zs_sbw h b5, fun q hq => pI_ne hq, rfl⟩ (fun z1 g1 => ?_)
    refine zs_lt (Q := fun z => zs_SB zs_tM z ∧ (∀ q, q ≠ 0 → z.1 q = τ.1 q) ∧ z.2 = τ.2 ∧ z.1 0 5 = 0) ⟨zs_sbw g1.1 (by rw [z0, show zs_tM 0 5 = (0, 900) from rfl]; decide), fun q hq => (pI_ne hq).trans (g1.2.1 q hq), g1.2.2, rfl⟩ (fun z2 g2 => ?_)
    refine zs_lt (Q := fun z => zs_SB zs_tM z ∧ (∀ q, q ≠ 0 → z.1 q = τ.1 q) ∧ z.2 = τ.2 ∧ z.1 0 5 = 0 ∧ z.1 0 8 = 0) ⟨zs_sbw g2.1 (by rw [z0, show zs_tM 0 8 = (0, 900) from rfl]; decide), fun q hq => (pI_ne hq).trans (g2.2.1 q hq), g2.2.2.1, g2.2.2.2, rfl⟩ (fun z3 g3 => ?_)
    refine zs_lt (Q := fun z => zs_SB zs_tM z ∧ (∀ q, q ≠ 0 → z.1 q = τ.1 q) ∧ z.2 = τ.2 ∧ z.1 0 5 = 0 ∧ z.1 0 8 = 0) ⟨zs_sbw g3.1 (by rw [z0, show zs_tM 0 12 = (0, 3) from rfl]; decide), fun q hq => (pI_ne hq).trans (g3.2.1 q hq), g3.2.2.1, g3.2.2.2.1, g3.2.2.2.2⟩ (fun z4 g4 => ?_)
    refine zs_lt (Q := fun z => zs_SB zs_tM z ∧ (∀ q, q ≠ 0 → z.1 q = τ.1 q) ∧ z.2 = τ.2 ∧ z.1 0 5 = 0 ∧ z.1 0 8 = 0) ⟨zs_sbw g4.1 (by rw [show zs_tM 0 13 = (-2147483648, 2147483647) from rfl]; exact zs_topI _), fun q hq => (pI_ne hq).trans (g4.2.1 q hq), g4.2.2.1, g4.2.2.2.1, g4.2.2.2.2⟩ (fun σ0 g0 => ?_)
    have fin : ∀ z, zm_G0 σ0 z → (zs_SB zs_tM z ∧ z.1 0 5 = 0 ∧ z.1 3 = τ.1 3 ∧ z.1 21 = τ.1 21 ∧ z.1 22 = τ.1 22 ∧ z.2.1 23 = τ.2.1 23 ∧ z.1 2 = τ.1 2) := fun z hz => ⟨hz.1, (hz.2.1 0 5 rfl).trans g0.2.2.2.1, funext fun k => (hz.2.1 3 k rfl).trans (by rw [g0.2.1 3 (by decide)]), funext fun k => (hz.2.1 21 k rfl).trans (by rw [g0.2.1 21 (by decide)]), funext fun k => (hz.2.1 22 k rfl).trans (by rw [g0.2.1 22 (by decide)]), (hz.2.2 23 rfl).trans (by rw [g0.2.2.1]), funext fun k => (hz.2.1 2 k rfl).trans (by rw [g0.2.1 2 (by decide)])⟩
    refine zs_bd_ (zm_clear (zs_rf g0.1)) (fun s1 h1 => ?_)
    unfold BX9_house_49
    have p8 : (s1.1 0 8).toInt = 0 := by rw [h1.2.1 0 (by decide), g0.2.2.2.2]; exact z0
    have b7 := zm_b (k := 7) h1.1 rfl
    refine zs_bd_ (zm_adv h1.1 (by omega)) (fun s2 h2 => ?_)
    have l0 : (s2.1 6 10).toInt = 0 := by rw [h2.2.2.2.1 6 (by decide), h1.2.2]; exact z0
    have b9 := zm_b (k := 9) h2.1 rfl
    refine zs_bd_ (zs_it (E := fun z => zm_G σ0 z) (I := fun z => zm_G σ0 z ∧ zm_pos z ∧ (z.1 0 12 = 0 → (z.1 6 10).toInt ≤ (z.1 0 9).toInt)) (m := fun z => 900 - (z.1 6 10).toInt) (fun z hz => ?_) (fun z hz => ?_) ⟨h2.1, h2.2.1, fun _ => by omega⟩) (fun s3 h3 => ?_)
    · have := hz.1.1.1 6 10
      rw [show zs_tM 6 10 = (0, 900) from rfl] at this
      have h1 : 0 ≤ (z.1 6 10).toInt := this.1
      have h2 : (z.1 6 10).toInt ≤ 900 := this.2
      exact ⟨by omega, by omega⟩
    · unfold LX9_house_53 BX9_house_53
      refine zs_bd_ zm_good (fun t ht => zs_ite (fun _ => zs_some (zs_inr hz.1)) (fun c => zs_ite (fun _ => zs_some (zs_inr hz.1)) (fun c2 => ?_)))
      have k1 := hz.2.2 (ht.2 c)
      have k2 := hz.2.1.2.2.1 c2
      have k7 := zm_b (k := 7) hz.1 rfl
      have this := hz.1.1.1 6 10
      rw [show zs_tM 6 10 = (0, 900) from rfl] at this
      have k0 : 0 ≤ (z.1 6 10).toInt := this.1
      refine zs_bd_ (zm_readLine hz.1 hz.2.1 ⟨k0, by omega⟩) (fun u hu => zs_some (zs_inl ⟨⟨hu.1, hu.2.1, fun g => ?_⟩, ?_⟩))
      · have := hu.2.2.2 g
        have := hu.2.2.1
        omega
      · show 900 - (u.1 6 10).toInt < 900 - (z.1 6 10).toInt
        have := hu.2.2.1
        omega
    · unfold BX9_house_74
      refine zs_bd_ zm_good (fun t ht => zs_ite (fun _ => zs_some (fin s3 (zm_w0 h3))) (fun _ => zs_bd_ (zm_world (zm_w0 h3)) (fun s4 h4 => ?_)))
      unfold BX9_house_110
      exact zs_gd (by decide) (zs_some (fin s4 h4))
  obtain ⟨⟨r, z⟩, e, h1⟩ := key
  exact ⟨r, z, e, h1⟩
end
end
section
/-! what both readers see: bytes by a function, n of them -/
def rd_k (B : Nat → Int) (n i : Nat) : Nat := if i < n then (if B i = 32 ∨ B i = 10 then 4 else if 97 ≤ B i ∧ B i ≤ 122 then 1 else if 48 ≤ B i ∧ B i ≤ 57 then 2 else if B i = 59 then 3 else 5) else 0
theorem rd_kc (B : Nat → Int) (n i : Nat) : (rd_k B n i = 0 ∧ n ≤ i) ∨ (i < n ∧ ((rd_k B n i = 4 ∧ (B i = 32 ∨ B i = 10)) ∨ (rd_k B n i = 1 ∧ 97 ≤ B i ∧ B i ≤ 122) ∨ (rd_k B n i = 2 ∧ 48 ≤ B i ∧ B i ≤ 57) ∨ (rd_k B n i = 3 ∧ B i = 59) ∨ (rd_k B n i = 5 ∧ ¬ (B i = 32 ∨ B i = 10) ∧ ¬ (97 ≤ B i ∧ B i ≤ 122) ∧ ¬ (48 ≤ B i ∧ B i ≤ 57) ∧ B i ≠ 59))) := by
  unfold rd_k
  by_cases h : i < n
  · rw [if_pos h]
    right
    refine ⟨h, ?_⟩
    by_cases h4 : B i = 32 ∨ B i = 10
    · rw [if_pos h4]
      exact Or.inl ⟨rfl, h4⟩
    · rw [if_neg h4]
      by_cases h1 : 97 ≤ B i ∧ B i ≤ 122
      · rw [if_pos h1]
        exact Or.inr (Or.inl ⟨rfl, h1⟩)
      · rw [if_neg h1]
        by_cases h2 : 48 ≤ B i ∧ B i ≤ 57
        · rw [if_pos h2]
          exact Or.inr (Or.inr (Or.inl ⟨rfl, h2⟩))
        · rw [if_neg h2]
          by_cases h3 : B i = 59
          · rw [if_pos h3]
            exact Or.inr (Or.inr (Or.inr (Or.inl ⟨rfl, h3⟩)))
          · rw [if_neg h3]
            exact Or.inr (Or.inr (Or.inr (Or.inr ⟨rfl, h4, h1, h2, h3⟩)))
  · rw [if_neg h]
    exact Or.inl ⟨rfl, by omega⟩
theorem rd_k5 (B : Nat → Int) (n i : Nat) : rd_k B n i ≤ 5 := by
  rcases rd_kc B n i with h | h
  · omega
  · omega
/-- the first place behind blanks -/
def rd_S (B : Nat → Int) (n p a : Nat) : Prop := p ≤ a ∧ a ≤ n ∧ (∀ j, p ≤ j → j < a → rd_k B n j = 4) ∧ rd_k B n a ≠ 4
/-- where a token ends -/
def rd_E (B : Nat → Int) (n a e : Nat) : Prop := (a = n ∧ e = a) ∨ (a < n ∧ a < e ∧ e ≤ n ∧ ((rd_k B n a = 1 ∨ rd_k B n a = 2) → (∀ j, a ≤ j → j < e → rd_k B n j = rd_k B n a) ∧ rd_k B n e ≠ rd_k B n a) ∧ (¬ (rd_k B n a = 1 ∨ rd_k B n a = 2) → e = a + 1))
theorem rd_S1 {B : Nat → Int} {n p a a' : Nat} (h : rd_S B n p a) (h' : rd_S B n p a') : a = a' := by
  by_cases e : a = a'
  · exact e
  · exfalso
    by_cases l : a < a'
    · exact h.2.2.2 (h'.2.2.1 a h.1 l)
    · exact h'.2.2.2 (h.2.2.1 a' h'.1 (by omega))
theorem rd_E1 {B : Nat → Int} {n a e e' : Nat} (h : rd_E B n a e) (h' : rd_E B n a e') : e = e' := by
  rcases h with h | h
  · rcases h' with h' | h'
    · omega
    · omega
  · rcases h' with h' | h'
    · omega
    · by_cases c : rd_k B n a = 1 ∨ rd_k B n a = 2
      · have h1 := h.2.2.2.1 c
        have h2 := h'.2.2.2.1 c
        by_cases l : e < e'
        · exact absurd (h2.1 e (by omega) l) h1.2
        · by_cases l2 : e' < e
          · exact absurd (h1.1 e' (by omega) l2) h2.2
          · omega
      · rw [h.2.2.2.2 c, h'.2.2.2.2 c]
def rd_num (B : Nat → Int) (a : Nat) : Nat → Nat
  | 0 => 0
  | k + 1 => 10 * rd_num B a k + (B (a + k) - 48).toNat
theorem rd_cap (C N d : Nat) : min C (10 * min C N + d) = min C (10 * N + d) := by
  by_cases h : N ≤ C
  · rw [Nat.min_eq_right h]
  · rw [Nat.min_eq_left (show C ≤ N by omega), Nat.min_eq_left (show C ≤ 10 * C + d by omega), Nat.min_eq_left (show C ≤ 10 * N + d by omega)]
/-! the program's side -/
abbrev rc_B (σ : sn_S) : Nat → Int := fun k => (σ.1 18 k).toInt
theorem rI_eq {x c : Int32} : x = c ↔ x.toInt = c.toInt := Int32.toInt_inj.symm
theorem rc_k59 {σ : sn_S} {y : Int32} : BX5_kindAt_59 σ y = some (if y.toInt = 59 then 3 else 5) := by
  unfold BX5_kindAt_59
  by_cases h : y = 59
  · rw [if_pos h, if_pos (show y.toInt = 59 by rw [h]; decide)]
  · rw [if_neg h, if_neg (fun e => h (rI_eq.mpr (by rw [e]; decide)))]
theorem rc_k45 {σ : sn_S} {y : Int32} : BX5_kindAt_45 σ y = some (if 48 ≤ y.toInt ∧ y.toInt ≤ 57 then 2 else if y.toInt = 59 then 3 else 5) := by
  have e48 : (48 : Int32).toInt = 48 := by decide
  have e57 : (57 : Int32).toInt = 57 := by decide
  unfold BX5_kindAt_45
  rw [rc_k59]
  by_cases h : y < 48
  · have h1 := zs_I_lt h
    rw [if_pos h, if_neg (show ¬ (48 ≤ y.toInt ∧ y.toInt ≤ 57) by omega)]
  · have h1 := zs_I_ltn h
    rw [if_neg h]
    by_cases g : 57 < y
    · have g1 := zs_I_lt g
      rw [if_pos g, if_neg (show ¬ (48 ≤ y.toInt ∧ y.toInt ≤ 57) by omega)]
    · have g1 := zs_I_ltn g
      rw [if_neg g, if_pos (show 48 ≤ y.toInt ∧ y.toInt ≤ 57 by omega)]
theorem rc_kd {σ : sn_S} (y : Int32) : (if y = 32 then some (4 : Int32) else if y = 10 then some 4 else if y < 97 then BX5_kindAt_45 σ y else if 122 < y then BX5_kindAt_45 σ y else some 1) = some (nI (if y.toInt = 32 ∨ y.toInt = 10 then 4 else if 97 ≤ y.toInt ∧ y.toInt ≤ 122 then 1 else if 48 ≤ y.toInt ∧ y.toInt ≤ 57 then 2 else if y.toInt = 59 then 3 else 5)) := by
  have e97 : (97 : Int32).toInt = 97 := by decide
  have e122 : (122 : Int32).toInt = 122 := by decide
  rw [rc_k45]
  by_cases c1 : y = 32
  · rw [if_pos c1, if_pos (Or.inl (by rw [c1]; decide))]
    rfl
  · rw [if_neg c1]
    by_cases c2 : y = 10
    · rw [if_pos c2, if_pos (Or.inr (by rw [c2]; decide))]
      rfl
    · rw [if_neg c2, if_neg (show ¬ (y.toInt = 32 ∨ y.toInt = 10) from fun e => e.elim (fun e => c1 (rI_eq.mpr (by rw [e]; decide))) (fun e => c2 (rI_eq.mpr (by rw [e]; decide))))]
      have t : ∀ (P : Prop) [Decidable P] (a b : Nat), nI (if P then a else b) = if P then nI a else nI b := fun P _ a b => by split <;> rfl
      by_cases c3 : y < 97
      · have h3 := zs_I_lt c3
        rw [if_pos c3, if_neg (show ¬ (97 ≤ y.toInt ∧ y.toInt ≤ 122) by omega), t, t]
        rfl
      · have h3 := zs_I_ltn c3
        rw [if_neg c3]
        by_cases c4 : 122 < y
        · have h4 := zs_I_lt c4
          rw [if_pos c4, if_neg (show ¬ (97 ≤ y.toInt ∧ y.toInt ≤ 122) by omega), t, t]
          rfl
        · have h4 := zs_I_ltn c4
          rw [if_neg c4, if_pos (show 97 ≤ y.toInt ∧ y.toInt ≤ 122 by omega)]
          rfl
theorem rc_kind {σ : sn_S} {n i : Nat} (hn : σ.1 17 1 = nI n) (h9 : n ≤ 900) (hi : i ≤ 900) : fX5_kindAt σ (nI i) = some (nI (rd_k (rc_B σ) n i)) := by
  unfold fX5_kindAt rd_k
  rw [show sn_I σ 17 1 = nI n from hn]
  by_cases h : i < n
  · rw [if_pos ((nI_ltI (by omega) (by omega)).mpr h), if_pos h, sn_in_nI (by omega) (by decide), gd_T, nI_clamp (by omega)]
    exact rc_kd (σ.1 18 i)
  · rw [if_neg (fun e => h ((nI_ltI (by omega) (by omega)).mp e)), if_neg h]
    rfl
def rc_f (σ z : sn_S) : Prop := zk_fr σ z ∧ z.1 17 2 = σ.1 17 2 ∧ z.1 17 3 = σ.1 17 3
theorem rc_f0 {σ : sn_S} : rc_f σ σ := ⟨zk_fr0, rfl, rfl⟩
theorem rc_B_f {σ z : sn_S} (h : zk_fr σ z) : rc_B z = rc_B σ := by
  unfold rc_B
  rw [h.1 18 (by decide)]
/-- a token of the program: a .. e, its kind -/
def rc_T (σ : sn_S) (n a e : Nat) : Prop := σ.1 17 4 = nI a ∧ σ.1 17 5 = nI e ∧ σ.1 17 6 = nI (rd_k (rc_B σ) n a)
theorem rc_step {σ : sn_S} {n p : Nat} (hn : σ.1 17 1 = nI n) (h9 : n ≤ 900) (hp : σ.1 17 5 = nI p) (hpn : p ≤ n) : zs_ok (fX5_step σ) (fun z => rc_f σ z ∧ ∃ a e, rc_T z n a e ∧ rd_S (rc_B σ) n p a ∧ rd_E (rc_B σ) n a e) := by
  unfold fX5_step
  refine zs_lt (Q := fun z => rc_f σ z ∧ z.1 17 4 = nI p) ⟨⟨zk_frw (by decide) zk_fr0, rfl, rfl⟩, hp⟩ (fun z1 g1 => ?_)
  refine zs_bd_ (zs_it (E := fun z => rc_f σ z ∧ ∃ a, z.1 17 4 = nI a ∧ rd_S (rc_B σ) n p a) (I := fun z => rc_f σ z ∧ ∃ j, z.1 17 4 = nI j ∧ p ≤ j ∧ j ≤ n ∧ ∀ i, p ≤ i → i < j → rd_k (rc_B σ) n i = 4) (m := fun z => 900 - (z.1 17 4).toInt) (fun z hz => ?_) (fun z hz => ?_) ⟨g1.1, p, g1.2, Nat.le_refl _, hpn, fun i h1 h2 => absurd h1 (by omega)⟩) (fun z2 g2 => ?_)
  · obtain ⟨_, j, e, h1, h2, _⟩ := hz
    rw [e, nI_toInt (by omega)]
    exact ⟨by omega, by omega⟩
  · obtain ⟨hf, j, e, h1, h2, h3⟩ := hz
    have ek := rc_kind (σ := z) (n := n) (i := j) (hf.1.2.1.trans hn) h9 (by omega)
    rw [rc_B_f hf.1] at ek
    unfold LX5_step_8 BX5_step_8
    rw [show sn_I z 17 4 = nI j from e, show sn_I z 17 1 = nI n from hf.1.2.1.trans hn]
    refine zs_ite (fun c => zs_some (zs_inr ⟨hf, j, e, h1, h2, h3, ?_⟩)) (fun c => ?_)
    · have c1 := (nI_leI (by omega) (by omega)).mp c
      rcases rd_kc (rc_B σ) n j with k | k
      · omega
      · omega
    · have c1 : j < n := by
        by_cases x : j < n
        · exact x
        · exact absurd ((nI_leI (by omega) (by omega)).mpr (by omega)) c
      refine zs_bd_ (Q := fun t => t = nI (rd_k (rc_B σ) n j)) ⟨_, ek, rfl⟩ (fun t ht => ?_)
      subst ht
      have k5 := rd_k5 (rc_B σ) n j
      refine zs_ite (fun c2 => ?_) (fun c2 => zs_some (zs_inr ⟨hf, j, e, h1, h2, h3, fun e4 => c2 (by rw [e4]; rfl)⟩))
      have c3 : rd_k (rc_B σ) n j = 4 := (nI_eq (b := 4) (by omega) (by decide)).mp c2
      refine zs_lt (Q := fun y => y = sn_pI z 17 4 (nI j + (1 : Int32))) rfl (fun y hy => ?_)
      subst hy
      refine zs_some (zs_inl ⟨⟨⟨zk_frw (by decide) hf.1, hf.2⟩, j + 1, nI_1 j, by omega, by omega, fun i i1 i2 => ?_⟩, ?_⟩)
      · by_cases x : i = j
        · rw [x]
          exact c3
        · exact h3 i i1 (by omega)
      · show 900 - (nI j + 1).toInt < 900 - (z.1 17 4).toInt
        rw [e, nI_1, nI_toInt (by omega), nI_toInt (by omega)]
        omega
  · obtain ⟨hf, a, e, hS⟩ := g2
    have ha := hS.2.1
    have en : z2.1 17 1 = nI n := hf.1.2.1.trans hn
    have ek := rc_kind (σ := z2) (n := n) (i := a) en h9 (by omega)
    rw [rc_B_f hf.1] at ek
    have k5 := rd_k5 (rc_B σ) n a
    unfold BX5_step_44
    rw [show sn_I z2 17 4 = nI a from e]
    refine zs_bd_ (Q := fun t => t = nI (rd_k (rc_B σ) n a)) ⟨_, ek, rfl⟩ (fun t ht => ?_)
    subst ht
    refine zs_lt (Q := fun z => rc_f σ z ∧ z.1 17 4 = nI a ∧ z.1 17 6 = nI (rd_k (rc_B σ) n a)) ⟨⟨zk_frw (by decide) hf.1, hf.2⟩, e, rfl⟩ (fun z3 g3 => ?_)
    have en3 : z3.1 17 1 = nI n := g3.1.1.2.1.trans hn
    refine zs_lt (Q := fun y => y = nI (min (a + 1) n)) ?_ (fun y hy => ?_)
    · show (if sn_I z3 17 1 < sn_I z3 17 4 + (1 : Int32) then sn_I z3 17 1 else sn_I z3 17 4 + (1 : Int32)) = _
      rw [show sn_I z3 17 1 = nI n from en3, show sn_I z3 17 4 = nI a from g3.2.1, nI_1]
      by_cases c : n < a + 1
      · rw [if_pos ((nI_ltI (by omega) (by omega)).mpr c), Nat.min_eq_right (by omega)]
      · rw [if_neg (fun x => c ((nI_ltI (by omega) (by omega)).mp x)), Nat.min_eq_left (by omega)]
    subst hy
    refine zs_lt (Q := fun z => rc_f σ z ∧ z.1 17 4 = nI a ∧ z.1 17 6 = nI (rd_k (rc_B σ) n a) ∧ z.1 17 5 = nI (min (a + 1) n)) ⟨⟨zk_frw (by decide) g3.1.1, g3.1.2⟩, g3.2.1, g3.2.2, rfl⟩ (fun z4 g4 => ?_)
    have fin : ∀ z e, rc_f σ z → z.1 17 4 = nI a → z.1 17 6 = nI (rd_k (rc_B σ) n a) → z.1 17 5 = nI e → rd_E (rc_B σ) n a e → (rc_f σ z ∧ ∃ a e, rc_T z n a e ∧ rd_S (rc_B σ) n p a ∧ rd_E (rc_B σ) n a e) := fun z e h1 h2 h3 h4 h5 => ⟨h1, a, e, ⟨h2, h4, by rw [rc_B_f h1.1]; exact h3⟩, hS, h5⟩
    by_cases ck : rd_k (rc_B σ) n a = 1 ∨ rd_k (rc_B σ) n a = 2
    · have lan : a < n := by
        rcases rd_kc (rc_B σ) n a with k | k
        · omega
        · exact k.1
      rw [Nat.min_eq_left (by omega)] at g4
      refine zs_bd_ (zs_it (E := fun z => rc_f σ z ∧ ∃ a e, rc_T z n a e ∧ rd_S (rc_B σ) n p a ∧ rd_E (rc_B σ) n a e) (I := fun z => rc_f σ z ∧ z.1 17 4 = nI a ∧ z.1 17 6 = nI (rd_k (rc_B σ) n a) ∧ ∃ j, z.1 17 5 = nI j ∧ a < j ∧ j ≤ n ∧ ∀ i, a ≤ i → i < j → rd_k (rc_B σ) n i = rd_k (rc_B σ) n a) (m := fun z => 900 - (z.1 17 5).toInt) (fun z hz => ?_) (fun z hz => ?_) ⟨g4.1, g4.2.1, g4.2.2.1, a + 1, g4.2.2.2, by omega, by omega, fun i i1 i2 => by rw [show i = a by omega]⟩) (fun z5 g5 => ?_)
      · obtain ⟨_, _, _, j, e, h1, h2, _⟩ := hz
        rw [e, nI_toInt (by omega)]
        exact ⟨by omega, by omega⟩
      · obtain ⟨hf, h4, h6, j, e5, j1, j2, j3⟩ := hz
        have s89 : zs_ok (BX5_step_89 z) (zs_sum (fun s' => (rc_f σ s' ∧ s'.1 17 4 = nI a ∧ s'.1 17 6 = nI (rd_k (rc_B σ) n a) ∧ ∃ j, s'.1 17 5 = nI j ∧ a < j ∧ j ≤ n ∧ ∀ i, a ≤ i → i < j → rd_k (rc_B σ) n i = rd_k (rc_B σ) n a) ∧ 900 - (s'.1 17 5).toInt < 900 - (z.1 17 5).toInt) (fun z => rc_f σ z ∧ ∃ a e, rc_T z n a e ∧ rd_S (rc_B σ) n p a ∧ rd_E (rc_B σ) n a e)) := by
          have ek := rc_kind (σ := z) (n := n) (i := j) (hf.1.2.1.trans hn) h9 (by omega)
          rw [rc_B_f hf.1] at ek
          unfold BX5_step_89
          rw [show sn_I z 17 5 = nI j from e5, show sn_I z 17 1 = nI n from hf.1.2.1.trans hn, show sn_I z 17 6 = nI (rd_k (rc_B σ) n a) from h6]
          have kj := rd_k5 (rc_B σ) n j
          refine zs_ite (fun c => zs_some (zs_inr (fin z j hf h4 h6 e5 (Or.inr ⟨lan, j1, j2, fun _ => ⟨j3, ?_⟩, fun c2 => absurd ck c2⟩)))) (fun c => ?_)
          · have c1 := (nI_leI (by omega) (by omega)).mp c
            rcases rd_kc (rc_B σ) n j with k | k
            · omega
            · omega
          · have c1 : j < n := by
              by_cases x : j < n
              · exact x
              · exact absurd ((nI_leI (by omega) (by omega)).mpr (by omega)) c
            refine zs_bd_ (Q := fun t => t = nI (rd_k (rc_B σ) n j)) ⟨_, ek, rfl⟩ (fun t ht => ?_)
            subst ht
            refine zs_ite (fun c2 => ?_) (fun c2 => zs_some (zs_inr (fin z j hf h4 h6 e5 (Or.inr ⟨lan, j1, j2, fun _ => ⟨j3, fun x => c2 (by rw [x])⟩, fun c2 => absurd ck c2⟩))))
            have c3 := (nI_eq (by omega) (by omega)).mp c2
            refine zs_lt (Q := fun y => y = sn_pI z 17 5 (nI j + (1 : Int32))) rfl (fun y hy => ?_)
            subst hy
            refine zs_some (zs_inl ⟨⟨⟨zk_frw (by decide) hf.1, hf.2⟩, h4, h6, j + 1, nI_1 j, by omega, by omega, fun i i1 i2 => ?_⟩, ?_⟩)
            · by_cases x : i = j
              · rw [x]
                exact c3
              · exact j3 i i1 (by omega)
            · show 900 - (nI j + 1).toInt < 900 - (z.1 17 5).toInt
              rw [e5, nI_1, nI_toInt (by omega), nI_toInt (by omega)]
              omega
        unfold LX5_step_73 BX5_step_73
        refine zs_ite (fun _ => s89) (fun c1 => zs_ite (fun _ => s89) (fun c2 => ?_))
        exfalso
        rw [show sn_I z 17 6 = nI (rd_k (rc_B σ) n a) from h6] at c1 c2
        rcases ck with k | k
        · exact c1 (by rw [k]; rfl)
        · exact c2 (by rw [k]; rfl)
      · unfold BX5_step_128
        exact zs_some g5
    · refine zs_bd_ (Q := fun u => u = z4) ⟨z4, ?_, rfl⟩ (fun u hu => ?_)
      · show sn_it LX5_step_73 (4999 + 1) z4 = some z4
        unfold sn_it LX5_step_73 BX5_step_73
        have n1 : ¬ sn_I z4 17 6 = 1 := fun x => ck (Or.inl ((nI_eq (b := 1) (by omega) (by decide)).mp (g4.2.2.1.symm.trans x)))
        have n2 : ¬ sn_I z4 17 6 = 2 := fun x => ck (Or.inr ((nI_eq (b := 2) (by omega) (by decide)).mp (g4.2.2.1.symm.trans x)))
        rw [if_neg n1, if_neg n2]
      · unfold BX5_step_128
        rw [hu]
        refine zs_some (fin z4 (min (a + 1) n) g4.1 g4.2.1 g4.2.2.1 g4.2.2.2 ?_)
        by_cases x : a = n
        · left
          exact ⟨x, by omega⟩
        · right
          exact ⟨by omega, by omega, by omega, fun c => absurd c ck, fun _ => by omega⟩
end
section
/-! the reference's side -/
abbrev rm_B (τ : sn_S) : Nat → Int := fun k => (τ.1 4 k &&& (255 : Int32)).toInt
def rd_t (k : Nat) : Nat := if k = 5 then 4 else k
def rm_f (τ z : sn_S) : Prop := (∀ q, q ≠ 0 → z.1 q = τ.1 q) ∧ (∀ k, k ≠ 8 → k ≠ 9 → k ≠ 10 → k ≠ 11 → z.1 0 k = τ.1 0 k) ∧ z.2 = τ.2
theorem rm_f0 {τ : sn_S} : rm_f τ τ := ⟨fun _ _ => rfl, fun _ _ _ _ _ => rfl, rfl⟩
theorem rm_fw {τ z : sn_S} {k : Nat} {v : Int32} (hk : k = 8 ∨ k = 9 ∨ k = 10 ∨ k = 11) (h : rm_f τ z) : rm_f τ (sn_pI z 0 k v) := ⟨fun q hq => by rw [pI_ne hq, h.1 q hq], fun j h1 h2 h3 h4 => by
  rw [pI_slot (by omega)]
  exact h.2.1 j h1 h2 h3 h4, h.2.2⟩
theorem rm_B_f {τ z : sn_S} (h : rm_f τ z) : rm_B z = rm_B τ := by
  unfold rm_B
  rw [h.1 4 (by decide)]
theorem rm_byte (τ : sn_S) (k : Nat) : 0 ≤ rm_B τ k ∧ rm_B τ k ≤ 255 := zs_and (x := τ.1 4 k) (show zs_in (255 : Int32).toInt 255 255 by decide) (by decide)
theorem rm_v {τ : sn_S} {n j : Nat} (hn : τ.1 0 7 = nI n) (h9 : n ≤ 900) (hj : j ≤ n) : ∃ v, fX9_see τ (nI j) = some v ∧ ((v = 32 ∨ v = 10) ↔ rd_k (rm_B τ) n j = 4) ∧ (v = -1 ↔ rd_k (rm_B τ) n j = 0) ∧ ((97 ≤ v.toInt ∧ v.toInt ≤ 122) ↔ rd_k (rm_B τ) n j = 1) ∧ ((48 ≤ v.toInt ∧ v.toInt ≤ 57) ↔ rd_k (rm_B τ) n j = 2) ∧ (v = 59 ↔ rd_k (rm_B τ) n j = 3) ∧ (j < n → v.toInt = rm_B τ j) := by
  have e32 : (32 : Int32).toInt = 32 := by decide
  have e10 : (10 : Int32).toInt = 10 := by decide
  have e59 : (59 : Int32).toInt = 59 := by decide
  have e1 : (-1 : Int32).toInt = -1 := by decide
  have kc := rd_kc (rm_B τ) n j
  have hb := rm_byte τ j
  unfold fX9_see
  rw [show sn_I τ 0 7 = nI n from hn]
  by_cases h : j < n
  · rw [if_neg (fun x => absurd ((nI_leI (by omega) (by omega)).mp x) (by omega)), sn_in_nI (by omega) (by decide), gd_T, nI_clamp (by omega)]
    have ev : (sn_I τ 4 j &&& (255 : Int32)).toInt = rm_B τ j := rfl
    refine ⟨_, rfl, ?_, ?_, ?_, ?_, ?_, fun _ => ev⟩
    · rw [rI_eq, rI_eq, ev, e32, e10]
      omega
    · rw [rI_eq, ev, e1]
      omega
    · rw [ev]
      omega
    · rw [ev]
      omega
    · rw [rI_eq, ev, e59]
      omega
  · rw [if_pos ((nI_leI (by omega) (by omega)).mpr (by omega))]
    have ev : (-1 : Int32).toInt = -1 := by decide
    refine ⟨_, rfl, ?_, ?_, ?_, ?_, ?_, fun x => absurd x h⟩
    · rw [rI_eq, rI_eq, ev, e32, e10]
      omega
    · rw [rI_eq, ev]
      omega
    · rw [ev]
      omega
    · rw [ev]
      omega
    · rw [rI_eq, ev, e59]
      omega
theorem rm_in1 (v : Int32) : fX9_in v.toInt64 (97 : Int64) (122 : Int64) = some (if 97 ≤ v.toInt ∧ v.toInt ≤ 122 then 1 else 0) := by
  have e : fX9_in v.toInt64 (97 : Int64) (122 : Int64) = some (if (97 : Int32) ≤ v ∧ v ≤ (122 : Int32) then 1 else 0) := in_eq32 v 97 122
  rw [e]
  have e97 : (97 : Int32).toInt = 97 := by decide
  have e122 : (122 : Int32).toInt = 122 := by decide
  by_cases c : 97 ≤ v.toInt ∧ v.toInt ≤ 122
  · rw [if_pos c, if_pos ⟨Int32.le_iff_toInt_le.mpr (by omega), Int32.le_iff_toInt_le.mpr (by omega)⟩]
  · rw [if_neg c, if_neg (fun x => c ⟨by have := zs_I_le x.1; omega, by have := zs_I_le x.2; omega⟩)]
theorem rm_in2 (v : Int32) : fX9_in v.toInt64 (48 : Int64) (57 : Int64) = some (if 48 ≤ v.toInt ∧ v.toInt ≤ 57 then 1 else 0) := by
  have e : fX9_in v.toInt64 (48 : Int64) (57 : Int64) = some (if (48 : Int32) ≤ v ∧ v ≤ (57 : Int32) then 1 else 0) := in_eq32 v 48 57
  rw [e]
  have e97 : (48 : Int32).toInt = 48 := by decide
  have e122 : (57 : Int32).toInt = 57 := by decide
  by_cases c : 48 ≤ v.toInt ∧ v.toInt ≤ 57
  · rw [if_pos c, if_pos ⟨Int32.le_iff_toInt_le.mpr (by omega), Int32.le_iff_toInt_le.mpr (by omega)⟩]
  · rw [if_neg c, if_neg (fun x => c ⟨by have := zs_I_le x.1; omega, by have := zs_I_le x.2; omega⟩)]
/-- a token of the reference: a .. e, its kind, its number -/
def rm_T (τ : sn_S) (n a e : Nat) : Prop := τ.1 0 9 = nI a ∧ τ.1 0 8 = nI e ∧ τ.1 0 10 = nI (rd_t (rd_k (rm_B τ) n a)) ∧ (rd_k (rm_B τ) n a = 2 → τ.1 0 11 = nI (min 99999 (rd_num (rm_B τ) a (e - a))))
theorem rm_skip {τ : sn_S} {n p : Nat} (hn : τ.1 0 7 = nI n) (h9 : n ≤ 900) (hp : τ.1 0 8 = nI p) (hpn : p ≤ n) : zs_ok (sn_it LX9_advance_0 5000 τ) (fun z => rm_f τ z ∧ ∃ a, z.1 0 8 = nI a ∧ rd_S (rm_B τ) n p a) := by
  refine zs_it (I := fun z => rm_f τ z ∧ ∃ j, z.1 0 8 = nI j ∧ p ≤ j ∧ j ≤ n ∧ ∀ i, p ≤ i → i < j → rd_k (rm_B τ) n i = 4) (m := fun z => 900 - (z.1 0 8).toInt) (fun z hz => ?_) (fun z hz => ?_) ⟨rm_f0, p, hp, Nat.le_refl _, hpn, fun i h1 h2 => absurd h1 (by omega)⟩
  · obtain ⟨_, j, e, h1, h2, _⟩ := hz
    rw [e, nI_toInt (by omega)]
    exact ⟨by omega, by omega⟩
  · obtain ⟨hf, j, e, h1, h2, h3⟩ := hz
    obtain ⟨v, ev, v4, v0, _, _, _, _⟩ := rm_v (τ := z) (n := n) (j := j) ((hf.2.1 7 (by decide) (by decide) (by decide) (by decide)).trans hn) h9 h2
    rw [rm_B_f hf] at v4 v0
    have mv : rd_k (rm_B τ) n j = 4 → zs_ok (BX9_advance_26 z) (zs_sum (fun s' => (rm_f τ s' ∧ ∃ j, s'.1 0 8 = nI j ∧ p ≤ j ∧ j ≤ n ∧ ∀ i, p ≤ i → i < j → rd_k (rm_B τ) n i = 4) ∧ 900 - (s'.1 0 8).toInt < 900 - (z.1 0 8).toInt) (fun z => rm_f τ z ∧ ∃ a, z.1 0 8 = nI a ∧ rd_S (rm_B τ) n p a)) := by
      intro k4
      have lj : j < n := by
        rcases rd_kc (rm_B τ) n j with k | k
        · omega
        · exact k.1
      unfold BX9_advance_26
      rw [show sn_I z 0 8 = nI j from e]
      refine zs_lt (Q := fun y => y = sn_pI z 0 8 (nI j + (1 : Int32))) rfl (fun y hy => ?_)
      subst hy
      refine zs_some (zs_inl ⟨⟨rm_fw (Or.inl rfl) hf, j + 1, nI_1 j, by omega, by omega, fun i i1 i2 => ?_⟩, ?_⟩)
      · by_cases x : i = j
        · rw [x]
          exact k4
        · exact h3 i i1 (by omega)
      · show 900 - (nI j + 1).toInt < 900 - (z.1 0 8).toInt
        rw [e, nI_1, nI_toInt (by omega), nI_toInt (by omega)]
        omega
    unfold LX9_advance_0 BX9_advance_0
    rw [show sn_I z 0 8 = nI j from e]
    refine zs_bd_ (Q := fun t => t = v) ⟨v, ev, rfl⟩ (fun t ht => ?_)
    subst ht
    refine zs_ite (fun c => mv (v4.mp (Or.inl c))) (fun c => ?_)
    refine zs_bd_ (Q := fun u => u = t) ⟨t, ev, rfl⟩ (fun u hu => ?_)
    subst hu
    exact zs_ite (fun c2 => mv (v4.mp (Or.inr c2))) (fun c2 => zs_some (zs_inr ⟨hf, j, e, h1, h2, h3, fun k4 => (v4.mpr k4).elim c c2⟩))
theorem rm_word {τ z : sn_S} {n a : Nat} (hn : τ.1 0 7 = nI n) (h9 : n ≤ 900) (hf : rm_f τ z) (h8 : z.1 0 8 = nI a) (k1 : rd_k (rm_B τ) n a = 1) : zs_ok (sn_it LX9_advance_83 5000 z) (fun y => rm_f τ y ∧ y.1 0 9 = z.1 0 9 ∧ ∃ e, y.1 0 8 = nI e ∧ rd_E (rm_B τ) n a e) := by
  have la : a < n := by
    rcases rd_kc (rm_B τ) n a with k | k
    · omega
    · exact k.1
  refine zs_it (I := fun y => rm_f τ y ∧ y.1 0 9 = z.1 0 9 ∧ ∃ j, y.1 0 8 = nI j ∧ a ≤ j ∧ j ≤ n ∧ ∀ i, a ≤ i → i < j → rd_k (rm_B τ) n i = 1) (m := fun z => 900 - (z.1 0 8).toInt) (fun y hy => ?_) (fun y hy => ?_) ⟨hf, rfl, a, h8, Nat.le_refl _, by omega, fun i h1 h2 => absurd h1 (by omega)⟩
  · obtain ⟨_, _, j, e, h1, h2, _⟩ := hy
    rw [e, nI_toInt (by omega)]
    exact ⟨by omega, by omega⟩
  · obtain ⟨hf, h90, j, e, h1, h2, h3⟩ := hy
    obtain ⟨v, ev, _, _, v1, _, _, _⟩ := rm_v (τ := y) (n := n) (j := j) ((hf.2.1 7 (by decide) (by decide) (by decide) (by decide)).trans hn) h9 h2
    rw [rm_B_f hf] at v1
    unfold LX9_advance_83 BX9_advance_83
    rw [show sn_I y 0 8 = nI j from e]
    refine zs_bd_ (Q := fun t => t = v) ⟨v, ev, rfl⟩ (fun t ht => ?_)
    subst ht
    rw [rm_in1]
    by_cases c : 97 ≤ t.toInt ∧ t.toInt ≤ 122
    · rw [if_pos c]
      refine zs_bd_ (Q := fun u => u = 1) ⟨1, rfl, rfl⟩ (fun u hu => zs_ite (fun x => absurd (hu.symm.trans x) (by decide)) (fun _ => ?_))
      have k1 := v1.mp c
      have lj : j < n := by
        rcases rd_kc (rm_B τ) n j with k | k
        · omega
        · exact k.1
      refine zs_lt (Q := fun w => w = sn_pI y 0 8 (nI j + (1 : Int32))) rfl (fun w hw => ?_)
      subst hw
      refine zs_some (zs_inl ⟨⟨rm_fw (Or.inl rfl) hf, h90, j + 1, nI_1 j, by omega, by omega, fun i i1 i2 => ?_⟩, ?_⟩)
      · by_cases x : i = j
        · rw [x]
          exact k1
        · exact h3 i i1 (by omega)
      · show 900 - (nI j + 1).toInt < 900 - (y.1 0 8).toInt
        rw [e, nI_1, nI_toInt (by omega), nI_toInt (by omega)]
        omega
    · rw [if_neg c]
      refine zs_bd_ (Q := fun u => u = 0) ⟨0, rfl, rfl⟩ (fun u hu => zs_ite (fun _ => ?_) (fun x => absurd hu x))
      have nk : rd_k (rm_B τ) n j ≠ 1 := fun x => c (v1.mpr x)
      have lj : a < j := by
        by_cases x : j = a
        · rw [x] at nk
          exact absurd k1 nk
        · omega
      refine zs_some (zs_inr ⟨hf, h90, j, e, Or.inr ⟨la, lj, h2, fun _ => ?_, fun x => absurd (Or.inl k1) x⟩⟩)
      rw [k1]
      exact ⟨h3, nk⟩
theorem rm_digits {τ z : sn_S} {n a : Nat} (hn : τ.1 0 7 = nI n) (h9 : n ≤ 900) (hf : rm_f τ z) (h8 : z.1 0 8 = nI a) (h11 : z.1 0 11 = nI 0) (k1 : rd_k (rm_B τ) n a = 2) : zs_ok (sn_it LX9_advance_144 5000 z) (fun y => rm_f τ y ∧ y.1 0 9 = z.1 0 9 ∧ ∃ e, y.1 0 8 = nI e ∧ rd_E (rm_B τ) n a e ∧ y.1 0 11 = nI (min 99999 (rd_num (rm_B τ) a (e - a)))) := by
  have la : a < n := by
    rcases rd_kc (rm_B τ) n a with k | k
    · omega
    · exact k.1
  refine zs_it (I := fun y => rm_f τ y ∧ y.1 0 9 = z.1 0 9 ∧ ∃ j, y.1 0 8 = nI j ∧ a ≤ j ∧ j ≤ n ∧ (∀ i, a ≤ i → i < j → rd_k (rm_B τ) n i = 2) ∧ y.1 0 11 = nI (min 99999 (rd_num (rm_B τ) a (j - a)))) (m := fun z => 900 - (z.1 0 8).toInt) (fun y hy => ?_) (fun y hy => ?_) ⟨hf, rfl, a, h8, Nat.le_refl _, by omega, fun i h1 h2 => absurd h1 (by omega), by rw [Nat.sub_self]; exact h11⟩
  · obtain ⟨_, _, j, e, h1, h2, _⟩ := hy
    rw [e, nI_toInt (by omega)]
    exact ⟨by omega, by omega⟩
  · obtain ⟨hf, h90, j, e, h1, h2, h3, h11⟩ := hy
    obtain ⟨v, ev, _, _, _, v1, _, vB⟩ := rm_v (τ := y) (n := n) (j := j) ((hf.2.1 7 (by decide) (by decide) (by decide) (by decide)).trans hn) h9 h2
    rw [rm_B_f hf] at v1 vB
    unfold LX9_advance_144 BX9_advance_144
    rw [show sn_I y 0 8 = nI j from e]
    refine zs_bd_ (Q := fun t => t = v) ⟨v, ev, rfl⟩ (fun t ht => ?_)
    subst ht
    rw [rm_in2]
    by_cases c : 48 ≤ t.toInt ∧ t.toInt ≤ 57
    · rw [if_pos c]
      refine zs_bd_ (Q := fun u => u = 1) ⟨1, rfl, rfl⟩ (fun u hu => zs_ite (fun x => absurd (hu.symm.trans x) (by decide)) (fun _ => ?_))
      have k1 := v1.mp c
      have lj : j < n := by
        rcases rd_kc (rm_B τ) n j with k | k
        · omega
        · exact k.1
      refine zs_bd_ (Q := fun u => u = t) ⟨t, ev, rfl⟩ (fun t6 ht6 => ?_)
      subst ht6
      refine zs_lt (Q := fun w => w = nI (min 99999 (rd_num (rm_B τ) a (j + 1 - a)))) ?_ (fun w hw => ?_)
      · rw [show sn_I y 0 11 = nI (min 99999 (rd_num (rm_B τ) a (j - a))) from h11]
        have hN : min 99999 (rd_num (rm_B τ) a (j - a)) ≤ 99999 := Nat.min_le_left _ _
        have hB := vB lj
        have es : rd_num (rm_B τ) a (j + 1 - a) = 10 * rd_num (rm_B τ) a (j - a) + (rm_B τ j - 48).toNat := by
          have e1 : j + 1 - a = (j - a) + 1 := by omega
          have e2 : a + (j - a) = j := by omega
          rw [e1]
          show 10 * rd_num (rm_B τ) a (j - a) + (rm_B τ (a + (j - a)) - 48).toNat = _
          rw [e2]
        have hc := rd_cap 99999 (rd_num (rm_B τ) a (j - a)) (rm_B τ j - 48).toNat
        rw [es]
        generalize min 99999 (rd_num (rm_B τ) a (j - a)) = N at hN hc ⊢
        have ea : (((10 : Int32) * nI N) + t6) - (48 : Int32) = nI (10 * N + (rm_B τ j - 48).toNat) := by
          apply Int32.toInt_inj.mp
          rw [Int32.toInt_sub, Int32.toInt_add, Int32.toInt_mul, nI_toInt (by omega), nI_toInt (by omega), show (10 : Int32).toInt = 10 by decide, show (48 : Int32).toInt = 48 by decide, zs_bm (X := 10 * (N : Int)) ⟨by omega, by omega⟩, zs_bm (X := 10 * (N : Int) + t6.toInt) ⟨by omega, by omega⟩, zs_bm ⟨by omega, by omega⟩]
          omega
        rw [ea, ← hc]
        by_cases l : 10 * N + (rm_B τ j - 48).toNat < 99999
        · rw [if_pos (show nI (10 * N + (rm_B τ j - 48).toNat) < (99999 : Int32) from (nI_ltI (b := 99999) (by omega) (by decide)).mpr l), Nat.min_eq_right (by omega)]
        · rw [if_neg (show ¬ nI (10 * N + (rm_B τ j - 48).toNat) < (99999 : Int32) from fun x => l ((nI_ltI (b := 99999) (by omega) (by decide)).mp x)), Nat.min_eq_left (by omega)]
          rfl
      · subst hw
        refine zs_lt (Q := fun w => rm_f τ w ∧ w.1 0 9 = z.1 0 9 ∧ w.1 0 8 = nI j ∧ w.1 0 11 = nI (min 99999 (rd_num (rm_B τ) a (j + 1 - a)))) ⟨rm_fw (Or.inr (Or.inr (Or.inr rfl))) hf, h90, e, rfl⟩ (fun w1 g1 => ?_)
        rw [show sn_I w1 0 8 = nI j from g1.2.2.1]
        refine zs_lt (Q := fun w => w = sn_pI w1 0 8 (nI j + (1 : Int32))) rfl (fun w hw => ?_)
        subst hw
        refine zs_some (zs_inl ⟨⟨rm_fw (Or.inl rfl) g1.1, g1.2.1, j + 1, nI_1 j, by omega, by omega, fun i i1 i2 => ?_, g1.2.2.2⟩, ?_⟩)
        · by_cases x : i = j
          · rw [x]
            exact k1
          · exact h3 i i1 (by omega)
        · show 900 - (nI j + 1).toInt < 900 - (y.1 0 8).toInt
          rw [e, nI_1, nI_toInt (by omega), nI_toInt (by omega)]
          omega
    · rw [if_neg c]
      refine zs_bd_ (Q := fun u => u = 0) ⟨0, rfl, rfl⟩ (fun u hu => zs_ite (fun _ => ?_) (fun x => absurd hu x))
      have nk : rd_k (rm_B τ) n j ≠ 2 := fun x => c (v1.mpr x)
      have lj : a < j := by
        by_cases x : j = a
        · rw [x] at nk
          exact absurd k1 nk
        · omega
      refine zs_some (zs_inr ⟨hf, h90, j, e, Or.inr ⟨la, lj, h2, fun _ => ?_, fun x => absurd (Or.inr k1) x⟩, h11⟩)
      rw [k1]
      exact ⟨h3, nk⟩
theorem rm_adv {τ : sn_S} {n p : Nat} (hn : τ.1 0 7 = nI n) (h9 : n ≤ 900) (hp : τ.1 0 8 = nI p) (hpn : p ≤ n) : zs_ok (fX9_advance τ) (fun z => rm_f τ z ∧ ∃ a e, rm_T z n a e ∧ rd_S (rm_B τ) n p a ∧ rd_E (rm_B τ) n a e) := by
  unfold fX9_advance
  refine zs_bd_ (rm_skip hn h9 hp hpn) (fun z1 g1 => ?_)
  obtain ⟨hf, a, e8, hS⟩ := g1
  have han := hS.2.1
  have k5 := rd_k5 (rm_B τ) n a
  have k4 := hS.2.2.2
  unfold BX9_advance_39
  rw [show sn_I z1 0 8 = nI a from e8]
  refine zs_lt (Q := fun z => rm_f τ z ∧ z.1 0 8 = nI a ∧ z.1 0 9 = nI a) ⟨rm_fw (Or.inr (Or.inl rfl)) hf, e8, rfl⟩ (fun z2 g2 => ?_)
  obtain ⟨hf2, f8, f9⟩ := g2
  obtain ⟨v, ev, v4, v0, v1, v2, v3, vB⟩ := rm_v (τ := z2) (n := n) (j := a) ((hf2.2.1 7 (by decide) (by decide) (by decide) (by decide)).trans hn) h9 han
  rw [rm_B_f hf2] at v4 v0 v1 v2 v3 vB
  have fin : ∀ z e, rm_f τ z → z.1 0 9 = nI a → z.1 0 8 = nI e → z.1 0 10 = nI (rd_t (rd_k (rm_B τ) n a)) → (rd_k (rm_B τ) n a = 2 → z.1 0 11 = nI (min 99999 (rd_num (rm_B τ) a (e - a)))) → rd_E (rm_B τ) n a e → (rm_f τ z ∧ ∃ a e, rm_T z n a e ∧ rd_S (rm_B τ) n p a ∧ rd_E (rm_B τ) n a e) := fun z e h1 h2 h3 h4 h5 h6 => ⟨h1, a, e, ⟨h2, h3, by rw [rm_B_f h1]; exact h4, by rw [rm_B_f h1]; exact h5⟩, hS, h6⟩
  rw [show sn_I z2 0 8 = nI a from f8]
  refine zs_bd_ (Q := fun t => t = v) ⟨v, ev, rfl⟩ (fun t ht => ?_)
  subst ht
  refine zs_ite (fun c0 => ?_) (fun c0 => ?_)
  · have k0 := v0.mp c0
    have ea : a = n := by
      rcases rd_kc (rm_B τ) n a with k | k
      · omega
      · omega
    exact zs_lt (Q := fun z => rm_f τ z ∧ ∃ a e, rm_T z n a e ∧ rd_S (rm_B τ) n p a ∧ rd_E (rm_B τ) n a e) (fin _ a (rm_fw (Or.inr (Or.inr (Or.inl rfl))) hf2) f9 f8 (by rw [k0]; rfl) (fun x => absurd (k0.symm.trans x) (by decide)) (Or.inl ⟨ea, rfl⟩)) (fun z hz => zs_some hz)
  · have la : a < n := by
      rcases rd_kc (rm_B τ) n a with k | k
      · exact absurd (v0.mpr k.1) c0
      · exact k.1
    rw [rm_in1]
    by_cases c1 : 97 ≤ t.toInt ∧ t.toInt ≤ 122
    · rw [if_pos c1]
      refine zs_bd_ (Q := fun u => u = 1) ⟨1, rfl, rfl⟩ (fun u hu => zs_ite (fun x => absurd (hu.symm.trans x) (by decide)) (fun _ => ?_))
      have k1 := v1.mp c1
      refine zs_bd_ (rm_word hn h9 hf2 f8 k1) (fun z3 g3 => ?_)
      obtain ⟨h1, h2, e, h3, h4⟩ := g3
      unfold BX9_advance_117
      exact zs_lt (Q := fun z => rm_f τ z ∧ ∃ a e, rm_T z n a e ∧ rd_S (rm_B τ) n p a ∧ rd_E (rm_B τ) n a e) (fin _ e (rm_fw (Or.inr (Or.inr (Or.inl rfl))) h1) (h2.trans f9) h3 (by rw [k1]; rfl) (fun x => absurd (k1.symm.trans x) (by decide)) h4) (fun z hz => zs_some hz)
    · rw [if_neg c1]
      refine zs_bd_ (Q := fun u => u = 0) ⟨0, rfl, rfl⟩ (fun u hu => zs_ite (fun _ => ?_) (fun x => absurd hu x))
      rw [rm_in2]
      have n1 : rd_k (rm_B τ) n a ≠ 1 := fun x => c1 (v1.mpr x)
      by_cases c2 : 48 ≤ t.toInt ∧ t.toInt ≤ 57
      · rw [if_pos c2]
        refine zs_bd_ (Q := fun u => u = 1) ⟨1, rfl, rfl⟩ (fun u hu => zs_ite (fun x => absurd (hu.symm.trans x) (by decide)) (fun _ => ?_))
        have k2 := v2.mp c2
        refine zs_lt (Q := fun z => rm_f τ z ∧ z.1 0 8 = nI a ∧ z.1 0 9 = nI a ∧ z.1 0 11 = nI 0) ⟨rm_fw (Or.inr (Or.inr (Or.inr rfl))) hf2, f8, f9, rfl⟩ (fun z3 g3 => ?_)
        refine zs_bd_ (rm_digits hn h9 g3.1 g3.2.1 g3.2.2.2 k2) (fun z4 g4 => ?_)
        obtain ⟨h1, h2, e, h3, h4, h5⟩ := g4
        unfold BX9_advance_206
        exact zs_lt (Q := fun z => rm_f τ z ∧ ∃ a e, rm_T z n a e ∧ rd_S (rm_B τ) n p a ∧ rd_E (rm_B τ) n a e) (fin _ e (rm_fw (Or.inr (Or.inr (Or.inl rfl))) h1) (h2.trans g3.2.2.1) h3 (by rw [k2]; rfl) (fun _ => h5) h4) (fun z hz => zs_some hz)
      · rw [if_neg c2]
        refine zs_bd_ (Q := fun u => u = 0) ⟨0, rfl, rfl⟩ (fun u hu => zs_ite (fun _ => ?_) (fun x => absurd hu x))
        have n2 : rd_k (rm_B τ) n a ≠ 2 := fun x => c2 (v2.mpr x)
        have n0 : rd_k (rm_B τ) n a ≠ 0 := fun x => c0 (v0.mpr x)
        have go : ∀ w : Int32, w = nI (rd_t (rd_k (rm_B τ) n a)) → zs_ok (BX9_advance_226 z2 w) (fun z => rm_f τ z ∧ ∃ a e, rm_T z n a e ∧ rd_S (rm_B τ) n p a ∧ rd_E (rm_B τ) n a e) := by
          intro w hw
          unfold BX9_advance_226
          refine zs_lt (Q := fun z => rm_f τ z ∧ z.1 0 8 = nI a ∧ z.1 0 9 = nI a ∧ z.1 0 10 = w) ⟨rm_fw (Or.inr (Or.inr (Or.inl rfl))) hf2, f8, f9, rfl⟩ (fun z3 g3 => ?_)
          rw [show sn_I z3 0 8 = nI a from g3.2.1]
          exact zs_lt (Q := fun z => rm_f τ z ∧ ∃ a e, rm_T z n a e ∧ rd_S (rm_B τ) n p a ∧ rd_E (rm_B τ) n a e) (fin _ (a + 1) (rm_fw (Or.inl rfl) g3.1) g3.2.2.1 (nI_1 a) (g3.2.2.2.trans hw) (fun x => absurd x n2) (Or.inr ⟨la, by omega, by omega, fun x => x.elim (fun x => absurd x n1) (fun x => absurd x n2), fun _ => rfl⟩)) (fun z hz => zs_some hz)
        refine zs_ite (fun c3 => go 3 ?_) (fun c3 => go 4 ?_)
        · rw [v3.mp c3]
          rfl
        · have : rd_k (rm_B τ) n a = 5 := by
            have n3 : rd_k (rm_B τ) n a ≠ 3 := fun x => c3 (v3.mpr x)
            omega
          rw [this]
          rfl
end
section
/-! both sides at once -/
def rr_ok {α β : Type} (x : Option α) (y : Option β) (P : α → β → Prop) : Prop := ∃ a b, x = some a ∧ y = some b ∧ P a b
section
variable {α β γ δ : Type} {P : α → β → Prop}
theorem rr_some {a : α} {b : β} (h : P a b) : rr_ok (some a) (some b) P := ⟨a, b, rfl, rfl, h⟩
theorem rr_w {x : Option α} {y : Option β} {Q : α → β → Prop} (h : rr_ok x y Q) (l : ∀ a b, Q a b → P a b) : rr_ok x y P := by
  obtain ⟨a, b, e1, e2, q⟩ := h
  exact ⟨a, b, e1, e2, l a b q⟩
theorem rr_bd {x : Option γ} {y : Option δ} {f : γ → Option α} {g : δ → Option β} {Q : γ → δ → Prop} (h : rr_ok x y Q) (k : ∀ a b, Q a b → rr_ok (f a) (g b) P) : rr_ok (x.bind f) (y.bind g) P := by
  obtain ⟨a, b, e1, e2, q⟩ := h
  subst e1
  subst e2
  exact k a b q
theorem rr_bl {x : Option γ} {y : Option β} {f : γ → Option α} {Q : γ → Prop} (h : zs_ok x Q) (k : ∀ a, Q a → rr_ok (f a) y P) : rr_ok (x.bind f) y P := by
  obtain ⟨a, e, q⟩ := h
  subst e
  exact k a q
theorem rr_br {x : Option α} {y : Option δ} {g : δ → Option β} {Q : δ → Prop} (h : zs_ok y Q) (k : ∀ b, Q b → rr_ok x (g b) P) : rr_ok x (y.bind g) P := by
  obtain ⟨a, e, q⟩ := h
  subst e
  exact k a q
theorem rr_gl {b : Bool} {x : Option α} {y : Option β} (hb : b = true) (h : rr_ok x y P) : rr_ok (sn_gd b x) y P := by
  subst hb
  exact h
theorem rr_il {c : Prop} [Decidable c] {x x' : Option α} {y : Option β} (ht : c → rr_ok x y P) (he : ¬ c → rr_ok x' y P) : rr_ok (if c then x else x') y P := by
  by_cases h : c
  · rw [if_pos h]; exact ht h
  · rw [if_neg h]; exact he h
theorem rr_ll {v : γ} {f : γ → Option α} {y : Option β} (Q : γ → Prop) (hv : Q v) (h : ∀ a, Q a → rr_ok (f a) y P) : rr_ok (sn_lt v f) y P := h v hv
theorem rr_lr {v : γ} {f : γ → Option β} {x : Option α} (Q : γ → Prop) (hv : Q v) (h : ∀ a, Q a → rr_ok x (f a) P) : rr_ok x (sn_lt v f) P := h v hv
theorem rr_2 {x : Option α} {y : Option β} {Q : α → Prop} {R : β → Prop} (h : zs_ok x Q) (g : zs_ok y R) (l : ∀ a b, Q a → R b → P a b) : rr_ok x y P := by
  obtain ⟨a, e, q⟩ := h
  obtain ⟨b, e2, r⟩ := g
  exact ⟨a, b, e, e2, l a b q r⟩
theorem zs_both {x : Option α} {Q R : α → Prop} (h : zs_ok x Q) (g : zs_ok x R) : zs_ok x (fun a => Q a ∧ R a) := by
  obtain ⟨a, e, q⟩ := h
  obtain ⟨b, e2, r⟩ := g
  rw [e] at e2
  cases e2
  exact ⟨a, e, q, r⟩
end
theorem bd_t1 {β : Type} {f g : Int32 → Option β} : ((some (1 : Int32)).bind fun t => if t = 0 then f t else g t) = g 1 := rfl
theorem bd_t0 {β : Type} {f g : Int32 → Option β} : ((some (0 : Int32)).bind fun t => if t = 0 then f t else g t) = f 0 := rfl
/-! the tape on both sides -/
def rr_tp (σ τ : sn_S) (n : Nat) : Prop := σ.1 17 1 = nI n ∧ τ.1 0 7 = nI n ∧ n ≤ 900 ∧ ∀ k, k < n → rc_B σ k = rm_B τ k ∧ -128 ≤ (τ.1 4 k).toInt ∧ (τ.1 4 k).toInt ≤ 127
theorem rd_kB {B B' : Nat → Int} {n : Nat} (h : ∀ k, k < n → B k = B' k) : rd_k B n = rd_k B' n := by
  funext i
  unfold rd_k
  by_cases c : i < n
  · rw [if_pos c, if_pos c, h i c]
  · rw [if_neg c, if_neg c]
theorem rd_SB {B B' : Nat → Int} {n p a : Nat} (h : rd_k B n = rd_k B' n) (g : rd_S B n p a) : rd_S B' n p a := by
  unfold rd_S at g ⊢
  rw [← h]
  exact g
theorem rd_EB {B B' : Nat → Int} {n a e : Nat} (h : rd_k B n = rd_k B' n) (g : rd_E B n a e) : rd_E B' n a e := by
  unfold rd_E at g ⊢
  rw [← h]
  exact g
theorem rd_numB {B B' : Nat → Int} {n a : Nat} (h : ∀ k, k < n → B k = B' k) : ∀ k, a + k ≤ n → rd_num B a k = rd_num B' a k
  | 0, _ => rfl
  | k + 1, hk => by
    show 10 * rd_num B a k + (B (a + k) - 48).toNat = 10 * rd_num B' a k + (B' (a + k) - 48).toNat
    rw [rd_numB h k (by omega), h (a + k) (by omega)]
/-- in step: one token, a .. e -/
def rr_sy (σ τ : sn_S) (n : Nat) : Prop := ∃ a e, rc_T σ n a e ∧ rm_T τ n a e ∧ a ≤ e ∧ e ≤ n ∧ rd_k (rm_B τ) n a ≠ 4 ∧ rd_E (rm_B τ) n a e
def rr_L (σ τ : sn_S) (n : Nat) : Prop := rr_tp σ τ n ∧ zk_pos σ ∧ sn_R σ 17 7 = some 8 ∧ τ.1 0 12 = σ.1 17 2 ∧ τ.1 0 13 = σ.1 17 3 ∧ (σ.1 17 2 = 0 → rr_sy σ τ n)
/-- what an operation leaves -/
def rr_F (σ τ σ' τ' : sn_S) : Prop := zk_fr σ σ' ∧ (∀ q, q ≠ 0 → τ'.1 q = τ.1 q) ∧ (∀ k, k ≠ 8 → k ≠ 9 → k ≠ 10 → k ≠ 11 → k ≠ 12 → k ≠ 13 → τ'.1 0 k = τ.1 0 k) ∧ τ'.2 = τ.2 ∧ (σ'.1 17 2 = 0 → σ.1 17 2 = 0)
section
variable {σ τ σ' τ' : sn_S} {n : Nat}
theorem rr_F0 : rr_F σ τ σ τ := ⟨zk_fr0, fun _ _ => rfl, fun _ _ _ _ _ _ _ => rfl, rfl, fun h => h⟩
theorem rr_Ft {a b c a' b' c' : sn_S} (h : rr_F a a' b b') (g : rr_F b b' c c') : rr_F a a' c c' := ⟨zk_frt h.1 g.1, fun q hq => (g.2.1 q hq).trans (h.2.1 q hq), fun k h1 h2 h3 h4 h5 h6 => (g.2.2.1 k h1 h2 h3 h4 h5 h6).trans (h.2.2.1 k h1 h2 h3 h4 h5 h6), g.2.2.2.1.trans h.2.2.2.1, fun x => h.2.2.2.2 (g.2.2.2.2 x)⟩
theorem rr_tpF (h : rr_tp σ τ n) (hs : zk_fr σ σ') (ht : ∀ q, q ≠ 0 → τ'.1 q = τ.1 q) (h7 : τ'.1 0 7 = τ.1 0 7) : rr_tp σ' τ' n := by
  refine ⟨hs.2.1.trans h.1, h7.trans h.2.1, h.2.2.1, fun k hk => ?_⟩
  have := h.2.2.2 k hk
  unfold rc_B rm_B at this ⊢
  rw [hs.1 18 (by decide), ht 4 (by decide)]
  exact this
theorem rr_R (h : zk_fr σ σ') (hr : sn_R σ 17 7 = some 8) : sn_R σ' 17 7 = some 8 := by
  show σ'.2.2 17 7 = _
  rw [h.2.2]
  exact hr
/-- both go on a token -/
theorem rr_step (h : rr_L σ τ n) (hg : σ.1 17 2 = 0) : rr_ok (fX5_step σ) (fX9_advance τ) (fun σ' τ' => rr_L σ' τ' n ∧ rr_F σ τ σ' τ') := by
  obtain ⟨ht, hp, hr, h12, h13, hs⟩ := h
  obtain ⟨a, e, tc, tm, lae, len, k4, hE⟩ := hs hg
  have hn9 := ht.2.2.1
  have hk : rd_k (rc_B σ) n = rd_k (rm_B τ) n := rd_kB (fun k hk => (ht.2.2.2 k hk).1)
  refine rr_2 (zs_both (rc_step ht.1 hn9 tc.2.1 len) (zk_stepp hp)) (rm_adv ht.2.1 hn9 tm.2.1 len) (fun s t hs ht' => ?_)
  obtain ⟨⟨hf, a1, e1, c1, c2, c3⟩, hzf, hz2, hzp⟩ := hs
  obtain ⟨hm, a2, e2, d1, d2, d3⟩ := ht'
  have ea : a1 = a2 := rd_S1 (rd_SB hk c2) d2
  subst ea
  have ee : e1 = e2 := rd_E1 (rd_EB hk c3) d3
  subst ee
  have m12 := hm.2.1 12 (by decide) (by decide) (by decide) (by decide)
  have m13 := hm.2.1 13 (by decide) (by decide) (by decide) (by decide)
  have m7 := hm.2.1 7 (by decide) (by decide) (by decide) (by decide)
  have eB : rm_B t = rm_B τ := rm_B_f hm
  refine ⟨⟨rr_tpF ht hf.1 hm.1 m7, hzp, rr_R hf.1 hr, by rw [m12, hf.2.1]; exact h12, by rw [m13, hf.2.2]; exact h13, fun _ => ⟨a1, e1, c1, d1, ?_, ?_, by rw [eB]; exact d2.2.2.2, by rw [eB]; exact d3⟩⟩, hf.1, hm.1, fun k h8 h9 h10 h11 _ _ => hm.2.1 k h8 h9 h10 h11, hm.2.2, fun _ => hg⟩
  · rcases d3 with x | x
    · omega
    · omega
  · have := d2.2.1
    rcases d3 with x | x
    · omega
    · omega
/-- the program goes on behind a fault -/
theorem rc_stepF (hp : zk_pos σ) : zs_ok (fX5_step σ) (fun z => rc_f σ z ∧ zk_pos z) := by
  obtain ⟨p1, p2, p3, p4⟩ := hp
  have v1 := zs_val (x := σ.1 17 1) (a := 0) (b := 900) ⟨by omega, p4⟩ (by decide)
  have v5 := zs_val (x := σ.1 17 5) (a := 0) (b := 900) ⟨by omega, by omega⟩ (by decide)
  obtain ⟨n, hn, e1⟩ := v1
  obtain ⟨p, hp5, e5⟩ := v5
  have hpn : p ≤ n := by
    rw [e1, e5, nI_toInt (by omega), nI_toInt (by omega)] at p3
    omega
  exact zs_okw (zs_both (rc_step e1 (by omega) e5 hpn) (zk_stepp ⟨p1, p2, p3, p4⟩)) (fun z hz => ⟨hz.1.1, hz.2.2.2⟩)
theorem rc_blame {x : Int32} : fX5_blame σ x = some (if σ.1 17 2 = 0 then sn_pI (sn_pI σ 17 2 x) 17 3 (σ.1 17 4) else σ) := by
  unfold fX5_blame
  by_cases h : σ.1 17 2 = 0
  · rw [if_pos (show sn_I σ 17 2 = 0 from h), if_pos h]
    show some (sn_pI (sn_pI σ 17 2 x) 17 3 ((sn_pI σ 17 2 x).1 17 4)) = _
    rw [pI_slot (by decide)]
  · rw [if_neg (show ¬ sn_I σ 17 2 = 0 from h), if_neg h]
theorem rm_good : fX9_good τ = some (if τ.1 0 12 = 0 then 1 else 0) := by
  unfold fX9_good
  by_cases h : τ.1 0 12 = 0
  · rw [if_pos (show sn_I τ 0 12 = 0 from h), if_pos h]
    rfl
  · rw [if_neg (show ¬ sn_I τ 0 12 = 0 from h), if_neg h]
    rfl
theorem rm_errs {x : Int32} : fX9_errs τ x = some (if τ.1 0 12 = 0 then sn_pI (sn_pI τ 0 12 x) 0 13 (τ.1 0 9) else τ) := by
  unfold fX9_errs
  rw [rm_good]
  by_cases h : τ.1 0 12 = 0
  · rw [if_pos h, if_pos h]
    show some (sn_pI (sn_pI τ 0 12 x) 0 13 ((sn_pI τ 0 12 x).1 0 9)) = _
    rw [pI_slot (by decide)]
  · rw [if_neg h, if_neg h]
    rfl
/-- both find the same fault -/
theorem rr_blame (h : rr_L σ τ n) {x : Int32} (hx : x ≠ 0) : rr_ok (fX5_blame σ x) (fX9_errs τ x) (fun σ' τ' => rr_L σ' τ' n ∧ rr_F σ τ σ' τ' ∧ σ'.1 17 2 ≠ 0) := by
  obtain ⟨ht, hp, hr, h12, h13, hs⟩ := h
  rw [rc_blame, rm_errs, h12]
  by_cases c : σ.1 17 2 = 0
  · rw [if_pos c, if_pos c]
    obtain ⟨a, e, tc, tm, _⟩ := hs c
    have f1 : zk_fr σ (sn_pI (sn_pI σ 17 2 x) 17 3 (σ.1 17 4)) := zk_frw (by decide) (zk_frw (by decide) zk_fr0)
    have g2 : (sn_pI (sn_pI σ 17 2 x) 17 3 (σ.1 17 4)).1 17 2 = x := by rw [pI_slot (by decide), pI_self]
    have m0 : ∀ q, q ≠ 0 → (sn_pI (sn_pI τ 0 12 x) 0 13 (τ.1 0 9)).1 q = τ.1 q := fun q hq => by rw [pI_ne hq, pI_ne hq]
    have mk : ∀ k, k ≠ 12 → k ≠ 13 → (sn_pI (sn_pI τ 0 12 x) 0 13 (τ.1 0 9)).1 0 k = τ.1 0 k := fun k h1 h2 => by rw [pI_slot h2, pI_slot h1]
    refine rr_some ⟨⟨rr_tpF ht f1 m0 (mk 7 (by decide) (by decide)), zk_posf hp f1.2.1 (by rw [pI_slot (by decide), pI_slot (by decide)]) (by rw [pI_slot (by decide), pI_slot (by decide)]), rr_R f1 hr, ?_, ?_, fun e => absurd (g2.symm.trans e) hx⟩, ⟨f1, m0, fun k _ _ _ _ a b => mk k a b, rfl, fun e => absurd (g2.symm.trans e) hx⟩, fun e => hx (g2.symm.trans e)⟩
    · rw [g2, pI_slot (by decide), pI_self]
    · rw [pI_self, pI_self, tc.1, tm.1]
  · rw [if_neg c, if_neg c]
    exact rr_some ⟨⟨ht, hp, hr, h12, h13, hs⟩, rr_F0, c⟩
end
end
section
/-! words -/
def rd_L (k : Nat) : Nat := sn_len.getD k 0
def rd_c (k i : Nat) : Int32 := (sn_byt.getD k []).getD i 0
theorem rd_letters : ∀ k, k < 16 → ∀ i, i < rd_L k → 97 ≤ (rd_c k i).toInt ∧ (rd_c k i).toInt ≤ 122 := by
  have : ∀ k, k < 16 → ∀ i, i < 8 → i < rd_L k → 97 ≤ (rd_c k i).toInt ∧ (rd_c k i).toInt ≤ 122 := by decide +kernel
  exact fun k hk i hi => this k hk i (by have := sn_len8 k hk; show i < 8; have h2 : i < sn_len.getD k 0 := hi; omega) hi
theorem rd_sat {k i : Nat} (hk : k < 16) (hi : i < rd_L k) : sn_sat k (nI i) = some (rd_c k i) := by
  have hL : rd_L k < 8 := sn_len8 k hk
  unfold sn_sat
  rw [if_pos ⟨hk, sn_in_nI hi (show rd_L k < 2 ^ 31 by omega)⟩, nI_clamp (by omega)]
  rfl
theorem rd_len {k : Nat} (hk : k < 16) : sn_slen k = some (nI (rd_L k)) := by
  unfold sn_slen
  rw [if_pos hk]
  rfl
def rd_W (B : Nat → Int) (a e k : Nat) : Prop := e = a + rd_L k ∧ ∀ i, i < rd_L k → B (a + i) = (rd_c k i).toInt
section
variable {σ τ : sn_S} {n a e k : Nat}
theorem rc_isWord (hk : k < 16) (hn : n ≤ 900) (hT : rc_T σ n a e) (hae : a ≤ e) (hen : e ≤ n) : zs_ok (fX5_isWord σ k) (fun r => (r = 1 ∧ rd_k (rc_B σ) n a = 1 ∧ rd_W (rc_B σ) a e k) ∨ (r = 0 ∧ ¬ (rd_k (rc_B σ) n a = 1 ∧ rd_W (rc_B σ) a e k))) := by
  have hL : rd_L k < 8 := sn_len8 k hk
  have k5 := rd_k5 (rc_B σ) n a
  unfold fX5_isWord
  rw [show sn_I σ 17 6 = nI (rd_k (rc_B σ) n a) from hT.2.2, show sn_I σ 17 5 = nI e from hT.2.1, show sn_I σ 17 4 = nI a from hT.1, rd_len hk]
  refine zs_ite (fun c => ?_) (fun c => zs_gd (by decide) (zs_some (Or.inr ⟨rfl, fun x => c (by rw [x.1]; rfl)⟩)))
  have k1 : rd_k (rc_B σ) n a = 1 := (nI_eq (b := 1) (by omega) (by decide)).mp c
  show zs_ok (if nI e - nI a = nI (rd_L k) then _ else _) _
  have es : nI e - nI a = nI (e - a) := by
    apply Int32.toInt_inj.mp
    rw [Int32.toInt_sub, nI_toInt (by omega), nI_toInt (by omega), nI_toInt (by omega), zs_bm ⟨by omega, by omega⟩]
    omega
  rw [es]
  refine zs_ite (fun c2 => ?_) (fun c2 => zs_gd (by decide) (zs_some (Or.inr ⟨rfl, fun x => c2 (by rw [x.2.1, Nat.add_sub_cancel_left])⟩)))
  have hl : e - a = rd_L k := (nI_eq (by omega) (by omega)).mp c2
  refine zs_lt (Q := fun y => y = nI a) rfl (fun y hy => ?_)
  subst hy
  refine zs_bd_ (zs_it (E := fun t : Unit ⊕ Int32 => (t = .inl () ∧ ∀ i, i < rd_L k → rc_B σ (a + i) = (rd_c k i).toInt) ∨ (t = .inr 0 ∧ ∃ i, i < rd_L k ∧ rc_B σ (a + i) ≠ (rd_c k i).toInt)) (I := fun x : Int32 => ∃ j, x = nI (a + j) ∧ j ≤ rd_L k ∧ ∀ i, i < j → rc_B σ (a + i) = (rd_c k i).toInt) (m := fun x => 900 - x.toInt) (fun x hx => ?_) (fun x hx => ?_) ⟨0, rfl, by omega, fun i hi => absurd hi (by omega)⟩) (fun t ht => ?_)
  · obtain ⟨j, ex, h1, _⟩ := hx
    rw [ex, nI_toInt (by omega)]
    exact ⟨by omega, by omega⟩
  · obtain ⟨j, ex, h1, h2⟩ := hx
    subst ex
    unfold LX5_isWord_31 BX5_isWord_31
    rw [show sn_I σ 17 5 = nI e from hT.2.1, show sn_I σ 17 4 = nI a from hT.1]
    refine zs_ite (fun c3 => zs_some (zs_inr (Or.inl ⟨rfl, fun i hi => h2 i ?_⟩))) (fun c3 => ?_)
    · have := (nI_leI (by omega) (by omega)).mp c3
      omega
    · have lj : j < rd_L k := by
        by_cases x : j < rd_L k
        · exact x
        · exact absurd ((nI_leI (by omega) (by omega)).mpr (by omega)) c3
      have ej : nI (a + j) - nI a = nI j := by
        apply Int32.toInt_inj.mp
        rw [Int32.toInt_sub, nI_toInt (by omega), nI_toInt (by omega), nI_toInt (by omega), zs_bm ⟨by omega, by omega⟩]
        omega
      rw [ej, rd_sat hk lj, nI_clamp (by omega)]
      refine zs_gd (sn_in_nI (by omega) (by decide)) ?_
      show zs_ok (if σ.1 18 (a + j) = rd_c k j then _ else _) _
      refine zs_ite (fun c4 => ?_) (fun c4 => zs_gd (by decide) (zs_some (zs_inr (Or.inr ⟨rfl, j, lj, fun x => c4 (rI_eq.mpr x)⟩))))
      refine zs_lt (Q := fun y => y = nI (a + j) + 1) rfl (fun y hy => ?_)
      subst hy
      refine zs_some (zs_inl ⟨⟨j + 1, nI_1 _, by omega, fun i hi => ?_⟩, ?_⟩)
      · by_cases x : i = j
        · rw [x]
          exact rI_eq.mp c4
        · exact h2 i (by omega)
      · show 900 - (nI (a + j) + 1).toInt < 900 - (nI (a + j)).toInt
        rw [nI_1, nI_toInt (by omega), nI_toInt (by omega)]
        omega
  · rcases ht with ⟨e1, e2⟩ | ⟨e1, i, e2, e3⟩
    · rw [e1]
      show zs_ok (BX5_isWord_66 σ k) _
      unfold BX5_isWord_66
      exact zs_gd (by decide) (zs_some (Or.inl ⟨rfl, k1, by omega, e2⟩))
    · rw [e1]
      exact zs_some (Or.inr ⟨rfl, fun x => e3 (x.2.2 i e2)⟩)
theorem rm_raw {x c : Int32} (hx : -128 ≤ x.toInt ∧ x.toInt ≤ 127) (hc : 97 ≤ c.toInt ∧ c.toInt ≤ 122) : x = c ↔ (x &&& (255 : Int32)).toInt = c.toInt := by
  have key : ∀ j, j < 256 → ((nI j - 128) &&& (255 : Int32)).toInt = if 128 ≤ j then (j : Int) - 128 else (j : Int) + 128 := by decide +kernel
  have e : x = nI (x.toInt + 128).toNat - 128 := by
    apply Int32.toInt_inj.mp
    rw [Int32.toInt_sub, nI_toInt (by omega), show (128 : Int32).toInt = 128 by decide, zs_bm ⟨by omega, by omega⟩]
    omega
  have h1 := key (x.toInt + 128).toNat (by omega)
  rw [← e] at h1
  rw [h1, rI_eq]
  by_cases g : 128 ≤ (x.toInt + 128).toNat
  · rw [if_pos g]
    omega
  · rw [if_neg g]
    omega
theorem rm_is0 (hk : k < 16) : fX9_is τ k = (if τ.1 0 12 = 0 then (if τ.1 0 10 = 1 then (if τ.1 0 8 - τ.1 0 9 = nI (rd_L k) then BX9_is_36 τ k 1 else BX9_is_36 τ k 0) else BX9_is_36 τ k 0) else BX9_is_36 τ k 0) := by
  unfold fX9_is BX9_is_35
  rw [rm_good, rd_len hk]
  by_cases h : τ.1 0 12 = 0
  · rw [if_pos h, if_pos h]
    rfl
  · rw [if_neg h, if_neg h]
    rfl
theorem rm_is36z (hk : k < 16) : BX9_is_36 τ k 0 = some 0 := by
  have hL : rd_L k < 8 := sn_len8 k hk
  have h0 : ∀ k, k < 16 → 0 < rd_L k := by decide +kernel
  have h1 := h0 k hk
  have st : LX9_is_39 τ k ((0 : Int32), (0 : Int32)) = some (Sum.inr 0) := by
    unfold LX9_is_39 BX9_is_39
    rw [rd_len hk]
    show (if nI (rd_L k) ≤ (0 : Int32) then _ else _) = _
    rw [if_neg (nI_nle h1 (by omega))]
    exact if_pos rfl
  have e : sn_it (LX9_is_39 τ k) (4999 + 1) ((0 : Int32), (0 : Int32)) = some 0 := by
    unfold sn_it
    rw [st]
  unfold BX9_is_36
  show (sn_it (LX9_is_39 τ k) (4999 + 1) ((0 : Int32), (0 : Int32))).bind _ = _
  rw [e]
  rfl
theorem rm_isbad (hk : k < 16) (h : τ.1 0 12 ≠ 0) : fX9_is τ k = some 0 := by
  rw [rm_is0 hk, if_neg h, rm_is36z hk]
theorem rm_is (hk : k < 16) (hn : n ≤ 900) (hT : rm_T τ n a e) (hae : a ≤ e) (hen : e ≤ n) (h5 : rd_k (rm_B τ) n a ≤ 5) (hraw : ∀ k, k < n → -128 ≤ (τ.1 4 k).toInt ∧ (τ.1 4 k).toInt ≤ 127) (hg : τ.1 0 12 = 0) : zs_ok (fX9_is τ k) (fun r => (r = 1 ∧ rd_k (rm_B τ) n a = 1 ∧ rd_W (rm_B τ) a e k) ∨ (r = 0 ∧ ¬ (rd_k (rm_B τ) n a = 1 ∧ rd_W (rm_B τ) a e k))) := by
  have hL : rd_L k < 8 := sn_len8 k hk
  have ht : rd_t (rd_k (rm_B τ) n a) ≤ 5 := by unfold rd_t; split <;> omega
  rw [rm_is0 hk, if_pos hg, hT.2.2.1, hT.2.1, hT.1]
  have es : nI e - nI a = nI (e - a) := by
    apply Int32.toInt_inj.mp
    rw [Int32.toInt_sub, nI_toInt (by omega), nI_toInt (by omega), nI_toInt (by omega), zs_bm ⟨by omega, by omega⟩]
    omega
  rw [es]
  refine zs_ite (fun c => ?_) (fun c => ⟨0, rm_is36z hk, Or.inr ⟨rfl, fun x => c (by rw [x.1]; rfl)⟩⟩)
  have k1 : rd_k (rm_B τ) n a = 1 := by
    have := (nI_eq (b := 1) (by omega) (by decide)).mp c
    unfold rd_t at this
    split at this
    · omega
    · exact this
  refine zs_ite (fun c2 => ?_) (fun c2 => ⟨0, rm_is36z hk, Or.inr ⟨rfl, fun x => c2 (by rw [x.2.1, Nat.add_sub_cancel_left])⟩⟩)
  have hl : e - a = rd_L k := (nI_eq (by omega) (by omega)).mp c2
  unfold BX9_is_36
  refine zs_bd_ (zs_it (E := fun t : Int32 => (t = 1 ∧ ∀ i, i < rd_L k → rm_B τ (a + i) = (rd_c k i).toInt) ∨ (t = 0 ∧ ∃ i, i < rd_L k ∧ rm_B τ (a + i) ≠ (rd_c k i).toInt)) (I := fun s : Int32 × Int32 => ∃ j, s.2 = nI j ∧ j ≤ rd_L k ∧ ((s.1 = 1 ∧ ∀ i, i < j → rm_B τ (a + i) = (rd_c k i).toInt) ∨ (s.1 = 0 ∧ ∃ i, i < rd_L k ∧ rm_B τ (a + i) ≠ (rd_c k i).toInt))) (m := fun s => 100 - s.2.toInt) (fun x hx => ?_) (fun x hx => ?_) ⟨0, rfl, by omega, Or.inl ⟨rfl, fun i hi => absurd hi (by omega)⟩⟩) (fun t ht => ?_)
  · obtain ⟨j, ex, h1, _⟩ := hx
    rw [ex, nI_toInt (by omega)]
    exact ⟨by omega, by omega⟩
  · obtain ⟨y, x2⟩ := x
    obtain ⟨j, ex, h1, h2⟩ := hx
    have ex : x2 = nI j := ex
    subst ex
    unfold LX9_is_39 BX9_is_39
    rw [rd_len hk, show sn_I τ 0 9 = nI a from hT.1]
    show zs_ok (if nI (rd_L k) ≤ nI j then _ else _) _
    refine zs_ite (fun c3 => zs_some (zs_inr ?_)) (fun c3 => ?_)
    · have := (nI_leI (by omega) (by omega)).mp c3
      rcases h2 with ⟨e1, e2⟩ | ⟨e1, e2⟩
      · exact Or.inl ⟨e1, fun i hi => e2 i (by omega)⟩
      · exact Or.inr ⟨e1, e2⟩
    · have lj : j < rd_L k := by
        by_cases x : j < rd_L k
        · exact x
        · exact absurd ((nI_leI (by omega) (by omega)).mpr (by omega)) c3
      refine zs_ite (fun c4 => zs_some (zs_inr ?_)) (fun c4 => ?_)
      · have c4 : y = 0 := c4
        rcases h2 with ⟨e1, e2⟩ | ⟨e1, e2⟩
        · have e1 : y = 1 := e1
          exact absurd (e1.symm.trans c4) (by decide)
        · exact Or.inr ⟨e1, e2⟩
      · have e1 : ∀ i, i < j → rm_B τ (a + i) = (rd_c k i).toInt := by
          rcases h2 with ⟨e1, e2⟩ | ⟨e1, e2⟩
          · exact e2
          · exact absurd e1 c4
        have ea : nI a + nI j = nI (a + j) := nI_add a j
        show zs_ok (sn_gd (sn_in (nI a + nI j) 900) ((sn_sat k (nI j)).bind _)) _
        rw [ea, rd_sat hk lj, nI_clamp (by omega)]
        refine zs_gd (sn_in_nI (by omega) (by decide)) ?_
        have hc := rm_raw (hraw (a + j) (by omega)) (rd_letters k hk j lj)
        have nx : ∀ t0 : Int32, ((t0 = 1 ∧ ∀ i, i < j + 1 → rm_B τ (a + i) = (rd_c k i).toInt) ∨ (t0 = 0 ∧ ∃ i, i < rd_L k ∧ rm_B τ (a + i) ≠ (rd_c k i).toInt)) → zs_ok (BX9_is_75 τ k y (nI j) t0) (zs_sum (fun s' : Int32 × Int32 => (∃ j, s'.2 = nI j ∧ j ≤ rd_L k ∧ ((s'.1 = 1 ∧ ∀ i, i < j → rm_B τ (a + i) = (rd_c k i).toInt) ∨ (s'.1 = 0 ∧ ∃ i, i < rd_L k ∧ rm_B τ (a + i) ≠ (rd_c k i).toInt))) ∧ 100 - s'.2.toInt < 100 - (nI j).toInt) (fun t : Int32 => (t = 1 ∧ ∀ i, i < rd_L k → rm_B τ (a + i) = (rd_c k i).toInt) ∨ (t = 0 ∧ ∃ i, i < rd_L k ∧ rm_B τ (a + i) ≠ (rd_c k i).toInt))) := by
          intro t0 h0
          unfold BX9_is_75
          refine zs_lt (Q := fun y => y = nI j + 1) rfl (fun y hy => ?_)
          subst hy
          refine zs_some (zs_inl ⟨⟨j + 1, nI_1 _, by omega, h0⟩, ?_⟩)
          show 100 - (nI j + 1).toInt < 100 - (nI j).toInt
          rw [nI_1, nI_toInt (by omega), nI_toInt (by omega)]
          omega
        show zs_ok (if τ.1 4 (a + j) = rd_c k j then _ else _) _
        refine zs_ite (fun c5 => nx 1 (Or.inl ⟨rfl, fun i hi => ?_⟩)) (fun c5 => nx 0 (Or.inr ⟨rfl, j, lj, fun x => c5 (hc.mpr x)⟩))
        by_cases x : i = j
        · rw [x]
          exact hc.mp c5
        · exact e1 i (by omega)
  · unfold BX9_is_82
    rcases ht with ⟨e1, e2⟩ | ⟨e1, i, e2, e3⟩
    · rw [e1]
      exact zs_gd (by decide) (zs_some (Or.inl ⟨rfl, k1, by omega, e2⟩))
    · rw [e1]
      exact zs_gd (by decide) (zs_some (Or.inr ⟨rfl, fun x => e3 (x.2.2 i e2)⟩))
/-- in step both know the same words -/
theorem rr_isW (hk : k < 16) (h : rr_L σ τ n) (hg : σ.1 17 2 = 0) : ∃ v : Int32, (v = 0 ∨ v = 1) ∧ fX5_isWord σ k = some v ∧ fX9_is τ k = some v := by
  obtain ⟨ht, hp, hr, h12, h13, hs⟩ := h
  obtain ⟨a, e, tc, tm, lae, len, k4, hE⟩ := hs hg
  have hn9 := ht.2.2.1
  have hB : ∀ k, k < n → rc_B σ k = rm_B τ k := fun k hk => (ht.2.2.2 k hk).1
  have hkk : rd_k (rc_B σ) n = rd_k (rm_B τ) n := rd_kB hB
  have k5 := rd_k5 (rm_B τ) n a
  obtain ⟨v, e1, q1⟩ := rc_isWord hk hn9 tc lae len
  obtain ⟨w, e2, q2⟩ := rm_is hk hn9 tm lae len k5 (fun k hk => (ht.2.2.2 k hk).2) (h12.trans hg)
  have hW : rd_W (rc_B σ) a e k ↔ rd_W (rm_B τ) a e k := by
    unfold rd_W
    constructor
    · intro x
      exact ⟨x.1, fun i hi => by rw [← hB (a + i) (by omega)]; exact x.2 i hi⟩
    · intro x
      exact ⟨x.1, fun i hi => by rw [hB (a + i) (by omega)]; exact x.2 i hi⟩
  rw [hkk, hW] at q1
  rcases q1 with ⟨p1, p2⟩ | ⟨p1, p2⟩
  · rcases q2 with ⟨r1, r2⟩ | ⟨r1, r2⟩
    · exact ⟨1, Or.inr rfl, by rw [e1, p1], by rw [e2, r1]⟩
    · exact absurd p2 r2
  · rcases q2 with ⟨r1, r2⟩ | ⟨r1, r2⟩
    · exact absurd r2 p2
    · exact ⟨0, Or.inl rfl, by rw [e1, p1], by rw [e2, r1]⟩
theorem rr_word (hk : k < 16) (h : rr_L σ τ n) : rr_ok (fX5_word σ k) (fX9_needs τ k) (fun σ' τ' => rr_L σ' τ' n ∧ rr_F σ τ σ' τ') := by
  by_cases hg : σ.1 17 2 = 0
  · obtain ⟨v, hv, e1, e2⟩ := rr_isW hk h hg
    unfold fX5_word fX9_needs fX9_takes
    rw [e1, e2]
    rcases hv with c | c
    · subst c
      show rr_ok ((fX5_blame σ 1).bind fun t_4 => some t_4) ((fX9_errs τ 1).bind fun t_4 => some t_4) _
      exact rr_bd (rr_blame h (by decide)) (fun a b q => rr_some ⟨q.1, q.2.1⟩)
    · subst c
      show rr_ok ((fX5_step σ).bind fun t_6 => some t_6) (((fX9_advance τ).bind fun t_5 => sn_gd (sn_b01 1) (some ((1 : Int32), t_5))).bind fun t_1 => if t_1.1 = 0 then (fX9_errs t_1.2 1).bind fun t_4 => some t_4 else some t_1.2) _
      obtain ⟨s, t, q1, q2, q3⟩ := rr_step h hg
      rw [q1, q2]
      exact rr_some q3
  · obtain ⟨ht, hp, hr, h12, h13, hs⟩ := h
    have hb : τ.1 0 12 ≠ 0 := by rw [h12]; exact hg
    have en : fX9_needs τ k = some τ := by
      unfold fX9_needs fX9_takes
      rw [rm_isbad hk hb]
      show (fX9_errs τ 1).bind _ = _
      rw [rm_errs, if_neg hb]
      rfl
    rw [en]
    have keep : ∀ z, rc_f σ z → zk_pos z → rr_ok (some z) (some τ) (fun σ' τ' => rr_L σ' τ' n ∧ rr_F σ τ σ' τ') := fun z hf hz => rr_some ⟨⟨rr_tpF ht hf.1 (fun _ _ => rfl) rfl, hz, rr_R hf.1 hr, by rw [hf.2.1]; exact h12, by rw [hf.2.2]; exact h13, fun e => absurd (hf.2.1.symm.trans e) hg⟩, hf.1, fun _ _ => rfl, fun _ _ _ _ _ _ _ => rfl, rfl, fun e => hf.2.1.symm.trans e⟩
    unfold fX5_word
    refine rr_bl (zk_isWord hp hk) (fun t _ => rr_il (fun _ => ?_) (fun _ => ?_))
    · rw [rc_blame, if_neg hg]
      exact keep σ rc_f0 hp
    · exact rr_bl (rc_stepF hp) (fun z hz => keep z hz.1 hz.2)
end
end
section
/-! numbers, the sign -/
section
variable {σ τ : sn_S} {n a e : Nat}
theorem rd_dig {B : Nat → Int} {j : Nat} (h : rd_k B n j = 2) : 48 ≤ B j ∧ B j ≤ 57 := by
  rcases rd_kc B n j with k | k
  · omega
  · omega
theorem rc_value (hn : n ≤ 900) (hT : rc_T σ n a e) (hE : rd_E (rc_B σ) n a e) (k2 : rd_k (rc_B σ) n a = 2) : fX5_value σ = some (nI (min 1000000 (rd_num (rc_B σ) a (e - a)))) := by
  have hE2 : a < n ∧ a < e ∧ e ≤ n ∧ ∀ j, a ≤ j → j < e → rd_k (rc_B σ) n j = 2 := by
    rcases hE with x | x
    · rcases rd_kc (rc_B σ) n a with k | k
      · omega
      · omega
    · refine ⟨x.1, x.2.1, x.2.2.1, ?_⟩
      have := (x.2.2.2.1 (Or.inr k2)).1
      rw [k2] at this
      exact this
  obtain ⟨lan, lae, len, hd⟩ := hE2
  have key : zs_ok (fX5_value σ) (fun v => v = nI (min 1000000 (rd_num (rc_B σ) a (e - a)))) := by
    unfold fX5_value
    rw [show sn_I σ 17 4 = nI a from hT.1]
    refine zs_lt (Q := fun y => y = nI a) rfl (fun y hy => ?_)
    subst hy
    refine zs_bd_ (zs_it (E := fun v : Int32 => v = nI (min 1000000 (rd_num (rc_B σ) a (e - a)))) (I := fun s : Int32 × Int32 => ∃ j, s.2 = nI j ∧ a ≤ j ∧ j ≤ e ∧ s.1 = nI (min 1000000 (rd_num (rc_B σ) a (j - a)))) (m := fun s => 900 - s.2.toInt) (fun x hx => ?_) (fun x hx => ?_) ⟨a, rfl, Nat.le_refl _, by omega, by rw [Nat.sub_self]; rfl⟩) (fun t ht => ?_)
    · obtain ⟨j, ex, h1, h2, _⟩ := hx
      rw [ex, nI_toInt (by omega)]
      exact ⟨by omega, by omega⟩
    · obtain ⟨v, x2⟩ := x
      obtain ⟨j, ex, h1, h2, h3⟩ := hx
      have ex : x2 = nI j := ex
      have h3 : v = nI (min 1000000 (rd_num (rc_B σ) a (j - a))) := h3
      subst ex
      subst h3
      unfold LX5_value_7 BX5_value_7
      rw [show sn_I σ 17 5 = nI e from hT.2.1]
      show zs_ok (if nI e ≤ nI j then _ else _) _
      refine zs_ite (fun c => zs_some (zs_inr ?_)) (fun c => ?_)
      · have := (nI_leI (by omega) (by omega)).mp c
        have ej : j = e := by omega
        subst ej
        rfl
      · have lj : j < e := by
          by_cases x : j < e
          · exact x
          · exact absurd ((nI_leI (by omega) (by omega)).mpr (by omega)) c
        have hB := rd_dig (hd j h1 lj)
        show zs_ok (sn_gd (sn_in (nI j) 900) _) _
        refine zs_gd (sn_in_nI (by omega) (by decide)) ?_
        refine zs_lt (Q := fun w => w = nI (min 1000000 (rd_num (rc_B σ) a (j + 1 - a)))) ?_ (fun w hw => ?_)
        · rw [nI_clamp (by omega)]
          have hN : min 1000000 (rd_num (rc_B σ) a (j - a)) ≤ 1000000 := Nat.min_le_left _ _
          have es : rd_num (rc_B σ) a (j + 1 - a) = 10 * rd_num (rc_B σ) a (j - a) + (rc_B σ j - 48).toNat := by
            have e1 : j + 1 - a = (j - a) + 1 := by omega
            have e2 : a + (j - a) = j := by omega
            rw [e1]
            show 10 * rd_num (rc_B σ) a (j - a) + (rc_B σ (a + (j - a)) - 48).toNat = _
            rw [e2]
          have hc := rd_cap 1000000 (rd_num (rc_B σ) a (j - a)) (rc_B σ j - 48).toNat
          rw [es]
          show (if (((10 : Int32) * nI (min 1000000 (rd_num (rc_B σ) a (j - a)))) + σ.1 18 j) - (48 : Int32) < (1000000 : Int32) then (((10 : Int32) * nI (min 1000000 (rd_num (rc_B σ) a (j - a)))) + σ.1 18 j) - (48 : Int32) else (1000000 : Int32)) = _
          generalize min 1000000 (rd_num (rc_B σ) a (j - a)) = N at hN hc ⊢
          have eB : (σ.1 18 j).toInt = rc_B σ j := rfl
          have ea : (((10 : Int32) * nI N) + σ.1 18 j) - (48 : Int32) = nI (10 * N + (rc_B σ j - 48).toNat) := by
            apply Int32.toInt_inj.mp
            rw [Int32.toInt_sub, Int32.toInt_add, Int32.toInt_mul, eB, nI_toInt (by omega), nI_toInt (by omega), show (10 : Int32).toInt = 10 by decide, show (48 : Int32).toInt = 48 by decide, zs_bm (X := 10 * (N : Int)) ⟨by omega, by omega⟩, zs_bm (X := 10 * (N : Int) + rc_B σ j) ⟨by omega, by omega⟩, zs_bm ⟨by omega, by omega⟩]
            omega
          rw [ea, ← hc]
          by_cases l : 10 * N + (rc_B σ j - 48).toNat < 1000000
          · rw [if_pos (show nI (10 * N + (rc_B σ j - 48).toNat) < (1000000 : Int32) from (nI_ltI (b := 1000000) (by omega) (by decide)).mpr l), Nat.min_eq_right (by omega)]
          · rw [if_neg (show ¬ nI (10 * N + (rc_B σ j - 48).toNat) < (1000000 : Int32) from fun x => l ((nI_ltI (b := 1000000) (by omega) (by decide)).mp x)), Nat.min_eq_left (by omega)]
            rfl
        · subst hw
          refine zs_lt (Q := fun y => y = nI j + 1) rfl (fun y hy => ?_)
          subst hy
          refine zs_some (zs_inl ⟨⟨j + 1, nI_1 _, by omega, by omega, rfl⟩, ?_⟩)
          show 900 - (nI j + 1).toInt < 900 - (nI j).toInt
          rw [nI_1, nI_toInt (by omega), nI_toInt (by omega)]
          omega
    · unfold BX5_value_41
      exact zs_some ht
  obtain ⟨v, e1, e2⟩ := key
  rw [e1, e2]
theorem rm_47bad (h : τ.1 0 12 ≠ 0) : BX9_number_47 τ = some (0, τ) := by
  unfold BX9_number_47
  rw [rm_good, if_neg h]
  rfl
theorem rm_20bad {lo hi : Int32} (h : τ.1 0 12 ≠ 0) : BX9_number_20 τ lo hi = some (0, τ) := by
  unfold BX9_number_20
  rw [rm_good, if_neg h, rm_47bad h]
  rfl
theorem rm_numbad {lo hi : Int32} (h : τ.1 0 12 ≠ 0) : fX9_number τ lo hi = some (0, τ) := by
  unfold fX9_number
  rw [rm_good, if_neg h, rm_20bad h]
  rfl
/-- the program's number behind a fault -/
theorem rc_numF (hp : zk_pos σ) (hg : σ.1 17 2 ≠ 0) {lo hi but : Int32} : zs_ok (fX5_number σ lo hi but) (fun r => rc_f σ r.2 ∧ zk_pos r.2) := by
  have s44 : ∀ v, zs_ok (BX5_number_44 σ v) (fun r => rc_f σ r.2 ∧ zk_pos r.2) := fun v => by
    unfold BX5_number_44
    exact zs_bd_ (rc_stepF hp) (fun z hz => zs_some hz)
  have s39 : ∀ v, zs_ok (BX5_number_39 σ v) (fun r => rc_f σ r.2 ∧ zk_pos r.2) := fun v => by
    unfold BX5_number_39
    rw [rc_blame, if_neg hg]
    exact s44 v
  unfold fX5_number
  refine zs_ite (fun _ => zs_bd_ (zk_value hp) (fun t _ => zs_ite (fun _ => s39 t) (fun _ => zs_ite (fun _ => s39 t) (fun _ => zs_ite (fun _ => s39 t) (fun _ => s44 t))))) (fun _ => ?_)
  rw [rc_blame, if_neg hg]
  exact zs_some ⟨rc_f0, hp⟩
theorem rr_keep {n : Nat} {z : sn_S} (h : rr_L σ τ n) (hg : σ.1 17 2 ≠ 0) (hf : rc_f σ z) (hz : zk_pos z) : rr_L z τ n ∧ rr_F σ τ z τ := by
  obtain ⟨ht, hp, hr, h12, h13, hs⟩ := h
  exact ⟨⟨rr_tpF ht hf.1 (fun _ _ => rfl) rfl, hz, rr_R hf.1 hr, by rw [hf.2.1]; exact h12, by rw [hf.2.2]; exact h13, fun e => absurd (hf.2.1.symm.trans e) hg⟩, hf.1, fun _ _ => rfl, fun _ _ _ _ _ _ _ => rfl, rfl, fun e => hf.2.1.symm.trans e⟩
/-- a number out of its bounds: both find fault 2 -/
theorem rr_39 (h : rr_L σ τ n) {v : Int32} : rr_ok (BX5_number_39 σ v) (fX9_errs τ 2) (fun r τ' => rr_L r.2 τ' n ∧ rr_F σ τ r.2 τ' ∧ r.2.1 17 2 ≠ 0) := by
  unfold BX5_number_39
  obtain ⟨s, t, e1, e2, q1, q2, q3⟩ := rr_blame h (x := 2) (by decide)
  rw [e1, e2]
  show rr_ok (BX5_number_44 s v) (some t) _
  unfold BX5_number_44
  refine rr_bl (rc_stepF q1.2.1) (fun z hz => ?_)
  have k := rr_keep q1 q3 hz.1 hz.2
  exact rr_some ⟨k.1, rr_Ft q2 k.2, fun e => q3 (hz.1.2.1.symm.trans e)⟩
theorem rr_num (h : rr_L σ τ n) {lo hi but : Int32} (hlo : 0 ≤ lo.toInt) (hhi : hi.toInt ≤ 999) (hbut : ∀ v, σ.1 17 2 = 0 → σ.1 17 6 = 2 → fX5_value σ = some v → v ≠ but) : rr_ok (fX5_number σ lo hi but) (fX9_number τ lo hi) (fun r r' => rr_L r.2 r'.2 n ∧ rr_F σ τ r.2 r'.2 ∧ (r.2.1 17 2 = 0 → r.1 = r'.1 ∧ lo.toInt ≤ r.1.toInt ∧ r.1.toInt ≤ hi.toInt)) := by
  by_cases hg : σ.1 17 2 = 0
  · have h' := h
    obtain ⟨ht, hp, hr, h12, h13, hs⟩ := h'
    obtain ⟨a, e, tc, tm, lae, len, k4, hE⟩ := hs hg
    have hn9 := ht.2.2.1
    have hB : ∀ k, k < n → rc_B σ k = rm_B τ k := fun k hk => (ht.2.2.2 k hk).1
    have hkk : rd_k (rc_B σ) n = rd_k (rm_B τ) n := rd_kB hB
    have k5 := rd_k5 (rm_B τ) n a
    have hgm : τ.1 0 12 = 0 := h12.trans hg
    have ht5 : rd_t (rd_k (rm_B τ) n a) ≤ 5 := by unfold rd_t; split <;> omega
    unfold fX5_number fX9_number
    rw [rm_good, if_pos hgm, bd_t1]
    by_cases k2 : rd_k (rm_B τ) n a = 2
    · have k2c : rd_k (rc_B σ) n a = 2 := by rw [hkk]; exact k2
      have c6 : σ.1 17 6 = 2 := by rw [tc.2.2, k2c]; rfl
      rw [if_pos (show sn_I σ 17 6 = 2 from c6), if_pos (show sn_I τ 0 10 = 2 by show τ.1 0 10 = 2; rw [tm.2.2.1, k2]; rfl)]
      have hEc : rd_E (rc_B σ) n a e := rd_EB hkk.symm hE
      have hv := rc_value hn9 tc hEc k2c
      have hvb := hbut _ hg c6 hv
      have hw := tm.2.2.2 k2
      have hN : rd_num (rc_B σ) a (e - a) = rd_num (rm_B τ) a (e - a) := rd_numB hB (e - a) (by omega)
      rw [hN] at hv hvb
      rw [hv]
      unfold BX9_number_20
      rw [rm_good, if_pos hgm, bd_t1, show sn_I τ 0 11 = nI (min 99999 (rd_num (rm_B τ) a (e - a))) from hw]
      generalize rd_num (rm_B τ) a (e - a) = N at hvb hw ⊢
      have v1 : (nI (min 1000000 N)).toInt = ((min 1000000 N : Nat) : Int) := nI_toInt (by have := Nat.min_le_left 1000000 N; omega)
      have w1 : (nI (min 99999 N)).toInt = ((min 99999 N : Nat) : Int) := nI_toInt (by have := Nat.min_le_left 99999 N; omega)
      show rr_ok (if nI (min 1000000 N) < lo then BX5_number_39 σ (nI (min 1000000 N)) else if hi < nI (min 1000000 N) then BX5_number_39 σ (nI (min 1000000 N)) else if nI (min 1000000 N) = but then BX5_number_39 σ (nI (min 1000000 N)) else BX5_number_44 σ (nI (min 1000000 N))) ((fX9_in (nI (min 99999 N)).toInt64 lo.toInt64 hi.toInt64).bind fun t_4 => if t_4 = 0 then (fX9_errs τ 2).bind fun t_7 => BX9_number_47 t_7 else BX9_number_47 τ) _
      rw [in_eq32]
      have bad : rr_ok (BX5_number_39 σ (nI (min 1000000 N))) ((fX9_errs τ 2).bind fun t_7 => BX9_number_47 t_7) (fun r r' => rr_L r.2 r'.2 n ∧ rr_F σ τ r.2 r'.2 ∧ (r.2.1 17 2 = 0 → r.1 = r'.1 ∧ lo.toInt ≤ r.1.toInt ∧ r.1.toInt ≤ hi.toInt)) := by
        obtain ⟨s, t, e1, e2, q1, q2, q3⟩ := rr_39 h (v := nI (min 1000000 N))
        rw [e1, e2]
        show rr_ok (some s) (BX9_number_47 t) _
        rw [rm_47bad (by rw [q1.2.2.2.1]; exact q3)]
        exact rr_some ⟨q1, q2, fun x => absurd x q3⟩
      by_cases cin : lo.toInt ≤ ((min 99999 N : Nat) : Int) ∧ ((min 99999 N : Nat) : Int) ≤ hi.toInt
      · have eN : min 1000000 N = min 99999 N := by
          have h1 : min 99999 N ≤ 999 := by omega
          by_cases x : N ≤ 99999
          · rw [Nat.min_eq_right x, Nat.min_eq_right (by omega)]
          · rw [Nat.min_eq_left (by omega)] at h1
            omega
        rw [eN] at v1 hvb ⊢
        rw [if_neg (fun x => by have := zs_I_lt x; omega), if_neg (fun x => by have := zs_I_lt x; omega), if_neg hvb, if_pos (⟨Int32.le_iff_toInt_le.mpr (by omega), Int32.le_iff_toInt_le.mpr (by omega)⟩ : lo ≤ nI (min 99999 N) ∧ nI (min 99999 N) ≤ hi)]
        rw [bd_t1]
        unfold BX5_number_44 BX9_number_47
        rw [rm_good, if_pos hgm, bd_t1]
        refine rr_lr (fun y => y = nI (min 99999 N)) hw (fun y hy => ?_)
        subst hy
        exact rr_bd (rr_step h hg) (fun s t q => rr_some ⟨q.1, q.2, fun _ => ⟨rfl, by show lo.toInt ≤ (nI (min 99999 N)).toInt; omega, by show (nI (min 99999 N)).toInt ≤ hi.toInt; omega⟩⟩)
      · have nin : ¬ (lo ≤ nI (min 99999 N) ∧ nI (min 99999 N) ≤ hi) := fun x => cin ⟨by have := zs_I_le x.1; omega, by have := zs_I_le x.2; omega⟩
        rw [if_neg nin, bd_t0]
        by_cases c1 : nI (min 1000000 N) < lo
        · rw [if_pos c1]
          exact bad
        · rw [if_neg c1]
          by_cases c2 : hi < nI (min 1000000 N)
          · rw [if_pos c2]
            exact bad
          · exfalso
            have d1 := zs_I_ltn c1
            have d2 := zs_I_ltn c2
            apply cin
            have h1 : min 1000000 N ≤ 999 := by omega
            have eN : min 1000000 N = min 99999 N := by
              by_cases x : N ≤ 99999
              · rw [Nat.min_eq_right x, Nat.min_eq_right (by omega)]
              · by_cases y : N ≤ 1000000
                · rw [Nat.min_eq_right y] at h1
                  omega
                · rw [Nat.min_eq_left (by omega)] at h1
                  omega
            rw [← eN]
            omega
    · have c6 : ¬ sn_I σ 17 6 = 2 := fun x => k2 (by
        have x2 : nI (rd_k (rc_B σ) n a) = nI 2 := tc.2.2.symm.trans x
        rw [hkk] at x2
        exact (nI_eq (by omega) (by decide)).mp x2)
      have c10 : ¬ sn_I τ 0 10 = 2 := fun x => k2 (by
        have x2 : nI (rd_t (rd_k (rm_B τ) n a)) = nI 2 := tm.2.2.1.symm.trans x
        have x3 := (nI_eq (by omega) (by decide)).mp x2
        unfold rd_t at x3
        split at x3
        · omega
        · exact x3)
      rw [if_neg c6, if_neg c10]
      obtain ⟨s, t, e1, e2, q1, q2, q3⟩ := rr_blame h (x := 1) (by decide)
      rw [e1, e2]
      show rr_ok (some ((0 : Int32), s)) (BX9_number_20 t lo hi) _
      rw [rm_20bad (by rw [q1.2.2.2.1]; exact q3)]
      exact rr_some ⟨q1, q2, fun x => absurd x q3⟩
  · have hb : τ.1 0 12 ≠ 0 := by rw [h.2.2.2.1]; exact hg
    rw [rm_numbad hb]
    obtain ⟨r, e1, q1, q2⟩ := rc_numF h.2.1 hg (lo := lo) (hi := hi) (but := but)
    rw [e1]
    have k := rr_keep h hg q1 q2
    exact rr_some ⟨k.1, k.2, fun x => absurd (q1.2.1.symm.trans x) hg⟩
theorem rr_num1 (h : rr_L σ τ n) {lo hi : Int32} (hlo : 0 ≤ lo.toInt) (hhi : hi.toInt ≤ 999) : rr_ok (fX5_number σ lo hi (-1)) (fX9_number τ lo hi) (fun r r' => rr_L r.2 r'.2 n ∧ rr_F σ τ r.2 r'.2 ∧ (r.2.1 17 2 = 0 → r.1 = r'.1 ∧ lo.toInt ≤ r.1.toInt ∧ r.1.toInt ≤ hi.toInt)) := by
  refine rr_num h hlo hhi (fun v hg c6 hv e1 => ?_)
  obtain ⟨ht, hp, hr, h12, h13, hs⟩ := h
  obtain ⟨a, e, tc, tm, lae, len, k4, hE⟩ := hs hg
  have hkk : rd_k (rc_B σ) n = rd_k (rm_B τ) n := rd_kB (fun k hk => (ht.2.2.2 k hk).1)
  have k5 := rd_k5 (rc_B σ) n a
  have k2 : rd_k (rc_B σ) n a = 2 := (nI_eq (b := 2) (by omega) (by decide)).mp (tc.2.2.symm.trans c6)
  have := rc_value ht.2.2.1 tc (rd_EB hkk.symm hE) k2
  rw [hv] at this
  have h2 : v = nI (min 1000000 (rd_num (rc_B σ) a (e - a))) := Option.some.inj this
  have h3 := congrArg Int32.toInt h2
  rw [e1, nI_toInt (by have := Nat.min_le_left 1000000 (rd_num (rc_B σ) a (e - a)); omega), show (-1 : Int32).toInt = -1 by decide] at h3
  omega
theorem rm_52 : BX9_readLine_52 τ = some (sn_pI τ 6 10 (τ.1 6 10 + (1 : Int32))) := rfl
/-- the row's end -/
theorem rr_sign (h : rr_L σ τ n) : rr_ok (fX5_sign σ) (BX9_readLine_21 τ) (fun σ' w => ∃ τ', w = sn_pI τ' 6 10 (τ'.1 6 10 + (1 : Int32)) ∧ rr_L σ' τ' n ∧ rr_F σ τ σ' τ') := by
  by_cases hg : σ.1 17 2 = 0
  · have h' := h
    obtain ⟨ht, hp, hr, h12, h13, hs⟩ := h'
    obtain ⟨a, e, tc, tm, lae, len, k4, hE⟩ := hs hg
    have hkk : rd_k (rc_B σ) n = rd_k (rm_B τ) n := rd_kB (fun k hk => (ht.2.2.2 k hk).1)
    have k5 := rd_k5 (rm_B τ) n a
    have hgm : τ.1 0 12 = 0 := h12.trans hg
    have ht5 : rd_t (rd_k (rm_B τ) n a) ≤ 5 := by unfold rd_t; split <;> omega
    unfold fX5_sign BX9_readLine_21
    rw [rm_good, if_pos hgm, bd_t1]
    by_cases k3 : rd_k (rm_B τ) n a = 3
    · rw [if_pos (show sn_I σ 17 6 = 3 by show σ.1 17 6 = 3; rw [tc.2.2, hkk, k3]; rfl), if_pos (show sn_I τ 0 10 = 3 by show τ.1 0 10 = 3; rw [tm.2.2.1, k3]; rfl)]
      unfold BX9_readLine_41
      rw [rm_good, if_pos hgm, bd_t1]
      exact rr_bd (rr_step h hg) (fun s t q => by
        rw [rm_52]
        exact rr_some ⟨t, rfl, q.1, q.2⟩)
    · have c6 : ¬ sn_I σ 17 6 = 3 := fun x => k3 (by
        have x2 : nI (rd_k (rc_B σ) n a) = nI 3 := tc.2.2.symm.trans x
        rw [hkk] at x2
        exact (nI_eq (by omega) (by decide)).mp x2)
      have c10 : ¬ sn_I τ 0 10 = 3 := fun x => k3 (by
        have x2 : nI (rd_t (rd_k (rm_B τ) n a)) = nI 3 := tm.2.2.1.symm.trans x
        have x3 := (nI_eq (by omega) (by decide)).mp x2
        unfold rd_t at x3
        split at x3
        · omega
        · exact x3)
      rw [if_neg c6, if_neg c10]
      obtain ⟨s, t, e1, e2, q1, q2, q3⟩ := rr_blame h (x := 1) (by decide)
      rw [e1, e2]
      show rr_ok (some s) (BX9_readLine_41 t) _
      unfold BX9_readLine_41
      rw [rm_good, if_neg (show ¬ t.1 0 12 = 0 by rw [q1.2.2.2.1]; exact q3)]
      show rr_ok (some s) (BX9_readLine_52 t) _
      rw [rm_52]
      exact rr_some ⟨t, rfl, q1, q2⟩
  · have hb : τ.1 0 12 ≠ 0 := by rw [h.2.2.2.1]; exact hg
    have e2 : BX9_readLine_21 τ = some (sn_pI τ 6 10 (τ.1 6 10 + (1 : Int32))) := by
      unfold BX9_readLine_21
      rw [rm_good, if_neg hb]
      show BX9_readLine_41 τ = _
      unfold BX9_readLine_41
      rw [rm_good, if_neg hb]
      rfl
    rw [e2]
    unfold fX5_sign
    refine rr_il (fun _ => rr_bl (rc_stepF h.2.1) (fun z hz => ?_)) (fun _ => ?_)
    · have k := rr_keep h hg hz.1 hz.2
      exact rr_some ⟨τ, rfl, k.1, k.2⟩
    · rw [rc_blame, if_neg hg]
      exact rr_some ⟨τ, rfl, h, rr_F0⟩
end
end
section
/-! what was read, on both sides -/
section
variable {α β γ δ : Type} {P : α → β → Prop}
theorem rr_Bb {x : Option α} {y : Option γ} {f : γ → Option δ} {g : δ → Option β} (h : rr_ok x (y.bind fun a => (f a).bind g) P) : rr_ok x ((y.bind f).bind g) P := by
  rw [Option.bind_assoc]
  exact h
theorem rr_Bg {x : Option α} {b : Bool} {y : Option δ} {g : δ → Option β} (hb : b = true) (h : rr_ok x (y.bind g) P) : rr_ok x ((sn_gd b y).bind g) P := by
  subst hb
  exact h
theorem rr_Bl {x : Option α} {v : γ} {f : γ → Option δ} {g : δ → Option β} (Q : γ → Prop) (hv : Q v) (h : ∀ a, Q a → rr_ok x ((f a).bind g) P) : rr_ok x ((sn_lt v f).bind g) P := h v hv
theorem rr_Bi {x : Option α} {c : Prop} [Decidable c] {y y' : Option δ} {g : δ → Option β} (ht : c → rr_ok x (y.bind g) P) (he : ¬ c → rr_ok x (y'.bind g) P) : rr_ok x ((if c then y else y').bind g) P := by
  by_cases h : c
  · rw [if_pos h]; exact ht h
  · rw [if_neg h]; exact he h
end
def rr_c (σ τ : sn_S) : Prop := ((0 ≤ (σ.1 9 5).toInt ∧ (σ.1 9 5).toInt ≤ 6) ∧ (0 ≤ (σ.1 9 6).toInt ∧ (σ.1 9 6).toInt ≤ 5) ∧ (0 ≤ (σ.1 9 7).toInt ∧ (σ.1 9 7).toInt ≤ 8) ∧ (0 ≤ (σ.1 9 8).toInt ∧ (σ.1 9 8).toInt ≤ 6) ∧ σ.1 9 9 = 0) ∧ (∀ k, k < 10 → σ.1 9 k = τ.1 6 k) ∧ (∀ i : Nat, (i : Int) < 2 * (σ.1 9 5).toInt → σ.1 10 i = τ.1 6 (11 + i)) ∧ (∀ i : Nat, (i : Int) < 2 * (σ.1 9 6).toInt → σ.1 11 i = τ.1 6 (23 + i)) ∧ (∀ i : Nat, (i : Int) < 2 * (σ.1 9 7).toInt → σ.1 12 i = τ.1 6 (33 + i)) ∧ ∀ i : Nat, (i : Int) < 5 * (σ.1 9 8).toInt → σ.1 13 i = τ.1 6 (49 + i)
def rr_N (l : Int32) (σ τ : sn_S) (n : Nat) : Prop := rr_L σ τ n ∧ τ.1 6 10 = l ∧ (σ.1 17 2 = 0 → rr_c σ τ)
def rr_M (l : Int32) (q b i0 p : Nat) (σ τ : sn_S) (n : Nat) : Prop := rr_L σ τ n ∧ τ.1 6 10 = l ∧ (σ.1 17 2 = 0 → rr_c σ τ ∧ ∀ t, t < p → σ.1 q (i0 + t) = τ.1 6 (b + i0 + t))
section
variable {σ τ σ' τ' : sn_S} {n : Nat} {l : Int32} {q b i0 p : Nat}
theorem rr_cF (hs : ∀ q, q ≠ 17 → σ'.1 q = σ.1 q) (ht : ∀ q, q ≠ 0 → τ'.1 q = τ.1 q) (h : rr_c σ τ) : rr_c σ' τ' := by
  unfold rr_c at h ⊢
  rw [hs 9 (by decide), hs 10 (by decide), hs 11 (by decide), hs 12 (by decide), hs 13 (by decide), ht 6 (by decide)]
  exact h
theorem rr_NF (h : rr_N l σ τ n) (hL : rr_L σ' τ' n) (hF : rr_F σ τ σ' τ') : rr_N l σ' τ' n := ⟨hL, by rw [hF.2.1 6 (by decide)]; exact h.2.1, fun x => rr_cF hF.1.1 hF.2.1 (h.2.2 (hF.2.2.2.2 x))⟩
theorem rr_MF (hq : q ≠ 17) (h : rr_M l q b i0 p σ τ n) (hL : rr_L σ' τ' n) (hF : rr_F σ τ σ' τ') : rr_M l q b i0 p σ' τ' n := ⟨hL, by rw [hF.2.1 6 (by decide)]; exact h.2.1, fun x => ⟨rr_cF hF.1.1 hF.2.1 (h.2.2 (hF.2.2.2.2 x)).1, fun t ht => by rw [hF.1.1 q hq, hF.2.1 6 (by decide)]; exact (h.2.2 (hF.2.2.2.2 x)).2 t ht⟩⟩
theorem rr_Lw {q i j : Nat} {v w : Int32} (hq : q ≠ 17) (hq2 : q ≠ 18) (h : rr_L σ τ n) : rr_L (sn_pI σ q i v) (sn_pI τ 6 j w) n := by
  have a : ∀ r, r ≠ q → (sn_pI σ q i v).1 r = σ.1 r := fun r hr => pI_ne hr
  have c : ∀ r, r ≠ 6 → (sn_pI τ 6 j w).1 r = τ.1 r := fun r hr => pI_ne hr
  obtain ⟨ht, hp, hr, h12, h13, hs⟩ := h
  have eB : rc_B (sn_pI σ q i v) = rc_B σ := by
    unfold rc_B
    rw [a 18 (fun e => hq2 e.symm)]
  have eM : rm_B (sn_pI τ 6 j w) = rm_B τ := by
    unfold rm_B
    rw [c 4 (by decide)]
  refine ⟨⟨?_, ?_, ht.2.2.1, fun k hk => ?_⟩, ?_, hr, ?_, ?_, fun x => ?_⟩
  · rw [a 17 (fun e => hq e.symm)]
    exact ht.1
  · rw [c 0 (by decide)]
    exact ht.2.1
  · rw [eB, eM, c 4 (by decide)]
    exact ht.2.2.2 k hk
  · unfold zk_pos
    rw [a 17 (fun e => hq e.symm)]
    exact hp
  · rw [c 0 (by decide), a 17 (fun e => hq e.symm)]
    exact h12
  · rw [c 0 (by decide), a 17 (fun e => hq e.symm)]
    exact h13
  · rw [a 17 (fun e => hq e.symm)] at x
    obtain ⟨a1, e1, tc, tm, l1, l2, l3, l4⟩ := hs x
    refine ⟨a1, e1, ?_, ?_, l1, l2, by rw [eM]; exact l3, by rw [eM]; exact l4⟩
    · unfold rc_T
      rw [a 17 (fun e => hq e.symm), eB]
      exact tc
    · unfold rm_T
      rw [c 0 (by decide), eM]
      exact tm
def rr_reg (q b i : Nat) (σ : sn_S) : Prop := (q = 10 ∧ b = 11 ∧ i < 12 ∧ 2 * (σ.1 9 5).toInt ≤ (i : Int)) ∨ (q = 11 ∧ b = 23 ∧ i < 10 ∧ 2 * (σ.1 9 6).toInt ≤ (i : Int)) ∨ (q = 12 ∧ b = 33 ∧ i < 16 ∧ 2 * (σ.1 9 7).toInt ≤ (i : Int)) ∨ (q = 13 ∧ b = 49 ∧ i < 30 ∧ 5 * (σ.1 9 8).toInt ≤ (i : Int))
theorem rr_cw {i : Nat} {v w : Int32} (hg : rr_reg q b i σ) (h : rr_c σ τ) : rr_c (sn_pI σ q i v) (sn_pI τ 6 (b + i) w) := by
  obtain ⟨⟨b5, b6, b7, b8⟩, hk, h0, h1, h2, h3⟩ := h
  have hq : q = 10 ∨ q = 11 ∨ q = 12 ∨ q = 13 := by unfold rr_reg at hg; omega
  have e9 : (sn_pI σ q i v).1 9 = σ.1 9 := pI_ne (by omega)
  have cell : ∀ (q' j b' : Nat), (q' = q → j ≠ i) → (b' + j ≠ b + i) → σ.1 q' j = τ.1 6 (b' + j) → (sn_pI σ q i v).1 q' j = (sn_pI τ 6 (b + i) w).1 6 (b' + j) := by
    intro q' j b' a1 a2 e
    rw [pI_slot a2, ← e]
    by_cases x : q' = q
    · subst x
      exact pI_slot (a1 rfl)
    · rw [pI_ne x]
  unfold rr_c
  rw [e9]
  unfold rr_reg at hg
  refine ⟨⟨b5, b6, b7, b8⟩, fun k hk2 => ?_, fun j hj => ?_, fun j hj => ?_, fun j hj => ?_, fun j hj => ?_⟩
  · rw [pI_slot (by omega)]
    exact hk k hk2
  · exact cell 10 j 11 (fun x => by omega) (by omega) (h0 j hj)
  · exact cell 11 j 23 (fun x => by omega) (by omega) (h1 j hj)
  · exact cell 12 j 33 (fun x => by omega) (by omega) (h2 j hj)
  · exact cell 13 j 49 (fun x => by omega) (by omega) (h3 j hj)
theorem rr_Mw {v w : Int32} (h : rr_M l q b i0 p σ τ n) (hg : σ.1 17 2 = 0 → rr_reg q b (i0 + p) σ) (hq : q = 10 ∨ q = 11 ∨ q = 12 ∨ q = 13) (hb : 11 ≤ b) (hv : σ.1 17 2 = 0 → v = w) : rr_M l q b i0 (p + 1) (sn_pI σ q (i0 + p) v) (sn_pI τ 6 (b + i0 + p) w) n := by
  have e : b + i0 + p = b + (i0 + p) := by omega
  refine ⟨rr_Lw (by omega) (by omega) h.1, by rw [pI_slot (by omega)]; exact h.2.1, fun x => ?_⟩
  rw [pI_ne (show 17 ≠ q by omega)] at x
  rw [e]
  refine ⟨rr_cw (hg x) (h.2.2 x).1, fun t ht => ?_⟩
  by_cases c : t = p
  · subst c
    rw [pI_self, show b + i0 + t = b + (i0 + t) by omega, pI_self]
    exact hv x
  · rw [pI_slot (show i0 + t ≠ i0 + p by omega), pI_slot (show b + i0 + t ≠ b + (i0 + p) by omega)]
    exact (h.2.2 x).2 t (by omega)
/-- the row's end: sign and count -/
theorem rr_fin {c w m : Nat} (h : rr_M l q b i0 w σ τ n) (hcase : (c = 5 ∧ q = 10 ∧ b = 11 ∧ w = 2 ∧ m < 6) ∨ (c = 6 ∧ q = 11 ∧ b = 23 ∧ w = 2 ∧ m < 5) ∨ (c = 7 ∧ q = 12 ∧ b = 33 ∧ w = 2 ∧ m < 8) ∨ (c = 8 ∧ q = 13 ∧ b = 49 ∧ w = 5 ∧ m < 6)) (hi : i0 = w * m) (hc : σ.1 9 c = nI m) : rr_ok ((fX5_sign σ).bind fun t => sn_gd (sn_R t 17 7 == some 8) (sn_gd (sn_in (nI c) 11) (sn_lt (sn_pI t 9 c (nI m + (1 : Int32))) fun s => some s))) (BX9_readLine_21 (sn_pI τ 6 c (τ.1 6 c + (1 : Int32)))) (fun σ' τ' => rr_N (l + 1) σ' τ' n) := by
  have hL1 : rr_L σ (sn_pI τ 6 c (τ.1 6 c + (1 : Int32))) n := by
    have := rr_Lw (q := 10) (i := 0) (v := σ.1 10 0) (j := c) (w := τ.1 6 c + (1 : Int32)) (by decide) (by decide) h.1
    have e : sn_pI σ 10 0 (σ.1 10 0) = σ := by
      refine Prod.ext ?_ rfl
      funext x y
      show (if x = 10 ∧ y = 0 then σ.1 10 0 else σ.1 x y) = _
      by_cases z : x = 10 ∧ y = 0
      · rw [if_pos z, z.1, z.2]
      · rw [if_neg z]
    rw [e] at this
    exact this
  obtain ⟨s, w1, e1, e2, t, ew, qL, qF⟩ := rr_sign hL1
  rw [e1, e2]
  show rr_ok (sn_gd (sn_R s 17 7 == some 8) _) _ _
  refine rr_gl (by rw [qL.2.2.1]; rfl) (rr_gl (sn_in_nI (by omega) (by decide)) (rr_ll (fun z => z = sn_pI s 9 c (nI m + (1 : Int32))) rfl (fun z hz => ?_)))
  subst hz
  subst ew
  have t6 : t.1 6 = (sn_pI τ 6 c (τ.1 6 c + (1 : Int32))).1 6 := qF.2.1 6 (by decide)
  have l10 : t.1 6 10 = l := by
    rw [t6, pI_slot (by omega)]
    exact h.2.1
  refine rr_some ⟨rr_Lw (by decide) (by decide) qL, by rw [pI_self, l10], fun x => ?_⟩
  rw [pI_ne (by decide)] at x
  have x0 := qF.2.2.2.2 x
  obtain ⟨⟨⟨b5, b6, b7, b8⟩, hk, h0, h1, h2, h3⟩, hn⟩ := h.2.2 x0
  have s9 : ∀ k, (sn_pI s 9 c (nI m + (1 : Int32))).1 9 k = if k = c then nI (m + 1) else σ.1 9 k := fun k => by
    by_cases z : k = c
    · rw [if_pos z, z, pI_self, nI_1]
    · rw [if_neg z, pI_slot z, qF.1.1 9 (by decide)]
  have so : ∀ r, r ≠ 9 → r ≠ 17 → (sn_pI s 9 c (nI m + (1 : Int32))).1 r = σ.1 r := fun r h9 h17 => by rw [pI_ne h9, qF.1.1 r h17]
  have t6c : ∀ k, k ≠ 10 → (sn_pI t 6 10 (t.1 6 10 + (1 : Int32))).1 6 k = if k = c then nI (m + 1) else τ.1 6 k := fun k hk2 => by
    rw [pI_slot hk2, t6]
    by_cases z : k = c
    · rw [if_pos z, z, pI_self, ← hk c (by omega), hc, nI_1]
    · rw [if_neg z, pI_slot z]
  have em : (nI (m + 1)).toInt = (m : Int) + 1 := by
    rw [nI_toInt (by omega)]
    omega
  have em0 : (σ.1 9 c).toInt = (m : Int) := by
    rw [hc, nI_toInt (by omega)]
  unfold rr_c
  rw [s9 5, s9 6, s9 7, s9 8, s9 9]
  have cellA : ∀ (q' b' j : Nat), q' ≠ 9 → q' ≠ 17 → b' + j ≠ 10 → b' + j ≠ c → σ.1 q' j = τ.1 6 (b' + j) → (sn_pI s 9 c (nI m + (1 : Int32))).1 q' j = (sn_pI t 6 10 (t.1 6 10 + (1 : Int32))).1 6 (b' + j) := by
    intro q' b' j a1 a2 a3 a4 e
    rw [so q' a1 a2, t6c _ a3, if_neg a4]
    exact e
  have cnt : ∀ k, k < 10 → (sn_pI s 9 c (nI m + (1 : Int32))).1 9 k = (sn_pI t 6 10 (t.1 6 10 + (1 : Int32))).1 6 k := fun k hk2 => by
    rw [s9, t6c k (by omega)]
    by_cases z : k = c
    · rw [if_pos z, if_pos z]
    · rw [if_neg z, if_neg z]
      exact hk k hk2
  have hnew : ∀ j : Nat, w * m ≤ j → j < w * m + w → σ.1 q j = τ.1 6 (b + j) := by
    intro j j1 j2
    have := hn (j - w * m) (by omega)
    rw [hi, show w * m + (j - w * m) = j by omega, show b + w * m + (j - w * m) = b + j by omega] at this
    exact this
  rcases hcase with ⟨c1, c2, c3, c4, c5⟩ | ⟨c1, c2, c3, c4, c5⟩ | ⟨c1, c2, c3, c4, c5⟩ | ⟨c1, c2, c3, c4, c5⟩ <;> subst c1 <;> subst c2 <;> subst c3 <;> subst c4
  · rw [if_pos rfl, if_neg (by decide), if_neg (by decide), if_neg (by decide), if_neg (by decide), em]
    refine ⟨⟨⟨by omega, by omega⟩, b6, b7, b8⟩, cnt, fun j hj => ?_, fun j hj => cellA 11 23 j (by decide) (by decide) (by omega) (by omega) (h1 j hj), fun j hj => cellA 12 33 j (by decide) (by decide) (by omega) (by omega) (h2 j hj), fun j hj => cellA 13 49 j (by decide) (by decide) (by omega) (by omega) (h3 j hj)⟩
    refine cellA 10 11 j (by decide) (by decide) (by omega) (by omega) ?_
    by_cases z : j < 2 * m
    · exact h0 j (by omega)
    · exact hnew j (by omega) (by omega)
  · rw [if_neg (by decide), if_pos rfl, if_neg (by decide), if_neg (by decide), if_neg (by decide), em]
    refine ⟨⟨b5, ⟨by omega, by omega⟩, b7, b8⟩, cnt, fun j hj => cellA 10 11 j (by decide) (by decide) (by omega) (by omega) (h0 j hj), fun j hj => ?_, fun j hj => cellA 12 33 j (by decide) (by decide) (by omega) (by omega) (h2 j hj), fun j hj => cellA 13 49 j (by decide) (by decide) (by omega) (by omega) (h3 j hj)⟩
    refine cellA 11 23 j (by decide) (by decide) (by omega) (by omega) ?_
    by_cases z : j < 2 * m
    · exact h1 j (by omega)
    · exact hnew j (by omega) (by omega)
  · rw [if_neg (by decide), if_neg (by decide), if_pos rfl, if_neg (by decide), if_neg (by decide), em]
    refine ⟨⟨b5, b6, ⟨by omega, by omega⟩, b8⟩, cnt, fun j hj => cellA 10 11 j (by decide) (by decide) (by omega) (by omega) (h0 j hj), fun j hj => cellA 11 23 j (by decide) (by decide) (by omega) (by omega) (h1 j hj), fun j hj => ?_, fun j hj => cellA 13 49 j (by decide) (by decide) (by omega) (by omega) (h3 j hj)⟩
    refine cellA 12 33 j (by decide) (by decide) (by omega) (by omega) ?_
    by_cases z : j < 2 * m
    · exact h2 j (by omega)
    · exact hnew j (by omega) (by omega)
  · rw [if_neg (by decide), if_neg (by decide), if_neg (by decide), if_pos rfl, if_neg (by decide), em]
    refine ⟨⟨b5, b6, b7, ⟨by omega, by omega⟩, b8.2⟩, cnt, fun j hj => cellA 10 11 j (by decide) (by decide) (by omega) (by omega) (h0 j hj), fun j hj => cellA 11 23 j (by decide) (by decide) (by omega) (by omega) (h1 j hj), fun j hj => cellA 12 33 j (by decide) (by decide) (by omega) (by omega) (h2 j hj), fun j hj => ?_⟩
    refine cellA 13 49 j (by decide) (by decide) (by omega) (by omega) ?_
    by_cases z : j < 5 * m
    · exact h3 j (by omega)
    · exact hnew j (by omega) (by omega)
end
end
section
/-! the rows, both sides at once -/
theorem rd_excl : ∀ k, k < 4 → ∀ j, j < 4 → k = j ∨ ¬ (rd_L (6 + k) = rd_L (6 + j) ∧ ∀ i, i < 8 → i < rd_L (6 + k) → (rd_c (6 + k) i).toInt = (rd_c (6 + j) i).toInt) := by decide +kernel
theorem rd_W1 {B : Nat → Int} {a e k j : Nat} (hk : k < 10 ∧ 6 ≤ k) (hj : j < 10 ∧ 6 ≤ j) (h : rd_W B a e k) (g : rd_W B a e j) : k = j := by
  by_cases c : k = j
  · exact c
  · exfalso
    have e1 := h.1
    have e2 := g.1
    obtain ⟨k', rfl⟩ : ∃ k', k = 6 + k' := ⟨k - 6, by omega⟩
    obtain ⟨j', rfl⟩ : ∃ j', j = 6 + j' := ⟨j - 6, by omega⟩
    rcases rd_excl k' (by omega) j' (by omega) with x | x
    · exact c (by rw [x])
    · exact x ⟨by omega, fun i _ x1 => (h.2 i x1).symm.trans (g.2 i (by omega))⟩
section
variable {σ τ : sn_S} {n m : Nat} {l : Int32} {α β γ δ : Type} {P : α → β → Prop}
theorem rr_words (h : rr_L σ τ n) (hg : σ.1 17 2 = 0) : ∃ a e, ∀ k, k < 16 → ∃ v : Int32, (v = 0 ∨ (v = 1 ∧ rd_W (rm_B τ) a e k)) ∧ fX5_isWord σ k = some v ∧ fX9_is τ k = some v := by
  obtain ⟨ht, hp, hr, h12, h13, hs⟩ := h
  obtain ⟨a, e, tc, tm, lae, len, k4, hE⟩ := hs hg
  refine ⟨a, e, fun k hk => ?_⟩
  have hn9 := ht.2.2.1
  have hB : ∀ k, k < n → rc_B σ k = rm_B τ k := fun k hk => (ht.2.2.2 k hk).1
  have hkk : rd_k (rc_B σ) n = rd_k (rm_B τ) n := rd_kB hB
  have k5 := rd_k5 (rm_B τ) n a
  obtain ⟨v, e1, q1⟩ := rc_isWord hk hn9 tc lae len
  obtain ⟨w, e2, q2⟩ := rm_is hk hn9 tm lae len k5 (fun k hk => (ht.2.2.2 k hk).2) (h12.trans hg)
  have hW : rd_W (rc_B σ) a e k ↔ rd_W (rm_B τ) a e k := by
    unfold rd_W
    constructor
    · intro x
      exact ⟨x.1, fun i hi => by rw [← hB (a + i) (by omega)]; exact x.2 i hi⟩
    · intro x
      exact ⟨x.1, fun i hi => by rw [hB (a + i) (by omega)]; exact x.2 i hi⟩
  rw [hkk, hW] at q1
  rcases q1 with ⟨p1, p2⟩ | ⟨p1, p2⟩
  · rcases q2 with ⟨r1, r2⟩ | ⟨r1, r2⟩
    · exact ⟨1, Or.inr ⟨rfl, p2.2⟩, by rw [e1, p1], by rw [e2, r1]⟩
    · exact absurd p2 r2
  · rcases q2 with ⟨r1, r2⟩ | ⟨r1, r2⟩
    · exact absurd r2 p2
    · exact ⟨0, Or.inl rfl, by rw [e1, p1], by rw [e2, r1]⟩
theorem rm_143bad (h : τ.1 0 12 ≠ 0) : BX9_readNext_143 τ = some τ := by
  unfold BX9_readNext_143
  rw [rm_good, if_neg h]
  rfl
theorem rm_117bad (h : τ.1 0 12 ≠ 0) : BX9_readNext_117 τ = some τ := by
  unfold BX9_readNext_117
  rw [rm_isbad (by decide) h]
  exact rm_143bad h
theorem rm_96bad (h : τ.1 0 12 ≠ 0) : BX9_readNext_96 τ = some τ := by
  unfold BX9_readNext_96
  rw [rm_isbad (by decide) h]
  exact rm_117bad h
theorem rm_51bad (h : τ.1 0 12 ≠ 0) : BX9_readNext_51 τ = some τ := by
  unfold BX9_readNext_51
  rw [rm_isbad (by decide) h]
  show BX9_readNext_71 τ = some τ
  unfold BX9_readNext_71
  rw [rm_isbad (by decide) h]
  exact rm_96bad h
theorem rm_21bad (h : τ.1 0 12 ≠ 0) : BX9_readLine_21 τ = some (sn_pI τ 6 10 (τ.1 6 10 + (1 : Int32))) := by
  unfold BX9_readLine_21
  rw [rm_good, if_neg h]
  show BX9_readLine_41 τ = _
  unfold BX9_readLine_41
  rw [rm_good, if_neg h]
  rfl
theorem rr_Lw6 {j : Nat} {w : Int32} (h : rr_L σ τ n) : rr_L σ (sn_pI τ 6 j w) n := by
  have := rr_Lw (q := 10) (i := 0) (v := σ.1 10 0) (j := j) (w := w) (by decide) (by decide) h
  have e : sn_pI σ 10 0 (σ.1 10 0) = σ := by
    refine Prod.ext ?_ rfl
    funext x y
    show (if x = 10 ∧ y = 0 then σ.1 10 0 else σ.1 x y) = _
    by_cases z : x = 10 ∧ y = 0
    · rw [if_pos z, z.1, z.2]
    · rw [if_neg z]
  rw [e] at this
  exact this
/-- a row ends at a fault -/
theorem rr_bad (h : rr_L σ τ n) (hg : σ.1 17 2 ≠ 0) (hl : τ.1 6 10 = l) : rr_ok (some σ) (BX9_readLine_21 τ) (fun σ' τ' => rr_N (l + 1) σ' τ' n) := by
  rw [rm_21bad (by rw [h.2.2.2.1]; exact hg)]
  exact rr_some ⟨rr_Lw6 h, by rw [pI_self, hl], fun x => absurd x hg⟩
theorem rr_tell {k : Nat} (hk : k < 16) (h : rr_L σ τ n) {lo hi : Int32} (hlo : 0 ≤ lo.toInt) (hhi : hi.toInt ≤ 999) {f : Int32 × sn_S → Option α} {g : Int32 × sn_S → Option β}
    (K : ∀ r r', rr_L r.2 r'.2 n → rr_F σ τ r.2 r'.2 → (r.2.1 17 2 = 0 → r.1 = r'.1 ∧ lo.toInt ≤ r.1.toInt ∧ r.1.toInt ≤ hi.toInt) → rr_ok (f r) (g r') P) : rr_ok ((fX5_word σ k).bind fun t => sn_gd (sn_R t 17 7 == some 8) ((fX5_number t lo hi (-1)).bind f)) ((fX9_told τ k lo hi).bind g) P := by
  unfold fX9_told
  refine rr_Bb (rr_bd (rr_word hk h) (fun s t q => rr_gl (by rw [q.1.2.2.1]; rfl) (rr_Bb ?_)))
  exact rr_bd (rr_num1 q.1 hlo hhi) (fun r r' q2 => K r r' q2.1 (rr_Ft q.2 q2.2.1) q2.2.2)
theorem rr_tell2 {k : Nat} (hk : k < 16) (h : rr_L σ τ n) {lo hi : Int32} (hlo : 0 ≤ lo.toInt) (hhi : hi.toInt ≤ 999) {f : Int32 × sn_S → Option α} {g : Int32 × sn_S → Option β}
    (K : ∀ r r', rr_L r.2 r'.2 n → rr_F σ τ r.2 r'.2 → (r.2.1 17 2 = 0 → r.1 = r'.1 ∧ lo.toInt ≤ r.1.toInt ∧ r.1.toInt ≤ hi.toInt) → rr_ok (f r) (g r') P) : rr_ok ((fX5_word σ k).bind fun t => (fX5_number t lo hi (-1)).bind f) ((fX9_told τ k lo hi).bind g) P := by
  unfold fX9_told
  refine rr_Bb (rr_bd (rr_word hk h) (fun s t q => rr_Bb ?_))
  exact rr_bd (rr_num1 q.1 hlo hhi) (fun r r' q2 => K r r' q2.1 (rr_Ft q.2 q2.2.1) q2.2.2)
/-- the word that begins a row -/
theorem rr_begin {k : Nat} (h : rr_L σ τ n) (hg : σ.1 17 2 = 0) (e1 : fX5_isWord σ k = some 1) (e2 : fX9_is τ k = some 1) : ∃ s t, fX5_word σ k = some s ∧ fX9_takes τ k = some (1, t) ∧ fX9_advance τ = some t ∧ rr_L s t n ∧ rr_F σ τ s t := by
  obtain ⟨s, t, q1, q2, q3, q4⟩ := rr_step h hg
  refine ⟨s, t, ?_, ?_, q2, q3, q4⟩
  · unfold fX5_word
    rw [e1]
    show (fX5_step σ).bind _ = _
    rw [q1]
    rfl
  · unfold fX9_takes
    rw [e2]
    show (fX9_advance τ).bind _ = _
    rw [q2]
    rfl
theorem rr_M0 {q b i0 : Nat} (h : rr_N l σ τ n) : rr_M l q b i0 0 σ τ n := ⟨h.1, h.2.1, fun x => ⟨h.2.2 x, fun t ht => absurd ht (by omega)⟩⟩
theorem rr_g10 {p : Nat} (hc : σ.1 9 5 = nI m) (hm : m < 6) (hp : p < 2) : rr_reg 10 11 (2 * m + p) σ := Or.inl ⟨rfl, rfl, by omega, by rw [hc, nI_toInt (by omega)]; omega⟩
theorem rr_g11 {p : Nat} (hc : σ.1 9 6 = nI m) (hm : m < 5) (hp : p < 2) : rr_reg 11 23 (2 * m + p) σ := Or.inr (Or.inl ⟨rfl, rfl, by omega, by rw [hc, nI_toInt (by omega)]; omega⟩)
theorem rr_g12 {p : Nat} (hc : σ.1 9 7 = nI m) (hm : m < 8) (hp : p < 2) : rr_reg 12 33 (2 * m + p) σ := Or.inr (Or.inr (Or.inl ⟨rfl, rfl, by omega, by rw [hc, nI_toInt (by omega)]; omega⟩))
theorem rr_g13 {p : Nat} (hc : σ.1 9 8 = nI m) (hm : m < 6) (hp : p < 5) : rr_reg 13 49 (5 * m + p) σ := Or.inr (Or.inr (Or.inr ⟨rfl, rfl, by omega, by rw [hc, nI_toInt (by omega)]; omega⟩))
theorem rr_nose (h : rr_N l σ τ n) (hg : σ.1 17 2 = 0) (hm : σ.1 9 5 = nI m) (h6 : m < 6) (e1 : fX5_isWord σ 6 = some 1) (e2 : fX9_is τ 6 = some 1) : rr_ok (fX5_readNose σ (nI m)) ((BX9_readNext_143 τ).bind fun t => BX9_readLine_21 t) (fun σ' τ' => rr_N (l + 1) σ' τ' n) := by
  obtain ⟨s, t, ew, et, _, qL, qF⟩ := rr_begin h.1 hg e1 e2
  have hgm : τ.1 0 12 = 0 := h.1.2.2.2.1.trans hg
  have c0 := h.2.2 hg
  have t5 : t.1 6 5 = nI m := by rw [qF.2.1 6 (by decide), ← c0.2.1 5 (by decide)]; exact hm
  have M0 : rr_M l 10 11 (2 * m) 0 s t n := rr_MF (by decide) (rr_M0 h) qL qF
  have s9 : s.1 9 = σ.1 9 := qF.1.1 9 (by decide)
  unfold fX5_readNose BX9_readNext_143
  rw [if_pos (show nI m < 6 from (nI_ltI (b := 6) (by omega) (by decide)).mpr h6), ew, rm_good, if_pos hgm, zk_2n m, show nI (2 * m) + (1 : Int32) = nI (2 * m + 1) from nI_1 _]
  refine rr_Bb (rr_br (Q := fun u => u = 1) ⟨1, rfl, rfl⟩ (fun u hu => ?_))
  subst hu
  refine rr_Bi (fun c => absurd c (by decide)) (fun _ => ?_)
  rw [et]
  refine rr_Bb (rr_br (Q := fun u => u = ((1 : Int32), t)) ⟨_, rfl, rfl⟩ (fun u hu => ?_))
  subst hu
  refine rr_Bi (fun c => absurd (show (1 : Int32) = 0 from c) (by decide)) (fun _ => ?_)
  refine rr_Bg (by decide) (rr_Bl (fun y => y = nI (11 + 2 * m)) (by show (11 : Int32) + ((2 : Int32) * t.1 6 5) = _; rw [t5, zk_2n]; exact nI_add 11 (2 * m)) (fun y hy => ?_))
  subst hy
  rw [show nI (11 + 2 * m) + (1 : Int32) = nI (11 + 2 * m + 1) from nI_1 _, nI_clamp (show 11 + 2 * m < 2 ^ 31 by omega), nI_clamp (show 11 + 2 * m + 1 < 2 ^ 31 by omega), nI_clamp (show 2 * m < 2 ^ 31 by omega), nI_clamp (show 2 * m + 1 < 2 ^ 31 by omega)]
  refine rr_bl (Q := fun u => u = s) ⟨s, rfl, rfl⟩ (fun u hu => ?_)
  subst hu
  refine rr_gl (by rw [qL.2.2.1]; rfl) (rr_Bb (rr_bd (rr_num1 qL (by decide) (by decide)) (fun r r' q2 => ?_)))
  have M1 := rr_MF (by decide) M0 q2.1 q2.2.1
  have r9 : r.2.1 9 5 = nI m := by rw [q2.2.1.1.1 9 (by decide), s9]; exact hm
  refine rr_gl (sn_in_nI (by omega) (by decide)) (rr_ll (fun z => z = sn_pI r.2 10 (2 * m + 0) r.1) rfl (fun z hz => ?_))
  refine rr_Bg (sn_in_nI (by omega) (by decide)) (rr_Bl (fun w => w = sn_pI r'.2 6 (11 + 2 * m + 0) r'.1) rfl (fun w hw => ?_))
  have M2 : rr_M l 10 11 (2 * m) 1 z w n := by
    rw [hz, hw]
    exact rr_Mw M1 (fun _ => rr_g10 r9 h6 (by decide)) (by decide) (by decide) (fun x => (q2.2.2 x).1)
  have z9 : z.1 9 5 = nI m := by rw [hz, pI_ne (by decide)]; exact r9
  refine rr_Bb (rr_tell (by decide) M2.1 (by decide) (by decide) (fun a b k1 k2 k3 => ?_))
  have M3 := rr_MF (by decide) M2 k1 k2
  have a9 : a.2.1 9 5 = nI m := by rw [k2.1.1 9 (by decide)]; exact z9
  refine rr_gl (sn_in_nI (by omega) (by decide)) (rr_ll (fun z => z = sn_pI a.2 10 (2 * m + 1) a.1) rfl (fun z2 hz2 => ?_))
  refine rr_Bg (sn_in_nI (by omega) (by decide)) (rr_Bl (fun w => w = sn_pI b.2 6 (11 + 2 * m + 1) b.1) rfl (fun w2 hw2 => ?_))
  have M4 : rr_M l 10 11 (2 * m) 2 z2 w2 n := by
    rw [hz2, hw2]
    exact rr_Mw M3 (fun _ => rr_g10 a9 h6 (by decide)) (by decide) (by decide) (fun x => (k3 x).1)
  have y9 : z2.1 9 5 = nI m := by rw [hz2, pI_ne (by decide)]; exact a9
  refine rr_Bg (by decide) (rr_Bg (by decide) (rr_Bl (fun w => w = sn_pI w2 6 5 (w2.1 6 5 + (1 : Int32))) rfl (fun w3 hw3 => ?_)))
  subst hw3
  exact rr_fin (c := 5) M4 (Or.inl ⟨rfl, rfl, rfl, rfl, h6⟩) rfl y9
theorem rr_gust (h : rr_N l σ τ n) (hg : σ.1 17 2 = 0) (hm : σ.1 9 6 = nI m) (h6 : m < 5) (e0 : fX9_is τ 6 = some 0) (e1 : fX5_isWord σ 7 = some 1) (e2 : fX9_is τ 7 = some 1) : rr_ok (fX5_readGust σ (nI m)) ((BX9_readNext_143 τ).bind fun t => BX9_readLine_21 t) (fun σ' τ' => rr_N (l + 1) σ' τ' n) := by
  obtain ⟨s, t, ew, et, _, qL, qF⟩ := rr_begin h.1 hg e1 e2
  have hgm : τ.1 0 12 = 0 := h.1.2.2.2.1.trans hg
  have c0 := h.2.2 hg
  have t5 : t.1 6 6 = nI m := by rw [qF.2.1 6 (by decide), ← c0.2.1 6 (by decide)]; exact hm
  have M0 : rr_M l 11 23 (2 * m) 0 s t n := rr_MF (by decide) (rr_M0 h) qL qF
  have s9 : s.1 9 = σ.1 9 := qF.1.1 9 (by decide)
  have e6 : fX9_takes τ 6 = some (0, τ) := by
    unfold fX9_takes
    rw [e0]
    rfl
  unfold fX5_readGust BX9_readNext_143
  rw [if_pos (show nI m < 5 from (nI_ltI (b := 5) (by omega) (by decide)).mpr h6), ew, rm_good, if_pos hgm, zk_2n m, show nI (2 * m) + (1 : Int32) = nI (2 * m + 1) from nI_1 _]
  refine rr_Bb (rr_br (Q := fun u => u = 1) ⟨1, rfl, rfl⟩ (fun u hu => ?_))
  subst hu
  refine rr_Bi (fun c => absurd c (by decide)) (fun _ => ?_)
  rw [e6]
  refine rr_Bb (rr_br (Q := fun u => u = ((0 : Int32), τ)) ⟨_, rfl, rfl⟩ (fun u hu => ?_))
  subst hu
  refine rr_Bi (fun _ => ?_) (fun c => absurd (show (0 : Int32) = 0 from rfl) c)
  show rr_ok _ (((fX9_takes τ 7).bind _).bind _) _
  rw [et]
  refine rr_Bb (rr_br (Q := fun u => u = ((1 : Int32), t)) ⟨_, rfl, rfl⟩ (fun u hu => ?_))
  subst hu
  refine rr_Bi (fun c => absurd (show (1 : Int32) = 0 from c) (by decide)) (fun _ => ?_)
  refine rr_Bg (by decide) (rr_Bl (fun y => y = nI (23 + 2 * m)) (by show (23 : Int32) + ((2 : Int32) * t.1 6 6) = _; rw [t5, zk_2n]; exact nI_add 23 (2 * m)) (fun y hy => ?_))
  subst hy
  rw [show nI (23 + 2 * m) + (1 : Int32) = nI (23 + 2 * m + 1) from nI_1 _, nI_clamp (show 23 + 2 * m < 2 ^ 31 by omega), nI_clamp (show 23 + 2 * m + 1 < 2 ^ 31 by omega), nI_clamp (show 2 * m < 2 ^ 31 by omega), nI_clamp (show 2 * m + 1 < 2 ^ 31 by omega)]
  refine rr_bl (Q := fun u => u = s) ⟨s, rfl, rfl⟩ (fun u hu => ?_)
  subst hu
  refine rr_gl (by rw [qL.2.2.1]; rfl) (rr_Bb (rr_bd (rr_num1 qL (by decide) (by decide)) (fun r r' q2 => ?_)))
  have M1 := rr_MF (by decide) M0 q2.1 q2.2.1
  have r9 : r.2.1 9 6 = nI m := by rw [q2.2.1.1.1 9 (by decide), s9]; exact hm
  refine rr_gl (sn_in_nI (by omega) (by decide)) (rr_ll (fun z => z = sn_pI r.2 11 (2 * m + 0) r.1) rfl (fun z hz => ?_))
  refine rr_Bg (sn_in_nI (by omega) (by decide)) (rr_Bl (fun w => w = sn_pI r'.2 6 (23 + 2 * m + 0) r'.1) rfl (fun w hw => ?_))
  have M2 : rr_M l 11 23 (2 * m) 1 z w n := by
    rw [hz, hw]
    exact rr_Mw M1 (fun _ => rr_g11 r9 h6 (by decide)) (by decide) (by decide) (fun x => (q2.2.2 x).1)
  have z9 : z.1 9 6 = nI m := by rw [hz, pI_ne (by decide)]; exact r9
  refine rr_Bb (rr_tell (by decide) M2.1 (by decide) (by decide) (fun a b k1 k2 k3 => ?_))
  have M3 := rr_MF (by decide) M2 k1 k2
  have a9 : a.2.1 9 6 = nI m := by rw [k2.1.1 9 (by decide)]; exact z9
  refine rr_gl (sn_in_nI (by omega) (by decide)) (rr_ll (fun z => z = sn_pI a.2 11 (2 * m + 1) a.1) rfl (fun z2 hz2 => ?_))
  refine rr_Bg (sn_in_nI (by omega) (by decide)) (rr_Bl (fun w => w = sn_pI b.2 6 (23 + 2 * m + 1) b.1) rfl (fun w2 hw2 => ?_))
  have M4 : rr_M l 11 23 (2 * m) 2 z2 w2 n := by
    rw [hz2, hw2]
    exact rr_Mw M3 (fun _ => rr_g11 a9 h6 (by decide)) (by decide) (by decide) (fun x => (k3 x).1)
  have y9 : z2.1 9 6 = nI m := by rw [hz2, pI_ne (by decide)]; exact a9
  refine rr_Bg (by decide) (rr_Bg (by decide) (rr_Bl (fun w => w = sn_pI w2 6 6 (w2.1 6 6 + (1 : Int32))) rfl (fun w3 hw3 => ?_)))
  subst hw3
  exact rr_fin (c := 6) M4 (Or.inr (Or.inl ⟨rfl, rfl, rfl, rfl, h6⟩)) rfl y9
end
end
section
section
variable {σ τ : sn_S} {n m : Nat} {l : Int32} {α β : Type} {P : α → β → Prop}
theorem rr_numG (h : rr_L σ τ n) {lo lo' hi : Int32} (hlo : σ.1 17 2 = 0 → lo = lo' ∧ 0 ≤ lo.toInt) (hhi : hi.toInt ≤ 999) : rr_ok (fX5_number σ lo hi (-1)) (fX9_number τ lo' hi) (fun r r' => rr_L r.2 r'.2 n ∧ rr_F σ τ r.2 r'.2 ∧ (r.2.1 17 2 = 0 → r.1 = r'.1)) := by
  by_cases hg : σ.1 17 2 = 0
  · rw [← (hlo hg).1]
    exact rr_w (rr_num1 h (hlo hg).2 hhi) (fun a b q => ⟨q.1, q.2.1, fun x => (q.2.2 x).1⟩)
  · rw [rm_numbad (show τ.1 0 12 ≠ 0 by rw [h.2.2.2.1]; exact hg)]
    obtain ⟨r, e1, q1, q2⟩ := rc_numF h.2.1 hg (lo := lo) (hi := hi) (but := -1)
    rw [e1]
    have k := rr_keep h hg q1 q2
    exact rr_some ⟨k.1, k.2, fun x => absurd (q1.2.1.symm.trans x) hg⟩
theorem rr_tellG {k : Nat} (hk : k < 16) (h : rr_L σ τ n) {lo lo' hi : Int32} (hlo : σ.1 17 2 = 0 → lo = lo' ∧ 0 ≤ lo.toInt) (hhi : hi.toInt ≤ 999) {f : Int32 × sn_S → Option α} {g : Int32 × sn_S → Option β}
    (K : ∀ r r', rr_L r.2 r'.2 n → rr_F σ τ r.2 r'.2 → (r.2.1 17 2 = 0 → r.1 = r'.1) → rr_ok (f r) (g r') P) : rr_ok ((fX5_word σ k).bind fun t => sn_gd (sn_R t 17 7 == some 8) ((fX5_number t lo hi (-1)).bind f)) ((fX9_told τ k lo' hi).bind g) P := by
  unfold fX9_told
  refine rr_Bb (rr_bd (rr_word hk h) (fun s t q => rr_gl (by rw [q.1.2.2.1]; rfl) (rr_Bb ?_)))
  exact rr_bd (rr_numG q.1 (fun x => hlo (q.2.2.2.2.2 x)) hhi) (fun r r' q2 => K r r' q2.1 (rr_Ft q.2 q2.2.1) q2.2.2)
/-- a net's second end: not the first -/
theorem rr_net2 {hi one : Int32} {y : Nat} (hy : y < 119) (h : rr_L σ τ n) (h5 : hi.toInt ≤ 5) (ho : σ.1 17 2 = 0 → τ.1 6 y = one ∧ 0 ≤ one.toInt ∧ one.toInt ≤ 5) {f : Int32 × sn_S → Option α} {G : Int32 × sn_S → Option sn_S} {g : sn_S → Option β} {R67 : sn_S → Option sn_S} (h67 : ∀ z, R67 z = (fX9_number z 0 hi).bind G)
    (K : ∀ r r', rr_L r.2 r'.2 n → rr_F σ τ r.2 r'.2 → (r.2.1 17 2 = 0 → r.1 = r'.1) → rr_ok (f r) ((G r').bind g) P) :
    rr_ok ((fX5_number σ 0 hi one).bind f) (((fX9_good τ).bind fun t => if t = 0 then R67 τ else if sn_I τ 0 10 = 2 then sn_gd (sn_in (nI y) 119) (if sn_I τ 0 11 = sn_I τ 6 y then (fX9_errs τ 2).bind fun t => R67 t else R67 τ) else R67 τ).bind g) P := by
  have z0 : (0 : Int32).toInt = 0 := by decide
  by_cases hc : σ.1 17 2 = 0 ∧ σ.1 17 6 = 2 ∧ τ.1 0 11 = one
  · obtain ⟨hg, c6, c11⟩ := hc
    have h' := h
    obtain ⟨ht, hp, hr, h12, h13, hs⟩ := h'
    obtain ⟨a, e, tc, tm, lae, len, k4, hE⟩ := hs hg
    have hB : ∀ k, k < n → rc_B σ k = rm_B τ k := fun k hk => (ht.2.2.2 k hk).1
    have hkk : rd_k (rc_B σ) n = rd_k (rm_B τ) n := rd_kB hB
    have k5 := rd_k5 (rc_B σ) n a
    have k2 : rd_k (rc_B σ) n a = 2 := (nI_eq (b := 2) (by omega) (by decide)).mp (tc.2.2.symm.trans c6)
    have k2m : rd_k (rm_B τ) n a = 2 := by rw [← hkk]; exact k2
    have hv := rc_value ht.2.2.1 tc (rd_EB hkk.symm hE) k2
    have hw := tm.2.2.2 k2m
    have hN : rd_num (rc_B σ) a (e - a) = rd_num (rm_B τ) a (e - a) := rd_numB hB (e - a) (by omega)
    rw [hN] at hv
    have hone := ho hg
    have eW : nI (min 99999 (rd_num (rm_B τ) a (e - a))) = one := hw.symm.trans c11
    have eV : nI (min 1000000 (rd_num (rm_B τ) a (e - a))) = one := by
      have h1 := congrArg Int32.toInt eW
      generalize rd_num (rm_B τ) a (e - a) = N at h1 eW ⊢
      rw [nI_toInt (by have := Nat.min_le_left 99999 N; omega)] at h1
      have h2 : min 99999 N ≤ 5 := by omega
      have h3 : N ≤ 99999 := by
        by_cases x : N ≤ 99999
        · exact x
        · rw [Nat.min_eq_left (by omega)] at h2
          omega
      rw [← eW, Nat.min_eq_right h3, Nat.min_eq_right (by omega)]
    have hgm : τ.1 0 12 = 0 := h12.trans hg
    have eL : fX5_number σ 0 hi one = BX5_number_39 σ one := by
      unfold fX5_number
      rw [if_pos (show sn_I σ 17 6 = 2 from c6), hv, eV]
      show (if one < 0 then BX5_number_39 σ one else if hi < one then BX5_number_39 σ one else if one = one then BX5_number_39 σ one else BX5_number_44 σ one) = _
      by_cases d1 : one < 0
      · rw [if_pos d1]
      · rw [if_neg d1]
        by_cases d2 : hi < one
        · rw [if_pos d2]
        · rw [if_neg d2, if_pos rfl]
    obtain ⟨s, t, q1, q2, q3, q4, q5⟩ := rr_39 h (v := one)
    have eR : ((fX9_good τ).bind fun t => if t = 0 then R67 τ else if sn_I τ 0 10 = 2 then sn_gd (sn_in (nI y) 119) (if sn_I τ 0 11 = sn_I τ 6 y then (fX9_errs τ 2).bind fun t => R67 t else R67 τ) else R67 τ) = R67 t := by
      rw [rm_good, if_pos hgm, bd_t1, if_pos (show sn_I τ 0 10 = 2 by show τ.1 0 10 = 2; rw [tm.2.2.1, k2m]; rfl), sn_in_nI hy (by decide), gd_T, if_pos (show sn_I τ 0 11 = sn_I τ 6 y from c11.trans hone.1.symm), q2]
      rfl
    rw [eL, eR, q1, h67, rm_numbad (by rw [q3.2.2.2.1]; exact q5)]
    show rr_ok (f s) ((G ((0 : Int32), t)).bind g) P
    exact K s ((0 : Int32), t) q3 q4 (fun x => absurd x q5)
  · have eR : ((fX9_good τ).bind fun t => if t = 0 then R67 τ else if sn_I τ 0 10 = 2 then sn_gd (sn_in (nI y) 119) (if sn_I τ 0 11 = sn_I τ 6 y then (fX9_errs τ 2).bind fun t => R67 t else R67 τ) else R67 τ) = R67 τ := by
      rw [rm_good]
      by_cases hgm : τ.1 0 12 = 0
      · rw [if_pos hgm]
        rw [bd_t1]
        by_cases c10 : sn_I τ 0 10 = 2
        · rw [if_pos c10, sn_in_nI hy (by decide), gd_T]
          have hg : σ.1 17 2 = 0 := h.2.2.2.1.symm.trans hgm
          refine if_neg (fun x => hc ⟨hg, ?_, ?_⟩)
          · obtain ⟨a, e, tc, tm, lae, len, k4, hE⟩ := h.2.2.2.2.2 hg
            have hkk : rd_k (rc_B σ) n = rd_k (rm_B τ) n := rd_kB (fun k hk => (h.1.2.2.2 k hk).1)
            have k5 := rd_k5 (rm_B τ) n a
            have ht5 : rd_t (rd_k (rm_B τ) n a) ≤ 5 := by unfold rd_t; split <;> omega
            have x2 : nI (rd_t (rd_k (rm_B τ) n a)) = nI 2 := tm.2.2.1.symm.trans c10
            have x3 := (nI_eq (by omega) (by decide)).mp x2
            have x4 : rd_k (rm_B τ) n a = 2 := by
              unfold rd_t at x3
              split at x3
              · omega
              · exact x3
            rw [tc.2.2, hkk, x4]
            rfl
          · have x : τ.1 0 11 = τ.1 6 y := x
            exact x.trans (ho hg).1
        · rw [if_neg c10]
      · rw [if_neg hgm]
        rfl
    rw [eR, h67]
    refine rr_Bb (rr_bd (rr_num h (by decide) (by omega) (fun v hg c6 hv e1 => hc ⟨hg, c6, ?_⟩)) (fun r r' q => K r r' q.1 q.2.1 (fun x => (q.2.2 x).1)))
    obtain ⟨a, e, tc, tm, lae, len, k4, hE⟩ := h.2.2.2.2.2 hg
    have hB : ∀ k, k < n → rc_B σ k = rm_B τ k := fun k hk => (h.1.2.2.2 k hk).1
    have hkk : rd_k (rc_B σ) n = rd_k (rm_B τ) n := rd_kB hB
    have k5 := rd_k5 (rc_B σ) n a
    have k2 : rd_k (rc_B σ) n a = 2 := (nI_eq (b := 2) (by omega) (by decide)).mp (tc.2.2.symm.trans c6)
    have hv2 := rc_value h.1.2.2.1 tc (rd_EB hkk.symm hE) k2
    rw [hv] at hv2
    have h2 : v = nI (min 1000000 (rd_num (rc_B σ) a (e - a))) := Option.some.inj hv2
    have hN : rd_num (rc_B σ) a (e - a) = rd_num (rm_B τ) a (e - a) := rd_numB hB (e - a) (by omega)
    have hw := tm.2.2.2 (by rw [← hkk]; exact k2)
    rw [hw]
    rw [hN, e1] at h2
    have h3 := congrArg Int32.toInt h2
    have hone := ho hg
    generalize rd_num (rm_B τ) a (e - a) = N at h2 h3 ⊢
    rw [nI_toInt (by have := Nat.min_le_left 1000000 N; omega)] at h3
    have h4 : min 1000000 N ≤ 5 := by omega
    have h5 : N ≤ 1000000 := by
      by_cases x : N ≤ 1000000
      · exact x
      · rw [Nat.min_eq_left (by omega)] at h4
        omega
    rw [Nat.min_eq_right h5] at h4 h2
    rw [h2, Nat.min_eq_right (by omega)]
theorem rr_net (h : rr_N l σ τ n) (hg : σ.1 17 2 = 0) (hm : σ.1 9 7 = nI m) (h6 : m < 8) (e0 : fX9_is τ 6 = some 0) (e0' : fX9_is τ 7 = some 0) (e1 : fX5_isWord σ 8 = some 1) (e2 : fX9_is τ 8 = some 1) : rr_ok (fX5_readNet σ (nI m)) ((BX9_readNext_143 τ).bind fun t => BX9_readLine_21 t) (fun σ' τ' => rr_N (l + 1) σ' τ' n) := by
  obtain ⟨s, t, ew, et, _, qL, qF⟩ := rr_begin h.1 hg e1 e2
  have hgm : τ.1 0 12 = 0 := h.1.2.2.2.1.trans hg
  have c0 := h.2.2 hg
  have t7 : t.1 6 7 = nI m := by rw [qF.2.1 6 (by decide), ← c0.2.1 7 (by decide)]; exact hm
  have t5 : t.1 6 5 = σ.1 9 5 := by rw [qF.2.1 6 (by decide), ← c0.2.1 5 (by decide)]
  have M0 : rr_M l 12 33 (2 * m) 0 s t n := rr_MF (by decide) (rr_M0 h) qL qF
  have s9 : s.1 9 = σ.1 9 := qF.1.1 9 (by decide)
  have hi5 : (σ.1 9 5 - (1 : Int32)).toInt ≤ 5 ∧ -1 ≤ (σ.1 9 5 - (1 : Int32)).toInt := by
    have b5 := c0.1.1
    rw [Int32.toInt_sub, show (1 : Int32).toInt = 1 by decide, zs_bm ⟨by omega, by omega⟩]
    omega
  have e6 : fX9_takes τ 6 = some (0, τ) := by
    unfold fX9_takes
    rw [e0]
    rfl
  have e7 : fX9_takes τ 7 = some (0, τ) := by
    unfold fX9_takes
    rw [e0']
    rfl
  unfold fX5_readNet BX9_readNext_143
  rw [if_pos (show nI m < 8 from (nI_ltI (b := 8) (by omega) (by decide)).mpr h6), ew, rm_good, if_pos hgm, zk_2n m, show nI (2 * m) + (1 : Int32) = nI (2 * m + 1) from nI_1 _]
  refine rr_Bb (rr_br (Q := fun u => u = 1) ⟨1, rfl, rfl⟩ (fun u hu => ?_))
  subst hu
  refine rr_Bi (fun c => absurd c (by decide)) (fun _ => ?_)
  rw [e6]
  refine rr_Bb (rr_br (Q := fun u => u = ((0 : Int32), τ)) ⟨_, rfl, rfl⟩ (fun u hu => ?_))
  subst hu
  refine rr_Bi (fun _ => ?_) (fun c => absurd (show (0 : Int32) = 0 from rfl) c)
  show rr_ok _ (((fX9_takes τ 7).bind _).bind _) _
  rw [e7]
  refine rr_Bb (rr_br (Q := fun u => u = ((0 : Int32), τ)) ⟨_, rfl, rfl⟩ (fun u hu => ?_))
  subst hu
  refine rr_Bi (fun _ => ?_) (fun c => absurd (show (0 : Int32) = 0 from rfl) c)
  show rr_ok _ (((fX9_takes τ 8).bind _).bind _) _
  rw [et]
  refine rr_Bb (rr_br (Q := fun u => u = ((1 : Int32), t)) ⟨_, rfl, rfl⟩ (fun u hu => ?_))
  subst hu
  refine rr_Bi (fun c => absurd (show (1 : Int32) = 0 from c) (by decide)) (fun _ => rr_Bb ?_)
  unfold fX9_readNet
  refine rr_Bg (by decide) (rr_Bl (fun y => y = nI (33 + 2 * m)) (by show (33 : Int32) + ((2 : Int32) * t.1 6 7) = _; rw [t7, zk_2n]; exact nI_add 33 (2 * m)) (fun y hy => ?_))
  subst hy
  refine rr_Bg (by decide) (rr_Bl (fun y => y = σ.1 9 5 - (1 : Int32)) (by show t.1 6 5 - (1 : Int32) = _; rw [t5]) (fun y5 hy5 => ?_))
  subst hy5
  rw [nI_clamp (show 2 * m < 2 ^ 31 by omega), nI_clamp (show 2 * m + 1 < 2 ^ 31 by omega), nI_clamp (show 33 + 2 * m < 2 ^ 31 by omega)]
  refine rr_bl (Q := fun u => u = s) ⟨s, rfl, rfl⟩ (fun u hu => ?_)
  subst hu
  rw [show sn_I u (8 + 1) (5 : Int32).toNatClampNeg = σ.1 9 5 from by show u.1 9 5 = _; rw [s9]]
  refine rr_gl (by rw [qL.2.2.1]; rfl) (rr_gl (by decide) (rr_Bb (rr_bd (rr_num1 qL (by decide) (by omega)) (fun r r' q2 => ?_))))
  have M1 := rr_MF (by decide) M0 q2.1 q2.2.1
  have r9 : r.2.1 9 = σ.1 9 := by rw [q2.2.1.1.1 9 (by decide), s9]
  refine rr_gl (by rw [q2.1.2.2.1]; rfl) (rr_gl (sn_in_nI (by omega) (by decide)) (rr_ll (fun z => z = sn_pI r.2 12 (2 * m + 0) r.1) rfl (fun z hz => ?_)))
  refine rr_Bg (sn_in_nI (by omega) (by decide)) (rr_Bl (fun w => w = sn_pI r'.2 6 (33 + 2 * m + 0) r'.1) rfl (fun w hw => ?_))
  have M2 : rr_M l 12 33 (2 * m) 1 z w n := by
    rw [hz, hw]
    exact rr_Mw M1 (fun _ => rr_g12 (by rw [r9]; exact hm) h6 (by decide)) (by decide) (by decide) (fun x => (q2.2.2 x).1)
  have z9 : z.1 9 = σ.1 9 := by rw [hz, pI_ne (by decide)]; exact r9
  have zf : z.1 17 2 = r.2.1 17 2 := by rw [hz, pI_ne (by decide)]
  refine rr_gl (by rw [M2.1.2.2.1]; rfl) (rr_gl (by rw [M2.1.2.2.1]; rfl) (rr_gl (by decide) ?_))
  rw [show sn_I z (8 + 1) (5 : Int32).toNatClampNeg = σ.1 9 5 from by show z.1 9 5 = _; rw [z9]]
  refine rr_net2 (y := 33 + 2 * m) (R67 := fun x => BX9_readNet_67 x (nI (33 + 2 * m)) (σ.1 9 5 - (1 : Int32))) (by omega) M2.1 hi5.1 (fun x => ?_) (fun x => rfl) (fun a b k1 k2 k3 => ?_)
  · have q3 := q2.2.2 (zf.symm.trans x)
    refine ⟨?_, ?_, ?_⟩
    · rw [hw, show 33 + 2 * m + 0 = 33 + 2 * m from rfl, pI_self, q3.1]
    · have h1 := q3.2.1
      rw [show (0 : Int32).toInt = 0 by decide] at h1
      exact h1
    · have h1 := q3.2.2
      have h2 := hi5.1
      omega
  · have M3 := rr_MF (by decide) M2 k1 k2
    have a9 : a.2.1 9 = σ.1 9 := by rw [k2.1.1 9 (by decide)]; exact z9
    rw [show nI (33 + 2 * m) + (1 : Int32) = nI (33 + 2 * m + 1) from nI_1 _, nI_clamp (show 33 + 2 * m + 1 < 2 ^ 31 by omega)]
    refine rr_gl (sn_in_nI (by omega) (by decide)) (rr_ll (fun z => z = sn_pI a.2 12 (2 * m + 1) a.1) rfl (fun z2 hz2 => ?_))
    refine rr_Bg (sn_in_nI (by omega) (by decide)) (rr_Bl (fun w => w = sn_pI b.2 6 (33 + 2 * m + 1) b.1) rfl (fun w2 hw2 => ?_))
    have M4 : rr_M l 12 33 (2 * m) 2 z2 w2 n := by
      rw [hz2, hw2]
      exact rr_Mw M3 (fun _ => rr_g12 (by rw [a9]; exact hm) h6 (by decide)) (by decide) (by decide) k3
    have y9 : z2.1 9 7 = nI m := by rw [hz2, pI_ne (by decide), a9]; exact hm
    refine rr_Bg (by decide) (rr_Bg (by decide) (rr_Bl (fun w => w = sn_pI w2 6 7 (w2.1 6 7 + (1 : Int32))) rfl (fun w3 hw3 => ?_)))
    subst hw3
    exact rr_fin (c := 7) M4 (Or.inr (Or.inr (Or.inl ⟨rfl, rfl, rfl, rfl, h6⟩))) rfl y9
theorem rr_policy (h : rr_N l σ τ n) (hg : σ.1 17 2 = 0) (hm : σ.1 9 8 = nI m) (h6 : m < 6) (e0 : fX9_is τ 6 = some 0) (e0' : fX9_is τ 7 = some 0) (e0'' : fX9_is τ 8 = some 0) (e1 : fX5_isWord σ 9 = some 1) (e2 : fX9_is τ 9 = some 1) : rr_ok (fX5_readPolicy σ (nI m)) ((BX9_readNext_143 τ).bind fun t => BX9_readLine_21 t) (fun σ' τ' => rr_N (l + 1) σ' τ' n) := by
  obtain ⟨s, t, ew, et, ea, qL, qF⟩ := rr_begin h.1 hg e1 e2
  have hgm : τ.1 0 12 = 0 := h.1.2.2.2.1.trans hg
  have c0 := h.2.2 hg
  have t7 : t.1 6 8 = nI m := by rw [qF.2.1 6 (by decide), ← c0.2.1 8 (by decide)]; exact hm
  have t5 : t.1 6 5 = σ.1 9 5 := by rw [qF.2.1 6 (by decide), ← c0.2.1 5 (by decide)]
  have M0 : rr_M l 13 49 (5 * m) 0 s t n := rr_MF (by decide) (rr_M0 h) qL qF
  have s9 : s.1 9 = σ.1 9 := qF.1.1 9 (by decide)
  have hi5 : (σ.1 9 5 - (1 : Int32)).toInt ≤ 5 ∧ -1 ≤ (σ.1 9 5 - (1 : Int32)).toInt := by
    have b5 := c0.1.1
    rw [Int32.toInt_sub, show (1 : Int32).toInt = 1 by decide, zs_bm ⟨by omega, by omega⟩]
    omega
  have e6 : fX9_takes τ 6 = some (0, τ) := by
    unfold fX9_takes
    rw [e0]
    rfl
  have e7 : fX9_takes τ 7 = some (0, τ) := by
    unfold fX9_takes
    rw [e0']
    rfl
  have e8 : fX9_takes τ 8 = some (0, τ) := by
    unfold fX9_takes
    rw [e0'']
    rfl
  unfold fX5_readPolicy BX9_readNext_143
  rw [if_pos (show nI m < 6 from (nI_ltI (b := 6) (by omega) (by decide)).mpr h6), ew, rm_good, if_pos hgm]
  refine rr_ll (fun y => y = nI (5 * m)) (zk_5n m) (fun y hy => ?_)
  subst hy
  rw [show nI (5 * m) + (0 : Int32) = nI (5 * m + 0) from nI_add _ 0, show nI (5 * m) + (1 : Int32) = nI (5 * m + 1) from nI_add _ 1, show nI (5 * m) + (2 : Int32) = nI (5 * m + 2) from nI_add _ 2, show nI (5 * m) + (3 : Int32) = nI (5 * m + 3) from nI_add _ 3, show nI (5 * m) + (4 : Int32) = nI (5 * m + 4) from nI_add _ 4]
  refine rr_Bb (rr_br (Q := fun u => u = 1) ⟨1, rfl, rfl⟩ (fun u hu => ?_))
  subst hu
  refine rr_Bi (fun c => absurd c (by decide)) (fun _ => ?_)
  rw [e6]
  refine rr_Bb (rr_br (Q := fun u => u = ((0 : Int32), τ)) ⟨_, rfl, rfl⟩ (fun u hu => ?_))
  subst hu
  refine rr_Bi (fun _ => ?_) (fun c => absurd (show (0 : Int32) = 0 from rfl) c)
  show rr_ok _ (((fX9_takes τ 7).bind _).bind _) _
  rw [e7]
  refine rr_Bb (rr_br (Q := fun u => u = ((0 : Int32), τ)) ⟨_, rfl, rfl⟩ (fun u hu => ?_))
  subst hu
  refine rr_Bi (fun _ => ?_) (fun c => absurd (show (0 : Int32) = 0 from rfl) c)
  show rr_ok _ (((fX9_takes τ 8).bind _).bind _) _
  rw [e8]
  refine rr_Bb (rr_br (Q := fun u => u = ((0 : Int32), τ)) ⟨_, rfl, rfl⟩ (fun u hu => ?_))
  subst hu
  refine rr_Bi (fun _ => ?_) (fun c => absurd (show (0 : Int32) = 0 from rfl) c)
  show rr_ok _ (((fX9_advance τ).bind _).bind _) _
  rw [ea]
  refine rr_Bb (rr_br (Q := fun u => u = t) ⟨_, rfl, rfl⟩ (fun u hu => ?_))
  subst hu
  refine rr_Bb ?_
  unfold fX9_readPolicy
  refine rr_Bg (by decide) (rr_Bl (fun y => y = nI (49 + 5 * m)) (by show (49 : Int32) + ((5 : Int32) * u.1 6 8) = _; rw [t7, zk_5n]; exact nI_add 49 (5 * m)) (fun y hy => ?_))
  subst hy
  rw [show nI (49 + 5 * m) + (0 : Int32) = nI (49 + 5 * m + 0) from nI_add _ 0, show nI (49 + 5 * m) + (1 : Int32) = nI (49 + 5 * m + 1) from nI_add _ 1, show nI (49 + 5 * m) + (2 : Int32) = nI (49 + 5 * m + 2) from nI_add _ 2, show nI (49 + 5 * m) + (3 : Int32) = nI (49 + 5 * m + 3) from nI_add _ 3, show nI (49 + 5 * m) + (4 : Int32) = nI (49 + 5 * m + 4) from nI_add _ 4]
  rw [nI_clamp (show 49 + 5 * m + 0 < 2 ^ 31 by omega), nI_clamp (show 49 + 5 * m + 1 < 2 ^ 31 by omega), nI_clamp (show 49 + 5 * m + 2 < 2 ^ 31 by omega), nI_clamp (show 49 + 5 * m + 3 < 2 ^ 31 by omega), nI_clamp (show 49 + 5 * m + 4 < 2 ^ 31 by omega)]
  rw [nI_clamp (show 5 * m + 0 < 2 ^ 31 by omega), nI_clamp (show 5 * m + 1 < 2 ^ 31 by omega), nI_clamp (show 5 * m + 2 < 2 ^ 31 by omega), nI_clamp (show 5 * m + 3 < 2 ^ 31 by omega), nI_clamp (show 5 * m + 4 < 2 ^ 31 by omega)]
  rw [show sn_I u 6 (5 : Int32).toNatClampNeg = σ.1 9 5 from t5]
  refine rr_bl (Q := fun u => u = s) ⟨s, rfl, rfl⟩ (fun v hv => ?_)
  subst hv
  rw [show sn_I v (8 + 1) (5 : Int32).toNatClampNeg = σ.1 9 5 from by show v.1 9 5 = _; rw [s9]]
  refine rr_gl (by rw [qL.2.2.1]; rfl) (rr_gl (by rw [qL.2.2.1]; rfl) (rr_gl (by decide) (rr_Bg (by decide) (rr_Bb (rr_bd (rr_num1 qL (by decide) (by omega)) (fun r r' q2 => ?_))))))
  have M1 := rr_MF (by decide) M0 q2.1 q2.2.1
  have r9 : r.2.1 9 8 = nI m := by rw [q2.2.1.1.1 9 (by decide), s9]; exact hm
  refine rr_gl (sn_in_nI (by omega) (by decide)) (rr_ll (fun z => z = sn_pI r.2 13 (5 * m + 0) r.1) rfl (fun z hz => ?_))
  refine rr_Bg (sn_in_nI (by omega) (by decide)) (rr_Bl (fun w => w = sn_pI r'.2 6 (49 + 5 * m + 0) r'.1) rfl (fun w hw => ?_))
  have M2 : rr_M l 13 49 (5 * m) 1 z w n := by
    rw [hz, hw]
    exact rr_Mw M1 (fun _ => rr_g13 r9 h6 (by decide)) (by decide) (by decide) (fun x => (q2.2.2 x).1)
  have z9 : z.1 9 8 = nI m := by rw [hz, pI_ne (by decide)]; exact r9
  refine rr_Bb (rr_tell2 (by decide) M2.1 (by decide) (by decide) (fun a b k1 k2 k3 => ?_))
  have M3 := rr_MF (by decide) M2 k1 k2
  have a9 : a.2.1 9 8 = nI m := by rw [k2.1.1 9 (by decide)]; exact z9
  refine rr_gl (by rw [k1.2.2.1]; rfl) (rr_gl (sn_in_nI (by omega) (by decide)) (rr_ll (fun z => z = sn_pI a.2 13 (5 * m + 1) a.1) rfl (fun z2 hz2 => ?_)))
  refine rr_Bg (sn_in_nI (by omega) (by decide)) (rr_Bl (fun w => w = sn_pI b.2 6 (49 + 5 * m + 1) b.1) rfl (fun w2 hw2 => ?_))
  have M4 : rr_M l 13 49 (5 * m) 2 z2 w2 n := by
    rw [hz2, hw2]
    exact rr_Mw M3 (fun _ => rr_g13 a9 h6 (by decide)) (by decide) (by decide) (fun x => (k3 x).1)
  have y9 : z2.1 9 8 = nI m := by rw [hz2, pI_ne (by decide)]; exact a9
  refine rr_Bg (sn_in_nI (by omega) (by decide)) ?_
  have w2v : sn_I w2 6 (49 + 5 * m + 1) = b.1 := by rw [hw2]; exact pI_self
  rw [w2v]
  have zf2 : z2.1 17 2 = a.2.1 17 2 := by rw [hz2, pI_ne (by decide)]
  refine rr_Bb (rr_tellG (by decide) M4.1 (fun x => ⟨(k3 (zf2.symm.trans x)).1, ?_⟩) (by decide) (fun a3 b3 p1 p2 p3 => ?_))
  · have k4 := (k3 (zf2.symm.trans x)).2.1
    rw [show (0 : Int32).toInt = 0 by decide] at k4
    exact k4
  have M5 := rr_MF (by decide) M4 p1 p2
  have x9 : a3.2.1 9 8 = nI m := by rw [p2.1.1 9 (by decide)]; exact y9
  refine rr_gl (sn_in_nI (by omega) (by decide)) (rr_ll (fun z => z = sn_pI a3.2 13 (5 * m + 2) a3.1) rfl (fun z3 hz3 => ?_))
  refine rr_Bg (sn_in_nI (by omega) (by decide)) (rr_Bl (fun w => w = sn_pI b3.2 6 (49 + 5 * m + 2) b3.1) rfl (fun w3 hw3 => ?_))
  have M6 : rr_M l 13 49 (5 * m) 3 z3 w3 n := by
    rw [hz3, hw3]
    exact rr_Mw M5 (fun _ => rr_g13 x9 h6 (by decide)) (by decide) (by decide) p3
  have v9 : z3.1 9 8 = nI m := by rw [hz3, pI_ne (by decide)]; exact x9
  refine rr_Bb (rr_tell (by decide) M6.1 (by decide) (by decide) (fun a4 b4 p1 p2 p3 => ?_))
  have M7 := rr_MF (by decide) M6 p1 p2
  have u9 : a4.2.1 9 8 = nI m := by rw [p2.1.1 9 (by decide)]; exact v9
  refine rr_gl (sn_in_nI (by omega) (by decide)) (rr_ll (fun z => z = sn_pI a4.2 13 (5 * m + 3) a4.1) rfl (fun z4 hz4 => ?_))
  refine rr_Bg (sn_in_nI (by omega) (by decide)) (rr_Bl (fun w => w = sn_pI b4.2 6 (49 + 5 * m + 3) b4.1) rfl (fun w4 hw4 => ?_))
  have M8 : rr_M l 13 49 (5 * m) 4 z4 w4 n := by
    rw [hz4, hw4]
    exact rr_Mw M7 (fun _ => rr_g13 u9 h6 (by decide)) (by decide) (by decide) (fun x => (p3 x).1)
  have t9 : z4.1 9 8 = nI m := by rw [hz4, pI_ne (by decide)]; exact u9
  refine rr_Bb (rr_tell (by decide) M8.1 (by decide) (by decide) (fun a5 b5 p1 p2 p3 => ?_))
  have M9 := rr_MF (by decide) M8 p1 p2
  have u9 : a5.2.1 9 8 = nI m := by rw [p2.1.1 9 (by decide)]; exact t9
  refine rr_gl (sn_in_nI (by omega) (by decide)) (rr_ll (fun z => z = sn_pI a5.2 13 (5 * m + 4) a5.1) rfl (fun z5 hz5 => ?_))
  refine rr_Bg (sn_in_nI (by omega) (by decide)) (rr_Bl (fun w => w = sn_pI b5.2 6 (49 + 5 * m + 4) b5.1) rfl (fun w5 hw5 => ?_))
  have M10 : rr_M l 13 49 (5 * m) 5 z5 w5 n := by
    rw [hz5, hw5]
    exact rr_Mw M9 (fun _ => rr_g13 u9 h6 (by decide)) (by decide) (by decide) (fun x => (p3 x).1)
  have o9 : z5.1 9 8 = nI m := by rw [hz5, pI_ne (by decide)]; exact u9
  refine rr_Bg (by decide) (rr_Bg (by decide) (rr_Bl (fun w => w = sn_pI w5 6 8 (w5.1 6 8 + (1 : Int32))) rfl (fun w6 hw6 => ?_)))
  subst hw6
  exact rr_fin (c := 8) M10 (Or.inr (Or.inr (Or.inr ⟨rfl, rfl, rfl, rfl, h6⟩))) rfl o9
end
end
section
/-! a row of either kind -/
section
variable {σ τ : sn_S} {n : Nat} {l : Int32}
theorem rr_Nw9 {k : Nat} {v w : Int32} (h : rr_N l σ τ n) (hk : k < 5) (hv : σ.1 17 2 = 0 → v = w) : rr_N l (sn_pI σ 9 k v) (sn_pI τ 6 k w) n := by
  refine ⟨rr_Lw (by decide) (by decide) h.1, by rw [pI_slot (by omega)]; exact h.2.1, fun x => ?_⟩
  rw [pI_ne (by decide)] at x
  obtain ⟨hb, h9, h0, h1, h2, h3⟩ := h.2.2 x
  have e5 : ∀ c, 5 ≤ c → (sn_pI σ 9 k v).1 9 c = σ.1 9 c := fun c hc => pI_slot (by omega)
  have e6 : ∀ c, 5 ≤ c → (sn_pI τ 6 k w).1 6 c = τ.1 6 c := fun c hc => pI_slot (by omega)
  have eo : ∀ q, q ≠ 9 → (sn_pI σ 9 k v).1 q = σ.1 q := fun q hq => pI_ne hq
  unfold rr_c
  rw [e5 5 (by decide), e5 6 (by decide), e5 7 (by decide), e5 8 (by decide), e5 9 (by decide), eo 10 (by decide), eo 11 (by decide), eo 12 (by decide), eo 13 (by decide)]
  refine ⟨hb, fun c hc => ?_, fun i hi => by rw [e6 _ (by omega)]; exact h0 i hi, fun i hi => by rw [e6 _ (by omega)]; exact h1 i hi, fun i hi => by rw [e6 _ (by omega)]; exact h2 i hi, fun i hi => by rw [e6 _ (by omega)]; exact h3 i hi⟩
  by_cases e : c = k
  · subst e
    rw [pI_self, pI_self]
    exact hv x
  · rw [pI_slot e, pI_slot e]
    exact h9 c hc
theorem rr_first (h : rr_N l σ τ n) : rr_ok (fX5_readHouse σ) ((fX9_readFirst τ).bind fun t => BX9_readLine_21 t) (fun σ' τ' => rr_N (l + 1) σ' τ' n) := by
  unfold fX5_readHouse fX9_readFirst
  refine rr_Bb (rr_bd (rr_word (by decide) h.1) (fun s t q => ?_))
  have N0 := rr_NF h q.1 q.2
  refine rr_Bb (rr_tell (by decide) N0.1 (by decide) (by decide) (fun a b p1 p2 p3 => ?_))
  have N1 := rr_NF N0 p1 p2
  refine rr_gl (by decide) (rr_ll (fun z => z = sn_pI a.2 9 0 a.1) rfl (fun z hz => rr_Bg (by decide) (rr_Bl (fun w => w = sn_pI b.2 6 0 b.1) rfl (fun w hw => ?_))))
  have N2 : rr_N l z w n := by
    rw [hz, hw]
    exact rr_Nw9 N1 (by decide) (fun x => (p3 x).1)
  refine rr_Bb (rr_tell (by decide) N2.1 (by decide) (by decide) (fun a b p1 p2 p3 => ?_))
  have N3 := rr_NF N2 p1 p2
  refine rr_gl (by decide) (rr_ll (fun z => z = sn_pI a.2 9 1 a.1) rfl (fun z hz => rr_Bg (by decide) (rr_Bl (fun w => w = sn_pI b.2 6 1 b.1) rfl (fun w hw => ?_))))
  have N4 : rr_N l z w n := by
    rw [hz, hw]
    exact rr_Nw9 N3 (by decide) (fun x => (p3 x).1)
  refine rr_Bb (rr_tell (by decide) N4.1 (by decide) (by decide) (fun a b p1 p2 p3 => ?_))
  have N5 := rr_NF N4 p1 p2
  refine rr_gl (by decide) (rr_ll (fun z => z = sn_pI a.2 9 2 a.1) rfl (fun z hz => rr_Bg (by decide) (rr_Bl (fun w => w = sn_pI b.2 6 2 b.1) rfl (fun w hw => ?_))))
  have N6 : rr_N l z w n := by
    rw [hz, hw]
    exact rr_Nw9 N5 (by decide) (fun x => (p3 x).1)
  refine rr_Bb (rr_tell (by decide) N6.1 (by decide) (by decide) (fun a b p1 p2 p3 => ?_))
  have N7 := rr_NF N6 p1 p2
  refine rr_gl (by decide) (rr_ll (fun z => z = sn_pI a.2 9 3 a.1) rfl (fun z hz => rr_Bg (by decide) (rr_Bl (fun w => w = sn_pI b.2 6 3 b.1) rfl (fun w hw => ?_))))
  have N8 : rr_N l z w n := by
    rw [hz, hw]
    exact rr_Nw9 N7 (by decide) (fun x => (p3 x).1)
  refine rr_Bb (rr_tell (by decide) N8.1 (by decide) (by decide) (fun a b p1 p2 p3 => ?_))
  have N9 := rr_NF N8 p1 p2
  refine rr_gl (by decide) (rr_ll (fun z => z = sn_pI a.2 9 4 a.1) rfl (fun z hz => rr_Bg (by decide) (rr_Bl (fun w => w = sn_pI b.2 6 4 b.1) rfl (fun w hw => ?_))))
  have N10 : rr_N l z w n := by
    rw [hz, hw]
    exact rr_Nw9 N9 (by decide) (fun x => (p3 x).1)
  obtain ⟨s2, w2, e1, e2, t2, ew, qL, qF⟩ := rr_sign N10.1
  rw [e1]
  show rr_ok (some s2) (BX9_readLine_21 w) _
  rw [e2, ew]
  have N11 := rr_NF N10 qL qF
  refine rr_some ⟨rr_Lw6 N11.1, by rw [pI_self, N11.2.1], fun x => ?_⟩
  have c := N11.2.2 x
  obtain ⟨hb, h9, h0, h1, h2, h3⟩ := c
  have e6 : ∀ k, k ≠ 10 → (sn_pI t2 6 10 (t2.1 6 10 + (1 : Int32))).1 6 k = t2.1 6 k := fun k hk => pI_slot hk
  exact ⟨hb, fun k hk => by rw [e6 k (by omega)]; exact h9 k hk, fun i hi => by rw [e6 _ (by omega)]; exact h0 i hi, fun i hi => by rw [e6 _ (by omega)]; exact h1 i hi, fun i hi => by rw [e6 _ (by omega)]; exact h2 i hi, fun i hi => by rw [e6 _ (by omega)]; exact h3 i hi⟩
theorem rr_91 (h : rr_N l σ τ n) {f : sn_S → Option sn_S} (hf : ∀ z : sn_S, z.1 0 12 ≠ 0 → f z = some z) {x : Int32} (hx : x ≠ 0) : rr_ok ((fX5_blame σ x).bind fun t => some t) (((fX9_errs τ x).bind fun t => f t).bind fun t => BX9_readLine_21 t) (fun σ' τ' => rr_N (l + 1) σ' τ' n) := by
  obtain ⟨s, t, e1, e2, q1, q2, q3⟩ := rr_blame h.1 hx
  rw [e1, e2]
  show rr_ok (some s) ((f t).bind fun t => BX9_readLine_21 t) _
  rw [hf t (by rw [q1.2.2.2.1]; exact q3)]
  exact rr_bad q1 q3 (by rw [q2.2.1 6 (by decide)]; exact h.2.1)
theorem rr_cnt {x : Int32} {b : Nat} (h : 0 ≤ x.toInt ∧ x.toInt ≤ (b : Int)) (hb : b < 100) : ∃ m, m ≤ b ∧ x = nI m := by
  obtain ⟨j, j1, j2⟩ := zs_val (x := x) (a := 0) (b := (b : Int)) h ⟨by decide, by omega⟩
  exact ⟨j, by omega, j2⟩
theorem rr_l0 (h : rr_N l σ τ n) (hg : σ.1 17 2 = 0) (c6 : fX5_isWord σ 6 = some 0) (m6 : fX9_is τ 6 = some 0) (c7 : fX5_isWord σ 7 = some 0) (m7 : fX9_is τ 7 = some 0) (c8 : fX5_isWord σ 8 = some 0) (m8 : fX9_is τ 8 = some 0) (c9 : fX5_isWord σ 9 = some 0) (m9 : fX9_is τ 9 = some 0) : rr_ok (fX5_readLine σ) ((fX9_readNext τ).bind fun t => BX9_readLine_21 t) (fun σ' τ' => rr_N (l + 1) σ' τ' n) := by
  have eL : fX5_readLine σ = (fX5_blame σ 1).bind fun t => some t := by
    unfold fX5_readLine
    rw [c6, bd_t0]
    rw [c7, bd_t0]
    rw [c8, bd_t0]
    rw [c9, bd_t0]
  have eR : fX9_readNext τ = (fX9_errs τ 1).bind fun t => BX9_readNext_51 t := by
    unfold fX9_readNext
    rw [m6, bd_t0]
    rw [m7, bd_t0]
    rw [m8, bd_t0]
    rw [m9]
    rfl
  rw [eL, eR]
  exact rr_91 h (fun z hz => rm_51bad hz) (by decide)
theorem rr_l9 (h : rr_N l σ τ n) (hg : σ.1 17 2 = 0) (c6 : fX5_isWord σ 6 = some 0) (m6 : fX9_is τ 6 = some 0) (c7 : fX5_isWord σ 7 = some 0) (m7 : fX9_is τ 7 = some 0) (c8 : fX5_isWord σ 8 = some 0) (m8 : fX9_is τ 8 = some 0) (c9 : fX5_isWord σ 9 = some 1) (m9 : fX9_is τ 9 = some 1) : rr_ok (fX5_readLine σ) ((fX9_readNext τ).bind fun t => BX9_readLine_21 t) (fun σ' τ' => rr_N (l + 1) σ' τ' n) := by
  have hc := h.2.2 hg
  obtain ⟨n8, b8, f8⟩ := rr_cnt (b := 6) hc.1.2.2.2.1 (by decide)
  have g8 : sn_I τ 6 (8 : Int32).toNatClampNeg = nI n8 := (hc.2.1 8 (by decide)).symm.trans f8
  have hR : (sn_R σ 17 7 == some 8) = true := by rw [h.1.2.2.1]; rfl
  have full : ∀ {m b : Nat}, m ≤ b → b < 100 → ¬ m < b → nI m = nI b := fun h1 h2 h3 => by rw [show _ = _ from Nat.le_antisymm h1 (by omega)]
  have eL : fX5_readLine σ = (fX5_readPolicy σ (nI n8)).bind fun t => some t := by
    unfold fX5_readLine
    rw [c6, bd_t0]
    rw [c7, bd_t0]
    rw [c8, bd_t0]
    rw [c9, bd_t1, show sn_I σ (8 + 1) (8 : Int32).toNatClampNeg = σ.1 9 8 from rfl]
    rw [hR, gd_T, f8]
    rfl
  have eR : fX9_readNext τ = if nI n8 = 6 then BX9_readNext_138 τ else BX9_readNext_143 τ := by
    have x1 : fX9_readNext τ = BX9_readNext_51 τ := by
      unfold fX9_readNext
      rw [m6, bd_t0]
      rw [m7, bd_t0]
      rw [m8, bd_t0]
      rw [m9]
      rfl
    rw [x1]
    unfold BX9_readNext_51
    rw [m6, bd_t0]
    unfold BX9_readNext_71
    rw [m7, bd_t0]
    unfold BX9_readNext_96
    rw [m8, bd_t0]
    unfold BX9_readNext_117
    rw [m9, g8]
    rfl
  rw [eL, eR]
  by_cases c : n8 < 6
  · rw [if_neg (fun x => by have := (nI_eq (b := 6) (by omega) (by decide)).mp x; omega)]
    have := rr_policy h hg f8 c m6 m7 m8 c9 m9
    obtain ⟨s, t, e1, e2, q⟩ := this
    rw [e1, e2]
    exact rr_some q
  · rw [if_pos (show nI n8 = (6 : Int32) from full b8 (by decide) c)]
    have eb : fX5_readPolicy σ (nI n8) = (fX5_blame σ 3).bind fun t => some t := by
      unfold fX5_readPolicy
      rw [if_neg (show ¬ nI n8 < (6 : Int32) from fun x => c ((nI_ltI (b := 6) (by omega) (by decide)).mp x))]
    rw [eb]
    have := rr_91 h (f := fun t => BX9_readNext_143 t) (fun z hz => rm_143bad hz) (x := 3) (by decide)
    obtain ⟨s, t, e1, e2, q⟩ := this
    rw [e1]
    show rr_ok (some s) _ _
    rw [show BX9_readNext_138 τ = (fX9_errs τ 3).bind fun t => BX9_readNext_143 t from rfl, e2]
    exact rr_some q
theorem rr_l8 (h : rr_N l σ τ n) (hg : σ.1 17 2 = 0) (c6 : fX5_isWord σ 6 = some 0) (m6 : fX9_is τ 6 = some 0) (c7 : fX5_isWord σ 7 = some 0) (m7 : fX9_is τ 7 = some 0) (c8 : fX5_isWord σ 8 = some 1) (m8 : fX9_is τ 8 = some 1) (c9 : fX5_isWord σ 9 = some 0) (m9 : fX9_is τ 9 = some 0) : rr_ok (fX5_readLine σ) ((fX9_readNext τ).bind fun t => BX9_readLine_21 t) (fun σ' τ' => rr_N (l + 1) σ' τ' n) := by
  have hc := h.2.2 hg
  obtain ⟨n7, b7, f7⟩ := rr_cnt (b := 8) hc.1.2.2.1 (by decide)
  have g7 : sn_I τ 6 (7 : Int32).toNatClampNeg = nI n7 := (hc.2.1 7 (by decide)).symm.trans f7
  have hR : (sn_R σ 17 7 == some 8) = true := by rw [h.1.2.2.1]; rfl
  have full : ∀ {m b : Nat}, m ≤ b → b < 100 → ¬ m < b → nI m = nI b := fun h1 h2 h3 => by rw [show _ = _ from Nat.le_antisymm h1 (by omega)]
  have eL : fX5_readLine σ = (fX5_readNet σ (nI n7)).bind fun t => some t := by
    unfold fX5_readLine
    rw [c6, bd_t0]
    rw [c7, bd_t0]
    rw [c8, bd_t1, show sn_I σ (8 + 1) (7 : Int32).toNatClampNeg = σ.1 9 7 from rfl]
    rw [hR, gd_T, f7]
    rfl
  have eR : fX9_readNext τ = if nI n7 = 8 then BX9_readNext_138 τ else BX9_readNext_143 τ := by
    have x1 : fX9_readNext τ = BX9_readNext_51 τ := by
      unfold fX9_readNext
      rw [m6, bd_t0]
      rw [m7, bd_t0]
      rw [m8]
      rfl
    have x2 : BX9_readNext_117 τ = BX9_readNext_143 τ := by
      unfold BX9_readNext_117
      rw [m9]
      rfl
    rw [x1]
    unfold BX9_readNext_51
    rw [m6, bd_t0]
    unfold BX9_readNext_71
    rw [m7, bd_t0]
    unfold BX9_readNext_96
    rw [m8, g7, x2]
    rfl
  rw [eL, eR]
  by_cases c : n7 < 8
  · rw [if_neg (fun x => by have := (nI_eq (b := 8) (by omega) (by decide)).mp x; omega)]
    have := rr_net h hg f7 c m6 m7 c8 m8
    obtain ⟨s, t, e1, e2, q⟩ := this
    rw [e1, e2]
    exact rr_some q
  · rw [if_pos (show nI n7 = (8 : Int32) from full b7 (by decide) c)]
    have eb : fX5_readNet σ (nI n7) = (fX5_blame σ 3).bind fun t => some t := by
      unfold fX5_readNet
      rw [if_neg (show ¬ nI n7 < (8 : Int32) from fun x => c ((nI_ltI (b := 8) (by omega) (by decide)).mp x))]
    rw [eb]
    have := rr_91 h (f := fun t => BX9_readNext_143 t) (fun z hz => rm_143bad hz) (x := 3) (by decide)
    obtain ⟨s, t, e1, e2, q⟩ := this
    rw [e1]
    show rr_ok (some s) _ _
    rw [show BX9_readNext_138 τ = (fX9_errs τ 3).bind fun t => BX9_readNext_143 t from rfl, e2]
    exact rr_some q
theorem rr_l7 (h : rr_N l σ τ n) (hg : σ.1 17 2 = 0) (c6 : fX5_isWord σ 6 = some 0) (m6 : fX9_is τ 6 = some 0) (c7 : fX5_isWord σ 7 = some 1) (m7 : fX9_is τ 7 = some 1) (c8 : fX5_isWord σ 8 = some 0) (m8 : fX9_is τ 8 = some 0) (c9 : fX5_isWord σ 9 = some 0) (m9 : fX9_is τ 9 = some 0) : rr_ok (fX5_readLine σ) ((fX9_readNext τ).bind fun t => BX9_readLine_21 t) (fun σ' τ' => rr_N (l + 1) σ' τ' n) := by
  have hc := h.2.2 hg
  obtain ⟨n6, b6, f6⟩ := rr_cnt (b := 5) hc.1.2.1 (by decide)
  have g6 : sn_I τ 6 (6 : Int32).toNatClampNeg = nI n6 := (hc.2.1 6 (by decide)).symm.trans f6
  have hR : (sn_R σ 17 7 == some 8) = true := by rw [h.1.2.2.1]; rfl
  have full : ∀ {m b : Nat}, m ≤ b → b < 100 → ¬ m < b → nI m = nI b := fun h1 h2 h3 => by rw [show _ = _ from Nat.le_antisymm h1 (by omega)]
  have eL : fX5_readLine σ = (fX5_readGust σ (nI n6)).bind fun t => some t := by
    unfold fX5_readLine
    rw [c6, bd_t0]
    rw [c7, bd_t1, show sn_I σ (8 + 1) (6 : Int32).toNatClampNeg = σ.1 9 6 from rfl]
    rw [hR, gd_T, f6]
    rfl
  have eR : fX9_readNext τ = if nI n6 = 5 then BX9_readNext_91 τ else BX9_readNext_143 τ := by
    have x1 : fX9_readNext τ = BX9_readNext_51 τ := by
      unfold fX9_readNext
      rw [m6, bd_t0]
      rw [m7]
      rfl
    have x2 : BX9_readNext_96 τ = BX9_readNext_143 τ := by
      unfold BX9_readNext_96
      rw [m8, bd_t0]
      unfold BX9_readNext_117
      rw [m9]
      rfl
    rw [x1]
    unfold BX9_readNext_51
    rw [m6, bd_t0]
    unfold BX9_readNext_71
    rw [m7, g6, x2]
    rfl
  rw [eL, eR]
  by_cases c : n6 < 5
  · rw [if_neg (fun x => by have := (nI_eq (b := 5) (by omega) (by decide)).mp x; omega)]
    have := rr_gust h hg f6 c m6 c7 m7
    obtain ⟨s, t, e1, e2, q⟩ := this
    rw [e1, e2]
    exact rr_some q
  · rw [if_pos (show nI n6 = (5 : Int32) from full b6 (by decide) c)]
    have eb : fX5_readGust σ (nI n6) = (fX5_blame σ 3).bind fun t => some t := by
      unfold fX5_readGust
      rw [if_neg (show ¬ nI n6 < (5 : Int32) from fun x => c ((nI_ltI (b := 5) (by omega) (by decide)).mp x))]
    rw [eb]
    have := rr_91 h (f := fun t => BX9_readNext_96 t) (fun z hz => rm_96bad hz) (x := 3) (by decide)
    obtain ⟨s, t, e1, e2, q⟩ := this
    rw [e1]
    show rr_ok (some s) _ _
    rw [show BX9_readNext_91 τ = (fX9_errs τ 3).bind fun t => BX9_readNext_96 t from rfl, e2]
    exact rr_some q
theorem rr_l6 (h : rr_N l σ τ n) (hg : σ.1 17 2 = 0) (c6 : fX5_isWord σ 6 = some 1) (m6 : fX9_is τ 6 = some 1) (c7 : fX5_isWord σ 7 = some 0) (m7 : fX9_is τ 7 = some 0) (c8 : fX5_isWord σ 8 = some 0) (m8 : fX9_is τ 8 = some 0) (c9 : fX5_isWord σ 9 = some 0) (m9 : fX9_is τ 9 = some 0) : rr_ok (fX5_readLine σ) ((fX9_readNext τ).bind fun t => BX9_readLine_21 t) (fun σ' τ' => rr_N (l + 1) σ' τ' n) := by
  have hc := h.2.2 hg
  obtain ⟨n5, b5, f5⟩ := rr_cnt (b := 6) hc.1.1 (by decide)
  have g5 : sn_I τ 6 (5 : Int32).toNatClampNeg = nI n5 := (hc.2.1 5 (by decide)).symm.trans f5
  have hR : (sn_R σ 17 7 == some 8) = true := by rw [h.1.2.2.1]; rfl
  have full : ∀ {m b : Nat}, m ≤ b → b < 100 → ¬ m < b → nI m = nI b := fun h1 h2 h3 => by rw [show _ = _ from Nat.le_antisymm h1 (by omega)]
  have eL : fX5_readLine σ = (fX5_readNose σ (nI n5)).bind fun t => some t := by
    unfold fX5_readLine
    rw [c6, bd_t1, show sn_I σ (8 + 1) (5 : Int32).toNatClampNeg = σ.1 9 5 from rfl]
    rw [hR, gd_T, f5]
    rfl
  have eR : fX9_readNext τ = if nI n5 = 6 then BX9_readNext_91 τ else BX9_readNext_143 τ := by
    have x1 : fX9_readNext τ = BX9_readNext_51 τ := by
      unfold fX9_readNext
      rw [m6]
      rfl
    have x2 : BX9_readNext_71 τ = BX9_readNext_143 τ := by
      unfold BX9_readNext_71
      rw [m7, bd_t0]
      unfold BX9_readNext_96
      rw [m8, bd_t0]
      unfold BX9_readNext_117
      rw [m9]
      rfl
    rw [x1]
    unfold BX9_readNext_51
    rw [m6, g5, x2]
    rfl
  rw [eL, eR]
  by_cases c : n5 < 6
  · rw [if_neg (fun x => by have := (nI_eq (b := 6) (by omega) (by decide)).mp x; omega)]
    have := rr_nose h hg f5 c c6 m6
    obtain ⟨s, t, e1, e2, q⟩ := this
    rw [e1, e2]
    exact rr_some q
  · rw [if_pos (show nI n5 = (6 : Int32) from full b5 (by decide) c)]
    have eb : fX5_readNose σ (nI n5) = (fX5_blame σ 3).bind fun t => some t := by
      unfold fX5_readNose
      rw [if_neg (show ¬ nI n5 < (6 : Int32) from fun x => c ((nI_ltI (b := 6) (by omega) (by decide)).mp x))]
    rw [eb]
    have := rr_91 h (f := fun t => BX9_readNext_96 t) (fun z hz => rm_96bad hz) (x := 3) (by decide)
    obtain ⟨s, t, e1, e2, q⟩ := this
    rw [e1]
    show rr_ok (some s) _ _
    rw [show BX9_readNext_91 τ = (fX9_errs τ 3).bind fun t => BX9_readNext_96 t from rfl, e2]
    exact rr_some q
theorem rr_line (h : rr_N l σ τ n) (hg : σ.1 17 2 = 0) : rr_ok (fX5_readLine σ) ((fX9_readNext τ).bind fun t => BX9_readLine_21 t) (fun σ' τ' => rr_N (l + 1) σ' τ' n) := by
  obtain ⟨a, e, W⟩ := rr_words h.1 hg
  obtain ⟨v6, w6, c6, m6⟩ := W 6 (by decide)
  obtain ⟨v7, w7, c7, m7⟩ := W 7 (by decide)
  obtain ⟨v8, w8, c8, m8⟩ := W 8 (by decide)
  obtain ⟨v9, w9, c9, m9⟩ := W 9 (by decide)
  rcases w6 with z6 | ⟨z6, W6⟩
  · rcases w7 with z7 | ⟨z7, W7⟩
    · rcases w8 with z8 | ⟨z8, W8⟩
      · rcases w9 with z9 | ⟨z9, W9⟩
        · exact rr_l0 h hg (c6.trans (by rw [z6])) (m6.trans (by rw [z6])) (c7.trans (by rw [z7])) (m7.trans (by rw [z7])) (c8.trans (by rw [z8])) (m8.trans (by rw [z8])) (c9.trans (by rw [z9])) (m9.trans (by rw [z9]))
        · exact rr_l9 h hg (c6.trans (by rw [z6])) (m6.trans (by rw [z6])) (c7.trans (by rw [z7])) (m7.trans (by rw [z7])) (c8.trans (by rw [z8])) (m8.trans (by rw [z8])) (c9.trans (by rw [z9])) (m9.trans (by rw [z9]))
      · have z9 : v9 = 0 := w9.elim id (fun x => absurd (rd_W1 (by decide) (by decide) W8 x.2) (by decide))
        exact rr_l8 h hg (c6.trans (by rw [z6])) (m6.trans (by rw [z6])) (c7.trans (by rw [z7])) (m7.trans (by rw [z7])) (c8.trans (by rw [z8])) (m8.trans (by rw [z8])) (c9.trans (by rw [z9])) (m9.trans (by rw [z9]))
    · have z8 : v8 = 0 := w8.elim id (fun x => absurd (rd_W1 (by decide) (by decide) W7 x.2) (by decide))
      have z9 : v9 = 0 := w9.elim id (fun x => absurd (rd_W1 (by decide) (by decide) W7 x.2) (by decide))
      exact rr_l7 h hg (c6.trans (by rw [z6])) (m6.trans (by rw [z6])) (c7.trans (by rw [z7])) (m7.trans (by rw [z7])) (c8.trans (by rw [z8])) (m8.trans (by rw [z8])) (c9.trans (by rw [z9])) (m9.trans (by rw [z9]))
  · have z7 : v7 = 0 := w7.elim id (fun x => absurd (rd_W1 (by decide) (by decide) W6 x.2) (by decide))
    have z8 : v8 = 0 := w8.elim id (fun x => absurd (rd_W1 (by decide) (by decide) W6 x.2) (by decide))
    have z9 : v9 = 0 := w9.elim id (fun x => absurd (rd_W1 (by decide) (by decide) W6 x.2) (by decide))
    exact rr_l6 h hg (c6.trans (by rw [z6])) (m6.trans (by rw [z6])) (c7.trans (by rw [z7])) (m7.trans (by rw [z7])) (c8.trans (by rw [z8])) (m8.trans (by rw [z8])) (c9.trans (by rw [z9])) (m9.trans (by rw [z9]))
end
end
section
/-! the whole text, both sides at once -/
theorem rr_it {S T S' T' : Type} {f : S → Option (S ⊕ T)} {g : S' → Option (S' ⊕ T')} {E : T → T' → Prop} (J : S → S' → Prop) (m : S → Int) (hb : ∀ s s', J s s' → 0 ≤ m s ∧ m s < 4999) (step : ∀ s s', J s s' → rr_ok (f s) (g s') (fun o o' => (∃ a a', o = .inl a ∧ o' = .inl a' ∧ J a a' ∧ m a < m s) ∨ ∃ b b', o = .inr b ∧ o' = .inr b' ∧ E b b')) {s0 : S} {s0' : S'} (h0 : J s0 s0') : rr_ok (sn_it f 5000 s0) (sn_it g 5000 s0') E := by
  have key : ∀ (n : Nat) (s : S) (s' : S'), J s s' → (m s).toNat < n → rr_ok (sn_it f n s) (sn_it g n s') E := by
    intro n
    induction n with
    | zero => intro s s' _ h; exact absurd h (by omega)
    | succ n ih =>
      intro s s' hJ hm
      obtain ⟨o, o', e1, e2, h⟩ := step s s' hJ
      unfold sn_it
      rw [e1, e2]
      rcases h with ⟨a, a', x1, x2, x3, x4⟩ | ⟨b, b', x1, x2, x3⟩
      · subst x1
        subst x2
        have := hb s s' hJ
        have := hb a a' x3
        exact ih a a' x3 (by omega)
      · subst x1
        subst x2
        exact rr_some x3
  exact key 5000 s0 s0' h0 (by have := hb s0 s0' h0; omega)
theorem rr_and {α β : Type} {x : Option α} {y : Option β} {P : α → β → Prop} {Q : β → Prop} (h : rr_ok x y P) (g : zs_ok y Q) : rr_ok x y (fun a b => P a b ∧ Q b) := by
  obtain ⟨a, b, e1, e2, p⟩ := h
  obtain ⟨b', e3, q⟩ := g
  rw [e2] at e3
  cases e3
  exact ⟨a, b, e1, e2, p, q⟩
section
variable {σ τ τ0 : sn_S} {n : Nat} {l : Int32}
theorem rr_L9 {i : Nat} {v : Int32} (h : rr_L σ τ n) : rr_L (sn_pI σ 9 i v) τ n := by
  have := rr_Lw (q := 9) (i := i) (v := v) (j := 0) (w := τ.1 6 0) (by decide) (by decide) h
  have e : sn_pI τ 6 0 (τ.1 6 0) = τ := by
    refine Prod.ext ?_ rfl
    funext x y
    show (if x = 6 ∧ y = 0 then τ.1 6 0 else τ.1 x y) = _
    by_cases z : x = 6 ∧ y = 0
    · rw [if_pos z, z.1, z.2]
    · rw [if_neg z]
  rw [e] at this
  exact this
theorem rr_N10 {v : Int32} (h : rr_N l σ τ n) : rr_N l (sn_pI σ 9 10 v) τ n := by
  refine ⟨rr_L9 h.1, h.2.1, fun x => ?_⟩
  rw [pI_ne (by decide)] at x
  obtain ⟨hb, h9, h0, h1, h2, h3⟩ := h.2.2 x
  have e9 : ∀ k, k ≠ 10 → (sn_pI σ 9 10 v).1 9 k = σ.1 9 k := fun k hk => pI_slot hk
  have eo : ∀ q, q ≠ 9 → (sn_pI σ 9 10 v).1 q = σ.1 q := fun q hq => pI_ne hq
  unfold rr_c
  rw [e9 5 (by decide), e9 6 (by decide), e9 7 (by decide), e9 8 (by decide), e9 9 (by decide), eo 10 (by decide), eo 11 (by decide), eo 12 (by decide), eo 13 (by decide)]
  exact ⟨hb, fun k hk => by rw [e9 k (by omega)]; exact h9 k hk, h0, h1, h2, h3⟩
theorem rr_readLine (h : rr_N l σ τ n) (hg : σ.1 17 2 = 0) : fX9_readLine τ = if l = 0 then (fX9_readFirst τ).bind fun t => BX9_readLine_21 t else (fX9_readNext τ).bind fun t => BX9_readLine_21 t := by
  unfold fX9_readLine
  rw [show sn_I τ 6 (10 : Int32).toNatClampNeg = l from h.2.1]
  rfl
/-- what both have when the text is read -/
def rr_X (τ0 σ τ : sn_S) (n : Nat) : Prop := ∃ k, k ≤ 900 ∧ rr_N (nI k) σ τ n ∧ σ.1 9 10 = nI k ∧ zm_G τ0 τ
theorem rr_rows (h : rr_N (nI 0) σ τ n) (h10 : σ.1 9 10 = nI 0) (hG : zm_G τ0 τ) (hp : zm_pos τ) : rr_ok (sn_it (LX5_read_33 8) 5000 (σ, (0 : Int32))) (sn_it LX9_house_53 5000 τ) (fun z w => rr_X τ0 z w n) := by
  refine rr_it (J := fun (s : sn_S × Int32) t => ∃ k : Nat, s.2 = nI k ∧ k ≤ 900 ∧ rr_N (nI k) s.1 t n ∧ s.1.1 9 10 = nI k ∧ zm_G τ0 t ∧ zm_pos t ∧ (t.1 0 12 = 0 → (t.1 6 10).toInt ≤ (t.1 0 9).toInt)) (m := fun s => 900 - s.2.toInt) (fun s t hs => ?_) (fun s t hs => ?_) ⟨0, rfl, by decide, h, h10, hG, hp, fun _ => by rw [h.2.1, nI_toInt (by decide)]; exact (zm_b (k := 9) hG rfl).1⟩
  · obtain ⟨k, e, hk, _⟩ := hs
    rw [e, nI_toInt (by omega)]
    exact ⟨by omega, by omega⟩
  · obtain ⟨z, x⟩ := s
    obtain ⟨k, ex, hk, hN, h10, hG, hp, hl⟩ := hs
    have ex : x = nI k := ex
    have hN : rr_N (nI k) z t n := hN
    have h10 : z.1 9 10 = nI k := h10
    subst ex
    have fin : ∀ y : sn_S, y = z → rr_ok (some (Sum.inr (α := sn_S × Int32) y)) (some (Sum.inr (α := sn_S) t)) (fun o o' => (∃ a a', o = .inl a ∧ o' = .inl a' ∧ (∃ k : Nat, a.2 = nI k ∧ k ≤ 900 ∧ rr_N (nI k) a.1 a' n ∧ a.1.1 9 10 = nI k ∧ zm_G τ0 a' ∧ zm_pos a' ∧ (a'.1 0 12 = 0 → (a'.1 6 10).toInt ≤ (a'.1 0 9).toInt)) ∧ 900 - a.2.toInt < 900 - (nI k).toInt) ∨ ∃ b b', o = .inr b ∧ o' = .inr b' ∧ rr_X τ0 b b' n) := fun y hy => by
      subst hy
      exact rr_some (Or.inr ⟨_, _, rfl, rfl, k, hk, hN, h10, hG⟩)
    unfold LX5_read_33 BX5_read_33 LX9_house_53 BX9_house_53
    rw [rm_good]
    by_cases hg : z.1 17 2 = 0
    · have hgm : t.1 0 12 = 0 := hN.1.2.2.2.1.trans hg
      obtain ⟨a, e, tc, tm, lae, len, k4, hE⟩ := hN.1.2.2.2.2.2 hg
      have hkk : rd_k (rc_B z) n = rd_k (rm_B t) n := rd_kB (fun k hk => (hN.1.1.2.2.2 k hk).1)
      have k5 := rd_k5 (rm_B t) n a
      have hn9 := hN.1.1.2.2.1
      have ht5 : rd_t (rd_k (rm_B t) n a) ≤ 5 := by unfold rd_t; split <;> omega
      rw [if_pos hgm, bd_t1, if_pos (show sn_I (z, nI k).1 17 2 = 0 from hg)]
      by_cases k0 : rd_k (rm_B t) n a = 0
      · have d1 : sn_I (z, nI k).1 17 6 = 0 := by show z.1 17 6 = 0; rw [tc.2.2, hkk, k0]; rfl
        have d2 : sn_I t 0 10 = 0 := by show t.1 0 10 = 0; rw [tm.2.2.1, k0]; rfl
        rw [if_pos d1, if_pos d2]
        by_cases c9 : (900 : Int32) ≤ (z, nI k).2
        · rw [if_pos c9]
          exact fin z rfl
        · rw [if_neg c9]
          exact fin z rfl
      · have d1 : ¬ sn_I (z, nI k).1 17 6 = 0 := fun x => k0 (by
          have x2 : nI (rd_k (rc_B z) n a) = nI 0 := tc.2.2.symm.trans x
          rw [hkk] at x2
          exact (nI_eq (by omega) (by decide)).mp x2)
        have d2 : ¬ sn_I t 0 10 = 0 := fun x => k0 (by
          have x2 : nI (rd_t (rd_k (rm_B t) n a)) = nI 0 := tm.2.2.1.symm.trans x
          have x3 := (nI_eq (by omega) (by decide)).mp x2
          unfold rd_t at x3
          split at x3
          · omega
          · exact x3)
        have lan : a < n := by
          rcases rd_kc (rm_B t) n a with y | y
          · omega
          · exact y.1
        have hka : k ≤ a := by
          have := hl hgm
          rw [hN.2.1, tm.1, nI_toInt (by omega), nI_toInt (by omega)] at this
          omega
        have c9 : ¬ (900 : Int32) ≤ (z, nI k).2 := fun x => by
          have := (nI_leI (a := 900) (by decide) (by omega)).mp x
          omega
        rw [if_neg d1, if_neg d2, if_neg c9]
        have hbig : (t.1 6 10).toInt = (k : Int) := by rw [hN.2.1, nI_toInt (by omega)]
        have safe := zm_readLine hG hp ⟨by omega, by omega⟩
        have nx : ∀ y : sn_S → Option ((sn_S × Int32) ⊕ sn_S), (∀ u, y u = BX5_read_69 u 8 (nI k)) → ∀ X : Option sn_S, rr_ok X (fX9_readLine t) (fun z' t' => rr_N (nI k + 1) z' t' n) → rr_ok (X.bind fun t => y t) ((fX9_readLine t).bind fun t_5 => some (Sum.inl (β := sn_S) t_5)) (fun o o' => (∃ a a', o = .inl a ∧ o' = .inl a' ∧ (∃ k : Nat, a.2 = nI k ∧ k ≤ 900 ∧ rr_N (nI k) a.1 a' n ∧ a.1.1 9 10 = nI k ∧ zm_G τ0 a' ∧ zm_pos a' ∧ (a'.1 0 12 = 0 → (a'.1 6 10).toInt ≤ (a'.1 0 9).toInt)) ∧ 900 - a.2.toInt < 900 - (nI k).toInt) ∨ ∃ b b', o = .inr b ∧ o' = .inr b' ∧ rr_X τ0 b b' n) := by
          intro y hy X hX
          refine rr_bd (rr_and hX safe) (fun u v q => ?_)
          obtain ⟨q1, g1, g2, g3, g4⟩ := q
          rw [nI_1] at q1
          rw [hy]
          unfold BX5_read_69
          refine rr_gl (by rw [q1.1.2.2.1]; rfl) (rr_gl (by decide) (rr_ll (fun w => w = sn_pI u 9 10 (nI (k + 1))) (by show sn_pI u (8 + 1) (10 : Int32).toNatClampNeg (nI k + (1 : Int32)) = _; rw [nI_1]; rfl) (fun w hw => rr_ll (fun p => p = nI (k + 1)) (nI_1 k) (fun p hp' => ?_))))
          subst hw
          subst hp'
          refine rr_some (Or.inl ⟨_, _, rfl, rfl, ⟨k + 1, rfl, by omega, rr_N10 q1, pI_self, g1, g2, fun x => ?_⟩, ?_⟩)
          · have := g4 x
            have e1 : (t.1 0 9).toInt = (a : Int) := by rw [tm.1, nI_toInt (by omega)]
            omega
          · show 900 - (nI (k + 1)).toInt < 900 - (nI k).toInt
            rw [nI_toInt (by omega), nI_toInt (by omega)]
            omega
        by_cases kz : k = 0
        · subst kz
          rw [if_pos (show ((z, nI 0) : sn_S × Int32).2 = 0 from rfl)]
          refine nx (fun u => BX5_read_69 u 8 (nI 0)) (fun _ => rfl) _ ?_
          rw [rr_readLine hN hg, if_pos (show nI 0 = 0 from rfl)]
          exact rr_first hN
        · rw [if_neg (show ¬ ((z, nI k) : sn_S × Int32).2 = 0 from fun x => kz ((nI_eq (b := 0) (by omega) (by decide)).mp x))]
          refine nx (fun u => BX5_read_69 u 8 (nI k)) (fun _ => rfl) _ ?_
          rw [rr_readLine hN hg, if_neg (show ¬ nI k = (0 : Int32) from fun x => kz ((nI_eq (b := 0) (by omega) (by decide)).mp x))]
          exact rr_line hN hg
    · rw [if_neg (show ¬ t.1 0 12 = 0 by rw [hN.1.2.2.2.1]; exact hg), bd_t0, if_neg (show ¬ sn_I (z, nI k).1 17 2 = 0 from hg)]
      by_cases c9 : (900 : Int32) ≤ (z, nI k).2
      · rw [if_pos c9]
        exact fin z rfl
      · rw [if_neg c9]
        exact fin z rfl
end
end
section
/-! house: both answer alike, and tell the same house -/
section
variable {α β γ δ : Type} {P : α → β → Prop}
end
theorem rr_lt {α β : Type} {e : α} {f : α → Option β} : sn_lt e f = f e := rfl
theorem rr_bs {α β : Type} {a : α} {f : α → Option β} : (some a).bind f = f a := rfl
theorem rm_clear (τ : sn_S) : sn_it LX9_house_30 5000 (τ, (0 : Int32)) = some ((fun a b => if a = 6 ∧ b < 119 then 0 else τ.1 a b), τ.2) := by
  obtain ⟨t, e1, e2⟩ := sn_for (f := LX9_house_30) 119 (fun k s => s = (((fun a b => if a = 6 ∧ b < k then 0 else τ.1 a b), τ.2), nI k)) (fun t => t = ((fun a b => if a = 6 ∧ b < 119 then 0 else τ.1 a b), τ.2))
    (fun k s hk hs => by
      subst hs
      refine ⟨_, ?_, rfl⟩
      unfold LX9_house_30 BX9_house_30
      rw [if_neg (show ¬ (119 : Int32) ≤ nI k from nI_ge (b := 119) hk (by decide))]
      show sn_gd (sn_in (nI k) 119) (some (Sum.inl (sn_pI _ 6 (nI k).toNatClampNeg 0, nI k + 1))) = _
      rw [sn_in_nI hk (by omega), gd_T, nI_clamp (by omega), nI_1]
      refine congrArg (fun z => some (Sum.inl ((z, τ.2), nI (k + 1)))) ?_
      funext a b
      show (if a = 6 ∧ b = k then 0 else if a = 6 ∧ b < k then 0 else τ.1 a b) = _
      by_cases ha : a = 6
      · by_cases hb : b = k
        · rw [if_pos ⟨ha, hb⟩, if_pos ⟨ha, by omega⟩]
        · rw [if_neg (fun h => hb h.2)]
          by_cases hb2 : b < k
          · rw [if_pos ⟨ha, hb2⟩, if_pos ⟨ha, by omega⟩]
          · rw [if_neg (fun h => hb2 h.2), if_neg (fun h => hb2 (by have := h.2; omega))]
      · rw [if_neg (fun h => ha h.1), if_neg (fun h => ha h.1), if_neg (fun h => ha h.1)])
    (fun s hs => by
      subst hs
      refine ⟨_, ?_, rfl⟩
      unfold LX9_house_30 BX9_house_30
      rw [if_pos (show (119 : Int32) ≤ nI 119 from Int32.le_refl _)])
    (n := 5000) (by decide) (s := (τ, (0 : Int32))) (by
      show (τ, (0 : Int32)) = _
      rw [nI_0]
      simp)
  rw [e1, e2]
/-- a house of the program (from row h on) and one of the reference (a row w): the places in use are the same -/
def rr_H (h : Nat) (σ : sn_S) (w : Nat → Int32) : Prop := (∀ k, k < 11 → σ.1 (h + 1) k = w k) ∧ (∀ i : Nat, (i : Int) < 2 * (σ.1 (h + 1) 5).toInt → σ.1 (h + 2) i = w (11 + i)) ∧ (∀ i : Nat, (i : Int) < 2 * (σ.1 (h + 1) 6).toInt → σ.1 (h + 3) i = w (23 + i)) ∧ (∀ i : Nat, (i : Int) < 2 * (σ.1 (h + 1) 7).toInt → σ.1 (h + 4) i = w (33 + i)) ∧ (∀ i : Nat, (i : Int) < 5 * (σ.1 (h + 1) 8).toInt → σ.1 (h + 5) i = w (49 + i)) ∧ ∀ i : Nat, (i : Int) < (σ.1 (h + 1) 9).toInt → w (79 + i) = ((200 : Int32) * σ.1 (h + 6) (3 * i + 1) + (2 : Int32) * σ.1 (h + 6) (3 * i + 2)) + σ.1 (h + 6) (3 * i)
theorem rr_read {σ τ : sn_S} {n : Nat} (hC : zs_SB zs_tC σ) (hM : zs_SB zs_tM τ) (t1 : σ.1 17 1 = nI n) (t7 : τ.1 0 7 = nI n) (t8 : τ.1 0 8 = 0) (t12 : τ.1 0 12 = 0) (t13 : τ.1 0 13 = -1) (h9 : n ≤ 900) (hB : ∀ k, k < n → rc_B σ k = rm_B τ k ∧ -128 ≤ (τ.1 4 k).toInt ∧ (τ.1 4 k).toInt ≤ 127) : rr_ok (fX5_read σ 8) ((sn_it LX9_house_30 5000 (τ, (0 : Int32))).bind fun t_11 => (fX9_advance t_11).bind fun t_1 => sn_it LX9_house_53 5000 t_1) (fun z w => rr_X τ z w n) := by
  obtain ⟨s5, es5, hs5⟩ : ∃ s5 : sn_S, s5 = sn_pI (sn_pI (sn_pI ((fun a b => if a = 8 + 1 ∧ b < 11 then 0 else (sn_pR σ 17 7 (some 8)).1 a b), (sn_pR σ 17 7 (some 8)).2) 17 2 0) 17 3 (-1)) 17 5 0 ∧ fX5_read σ 8 = (fX5_step s5).bind fun t_12 => (sn_it (LX5_read_33 8) 5000 (t_12, (0 : Int32))).bind fun t_14 => BX5_read_88 t_14 8 := by
    refine ⟨_, rfl, ?_⟩
    have e1 : (sn_R (sn_pR σ 17 7 (some 8)) 17 7 == some 8) = true := by
      have : sn_R (sn_pR σ 17 7 (some 8)) 17 7 = some 8 := (sn_R_pR).trans (if_pos ⟨rfl, rfl⟩)
      rw [this]
      rfl
    unfold fX5_read fX2_clear
    rw [rr_lt]
    show sn_gd (sn_R (sn_pR σ 17 7 (some 8)) 17 7 == some 8) (((fJ7_fill_53178 (sn_pR σ 17 7 (some 8)) (8 + 1) 11 (0 : Int32)).bind fun t_1 => some t_1).bind _) = _
    rw [e1, gd_T, fillI _ _ _ _ (by decide)]
    rfl
  have f9 : ∀ k, k < 11 → s5.1 9 k = 0 := fun k hk => by
    rw [es5, pI_ne (by decide), pI_ne (by decide), pI_ne (by decide)]
    exact if_pos ⟨rfl, hk⟩
  have f18 : s5.1 18 = σ.1 18 := by
    rw [es5, pI_ne (by decide), pI_ne (by decide), pI_ne (by decide)]
    funext k
    show (if 18 = 8 + 1 ∧ k < 11 then (0 : Int32) else σ.1 18 k) = σ.1 18 k
    exact if_neg (fun e => absurd e.1 (by decide))
  have f1 : s5.1 17 1 = nI n := by
    rw [es5, pI_slot (by decide), pI_slot (by decide), pI_slot (by decide)]
    show (if 17 = 8 + 1 ∧ 1 < 11 then (0 : Int32) else σ.1 17 1) = nI n
    rw [if_neg (fun e => absurd e.1 (by decide))]
    exact t1
  have f2 : s5.1 17 2 = 0 := by
    rw [es5, pI_slot (by decide), pI_slot (by decide), pI_self]
  have f3 : s5.1 17 3 = -1 := by
    rw [es5, pI_slot (by decide), pI_self]
  have f5 : s5.1 17 5 = nI 0 := by
    rw [es5, pI_self]
    rfl
  have fR : sn_R s5 17 7 = some 8 := by
    rw [es5]
    show sn_R (sn_pR σ 17 7 (some 8)) 17 7 = some 8
    exact (sn_R_pR).trans (if_pos ⟨rfl, rfl⟩)
  rw [hs5, rm_clear]
  obtain ⟨w, ew⟩ : ∃ w : sn_S, w = ((fun a b => if a = 6 ∧ b < 119 then 0 else τ.1 a b), τ.2) := ⟨_, rfl⟩
  have w6 : ∀ k, k < 119 → w.1 6 k = 0 := fun k hk => by
    rw [ew]
    exact if_pos ⟨rfl, hk⟩
  have wo : ∀ q, q ≠ 6 → w.1 q = τ.1 q := fun q hq => by
    rw [ew]
    funext k
    exact if_neg (fun e => hq e.1)
  have hGw : zm_G τ w := by
    obtain ⟨t, e1, e2⟩ := zm_clear (zs_rf hM)
    rw [rm_clear] at e1
    cases e1
    rw [ew]
    exact e2.1
  rw [← ew]
  show rr_ok _ ((fX9_advance w).bind fun t_1 => sn_it LX9_house_53 5000 t_1) _
  have hBw : ∀ k, k < n → rc_B s5 k = rm_B w k ∧ -128 ≤ (w.1 4 k).toInt ∧ (w.1 4 k).toInt ≤ 127 := fun k hk => by
    unfold rc_B rm_B
    rw [f18, wo 4 (by decide)]
    exact hB k hk
  have tp : rr_tp s5 w n := ⟨f1, by rw [wo 0 (by decide)]; exact t7, h9, hBw⟩
  have hk : rd_k (rc_B s5) n = rd_k (rm_B w) n := rd_kB (fun k hk => (hBw k hk).1)
  have w7 : w.1 0 7 = nI n := tp.2.1
  have w8 : w.1 0 8 = nI 0 := by rw [wo 0 (by decide), t8]; rfl
  have p5 : 0 ≤ (s5.1 17 5).toInt ∧ (s5.1 17 5).toInt ≤ (s5.1 17 1).toInt ∧ (s5.1 17 1).toInt ≤ 900 := by
    rw [f5, f1, nI_toInt (by decide), nI_toInt (by omega)]
    exact ⟨by omega, by omega, by omega⟩
  refine rr_bd (rr_2 (zs_both (rc_step f1 h9 f5 (Nat.zero_le _)) (zk_step p5.1 p5.2.1 p5.2.2)) (zs_both (rm_adv w7 h9 w8 (Nat.zero_le _)) (zm_adv hGw (by rw [w8, w7, nI_toInt (by decide), nI_toInt (by omega)]; omega))) (P := fun s t => rr_N (nI 0) s t n ∧ s.1 9 10 = nI 0 ∧ zm_G τ t ∧ zm_pos t) (fun s t hs ht => ?_)) (fun s t q => ?_)
  · obtain ⟨⟨hf, a1, e1, c1, c2, c3⟩, hzf, hz2, hzp⟩ := hs
    obtain ⟨⟨hm, a2, e2, d1, d2, d3⟩, hv⟩ := ht
    have ea : a1 = a2 := rd_S1 (rd_SB hk c2) d2
    subst ea
    have ee : e1 = e2 := rd_E1 (rd_EB hk c3) d3
    subst ee
    have m12 := hm.2.1 12 (by decide) (by decide) (by decide) (by decide)
    have m13 := hm.2.1 13 (by decide) (by decide) (by decide) (by decide)
    have m7 := hm.2.1 7 (by decide) (by decide) (by decide) (by decide)
    have eB : rm_B t = rm_B w := rm_B_f hm
    have s9 : s.1 9 = s5.1 9 := hf.1.1 9 (by decide)
    have z0 : (0 : Int32).toInt = 0 := by decide
    refine ⟨⟨⟨rr_tpF tp hf.1 hm.1 m7, hzp, rr_R hf.1 fR, ?_, ?_, fun _ => ⟨a1, e1, c1, d1, ?_, ?_, by rw [eB]; exact d2.2.2.2, by rw [eB]; exact d3⟩⟩, ?_, fun _ => ?_⟩, ?_, hv.1, hv.2.1⟩
    · rw [m12, hf.2.1, f2, wo 0 (by decide)]
      exact t12
    · rw [m13, hf.2.2, f3, wo 0 (by decide)]
      exact t13
    · rcases d3 with x | x
      · omega
      · omega
    · have := d2.2.1
      rcases d3 with x | x
      · omega
      · omega
    · rw [hm.1 6 (by decide), w6 10 (by decide)]
      rfl
    · unfold rr_c
      rw [s9, hm.1 6 (by decide), f9 5 (by decide), f9 6 (by decide), f9 7 (by decide), f9 8 (by decide), f9 9 (by decide), z0]
      exact ⟨⟨⟨by decide, by decide⟩, ⟨by decide, by decide⟩, ⟨by decide, by decide⟩, ⟨by decide, by decide⟩, rfl⟩, fun k hk => by rw [f9 k (by omega), w6 k (by omega)], fun i hi => absurd hi (by omega), fun i hi => absurd hi (by omega), fun i hi => absurd hi (by omega), fun i hi => absurd hi (by omega)⟩
    · rw [s9, f9 10 (by decide)]
      rfl
  · refine rr_w (rr_bl (f := fun t_14 => BX5_read_88 t_14 8) (y := sn_it LX9_house_53 5000 t) (Q := fun z => sn_it (LX5_read_33 8) 5000 (s, (0 : Int32)) = some z) ?_ (fun z hz => ?_)) (fun _ _ x => x)
    · obtain ⟨a, b, e1, _, _⟩ := rr_rows q.1 q.2.1 q.2.2.1 q.2.2.2
      exact ⟨a, e1, e1⟩
    · obtain ⟨a, b, e1, e2, x⟩ := rr_rows q.1 q.2.1 q.2.2.1 q.2.2.2
      rw [e1] at hz
      cases hz
      unfold BX5_read_88
      rw [e2]
      exact rr_some x
theorem rr_noses {s z : sn_S} (ez : fX2_copyFrom s 1 8 = some z) (k : Nat) (hk : k < 12) : z.1 3 k = s.1 10 k := by
  have key : zs_ok (fX2_copyFrom s 1 8) (fun z => z.1 3 k = s.1 10 k) := by
    unfold fX2_copyFrom
    refine zs_gd (by decide) (zs_lt (Q := fun z => z.1 10 = s.1 10) (zh_cp_ne (a := 2) (by decide)) (fun z1 m1 => ?_))
    refine zs_gd (by decide) (zs_lt (Q := fun z => z.1 3 k = s.1 10 k) ?_ (fun z2 m2 => ?_))
    · show (zh_cp z1 3 10 12).1 3 k = _
      rw [zh_cp_eq (by decide), if_pos hk, m1]
    refine zs_gd (by decide) (zs_lt (Q := fun z => z.1 3 k = s.1 10 k) ((congrFun (zh_cp_ne (z := z2) (a := 4) (b := 11) (L := 10) (by decide)) k).trans m2) (fun z3 m3 => ?_))
    refine zs_gd (by decide) (zs_lt (Q := fun z => z.1 3 k = s.1 10 k) ((congrFun (zh_cp_ne (z := z3) (a := 5) (b := 12) (L := 16) (by decide)) k).trans m3) (fun z4 m4 => ?_))
    refine zs_gd (by decide) (zs_lt (Q := fun z => z.1 3 k = s.1 10 k) ((congrFun (zh_cp_ne (z := z4) (a := 6) (b := 13) (L := 30) (by decide)) k).trans m4) (fun z5 m5 => ?_))
    exact zs_gd (by decide) (zs_lt (Q := fun z => z.1 3 k = s.1 10 k) ((congrFun (zh_cp_ne (z := z5) (a := 7) (b := 14) (L := 120) (by decide)) k).trans m5) (fun z6 m6 => zs_some m6))
  obtain ⟨z', e, h⟩ := key
  rw [ez] at e
  cases e
  exact h
theorem rm_world (w : sn_S) : ∃ v, sn_it LX9_house_86 5000 (w, (0 : Int32)) = some v ∧ (∀ k, k < 119 → v.1 1 k = w.1 6 k) ∧ ∀ q, q ≠ 1 → v.1 q = w.1 q := by
  obtain ⟨t, e1, e2⟩ := sn_for (f := LX9_house_86) 119 (fun k s => s.2 = nI k ∧ (∀ j, j < k → s.1.1 1 j = w.1 6 j) ∧ ∀ q, q ≠ 1 → s.1.1 q = w.1 q) (fun t => (∀ k, k < 119 → t.1 1 k = w.1 6 k) ∧ ∀ q, q ≠ 1 → t.1 q = w.1 q)
    (fun k s hk hs => by
      obtain ⟨s1, s2⟩ := s
      obtain ⟨h2, h3, h4⟩ := hs
      have h2 : s2 = nI k := h2
      subst h2
      refine ⟨(sn_pI s1 1 k (s1.1 6 k), nI (k + 1)), ?_, rfl, fun j hj => ?_, fun q hq => ?_⟩
      · unfold LX9_house_86 BX9_house_86
        show (if (119 : Int32) ≤ nI k then _ else _) = _
        rw [if_neg (show ¬ (119 : Int32) ≤ nI k from nI_ge (b := 119) hk (by decide))]
        show sn_gd (sn_in (nI k) 119) (sn_gd (sn_in (nI k) 119) (some (Sum.inl (sn_pI s1 1 (nI k).toNatClampNeg (s1.1 6 (nI k).toNatClampNeg), nI k + 1)))) = _
        rw [sn_in_nI hk (by omega), gd_T, gd_T, nI_clamp (by omega), nI_1]
      · show (sn_pI s1 1 k (s1.1 6 k)).1 1 j = _
        by_cases e : j = k
        · subst e
          rw [pI_self, h4 6 (by decide)]
        · rw [pI_slot e]
          exact h3 j (by omega)
      · show (sn_pI s1 1 k (s1.1 6 k)).1 q = _
        rw [pI_ne hq]
        exact h4 q hq)
    (fun s hs => by
      obtain ⟨s1, s2⟩ := s
      obtain ⟨h2, h3, h4⟩ := hs
      have h2 : s2 = nI 119 := h2
      subst h2
      refine ⟨s1, ?_, h3, h4⟩
      unfold LX9_house_86 BX9_house_86
      exact if_pos (show (119 : Int32) ≤ nI 119 from Int32.le_refl _))
    (n := 5000) (by decide) (s := (w, (0 : Int32))) ⟨nI_0.symm, fun j hj => absurd hj (by omega), fun _ _ => rfl⟩
  exact ⟨t, e1, e2⟩
theorem rr_house {σ τ : sn_S} {n : Nat} (hC : zs_SB zs_tC σ) (hM : zs_SB zs_tM τ) (t1 : σ.1 17 1 = nI n) (t5 : τ.1 0 5 = nI n) (h9 : n ≤ 900) (hB : ∀ k, k < n → rc_B σ k = rm_B τ k ∧ -128 ≤ (τ.1 4 k).toInt ∧ (τ.1 4 k).toInt ≤ 127) : ∃ r z w, fX8_house σ = some (r, z) ∧ fX9_house τ = some (r, w) ∧ z.1 17 2 = w.1 0 12 ∧ z.1 17 3 = w.1 0 13 ∧ (z.1 17 2 = 0 → rr_H 1 z (w.1 1)) ∧ (z.1 17 2 ≠ 0 → (∀ q, 2 ≤ q → q ≤ 7 → z.1 q = σ.1 q) ∧ w.1 1 = τ.1 1) := by
  have z0 : (0 : Int32).toInt = 0 := by decide
  obtain ⟨τ0, eτ, fM, o0, k7, k5, k8, k12, k13⟩ : ∃ τ0 : sn_S, fX9_house τ = ((sn_it LX9_house_30 5000 (τ0, (0 : Int32))).bind fun t_11 => BX9_house_49 t_11) ∧ zs_SB zs_tM τ0 ∧ (∀ q, q ≠ 0 → τ0.1 q = τ.1 q) ∧ τ0.1 0 7 = nI n ∧ τ0.1 0 5 = 0 ∧ τ0.1 0 8 = 0 ∧ τ0.1 0 12 = 0 ∧ τ0.1 0 13 = -1 := by
    have b5 := hM.1 0 5
    rw [show zs_tM 0 5 = (0, 900) from rfl] at b5
    refine ⟨sn_pI (sn_pI (sn_pI (sn_pI (sn_pI τ 0 7 (sn_I τ 0 5)) 0 5 0) 0 8 0) 0 12 0) 0 13 (-1), ?_, ?_, fun q hq => by rw [pI_ne hq, pI_ne hq, pI_ne hq, pI_ne hq, pI_ne hq], ?_, ?_, ?_, ?_, ?_⟩
    · unfold fX9_house
      rw [rr_lt, rr_lt, rr_lt, rr_lt, rr_lt]
    · exact zs_sbw (zs_sbw (zs_sbw (zs_sbw (zs_sbw hM b5) (by rw [z0, show zs_tM 0 5 = (0, 900) from rfl]; decide)) (by rw [z0, show zs_tM 0 8 = (0, 900) from rfl]; decide)) (by rw [z0, show zs_tM 0 12 = (0, 3) from rfl]; decide)) (by rw [show zs_tM 0 13 = (-2147483648, 2147483647) from rfl]; exact zs_topI _)
    · rw [pI_slot (by decide), pI_slot (by decide), pI_slot (by decide), pI_slot (by decide), pI_self]
      exact t5
    · rw [pI_slot (by decide), pI_slot (by decide), pI_slot (by decide), pI_self]
    · rw [pI_slot (by decide), pI_slot (by decide), pI_self]
    · rw [pI_slot (by decide), pI_self]
    · rw [pI_self]
  have hR := rr_read (τ := τ0) hC fM t1 k7 k8 k12 k13 h9 (fun k hk => by
    unfold rm_B
    rw [o0 4 (by decide)]
    exact hB k hk)
  obtain ⟨t, w, e1, e2, k, hk, hN, h10, hG⟩ := hR
  obtain ⟨t', e1', hI⟩ := zk_read hC
  rw [e1] at e1'
  cases e1'
  have e3 : fX9_house τ = BX9_house_74 w := by
    rw [eτ]
    rw [rm_clear] at e2 ⊢
    rw [rr_bs] at e2 ⊢
    unfold BX9_house_49
    obtain ⟨a, ea, _⟩ : ∃ a, fX9_advance ((fun a b => if a = 6 ∧ b < 119 then 0 else τ0.1 a b), τ0.2) = some a ∧ True := by
      cases x : fX9_advance ((fun a b => if a = 6 ∧ b < 119 then 0 else τ0.1 a b), τ0.2) with
      | none =>
        exfalso
        have e2' : ((fX9_advance ((fun a b => if a = 6 ∧ b < 119 then 0 else τ0.1 a b), τ0.2)).bind fun t_1 => sn_it LX9_house_53 5000 t_1) = some w := e2
        rw [x] at e2'
        cases e2'
      | some a => exact ⟨a, rfl, trivial⟩
    have e2' : ((fX9_advance ((fun a b => if a = 6 ∧ b < 119 then 0 else τ0.1 a b), τ0.2)).bind fun t_1 => sn_it LX9_house_53 5000 t_1) = some w := e2
    rw [ea] at e2' ⊢
    have e2'' : sn_it LX9_house_53 5000 a = some w := e2'
    rw [rr_bs, e2'', rr_bs]
  have w5 : w.1 0 5 = 0 := (hG.2.1 0 5 rfl).trans k5
  have h12 := hN.1.2.2.2.1
  have h13 := hN.1.2.2.2.2.1
  have tk : ∀ q, 2 ≤ q → q ≤ 7 → t.1 q = σ.1 q := fun q h2 h7 => funext fun j => hI.1.2.1 q j (by
    have : q = 2 ∨ q = 3 ∨ q = 4 ∨ q = 5 ∨ q = 6 ∨ q = 7 := by omega
    rcases this with e | e | e | e | e | e <;> subst e <;> rfl)
  have w1 : w.1 1 = τ.1 1 := (funext fun j => hG.2.1 1 j rfl).trans (o0 1 (by decide))
  by_cases hg : t.1 17 2 = 0
  · have hgm : w.1 0 12 = 0 := h12.trans hg
    have d := hI.2.2.2 hg
    have hc := hN.2.2 hg
    obtain ⟨s, es⟩ : ∃ s : sn_S, s = sn_pI t 17 1 0 := ⟨_, rfl⟩
    have so : ∀ q, q ≠ 17 → s.1 q = t.1 q := fun q hq => by rw [es, pI_ne hq]
    have sSB : zs_SB zs_tC s := by
      rw [es]
      exact zs_sbw hI.1.1 (by rw [show zs_tC 17 1 = (0, 900) from rfl]; decide)
    have dH : zs_H 8 s := zs_H_c (by rw [so _ (by decide)]) (by rw [so _ (by decide)]) (by rw [so _ (by decide)]) (fun k => by rw [so _ (by decide)]) (fun k => by rw [so _ (by decide)]) (fun j => by rw [so _ (by decide)]) d.2
    obtain ⟨z, ez, hm, c1, c3, c4, c5⟩ := zh_hcp s 1 8 (by decide)
    have zSB : zs_SB zs_tC z := zh_hSB (Or.inl rfl) sSB (fun k hk => by rw [so _ (by decide)]; exact d.1 k hk) (fun k => by
      have := sSB.1 14 k
      rw [show zs_tC 14 k = (0, 29) from rfl] at this
      exact this) dH hm c1 c3 c4 c5
    obtain ⟨u, eu, hu⟩ := zc_1529 (zs_rf (key := zs_kC) (kl := zs_lC) zSB)
    have uk : ∀ q, 2 ≤ q → q ≤ 7 → u.1 q = z.1 q := fun q h2 h7 => funext fun j => hu.2.1 q j (by
      have : q = 2 ∨ q = 3 ∨ q = 4 ∨ q = 5 ∨ q = 6 ∨ q = 7 := by omega
      rcases this with e | e | e | e | e | e <;> subst e <;> rfl)
    have u2 : ∀ k, k < 11 → u.1 2 k = t.1 9 k := fun k hk => by
      rw [uk 2 (by decide) (by decide)]
      have := c1 k
      rw [if_pos hk, so 9 (by decide)] at this
      exact this
    have noses : ∀ k, k < 12 → u.1 3 k = t.1 10 k := fun k hk => by
      rw [uk 3 (by decide) (by decide)]
      exact (rr_noses ez k hk).trans (by rw [so 10 (by decide)])
    have e4 : fX8_house σ = some (u.1 2 10, u) := by
      unfold fX8_house
      rw [e1, rr_bs, rr_lt, ← es, if_pos (show sn_I s 17 2 = 0 by show s.1 17 2 = 0; rw [es, pI_slot (by decide)]; exact hg), ez, rr_bs, eu, rr_bs]
      rfl
    obtain ⟨v, ev, hv1, hv2⟩ := rm_world w
    have e5 : fX9_house τ = some (v.1 1 10, v) := by
      rw [e3]
      unfold BX9_house_74
      rw [rm_good, if_pos hgm, bd_t1, ev]
      rfl
    have v1 : ∀ k, k < 119 → v.1 1 k = w.1 6 k := hv1
    have l10 : u.1 2 10 = v.1 1 10 := by rw [u2 10 (by decide), v1 10 (by decide), h10, hN.2.1]
    have u17 : ∀ k, k = 2 ∨ k = 3 → u.1 17 k = t.1 17 k := fun k hk => by
      have a1 : u.1 17 k = z.1 17 k := hu.2.1 17 k (by rcases hk with e | e <;> subst e <;> rfl)
      rw [a1, hm.2.1 17 (by omega), es, pI_slot (by omega)]
    have v0 : v.1 0 = w.1 0 := hv2 0 (by decide)
    refine ⟨_, u, v, e4, ?_, ?_, ?_, fun _ => ?_, fun x => absurd ((u17 2 (Or.inl rfl)).trans hg) x⟩
    · rw [e5, l10]
    · rw [u17 2 (Or.inl rfl), v0]
      exact h12.symm
    · rw [u17 3 (Or.inr rfl), v0]
      exact h13.symm
    · obtain ⟨⟨b5, b6, b7, b8, b9⟩, h9', h0, h1, h2, h3⟩ := hc
      have cc : ∀ k, k < 11 → u.1 (1 + 1) k = v.1 1 k := fun k hk => by
        show u.1 2 k = _
        rw [u2 k hk, v1 k (by omega)]
        by_cases x : k = 10
        · subst x
          rw [h10, hN.2.1]
        · exact h9' k (by omega)
      unfold rr_H
      rw [show u.1 (1 + 1) 5 = t.1 9 5 from u2 5 (by decide), show u.1 (1 + 1) 6 = t.1 9 6 from u2 6 (by decide), show u.1 (1 + 1) 7 = t.1 9 7 from u2 7 (by decide), show u.1 (1 + 1) 8 = t.1 9 8 from u2 8 (by decide), show u.1 (1 + 1) 9 = t.1 9 9 from u2 9 (by decide)]
      refine ⟨cc, fun i hi => ?_, fun i hi => ?_, fun i hi => ?_, fun i hi => ?_, fun i hi => ?_⟩
      · show u.1 3 i = _
        rw [noses i (by omega), v1 _ (by omega)]
        exact h0 i hi
      · show u.1 4 i = _
        rw [uk 4 (by decide) (by decide), v1 _ (by omega)]
        exact (c3 i (by omega)).trans ((by rw [so 11 (by decide)] : s.1 (8 + 3) i = t.1 11 i).trans (h1 i hi))
      · show u.1 5 i = _
        rw [uk 5 (by decide) (by decide), v1 _ (by omega)]
        exact (c4 i (by omega)).trans ((by rw [so 12 (by decide)] : s.1 (8 + 4) i = t.1 12 i).trans (h2 i hi))
      · show u.1 6 i = _
        rw [uk 6 (by decide) (by decide), v1 _ (by omega)]
        exact (c5 i (by omega)).trans ((by rw [so 13 (by decide)] : s.1 (8 + 5) i = t.1 13 i).trans (h3 i hi))
      · rw [b9, z0] at hi
        exact absurd hi (by omega)
  · have hb : w.1 0 12 ≠ 0 := by rw [h12]; exact hg
    have e4 : fX8_house σ = some (-4, sn_pI t 17 1 0) := by
      unfold fX8_house
      rw [e1, rr_bs, rr_lt]
      exact if_neg (show ¬ sn_I (sn_pI t 17 1 (0 : Int32)) 17 2 = 0 by show ¬ (sn_pI t 17 1 (0 : Int32)).1 17 2 = 0; rw [pI_slot (by decide)]; exact hg)
    have e5 : fX9_house τ = some (-4, w) := by
      rw [e3]
      unfold BX9_house_74
      rw [rm_good, if_neg hb, bd_t0]
    refine ⟨-4, _, w, e4, e5, ?_, ?_, fun x => ?_, fun _ => ⟨fun q h2 h7 => ?_, w1⟩⟩
    · rw [pI_slot (by decide)]
      exact h12.symm
    · rw [pI_slot (by decide)]
      exact h13.symm
    · rw [pI_slot (by decide)] at x
      exact absurd x hg
    · rw [pI_ne (by omega)]
      exact tk q h2 h7
end
section
/-! house, both sides -/
theorem zk_house {σ : sn_S} (h : zs_SB zs_tC σ) : ∃ r z, fX8_house σ = some (r, z) ∧ zs_SB zs_tC z ∧ z.1 17 1 = 0 ∧ (∀ q, q = 16 ∨ q = 25 ∨ q = 26 → z.1 q = σ.1 q) ∧ ∀ q, zs_lC q = true → z.2.1 q = σ.2.1 q := by
  have key : zs_ok (fX8_house σ) (fun r => zs_SB zs_tC r.2 ∧ r.2.1 17 1 = 0 ∧ (∀ q, q = 16 ∨ q = 25 ∨ q = 26 → r.2.1 q = σ.1 q) ∧ ∀ q, zs_lC q = true → r.2.2.1 q = σ.2.1 q) := by
    unfold fX8_house
    refine zs_bd_ (zk_read h) (fun t ht => ?_)
    have kq : ∀ q, q = 16 ∨ q = 25 ∨ q = 26 → t.1 q = σ.1 q := fun q hq => funext fun k => ht.1.2.1 q k (by rcases hq with e | e | e <;> subst e <;> rfl)
    have kl : ∀ q, zs_lC q = true → t.2.1 q = σ.2.1 q := ht.1.2.2
    refine zs_lt (Q := fun z => z = sn_pI t 17 1 (0 : Int32)) rfl (fun s hs => ?_)
    have sSB : zs_SB zs_tC s := by
      rw [hs]
      exact zs_sbw ht.1.1 (by rw [show zs_tC 17 1 = (0, 900) from rfl]; decide)
    have s17 : s.1 17 1 = 0 := by rw [hs, pI_self]
    have so : ∀ q, q ≠ 17 → s.1 q = t.1 q := fun q hq => by rw [hs, pI_ne hq]
    have sl : s.2 = t.2 := by rw [hs]; rfl
    refine zs_ite (fun c => ?_) (fun _ => zs_some ⟨sSB, s17, fun q hq => (so q (by omega)).trans (kq q hq), fun q hq => by rw [sl]; exact kl q hq⟩)
    have c2 : t.1 17 2 = 0 := by
      have c3 : s.1 17 2 = 0 := c
      rw [hs, pI_slot (by decide)] at c3
      exact c3
    have d := ht.2.2.2 c2
    have dH : zs_H 8 s := zs_H_c (by rw [so _ (by decide)]) (by rw [so _ (by decide)]) (by rw [so _ (by decide)]) (fun k => by rw [so _ (by decide)]) (fun k => by rw [so _ (by decide)]) (fun j => by rw [so _ (by decide)]) d.2
    obtain ⟨z, e, hm, c1, c3, c4, c5⟩ := zh_hcp s 1 8 (by decide)
    have zSB : zs_SB zs_tC z := zh_hSB (Or.inl rfl) sSB (fun k hk => by rw [so _ (by decide)]; exact d.1 k hk) (fun k => by
      have := sSB.1 14 k
      rw [show zs_tC 14 k = (0, 29) from rfl] at this
      exact this) dH hm c1 c3 c4 c5
    refine zs_bd_ (Q := fun u => u = z) ⟨z, e, rfl⟩ (fun u hu => ?_)
    subst hu
    refine zs_bd_ (zc_1529 (zs_rf zSB)) (fun w hw => zs_gd (by decide) (zs_some ⟨hw.1, ?_, fun q hq => ?_, fun q hq => ?_⟩))
    · show w.1 17 1 = 0
      rw [hw.2.1 17 1 rfl, hm.2.1 17 (by omega)]
      exact s17
    · show w.1 q = σ.1 q
      have e1 : w.1 q = u.1 q := funext fun k => hw.2.1 q k (by rcases hq with e | e | e <;> subst e <;> rfl)
      rw [e1, hm.2.1 q (by omega), so q (by omega)]
      exact kq q hq
    · show w.2.1 q = σ.2.1 q
      rw [hw.2.2 q hq, hm.1, sl]
      exact kl q hq
  obtain ⟨⟨r, z⟩, e, h1⟩ := key
  exact ⟨r, z, e, h1⟩
theorem zj_2 : ∀ (σ τ : sn_S), zj_J σ τ → ∃ r σ1 τ1, fX8_house σ = some (r, σ1) ∧ fX9_house τ = some (r, τ1) ∧ zj_J σ1 τ1 := by
  intro σ τ h
  obtain ⟨n, hn, e0⟩ := zh_n (t := zs_tC) (q := 17) (k := 1) h.1 rfl
  obtain ⟨r, z, e1, b1, c1, c2, c3⟩ := zk_house h.1
  obtain ⟨r2, w, e2, b2, d1, d2, d3, d4, d5, _⟩ := zm_house h.2.1
  obtain ⟨r3, z3, w3, f1, f2, f3, f4, _⟩ := rr_house h.1 h.2.1 e0 (by rw [← h.2.2.1.1]; exact e0) hn (fun k hk => h.2.2.1.2.2.2 k (by rw [e0, nI_toInt (by omega)]; omega))
  rw [e1] at f1
  cases f1
  rw [e2] at f2
  cases f2
  refine ⟨r, z, w, e1, e2, b1, b2, ⟨by rw [c1, d1], f3, f4, fun k hk => ?_⟩, fun k hk => by rw [c2 16 (Or.inl rfl), d2]; exact h.2.2.2.1 k hk, ?_⟩
  · rw [c1, show (0 : Int32).toInt = 0 by decide] at hk
    exact absurd hk (by omega)
  · rw [c2 25 (Or.inr (Or.inl rfl)), c2 26 (Or.inr (Or.inr rfl)), c3 21 rfl, c3 22 rfl, c3 23 rfl, c3 24 rfl, d3, d4, d5]
    exact h.2.2.2.2
theorem zj_3 : ∀ (σ τ : sn_S) (a : Int32), zj_J σ τ → ∃ r, fX8_fault σ a = some r ∧ fX9_fault τ a = some r := by
  intro σ τ a h
  unfold fX8_fault fX9_fault
  by_cases h0 : a = 0
  · rw [if_pos h0, if_pos h0]
    exact ⟨σ.1 17 2, rfl, by show some (τ.1 0 12) = _; rw [h.2.2.1.2.1]⟩
  · rw [if_neg h0, if_neg h0]
    by_cases h1 : a = 1
    · rw [if_pos h1, if_pos h1]
      exact ⟨σ.1 17 3, rfl, by show some (τ.1 0 13) = _; rw [h.2.2.1.2.2.1]⟩
    · rw [if_neg h1, if_neg h1]
      exact ⟨-1, rfl, rfl⟩
/-! the beginning -/
theorem zi_cnt (k : Nat) : (zs_cnt k).1 ≤ 0 ∧ 0 ≤ (zs_cnt k).2 := by
  unfold zs_cnt
  repeat' first | exact zs_bif (P := fun p : Int × Int => p.1 ≤ 0 ∧ 0 ≤ p.2) (by decide) (by decide) | refine zs_bif (P := fun p : Int × Int => p.1 ≤ 0 ∧ 0 ≤ p.2) (by decide) ?_
theorem zi_tC (q k : Nat) : (zs_tC q k).1 ≤ 0 ∧ 0 ≤ (zs_tC q k).2 := by
  unfold zs_tC
  repeat' first | exact zi_cnt k | decide | refine zs_bif (P := fun p : Int × Int => p.1 ≤ 0 ∧ 0 ≤ p.2) ?_ ?_
theorem zi_row (k : Nat) : (zs_row k).1 ≤ 0 ∧ 0 ≤ (zs_row k).2 := zm_zero k
theorem zi_tM (q k : Nat) : (zs_tM q k).1 ≤ 0 ∧ 0 ≤ (zs_tM q k).2 := by
  unfold zs_tM
  repeat' first | exact zi_row _ | decide | refine zs_bif (P := fun p : Int × Int => p.1 ≤ 0 ∧ 0 ≤ p.2) ?_ ?_
theorem zi_0 : (0 : Int32).toInt = 0 := by decide
theorem zi_zC : zs_C sn_z sn_z := ⟨⟨fun q k => by
  show (zs_tC q k).1 ≤ (0 : Int32).toInt ∧ (0 : Int32).toInt ≤ (zs_tC q k).2
  rw [zi_0]
  exact zi_tC q k, fun _ => by
  have n : ∀ (cq ck rq s o m : Nat) (hi : Int), zs_Ru cq ck rq s o m hi sn_z := fun cq ck rq s o m hi j _ hj => by
    have hj : (j : Int) < (0 : Int32).toInt := hj
    rw [zi_0] at hj
    exact absurd hj (by omega)
  exact ⟨⟨⟨n _ _ _ _ _ _ _, n _ _ _ _ _ _ _, n _ _ _ _ _ _ _, n _ _ _ _ _ _ _⟩, ⟨n _ _ _ _ _ _ _, n _ _ _ _ _ _ _, n _ _ _ _ _ _ _, n _ _ _ _ _ _ _⟩, ⟨n _ _ _ _ _ _ _, n _ _ _ _ _ _ _, n _ _ _ _ _ _ _, n _ _ _ _ _ _ _⟩, ⟨n _ _ _ _ _ _ _, n _ _ _ _ _ _ _, n _ _ _ _ _ _ _, n _ _ _ _ _ _ _⟩⟩, ⟨n _ _ _ _ _ _ _, n _ _ _ _ _ _ _⟩, ⟨n _ _ _ _ _ _ _, n _ _ _ _ _ _ _⟩, ⟨n _ _ _ _ _ _ _, n _ _ _ _ _ _ _⟩⟩⟩, fun _ _ _ => rfl, fun _ _ => rfl⟩
theorem zi_zM : zs_M sn_z sn_z := ⟨⟨fun q k => by
  show (zs_tM q k).1 ≤ (0 : Int32).toInt ∧ (0 : Int32).toInt ≤ (zs_tM q k).2
  rw [zi_0]
  exact zi_tM q k, fun h => by cases h⟩, fun _ _ _ => rfl, fun _ _ => rfl⟩
theorem zi_pR {t : zs_T} {σ : sn_S} {q k : Nat} {x : Option Nat} (h : zs_SB t σ) : zs_SB t (sn_pR σ q k x) := (zs_wrR (zs_rf (key := fun _ _ => false) (kl := fun _ => false) h)).1
theorem zi_fl {σ : sn_S} {q : Nat} (h : zs_SB zs_tC σ) (hq : q = 26) : zs_SB zs_tC (sn_fl σ q) := by
  subst hq
  unfold sn_fl
  exact zs_sbw (zs_sbw (zs_sbw (zs_sbw h (by decide)) (by decide)) (by decide)) (by decide)
theorem zi_C : zs_SB zs_tC sn_iniX8 := by
  unfold sn_iniX8 sn_iniX2 sn_iniX5 sn_iniX6 sn_iniX7 sn_iniX4 sn_iniX3 sn_iniX1 sn_iniX0 sn_rw4
  repeat' first | with_reducible exact zi_zC.1 | with_reducible refine zi_pR ?_ | with_reducible refine zi_fl ?_ ?_ | with_reducible refine zs_sbw ?_ ?_ ?_ | decide | rfl
theorem zi_M : zs_SB zs_tM sn_iniX9 := by
  unfold sn_iniX9
  repeat' first | with_reducible exact zi_zM.1 | with_reducible refine zi_pR ?_ | with_reducible refine zs_sbw ?_ ?_ ?_ | decide | rfl
theorem zj_ini : zj_J sn_iniX8 sn_iniX9 := by
  refine ⟨zi_C, zi_M, ⟨rfl, rfl, rfl, fun k hk => ?_⟩, fun k hk => ?_, fun s hs => ?_, fun i _ => ⟨rfl, rfl, rfl, rfl⟩⟩
  · have hk : (k : Int) < (0 : Int32).toInt := hk
    rw [zi_0] at hk
    exact absurd hk (by omega)
  · have : k = 0 ∨ k = 1 ∨ k = 2 := by omega
    rcases this with e | e | e <;> subst e <;> rfl
  · have : s = 0 ∨ s = 1 ∨ s = 2 ∨ s = 3 := by omega
    rcases this with e | e | e | e <;> subst e <;> exact ⟨rfl, rfl, by decide, by decide⟩
end
section
/-! the houses alike -/
def zh_J (σ τ : sn_S) : Prop := rr_H 1 σ (τ.1 1) ∧ ∀ j, j < 3 → rr_H (73 + 7 * j) σ (fun k => τ.1 2 (119 * j + k))
def zJ (σ τ : sn_S) : Prop := zj_J σ τ ∧ zh_J σ τ
def zh_cb (h : Nat) (σ : sn_S) : Prop := (0 ≤ (σ.1 (h + 1) 5).toInt ∧ (σ.1 (h + 1) 5).toInt ≤ 6) ∧ (0 ≤ (σ.1 (h + 1) 6).toInt ∧ (σ.1 (h + 1) 6).toInt ≤ 5) ∧ (0 ≤ (σ.1 (h + 1) 7).toInt ∧ (σ.1 (h + 1) 7).toInt ≤ 8) ∧ (0 ≤ (σ.1 (h + 1) 8).toInt ∧ (σ.1 (h + 1) 8).toInt ≤ 6) ∧ 0 ≤ (σ.1 (h + 1) 9).toInt ∧ (σ.1 (h + 1) 9).toInt ≤ 40
theorem zh_cbS {σ : sn_S} (hS : zs_SB zs_tC σ) {h : Nat} (hh : h = 1 ∨ h = 73 ∨ h = 80 ∨ h = 87) : zh_cb h σ := by
  have key : ∀ k, (zs_cnt k).1 ≤ (σ.1 (h + 1) k).toInt ∧ (σ.1 (h + 1) k).toInt ≤ (zs_cnt k).2 := fun k => by
    have := hS.1 (h + 1) k
    rw [(zh_tab hh k).2.1] at this
    exact this
  exact ⟨key 5, key 6, key 7, key 8, key 9⟩
theorem rr_Hc {h : Nat} {σ σ' : sn_S} {w w' : Nat → Int32} (hb : zh_cb h σ) (hs : ∀ q, h + 1 ≤ q → q ≤ h + 6 → σ'.1 q = σ.1 q) (hw : ∀ k, k < 119 → w' k = w k) (H : rr_H h σ w) : rr_H h σ' w' := by
  obtain ⟨b5, b6, b7, b8, b9⟩ := hb
  obtain ⟨h0, h1, h2, h3, h4, h5⟩ := H
  unfold rr_H
  rw [hs (h + 1) (by omega) (by omega), hs (h + 2) (by omega) (by omega), hs (h + 3) (by omega) (by omega), hs (h + 4) (by omega) (by omega), hs (h + 5) (by omega) (by omega), hs (h + 6) (by omega) (by omega)]
  exact ⟨fun k hk => by rw [hw k (by omega)]; exact h0 k hk, fun i hi => by rw [hw _ (by omega)]; exact h1 i hi, fun i hi => by rw [hw _ (by omega)]; exact h2 i hi, fun i hi => by rw [hw _ (by omega)]; exact h3 i hi, fun i hi => by rw [hw _ (by omega)]; exact h4 i hi, fun i hi => by rw [hw _ (by omega)]; exact h5 i hi⟩
theorem zh_3 {j : Nat} (hj : j < 3) : 73 + 7 * j = 1 ∨ 73 + 7 * j = 73 ∨ 73 + 7 * j = 80 ∨ 73 + 7 * j = 87 := by omega
theorem zh_Jc {σ σ' τ τ' : sn_S} (hS : zs_SB zs_tC σ) (hC : ∀ q, (2 ≤ q ∧ q ≤ 7) ∨ (73 ≤ q ∧ q ≤ 93) → σ'.1 q = σ.1 q) (m1 : τ'.1 1 = τ.1 1) (m2 : τ'.1 2 = τ.1 2) (h : zh_J σ τ) : zh_J σ' τ' :=
  ⟨rr_Hc (zh_cbS hS (Or.inl rfl)) (fun q h1 h2 => hC q (Or.inl ⟨h1, h2⟩)) (fun k _ => by rw [m1]) h.1, fun j hj => rr_Hc (zh_cbS hS (zh_3 hj)) (fun q h1 h2 => hC q (Or.inr ⟨by omega, by omega⟩)) (fun k _ => by rw [m2]) (h.2 j hj)⟩
theorem zs_kCh {q k : Nat} (h : (2 ≤ q ∧ q ≤ 7) ∨ (73 ≤ q ∧ q ≤ 93)) : zs_kC q k = true := by
  have : q = 2 ∨ q = 3 ∨ q = 4 ∨ q = 5 ∨ q = 6 ∨ q = 7 ∨ (73 ≤ q ∧ q ≤ 93) := by omega
  rcases this with e | e | e | e | e | e | e
  · subst e; rfl
  · subst e; rfl
  · subst e; rfl
  · subst e; rfl
  · subst e; rfl
  · subst e; rfl
  · have : ∀ q, q < 94 → 73 ≤ q → (zs_kC q 0 = true ∧ ∀ k, zs_kC q k = zs_kC q 0) := by
      intro q h1 h2
      have : q = 73 ∨ q = 74 ∨ q = 75 ∨ q = 76 ∨ q = 77 ∨ q = 78 ∨ q = 79 ∨ q = 80 ∨ q = 81 ∨ q = 82 ∨ q = 83 ∨ q = 84 ∨ q = 85 ∨ q = 86 ∨ q = 87 ∨ q = 88 ∨ q = 89 ∨ q = 90 ∨ q = 91 ∨ q = 92 ∨ q = 93 := by omega
      rcases this with e | e | e | e | e | e | e | e | e | e | e | e | e | e | e | e | e | e | e | e | e <;> subst e <;> exact ⟨rfl, fun _ => rfl⟩
    have x := this q (by omega) e.1
    rw [x.2 k]
    exact x.1
theorem zJ_keep {σ σ' τ τ' : sn_S} (hC : zs_C σ σ') (hM : zs_M τ τ') (h : zJ σ τ) : zJ σ' τ' := ⟨zj_keep (zs_c0 hC) (zs_m0 hM) h.1, zh_Jc h.1.1 (fun q hq => funext fun k => hC.2.1 q k (zs_kCh hq)) (funext fun k => hM.2.1 1 k rfl) (funext fun k => hM.2.1 2 k rfl) h.2⟩
/-! who, which, how many -/
theorem zq_guard {c d a : Int32} {m : Nat} (e : c = d) (hc : 0 ≤ c.toInt ∧ c.toInt ≤ (m : Int)) (hm : m < 1000) {f g : Option Int32} (ef : f = some (if 0 ≤ a ∧ a < c then 1 else 0)) (eg : 0 ≤ d → g = some (if 0 ≤ a ∧ a < d then 1 else 0)) : ∃ v : Int32, f = some v ∧ g = some v ∧ (v ≠ 0 → ∃ p : Nat, a = nI p ∧ (p : Int) < c.toInt) := by
  subst e
  have h0 : (0 : Int32) ≤ c := Int32.le_iff_toInt_le.mpr (by rw [show (0 : Int32).toInt = 0 by decide]; exact hc.1)
  refine ⟨_, ef, eg h0, fun hv => ?_⟩
  by_cases x : 0 ≤ a ∧ a < c
  · have c1 := zs_I_le x.1
    have c2 := zs_I_lt x.2
    rw [show (0 : Int32).toInt = 0 by decide] at c1
    obtain ⟨p, hp, ep⟩ := zs_val (x := a) (a := 0) (b := (m : Int)) ⟨by omega, by omega⟩ ⟨by decide, by omega⟩
    refine ⟨p, ep, ?_⟩
    rw [ep, nI_toInt (by omega)] at c2
    exact c2
  · rw [if_neg x] at hv
    exact absurd rfl hv
theorem zq_person {σ τ : sn_S} (h : zJ σ τ) (a : Int32) : ∃ v : Int32, fX8_isPerson σ a = some v ∧ fX9_isPerson τ a.toInt64 = some v ∧ (v ≠ 0 → ∃ p : Nat, a = nI p ∧ (p : Int) < (σ.1 2 5).toInt) := zq_guard (m := 6) (h.2.1.1 5 (by decide)) (zh_cbS h.1.1 (Or.inl rfl)).1 (by decide) (c_isPerson σ a) (fun h5 => m_isPerson h5 a)
theorem zq_policy {σ τ : sn_S} (h : zJ σ τ) (a : Int32) : ∃ v : Int32, fX8_isPolicy σ a = some v ∧ fX9_isPolicy τ a = some v ∧ (v ≠ 0 → ∃ p : Nat, a = nI p ∧ (p : Int) < (σ.1 2 8).toInt) := zq_guard (m := 6) (h.2.1.1 8 (by decide)) (zh_cbS h.1.1 (Or.inl rfl)).2.2.2.1 (by decide) (c_isPolicy σ a) (fun h5 => m_isPolicy h5 a)
theorem zq_go {v : Int32} {r0 : Int32} {X Y : Option Int32} (hX : v ≠ 0 → ∃ r, X = some r ∧ Y = some r) : ∃ r, ((some v).bind fun t => if t = 0 then some r0 else X) = some r ∧ ((some v).bind fun t => if t = 0 then some r0 else Y) = some r := by
  by_cases c : v = 0
  · subst c
    exact ⟨r0, rfl, rfl⟩
  · obtain ⟨r, x, y⟩ := hX c
    refine ⟨r, ?_, ?_⟩
    · show (if v = 0 then some r0 else X) = _
      rw [if_neg c, x]
    · show (if v = 0 then some r0 else Y) = _
      rw [if_neg c, y]
theorem zJ_4 : ∀ (σ τ : sn_S) (a b : Int32), zJ σ τ → ∃ r, fX8_nose σ a b = some r ∧ fX9_nose τ a b = some r := by
  intro σ τ a b h
  obtain ⟨v, e1, e2, hv⟩ := zq_person h a
  have bb := (zh_cbS h.1.1 (Or.inl rfl)).1
  have bb : 0 ≤ (σ.1 2 5).toInt ∧ (σ.1 2 5).toInt ≤ 6 := bb
  unfold fX8_nose fX9_nose
  rw [e1, e2]
  have e9 : fX9_in b.toInt64 (0 : Int64) (1 : Int64) = some (if (0 : Int32) ≤ b ∧ b ≤ (1 : Int32) then 1 else 0) := in_eq32 b 0 1
  refine zq_go (fun c => ?_)
  obtain ⟨p, ep, hp⟩ := hv c
  subst ep
  rw [e9]
  by_cases c0 : b < 0
  · rw [if_pos c0, if_neg (show ¬ ((0 : Int32) ≤ b ∧ b ≤ 1) from fun x => absurd c0 (Int32.not_lt.mpr x.1)), bd_t0]
    exact ⟨-2, rfl, rfl⟩
  · rw [if_neg c0]
    by_cases c1 : b ≤ 1
    · rw [if_pos c1, if_pos (show (0 : Int32) ≤ b ∧ b ≤ 1 from ⟨Int32.not_lt.mp c0, c1⟩), bd_t1]
      have d0 := zs_I_ltn c0
      have d1 := zs_I_le c1
      rw [show (0 : Int32).toInt = 0 by decide] at d0
      rw [show (1 : Int32).toInt = 1 by decide] at d1
      obtain ⟨t, ht, et⟩ := zs_val (x := b) (a := 0) (b := 1) ⟨d0, d1⟩ (by decide)
      subst et
      have ht : t < 2 := ht
      have i1 : ((2 : Int32) * nI p) + nI t = nI (2 * p + t) := by rw [zk_2n, nI_add]
      have i2 : ((11 : Int32) + ((2 : Int32) * nI p)) + nI t = nI (11 + (2 * p + t)) := by
        rw [zk_2n, show (11 : Int32) + nI (2 * p) = nI (11 + 2 * p) from nI_add 11 (2 * p), nI_add, Nat.add_assoc]
      rw [i1, i2, sn_in_nI (by omega) (by decide), gd_T, sn_in_nI (by omega) (by decide), gd_T, nI_clamp (by omega), nI_clamp (by omega)]
      refine ⟨_, rfl, ?_⟩
      have := h.2.1.2.1 (2 * p + t) (by show ((2 * p + t : Nat) : Int) < 2 * (σ.1 2 5).toInt; omega)
      show some (τ.1 1 (11 + (2 * p + t))) = some (σ.1 3 (2 * p + t))
      rw [← this]
    · rw [if_neg c1, if_neg (show ¬ ((0 : Int32) ≤ b ∧ b ≤ 1) from fun x => c1 x.2), bd_t0]
      exact ⟨-2, rfl, rfl⟩
theorem zJ_5 : ∀ (σ τ : sn_S) (a b : Int32), zJ σ τ → ∃ r, fX8_policy σ a b = some r ∧ fX9_policy τ a b = some r := by
  intro σ τ a b h
  obtain ⟨v, e1, e2, hv⟩ := zq_policy h a
  have bb := (zh_cbS h.1.1 (Or.inl rfl)).2.2.2.1
  have bb : 0 ≤ (σ.1 2 8).toInt ∧ (σ.1 2 8).toInt ≤ 6 := bb
  unfold fX8_policy fX9_policy
  rw [e1, e2]
  have e9 : fX9_in b.toInt64 (0 : Int64) (4 : Int64) = some (if (0 : Int32) ≤ b ∧ b ≤ (4 : Int32) then 1 else 0) := in_eq32 b 0 4
  refine zq_go (fun c => ?_)
  obtain ⟨p, ep, hp⟩ := hv c
  subst ep
  rw [e9]
  by_cases c0 : b < 0
  · rw [if_pos c0, if_neg (show ¬ ((0 : Int32) ≤ b ∧ b ≤ 4) from fun x => absurd c0 (Int32.not_lt.mpr x.1)), bd_t0]
    exact ⟨-2, rfl, rfl⟩
  · rw [if_neg c0]
    have d0 := zs_I_ltn c0
    rw [show (0 : Int32).toInt = 0 by decide] at d0
    by_cases c1 : b < 5
    · have d1 := zs_I_lt c1
      rw [show (5 : Int32).toInt = 5 by decide] at d1
      rw [if_pos c1, if_pos (show (0 : Int32) ≤ b ∧ b ≤ 4 from ⟨Int32.not_lt.mp c0, Int32.le_iff_toInt_le.mpr (by rw [show (4 : Int32).toInt = 4 by decide]; omega)⟩), bd_t1]
      obtain ⟨t, ht, et⟩ := zs_val (x := b) (a := 0) (b := 4) ⟨d0, by omega⟩ (by decide)
      subst et
      have ht : t < 5 := ht
      have i1 : ((5 : Int32) * nI p) + nI t = nI (5 * p + t) := by rw [zk_5n, nI_add]
      have i2 : ((49 : Int32) + ((5 : Int32) * nI p)) + nI t = nI (49 + (5 * p + t)) := by
        rw [zk_5n, show (49 : Int32) + nI (5 * p) = nI (49 + 5 * p) from nI_add 49 (5 * p), nI_add, Nat.add_assoc]
      unfold fX2_ofPolicy fX9_of
      rw [i1, i2, sn_in_nI (by omega) (by decide), gd_T, sn_in_nI (by omega) (by decide), gd_T, nI_clamp (by omega), nI_clamp (by omega)]
      refine ⟨_, rfl, ?_⟩
      have := h.2.1.2.2.2.2.1 (5 * p + t) (by show ((5 * p + t : Nat) : Int) < 5 * (σ.1 2 8).toInt; omega)
      show some (τ.1 1 (49 + (5 * p + t))) = some (σ.1 6 (5 * p + t))
      rw [← this]
    · have d1 := zs_I_ltn c1
      rw [show (5 : Int32).toInt = 5 by decide] at d1
      rw [if_neg c1, if_neg (show ¬ ((0 : Int32) ≤ b ∧ b ≤ 4) from fun x => by have := zs_I_le x.2; rw [show (4 : Int32).toInt = 4 by decide] at this; omega), bd_t0]
      exact ⟨-2, rfl, rfl⟩
end
section
/-! images, both sides -/
theorem rm_image (σ : sn_S) {j : Nat} (hj : j < 3) : ∃ t, sn_it (LX9_image_17 (nI j)) 5000 (σ, (0 : Int32)) = some t ∧ (∀ q, q ≠ 2 → t.1 q = σ.1 q) ∧ (∀ k, k < 119 → t.1 2 (119 * j + k) = σ.1 1 k) ∧ (∀ i, i < 119 * j ∨ 119 * j + 119 ≤ i → t.1 2 i = σ.1 2 i) ∧ t.2 = σ.2 := by
  obtain ⟨t, e1, e2⟩ := sn_for (f := LX9_image_17 (nI j)) 119 (fun k s => s.2 = nI k ∧ (∀ q, q ≠ 2 → s.1.1 q = σ.1 q) ∧ (∀ i, i < k → s.1.1 2 (119 * j + i) = σ.1 1 i) ∧ (∀ i, i < 119 * j ∨ 119 * j + 119 ≤ i → s.1.1 2 i = σ.1 2 i) ∧ s.1.2 = σ.2) (fun t => (∀ q, q ≠ 2 → t.1 q = σ.1 q) ∧ (∀ k, k < 119 → t.1 2 (119 * j + k) = σ.1 1 k) ∧ (∀ i, i < 119 * j ∨ 119 * j + 119 ≤ i → t.1 2 i = σ.1 2 i) ∧ t.2 = σ.2)
    (fun k s hk hs => by
      obtain ⟨s1, s2⟩ := s
      obtain ⟨h2, h3, h4, h5, h6⟩ := hs
      have h2 : s2 = nI k := h2
      subst h2
      have h3 : ∀ q, q ≠ 2 → s1.1 q = σ.1 q := h3
      have ei : (119 : Int32) * nI j + nI k = nI (119 * j + k) := by
        rw [show (119 : Int32) * nI j = nI (119 * j) from nI_mul 119 j, nI_add]
      refine ⟨(sn_pI s1 2 (119 * j + k) (s1.1 1 k), nI (k + 1)), ?_, rfl, fun q hq => ?_, fun i hi => ?_, fun i hi => ?_, h6⟩
      · unfold LX9_image_17 BX9_image_17
        show (if (119 : Int32) ≤ nI k then _ else _) = _
        rw [if_neg (show ¬ (119 : Int32) ≤ nI k from nI_ge (b := 119) hk (by decide)), ei, sn_in_nI hk (by decide), gd_T, sn_in_nI (by omega) (by decide), gd_T, nI_clamp (show 119 * j + k < 2 ^ 31 by omega), nI_clamp (show k < 2 ^ 31 by omega), ← nI_1]
        rfl
      · show (sn_pI s1 2 (119 * j + k) (s1.1 1 k)).1 q = _
        rw [pI_ne hq]
        exact h3 q hq
      · show (sn_pI s1 2 (119 * j + k) (s1.1 1 k)).1 2 (119 * j + i) = _
        by_cases e : i = k
        · subst e
          rw [pI_self, h3 1 (by decide)]
        · rw [pI_slot (by omega)]
          exact h4 i (by omega)
      · show (sn_pI s1 2 (119 * j + k) (s1.1 1 k)).1 2 i = _
        rw [pI_slot (by omega)]
        exact h5 i hi)
    (fun s hs => by
      obtain ⟨s1, s2⟩ := s
      obtain ⟨h2, h3, h4, h5, h6⟩ := hs
      have h2 : s2 = nI 119 := h2
      subst h2
      refine ⟨s1, ?_, h3, h4, h5, h6⟩
      unfold LX9_image_17 BX9_image_17
      exact if_pos (show (119 : Int32) ≤ nI 119 from Int32.le_refl _))
    (n := 5000) (by decide) (s := (σ, (0 : Int32))) ⟨nI_0.symm, fun _ _ => rfl, fun i hi => absurd hi (by omega), fun _ _ => rfl, rfl⟩
  exact ⟨t, e1, e2⟩
theorem rm_back (σ : sn_S) {j : Nat} (hj : j < 3) : ∃ t, sn_it (LX9_back_29 (nI j)) 5000 (σ, (0 : Int32)) = some t ∧ (∀ q, q ≠ 1 → t.1 q = σ.1 q) ∧ (∀ k, k < 119 → t.1 1 k = σ.1 2 (119 * j + k)) ∧ t.2 = σ.2 := by
  obtain ⟨t, e1, e2⟩ := sn_for (f := LX9_back_29 (nI j)) 119 (fun k s => s.2 = nI k ∧ (∀ q, q ≠ 1 → s.1.1 q = σ.1 q) ∧ (∀ i, i < k → s.1.1 1 i = σ.1 2 (119 * j + i)) ∧ s.1.2 = σ.2) (fun t => (∀ q, q ≠ 1 → t.1 q = σ.1 q) ∧ (∀ k, k < 119 → t.1 1 k = σ.1 2 (119 * j + k)) ∧ t.2 = σ.2)
    (fun k s hk hs => by
      obtain ⟨s1, s2⟩ := s
      obtain ⟨h2, h3, h4, h6⟩ := hs
      have h2 : s2 = nI k := h2
      subst h2
      have h3 : ∀ q, q ≠ 1 → s1.1 q = σ.1 q := h3
      have ei : (119 : Int32) * nI j + nI k = nI (119 * j + k) := by
        rw [show (119 : Int32) * nI j = nI (119 * j) from nI_mul 119 j, nI_add]
      refine ⟨(sn_pI s1 1 k (s1.1 2 (119 * j + k)), nI (k + 1)), ?_, rfl, fun q hq => ?_, fun i hi => ?_, h6⟩
      · unfold LX9_back_29 BX9_back_29
        show (if (119 : Int32) ≤ nI k then _ else _) = _
        rw [if_neg (show ¬ (119 : Int32) ≤ nI k from nI_ge (b := 119) hk (by decide)), ei, sn_in_nI (show 119 * j + k < 357 by omega) (by decide), gd_T, sn_in_nI hk (by decide), gd_T, nI_clamp (show 119 * j + k < 2 ^ 31 by omega), nI_clamp (show k < 2 ^ 31 by omega), ← nI_1]
        rfl
      · show (sn_pI s1 1 k (s1.1 2 (119 * j + k))).1 q = _
        rw [pI_ne hq]
        exact h3 q hq
      · show (sn_pI s1 1 k (s1.1 2 (119 * j + k))).1 1 i = _
        by_cases e : i = k
        · subst e
          rw [pI_self, h3 2 (by decide)]
        · rw [pI_slot e]
          exact h4 i (by omega))
    (fun s hs => by
      obtain ⟨s1, s2⟩ := s
      obtain ⟨h2, h3, h4, h6⟩ := hs
      have h2 : s2 = nI 119 := h2
      subst h2
      refine ⟨s1, ?_, h3, h4, h6⟩
      unfold LX9_back_29 BX9_back_29
      exact if_pos (show (119 : Int32) ≤ nI 119 from Int32.le_refl _))
    (n := 5000) (by decide) (s := (σ, (0 : Int32))) ⟨nI_0.symm, fun _ _ => rfl, fun i hi => absurd hi (by omega), rfl⟩
  exact ⟨t, e1, e2⟩
theorem rc_noses {s z : sn_S} {a b : Nat} (hd : b + 6 < a ∨ a + 6 < b) (ez : fX2_copyFrom s a b = some z) (k : Nat) (hk : k < 12) : z.1 (a + 2) k = s.1 (b + 2) k := by
  have key : zs_ok (fX2_copyFrom s a b) (fun z => z.1 (a + 2) k = s.1 (b + 2) k) := by
    unfold fX2_copyFrom
    refine zs_gd (by decide) (zs_lt (Q := fun z => z.1 (b + 2) = s.1 (b + 2)) (zh_cp_ne (a := a + 1) (by omega)) (fun z1 m1 => ?_))
    refine zs_gd (by decide) (zs_lt (Q := fun z => z.1 (a + 2) k = s.1 (b + 2) k) ?_ (fun z2 m2 => ?_))
    · show (zh_cp z1 (a + 2) (b + 2) 12).1 (a + 2) k = _
      rw [zh_cp_eq (by decide), if_pos hk, m1]
    refine zs_gd (by decide) (zs_lt (Q := fun z => z.1 (a + 2) k = s.1 (b + 2) k) ((congrFun (zh_cp_ne (z := z2) (a := a + 3) (b := b + 3) (L := 10) (by omega)) k).trans m2) (fun z3 m3 => ?_))
    refine zs_gd (by decide) (zs_lt (Q := fun z => z.1 (a + 2) k = s.1 (b + 2) k) ((congrFun (zh_cp_ne (z := z3) (a := a + 4) (b := b + 4) (L := 16) (by omega)) k).trans m3) (fun z4 m4 => ?_))
    refine zs_gd (by decide) (zs_lt (Q := fun z => z.1 (a + 2) k = s.1 (b + 2) k) ((congrFun (zh_cp_ne (z := z4) (a := a + 5) (b := b + 5) (L := 30) (by omega)) k).trans m4) (fun z5 m5 => ?_))
    exact zs_gd (by decide) (zs_lt (Q := fun z => z.1 (a + 2) k = s.1 (b + 2) k) ((congrFun (zh_cp_ne (z := z5) (a := a + 6) (b := b + 6) (L := 120) (by omega)) k).trans m5) (fun z6 m6 => zs_some m6))
  obtain ⟨z', e, h⟩ := key
  rw [ez] at e
  cases e
  exact h
theorem rc_acts {s z : sn_S} {a b : Nat} (hd : b + 6 < a ∨ a + 6 < b) (ez : fX2_copyFrom s a b = some z) (k : Nat) (hk : k < 120) : z.1 (a + 6) k = s.1 (b + 6) k := by
  have key : zs_ok (fX2_copyFrom s a b) (fun z => z.1 (a + 6) k = s.1 (b + 6) k) := by
    unfold fX2_copyFrom
    refine zs_gd (by decide) (zs_lt (Q := fun z => z.1 (b + 6) = s.1 (b + 6)) (zh_cp_ne (a := a + 1) (by omega)) (fun z1 m1 => ?_))
    refine zs_gd (by decide) (zs_lt (Q := fun z => z.1 (b + 6) = s.1 (b + 6)) ((zh_cp_ne (z := z1) (a := a + 2) (b := b + 2) (L := 12) (by omega)).trans m1) (fun z2 m2 => ?_))
    refine zs_gd (by decide) (zs_lt (Q := fun z => z.1 (b + 6) = s.1 (b + 6)) ((zh_cp_ne (z := z2) (a := a + 3) (b := b + 3) (L := 10) (by omega)).trans m2) (fun z3 m3 => ?_))
    refine zs_gd (by decide) (zs_lt (Q := fun z => z.1 (b + 6) = s.1 (b + 6)) ((zh_cp_ne (z := z3) (a := a + 4) (b := b + 4) (L := 16) (by omega)).trans m3) (fun z4 m4 => ?_))
    refine zs_gd (by decide) (zs_lt (Q := fun z => z.1 (b + 6) = s.1 (b + 6)) ((zh_cp_ne (z := z4) (a := a + 5) (b := b + 5) (L := 30) (by omega)).trans m4) (fun z5 m5 => ?_))
    refine zs_gd (by decide) (zs_lt (Q := fun z => z.1 (a + 6) k = s.1 (b + 6) k) ?_ (fun z6 m6 => zs_some m6))
    show (zh_cp z5 (a + 6) (b + 6) 120).1 (a + 6) k = _
    rw [zh_cp_eq (by decide), if_pos hk, m5]
  obtain ⟨z', e, h⟩ := key
  rw [ez] at e
  cases e
  exact h
/-- a house laid over another is the same house -/
theorem rc_copyH {σ z : sn_S} {a b : Nat} {w : Nat → Int32} (hd : b + 6 < a ∨ a + 6 < b) (hb : zh_cb b σ) (ez : fX2_copyFrom σ a b = some z) (H : rr_H b σ w) : rr_H a z w := by
  obtain ⟨z', e, hm, c1, c3, c4, c5⟩ := zh_hcp σ a b hd
  rw [ez] at e
  cases e
  obtain ⟨b5, b6, b7, b8, b9⟩ := hb
  obtain ⟨h0, h1, h2, h3, h4, h5⟩ := H
  have cc : ∀ k, k < 11 → z.1 (a + 1) k = σ.1 (b + 1) k := fun k hk => by
    have := c1 k
    rw [if_pos hk] at this
    exact this
  unfold rr_H
  rw [cc 5 (by decide), cc 6 (by decide), cc 7 (by decide), cc 8 (by decide), cc 9 (by decide)]
  exact ⟨fun k hk => (cc k hk).trans (h0 k hk), fun i hi => (rc_noses hd ez i (by omega)).trans (h1 i hi), fun i hi => (c3 i (by omega)).trans (h2 i hi), fun i hi => (c4 i (by omega)).trans (h3 i hi), fun i hi => (c5 i (by omega)).trans (h4 i hi), fun i hi => by rw [rc_acts hd ez _ (by omega), rc_acts hd ez _ (by omega), rc_acts hd ez _ (by omega)]; exact h5 i hi⟩
end
