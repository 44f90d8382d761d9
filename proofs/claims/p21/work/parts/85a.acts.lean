-- fX9_in
theorem zA_1 {x0 : Int64} (h_x0 : zs_in x0.toInt (-2147483648) 2147483647) {x2 : Int64} (h_x2 : zs_in x2.toInt 0 0) {x4 : Int64} (h_x4 : zs_in x4.toInt (-1) 5) : zs_ok (fX9_in x0 x2 x4) (fun r => (zs_in (r).toInt 0 1) ∧ ((r).toInt = 0 ∨ (zs_in (x0).toInt 0 5 ∧ zs_in (x4).toInt 0 5))) := by
  unfold fX9_in
  refine zs_ite (fun c1 => ?_) (fun c1 => ?_)
  · skip
    have r2 := (zs_lg_lt c1)
    have g3 : zs_in (x0).toInt (-2147483648) (-1) := (zs_ltl (-2147483648) (-1) r2 h_x0 h_x2 (by decide))
    refine zs_gd (zs_b01 zlI_0 (by decide)) ?_
    exact zs_some ⟨(zs_w zlI_0 (by decide)), Or.inl (zs_ptr zlI_0)⟩
  · skip
    have r4 := (zs_lg_ltn c1)
    have g5 : zs_in (x0).toInt 0 2147483647 := (zs_ler 0 2147483647 r4 h_x2 h_x0 (by decide))
    refine zs_ite (fun c6 => ?_) (fun c6 => ?_)
    · skip
      have r7 := (zs_lg_ltf c6)
      refine zs_gd (zs_b01 zlI_0 (by decide)) ?_
      exact zs_some ⟨(zs_w zlI_0 (by decide)), Or.inl (zs_ptr zlI_0)⟩
    · skip
      have r8 := (zs_lg_ltfn c6)
      have g9 : zs_in (x0).toInt 0 5 := (zs_lel 0 5 r8 g5 h_x4 (by decide))
      have g10 : zs_in (x4).toInt 0 5 := (zs_ler 0 5 r8 g5 h_x4 (by decide))
      refine zs_gd (zs_b01 zlI_1 (by decide)) ?_
      exact zs_some ⟨(zs_w zlI_1 (by decide)), Or.inr ⟨g9, g10⟩⟩
-- fX9_isPerson
theorem zA_2 {σ0 : sn_S} {σ : sn_S} (h_σ : zs_M0 σ0 σ) {x1 : Int64} (h_x1 : zs_in x1.toInt (-2147483648) 2147483647) : zs_ok (fX9_isPerson σ x1) (fun r => (zs_in (r).toInt 0 1) ∧ ((r).toInt = 0 ∨ (zs_in (x1).toInt 0 5))) := by
  unfold fX9_isPerson
  refine zs_gd (zs_gin zlI_5 (by decide)) ?_
  refine zs_bd_ (zA_1 h_x1 zlL_0 (zs_64 (zs_subI (-1) 5 (zs_rdk (q := 1) (k := (5 : Int32).toNatClampNeg) (z := (0, 6)) h_σ.1 rfl) zlI_1 (by decide)))) (fun t_2 pt_2 => ?_)
  refine zs_gd (zs_b01 pt_2.1 (by decide)) ?_
  rcases pt_2.2 with z0 | z0
  · skip
    have g1 : zs_in (t_2).toInt 0 0 := (zs_pt z0)
    exact zs_some ⟨(zs_w g1 (by decide)), Or.inl (zs_ptr g1)⟩
  · skip
    have q2 := z0
    have g3 : zs_in (x1).toInt 0 5 := q2.1
    have g4 : zs_in (((sn_I σ 1 (5 : Int32).toNatClampNeg) - (1 : Int32)).toInt64).toInt 0 5 := q2.2
    have g5 : zs_in (((sn_I σ 1 (5 : Int32).toNatClampNeg) - (1 : Int32))).toInt 0 5 := (zs_64r g4)
    have g6 : zs_in ((sn_I σ 1 (5 : Int32).toNatClampNeg)).toInt 1 6 := (zs_sublI 1 6 (zs_rdk (q := 1) (k := (5 : Int32).toNatClampNeg) (z := (0, 6)) h_σ.1 rfl) zlI_1 g5 (by decide))
    exact zs_some ⟨pt_2.1, Or.inr g3⟩
-- fX9_minutes
theorem zA_3 {σ0 : sn_S} {σ : sn_S} (h_σ : zs_M0 σ0 σ) : zs_ok (fX9_minutes σ) (fun r => zs_in (r).toInt 0 30) := by
  unfold fX9_minutes
  refine zs_gd (zs_gin zlI_0 (by decide)) ?_
  exact zs_some (zs_rdk (q := 1) (k := (0 : Int32).toNatClampNeg) (z := (0, 30)) h_σ.1 rfl)
-- BX9_asItIs_42
theorem zA_4 {σ0 : sn_S} {σ : sn_S} (h_σ : zs_M0 σ0 σ) {x1 : Int32} (h_x1 : zs_in x1.toInt 0 30) {c : Int} (hc : x1.toInt = c + 0) : zs_ok (BX9_asItIs_42 σ x1) (fun r => zs_sum (fun v => ((zs_M0 σ0 v.1 ∧ zs_in (v.2).toInt 1 30)) ∧ v.2.toInt = c + 1) (fun v => zs_M0 σ0 v) r) := by
  unfold BX9_asItIs_42
  refine zs_ite (fun c1 => ?_) (fun c1 => ?_)
  · skip
    have r2 := (zs_I_le c1)
    have g3 : zs_in (x1).toInt 30 30 := (zs_ler 30 30 r2 zlI_30 h_x1 (by decide))
    exact zs_some (zs_inr (h_σ))
  · skip
    have r4 := (zs_I_len c1)
    have g5 : zs_in (x1).toInt 0 29 := (zs_ltl 0 29 r4 h_x1 zlI_30 (by decide))
    refine zs_gd (zs_gin zlI_1 (by decide)) ?_
    refine zs_gd (zs_gin g5 (by decide)) ?_
    refine zs_lt (Q := fun z => zs_M0 σ0 z) (zs_wrt h_σ (fun _ => rfl) (fun _ => rfl)) (fun σ_4 hσ_4 => ?_)
    refine zs_lt (Q := fun z => zs_in z.toInt 1 30 ∧ z.toInt = c + 1) ⟨(zs_addI 1 30 g5 zlI_1 (by decide)), (zs_syI 1 hc g5 zlI_1 (by decide) (by decide))⟩ (fun y_6 hy_6 => ?_)
    exact zs_some (zs_inl ⟨⟨hσ_4, hy_6.1⟩, hy_6.2⟩)
theorem zB_1 {σ0 : sn_S}  {s0 : (sn_S × Int32)} (h0 : (zs_M0 σ0 s0.1 ∧ zs_in (s0.2).toInt 0 30)) : zs_ok (sn_it (LX9_asItIs_42) 5000 s0) (fun t => zs_M0 σ0 t) := by
  refine zs_it (I := fun s => (zs_M0 σ0 s.1 ∧ zs_in (s.2).toInt 0 30)) (m := fun s => 30 - s.2.toInt) (fun s hs => ?_) (fun s hs => ?_) (by exact h0)
  · have h1 := hs.2; unfold zs_in at h1
    omega
  · obtain ⟨b, eb, hb⟩ := zA_4 hs.1 hs.2 (c := s.2.toInt) (Int.add_zero _).symm
    exact ⟨b, eb, zs_sumw hb (fun v w => ⟨⟨w.1.1, (zs_w w.1.2 (by decide))⟩, by have := w.2; omega⟩) (fun v w => w)⟩
-- BX9_asItIs_68
theorem zA_5 {σ0 : sn_S} {σ : sn_S} (h_σ : zs_M0 σ0 σ) {x1 : Int32} (h_x1 : zs_in x1.toInt 0 5) {c : Int} (hc : x1.toInt = c + 0) : zs_ok (BX9_asItIs_68 σ x1) (fun r => zs_sum (fun v => ((zs_M0 σ0 v.1 ∧ zs_in (v.2).toInt 1 5)) ∧ v.2.toInt = c + 1) (fun v => zs_M0 σ0 v) r) := by
  unfold BX9_asItIs_68
  refine zs_gd (zs_gin zlI_6 (by decide)) ?_
  refine zs_ite (fun c1 => ?_) (fun c1 => ?_)
  · skip
    have r2 := (zs_I_le c1)
    exact zs_some (zs_inr (h_σ))
  · skip
    have r3 := (zs_I_len c1)
    have g4 : zs_in (x1).toInt 0 4 := (zs_ltl 0 4 r3 h_x1 (zs_rdk (q := 1) (k := (6 : Int32).toNatClampNeg) (z := (0, 5)) h_σ.1 rfl) (by decide))
    have g5 : zs_in ((sn_I σ 1 (6 : Int32).toNatClampNeg)).toInt 1 5 := (zs_ltr 1 5 r3 h_x1 (zs_rdk (q := 1) (k := (6 : Int32).toNatClampNeg) (z := (0, 5)) h_σ.1 rfl) (by decide))
    refine zs_gd (zs_gin (zs_addI 24 32 (zs_addI 23 31 zlI_23 (zs_mulI 0 8 zlI_2 g4 (by decide)) (by decide)) zlI_1 (by decide)) (by decide)) ?_
    refine zs_lt (Q := fun z => zs_in z.toInt 0 29) (zs_rdb (q := 1) (lo := 0) (hi := 29) h_σ.1 (zs_cases g4 (fun z => zs_bd (zs_tM 1 (((23 : Int32) + ((2 : Int32) * z)) + (1 : Int32)).toNatClampNeg) 0 29) (by decide +kernel))) (fun y_4 hy_4 => ?_)
    refine zs_gd (zs_gin hy_4 (by decide)) ?_
    refine zs_gd (zs_gin (zs_addI 23 31 zlI_23 (zs_mulI 0 8 zlI_2 g4 (by decide)) (by decide)) (by decide)) ?_
    refine zs_gd (zs_gin hy_4 (by decide)) ?_
    refine zs_lt (Q := fun z => zs_M0 σ0 z) (zs_wrt h_σ (fun _ => rfl) (fun _ => rfl)) (fun σ_9 hσ_9 => ?_)
    refine zs_lt (Q := fun z => zs_M0 σ0 z) (zs_wrkt hσ_9 rfl rfl) (fun σ_11 hσ_11 => ?_)
    refine zs_lt (Q := fun z => zs_in z.toInt 1 5 ∧ z.toInt = c + 1) ⟨(zs_addI 1 5 g4 zlI_1 (by decide)), (zs_syI 1 hc g4 zlI_1 (by decide) (by decide))⟩ (fun y_13 hy_13 => ?_)
    exact zs_some (zs_inl ⟨⟨hσ_11, hy_13.1⟩, hy_13.2⟩)
theorem zB_2 {σ0 : sn_S}  {s0 : (sn_S × Int32)} (h0 : (zs_M0 σ0 s0.1 ∧ zs_in (s0.2).toInt 0 5)) : zs_ok (sn_it (LX9_asItIs_68) 5000 s0) (fun t => zs_M0 σ0 t) := by
  refine zs_it (I := fun s => (zs_M0 σ0 s.1 ∧ zs_in (s.2).toInt 0 5)) (m := fun s => 5 - s.2.toInt) (fun s hs => ?_) (fun s hs => ?_) (by exact h0)
  · have h1 := hs.2; unfold zs_in at h1
    omega
  · obtain ⟨b, eb, hb⟩ := zA_5 hs.1 hs.2 (c := s.2.toInt) (Int.add_zero _).symm
    exact ⟨b, eb, zs_sumw hb (fun v w => ⟨⟨w.1.1, (zs_w w.1.2 (by decide))⟩, by have := w.2; omega⟩) (fun v w => w)⟩
-- BX9_asItIs_133
theorem zA_6 {σ0 : sn_S} {σ : sn_S} (h_σ : zs_M0 σ0 σ) {x1 : Int32} (h_x1 : zs_in x1.toInt 0 6) {c : Int} (hc : x1.toInt = c + 0) : zs_ok (BX9_asItIs_133 σ x1) (fun r => zs_sum (fun v => ((zs_M0 σ0 v.1 ∧ zs_in (v.2).toInt 1 6)) ∧ v.2.toInt = c + 1) (fun v => zs_M0 σ0 v) r) := by
  unfold BX9_asItIs_133
  refine zs_ite (fun c1 => ?_) (fun c1 => ?_)
  · skip
    have r2 := (zs_I_le c1)
    have g3 : zs_in (x1).toInt 6 6 := (zs_ler 6 6 r2 zlI_6 h_x1 (by decide))
    exact zs_some (zs_inr (h_σ))
  · skip
    have r4 := (zs_I_len c1)
    have g5 : zs_in (x1).toInt 0 5 := (zs_ltl 0 5 r4 h_x1 zlI_6 (by decide))
    refine zs_gd (zs_gin g5 (by decide)) ?_
    refine zs_lt (Q := fun z => zs_M0 σ0 z) (zs_wrt h_σ (fun _ => rfl) (fun _ => rfl)) (fun σ_3 hσ_3 => ?_)
    refine zs_gd (zs_gin g5 (by decide)) ?_
    refine zs_lt (Q := fun z => zs_M0 σ0 z) (zs_wrt hσ_3 (fun _ => rfl) (fun _ => rfl)) (fun σ_6 hσ_6 => ?_)
    refine zs_lt (Q := fun z => zs_in z.toInt 1 6 ∧ z.toInt = c + 1) ⟨(zs_addI 1 6 g5 zlI_1 (by decide)), (zs_syI 1 hc g5 zlI_1 (by decide) (by decide))⟩ (fun y_8 hy_8 => ?_)
    exact zs_some (zs_inl ⟨⟨hσ_6, hy_8.1⟩, hy_8.2⟩)
theorem zB_3 {σ0 : sn_S}  {s0 : (sn_S × Int32)} (h0 : (zs_M0 σ0 s0.1 ∧ zs_in (s0.2).toInt 0 6)) : zs_ok (sn_it (LX9_asItIs_133) 5000 s0) (fun t => zs_M0 σ0 t) := by
  refine zs_it (I := fun s => (zs_M0 σ0 s.1 ∧ zs_in (s.2).toInt 0 6)) (m := fun s => 6 - s.2.toInt) (fun s hs => ?_) (fun s hs => ?_) (by exact h0)
  · have h1 := hs.2; unfold zs_in at h1
    omega
  · obtain ⟨b, eb, hb⟩ := zA_6 hs.1 hs.2 (c := s.2.toInt) (Int.add_zero _).symm
    exact ⟨b, eb, zs_sumw hb (fun v w => ⟨⟨w.1.1, (zs_w w.1.2 (by decide))⟩, by have := w.2; omega⟩) (fun v w => w)⟩
-- BX9_asItIs_232
theorem zA_7 {σ0 : sn_S} {σ : sn_S} (h_σ : zs_M0 σ0 σ) {x1 : Int32} (h_x1 : zs_in x1.toInt 0 39) {c : Int} (hc : x1.toInt = c + 0) : zs_ok (BX9_asItIs_232 σ x1) (fun r => zs_sum (fun v => ((zs_M0 σ0 v.1 ∧ zs_in (v.2).toInt 1 40)) ∧ v.2.toInt = c + 1) (fun v => False) r) := by
  unfold BX9_asItIs_232
  refine zs_lt (Q := fun z => zs_in z.toInt 1 40 ∧ z.toInt = c + 1) ⟨(zs_addI 1 40 h_x1 zlI_1 (by decide)), (zs_syI 1 hc h_x1 zlI_1 (by decide) (by decide))⟩ (fun y_1 hy_1 => ?_)
  exact zs_some (zs_inl ⟨⟨h_σ, hy_1.1⟩, hy_1.2⟩)
-- BX9_asItIs_161
theorem zA_8 {σ0 : sn_S} {σ : sn_S} (h_σ : zs_M0 σ0 σ) {x1 : Int32} (h_x1 : zs_in x1.toInt 0 40) {c : Int} (hc : x1.toInt = c + 0) : zs_ok (BX9_asItIs_161 σ x1) (fun r => zs_sum (fun v => ((zs_M0 σ0 v.1 ∧ zs_in (v.2).toInt 1 40)) ∧ v.2.toInt = c + 1) (fun v => zs_M0 σ0 v) r) := by
  unfold BX9_asItIs_161
  refine zs_gd (zs_gin zlI_9 (by decide)) ?_
  refine zs_ite (fun c1 => ?_) (fun c1 => ?_)
  · skip
    have r2 := (zs_I_le c1)
    exact zs_some (zs_inr (h_σ))
  · skip
    have r3 := (zs_I_len c1)
    have g4 : zs_in (x1).toInt 0 39 := (zs_ltl 0 39 r3 h_x1 (zs_rdk (q := 1) (k := (9 : Int32).toNatClampNeg) (z := (0, 40)) h_σ.1 rfl) (by decide))
    have g5 : zs_in ((sn_I σ 1 (9 : Int32).toNatClampNeg)).toInt 1 40 := (zs_ltr 1 40 r3 h_x1 (zs_rdk (q := 1) (k := (9 : Int32).toNatClampNeg) (z := (0, 40)) h_σ.1 rfl) (by decide))
    refine zs_gd (zs_gin (zs_addI 79 118 zlI_79 g4 (by decide)) (by decide)) ?_
    refine zs_lt (Q := fun z => zs_in z.toInt 0 1199) (zs_rdb (q := 1) (lo := 0) (hi := 1199) h_σ.1 (zs_cases g4 (fun z => zs_bd (zs_tM 1 ((79 : Int32) + z).toNatClampNeg) 0 1199) (by decide +kernel))) (fun y_4 hy_4 => ?_)
    refine zs_lt (Q := fun z => zs_in z.toInt 0 5) (zs_divI 0 5 hy_4 zlI_200 (by decide)) (fun y_6 hy_6 => ?_)
    refine zs_lt (Q := fun z => zs_in z.toInt 0 99) (zs_mod 99 (zs_divI 0 599 hy_4 zlI_2 (by decide)) zlI_100 (by decide)) (fun y_8 hy_8 => ?_)
    refine zs_ite (fun c6 => ?_) (fun c6 => ?_)
    · skip
      have r7 := (zs_I_eq c6)
      have g8 : zs_in ((y_4 - ((y_4 / (2 : Int32)) * (2 : Int32)))).toInt 1 1 := (zs_eql 1 1 r7 (zs_mod 1 hy_4 zlI_2 (by decide)) zlI_1 (by decide))
      have g9 : zs_in (y_4).toInt 1 1199 := (zs_sublI 1 1199 hy_4 (zs_mulI 0 1198 (zs_divI 0 599 hy_4 zlI_2 (by decide)) zlI_2 (by decide)) g8 (by decide))
      refine zs_gd (zs_gin hy_6 (by decide)) ?_
      refine zs_gd (zs_gin hy_6 (by decide)) ?_
      refine zs_lt (Q := fun z => zs_M0 σ0 z) (zs_wrt h_σ (fun _ => rfl) (fun _ => rfl)) (fun σ_17 hσ_17 => ?_)
      obtain ⟨ret, er, hr⟩ := zA_7 hσ_17 g4 hc
      refine ⟨ret, er, ?_⟩
      exact (zs_sumw hr (fun v w => ⟨w.1, w.2⟩) (fun v w => w.elim))
    · skip
      have r10 := (zs_I_eqn c6)
      have g11 : zs_in ((y_4 - ((y_4 / (2 : Int32)) * (2 : Int32)))).toInt 0 0 := (zs_neh 0 0 r10 (zs_mod 1 hy_4 zlI_2 (by decide)) zlI_1 (by decide))
      have g12 : zs_in (y_4).toInt 0 1198 := (zs_sublI 0 1198 hy_4 (zs_mulI 0 1198 (zs_divI 0 599 hy_4 zlI_2 (by decide)) zlI_2 (by decide)) g11 (by decide))
      refine zs_gd (zs_gin hy_6 (by decide)) ?_
      refine zs_gd (zs_gin hy_6 (by decide)) ?_
      refine zs_lt (Q := fun z => zs_M0 σ0 z) (zs_wrt h_σ (fun _ => rfl) (fun _ => rfl)) (fun σ_13 hσ_13 => ?_)
      obtain ⟨ret, er, hr⟩ := zA_7 hσ_13 g4 hc
      refine ⟨ret, er, ?_⟩
      exact (zs_sumw hr (fun v w => ⟨w.1, w.2⟩) (fun v w => w.elim))
theorem zB_4 {σ0 : sn_S}  {s0 : (sn_S × Int32)} (h0 : (zs_M0 σ0 s0.1 ∧ zs_in (s0.2).toInt 0 40)) : zs_ok (sn_it (LX9_asItIs_161) 5000 s0) (fun t => zs_M0 σ0 t) := by
  refine zs_it (I := fun s => (zs_M0 σ0 s.1 ∧ zs_in (s.2).toInt 0 40)) (m := fun s => 40 - s.2.toInt) (fun s hs => ?_) (fun s hs => ?_) (by exact h0)
  · have h1 := hs.2; unfold zs_in at h1
    omega
  · obtain ⟨b, eb, hb⟩ := zA_8 hs.1 hs.2 (c := s.2.toInt) (Int.add_zero _).symm
    exact ⟨b, eb, zs_sumw hb (fun v w => ⟨⟨w.1.1, (zs_w w.1.2 (by decide))⟩, by have := w.2; omega⟩) (fun v w => w)⟩
-- BX9_asItIs_238
theorem zA_9 {σ0 : sn_S} {σ : sn_S} (h_σ : zs_M0 σ0 σ) : zs_ok (BX9_asItIs_238 σ) (fun r => zs_M0 σ0 r) := by
  unfold BX9_asItIs_238
  exact zs_some h_σ
-- BX9_asItIs_159
theorem zA_10 {σ0 : sn_S} {σ : sn_S} (h_σ : zs_M0 σ0 σ) : zs_ok (BX9_asItIs_159 σ) (fun r => zs_M0 σ0 r) := by
  unfold BX9_asItIs_159
  refine zs_bd_ (zB_4  (s0 := (σ, (0 : Int32))) ⟨h_σ, (zs_w zlI_0 (by decide))⟩) (fun t_1 pt_1 => ?_)
  obtain ⟨ret, er, hr⟩ := zA_9 pt_1
  refine ⟨ret, er, ?_⟩
  exact hr
-- BX9_asItIs_131
theorem zA_11 {σ0 : sn_S} {σ : sn_S} (h_σ : zs_M0 σ0 σ) : zs_ok (BX9_asItIs_131 σ) (fun r => zs_M0 σ0 r) := by
  unfold BX9_asItIs_131
  refine zs_bd_ (zB_3  (s0 := (σ, (0 : Int32))) ⟨h_σ, (zs_w zlI_0 (by decide))⟩) (fun t_1 pt_1 => ?_)
  obtain ⟨ret, er, hr⟩ := zA_10 pt_1
  refine ⟨ret, er, ?_⟩
  exact hr
-- BX9_asItIs_66
theorem zA_12 {σ0 : sn_S} {σ : sn_S} (h_σ : zs_M0 σ0 σ) : zs_ok (BX9_asItIs_66 σ) (fun r => zs_M0 σ0 r) := by
  unfold BX9_asItIs_66
  refine zs_bd_ (zB_2  (s0 := (σ, (0 : Int32))) ⟨h_σ, (zs_w zlI_0 (by decide))⟩) (fun t_1 pt_1 => ?_)
  obtain ⟨ret, er, hr⟩ := zA_11 pt_1
  refine ⟨ret, er, ?_⟩
  exact hr
-- fX9_asItIs
theorem zA_13 {σ0 : sn_S} {σ : sn_S} (h_σ : zs_M0 σ0 σ) : zs_ok (fX9_asItIs σ) (fun r => zs_M0 σ0 r) := by
  unfold fX9_asItIs
  refine zs_lt (Q := fun z => zs_M0 σ0 z) (zs_wrkt h_σ rfl rfl) (fun σ_1 hσ_1 => ?_)
  refine zs_lt (Q := fun z => zs_M0 σ0 z) (zs_wrkt hσ_1 rfl rfl) (fun σ_3 hσ_3 => ?_)
  refine zs_gd (zs_gin zlI_2 (by decide)) ?_
  refine zs_lt (Q := fun z => zs_M0 σ0 z) (zs_wrkt hσ_3 rfl rfl) (fun σ_6 hσ_6 => ?_)
  refine zs_gd (zs_gin zlI_3 (by decide)) ?_
  refine zs_lt (Q := fun z => zs_M0 σ0 z) (zs_wrk (z := (0, 1000)) hσ_6 rfl (zs_rdk (q := 1) (k := (3 : Int32).toNatClampNeg) (z := (0, 999)) hσ_6.1 rfl) (by decide) rfl) (fun σ_9 hσ_9 => ?_)
  refine zs_bd_ (zA_3 hσ_9) (fun t_11 pt_11 => ?_)
  refine zs_lt (Q := fun z => zs_M0 σ0 z) (zs_wrk (z := ((-1), 29)) hσ_9 rfl (zs_subI (-1) 29 pt_11 zlI_1 (by decide)) (by decide) rfl) (fun σ_13 hσ_13 => ?_)
  refine zs_bd_ (zB_1  (s0 := (σ_13, (0 : Int32))) ⟨hσ_13, (zs_w zlI_0 (by decide))⟩) (fun t_15 pt_15 => ?_)
  obtain ⟨ret, er, hr⟩ := zA_12 pt_15
  refine ⟨ret, er, ?_⟩
  exact hr
-- BX9_goAll_2
theorem zA_14 {σ0 : sn_S} {σ : sn_S} (h_σ : zs_M0 σ0 σ) {x1 : Int32} (h_x1 : zs_in x1.toInt 0 6) {c : Int} (hc : x1.toInt = c + 0) : zs_ok (BX9_goAll_2 σ x1) (fun r => zs_sum (fun v => ((zs_M0 σ0 v.1 ∧ zs_in (v.2).toInt 1 6)) ∧ v.2.toInt = c + 1) (fun v => zs_M0 σ0 v) r) := by
  unfold BX9_goAll_2
  refine zs_ite (fun c1 => ?_) (fun c1 => ?_)
  · skip
    have r2 := (zs_I_le c1)
    have g3 : zs_in (x1).toInt 6 6 := (zs_ler 6 6 r2 zlI_6 h_x1 (by decide))
    exact zs_some (zs_inr (h_σ))
  · skip
    have r4 := (zs_I_len c1)
    have g5 : zs_in (x1).toInt 0 5 := (zs_ltl 0 5 r4 h_x1 zlI_6 (by decide))
    refine zs_gd (zs_gin g5 (by decide)) ?_
    refine zs_lt (Q := fun z => zs_M0 σ0 z) (zs_wru (z := (0, 1073741823)) h_σ (fun _ => rfl) zlI_0 (by decide) (fun _ => rfl)) (fun σ_3 hσ_3 => ?_)
    refine zs_gd (zs_gin g5 (by decide)) ?_
    refine zs_lt (Q := fun z => zs_M0 σ0 z) (zs_wrt hσ_3 (fun _ => rfl) (fun _ => rfl)) (fun σ_6 hσ_6 => ?_)
    refine zs_lt (Q := fun z => zs_in z.toInt 1 6 ∧ z.toInt = c + 1) ⟨(zs_addI 1 6 g5 zlI_1 (by decide)), (zs_syI 1 hc g5 zlI_1 (by decide) (by decide))⟩ (fun y_8 hy_8 => ?_)
    exact zs_some (zs_inl ⟨⟨hσ_6, hy_8.1⟩, hy_8.2⟩)
theorem zB_5 {σ0 : sn_S}  {s0 : (sn_S × Int32)} (h0 : (zs_M0 σ0 s0.1 ∧ zs_in (s0.2).toInt 0 6)) : zs_ok (sn_it (LX9_goAll_2) 5000 s0) (fun t => zs_M0 σ0 t) := by
  refine zs_it (I := fun s => (zs_M0 σ0 s.1 ∧ zs_in (s.2).toInt 0 6)) (m := fun s => 6 - s.2.toInt) (fun s hs => ?_) (fun s hs => ?_) (by exact h0)
  · have h1 := hs.2; unfold zs_in at h1
    omega
  · obtain ⟨b, eb, hb⟩ := zA_14 hs.1 hs.2 (c := s.2.toInt) (Int.add_zero _).symm
    exact ⟨b, eb, zs_sumw hb (fun v w => ⟨⟨w.1.1, (zs_w w.1.2 (by decide))⟩, by have := w.2; omega⟩) (fun v w => w)⟩
-- BX9_netsTo_91
theorem zA_15 {σ0 : sn_S} {σ : sn_S} (h_σ : zs_M0 σ0 σ) {x1 : Int32} (h_x1 : zs_in x1.toInt 0 5) {x2 : Int32} (h_x2 : zs_in x2.toInt 0 0) {x3 : Int32} {x4 : Int32} (h_x4 : zs_in x4.toInt 0 7) {c : Int} (hc : x4.toInt = c + 0) : zs_ok (BX9_netsTo_91 σ x1 x2 x3 x4) (fun r => zs_sum (fun v => ((True ∧ zs_in (v.2).toInt 1 8)) ∧ v.2.toInt = c + 1) (fun v => False) r) := by
  unfold BX9_netsTo_91
  obtain rfl : x2 = (0 : Int32) := zs_eqv h_x2 (by decide)
  refine zs_lt (Q := fun z => zs_in z.toInt 1 8 ∧ z.toInt = c + 1) ⟨(zs_addI 1 8 h_x4 zlI_1 (by decide)), (zs_syI 1 hc h_x4 zlI_1 (by decide) (by decide))⟩ (fun y_1 hy_1 => ?_)
  exact zs_some (zs_inl ⟨⟨trivial, hy_1.1⟩, hy_1.2⟩)
-- fX9_bit
theorem zA_16 {x0 : Int32} (h_x0 : zs_in x0.toInt 0 0) {x1 : Int32} (h_x1 : zs_in x1.toInt 0 5) : zs_ok (fX9_bit x0 x1) (fun r => zs_in (r).toInt 0 1) := by
  unfold fX9_bit
  obtain rfl : x0 = (0 : Int32) := zs_eqv h_x0 (by decide)
  exact zs_some (zs_and zlI_1 (by decide))
-- BX9_netsTo_88
theorem zA_17 {σ0 : sn_S} {σ : sn_S} (h_σ : zs_M0 σ0 σ) {x1 : Int32} (h_x1 : zs_in x1.toInt 0 5) {x2 : Int32} (h_x2 : zs_in x2.toInt 0 0) {x3 : Int32} {x4 : Int32} (h_x4 : zs_in x4.toInt 0 7) {c : Int} (hc : x4.toInt = c + 0) : zs_ok (BX9_netsTo_88 σ x1 x2 x3 x4) (fun r => zs_sum (fun v => ((True ∧ zs_in (v.2).toInt 1 8)) ∧ v.2.toInt = c + 1) (fun v => False) r) := by
  unfold BX9_netsTo_88
  obtain rfl : x2 = (0 : Int32) := zs_eqv h_x2 (by decide)
  refine zs_lt (Q := fun z => True) trivial (fun y_1 hy_1 => ?_)
  obtain ⟨ret, er, hr⟩ := zA_15 h_σ h_x1 h_x2 h_x4 hc
  refine ⟨ret, er, ?_⟩
  exact (zs_sumw hr (fun v w => ⟨w.1, w.2⟩) (fun v w => w.elim))
-- BX9_netsTo_72
theorem zA_18 {σ0 : sn_S} {σ : sn_S} (h_σ : zs_M0 σ0 σ) {x1 : Int32} (h_x1 : zs_in x1.toInt 0 5) {x2 : Int32} (h_x2 : zs_in x2.toInt 0 0) {x3 : Int32} {x4 : Int32} (h_x4 : zs_in x4.toInt 0 7) {x5 : Int32} (h_x5 : zs_in x5.toInt 0 5) {x6 : Int32} (h_x6 : zs_in x6.toInt 0 5) {c : Int} (hc : x4.toInt = c + 0) : zs_ok (BX9_netsTo_72 σ x1 x2 x3 x4 x5 x6) (fun r => zs_sum (fun v => ((True ∧ zs_in (v.2).toInt 1 8)) ∧ v.2.toInt = c + 1) (fun v => False) r) := by
  unfold BX9_netsTo_72
  obtain rfl : x2 = (0 : Int32) := zs_eqv h_x2 (by decide)
  refine zs_ite (fun c1 => ?_) (fun c1 => ?_)
  · skip
    have r2 := (zs_I_eq c1)
    refine zs_bd_ (zA_16 h_x2 h_x5) (fun t_2 pt_2 => ?_)
    refine zs_ite (fun c3 => ?_) (fun c3 => ?_)
    · skip
      have r4 := (zs_I_eq c3)
      have g5 : zs_in (t_2).toInt 1 1 := (zs_eql 1 1 r4 pt_2 zlI_1 (by decide))
      obtain ⟨ret, er, hr⟩ := zA_17 h_σ h_x1 h_x2 h_x4 hc
      refine ⟨ret, er, ?_⟩
      exact (zs_sumw hr (fun v w => ⟨w.1, w.2⟩) (fun v w => w.elim))
    · skip
      have r6 := (zs_I_eqn c3)
      have g7 : zs_in (t_2).toInt 0 0 := (zs_neh 0 0 r6 pt_2 zlI_1 (by decide))
      obtain ⟨ret, er, hr⟩ := zA_15 h_σ h_x1 h_x2 h_x4 hc
      refine ⟨ret, er, ?_⟩
      exact (zs_sumw hr (fun v w => ⟨w.1, w.2⟩) (fun v w => w.elim))
  · skip
    have r8 := (zs_I_eqn c1)
    obtain ⟨ret, er, hr⟩ := zA_15 h_σ h_x1 h_x2 h_x4 hc
    refine ⟨ret, er, ?_⟩
    exact (zs_sumw hr (fun v w => ⟨w.1, w.2⟩) (fun v w => w.elim))
-- BX9_netsTo_5
theorem zA_19 {σ0 : sn_S} {σ : sn_S} (h_σ : zs_M0 σ0 σ) {x1 : Int32} (h_x1 : zs_in x1.toInt 0 5) {x2 : Int32} (h_x2 : zs_in x2.toInt 0 0) {x3 : Int32} {x4 : Int32} (h_x4 : zs_in x4.toInt 0 8) {c : Int} (hc : x4.toInt = c + 0) : zs_ok (BX9_netsTo_5 σ x1 x2 x3 x4) (fun r => zs_sum (fun v => ((True ∧ zs_in (v.2).toInt 1 8)) ∧ v.2.toInt = c + 1) (fun v => True) r) := by
  unfold BX9_netsTo_5
  obtain rfl : x2 = (0 : Int32) := zs_eqv h_x2 (by decide)
  refine zs_gd (zs_gin zlI_7 (by decide)) ?_
  refine zs_ite (fun c1 => ?_) (fun c1 => ?_)
  · skip
    have r2 := (zs_I_le c1)
    exact zs_some (zs_inr (trivial))
  · skip
    have r3 := (zs_I_len c1)
    have g4 : zs_in (x4).toInt 0 7 := (zs_ltl 0 7 r3 h_x4 (zs_rdk (q := 1) (k := (7 : Int32).toNatClampNeg) (z := (0, 8)) h_σ.1 rfl) (by decide))
    have g5 : zs_in ((sn_I σ 1 (7 : Int32).toNatClampNeg)).toInt 1 8 := (zs_ltr 1 8 r3 h_x4 (zs_rdk (q := 1) (k := (7 : Int32).toNatClampNeg) (z := (0, 8)) h_σ.1 rfl) (by decide))
    refine zs_gd (zs_gin (zs_addI 33 47 zlI_33 (zs_mulI 0 14 zlI_2 g4 (by decide)) (by decide)) (by decide)) ?_
    refine zs_lt (Q := fun z => zs_in z.toInt 0 5) (zs_rdb (q := 1) (lo := 0) (hi := 5) h_σ.1 (zs_cases g4 (fun z => zs_bd (zs_tM 1 ((33 : Int32) + ((2 : Int32) * z)).toNatClampNeg) 0 5) (by decide +kernel))) (fun y_4 hy_4 => ?_)
    refine zs_gd (zs_gin (zs_addI 34 48 (zs_addI 33 47 zlI_33 (zs_mulI 0 14 zlI_2 g4 (by decide)) (by decide)) zlI_1 (by decide)) (by decide)) ?_
    refine zs_lt (Q := fun z => zs_in z.toInt 0 5) (zs_rdb (q := 1) (lo := 0) (hi := 5) h_σ.1 (zs_cases g4 (fun z => zs_bd (zs_tM 1 (((33 : Int32) + ((2 : Int32) * z)) + (1 : Int32)).toNatClampNeg) 0 5) (by decide +kernel))) (fun y_7 hy_7 => ?_)
    refine zs_ite (fun c6 => ?_) (fun c6 => ?_)
    · skip
      have r7 := (zs_I_eq c6)
      have g8 : zs_in ((sn_I σ 0 19)).toInt 0 7 := (zs_eqr 0 7 r7 g4 (zs_topI _) (by decide))
      obtain ⟨ret, er, hr⟩ := zA_15 h_σ h_x1 h_x2 g4 hc
      refine ⟨ret, er, ?_⟩
      exact (zs_sumw hr (fun v w => ⟨w.1, w.2⟩) (fun v w => w.elim))
    · skip
      have r9 := (zs_I_eqn c6)
      refine zs_ite (fun c10 => ?_) (fun c10 => ?_)
      · skip
        have r11 := (zs_I_eq c10)
        refine zs_bd_ (zA_16 h_x2 hy_7) (fun t_11 pt_11 => ?_)
        refine zs_ite (fun c12 => ?_) (fun c12 => ?_)
        · skip
          have r13 := (zs_I_eq c12)
          have g14 : zs_in (t_11).toInt 1 1 := (zs_eql 1 1 r13 pt_11 zlI_1 (by decide))
          obtain ⟨ret, er, hr⟩ := zA_17 h_σ h_x1 h_x2 g4 hc
          refine ⟨ret, er, ?_⟩
          exact (zs_sumw hr (fun v w => ⟨w.1, w.2⟩) (fun v w => w.elim))
        · skip
          have r15 := (zs_I_eqn c12)
          have g16 : zs_in (t_11).toInt 0 0 := (zs_neh 0 0 r15 pt_11 zlI_1 (by decide))
          obtain ⟨ret, er, hr⟩ := zA_18 h_σ h_x1 h_x2 g4 hy_4 hy_7 hc
          refine ⟨ret, er, ?_⟩
          exact (zs_sumw hr (fun v w => ⟨w.1, w.2⟩) (fun v w => w.elim))
      · skip
        have r17 := (zs_I_eqn c10)
        obtain ⟨ret, er, hr⟩ := zA_18 h_σ h_x1 h_x2 g4 hy_4 hy_7 hc
        refine ⟨ret, er, ?_⟩
        exact (zs_sumw hr (fun v w => ⟨w.1, w.2⟩) (fun v w => w.elim))
theorem zB_6 {σ0 : sn_S} {σ : sn_S} (h_σ : zs_M0 σ0 σ) {x1 : Int32} (h_x1 : zs_in x1.toInt 0 5) {x2 : Int32} (h_x2 : zs_in x2.toInt 0 0) {s0 : (Int32 × Int32)} (h0 : (True ∧ zs_in (s0.2).toInt 0 8)) : zs_ok (sn_it (LX9_netsTo_5 σ x1 x2) 5000 s0) (fun t => True) := by
  refine zs_it (I := fun s => (True ∧ zs_in (s.2).toInt 0 8)) (m := fun s => 8 - s.2.toInt) (fun s hs => ?_) (fun s hs => ?_) (by exact h0)
  · have h1 := hs.2; unfold zs_in at h1
    omega
  · obtain ⟨b, eb, hb⟩ := zA_19 h_σ h_x1 h_x2 hs.2 (c := s.2.toInt) (Int.add_zero _).symm
    exact ⟨b, eb, zs_sumw hb (fun v w => ⟨⟨w.1.1, (zs_w w.1.2 (by decide))⟩, by have := w.2; omega⟩) (fun v w => w)⟩
-- BX9_netsTo_97
theorem zA_20 {σ0 : sn_S} {σ : sn_S} (h_σ : zs_M0 σ0 σ) {x3 : Int32} : zs_ok (BX9_netsTo_97 σ x3) (fun r => True) := by
  unfold BX9_netsTo_97
  exact zs_some trivial
-- fX9_netsTo
theorem zA_21 {σ0 : sn_S} {σ : sn_S} (h_σ : zs_M0 σ0 σ) {x1 : Int32} (h_x1 : zs_in x1.toInt 0 5) {x2 : Int32} (h_x2 : zs_in x2.toInt 0 0) : zs_ok (fX9_netsTo σ x1 x2) (fun r => True) := by
  unfold fX9_netsTo
  obtain rfl : x2 = (0 : Int32) := zs_eqv h_x2 (by decide)
  refine zs_bd_ (zB_6 h_σ h_x1 h_x2 (s0 := ((0 : Int32), (0 : Int32))) ⟨trivial, (zs_w zlI_0 (by decide))⟩) (fun t_1 pt_1 => ?_)
  obtain ⟨ret, er, hr⟩ := zA_20 h_σ
  refine ⟨ret, er, ?_⟩
  exact hr
-- fX9_bit
theorem zA_22 {x0 : Int32} {x1 : Int32} (h_x1 : zs_in x1.toInt 0 0) : zs_ok (fX9_bit x0 x1) (fun r => zs_in (r).toInt 0 1) := by
  unfold fX9_bit
  obtain rfl : x1 = (0 : Int32) := zs_eqv h_x1 (by decide)
  exact zs_some (zs_and zlI_1 (by decide))
-- BX9_goMinute_225
theorem zA_23 {σ0 : sn_S} {σ : sn_S} (h_σ : zs_M0 σ0 σ) {x1 : Int32} (h_x1 : zs_in x1.toInt 0 0) {x2 : Int32} (h_x2 : zs_in x2.toInt 0 0) {x3 : Int32} (h_x3 : zs_in x3.toInt 0 5) {c : Int} (hc : x3.toInt = c + 0) : zs_ok (BX9_goMinute_225 σ x1 x2 x3) (fun r => zs_sum (fun v => ((zs_M0 σ0 v.1 ∧ zs_in (v.2).toInt 1 6)) ∧ v.2.toInt = c + 1) (fun v => False) r) := by
  unfold BX9_goMinute_225
  obtain rfl : x1 = (0 : Int32) := zs_eqv h_x1 (by decide)
  obtain rfl : x2 = (0 : Int32) := zs_eqv h_x2 (by decide)
  refine zs_lt (Q := fun z => zs_in z.toInt 1 6 ∧ z.toInt = c + 1) ⟨(zs_addI 1 6 h_x3 zlI_1 (by decide)), (zs_syI 1 hc h_x3 zlI_1 (by decide) (by decide))⟩ (fun y_1 hy_1 => ?_)
  exact zs_some (zs_inl ⟨⟨h_σ, hy_1.1⟩, hy_1.2⟩)
-- BX9_goMinute_192
theorem zA_24 {σ0 : sn_S} {σ : sn_S} (h_σ : zs_M0 σ0 σ) {x1 : Int32} (h_x1 : zs_in x1.toInt 0 0) {x2 : Int32} (h_x2 : zs_in x2.toInt 0 0) {x3 : Int32} (h_x3 : zs_in x3.toInt 0 5) {x7 : Int32} (h_x7 : zs_in x7.toInt 0 0) {t1 : Int32} (h_t1 : zs_in t1.toInt 0 5) {t2 : Int32} (h_t2 : zs_in t2.toInt (-2147483648) 98) {c : Int} (hc : x3.toInt = c + 0) : zs_ok (BX9_goMinute_192 σ x1 x2 x3 x7 t1 t2) (fun r => zs_sum (fun v => ((zs_M0 σ0 v.1 ∧ zs_in (v.2).toInt 1 6)) ∧ v.2.toInt = c + 1) (fun v => False) r) := by
  unfold BX9_goMinute_192
  obtain rfl : x1 = (0 : Int32) := zs_eqv h_x1 (by decide)
  obtain rfl : x2 = (0 : Int32) := zs_eqv h_x2 (by decide)
  obtain rfl : x7 = (0 : Int32) := zs_eqv h_x7 (by decide)
  refine zs_gd (zs_gin h_t1 (by decide)) ?_
  refine zs_lt (Q := fun z => zs_M0 σ0 z) (zs_wrt h_σ (fun _ => rfl) (fun _ => rfl)) (fun σ_2 hσ_2 => ?_)
  refine zs_ite (fun c1 => ?_) (fun c1 => ?_)
  · skip
    have r2 := (zs_I_eq c1)
    obtain ⟨ret, er, hr⟩ := zA_23 hσ_2 h_x1 h_x2 h_x3 hc
    refine ⟨ret, er, ?_⟩
    exact (zs_sumw hr (fun v w => ⟨w.1, w.2⟩) (fun v w => w.elim))
  · skip
    have r3 := (zs_I_eqn c1)
    exact (zs_botne r3 h_x7 zlI_0 (by decide)).elim
-- BX9_goMinute_145
theorem zA_25 {σ0 : sn_S} {σ : sn_S} (h_σ : zs_M0 σ0 σ) {x1 : Int32} (h_x1 : zs_in x1.toInt 0 0) {x2 : Int32} (h_x2 : zs_in x2.toInt 0 0) {x3 : Int32} (h_x3 : zs_in x3.toInt 0 5) {x4 : Int32} {x5 : Int32} {x6 : Int32} (h_x6 : zs_in x6.toInt (-2147483648) 98) {t0 : Int32} (h_t0 : zs_in t0.toInt 0 0) {c : Int} (hc : x3.toInt = c + 0) : zs_ok (BX9_goMinute_145 σ x1 x2 x3 x4 x5 x6 t0) (fun r => zs_sum (fun v => ((zs_M0 σ0 v.1 ∧ zs_in (v.2).toInt 1 6)) ∧ v.2.toInt = c + 1) (fun v => False) r) := by
  unfold BX9_goMinute_145
  obtain rfl : x1 = (0 : Int32) := zs_eqv h_x1 (by decide)
  obtain rfl : x2 = (0 : Int32) := zs_eqv h_x2 (by decide)
  obtain rfl : t0 = (0 : Int32) := zs_eqv h_t0 (by decide)
  refine zs_gd (zs_gin h_x3 (by decide)) ?_
  refine zs_gd (zs_gin h_x3 (by decide)) ?_
  refine zs_lt (Q := fun z => zs_M0 σ0 z) (zs_wrt h_σ (fun _ => rfl) (fun _ => rfl)) (fun σ_3 hσ_3 => ?_)
  refine zs_gd (zs_gin (zs_addI 0 5 (zs_mulI 0 0 zlI_6 h_x1 (by decide)) h_x3 (by decide)) (by decide)) ?_
  refine zs_lt (Q := fun z => zs_M0 σ0 z) (zs_wrt hσ_3 (fun _ => rfl) (fun _ => rfl)) (fun σ_6 hσ_6 => ?_)
  refine zs_ite (fun c1 => ?_) (fun c1 => ?_)
  · skip
    have r2 := (zs_I_eq c1)
    obtain ⟨ret, er, hr⟩ := zA_24 hσ_6 h_x1 h_x2 h_x3 h_t0 (zs_addI 0 5 (zs_mulI 0 0 zlI_6 h_x1 (by decide)) h_x3 (by decide)) h_x6 hc
    refine ⟨ret, er, ?_⟩
    exact (zs_sumw hr (fun v w => ⟨w.1, w.2⟩) (fun v w => w.elim))
  · skip
    have r3 := (zs_I_eqn c1)
    exact (zs_botne r3 h_t0 zlI_0 (by decide)).elim
-- BX9_goMinute_144
theorem zA_26 {σ0 : sn_S} {σ : sn_S} (h_σ : zs_M0 σ0 σ) {x1 : Int32} (h_x1 : zs_in x1.toInt 0 0) {x2 : Int32} (h_x2 : zs_in x2.toInt 0 0) {x3 : Int32} (h_x3 : zs_in x3.toInt 0 5) {x4 : Int32} {x5 : Int32} {x6 : Int32} (h_x6 : zs_in x6.toInt (-2147483648) 98) {c : Int} (hc : x3.toInt = c + 0) : zs_ok (BX9_goMinute_144 σ x1 x2 x3 x4 x5 x6) (fun r => zs_sum (fun v => ((zs_M0 σ0 v.1 ∧ zs_in (v.2).toInt 1 6)) ∧ v.2.toInt = c + 1) (fun v => False) r) := by
  unfold BX9_goMinute_144
  obtain rfl : x1 = (0 : Int32) := zs_eqv h_x1 (by decide)
  obtain rfl : x2 = (0 : Int32) := zs_eqv h_x2 (by decide)
  obtain ⟨ret, er, hr⟩ := zA_25 h_σ h_x1 h_x2 h_x3 h_x6 zlI_0 hc
  refine ⟨ret, er, ?_⟩
  exact (zs_sumw hr (fun v w => ⟨w.1, w.2⟩) (fun v w => w.elim))
-- BX9_goMinute_192
theorem zA_27 {σ0 : sn_S} {σ : sn_S} (h_σ : zs_M0 σ0 σ) {x1 : Int32} (h_x1 : zs_in x1.toInt 0 0) {x2 : Int32} (h_x2 : zs_in x2.toInt 0 0) {x3 : Int32} (h_x3 : zs_in x3.toInt 0 5) {x7 : Int32} (h_x7 : zs_in x7.toInt 1 1) {t1 : Int32} (h_t1 : zs_in t1.toInt 0 5) {t2 : Int32} (h_t2 : zs_in t2.toInt 0 0) {c : Int} (hc : x3.toInt = c + 0) : zs_ok (BX9_goMinute_192 σ x1 x2 x3 x7 t1 t2) (fun r => zs_sum (fun v => ((zs_M0 σ0 v.1 ∧ zs_in (v.2).toInt 1 6)) ∧ v.2.toInt = c + 1) (fun v => False) r) := by
  unfold BX9_goMinute_192
  obtain rfl : x1 = (0 : Int32) := zs_eqv h_x1 (by decide)
  obtain rfl : x2 = (0 : Int32) := zs_eqv h_x2 (by decide)
  obtain rfl : x7 = (1 : Int32) := zs_eqv h_x7 (by decide)
  obtain rfl : t2 = (0 : Int32) := zs_eqv h_t2 (by decide)
  refine zs_gd (zs_gin h_t1 (by decide)) ?_
  refine zs_lt (Q := fun z => zs_M0 σ0 z) (zs_wrt h_σ (fun _ => rfl) (fun _ => rfl)) (fun σ_2 hσ_2 => ?_)
  refine zs_ite (fun c1 => ?_) (fun c1 => ?_)
  · skip
    have r2 := (zs_I_eq c1)
    exact (zs_botr r2 h_x7 zlI_0 (by decide)).elim
  · skip
    have r3 := (zs_I_eqn c1)
    refine zs_gd (zs_gin h_x1 (by decide)) ?_
    refine zs_gd (zs_gin h_x1 (by decide)) ?_
    refine zs_lt (Q := fun z => zs_M0 σ0 z) (zs_wrt hσ_2 (fun _ => rfl) (fun _ => rfl)) (fun σ_7 hσ_7 => ?_)
    refine zs_gd (zs_gin h_x3 (by decide)) ?_
    refine zs_gd (zs_gin h_x3 (by decide)) ?_
    refine zs_lt (Q := fun z => zs_M0 σ0 z) (zs_wru (z := (0, 1073741823)) hσ_7 (fun _ => rfl) (zs_or 30 1073741823 (zs_rdu (q := 10) (z := (0, 1073741823)) hσ_7.1 (fun _ => rfl)) (zs_cases h_x1 (fun z => zs_in ((1 : Int32) <<< (z &&& 31)).toInt 1 1) (by decide +kernel)) (by decide)) (by decide) (fun _ => rfl)) (fun σ_11 hσ_11 => ?_)
    obtain ⟨ret, er, hr⟩ := zA_23 hσ_11 h_x1 h_x2 h_x3 hc
    refine ⟨ret, er, ?_⟩
    exact (zs_sumw hr (fun v w => ⟨w.1, w.2⟩) (fun v w => w.elim))
-- BX9_goMinute_145
theorem zA_28 {σ0 : sn_S} {σ : sn_S} (h_σ : zs_M0 σ0 σ) {x1 : Int32} (h_x1 : zs_in x1.toInt 0 0) {x2 : Int32} (h_x2 : zs_in x2.toInt 0 0) {x3 : Int32} (h_x3 : zs_in x3.toInt 0 5) {x4 : Int32} {x5 : Int32} {x6 : Int32} (h_x6 : zs_in x6.toInt 0 2147483647) {t0 : Int32} (h_t0 : zs_in t0.toInt 1 1) {c : Int} (hc : x3.toInt = c + 0) : zs_ok (BX9_goMinute_145 σ x1 x2 x3 x4 x5 x6 t0) (fun r => zs_sum (fun v => ((zs_M0 σ0 v.1 ∧ zs_in (v.2).toInt 1 6)) ∧ v.2.toInt = c + 1) (fun v => False) r) := by
  unfold BX9_goMinute_145
  obtain rfl : x1 = (0 : Int32) := zs_eqv h_x1 (by decide)
  obtain rfl : x2 = (0 : Int32) := zs_eqv h_x2 (by decide)
  obtain rfl : t0 = (1 : Int32) := zs_eqv h_t0 (by decide)
  refine zs_gd (zs_gin h_x3 (by decide)) ?_
  refine zs_gd (zs_gin h_x3 (by decide)) ?_
  refine zs_lt (Q := fun z => zs_M0 σ0 z) (zs_wrt h_σ (fun _ => rfl) (fun _ => rfl)) (fun σ_3 hσ_3 => ?_)
  refine zs_gd (zs_gin (zs_addI 0 5 (zs_mulI 0 0 zlI_6 h_x1 (by decide)) h_x3 (by decide)) (by decide)) ?_
  refine zs_lt (Q := fun z => zs_M0 σ0 z) (zs_wrt hσ_3 (fun _ => rfl) (fun _ => rfl)) (fun σ_6 hσ_6 => ?_)
  refine zs_ite (fun c1 => ?_) (fun c1 => ?_)
  · skip
    have r2 := (zs_I_eq c1)
    exact (zs_botr r2 h_t0 zlI_0 (by decide)).elim
  · skip
    have r3 := (zs_I_eqn c1)
    obtain ⟨ret, er, hr⟩ := zA_27 hσ_6 h_x1 h_x2 h_x3 h_t0 (zs_addI 0 5 (zs_mulI 0 0 zlI_6 h_x1 (by decide)) h_x3 (by decide)) zlI_0 hc
    refine ⟨ret, er, ?_⟩
    exact (zs_sumw hr (fun v w => ⟨w.1, w.2⟩) (fun v w => w.elim))
-- BX9_goMinute_192
theorem zA_29 {σ0 : sn_S} {σ : sn_S} (h_σ : zs_M0 σ0 σ) {x1 : Int32} (h_x1 : zs_in x1.toInt 0 0) {x2 : Int32} (h_x2 : zs_in x2.toInt 0 0) {x3 : Int32} (h_x3 : zs_in x3.toInt 0 5) {x7 : Int32} (h_x7 : zs_in x7.toInt 0 0) {t1 : Int32} (h_t1 : zs_in t1.toInt 0 5) {t2 : Int32} (h_t2 : zs_in t2.toInt 0 2147483647) {c : Int} (hc : x3.toInt = c + 0) : zs_ok (BX9_goMinute_192 σ x1 x2 x3 x7 t1 t2) (fun r => zs_sum (fun v => ((zs_M0 σ0 v.1 ∧ zs_in (v.2).toInt 1 6)) ∧ v.2.toInt = c + 1) (fun v => False) r) := by
  unfold BX9_goMinute_192
  obtain rfl : x1 = (0 : Int32) := zs_eqv h_x1 (by decide)
  obtain rfl : x2 = (0 : Int32) := zs_eqv h_x2 (by decide)
  obtain rfl : x7 = (0 : Int32) := zs_eqv h_x7 (by decide)
  refine zs_gd (zs_gin h_t1 (by decide)) ?_
  refine zs_lt (Q := fun z => zs_M0 σ0 z) (zs_wrt h_σ (fun _ => rfl) (fun _ => rfl)) (fun σ_2 hσ_2 => ?_)
  refine zs_ite (fun c1 => ?_) (fun c1 => ?_)
  · skip
    have r2 := (zs_I_eq c1)
    obtain ⟨ret, er, hr⟩ := zA_23 hσ_2 h_x1 h_x2 h_x3 hc
    refine ⟨ret, er, ?_⟩
    exact (zs_sumw hr (fun v w => ⟨w.1, w.2⟩) (fun v w => w.elim))
  · skip
    have r3 := (zs_I_eqn c1)
    exact (zs_botne r3 h_x7 zlI_0 (by decide)).elim
-- BX9_goMinute_145
theorem zA_30 {σ0 : sn_S} {σ : sn_S} (h_σ : zs_M0 σ0 σ) {x1 : Int32} (h_x1 : zs_in x1.toInt 0 0) {x2 : Int32} (h_x2 : zs_in x2.toInt 0 0) {x3 : Int32} (h_x3 : zs_in x3.toInt 0 5) {x4 : Int32} {x5 : Int32} {x6 : Int32} (h_x6 : zs_in x6.toInt 0 2147483647) {t0 : Int32} (h_t0 : zs_in t0.toInt 0 0) {c : Int} (hc : x3.toInt = c + 0) : zs_ok (BX9_goMinute_145 σ x1 x2 x3 x4 x5 x6 t0) (fun r => zs_sum (fun v => ((zs_M0 σ0 v.1 ∧ zs_in (v.2).toInt 1 6)) ∧ v.2.toInt = c + 1) (fun v => False) r) := by
  unfold BX9_goMinute_145
  obtain rfl : x1 = (0 : Int32) := zs_eqv h_x1 (by decide)
  obtain rfl : x2 = (0 : Int32) := zs_eqv h_x2 (by decide)
  obtain rfl : t0 = (0 : Int32) := zs_eqv h_t0 (by decide)
  refine zs_gd (zs_gin h_x3 (by decide)) ?_
  refine zs_gd (zs_gin h_x3 (by decide)) ?_
  refine zs_lt (Q := fun z => zs_M0 σ0 z) (zs_wrt h_σ (fun _ => rfl) (fun _ => rfl)) (fun σ_3 hσ_3 => ?_)
  refine zs_gd (zs_gin (zs_addI 0 5 (zs_mulI 0 0 zlI_6 h_x1 (by decide)) h_x3 (by decide)) (by decide)) ?_
  refine zs_lt (Q := fun z => zs_M0 σ0 z) (zs_wrt hσ_3 (fun _ => rfl) (fun _ => rfl)) (fun σ_6 hσ_6 => ?_)
  refine zs_ite (fun c1 => ?_) (fun c1 => ?_)
  · skip
    have r2 := (zs_I_eq c1)
    obtain ⟨ret, er, hr⟩ := zA_29 hσ_6 h_x1 h_x2 h_x3 h_t0 (zs_addI 0 5 (zs_mulI 0 0 zlI_6 h_x1 (by decide)) h_x3 (by decide)) h_x6 hc
    refine ⟨ret, er, ?_⟩
    exact (zs_sumw hr (fun v w => ⟨w.1, w.2⟩) (fun v w => w.elim))
  · skip
    have r3 := (zs_I_eqn c1)
    exact (zs_botne r3 h_t0 zlI_0 (by decide)).elim
-- BX9_goMinute_144
theorem zA_31 {σ0 : sn_S} {σ : sn_S} (h_σ : zs_M0 σ0 σ) {x1 : Int32} (h_x1 : zs_in x1.toInt 0 0) {x2 : Int32} (h_x2 : zs_in x2.toInt 0 0) {x3 : Int32} (h_x3 : zs_in x3.toInt 0 5) {x4 : Int32} {x5 : Int32} {x6 : Int32} (h_x6 : zs_in x6.toInt 0 2147483647) {c : Int} (hc : x3.toInt = c + 0) : zs_ok (BX9_goMinute_144 σ x1 x2 x3 x4 x5 x6) (fun r => zs_sum (fun v => ((zs_M0 σ0 v.1 ∧ zs_in (v.2).toInt 1 6)) ∧ v.2.toInt = c + 1) (fun v => False) r) := by
  unfold BX9_goMinute_144
  obtain rfl : x1 = (0 : Int32) := zs_eqv h_x1 (by decide)
  obtain rfl : x2 = (0 : Int32) := zs_eqv h_x2 (by decide)
  obtain ⟨ret, er, hr⟩ := zA_30 h_σ h_x1 h_x2 h_x3 h_x6 zlI_0 hc
  refine ⟨ret, er, ?_⟩
  exact (zs_sumw hr (fun v w => ⟨w.1, w.2⟩) (fun v w => w.elim))
-- BX9_goMinute_104
theorem zA_32 {σ0 : sn_S} {σ : sn_S} (h_σ : zs_M0 σ0 σ) {x1 : Int32} (h_x1 : zs_in x1.toInt 0 0) {x2 : Int32} (h_x2 : zs_in x2.toInt 0 0) {x3 : Int32} (h_x3 : zs_in x3.toInt 0 5) {x4 : Int32} {x5 : Int32} {t0 : Int32} (h_t0 : zs_in t0.toInt 0 0) {c : Int} (hc : x3.toInt = c + 0) : zs_ok (BX9_goMinute_104 σ x1 x2 x3 x4 x5 t0) (fun r => zs_sum (fun v => ((zs_M0 σ0 v.1 ∧ zs_in (v.2).toInt 1 6)) ∧ v.2.toInt = c + 1) (fun v => False) r) := by
  unfold BX9_goMinute_104
  obtain rfl : x1 = (0 : Int32) := zs_eqv h_x1 (by decide)
  obtain rfl : x2 = (0 : Int32) := zs_eqv h_x2 (by decide)
  obtain rfl : t0 = (0 : Int32) := zs_eqv h_t0 (by decide)
  refine zs_lt (Q := fun z => True) trivial (fun y_1 hy_1 => ?_)
  refine zs_gd (zs_gin (zs_addI 12 22 (zs_addI 11 21 zlI_11 (zs_mulI 0 10 zlI_2 h_x3 (by decide)) (by decide)) zlI_1 (by decide)) (by decide)) ?_
  refine zs_ite (fun c1 => ?_) (fun c1 => ?_)
  · skip
    have r2 := (zs_I_lt c1)
    have g3 : zs_in (y_1).toInt (-2147483648) 98 := (zs_ltl (-2147483648) 98 r2 (zs_topI _) (zs_rdb (q := 1) (lo := 0) (hi := 99) h_σ.1 (zs_cases h_x3 (fun z => zs_bd (zs_tM 1 (((11 : Int32) + ((2 : Int32) * z)) + (1 : Int32)).toNatClampNeg) 0 99) (by decide +kernel))) (by decide))
    obtain ⟨ret, er, hr⟩ := zA_26 h_σ h_x1 h_x2 h_x3 g3 hc
    refine ⟨ret, er, ?_⟩
    exact (zs_sumw hr (fun v w => ⟨w.1, w.2⟩) (fun v w => w.elim))
  · skip
    have r4 := (zs_I_ltn c1)
    have g5 : zs_in (y_1).toInt 0 2147483647 := (zs_ler 0 2147483647 r4 (zs_rdb (q := 1) (lo := 0) (hi := 99) h_σ.1 (zs_cases h_x3 (fun z => zs_bd (zs_tM 1 (((11 : Int32) + ((2 : Int32) * z)) + (1 : Int32)).toNatClampNeg) 0 99) (by decide +kernel))) (zs_topI _) (by decide))
    refine zs_gd (zs_gin h_x3 (by decide)) ?_
    refine zs_bd_ (zA_22 h_x1) (fun t_6 pt_6 => ?_)
    refine zs_ite (fun c6 => ?_) (fun c6 => ?_)
    · skip
      have r7 := (zs_I_eq c6)
      have g8 : zs_in (t_6).toInt 0 0 := (zs_eql 0 0 r7 pt_6 zlI_0 (by decide))
      obtain ⟨ret, er, hr⟩ := zA_28 h_σ h_x1 h_x2 h_x3 g5 zlI_1 hc
      refine ⟨ret, er, ?_⟩
      exact (zs_sumw hr (fun v w => ⟨w.1, w.2⟩) (fun v w => w.elim))
    · skip
      have r9 := (zs_I_eqn c6)
      have g10 : zs_in (t_6).toInt 1 1 := (zs_nel 1 1 r9 pt_6 zlI_0 (by decide))
      obtain ⟨ret, er, hr⟩ := zA_31 h_σ h_x1 h_x2 h_x3 g5 hc
      refine ⟨ret, er, ?_⟩
      exact (zs_sumw hr (fun v w => ⟨w.1, w.2⟩) (fun v w => w.elim))
-- BX9_goMinute_26
theorem zA_33 {σ0 : sn_S} {σ : sn_S} (h_σ : zs_M0 σ0 σ) {x1 : Int32} (h_x1 : zs_in x1.toInt 0 0) {x2 : Int32} (h_x2 : zs_in x2.toInt 0 0) {x3 : Int32} (h_x3 : zs_in x3.toInt 0 6) {c : Int} (hc : x3.toInt = c + 0) : zs_ok (BX9_goMinute_26 σ x1 x2 x3) (fun r => zs_sum (fun v => ((zs_M0 σ0 v.1 ∧ zs_in (v.2).toInt 1 6)) ∧ v.2.toInt = c + 1) (fun v => zs_M0 σ0 v) r) := by
  unfold BX9_goMinute_26
  obtain rfl : x1 = (0 : Int32) := zs_eqv h_x1 (by decide)
  obtain rfl : x2 = (0 : Int32) := zs_eqv h_x2 (by decide)
  refine zs_gd (zs_gin zlI_5 (by decide)) ?_
  refine zs_ite (fun c1 => ?_) (fun c1 => ?_)
  · skip
    have r2 := (zs_I_le c1)
    exact zs_some (zs_inr (h_σ))
  · skip
    have r3 := (zs_I_len c1)
    have g4 : zs_in (x3).toInt 0 5 := (zs_ltl 0 5 r3 h_x3 (zs_rdk (q := 1) (k := (5 : Int32).toNatClampNeg) (z := (0, 6)) h_σ.1 rfl) (by decide))
    have g5 : zs_in ((sn_I σ 1 (5 : Int32).toNatClampNeg)).toInt 1 6 := (zs_ltr 1 6 r3 h_x3 (zs_rdk (q := 1) (k := (5 : Int32).toNatClampNeg) (z := (0, 6)) h_σ.1 rfl) (by decide))
    refine zs_bd_ (zA_21 h_σ g4 h_x2) (fun t_3 pt_3 => ?_)
    refine zs_lt (Q := fun z => True) trivial (fun y_5 hy_5 => ?_)
    refine zs_gd (zs_gin (zs_addI 11 21 zlI_11 (zs_mulI 0 10 zlI_2 g4 (by decide)) (by decide)) (by decide)) ?_
    refine zs_gd (zs_gin h_x1 (by decide)) ?_
    refine zs_gd (zs_gin g4 (by decide)) ?_
    refine zs_bd_ (zA_22 h_x1) (fun t_10 pt_10 => ?_)
    refine zs_lt (Q := fun z => True) trivial (fun y_12 hy_12 => ?_)
    refine zs_ite (fun c6 => ?_) (fun c6 => ?_)
    · skip
      have r7 := (zs_I_eq c6)
      obtain ⟨ret, er, hr⟩ := zA_32 h_σ h_x1 h_x2 g4 zlI_0 hc
      refine ⟨ret, er, ?_⟩
      exact (zs_sumw hr (fun v w => ⟨w.1, w.2⟩) (fun v w => w.elim))
    · skip
      have r8 := (zs_I_eqn c6)
      exact (zs_botne r8 h_x1 zlI_0 (by decide)).elim
theorem zB_7 {σ0 : sn_S} {x1 : Int32} (h_x1 : zs_in x1.toInt 0 0) {x2 : Int32} (h_x2 : zs_in x2.toInt 0 0) {s0 : (sn_S × Int32)} (h0 : (zs_M0 σ0 s0.1 ∧ zs_in (s0.2).toInt 0 6)) : zs_ok (sn_it (LX9_goMinute_26 x1 x2) 5000 s0) (fun t => zs_M0 σ0 t) := by
  refine zs_it (I := fun s => (zs_M0 σ0 s.1 ∧ zs_in (s.2).toInt 0 6)) (m := fun s => 6 - s.2.toInt) (fun s hs => ?_) (fun s hs => ?_) (by exact h0)
  · have h1 := hs.2; unfold zs_in at h1
    omega
  · obtain ⟨b, eb, hb⟩ := zA_33 hs.1 h_x1 h_x2 hs.2 (c := s.2.toInt) (Int.add_zero _).symm
    exact ⟨b, eb, zs_sumw hb (fun v w => ⟨⟨w.1.1, (zs_w w.1.2 (by decide))⟩, by have := w.2; omega⟩) (fun v w => w)⟩
-- BX9_goMinute_231
theorem zA_34 {σ0 : sn_S} {σ : sn_S} (h_σ : zs_M0 σ0 σ) : zs_ok (BX9_goMinute_231 σ) (fun r => zs_M0 σ0 r) := by
  unfold BX9_goMinute_231
  exact zs_some h_σ
-- BX9_goMinute_23
theorem zA_35 {σ0 : sn_S} {σ : sn_S} (h_σ : zs_M0 σ0 σ) {x1 : Int32} (h_x1 : zs_in x1.toInt 0 0) {t0 : Int32} (h_t0 : zs_in t0.toInt 0 0) : zs_ok (BX9_goMinute_23 σ x1 t0) (fun r => zs_M0 σ0 r) := by
  unfold BX9_goMinute_23
  obtain rfl : x1 = (0 : Int32) := zs_eqv h_x1 (by decide)
  obtain rfl : t0 = (0 : Int32) := zs_eqv h_t0 (by decide)
  refine zs_bd_ (zB_7 h_x1 h_t0 (s0 := (σ, (0 : Int32))) ⟨h_σ, (zs_w zlI_0 (by decide))⟩) (fun t_1 pt_1 => ?_)
  obtain ⟨ret, er, hr⟩ := zA_34 pt_1
  refine ⟨ret, er, ?_⟩
  exact hr
-- BX9_netsTo_91
theorem zA_36 {σ0 : sn_S} {σ : sn_S} (h_σ : zs_M0 σ0 σ) {x1 : Int32} (h_x1 : zs_in x1.toInt 0 5) {x2 : Int32} {x3 : Int32} {x4 : Int32} (h_x4 : zs_in x4.toInt 0 7) {c : Int} (hc : x4.toInt = c + 0) : zs_ok (BX9_netsTo_91 σ x1 x2 x3 x4) (fun r => zs_sum (fun v => ((True ∧ zs_in (v.2).toInt 1 8)) ∧ v.2.toInt = c + 1) (fun v => False) r) := by
  unfold BX9_netsTo_91
  refine zs_lt (Q := fun z => zs_in z.toInt 1 8 ∧ z.toInt = c + 1) ⟨(zs_addI 1 8 h_x4 zlI_1 (by decide)), (zs_syI 1 hc h_x4 zlI_1 (by decide) (by decide))⟩ (fun y_1 hy_1 => ?_)
  exact zs_some (zs_inl ⟨⟨trivial, hy_1.1⟩, hy_1.2⟩)
-- fX9_bit
theorem zA_37 {x0 : Int32} {x1 : Int32} (h_x1 : zs_in x1.toInt 0 5) : zs_ok (fX9_bit x0 x1) (fun r => zs_in (r).toInt 0 1) := by
  unfold fX9_bit
  exact zs_some (zs_and zlI_1 (by decide))
-- BX9_netsTo_88
theorem zA_38 {σ0 : sn_S} {σ : sn_S} (h_σ : zs_M0 σ0 σ) {x1 : Int32} (h_x1 : zs_in x1.toInt 0 5) {x2 : Int32} {x3 : Int32} {x4 : Int32} (h_x4 : zs_in x4.toInt 0 7) {c : Int} (hc : x4.toInt = c + 0) : zs_ok (BX9_netsTo_88 σ x1 x2 x3 x4) (fun r => zs_sum (fun v => ((True ∧ zs_in (v.2).toInt 1 8)) ∧ v.2.toInt = c + 1) (fun v => False) r) := by
  unfold BX9_netsTo_88
  refine zs_lt (Q := fun z => True) trivial (fun y_1 hy_1 => ?_)
  obtain ⟨ret, er, hr⟩ := zA_36 h_σ h_x1 h_x4 hc
  refine ⟨ret, er, ?_⟩
  exact (zs_sumw hr (fun v w => ⟨w.1, w.2⟩) (fun v w => w.elim))
-- BX9_netsTo_72
theorem zA_39 {σ0 : sn_S} {σ : sn_S} (h_σ : zs_M0 σ0 σ) {x1 : Int32} (h_x1 : zs_in x1.toInt 0 5) {x2 : Int32} {x3 : Int32} {x4 : Int32} (h_x4 : zs_in x4.toInt 0 7) {x5 : Int32} (h_x5 : zs_in x5.toInt 0 5) {x6 : Int32} (h_x6 : zs_in x6.toInt 0 5) {c : Int} (hc : x4.toInt = c + 0) : zs_ok (BX9_netsTo_72 σ x1 x2 x3 x4 x5 x6) (fun r => zs_sum (fun v => ((True ∧ zs_in (v.2).toInt 1 8)) ∧ v.2.toInt = c + 1) (fun v => False) r) := by
  unfold BX9_netsTo_72
  refine zs_ite (fun c1 => ?_) (fun c1 => ?_)
  · skip
    have r2 := (zs_I_eq c1)
    refine zs_bd_ (zA_37 h_x5) (fun t_2 pt_2 => ?_)
    refine zs_ite (fun c3 => ?_) (fun c3 => ?_)
    · skip
      have r4 := (zs_I_eq c3)
      have g5 : zs_in (t_2).toInt 1 1 := (zs_eql 1 1 r4 pt_2 zlI_1 (by decide))
      obtain ⟨ret, er, hr⟩ := zA_38 h_σ h_x1 h_x4 hc
      refine ⟨ret, er, ?_⟩
      exact (zs_sumw hr (fun v w => ⟨w.1, w.2⟩) (fun v w => w.elim))
    · skip
      have r6 := (zs_I_eqn c3)
      have g7 : zs_in (t_2).toInt 0 0 := (zs_neh 0 0 r6 pt_2 zlI_1 (by decide))
      obtain ⟨ret, er, hr⟩ := zA_36 h_σ h_x1 h_x4 hc
      refine ⟨ret, er, ?_⟩
      exact (zs_sumw hr (fun v w => ⟨w.1, w.2⟩) (fun v w => w.elim))
  · skip
    have r8 := (zs_I_eqn c1)
    obtain ⟨ret, er, hr⟩ := zA_36 h_σ h_x1 h_x4 hc
    refine ⟨ret, er, ?_⟩
    exact (zs_sumw hr (fun v w => ⟨w.1, w.2⟩) (fun v w => w.elim))
-- BX9_netsTo_5
theorem zA_40 {σ0 : sn_S} {σ : sn_S} (h_σ : zs_M0 σ0 σ) {x1 : Int32} (h_x1 : zs_in x1.toInt 0 5) {x2 : Int32} {x3 : Int32} {x4 : Int32} (h_x4 : zs_in x4.toInt 0 8) {c : Int} (hc : x4.toInt = c + 0) : zs_ok (BX9_netsTo_5 σ x1 x2 x3 x4) (fun r => zs_sum (fun v => ((True ∧ zs_in (v.2).toInt 1 8)) ∧ v.2.toInt = c + 1) (fun v => True) r) := by
  unfold BX9_netsTo_5
  refine zs_gd (zs_gin zlI_7 (by decide)) ?_
  refine zs_ite (fun c1 => ?_) (fun c1 => ?_)
  · skip
    have r2 := (zs_I_le c1)
    exact zs_some (zs_inr (trivial))
  · skip
    have r3 := (zs_I_len c1)
    have g4 : zs_in (x4).toInt 0 7 := (zs_ltl 0 7 r3 h_x4 (zs_rdk (q := 1) (k := (7 : Int32).toNatClampNeg) (z := (0, 8)) h_σ.1 rfl) (by decide))
    have g5 : zs_in ((sn_I σ 1 (7 : Int32).toNatClampNeg)).toInt 1 8 := (zs_ltr 1 8 r3 h_x4 (zs_rdk (q := 1) (k := (7 : Int32).toNatClampNeg) (z := (0, 8)) h_σ.1 rfl) (by decide))
    refine zs_gd (zs_gin (zs_addI 33 47 zlI_33 (zs_mulI 0 14 zlI_2 g4 (by decide)) (by decide)) (by decide)) ?_
    refine zs_lt (Q := fun z => zs_in z.toInt 0 5) (zs_rdb (q := 1) (lo := 0) (hi := 5) h_σ.1 (zs_cases g4 (fun z => zs_bd (zs_tM 1 ((33 : Int32) + ((2 : Int32) * z)).toNatClampNeg) 0 5) (by decide +kernel))) (fun y_4 hy_4 => ?_)
    refine zs_gd (zs_gin (zs_addI 34 48 (zs_addI 33 47 zlI_33 (zs_mulI 0 14 zlI_2 g4 (by decide)) (by decide)) zlI_1 (by decide)) (by decide)) ?_
    refine zs_lt (Q := fun z => zs_in z.toInt 0 5) (zs_rdb (q := 1) (lo := 0) (hi := 5) h_σ.1 (zs_cases g4 (fun z => zs_bd (zs_tM 1 (((33 : Int32) + ((2 : Int32) * z)) + (1 : Int32)).toNatClampNeg) 0 5) (by decide +kernel))) (fun y_7 hy_7 => ?_)
    refine zs_ite (fun c6 => ?_) (fun c6 => ?_)
    · skip
      have r7 := (zs_I_eq c6)
      have g8 : zs_in ((sn_I σ 0 19)).toInt 0 7 := (zs_eqr 0 7 r7 g4 (zs_topI _) (by decide))
      obtain ⟨ret, er, hr⟩ := zA_36 h_σ h_x1 g4 hc
      refine ⟨ret, er, ?_⟩
      exact (zs_sumw hr (fun v w => ⟨w.1, w.2⟩) (fun v w => w.elim))
    · skip
      have r9 := (zs_I_eqn c6)
      refine zs_ite (fun c10 => ?_) (fun c10 => ?_)
      · skip
        have r11 := (zs_I_eq c10)
        refine zs_bd_ (zA_37 hy_7) (fun t_11 pt_11 => ?_)
        refine zs_ite (fun c12 => ?_) (fun c12 => ?_)
        · skip
          have r13 := (zs_I_eq c12)
          have g14 : zs_in (t_11).toInt 1 1 := (zs_eql 1 1 r13 pt_11 zlI_1 (by decide))
          obtain ⟨ret, er, hr⟩ := zA_38 h_σ h_x1 g4 hc
          refine ⟨ret, er, ?_⟩
          exact (zs_sumw hr (fun v w => ⟨w.1, w.2⟩) (fun v w => w.elim))
        · skip
          have r15 := (zs_I_eqn c12)
          have g16 : zs_in (t_11).toInt 0 0 := (zs_neh 0 0 r15 pt_11 zlI_1 (by decide))
          obtain ⟨ret, er, hr⟩ := zA_39 h_σ h_x1 g4 hy_4 hy_7 hc
          refine ⟨ret, er, ?_⟩
          exact (zs_sumw hr (fun v w => ⟨w.1, w.2⟩) (fun v w => w.elim))
      · skip
        have r17 := (zs_I_eqn c10)
        obtain ⟨ret, er, hr⟩ := zA_39 h_σ h_x1 g4 hy_4 hy_7 hc
        refine ⟨ret, er, ?_⟩
        exact (zs_sumw hr (fun v w => ⟨w.1, w.2⟩) (fun v w => w.elim))
theorem zB_8 {σ0 : sn_S} {σ : sn_S} (h_σ : zs_M0 σ0 σ) {x1 : Int32} (h_x1 : zs_in x1.toInt 0 5) {x2 : Int32} {s0 : (Int32 × Int32)} (h0 : (True ∧ zs_in (s0.2).toInt 0 8)) : zs_ok (sn_it (LX9_netsTo_5 σ x1 x2) 5000 s0) (fun t => True) := by
  refine zs_it (I := fun s => (True ∧ zs_in (s.2).toInt 0 8)) (m := fun s => 8 - s.2.toInt) (fun s hs => ?_) (fun s hs => ?_) (by exact h0)
  · have h1 := hs.2; unfold zs_in at h1
    omega
  · obtain ⟨b, eb, hb⟩ := zA_40 h_σ h_x1 hs.2 (c := s.2.toInt) (Int.add_zero _).symm
    exact ⟨b, eb, zs_sumw hb (fun v w => ⟨⟨w.1.1, (zs_w w.1.2 (by decide))⟩, by have := w.2; omega⟩) (fun v w => w)⟩
-- fX9_netsTo
theorem zA_41 {σ0 : sn_S} {σ : sn_S} (h_σ : zs_M0 σ0 σ) {x1 : Int32} (h_x1 : zs_in x1.toInt 0 5) {x2 : Int32} : zs_ok (fX9_netsTo σ x1 x2) (fun r => True) := by
  unfold fX9_netsTo
  refine zs_bd_ (zB_8 h_σ h_x1 (s0 := ((0 : Int32), (0 : Int32))) ⟨trivial, (zs_w zlI_0 (by decide))⟩) (fun t_1 pt_1 => ?_)
  obtain ⟨ret, er, hr⟩ := zA_20 h_σ
  refine ⟨ret, er, ?_⟩
  exact hr
-- fX9_bit
theorem zA_42 {x0 : Int32} {x1 : Int32} (h_x1 : zs_in x1.toInt 1 29) : zs_ok (fX9_bit x0 x1) (fun r => zs_in (r).toInt 0 1) := by
  unfold fX9_bit
  exact zs_some (zs_and zlI_1 (by decide))
-- BX9_goMinute_225
theorem zA_43 {σ0 : sn_S} {σ : sn_S} (h_σ : zs_M0 σ0 σ) {x1 : Int32} (h_x1 : zs_in x1.toInt 1 29) {x2 : Int32} {x3 : Int32} (h_x3 : zs_in x3.toInt 0 5) {c : Int} (hc : x3.toInt = c + 0) : zs_ok (BX9_goMinute_225 σ x1 x2 x3) (fun r => zs_sum (fun v => ((zs_M0 σ0 v.1 ∧ zs_in (v.2).toInt 1 6)) ∧ v.2.toInt = c + 1) (fun v => False) r) := by
  unfold BX9_goMinute_225
  refine zs_lt (Q := fun z => zs_in z.toInt 1 6 ∧ z.toInt = c + 1) ⟨(zs_addI 1 6 h_x3 zlI_1 (by decide)), (zs_syI 1 hc h_x3 zlI_1 (by decide) (by decide))⟩ (fun y_1 hy_1 => ?_)
  exact zs_some (zs_inl ⟨⟨h_σ, hy_1.1⟩, hy_1.2⟩)
-- BX9_goMinute_192
theorem zA_44 {σ0 : sn_S} {σ : sn_S} (h_σ : zs_M0 σ0 σ) {x1 : Int32} (h_x1 : zs_in x1.toInt 1 29) {x2 : Int32} {x3 : Int32} (h_x3 : zs_in x3.toInt 0 5) {x7 : Int32} (h_x7 : zs_in x7.toInt 0 0) {t1 : Int32} (h_t1 : zs_in t1.toInt 6 179) {t2 : Int32} (h_t2 : zs_in t2.toInt (-2147483648) 98) {c : Int} (hc : x3.toInt = c + 0) : zs_ok (BX9_goMinute_192 σ x1 x2 x3 x7 t1 t2) (fun r => zs_sum (fun v => ((zs_M0 σ0 v.1 ∧ zs_in (v.2).toInt 1 6)) ∧ v.2.toInt = c + 1) (fun v => False) r) := by
  unfold BX9_goMinute_192
  obtain rfl : x7 = (0 : Int32) := zs_eqv h_x7 (by decide)
  refine zs_gd (zs_gin h_t1 (by decide)) ?_
  refine zs_lt (Q := fun z => zs_M0 σ0 z) (zs_wrt h_σ (fun _ => rfl) (fun _ => rfl)) (fun σ_2 hσ_2 => ?_)
  refine zs_ite (fun c1 => ?_) (fun c1 => ?_)
  · skip
    have r2 := (zs_I_eq c1)
    obtain ⟨ret, er, hr⟩ := zA_43 hσ_2 h_x1 h_x3 hc
    refine ⟨ret, er, ?_⟩
    exact (zs_sumw hr (fun v w => ⟨w.1, w.2⟩) (fun v w => w.elim))
  · skip
    have r3 := (zs_I_eqn c1)
    exact (zs_botne r3 h_x7 zlI_0 (by decide)).elim
-- BX9_goMinute_145
theorem zA_45 {σ0 : sn_S} {σ : sn_S} (h_σ : zs_M0 σ0 σ) {x1 : Int32} (h_x1 : zs_in x1.toInt 1 29) {x2 : Int32} {x3 : Int32} (h_x3 : zs_in x3.toInt 0 5) {x4 : Int32} {x5 : Int32} {x6 : Int32} (h_x6 : zs_in x6.toInt (-2147483648) 98) {t0 : Int32} (h_t0 : zs_in t0.toInt 0 0) {c : Int} (hc : x3.toInt = c + 0) : zs_ok (BX9_goMinute_145 σ x1 x2 x3 x4 x5 x6 t0) (fun r => zs_sum (fun v => ((zs_M0 σ0 v.1 ∧ zs_in (v.2).toInt 1 6)) ∧ v.2.toInt = c + 1) (fun v => False) r) := by
  unfold BX9_goMinute_145
  obtain rfl : t0 = (0 : Int32) := zs_eqv h_t0 (by decide)
  refine zs_gd (zs_gin h_x3 (by decide)) ?_
  refine zs_gd (zs_gin h_x3 (by decide)) ?_
  refine zs_lt (Q := fun z => zs_M0 σ0 z) (zs_wrt h_σ (fun _ => rfl) (fun _ => rfl)) (fun σ_3 hσ_3 => ?_)
  refine zs_gd (zs_gin (zs_addI 6 179 (zs_mulI 6 174 zlI_6 h_x1 (by decide)) h_x3 (by decide)) (by decide)) ?_
  refine zs_lt (Q := fun z => zs_M0 σ0 z) (zs_wrt hσ_3 (fun _ => rfl) (fun _ => rfl)) (fun σ_6 hσ_6 => ?_)
  refine zs_ite (fun c1 => ?_) (fun c1 => ?_)
  · skip
    have r2 := (zs_I_eq c1)
    obtain ⟨ret, er, hr⟩ := zA_44 hσ_6 h_x1 h_x3 h_t0 (zs_addI 6 179 (zs_mulI 6 174 zlI_6 h_x1 (by decide)) h_x3 (by decide)) h_x6 hc
    refine ⟨ret, er, ?_⟩
    exact (zs_sumw hr (fun v w => ⟨w.1, w.2⟩) (fun v w => w.elim))
  · skip
    have r3 := (zs_I_eqn c1)
    exact (zs_botne r3 h_t0 zlI_0 (by decide)).elim
-- BX9_goMinute_144
theorem zA_46 {σ0 : sn_S} {σ : sn_S} (h_σ : zs_M0 σ0 σ) {x1 : Int32} (h_x1 : zs_in x1.toInt 1 29) {x2 : Int32} {x3 : Int32} (h_x3 : zs_in x3.toInt 0 5) {x4 : Int32} {x5 : Int32} {x6 : Int32} (h_x6 : zs_in x6.toInt (-2147483648) 98) {c : Int} (hc : x3.toInt = c + 0) : zs_ok (BX9_goMinute_144 σ x1 x2 x3 x4 x5 x6) (fun r => zs_sum (fun v => ((zs_M0 σ0 v.1 ∧ zs_in (v.2).toInt 1 6)) ∧ v.2.toInt = c + 1) (fun v => False) r) := by
  unfold BX9_goMinute_144
  obtain ⟨ret, er, hr⟩ := zA_45 h_σ h_x1 h_x3 h_x6 zlI_0 hc
  refine ⟨ret, er, ?_⟩
  exact (zs_sumw hr (fun v w => ⟨w.1, w.2⟩) (fun v w => w.elim))
-- BX9_goMinute_192
theorem zA_47 {σ0 : sn_S} {σ : sn_S} (h_σ : zs_M0 σ0 σ) {x1 : Int32} (h_x1 : zs_in x1.toInt 1 29) {x2 : Int32} {x3 : Int32} (h_x3 : zs_in x3.toInt 0 5) {x7 : Int32} (h_x7 : zs_in x7.toInt 1 1) {t1 : Int32} (h_t1 : zs_in t1.toInt 6 179) {t2 : Int32} (h_t2 : zs_in t2.toInt 0 0) {c : Int} (hc : x3.toInt = c + 0) : zs_ok (BX9_goMinute_192 σ x1 x2 x3 x7 t1 t2) (fun r => zs_sum (fun v => ((zs_M0 σ0 v.1 ∧ zs_in (v.2).toInt 1 6)) ∧ v.2.toInt = c + 1) (fun v => False) r) := by
  unfold BX9_goMinute_192
  obtain rfl : x7 = (1 : Int32) := zs_eqv h_x7 (by decide)
  obtain rfl : t2 = (0 : Int32) := zs_eqv h_t2 (by decide)
  refine zs_gd (zs_gin h_t1 (by decide)) ?_
  refine zs_lt (Q := fun z => zs_M0 σ0 z) (zs_wrt h_σ (fun _ => rfl) (fun _ => rfl)) (fun σ_2 hσ_2 => ?_)
  refine zs_ite (fun c1 => ?_) (fun c1 => ?_)
  · skip
    have r2 := (zs_I_eq c1)
    exact (zs_botr r2 h_x7 zlI_0 (by decide)).elim
  · skip
    have r3 := (zs_I_eqn c1)
    refine zs_gd (zs_gin h_x1 (by decide)) ?_
    refine zs_gd (zs_gin h_x1 (by decide)) ?_
    refine zs_lt (Q := fun z => zs_M0 σ0 z) (zs_wrt hσ_2 (fun _ => rfl) (fun _ => rfl)) (fun σ_7 hσ_7 => ?_)
    refine zs_gd (zs_gin h_x3 (by decide)) ?_
    refine zs_gd (zs_gin h_x3 (by decide)) ?_
    refine zs_lt (Q := fun z => zs_M0 σ0 z) (zs_wru (z := (0, 1073741823)) hσ_7 (fun _ => rfl) (zs_or 30 1073741823 (zs_rdu (q := 10) (z := (0, 1073741823)) hσ_7.1 (fun _ => rfl)) (zs_cases h_x1 (fun z => zs_in ((1 : Int32) <<< (z &&& 31)).toInt 2 536870912) (by decide +kernel)) (by decide)) (by decide) (fun _ => rfl)) (fun σ_11 hσ_11 => ?_)
    obtain ⟨ret, er, hr⟩ := zA_43 hσ_11 h_x1 h_x3 hc
    refine ⟨ret, er, ?_⟩
    exact (zs_sumw hr (fun v w => ⟨w.1, w.2⟩) (fun v w => w.elim))
-- BX9_goMinute_145
theorem zA_48 {σ0 : sn_S} {σ : sn_S} (h_σ : zs_M0 σ0 σ) {x1 : Int32} (h_x1 : zs_in x1.toInt 1 29) {x2 : Int32} {x3 : Int32} (h_x3 : zs_in x3.toInt 0 5) {x4 : Int32} {x5 : Int32} {x6 : Int32} (h_x6 : zs_in x6.toInt 0 2147483647) {t0 : Int32} (h_t0 : zs_in t0.toInt 1 1) {c : Int} (hc : x3.toInt = c + 0) : zs_ok (BX9_goMinute_145 σ x1 x2 x3 x4 x5 x6 t0) (fun r => zs_sum (fun v => ((zs_M0 σ0 v.1 ∧ zs_in (v.2).toInt 1 6)) ∧ v.2.toInt = c + 1) (fun v => False) r) := by
  unfold BX9_goMinute_145
  obtain rfl : t0 = (1 : Int32) := zs_eqv h_t0 (by decide)
  refine zs_gd (zs_gin h_x3 (by decide)) ?_
  refine zs_gd (zs_gin h_x3 (by decide)) ?_
  refine zs_lt (Q := fun z => zs_M0 σ0 z) (zs_wrt h_σ (fun _ => rfl) (fun _ => rfl)) (fun σ_3 hσ_3 => ?_)
  refine zs_gd (zs_gin (zs_addI 6 179 (zs_mulI 6 174 zlI_6 h_x1 (by decide)) h_x3 (by decide)) (by decide)) ?_
  refine zs_lt (Q := fun z => zs_M0 σ0 z) (zs_wrt hσ_3 (fun _ => rfl) (fun _ => rfl)) (fun σ_6 hσ_6 => ?_)
  refine zs_ite (fun c1 => ?_) (fun c1 => ?_)
  · skip
    have r2 := (zs_I_eq c1)
    exact (zs_botr r2 h_t0 zlI_0 (by decide)).elim
  · skip
    have r3 := (zs_I_eqn c1)
    obtain ⟨ret, er, hr⟩ := zA_47 hσ_6 h_x1 h_x3 h_t0 (zs_addI 6 179 (zs_mulI 6 174 zlI_6 h_x1 (by decide)) h_x3 (by decide)) zlI_0 hc
    refine ⟨ret, er, ?_⟩
    exact (zs_sumw hr (fun v w => ⟨w.1, w.2⟩) (fun v w => w.elim))
-- BX9_goMinute_192
theorem zA_49 {σ0 : sn_S} {σ : sn_S} (h_σ : zs_M0 σ0 σ) {x1 : Int32} (h_x1 : zs_in x1.toInt 1 29) {x2 : Int32} {x3 : Int32} (h_x3 : zs_in x3.toInt 0 5) {x7 : Int32} (h_x7 : zs_in x7.toInt 0 0) {t1 : Int32} (h_t1 : zs_in t1.toInt 6 179) {t2 : Int32} (h_t2 : zs_in t2.toInt 0 2147483647) {c : Int} (hc : x3.toInt = c + 0) : zs_ok (BX9_goMinute_192 σ x1 x2 x3 x7 t1 t2) (fun r => zs_sum (fun v => ((zs_M0 σ0 v.1 ∧ zs_in (v.2).toInt 1 6)) ∧ v.2.toInt = c + 1) (fun v => False) r) := by
  unfold BX9_goMinute_192
  obtain rfl : x7 = (0 : Int32) := zs_eqv h_x7 (by decide)
  refine zs_gd (zs_gin h_t1 (by decide)) ?_
  refine zs_lt (Q := fun z => zs_M0 σ0 z) (zs_wrt h_σ (fun _ => rfl) (fun _ => rfl)) (fun σ_2 hσ_2 => ?_)
  refine zs_ite (fun c1 => ?_) (fun c1 => ?_)
  · skip
    have r2 := (zs_I_eq c1)
    obtain ⟨ret, er, hr⟩ := zA_43 hσ_2 h_x1 h_x3 hc
    refine ⟨ret, er, ?_⟩
    exact (zs_sumw hr (fun v w => ⟨w.1, w.2⟩) (fun v w => w.elim))
  · skip
    have r3 := (zs_I_eqn c1)
    exact (zs_botne r3 h_x7 zlI_0 (by decide)).elim
-- BX9_goMinute_145
theorem zA_50 {σ0 : sn_S} {σ : sn_S} (h_σ : zs_M0 σ0 σ) {x1 : Int32} (h_x1 : zs_in x1.toInt 1 29) {x2 : Int32} {x3 : Int32} (h_x3 : zs_in x3.toInt 0 5) {x4 : Int32} {x5 : Int32} {x6 : Int32} (h_x6 : zs_in x6.toInt 0 2147483647) {t0 : Int32} (h_t0 : zs_in t0.toInt 0 0) {c : Int} (hc : x3.toInt = c + 0) : zs_ok (BX9_goMinute_145 σ x1 x2 x3 x4 x5 x6 t0) (fun r => zs_sum (fun v => ((zs_M0 σ0 v.1 ∧ zs_in (v.2).toInt 1 6)) ∧ v.2.toInt = c + 1) (fun v => False) r) := by
  unfold BX9_goMinute_145
  obtain rfl : t0 = (0 : Int32) := zs_eqv h_t0 (by decide)
  refine zs_gd (zs_gin h_x3 (by decide)) ?_
  refine zs_gd (zs_gin h_x3 (by decide)) ?_
  refine zs_lt (Q := fun z => zs_M0 σ0 z) (zs_wrt h_σ (fun _ => rfl) (fun _ => rfl)) (fun σ_3 hσ_3 => ?_)
  refine zs_gd (zs_gin (zs_addI 6 179 (zs_mulI 6 174 zlI_6 h_x1 (by decide)) h_x3 (by decide)) (by decide)) ?_
  refine zs_lt (Q := fun z => zs_M0 σ0 z) (zs_wrt hσ_3 (fun _ => rfl) (fun _ => rfl)) (fun σ_6 hσ_6 => ?_)
  refine zs_ite (fun c1 => ?_) (fun c1 => ?_)
  · skip
    have r2 := (zs_I_eq c1)
    obtain ⟨ret, er, hr⟩ := zA_49 hσ_6 h_x1 h_x3 h_t0 (zs_addI 6 179 (zs_mulI 6 174 zlI_6 h_x1 (by decide)) h_x3 (by decide)) h_x6 hc
    refine ⟨ret, er, ?_⟩
    exact (zs_sumw hr (fun v w => ⟨w.1, w.2⟩) (fun v w => w.elim))
  · skip
    have r3 := (zs_I_eqn c1)
    exact (zs_botne r3 h_t0 zlI_0 (by decide)).elim
-- BX9_goMinute_144
theorem zA_51 {σ0 : sn_S} {σ : sn_S} (h_σ : zs_M0 σ0 σ) {x1 : Int32} (h_x1 : zs_in x1.toInt 1 29) {x2 : Int32} {x3 : Int32} (h_x3 : zs_in x3.toInt 0 5) {x4 : Int32} {x5 : Int32} {x6 : Int32} (h_x6 : zs_in x6.toInt 0 2147483647) {c : Int} (hc : x3.toInt = c + 0) : zs_ok (BX9_goMinute_144 σ x1 x2 x3 x4 x5 x6) (fun r => zs_sum (fun v => ((zs_M0 σ0 v.1 ∧ zs_in (v.2).toInt 1 6)) ∧ v.2.toInt = c + 1) (fun v => False) r) := by
  unfold BX9_goMinute_144
  obtain ⟨ret, er, hr⟩ := zA_50 h_σ h_x1 h_x3 h_x6 zlI_0 hc
  refine ⟨ret, er, ?_⟩
  exact (zs_sumw hr (fun v w => ⟨w.1, w.2⟩) (fun v w => w.elim))
-- BX9_goMinute_104
theorem zA_52 {σ0 : sn_S} {σ : sn_S} (h_σ : zs_M0 σ0 σ) {x1 : Int32} (h_x1 : zs_in x1.toInt 1 29) {x2 : Int32} {x3 : Int32} (h_x3 : zs_in x3.toInt 0 5) {x4 : Int32} {x5 : Int32} {t0 : Int32} {c : Int} (hc : x3.toInt = c + 0) : zs_ok (BX9_goMinute_104 σ x1 x2 x3 x4 x5 t0) (fun r => zs_sum (fun v => ((zs_M0 σ0 v.1 ∧ zs_in (v.2).toInt 1 6)) ∧ v.2.toInt = c + 1) (fun v => False) r) := by
  unfold BX9_goMinute_104
  refine zs_lt (Q := fun z => True) trivial (fun y_1 hy_1 => ?_)
  refine zs_gd (zs_gin (zs_addI 12 22 (zs_addI 11 21 zlI_11 (zs_mulI 0 10 zlI_2 h_x3 (by decide)) (by decide)) zlI_1 (by decide)) (by decide)) ?_
  refine zs_ite (fun c1 => ?_) (fun c1 => ?_)
  · skip
    have r2 := (zs_I_lt c1)
    have g3 : zs_in (y_1).toInt (-2147483648) 98 := (zs_ltl (-2147483648) 98 r2 (zs_topI _) (zs_rdb (q := 1) (lo := 0) (hi := 99) h_σ.1 (zs_cases h_x3 (fun z => zs_bd (zs_tM 1 (((11 : Int32) + ((2 : Int32) * z)) + (1 : Int32)).toNatClampNeg) 0 99) (by decide +kernel))) (by decide))
    obtain ⟨ret, er, hr⟩ := zA_46 h_σ h_x1 h_x3 g3 hc
    refine ⟨ret, er, ?_⟩
    exact (zs_sumw hr (fun v w => ⟨w.1, w.2⟩) (fun v w => w.elim))
  · skip
    have r4 := (zs_I_ltn c1)
    have g5 : zs_in (y_1).toInt 0 2147483647 := (zs_ler 0 2147483647 r4 (zs_rdb (q := 1) (lo := 0) (hi := 99) h_σ.1 (zs_cases h_x3 (fun z => zs_bd (zs_tM 1 (((11 : Int32) + ((2 : Int32) * z)) + (1 : Int32)).toNatClampNeg) 0 99) (by decide +kernel))) (zs_topI _) (by decide))
    refine zs_gd (zs_gin h_x3 (by decide)) ?_
    refine zs_bd_ (zA_42 h_x1) (fun t_6 pt_6 => ?_)
    refine zs_ite (fun c6 => ?_) (fun c6 => ?_)
    · skip
      have r7 := (zs_I_eq c6)
      have g8 : zs_in (t_6).toInt 0 0 := (zs_eql 0 0 r7 pt_6 zlI_0 (by decide))
      obtain ⟨ret, er, hr⟩ := zA_48 h_σ h_x1 h_x3 g5 zlI_1 hc
      refine ⟨ret, er, ?_⟩
      exact (zs_sumw hr (fun v w => ⟨w.1, w.2⟩) (fun v w => w.elim))
    · skip
      have r9 := (zs_I_eqn c6)
      have g10 : zs_in (t_6).toInt 1 1 := (zs_nel 1 1 r9 pt_6 zlI_0 (by decide))
      obtain ⟨ret, er, hr⟩ := zA_51 h_σ h_x1 h_x3 g5 hc
      refine ⟨ret, er, ?_⟩
      exact (zs_sumw hr (fun v w => ⟨w.1, w.2⟩) (fun v w => w.elim))
-- BX9_goMinute_26
theorem zA_53 {σ0 : sn_S} {σ : sn_S} (h_σ : zs_M0 σ0 σ) {x1 : Int32} (h_x1 : zs_in x1.toInt 1 29) {x2 : Int32} {x3 : Int32} (h_x3 : zs_in x3.toInt 0 6) {c : Int} (hc : x3.toInt = c + 0) : zs_ok (BX9_goMinute_26 σ x1 x2 x3) (fun r => zs_sum (fun v => ((zs_M0 σ0 v.1 ∧ zs_in (v.2).toInt 1 6)) ∧ v.2.toInt = c + 1) (fun v => zs_M0 σ0 v) r) := by
  unfold BX9_goMinute_26
  refine zs_gd (zs_gin zlI_5 (by decide)) ?_
  refine zs_ite (fun c1 => ?_) (fun c1 => ?_)
  · skip
    have r2 := (zs_I_le c1)
    exact zs_some (zs_inr (h_σ))
  · skip
    have r3 := (zs_I_len c1)
    have g4 : zs_in (x3).toInt 0 5 := (zs_ltl 0 5 r3 h_x3 (zs_rdk (q := 1) (k := (5 : Int32).toNatClampNeg) (z := (0, 6)) h_σ.1 rfl) (by decide))
    have g5 : zs_in ((sn_I σ 1 (5 : Int32).toNatClampNeg)).toInt 1 6 := (zs_ltr 1 6 r3 h_x3 (zs_rdk (q := 1) (k := (5 : Int32).toNatClampNeg) (z := (0, 6)) h_σ.1 rfl) (by decide))
    refine zs_bd_ (zA_41 h_σ g4) (fun t_3 pt_3 => ?_)
    refine zs_lt (Q := fun z => True) trivial (fun y_5 hy_5 => ?_)
    refine zs_gd (zs_gin (zs_addI 11 21 zlI_11 (zs_mulI 0 10 zlI_2 g4 (by decide)) (by decide)) (by decide)) ?_
    refine zs_gd (zs_gin h_x1 (by decide)) ?_
    refine zs_gd (zs_gin g4 (by decide)) ?_
    refine zs_bd_ (zA_42 h_x1) (fun t_10 pt_10 => ?_)
    refine zs_lt (Q := fun z => True) trivial (fun y_12 hy_12 => ?_)
    refine zs_ite (fun c6 => ?_) (fun c6 => ?_)
    · skip
      have r7 := (zs_I_eq c6)
      exact (zs_botr r7 h_x1 zlI_0 (by decide)).elim
    · skip
      have r8 := (zs_I_eqn c6)
      refine zs_gd (zs_gin (zs_addI 0 173 (zs_mulI 0 168 zlI_6 (zs_subI 0 28 h_x1 zlI_1 (by decide)) (by decide)) g4 (by decide)) (by decide)) ?_
      obtain ⟨ret, er, hr⟩ := zA_52 h_σ h_x1 g4 hc
      refine ⟨ret, er, ?_⟩
      exact (zs_sumw hr (fun v w => ⟨w.1, w.2⟩) (fun v w => w.elim))
theorem zB_9 {σ0 : sn_S} {x1 : Int32} (h_x1 : zs_in x1.toInt 1 29) {x2 : Int32} {s0 : (sn_S × Int32)} (h0 : (zs_M0 σ0 s0.1 ∧ zs_in (s0.2).toInt 0 6)) : zs_ok (sn_it (LX9_goMinute_26 x1 x2) 5000 s0) (fun t => zs_M0 σ0 t) := by
  refine zs_it (I := fun s => (zs_M0 σ0 s.1 ∧ zs_in (s.2).toInt 0 6)) (m := fun s => 6 - s.2.toInt) (fun s hs => ?_) (fun s hs => ?_) (by exact h0)
  · have h1 := hs.2; unfold zs_in at h1
    omega
  · obtain ⟨b, eb, hb⟩ := zA_53 hs.1 h_x1 hs.2 (c := s.2.toInt) (Int.add_zero _).symm
    exact ⟨b, eb, zs_sumw hb (fun v w => ⟨⟨w.1.1, (zs_w w.1.2 (by decide))⟩, by have := w.2; omega⟩) (fun v w => w)⟩
-- BX9_goMinute_23
theorem zA_54 {σ0 : sn_S} {σ : sn_S} (h_σ : zs_M0 σ0 σ) {x1 : Int32} (h_x1 : zs_in x1.toInt 1 29) {t0 : Int32} : zs_ok (BX9_goMinute_23 σ x1 t0) (fun r => zs_M0 σ0 r) := by
  unfold BX9_goMinute_23
  refine zs_bd_ (zB_9 h_x1 (s0 := (σ, (0 : Int32))) ⟨h_σ, (zs_w zlI_0 (by decide))⟩) (fun t_1 pt_1 => ?_)
  obtain ⟨ret, er, hr⟩ := zA_34 pt_1
  refine ⟨ret, er, ?_⟩
  exact hr
-- fX9_goMinute
theorem zA_55 {σ0 : sn_S} {σ : sn_S} (h_σ : zs_M0 σ0 σ) {x1 : Int32} (h_x1 : zs_in x1.toInt 0 29) : zs_ok (fX9_goMinute σ x1) (fun r => zs_M0 σ0 r) := by
  unfold fX9_goMinute
  refine zs_gd (zs_gin h_x1 (by decide)) ?_
  refine zs_lt (Q := fun z => zs_M0 σ0 z) (zs_wrt h_σ (fun _ => rfl) (fun _ => rfl)) (fun σ_2 hσ_2 => ?_)
  refine zs_ite (fun c1 => ?_) (fun c1 => ?_)
  · skip
    have r2 := (zs_I_eq c1)
    have g3 : zs_in (x1).toInt 0 0 := (zs_eql 0 0 r2 h_x1 zlI_0 (by decide))
    obtain ⟨ret, er, hr⟩ := zA_35 hσ_2 g3 zlI_0
    refine ⟨ret, er, ?_⟩
    exact hr
  · skip
    have r4 := (zs_I_eqn c1)
    have g5 : zs_in (x1).toInt 1 29 := (zs_nel 1 29 r4 h_x1 zlI_0 (by decide))
    refine zs_gd (zs_gin (zs_subI 0 28 g5 zlI_1 (by decide)) (by decide)) ?_
    obtain ⟨ret, er, hr⟩ := zA_54 hσ_2 g5
    refine ⟨ret, er, ?_⟩
    exact hr
-- BX9_goAll_30
theorem zA_56 {σ0 : sn_S} {σ : sn_S} (h_σ : zs_M0 σ0 σ) {x1 : Int32} (h_x1 : zs_in x1.toInt 0 30) {c : Int} (hc : x1.toInt = c + 0) : zs_ok (BX9_goAll_30 σ x1) (fun r => zs_sum (fun v => ((zs_M0 σ0 v.1 ∧ zs_in (v.2).toInt 1 30)) ∧ v.2.toInt = c + 1) (fun v => zs_M0 σ0 v) r) := by
  unfold BX9_goAll_30
  refine zs_ite (fun c1 => ?_) (fun c1 => ?_)
  · skip
    have r2 := (zs_I_lt c1)
    exact zs_some (zs_inr (h_σ))
  · skip
    have r3 := (zs_I_ltn c1)
    have g4 : zs_in (x1).toInt 0 29 := (zs_lel 0 29 r3 h_x1 (zs_rdk (q := 0) (k := 22) (z := ((-1), 29)) h_σ.1 rfl) (by decide))
    have g5 : zs_in ((sn_I σ 0 22)).toInt 0 29 := (zs_ler 0 29 r3 h_x1 (zs_rdk (q := 0) (k := 22) (z := ((-1), 29)) h_σ.1 rfl) (by decide))
    refine zs_bd_ (zA_55 h_σ g4) (fun t_2 pt_2 => ?_)
    refine zs_lt (Q := fun z => zs_in z.toInt 1 30 ∧ z.toInt = c + 1) ⟨(zs_addI 1 30 g4 zlI_1 (by decide)), (zs_syI 1 hc g4 zlI_1 (by decide) (by decide))⟩ (fun y_4 hy_4 => ?_)
    exact zs_some (zs_inl ⟨⟨pt_2, hy_4.1⟩, hy_4.2⟩)
theorem zB_10 {σ0 : sn_S}  {s0 : (sn_S × Int32)} (h0 : (zs_M0 σ0 s0.1 ∧ zs_in (s0.2).toInt 0 30)) : zs_ok (sn_it (LX9_goAll_30) 5000 s0) (fun t => zs_M0 σ0 t) := by
  refine zs_it (I := fun s => (zs_M0 σ0 s.1 ∧ zs_in (s.2).toInt 0 30)) (m := fun s => 30 - s.2.toInt) (fun s hs => ?_) (fun s hs => ?_) (by exact h0)
  · have h1 := hs.2; unfold zs_in at h1
    omega
  · obtain ⟨b, eb, hb⟩ := zA_56 hs.1 hs.2 (c := s.2.toInt) (Int.add_zero _).symm
    exact ⟨b, eb, zs_sumw hb (fun v w => ⟨⟨w.1.1, (zs_w w.1.2 (by decide))⟩, by have := w.2; omega⟩) (fun v w => w)⟩
-- BX9_goAll_49
theorem zA_57 {σ0 : sn_S} {σ : sn_S} (h_σ : zs_M0 σ0 σ) : zs_ok (BX9_goAll_49 σ) (fun r => zs_M0 σ0 r) := by
  unfold BX9_goAll_49
  exact zs_some h_σ
-- BX9_goAll_28
theorem zA_58 {σ0 : sn_S} {σ : sn_S} (h_σ : zs_M0 σ0 σ) : zs_ok (BX9_goAll_28 σ) (fun r => zs_M0 σ0 r) := by
  unfold BX9_goAll_28
  refine zs_bd_ (zB_10  (s0 := (σ, (0 : Int32))) ⟨h_σ, (zs_w zlI_0 (by decide))⟩) (fun t_1 pt_1 => ?_)
  obtain ⟨ret, er, hr⟩ := zA_57 pt_1
  refine ⟨ret, er, ?_⟩
  exact hr
-- fX9_goAll
theorem zA_59 {σ0 : sn_S} {σ : sn_S} (h_σ : zs_M0 σ0 σ) : zs_ok (fX9_goAll σ) (fun r => zs_M0 σ0 r) := by
  unfold fX9_goAll
  refine zs_bd_ (zB_5  (s0 := (σ, (0 : Int32))) ⟨h_σ, (zs_w zlI_0 (by decide))⟩) (fun t_1 pt_1 => ?_)
  obtain ⟨ret, er, hr⟩ := zA_58 pt_1
  refine ⟨ret, er, ?_⟩
  exact hr
-- fX9_isHouse
theorem zA_60 {σ0 : sn_S} {σ : sn_S} (h_σ : zs_M0 σ0 σ) : zs_ok (fX9_isHouse σ) (fun r => zs_in (r).toInt 0 1) := by
  unfold fX9_isHouse
  refine zs_gd (zs_gin zlI_10 (by decide)) ?_
  refine zs_ite (fun c1 => ?_) (fun c1 => ?_)
  · skip
    have r2 := (zs_I_le c1)
    have g3 : zs_in ((sn_I σ 1 (10 : Int32).toNatClampNeg)).toInt 0 0 := (zs_lel 0 0 r2 (zs_rdk (q := 1) (k := (10 : Int32).toNatClampNeg) (z := (0, 900)) h_σ.1 rfl) zlI_0 (by decide))
    refine zs_gd (zs_b01 zlI_0 (by decide)) ?_
    exact zs_some (zs_w zlI_0 (by decide))
  · skip
    have r4 := (zs_I_len c1)
    have g5 : zs_in ((sn_I σ 1 (10 : Int32).toNatClampNeg)).toInt 1 900 := (zs_ltr 1 900 r4 zlI_0 (zs_rdk (q := 1) (k := (10 : Int32).toNatClampNeg) (z := (0, 900)) h_σ.1 rfl) (by decide))
    refine zs_gd (zs_b01 zlI_1 (by decide)) ?_
    exact zs_some (zs_w zlI_1 (by decide))
-- fX9_asksHouse
theorem zA_61 {σ0 : sn_S} {σ : sn_S} (h_σ : zs_M0 σ0 σ) : zs_ok (fX9_asksHouse σ) (fun r => (zs_in (r.1).toInt 0 1 ∧ zs_M0 σ0 r.2)) := by
  unfold fX9_asksHouse
  refine zs_bd_ (zA_13 h_σ) (fun t_1 pt_1 => ?_)
  refine zs_bd_ (zA_59 pt_1) (fun t_3 pt_3 => ?_)
  refine zs_bd_ (zA_60 pt_3) (fun t_5 pt_5 => ?_)
  refine zs_gd (zs_b01 pt_5 (by decide)) ?_
  exact zs_some ⟨pt_5, pt_3⟩
-- BX9_quietBy_103
theorem zA_62 {σ0 : sn_S} {σ : sn_S} (h_σ : zs_M0 σ0 σ) {x1 : Int32} (h_x1 : zs_in x1.toInt 11 21) {x3 : Int32} (h_x3 : zs_in x3.toInt 0 0) {x4 : Int32} (h_x4 : zs_in x4.toInt 0 5) {x5 : Int32} (h_x5 : zs_in x5.toInt 0 99) {x6 : Int32} (h_x6 : zs_in x6.toInt (-1) (-1)) {x7 : Int32} (h_x7 : zs_in x7.toInt (-1) (-1)) {x8 : Int32} (h_x8 : zs_in x8.toInt 0 9) {t0 : Int32} (h_t0 : zs_in t0.toInt 0 9) {c : Int} (hc : x8.toInt = c + 0) : zs_ok (BX9_quietBy_103 σ x1 x3 x4 x5 x6 x7 x8 t0) (fun r => zs_sum (fun v => ((zs_M0 σ0 v.1 ∧ (zs_in (v.2.1).toInt 0 9 ∧ zs_in (v.2.2).toInt (-1) 8))) ∧ v.2.2.toInt = c + (-1)) (fun v => False) r) := by
  unfold BX9_quietBy_103
  obtain rfl : x3 = (0 : Int32) := zs_eqv h_x3 (by decide)
  obtain rfl : x6 = (-1 : Int32) := zs_eqv h_x6 (by decide)
  obtain rfl : x7 = (-1 : Int32) := zs_eqv h_x7 (by decide)
  refine zs_lt (Q := fun z => zs_in z.toInt (-1) 8 ∧ z.toInt = c + (-1)) ⟨(zs_addI (-1) 8 h_x8 h_x7 (by decide)), (zs_syI (-1) hc h_x8 zlI_m1 (by decide) (by decide))⟩ (fun y_1 hy_1 => ?_)
  exact zs_some (zs_inl ⟨⟨h_σ, ⟨h_t0, hy_1.1⟩⟩, hy_1.2⟩)
-- BX9_quietBy_90
theorem zA_63 {σ0 : sn_S} {σ : sn_S} (h_σ : zs_M0 σ0 σ) {x1 : Int32} (h_x1 : zs_in x1.toInt 11 21) {x3 : Int32} (h_x3 : zs_in x3.toInt 0 0) {x4 : Int32} (h_x4 : zs_in x4.toInt 0 5) {x5 : Int32} (h_x5 : zs_in x5.toInt 0 99) {x6 : Int32} (h_x6 : zs_in x6.toInt (-1) (-1)) {x7 : Int32} (h_x7 : zs_in x7.toInt (-1) (-1)) {x8 : Int32} (h_x8 : zs_in x8.toInt 0 9) {t0 : Int32} (h_t0 : zs_in t0.toInt 1 1) {c : Int} (hc : x8.toInt = c + 0) : zs_ok (BX9_quietBy_90 σ x1 x3 x4 x5 x6 x7 x8 t0) (fun r => zs_sum (fun v => ((zs_M0 σ0 v.1 ∧ (zs_in (v.2.1).toInt 0 9 ∧ zs_in (v.2.2).toInt (-1) 8))) ∧ v.2.2.toInt = c + (-1)) (fun v => False) r) := by
  unfold BX9_quietBy_90
  obtain rfl : x3 = (0 : Int32) := zs_eqv h_x3 (by decide)
  obtain rfl : x6 = (-1 : Int32) := zs_eqv h_x6 (by decide)
  obtain rfl : x7 = (-1 : Int32) := zs_eqv h_x7 (by decide)
  obtain rfl : t0 = (1 : Int32) := zs_eqv h_t0 (by decide)
  refine zs_ite (fun c1 => ?_) (fun c1 => ?_)
  · skip
    have r2 := (zs_I_eq c1)
    exact (zs_botr r2 h_t0 zlI_0 (by decide)).elim
  · skip
    have r3 := (zs_I_eqn c1)
    obtain ⟨ret, er, hr⟩ := zA_62 h_σ h_x1 h_x3 h_x4 h_x5 h_x6 h_x7 h_x8 h_x8 hc
    refine ⟨ret, er, ?_⟩
    exact (zs_sumw hr (fun v w => ⟨w.1, w.2⟩) (fun v w => w.elim))
-- BX9_quietBy_103
theorem zA_64 {σ0 : sn_S} {σ : sn_S} (h_σ : zs_M0 σ0 σ) {x1 : Int32} (h_x1 : zs_in x1.toInt 11 21) {x3 : Int32} (h_x3 : zs_in x3.toInt 0 0) {x4 : Int32} (h_x4 : zs_in x4.toInt 0 5) {x5 : Int32} (h_x5 : zs_in x5.toInt 0 99) {x6 : Int32} (h_x6 : zs_in x6.toInt (-1) (-1)) {x7 : Int32} (h_x7 : zs_in x7.toInt (-1) (-1)) {x8 : Int32} (h_x8 : zs_in x8.toInt 0 9) {t0 : Int32} (h_t0 : zs_in t0.toInt (-1) (-1)) {c : Int} (hc : x8.toInt = c + 0) : zs_ok (BX9_quietBy_103 σ x1 x3 x4 x5 x6 x7 x8 t0) (fun r => zs_sum (fun v => ((zs_M0 σ0 v.1 ∧ (zs_in (v.2.1).toInt (-1) (-1) ∧ zs_in (v.2.2).toInt (-1) 8))) ∧ v.2.2.toInt = c + (-1)) (fun v => False) r) := by
  unfold BX9_quietBy_103
  obtain rfl : x3 = (0 : Int32) := zs_eqv h_x3 (by decide)
  obtain rfl : x6 = (-1 : Int32) := zs_eqv h_x6 (by decide)
  obtain rfl : x7 = (-1 : Int32) := zs_eqv h_x7 (by decide)
  obtain rfl : t0 = (-1 : Int32) := zs_eqv h_t0 (by decide)
  refine zs_lt (Q := fun z => zs_in z.toInt (-1) 8 ∧ z.toInt = c + (-1)) ⟨(zs_addI (-1) 8 h_x8 h_x7 (by decide)), (zs_syI (-1) hc h_x8 zlI_m1 (by decide) (by decide))⟩ (fun y_1 hy_1 => ?_)
  exact zs_some (zs_inl ⟨⟨h_σ, ⟨h_t0, hy_1.1⟩⟩, hy_1.2⟩)
-- BX9_quietBy_90
theorem zA_65 {σ0 : sn_S} {σ : sn_S} (h_σ : zs_M0 σ0 σ) {x1 : Int32} (h_x1 : zs_in x1.toInt 11 21) {x3 : Int32} (h_x3 : zs_in x3.toInt 0 0) {x4 : Int32} (h_x4 : zs_in x4.toInt 0 5) {x5 : Int32} (h_x5 : zs_in x5.toInt 0 99) {x6 : Int32} (h_x6 : zs_in x6.toInt (-1) (-1)) {x7 : Int32} (h_x7 : zs_in x7.toInt (-1) (-1)) {x8 : Int32} (h_x8 : zs_in x8.toInt 0 9) {t0 : Int32} (h_t0 : zs_in t0.toInt 0 0) {c : Int} (hc : x8.toInt = c + 0) : zs_ok (BX9_quietBy_90 σ x1 x3 x4 x5 x6 x7 x8 t0) (fun r => zs_sum (fun v => ((zs_M0 σ0 v.1 ∧ (zs_in (v.2.1).toInt (-1) (-1) ∧ zs_in (v.2.2).toInt (-1) 8))) ∧ v.2.2.toInt = c + (-1)) (fun v => False) r) := by
  unfold BX9_quietBy_90
  obtain rfl : x3 = (0 : Int32) := zs_eqv h_x3 (by decide)
  obtain rfl : x6 = (-1 : Int32) := zs_eqv h_x6 (by decide)
  obtain rfl : x7 = (-1 : Int32) := zs_eqv h_x7 (by decide)
  obtain rfl : t0 = (0 : Int32) := zs_eqv h_t0 (by decide)
  refine zs_ite (fun c1 => ?_) (fun c1 => ?_)
  · skip
    have r2 := (zs_I_eq c1)
    obtain ⟨ret, er, hr⟩ := zA_64 h_σ h_x1 h_x3 h_x4 h_x5 h_x6 h_x7 h_x8 zlI_m1 hc
    refine ⟨ret, er, ?_⟩
    exact (zs_sumw hr (fun v w => ⟨w.1, w.2⟩) (fun v w => w.elim))
  · skip
    have r3 := (zs_I_eqn c1)
    exact (zs_botne r3 h_t0 zlI_0 (by decide)).elim
-- BX9_quietBy_26
theorem zA_66 {σ0 : sn_S} {σ : sn_S} (h_σ : zs_M0 σ0 σ) {x1 : Int32} (h_x1 : zs_in x1.toInt 11 21) {x3 : Int32} (h_x3 : zs_in x3.toInt 0 0) {x4 : Int32} (h_x4 : zs_in x4.toInt 0 5) {x5 : Int32} (h_x5 : zs_in x5.toInt 0 99) {x6 : Int32} (h_x6 : zs_in x6.toInt (-1) 9) {x7 : Int32} (h_x7 : zs_in x7.toInt (-1) (-1)) {x8 : Int32} (h_x8 : zs_in x8.toInt (-1) 9) {c : Int} (hc : x8.toInt = c + 0) : zs_ok (BX9_quietBy_26 σ x1 x3 x4 x5 x6 x7 x8) (fun r => zs_sum (fun v => ((zs_M0 σ0 v.1 ∧ (zs_in (v.2.1).toInt (-1) 9 ∧ zs_in (v.2.2).toInt (-1) 8))) ∧ v.2.2.toInt = c + (-1)) (fun v => (zs_M0 σ0 v.1 ∧ zs_in (v.2).toInt (-1) 9)) r) := by
  unfold BX9_quietBy_26
  obtain rfl : x3 = (0 : Int32) := zs_eqv h_x3 (by decide)
  obtain rfl : x7 = (-1 : Int32) := zs_eqv h_x7 (by decide)
  refine zs_ite (fun c1 => ?_) (fun c1 => ?_)
  · skip
    have r2 := (zs_I_eq c1)
    have g3 : zs_in (x8).toInt (-1) (-1) := (zs_eql (-1) (-1) r2 h_x8 (zs_addI (-1) (-1) h_x3 h_x7 (by decide)) (by decide))
    exact zs_some (zs_inr (⟨h_σ, h_x6⟩))
  · skip
    have r4 := (zs_I_eqn c1)
    have g5 : zs_in (x8).toInt 0 9 := (zs_nel 0 9 r4 h_x8 (zs_addI (-1) (-1) h_x3 h_x7 (by decide)) (by decide))
    refine zs_ite (fun c6 => ?_) (fun c6 => ?_)
    · skip
      have r7 := (zs_I_eq c6)
      have g8 : zs_in (x6).toInt (-1) (-1) := (zs_eql (-1) (-1) r7 h_x6 zlI_m1 (by decide))
      refine zs_gd (zs_gin h_x1 (by decide)) ?_
      refine zs_lt (Q := fun z => zs_M0 σ0 z) (zs_wrb h_σ g5 (zs_range h_x1 (fun k => zs_wb (zs_tM 1 k) 0 9 ∧ zs_fr zs_tM zs_kM0 1 k = false) (by decide +kernel))) (fun σ_4 hσ_4 => ?_)
      refine zs_bd_ (zA_61 hσ_4) (fun t_6 pt_6 => ?_)
      refine zs_ite (fun c9 => ?_) (fun c9 => ?_)
      · skip
        have r10 := (zs_I_eq c9)
        exact (zs_botr r10 h_x4 zlI_m1 (by decide)).elim
      · skip
        have r11 := (zs_I_eqn c9)
        refine zs_gd (zs_gin h_x4 (by decide)) ?_
        refine zs_ite (fun c12 => ?_) (fun c12 => ?_)
        · skip
          have r13 := (zs_I_eq c12)
          have g14 : zs_in ((sn_I t_6.2 10 x4.toNatClampNeg)).toInt 0 0 := (zs_eql 0 0 r13 (zs_rdu (q := 10) (z := (0, 1073741823)) pt_6.2.1 (fun _ => rfl)) zlI_0 (by decide))
          obtain ⟨ret, er, hr⟩ := zA_63 pt_6.2 h_x1 h_x3 h_x4 h_x5 g8 h_x7 g5 zlI_1 hc
          refine ⟨ret, er, ?_⟩
          exact (zs_sumw hr (fun v w => ⟨⟨w.1.1, ⟨(zs_w w.1.2.1 (by decide)), w.1.2.2⟩⟩, w.2⟩) (fun v w => w.elim))
        · skip
          have r15 := (zs_I_eqn c12)
          have g16 : zs_in ((sn_I t_6.2 10 x4.toNatClampNeg)).toInt 1 1073741823 := (zs_nel 1 1073741823 r15 (zs_rdu (q := 10) (z := (0, 1073741823)) pt_6.2.1 (fun _ => rfl)) zlI_0 (by decide))
          obtain ⟨ret, er, hr⟩ := zA_65 pt_6.2 h_x1 h_x3 h_x4 h_x5 g8 h_x7 g5 zlI_0 hc
          refine ⟨ret, er, ?_⟩
          exact (zs_sumw hr (fun v w => ⟨⟨w.1.1, ⟨(zs_w w.1.2.1 (by decide)), w.1.2.2⟩⟩, w.2⟩) (fun v w => w.elim))
    · skip
      have r17 := (zs_I_eqn c6)
      have g18 : zs_in (x6).toInt 0 9 := (zs_nel 0 9 r17 h_x6 zlI_m1 (by decide))
      exact zs_some (zs_inr (⟨h_σ, (zs_w g18 (by decide))⟩))
theorem zB_11 {σ0 : sn_S} {x1 : Int32} (h_x1 : zs_in x1.toInt 11 21) {x3 : Int32} (h_x3 : zs_in x3.toInt 0 0) {x4 : Int32} (h_x4 : zs_in x4.toInt 0 5) {x5 : Int32} (h_x5 : zs_in x5.toInt 0 99) {x7 : Int32} (h_x7 : zs_in x7.toInt (-1) (-1)) {s0 : (sn_S × (Int32 × Int32))} (h0 : (zs_M0 σ0 s0.1 ∧ (zs_in (s0.2.1).toInt (-1) 9 ∧ zs_in (s0.2.2).toInt (-1) 9))) : zs_ok (sn_it (LX9_quietBy_26 x1 x3 x4 x5 x7) 5000 s0) (fun t => (zs_M0 σ0 t.1 ∧ zs_in (t.2).toInt (-1) 9)) := by
  refine zs_it (I := fun s => (zs_M0 σ0 s.1 ∧ (zs_in (s.2.1).toInt (-1) 9 ∧ zs_in (s.2.2).toInt (-1) 9))) (m := fun s => s.2.2.toInt - (-1)) (fun s hs => ?_) (fun s hs => ?_) (by exact h0)
  · have h1 := hs.2.2; unfold zs_in at h1
    omega
  · obtain ⟨b, eb, hb⟩ := zA_66 hs.1 h_x1 h_x3 h_x4 h_x5 hs.2.1 h_x7 hs.2.2 (c := s.2.2.toInt) (Int.add_zero _).symm
    exact ⟨b, eb, zs_sumw hb (fun v w => ⟨⟨w.1.1, ⟨w.1.2.1, (zs_w w.1.2.2 (by decide))⟩⟩, by have := w.2; omega⟩) (fun v w => w)⟩
-- BX9_quietBy_115
theorem zA_67 {σ0 : sn_S} {σ : sn_S} (h_σ : zs_M0 σ0 σ) {x1 : Int32} (h_x1 : zs_in x1.toInt 11 21) {x5 : Int32} (h_x5 : zs_in x5.toInt 0 99) {x6 : Int32} (h_x6 : zs_in x6.toInt (-1) 9) : zs_ok (BX9_quietBy_115 σ x1 x5 x6) (fun r => (zs_in (r.1).toInt (-1) 9 ∧ zs_M0 σ0 r.2)) := by
  unfold BX9_quietBy_115
  refine zs_gd (zs_gin h_x1 (by decide)) ?_
  refine zs_lt (Q := fun z => zs_M0 σ0 z) (zs_wrb h_σ h_x5 (zs_range h_x1 (fun k => zs_wb (zs_tM 1 k) 0 99 ∧ zs_fr zs_tM zs_kM0 1 k = false) (by decide +kernel))) (fun σ_2 hσ_2 => ?_)
  exact zs_some ⟨h_x6, hσ_2⟩
-- BX9_quietBy_21
theorem zA_68 {σ0 : sn_S} {σ : sn_S} (h_σ : zs_M0 σ0 σ) {x1 : Int32} (h_x1 : zs_in x1.toInt 11 21) {x2 : Int32} (h_x2 : zs_in x2.toInt 9 9) {x3 : Int32} (h_x3 : zs_in x3.toInt 0 0) {x4 : Int32} (h_x4 : zs_in x4.toInt 0 5) {x5 : Int32} (h_x5 : zs_in x5.toInt 0 99) {x6 : Int32} (h_x6 : zs_in x6.toInt (-1) (-1)) {t0 : Int32} (h_t0 : zs_in t0.toInt (-1) (-1)) : zs_ok (BX9_quietBy_21 σ x1 x2 x3 x4 x5 x6 t0) (fun r => (zs_in (r.1).toInt (-1) 9 ∧ zs_M0 σ0 r.2)) := by
  unfold BX9_quietBy_21
  obtain rfl : x2 = (9 : Int32) := zs_eqv h_x2 (by decide)
  obtain rfl : x3 = (0 : Int32) := zs_eqv h_x3 (by decide)
  obtain rfl : x6 = (-1 : Int32) := zs_eqv h_x6 (by decide)
  obtain rfl : t0 = (-1 : Int32) := zs_eqv h_t0 (by decide)
  refine zs_bd_ (zB_11 h_x1 h_x3 h_x4 h_x5 h_t0 (s0 := (σ, ((-1 : Int32), (9 : Int32)))) ⟨h_σ, ⟨(zs_w h_x6 (by decide)), (zs_w h_x2 (by decide))⟩⟩) (fun t_1 pt_1 => ?_)
  obtain ⟨ret, er, hr⟩ := zA_67 pt_1.1 h_x1 h_x5 pt_1.2
  refine ⟨ret, er, ?_⟩
  exact hr
-- fX9_quietBy
theorem zA_69 {σ0 : sn_S} {σ : sn_S} (h_σ : zs_M0 σ0 σ) {x1 : Int32} (h_x1 : zs_in x1.toInt 11 21) {x2 : Int32} (h_x2 : zs_in x2.toInt 9 9) {x3 : Int32} (h_x3 : zs_in x3.toInt 0 0) {x4 : Int32} (h_x4 : zs_in x4.toInt 0 5) : zs_ok (fX9_quietBy σ x1 x2 x3 x4) (fun r => (zs_in (r.1).toInt (-1) 9 ∧ zs_M0 σ0 r.2)) := by
  unfold fX9_quietBy
  obtain rfl : x2 = (9 : Int32) := zs_eqv h_x2 (by decide)
  obtain rfl : x3 = (0 : Int32) := zs_eqv h_x3 (by decide)
  refine zs_gd (zs_gin h_x1 (by decide)) ?_
  refine zs_lt (Q := fun z => zs_in z.toInt 0 99) (zs_rdb (q := 1) (lo := 0) (hi := 99) h_σ.1 (zs_range h_x1 (fun k => zs_bd (zs_tM 1 k) 0 99) (by decide +kernel))) (fun y_2 hy_2 => ?_)
  refine zs_ite (fun c1 => ?_) (fun c1 => ?_)
  · skip
    have r2 := (zs_I_le c1)
    exact (zs_botle r2 h_x2 h_x3 (by decide)).elim
  · skip
    have r3 := (zs_I_len c1)
    obtain ⟨ret, er, hr⟩ := zA_68 h_σ h_x1 h_x2 h_x3 h_x4 hy_2 zlI_m1 zlI_m1
    refine ⟨ret, er, ?_⟩
    exact hr
-- fX9_dull
theorem zA_70 {σ0 : sn_S} {σ : sn_S} (h_σ : zs_M0 σ0 σ) {x1 : Int32} : zs_ok (fX9_dull σ x1) (fun r => ((zs_in (r.1).toInt (-2) 9 ∧ zs_M0 σ0 r.2)) ∧ ((r.1).toInt = (-2) ∨ (zs_in (x1).toInt 0 5))) := by
  unfold fX9_dull
  refine zs_bd_ (zA_2 h_σ (zs_64 (zs_topI _))) (fun t_1 pt_1 => ?_)
  refine zs_ite (fun c1 => ?_) (fun c1 => ?_)
  · skip
    have r2 := (zs_I_eq c1)
    have g3 : zs_in (t_1).toInt 0 0 := (zs_eql 0 0 r2 pt_1.1 zlI_0 (by decide))
    exact zs_some ⟨⟨(zs_w zlI_m2 (by decide)), h_σ⟩, Or.inl (zs_ptr zlI_m2)⟩
  · skip
    have r4 := (zs_I_eqn c1)
    have g5 : zs_in (t_1).toInt 1 1 := (zs_nel 1 1 r4 pt_1.1 zlI_0 (by decide))
    have q6 := (zs_or2 pt_1.2 g5 (by decide))
    have g7 : zs_in (x1.toInt64).toInt 0 5 := q6
    have g8 : zs_in (x1).toInt 0 5 := (zs_64r g7)
    refine zs_bd_ (zA_69 h_σ (zs_addI 11 21 zlI_11 (zs_mulI 0 10 zlI_2 g8 (by decide)) (by decide)) zlI_9 zlI_0 g8) (fun t_4 pt_4 => ?_)
    exact zs_some ⟨⟨(zs_w pt_4.1 (by decide)), pt_4.2⟩, Or.inr g8⟩
-- BX9_quietBy_103
theorem zA_71 {σ0 : sn_S} {σ : sn_S} (h_σ : zs_M0 σ0 σ) {x1 : Int32} (h_x1 : zs_in x1.toInt 12 22) {x3 : Int32} (h_x3 : zs_in x3.toInt 99 99) {x4 : Int32} (h_x4 : zs_in x4.toInt 0 5) {x5 : Int32} (h_x5 : zs_in x5.toInt 0 99) {x6 : Int32} (h_x6 : zs_in x6.toInt (-1) (-1)) {x7 : Int32} (h_x7 : zs_in x7.toInt 1 1) {x8 : Int32} (h_x8 : zs_in x8.toInt 1 99) {t0 : Int32} (h_t0 : zs_in t0.toInt 1 99) {c : Int} (hc : x8.toInt = c + 0) : zs_ok (BX9_quietBy_103 σ x1 x3 x4 x5 x6 x7 x8 t0) (fun r => zs_sum (fun v => ((zs_M0 σ0 v.1 ∧ (zs_in (v.2.1).toInt 1 99 ∧ zs_in (v.2.2).toInt 2 100))) ∧ v.2.2.toInt = c + 1) (fun v => False) r) := by
  unfold BX9_quietBy_103
  obtain rfl : x3 = (99 : Int32) := zs_eqv h_x3 (by decide)
  obtain rfl : x6 = (-1 : Int32) := zs_eqv h_x6 (by decide)
  obtain rfl : x7 = (1 : Int32) := zs_eqv h_x7 (by decide)
  refine zs_lt (Q := fun z => zs_in z.toInt 2 100 ∧ z.toInt = c + 1) ⟨(zs_addI 2 100 h_x8 h_x7 (by decide)), (zs_syI 1 hc h_x8 zlI_1 (by decide) (by decide))⟩ (fun y_1 hy_1 => ?_)
  exact zs_some (zs_inl ⟨⟨h_σ, ⟨h_t0, hy_1.1⟩⟩, hy_1.2⟩)
-- BX9_quietBy_90
theorem zA_72 {σ0 : sn_S} {σ : sn_S} (h_σ : zs_M0 σ0 σ) {x1 : Int32} (h_x1 : zs_in x1.toInt 12 22) {x3 : Int32} (h_x3 : zs_in x3.toInt 99 99) {x4 : Int32} (h_x4 : zs_in x4.toInt 0 5) {x5 : Int32} (h_x5 : zs_in x5.toInt 0 99) {x6 : Int32} (h_x6 : zs_in x6.toInt (-1) (-1)) {x7 : Int32} (h_x7 : zs_in x7.toInt 1 1) {x8 : Int32} (h_x8 : zs_in x8.toInt 1 99) {t0 : Int32} (h_t0 : zs_in t0.toInt 1 1) {c : Int} (hc : x8.toInt = c + 0) : zs_ok (BX9_quietBy_90 σ x1 x3 x4 x5 x6 x7 x8 t0) (fun r => zs_sum (fun v => ((zs_M0 σ0 v.1 ∧ (zs_in (v.2.1).toInt 1 99 ∧ zs_in (v.2.2).toInt 2 100))) ∧ v.2.2.toInt = c + 1) (fun v => False) r) := by
  unfold BX9_quietBy_90
  obtain rfl : x3 = (99 : Int32) := zs_eqv h_x3 (by decide)
  obtain rfl : x6 = (-1 : Int32) := zs_eqv h_x6 (by decide)
  obtain rfl : x7 = (1 : Int32) := zs_eqv h_x7 (by decide)
  obtain rfl : t0 = (1 : Int32) := zs_eqv h_t0 (by decide)
  refine zs_ite (fun c1 => ?_) (fun c1 => ?_)
  · skip
    have r2 := (zs_I_eq c1)
    exact (zs_botr r2 h_t0 zlI_0 (by decide)).elim
  · skip
    have r3 := (zs_I_eqn c1)
    obtain ⟨ret, er, hr⟩ := zA_71 h_σ h_x1 h_x3 h_x4 h_x5 h_x6 h_x7 h_x8 h_x8 hc
    refine ⟨ret, er, ?_⟩
    exact (zs_sumw hr (fun v w => ⟨w.1, w.2⟩) (fun v w => w.elim))
-- BX9_quietBy_103
theorem zA_73 {σ0 : sn_S} {σ : sn_S} (h_σ : zs_M0 σ0 σ) {x1 : Int32} (h_x1 : zs_in x1.toInt 12 22) {x3 : Int32} (h_x3 : zs_in x3.toInt 99 99) {x4 : Int32} (h_x4 : zs_in x4.toInt 0 5) {x5 : Int32} (h_x5 : zs_in x5.toInt 0 99) {x6 : Int32} (h_x6 : zs_in x6.toInt (-1) (-1)) {x7 : Int32} (h_x7 : zs_in x7.toInt 1 1) {x8 : Int32} (h_x8 : zs_in x8.toInt 1 99) {t0 : Int32} (h_t0 : zs_in t0.toInt (-1) (-1)) {c : Int} (hc : x8.toInt = c + 0) : zs_ok (BX9_quietBy_103 σ x1 x3 x4 x5 x6 x7 x8 t0) (fun r => zs_sum (fun v => ((zs_M0 σ0 v.1 ∧ (zs_in (v.2.1).toInt (-1) (-1) ∧ zs_in (v.2.2).toInt 2 100))) ∧ v.2.2.toInt = c + 1) (fun v => False) r) := by
  unfold BX9_quietBy_103
  obtain rfl : x3 = (99 : Int32) := zs_eqv h_x3 (by decide)
  obtain rfl : x6 = (-1 : Int32) := zs_eqv h_x6 (by decide)
  obtain rfl : x7 = (1 : Int32) := zs_eqv h_x7 (by decide)
  obtain rfl : t0 = (-1 : Int32) := zs_eqv h_t0 (by decide)
  refine zs_lt (Q := fun z => zs_in z.toInt 2 100 ∧ z.toInt = c + 1) ⟨(zs_addI 2 100 h_x8 h_x7 (by decide)), (zs_syI 1 hc h_x8 zlI_1 (by decide) (by decide))⟩ (fun y_1 hy_1 => ?_)
  exact zs_some (zs_inl ⟨⟨h_σ, ⟨h_t0, hy_1.1⟩⟩, hy_1.2⟩)
-- BX9_quietBy_90
theorem zA_74 {σ0 : sn_S} {σ : sn_S} (h_σ : zs_M0 σ0 σ) {x1 : Int32} (h_x1 : zs_in x1.toInt 12 22) {x3 : Int32} (h_x3 : zs_in x3.toInt 99 99) {x4 : Int32} (h_x4 : zs_in x4.toInt 0 5) {x5 : Int32} (h_x5 : zs_in x5.toInt 0 99) {x6 : Int32} (h_x6 : zs_in x6.toInt (-1) (-1)) {x7 : Int32} (h_x7 : zs_in x7.toInt 1 1) {x8 : Int32} (h_x8 : zs_in x8.toInt 1 99) {t0 : Int32} (h_t0 : zs_in t0.toInt 0 0) {c : Int} (hc : x8.toInt = c + 0) : zs_ok (BX9_quietBy_90 σ x1 x3 x4 x5 x6 x7 x8 t0) (fun r => zs_sum (fun v => ((zs_M0 σ0 v.1 ∧ (zs_in (v.2.1).toInt (-1) (-1) ∧ zs_in (v.2.2).toInt 2 100))) ∧ v.2.2.toInt = c + 1) (fun v => False) r) := by
  unfold BX9_quietBy_90
  obtain rfl : x3 = (99 : Int32) := zs_eqv h_x3 (by decide)
  obtain rfl : x6 = (-1 : Int32) := zs_eqv h_x6 (by decide)
  obtain rfl : x7 = (1 : Int32) := zs_eqv h_x7 (by decide)
  obtain rfl : t0 = (0 : Int32) := zs_eqv h_t0 (by decide)
  refine zs_ite (fun c1 => ?_) (fun c1 => ?_)
  · skip
    have r2 := (zs_I_eq c1)
    obtain ⟨ret, er, hr⟩ := zA_73 h_σ h_x1 h_x3 h_x4 h_x5 h_x6 h_x7 h_x8 zlI_m1 hc
    refine ⟨ret, er, ?_⟩
    exact (zs_sumw hr (fun v w => ⟨w.1, w.2⟩) (fun v w => w.elim))
  · skip
    have r3 := (zs_I_eqn c1)
    exact (zs_botne r3 h_t0 zlI_0 (by decide)).elim
-- BX9_quietBy_26
theorem zA_75 {σ0 : sn_S} {σ : sn_S} (h_σ : zs_M0 σ0 σ) {x1 : Int32} (h_x1 : zs_in x1.toInt 12 22) {x3 : Int32} (h_x3 : zs_in x3.toInt 99 99) {x4 : Int32} (h_x4 : zs_in x4.toInt 0 5) {x5 : Int32} (h_x5 : zs_in x5.toInt 0 99) {x6 : Int32} (h_x6 : zs_in x6.toInt (-1) 99) {x7 : Int32} (h_x7 : zs_in x7.toInt 1 1) {x8 : Int32} (h_x8 : zs_in x8.toInt 1 100) {c : Int} (hc : x8.toInt = c + 0) : zs_ok (BX9_quietBy_26 σ x1 x3 x4 x5 x6 x7 x8) (fun r => zs_sum (fun v => ((zs_M0 σ0 v.1 ∧ (zs_in (v.2.1).toInt (-1) 99 ∧ zs_in (v.2.2).toInt 2 100))) ∧ v.2.2.toInt = c + 1) (fun v => (zs_M0 σ0 v.1 ∧ zs_in (v.2).toInt (-1) 99)) r) := by
  unfold BX9_quietBy_26
  obtain rfl : x3 = (99 : Int32) := zs_eqv h_x3 (by decide)
  obtain rfl : x7 = (1 : Int32) := zs_eqv h_x7 (by decide)
  refine zs_ite (fun c1 => ?_) (fun c1 => ?_)
  · skip
    have r2 := (zs_I_eq c1)
    have g3 : zs_in (x8).toInt 100 100 := (zs_eql 100 100 r2 h_x8 (zs_addI 100 100 h_x3 h_x7 (by decide)) (by decide))
    exact zs_some (zs_inr (⟨h_σ, h_x6⟩))
  · skip
    have r4 := (zs_I_eqn c1)
    have g5 : zs_in (x8).toInt 1 99 := (zs_neh 1 99 r4 h_x8 (zs_addI 100 100 h_x3 h_x7 (by decide)) (by decide))
    refine zs_ite (fun c6 => ?_) (fun c6 => ?_)
    · skip
      have r7 := (zs_I_eq c6)
      have g8 : zs_in (x6).toInt (-1) (-1) := (zs_eql (-1) (-1) r7 h_x6 zlI_m1 (by decide))
      refine zs_gd (zs_gin h_x1 (by decide)) ?_
      refine zs_lt (Q := fun z => zs_M0 σ0 z) (zs_wrb h_σ g5 (zs_range h_x1 (fun k => zs_wb (zs_tM 1 k) 1 99 ∧ zs_fr zs_tM zs_kM0 1 k = false) (by decide +kernel))) (fun σ_4 hσ_4 => ?_)
      refine zs_bd_ (zA_61 hσ_4) (fun t_6 pt_6 => ?_)
      refine zs_ite (fun c9 => ?_) (fun c9 => ?_)
      · skip
        have r10 := (zs_I_eq c9)
        exact (zs_botr r10 h_x4 zlI_m1 (by decide)).elim
      · skip
        have r11 := (zs_I_eqn c9)
        refine zs_gd (zs_gin h_x4 (by decide)) ?_
        refine zs_ite (fun c12 => ?_) (fun c12 => ?_)
        · skip
          have r13 := (zs_I_eq c12)
          have g14 : zs_in ((sn_I t_6.2 10 x4.toNatClampNeg)).toInt 0 0 := (zs_eql 0 0 r13 (zs_rdu (q := 10) (z := (0, 1073741823)) pt_6.2.1 (fun _ => rfl)) zlI_0 (by decide))
          obtain ⟨ret, er, hr⟩ := zA_72 pt_6.2 h_x1 h_x3 h_x4 h_x5 g8 h_x7 g5 zlI_1 hc
          refine ⟨ret, er, ?_⟩
          exact (zs_sumw hr (fun v w => ⟨⟨w.1.1, ⟨(zs_w w.1.2.1 (by decide)), w.1.2.2⟩⟩, w.2⟩) (fun v w => w.elim))
        · skip
          have r15 := (zs_I_eqn c12)
          have g16 : zs_in ((sn_I t_6.2 10 x4.toNatClampNeg)).toInt 1 1073741823 := (zs_nel 1 1073741823 r15 (zs_rdu (q := 10) (z := (0, 1073741823)) pt_6.2.1 (fun _ => rfl)) zlI_0 (by decide))
          obtain ⟨ret, er, hr⟩ := zA_74 pt_6.2 h_x1 h_x3 h_x4 h_x5 g8 h_x7 g5 zlI_0 hc
          refine ⟨ret, er, ?_⟩
          exact (zs_sumw hr (fun v w => ⟨⟨w.1.1, ⟨(zs_w w.1.2.1 (by decide)), w.1.2.2⟩⟩, w.2⟩) (fun v w => w.elim))
    · skip
      have r17 := (zs_I_eqn c6)
      have g18 : zs_in (x6).toInt 0 99 := (zs_nel 0 99 r17 h_x6 zlI_m1 (by decide))
      exact zs_some (zs_inr (⟨h_σ, (zs_w g18 (by decide))⟩))
theorem zB_12 {σ0 : sn_S} {x1 : Int32} (h_x1 : zs_in x1.toInt 12 22) {x3 : Int32} (h_x3 : zs_in x3.toInt 99 99) {x4 : Int32} (h_x4 : zs_in x4.toInt 0 5) {x5 : Int32} (h_x5 : zs_in x5.toInt 0 99) {x7 : Int32} (h_x7 : zs_in x7.toInt 1 1) {s0 : (sn_S × (Int32 × Int32))} (h0 : (zs_M0 σ0 s0.1 ∧ (zs_in (s0.2.1).toInt (-1) 99 ∧ zs_in (s0.2.2).toInt 1 100))) : zs_ok (sn_it (LX9_quietBy_26 x1 x3 x4 x5 x7) 5000 s0) (fun t => (zs_M0 σ0 t.1 ∧ zs_in (t.2).toInt (-1) 99)) := by
  refine zs_it (I := fun s => (zs_M0 σ0 s.1 ∧ (zs_in (s.2.1).toInt (-1) 99 ∧ zs_in (s.2.2).toInt 1 100))) (m := fun s => 100 - s.2.2.toInt) (fun s hs => ?_) (fun s hs => ?_) (by exact h0)
  · have h1 := hs.2.2; unfold zs_in at h1
    omega
  · obtain ⟨b, eb, hb⟩ := zA_75 hs.1 h_x1 h_x3 h_x4 h_x5 hs.2.1 h_x7 hs.2.2 (c := s.2.2.toInt) (Int.add_zero _).symm
    exact ⟨b, eb, zs_sumw hb (fun v w => ⟨⟨w.1.1, ⟨w.1.2.1, (zs_w w.1.2.2 (by decide))⟩⟩, by have := w.2; omega⟩) (fun v w => w)⟩
-- BX9_quietBy_115
theorem zA_76 {σ0 : sn_S} {σ : sn_S} (h_σ : zs_M0 σ0 σ) {x1 : Int32} (h_x1 : zs_in x1.toInt 12 22) {x5 : Int32} (h_x5 : zs_in x5.toInt 0 99) {x6 : Int32} (h_x6 : zs_in x6.toInt (-1) 99) : zs_ok (BX9_quietBy_115 σ x1 x5 x6) (fun r => (zs_in (r.1).toInt (-1) 99 ∧ zs_M0 σ0 r.2)) := by
  unfold BX9_quietBy_115
  refine zs_gd (zs_gin h_x1 (by decide)) ?_
  refine zs_lt (Q := fun z => zs_M0 σ0 z) (zs_wrb h_σ h_x5 (zs_range h_x1 (fun k => zs_wb (zs_tM 1 k) 0 99 ∧ zs_fr zs_tM zs_kM0 1 k = false) (by decide +kernel))) (fun σ_2 hσ_2 => ?_)
  exact zs_some ⟨h_x6, hσ_2⟩
-- BX9_quietBy_21
theorem zA_77 {σ0 : sn_S} {σ : sn_S} (h_σ : zs_M0 σ0 σ) {x1 : Int32} (h_x1 : zs_in x1.toInt 12 22) {x2 : Int32} (h_x2 : zs_in x2.toInt 1 1) {x3 : Int32} (h_x3 : zs_in x3.toInt 99 99) {x4 : Int32} (h_x4 : zs_in x4.toInt 0 5) {x5 : Int32} (h_x5 : zs_in x5.toInt 0 99) {x6 : Int32} (h_x6 : zs_in x6.toInt (-1) (-1)) {t0 : Int32} (h_t0 : zs_in t0.toInt 1 1) : zs_ok (BX9_quietBy_21 σ x1 x2 x3 x4 x5 x6 t0) (fun r => (zs_in (r.1).toInt (-1) 99 ∧ zs_M0 σ0 r.2)) := by
  unfold BX9_quietBy_21
  obtain rfl : x2 = (1 : Int32) := zs_eqv h_x2 (by decide)
  obtain rfl : x3 = (99 : Int32) := zs_eqv h_x3 (by decide)
  obtain rfl : x6 = (-1 : Int32) := zs_eqv h_x6 (by decide)
  obtain rfl : t0 = (1 : Int32) := zs_eqv h_t0 (by decide)
  refine zs_bd_ (zB_12 h_x1 h_x3 h_x4 h_x5 h_t0 (s0 := (σ, ((-1 : Int32), (1 : Int32)))) ⟨h_σ, ⟨(zs_w h_x6 (by decide)), (zs_w h_x2 (by decide))⟩⟩) (fun t_1 pt_1 => ?_)
  obtain ⟨ret, er, hr⟩ := zA_76 pt_1.1 h_x1 h_x5 pt_1.2
  refine ⟨ret, er, ?_⟩
  exact hr
-- fX9_quietBy
theorem zA_78 {σ0 : sn_S} {σ : sn_S} (h_σ : zs_M0 σ0 σ) {x1 : Int32} (h_x1 : zs_in x1.toInt 12 22) {x2 : Int32} (h_x2 : zs_in x2.toInt 1 1) {x3 : Int32} (h_x3 : zs_in x3.toInt 99 99) {x4 : Int32} (h_x4 : zs_in x4.toInt 0 5) : zs_ok (fX9_quietBy σ x1 x2 x3 x4) (fun r => (zs_in (r.1).toInt (-1) 99 ∧ zs_M0 σ0 r.2)) := by
  unfold fX9_quietBy
  obtain rfl : x2 = (1 : Int32) := zs_eqv h_x2 (by decide)
  obtain rfl : x3 = (99 : Int32) := zs_eqv h_x3 (by decide)
  refine zs_gd (zs_gin h_x1 (by decide)) ?_
  refine zs_lt (Q := fun z => zs_in z.toInt 0 99) (zs_rdb (q := 1) (lo := 0) (hi := 99) h_σ.1 (zs_range h_x1 (fun k => zs_bd (zs_tM 1 k) 0 99) (by decide +kernel))) (fun y_2 hy_2 => ?_)
  refine zs_ite (fun c1 => ?_) (fun c1 => ?_)
  · skip
    have r2 := (zs_I_le c1)
    obtain ⟨ret, er, hr⟩ := zA_77 h_σ h_x1 h_x2 h_x3 h_x4 hy_2 zlI_m1 zlI_1
    refine ⟨ret, er, ?_⟩
    exact hr
  · skip
    have r3 := (zs_I_len c1)
    exact (zs_botlt r3 h_x3 h_x2 (by decide)).elim
-- fX9_bears
theorem zA_79 {σ0 : sn_S} {σ : sn_S} (h_σ : zs_M0 σ0 σ) {x1 : Int32} : zs_ok (fX9_bears σ x1) (fun r => ((zs_in (r.1).toInt (-2) 99 ∧ zs_M0 σ0 r.2)) ∧ ((r.1).toInt = (-2) ∨ (zs_in (x1).toInt 0 5))) := by
  unfold fX9_bears
  refine zs_bd_ (zA_2 h_σ (zs_64 (zs_topI _))) (fun t_1 pt_1 => ?_)
  refine zs_ite (fun c1 => ?_) (fun c1 => ?_)
  · skip
    have r2 := (zs_I_eq c1)
    have g3 : zs_in (t_1).toInt 0 0 := (zs_eql 0 0 r2 pt_1.1 zlI_0 (by decide))
    exact zs_some ⟨⟨(zs_w zlI_m2 (by decide)), h_σ⟩, Or.inl (zs_ptr zlI_m2)⟩
  · skip
    have r4 := (zs_I_eqn c1)
    have g5 : zs_in (t_1).toInt 1 1 := (zs_nel 1 1 r4 pt_1.1 zlI_0 (by decide))
    have q6 := (zs_or2 pt_1.2 g5 (by decide))
    have g7 : zs_in (x1.toInt64).toInt 0 5 := q6
    have g8 : zs_in (x1).toInt 0 5 := (zs_64r g7)
    refine zs_bd_ (zA_78 h_σ (zs_addI 12 22 (zs_addI 11 21 zlI_11 (zs_mulI 0 10 zlI_2 g8 (by decide)) (by decide)) zlI_1 (by decide)) zlI_1 zlI_99 g8) (fun t_4 pt_4 => ?_)
    exact zs_some ⟨⟨(zs_w pt_4.1 (by decide)), pt_4.2⟩, Or.inr g8⟩
-- BX9_bits_4
theorem zA_80 {x0 : Int32} (h_x0 : zs_in x0.toInt 0 1073741823) {x1 : Int32} {x2 : Int32} (h_x2 : zs_in x2.toInt 0 30) {c : Int} (hc : x2.toInt = c + 0) : zs_ok (BX9_bits_4 x0 x1 x2) (fun r => zs_sum (fun v => ((True ∧ zs_in (v.2).toInt 1 30)) ∧ v.2.toInt = c + 1) (fun v => True) r) := by
  unfold BX9_bits_4
  refine zs_ite (fun c1 => ?_) (fun c1 => ?_)
  · skip
    have r2 := (zs_I_le c1)
    have g3 : zs_in (x2).toInt 30 30 := (zs_ler 30 30 r2 zlI_30 h_x2 (by decide))
    exact zs_some (zs_inr (trivial))
  · skip
    have r4 := (zs_I_len c1)
    have g5 : zs_in (x2).toInt 0 29 := (zs_ltl 0 29 r4 h_x2 zlI_30 (by decide))
    refine zs_lt (Q := fun z => True) trivial (fun y_2 hy_2 => ?_)
    refine zs_lt (Q := fun z => zs_in z.toInt 1 30 ∧ z.toInt = c + 1) ⟨(zs_addI 1 30 g5 zlI_1 (by decide)), (zs_syI 1 hc g5 zlI_1 (by decide) (by decide))⟩ (fun y_4 hy_4 => ?_)
    exact zs_some (zs_inl ⟨⟨trivial, hy_4.1⟩, hy_4.2⟩)
theorem zB_13 {x0 : Int32} (h_x0 : zs_in x0.toInt 0 1073741823) {s0 : (Int32 × Int32)} (h0 : (True ∧ zs_in (s0.2).toInt 0 30)) : zs_ok (sn_it (LX9_bits_4 x0) 5000 s0) (fun t => True) := by
  refine zs_it (I := fun s => (True ∧ zs_in (s.2).toInt 0 30)) (m := fun s => 30 - s.2.toInt) (fun s hs => ?_) (fun s hs => ?_) (by exact h0)
  · have h1 := hs.2; unfold zs_in at h1
    omega
  · obtain ⟨b, eb, hb⟩ := zA_80 h_x0 hs.2 (c := s.2.toInt) (Int.add_zero _).symm
    exact ⟨b, eb, zs_sumw hb (fun v w => ⟨⟨w.1.1, (zs_w w.1.2 (by decide))⟩, by have := w.2; omega⟩) (fun v w => w)⟩
-- BX9_bits_24
theorem zA_81 {x1 : Int32} : zs_ok (BX9_bits_24 x1) (fun r => True) := by
  unfold BX9_bits_24
  exact zs_some trivial
-- fX9_bits
theorem zA_82 {x0 : Int32} (h_x0 : zs_in x0.toInt 0 1073741823) : zs_ok (fX9_bits x0) (fun r => True) := by
  unfold fX9_bits
  refine zs_bd_ (zB_13 h_x0 (s0 := ((0 : Int32), (0 : Int32))) ⟨trivial, (zs_w zlI_0 (by decide))⟩) (fun t_1 pt_1 => ?_)
  obtain ⟨ret, er, hr⟩ := zA_81
  refine ⟨ret, er, ?_⟩
  exact hr
-- BX9_allSneezes_4
theorem zA_83 {σ0 : sn_S} {σ : sn_S} (h_σ : zs_M0 σ0 σ) {x1 : Int32} {x2 : Int32} (h_x2 : zs_in x2.toInt 0 6) {c : Int} (hc : x2.toInt = c + 0) : zs_ok (BX9_allSneezes_4 σ x1 x2) (fun r => zs_sum (fun v => ((True ∧ zs_in (v.2).toInt 1 6)) ∧ v.2.toInt = c + 1) (fun v => True) r) := by
  unfold BX9_allSneezes_4
  refine zs_gd (zs_gin zlI_5 (by decide)) ?_
  refine zs_ite (fun c1 => ?_) (fun c1 => ?_)
  · skip
    have r2 := (zs_I_le c1)
    exact zs_some (zs_inr (trivial))
  · skip
    have r3 := (zs_I_len c1)
    have g4 : zs_in (x2).toInt 0 5 := (zs_ltl 0 5 r3 h_x2 (zs_rdk (q := 1) (k := (5 : Int32).toNatClampNeg) (z := (0, 6)) h_σ.1 rfl) (by decide))
    have g5 : zs_in ((sn_I σ 1 (5 : Int32).toNatClampNeg)).toInt 1 6 := (zs_ltr 1 6 r3 h_x2 (zs_rdk (q := 1) (k := (5 : Int32).toNatClampNeg) (z := (0, 6)) h_σ.1 rfl) (by decide))
    refine zs_gd (zs_gin g4 (by decide)) ?_
    refine zs_bd_ (zA_82 (zs_rdu (q := 10) (z := (0, 1073741823)) h_σ.1 (fun _ => rfl))) (fun t_4 pt_4 => ?_)
    refine zs_lt (Q := fun z => True) trivial (fun y_6 hy_6 => ?_)
    refine zs_lt (Q := fun z => zs_in z.toInt 1 6 ∧ z.toInt = c + 1) ⟨(zs_addI 1 6 g4 zlI_1 (by decide)), (zs_syI 1 hc g4 zlI_1 (by decide) (by decide))⟩ (fun y_8 hy_8 => ?_)
    exact zs_some (zs_inl ⟨⟨trivial, hy_8.1⟩, hy_8.2⟩)
theorem zB_14 {σ0 : sn_S} {σ : sn_S} (h_σ : zs_M0 σ0 σ) {s0 : (Int32 × Int32)} (h0 : (True ∧ zs_in (s0.2).toInt 0 6)) : zs_ok (sn_it (LX9_allSneezes_4 σ) 5000 s0) (fun t => True) := by
  refine zs_it (I := fun s => (True ∧ zs_in (s.2).toInt 0 6)) (m := fun s => 6 - s.2.toInt) (fun s hs => ?_) (fun s hs => ?_) (by exact h0)
  · have h1 := hs.2; unfold zs_in at h1
    omega
  · obtain ⟨b, eb, hb⟩ := zA_83 h_σ hs.2 (c := s.2.toInt) (Int.add_zero _).symm
    exact ⟨b, eb, zs_sumw hb (fun v w => ⟨⟨w.1.1, (zs_w w.1.2 (by decide))⟩, by have := w.2; omega⟩) (fun v w => w)⟩
-- BX9_allSneezes_32
theorem zA_84 {σ0 : sn_S} {σ : sn_S} (h_σ : zs_M0 σ0 σ) {x1 : Int32} : zs_ok (BX9_allSneezes_32 σ x1) (fun r => True) := by
  unfold BX9_allSneezes_32
  exact zs_some trivial
-- fX9_allSneezes
theorem zA_85 {σ0 : sn_S} {σ : sn_S} (h_σ : zs_M0 σ0 σ) : zs_ok (fX9_allSneezes σ) (fun r => True) := by
  unfold fX9_allSneezes
  refine zs_bd_ (zB_14 h_σ (s0 := ((0 : Int32), (0 : Int32))) ⟨trivial, (zs_w zlI_0 (by decide))⟩) (fun t_1 pt_1 => ?_)
  obtain ⟨ret, er, hr⟩ := zA_84 h_σ
  refine ⟨ret, er, ?_⟩
  exact hr
-- BX9_quietBy_103
theorem zA_86 {σ0 : sn_S} {σ : sn_S} (h_σ : zs_M0 σ0 σ) {x1 : Int32} (h_x1 : zs_in x1.toInt 1 1) {x3 : Int32} (h_x3 : zs_in x3.toInt 0 0) {x4 : Int32} (h_x4 : zs_in x4.toInt (-1) (-1)) {x5 : Int32} (h_x5 : zs_in x5.toInt 0 9) {x6 : Int32} (h_x6 : zs_in x6.toInt (-1) (-1)) {x7 : Int32} (h_x7 : zs_in x7.toInt (-1) (-1)) {x8 : Int32} (h_x8 : zs_in x8.toInt 0 9) {t0 : Int32} (h_t0 : zs_in t0.toInt 0 9) {c : Int} (hc : x8.toInt = c + 0) : zs_ok (BX9_quietBy_103 σ x1 x3 x4 x5 x6 x7 x8 t0) (fun r => zs_sum (fun v => ((zs_M0 σ0 v.1 ∧ (zs_in (v.2.1).toInt 0 9 ∧ zs_in (v.2.2).toInt (-1) 8))) ∧ v.2.2.toInt = c + (-1)) (fun v => False) r) := by
  unfold BX9_quietBy_103
  obtain rfl : x1 = (1 : Int32) := zs_eqv h_x1 (by decide)
  obtain rfl : x3 = (0 : Int32) := zs_eqv h_x3 (by decide)
  obtain rfl : x4 = (-1 : Int32) := zs_eqv h_x4 (by decide)
  obtain rfl : x6 = (-1 : Int32) := zs_eqv h_x6 (by decide)
  obtain rfl : x7 = (-1 : Int32) := zs_eqv h_x7 (by decide)
  refine zs_lt (Q := fun z => zs_in z.toInt (-1) 8 ∧ z.toInt = c + (-1)) ⟨(zs_addI (-1) 8 h_x8 h_x7 (by decide)), (zs_syI (-1) hc h_x8 zlI_m1 (by decide) (by decide))⟩ (fun y_1 hy_1 => ?_)
  exact zs_some (zs_inl ⟨⟨h_σ, ⟨h_t0, hy_1.1⟩⟩, hy_1.2⟩)
-- BX9_quietBy_90
theorem zA_87 {σ0 : sn_S} {σ : sn_S} (h_σ : zs_M0 σ0 σ) {x1 : Int32} (h_x1 : zs_in x1.toInt 1 1) {x3 : Int32} (h_x3 : zs_in x3.toInt 0 0) {x4 : Int32} (h_x4 : zs_in x4.toInt (-1) (-1)) {x5 : Int32} (h_x5 : zs_in x5.toInt 0 9) {x6 : Int32} (h_x6 : zs_in x6.toInt (-1) (-1)) {x7 : Int32} (h_x7 : zs_in x7.toInt (-1) (-1)) {x8 : Int32} (h_x8 : zs_in x8.toInt 0 9) {t0 : Int32} (h_t0 : zs_in t0.toInt 1 1) {c : Int} (hc : x8.toInt = c + 0) : zs_ok (BX9_quietBy_90 σ x1 x3 x4 x5 x6 x7 x8 t0) (fun r => zs_sum (fun v => ((zs_M0 σ0 v.1 ∧ (zs_in (v.2.1).toInt 0 9 ∧ zs_in (v.2.2).toInt (-1) 8))) ∧ v.2.2.toInt = c + (-1)) (fun v => False) r) := by
  unfold BX9_quietBy_90
  obtain rfl : x1 = (1 : Int32) := zs_eqv h_x1 (by decide)
  obtain rfl : x3 = (0 : Int32) := zs_eqv h_x3 (by decide)
  obtain rfl : x4 = (-1 : Int32) := zs_eqv h_x4 (by decide)
  obtain rfl : x6 = (-1 : Int32) := zs_eqv h_x6 (by decide)
  obtain rfl : x7 = (-1 : Int32) := zs_eqv h_x7 (by decide)
  obtain rfl : t0 = (1 : Int32) := zs_eqv h_t0 (by decide)
  refine zs_ite (fun c1 => ?_) (fun c1 => ?_)
  · skip
    have r2 := (zs_I_eq c1)
    exact (zs_botr r2 h_t0 zlI_0 (by decide)).elim
  · skip
    have r3 := (zs_I_eqn c1)
    obtain ⟨ret, er, hr⟩ := zA_86 h_σ h_x1 h_x3 h_x4 h_x5 h_x6 h_x7 h_x8 h_x8 hc
    refine ⟨ret, er, ?_⟩
    exact (zs_sumw hr (fun v w => ⟨w.1, w.2⟩) (fun v w => w.elim))
-- BX9_quietBy_103
theorem zA_88 {σ0 : sn_S} {σ : sn_S} (h_σ : zs_M0 σ0 σ) {x1 : Int32} (h_x1 : zs_in x1.toInt 1 1) {x3 : Int32} (h_x3 : zs_in x3.toInt 0 0) {x4 : Int32} (h_x4 : zs_in x4.toInt (-1) (-1)) {x5 : Int32} (h_x5 : zs_in x5.toInt 0 9) {x6 : Int32} (h_x6 : zs_in x6.toInt (-1) (-1)) {x7 : Int32} (h_x7 : zs_in x7.toInt (-1) (-1)) {x8 : Int32} (h_x8 : zs_in x8.toInt 0 9) {t0 : Int32} (h_t0 : zs_in t0.toInt (-1) (-1)) {c : Int} (hc : x8.toInt = c + 0) : zs_ok (BX9_quietBy_103 σ x1 x3 x4 x5 x6 x7 x8 t0) (fun r => zs_sum (fun v => ((zs_M0 σ0 v.1 ∧ (zs_in (v.2.1).toInt (-1) (-1) ∧ zs_in (v.2.2).toInt (-1) 8))) ∧ v.2.2.toInt = c + (-1)) (fun v => False) r) := by
  unfold BX9_quietBy_103
  obtain rfl : x1 = (1 : Int32) := zs_eqv h_x1 (by decide)
  obtain rfl : x3 = (0 : Int32) := zs_eqv h_x3 (by decide)
  obtain rfl : x4 = (-1 : Int32) := zs_eqv h_x4 (by decide)
  obtain rfl : x6 = (-1 : Int32) := zs_eqv h_x6 (by decide)
  obtain rfl : x7 = (-1 : Int32) := zs_eqv h_x7 (by decide)
  obtain rfl : t0 = (-1 : Int32) := zs_eqv h_t0 (by decide)
  refine zs_lt (Q := fun z => zs_in z.toInt (-1) 8 ∧ z.toInt = c + (-1)) ⟨(zs_addI (-1) 8 h_x8 h_x7 (by decide)), (zs_syI (-1) hc h_x8 zlI_m1 (by decide) (by decide))⟩ (fun y_1 hy_1 => ?_)
  exact zs_some (zs_inl ⟨⟨h_σ, ⟨h_t0, hy_1.1⟩⟩, hy_1.2⟩)
-- BX9_quietBy_90
theorem zA_89 {σ0 : sn_S} {σ : sn_S} (h_σ : zs_M0 σ0 σ) {x1 : Int32} (h_x1 : zs_in x1.toInt 1 1) {x3 : Int32} (h_x3 : zs_in x3.toInt 0 0) {x4 : Int32} (h_x4 : zs_in x4.toInt (-1) (-1)) {x5 : Int32} (h_x5 : zs_in x5.toInt 0 9) {x6 : Int32} (h_x6 : zs_in x6.toInt (-1) (-1)) {x7 : Int32} (h_x7 : zs_in x7.toInt (-1) (-1)) {x8 : Int32} (h_x8 : zs_in x8.toInt 0 9) {t0 : Int32} (h_t0 : zs_in t0.toInt 0 0) {c : Int} (hc : x8.toInt = c + 0) : zs_ok (BX9_quietBy_90 σ x1 x3 x4 x5 x6 x7 x8 t0) (fun r => zs_sum (fun v => ((zs_M0 σ0 v.1 ∧ (zs_in (v.2.1).toInt (-1) (-1) ∧ zs_in (v.2.2).toInt (-1) 8))) ∧ v.2.2.toInt = c + (-1)) (fun v => False) r) := by
  unfold BX9_quietBy_90
  obtain rfl : x1 = (1 : Int32) := zs_eqv h_x1 (by decide)
  obtain rfl : x3 = (0 : Int32) := zs_eqv h_x3 (by decide)
  obtain rfl : x4 = (-1 : Int32) := zs_eqv h_x4 (by decide)
  obtain rfl : x6 = (-1 : Int32) := zs_eqv h_x6 (by decide)
  obtain rfl : x7 = (-1 : Int32) := zs_eqv h_x7 (by decide)
  obtain rfl : t0 = (0 : Int32) := zs_eqv h_t0 (by decide)
  refine zs_ite (fun c1 => ?_) (fun c1 => ?_)
  · skip
    have r2 := (zs_I_eq c1)
    obtain ⟨ret, er, hr⟩ := zA_88 h_σ h_x1 h_x3 h_x4 h_x5 h_x6 h_x7 h_x8 zlI_m1 hc
    refine ⟨ret, er, ?_⟩
    exact (zs_sumw hr (fun v w => ⟨w.1, w.2⟩) (fun v w => w.elim))
  · skip
    have r3 := (zs_I_eqn c1)
    exact (zs_botne r3 h_t0 zlI_0 (by decide)).elim
-- BX9_quietBy_26
theorem zA_90 {σ0 : sn_S} {σ : sn_S} (h_σ : zs_M0 σ0 σ) {x1 : Int32} (h_x1 : zs_in x1.toInt 1 1) {x3 : Int32} (h_x3 : zs_in x3.toInt 0 0) {x4 : Int32} (h_x4 : zs_in x4.toInt (-1) (-1)) {x5 : Int32} (h_x5 : zs_in x5.toInt 0 9) {x6 : Int32} (h_x6 : zs_in x6.toInt (-1) 9) {x7 : Int32} (h_x7 : zs_in x7.toInt (-1) (-1)) {x8 : Int32} (h_x8 : zs_in x8.toInt (-1) 9) {c : Int} (hc : x8.toInt = c + 0) : zs_ok (BX9_quietBy_26 σ x1 x3 x4 x5 x6 x7 x8) (fun r => zs_sum (fun v => ((zs_M0 σ0 v.1 ∧ (zs_in (v.2.1).toInt (-1) 9 ∧ zs_in (v.2.2).toInt (-1) 8))) ∧ v.2.2.toInt = c + (-1)) (fun v => (zs_M0 σ0 v.1 ∧ zs_in (v.2).toInt (-1) 9)) r) := by
  unfold BX9_quietBy_26
  obtain rfl : x1 = (1 : Int32) := zs_eqv h_x1 (by decide)
  obtain rfl : x3 = (0 : Int32) := zs_eqv h_x3 (by decide)
  obtain rfl : x4 = (-1 : Int32) := zs_eqv h_x4 (by decide)
  obtain rfl : x7 = (-1 : Int32) := zs_eqv h_x7 (by decide)
  refine zs_ite (fun c1 => ?_) (fun c1 => ?_)
  · skip
    have r2 := (zs_I_eq c1)
    have g3 : zs_in (x8).toInt (-1) (-1) := (zs_eql (-1) (-1) r2 h_x8 (zs_addI (-1) (-1) h_x3 h_x7 (by decide)) (by decide))
    exact zs_some (zs_inr (⟨h_σ, h_x6⟩))
  · skip
    have r4 := (zs_I_eqn c1)
    have g5 : zs_in (x8).toInt 0 9 := (zs_nel 0 9 r4 h_x8 (zs_addI (-1) (-1) h_x3 h_x7 (by decide)) (by decide))
    refine zs_ite (fun c6 => ?_) (fun c6 => ?_)
    · skip
      have r7 := (zs_I_eq c6)
      have g8 : zs_in (x6).toInt (-1) (-1) := (zs_eql (-1) (-1) r7 h_x6 zlI_m1 (by decide))
      refine zs_gd (zs_gin h_x1 (by decide)) ?_
      refine zs_lt (Q := fun z => zs_M0 σ0 z) (zs_wrb h_σ g5 (zs_range zlI_1 (fun k => zs_wb (zs_tM 1 k) 0 9 ∧ zs_fr zs_tM zs_kM0 1 k = false) (by decide +kernel))) (fun σ_4 hσ_4 => ?_)
      refine zs_bd_ (zA_61 hσ_4) (fun t_6 pt_6 => ?_)
      refine zs_ite (fun c9 => ?_) (fun c9 => ?_)
      · skip
        have r10 := (zs_I_eq c9)
        refine zs_bd_ (zA_85 pt_6.2) (fun t_11 pt_11 => ?_)
        refine zs_ite (fun c11 => ?_) (fun c11 => ?_)
        · skip
          have r12 := (zs_I_eq c11)
          have g13 : zs_in (t_11).toInt 0 0 := (zs_eql 0 0 r12 (zs_topI _) zlI_0 (by decide))
          obtain ⟨ret, er, hr⟩ := zA_87 pt_6.2 h_x1 h_x3 h_x4 h_x5 g8 h_x7 g5 zlI_1 hc
          refine ⟨ret, er, ?_⟩
          exact (zs_sumw hr (fun v w => ⟨⟨w.1.1, ⟨(zs_w w.1.2.1 (by decide)), w.1.2.2⟩⟩, w.2⟩) (fun v w => w.elim))
        · skip
          have r14 := (zs_I_eqn c11)
          obtain ⟨ret, er, hr⟩ := zA_89 pt_6.2 h_x1 h_x3 h_x4 h_x5 g8 h_x7 g5 zlI_0 hc
          refine ⟨ret, er, ?_⟩
          exact (zs_sumw hr (fun v w => ⟨⟨w.1.1, ⟨(zs_w w.1.2.1 (by decide)), w.1.2.2⟩⟩, w.2⟩) (fun v w => w.elim))
      · skip
        have r15 := (zs_I_eqn c9)
        exact (zs_botne r15 h_x4 zlI_m1 (by decide)).elim
    · skip
      have r16 := (zs_I_eqn c6)
      have g17 : zs_in (x6).toInt 0 9 := (zs_nel 0 9 r16 h_x6 zlI_m1 (by decide))
      exact zs_some (zs_inr (⟨h_σ, (zs_w g17 (by decide))⟩))
theorem zB_15 {σ0 : sn_S} {x1 : Int32} (h_x1 : zs_in x1.toInt 1 1) {x3 : Int32} (h_x3 : zs_in x3.toInt 0 0) {x4 : Int32} (h_x4 : zs_in x4.toInt (-1) (-1)) {x5 : Int32} (h_x5 : zs_in x5.toInt 0 9) {x7 : Int32} (h_x7 : zs_in x7.toInt (-1) (-1)) {s0 : (sn_S × (Int32 × Int32))} (h0 : (zs_M0 σ0 s0.1 ∧ (zs_in (s0.2.1).toInt (-1) 9 ∧ zs_in (s0.2.2).toInt (-1) 9))) : zs_ok (sn_it (LX9_quietBy_26 x1 x3 x4 x5 x7) 5000 s0) (fun t => (zs_M0 σ0 t.1 ∧ zs_in (t.2).toInt (-1) 9)) := by
  refine zs_it (I := fun s => (zs_M0 σ0 s.1 ∧ (zs_in (s.2.1).toInt (-1) 9 ∧ zs_in (s.2.2).toInt (-1) 9))) (m := fun s => s.2.2.toInt - (-1)) (fun s hs => ?_) (fun s hs => ?_) (by exact h0)
  · have h1 := hs.2.2; unfold zs_in at h1
    omega
  · obtain ⟨b, eb, hb⟩ := zA_90 hs.1 h_x1 h_x3 h_x4 h_x5 hs.2.1 h_x7 hs.2.2 (c := s.2.2.toInt) (Int.add_zero _).symm
    exact ⟨b, eb, zs_sumw hb (fun v w => ⟨⟨w.1.1, ⟨w.1.2.1, (zs_w w.1.2.2 (by decide))⟩⟩, by have := w.2; omega⟩) (fun v w => w)⟩
-- BX9_quietBy_115
theorem zA_91 {σ0 : sn_S} {σ : sn_S} (h_σ : zs_M0 σ0 σ) {x1 : Int32} (h_x1 : zs_in x1.toInt 1 1) {x5 : Int32} (h_x5 : zs_in x5.toInt 0 9) {x6 : Int32} (h_x6 : zs_in x6.toInt (-1) 9) : zs_ok (BX9_quietBy_115 σ x1 x5 x6) (fun r => (zs_in (r.1).toInt (-1) 9 ∧ zs_M0 σ0 r.2)) := by
  unfold BX9_quietBy_115
  obtain rfl : x1 = (1 : Int32) := zs_eqv h_x1 (by decide)
  refine zs_gd (zs_gin h_x1 (by decide)) ?_
  refine zs_lt (Q := fun z => zs_M0 σ0 z) (zs_wrb h_σ h_x5 (zs_range zlI_1 (fun k => zs_wb (zs_tM 1 k) 0 9 ∧ zs_fr zs_tM zs_kM0 1 k = false) (by decide +kernel))) (fun σ_2 hσ_2 => ?_)
  exact zs_some ⟨h_x6, hσ_2⟩
-- BX9_quietBy_21
theorem zA_92 {σ0 : sn_S} {σ : sn_S} (h_σ : zs_M0 σ0 σ) {x1 : Int32} (h_x1 : zs_in x1.toInt 1 1) {x2 : Int32} (h_x2 : zs_in x2.toInt 9 9) {x3 : Int32} (h_x3 : zs_in x3.toInt 0 0) {x4 : Int32} (h_x4 : zs_in x4.toInt (-1) (-1)) {x5 : Int32} (h_x5 : zs_in x5.toInt 0 9) {x6 : Int32} (h_x6 : zs_in x6.toInt (-1) (-1)) {t0 : Int32} (h_t0 : zs_in t0.toInt (-1) (-1)) : zs_ok (BX9_quietBy_21 σ x1 x2 x3 x4 x5 x6 t0) (fun r => (zs_in (r.1).toInt (-1) 9 ∧ zs_M0 σ0 r.2)) := by
  unfold BX9_quietBy_21
  obtain rfl : x1 = (1 : Int32) := zs_eqv h_x1 (by decide)
  obtain rfl : x2 = (9 : Int32) := zs_eqv h_x2 (by decide)
  obtain rfl : x3 = (0 : Int32) := zs_eqv h_x3 (by decide)
  obtain rfl : x4 = (-1 : Int32) := zs_eqv h_x4 (by decide)
  obtain rfl : x6 = (-1 : Int32) := zs_eqv h_x6 (by decide)
  obtain rfl : t0 = (-1 : Int32) := zs_eqv h_t0 (by decide)
  refine zs_bd_ (zB_15 h_x1 h_x3 h_x4 h_x5 h_t0 (s0 := (σ, ((-1 : Int32), (9 : Int32)))) ⟨h_σ, ⟨(zs_w h_x6 (by decide)), (zs_w h_x2 (by decide))⟩⟩) (fun t_1 pt_1 => ?_)
  obtain ⟨ret, er, hr⟩ := zA_91 pt_1.1 h_x1 h_x5 pt_1.2
  refine ⟨ret, er, ?_⟩
  exact hr
-- fX9_quietBy
theorem zA_93 {σ0 : sn_S} {σ : sn_S} (h_σ : zs_M0 σ0 σ) {x1 : Int32} (h_x1 : zs_in x1.toInt 1 1) {x2 : Int32} (h_x2 : zs_in x2.toInt 9 9) {x3 : Int32} (h_x3 : zs_in x3.toInt 0 0) {x4 : Int32} (h_x4 : zs_in x4.toInt (-1) (-1)) : zs_ok (fX9_quietBy σ x1 x2 x3 x4) (fun r => (zs_in (r.1).toInt (-1) 9 ∧ zs_M0 σ0 r.2)) := by
  unfold fX9_quietBy
  obtain rfl : x1 = (1 : Int32) := zs_eqv h_x1 (by decide)
  obtain rfl : x2 = (9 : Int32) := zs_eqv h_x2 (by decide)
  obtain rfl : x3 = (0 : Int32) := zs_eqv h_x3 (by decide)
  obtain rfl : x4 = (-1 : Int32) := zs_eqv h_x4 (by decide)
  refine zs_gd (zs_gin h_x1 (by decide)) ?_
  refine zs_lt (Q := fun z => zs_in z.toInt 0 9) (zs_rdb (q := 1) (lo := 0) (hi := 9) h_σ.1 (zs_range zlI_1 (fun k => zs_bd (zs_tM 1 k) 0 9) (by decide +kernel))) (fun y_2 hy_2 => ?_)
  refine zs_ite (fun c1 => ?_) (fun c1 => ?_)
  · skip
    have r2 := (zs_I_le c1)
    exact (zs_botle r2 h_x2 h_x3 (by decide)).elim
  · skip
    have r3 := (zs_I_len c1)
    obtain ⟨ret, er, hr⟩ := zA_92 h_σ h_x1 h_x2 h_x3 h_x4 hy_2 zlI_m1 zlI_m1
    refine ⟨ret, er, ?_⟩
    exact hr
-- fX9_clean
theorem zA_94 {σ0 : sn_S} {σ : sn_S} (h_σ : zs_M0 σ0 σ) : zs_ok (fX9_clean σ) (fun r => (zs_in (r.1).toInt (-2) 9 ∧ zs_M0 σ0 r.2)) := by
  unfold fX9_clean
  refine zs_bd_ (zA_60 h_σ) (fun t_1 pt_1 => ?_)
  refine zs_ite (fun c1 => ?_) (fun c1 => ?_)
  · skip
    have r2 := (zs_I_eq c1)
    have g3 : zs_in (t_1).toInt 0 0 := (zs_eql 0 0 r2 pt_1 zlI_0 (by decide))
    exact zs_some ⟨(zs_w zlI_m2 (by decide)), h_σ⟩
  · skip
    have r4 := (zs_I_eqn c1)
    have g5 : zs_in (t_1).toInt 1 1 := (zs_nel 1 1 r4 pt_1 zlI_0 (by decide))
    refine zs_bd_ (zA_93 h_σ zlI_1 zlI_9 zlI_0 zlI_m1) (fun t_4 pt_4 => ?_)
    exact zs_some ⟨(zs_w pt_4.1 (by decide)), pt_4.2⟩
-- fX8_isPerson
theorem zA_95 {σ0 : sn_S} {σ : sn_S} (h_σ : zs_A σ0 σ) {x1 : Int32} : zs_ok (fX8_isPerson σ x1) (fun r => (zs_in (r).toInt 0 1) ∧ ((r).toInt = 0 ∨ (zs_in (x1).toInt 0 5))) := by
  unfold fX8_isPerson
  refine zs_ite (fun c1 => ?_) (fun c1 => ?_)
  · skip
    have r2 := (zs_I_lt c1)
    have g3 : zs_in (x1).toInt (-2147483648) (-1) := (zs_ltl (-2147483648) (-1) r2 (zs_topI _) zlI_0 (by decide))
    refine zs_gd (zs_b01 zlI_0 (by decide)) ?_
    exact zs_some ⟨(zs_w zlI_0 (by decide)), Or.inl (zs_ptr zlI_0)⟩
  · skip
    have r4 := (zs_I_ltn c1)
    have g5 : zs_in (x1).toInt 0 2147483647 := (zs_ler 0 2147483647 r4 zlI_0 (zs_topI _) (by decide))
    refine zs_gd (zs_gin zlI_5 (by decide)) ?_
    refine zs_ite (fun c6 => ?_) (fun c6 => ?_)
    · skip
      have r7 := (zs_I_le c6)
      refine zs_gd (zs_b01 zlI_0 (by decide)) ?_
      exact zs_some ⟨(zs_w zlI_0 (by decide)), Or.inl (zs_ptr zlI_0)⟩
    · skip
      have r8 := (zs_I_len c6)
      have g9 : zs_in (x1).toInt 0 5 := (zs_ltl 0 5 r8 g5 (zs_rdk (q := 2) (k := (5 : Int32).toNatClampNeg) (z := (0, 6)) h_σ.1 rfl) (by decide))
      have g10 : zs_in ((sn_I σ (1 + 1) (5 : Int32).toNatClampNeg)).toInt 1 6 := (zs_ltr 1 6 r8 g5 (zs_rdk (q := 2) (k := (5 : Int32).toNatClampNeg) (z := (0, 6)) h_σ.1 rfl) (by decide))
      refine zs_gd (zs_b01 zlI_1 (by decide)) ?_
      exact zs_some ⟨(zs_w zlI_1 (by decide)), Or.inr g9⟩
-- fX8_isMinute
theorem zA_96 {σ0 : sn_S} {σ : sn_S} (h_σ : zs_A σ0 σ) {x1 : Int32} : zs_ok (fX8_isMinute σ x1) (fun r => (zs_in (r).toInt 0 1) ∧ ((r).toInt = 0 ∨ (zs_in (x1).toInt 0 29))) := by
  unfold fX8_isMinute
  refine zs_ite (fun c1 => ?_) (fun c1 => ?_)
  · skip
    have r2 := (zs_I_lt c1)
    have g3 : zs_in (x1).toInt (-2147483648) (-1) := (zs_ltl (-2147483648) (-1) r2 (zs_topI _) zlI_0 (by decide))
    refine zs_gd (zs_b01 zlI_0 (by decide)) ?_
    exact zs_some ⟨(zs_w zlI_0 (by decide)), Or.inl (zs_ptr zlI_0)⟩
  · skip
    have r4 := (zs_I_ltn c1)
    have g5 : zs_in (x1).toInt 0 2147483647 := (zs_ler 0 2147483647 r4 zlI_0 (zs_topI _) (by decide))
    refine zs_gd (zs_gin zlI_0 (by decide)) ?_
    refine zs_ite (fun c6 => ?_) (fun c6 => ?_)
    · skip
      have r7 := (zs_I_le c6)
      refine zs_gd (zs_b01 zlI_0 (by decide)) ?_
      exact zs_some ⟨(zs_w zlI_0 (by decide)), Or.inl (zs_ptr zlI_0)⟩
    · skip
      have r8 := (zs_I_len c6)
      have g9 : zs_in (x1).toInt 0 29 := (zs_ltl 0 29 r8 g5 (zs_rdk (q := 2) (k := (0 : Int32).toNatClampNeg) (z := (0, 30)) h_σ.1 rfl) (by decide))
      have g10 : zs_in ((sn_I σ (1 + 1) (0 : Int32).toNatClampNeg)).toInt 1 30 := (zs_ltr 1 30 r8 g5 (zs_rdk (q := 2) (k := (0 : Int32).toNatClampNeg) (z := (0, 30)) h_σ.1 rfl) (by decide))
      refine zs_gd (zs_b01 zlI_1 (by decide)) ?_
      exact zs_some ⟨(zs_w zlI_1 (by decide)), Or.inr g9⟩
-- fX2_act
theorem zA_97 {σ0 : sn_S} {σ : sn_S} (h_σ : zs_A σ0 σ) {x1 : Int32} (h_x1 : zs_in x1.toInt 0 0) {x2 : Int32} (h_x2 : zs_in x2.toInt 0 5) {x3 : Int32} (h_x3 : zs_in x3.toInt 0 29) : zs_ok (fX2_act σ 1 x1 x2 x3) (fun r => (zs_in (r.1).toInt 0 1 ∧ zs_A σ0 r.2)) := by
  unfold fX2_act
  obtain rfl : x1 = (0 : Int32) := zs_eqv h_x1 (by decide)
  refine zs_gd (zs_gin zlI_9 (by decide)) ?_
  refine zs_lt (Q := fun z => zs_in z.toInt 0 40) (zs_rdk (q := 2) (k := (9 : Int32).toNatClampNeg) (z := (0, 40)) h_σ.1 rfl) (fun y_2 hy_2 => ?_)
  refine zs_ite (fun c1 => ?_) (fun c1 => ?_)
  · skip
    have r2 := (zs_I_lt c1)
    have g3 : zs_in (y_2).toInt 0 39 := (zs_ltl 0 39 r2 hy_2 zlI_40 (by decide))
    refine zs_gd (zs_gin (zs_mulI 0 117 zlI_3 g3 (by decide)) (by decide)) ?_
    refine zs_lt (Q := fun z => zs_A σ0 z) (zs_wru (z := (0, 29)) h_σ (fun _ => rfl) h_x1 (by decide) (fun _ => rfl)) (fun σ_6 hσ_6 => ?_)
    refine zs_gd (zs_gin (zs_addI 1 118 (zs_mulI 0 117 zlI_3 g3 (by decide)) zlI_1 (by decide)) (by decide)) ?_
    refine zs_lt (Q := fun z => zs_A σ0 z) (zs_wru (z := (0, 29)) hσ_6 (fun _ => rfl) h_x2 (by decide) (fun _ => rfl)) (fun σ_9 hσ_9 => ?_)
    refine zs_gd (zs_gin (zs_addI 2 119 (zs_mulI 0 117 zlI_3 g3 (by decide)) zlI_2 (by decide)) (by decide)) ?_
    refine zs_lt (Q := fun z => zs_A σ0 z) (zs_wru (z := (0, 29)) hσ_9 (fun _ => rfl) h_x3 (by decide) (fun _ => rfl)) (fun σ_12 hσ_12 => ?_)
    refine zs_gd (zs_gin zlI_9 (by decide)) ?_
    refine zs_lt (Q := fun z => zs_A σ0 z) (zs_wrk (z := (0, 40)) hσ_12 rfl (zs_addI 1 40 g3 zlI_1 (by decide)) (by decide) rfl) (fun σ_15 hσ_15 => ?_)
    refine zs_gd (zs_b01 zlI_1 (by decide)) ?_
    exact zs_some ⟨(zs_w zlI_1 (by decide)), hσ_15⟩
  · skip
    have r4 := (zs_I_ltn c1)
    have g5 : zs_in (y_2).toInt 40 40 := (zs_ler 40 40 r4 zlI_40 hy_2 (by decide))
    refine zs_gd (zs_b01 zlI_0 (by decide)) ?_
    exact zs_some ⟨(zs_w zlI_0 (by decide)), h_σ⟩
-- BX2_minutesOfActs_61
theorem zA_98 {σ0 : sn_S} {σ : sn_S} (h_σ : zs_A σ0 σ) {x1 : Int32} (h_x1 : zs_in x1.toInt 0 0) {x2 : Int32} (h_x2 : zs_in x2.toInt 0 5) {x3 : Int32} (h_x3 : zs_in x3.toInt 0 1073741823) {x4 : Int32} (h_x4 : zs_in x4.toInt 0 39) {c : Int} (hc : x4.toInt = c + 0) : zs_ok (BX2_minutesOfActs_61 σ 1 x1 x2 x3 x4) (fun r => zs_sum (fun v => ((zs_in (v.1).toInt 0 1073741823 ∧ zs_in (v.2).toInt 1 40)) ∧ v.2.toInt = c + 1) (fun v => False) r) := by
  unfold BX2_minutesOfActs_61
  obtain rfl : x1 = (0 : Int32) := zs_eqv h_x1 (by decide)
  refine zs_lt (Q := fun z => zs_in z.toInt 1 40 ∧ z.toInt = c + 1) ⟨(zs_addI 1 40 h_x4 zlI_1 (by decide)), (zs_syI 1 hc h_x4 zlI_1 (by decide) (by decide))⟩ (fun y_1 hy_1 => ?_)
  exact zs_some (zs_inl ⟨⟨h_x3, hy_1.1⟩, hy_1.2⟩)
-- BX2_minutesOfActs_5
theorem zA_99 {σ0 : sn_S} {σ : sn_S} (h_σ : zs_A σ0 σ) {x1 : Int32} (h_x1 : zs_in x1.toInt 0 0) {x2 : Int32} (h_x2 : zs_in x2.toInt 0 5) {x3 : Int32} (h_x3 : zs_in x3.toInt 0 1073741823) {x4 : Int32} (h_x4 : zs_in x4.toInt 0 40) {c : Int} (hc : x4.toInt = c + 0) : zs_ok (BX2_minutesOfActs_5 σ 1 x1 x2 x3 x4) (fun r => zs_sum (fun v => ((zs_in (v.1).toInt 0 1073741823 ∧ zs_in (v.2).toInt 1 40)) ∧ v.2.toInt = c + 1) (fun v => zs_in (v).toInt 0 1073741823) r) := by
  unfold BX2_minutesOfActs_5
  obtain rfl : x1 = (0 : Int32) := zs_eqv h_x1 (by decide)
  refine zs_gd (zs_gin zlI_9 (by decide)) ?_
  refine zs_ite (fun c1 => ?_) (fun c1 => ?_)
  · skip
    have r2 := (zs_I_le c1)
    exact zs_some (zs_inr (h_x3))
  · skip
    have r3 := (zs_I_len c1)
    have g4 : zs_in (x4).toInt 0 39 := (zs_ltl 0 39 r3 h_x4 (zs_rdk (q := 2) (k := (9 : Int32).toNatClampNeg) (z := (0, 40)) h_σ.1 rfl) (by decide))
    have g5 : zs_in ((sn_I σ (1 + 1) (9 : Int32).toNatClampNeg)).toInt 1 40 := (zs_ltr 1 40 r3 h_x4 (zs_rdk (q := 2) (k := (9 : Int32).toNatClampNeg) (z := (0, 40)) h_σ.1 rfl) (by decide))
    refine zs_gd (zs_gin (zs_mulI 0 117 zlI_3 g4 (by decide)) (by decide)) ?_
    refine zs_ite (fun c6 => ?_) (fun c6 => ?_)
    · skip
      have r7 := (zs_I_eq c6)
      have g8 : zs_in ((sn_I σ (1 + 6) ((3 : Int32) * x4).toNatClampNeg)).toInt 0 0 := (zs_eql 0 0 r7 (zs_rdu (q := 7) (z := (0, 29)) h_σ.1 (fun _ => rfl)) h_x1 (by decide))
      refine zs_gd (zs_gin (zs_addI 1 118 (zs_mulI 0 117 zlI_3 g4 (by decide)) zlI_1 (by decide)) (by decide)) ?_
      refine zs_ite (fun c9 => ?_) (fun c9 => ?_)
      · skip
        have r10 := (zs_I_eq c9)
        have g11 : zs_in ((sn_I σ (1 + 6) (((3 : Int32) * x4) + (1 : Int32)).toNatClampNeg)).toInt 0 5 := (zs_eql 0 5 r10 (zs_rdu (q := 7) (z := (0, 29)) h_σ.1 (fun _ => rfl)) h_x2 (by decide))
        refine zs_gd (zs_gin (zs_addI 2 119 (zs_mulI 0 117 zlI_3 g4 (by decide)) zlI_2 (by decide)) (by decide)) ?_
        refine zs_lt (Q := fun z => zs_in z.toInt 0 1073741823) (zs_or 30 1073741823 h_x3 (zs_cases (zs_rdu (q := 7) (z := (0, 29)) h_σ.1 (fun _ => rfl)) (fun z => zs_in ((1 : Int32) <<< (z &&& 31)).toInt 1 536870912) (by decide +kernel)) (by decide)) (fun y_8 hy_8 => ?_)
        obtain ⟨ret, er, hr⟩ := zA_98 h_σ h_x1 h_x2 hy_8 g4 hc
        refine ⟨ret, er, ?_⟩
        exact (zs_sumw hr (fun v w => ⟨w.1, w.2⟩) (fun v w => w.elim))
      · skip
        have r12 := (zs_I_eqn c9)
        obtain ⟨ret, er, hr⟩ := zA_98 h_σ h_x1 h_x2 h_x3 g4 hc
        refine ⟨ret, er, ?_⟩
        exact (zs_sumw hr (fun v w => ⟨w.1, w.2⟩) (fun v w => w.elim))
    · skip
      have r13 := (zs_I_eqn c6)
      have g14 : zs_in ((sn_I σ (1 + 6) ((3 : Int32) * x4).toNatClampNeg)).toInt 1 29 := (zs_nel 1 29 r13 (zs_rdu (q := 7) (z := (0, 29)) h_σ.1 (fun _ => rfl)) h_x1 (by decide))
      obtain ⟨ret, er, hr⟩ := zA_98 h_σ h_x1 h_x2 h_x3 g4 hc
      refine ⟨ret, er, ?_⟩
      exact (zs_sumw hr (fun v w => ⟨w.1, w.2⟩) (fun v w => w.elim))
theorem zB_16 {σ0 : sn_S} {σ : sn_S} (h_σ : zs_A σ0 σ) {x1 : Int32} (h_x1 : zs_in x1.toInt 0 0) {x2 : Int32} (h_x2 : zs_in x2.toInt 0 5) {s0 : (Int32 × Int32)} (h0 : (zs_in (s0.1).toInt 0 1073741823 ∧ zs_in (s0.2).toInt 0 40)) : zs_ok (sn_it (LX2_minutesOfActs_5 σ 1 x1 x2) 5000 s0) (fun t => zs_in (t).toInt 0 1073741823) := by
  refine zs_it (I := fun s => (zs_in (s.1).toInt 0 1073741823 ∧ zs_in (s.2).toInt 0 40)) (m := fun s => 40 - s.2.toInt) (fun s hs => ?_) (fun s hs => ?_) (by exact h0)
  · have h1 := hs.2; unfold zs_in at h1
    omega
  · obtain ⟨b, eb, hb⟩ := zA_99 h_σ h_x1 h_x2 hs.1 hs.2 (c := s.2.toInt) (Int.add_zero _).symm
    exact ⟨b, eb, zs_sumw hb (fun v w => ⟨⟨w.1.1, (zs_w w.1.2 (by decide))⟩, by have := w.2; omega⟩) (fun v w => w)⟩
-- BX2_minutesOfActs_67
theorem zA_100 {σ0 : sn_S} {σ : sn_S} (h_σ : zs_A σ0 σ) {x3 : Int32} (h_x3 : zs_in x3.toInt 0 1073741823) : zs_ok (BX2_minutesOfActs_67 σ 1 x3) (fun r => zs_in (r).toInt 0 1073741823) := by
  unfold BX2_minutesOfActs_67
  exact zs_some h_x3
-- fX2_minutesOfActs
theorem zA_101 {σ0 : sn_S} {σ : sn_S} (h_σ : zs_A σ0 σ) {x1 : Int32} (h_x1 : zs_in x1.toInt 0 0) {x2 : Int32} (h_x2 : zs_in x2.toInt 0 5) : zs_ok (fX2_minutesOfActs σ 1 x1 x2) (fun r => zs_in (r).toInt 0 1073741823) := by
  unfold fX2_minutesOfActs
  obtain rfl : x1 = (0 : Int32) := zs_eqv h_x1 (by decide)
  refine zs_bd_ (zB_16 h_σ h_x1 h_x2 (s0 := ((0 : Int32), (0 : Int32))) ⟨(zs_w zlI_0 (by decide)), (zs_w zlI_0 (by decide))⟩) (fun t_1 pt_1 => ?_)
  obtain ⟨ret, er, hr⟩ := zA_100 h_σ pt_1
  refine ⟨ret, er, ?_⟩
  exact hr
-- BX2_minutesOfActs_61
theorem zA_102 {σ0 : sn_S} {σ : sn_S} (h_σ : zs_A σ0 σ) {x1 : Int32} (h_x1 : zs_in x1.toInt 1 1) {x2 : Int32} (h_x2 : zs_in x2.toInt 0 5) {x3 : Int32} (h_x3 : zs_in x3.toInt 0 1073741823) {x4 : Int32} (h_x4 : zs_in x4.toInt 0 39) {c : Int} (hc : x4.toInt = c + 0) : zs_ok (BX2_minutesOfActs_61 σ 1 x1 x2 x3 x4) (fun r => zs_sum (fun v => ((zs_in (v.1).toInt 0 1073741823 ∧ zs_in (v.2).toInt 1 40)) ∧ v.2.toInt = c + 1) (fun v => False) r) := by
  unfold BX2_minutesOfActs_61
  obtain rfl : x1 = (1 : Int32) := zs_eqv h_x1 (by decide)
  refine zs_lt (Q := fun z => zs_in z.toInt 1 40 ∧ z.toInt = c + 1) ⟨(zs_addI 1 40 h_x4 zlI_1 (by decide)), (zs_syI 1 hc h_x4 zlI_1 (by decide) (by decide))⟩ (fun y_1 hy_1 => ?_)
  exact zs_some (zs_inl ⟨⟨h_x3, hy_1.1⟩, hy_1.2⟩)
-- BX2_minutesOfActs_5
theorem zA_103 {σ0 : sn_S} {σ : sn_S} (h_σ : zs_A σ0 σ) {x1 : Int32} (h_x1 : zs_in x1.toInt 1 1) {x2 : Int32} (h_x2 : zs_in x2.toInt 0 5) {x3 : Int32} (h_x3 : zs_in x3.toInt 0 1073741823) {x4 : Int32} (h_x4 : zs_in x4.toInt 0 40) {c : Int} (hc : x4.toInt = c + 0) : zs_ok (BX2_minutesOfActs_5 σ 1 x1 x2 x3 x4) (fun r => zs_sum (fun v => ((zs_in (v.1).toInt 0 1073741823 ∧ zs_in (v.2).toInt 1 40)) ∧ v.2.toInt = c + 1) (fun v => zs_in (v).toInt 0 1073741823) r) := by
  unfold BX2_minutesOfActs_5
  obtain rfl : x1 = (1 : Int32) := zs_eqv h_x1 (by decide)
  refine zs_gd (zs_gin zlI_9 (by decide)) ?_
  refine zs_ite (fun c1 => ?_) (fun c1 => ?_)
  · skip
    have r2 := (zs_I_le c1)
    exact zs_some (zs_inr (h_x3))
  · skip
    have r3 := (zs_I_len c1)
    have g4 : zs_in (x4).toInt 0 39 := (zs_ltl 0 39 r3 h_x4 (zs_rdk (q := 2) (k := (9 : Int32).toNatClampNeg) (z := (0, 40)) h_σ.1 rfl) (by decide))
    have g5 : zs_in ((sn_I σ (1 + 1) (9 : Int32).toNatClampNeg)).toInt 1 40 := (zs_ltr 1 40 r3 h_x4 (zs_rdk (q := 2) (k := (9 : Int32).toNatClampNeg) (z := (0, 40)) h_σ.1 rfl) (by decide))
    refine zs_gd (zs_gin (zs_mulI 0 117 zlI_3 g4 (by decide)) (by decide)) ?_
    refine zs_ite (fun c6 => ?_) (fun c6 => ?_)
    · skip
      have r7 := (zs_I_eq c6)
      have g8 : zs_in ((sn_I σ (1 + 6) ((3 : Int32) * x4).toNatClampNeg)).toInt 1 1 := (zs_eql 1 1 r7 (zs_rdu (q := 7) (z := (0, 29)) h_σ.1 (fun _ => rfl)) h_x1 (by decide))
      refine zs_gd (zs_gin (zs_addI 1 118 (zs_mulI 0 117 zlI_3 g4 (by decide)) zlI_1 (by decide)) (by decide)) ?_
      refine zs_ite (fun c9 => ?_) (fun c9 => ?_)
      · skip
        have r10 := (zs_I_eq c9)
        have g11 : zs_in ((sn_I σ (1 + 6) (((3 : Int32) * x4) + (1 : Int32)).toNatClampNeg)).toInt 0 5 := (zs_eql 0 5 r10 (zs_rdu (q := 7) (z := (0, 29)) h_σ.1 (fun _ => rfl)) h_x2 (by decide))
        refine zs_gd (zs_gin (zs_addI 2 119 (zs_mulI 0 117 zlI_3 g4 (by decide)) zlI_2 (by decide)) (by decide)) ?_
        refine zs_lt (Q := fun z => zs_in z.toInt 0 1073741823) (zs_or 30 1073741823 h_x3 (zs_cases (zs_rdu (q := 7) (z := (0, 29)) h_σ.1 (fun _ => rfl)) (fun z => zs_in ((1 : Int32) <<< (z &&& 31)).toInt 1 536870912) (by decide +kernel)) (by decide)) (fun y_8 hy_8 => ?_)
        obtain ⟨ret, er, hr⟩ := zA_102 h_σ h_x1 h_x2 hy_8 g4 hc
        refine ⟨ret, er, ?_⟩
        exact (zs_sumw hr (fun v w => ⟨w.1, w.2⟩) (fun v w => w.elim))
      · skip
        have r12 := (zs_I_eqn c9)
        obtain ⟨ret, er, hr⟩ := zA_102 h_σ h_x1 h_x2 h_x3 g4 hc
        refine ⟨ret, er, ?_⟩
        exact (zs_sumw hr (fun v w => ⟨w.1, w.2⟩) (fun v w => w.elim))
    · skip
      have r13 := (zs_I_eqn c6)
      obtain ⟨ret, er, hr⟩ := zA_102 h_σ h_x1 h_x2 h_x3 g4 hc
      refine ⟨ret, er, ?_⟩
      exact (zs_sumw hr (fun v w => ⟨w.1, w.2⟩) (fun v w => w.elim))
theorem zB_17 {σ0 : sn_S} {σ : sn_S} (h_σ : zs_A σ0 σ) {x1 : Int32} (h_x1 : zs_in x1.toInt 1 1) {x2 : Int32} (h_x2 : zs_in x2.toInt 0 5) {s0 : (Int32 × Int32)} (h0 : (zs_in (s0.1).toInt 0 1073741823 ∧ zs_in (s0.2).toInt 0 40)) : zs_ok (sn_it (LX2_minutesOfActs_5 σ 1 x1 x2) 5000 s0) (fun t => zs_in (t).toInt 0 1073741823) := by
  refine zs_it (I := fun s => (zs_in (s.1).toInt 0 1073741823 ∧ zs_in (s.2).toInt 0 40)) (m := fun s => 40 - s.2.toInt) (fun s hs => ?_) (fun s hs => ?_) (by exact h0)
  · have h1 := hs.2; unfold zs_in at h1
    omega
  · obtain ⟨b, eb, hb⟩ := zA_103 h_σ h_x1 h_x2 hs.1 hs.2 (c := s.2.toInt) (Int.add_zero _).symm
    exact ⟨b, eb, zs_sumw hb (fun v w => ⟨⟨w.1.1, (zs_w w.1.2 (by decide))⟩, by have := w.2; omega⟩) (fun v w => w)⟩
-- fX2_minutesOfActs
theorem zA_104 {σ0 : sn_S} {σ : sn_S} (h_σ : zs_A σ0 σ) {x1 : Int32} (h_x1 : zs_in x1.toInt 1 1) {x2 : Int32} (h_x2 : zs_in x2.toInt 0 5) : zs_ok (fX2_minutesOfActs σ 1 x1 x2) (fun r => zs_in (r).toInt 0 1073741823) := by
  unfold fX2_minutesOfActs
  obtain rfl : x1 = (1 : Int32) := zs_eqv h_x1 (by decide)
  refine zs_bd_ (zB_17 h_σ h_x1 h_x2 (s0 := ((0 : Int32), (0 : Int32))) ⟨(zs_w zlI_0 (by decide)), (zs_w zlI_0 (by decide))⟩) (fun t_1 pt_1 => ?_)
  obtain ⟨ret, er, hr⟩ := zA_100 h_σ pt_1
  refine ⟨ret, er, ?_⟩
  exact hr
-- BX0_tellFrom_56
theorem zA_105 {σ0 : sn_S} {σ : sn_S} (h_σ : zs_A σ0 σ) {x2 : Int32} (h_x2 : zs_in x2.toInt 0 6) {c : Int} (hc : x2.toInt = c + 0) : zs_ok (BX0_tellFrom_56 σ 27 1 x2) (fun r => zs_sum (fun v => ((zs_A σ0 v.1 ∧ zs_in (v.2).toInt 1 6)) ∧ v.2.toInt = c + 1) (fun v => zs_A σ0 v) r) := by
  unfold BX0_tellFrom_56
  refine zs_ite (fun c1 => ?_) (fun c1 => ?_)
  · skip
    have r2 := (zs_I_le c1)
    exact zs_some (zs_inr (h_σ))
  · skip
    have r3 := (zs_I_len c1)
    have g4 : zs_in (x2).toInt 0 5 := (zs_ltl 0 5 r3 h_x2 (zs_rdk (q := 27) (k := 1) (z := (0, 6)) h_σ.1 rfl) (by decide))
    have g5 : zs_in ((sn_I σ 27 1)).toInt 1 6 := (zs_ltr 1 6 r3 h_x2 (zs_rdk (q := 27) (k := 1) (z := (0, 6)) h_σ.1 rfl) (by decide))
    refine zs_gd (zs_gin (zs_mulI 0 10 zlI_2 g4 (by decide)) (by decide)) ?_
    refine zs_gd (zs_gin g4 (by decide)) ?_
    refine zs_lt (Q := fun z => zs_A σ0 z) (zs_wrt h_σ (fun _ => rfl) (fun _ => rfl)) (fun σ_4 hσ_4 => ?_)
    refine zs_gd (zs_gin (zs_addI 1 11 (zs_mulI 0 10 zlI_2 g4 (by decide)) zlI_1 (by decide)) (by decide)) ?_
    refine zs_gd (zs_gin g4 (by decide)) ?_
    refine zs_lt (Q := fun z => zs_A σ0 z) (zs_wrt hσ_4 (fun _ => rfl) (fun _ => rfl)) (fun σ_8 hσ_8 => ?_)
    refine zs_bd_ (zA_101 hσ_8 zlI_0 g4) (fun t_10 pt_10 => ?_)
    refine zs_gd (zs_gin g4 (by decide)) ?_
    refine zs_lt (Q := fun z => zs_A σ0 z) (zs_wrt hσ_8 (fun _ => rfl) (fun _ => rfl)) (fun σ_13 hσ_13 => ?_)
    refine zs_bd_ (zA_104 hσ_13 zlI_1 g4) (fun t_15 pt_15 => ?_)
    refine zs_gd (zs_gin g4 (by decide)) ?_
    refine zs_lt (Q := fun z => zs_A σ0 z) (zs_wrt hσ_13 (fun _ => rfl) (fun _ => rfl)) (fun σ_18 hσ_18 => ?_)
    refine zs_lt (Q := fun z => zs_in z.toInt 1 6 ∧ z.toInt = c + 1) ⟨(zs_addI 1 6 g4 zlI_1 (by decide)), (zs_syI 1 hc g4 zlI_1 (by decide) (by decide))⟩ (fun y_20 hy_20 => ?_)
    exact zs_some (zs_inl ⟨⟨hσ_18, hy_20.1⟩, hy_20.2⟩)
theorem zB_18 {σ0 : sn_S}  {s0 : (sn_S × Int32)} (h0 : (zs_A σ0 s0.1 ∧ zs_in (s0.2).toInt 0 6)) : zs_ok (sn_it (LX0_tellFrom_56 27 1) 5000 s0) (fun t => zs_A σ0 t) := by
  refine zs_it (I := fun s => (zs_A σ0 s.1 ∧ zs_in (s.2).toInt 0 6)) (m := fun s => 6 - s.2.toInt) (fun s hs => ?_) (fun s hs => ?_) (by exact h0)
  · have h1 := hs.2; unfold zs_in at h1
    omega
  · obtain ⟨b, eb, hb⟩ := zA_105 hs.1 hs.2 (c := s.2.toInt) (Int.add_zero _).symm
    exact ⟨b, eb, zs_sumw hb (fun v w => ⟨⟨w.1.1, (zs_w w.1.2 (by decide))⟩, by have := w.2; omega⟩) (fun v w => w)⟩
-- BJ7_fill_53178_5
theorem zA_106 {σ0 : sn_S} {σ : sn_S} (h_σ : zs_A σ0 σ) {x1 : Int32} (h_x1 : zs_in x1.toInt 0 9) {x2 : Int32} (h_x2 : zs_in x2.toInt 0 30) {x3 : Int32} (h_x3 : zs_in x3.toInt 30 30) {c : Int} (hc : x2.toInt = c + 0) : zs_ok (BJ7_fill_53178_5 σ 28 30 x1 x2 x3) (fun r => zs_sum (fun v => ((zs_A σ0 v.1 ∧ zs_in (v.2).toInt 1 30)) ∧ v.2.toInt = c + 1) (fun v => zs_A σ0 v) r) := by
  unfold BJ7_fill_53178_5
  obtain rfl : x3 = (30 : Int32) := zs_eqv h_x3 (by decide)
  refine zs_ite (fun c1 => ?_) (fun c1 => ?_)
  · skip
    have r2 := (zs_I_le c1)
    have g3 : zs_in (x2).toInt 30 30 := (zs_ler 30 30 r2 h_x3 h_x2 (by decide))
    exact zs_some (zs_inr (h_σ))
  · skip
    have r4 := (zs_I_len c1)
    have g5 : zs_in (x2).toInt 0 29 := (zs_ltl 0 29 r4 h_x2 h_x3 (by decide))
    refine zs_gd (zs_gin g5 (by decide)) ?_
    refine zs_lt (Q := fun z => zs_A σ0 z) (zs_wrt h_σ (fun _ => rfl) (fun _ => rfl)) (fun σ_3 hσ_3 => ?_)
    refine zs_lt (Q := fun z => zs_in z.toInt 1 30 ∧ z.toInt = c + 1) ⟨(zs_addI 1 30 g5 zlI_1 (by decide)), (zs_syI 1 hc g5 zlI_1 (by decide) (by decide))⟩ (fun y_5 hy_5 => ?_)
    exact zs_some (zs_inl ⟨⟨hσ_3, hy_5.1⟩, hy_5.2⟩)
theorem zB_19 {σ0 : sn_S} {x1 : Int32} (h_x1 : zs_in x1.toInt 0 9) {x3 : Int32} (h_x3 : zs_in x3.toInt 30 30) {s0 : (sn_S × Int32)} (h0 : (zs_A σ0 s0.1 ∧ zs_in (s0.2).toInt 0 30)) : zs_ok (sn_it (LJ7_fill_53178_5 28 30 x1 x3) 5000 s0) (fun t => zs_A σ0 t) := by
  refine zs_it (I := fun s => (zs_A σ0 s.1 ∧ zs_in (s.2).toInt 0 30)) (m := fun s => 30 - s.2.toInt) (fun s hs => ?_) (fun s hs => ?_) (by exact h0)
  · have h1 := hs.2; unfold zs_in at h1
    omega
  · obtain ⟨b, eb, hb⟩ := zA_106 hs.1 h_x1 hs.2 h_x3 (c := s.2.toInt) (Int.add_zero _).symm
    exact ⟨b, eb, zs_sumw hb (fun v w => ⟨⟨w.1.1, (zs_w w.1.2 (by decide))⟩, by have := w.2; omega⟩) (fun v w => w)⟩
-- BJ7_fill_53178_20
theorem zA_107 {σ0 : sn_S} {σ : sn_S} (h_σ : zs_A σ0 σ) : zs_ok (BJ7_fill_53178_20 σ 28 30) (fun r => zs_A σ0 r) := by
  unfold BJ7_fill_53178_20
  exact zs_some h_σ
-- fJ7_fill_53178
theorem zA_108 {σ0 : sn_S} {σ : sn_S} (h_σ : zs_A σ0 σ) {x1 : Int32} (h_x1 : zs_in x1.toInt 0 9) : zs_ok (fJ7_fill_53178 σ 28 30 x1) (fun r => zs_A σ0 r) := by
  unfold fJ7_fill_53178
  refine zs_lt (Q := fun z => zs_in z.toInt 30 30) zlI_30 (fun y_1 hy_1 => ?_)
  refine zs_bd_ (zB_19 h_x1 hy_1 (s0 := (σ, (0 : Int32))) ⟨h_σ, (zs_w zlI_0 (by decide))⟩) (fun t_3 pt_3 => ?_)
  obtain ⟨ret, er, hr⟩ := zA_107 pt_3
  refine ⟨ret, er, ?_⟩
  exact hr
-- BX0_tellFrom_139
theorem zA_109 {σ0 : sn_S} {σ : sn_S} (h_σ : zs_A σ0 σ) {x2 : Int32} (h_x2 : zs_in x2.toInt 0 5) {c : Int} (hc : x2.toInt = c + 0) : zs_ok (BX0_tellFrom_139 σ 27 1 x2) (fun r => zs_sum (fun v => ((zs_A σ0 v.1 ∧ zs_in (v.2).toInt 1 5)) ∧ v.2.toInt = c + 1) (fun v => zs_A σ0 v) r) := by
  unfold BX0_tellFrom_139
  refine zs_gd (zs_gin zlI_6 (by decide)) ?_
  refine zs_ite (fun c1 => ?_) (fun c1 => ?_)
  · skip
    have r2 := (zs_I_le c1)
    exact zs_some (zs_inr (h_σ))
  · skip
    have r3 := (zs_I_len c1)
    have g4 : zs_in (x2).toInt 0 4 := (zs_ltl 0 4 r3 h_x2 (zs_rdk (q := 2) (k := (6 : Int32).toNatClampNeg) (z := (0, 5)) h_σ.1 rfl) (by decide))
    have g5 : zs_in ((sn_I σ (1 + 1) (6 : Int32).toNatClampNeg)).toInt 1 5 := (zs_ltr 1 5 r3 h_x2 (zs_rdk (q := 2) (k := (6 : Int32).toNatClampNeg) (z := (0, 5)) h_σ.1 rfl) (by decide))
    refine zs_gd (zs_gin (zs_addI 1 9 (zs_mulI 0 8 zlI_2 g4 (by decide)) zlI_1 (by decide)) (by decide)) ?_
    refine zs_gd (zs_gin (zs_use (h_σ.1.2 rfl).1.1.1 g4 (by decide) r3 (zs_i21 g4 (by decide))) (by decide)) ?_
    refine zs_gd (zs_gin (zs_mulI 0 8 zlI_2 g4 (by decide)) (by decide)) ?_
    refine zs_gd (zs_gin (zs_use (h_σ.1.2 rfl).1.1.1 g4 (by decide) r3 (zs_i21 g4 (by decide))) (by decide)) ?_
    refine zs_lt (Q := fun z => zs_A σ0 z) (zs_wrt h_σ (fun _ => rfl) (fun _ => rfl)) (fun σ_7 hσ_7 => ?_)
    refine zs_lt (Q := fun z => zs_in z.toInt 1 5 ∧ z.toInt = c + 1) ⟨(zs_addI 1 5 g4 zlI_1 (by decide)), (zs_syI 1 hc g4 zlI_1 (by decide) (by decide))⟩ (fun y_9 hy_9 => ?_)
    exact zs_some (zs_inl ⟨⟨hσ_7, hy_9.1⟩, hy_9.2⟩)
theorem zB_20 {σ0 : sn_S}  {s0 : (sn_S × Int32)} (h0 : (zs_A σ0 s0.1 ∧ zs_in (s0.2).toInt 0 5)) : zs_ok (sn_it (LX0_tellFrom_139 27 1) 5000 s0) (fun t => zs_A σ0 t) := by
  refine zs_it (I := fun s => (zs_A σ0 s.1 ∧ zs_in (s.2).toInt 0 5)) (m := fun s => 5 - s.2.toInt) (fun s hs => ?_) (fun s hs => ?_) (by exact h0)
  · have h1 := hs.2; unfold zs_in at h1
    omega
  · obtain ⟨b, eb, hb⟩ := zA_109 hs.1 hs.2 (c := s.2.toInt) (Int.add_zero _).symm
    exact ⟨b, eb, zs_sumw hb (fun v w => ⟨⟨w.1.1, (zs_w w.1.2 (by decide))⟩, by have := w.2; omega⟩) (fun v w => w)⟩
-- BX0_tellFrom_182
theorem zA_110 {σ0 : sn_S} {σ : sn_S} (h_σ : zs_A σ0 σ) : zs_ok (BX0_tellFrom_182 σ 27 1) (fun r => zs_A σ0 r) := by
  unfold BX0_tellFrom_182
  exact zs_some h_σ
-- BX0_tellFrom_124
theorem zA_111 {σ0 : sn_S} {σ : sn_S} (h_σ : zs_A σ0 σ) : zs_ok (BX0_tellFrom_124 σ 27 1) (fun r => zs_A σ0 r) := by
  unfold BX0_tellFrom_124
  refine zs_gd (zs_gin zlI_1 (by decide)) ?_
  refine zs_bd_ (zA_108 h_σ (zs_rdk (q := 2) (k := (1 : Int32).toNatClampNeg) (z := (0, 9)) h_σ.1 rfl)) (fun t_2 pt_2 => ?_)
  refine zs_bd_ (zB_20  (s0 := (t_2, (0 : Int32))) ⟨pt_2, (zs_w zlI_0 (by decide))⟩) (fun t_4 pt_4 => ?_)
  obtain ⟨ret, er, hr⟩ := zA_110 pt_4
  refine ⟨ret, er, ?_⟩
  exact hr
-- fX0_tellFrom
theorem zA_112 {σ0 : sn_S} {σ : sn_S} (h_σ : zs_A σ0 σ) : zs_ok (fX0_tellFrom σ 27 1) (fun r => zs_A σ0 r) := by
  unfold fX0_tellFrom
  refine zs_gd (zs_gin zlI_0 (by decide)) ?_
  refine zs_lt (Q := fun z => zs_A σ0 z) (zs_wrk (z := (0, 30)) h_σ rfl (zs_rdk (q := 2) (k := (0 : Int32).toNatClampNeg) (z := (0, 30)) h_σ.1 rfl) (by decide) rfl) (fun σ_2 hσ_2 => ?_)
  refine zs_gd (zs_gin zlI_5 (by decide)) ?_
  refine zs_lt (Q := fun z => zs_A σ0 z) (zs_wrk (z := (0, 6)) hσ_2 rfl (zs_rdk (q := 2) (k := (5 : Int32).toNatClampNeg) (z := (0, 6)) hσ_2.1 rfl) (by decide) rfl) (fun σ_5 hσ_5 => ?_)
  refine zs_gd (zs_gin zlI_7 (by decide)) ?_
  refine zs_lt (Q := fun z => z = (sn_pI σ_5 27 2 (sn_I σ_5 (1 + 1) (7 : Int32).toNatClampNeg))) rfl (fun σ_8 hσ_8 => ?_)
  refine zs_lt (Q := fun z => z = (sn_pI σ_8 27 3 (-1 : Int32))) rfl (fun σ_10 hσ_10 => ?_)
  refine zs_gd (by decide) ?_
  refine zs_lt (Q := fun z => zs_A σ0 z) (by subst hσ_10; subst hσ_8; exact zoA_tell hσ_5) (fun σ_13 hσ_13 => ?_)
  refine zs_bd_ (zB_18  (s0 := (σ_13, (0 : Int32))) ⟨hσ_13, (zs_w zlI_0 (by decide))⟩) (fun t_15 pt_15 => ?_)
  obtain ⟨ret, er, hr⟩ := zA_111 pt_15
  refine ⟨ret, er, ?_⟩
  exact hr
-- fX8_firstMinutes
theorem zA_113 {x0 : Int32} (h_x0 : zs_in x0.toInt 0 0) : zs_ok (fX8_firstMinutes x0) (fun r => zs_in (r).toInt 0 0) := by
  unfold fX8_firstMinutes
  obtain rfl : x0 = (0 : Int32) := zs_eqv h_x0 (by decide)
  exact zs_some (zs_subI 0 0 (zs_cases h_x0 (fun z => zs_in ((1 : Int32) <<< (z &&& 31)).toInt 1 1) (by decide +kernel)) zlI_1 (by decide))
-- BX0_live_2
theorem zA_114 {σ0 : sn_S} {σ : sn_S} (h_σ : zs_A σ0 σ) {x1 : Int32} (h_x1 : zs_in x1.toInt 0 0) {x2 : Int32} (h_x2 : zs_in x2.toInt 0 30) {x3 : Int32} (h_x3 : zs_in x3.toInt 0 6) {c : Int} (hc : x3.toInt = c + 0) : zs_ok (BX0_live_2 σ 27 x1 x2 x3) (fun r => zs_sum (fun v => ((zs_A σ0 v.1 ∧ zs_in (v.2).toInt 1 6)) ∧ v.2.toInt = c + 1) (fun v => zs_A σ0 v) r) := by
  unfold BX0_live_2
  obtain rfl : x1 = (0 : Int32) := zs_eqv h_x1 (by decide)
  refine zs_ite (fun c1 => ?_) (fun c1 => ?_)
  · skip
    have r2 := (zs_I_le c1)
    exact zs_some (zs_inr (h_σ))
  · skip
    have r3 := (zs_I_len c1)
    have g4 : zs_in (x3).toInt 0 5 := (zs_ltl 0 5 r3 h_x3 (zs_rdk (q := 27) (k := 1) (z := (0, 6)) h_σ.1 rfl) (by decide))
    have g5 : zs_in ((sn_I σ 27 1)).toInt 1 6 := (zs_ltr 1 6 r3 h_x3 (zs_rdk (q := 27) (k := 1) (z := (0, 6)) h_σ.1 rfl) (by decide))
    refine zs_gd (zs_gin g4 (by decide)) ?_
    refine zs_bd_ (zA_113 h_x1) (fun t_3 pt_3 => ?_)
    refine zs_gd (zs_gin g4 (by decide)) ?_
    refine zs_lt (Q := fun z => zs_A σ0 z) (zs_wru (z := (0, 1073741823)) h_σ (fun _ => rfl) (zs_and pt_3 (by decide)) (by decide) (fun _ => rfl)) (fun σ_6 hσ_6 => ?_)
    refine zs_lt (Q := fun z => zs_in z.toInt 1 6 ∧ z.toInt = c + 1) ⟨(zs_addI 1 6 g4 zlI_1 (by decide)), (zs_syI 1 hc g4 zlI_1 (by decide) (by decide))⟩ (fun y_8 hy_8 => ?_)
    exact zs_some (zs_inl ⟨⟨hσ_6, hy_8.1⟩, hy_8.2⟩)
theorem zB_21 {σ0 : sn_S} {x1 : Int32} (h_x1 : zs_in x1.toInt 0 0) {x2 : Int32} (h_x2 : zs_in x2.toInt 0 30) {s0 : (sn_S × Int32)} (h0 : (zs_A σ0 s0.1 ∧ zs_in (s0.2).toInt 0 6)) : zs_ok (sn_it (LX0_live_2 27 x1 x2) 5000 s0) (fun t => zs_A σ0 t) := by
  refine zs_it (I := fun s => (zs_A σ0 s.1 ∧ zs_in (s.2).toInt 0 6)) (m := fun s => 6 - s.2.toInt) (fun s hs => ?_) (fun s hs => ?_) (by exact h0)
  · have h1 := hs.2; unfold zs_in at h1
    omega
  · obtain ⟨b, eb, hb⟩ := zA_114 hs.1 h_x1 h_x2 hs.2 (c := s.2.toInt) (Int.add_zero _).symm
    exact ⟨b, eb, zs_sumw hb (fun v w => ⟨⟨w.1.1, (zs_w w.1.2 (by decide))⟩, by have := w.2; omega⟩) (fun v w => w)⟩
-- BX0_tickleByNets_7
theorem zA_115 {σ0 : sn_S} {σ : sn_S} (h_σ : zs_A σ0 σ) {x1 : Int32} (h_x1 : zs_in x1.toInt 0 29) {x2 : Int32} (h_x2 : zs_in x2.toInt 0 174) {x3 : Int32} (h_x3 : zs_in x3.toInt 0 6) (hl_x1 : x2.toInt = 6 * x1.toInt) {c : Int} (hc : x3.toInt = c + 0) : zs_ok (BX0_tickleByNets_7 σ 27 x1 x2 x3) (fun r => zs_sum (fun v => ((zs_A σ0 v.1 ∧ zs_in (v.2).toInt 1 6)) ∧ v.2.toInt = c + 1) (fun v => zs_A σ0 v) r) := by
  unfold BX0_tickleByNets_7
  refine zs_ite (fun c1 => ?_) (fun c1 => ?_)
  · skip
    have r2 := (zs_I_le c1)
    exact zs_some (zs_inr (h_σ))
  · skip
    have r3 := (zs_I_len c1)
    have g4 : zs_in (x3).toInt 0 5 := (zs_ltl 0 5 r3 h_x3 (zs_rdk (q := 27) (k := 1) (z := (0, 6)) h_σ.1 rfl) (by decide))
    have g5 : zs_in ((sn_I σ 27 1)).toInt 1 6 := (zs_ltr 1 6 r3 h_x3 (zs_rdk (q := 27) (k := 1) (z := (0, 6)) h_σ.1 rfl) (by decide))
    refine zs_gd (zs_gin (zs_addI 0 179 h_x2 g4 (by decide)) (by decide)) ?_
    refine zs_lt (Q := fun z => zs_A σ0 z) (zs_wrt h_σ (fun _ => rfl) (fun _ => rfl)) (fun σ_3 hσ_3 => ?_)
    refine zs_lt (Q := fun z => zs_in z.toInt 1 6 ∧ z.toInt = c + 1) ⟨(zs_addI 1 6 g4 zlI_1 (by decide)), (zs_syI 1 hc g4 zlI_1 (by decide) (by decide))⟩ (fun y_5 hy_5 => ?_)
    exact zs_some (zs_inl ⟨⟨hσ_3, hy_5.1⟩, hy_5.2⟩)
theorem zB_22 {σ0 : sn_S} {x1 : Int32} (h_x1 : zs_in x1.toInt 0 29) {x2 : Int32} (h_x2 : zs_in x2.toInt 0 174) (hl_x1 : x2.toInt = 6 * x1.toInt) {s0 : (sn_S × Int32)} (h0 : (zs_A σ0 s0.1 ∧ zs_in (s0.2).toInt 0 6)) : zs_ok (sn_it (LX0_tickleByNets_7 27 x1 x2) 5000 s0) (fun t => zs_A σ0 t) := by
  refine zs_it (I := fun s => (zs_A σ0 s.1 ∧ zs_in (s.2).toInt 0 6)) (m := fun s => 6 - s.2.toInt) (fun s hs => ?_) (fun s hs => ?_) (by exact h0)
  · have h1 := hs.2; unfold zs_in at h1
    omega
  · obtain ⟨b, eb, hb⟩ := zA_115 hs.1 h_x1 h_x2 hs.2 hl_x1 (c := s.2.toInt) (Int.add_zero _).symm
    exact ⟨b, eb, zs_sumw hb (fun v w => ⟨⟨w.1.1, (zs_w w.1.2 (by decide))⟩, by have := w.2; omega⟩) (fun v w => w)⟩
-- BX0_tickleByNets_46
theorem zA_116 {σ0 : sn_S} {σ : sn_S} (h_σ : zs_A σ0 σ) {x2 : Int32} (h_x2 : zs_in x2.toInt 0 0) {t0 : Int32} (h_t0 : zs_in t0.toInt 0 0) : zs_ok (BX0_tickleByNets_46 σ 27 x2 t0) (fun r => zs_A σ0 r) := by
  unfold BX0_tickleByNets_46
  obtain rfl : x2 = (0 : Int32) := zs_eqv h_x2 (by decide)
  obtain rfl : t0 = (0 : Int32) := zs_eqv h_t0 (by decide)
  refine zs_ite (fun c1 => ?_) (fun c1 => ?_)
  · skip
    have r2 := (zs_I_eq c1)
    exact zs_some h_σ
  · skip
    have r3 := (zs_I_eqn c1)
    exact (zs_botne r3 h_t0 zlI_0 (by decide)).elim
-- BX0_tickleByNets_149
theorem zA_117 {σ0 : sn_S} {σ : sn_S} (h_σ : zs_A σ0 σ) {x2 : Int32} (h_x2 : zs_in x2.toInt 6 174) {x3 : Int32} {x4 : Int32} (h_x4 : zs_in x4.toInt 0 7) {c : Int} (hc : x4.toInt = c + 0) : zs_ok (BX0_tickleByNets_149 σ 27 x2 x3 x4) (fun r => zs_sum (fun v => ((zs_A σ0 v.1 ∧ zs_in (v.2).toInt 1 8)) ∧ v.2.toInt = c + 1) (fun v => False) r) := by
  unfold BX0_tickleByNets_149
  refine zs_lt (Q := fun z => zs_in z.toInt 1 8 ∧ z.toInt = c + 1) ⟨(zs_addI 1 8 h_x4 zlI_1 (by decide)), (zs_syI 1 hc h_x4 zlI_1 (by decide) (by decide))⟩ (fun y_1 hy_1 => ?_)
  exact zs_some (zs_inl ⟨⟨h_σ, hy_1.1⟩, hy_1.2⟩)
-- fX8_hasBit
theorem zA_118 {x0 : Int32} {x1 : Int32} (h_x1 : zs_in x1.toInt 0 5) : zs_ok (fX8_hasBit x0 x1) (fun r => zs_in (r).toInt 0 1) := by
  unfold fX8_hasBit
  refine zs_ite (fun c1 => ?_) (fun c1 => ?_)
  · skip
    have r2 := (zs_I_eq c1)
    have g3 : zs_in (((x0 >>> (x1 &&& 31)) &&& (1 : Int32))).toInt 1 1 := (zs_eql 1 1 r2 (zs_and zlI_1 (by decide)) zlI_1 (by decide))
    refine zs_gd (zs_b01 zlI_1 (by decide)) ?_
    exact zs_some (zs_w zlI_1 (by decide))
  · skip
    have r4 := (zs_I_eqn c1)
    have g5 : zs_in (((x0 >>> (x1 &&& 31)) &&& (1 : Int32))).toInt 0 0 := (zs_neh 0 0 r4 (zs_and zlI_1 (by decide)) zlI_1 (by decide))
    refine zs_gd (zs_b01 zlI_0 (by decide)) ?_
    exact zs_some (zs_w zlI_0 (by decide))
-- BX0_tickleByNets_147
theorem zA_119 {σ0 : sn_S} {σ : sn_S} (h_σ : zs_A σ0 σ) {x2 : Int32} (h_x2 : zs_in x2.toInt 6 174) {x3 : Int32} {x4 : Int32} (h_x4 : zs_in x4.toInt 0 7) {t1 : Int32} (h_t1 : zs_in t1.toInt 6 179) {t2 : Int32} {t3 : Int32} (h_t3 : zs_in t3.toInt 0 0) {c : Int} (hc : x4.toInt = c + 0) : zs_ok (BX0_tickleByNets_147 σ 27 x2 x3 x4 t1 t2 t3) (fun r => zs_sum (fun v => ((zs_A σ0 v.1 ∧ zs_in (v.2).toInt 1 8)) ∧ v.2.toInt = c + 1) (fun v => False) r) := by
  unfold BX0_tickleByNets_147
  obtain rfl : t3 = (0 : Int32) := zs_eqv h_t3 (by decide)
  refine zs_gd (zs_gin h_t1 (by decide)) ?_
  refine zs_lt (Q := fun z => zs_A σ0 z) (zs_wrt h_σ (fun _ => rfl) (fun _ => rfl)) (fun σ_2 hσ_2 => ?_)
  obtain ⟨ret, er, hr⟩ := zA_117 hσ_2 h_x2 h_x4 hc
  refine ⟨ret, er, ?_⟩
  exact (zs_sumw hr (fun v w => ⟨w.1, w.2⟩) (fun v w => w.elim))
-- BX0_tickleByNets_147
theorem zA_120 {σ0 : sn_S} {σ : sn_S} (h_σ : zs_A σ0 σ) {x2 : Int32} (h_x2 : zs_in x2.toInt 6 174) {x3 : Int32} {x4 : Int32} (h_x4 : zs_in x4.toInt 0 7) {t1 : Int32} (h_t1 : zs_in t1.toInt 6 179) {t2 : Int32} {t3 : Int32} (h_t3 : zs_in t3.toInt 5 5) {c : Int} (hc : x4.toInt = c + 0) : zs_ok (BX0_tickleByNets_147 σ 27 x2 x3 x4 t1 t2 t3) (fun r => zs_sum (fun v => ((zs_A σ0 v.1 ∧ zs_in (v.2).toInt 1 8)) ∧ v.2.toInt = c + 1) (fun v => False) r) := by
  unfold BX0_tickleByNets_147
  obtain rfl : t3 = (5 : Int32) := zs_eqv h_t3 (by decide)
  refine zs_gd (zs_gin h_t1 (by decide)) ?_
  refine zs_lt (Q := fun z => zs_A σ0 z) (zs_wrt h_σ (fun _ => rfl) (fun _ => rfl)) (fun σ_2 hσ_2 => ?_)
  obtain ⟨ret, er, hr⟩ := zA_117 hσ_2 h_x2 h_x4 hc
  refine ⟨ret, er, ?_⟩
  exact (zs_sumw hr (fun v w => ⟨w.1, w.2⟩) (fun v w => w.elim))
-- BX0_tickleByNets_121
theorem zA_121 {σ0 : sn_S} {σ : sn_S} (h_σ : zs_A σ0 σ) {x2 : Int32} (h_x2 : zs_in x2.toInt 6 174) {x3 : Int32} {x4 : Int32} (h_x4 : zs_in x4.toInt 0 7) {x5 : Int32} (h_x5 : zs_in x5.toInt 0 5) {x6 : Int32} (h_x6 : zs_in x6.toInt 0 5) {t1 : Int32} (h_t1 : zs_in t1.toInt 6 179) {t2 : Int32} {t3 : Int32} (h_t3 : zs_in t3.toInt 0 0) {c : Int} (hc : x4.toInt = c + 0) : zs_ok (BX0_tickleByNets_121 σ 27 x2 x3 x4 x5 x6 t1 t2 t3) (fun r => zs_sum (fun v => ((zs_A σ0 v.1 ∧ zs_in (v.2).toInt 1 8)) ∧ v.2.toInt = c + 1) (fun v => False) r) := by
  unfold BX0_tickleByNets_121
  obtain rfl : t3 = (0 : Int32) := zs_eqv h_t3 (by decide)
  refine zs_gd (zs_gin h_t1 (by decide)) ?_
  refine zs_lt (Q := fun z => zs_A σ0 z) (zs_wrt h_σ (fun _ => rfl) (fun _ => rfl)) (fun σ_2 hσ_2 => ?_)
  refine zs_gd (zs_gin (zs_addI 6 179 h_x2 h_x6 (by decide)) (by decide)) ?_
  refine zs_bd_ (zA_118 h_x5) (fun t_5 pt_5 => ?_)
  refine zs_ite (fun c1 => ?_) (fun c1 => ?_)
  · skip
    have r2 := (zs_I_eq c1)
    have g3 : zs_in (t_5).toInt 0 0 := (zs_eql 0 0 r2 pt_5 zlI_0 (by decide))
    obtain ⟨ret, er, hr⟩ := zA_119 hσ_2 h_x2 h_x4 (zs_addI 6 179 h_x2 h_x6 (by decide)) zlI_0 hc
    refine ⟨ret, er, ?_⟩
    exact (zs_sumw hr (fun v w => ⟨w.1, w.2⟩) (fun v w => w.elim))
  · skip
    have r4 := (zs_I_eqn c1)
    have g5 : zs_in (t_5).toInt 1 1 := (zs_nel 1 1 r4 pt_5 zlI_0 (by decide))
    obtain ⟨ret, er, hr⟩ := zA_120 hσ_2 h_x2 h_x4 (zs_addI 6 179 h_x2 h_x6 (by decide)) zlI_5 hc
    refine ⟨ret, er, ?_⟩
    exact (zs_sumw hr (fun v w => ⟨w.1, w.2⟩) (fun v w => w.elim))
-- BX0_tickleByNets_121
theorem zA_122 {σ0 : sn_S} {σ : sn_S} (h_σ : zs_A σ0 σ) {x2 : Int32} (h_x2 : zs_in x2.toInt 6 174) {x3 : Int32} {x4 : Int32} (h_x4 : zs_in x4.toInt 0 7) {x5 : Int32} (h_x5 : zs_in x5.toInt 0 5) {x6 : Int32} (h_x6 : zs_in x6.toInt 0 5) {t1 : Int32} (h_t1 : zs_in t1.toInt 6 179) {t2 : Int32} {t3 : Int32} (h_t3 : zs_in t3.toInt 5 5) {c : Int} (hc : x4.toInt = c + 0) : zs_ok (BX0_tickleByNets_121 σ 27 x2 x3 x4 x5 x6 t1 t2 t3) (fun r => zs_sum (fun v => ((zs_A σ0 v.1 ∧ zs_in (v.2).toInt 1 8)) ∧ v.2.toInt = c + 1) (fun v => False) r) := by
  unfold BX0_tickleByNets_121
  obtain rfl : t3 = (5 : Int32) := zs_eqv h_t3 (by decide)
  refine zs_gd (zs_gin h_t1 (by decide)) ?_
  refine zs_lt (Q := fun z => zs_A σ0 z) (zs_wrt h_σ (fun _ => rfl) (fun _ => rfl)) (fun σ_2 hσ_2 => ?_)
  refine zs_gd (zs_gin (zs_addI 6 179 h_x2 h_x6 (by decide)) (by decide)) ?_
  refine zs_bd_ (zA_118 h_x5) (fun t_5 pt_5 => ?_)
  refine zs_ite (fun c1 => ?_) (fun c1 => ?_)
  · skip
    have r2 := (zs_I_eq c1)
    have g3 : zs_in (t_5).toInt 0 0 := (zs_eql 0 0 r2 pt_5 zlI_0 (by decide))
    obtain ⟨ret, er, hr⟩ := zA_119 hσ_2 h_x2 h_x4 (zs_addI 6 179 h_x2 h_x6 (by decide)) zlI_0 hc
    refine ⟨ret, er, ?_⟩
    exact (zs_sumw hr (fun v w => ⟨w.1, w.2⟩) (fun v w => w.elim))
  · skip
    have r4 := (zs_I_eqn c1)
    have g5 : zs_in (t_5).toInt 1 1 := (zs_nel 1 1 r4 pt_5 zlI_0 (by decide))
    obtain ⟨ret, er, hr⟩ := zA_120 hσ_2 h_x2 h_x4 (zs_addI 6 179 h_x2 h_x6 (by decide)) zlI_5 hc
    refine ⟨ret, er, ?_⟩
    exact (zs_sumw hr (fun v w => ⟨w.1, w.2⟩) (fun v w => w.elim))
-- BX0_tickleByNets_55
theorem zA_123 {σ0 : sn_S} {σ : sn_S} (h_σ : zs_A σ0 σ) {x2 : Int32} (h_x2 : zs_in x2.toInt 6 174) {x3 : Int32} {x4 : Int32} (h_x4 : zs_in x4.toInt 0 8) {c : Int} (hc : x4.toInt = c + 0) : zs_ok (BX0_tickleByNets_55 σ 27 x2 x3 x4) (fun r => zs_sum (fun v => ((zs_A σ0 v.1 ∧ zs_in (v.2).toInt 1 8)) ∧ v.2.toInt = c + 1) (fun v => zs_A σ0 v) r) := by
  unfold BX0_tickleByNets_55
  refine zs_ite (fun c1 => ?_) (fun c1 => ?_)
  · skip
    have r2 := (zs_I_le c1)
    exact zs_some (zs_inr (h_σ))
  · skip
    have r3 := (zs_I_len c1)
    have g4 : zs_in (x4).toInt 0 7 := (zs_ltl 0 7 r3 h_x4 (zs_rdk (q := 27) (k := 2) (z := (0, 8)) h_σ.1 rfl) (by decide))
    have g5 : zs_in ((sn_I σ 27 2)).toInt 1 8 := (zs_ltr 1 8 r3 h_x4 (zs_rdk (q := 27) (k := 2) (z := (0, 8)) h_σ.1 rfl) (by decide))
    refine zs_ite (fun c6 => ?_) (fun c6 => ?_)
    · skip
      have r7 := (zs_I_eq c6)
      have g8 : zs_in ((sn_I σ 27 3)).toInt 0 7 := (zs_eqr 0 7 r7 g4 (zs_topI _) (by decide))
      obtain ⟨ret, er, hr⟩ := zA_117 h_σ h_x2 g4 hc
      refine ⟨ret, er, ?_⟩
      exact (zs_sumw hr (fun v w => ⟨w.1, w.2⟩) (fun v w => w.elim))
    · skip
      have r9 := (zs_I_eqn c6)
      refine zs_gd (zs_gin (zs_mulI 0 14 zlI_2 g4 (by decide)) (by decide)) ?_
      refine zs_lt (Q := fun z => zs_in z.toInt 0 5) (zs_use (h_σ.1.2 rfl).2.1.1 g4 (by decide) r3 (zs_i20 g4 (by decide))) (fun y_4 hy_4 => ?_)
      refine zs_gd (zs_gin (zs_addI 1 15 (zs_mulI 0 14 zlI_2 g4 (by decide)) zlI_1 (by decide)) (by decide)) ?_
      refine zs_lt (Q := fun z => zs_in z.toInt 0 5) (zs_use (h_σ.1.2 rfl).2.1.2 g4 (by decide) r3 (zs_i21 g4 (by decide))) (fun y_7 hy_7 => ?_)
      refine zs_gd (zs_gin (zs_addI 6 179 h_x2 hy_4 (by decide)) (by decide)) ?_
      refine zs_bd_ (zA_118 hy_7) (fun t_10 pt_10 => ?_)
      refine zs_ite (fun c10 => ?_) (fun c10 => ?_)
      · skip
        have r11 := (zs_I_eq c10)
        have g12 : zs_in (t_10).toInt 0 0 := (zs_eql 0 0 r11 pt_10 zlI_0 (by decide))
        obtain ⟨ret, er, hr⟩ := zA_121 h_σ h_x2 g4 hy_4 hy_7 (zs_addI 6 179 h_x2 hy_4 (by decide)) zlI_0 hc
        refine ⟨ret, er, ?_⟩
        exact (zs_sumw hr (fun v w => ⟨w.1, w.2⟩) (fun v w => w.elim))
      · skip
        have r13 := (zs_I_eqn c10)
        have g14 : zs_in (t_10).toInt 1 1 := (zs_nel 1 1 r13 pt_10 zlI_0 (by decide))
        obtain ⟨ret, er, hr⟩ := zA_122 h_σ h_x2 g4 hy_4 hy_7 (zs_addI 6 179 h_x2 hy_4 (by decide)) zlI_5 hc
        refine ⟨ret, er, ?_⟩
        exact (zs_sumw hr (fun v w => ⟨w.1, w.2⟩) (fun v w => w.elim))
theorem zB_23 {σ0 : sn_S} {x2 : Int32} (h_x2 : zs_in x2.toInt 6 174) {x3 : Int32} {s0 : (sn_S × Int32)} (h0 : (zs_A σ0 s0.1 ∧ zs_in (s0.2).toInt 0 8)) : zs_ok (sn_it (LX0_tickleByNets_55 27 x2 x3) 5000 s0) (fun t => zs_A σ0 t) := by
  refine zs_it (I := fun s => (zs_A σ0 s.1 ∧ zs_in (s.2).toInt 0 8)) (m := fun s => 8 - s.2.toInt) (fun s hs => ?_) (fun s hs => ?_) (by exact h0)
  · have h1 := hs.2; unfold zs_in at h1
    omega
  · obtain ⟨b, eb, hb⟩ := zA_123 hs.1 h_x2 hs.2 (c := s.2.toInt) (Int.add_zero _).symm
    exact ⟨b, eb, zs_sumw hb (fun v w => ⟨⟨w.1.1, (zs_w w.1.2 (by decide))⟩, by have := w.2; omega⟩) (fun v w => w)⟩
-- BX0_tickleByNets_155
theorem zA_124 {σ0 : sn_S} {σ : sn_S} (h_σ : zs_A σ0 σ) : zs_ok (BX0_tickleByNets_155 σ 27) (fun r => zs_A σ0 r) := by
  unfold BX0_tickleByNets_155
  exact zs_some h_σ
-- BX0_tickleByNets_46
theorem zA_125 {σ0 : sn_S} {σ : sn_S} (h_σ : zs_A σ0 σ) {x2 : Int32} (h_x2 : zs_in x2.toInt 6 174) {t0 : Int32} : zs_ok (BX0_tickleByNets_46 σ 27 x2 t0) (fun r => zs_A σ0 r) := by
  unfold BX0_tickleByNets_46
  refine zs_ite (fun c1 => ?_) (fun c1 => ?_)
  · skip
    have r2 := (zs_I_eq c1)
    have g3 : zs_in (t0).toInt 0 0 := (zs_eql 0 0 r2 (zs_topI _) zlI_0 (by decide))
    exact zs_some h_σ
  · skip
    have r4 := (zs_I_eqn c1)
    refine zs_bd_ (zB_23 h_x2 (s0 := (σ, (0 : Int32))) ⟨h_σ, (zs_w zlI_0 (by decide))⟩) (fun t_2 pt_2 => ?_)
    obtain ⟨ret, er, hr⟩ := zA_124 pt_2
    refine ⟨ret, er, ?_⟩
    exact hr
-- BX0_tickleByNets_30
theorem zA_126 {σ0 : sn_S} {σ : sn_S} (h_σ : zs_A σ0 σ) {x1 : Int32} (h_x1 : zs_in x1.toInt 0 29) {x2 : Int32} (h_x2 : zs_in x2.toInt 0 174) (hl_x1 : x2.toInt = 6 * x1.toInt) : zs_ok (BX0_tickleByNets_30 σ 27 x1 x2) (fun r => zs_A σ0 r) := by
  unfold BX0_tickleByNets_30
  refine zs_ite (fun c1 => ?_) (fun c1 => ?_)
  · skip
    have r2 := (zs_I_eq c1)
    have g3 : zs_in (x1).toInt 0 0 := (zs_eql 0 0 r2 h_x1 zlI_0 (by decide))
    have g4 : zs_in (x2).toInt 0 0 := (zs_lin 0 0 hl_x1 g3 (by decide))
    obtain ⟨ret, er, hr⟩ := zA_116 h_σ g4 zlI_0
    refine ⟨ret, er, ?_⟩
    exact hr
  · skip
    have r5 := (zs_I_eqn c1)
    have g6 : zs_in (x1).toInt 1 29 := (zs_nel 1 29 r5 h_x1 zlI_0 (by decide))
    have g7 : zs_in (x2).toInt 6 174 := (zs_lin 6 174 hl_x1 g6 (by decide))
    refine zs_gd (zs_gin (zs_subI 0 28 g6 zlI_1 (by decide)) (by decide)) ?_
    obtain ⟨ret, er, hr⟩ := zA_125 h_σ g7
    refine ⟨ret, er, ?_⟩
    exact hr
-- fX0_tickleByNets
theorem zA_127 {σ0 : sn_S} {σ : sn_S} (h_σ : zs_A σ0 σ) {x1 : Int32} (h_x1 : zs_in x1.toInt 0 29) : zs_ok (fX0_tickleByNets σ 27 x1) (fun r => zs_A σ0 r) := by
  unfold fX0_tickleByNets
  refine zs_lt (Q := fun z => zs_in z.toInt 0 174 ∧ z = ((6 : Int32) * x1)) ⟨(zs_mulI 0 174 zlI_6 h_x1 (by decide)), rfl⟩ (fun y_1 hy_1 => ?_)
  refine zs_bd_ (zB_22 h_x1 hy_1.1 (zs_linv hy_1.2 zlI_6 h_x1 (by decide)) (s0 := (σ, (0 : Int32))) ⟨h_σ, (zs_w zlI_0 (by decide))⟩) (fun t_3 pt_3 => ?_)
  obtain ⟨ret, er, hr⟩ := zA_126 pt_3 h_x1 hy_1.1 (zs_linv hy_1.2 zlI_6 h_x1 (by decide))
  refine ⟨ret, er, ?_⟩
  exact hr
-- fX8_hasBit
theorem zA_128 {x0 : Int32} {x1 : Int32} (h_x1 : zs_in x1.toInt 0 29) : zs_ok (fX8_hasBit x0 x1) (fun r => zs_in (r).toInt 0 1) := by
  unfold fX8_hasBit
  refine zs_ite (fun c1 => ?_) (fun c1 => ?_)
  · skip
    have r2 := (zs_I_eq c1)
    have g3 : zs_in (((x0 >>> (x1 &&& 31)) &&& (1 : Int32))).toInt 1 1 := (zs_eql 1 1 r2 (zs_and zlI_1 (by decide)) zlI_1 (by decide))
    refine zs_gd (zs_b01 zlI_1 (by decide)) ?_
    exact zs_some (zs_w zlI_1 (by decide))
  · skip
    have r4 := (zs_I_eqn c1)
    have g5 : zs_in (((x0 >>> (x1 &&& 31)) &&& (1 : Int32))).toInt 0 0 := (zs_neh 0 0 r4 (zs_and zlI_1 (by decide)) zlI_1 (by decide))
    refine zs_gd (zs_b01 zlI_0 (by decide)) ?_
    exact zs_some (zs_w zlI_0 (by decide))
-- fX0_cameAt
theorem zA_129 {σ0 : sn_S} {σ : sn_S} (h_σ : zs_A σ0 σ) {x1 : Int32} (h_x1 : zs_in x1.toInt 0 5) {x2 : Int32} (h_x2 : zs_in x2.toInt 0 29) : zs_ok (fX0_cameAt σ 27 x1 x2) (fun r => True) := by
  unfold fX0_cameAt
  refine zs_gd (zs_gin (zs_addI 0 179 (zs_mulI 0 174 zlI_6 h_x2 (by decide)) h_x1 (by decide)) (by decide)) ?_
  exact zs_some trivial
-- BX0_comesTo_19
theorem zA_130 {σ0 : sn_S} {σ : sn_S} (h_σ : zs_A σ0 σ) {x1 : Int32} (h_x1 : zs_in x1.toInt 0 5) {x2 : Int32} (h_x2 : zs_in x2.toInt 0 29) {t0 : Int32} (h_t0 : zs_in t0.toInt 0 0) : zs_ok (BX0_comesTo_19 σ 27 x1 x2 t0) (fun r => True) := by
  unfold BX0_comesTo_19
  obtain rfl : t0 = (0 : Int32) := zs_eqv h_t0 (by decide)
  refine zs_gd (zs_gin h_x1 (by decide)) ?_
  refine zs_gd (zs_gin h_x2 (by decide)) ?_
  refine zs_bd_ (zA_129 h_σ h_x1 h_x2) (fun t_3 pt_3 => ?_)
  exact zs_some trivial
-- BX0_comesTo_19
theorem zA_131 {σ0 : sn_S} {σ : sn_S} (h_σ : zs_A σ0 σ) {x1 : Int32} (h_x1 : zs_in x1.toInt 0 5) {x2 : Int32} (h_x2 : zs_in x2.toInt 0 29) {t0 : Int32} (h_t0 : zs_in t0.toInt 40 40) : zs_ok (BX0_comesTo_19 σ 27 x1 x2 t0) (fun r => True) := by
  unfold BX0_comesTo_19
  obtain rfl : t0 = (40 : Int32) := zs_eqv h_t0 (by decide)
  refine zs_gd (zs_gin h_x1 (by decide)) ?_
  refine zs_gd (zs_gin h_x2 (by decide)) ?_
  refine zs_bd_ (zA_129 h_σ h_x1 h_x2) (fun t_3 pt_3 => ?_)
  exact zs_some trivial
-- fX0_comesTo
theorem zA_132 {σ0 : sn_S} {σ : sn_S} (h_σ : zs_A σ0 σ) {x1 : Int32} (h_x1 : zs_in x1.toInt 0 5) {x2 : Int32} (h_x2 : zs_in x2.toInt 0 29) : zs_ok (fX0_comesTo σ 27 x1 x2) (fun r => True) := by
  unfold fX0_comesTo
  refine zs_gd (zs_gin h_x1 (by decide)) ?_
  refine zs_bd_ (zA_128 h_x2) (fun t_2 pt_2 => ?_)
  refine zs_ite (fun c1 => ?_) (fun c1 => ?_)
  · skip
    have r2 := (zs_I_eq c1)
    have g3 : zs_in (t_2).toInt 0 0 := (zs_eql 0 0 r2 pt_2 zlI_0 (by decide))
    obtain ⟨ret, er, hr⟩ := zA_130 h_σ h_x1 h_x2 zlI_0
    refine ⟨ret, er, ?_⟩
    exact hr
  · skip
    have r4 := (zs_I_eqn c1)
    have g5 : zs_in (t_2).toInt 1 1 := (zs_nel 1 1 r4 pt_2 zlI_0 (by decide))
    obtain ⟨ret, er, hr⟩ := zA_131 h_σ h_x1 h_x2 zlI_40
    refine ⟨ret, er, ?_⟩
    exact hr
-- BX0_liveMinute_98
theorem zA_133 {σ0 : sn_S} {σ : sn_S} (h_σ : zs_A σ0 σ) {x1 : Int32} (h_x1 : zs_in x1.toInt 0 0) {x2 : Int32} (h_x2 : zs_in x2.toInt 0 0) {x3 : Int32} {x4 : Int32} (h_x4 : zs_in x4.toInt 0 5) {x5 : Int32} (h_x5 : zs_in x5.toInt (-2147483648) 2147483646) (hl_x1 : x2.toInt = 6 * x1.toInt) {c : Int} (hc : x4.toInt = c + 0) : zs_ok (BX0_liveMinute_98 σ 27 x1 x2 x3 x4 x5) (fun r => zs_sum (fun v => ((zs_A σ0 v.1 ∧ (True ∧ zs_in (v.2.2).toInt 1 6))) ∧ v.2.2.toInt = c + 1) (fun v => False) r) := by
  unfold BX0_liveMinute_98
  refine zs_gd (zs_gin (zs_addI 0 5 h_x2 h_x4 (by decide)) (by decide)) ?_
  refine zs_lt (Q := fun z => zs_A σ0 z) (zs_wrt h_σ (fun _ => rfl) (fun _ => rfl)) (fun σ_2 hσ_2 => ?_)
  refine zs_lt (Q := fun z => zs_in z.toInt 1 6 ∧ z.toInt = c + 1) ⟨(zs_addI 1 6 h_x4 zlI_1 (by decide)), (zs_syI 1 hc h_x4 zlI_1 (by decide) (by decide))⟩ (fun y_4 hy_4 => ?_)
  exact zs_some (zs_inl ⟨⟨hσ_2, ⟨trivial, hy_4.1⟩⟩, hy_4.2⟩)
-- fX8_hasBit
theorem zA_134 {x0 : Int32} {x1 : Int32} (h_x1 : zs_in x1.toInt 0 0) : zs_ok (fX8_hasBit x0 x1) (fun r => zs_in (r).toInt 0 1) := by
  unfold fX8_hasBit
  obtain rfl : x1 = (0 : Int32) := zs_eqv h_x1 (by decide)
  refine zs_ite (fun c1 => ?_) (fun c1 => ?_)
  · skip
    have r2 := (zs_I_eq c1)
    have g3 : zs_in (((x0 >>> ((0 : Int32) &&& 31)) &&& (1 : Int32))).toInt 1 1 := (zs_eql 1 1 r2 (zs_and zlI_1 (by decide)) zlI_1 (by decide))
    refine zs_gd (zs_b01 zlI_1 (by decide)) ?_
    exact zs_some (zs_w zlI_1 (by decide))
  · skip
    have r4 := (zs_I_eqn c1)
    have g5 : zs_in (((x0 >>> ((0 : Int32) &&& 31)) &&& (1 : Int32))).toInt 0 0 := (zs_neh 0 0 r4 (zs_and zlI_1 (by decide)) zlI_1 (by decide))
    refine zs_gd (zs_b01 zlI_0 (by decide)) ?_
    exact zs_some (zs_w zlI_0 (by decide))
-- BX0_liveMinute_98
theorem zA_135 {σ0 : sn_S} {σ : sn_S} (h_σ : zs_A σ0 σ) {x1 : Int32} (h_x1 : zs_in x1.toInt 0 0) {x2 : Int32} (h_x2 : zs_in x2.toInt 0 0) {x3 : Int32} {x4 : Int32} (h_x4 : zs_in x4.toInt 0 5) {x5 : Int32} (h_x5 : zs_in x5.toInt 0 0) (hl_x1 : x2.toInt = 6 * x1.toInt) {c : Int} (hc : x4.toInt = c + 0) : zs_ok (BX0_liveMinute_98 σ 27 x1 x2 x3 x4 x5) (fun r => zs_sum (fun v => ((zs_A σ0 v.1 ∧ (True ∧ zs_in (v.2.2).toInt 1 6))) ∧ v.2.2.toInt = c + 1) (fun v => False) r) := by
  unfold BX0_liveMinute_98
  obtain rfl : x5 = (0 : Int32) := zs_eqv h_x5 (by decide)
  refine zs_gd (zs_gin (zs_addI 0 5 h_x2 h_x4 (by decide)) (by decide)) ?_
  refine zs_lt (Q := fun z => zs_A σ0 z) (zs_wrt h_σ (fun _ => rfl) (fun _ => rfl)) (fun σ_2 hσ_2 => ?_)
  refine zs_lt (Q := fun z => zs_in z.toInt 1 6 ∧ z.toInt = c + 1) ⟨(zs_addI 1 6 h_x4 zlI_1 (by decide)), (zs_syI 1 hc h_x4 zlI_1 (by decide) (by decide))⟩ (fun y_4 hy_4 => ?_)
  exact zs_some (zs_inl ⟨⟨hσ_2, ⟨trivial, hy_4.1⟩⟩, hy_4.2⟩)
-- BX0_liveMinute_98
theorem zA_136 {σ0 : sn_S} {σ : sn_S} (h_σ : zs_A σ0 σ) {x1 : Int32} (h_x1 : zs_in x1.toInt 0 0) {x2 : Int32} (h_x2 : zs_in x2.toInt 0 0) {x3 : Int32} {x4 : Int32} (h_x4 : zs_in x4.toInt 0 5) {x5 : Int32} (hl_x1 : x2.toInt = 6 * x1.toInt) {c : Int} (hc : x4.toInt = c + 0) : zs_ok (BX0_liveMinute_98 σ 27 x1 x2 x3 x4 x5) (fun r => zs_sum (fun v => ((zs_A σ0 v.1 ∧ (True ∧ zs_in (v.2.2).toInt 1 6))) ∧ v.2.2.toInt = c + 1) (fun v => False) r) := by
  unfold BX0_liveMinute_98
  refine zs_gd (zs_gin (zs_addI 0 5 h_x2 h_x4 (by decide)) (by decide)) ?_
  refine zs_lt (Q := fun z => zs_A σ0 z) (zs_wrt h_σ (fun _ => rfl) (fun _ => rfl)) (fun σ_2 hσ_2 => ?_)
  refine zs_lt (Q := fun z => zs_in z.toInt 1 6 ∧ z.toInt = c + 1) ⟨(zs_addI 1 6 h_x4 zlI_1 (by decide)), (zs_syI 1 hc h_x4 zlI_1 (by decide) (by decide))⟩ (fun y_4 hy_4 => ?_)
  exact zs_some (zs_inl ⟨⟨hσ_2, ⟨trivial, hy_4.1⟩⟩, hy_4.2⟩)
-- BX0_liveMinute_46
theorem zA_137 {σ0 : sn_S} {σ : sn_S} (h_σ : zs_A σ0 σ) {x1 : Int32} (h_x1 : zs_in x1.toInt 0 0) {x2 : Int32} (h_x2 : zs_in x2.toInt 0 0) {x3 : Int32} {x4 : Int32} (h_x4 : zs_in x4.toInt 0 5) {t0 : Int32} {t1 : Int32} (h_t1 : zs_in t1.toInt 0 0) (hl_x1 : x2.toInt = 6 * x1.toInt) {c : Int} (hc : x4.toInt = c + 0) : zs_ok (BX0_liveMinute_46 σ 27 x1 x2 x3 x4 t0 t1) (fun r => zs_sum (fun v => ((zs_A σ0 v.1 ∧ (True ∧ zs_in (v.2.2).toInt 1 6))) ∧ v.2.2.toInt = c + 1) (fun v => False) r) := by
  unfold BX0_liveMinute_46
  obtain rfl : t1 = (0 : Int32) := zs_eqv h_t1 (by decide)
  refine zs_lt (Q := fun z => True) trivial (fun y_1 hy_1 => ?_)
  refine zs_gd (zs_gin h_x4 (by decide)) ?_
  refine zs_ite (fun c1 => ?_) (fun c1 => ?_)
  · skip
    have r2 := (zs_I_lt c1)
    have g3 : zs_in (y_1).toInt (-2147483648) 2147483646 := (zs_ltl (-2147483648) 2147483646 r2 (zs_topI _) (zs_topI _) (by decide))
    have g4 : zs_in ((sn_I σ (27 + 3) x4.toNatClampNeg)).toInt (-2147483647) 2147483647 := (zs_ltr (-2147483647) 2147483647 r2 (zs_topI _) (zs_topI _) (by decide))
    obtain ⟨ret, er, hr⟩ := zA_133 h_σ h_x1 h_x2 h_x4 g3 hl_x1 hc
    refine ⟨ret, er, ?_⟩
    exact (zs_sumw hr (fun v w => ⟨w.1, w.2⟩) (fun v w => w.elim))
  · skip
    have r5 := (zs_I_ltn c1)
    refine zs_gd (zs_gin h_x4 (by decide)) ?_
    refine zs_bd_ (zA_134 h_x1) (fun t_6 pt_6 => ?_)
    refine zs_ite (fun c6 => ?_) (fun c6 => ?_)
    · skip
      have r7 := (zs_I_eq c6)
      have g8 : zs_in (t_6).toInt 0 0 := (zs_eql 0 0 r7 pt_6 zlI_0 (by decide))
      refine zs_lt (Q := fun z => True) trivial (fun y_9 hy_9 => ?_)
      refine zs_gd (zs_gin h_x4 (by decide)) ?_
      refine zs_gd (zs_gin h_x4 (by decide)) ?_
      refine zs_lt (Q := fun z => zs_A σ0 z) (zs_wru (z := (0, 1073741823)) h_σ (fun _ => rfl) (zs_or 30 1073741823 (zs_rdu (q := 37) (z := (0, 1073741823)) h_σ.1 (fun _ => rfl)) (zs_cases h_x1 (fun z => zs_in ((1 : Int32) <<< (z &&& 31)).toInt 1 1) (by decide +kernel)) (by decide)) (by decide) (fun _ => rfl)) (fun σ_13 hσ_13 => ?_)
      obtain ⟨ret, er, hr⟩ := zA_135 hσ_13 h_x1 h_x2 h_x4 zlI_0 hl_x1 hc
      refine ⟨ret, er, ?_⟩
      exact (zs_sumw hr (fun v w => ⟨w.1, w.2⟩) (fun v w => w.elim))
    · skip
      have r9 := (zs_I_eqn c6)
      have g10 : zs_in (t_6).toInt 1 1 := (zs_nel 1 1 r9 pt_6 zlI_0 (by decide))
      obtain ⟨ret, er, hr⟩ := zA_136 h_σ h_x1 h_x2 h_x4 hl_x1 hc
      refine ⟨ret, er, ?_⟩
      exact (zs_sumw hr (fun v w => ⟨w.1, w.2⟩) (fun v w => w.elim))
-- BX0_liveMinute_98
theorem zA_138 {σ0 : sn_S} {σ : sn_S} (h_σ : zs_A σ0 σ) {x1 : Int32} (h_x1 : zs_in x1.toInt 1 29) {x2 : Int32} (h_x2 : zs_in x2.toInt 6 174) {x3 : Int32} {x4 : Int32} (h_x4 : zs_in x4.toInt 0 5) {x5 : Int32} (h_x5 : zs_in x5.toInt (-2147483648) 2147483646) (hl_x1 : x2.toInt = 6 * x1.toInt) {c : Int} (hc : x4.toInt = c + 0) : zs_ok (BX0_liveMinute_98 σ 27 x1 x2 x3 x4 x5) (fun r => zs_sum (fun v => ((zs_A σ0 v.1 ∧ (True ∧ zs_in (v.2.2).toInt 1 6))) ∧ v.2.2.toInt = c + 1) (fun v => False) r) := by
  unfold BX0_liveMinute_98
  refine zs_gd (zs_gin (zs_addI 6 179 h_x2 h_x4 (by decide)) (by decide)) ?_
  refine zs_lt (Q := fun z => zs_A σ0 z) (zs_wrt h_σ (fun _ => rfl) (fun _ => rfl)) (fun σ_2 hσ_2 => ?_)
  refine zs_lt (Q := fun z => zs_in z.toInt 1 6 ∧ z.toInt = c + 1) ⟨(zs_addI 1 6 h_x4 zlI_1 (by decide)), (zs_syI 1 hc h_x4 zlI_1 (by decide) (by decide))⟩ (fun y_4 hy_4 => ?_)
  exact zs_some (zs_inl ⟨⟨hσ_2, ⟨trivial, hy_4.1⟩⟩, hy_4.2⟩)
-- fX8_hasBit
theorem zA_139 {x0 : Int32} {x1 : Int32} (h_x1 : zs_in x1.toInt 1 29) : zs_ok (fX8_hasBit x0 x1) (fun r => zs_in (r).toInt 0 1) := by
  unfold fX8_hasBit
  refine zs_ite (fun c1 => ?_) (fun c1 => ?_)
  · skip
    have r2 := (zs_I_eq c1)
    have g3 : zs_in (((x0 >>> (x1 &&& 31)) &&& (1 : Int32))).toInt 1 1 := (zs_eql 1 1 r2 (zs_and zlI_1 (by decide)) zlI_1 (by decide))
    refine zs_gd (zs_b01 zlI_1 (by decide)) ?_
    exact zs_some (zs_w zlI_1 (by decide))
  · skip
    have r4 := (zs_I_eqn c1)
    have g5 : zs_in (((x0 >>> (x1 &&& 31)) &&& (1 : Int32))).toInt 0 0 := (zs_neh 0 0 r4 (zs_and zlI_1 (by decide)) zlI_1 (by decide))
    refine zs_gd (zs_b01 zlI_0 (by decide)) ?_
    exact zs_some (zs_w zlI_0 (by decide))
-- BX0_liveMinute_98
theorem zA_140 {σ0 : sn_S} {σ : sn_S} (h_σ : zs_A σ0 σ) {x1 : Int32} (h_x1 : zs_in x1.toInt 1 29) {x2 : Int32} (h_x2 : zs_in x2.toInt 6 174) {x3 : Int32} {x4 : Int32} (h_x4 : zs_in x4.toInt 0 5) {x5 : Int32} (h_x5 : zs_in x5.toInt 0 0) (hl_x1 : x2.toInt = 6 * x1.toInt) {c : Int} (hc : x4.toInt = c + 0) : zs_ok (BX0_liveMinute_98 σ 27 x1 x2 x3 x4 x5) (fun r => zs_sum (fun v => ((zs_A σ0 v.1 ∧ (True ∧ zs_in (v.2.2).toInt 1 6))) ∧ v.2.2.toInt = c + 1) (fun v => False) r) := by
  unfold BX0_liveMinute_98
  obtain rfl : x5 = (0 : Int32) := zs_eqv h_x5 (by decide)
  refine zs_gd (zs_gin (zs_addI 6 179 h_x2 h_x4 (by decide)) (by decide)) ?_
  refine zs_lt (Q := fun z => zs_A σ0 z) (zs_wrt h_σ (fun _ => rfl) (fun _ => rfl)) (fun σ_2 hσ_2 => ?_)
  refine zs_lt (Q := fun z => zs_in z.toInt 1 6 ∧ z.toInt = c + 1) ⟨(zs_addI 1 6 h_x4 zlI_1 (by decide)), (zs_syI 1 hc h_x4 zlI_1 (by decide) (by decide))⟩ (fun y_4 hy_4 => ?_)
  exact zs_some (zs_inl ⟨⟨hσ_2, ⟨trivial, hy_4.1⟩⟩, hy_4.2⟩)
-- BX0_liveMinute_98
theorem zA_141 {σ0 : sn_S} {σ : sn_S} (h_σ : zs_A σ0 σ) {x1 : Int32} (h_x1 : zs_in x1.toInt 1 29) {x2 : Int32} (h_x2 : zs_in x2.toInt 6 174) {x3 : Int32} {x4 : Int32} (h_x4 : zs_in x4.toInt 0 5) {x5 : Int32} (hl_x1 : x2.toInt = 6 * x1.toInt) {c : Int} (hc : x4.toInt = c + 0) : zs_ok (BX0_liveMinute_98 σ 27 x1 x2 x3 x4 x5) (fun r => zs_sum (fun v => ((zs_A σ0 v.1 ∧ (True ∧ zs_in (v.2.2).toInt 1 6))) ∧ v.2.2.toInt = c + 1) (fun v => False) r) := by
  unfold BX0_liveMinute_98
  refine zs_gd (zs_gin (zs_addI 6 179 h_x2 h_x4 (by decide)) (by decide)) ?_
  refine zs_lt (Q := fun z => zs_A σ0 z) (zs_wrt h_σ (fun _ => rfl) (fun _ => rfl)) (fun σ_2 hσ_2 => ?_)
  refine zs_lt (Q := fun z => zs_in z.toInt 1 6 ∧ z.toInt = c + 1) ⟨(zs_addI 1 6 h_x4 zlI_1 (by decide)), (zs_syI 1 hc h_x4 zlI_1 (by decide) (by decide))⟩ (fun y_4 hy_4 => ?_)
  exact zs_some (zs_inl ⟨⟨hσ_2, ⟨trivial, hy_4.1⟩⟩, hy_4.2⟩)
-- BX0_liveMinute_46
theorem zA_142 {σ0 : sn_S} {σ : sn_S} (h_σ : zs_A σ0 σ) {x1 : Int32} (h_x1 : zs_in x1.toInt 1 29) {x2 : Int32} (h_x2 : zs_in x2.toInt 6 174) {x3 : Int32} {x4 : Int32} (h_x4 : zs_in x4.toInt 0 5) {t0 : Int32} {t1 : Int32} (hl_x1 : x2.toInt = 6 * x1.toInt) {c : Int} (hc : x4.toInt = c + 0) : zs_ok (BX0_liveMinute_46 σ 27 x1 x2 x3 x4 t0 t1) (fun r => zs_sum (fun v => ((zs_A σ0 v.1 ∧ (True ∧ zs_in (v.2.2).toInt 1 6))) ∧ v.2.2.toInt = c + 1) (fun v => False) r) := by
  unfold BX0_liveMinute_46
  refine zs_lt (Q := fun z => True) trivial (fun y_1 hy_1 => ?_)
  refine zs_gd (zs_gin h_x4 (by decide)) ?_
  refine zs_ite (fun c1 => ?_) (fun c1 => ?_)
  · skip
    have r2 := (zs_I_lt c1)
    have g3 : zs_in (y_1).toInt (-2147483648) 2147483646 := (zs_ltl (-2147483648) 2147483646 r2 (zs_topI _) (zs_topI _) (by decide))
    have g4 : zs_in ((sn_I σ (27 + 3) x4.toNatClampNeg)).toInt (-2147483647) 2147483647 := (zs_ltr (-2147483647) 2147483647 r2 (zs_topI _) (zs_topI _) (by decide))
    obtain ⟨ret, er, hr⟩ := zA_138 h_σ h_x1 h_x2 h_x4 g3 hl_x1 hc
    refine ⟨ret, er, ?_⟩
    exact (zs_sumw hr (fun v w => ⟨w.1, w.2⟩) (fun v w => w.elim))
  · skip
    have r5 := (zs_I_ltn c1)
    refine zs_gd (zs_gin h_x4 (by decide)) ?_
    refine zs_bd_ (zA_139 h_x1) (fun t_6 pt_6 => ?_)
    refine zs_ite (fun c6 => ?_) (fun c6 => ?_)
    · skip
      have r7 := (zs_I_eq c6)
      have g8 : zs_in (t_6).toInt 0 0 := (zs_eql 0 0 r7 pt_6 zlI_0 (by decide))
      refine zs_lt (Q := fun z => True) trivial (fun y_9 hy_9 => ?_)
      refine zs_gd (zs_gin h_x4 (by decide)) ?_
      refine zs_gd (zs_gin h_x4 (by decide)) ?_
      refine zs_lt (Q := fun z => zs_A σ0 z) (zs_wru (z := (0, 1073741823)) h_σ (fun _ => rfl) (zs_or 30 1073741823 (zs_rdu (q := 37) (z := (0, 1073741823)) h_σ.1 (fun _ => rfl)) (zs_cases h_x1 (fun z => zs_in ((1 : Int32) <<< (z &&& 31)).toInt 2 536870912) (by decide +kernel)) (by decide)) (by decide) (fun _ => rfl)) (fun σ_13 hσ_13 => ?_)
      obtain ⟨ret, er, hr⟩ := zA_140 hσ_13 h_x1 h_x2 h_x4 zlI_0 hl_x1 hc
      refine ⟨ret, er, ?_⟩
      exact (zs_sumw hr (fun v w => ⟨w.1, w.2⟩) (fun v w => w.elim))
    · skip
      have r9 := (zs_I_eqn c6)
      have g10 : zs_in (t_6).toInt 1 1 := (zs_nel 1 1 r9 pt_6 zlI_0 (by decide))
      obtain ⟨ret, er, hr⟩ := zA_141 h_σ h_x1 h_x2 h_x4 hl_x1 hc
      refine ⟨ret, er, ?_⟩
      exact (zs_sumw hr (fun v w => ⟨w.1, w.2⟩) (fun v w => w.elim))
-- BX0_liveMinute_10
theorem zA_143 {σ0 : sn_S} {σ : sn_S} (h_σ : zs_A σ0 σ) {x1 : Int32} (h_x1 : zs_in x1.toInt 0 29) {x2 : Int32} (h_x2 : zs_in x2.toInt 0 174) {x3 : Int32} {x4 : Int32} (h_x4 : zs_in x4.toInt 0 6) (hl_x1 : x2.toInt = 6 * x1.toInt) {c : Int} (hc : x4.toInt = c + 0) : zs_ok (BX0_liveMinute_10 σ 27 x1 x2 x3 x4) (fun r => zs_sum (fun v => ((zs_A σ0 v.1 ∧ (True ∧ zs_in (v.2.2).toInt 1 6))) ∧ v.2.2.toInt = c + 1) (fun v => (zs_A σ0 v.1 ∧ True)) r) := by
  unfold BX0_liveMinute_10
  refine zs_ite (fun c1 => ?_) (fun c1 => ?_)
  · skip
    have r2 := (zs_I_le c1)
    exact zs_some (zs_inr (⟨h_σ, trivial⟩))
  · skip
    have r3 := (zs_I_len c1)
    have g4 : zs_in (x4).toInt 0 5 := (zs_ltl 0 5 r3 h_x4 (zs_rdk (q := 27) (k := 1) (z := (0, 6)) h_σ.1 rfl) (by decide))
    have g5 : zs_in ((sn_I σ 27 1)).toInt 1 6 := (zs_ltr 1 6 r3 h_x4 (zs_rdk (q := 27) (k := 1) (z := (0, 6)) h_σ.1 rfl) (by decide))
    refine zs_bd_ (zA_132 h_σ g4 h_x1) (fun t_2 pt_2 => ?_)
    refine zs_ite (fun c6 => ?_) (fun c6 => ?_)
    · skip
      have r7 := (zs_I_eq c6)
      have g8 : zs_in (x1).toInt 0 0 := (zs_eql 0 0 r7 h_x1 zlI_0 (by decide))
      have g9 : zs_in (x2).toInt 0 0 := (zs_lin 0 0 hl_x1 g8 (by decide))
      obtain ⟨ret, er, hr⟩ := zA_137 h_σ g8 g9 g4 zlI_0 hl_x1 hc
      refine ⟨ret, er, ?_⟩
      exact (zs_sumw hr (fun v w => ⟨w.1, w.2⟩) (fun v w => w.elim))
    · skip
      have r10 := (zs_I_eqn c6)
      have g11 : zs_in (x1).toInt 1 29 := (zs_nel 1 29 r10 h_x1 zlI_0 (by decide))
      have g12 : zs_in (x2).toInt 6 174 := (zs_lin 6 174 hl_x1 g11 (by decide))
      refine zs_gd (zs_gin (zs_addI 0 173 (zs_subI 0 168 g12 zlI_6 (by decide)) g4 (by decide)) (by decide)) ?_
      obtain ⟨ret, er, hr⟩ := zA_142 h_σ g11 g12 g4 hl_x1 hc
      refine ⟨ret, er, ?_⟩
      exact (zs_sumw hr (fun v w => ⟨w.1, w.2⟩) (fun v w => w.elim))
theorem zB_24 {σ0 : sn_S} {x1 : Int32} (h_x1 : zs_in x1.toInt 0 29) {x2 : Int32} (h_x2 : zs_in x2.toInt 0 174) (hl_x1 : x2.toInt = 6 * x1.toInt) {s0 : (sn_S × (Int32 × Int32))} (h0 : (zs_A σ0 s0.1 ∧ (True ∧ zs_in (s0.2.2).toInt 0 6))) : zs_ok (sn_it (LX0_liveMinute_10 27 x1 x2) 5000 s0) (fun t => (zs_A σ0 t.1 ∧ True)) := by
  refine zs_it (I := fun s => (zs_A σ0 s.1 ∧ (True ∧ zs_in (s.2.2).toInt 0 6))) (m := fun s => 6 - s.2.2.toInt) (fun s hs => ?_) (fun s hs => ?_) (by exact h0)
  · have h1 := hs.2.2; unfold zs_in at h1
    omega
  · obtain ⟨b, eb, hb⟩ := zA_143 hs.1 h_x1 h_x2 hs.2.2 hl_x1 (c := s.2.2.toInt) (Int.add_zero _).symm
    exact ⟨b, eb, zs_sumw hb (fun v w => ⟨⟨w.1.1, ⟨w.1.2.1, (zs_w w.1.2.2 (by decide))⟩⟩, by have := w.2; omega⟩) (fun v w => w)⟩
-- BX0_liveMinute_115
theorem zA_144 {σ0 : sn_S} {σ : sn_S} (h_σ : zs_A σ0 σ) {x1 : Int32} (h_x1 : zs_in x1.toInt 0 29) {x3 : Int32} : zs_ok (BX0_liveMinute_115 σ 27 x1 x3) (fun r => zs_A σ0 r) := by
  unfold BX0_liveMinute_115
  refine zs_gd (zs_gin h_x1 (by decide)) ?_
  refine zs_lt (Q := fun z => zs_A σ0 z) (zs_wrt h_σ (fun _ => rfl) (fun _ => rfl)) (fun σ_2 hσ_2 => ?_)
  exact zs_some hσ_2
-- fX0_liveMinute
theorem zA_145 {σ0 : sn_S} {σ : sn_S} (h_σ : zs_A σ0 σ) {x1 : Int32} (h_x1 : zs_in x1.toInt 0 29) : zs_ok (fX0_liveMinute σ 27 x1) (fun r => zs_A σ0 r) := by
  unfold fX0_liveMinute
  refine zs_lt (Q := fun z => zs_in z.toInt 0 174 ∧ z = ((6 : Int32) * x1)) ⟨(zs_mulI 0 174 zlI_6 h_x1 (by decide)), rfl⟩ (fun y_1 hy_1 => ?_)
  refine zs_bd_ (zB_24 h_x1 hy_1.1 (zs_linv hy_1.2 zlI_6 h_x1 (by decide)) (s0 := (σ, ((0 : Int32), (0 : Int32)))) ⟨h_σ, ⟨trivial, (zs_w zlI_0 (by decide))⟩⟩) (fun t_3 pt_3 => ?_)
  obtain ⟨ret, er, hr⟩ := zA_144 pt_3.1 h_x1
  refine ⟨ret, er, ?_⟩
  exact hr
-- BX0_live_31
theorem zA_146 {σ0 : sn_S} {σ : sn_S} (h_σ : zs_A σ0 σ) {x2 : Int32} (h_x2 : zs_in x2.toInt 0 30) {x3 : Int32} (h_x3 : zs_in x3.toInt 0 30) {c : Int} (hc : x3.toInt = c + 0) : zs_ok (BX0_live_31 σ 27 x2 x3) (fun r => zs_sum (fun v => ((zs_A σ0 v.1 ∧ zs_in (v.2).toInt 1 30)) ∧ v.2.toInt = c + 1) (fun v => zs_A σ0 v) r) := by
  unfold BX0_live_31
  refine zs_ite (fun c1 => ?_) (fun c1 => ?_)
  · skip
    have r2 := (zs_I_le c1)
    exact zs_some (zs_inr (h_σ))
  · skip
    have r3 := (zs_I_len c1)
    have g4 : zs_in (x3).toInt 0 29 := (zs_ltl 0 29 r3 h_x3 h_x2 (by decide))
    have g5 : zs_in (x2).toInt 1 30 := (zs_ltr 1 30 r3 h_x3 h_x2 (by decide))
    refine zs_ite (fun c6 => ?_) (fun c6 => ?_)
    · skip
      have r7 := (zs_I_le c6)
      have g8 : zs_in ((sn_I σ 27 0)).toInt 0 29 := (zs_lel 0 29 r7 (zs_rdk (q := 27) (k := 0) (z := (0, 30)) h_σ.1 rfl) g4 (by decide))
      exact zs_some (zs_inr (h_σ))
    · skip
      have r9 := (zs_I_len c6)
      have g10 : zs_in ((sn_I σ 27 0)).toInt 1 30 := (zs_ltr 1 30 r9 g4 (zs_rdk (q := 27) (k := 0) (z := (0, 30)) h_σ.1 rfl) (by decide))
      refine zs_bd_ (zA_127 h_σ g4) (fun t_3 pt_3 => ?_)
      refine zs_bd_ (zA_145 pt_3 g4) (fun t_5 pt_5 => ?_)
      refine zs_lt (Q := fun z => zs_in z.toInt 1 30 ∧ z.toInt = c + 1) ⟨(zs_addI 1 30 g4 zlI_1 (by decide)), (zs_syI 1 hc g4 zlI_1 (by decide) (by decide))⟩ (fun y_7 hy_7 => ?_)
      exact zs_some (zs_inl ⟨⟨pt_5, hy_7.1⟩, hy_7.2⟩)
theorem zB_25 {σ0 : sn_S} {x2 : Int32} (h_x2 : zs_in x2.toInt 0 30) {s0 : (sn_S × Int32)} (h0 : (zs_A σ0 s0.1 ∧ zs_in (s0.2).toInt 0 30)) : zs_ok (sn_it (LX0_live_31 27 x2) 5000 s0) (fun t => zs_A σ0 t) := by
  refine zs_it (I := fun s => (zs_A σ0 s.1 ∧ zs_in (s.2).toInt 0 30)) (m := fun s => 30 - s.2.toInt) (fun s hs => ?_) (fun s hs => ?_) (by exact h0)
  · have h1 := hs.2; unfold zs_in at h1
    omega
  · obtain ⟨b, eb, hb⟩ := zA_146 hs.1 h_x2 hs.2 (c := s.2.toInt) (Int.add_zero _).symm
    exact ⟨b, eb, zs_sumw hb (fun v w => ⟨⟨w.1.1, (zs_w w.1.2 (by decide))⟩, by have := w.2; omega⟩) (fun v w => w)⟩
-- BX0_live_60
theorem zA_147 {σ0 : sn_S} {σ : sn_S} (h_σ : zs_A σ0 σ) : zs_ok (BX0_live_60 σ 27) (fun r => zs_A σ0 r) := by
  unfold BX0_live_60
  exact zs_some h_σ
-- BX0_live_29
theorem zA_148 {σ0 : sn_S} {σ : sn_S} (h_σ : zs_A σ0 σ) {x1 : Int32} (h_x1 : zs_in x1.toInt 0 0) {x2 : Int32} (h_x2 : zs_in x2.toInt 0 30) : zs_ok (BX0_live_29 σ 27 x1 x2) (fun r => zs_A σ0 r) := by
  unfold BX0_live_29
  obtain rfl : x1 = (0 : Int32) := zs_eqv h_x1 (by decide)
  refine zs_bd_ (zB_25 h_x2 (s0 := (σ, (0 : Int32))) ⟨h_σ, (zs_w h_x1 (by decide))⟩) (fun t_1 pt_1 => ?_)
  obtain ⟨ret, er, hr⟩ := zA_147 pt_1
  refine ⟨ret, er, ?_⟩
  exact hr
-- fX0_live
theorem zA_149 {σ0 : sn_S} {σ : sn_S} (h_σ : zs_A σ0 σ) {x1 : Int32} (h_x1 : zs_in x1.toInt 0 0) {x2 : Int32} (h_x2 : zs_in x2.toInt 0 30) : zs_ok (fX0_live σ 27 x1 x2) (fun r => zs_A σ0 r) := by
  unfold fX0_live
  obtain rfl : x1 = (0 : Int32) := zs_eqv h_x1 (by decide)
  refine zs_bd_ (zB_21 h_x1 h_x2 (s0 := (σ, (0 : Int32))) ⟨h_σ, (zs_w zlI_0 (by decide))⟩) (fun t_1 pt_1 => ?_)
  obtain ⟨ret, er, hr⟩ := zA_148 pt_1 h_x1 h_x2
  refine ⟨ret, er, ?_⟩
  exact hr
-- fX0_liveWhole
theorem zA_150 {σ0 : sn_S} {σ : sn_S} (h_σ : zs_A σ0 σ) : zs_ok (fX0_liveWhole σ 27) (fun r => zs_A σ0 r) := by
  unfold fX0_liveWhole
  refine zs_bd_ (zA_149 h_σ zlI_0 (zs_rdk (q := 27) (k := 0) (z := (0, 30)) h_σ.1 rfl)) (fun t_1 pt_1 => ?_)
  exact zs_some pt_1
-- fX8_liveAnew
theorem zA_151 {σ0 : sn_S} {σ : sn_S} (h_σ : zs_A σ0 σ) : zs_ok (fX8_liveAnew σ) (fun r => zs_A σ0 r) := by
  unfold fX8_liveAnew
  refine zs_bd_ (zA_112 h_σ) (fun t_1 pt_1 => ?_)
  refine zs_bd_ (zA_150 pt_1) (fun t_3 pt_3 => ?_)
  exact zs_some pt_3
-- fX0_tickleAt
theorem zA_152 {σ0 : sn_S} {σ : sn_S} (h_σ : zs_A σ0 σ) {x1 : Int32} (h_x1 : zs_in x1.toInt 0 5) {x2 : Int32} (h_x2 : zs_in x2.toInt 0 29) : zs_ok (fX0_tickleAt σ 27 x1 x2) (fun r => True) := by
  unfold fX0_tickleAt
  refine zs_gd (zs_gin (zs_addI 0 179 (zs_mulI 0 174 zlI_6 h_x2 (by decide)) h_x1 (by decide)) (by decide)) ?_
  exact zs_some trivial
-- fX8_stifle
theorem zA_153 {σ0 : sn_S} {σ : sn_S} (h_σ : zs_A σ0 σ) {x1 : Int32} {x2 : Int32} : zs_ok (fX8_stifle σ x1 x2) (fun r => ((True ∧ zs_A σ0 r.2)) ∧ ((r.1).toInt = (-2) ∨ (zs_in (x1).toInt 0 5 ∧ zs_in (x2).toInt 0 29))) := by
  unfold fX8_stifle
  refine zs_bd_ (zA_95 h_σ) (fun t_1 pt_1 => ?_)
  refine zs_ite (fun c1 => ?_) (fun c1 => ?_)
  · skip
    have r2 := (zs_I_eq c1)
    have g3 : zs_in (t_1).toInt 0 0 := (zs_eql 0 0 r2 pt_1.1 zlI_0 (by decide))
    exact zs_some ⟨⟨trivial, h_σ⟩, Or.inl (zs_ptr zlI_m2)⟩
  · skip
    have r4 := (zs_I_eqn c1)
    have g5 : zs_in (t_1).toInt 1 1 := (zs_nel 1 1 r4 pt_1.1 zlI_0 (by decide))
    have q6 := (zs_or2 pt_1.2 g5 (by decide))
    have g7 : zs_in (x1).toInt 0 5 := q6
    refine zs_bd_ (zA_96 h_σ) (fun t_4 pt_4 => ?_)
    refine zs_ite (fun c8 => ?_) (fun c8 => ?_)
    · skip
      have r9 := (zs_I_eq c8)
      have g10 : zs_in (t_4).toInt 0 0 := (zs_eql 0 0 r9 pt_4.1 zlI_0 (by decide))
      exact zs_some ⟨⟨trivial, h_σ⟩, Or.inl (zs_ptr zlI_m2)⟩
    · skip
      have r11 := (zs_I_eqn c8)
      have g12 : zs_in (t_4).toInt 1 1 := (zs_nel 1 1 r11 pt_4.1 zlI_0 (by decide))
      have q13 := (zs_or2 pt_4.2 g12 (by decide))
      have g14 : zs_in (x2).toInt 0 29 := q13
      refine zs_bd_ (zA_97 h_σ zlI_0 g7 g14) (fun t_7 pt_7 => ?_)
      refine zs_ite (fun c15 => ?_) (fun c15 => ?_)
      · skip
        have r16 := (zs_I_eq c15)
        have g17 : zs_in (t_7.1).toInt 0 0 := (zs_eql 0 0 r16 pt_7.1 zlI_0 (by decide))
        exact zs_some ⟨⟨trivial, pt_7.2⟩, Or.inr ⟨g7, g14⟩⟩
      · skip
        have r18 := (zs_I_eqn c15)
        have g19 : zs_in (t_7.1).toInt 1 1 := (zs_nel 1 1 r18 pt_7.1 zlI_0 (by decide))
        refine zs_bd_ (zA_151 pt_7.2) (fun t_10 pt_10 => ?_)
        refine zs_bd_ (zA_152 pt_10 g7 g14) (fun t_12 pt_12 => ?_)
        exact zs_some ⟨⟨trivial, pt_10⟩, Or.inr ⟨g7, g14⟩⟩
-- fX9_in
theorem zA_154 {x0 : Int64} (h_x0 : zs_in x0.toInt (-2147483648) 2147483647) {x2 : Int64} (h_x2 : zs_in x2.toInt 0 0) {x4 : Int64} (h_x4 : zs_in x4.toInt (-1) 29) : zs_ok (fX9_in x0 x2 x4) (fun r => (zs_in (r).toInt 0 1) ∧ ((r).toInt = 0 ∨ (zs_in (x0).toInt 0 29 ∧ zs_in (x4).toInt 0 29))) := by
  unfold fX9_in
  refine zs_ite (fun c1 => ?_) (fun c1 => ?_)
  · skip
    have r2 := (zs_lg_lt c1)
    have g3 : zs_in (x0).toInt (-2147483648) (-1) := (zs_ltl (-2147483648) (-1) r2 h_x0 h_x2 (by decide))
    refine zs_gd (zs_b01 zlI_0 (by decide)) ?_
    exact zs_some ⟨(zs_w zlI_0 (by decide)), Or.inl (zs_ptr zlI_0)⟩
  · skip
    have r4 := (zs_lg_ltn c1)
    have g5 : zs_in (x0).toInt 0 2147483647 := (zs_ler 0 2147483647 r4 h_x2 h_x0 (by decide))
    refine zs_ite (fun c6 => ?_) (fun c6 => ?_)
    · skip
      have r7 := (zs_lg_ltf c6)
      refine zs_gd (zs_b01 zlI_0 (by decide)) ?_
      exact zs_some ⟨(zs_w zlI_0 (by decide)), Or.inl (zs_ptr zlI_0)⟩
    · skip
      have r8 := (zs_lg_ltfn c6)
      have g9 : zs_in (x0).toInt 0 29 := (zs_lel 0 29 r8 g5 h_x4 (by decide))
      have g10 : zs_in (x4).toInt 0 29 := (zs_ler 0 29 r8 g5 h_x4 (by decide))
      refine zs_gd (zs_b01 zlI_1 (by decide)) ?_
      exact zs_some ⟨(zs_w zlI_1 (by decide)), Or.inr ⟨g9, g10⟩⟩
-- fX9_isMinute
theorem zA_155 {σ0 : sn_S} {σ : sn_S} (h_σ : zs_M0 σ0 σ) {x1 : Int64} (h_x1 : zs_in x1.toInt (-2147483648) 2147483647) : zs_ok (fX9_isMinute σ x1) (fun r => (zs_in (r).toInt 0 1) ∧ ((r).toInt = 0 ∨ (zs_in (x1).toInt 0 29))) := by
  unfold fX9_isMinute
  refine zs_gd (zs_gin zlI_0 (by decide)) ?_
  refine zs_bd_ (zA_154 h_x1 zlL_0 (zs_64 (zs_subI (-1) 29 (zs_rdk (q := 1) (k := (0 : Int32).toNatClampNeg) (z := (0, 30)) h_σ.1 rfl) zlI_1 (by decide)))) (fun t_2 pt_2 => ?_)
  refine zs_gd (zs_b01 pt_2.1 (by decide)) ?_
  rcases pt_2.2 with z0 | z0
  · skip
    have g1 : zs_in (t_2).toInt 0 0 := (zs_pt z0)
    exact zs_some ⟨(zs_w g1 (by decide)), Or.inl (zs_ptr g1)⟩
  · skip
    have q2 := z0
    have g3 : zs_in (x1).toInt 0 29 := q2.1
    have g4 : zs_in (((sn_I σ 1 (0 : Int32).toNatClampNeg) - (1 : Int32)).toInt64).toInt 0 29 := q2.2
    have g5 : zs_in (((sn_I σ 1 (0 : Int32).toNatClampNeg) - (1 : Int32))).toInt 0 29 := (zs_64r g4)
    have g6 : zs_in ((sn_I σ 1 (0 : Int32).toNatClampNeg)).toInt 1 30 := (zs_sublI 1 30 (zs_rdk (q := 1) (k := (0 : Int32).toNatClampNeg) (z := (0, 30)) h_σ.1 rfl) zlI_1 g5 (by decide))
    exact zs_some ⟨pt_2.1, Or.inr g3⟩
theorem zo_keepAct {σ0 σ : sn_S} (h_σ : zs_M0 σ0 σ) {x1 : Int32} {a b : Int} (h_x1 : zs_in x1.toInt a b) (hd : 0 ≤ a ∧ b ≤ 1199) : zs_ok (fX9_keepAct σ x1) (fun r => (zs_in (r.1).toInt (-5) 0 ∧ zs_M0 σ0 r.2)) := by
  have h9 : zs_in (sn_I σ 1 (9 : Int32).toNatClampNeg).toInt 0 40 := zs_rdk (q := 1) (k := (9 : Int32).toNatClampNeg) (z := (0, 40)) h_σ.1 rfl
  unfold fX9_keepAct
  refine zs_gd (by decide) ?_
  refine zs_ite (fun c => ?_) (fun c => ?_)
  · exact zs_some ⟨(by decide : zs_in (-5 : Int32).toInt (-5) 0), h_σ⟩
  · have c2 := zs_I_eqn c
    have h9b : zs_in (sn_I σ 1 (9 : Int32).toNatClampNeg).toInt 0 39 := by
      have e : (40 : Int32).toInt = 40 := by decide
      exact ⟨by omega, by omega⟩
    have hi : zs_in ((79 : Int32) + sn_I σ 1 (9 : Int32).toNatClampNeg).toInt 79 118 := zs_addI 79 118 (by decide : zs_in (79 : Int32).toInt 79 79) h9b (by decide)
    refine zs_gd (by decide) (zs_gd (zs_gin hi (by decide)) ?_)
    have hw : zs_M0 σ0 (sn_pI σ 1 ((79 : Int32) + sn_I σ 1 (9 : Int32).toNatClampNeg).toNatClampNeg x1) := zs_wrb h_σ (zs_w h_x1 (show 0 ≤ a ∧ b ≤ 1199 from hd)) (zs_range hi (fun k => zs_wb (zs_tM 1 k) 0 1199 ∧ zs_fr zs_tM zs_kM0 1 k = false) (by decide +kernel))
    refine zs_lt (Q := fun z => zs_M0 σ0 z ∧ zs_in (sn_I z 1 (9 : Int32).toNatClampNeg).toInt 0 39) ⟨hw, ?_⟩ (fun z hz => ?_)
    · have hne : ¬ ((9 : Int32).toNatClampNeg = ((79 : Int32) + sn_I σ 1 (9 : Int32).toNatClampNeg).toNatClampNeg) := by
        have e1 : ((79 : Int32) + sn_I σ 1 (9 : Int32).toNatClampNeg).toNatClampNeg = ((79 : Int32) + sn_I σ 1 (9 : Int32).toNatClampNeg).toInt.toNat := rfl
        have e2 : (9 : Int32).toNatClampNeg = 9 := by decide
        omega
      show zs_in (if 1 = 1 ∧ (9 : Int32).toNatClampNeg = ((79 : Int32) + sn_I σ 1 (9 : Int32).toNatClampNeg).toNatClampNeg then x1 else sn_I σ 1 (9 : Int32).toNatClampNeg).toInt 0 39
      rw [if_neg (fun e => hne e.2)]
      exact h9b
    · refine zs_gd (by decide) (zs_gd (by decide) ?_)
      refine zs_lt (Q := fun z => zs_M0 σ0 z) (zs_wrk (z := (0, 40)) hz.1 rfl (zs_addI 1 40 hz.2 (by decide : zs_in (1 : Int32).toInt 1 1) (by decide)) (by decide) rfl) (fun y hy => ?_)
      refine zs_bd_ (zA_61 hy) (fun t ht => ?_)
      exact zs_some ⟨(by decide : zs_in (0 : Int32).toInt (-5) 0), ht.2⟩
-- fX9_stifle
theorem zA_156 {σ0 : sn_S} {σ : sn_S} (h_σ : zs_M0 σ0 σ) {x1 : Int32} {x2 : Int32} : zs_ok (fX9_stifle σ x1 x2) (fun r => ((True ∧ zs_M0 σ0 r.2)) ∧ ((r.1).toInt = (-2) ∨ (zs_in (x1).toInt 0 5 ∧ zs_in (x2).toInt 0 29))) := by
  unfold fX9_stifle
  refine zs_bd_ (zA_2 h_σ (zs_64 (zs_topI _))) (fun t_1 pt_1 => ?_)
  refine zs_ite (fun c1 => ?_) (fun c1 => ?_)
  · skip
    have r2 := (zs_I_eq c1)
    have g3 : zs_in (t_1).toInt 0 0 := (zs_eql 0 0 r2 pt_1.1 zlI_0 (by decide))
    exact zs_some ⟨⟨trivial, h_σ⟩, Or.inl (zs_ptr zlI_m2)⟩
  · skip
    have r4 := (zs_I_eqn c1)
    have g5 : zs_in (t_1).toInt 1 1 := (zs_nel 1 1 r4 pt_1.1 zlI_0 (by decide))
    have q6 := (zs_or2 pt_1.2 g5 (by decide))
    have g7 : zs_in (x1.toInt64).toInt 0 5 := q6
    have g8 : zs_in (x1).toInt 0 5 := (zs_64r g7)
    refine zs_bd_ (zA_155 h_σ (zs_64 (zs_topI _))) (fun t_4 pt_4 => ?_)
    refine zs_ite (fun c9 => ?_) (fun c9 => ?_)
    · skip
      have r10 := (zs_I_eq c9)
      have g11 : zs_in (t_4).toInt 0 0 := (zs_eql 0 0 r10 pt_4.1 zlI_0 (by decide))
      exact zs_some ⟨⟨trivial, h_σ⟩, Or.inl (zs_ptr zlI_m2)⟩
    · skip
      have r12 := (zs_I_eqn c9)
      have g13 : zs_in (t_4).toInt 1 1 := (zs_nel 1 1 r12 pt_4.1 zlI_0 (by decide))
      have q14 := (zs_or2 pt_4.2 g13 (by decide))
      have g15 : zs_in (x2.toInt64).toInt 0 29 := q14
      have g16 : zs_in (x2).toInt 0 29 := (zs_64r g15)
      refine zs_bd_ (zo_keepAct h_σ (zs_addI 0 1058 (zs_mulI 0 1000 zlI_200 g8 (by decide)) (zs_mulI 0 58 zlI_2 g16 (by decide)) (by decide)) (by decide)) (fun t_7 pt_7 => ?_)
      refine zs_ite (fun c17 => ?_) (fun c17 => ?_)
      · skip
        have r18 := (zs_I_le c17)
        have g19 : zs_in (t_7.1).toInt 0 0 := (zs_ler 0 0 r18 zlI_0 pt_7.1 (by decide))
        refine zs_gd (zs_gin (zs_addI 0 179 (zs_mulI 0 174 zlI_6 g16 (by decide)) g8 (by decide)) (by decide)) ?_
        exact zs_some ⟨⟨trivial, pt_7.2⟩, Or.inr ⟨g8, g16⟩⟩
      · skip
        have r20 := (zs_I_len c17)
        have g21 : zs_in (t_7.1).toInt (-5) (-1) := (zs_ltl (-5) (-1) r20 pt_7.1 zlI_0 (by decide))
        exact zs_some ⟨⟨trivial, pt_7.2⟩, Or.inr ⟨g8, g16⟩⟩
-- fX2_act
theorem zA_157 {σ0 : sn_S} {σ : sn_S} (h_σ : zs_A σ0 σ) {x1 : Int32} (h_x1 : zs_in x1.toInt 1 1) {x2 : Int32} (h_x2 : zs_in x2.toInt 0 5) {x3 : Int32} (h_x3 : zs_in x3.toInt 0 29) : zs_ok (fX2_act σ 1 x1 x2 x3) (fun r => (zs_in (r.1).toInt 0 1 ∧ zs_A σ0 r.2)) := by
  unfold fX2_act
  obtain rfl : x1 = (1 : Int32) := zs_eqv h_x1 (by decide)
  refine zs_gd (zs_gin zlI_9 (by decide)) ?_
  refine zs_lt (Q := fun z => zs_in z.toInt 0 40) (zs_rdk (q := 2) (k := (9 : Int32).toNatClampNeg) (z := (0, 40)) h_σ.1 rfl) (fun y_2 hy_2 => ?_)
  refine zs_ite (fun c1 => ?_) (fun c1 => ?_)
  · skip
    have r2 := (zs_I_lt c1)
    have g3 : zs_in (y_2).toInt 0 39 := (zs_ltl 0 39 r2 hy_2 zlI_40 (by decide))
    refine zs_gd (zs_gin (zs_mulI 0 117 zlI_3 g3 (by decide)) (by decide)) ?_
    refine zs_lt (Q := fun z => zs_A σ0 z) (zs_wru (z := (0, 29)) h_σ (fun _ => rfl) h_x1 (by decide) (fun _ => rfl)) (fun σ_6 hσ_6 => ?_)
    refine zs_gd (zs_gin (zs_addI 1 118 (zs_mulI 0 117 zlI_3 g3 (by decide)) zlI_1 (by decide)) (by decide)) ?_
    refine zs_lt (Q := fun z => zs_A σ0 z) (zs_wru (z := (0, 29)) hσ_6 (fun _ => rfl) h_x2 (by decide) (fun _ => rfl)) (fun σ_9 hσ_9 => ?_)
    refine zs_gd (zs_gin (zs_addI 2 119 (zs_mulI 0 117 zlI_3 g3 (by decide)) zlI_2 (by decide)) (by decide)) ?_
    refine zs_lt (Q := fun z => zs_A σ0 z) (zs_wru (z := (0, 29)) hσ_9 (fun _ => rfl) h_x3 (by decide) (fun _ => rfl)) (fun σ_12 hσ_12 => ?_)
    refine zs_gd (zs_gin zlI_9 (by decide)) ?_
    refine zs_lt (Q := fun z => zs_A σ0 z) (zs_wrk (z := (0, 40)) hσ_12 rfl (zs_addI 1 40 g3 zlI_1 (by decide)) (by decide) rfl) (fun σ_15 hσ_15 => ?_)
    refine zs_gd (zs_b01 zlI_1 (by decide)) ?_
    exact zs_some ⟨(zs_w zlI_1 (by decide)), hσ_15⟩
  · skip
    have r4 := (zs_I_ltn c1)
    have g5 : zs_in (y_2).toInt 40 40 := (zs_ler 40 40 r4 zlI_40 hy_2 (by decide))
    refine zs_gd (zs_b01 zlI_0 (by decide)) ?_
    exact zs_some ⟨(zs_w zlI_0 (by decide)), h_σ⟩
-- fX8_hasBit
theorem zA_158 {x0 : Int32} (h_x0 : zs_in x0.toInt 0 1073741823) {x1 : Int32} (h_x1 : zs_in x1.toInt 0 29) : zs_ok (fX8_hasBit x0 x1) (fun r => zs_in (r).toInt 0 1) := by
  unfold fX8_hasBit
  refine zs_ite (fun c1 => ?_) (fun c1 => ?_)
  · skip
    have r2 := (zs_I_eq c1)
    have g3 : zs_in (((x0 >>> (x1 &&& 31)) &&& (1 : Int32))).toInt 1 1 := (zs_eql 1 1 r2 (zs_and zlI_1 (by decide)) zlI_1 (by decide))
    refine zs_gd (zs_b01 zlI_1 (by decide)) ?_
    exact zs_some (zs_w zlI_1 (by decide))
  · skip
    have r4 := (zs_I_eqn c1)
    have g5 : zs_in (((x0 >>> (x1 &&& 31)) &&& (1 : Int32))).toInt 0 0 := (zs_neh 0 0 r4 (zs_and zlI_1 (by decide)) zlI_1 (by decide))
    refine zs_gd (zs_b01 zlI_0 (by decide)) ?_
    exact zs_some (zs_w zlI_0 (by decide))
-- fX8_sniff
theorem zA_159 {σ0 : sn_S} {σ : sn_S} (h_σ : zs_A σ0 σ) {x1 : Int32} {x2 : Int32} : zs_ok (fX8_sniff σ x1 x2) (fun r => ((zs_in (r.1).toInt (-5) 1 ∧ zs_A σ0 r.2)) ∧ ((r.1).toInt = (-2) ∨ (zs_in (x1).toInt 0 5 ∧ zs_in (x2).toInt 0 29))) := by
  unfold fX8_sniff
  refine zs_bd_ (zA_95 h_σ) (fun t_1 pt_1 => ?_)
  refine zs_ite (fun c1 => ?_) (fun c1 => ?_)
  · skip
    have r2 := (zs_I_eq c1)
    have g3 : zs_in (t_1).toInt 0 0 := (zs_eql 0 0 r2 pt_1.1 zlI_0 (by decide))
    exact zs_some ⟨⟨(zs_w zlI_m2 (by decide)), h_σ⟩, Or.inl (zs_ptr zlI_m2)⟩
  · skip
    have r4 := (zs_I_eqn c1)
    have g5 : zs_in (t_1).toInt 1 1 := (zs_nel 1 1 r4 pt_1.1 zlI_0 (by decide))
    have q6 := (zs_or2 pt_1.2 g5 (by decide))
    have g7 : zs_in (x1).toInt 0 5 := q6
    refine zs_bd_ (zA_96 h_σ) (fun t_4 pt_4 => ?_)
    refine zs_ite (fun c8 => ?_) (fun c8 => ?_)
    · skip
      have r9 := (zs_I_eq c8)
      have g10 : zs_in (t_4).toInt 0 0 := (zs_eql 0 0 r9 pt_4.1 zlI_0 (by decide))
      exact zs_some ⟨⟨(zs_w zlI_m2 (by decide)), h_σ⟩, Or.inl (zs_ptr zlI_m2)⟩
    · skip
      have r11 := (zs_I_eqn c8)
      have g12 : zs_in (t_4).toInt 1 1 := (zs_nel 1 1 r11 pt_4.1 zlI_0 (by decide))
      have q13 := (zs_or2 pt_4.2 g12 (by decide))
      have g14 : zs_in (x2).toInt 0 29 := q13
      refine zs_bd_ (zA_157 h_σ zlI_1 g7 g14) (fun t_7 pt_7 => ?_)
      refine zs_ite (fun c15 => ?_) (fun c15 => ?_)
      · skip
        have r16 := (zs_I_eq c15)
        have g17 : zs_in (t_7.1).toInt 0 0 := (zs_eql 0 0 r16 pt_7.1 zlI_0 (by decide))
        exact zs_some ⟨⟨(zs_w zlI_m5 (by decide)), pt_7.2⟩, Or.inr ⟨g7, g14⟩⟩
      · skip
        have r18 := (zs_I_eqn c15)
        have g19 : zs_in (t_7.1).toInt 1 1 := (zs_nel 1 1 r18 pt_7.1 zlI_0 (by decide))
        refine zs_bd_ (zA_151 pt_7.2) (fun t_10 pt_10 => ?_)
        refine zs_gd (zs_gin g7 (by decide)) ?_
        refine zs_bd_ (zA_158 (zs_rdu (q := 37) (z := (0, 1073741823)) pt_10.1 (fun _ => rfl)) g14) (fun t_13 pt_13 => ?_)
        refine zs_ite (fun c20 => ?_) (fun c20 => ?_)
        · skip
          have r21 := (zs_I_eq c20)
          have g22 : zs_in (t_13).toInt 0 0 := (zs_eql 0 0 r21 pt_13 zlI_0 (by decide))
          exact zs_some ⟨⟨(zs_w zlI_0 (by decide)), pt_10⟩, Or.inr ⟨g7, g14⟩⟩
        · skip
          have r23 := (zs_I_eqn c20)
          have g24 : zs_in (t_13).toInt 1 1 := (zs_nel 1 1 r23 pt_13 zlI_0 (by decide))
          exact zs_some ⟨⟨(zs_w zlI_1 (by decide)), pt_10⟩, Or.inr ⟨g7, g14⟩⟩
-- fX9_bit
theorem zA_160 {x0 : Int32} (h_x0 : zs_in x0.toInt 0 1073741823) {x1 : Int32} (h_x1 : zs_in x1.toInt 0 29) : zs_ok (fX9_bit x0 x1) (fun r => zs_in (r).toInt 0 1) := by
  unfold fX9_bit
  exact zs_some (zs_and zlI_1 (by decide))
-- fX9_sniff
theorem zA_161 {σ0 : sn_S} {σ : sn_S} (h_σ : zs_M0 σ0 σ) {x1 : Int32} {x2 : Int32} : zs_ok (fX9_sniff σ x1 x2) (fun r => ((zs_in (r.1).toInt (-5) 1 ∧ zs_M0 σ0 r.2)) ∧ ((r.1).toInt = (-2) ∨ (zs_in (x1).toInt 0 5 ∧ zs_in (x2).toInt 0 29))) := by
  unfold fX9_sniff
  refine zs_bd_ (zA_2 h_σ (zs_64 (zs_topI _))) (fun t_1 pt_1 => ?_)
  refine zs_ite (fun c1 => ?_) (fun c1 => ?_)
  · skip
    have r2 := (zs_I_eq c1)
    have g3 : zs_in (t_1).toInt 0 0 := (zs_eql 0 0 r2 pt_1.1 zlI_0 (by decide))
    exact zs_some ⟨⟨(zs_w zlI_m2 (by decide)), h_σ⟩, Or.inl (zs_ptr zlI_m2)⟩
  · skip
    have r4 := (zs_I_eqn c1)
    have g5 : zs_in (t_1).toInt 1 1 := (zs_nel 1 1 r4 pt_1.1 zlI_0 (by decide))
    have q6 := (zs_or2 pt_1.2 g5 (by decide))
    have g7 : zs_in (x1.toInt64).toInt 0 5 := q6
    have g8 : zs_in (x1).toInt 0 5 := (zs_64r g7)
    refine zs_bd_ (zA_155 h_σ (zs_64 (zs_topI _))) (fun t_4 pt_4 => ?_)
    refine zs_ite (fun c9 => ?_) (fun c9 => ?_)
    · skip
      have r10 := (zs_I_eq c9)
      have g11 : zs_in (t_4).toInt 0 0 := (zs_eql 0 0 r10 pt_4.1 zlI_0 (by decide))
      exact zs_some ⟨⟨(zs_w zlI_m2 (by decide)), h_σ⟩, Or.inl (zs_ptr zlI_m2)⟩
    · skip
      have r12 := (zs_I_eqn c9)
      have g13 : zs_in (t_4).toInt 1 1 := (zs_nel 1 1 r12 pt_4.1 zlI_0 (by decide))
      have q14 := (zs_or2 pt_4.2 g13 (by decide))
      have g15 : zs_in (x2.toInt64).toInt 0 29 := q14
      have g16 : zs_in (x2).toInt 0 29 := (zs_64r g15)
      refine zs_bd_ (zo_keepAct h_σ (zs_addI 1 1059 (zs_addI 0 1058 (zs_mulI 0 1000 zlI_200 g8 (by decide)) (zs_mulI 0 58 zlI_2 g16 (by decide)) (by decide)) zlI_1 (by decide)) (by decide)) (fun t_7 pt_7 => ?_)
      refine zs_ite (fun c17 => ?_) (fun c17 => ?_)
      · skip
        have r18 := (zs_I_le c17)
        have g19 : zs_in (t_7.1).toInt 0 0 := (zs_ler 0 0 r18 zlI_0 pt_7.1 (by decide))
        refine zs_gd (zs_gin g8 (by decide)) ?_
        refine zs_bd_ (zA_160 (zs_rdu (q := 10) (z := (0, 1073741823)) pt_7.2.1 (fun _ => rfl)) g16) (fun t_11 pt_11 => ?_)
        exact zs_some ⟨⟨(zs_w pt_11 (by decide)), pt_7.2⟩, Or.inr ⟨g8, g16⟩⟩
      · skip
        have r20 := (zs_I_len c17)
        have g21 : zs_in (t_7.1).toInt (-5) (-1) := (zs_ltl (-5) (-1) r20 pt_7.1 zlI_0 (by decide))
        exact zs_some ⟨⟨(zs_w zlI_m5 (by decide)), pt_7.2⟩, Or.inr ⟨g8, g16⟩⟩
-- fX8_isHouse
theorem zA_167 {σ0 : sn_S} {σ : sn_S} (h_σ : zs_A σ0 σ) {x1 : Int32} (h_x1 : zs_in x1.toInt 0 5) {x2 : Int32} (h_x2 : zs_in x2.toInt 4 4) : zs_ok (fX2_ofPolicy σ 1 x1 x2) (fun r => True) := by
  unfold fX2_ofPolicy
  obtain rfl : x2 = (4 : Int32) := zs_eqv h_x2 (by decide)
  refine zs_gd (zs_gin (zs_addI 4 29 (zs_mulI 0 25 zlI_5 h_x1 (by decide)) h_x2 (by decide)) (by decide)) ?_
  exact zs_some trivial
-- fX8_rate
theorem zA_168 {σ0 : sn_S} {σ : sn_S} (h_σ : zs_A σ0 σ) {x1 : Int32} {x2 : Int32} : zs_ok (fX8_rate σ x1 x2) (fun r => ((True ∧ zs_A σ0 r.2)) ∧ ((r.1).toInt = (-2) ∨ (zs_in (x1).toInt 0 5 ∧ zs_in (x2).toInt 0 99))) := by
  unfold fX8_rate
  refine zs_bd_ (zoA_isPolicy h_σ) (fun t_1 pt_1 => ?_)
  refine zs_ite (fun c1 => ?_) (fun c1 => ?_)
  · skip
    have r2 := (zs_I_eq c1)
    have g3 : zs_in (t_1).toInt 0 0 := (zs_eql 0 0 r2 pt_1.1 zlI_0 (by decide))
    exact zs_some ⟨⟨trivial, h_σ⟩, Or.inl (zs_ptr zlI_m2)⟩
  · skip
    have r4 := (zs_I_eqn c1)
    have g5 : zs_in (t_1).toInt 1 1 := (zs_nel 1 1 r4 pt_1.1 zlI_0 (by decide))
    have q6 := (zs_or2 pt_1.2.1 g5 (by decide))
    have g7 : zs_in (x1).toInt 0 5 := q6
    haveI := zs_or2 pt_1.2.2 g5 (by decide)
    refine zs_ite (fun c8 => ?_) (fun c8 => ?_)
    · skip
      have r9 := (zs_I_lt c8)
      have g10 : zs_in (x2).toInt (-2147483648) (-1) := (zs_ltl (-2147483648) (-1) r9 (zs_topI _) zlI_0 (by decide))
      exact zs_some ⟨⟨trivial, h_σ⟩, Or.inl (zs_ptr zlI_m2)⟩
    · skip
      have r11 := (zs_I_ltn c8)
      have g12 : zs_in (x2).toInt 0 2147483647 := (zs_ler 0 2147483647 r11 zlI_0 (zs_topI _) (by decide))
      refine zs_ite (fun c13 => ?_) (fun c13 => ?_)
      · skip
        have r14 := (zs_I_le c13)
        have g15 : zs_in (x2).toInt 0 99 := (zs_lel 0 99 r14 g12 zlI_99 (by decide))
        refine zs_gd (zs_gin zlI_9 (by decide)) ?_
        refine zs_ite (fun c16 => ?_) (fun c16 => ?_)
        · skip
          have r17 := (zs_I_le c16)
          have g18 : zs_in ((sn_I σ (1 + 1) (9 : Int32).toNatClampNeg)).toInt 0 0 := (zs_lel 0 0 r17 (zs_rdk (q := 2) (k := (9 : Int32).toNatClampNeg) (z := (0, 40)) h_σ.1 rfl) zlI_0 (by decide))
          refine zs_bd_ (zA_167 h_σ g7 zlI_4) (fun t_8 pt_8 => ?_)
          refine zs_gd (zs_gin (zs_addI 4 29 (zs_mulI 0 25 zlI_5 g7 (by decide)) zlI_4 (by decide)) (by decide)) ?_
          refine zs_lt (Q := fun z => zs_A σ0 z) (zs_wrb h_σ g15 (zs_cases g7 (fun z => zs_wb (zs_tC 6 (((5 : Int32) * z) + (4 : Int32)).toNatClampNeg) 0 99 ∧ zs_fr zs_tC zs_kA 6 (((5 : Int32) * z) + (4 : Int32)).toNatClampNeg = false) (by decide +kernel))) (fun σ_11 hσ_11 => ?_)
          exact zs_some ⟨⟨trivial, hσ_11⟩, Or.inr ⟨g7, g15⟩⟩
        · skip
          have r19 := (zs_I_len c16)
          have g20 : zs_in ((sn_I σ (1 + 1) (9 : Int32).toNatClampNeg)).toInt 1 40 := (zs_ltr 1 40 r19 zlI_0 (zs_rdk (q := 2) (k := (9 : Int32).toNatClampNeg) (z := (0, 40)) h_σ.1 rfl) (by decide))
          exact zs_some ⟨⟨trivial, h_σ⟩, Or.inr ⟨g7, g15⟩⟩
      · skip
        have r21 := (zs_I_len c13)
        have g22 : zs_in (x2).toInt 100 2147483647 := (zs_ltr 100 2147483647 r21 zlI_99 g12 (by decide))
        exact zs_some ⟨⟨trivial, h_σ⟩, Or.inl (zs_ptr zlI_m2)⟩
-- fX9_isPolicy
theorem zA_169 {σ0 : sn_S} {σ : sn_S} (h_σ : zs_M0 σ0 σ) {x1 : Int32} : zs_ok (fX9_isPolicy σ x1) (fun r => (zs_in (r).toInt 0 1) ∧ ((r).toInt = 0 ∨ (zs_in (x1).toInt 0 5))) := by
  unfold fX9_isPolicy
  refine zs_gd (zs_gin zlI_8 (by decide)) ?_
  refine zs_bd_ (zA_1 (zs_64 (zs_topI _)) zlL_0 (zs_64 (zs_subI (-1) 5 (zs_rdk (q := 1) (k := (8 : Int32).toNatClampNeg) (z := (0, 6)) h_σ.1 rfl) zlI_1 (by decide)))) (fun t_2 pt_2 => ?_)
  refine zs_gd (zs_b01 pt_2.1 (by decide)) ?_
  rcases pt_2.2 with z0 | z0
  · skip
    have g1 : zs_in (t_2).toInt 0 0 := (zs_pt z0)
    exact zs_some ⟨(zs_w g1 (by decide)), Or.inl (zs_ptr g1)⟩
  · skip
    have q2 := z0
    have g3 : zs_in (x1.toInt64).toInt 0 5 := q2.1
    have g4 : zs_in (x1).toInt 0 5 := (zs_64r g3)
    have g5 : zs_in (((sn_I σ 1 (8 : Int32).toNatClampNeg) - (1 : Int32)).toInt64).toInt 0 5 := q2.2
    have g6 : zs_in (((sn_I σ 1 (8 : Int32).toNatClampNeg) - (1 : Int32))).toInt 0 5 := (zs_64r g5)
    have g7 : zs_in ((sn_I σ 1 (8 : Int32).toNatClampNeg)).toInt 1 6 := (zs_sublI 1 6 (zs_rdk (q := 1) (k := (8 : Int32).toNatClampNeg) (z := (0, 6)) h_σ.1 rfl) zlI_1 g6 (by decide))
    exact zs_some ⟨pt_2.1, Or.inr g4⟩
-- fX9_in
theorem zA_170 {x0 : Int64} (h_x0 : zs_in x0.toInt (-2147483648) 2147483647) {x2 : Int64} (h_x2 : zs_in x2.toInt 0 0) {x4 : Int64} (h_x4 : zs_in x4.toInt 99 99) : zs_ok (fX9_in x0 x2 x4) (fun r => (zs_in (r).toInt 0 1) ∧ ((r).toInt = 0 ∨ (zs_in (x0).toInt 0 99))) := by
  unfold fX9_in
  refine zs_ite (fun c1 => ?_) (fun c1 => ?_)
  · skip
    have r2 := (zs_lg_lt c1)
    have g3 : zs_in (x0).toInt (-2147483648) (-1) := (zs_ltl (-2147483648) (-1) r2 h_x0 h_x2 (by decide))
    refine zs_gd (zs_b01 zlI_0 (by decide)) ?_
    exact zs_some ⟨(zs_w zlI_0 (by decide)), Or.inl (zs_ptr zlI_0)⟩
  · skip
    have r4 := (zs_lg_ltn c1)
    have g5 : zs_in (x0).toInt 0 2147483647 := (zs_ler 0 2147483647 r4 h_x2 h_x0 (by decide))
    refine zs_ite (fun c6 => ?_) (fun c6 => ?_)
    · skip
      have r7 := (zs_lg_ltf c6)
      have g8 : zs_in (x0).toInt 100 2147483647 := (zs_ltr 100 2147483647 r7 h_x4 g5 (by decide))
      refine zs_gd (zs_b01 zlI_0 (by decide)) ?_
      exact zs_some ⟨(zs_w zlI_0 (by decide)), Or.inl (zs_ptr zlI_0)⟩
    · skip
      have r9 := (zs_lg_ltfn c6)
      have g10 : zs_in (x0).toInt 0 99 := (zs_lel 0 99 r9 g5 h_x4 (by decide))
      refine zs_gd (zs_b01 zlI_1 (by decide)) ?_
      exact zs_some ⟨(zs_w zlI_1 (by decide)), Or.inr g10⟩
-- fX9_of
theorem zA_171 {σ0 : sn_S} {σ : sn_S} (h_σ : zs_M0 σ0 σ) {x1 : Int32} (h_x1 : zs_in x1.toInt 0 5) {x2 : Int32} (h_x2 : zs_in x2.toInt 4 4) : zs_ok (fX9_of σ x1 x2) (fun r => zs_in (r).toInt 0 99) := by
  unfold fX9_of
  obtain rfl : x2 = (4 : Int32) := zs_eqv h_x2 (by decide)
  refine zs_gd (zs_gin (zs_addI 53 78 (zs_addI 49 74 zlI_49 (zs_mulI 0 25 zlI_5 h_x1 (by decide)) (by decide)) h_x2 (by decide)) (by decide)) ?_
  exact zs_some (zs_rdb (q := 1) (lo := 0) (hi := 99) h_σ.1 (zs_cases h_x1 (fun z => zs_bd (zs_tM 1 (((49 : Int32) + ((5 : Int32) * z)) + (4 : Int32)).toNatClampNeg) 0 99) (by decide +kernel)))
-- fX9_rate
theorem zA_172 {σ0 : sn_S} {σ : sn_S} (h_σ : zs_M0 σ0 σ) {x1 : Int32} {x2 : Int32} : zs_ok (fX9_rate σ x1 x2) (fun r => ((zs_in (r.1).toInt (-5) 99 ∧ zs_M0 σ0 r.2)) ∧ ((r.1).toInt = (-2) ∨ (zs_in (x1).toInt 0 5 ∧ zs_in (x2).toInt 0 99))) := by
  unfold fX9_rate
  refine zs_bd_ (zA_169 h_σ) (fun t_1 pt_1 => ?_)
  refine zs_ite (fun c1 => ?_) (fun c1 => ?_)
  · skip
    have r2 := (zs_I_eq c1)
    have g3 : zs_in (t_1).toInt 0 0 := (zs_eql 0 0 r2 pt_1.1 zlI_0 (by decide))
    exact zs_some ⟨⟨(zs_w zlI_m2 (by decide)), h_σ⟩, Or.inl (zs_ptr zlI_m2)⟩
  · skip
    have r4 := (zs_I_eqn c1)
    have g5 : zs_in (t_1).toInt 1 1 := (zs_nel 1 1 r4 pt_1.1 zlI_0 (by decide))
    have q6 := (zs_or2 pt_1.2 g5 (by decide))
    have g7 : zs_in (x1).toInt 0 5 := q6
    refine zs_bd_ (zA_170 (zs_64 (zs_topI _)) zlL_0 zlL_99) (fun t_4 pt_4 => ?_)
    refine zs_ite (fun c8 => ?_) (fun c8 => ?_)
    · skip
      have r9 := (zs_I_eq c8)
      have g10 : zs_in (t_4).toInt 0 0 := (zs_eql 0 0 r9 pt_4.1 zlI_0 (by decide))
      exact zs_some ⟨⟨(zs_w zlI_m2 (by decide)), h_σ⟩, Or.inl (zs_ptr zlI_m2)⟩
    · skip
      have r11 := (zs_I_eqn c8)
      have g12 : zs_in (t_4).toInt 1 1 := (zs_nel 1 1 r11 pt_4.1 zlI_0 (by decide))
      have q13 := (zs_or2 pt_4.2 g12 (by decide))
      have g14 : zs_in (x2.toInt64).toInt 0 99 := q13
      have g15 : zs_in (x2).toInt 0 99 := (zs_64r g14)
      refine zs_gd (zs_gin zlI_9 (by decide)) ?_
      refine zs_ite (fun c16 => ?_) (fun c16 => ?_)
      · skip
        have r17 := (zs_I_le c16)
        have g18 : zs_in ((sn_I σ 1 (9 : Int32).toNatClampNeg)).toInt 0 0 := (zs_lel 0 0 r17 (zs_rdk (q := 1) (k := (9 : Int32).toNatClampNeg) (z := (0, 40)) h_σ.1 rfl) zlI_0 (by decide))
        refine zs_bd_ (zA_171 h_σ g7 zlI_4) (fun t_9 pt_9 => ?_)
        refine zs_gd (zs_gin (zs_addI 53 78 (zs_addI 49 74 zlI_49 (zs_mulI 0 25 zlI_5 g7 (by decide)) (by decide)) zlI_4 (by decide)) (by decide)) ?_
        refine zs_lt (Q := fun z => zs_M0 σ0 z) (zs_wrb h_σ g15 (zs_cases g7 (fun z => zs_wb (zs_tM 1 (((49 : Int32) + ((5 : Int32) * z)) + (4 : Int32)).toNatClampNeg) 0 99 ∧ zs_fr zs_tM zs_kM0 1 (((49 : Int32) + ((5 : Int32) * z)) + (4 : Int32)).toNatClampNeg = false) (by decide +kernel))) (fun σ_12 hσ_12 => ?_)
        exact zs_some ⟨⟨(zs_w pt_9 (by decide)), hσ_12⟩, Or.inr ⟨g7, g15⟩⟩
      · skip
        have r19 := (zs_I_len c16)
        have g20 : zs_in ((sn_I σ 1 (9 : Int32).toNatClampNeg)).toInt 1 40 := (zs_ltr 1 40 r19 zlI_0 (zs_rdk (q := 1) (k := (9 : Int32).toNatClampNeg) (z := (0, 40)) h_σ.1 rfl) (by decide))
        exact zs_some ⟨⟨(zs_w zlI_m5 (by decide)), h_σ⟩, Or.inr ⟨g7, g15⟩⟩
-- BX2_minutesOfActs_61
theorem zP_1 {σ0 : sn_S} {σ : sn_S} (h_σ : zs_B σ0 σ) {x1 : Int32} (h_x1 : zs_in x1.toInt 0 0) {x2 : Int32} (h_x2 : zs_in x2.toInt 0 5) {x3 : Int32} (h_x3 : zs_in x3.toInt 0 1073741823) {x4 : Int32} (h_x4 : zs_in x4.toInt 0 39) {c : Int} (hc : x4.toInt = c + 0) : zs_ok (BX2_minutesOfActs_61 σ 1 x1 x2 x3 x4) (fun r => zs_sum (fun v => ((zs_in (v.1).toInt 0 1073741823 ∧ zs_in (v.2).toInt 1 40)) ∧ v.2.toInt = c + 1) (fun v => False) r) := by
  unfold BX2_minutesOfActs_61
  obtain rfl : x1 = (0 : Int32) := zs_eqv h_x1 (by decide)
  refine zs_lt (Q := fun z => zs_in z.toInt 1 40 ∧ z.toInt = c + 1) ⟨(zs_addI 1 40 h_x4 zlI_1 (by decide)), (zs_syI 1 hc h_x4 zlI_1 (by decide) (by decide))⟩ (fun y_1 hy_1 => ?_)
  exact zs_some (zs_inl ⟨⟨h_x3, hy_1.1⟩, hy_1.2⟩)
-- BX2_minutesOfActs_5
theorem zP_2 {σ0 : sn_S} {σ : sn_S} (h_σ : zs_B σ0 σ) {x1 : Int32} (h_x1 : zs_in x1.toInt 0 0) {x2 : Int32} (h_x2 : zs_in x2.toInt 0 5) {x3 : Int32} (h_x3 : zs_in x3.toInt 0 1073741823) {x4 : Int32} (h_x4 : zs_in x4.toInt 0 40) {c : Int} (hc : x4.toInt = c + 0) : zs_ok (BX2_minutesOfActs_5 σ 1 x1 x2 x3 x4) (fun r => zs_sum (fun v => ((zs_in (v.1).toInt 0 1073741823 ∧ zs_in (v.2).toInt 1 40)) ∧ v.2.toInt = c + 1) (fun v => zs_in (v).toInt 0 1073741823) r) := by
  unfold BX2_minutesOfActs_5
  obtain rfl : x1 = (0 : Int32) := zs_eqv h_x1 (by decide)
  refine zs_gd (zs_gin zlI_9 (by decide)) ?_
  refine zs_ite (fun c1 => ?_) (fun c1 => ?_)
  · skip
    have r2 := (zs_I_le c1)
    exact zs_some (zs_inr (h_x3))
  · skip
    have r3 := (zs_I_len c1)
    have g4 : zs_in (x4).toInt 0 39 := (zs_ltl 0 39 r3 h_x4 (zs_rdk (q := 2) (k := (9 : Int32).toNatClampNeg) (z := (0, 40)) h_σ.1 rfl) (by decide))
    have g5 : zs_in ((sn_I σ (1 + 1) (9 : Int32).toNatClampNeg)).toInt 1 40 := (zs_ltr 1 40 r3 h_x4 (zs_rdk (q := 2) (k := (9 : Int32).toNatClampNeg) (z := (0, 40)) h_σ.1 rfl) (by decide))
    refine zs_gd (zs_gin (zs_mulI 0 117 zlI_3 g4 (by decide)) (by decide)) ?_
    refine zs_ite (fun c6 => ?_) (fun c6 => ?_)
    · skip
      have r7 := (zs_I_eq c6)
      have g8 : zs_in ((sn_I σ (1 + 6) ((3 : Int32) * x4).toNatClampNeg)).toInt 0 0 := (zs_eql 0 0 r7 (zs_rdu (q := 7) (z := (0, 29)) h_σ.1 (fun _ => rfl)) h_x1 (by decide))
      refine zs_gd (zs_gin (zs_addI 1 118 (zs_mulI 0 117 zlI_3 g4 (by decide)) zlI_1 (by decide)) (by decide)) ?_
      refine zs_ite (fun c9 => ?_) (fun c9 => ?_)
      · skip
        have r10 := (zs_I_eq c9)
        have g11 : zs_in ((sn_I σ (1 + 6) (((3 : Int32) * x4) + (1 : Int32)).toNatClampNeg)).toInt 0 5 := (zs_eql 0 5 r10 (zs_rdu (q := 7) (z := (0, 29)) h_σ.1 (fun _ => rfl)) h_x2 (by decide))
        refine zs_gd (zs_gin (zs_addI 2 119 (zs_mulI 0 117 zlI_3 g4 (by decide)) zlI_2 (by decide)) (by decide)) ?_
        refine zs_lt (Q := fun z => zs_in z.toInt 0 1073741823) (zs_or 30 1073741823 h_x3 (zs_cases (zs_rdu (q := 7) (z := (0, 29)) h_σ.1 (fun _ => rfl)) (fun z => zs_in ((1 : Int32) <<< (z &&& 31)).toInt 1 536870912) (by decide +kernel)) (by decide)) (fun y_8 hy_8 => ?_)
        obtain ⟨ret, er, hr⟩ := zP_1 h_σ h_x1 h_x2 hy_8 g4 hc
        refine ⟨ret, er, ?_⟩
        exact (zs_sumw hr (fun v w => ⟨w.1, w.2⟩) (fun v w => w.elim))
      · skip
        have r12 := (zs_I_eqn c9)
        obtain ⟨ret, er, hr⟩ := zP_1 h_σ h_x1 h_x2 h_x3 g4 hc
        refine ⟨ret, er, ?_⟩
        exact (zs_sumw hr (fun v w => ⟨w.1, w.2⟩) (fun v w => w.elim))
    · skip
      have r13 := (zs_I_eqn c6)
      have g14 : zs_in ((sn_I σ (1 + 6) ((3 : Int32) * x4).toNatClampNeg)).toInt 1 29 := (zs_nel 1 29 r13 (zs_rdu (q := 7) (z := (0, 29)) h_σ.1 (fun _ => rfl)) h_x1 (by decide))
      obtain ⟨ret, er, hr⟩ := zP_1 h_σ h_x1 h_x2 h_x3 g4 hc
      refine ⟨ret, er, ?_⟩
      exact (zs_sumw hr (fun v w => ⟨w.1, w.2⟩) (fun v w => w.elim))
theorem zQ_1 {σ0 : sn_S} {σ : sn_S} (h_σ : zs_B σ0 σ) {x1 : Int32} (h_x1 : zs_in x1.toInt 0 0) {x2 : Int32} (h_x2 : zs_in x2.toInt 0 5) {s0 : (Int32 × Int32)} (h0 : (zs_in (s0.1).toInt 0 1073741823 ∧ zs_in (s0.2).toInt 0 40)) : zs_ok (sn_it (LX2_minutesOfActs_5 σ 1 x1 x2) 5000 s0) (fun t => zs_in (t).toInt 0 1073741823) := by
  refine zs_it (I := fun s => (zs_in (s.1).toInt 0 1073741823 ∧ zs_in (s.2).toInt 0 40)) (m := fun s => 40 - s.2.toInt) (fun s hs => ?_) (fun s hs => ?_) (by exact h0)
  · have h1 := hs.2; unfold zs_in at h1
    omega
  · obtain ⟨b, eb, hb⟩ := zP_2 h_σ h_x1 h_x2 hs.1 hs.2 (c := s.2.toInt) (Int.add_zero _).symm
    exact ⟨b, eb, zs_sumw hb (fun v w => ⟨⟨w.1.1, (zs_w w.1.2 (by decide))⟩, by have := w.2; omega⟩) (fun v w => w)⟩
-- BX2_minutesOfActs_67
theorem zP_3 {σ0 : sn_S} {σ : sn_S} (h_σ : zs_B σ0 σ) {x3 : Int32} (h_x3 : zs_in x3.toInt 0 1073741823) : zs_ok (BX2_minutesOfActs_67 σ 1 x3) (fun r => zs_in (r).toInt 0 1073741823) := by
  unfold BX2_minutesOfActs_67
  exact zs_some h_x3
-- fX2_minutesOfActs
theorem zP_4 {σ0 : sn_S} {σ : sn_S} (h_σ : zs_B σ0 σ) {x1 : Int32} (h_x1 : zs_in x1.toInt 0 0) {x2 : Int32} (h_x2 : zs_in x2.toInt 0 5) : zs_ok (fX2_minutesOfActs σ 1 x1 x2) (fun r => zs_in (r).toInt 0 1073741823) := by
  unfold fX2_minutesOfActs
  obtain rfl : x1 = (0 : Int32) := zs_eqv h_x1 (by decide)
  refine zs_bd_ (zQ_1 h_σ h_x1 h_x2 (s0 := ((0 : Int32), (0 : Int32))) ⟨(zs_w zlI_0 (by decide)), (zs_w zlI_0 (by decide))⟩) (fun t_1 pt_1 => ?_)
  obtain ⟨ret, er, hr⟩ := zP_3 h_σ pt_1
  refine ⟨ret, er, ?_⟩
  exact hr
-- BX2_minutesOfActs_61
theorem zP_5 {σ0 : sn_S} {σ : sn_S} (h_σ : zs_B σ0 σ) {x1 : Int32} (h_x1 : zs_in x1.toInt 1 1) {x2 : Int32} (h_x2 : zs_in x2.toInt 0 5) {x3 : Int32} (h_x3 : zs_in x3.toInt 0 1073741823) {x4 : Int32} (h_x4 : zs_in x4.toInt 0 39) {c : Int} (hc : x4.toInt = c + 0) : zs_ok (BX2_minutesOfActs_61 σ 1 x1 x2 x3 x4) (fun r => zs_sum (fun v => ((zs_in (v.1).toInt 0 1073741823 ∧ zs_in (v.2).toInt 1 40)) ∧ v.2.toInt = c + 1) (fun v => False) r) := by
  unfold BX2_minutesOfActs_61
  obtain rfl : x1 = (1 : Int32) := zs_eqv h_x1 (by decide)
  refine zs_lt (Q := fun z => zs_in z.toInt 1 40 ∧ z.toInt = c + 1) ⟨(zs_addI 1 40 h_x4 zlI_1 (by decide)), (zs_syI 1 hc h_x4 zlI_1 (by decide) (by decide))⟩ (fun y_1 hy_1 => ?_)
  exact zs_some (zs_inl ⟨⟨h_x3, hy_1.1⟩, hy_1.2⟩)
-- BX2_minutesOfActs_5
theorem zP_6 {σ0 : sn_S} {σ : sn_S} (h_σ : zs_B σ0 σ) {x1 : Int32} (h_x1 : zs_in x1.toInt 1 1) {x2 : Int32} (h_x2 : zs_in x2.toInt 0 5) {x3 : Int32} (h_x3 : zs_in x3.toInt 0 1073741823) {x4 : Int32} (h_x4 : zs_in x4.toInt 0 40) {c : Int} (hc : x4.toInt = c + 0) : zs_ok (BX2_minutesOfActs_5 σ 1 x1 x2 x3 x4) (fun r => zs_sum (fun v => ((zs_in (v.1).toInt 0 1073741823 ∧ zs_in (v.2).toInt 1 40)) ∧ v.2.toInt = c + 1) (fun v => zs_in (v).toInt 0 1073741823) r) := by
  unfold BX2_minutesOfActs_5
  obtain rfl : x1 = (1 : Int32) := zs_eqv h_x1 (by decide)
  refine zs_gd (zs_gin zlI_9 (by decide)) ?_
  refine zs_ite (fun c1 => ?_) (fun c1 => ?_)
  · skip
    have r2 := (zs_I_le c1)
    exact zs_some (zs_inr (h_x3))
  · skip
    have r3 := (zs_I_len c1)
    have g4 : zs_in (x4).toInt 0 39 := (zs_ltl 0 39 r3 h_x4 (zs_rdk (q := 2) (k := (9 : Int32).toNatClampNeg) (z := (0, 40)) h_σ.1 rfl) (by decide))
    have g5 : zs_in ((sn_I σ (1 + 1) (9 : Int32).toNatClampNeg)).toInt 1 40 := (zs_ltr 1 40 r3 h_x4 (zs_rdk (q := 2) (k := (9 : Int32).toNatClampNeg) (z := (0, 40)) h_σ.1 rfl) (by decide))
    refine zs_gd (zs_gin (zs_mulI 0 117 zlI_3 g4 (by decide)) (by decide)) ?_
    refine zs_ite (fun c6 => ?_) (fun c6 => ?_)
    · skip
      have r7 := (zs_I_eq c6)
      have g8 : zs_in ((sn_I σ (1 + 6) ((3 : Int32) * x4).toNatClampNeg)).toInt 1 1 := (zs_eql 1 1 r7 (zs_rdu (q := 7) (z := (0, 29)) h_σ.1 (fun _ => rfl)) h_x1 (by decide))
      refine zs_gd (zs_gin (zs_addI 1 118 (zs_mulI 0 117 zlI_3 g4 (by decide)) zlI_1 (by decide)) (by decide)) ?_
      refine zs_ite (fun c9 => ?_) (fun c9 => ?_)
      · skip
        have r10 := (zs_I_eq c9)
        have g11 : zs_in ((sn_I σ (1 + 6) (((3 : Int32) * x4) + (1 : Int32)).toNatClampNeg)).toInt 0 5 := (zs_eql 0 5 r10 (zs_rdu (q := 7) (z := (0, 29)) h_σ.1 (fun _ => rfl)) h_x2 (by decide))
        refine zs_gd (zs_gin (zs_addI 2 119 (zs_mulI 0 117 zlI_3 g4 (by decide)) zlI_2 (by decide)) (by decide)) ?_
        refine zs_lt (Q := fun z => zs_in z.toInt 0 1073741823) (zs_or 30 1073741823 h_x3 (zs_cases (zs_rdu (q := 7) (z := (0, 29)) h_σ.1 (fun _ => rfl)) (fun z => zs_in ((1 : Int32) <<< (z &&& 31)).toInt 1 536870912) (by decide +kernel)) (by decide)) (fun y_8 hy_8 => ?_)
        obtain ⟨ret, er, hr⟩ := zP_5 h_σ h_x1 h_x2 hy_8 g4 hc
        refine ⟨ret, er, ?_⟩
        exact (zs_sumw hr (fun v w => ⟨w.1, w.2⟩) (fun v w => w.elim))
      · skip
        have r12 := (zs_I_eqn c9)
        obtain ⟨ret, er, hr⟩ := zP_5 h_σ h_x1 h_x2 h_x3 g4 hc
        refine ⟨ret, er, ?_⟩
        exact (zs_sumw hr (fun v w => ⟨w.1, w.2⟩) (fun v w => w.elim))
    · skip
      have r13 := (zs_I_eqn c6)
      obtain ⟨ret, er, hr⟩ := zP_5 h_σ h_x1 h_x2 h_x3 g4 hc
      refine ⟨ret, er, ?_⟩
      exact (zs_sumw hr (fun v w => ⟨w.1, w.2⟩) (fun v w => w.elim))
theorem zQ_2 {σ0 : sn_S} {σ : sn_S} (h_σ : zs_B σ0 σ) {x1 : Int32} (h_x1 : zs_in x1.toInt 1 1) {x2 : Int32} (h_x2 : zs_in x2.toInt 0 5) {s0 : (Int32 × Int32)} (h0 : (zs_in (s0.1).toInt 0 1073741823 ∧ zs_in (s0.2).toInt 0 40)) : zs_ok (sn_it (LX2_minutesOfActs_5 σ 1 x1 x2) 5000 s0) (fun t => zs_in (t).toInt 0 1073741823) := by
  refine zs_it (I := fun s => (zs_in (s.1).toInt 0 1073741823 ∧ zs_in (s.2).toInt 0 40)) (m := fun s => 40 - s.2.toInt) (fun s hs => ?_) (fun s hs => ?_) (by exact h0)
  · have h1 := hs.2; unfold zs_in at h1
    omega
  · obtain ⟨b, eb, hb⟩ := zP_6 h_σ h_x1 h_x2 hs.1 hs.2 (c := s.2.toInt) (Int.add_zero _).symm
    exact ⟨b, eb, zs_sumw hb (fun v w => ⟨⟨w.1.1, (zs_w w.1.2 (by decide))⟩, by have := w.2; omega⟩) (fun v w => w)⟩
-- fX2_minutesOfActs
theorem zP_7 {σ0 : sn_S} {σ : sn_S} (h_σ : zs_B σ0 σ) {x1 : Int32} (h_x1 : zs_in x1.toInt 1 1) {x2 : Int32} (h_x2 : zs_in x2.toInt 0 5) : zs_ok (fX2_minutesOfActs σ 1 x1 x2) (fun r => zs_in (r).toInt 0 1073741823) := by
  unfold fX2_minutesOfActs
  obtain rfl : x1 = (1 : Int32) := zs_eqv h_x1 (by decide)
  refine zs_bd_ (zQ_2 h_σ h_x1 h_x2 (s0 := ((0 : Int32), (0 : Int32))) ⟨(zs_w zlI_0 (by decide)), (zs_w zlI_0 (by decide))⟩) (fun t_1 pt_1 => ?_)
  obtain ⟨ret, er, hr⟩ := zP_3 h_σ pt_1
  refine ⟨ret, er, ?_⟩
  exact hr
-- BX0_tellFrom_56
theorem zP_8 {σ0 : sn_S} {σ : sn_S} (h_σ : zs_B σ0 σ) {x2 : Int32} (h_x2 : zs_in x2.toInt 0 6) {c : Int} (hc : x2.toInt = c + 0) : zs_ok (BX0_tellFrom_56 σ 27 1 x2) (fun r => zs_sum (fun v => ((zs_B σ0 v.1 ∧ zs_in (v.2).toInt 1 6)) ∧ v.2.toInt = c + 1) (fun v => zs_B σ0 v) r) := by
  unfold BX0_tellFrom_56
  refine zs_ite (fun c1 => ?_) (fun c1 => ?_)
  · skip
    have r2 := (zs_I_le c1)
    exact zs_some (zs_inr (h_σ))
  · skip
    have r3 := (zs_I_len c1)
    have g4 : zs_in (x2).toInt 0 5 := (zs_ltl 0 5 r3 h_x2 (zs_rdk (q := 27) (k := 1) (z := (0, 6)) h_σ.1 rfl) (by decide))
    have g5 : zs_in ((sn_I σ 27 1)).toInt 1 6 := (zs_ltr 1 6 r3 h_x2 (zs_rdk (q := 27) (k := 1) (z := (0, 6)) h_σ.1 rfl) (by decide))
    refine zs_gd (zs_gin (zs_mulI 0 10 zlI_2 g4 (by decide)) (by decide)) ?_
    refine zs_gd (zs_gin g4 (by decide)) ?_
    refine zs_lt (Q := fun z => zs_B σ0 z) (zs_wrt h_σ (fun _ => rfl) (fun _ => rfl)) (fun σ_4 hσ_4 => ?_)
    refine zs_gd (zs_gin (zs_addI 1 11 (zs_mulI 0 10 zlI_2 g4 (by decide)) zlI_1 (by decide)) (by decide)) ?_
    refine zs_gd (zs_gin g4 (by decide)) ?_
    refine zs_lt (Q := fun z => zs_B σ0 z) (zs_wrt hσ_4 (fun _ => rfl) (fun _ => rfl)) (fun σ_8 hσ_8 => ?_)
    refine zs_bd_ (zP_4 hσ_8 zlI_0 g4) (fun t_10 pt_10 => ?_)
    refine zs_gd (zs_gin g4 (by decide)) ?_
    refine zs_lt (Q := fun z => zs_B σ0 z) (zs_wrt hσ_8 (fun _ => rfl) (fun _ => rfl)) (fun σ_13 hσ_13 => ?_)
    refine zs_bd_ (zP_7 hσ_13 zlI_1 g4) (fun t_15 pt_15 => ?_)
    refine zs_gd (zs_gin g4 (by decide)) ?_
    refine zs_lt (Q := fun z => zs_B σ0 z) (zs_wrt hσ_13 (fun _ => rfl) (fun _ => rfl)) (fun σ_18 hσ_18 => ?_)
    refine zs_lt (Q := fun z => zs_in z.toInt 1 6 ∧ z.toInt = c + 1) ⟨(zs_addI 1 6 g4 zlI_1 (by decide)), (zs_syI 1 hc g4 zlI_1 (by decide) (by decide))⟩ (fun y_20 hy_20 => ?_)
    exact zs_some (zs_inl ⟨⟨hσ_18, hy_20.1⟩, hy_20.2⟩)
theorem zQ_3 {σ0 : sn_S}  {s0 : (sn_S × Int32)} (h0 : (zs_B σ0 s0.1 ∧ zs_in (s0.2).toInt 0 6)) : zs_ok (sn_it (LX0_tellFrom_56 27 1) 5000 s0) (fun t => zs_B σ0 t) := by
  refine zs_it (I := fun s => (zs_B σ0 s.1 ∧ zs_in (s.2).toInt 0 6)) (m := fun s => 6 - s.2.toInt) (fun s hs => ?_) (fun s hs => ?_) (by exact h0)
  · have h1 := hs.2; unfold zs_in at h1
    omega
  · obtain ⟨b, eb, hb⟩ := zP_8 hs.1 hs.2 (c := s.2.toInt) (Int.add_zero _).symm
    exact ⟨b, eb, zs_sumw hb (fun v w => ⟨⟨w.1.1, (zs_w w.1.2 (by decide))⟩, by have := w.2; omega⟩) (fun v w => w)⟩
-- BJ7_fill_53178_5
theorem zP_9 {σ0 : sn_S} {σ : sn_S} (h_σ : zs_B σ0 σ) {x1 : Int32} (h_x1 : zs_in x1.toInt 0 9) {x2 : Int32} (h_x2 : zs_in x2.toInt 0 30) {x3 : Int32} (h_x3 : zs_in x3.toInt 30 30) {c : Int} (hc : x2.toInt = c + 0) : zs_ok (BJ7_fill_53178_5 σ 28 30 x1 x2 x3) (fun r => zs_sum (fun v => ((zs_B σ0 v.1 ∧ zs_in (v.2).toInt 1 30)) ∧ v.2.toInt = c + 1) (fun v => zs_B σ0 v) r) := by
  unfold BJ7_fill_53178_5
  obtain rfl : x3 = (30 : Int32) := zs_eqv h_x3 (by decide)
  refine zs_ite (fun c1 => ?_) (fun c1 => ?_)
  · skip
    have r2 := (zs_I_le c1)
    have g3 : zs_in (x2).toInt 30 30 := (zs_ler 30 30 r2 h_x3 h_x2 (by decide))
    exact zs_some (zs_inr (h_σ))
  · skip
    have r4 := (zs_I_len c1)
    have g5 : zs_in (x2).toInt 0 29 := (zs_ltl 0 29 r4 h_x2 h_x3 (by decide))
    refine zs_gd (zs_gin g5 (by decide)) ?_
    refine zs_lt (Q := fun z => zs_B σ0 z) (zs_wrt h_σ (fun _ => rfl) (fun _ => rfl)) (fun σ_3 hσ_3 => ?_)
    refine zs_lt (Q := fun z => zs_in z.toInt 1 30 ∧ z.toInt = c + 1) ⟨(zs_addI 1 30 g5 zlI_1 (by decide)), (zs_syI 1 hc g5 zlI_1 (by decide) (by decide))⟩ (fun y_5 hy_5 => ?_)
    exact zs_some (zs_inl ⟨⟨hσ_3, hy_5.1⟩, hy_5.2⟩)
theorem zQ_4 {σ0 : sn_S} {x1 : Int32} (h_x1 : zs_in x1.toInt 0 9) {x3 : Int32} (h_x3 : zs_in x3.toInt 30 30) {s0 : (sn_S × Int32)} (h0 : (zs_B σ0 s0.1 ∧ zs_in (s0.2).toInt 0 30)) : zs_ok (sn_it (LJ7_fill_53178_5 28 30 x1 x3) 5000 s0) (fun t => zs_B σ0 t) := by
  refine zs_it (I := fun s => (zs_B σ0 s.1 ∧ zs_in (s.2).toInt 0 30)) (m := fun s => 30 - s.2.toInt) (fun s hs => ?_) (fun s hs => ?_) (by exact h0)
  · have h1 := hs.2; unfold zs_in at h1
    omega
  · obtain ⟨b, eb, hb⟩ := zP_9 hs.1 h_x1 hs.2 h_x3 (c := s.2.toInt) (Int.add_zero _).symm
    exact ⟨b, eb, zs_sumw hb (fun v w => ⟨⟨w.1.1, (zs_w w.1.2 (by decide))⟩, by have := w.2; omega⟩) (fun v w => w)⟩
-- BJ7_fill_53178_20
theorem zP_10 {σ0 : sn_S} {σ : sn_S} (h_σ : zs_B σ0 σ) : zs_ok (BJ7_fill_53178_20 σ 28 30) (fun r => zs_B σ0 r) := by
  unfold BJ7_fill_53178_20
  exact zs_some h_σ
-- fJ7_fill_53178
theorem zP_11 {σ0 : sn_S} {σ : sn_S} (h_σ : zs_B σ0 σ) {x1 : Int32} (h_x1 : zs_in x1.toInt 0 9) : zs_ok (fJ7_fill_53178 σ 28 30 x1) (fun r => zs_B σ0 r) := by
  unfold fJ7_fill_53178
  refine zs_lt (Q := fun z => zs_in z.toInt 30 30) zlI_30 (fun y_1 hy_1 => ?_)
  refine zs_bd_ (zQ_4 h_x1 hy_1 (s0 := (σ, (0 : Int32))) ⟨h_σ, (zs_w zlI_0 (by decide))⟩) (fun t_3 pt_3 => ?_)
  obtain ⟨ret, er, hr⟩ := zP_10 pt_3
  refine ⟨ret, er, ?_⟩
  exact hr
-- BX0_tellFrom_139
theorem zP_12 {σ0 : sn_S} {σ : sn_S} (h_σ : zs_B σ0 σ) {x2 : Int32} (h_x2 : zs_in x2.toInt 0 5) {c : Int} (hc : x2.toInt = c + 0) : zs_ok (BX0_tellFrom_139 σ 27 1 x2) (fun r => zs_sum (fun v => ((zs_B σ0 v.1 ∧ zs_in (v.2).toInt 1 5)) ∧ v.2.toInt = c + 1) (fun v => zs_B σ0 v) r) := by
  unfold BX0_tellFrom_139
  refine zs_gd (zs_gin zlI_6 (by decide)) ?_
  refine zs_ite (fun c1 => ?_) (fun c1 => ?_)
  · skip
    have r2 := (zs_I_le c1)
    exact zs_some (zs_inr (h_σ))
  · skip
    have r3 := (zs_I_len c1)
    have g4 : zs_in (x2).toInt 0 4 := (zs_ltl 0 4 r3 h_x2 (zs_rdk (q := 2) (k := (6 : Int32).toNatClampNeg) (z := (0, 5)) h_σ.1 rfl) (by decide))
    have g5 : zs_in ((sn_I σ (1 + 1) (6 : Int32).toNatClampNeg)).toInt 1 5 := (zs_ltr 1 5 r3 h_x2 (zs_rdk (q := 2) (k := (6 : Int32).toNatClampNeg) (z := (0, 5)) h_σ.1 rfl) (by decide))
    refine zs_gd (zs_gin (zs_addI 1 9 (zs_mulI 0 8 zlI_2 g4 (by decide)) zlI_1 (by decide)) (by decide)) ?_
    refine zs_gd (zs_gin (zs_use (h_σ.1.2 rfl).1.1.1 g4 (by decide) r3 (zs_i21 g4 (by decide))) (by decide)) ?_
    refine zs_gd (zs_gin (zs_mulI 0 8 zlI_2 g4 (by decide)) (by decide)) ?_
    refine zs_gd (zs_gin (zs_use (h_σ.1.2 rfl).1.1.1 g4 (by decide) r3 (zs_i21 g4 (by decide))) (by decide)) ?_
    refine zs_lt (Q := fun z => zs_B σ0 z) (zs_wrt h_σ (fun _ => rfl) (fun _ => rfl)) (fun σ_7 hσ_7 => ?_)
    refine zs_lt (Q := fun z => zs_in z.toInt 1 5 ∧ z.toInt = c + 1) ⟨(zs_addI 1 5 g4 zlI_1 (by decide)), (zs_syI 1 hc g4 zlI_1 (by decide) (by decide))⟩ (fun y_9 hy_9 => ?_)
    exact zs_some (zs_inl ⟨⟨hσ_7, hy_9.1⟩, hy_9.2⟩)
theorem zQ_5 {σ0 : sn_S}  {s0 : (sn_S × Int32)} (h0 : (zs_B σ0 s0.1 ∧ zs_in (s0.2).toInt 0 5)) : zs_ok (sn_it (LX0_tellFrom_139 27 1) 5000 s0) (fun t => zs_B σ0 t) := by
  refine zs_it (I := fun s => (zs_B σ0 s.1 ∧ zs_in (s.2).toInt 0 5)) (m := fun s => 5 - s.2.toInt) (fun s hs => ?_) (fun s hs => ?_) (by exact h0)
  · have h1 := hs.2; unfold zs_in at h1
    omega
  · obtain ⟨b, eb, hb⟩ := zP_12 hs.1 hs.2 (c := s.2.toInt) (Int.add_zero _).symm
    exact ⟨b, eb, zs_sumw hb (fun v w => ⟨⟨w.1.1, (zs_w w.1.2 (by decide))⟩, by have := w.2; omega⟩) (fun v w => w)⟩
-- BX0_tellFrom_182
theorem zP_13 {σ0 : sn_S} {σ : sn_S} (h_σ : zs_B σ0 σ) : zs_ok (BX0_tellFrom_182 σ 27 1) (fun r => zs_B σ0 r) := by
  unfold BX0_tellFrom_182
  exact zs_some h_σ
-- BX0_tellFrom_124
theorem zP_14 {σ0 : sn_S} {σ : sn_S} (h_σ : zs_B σ0 σ) : zs_ok (BX0_tellFrom_124 σ 27 1) (fun r => zs_B σ0 r) := by
  unfold BX0_tellFrom_124
  refine zs_gd (zs_gin zlI_1 (by decide)) ?_
  refine zs_bd_ (zP_11 h_σ (zs_rdk (q := 2) (k := (1 : Int32).toNatClampNeg) (z := (0, 9)) h_σ.1 rfl)) (fun t_2 pt_2 => ?_)
  refine zs_bd_ (zQ_5  (s0 := (t_2, (0 : Int32))) ⟨pt_2, (zs_w zlI_0 (by decide))⟩) (fun t_4 pt_4 => ?_)
  obtain ⟨ret, er, hr⟩ := zP_13 pt_4
  refine ⟨ret, er, ?_⟩
  exact hr
-- fX0_tellFrom
theorem zP_15 {σ0 : sn_S} {σ : sn_S} (h_σ : zs_B σ0 σ) : zs_ok (fX0_tellFrom σ 27 1) (fun r => zs_B σ0 r) := by
  unfold fX0_tellFrom
  refine zs_gd (zs_gin zlI_0 (by decide)) ?_
  refine zs_lt (Q := fun z => zs_B σ0 z) (zs_wrk (z := (0, 30)) h_σ rfl (zs_rdk (q := 2) (k := (0 : Int32).toNatClampNeg) (z := (0, 30)) h_σ.1 rfl) (by decide) rfl) (fun σ_2 hσ_2 => ?_)
  refine zs_gd (zs_gin zlI_5 (by decide)) ?_
  refine zs_lt (Q := fun z => zs_B σ0 z) (zs_wrk (z := (0, 6)) hσ_2 rfl (zs_rdk (q := 2) (k := (5 : Int32).toNatClampNeg) (z := (0, 6)) hσ_2.1 rfl) (by decide) rfl) (fun σ_5 hσ_5 => ?_)
  refine zs_gd (zs_gin zlI_7 (by decide)) ?_
  refine zs_lt (Q := fun z => z = (sn_pI σ_5 27 2 (sn_I σ_5 (1 + 1) (7 : Int32).toNatClampNeg))) rfl (fun σ_8 hσ_8 => ?_)
  refine zs_lt (Q := fun z => z = (sn_pI σ_8 27 3 (-1 : Int32))) rfl (fun σ_10 hσ_10 => ?_)
  refine zs_gd (by decide) ?_
  refine zs_lt (Q := fun z => zs_B σ0 z) (by subst hσ_10; subst hσ_8; exact zoB_tell hσ_5) (fun σ_13 hσ_13 => ?_)
  refine zs_bd_ (zQ_3  (s0 := (σ_13, (0 : Int32))) ⟨hσ_13, (zs_w zlI_0 (by decide))⟩) (fun t_15 pt_15 => ?_)
  obtain ⟨ret, er, hr⟩ := zP_14 pt_15
  refine ⟨ret, er, ?_⟩
  exact hr
-- fX8_firstMinutes
theorem zP_16 {x0 : Int32} (h_x0 : zs_in x0.toInt 0 0) : zs_ok (fX8_firstMinutes x0) (fun r => zs_in (r).toInt 0 0) := by
  unfold fX8_firstMinutes
  obtain rfl : x0 = (0 : Int32) := zs_eqv h_x0 (by decide)
  exact zs_some (zs_subI 0 0 (zs_cases h_x0 (fun z => zs_in ((1 : Int32) <<< (z &&& 31)).toInt 1 1) (by decide +kernel)) zlI_1 (by decide))
-- BX0_live_2
theorem zP_17 {σ0 : sn_S} {σ : sn_S} (h_σ : zs_B σ0 σ) {x1 : Int32} (h_x1 : zs_in x1.toInt 0 0) {x2 : Int32} (h_x2 : zs_in x2.toInt 0 30) {x3 : Int32} (h_x3 : zs_in x3.toInt 0 6) {c : Int} (hc : x3.toInt = c + 0) : zs_ok (BX0_live_2 σ 27 x1 x2 x3) (fun r => zs_sum (fun v => ((zs_B σ0 v.1 ∧ zs_in (v.2).toInt 1 6)) ∧ v.2.toInt = c + 1) (fun v => zs_B σ0 v) r) := by
  unfold BX0_live_2
  obtain rfl : x1 = (0 : Int32) := zs_eqv h_x1 (by decide)
  refine zs_ite (fun c1 => ?_) (fun c1 => ?_)
  · skip
    have r2 := (zs_I_le c1)
    exact zs_some (zs_inr (h_σ))
  · skip
    have r3 := (zs_I_len c1)
    have g4 : zs_in (x3).toInt 0 5 := (zs_ltl 0 5 r3 h_x3 (zs_rdk (q := 27) (k := 1) (z := (0, 6)) h_σ.1 rfl) (by decide))
    have g5 : zs_in ((sn_I σ 27 1)).toInt 1 6 := (zs_ltr 1 6 r3 h_x3 (zs_rdk (q := 27) (k := 1) (z := (0, 6)) h_σ.1 rfl) (by decide))
    refine zs_gd (zs_gin g4 (by decide)) ?_
    refine zs_bd_ (zP_16 h_x1) (fun t_3 pt_3 => ?_)
    refine zs_gd (zs_gin g4 (by decide)) ?_
    refine zs_lt (Q := fun z => zs_B σ0 z) (zs_wru (z := (0, 1073741823)) h_σ (fun _ => rfl) (zs_and pt_3 (by decide)) (by decide) (fun _ => rfl)) (fun σ_6 hσ_6 => ?_)
    refine zs_lt (Q := fun z => zs_in z.toInt 1 6 ∧ z.toInt = c + 1) ⟨(zs_addI 1 6 g4 zlI_1 (by decide)), (zs_syI 1 hc g4 zlI_1 (by decide) (by decide))⟩ (fun y_8 hy_8 => ?_)
    exact zs_some (zs_inl ⟨⟨hσ_6, hy_8.1⟩, hy_8.2⟩)
theorem zQ_6 {σ0 : sn_S} {x1 : Int32} (h_x1 : zs_in x1.toInt 0 0) {x2 : Int32} (h_x2 : zs_in x2.toInt 0 30) {s0 : (sn_S × Int32)} (h0 : (zs_B σ0 s0.1 ∧ zs_in (s0.2).toInt 0 6)) : zs_ok (sn_it (LX0_live_2 27 x1 x2) 5000 s0) (fun t => zs_B σ0 t) := by
  refine zs_it (I := fun s => (zs_B σ0 s.1 ∧ zs_in (s.2).toInt 0 6)) (m := fun s => 6 - s.2.toInt) (fun s hs => ?_) (fun s hs => ?_) (by exact h0)
  · have h1 := hs.2; unfold zs_in at h1
    omega
  · obtain ⟨b, eb, hb⟩ := zP_17 hs.1 h_x1 h_x2 hs.2 (c := s.2.toInt) (Int.add_zero _).symm
    exact ⟨b, eb, zs_sumw hb (fun v w => ⟨⟨w.1.1, (zs_w w.1.2 (by decide))⟩, by have := w.2; omega⟩) (fun v w => w)⟩
-- BX0_tickleByNets_7
theorem zP_18 {σ0 : sn_S} {σ : sn_S} (h_σ : zs_B σ0 σ) {x1 : Int32} (h_x1 : zs_in x1.toInt 0 29) {x2 : Int32} (h_x2 : zs_in x2.toInt 0 174) {x3 : Int32} (h_x3 : zs_in x3.toInt 0 6) (hl_x1 : x2.toInt = 6 * x1.toInt) {c : Int} (hc : x3.toInt = c + 0) : zs_ok (BX0_tickleByNets_7 σ 27 x1 x2 x3) (fun r => zs_sum (fun v => ((zs_B σ0 v.1 ∧ zs_in (v.2).toInt 1 6)) ∧ v.2.toInt = c + 1) (fun v => zs_B σ0 v) r) := by
  unfold BX0_tickleByNets_7
  refine zs_ite (fun c1 => ?_) (fun c1 => ?_)
  · skip
    have r2 := (zs_I_le c1)
    exact zs_some (zs_inr (h_σ))
  · skip
    have r3 := (zs_I_len c1)
    have g4 : zs_in (x3).toInt 0 5 := (zs_ltl 0 5 r3 h_x3 (zs_rdk (q := 27) (k := 1) (z := (0, 6)) h_σ.1 rfl) (by decide))
    have g5 : zs_in ((sn_I σ 27 1)).toInt 1 6 := (zs_ltr 1 6 r3 h_x3 (zs_rdk (q := 27) (k := 1) (z := (0, 6)) h_σ.1 rfl) (by decide))
    refine zs_gd (zs_gin (zs_addI 0 179 h_x2 g4 (by decide)) (by decide)) ?_
    refine zs_lt (Q := fun z => zs_B σ0 z) (zs_wrt h_σ (fun _ => rfl) (fun _ => rfl)) (fun σ_3 hσ_3 => ?_)
    refine zs_lt (Q := fun z => zs_in z.toInt 1 6 ∧ z.toInt = c + 1) ⟨(zs_addI 1 6 g4 zlI_1 (by decide)), (zs_syI 1 hc g4 zlI_1 (by decide) (by decide))⟩ (fun y_5 hy_5 => ?_)
    exact zs_some (zs_inl ⟨⟨hσ_3, hy_5.1⟩, hy_5.2⟩)
theorem zQ_7 {σ0 : sn_S} {x1 : Int32} (h_x1 : zs_in x1.toInt 0 29) {x2 : Int32} (h_x2 : zs_in x2.toInt 0 174) (hl_x1 : x2.toInt = 6 * x1.toInt) {s0 : (sn_S × Int32)} (h0 : (zs_B σ0 s0.1 ∧ zs_in (s0.2).toInt 0 6)) : zs_ok (sn_it (LX0_tickleByNets_7 27 x1 x2) 5000 s0) (fun t => zs_B σ0 t) := by
  refine zs_it (I := fun s => (zs_B σ0 s.1 ∧ zs_in (s.2).toInt 0 6)) (m := fun s => 6 - s.2.toInt) (fun s hs => ?_) (fun s hs => ?_) (by exact h0)
  · have h1 := hs.2; unfold zs_in at h1
    omega
  · obtain ⟨b, eb, hb⟩ := zP_18 hs.1 h_x1 h_x2 hs.2 hl_x1 (c := s.2.toInt) (Int.add_zero _).symm
    exact ⟨b, eb, zs_sumw hb (fun v w => ⟨⟨w.1.1, (zs_w w.1.2 (by decide))⟩, by have := w.2; omega⟩) (fun v w => w)⟩
-- BX0_tickleByNets_46
theorem zP_19 {σ0 : sn_S} {σ : sn_S} (h_σ : zs_B σ0 σ) {x2 : Int32} (h_x2 : zs_in x2.toInt 0 0) {t0 : Int32} (h_t0 : zs_in t0.toInt 0 0) : zs_ok (BX0_tickleByNets_46 σ 27 x2 t0) (fun r => zs_B σ0 r) := by
  unfold BX0_tickleByNets_46
  obtain rfl : x2 = (0 : Int32) := zs_eqv h_x2 (by decide)
  obtain rfl : t0 = (0 : Int32) := zs_eqv h_t0 (by decide)
  refine zs_ite (fun c1 => ?_) (fun c1 => ?_)
  · skip
    have r2 := (zs_I_eq c1)
    exact zs_some h_σ
  · skip
    have r3 := (zs_I_eqn c1)
    exact (zs_botne r3 h_t0 zlI_0 (by decide)).elim
-- BX0_tickleByNets_149
theorem zP_20 {σ0 : sn_S} {σ : sn_S} (h_σ : zs_B σ0 σ) {x2 : Int32} (h_x2 : zs_in x2.toInt 6 174) {x3 : Int32} {x4 : Int32} (h_x4 : zs_in x4.toInt 0 7) {c : Int} (hc : x4.toInt = c + 0) : zs_ok (BX0_tickleByNets_149 σ 27 x2 x3 x4) (fun r => zs_sum (fun v => ((zs_B σ0 v.1 ∧ zs_in (v.2).toInt 1 8)) ∧ v.2.toInt = c + 1) (fun v => False) r) := by
  unfold BX0_tickleByNets_149
  refine zs_lt (Q := fun z => zs_in z.toInt 1 8 ∧ z.toInt = c + 1) ⟨(zs_addI 1 8 h_x4 zlI_1 (by decide)), (zs_syI 1 hc h_x4 zlI_1 (by decide) (by decide))⟩ (fun y_1 hy_1 => ?_)
  exact zs_some (zs_inl ⟨⟨h_σ, hy_1.1⟩, hy_1.2⟩)
-- fX8_hasBit
theorem zP_21 {x0 : Int32} {x1 : Int32} (h_x1 : zs_in x1.toInt 0 5) : zs_ok (fX8_hasBit x0 x1) (fun r => zs_in (r).toInt 0 1) := by
  unfold fX8_hasBit
  refine zs_ite (fun c1 => ?_) (fun c1 => ?_)
  · skip
    have r2 := (zs_I_eq c1)
    have g3 : zs_in (((x0 >>> (x1 &&& 31)) &&& (1 : Int32))).toInt 1 1 := (zs_eql 1 1 r2 (zs_and zlI_1 (by decide)) zlI_1 (by decide))
    refine zs_gd (zs_b01 zlI_1 (by decide)) ?_
    exact zs_some (zs_w zlI_1 (by decide))
  · skip
    have r4 := (zs_I_eqn c1)
    have g5 : zs_in (((x0 >>> (x1 &&& 31)) &&& (1 : Int32))).toInt 0 0 := (zs_neh 0 0 r4 (zs_and zlI_1 (by decide)) zlI_1 (by decide))
    refine zs_gd (zs_b01 zlI_0 (by decide)) ?_
    exact zs_some (zs_w zlI_0 (by decide))
-- BX0_tickleByNets_147
theorem zP_22 {σ0 : sn_S} {σ : sn_S} (h_σ : zs_B σ0 σ) {x2 : Int32} (h_x2 : zs_in x2.toInt 6 174) {x3 : Int32} {x4 : Int32} (h_x4 : zs_in x4.toInt 0 7) {t1 : Int32} (h_t1 : zs_in t1.toInt 6 179) {t2 : Int32} {t3 : Int32} (h_t3 : zs_in t3.toInt 0 0) {c : Int} (hc : x4.toInt = c + 0) : zs_ok (BX0_tickleByNets_147 σ 27 x2 x3 x4 t1 t2 t3) (fun r => zs_sum (fun v => ((zs_B σ0 v.1 ∧ zs_in (v.2).toInt 1 8)) ∧ v.2.toInt = c + 1) (fun v => False) r) := by
  unfold BX0_tickleByNets_147
  obtain rfl : t3 = (0 : Int32) := zs_eqv h_t3 (by decide)
  refine zs_gd (zs_gin h_t1 (by decide)) ?_
  refine zs_lt (Q := fun z => zs_B σ0 z) (zs_wrt h_σ (fun _ => rfl) (fun _ => rfl)) (fun σ_2 hσ_2 => ?_)
  obtain ⟨ret, er, hr⟩ := zP_20 hσ_2 h_x2 h_x4 hc
  refine ⟨ret, er, ?_⟩
  exact (zs_sumw hr (fun v w => ⟨w.1, w.2⟩) (fun v w => w.elim))
-- BX0_tickleByNets_147
theorem zP_23 {σ0 : sn_S} {σ : sn_S} (h_σ : zs_B σ0 σ) {x2 : Int32} (h_x2 : zs_in x2.toInt 6 174) {x3 : Int32} {x4 : Int32} (h_x4 : zs_in x4.toInt 0 7) {t1 : Int32} (h_t1 : zs_in t1.toInt 6 179) {t2 : Int32} {t3 : Int32} (h_t3 : zs_in t3.toInt 5 5) {c : Int} (hc : x4.toInt = c + 0) : zs_ok (BX0_tickleByNets_147 σ 27 x2 x3 x4 t1 t2 t3) (fun r => zs_sum (fun v => ((zs_B σ0 v.1 ∧ zs_in (v.2).toInt 1 8)) ∧ v.2.toInt = c + 1) (fun v => False) r) := by
  unfold BX0_tickleByNets_147
  obtain rfl : t3 = (5 : Int32) := zs_eqv h_t3 (by decide)
  refine zs_gd (zs_gin h_t1 (by decide)) ?_
  refine zs_lt (Q := fun z => zs_B σ0 z) (zs_wrt h_σ (fun _ => rfl) (fun _ => rfl)) (fun σ_2 hσ_2 => ?_)
  obtain ⟨ret, er, hr⟩ := zP_20 hσ_2 h_x2 h_x4 hc
  refine ⟨ret, er, ?_⟩
  exact (zs_sumw hr (fun v w => ⟨w.1, w.2⟩) (fun v w => w.elim))
-- BX0_tickleByNets_121
theorem zP_24 {σ0 : sn_S} {σ : sn_S} (h_σ : zs_B σ0 σ) {x2 : Int32} (h_x2 : zs_in x2.toInt 6 174) {x3 : Int32} {x4 : Int32} (h_x4 : zs_in x4.toInt 0 7) {x5 : Int32} (h_x5 : zs_in x5.toInt 0 5) {x6 : Int32} (h_x6 : zs_in x6.toInt 0 5) {t1 : Int32} (h_t1 : zs_in t1.toInt 6 179) {t2 : Int32} {t3 : Int32} (h_t3 : zs_in t3.toInt 0 0) {c : Int} (hc : x4.toInt = c + 0) : zs_ok (BX0_tickleByNets_121 σ 27 x2 x3 x4 x5 x6 t1 t2 t3) (fun r => zs_sum (fun v => ((zs_B σ0 v.1 ∧ zs_in (v.2).toInt 1 8)) ∧ v.2.toInt = c + 1) (fun v => False) r) := by
  unfold BX0_tickleByNets_121
  obtain rfl : t3 = (0 : Int32) := zs_eqv h_t3 (by decide)
  refine zs_gd (zs_gin h_t1 (by decide)) ?_
  refine zs_lt (Q := fun z => zs_B σ0 z) (zs_wrt h_σ (fun _ => rfl) (fun _ => rfl)) (fun σ_2 hσ_2 => ?_)
  refine zs_gd (zs_gin (zs_addI 6 179 h_x2 h_x6 (by decide)) (by decide)) ?_
  refine zs_bd_ (zP_21 h_x5) (fun t_5 pt_5 => ?_)
  refine zs_ite (fun c1 => ?_) (fun c1 => ?_)
  · skip
    have r2 := (zs_I_eq c1)
    have g3 : zs_in (t_5).toInt 0 0 := (zs_eql 0 0 r2 pt_5 zlI_0 (by decide))
    obtain ⟨ret, er, hr⟩ := zP_22 hσ_2 h_x2 h_x4 (zs_addI 6 179 h_x2 h_x6 (by decide)) zlI_0 hc
    refine ⟨ret, er, ?_⟩
    exact (zs_sumw hr (fun v w => ⟨w.1, w.2⟩) (fun v w => w.elim))
  · skip
    have r4 := (zs_I_eqn c1)
    have g5 : zs_in (t_5).toInt 1 1 := (zs_nel 1 1 r4 pt_5 zlI_0 (by decide))
    obtain ⟨ret, er, hr⟩ := zP_23 hσ_2 h_x2 h_x4 (zs_addI 6 179 h_x2 h_x6 (by decide)) zlI_5 hc
    refine ⟨ret, er, ?_⟩
    exact (zs_sumw hr (fun v w => ⟨w.1, w.2⟩) (fun v w => w.elim))
-- BX0_tickleByNets_121
theorem zP_25 {σ0 : sn_S} {σ : sn_S} (h_σ : zs_B σ0 σ) {x2 : Int32} (h_x2 : zs_in x2.toInt 6 174) {x3 : Int32} {x4 : Int32} (h_x4 : zs_in x4.toInt 0 7) {x5 : Int32} (h_x5 : zs_in x5.toInt 0 5) {x6 : Int32} (h_x6 : zs_in x6.toInt 0 5) {t1 : Int32} (h_t1 : zs_in t1.toInt 6 179) {t2 : Int32} {t3 : Int32} (h_t3 : zs_in t3.toInt 5 5) {c : Int} (hc : x4.toInt = c + 0) : zs_ok (BX0_tickleByNets_121 σ 27 x2 x3 x4 x5 x6 t1 t2 t3) (fun r => zs_sum (fun v => ((zs_B σ0 v.1 ∧ zs_in (v.2).toInt 1 8)) ∧ v.2.toInt = c + 1) (fun v => False) r) := by
  unfold BX0_tickleByNets_121
  obtain rfl : t3 = (5 : Int32) := zs_eqv h_t3 (by decide)
  refine zs_gd (zs_gin h_t1 (by decide)) ?_
  refine zs_lt (Q := fun z => zs_B σ0 z) (zs_wrt h_σ (fun _ => rfl) (fun _ => rfl)) (fun σ_2 hσ_2 => ?_)
  refine zs_gd (zs_gin (zs_addI 6 179 h_x2 h_x6 (by decide)) (by decide)) ?_
  refine zs_bd_ (zP_21 h_x5) (fun t_5 pt_5 => ?_)
  refine zs_ite (fun c1 => ?_) (fun c1 => ?_)
  · skip
    have r2 := (zs_I_eq c1)
    have g3 : zs_in (t_5).toInt 0 0 := (zs_eql 0 0 r2 pt_5 zlI_0 (by decide))
    obtain ⟨ret, er, hr⟩ := zP_22 hσ_2 h_x2 h_x4 (zs_addI 6 179 h_x2 h_x6 (by decide)) zlI_0 hc
    refine ⟨ret, er, ?_⟩
    exact (zs_sumw hr (fun v w => ⟨w.1, w.2⟩) (fun v w => w.elim))
  · skip
    have r4 := (zs_I_eqn c1)
    have g5 : zs_in (t_5).toInt 1 1 := (zs_nel 1 1 r4 pt_5 zlI_0 (by decide))
    obtain ⟨ret, er, hr⟩ := zP_23 hσ_2 h_x2 h_x4 (zs_addI 6 179 h_x2 h_x6 (by decide)) zlI_5 hc
    refine ⟨ret, er, ?_⟩
    exact (zs_sumw hr (fun v w => ⟨w.1, w.2⟩) (fun v w => w.elim))
-- BX0_tickleByNets_55
theorem zP_26 {σ0 : sn_S} {σ : sn_S} (h_σ : zs_B σ0 σ) {x2 : Int32} (h_x2 : zs_in x2.toInt 6 174) {x3 : Int32} {x4 : Int32} (h_x4 : zs_in x4.toInt 0 8) {c : Int} (hc : x4.toInt = c + 0) : zs_ok (BX0_tickleByNets_55 σ 27 x2 x3 x4) (fun r => zs_sum (fun v => ((zs_B σ0 v.1 ∧ zs_in (v.2).toInt 1 8)) ∧ v.2.toInt = c + 1) (fun v => zs_B σ0 v) r) := by
  unfold BX0_tickleByNets_55
  refine zs_ite (fun c1 => ?_) (fun c1 => ?_)
  · skip
    have r2 := (zs_I_le c1)
    exact zs_some (zs_inr (h_σ))
  · skip
    have r3 := (zs_I_len c1)
    have g4 : zs_in (x4).toInt 0 7 := (zs_ltl 0 7 r3 h_x4 (zs_rdk (q := 27) (k := 2) (z := (0, 8)) h_σ.1 rfl) (by decide))
    have g5 : zs_in ((sn_I σ 27 2)).toInt 1 8 := (zs_ltr 1 8 r3 h_x4 (zs_rdk (q := 27) (k := 2) (z := (0, 8)) h_σ.1 rfl) (by decide))
    refine zs_ite (fun c6 => ?_) (fun c6 => ?_)
    · skip
      have r7 := (zs_I_eq c6)
      have g8 : zs_in ((sn_I σ 27 3)).toInt 0 7 := (zs_eqr 0 7 r7 g4 (zs_topI _) (by decide))
      obtain ⟨ret, er, hr⟩ := zP_20 h_σ h_x2 g4 hc
      refine ⟨ret, er, ?_⟩
      exact (zs_sumw hr (fun v w => ⟨w.1, w.2⟩) (fun v w => w.elim))
    · skip
      have r9 := (zs_I_eqn c6)
      refine zs_gd (zs_gin (zs_mulI 0 14 zlI_2 g4 (by decide)) (by decide)) ?_
      refine zs_lt (Q := fun z => zs_in z.toInt 0 5) (zs_use (h_σ.1.2 rfl).2.1.1 g4 (by decide) r3 (zs_i20 g4 (by decide))) (fun y_4 hy_4 => ?_)
      refine zs_gd (zs_gin (zs_addI 1 15 (zs_mulI 0 14 zlI_2 g4 (by decide)) zlI_1 (by decide)) (by decide)) ?_
      refine zs_lt (Q := fun z => zs_in z.toInt 0 5) (zs_use (h_σ.1.2 rfl).2.1.2 g4 (by decide) r3 (zs_i21 g4 (by decide))) (fun y_7 hy_7 => ?_)
      refine zs_gd (zs_gin (zs_addI 6 179 h_x2 hy_4 (by decide)) (by decide)) ?_
      refine zs_bd_ (zP_21 hy_7) (fun t_10 pt_10 => ?_)
      refine zs_ite (fun c10 => ?_) (fun c10 => ?_)
      · skip
        have r11 := (zs_I_eq c10)
        have g12 : zs_in (t_10).toInt 0 0 := (zs_eql 0 0 r11 pt_10 zlI_0 (by decide))
        obtain ⟨ret, er, hr⟩ := zP_24 h_σ h_x2 g4 hy_4 hy_7 (zs_addI 6 179 h_x2 hy_4 (by decide)) zlI_0 hc
        refine ⟨ret, er, ?_⟩
        exact (zs_sumw hr (fun v w => ⟨w.1, w.2⟩) (fun v w => w.elim))
      · skip
        have r13 := (zs_I_eqn c10)
        have g14 : zs_in (t_10).toInt 1 1 := (zs_nel 1 1 r13 pt_10 zlI_0 (by decide))
        obtain ⟨ret, er, hr⟩ := zP_25 h_σ h_x2 g4 hy_4 hy_7 (zs_addI 6 179 h_x2 hy_4 (by decide)) zlI_5 hc
        refine ⟨ret, er, ?_⟩
        exact (zs_sumw hr (fun v w => ⟨w.1, w.2⟩) (fun v w => w.elim))
theorem zQ_8 {σ0 : sn_S} {x2 : Int32} (h_x2 : zs_in x2.toInt 6 174) {x3 : Int32} {s0 : (sn_S × Int32)} (h0 : (zs_B σ0 s0.1 ∧ zs_in (s0.2).toInt 0 8)) : zs_ok (sn_it (LX0_tickleByNets_55 27 x2 x3) 5000 s0) (fun t => zs_B σ0 t) := by
  refine zs_it (I := fun s => (zs_B σ0 s.1 ∧ zs_in (s.2).toInt 0 8)) (m := fun s => 8 - s.2.toInt) (fun s hs => ?_) (fun s hs => ?_) (by exact h0)
  · have h1 := hs.2; unfold zs_in at h1
    omega
  · obtain ⟨b, eb, hb⟩ := zP_26 hs.1 h_x2 hs.2 (c := s.2.toInt) (Int.add_zero _).symm
    exact ⟨b, eb, zs_sumw hb (fun v w => ⟨⟨w.1.1, (zs_w w.1.2 (by decide))⟩, by have := w.2; omega⟩) (fun v w => w)⟩
-- BX0_tickleByNets_155
theorem zP_27 {σ0 : sn_S} {σ : sn_S} (h_σ : zs_B σ0 σ) : zs_ok (BX0_tickleByNets_155 σ 27) (fun r => zs_B σ0 r) := by
  unfold BX0_tickleByNets_155
  exact zs_some h_σ
-- BX0_tickleByNets_46
theorem zP_28 {σ0 : sn_S} {σ : sn_S} (h_σ : zs_B σ0 σ) {x2 : Int32} (h_x2 : zs_in x2.toInt 6 174) {t0 : Int32} : zs_ok (BX0_tickleByNets_46 σ 27 x2 t0) (fun r => zs_B σ0 r) := by
  unfold BX0_tickleByNets_46
  refine zs_ite (fun c1 => ?_) (fun c1 => ?_)
  · skip
    have r2 := (zs_I_eq c1)
    have g3 : zs_in (t0).toInt 0 0 := (zs_eql 0 0 r2 (zs_topI _) zlI_0 (by decide))
    exact zs_some h_σ
  · skip
    have r4 := (zs_I_eqn c1)
    refine zs_bd_ (zQ_8 h_x2 (s0 := (σ, (0 : Int32))) ⟨h_σ, (zs_w zlI_0 (by decide))⟩) (fun t_2 pt_2 => ?_)
    obtain ⟨ret, er, hr⟩ := zP_27 pt_2
    refine ⟨ret, er, ?_⟩
    exact hr
-- BX0_tickleByNets_30
theorem zP_29 {σ0 : sn_S} {σ : sn_S} (h_σ : zs_B σ0 σ) {x1 : Int32} (h_x1 : zs_in x1.toInt 0 29) {x2 : Int32} (h_x2 : zs_in x2.toInt 0 174) (hl_x1 : x2.toInt = 6 * x1.toInt) : zs_ok (BX0_tickleByNets_30 σ 27 x1 x2) (fun r => zs_B σ0 r) := by
  unfold BX0_tickleByNets_30
  refine zs_ite (fun c1 => ?_) (fun c1 => ?_)
  · skip
    have r2 := (zs_I_eq c1)
    have g3 : zs_in (x1).toInt 0 0 := (zs_eql 0 0 r2 h_x1 zlI_0 (by decide))
    have g4 : zs_in (x2).toInt 0 0 := (zs_lin 0 0 hl_x1 g3 (by decide))
    obtain ⟨ret, er, hr⟩ := zP_19 h_σ g4 zlI_0
    refine ⟨ret, er, ?_⟩
    exact hr
  · skip
    have r5 := (zs_I_eqn c1)
    have g6 : zs_in (x1).toInt 1 29 := (zs_nel 1 29 r5 h_x1 zlI_0 (by decide))
    have g7 : zs_in (x2).toInt 6 174 := (zs_lin 6 174 hl_x1 g6 (by decide))
    refine zs_gd (zs_gin (zs_subI 0 28 g6 zlI_1 (by decide)) (by decide)) ?_
    obtain ⟨ret, er, hr⟩ := zP_28 h_σ g7
    refine ⟨ret, er, ?_⟩
    exact hr
-- fX0_tickleByNets
theorem zP_30 {σ0 : sn_S} {σ : sn_S} (h_σ : zs_B σ0 σ) {x1 : Int32} (h_x1 : zs_in x1.toInt 0 29) : zs_ok (fX0_tickleByNets σ 27 x1) (fun r => zs_B σ0 r) := by
  unfold fX0_tickleByNets
  refine zs_lt (Q := fun z => zs_in z.toInt 0 174 ∧ z = ((6 : Int32) * x1)) ⟨(zs_mulI 0 174 zlI_6 h_x1 (by decide)), rfl⟩ (fun y_1 hy_1 => ?_)
  refine zs_bd_ (zQ_7 h_x1 hy_1.1 (zs_linv hy_1.2 zlI_6 h_x1 (by decide)) (s0 := (σ, (0 : Int32))) ⟨h_σ, (zs_w zlI_0 (by decide))⟩) (fun t_3 pt_3 => ?_)
  obtain ⟨ret, er, hr⟩ := zP_29 pt_3 h_x1 hy_1.1 (zs_linv hy_1.2 zlI_6 h_x1 (by decide))
  refine ⟨ret, er, ?_⟩
  exact hr
-- fX8_hasBit
theorem zP_31 {x0 : Int32} {x1 : Int32} (h_x1 : zs_in x1.toInt 0 29) : zs_ok (fX8_hasBit x0 x1) (fun r => zs_in (r).toInt 0 1) := by
  unfold fX8_hasBit
  refine zs_ite (fun c1 => ?_) (fun c1 => ?_)
  · skip
    have r2 := (zs_I_eq c1)
    have g3 : zs_in (((x0 >>> (x1 &&& 31)) &&& (1 : Int32))).toInt 1 1 := (zs_eql 1 1 r2 (zs_and zlI_1 (by decide)) zlI_1 (by decide))
    refine zs_gd (zs_b01 zlI_1 (by decide)) ?_
    exact zs_some (zs_w zlI_1 (by decide))
  · skip
    have r4 := (zs_I_eqn c1)
    have g5 : zs_in (((x0 >>> (x1 &&& 31)) &&& (1 : Int32))).toInt 0 0 := (zs_neh 0 0 r4 (zs_and zlI_1 (by decide)) zlI_1 (by decide))
    refine zs_gd (zs_b01 zlI_0 (by decide)) ?_
    exact zs_some (zs_w zlI_0 (by decide))
-- fX0_cameAt
theorem zP_32 {σ0 : sn_S} {σ : sn_S} (h_σ : zs_B σ0 σ) {x1 : Int32} (h_x1 : zs_in x1.toInt 0 5) {x2 : Int32} (h_x2 : zs_in x2.toInt 0 29) : zs_ok (fX0_cameAt σ 27 x1 x2) (fun r => True) := by
  unfold fX0_cameAt
  refine zs_gd (zs_gin (zs_addI 0 179 (zs_mulI 0 174 zlI_6 h_x2 (by decide)) h_x1 (by decide)) (by decide)) ?_
  exact zs_some trivial
-- BX0_comesTo_19
theorem zP_33 {σ0 : sn_S} {σ : sn_S} (h_σ : zs_B σ0 σ) {x1 : Int32} (h_x1 : zs_in x1.toInt 0 5) {x2 : Int32} (h_x2 : zs_in x2.toInt 0 29) {t0 : Int32} (h_t0 : zs_in t0.toInt 0 0) : zs_ok (BX0_comesTo_19 σ 27 x1 x2 t0) (fun r => True) := by
  unfold BX0_comesTo_19
  obtain rfl : t0 = (0 : Int32) := zs_eqv h_t0 (by decide)
  refine zs_gd (zs_gin h_x1 (by decide)) ?_
  refine zs_gd (zs_gin h_x2 (by decide)) ?_
  refine zs_bd_ (zP_32 h_σ h_x1 h_x2) (fun t_3 pt_3 => ?_)
  exact zs_some trivial
-- BX0_comesTo_19
theorem zP_34 {σ0 : sn_S} {σ : sn_S} (h_σ : zs_B σ0 σ) {x1 : Int32} (h_x1 : zs_in x1.toInt 0 5) {x2 : Int32} (h_x2 : zs_in x2.toInt 0 29) {t0 : Int32} (h_t0 : zs_in t0.toInt 40 40) : zs_ok (BX0_comesTo_19 σ 27 x1 x2 t0) (fun r => True) := by
  unfold BX0_comesTo_19
  obtain rfl : t0 = (40 : Int32) := zs_eqv h_t0 (by decide)
  refine zs_gd (zs_gin h_x1 (by decide)) ?_
  refine zs_gd (zs_gin h_x2 (by decide)) ?_
  refine zs_bd_ (zP_32 h_σ h_x1 h_x2) (fun t_3 pt_3 => ?_)
  exact zs_some trivial
-- fX0_comesTo
theorem zP_35 {σ0 : sn_S} {σ : sn_S} (h_σ : zs_B σ0 σ) {x1 : Int32} (h_x1 : zs_in x1.toInt 0 5) {x2 : Int32} (h_x2 : zs_in x2.toInt 0 29) : zs_ok (fX0_comesTo σ 27 x1 x2) (fun r => True) := by
  unfold fX0_comesTo
  refine zs_gd (zs_gin h_x1 (by decide)) ?_
  refine zs_bd_ (zP_31 h_x2) (fun t_2 pt_2 => ?_)
  refine zs_ite (fun c1 => ?_) (fun c1 => ?_)
  · skip
    have r2 := (zs_I_eq c1)
    have g3 : zs_in (t_2).toInt 0 0 := (zs_eql 0 0 r2 pt_2 zlI_0 (by decide))
    obtain ⟨ret, er, hr⟩ := zP_33 h_σ h_x1 h_x2 zlI_0
    refine ⟨ret, er, ?_⟩
    exact hr
  · skip
    have r4 := (zs_I_eqn c1)
    have g5 : zs_in (t_2).toInt 1 1 := (zs_nel 1 1 r4 pt_2 zlI_0 (by decide))
    obtain ⟨ret, er, hr⟩ := zP_34 h_σ h_x1 h_x2 zlI_40
    refine ⟨ret, er, ?_⟩
    exact hr
-- BX0_liveMinute_98
theorem zP_36 {σ0 : sn_S} {σ : sn_S} (h_σ : zs_B σ0 σ) {x1 : Int32} (h_x1 : zs_in x1.toInt 0 0) {x2 : Int32} (h_x2 : zs_in x2.toInt 0 0) {x3 : Int32} {x4 : Int32} (h_x4 : zs_in x4.toInt 0 5) {x5 : Int32} (h_x5 : zs_in x5.toInt (-2147483648) 2147483646) (hl_x1 : x2.toInt = 6 * x1.toInt) {c : Int} (hc : x4.toInt = c + 0) : zs_ok (BX0_liveMinute_98 σ 27 x1 x2 x3 x4 x5) (fun r => zs_sum (fun v => ((zs_B σ0 v.1 ∧ (True ∧ zs_in (v.2.2).toInt 1 6))) ∧ v.2.2.toInt = c + 1) (fun v => False) r) := by
  unfold BX0_liveMinute_98
  refine zs_gd (zs_gin (zs_addI 0 5 h_x2 h_x4 (by decide)) (by decide)) ?_
  refine zs_lt (Q := fun z => zs_B σ0 z) (zs_wrt h_σ (fun _ => rfl) (fun _ => rfl)) (fun σ_2 hσ_2 => ?_)
  refine zs_lt (Q := fun z => zs_in z.toInt 1 6 ∧ z.toInt = c + 1) ⟨(zs_addI 1 6 h_x4 zlI_1 (by decide)), (zs_syI 1 hc h_x4 zlI_1 (by decide) (by decide))⟩ (fun y_4 hy_4 => ?_)
  exact zs_some (zs_inl ⟨⟨hσ_2, ⟨trivial, hy_4.1⟩⟩, hy_4.2⟩)
-- fX8_hasBit
theorem zP_37 {x0 : Int32} {x1 : Int32} (h_x1 : zs_in x1.toInt 0 0) : zs_ok (fX8_hasBit x0 x1) (fun r => zs_in (r).toInt 0 1) := by
  unfold fX8_hasBit
  obtain rfl : x1 = (0 : Int32) := zs_eqv h_x1 (by decide)
  refine zs_ite (fun c1 => ?_) (fun c1 => ?_)
  · skip
    have r2 := (zs_I_eq c1)
    have g3 : zs_in (((x0 >>> ((0 : Int32) &&& 31)) &&& (1 : Int32))).toInt 1 1 := (zs_eql 1 1 r2 (zs_and zlI_1 (by decide)) zlI_1 (by decide))
    refine zs_gd (zs_b01 zlI_1 (by decide)) ?_
    exact zs_some (zs_w zlI_1 (by decide))
  · skip
    have r4 := (zs_I_eqn c1)
    have g5 : zs_in (((x0 >>> ((0 : Int32) &&& 31)) &&& (1 : Int32))).toInt 0 0 := (zs_neh 0 0 r4 (zs_and zlI_1 (by decide)) zlI_1 (by decide))
    refine zs_gd (zs_b01 zlI_0 (by decide)) ?_
    exact zs_some (zs_w zlI_0 (by decide))
-- BX0_liveMinute_98
theorem zP_38 {σ0 : sn_S} {σ : sn_S} (h_σ : zs_B σ0 σ) {x1 : Int32} (h_x1 : zs_in x1.toInt 0 0) {x2 : Int32} (h_x2 : zs_in x2.toInt 0 0) {x3 : Int32} {x4 : Int32} (h_x4 : zs_in x4.toInt 0 5) {x5 : Int32} (h_x5 : zs_in x5.toInt 0 0) (hl_x1 : x2.toInt = 6 * x1.toInt) {c : Int} (hc : x4.toInt = c + 0) : zs_ok (BX0_liveMinute_98 σ 27 x1 x2 x3 x4 x5) (fun r => zs_sum (fun v => ((zs_B σ0 v.1 ∧ (True ∧ zs_in (v.2.2).toInt 1 6))) ∧ v.2.2.toInt = c + 1) (fun v => False) r) := by
  unfold BX0_liveMinute_98
  obtain rfl : x5 = (0 : Int32) := zs_eqv h_x5 (by decide)
  refine zs_gd (zs_gin (zs_addI 0 5 h_x2 h_x4 (by decide)) (by decide)) ?_
  refine zs_lt (Q := fun z => zs_B σ0 z) (zs_wrt h_σ (fun _ => rfl) (fun _ => rfl)) (fun σ_2 hσ_2 => ?_)
  refine zs_lt (Q := fun z => zs_in z.toInt 1 6 ∧ z.toInt = c + 1) ⟨(zs_addI 1 6 h_x4 zlI_1 (by decide)), (zs_syI 1 hc h_x4 zlI_1 (by decide) (by decide))⟩ (fun y_4 hy_4 => ?_)
  exact zs_some (zs_inl ⟨⟨hσ_2, ⟨trivial, hy_4.1⟩⟩, hy_4.2⟩)
-- BX0_liveMinute_98
theorem zP_39 {σ0 : sn_S} {σ : sn_S} (h_σ : zs_B σ0 σ) {x1 : Int32} (h_x1 : zs_in x1.toInt 0 0) {x2 : Int32} (h_x2 : zs_in x2.toInt 0 0) {x3 : Int32} {x4 : Int32} (h_x4 : zs_in x4.toInt 0 5) {x5 : Int32} (hl_x1 : x2.toInt = 6 * x1.toInt) {c : Int} (hc : x4.toInt = c + 0) : zs_ok (BX0_liveMinute_98 σ 27 x1 x2 x3 x4 x5) (fun r => zs_sum (fun v => ((zs_B σ0 v.1 ∧ (True ∧ zs_in (v.2.2).toInt 1 6))) ∧ v.2.2.toInt = c + 1) (fun v => False) r) := by
  unfold BX0_liveMinute_98
  refine zs_gd (zs_gin (zs_addI 0 5 h_x2 h_x4 (by decide)) (by decide)) ?_
  refine zs_lt (Q := fun z => zs_B σ0 z) (zs_wrt h_σ (fun _ => rfl) (fun _ => rfl)) (fun σ_2 hσ_2 => ?_)
  refine zs_lt (Q := fun z => zs_in z.toInt 1 6 ∧ z.toInt = c + 1) ⟨(zs_addI 1 6 h_x4 zlI_1 (by decide)), (zs_syI 1 hc h_x4 zlI_1 (by decide) (by decide))⟩ (fun y_4 hy_4 => ?_)
  exact zs_some (zs_inl ⟨⟨hσ_2, ⟨trivial, hy_4.1⟩⟩, hy_4.2⟩)
-- BX0_liveMinute_46
theorem zP_40 {σ0 : sn_S} {σ : sn_S} (h_σ : zs_B σ0 σ) {x1 : Int32} (h_x1 : zs_in x1.toInt 0 0) {x2 : Int32} (h_x2 : zs_in x2.toInt 0 0) {x3 : Int32} {x4 : Int32} (h_x4 : zs_in x4.toInt 0 5) {t0 : Int32} {t1 : Int32} (h_t1 : zs_in t1.toInt 0 0) (hl_x1 : x2.toInt = 6 * x1.toInt) {c : Int} (hc : x4.toInt = c + 0) : zs_ok (BX0_liveMinute_46 σ 27 x1 x2 x3 x4 t0 t1) (fun r => zs_sum (fun v => ((zs_B σ0 v.1 ∧ (True ∧ zs_in (v.2.2).toInt 1 6))) ∧ v.2.2.toInt = c + 1) (fun v => False) r) := by
  unfold BX0_liveMinute_46
  obtain rfl : t1 = (0 : Int32) := zs_eqv h_t1 (by decide)
  refine zs_lt (Q := fun z => True) trivial (fun y_1 hy_1 => ?_)
  refine zs_gd (zs_gin h_x4 (by decide)) ?_
  refine zs_ite (fun c1 => ?_) (fun c1 => ?_)
  · skip
    have r2 := (zs_I_lt c1)
    have g3 : zs_in (y_1).toInt (-2147483648) 2147483646 := (zs_ltl (-2147483648) 2147483646 r2 (zs_topI _) (zs_topI _) (by decide))
    have g4 : zs_in ((sn_I σ (27 + 3) x4.toNatClampNeg)).toInt (-2147483647) 2147483647 := (zs_ltr (-2147483647) 2147483647 r2 (zs_topI _) (zs_topI _) (by decide))
    obtain ⟨ret, er, hr⟩ := zP_36 h_σ h_x1 h_x2 h_x4 g3 hl_x1 hc
    refine ⟨ret, er, ?_⟩
    exact (zs_sumw hr (fun v w => ⟨w.1, w.2⟩) (fun v w => w.elim))
  · skip
    have r5 := (zs_I_ltn c1)
    refine zs_gd (zs_gin h_x4 (by decide)) ?_
    refine zs_bd_ (zP_37 h_x1) (fun t_6 pt_6 => ?_)
    refine zs_ite (fun c6 => ?_) (fun c6 => ?_)
    · skip
      have r7 := (zs_I_eq c6)
      have g8 : zs_in (t_6).toInt 0 0 := (zs_eql 0 0 r7 pt_6 zlI_0 (by decide))
      refine zs_lt (Q := fun z => True) trivial (fun y_9 hy_9 => ?_)
      refine zs_gd (zs_gin h_x4 (by decide)) ?_
      refine zs_gd (zs_gin h_x4 (by decide)) ?_
      refine zs_lt (Q := fun z => zs_B σ0 z) (zs_wru (z := (0, 1073741823)) h_σ (fun _ => rfl) (zs_or 30 1073741823 (zs_rdu (q := 37) (z := (0, 1073741823)) h_σ.1 (fun _ => rfl)) (zs_cases h_x1 (fun z => zs_in ((1 : Int32) <<< (z &&& 31)).toInt 1 1) (by decide +kernel)) (by decide)) (by decide) (fun _ => rfl)) (fun σ_13 hσ_13 => ?_)
      obtain ⟨ret, er, hr⟩ := zP_38 hσ_13 h_x1 h_x2 h_x4 zlI_0 hl_x1 hc
      refine ⟨ret, er, ?_⟩
      exact (zs_sumw hr (fun v w => ⟨w.1, w.2⟩) (fun v w => w.elim))
    · skip
      have r9 := (zs_I_eqn c6)
      have g10 : zs_in (t_6).toInt 1 1 := (zs_nel 1 1 r9 pt_6 zlI_0 (by decide))
      obtain ⟨ret, er, hr⟩ := zP_39 h_σ h_x1 h_x2 h_x4 hl_x1 hc
      refine ⟨ret, er, ?_⟩
      exact (zs_sumw hr (fun v w => ⟨w.1, w.2⟩) (fun v w => w.elim))
-- BX0_liveMinute_98
theorem zP_41 {σ0 : sn_S} {σ : sn_S} (h_σ : zs_B σ0 σ) {x1 : Int32} (h_x1 : zs_in x1.toInt 1 29) {x2 : Int32} (h_x2 : zs_in x2.toInt 6 174) {x3 : Int32} {x4 : Int32} (h_x4 : zs_in x4.toInt 0 5) {x5 : Int32} (h_x5 : zs_in x5.toInt (-2147483648) 2147483646) (hl_x1 : x2.toInt = 6 * x1.toInt) {c : Int} (hc : x4.toInt = c + 0) : zs_ok (BX0_liveMinute_98 σ 27 x1 x2 x3 x4 x5) (fun r => zs_sum (fun v => ((zs_B σ0 v.1 ∧ (True ∧ zs_in (v.2.2).toInt 1 6))) ∧ v.2.2.toInt = c + 1) (fun v => False) r) := by
  unfold BX0_liveMinute_98
  refine zs_gd (zs_gin (zs_addI 6 179 h_x2 h_x4 (by decide)) (by decide)) ?_
  refine zs_lt (Q := fun z => zs_B σ0 z) (zs_wrt h_σ (fun _ => rfl) (fun _ => rfl)) (fun σ_2 hσ_2 => ?_)
  refine zs_lt (Q := fun z => zs_in z.toInt 1 6 ∧ z.toInt = c + 1) ⟨(zs_addI 1 6 h_x4 zlI_1 (by decide)), (zs_syI 1 hc h_x4 zlI_1 (by decide) (by decide))⟩ (fun y_4 hy_4 => ?_)
  exact zs_some (zs_inl ⟨⟨hσ_2, ⟨trivial, hy_4.1⟩⟩, hy_4.2⟩)
-- fX8_hasBit
theorem zP_42 {x0 : Int32} {x1 : Int32} (h_x1 : zs_in x1.toInt 1 29) : zs_ok (fX8_hasBit x0 x1) (fun r => zs_in (r).toInt 0 1) := by
  unfold fX8_hasBit
  refine zs_ite (fun c1 => ?_) (fun c1 => ?_)
  · skip
    have r2 := (zs_I_eq c1)
    have g3 : zs_in (((x0 >>> (x1 &&& 31)) &&& (1 : Int32))).toInt 1 1 := (zs_eql 1 1 r2 (zs_and zlI_1 (by decide)) zlI_1 (by decide))
    refine zs_gd (zs_b01 zlI_1 (by decide)) ?_
    exact zs_some (zs_w zlI_1 (by decide))
  · skip
    have r4 := (zs_I_eqn c1)
    have g5 : zs_in (((x0 >>> (x1 &&& 31)) &&& (1 : Int32))).toInt 0 0 := (zs_neh 0 0 r4 (zs_and zlI_1 (by decide)) zlI_1 (by decide))
    refine zs_gd (zs_b01 zlI_0 (by decide)) ?_
    exact zs_some (zs_w zlI_0 (by decide))
-- BX0_liveMinute_98
theorem zP_43 {σ0 : sn_S} {σ : sn_S} (h_σ : zs_B σ0 σ) {x1 : Int32} (h_x1 : zs_in x1.toInt 1 29) {x2 : Int32} (h_x2 : zs_in x2.toInt 6 174) {x3 : Int32} {x4 : Int32} (h_x4 : zs_in x4.toInt 0 5) {x5 : Int32} (h_x5 : zs_in x5.toInt 0 0) (hl_x1 : x2.toInt = 6 * x1.toInt) {c : Int} (hc : x4.toInt = c + 0) : zs_ok (BX0_liveMinute_98 σ 27 x1 x2 x3 x4 x5) (fun r => zs_sum (fun v => ((zs_B σ0 v.1 ∧ (True ∧ zs_in (v.2.2).toInt 1 6))) ∧ v.2.2.toInt = c + 1) (fun v => False) r) := by
  unfold BX0_liveMinute_98
  obtain rfl : x5 = (0 : Int32) := zs_eqv h_x5 (by decide)
  refine zs_gd (zs_gin (zs_addI 6 179 h_x2 h_x4 (by decide)) (by decide)) ?_
  refine zs_lt (Q := fun z => zs_B σ0 z) (zs_wrt h_σ (fun _ => rfl) (fun _ => rfl)) (fun σ_2 hσ_2 => ?_)
  refine zs_lt (Q := fun z => zs_in z.toInt 1 6 ∧ z.toInt = c + 1) ⟨(zs_addI 1 6 h_x4 zlI_1 (by decide)), (zs_syI 1 hc h_x4 zlI_1 (by decide) (by decide))⟩ (fun y_4 hy_4 => ?_)
  exact zs_some (zs_inl ⟨⟨hσ_2, ⟨trivial, hy_4.1⟩⟩, hy_4.2⟩)
-- BX0_liveMinute_98
theorem zP_44 {σ0 : sn_S} {σ : sn_S} (h_σ : zs_B σ0 σ) {x1 : Int32} (h_x1 : zs_in x1.toInt 1 29) {x2 : Int32} (h_x2 : zs_in x2.toInt 6 174) {x3 : Int32} {x4 : Int32} (h_x4 : zs_in x4.toInt 0 5) {x5 : Int32} (hl_x1 : x2.toInt = 6 * x1.toInt) {c : Int} (hc : x4.toInt = c + 0) : zs_ok (BX0_liveMinute_98 σ 27 x1 x2 x3 x4 x5) (fun r => zs_sum (fun v => ((zs_B σ0 v.1 ∧ (True ∧ zs_in (v.2.2).toInt 1 6))) ∧ v.2.2.toInt = c + 1) (fun v => False) r) := by
  unfold BX0_liveMinute_98
  refine zs_gd (zs_gin (zs_addI 6 179 h_x2 h_x4 (by decide)) (by decide)) ?_
  refine zs_lt (Q := fun z => zs_B σ0 z) (zs_wrt h_σ (fun _ => rfl) (fun _ => rfl)) (fun σ_2 hσ_2 => ?_)
  refine zs_lt (Q := fun z => zs_in z.toInt 1 6 ∧ z.toInt = c + 1) ⟨(zs_addI 1 6 h_x4 zlI_1 (by decide)), (zs_syI 1 hc h_x4 zlI_1 (by decide) (by decide))⟩ (fun y_4 hy_4 => ?_)
  exact zs_some (zs_inl ⟨⟨hσ_2, ⟨trivial, hy_4.1⟩⟩, hy_4.2⟩)
-- BX0_liveMinute_46
theorem zP_45 {σ0 : sn_S} {σ : sn_S} (h_σ : zs_B σ0 σ) {x1 : Int32} (h_x1 : zs_in x1.toInt 1 29) {x2 : Int32} (h_x2 : zs_in x2.toInt 6 174) {x3 : Int32} {x4 : Int32} (h_x4 : zs_in x4.toInt 0 5) {t0 : Int32} {t1 : Int32} (hl_x1 : x2.toInt = 6 * x1.toInt) {c : Int} (hc : x4.toInt = c + 0) : zs_ok (BX0_liveMinute_46 σ 27 x1 x2 x3 x4 t0 t1) (fun r => zs_sum (fun v => ((zs_B σ0 v.1 ∧ (True ∧ zs_in (v.2.2).toInt 1 6))) ∧ v.2.2.toInt = c + 1) (fun v => False) r) := by
  unfold BX0_liveMinute_46
  refine zs_lt (Q := fun z => True) trivial (fun y_1 hy_1 => ?_)
  refine zs_gd (zs_gin h_x4 (by decide)) ?_
  refine zs_ite (fun c1 => ?_) (fun c1 => ?_)
  · skip
    have r2 := (zs_I_lt c1)
    have g3 : zs_in (y_1).toInt (-2147483648) 2147483646 := (zs_ltl (-2147483648) 2147483646 r2 (zs_topI _) (zs_topI _) (by decide))
    have g4 : zs_in ((sn_I σ (27 + 3) x4.toNatClampNeg)).toInt (-2147483647) 2147483647 := (zs_ltr (-2147483647) 2147483647 r2 (zs_topI _) (zs_topI _) (by decide))
    obtain ⟨ret, er, hr⟩ := zP_41 h_σ h_x1 h_x2 h_x4 g3 hl_x1 hc
    refine ⟨ret, er, ?_⟩
    exact (zs_sumw hr (fun v w => ⟨w.1, w.2⟩) (fun v w => w.elim))
  · skip
    have r5 := (zs_I_ltn c1)
    refine zs_gd (zs_gin h_x4 (by decide)) ?_
    refine zs_bd_ (zP_42 h_x1) (fun t_6 pt_6 => ?_)
    refine zs_ite (fun c6 => ?_) (fun c6 => ?_)
    · skip
      have r7 := (zs_I_eq c6)
      have g8 : zs_in (t_6).toInt 0 0 := (zs_eql 0 0 r7 pt_6 zlI_0 (by decide))
      refine zs_lt (Q := fun z => True) trivial (fun y_9 hy_9 => ?_)
      refine zs_gd (zs_gin h_x4 (by decide)) ?_
      refine zs_gd (zs_gin h_x4 (by decide)) ?_
      refine zs_lt (Q := fun z => zs_B σ0 z) (zs_wru (z := (0, 1073741823)) h_σ (fun _ => rfl) (zs_or 30 1073741823 (zs_rdu (q := 37) (z := (0, 1073741823)) h_σ.1 (fun _ => rfl)) (zs_cases h_x1 (fun z => zs_in ((1 : Int32) <<< (z &&& 31)).toInt 2 536870912) (by decide +kernel)) (by decide)) (by decide) (fun _ => rfl)) (fun σ_13 hσ_13 => ?_)
      obtain ⟨ret, er, hr⟩ := zP_43 hσ_13 h_x1 h_x2 h_x4 zlI_0 hl_x1 hc
      refine ⟨ret, er, ?_⟩
      exact (zs_sumw hr (fun v w => ⟨w.1, w.2⟩) (fun v w => w.elim))
    · skip
      have r9 := (zs_I_eqn c6)
      have g10 : zs_in (t_6).toInt 1 1 := (zs_nel 1 1 r9 pt_6 zlI_0 (by decide))
      obtain ⟨ret, er, hr⟩ := zP_44 h_σ h_x1 h_x2 h_x4 hl_x1 hc
      refine ⟨ret, er, ?_⟩
      exact (zs_sumw hr (fun v w => ⟨w.1, w.2⟩) (fun v w => w.elim))
-- BX0_liveMinute_10
theorem zP_46 {σ0 : sn_S} {σ : sn_S} (h_σ : zs_B σ0 σ) {x1 : Int32} (h_x1 : zs_in x1.toInt 0 29) {x2 : Int32} (h_x2 : zs_in x2.toInt 0 174) {x3 : Int32} {x4 : Int32} (h_x4 : zs_in x4.toInt 0 6) (hl_x1 : x2.toInt = 6 * x1.toInt) {c : Int} (hc : x4.toInt = c + 0) : zs_ok (BX0_liveMinute_10 σ 27 x1 x2 x3 x4) (fun r => zs_sum (fun v => ((zs_B σ0 v.1 ∧ (True ∧ zs_in (v.2.2).toInt 1 6))) ∧ v.2.2.toInt = c + 1) (fun v => (zs_B σ0 v.1 ∧ True)) r) := by
  unfold BX0_liveMinute_10
  refine zs_ite (fun c1 => ?_) (fun c1 => ?_)
  · skip
    have r2 := (zs_I_le c1)
    exact zs_some (zs_inr (⟨h_σ, trivial⟩))
  · skip
    have r3 := (zs_I_len c1)
    have g4 : zs_in (x4).toInt 0 5 := (zs_ltl 0 5 r3 h_x4 (zs_rdk (q := 27) (k := 1) (z := (0, 6)) h_σ.1 rfl) (by decide))
    have g5 : zs_in ((sn_I σ 27 1)).toInt 1 6 := (zs_ltr 1 6 r3 h_x4 (zs_rdk (q := 27) (k := 1) (z := (0, 6)) h_σ.1 rfl) (by decide))
    refine zs_bd_ (zP_35 h_σ g4 h_x1) (fun t_2 pt_2 => ?_)
    refine zs_ite (fun c6 => ?_) (fun c6 => ?_)
    · skip
      have r7 := (zs_I_eq c6)
      have g8 : zs_in (x1).toInt 0 0 := (zs_eql 0 0 r7 h_x1 zlI_0 (by decide))
      have g9 : zs_in (x2).toInt 0 0 := (zs_lin 0 0 hl_x1 g8 (by decide))
      obtain ⟨ret, er, hr⟩ := zP_40 h_σ g8 g9 g4 zlI_0 hl_x1 hc
      refine ⟨ret, er, ?_⟩
      exact (zs_sumw hr (fun v w => ⟨w.1, w.2⟩) (fun v w => w.elim))
    · skip
      have r10 := (zs_I_eqn c6)
      have g11 : zs_in (x1).toInt 1 29 := (zs_nel 1 29 r10 h_x1 zlI_0 (by decide))
      have g12 : zs_in (x2).toInt 6 174 := (zs_lin 6 174 hl_x1 g11 (by decide))
      refine zs_gd (zs_gin (zs_addI 0 173 (zs_subI 0 168 g12 zlI_6 (by decide)) g4 (by decide)) (by decide)) ?_
      obtain ⟨ret, er, hr⟩ := zP_45 h_σ g11 g12 g4 hl_x1 hc
      refine ⟨ret, er, ?_⟩
      exact (zs_sumw hr (fun v w => ⟨w.1, w.2⟩) (fun v w => w.elim))
theorem zQ_9 {σ0 : sn_S} {x1 : Int32} (h_x1 : zs_in x1.toInt 0 29) {x2 : Int32} (h_x2 : zs_in x2.toInt 0 174) (hl_x1 : x2.toInt = 6 * x1.toInt) {s0 : (sn_S × (Int32 × Int32))} (h0 : (zs_B σ0 s0.1 ∧ (True ∧ zs_in (s0.2.2).toInt 0 6))) : zs_ok (sn_it (LX0_liveMinute_10 27 x1 x2) 5000 s0) (fun t => (zs_B σ0 t.1 ∧ True)) := by
  refine zs_it (I := fun s => (zs_B σ0 s.1 ∧ (True ∧ zs_in (s.2.2).toInt 0 6))) (m := fun s => 6 - s.2.2.toInt) (fun s hs => ?_) (fun s hs => ?_) (by exact h0)
  · have h1 := hs.2.2; unfold zs_in at h1
    omega
  · obtain ⟨b, eb, hb⟩ := zP_46 hs.1 h_x1 h_x2 hs.2.2 hl_x1 (c := s.2.2.toInt) (Int.add_zero _).symm
    exact ⟨b, eb, zs_sumw hb (fun v w => ⟨⟨w.1.1, ⟨w.1.2.1, (zs_w w.1.2.2 (by decide))⟩⟩, by have := w.2; omega⟩) (fun v w => w)⟩
-- BX0_liveMinute_115
theorem zP_47 {σ0 : sn_S} {σ : sn_S} (h_σ : zs_B σ0 σ) {x1 : Int32} (h_x1 : zs_in x1.toInt 0 29) {x3 : Int32} : zs_ok (BX0_liveMinute_115 σ 27 x1 x3) (fun r => zs_B σ0 r) := by
  unfold BX0_liveMinute_115
  refine zs_gd (zs_gin h_x1 (by decide)) ?_
  refine zs_lt (Q := fun z => zs_B σ0 z) (zs_wrt h_σ (fun _ => rfl) (fun _ => rfl)) (fun σ_2 hσ_2 => ?_)
  exact zs_some hσ_2
-- fX0_liveMinute
theorem zP_48 {σ0 : sn_S} {σ : sn_S} (h_σ : zs_B σ0 σ) {x1 : Int32} (h_x1 : zs_in x1.toInt 0 29) : zs_ok (fX0_liveMinute σ 27 x1) (fun r => zs_B σ0 r) := by
  unfold fX0_liveMinute
  refine zs_lt (Q := fun z => zs_in z.toInt 0 174 ∧ z = ((6 : Int32) * x1)) ⟨(zs_mulI 0 174 zlI_6 h_x1 (by decide)), rfl⟩ (fun y_1 hy_1 => ?_)
  refine zs_bd_ (zQ_9 h_x1 hy_1.1 (zs_linv hy_1.2 zlI_6 h_x1 (by decide)) (s0 := (σ, ((0 : Int32), (0 : Int32)))) ⟨h_σ, ⟨trivial, (zs_w zlI_0 (by decide))⟩⟩) (fun t_3 pt_3 => ?_)
  obtain ⟨ret, er, hr⟩ := zP_47 pt_3.1 h_x1
  refine ⟨ret, er, ?_⟩
  exact hr
-- BX0_live_31
theorem zP_49 {σ0 : sn_S} {σ : sn_S} (h_σ : zs_B σ0 σ) {x2 : Int32} (h_x2 : zs_in x2.toInt 0 30) {x3 : Int32} (h_x3 : zs_in x3.toInt 0 30) {c : Int} (hc : x3.toInt = c + 0) : zs_ok (BX0_live_31 σ 27 x2 x3) (fun r => zs_sum (fun v => ((zs_B σ0 v.1 ∧ zs_in (v.2).toInt 1 30)) ∧ v.2.toInt = c + 1) (fun v => zs_B σ0 v) r) := by
  unfold BX0_live_31
  refine zs_ite (fun c1 => ?_) (fun c1 => ?_)
  · skip
    have r2 := (zs_I_le c1)
    exact zs_some (zs_inr (h_σ))
  · skip
    have r3 := (zs_I_len c1)
    have g4 : zs_in (x3).toInt 0 29 := (zs_ltl 0 29 r3 h_x3 h_x2 (by decide))
    have g5 : zs_in (x2).toInt 1 30 := (zs_ltr 1 30 r3 h_x3 h_x2 (by decide))
    refine zs_ite (fun c6 => ?_) (fun c6 => ?_)
    · skip
      have r7 := (zs_I_le c6)
      have g8 : zs_in ((sn_I σ 27 0)).toInt 0 29 := (zs_lel 0 29 r7 (zs_rdk (q := 27) (k := 0) (z := (0, 30)) h_σ.1 rfl) g4 (by decide))
      exact zs_some (zs_inr (h_σ))
    · skip
      have r9 := (zs_I_len c6)
      have g10 : zs_in ((sn_I σ 27 0)).toInt 1 30 := (zs_ltr 1 30 r9 g4 (zs_rdk (q := 27) (k := 0) (z := (0, 30)) h_σ.1 rfl) (by decide))
      refine zs_bd_ (zP_30 h_σ g4) (fun t_3 pt_3 => ?_)
      refine zs_bd_ (zP_48 pt_3 g4) (fun t_5 pt_5 => ?_)
      refine zs_lt (Q := fun z => zs_in z.toInt 1 30 ∧ z.toInt = c + 1) ⟨(zs_addI 1 30 g4 zlI_1 (by decide)), (zs_syI 1 hc g4 zlI_1 (by decide) (by decide))⟩ (fun y_7 hy_7 => ?_)
      exact zs_some (zs_inl ⟨⟨pt_5, hy_7.1⟩, hy_7.2⟩)
theorem zQ_10 {σ0 : sn_S} {x2 : Int32} (h_x2 : zs_in x2.toInt 0 30) {s0 : (sn_S × Int32)} (h0 : (zs_B σ0 s0.1 ∧ zs_in (s0.2).toInt 0 30)) : zs_ok (sn_it (LX0_live_31 27 x2) 5000 s0) (fun t => zs_B σ0 t) := by
  refine zs_it (I := fun s => (zs_B σ0 s.1 ∧ zs_in (s.2).toInt 0 30)) (m := fun s => 30 - s.2.toInt) (fun s hs => ?_) (fun s hs => ?_) (by exact h0)
  · have h1 := hs.2; unfold zs_in at h1
    omega
  · obtain ⟨b, eb, hb⟩ := zP_49 hs.1 h_x2 hs.2 (c := s.2.toInt) (Int.add_zero _).symm
    exact ⟨b, eb, zs_sumw hb (fun v w => ⟨⟨w.1.1, (zs_w w.1.2 (by decide))⟩, by have := w.2; omega⟩) (fun v w => w)⟩
-- BX0_live_60
theorem zP_50 {σ0 : sn_S} {σ : sn_S} (h_σ : zs_B σ0 σ) : zs_ok (BX0_live_60 σ 27) (fun r => zs_B σ0 r) := by
  unfold BX0_live_60
  exact zs_some h_σ
-- BX0_live_29
theorem zP_51 {σ0 : sn_S} {σ : sn_S} (h_σ : zs_B σ0 σ) {x1 : Int32} (h_x1 : zs_in x1.toInt 0 0) {x2 : Int32} (h_x2 : zs_in x2.toInt 0 30) : zs_ok (BX0_live_29 σ 27 x1 x2) (fun r => zs_B σ0 r) := by
  unfold BX0_live_29
  obtain rfl : x1 = (0 : Int32) := zs_eqv h_x1 (by decide)
  refine zs_bd_ (zQ_10 h_x2 (s0 := (σ, (0 : Int32))) ⟨h_σ, (zs_w h_x1 (by decide))⟩) (fun t_1 pt_1 => ?_)
  obtain ⟨ret, er, hr⟩ := zP_50 pt_1
  refine ⟨ret, er, ?_⟩
  exact hr
-- fX0_live
theorem zP_52 {σ0 : sn_S} {σ : sn_S} (h_σ : zs_B σ0 σ) {x1 : Int32} (h_x1 : zs_in x1.toInt 0 0) {x2 : Int32} (h_x2 : zs_in x2.toInt 0 30) : zs_ok (fX0_live σ 27 x1 x2) (fun r => zs_B σ0 r) := by
  unfold fX0_live
  obtain rfl : x1 = (0 : Int32) := zs_eqv h_x1 (by decide)
  refine zs_bd_ (zQ_6 h_x1 h_x2 (s0 := (σ, (0 : Int32))) ⟨h_σ, (zs_w zlI_0 (by decide))⟩) (fun t_1 pt_1 => ?_)
  obtain ⟨ret, er, hr⟩ := zP_51 pt_1 h_x1 h_x2
  refine ⟨ret, er, ?_⟩
  exact hr
-- fX0_liveWhole
theorem zP_53 {σ0 : sn_S} {σ : sn_S} (h_σ : zs_B σ0 σ) : zs_ok (fX0_liveWhole σ 27) (fun r => zs_B σ0 r) := by
  unfold fX0_liveWhole
  refine zs_bd_ (zP_52 h_σ zlI_0 (zs_rdk (q := 27) (k := 0) (z := (0, 30)) h_σ.1 rfl)) (fun t_1 pt_1 => ?_)
  exact zs_some pt_1
-- fX8_liveAnew
theorem zP_54 {σ0 : sn_S} {σ : sn_S} (h_σ : zs_B σ0 σ) : zs_ok (fX8_liveAnew σ) (fun r => zs_B σ0 r) := by
  unfold fX8_liveAnew
  refine zs_bd_ (zP_15 h_σ) (fun t_1 pt_1 => ?_)
  refine zs_bd_ (zP_53 pt_1) (fun t_3 pt_3 => ?_)
  exact zs_some pt_3
