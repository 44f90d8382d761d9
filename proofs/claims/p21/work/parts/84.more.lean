def zs_kN (q k : Nat) : Bool := bif (Nat.beq q 10 || Nat.beq q 11 || Nat.beq q 12 || Nat.beq q 13 || Nat.beq q 14 || Nat.beq q 16) then false else (bif Nat.beq q 0 then (bif (Nat.beq k 30 || Nat.beq k 31) then false else true) else true)
def zs_lN (_ : Nat) : Bool := true
abbrev zs_N := zs_G zs_tM zs_kN zs_lN
def zs_kV (q k : Nat) : Bool := bif Nat.beq q 16 then false else (bif Nat.beq q 0 then (bif Nat.beq k 30 then false else true) else true)
abbrev zs_V := zs_G zs_tM zs_kV zs_lN
def zs_kW (q k : Nat) : Bool := zs_kM q k || Nat.beq q 1
abbrev zs_W := zs_G zs_tM zs_kW zs_lN
theorem zlL_7 : zs_in (7 : Int64).toInt 7 7 := by decide
-- fX9_in
theorem zc_1485 {x0 : Int64} (h_x0 : zs_in x0.toInt 0 29) {x2 : Int64} (h_x2 : zs_in x2.toInt 0 0) {x4 : Int64} (h_x4 : zs_in x4.toInt 7 7) : zs_ok (fX9_in x0 x2 x4) (fun r => (zs_in (r).toInt 0 1) ∧ ((r).toInt = 0 ∨ (zs_in (x0).toInt 0 7))) := by
  unfold fX9_in
  refine zs_ite (fun c1 => ?_) (fun c1 => ?_)
  · skip
    have r2 := (zs_lg_lt c1)
    exact (zs_botlt r2 h_x0 h_x2 (by decide)).elim
  · skip
    have r3 := (zs_lg_ltn c1)
    refine zs_ite (fun c4 => ?_) (fun c4 => ?_)
    · skip
      have r5 := (zs_lg_ltf c4)
      have g6 : zs_in (x0).toInt 8 29 := (zs_ltr 8 29 r5 h_x4 h_x0 (by decide))
      refine zs_gd (zs_b01 zlI_0 (by decide)) ?_
      exact zs_some ⟨(zs_w zlI_0 (by decide)), Or.inl (zs_ptr zlI_0)⟩
    · skip
      have r7 := (zs_lg_ltfn c4)
      have g8 : zs_in (x0).toInt 0 7 := (zs_lel 0 7 r7 h_x0 h_x4 (by decide))
      refine zs_gd (zs_b01 zlI_1 (by decide)) ?_
      exact zs_some ⟨(zs_w zlI_1 (by decide)), Or.inr g8⟩
-- fX9_isPuffs
theorem zc_1486 {σ0 : sn_S} {σ : sn_S} (h_σ : zs_M σ0 σ) {x1 : Int32} {x2 : Int32} : zs_ok (fX9_isPuffs σ x1 x2) (fun r => (zs_in (r).toInt 0 1) ∧ ((r).toInt = 0 ∨ (zs_in (x1).toInt 0 7 ∧ zs_in (x2).toInt 0 1))) := by
  unfold fX9_isPuffs
  refine zs_bd_ (zc_94 h_σ (zs_64 (zs_topI _))) (fun t_1 pt_1 => ?_)
  refine zs_ite (fun c1 => ?_) (fun c1 => ?_)
  · skip
    have r2 := (zs_I_eq c1)
    have g3 : zs_in (t_1).toInt 0 0 := (zs_eql 0 0 r2 pt_1.1 zlI_0 (by decide))
    refine zs_gd (zs_b01 zlI_0 (by decide)) ?_
    exact zs_some ⟨(zs_w zlI_0 (by decide)), Or.inl (zs_ptr zlI_0)⟩
  · skip
    have r4 := (zs_I_eqn c1)
    have g5 : zs_in (t_1).toInt 1 1 := (zs_nel 1 1 r4 pt_1.1 zlI_0 (by decide))
    have q6 := (zs_or2 pt_1.2 g5 (by decide))
    have g7 : zs_in (x1.toInt64).toInt 0 29 := q6
    have g8 : zs_in (x1).toInt 0 29 := (zs_64r g7)
    refine zs_bd_ (zc_1485 g7 zlL_0 zlL_7) (fun t_5 pt_5 => ?_)
    refine zs_ite (fun c9 => ?_) (fun c9 => ?_)
    · skip
      have r10 := (zs_I_eq c9)
      have g11 : zs_in (t_5).toInt 0 0 := (zs_eql 0 0 r10 pt_5.1 zlI_0 (by decide))
      refine zs_gd (zs_b01 zlI_0 (by decide)) ?_
      exact zs_some ⟨(zs_w zlI_0 (by decide)), Or.inl (zs_ptr zlI_0)⟩
    · skip
      have r12 := (zs_I_eqn c9)
      have g13 : zs_in (t_5).toInt 1 1 := (zs_nel 1 1 r12 pt_5.1 zlI_0 (by decide))
      have q14 := (zs_or2 pt_5.2 g13 (by decide))
      have g15 : zs_in (x1.toInt64).toInt 0 7 := q14
      have g16 : zs_in (x1).toInt 0 7 := (zs_64r g15)
      refine zs_bd_ (zc_7 (zs_64 (zs_topI _)) zlL_0 zlL_1) (fun t_9 pt_9 => ?_)
      refine zs_ite (fun c17 => ?_) (fun c17 => ?_)
      · skip
        have r18 := (zs_I_eq c17)
        have g19 : zs_in (t_9).toInt 0 0 := (zs_eql 0 0 r18 pt_9.1 zlI_0 (by decide))
        refine zs_gd (zs_b01 zlI_0 (by decide)) ?_
        exact zs_some ⟨(zs_w zlI_0 (by decide)), Or.inl (zs_ptr zlI_0)⟩
      · skip
        have r20 := (zs_I_eqn c17)
        have g21 : zs_in (t_9).toInt 1 1 := (zs_nel 1 1 r20 pt_9.1 zlI_0 (by decide))
        have q22 := (zs_or2 pt_9.2 g21 (by decide))
        have g23 : zs_in (x2.toInt64).toInt 0 1 := q22
        have g24 : zs_in (x2).toInt 0 1 := (zs_64r g23)
        refine zs_gd (zs_b01 zlI_1 (by decide)) ?_
        exact zs_some ⟨(zs_w zlI_1 (by decide)), Or.inr ⟨g16, g24⟩⟩
-- BX9_takesBy_73
theorem zc_1487 {σ0 : sn_S} {σ : sn_S} (h_σ : zs_M σ0 σ) {x1 : Int32} (h_x1 : zs_in x1.toInt 0 5) {x2 : Int32} (h_x2 : zs_in x2.toInt 0 5) {x3 : Int32} (h_x3 : zs_in x3.toInt 0 297) {x4 : Int32} (h_x4 : zs_in x4.toInt 0 5) {x5 : Int32} (h_x5 : zs_in x5.toInt 0 5) {c : Int} (hc : x5.toInt = c + 0) : zs_ok (BX9_takesBy_73 σ x1 x2 x3 x4 x5) (fun r => zs_sum (fun v => ((zs_M σ0 v.1 ∧ (zs_in (v.2.1).toInt 0 5 ∧ zs_in (v.2.2).toInt 1 6))) ∧ v.2.2.toInt = c + 1) (fun v => False) r) := by
  unfold BX9_takesBy_73
  refine zs_lt (Q := fun z => zs_in z.toInt 1 6 ∧ z.toInt = c + 1) ⟨(zs_addI 1 6 h_x5 zlI_1 (by decide)), (zs_syI 1 hc h_x5 zlI_1 (by decide) (by decide))⟩ (fun y_1 hy_1 => ?_)
  exact zs_some (zs_inl ⟨⟨h_σ, ⟨h_x4, hy_1.1⟩⟩, hy_1.2⟩)
-- BX9_takesBy_73
theorem zc_1488 {σ0 : sn_S} {σ : sn_S} (h_σ : zs_M σ0 σ) {x1 : Int32} (h_x1 : zs_in x1.toInt 0 5) {x2 : Int32} (h_x2 : zs_in x2.toInt 0 5) {x3 : Int32} (h_x3 : zs_in x3.toInt 0 297) {x4 : Int32} (h_x4 : zs_in x4.toInt (-1) 5) {x5 : Int32} (h_x5 : zs_in x5.toInt 0 5) {c : Int} (hc : x5.toInt = c + 0) : zs_ok (BX9_takesBy_73 σ x1 x2 x3 x4 x5) (fun r => zs_sum (fun v => ((zs_M σ0 v.1 ∧ (zs_in (v.2.1).toInt (-1) 5 ∧ zs_in (v.2.2).toInt 1 6))) ∧ v.2.2.toInt = c + 1) (fun v => False) r) := by
  unfold BX9_takesBy_73
  refine zs_lt (Q := fun z => zs_in z.toInt 1 6 ∧ z.toInt = c + 1) ⟨(zs_addI 1 6 h_x5 zlI_1 (by decide)), (zs_syI 1 hc h_x5 zlI_1 (by decide) (by decide))⟩ (fun y_1 hy_1 => ?_)
  exact zs_some (zs_inl ⟨⟨h_σ, ⟨h_x4, hy_1.1⟩⟩, hy_1.2⟩)
-- BX9_takesBy_48
theorem zc_1489 {σ0 : sn_S} {σ : sn_S} (h_σ : zs_M σ0 σ) {x1 : Int32} (h_x1 : zs_in x1.toInt 0 5) {x2 : Int32} (h_x2 : zs_in x2.toInt 0 5) {x3 : Int32} (h_x3 : zs_in x3.toInt 0 297) {x4 : Int32} (h_x4 : zs_in x4.toInt (-1) 5) {x5 : Int32} (h_x5 : zs_in x5.toInt 0 5) {t0 : Int32} {t1 : Int32} (h_t1 : zs_in t1.toInt 0 297) {c : Int} (hc : x5.toInt = c + 0) : zs_ok (BX9_takesBy_48 σ x1 x2 x3 x4 x5 t0 t1) (fun r => zs_sum (fun v => ((zs_M σ0 v.1 ∧ (zs_in (v.2.1).toInt (-1) 5 ∧ zs_in (v.2.2).toInt 1 6))) ∧ v.2.2.toInt = c + 1) (fun v => False) r) := by
  unfold BX9_takesBy_48
  refine zs_lt (Q := fun z => True) trivial (fun y_1 hy_1 => ?_)
  refine zs_ite (fun c1 => ?_) (fun c1 => ?_)
  · skip
    have r2 := (zs_I_lt c1)
    have g3 : zs_in ((sn_I σ 0 31)).toInt (-2147483648) 2147483646 := (zs_ltl (-2147483648) 2147483646 r2 (zs_topI _) (zs_topI _) (by decide))
    have g4 : zs_in (y_1).toInt (-2147483647) 2147483647 := (zs_ltr (-2147483647) 2147483647 r2 (zs_topI _) (zs_topI _) (by decide))
    refine zs_lt (Q := fun z => zs_M σ0 z) (zs_wrkt h_σ rfl rfl) (fun σ_4 hσ_4 => ?_)
    obtain ⟨ret, er, hr⟩ := zc_1487 hσ_4 h_x1 h_x2 h_x3 h_x5 h_x5 hc
    refine ⟨ret, er, ?_⟩
    exact (zs_sumw hr (fun v w => ⟨⟨w.1.1, ⟨(zs_w w.1.2.1 (by decide)), w.1.2.2⟩⟩, w.2⟩) (fun v w => w.elim))
  · skip
    have r5 := (zs_I_ltn c1)
    obtain ⟨ret, er, hr⟩ := zc_1488 h_σ h_x1 h_x2 h_x3 h_x4 h_x5 hc
    refine ⟨ret, er, ?_⟩
    exact (zs_sumw hr (fun v w => ⟨w.1, w.2⟩) (fun v w => w.elim))
-- BX9_takesBy_48
theorem zc_1490 {σ0 : sn_S} {σ : sn_S} (h_σ : zs_M σ0 σ) {x1 : Int32} (h_x1 : zs_in x1.toInt 0 5) {x2 : Int32} (h_x2 : zs_in x2.toInt 0 5) {x3 : Int32} (h_x3 : zs_in x3.toInt 0 297) {x4 : Int32} (h_x4 : zs_in x4.toInt (-1) 5) {x5 : Int32} (h_x5 : zs_in x5.toInt 0 5) {t0 : Int32} {t1 : Int32} (h_t1 : zs_in t1.toInt 0 99) {c : Int} (hc : x5.toInt = c + 0) : zs_ok (BX9_takesBy_48 σ x1 x2 x3 x4 x5 t0 t1) (fun r => zs_sum (fun v => ((zs_M σ0 v.1 ∧ (zs_in (v.2.1).toInt (-1) 5 ∧ zs_in (v.2.2).toInt 1 6))) ∧ v.2.2.toInt = c + 1) (fun v => False) r) := by
  unfold BX9_takesBy_48
  refine zs_lt (Q := fun z => True) trivial (fun y_1 hy_1 => ?_)
  refine zs_ite (fun c1 => ?_) (fun c1 => ?_)
  · skip
    have r2 := (zs_I_lt c1)
    have g3 : zs_in ((sn_I σ 0 31)).toInt (-2147483648) 2147483646 := (zs_ltl (-2147483648) 2147483646 r2 (zs_topI _) (zs_topI _) (by decide))
    have g4 : zs_in (y_1).toInt (-2147483647) 2147483647 := (zs_ltr (-2147483647) 2147483647 r2 (zs_topI _) (zs_topI _) (by decide))
    refine zs_lt (Q := fun z => zs_M σ0 z) (zs_wrkt h_σ rfl rfl) (fun σ_4 hσ_4 => ?_)
    obtain ⟨ret, er, hr⟩ := zc_1487 hσ_4 h_x1 h_x2 h_x3 h_x5 h_x5 hc
    refine ⟨ret, er, ?_⟩
    exact (zs_sumw hr (fun v w => ⟨⟨w.1.1, ⟨(zs_w w.1.2.1 (by decide)), w.1.2.2⟩⟩, w.2⟩) (fun v w => w.elim))
  · skip
    have r5 := (zs_I_ltn c1)
    obtain ⟨ret, er, hr⟩ := zc_1488 h_σ h_x1 h_x2 h_x3 h_x4 h_x5 hc
    refine ⟨ret, er, ?_⟩
    exact (zs_sumw hr (fun v w => ⟨w.1, w.2⟩) (fun v w => w.elim))
-- BX9_takesBy_11
theorem zc_1491 {σ0 : sn_S} {σ : sn_S} (h_σ : zs_M σ0 σ) {x1 : Int32} (h_x1 : zs_in x1.toInt 0 5) {x2 : Int32} (h_x2 : zs_in x2.toInt 0 5) {x3 : Int32} (h_x3 : zs_in x3.toInt 0 297) {x4 : Int32} (h_x4 : zs_in x4.toInt (-1) 5) {x5 : Int32} (h_x5 : zs_in x5.toInt 0 6) {c : Int} (hc : x5.toInt = c + 0) : zs_ok (BX9_takesBy_11 σ x1 x2 x3 x4 x5) (fun r => zs_sum (fun v => ((zs_M σ0 v.1 ∧ (zs_in (v.2.1).toInt (-1) 5 ∧ zs_in (v.2.2).toInt 1 6))) ∧ v.2.2.toInt = c + 1) (fun v => (zs_M σ0 v.1 ∧ zs_in (v.2).toInt (-1) 5)) r) := by
  unfold BX9_takesBy_11
  refine zs_gd (zs_gin zlI_8 (by decide)) ?_
  refine zs_ite (fun c1 => ?_) (fun c1 => ?_)
  · skip
    have r2 := (zs_I_le c1)
    exact zs_some (zs_inr (⟨h_σ, h_x4⟩))
  · skip
    have r3 := (zs_I_len c1)
    have g4 : zs_in (x5).toInt 0 5 := (zs_ltl 0 5 r3 h_x5 (zs_rdk (q := 1) (k := (8 : Int32).toNatClampNeg) (z := (0, 6)) h_σ.1 rfl) (by decide))
    have g5 : zs_in ((sn_I σ 1 (8 : Int32).toNatClampNeg)).toInt 1 6 := (zs_ltr 1 6 r3 h_x5 (zs_rdk (q := 1) (k := (8 : Int32).toNatClampNeg) (z := (0, 6)) h_σ.1 rfl) (by decide))
    refine zs_bd_ (zc_261 h_σ g4 h_x1 zlI_0) (fun t_3 pt_3 => ?_)
    refine zs_ite (fun c6 => ?_) (fun c6 => ?_)
    · skip
      have r7 := (zs_I_eq c6)
      obtain ⟨ret, er, hr⟩ := zc_1489 pt_3.2 h_x1 h_x2 h_x3 h_x4 g4 h_x3 hc
      refine ⟨ret, er, ?_⟩
      exact (zs_sumw hr (fun v w => ⟨w.1, w.2⟩) (fun v w => w.elim))
    · skip
      have r8 := (zs_I_eqn c6)
      refine zs_bd_ (zc_240 pt_3.2 g4 zlI_4) (fun t_6 pt_6 => ?_)
      obtain ⟨ret, er, hr⟩ := zc_1490 pt_3.2 h_x1 h_x2 h_x3 h_x4 g4 pt_6 hc
      refine ⟨ret, er, ?_⟩
      exact (zs_sumw hr (fun v w => ⟨w.1, w.2⟩) (fun v w => w.elim))
theorem zd_291 {σ0 : sn_S} {x1 : Int32} (h_x1 : zs_in x1.toInt 0 5) {x2 : Int32} (h_x2 : zs_in x2.toInt 0 5) {x3 : Int32} (h_x3 : zs_in x3.toInt 0 297) {s0 : (sn_S × (Int32 × Int32))} (h0 : (zs_M σ0 s0.1 ∧ (zs_in (s0.2.1).toInt (-1) 5 ∧ zs_in (s0.2.2).toInt 0 6))) : zs_ok (sn_it (LX9_takesBy_11 x1 x2 x3) 5000 s0) (fun t => (zs_M σ0 t.1 ∧ zs_in (t.2).toInt (-1) 5)) := by
  refine zs_it (I := fun s => (zs_M σ0 s.1 ∧ (zs_in (s.2.1).toInt (-1) 5 ∧ zs_in (s.2.2).toInt 0 6))) (m := fun s => 6 - s.2.2.toInt) (fun s hs => ?_) (fun s hs => ?_) (by exact h0)
  · have h1 := hs.2.2; unfold zs_in at h1
    omega
  · obtain ⟨b, eb, hb⟩ := zc_1491 hs.1 h_x1 h_x2 h_x3 hs.2.1 hs.2.2 (c := s.2.2.toInt) (Int.add_zero _).symm
    exact ⟨b, eb, zs_sumw hb (fun v w => ⟨⟨w.1.1, ⟨w.1.2.1, (zs_w w.1.2.2 (by decide))⟩⟩, by have := w.2; omega⟩) (fun v w => w)⟩
-- fX9_takesBy
theorem zc_1492 {σ0 : sn_S} {σ : sn_S} (h_σ : zs_M σ0 σ) {x1 : Int32} (h_x1 : zs_in x1.toInt 0 5) {x2 : Int32} (h_x2 : zs_in x2.toInt 0 5) {x3 : Int32} (h_x3 : zs_in x3.toInt 0 297) : zs_ok (fX9_takesBy σ x1 x2 x3) (fun r => (zs_in (r.1).toInt (-1) 5 ∧ zs_M σ0 r.2)) := by
  unfold fX9_takesBy
  refine zs_lt (Q := fun z => zs_M σ0 z) (zs_wrkt h_σ rfl rfl) (fun σ_1 hσ_1 => ?_)
  refine zs_bd_ (zd_291 h_x1 h_x2 h_x3 (s0 := (σ_1, ((-1 : Int32), (0 : Int32)))) ⟨hσ_1, ⟨(zs_w zlI_m1 (by decide)), (zs_w zlI_0 (by decide))⟩⟩) (fun t_3 pt_3 => ?_)
  obtain ⟨ret, er, hr⟩ := zc_476 pt_3.1 pt_3.2
  refine ⟨ret, er, ?_⟩
  exact hr
-- BX9_isTaken_2
theorem zc_1493 {σ0 : sn_S} {σ : sn_S} (h_σ : zs_M σ0 σ) {x1 : Int32} (h_x1 : zs_in x1.toInt 0 5) {x2 : Int32} (h_x2 : zs_in x2.toInt 0 297) {x3 : Int32} (h_x3 : zs_in x3.toInt 0 6) {c : Int} (hc : x3.toInt = c + 0) : zs_ok (BX9_isTaken_2 σ x1 x2 x3) (fun r => zs_sum (fun v => ((zs_M σ0 v.1 ∧ zs_in (v.2).toInt 1 6)) ∧ v.2.toInt = c + 1) (fun v => zs_sum (fun v => zs_M σ0 v) (fun v => (zs_in (v.1).toInt 1 1 ∧ zs_M σ0 v.2)) v) r) := by
  unfold BX9_isTaken_2
  refine zs_gd (zs_gin zlI_5 (by decide)) ?_
  refine zs_ite (fun c1 => ?_) (fun c1 => ?_)
  · skip
    have r2 := (zs_I_le c1)
    exact zs_some (zs_inr ((zs_inl (h_σ))))
  · skip
    have r3 := (zs_I_len c1)
    have g4 : zs_in (x3).toInt 0 5 := (zs_ltl 0 5 r3 h_x3 (zs_rdk (q := 1) (k := (5 : Int32).toNatClampNeg) (z := (0, 6)) h_σ.1 rfl) (by decide))
    have g5 : zs_in ((sn_I σ 1 (5 : Int32).toNatClampNeg)).toInt 1 6 := (zs_ltr 1 6 r3 h_x3 (zs_rdk (q := 1) (k := (5 : Int32).toNatClampNeg) (z := (0, 6)) h_σ.1 rfl) (by decide))
    refine zs_bd_ (zc_1492 h_σ g4 h_x1 h_x2) (fun t_3 pt_3 => ?_)
    refine zs_ite (fun c6 => ?_) (fun c6 => ?_)
    · skip
      have r7 := (zs_I_eq c6)
      have g8 : zs_in (t_3.1).toInt 0 5 := (zs_eql 0 5 r7 pt_3.1 h_x1 (by decide))
      refine zs_gd (zs_b01 zlI_1 (by decide)) ?_
      exact zs_some (zs_inr ((zs_inr (⟨zlI_1, pt_3.2⟩))))
    · skip
      have r9 := (zs_I_eqn c6)
      refine zs_lt (Q := fun z => zs_in z.toInt 1 6 ∧ z.toInt = c + 1) ⟨(zs_addI 1 6 g4 zlI_1 (by decide)), (zs_syI 1 hc g4 zlI_1 (by decide) (by decide))⟩ (fun y_6 hy_6 => ?_)
      exact zs_some (zs_inl ⟨⟨pt_3.2, hy_6.1⟩, hy_6.2⟩)
theorem zd_292 {σ0 : sn_S} {x1 : Int32} (h_x1 : zs_in x1.toInt 0 5) {x2 : Int32} (h_x2 : zs_in x2.toInt 0 297) {s0 : (sn_S × Int32)} (h0 : (zs_M σ0 s0.1 ∧ zs_in (s0.2).toInt 0 6)) : zs_ok (sn_it (LX9_isTaken_2 x1 x2) 5000 s0) (fun t => zs_sum (fun v => zs_M σ0 v) (fun v => (zs_in (v.1).toInt 1 1 ∧ zs_M σ0 v.2)) t) := by
  refine zs_it (I := fun s => (zs_M σ0 s.1 ∧ zs_in (s.2).toInt 0 6)) (m := fun s => 6 - s.2.toInt) (fun s hs => ?_) (fun s hs => ?_) (by exact h0)
  · have h1 := hs.2; unfold zs_in at h1
    omega
  · obtain ⟨b, eb, hb⟩ := zc_1493 hs.1 h_x1 h_x2 hs.2 (c := s.2.toInt) (Int.add_zero _).symm
    exact ⟨b, eb, zs_sumw hb (fun v w => ⟨⟨w.1.1, (zs_w w.1.2 (by decide))⟩, by have := w.2; omega⟩) (fun v w => w)⟩
-- BX9_isTaken_31
theorem zc_1494 {σ0 : sn_S} {σ : sn_S} (h_σ : zs_M σ0 σ) : zs_ok (BX9_isTaken_31 σ) (fun r => (zs_in (r.1).toInt 0 0 ∧ zs_M σ0 r.2)) := by
  unfold BX9_isTaken_31
  refine zs_gd (zs_b01 zlI_0 (by decide)) ?_
  exact zs_some ⟨zlI_0, h_σ⟩
-- fX9_isTaken
theorem zc_1495 {σ0 : sn_S} {σ : sn_S} (h_σ : zs_M σ0 σ) {x1 : Int32} (h_x1 : zs_in x1.toInt 0 5) {x2 : Int32} (h_x2 : zs_in x2.toInt 0 297) : zs_ok (fX9_isTaken σ x1 x2) (fun r => (zs_in (r.1).toInt 0 1 ∧ zs_M σ0 r.2)) := by
  unfold fX9_isTaken
  refine zs_bd_ (zd_292 h_x1 h_x2 (s0 := (σ, (0 : Int32))) ⟨h_σ, (zs_w zlI_0 (by decide))⟩) (fun t_1 pt_1 => ?_)
  refine zs_elim pt_1 (fun v_3 pv_3 => ?_) (fun r_4 pr_4 => ?_)
  · skip
    obtain ⟨ret, er, hr⟩ := zc_1494 pv_3
    refine ⟨ret, er, ?_⟩
    exact ⟨(zs_w hr.1 (by decide)), hr.2⟩
  · skip
    exact zs_some ⟨(zs_w pr_4.1 (by decide)), pr_4.2⟩
-- fX9_in
theorem zc_1496 {x0 : Int64} {x2 : Int64} (h_x2 : zs_in x2.toInt 0 0) {x4 : Int64} (h_x4 : zs_in x4.toInt (-1) 5) : zs_ok (fX9_in x0 x2 x4) (fun r => (zs_in (r).toInt 0 1) ∧ ((r).toInt = 0 ∨ (zs_in (x0).toInt 0 5 ∧ zs_in (x4).toInt 0 5))) := by
  unfold fX9_in
  refine zs_ite (fun c1 => ?_) (fun c1 => ?_)
  · skip
    have r2 := (zs_lg_lt c1)
    have g3 : zs_in (x0).toInt (-9223372036854775808) (-1) := (zs_ltl (-9223372036854775808) (-1) r2 (zs_topL _) h_x2 (by decide))
    refine zs_gd (zs_b01 zlI_0 (by decide)) ?_
    exact zs_some ⟨(zs_w zlI_0 (by decide)), Or.inl (zs_ptr zlI_0)⟩
  · skip
    have r4 := (zs_lg_ltn c1)
    have g5 : zs_in (x0).toInt 0 9223372036854775807 := (zs_ler 0 9223372036854775807 r4 h_x2 (zs_topL _) (by decide))
    refine zs_ite (fun c6 => ?_) (fun c6 => ?_)
    · skip
      have r7 := (zs_lg_ltf c6)
      refine zs_gd (zs_b01 zlI_0 (by decide)) ?_
      exact zs_some ⟨(zs_w zlI_0 (by decide)), Or.inl (zs_ptr zlI_0)⟩
    · skip
      have r8 := (zs_lg_ltfn c6)
      have g9 : zs_in (x0).toInt 0 5 := (zs_lel 0 5 r8 g5 h_x4 (by decide))
      have g10 : zs_in (x4).toInt 0 5 := (zs_ler 0 5 r8 g5 h_x4 (by decide))
      refine zs_gd (zs_b01 zlI_1 (by decide)) ?_
      exact zs_some ⟨(zs_w zlI_1 (by decide)), Or.inr ⟨g9, g10⟩⟩
-- fX9_isPerson
theorem zc_1497 {σ0 : sn_S} {σ : sn_S} (h_σ : zs_M σ0 σ) {x1 : Int64} : zs_ok (fX9_isPerson σ x1) (fun r => (zs_in (r).toInt 0 1) ∧ ((r).toInt = 0 ∨ (zs_in (x1).toInt 0 5))) := by
  unfold fX9_isPerson
  refine zs_gd (zs_gin zlI_5 (by decide)) ?_
  refine zs_bd_ (zc_1496 zlL_0 (zs_64 (zs_subI (-1) 5 (zs_rdk (q := 1) (k := (5 : Int32).toNatClampNeg) (z := (0, 6)) h_σ.1 rfl) zlI_1 (by decide)))) (fun t_2 pt_2 => ?_)
  refine zs_gd (zs_b01 pt_2.1 (by decide)) ?_
  rcases pt_2.2 with z0 | z0
  · skip
    have g1 : zs_in (t_2).toInt 0 0 := (zs_pt z0)
    exact zs_some ⟨(zs_w g1 (by decide)), Or.inl (zs_ptr g1)⟩
  · skip
    have q2 := z0
    have g3 : zs_in (x1).toInt 0 5 := q2.1
    have g4 : zs_in (((sn_I σ 1 (5 : Int32).toNatClampNeg) - (1 : Int32)).toInt64).toInt 0 5 := q2.2
    have g5 : zs_in (((sn_I σ 1 (5 : Int32).toNatClampNeg) - (1 : Int32))).toInt 0 5 := (zs_64r g4)
    have g6 : zs_in ((sn_I σ 1 (5 : Int32).toNatClampNeg)).toInt 1 6 := (zs_sublI 1 6 (zs_rdk (q := 1) (k := (5 : Int32).toNatClampNeg) (z := (0, 6)) h_σ.1 rfl) zlI_1 g5 (by decide))
    exact zs_some ⟨pt_2.1, Or.inr g3⟩
-- fX9_in
theorem zc_1498 {x0 : Int64} {x2 : Int64} (h_x2 : zs_in x2.toInt 0 0) {x4 : Int64} (h_x4 : zs_in x4.toInt (-1) 29) : zs_ok (fX9_in x0 x2 x4) (fun r => (zs_in (r).toInt 0 1) ∧ ((r).toInt = 0 ∨ (zs_in (x0).toInt 0 29 ∧ zs_in (x4).toInt 0 29))) := by
  unfold fX9_in
  refine zs_ite (fun c1 => ?_) (fun c1 => ?_)
  · skip
    have r2 := (zs_lg_lt c1)
    have g3 : zs_in (x0).toInt (-9223372036854775808) (-1) := (zs_ltl (-9223372036854775808) (-1) r2 (zs_topL _) h_x2 (by decide))
    refine zs_gd (zs_b01 zlI_0 (by decide)) ?_
    exact zs_some ⟨(zs_w zlI_0 (by decide)), Or.inl (zs_ptr zlI_0)⟩
  · skip
    have r4 := (zs_lg_ltn c1)
    have g5 : zs_in (x0).toInt 0 9223372036854775807 := (zs_ler 0 9223372036854775807 r4 h_x2 (zs_topL _) (by decide))
    refine zs_ite (fun c6 => ?_) (fun c6 => ?_)
    · skip
      have r7 := (zs_lg_ltf c6)
      refine zs_gd (zs_b01 zlI_0 (by decide)) ?_
      exact zs_some ⟨(zs_w zlI_0 (by decide)), Or.inl (zs_ptr zlI_0)⟩
    · skip
      have r8 := (zs_lg_ltfn c6)
      have g9 : zs_in (x0).toInt 0 29 := (zs_lel 0 29 r8 g5 h_x4 (by decide))
      have g10 : zs_in (x4).toInt 0 29 := (zs_ler 0 29 r8 g5 h_x4 (by decide))
      refine zs_gd (zs_b01 zlI_1 (by decide)) ?_
      exact zs_some ⟨(zs_w zlI_1 (by decide)), Or.inr ⟨g9, g10⟩⟩
-- fX9_isMinute
theorem zc_1499 {σ0 : sn_S} {σ : sn_S} (h_σ : zs_M σ0 σ) {x1 : Int64} : zs_ok (fX9_isMinute σ x1) (fun r => (zs_in (r).toInt 0 1) ∧ ((r).toInt = 0 ∨ (zs_in (x1).toInt 0 29))) := by
  unfold fX9_isMinute
  refine zs_gd (zs_gin zlI_0 (by decide)) ?_
  refine zs_bd_ (zc_1498 zlL_0 (zs_64 (zs_subI (-1) 29 (zs_rdk (q := 1) (k := (0 : Int32).toNatClampNeg) (z := (0, 30)) h_σ.1 rfl) zlI_1 (by decide)))) (fun t_2 pt_2 => ?_)
  refine zs_gd (zs_b01 pt_2.1 (by decide)) ?_
  rcases pt_2.2 with z0 | z0
  · skip
    have g1 : zs_in (t_2).toInt 0 0 := (zs_pt z0)
    exact zs_some ⟨(zs_w g1 (by decide)), Or.inl (zs_ptr g1)⟩
  · skip
    have q2 := z0
    have g3 : zs_in (x1).toInt 0 29 := q2.1
    have g4 : zs_in (((sn_I σ 1 (0 : Int32).toNatClampNeg) - (1 : Int32)).toInt64).toInt 0 29 := q2.2
    have g5 : zs_in (((sn_I σ 1 (0 : Int32).toNatClampNeg) - (1 : Int32))).toInt 0 29 := (zs_64r g4)
    have g6 : zs_in ((sn_I σ 1 (0 : Int32).toNatClampNeg)).toInt 1 30 := (zs_sublI 1 30 (zs_rdk (q := 1) (k := (0 : Int32).toNatClampNeg) (z := (0, 30)) h_σ.1 rfl) zlI_1 g5 (by decide))
    exact zs_some ⟨pt_2.1, Or.inr g3⟩
-- BX9_layPaid_2
theorem zb_1 {σ0 : sn_S} {σ : sn_S} (h_σ : zs_N σ0 σ) {x1 : Int32} (h_x1 : zs_in x1.toInt 0 30) {c : Int} (hc : x1.toInt = c + 0) : zs_ok (BX9_layPaid_2 σ x1) (fun r => zs_sum (fun v => ((zs_N σ0 v.1 ∧ zs_in (v.2).toInt 1 30)) ∧ v.2.toInt = c + 1) (fun v => zs_N σ0 v) r) := by
  unfold BX9_layPaid_2
  refine zs_ite (fun c1 => ?_) (fun c1 => ?_)
  · skip
    have r2 := (zs_I_le c1)
    have g3 : zs_in (x1).toInt 30 30 := (zs_ler 30 30 r2 zlI_30 h_x1 (by decide))
    exact zs_some (zs_inr (h_σ))
  · skip
    have r4 := (zs_I_len c1)
    have g5 : zs_in (x1).toInt 0 29 := (zs_ltl 0 29 r4 h_x1 zlI_30 (by decide))
    refine zs_gd (zs_gin g5 (by decide)) ?_
    refine zs_lt (Q := fun z => zs_N σ0 z) (zs_wrt h_σ (fun _ => rfl) (fun _ => rfl)) (fun σ_3 hσ_3 => ?_)
    refine zs_lt (Q := fun z => zs_in z.toInt 1 30 ∧ z.toInt = c + 1) ⟨(zs_addI 1 30 g5 zlI_1 (by decide)), (zs_syI 1 hc g5 zlI_1 (by decide) (by decide))⟩ (fun y_5 hy_5 => ?_)
    exact zs_some (zs_inl ⟨⟨hσ_3, hy_5.1⟩, hy_5.2⟩)
theorem ze_1 {σ0 : sn_S}  {s0 : (sn_S × Int32)} (h0 : (zs_N σ0 s0.1 ∧ zs_in (s0.2).toInt 0 30)) : zs_ok (sn_it (LX9_layPaid_2) 5000 s0) (fun t => zs_N σ0 t) := by
  refine zs_it (I := fun s => (zs_N σ0 s.1 ∧ zs_in (s.2).toInt 0 30)) (m := fun s => 30 - s.2.toInt) (fun s hs => ?_) (fun s hs => ?_) (by exact h0)
  · have h1 := hs.2; unfold zs_in at h1
    omega
  · obtain ⟨b, eb, hb⟩ := zb_1 hs.1 hs.2 (c := s.2.toInt) (Int.add_zero _).symm
    exact ⟨b, eb, zs_sumw hb (fun v w => ⟨⟨w.1.1, (zs_w w.1.2 (by decide))⟩, by have := w.2; omega⟩) (fun v w => w)⟩
-- fX9_of
theorem zb_2 {σ0 : sn_S} {σ : sn_S} (h_σ : zs_N σ0 σ) {x1 : Int32} (h_x1 : zs_in x1.toInt 0 5) {x2 : Int32} (h_x2 : zs_in x2.toInt 0 0) : zs_ok (fX9_of σ x1 x2) (fun r => zs_in (r).toInt 0 5) := by
  unfold fX9_of
  obtain rfl : x2 = (0 : Int32) := zs_eqv h_x2 (by decide)
  refine zs_gd (zs_gin (zs_addI 49 74 (zs_addI 49 74 zlI_49 (zs_mulI 0 25 zlI_5 h_x1 (by decide)) (by decide)) h_x2 (by decide)) (by decide)) ?_
  exact zs_some (zs_rdb (q := 1) (lo := 0) (hi := 5) h_σ.1 (zs_cases h_x1 (fun z => zs_bd (zs_tM 1 (((49 : Int32) + ((5 : Int32) * z)) + (0 : Int32)).toNatClampNeg) 0 5) (by decide +kernel)))
-- fX9_of
theorem zb_3 {σ0 : sn_S} {σ : sn_S} (h_σ : zs_N σ0 σ) {x1 : Int32} (h_x1 : zs_in x1.toInt 0 5) {x2 : Int32} (h_x2 : zs_in x2.toInt 1 1) : zs_ok (fX9_of σ x1 x2) (fun r => zs_in (r).toInt 0 29) := by
  unfold fX9_of
  obtain rfl : x2 = (1 : Int32) := zs_eqv h_x2 (by decide)
  refine zs_gd (zs_gin (zs_addI 50 75 (zs_addI 49 74 zlI_49 (zs_mulI 0 25 zlI_5 h_x1 (by decide)) (by decide)) h_x2 (by decide)) (by decide)) ?_
  exact zs_some (zs_rdb (q := 1) (lo := 0) (hi := 29) h_σ.1 (zs_cases h_x1 (fun z => zs_bd (zs_tM 1 (((49 : Int32) + ((5 : Int32) * z)) + (1 : Int32)).toNatClampNeg) 0 29) (by decide +kernel)))
-- fX9_of
theorem zb_4 {σ0 : sn_S} {σ : sn_S} (h_σ : zs_N σ0 σ) {x1 : Int32} (h_x1 : zs_in x1.toInt 0 5) {x2 : Int32} (h_x2 : zs_in x2.toInt 2 2) : zs_ok (fX9_of σ x1 x2) (fun r => zs_in (r).toInt 0 29) := by
  unfold fX9_of
  obtain rfl : x2 = (2 : Int32) := zs_eqv h_x2 (by decide)
  refine zs_gd (zs_gin (zs_addI 51 76 (zs_addI 49 74 zlI_49 (zs_mulI 0 25 zlI_5 h_x1 (by decide)) (by decide)) h_x2 (by decide)) (by decide)) ?_
  exact zs_some (zs_rdb (q := 1) (lo := 0) (hi := 29) h_σ.1 (zs_cases h_x1 (fun z => zs_bd (zs_tM 1 (((49 : Int32) + ((5 : Int32) * z)) + (2 : Int32)).toNatClampNeg) 0 29) (by decide +kernel)))
-- BX9_windowOf_9
theorem zb_5 {σ0 : sn_S} {σ : sn_S} (h_σ : zs_N σ0 σ) {x1 : Int32} (h_x1 : zs_in x1.toInt 0 5) {x2 : Int32} (h_x2 : zs_in x2.toInt 0 1073741823) {x3 : Int32} (h_x3 : zs_in x3.toInt 0 30) {c : Int} (hc : x3.toInt = c + 0) : zs_ok (BX9_windowOf_9 σ x1 x2 x3) (fun r => zs_sum (fun v => ((zs_in (v.1).toInt 0 1073741823 ∧ zs_in (v.2).toInt 1 30)) ∧ v.2.toInt = c + 1) (fun v => zs_in (v).toInt 0 1073741823) r) := by
  unfold BX9_windowOf_9
  refine zs_bd_ (zb_4 h_σ h_x1 zlI_2) (fun t_1 pt_1 => ?_)
  refine zs_ite (fun c1 => ?_) (fun c1 => ?_)
  · skip
    have r2 := (zs_I_lt c1)
    have g3 : zs_in (x3).toInt 1 30 := (zs_ltr 1 30 r2 pt_1 h_x3 (by decide))
    exact zs_some (zs_inr (h_x2))
  · skip
    have r4 := (zs_I_ltn c1)
    have g5 : zs_in (x3).toInt 0 29 := (zs_lel 0 29 r4 h_x3 pt_1 (by decide))
    refine zs_ite (fun c6 => ?_) (fun c6 => ?_)
    · skip
      have r7 := (zs_I_lt c6)
      have g8 : zs_in ((sn_I σ 0 22)).toInt (-1) 28 := (zs_ltl (-1) 28 r7 (zs_rdk (q := 0) (k := 22) (z := ((-1), 29)) h_σ.1 rfl) g5 (by decide))
      exact zs_some (zs_inr (h_x2))
    · skip
      have r9 := (zs_I_ltn c6)
      have g10 : zs_in ((sn_I σ 0 22)).toInt 0 29 := (zs_ler 0 29 r9 g5 (zs_rdk (q := 0) (k := 22) (z := ((-1), 29)) h_σ.1 rfl) (by decide))
      refine zs_lt (Q := fun z => zs_in z.toInt 0 1073741823) (zs_or 30 1073741823 h_x2 (zs_cases g5 (fun z => zs_in ((1 : Int32) <<< (z &&& 31)).toInt 1 536870912) (by decide +kernel)) (by decide)) (fun y_5 hy_5 => ?_)
      refine zs_lt (Q := fun z => zs_in z.toInt 1 30 ∧ z.toInt = c + 1) ⟨(zs_addI 1 30 g5 zlI_1 (by decide)), (zs_syI 1 hc g5 zlI_1 (by decide) (by decide))⟩ (fun y_7 hy_7 => ?_)
      exact zs_some (zs_inl ⟨⟨hy_5, hy_7.1⟩, hy_7.2⟩)
theorem ze_2 {σ0 : sn_S} {σ : sn_S} (h_σ : zs_N σ0 σ) {x1 : Int32} (h_x1 : zs_in x1.toInt 0 5) {s0 : (Int32 × Int32)} (h0 : (zs_in (s0.1).toInt 0 1073741823 ∧ zs_in (s0.2).toInt 0 30)) : zs_ok (sn_it (LX9_windowOf_9 σ x1) 5000 s0) (fun t => zs_in (t).toInt 0 1073741823) := by
  refine zs_it (I := fun s => (zs_in (s.1).toInt 0 1073741823 ∧ zs_in (s.2).toInt 0 30)) (m := fun s => 30 - s.2.toInt) (fun s hs => ?_) (fun s hs => ?_) (by exact h0)
  · have h1 := hs.2; unfold zs_in at h1
    omega
  · obtain ⟨b, eb, hb⟩ := zb_5 h_σ h_x1 hs.1 hs.2 (c := s.2.toInt) (Int.add_zero _).symm
    exact ⟨b, eb, zs_sumw hb (fun v w => ⟨⟨w.1.1, (zs_w w.1.2 (by decide))⟩, by have := w.2; omega⟩) (fun v w => w)⟩
-- BX9_windowOf_39
theorem zb_6 {σ0 : sn_S} {σ : sn_S} (h_σ : zs_N σ0 σ) {x2 : Int32} (h_x2 : zs_in x2.toInt 0 1073741823) : zs_ok (BX9_windowOf_39 σ x2) (fun r => zs_in (r).toInt 0 1073741823) := by
  unfold BX9_windowOf_39
  exact zs_some h_x2
-- fX9_windowOf
theorem zb_7 {σ0 : sn_S} {σ : sn_S} (h_σ : zs_N σ0 σ) {x1 : Int32} (h_x1 : zs_in x1.toInt 0 5) : zs_ok (fX9_windowOf σ x1) (fun r => zs_in (r).toInt 0 1073741823) := by
  unfold fX9_windowOf
  refine zs_bd_ (zb_3 h_σ h_x1 zlI_1) (fun t_1 pt_1 => ?_)
  refine zs_bd_ (ze_2 h_σ h_x1 (s0 := ((0 : Int32), t_1)) ⟨(zs_w zlI_0 (by decide)), (zs_w pt_1 (by decide))⟩) (fun t_3 pt_3 => ?_)
  obtain ⟨ret, er, hr⟩ := zb_6 h_σ pt_3
  refine ⟨ret, er, ?_⟩
  exact hr
-- fX9_ahead
theorem zb_8 {x1 : Int32} (h_x1 : zs_in x1.toInt 0 29) : zs_ok (fX9_ahead x1) (fun r => zs_in (r).toInt 0 536870911) := by
  unfold fX9_ahead
  exact zs_some (zs_subI 0 536870911 (zs_cases h_x1 (fun z => zs_in ((1 : Int32) <<< (z &&& 31)).toInt 1 536870912) (by decide +kernel)) zlI_1 (by decide))
-- fX9_of
theorem zb_9 {σ0 : sn_S} {σ : sn_S} (h_σ : zs_N σ0 σ) {x1 : Int32} (h_x1 : zs_in x1.toInt 0 5) {x2 : Int32} (h_x2 : zs_in x2.toInt 3 3) : zs_ok (fX9_of σ x1 x2) (fun r => zs_in (r).toInt 0 99) := by
  unfold fX9_of
  obtain rfl : x2 = (3 : Int32) := zs_eqv h_x2 (by decide)
  refine zs_gd (zs_gin (zs_addI 52 77 (zs_addI 49 74 zlI_49 (zs_mulI 0 25 zlI_5 h_x1 (by decide)) (by decide)) h_x2 (by decide)) (by decide)) ?_
  exact zs_some (zs_rdb (q := 1) (lo := 0) (hi := 99) h_σ.1 (zs_cases h_x1 (fun z => zs_bd (zs_tM 1 (((49 : Int32) + ((5 : Int32) * z)) + (3 : Int32)).toNatClampNeg) 0 99) (by decide +kernel)))
-- BX9_claimOf_177
theorem zb_10 {σ0 : sn_S} {σ : sn_S} (h_σ : zs_N σ0 σ) {x1 : Int32} (h_x1 : zs_in x1.toInt 0 5) {x2 : Int32} (h_x2 : zs_in x2.toInt 0 5) {x3 : Int32} (h_x3 : zs_in x3.toInt 1 1) {x4 : Int32} (h_x4 : zs_in x4.toInt 0 1073741823) {x5 : Int32} {x6 : Int32} (h_x6 : zs_in x6.toInt 3 3) {x7 : Int32} (h_x7 : zs_in x7.toInt 0 2) {c : Int} (hc : x7.toInt = c + 0) : zs_ok (BX9_claimOf_177 σ x1 x2 x3 x4 x5 x6 x7) (fun r => zs_sum (fun v => ((zs_N σ0 v.1 ∧ (zs_in (v.2.1).toInt 0 1073741823 ∧ (True ∧ zs_in (v.2.2.2).toInt 1 3)))) ∧ v.2.2.2.toInt = c + 1) (fun v => False) r) := by
  unfold BX9_claimOf_177
  obtain rfl : x3 = (1 : Int32) := zs_eqv h_x3 (by decide)
  obtain rfl : x6 = (3 : Int32) := zs_eqv h_x6 (by decide)
  refine zs_lt (Q := fun z => zs_in z.toInt 1 3 ∧ z.toInt = c + 1) ⟨(zs_addI 1 3 h_x7 zlI_1 (by decide)), (zs_syI 1 hc h_x7 zlI_1 (by decide) (by decide))⟩ (fun y_1 hy_1 => ?_)
  exact zs_some (zs_inl ⟨⟨h_σ, ⟨h_x4, ⟨trivial, hy_1.1⟩⟩⟩, hy_1.2⟩)
-- BX9_claimOf_152
theorem zb_11 {σ0 : sn_S} {σ : sn_S} (h_σ : zs_N σ0 σ) {x1 : Int32} (h_x1 : zs_in x1.toInt 0 5) {x2 : Int32} (h_x2 : zs_in x2.toInt 0 5) {x3 : Int32} (h_x3 : zs_in x3.toInt 1 1) {x4 : Int32} (h_x4 : zs_in x4.toInt 0 1073741823) {x5 : Int32} {x6 : Int32} (h_x6 : zs_in x6.toInt 3 3) {x7 : Int32} (h_x7 : zs_in x7.toInt 0 2) {x8 : Int32} (h_x8 : zs_in x8.toInt 0 29) {t0 : Int32} (h_t0 : zs_in t0.toInt 0 99) {c : Int} (hc : x7.toInt = c + 0) : zs_ok (BX9_claimOf_152 σ x1 x2 x3 x4 x5 x6 x7 x8 t0) (fun r => zs_sum (fun v => ((zs_N σ0 v.1 ∧ (zs_in (v.2.1).toInt 0 1073741823 ∧ (True ∧ zs_in (v.2.2.2).toInt 1 3)))) ∧ v.2.2.2.toInt = c + 1) (fun v => False) r) := by
  unfold BX9_claimOf_152
  obtain rfl : x3 = (1 : Int32) := zs_eqv h_x3 (by decide)
  obtain rfl : x6 = (3 : Int32) := zs_eqv h_x6 (by decide)
  refine zs_lt (Q := fun z => True) trivial (fun y_1 hy_1 => ?_)
  refine zs_ite (fun c1 => ?_) (fun c1 => ?_)
  · skip
    have r2 := (zs_I_eq c1)
    exact (zs_botr r2 h_x3 zlI_0 (by decide)).elim
  · skip
    have r3 := (zs_I_eqn c1)
    refine zs_gd (zs_gin h_x8 (by decide)) ?_
    refine zs_gd (zs_gin h_x8 (by decide)) ?_
    refine zs_lt (Q := fun z => zs_N σ0 z) (zs_wrt h_σ (fun _ => rfl) (fun _ => rfl)) (fun σ_6 hσ_6 => ?_)
    obtain ⟨ret, er, hr⟩ := zb_10 hσ_6 h_x1 h_x2 h_x3 h_x4 h_x6 h_x7 hc
    refine ⟨ret, er, ?_⟩
    exact (zs_sumw hr (fun v w => ⟨w.1, w.2⟩) (fun v w => w.elim))
-- BX9_claimOf_128
theorem zb_12 {σ0 : sn_S} {σ : sn_S} (h_σ : zs_N σ0 σ) {x1 : Int32} (h_x1 : zs_in x1.toInt 0 5) {x2 : Int32} (h_x2 : zs_in x2.toInt 0 5) {x3 : Int32} (h_x3 : zs_in x3.toInt 1 1) {x4 : Int32} (h_x4 : zs_in x4.toInt 0 1073741823) {x5 : Int32} {x6 : Int32} (h_x6 : zs_in x6.toInt 3 3) {x7 : Int32} (h_x7 : zs_in x7.toInt 0 2) {x8 : Int32} (h_x8 : zs_in x8.toInt 0 29) {t0 : Int32} (h_t0 : zs_in t0.toInt 0 0) {c : Int} (hc : x7.toInt = c + 0) : zs_ok (BX9_claimOf_128 σ x1 x2 x3 x4 x5 x6 x7 x8 t0) (fun r => zs_sum (fun v => ((zs_N σ0 v.1 ∧ (zs_in (v.2.1).toInt 0 1073741823 ∧ (True ∧ zs_in (v.2.2.2).toInt 1 3)))) ∧ v.2.2.2.toInt = c + 1) (fun v => False) r) := by
  unfold BX9_claimOf_128
  obtain rfl : x3 = (1 : Int32) := zs_eqv h_x3 (by decide)
  obtain rfl : x6 = (3 : Int32) := zs_eqv h_x6 (by decide)
  obtain rfl : t0 = (0 : Int32) := zs_eqv h_t0 (by decide)
  refine zs_ite (fun c1 => ?_) (fun c1 => ?_)
  · skip
    have r2 := (zs_I_eq c1)
    refine zs_bd_ (zb_9 h_σ h_x1 zlI_3) (fun t_2 pt_2 => ?_)
    obtain ⟨ret, er, hr⟩ := zb_11 h_σ h_x1 h_x2 h_x3 h_x4 h_x6 h_x7 h_x8 pt_2 hc
    refine ⟨ret, er, ?_⟩
    exact (zs_sumw hr (fun v w => ⟨w.1, w.2⟩) (fun v w => w.elim))
  · skip
    have r3 := (zs_I_eqn c1)
    exact (zs_botne r3 h_t0 zlI_0 (by decide)).elim
-- BX9_claimOf_127
theorem zb_13 {σ0 : sn_S} {σ : sn_S} (h_σ : zs_N σ0 σ) {x1 : Int32} (h_x1 : zs_in x1.toInt 0 5) {x2 : Int32} (h_x2 : zs_in x2.toInt 0 5) {x3 : Int32} (h_x3 : zs_in x3.toInt 1 1) {x4 : Int32} (h_x4 : zs_in x4.toInt 0 1073741823) {x5 : Int32} {x6 : Int32} (h_x6 : zs_in x6.toInt 3 3) {x7 : Int32} (h_x7 : zs_in x7.toInt 0 2) {x8 : Int32} (h_x8 : zs_in x8.toInt 0 29) {c : Int} (hc : x7.toInt = c + 0) : zs_ok (BX9_claimOf_127 σ x1 x2 x3 x4 x5 x6 x7 x8) (fun r => zs_sum (fun v => ((zs_N σ0 v.1 ∧ (zs_in (v.2.1).toInt 0 1073741823 ∧ (True ∧ zs_in (v.2.2.2).toInt 1 3)))) ∧ v.2.2.2.toInt = c + 1) (fun v => False) r) := by
  unfold BX9_claimOf_127
  obtain rfl : x3 = (1 : Int32) := zs_eqv h_x3 (by decide)
  obtain rfl : x6 = (3 : Int32) := zs_eqv h_x6 (by decide)
  obtain ⟨ret, er, hr⟩ := zb_12 h_σ h_x1 h_x2 h_x3 h_x4 h_x6 h_x7 h_x8 zlI_0 hc
  refine ⟨ret, er, ?_⟩
  exact (zs_sumw hr (fun v w => ⟨w.1, w.2⟩) (fun v w => w.elim))
-- BX9_claimOf_152
theorem zb_14 {σ0 : sn_S} {σ : sn_S} (h_σ : zs_N σ0 σ) {x1 : Int32} (h_x1 : zs_in x1.toInt 0 5) {x2 : Int32} (h_x2 : zs_in x2.toInt 0 5) {x3 : Int32} (h_x3 : zs_in x3.toInt 1 1) {x4 : Int32} (h_x4 : zs_in x4.toInt 0 1073741823) {x5 : Int32} {x6 : Int32} (h_x6 : zs_in x6.toInt 3 3) {x7 : Int32} (h_x7 : zs_in x7.toInt 0 2) {x8 : Int32} (h_x8 : zs_in x8.toInt 0 29) {t0 : Int32} (h_t0 : zs_in t0.toInt 0 49) {c : Int} (hc : x7.toInt = c + 0) : zs_ok (BX9_claimOf_152 σ x1 x2 x3 x4 x5 x6 x7 x8 t0) (fun r => zs_sum (fun v => ((zs_N σ0 v.1 ∧ (zs_in (v.2.1).toInt 0 1073741823 ∧ (True ∧ zs_in (v.2.2.2).toInt 1 3)))) ∧ v.2.2.2.toInt = c + 1) (fun v => False) r) := by
  unfold BX9_claimOf_152
  obtain rfl : x3 = (1 : Int32) := zs_eqv h_x3 (by decide)
  obtain rfl : x6 = (3 : Int32) := zs_eqv h_x6 (by decide)
  refine zs_lt (Q := fun z => True) trivial (fun y_1 hy_1 => ?_)
  refine zs_ite (fun c1 => ?_) (fun c1 => ?_)
  · skip
    have r2 := (zs_I_eq c1)
    exact (zs_botr r2 h_x3 zlI_0 (by decide)).elim
  · skip
    have r3 := (zs_I_eqn c1)
    refine zs_gd (zs_gin h_x8 (by decide)) ?_
    refine zs_gd (zs_gin h_x8 (by decide)) ?_
    refine zs_lt (Q := fun z => zs_N σ0 z) (zs_wrt h_σ (fun _ => rfl) (fun _ => rfl)) (fun σ_6 hσ_6 => ?_)
    obtain ⟨ret, er, hr⟩ := zb_10 hσ_6 h_x1 h_x2 h_x3 h_x4 h_x6 h_x7 hc
    refine ⟨ret, er, ?_⟩
    exact (zs_sumw hr (fun v w => ⟨w.1, w.2⟩) (fun v w => w.elim))
-- BX9_claimOf_128
theorem zb_15 {σ0 : sn_S} {σ : sn_S} (h_σ : zs_N σ0 σ) {x1 : Int32} (h_x1 : zs_in x1.toInt 0 5) {x2 : Int32} (h_x2 : zs_in x2.toInt 0 5) {x3 : Int32} (h_x3 : zs_in x3.toInt 1 1) {x4 : Int32} (h_x4 : zs_in x4.toInt 0 1073741823) {x5 : Int32} {x6 : Int32} (h_x6 : zs_in x6.toInt 3 3) {x7 : Int32} (h_x7 : zs_in x7.toInt 0 2) {x8 : Int32} (h_x8 : zs_in x8.toInt 0 29) {t0 : Int32} (h_t0 : zs_in t0.toInt 1 1) {c : Int} (hc : x7.toInt = c + 0) : zs_ok (BX9_claimOf_128 σ x1 x2 x3 x4 x5 x6 x7 x8 t0) (fun r => zs_sum (fun v => ((zs_N σ0 v.1 ∧ (zs_in (v.2.1).toInt 0 1073741823 ∧ (True ∧ zs_in (v.2.2.2).toInt 1 3)))) ∧ v.2.2.2.toInt = c + 1) (fun v => False) r) := by
  unfold BX9_claimOf_128
  obtain rfl : x3 = (1 : Int32) := zs_eqv h_x3 (by decide)
  obtain rfl : x6 = (3 : Int32) := zs_eqv h_x6 (by decide)
  obtain rfl : t0 = (1 : Int32) := zs_eqv h_t0 (by decide)
  refine zs_ite (fun c1 => ?_) (fun c1 => ?_)
  · skip
    have r2 := (zs_I_eq c1)
    exact (zs_botr r2 h_t0 zlI_0 (by decide)).elim
  · skip
    have r3 := (zs_I_eqn c1)
    refine zs_bd_ (zb_9 h_σ h_x1 zlI_3) (fun t_4 pt_4 => ?_)
    obtain ⟨ret, er, hr⟩ := zb_14 h_σ h_x1 h_x2 h_x3 h_x4 h_x6 h_x7 h_x8 (zs_divI 0 49 pt_4 zlI_2 (by decide)) hc
    refine ⟨ret, er, ?_⟩
    exact (zs_sumw hr (fun v w => ⟨w.1, w.2⟩) (fun v w => w.elim))
-- BX9_claimOf_63
theorem zb_16 {σ0 : sn_S} {σ : sn_S} (h_σ : zs_N σ0 σ) {x1 : Int32} (h_x1 : zs_in x1.toInt 0 5) {x2 : Int32} (h_x2 : zs_in x2.toInt 0 5) {x3 : Int32} (h_x3 : zs_in x3.toInt 1 1) {x4 : Int32} (h_x4 : zs_in x4.toInt 0 1073741823) {x5 : Int32} {x6 : Int32} (h_x6 : zs_in x6.toInt 3 3) {x7 : Int32} (h_x7 : zs_in x7.toInt 0 3) {c : Int} (hc : x7.toInt = c + 0) : zs_ok (BX9_claimOf_63 σ x1 x2 x3 x4 x5 x6 x7) (fun r => zs_sum (fun v => ((zs_N σ0 v.1 ∧ (zs_in (v.2.1).toInt 0 1073741823 ∧ (True ∧ zs_in (v.2.2.2).toInt 1 3)))) ∧ v.2.2.2.toInt = c + 1) (fun v => (zs_N σ0 v.1 ∧ True)) r) := by
  unfold BX9_claimOf_63
  obtain rfl : x3 = (1 : Int32) := zs_eqv h_x3 (by decide)
  obtain rfl : x6 = (3 : Int32) := zs_eqv h_x6 (by decide)
  refine zs_ite (fun c1 => ?_) (fun c1 => ?_)
  · skip
    have r2 := (zs_I_le c1)
    have g3 : zs_in (x7).toInt 3 3 := (zs_ler 3 3 r2 h_x6 h_x7 (by decide))
    exact zs_some (zs_inr (⟨h_σ, trivial⟩))
  · skip
    have r4 := (zs_I_len c1)
    have g5 : zs_in (x7).toInt 0 2 := (zs_ltl 0 2 r4 h_x7 h_x6 (by decide))
    refine zs_ite (fun c6 => ?_) (fun c6 => ?_)
    · skip
      have r7 := (zs_I_eq c6)
      have g8 : zs_in (x4).toInt 0 0 := (zs_eql 0 0 r7 h_x4 zlI_0 (by decide))
      exact zs_some (zs_inr (⟨h_σ, trivial⟩))
    · skip
      have r9 := (zs_I_eqn c6)
      have g10 : zs_in (x4).toInt 1 1073741823 := (zs_nel 1 1073741823 r9 h_x4 zlI_0 (by decide))
      refine zs_bd_ (zo_fo1 (by decide) g10) (fun t_3 pt_3 => ?_)
      refine zs_lt (Q := fun z => zs_in z.toInt 0 1073741823) (zs_and2 g10 (by decide)) (fun y_5 hy_5 => ?_)
      refine zs_ite (fun c11 => ?_) (fun c11 => ?_)
      · skip
        have r12 := (zs_I_eq c11)
        have g13 : zs_in ((sn_I σ 0 20)).toInt 3 3 := (zs_eql 3 3 r12 (zs_topI _) zlI_3 (by decide))
        refine zs_gd (zs_gin h_x2 (by decide)) ?_
        refine zs_bd_ (zb_7 h_σ h_x1) (fun t_9 pt_9 => ?_)
        refine zs_bd_ (zb_8 pt_3) (fun t_11 pt_11 => ?_)
        refine zs_ite (fun c14 => ?_) (fun c14 => ?_)
        · skip
          have r15 := (zs_I_eq c14)
          have g16 : zs_in ((((sn_I σ 8 x2.toNatClampNeg) &&& t_9) &&& t_11)).toInt 0 0 := (zs_eql 0 0 r15 (zs_and pt_11 (by decide)) zlI_0 (by decide))
          obtain ⟨ret, er, hr⟩ := zb_13 h_σ h_x1 h_x2 h_x3 hy_5 h_x6 g5 pt_3 hc
          refine ⟨ret, er, ?_⟩
          exact (zs_sumw hr (fun v w => ⟨w.1, w.2⟩) (fun v w => w.elim))
        · skip
          have r17 := (zs_I_eqn c14)
          have g18 : zs_in ((((sn_I σ 8 x2.toNatClampNeg) &&& t_9) &&& t_11)).toInt 1 536870911 := (zs_nel 1 536870911 r17 (zs_and pt_11 (by decide)) zlI_0 (by decide))
          obtain ⟨ret, er, hr⟩ := zb_15 h_σ h_x1 h_x2 h_x3 hy_5 h_x6 g5 pt_3 zlI_1 hc
          refine ⟨ret, er, ?_⟩
          exact (zs_sumw hr (fun v w => ⟨w.1, w.2⟩) (fun v w => w.elim))
      · skip
        have r19 := (zs_I_eqn c11)
        obtain ⟨ret, er, hr⟩ := zb_13 h_σ h_x1 h_x2 h_x3 hy_5 h_x6 g5 pt_3 hc
        refine ⟨ret, er, ?_⟩
        exact (zs_sumw hr (fun v w => ⟨w.1, w.2⟩) (fun v w => w.elim))
theorem ze_3 {σ0 : sn_S} {x1 : Int32} (h_x1 : zs_in x1.toInt 0 5) {x2 : Int32} (h_x2 : zs_in x2.toInt 0 5) {x3 : Int32} (h_x3 : zs_in x3.toInt 1 1) {x6 : Int32} (h_x6 : zs_in x6.toInt 3 3) {s0 : (sn_S × (Int32 × (Int32 × Int32)))} (h0 : (zs_N σ0 s0.1 ∧ (zs_in (s0.2.1).toInt 0 1073741823 ∧ (True ∧ zs_in (s0.2.2.2).toInt 0 3)))) : zs_ok (sn_it (LX9_claimOf_63 x1 x2 x3 x6) 5000 s0) (fun t => (zs_N σ0 t.1 ∧ True)) := by
  refine zs_it (I := fun s => (zs_N σ0 s.1 ∧ (zs_in (s.2.1).toInt 0 1073741823 ∧ (True ∧ zs_in (s.2.2.2).toInt 0 3)))) (m := fun s => 3 - s.2.2.2.toInt) (fun s hs => ?_) (fun s hs => ?_) (by exact h0)
  · have h1 := hs.2.2.2; unfold zs_in at h1
    omega
  · obtain ⟨b, eb, hb⟩ := zb_16 hs.1 h_x1 h_x2 h_x3 hs.2.1 h_x6 hs.2.2.2 (c := s.2.2.2.toInt) (Int.add_zero _).symm
    exact ⟨b, eb, zs_sumw hb (fun v w => ⟨⟨w.1.1, ⟨w.1.2.1, ⟨w.1.2.2.1, (zs_w w.1.2.2.2 (by decide))⟩⟩⟩, by have := w.2; omega⟩) (fun v w => w)⟩
-- BX9_claimOf_183
theorem zb_17 {σ0 : sn_S} {σ : sn_S} (h_σ : zs_N σ0 σ) {x5 : Int32} : zs_ok (BX9_claimOf_183 σ x5) (fun r => (True ∧ zs_N σ0 r.2)) := by
  unfold BX9_claimOf_183
  exact zs_some ⟨trivial, h_σ⟩
-- BX9_claimOf_58
theorem zb_18 {σ0 : sn_S} {σ : sn_S} (h_σ : zs_N σ0 σ) {x1 : Int32} (h_x1 : zs_in x1.toInt 0 5) {x2 : Int32} (h_x2 : zs_in x2.toInt 0 5) {x3 : Int32} (h_x3 : zs_in x3.toInt 1 1) {x4 : Int32} (h_x4 : zs_in x4.toInt 0 1073741823) {x5 : Int32} (h_x5 : zs_in x5.toInt 0 0) {t0 : Int32} (h_t0 : zs_in t0.toInt 3 3) : zs_ok (BX9_claimOf_58 σ x1 x2 x3 x4 x5 t0) (fun r => (True ∧ zs_N σ0 r.2)) := by
  unfold BX9_claimOf_58
  obtain rfl : x3 = (1 : Int32) := zs_eqv h_x3 (by decide)
  obtain rfl : x5 = (0 : Int32) := zs_eqv h_x5 (by decide)
  obtain rfl : t0 = (3 : Int32) := zs_eqv h_t0 (by decide)
  refine zs_bd_ (ze_3 h_x1 h_x2 h_x3 h_t0 (s0 := (σ, (x4, ((0 : Int32), (0 : Int32))))) ⟨h_σ, ⟨h_x4, ⟨trivial, (zs_w zlI_0 (by decide))⟩⟩⟩) (fun t_1 pt_1 => ?_)
  obtain ⟨ret, er, hr⟩ := zb_17 pt_1.1
  refine ⟨ret, er, ?_⟩
  exact hr
-- BX9_claimOf_177
theorem zb_19 {σ0 : sn_S} {σ : sn_S} (h_σ : zs_N σ0 σ) {x1 : Int32} (h_x1 : zs_in x1.toInt 0 5) {x2 : Int32} (h_x2 : zs_in x2.toInt 0 5) {x3 : Int32} (h_x3 : zs_in x3.toInt 1 1) {x4 : Int32} (h_x4 : zs_in x4.toInt 0 1073741823) {x5 : Int32} {x6 : Int32} (h_x6 : zs_in x6.toInt 1 1) {x7 : Int32} (h_x7 : zs_in x7.toInt 0 0) {c : Int} (hc : x7.toInt = c + 0) : zs_ok (BX9_claimOf_177 σ x1 x2 x3 x4 x5 x6 x7) (fun r => zs_sum (fun v => ((zs_N σ0 v.1 ∧ (zs_in (v.2.1).toInt 0 1073741823 ∧ (True ∧ zs_in (v.2.2.2).toInt 1 1)))) ∧ v.2.2.2.toInt = c + 1) (fun v => False) r) := by
  unfold BX9_claimOf_177
  obtain rfl : x3 = (1 : Int32) := zs_eqv h_x3 (by decide)
  obtain rfl : x6 = (1 : Int32) := zs_eqv h_x6 (by decide)
  refine zs_lt (Q := fun z => zs_in z.toInt 1 1 ∧ z.toInt = c + 1) ⟨(zs_addI 1 1 h_x7 zlI_1 (by decide)), (zs_syI 1 hc h_x7 zlI_1 (by decide) (by decide))⟩ (fun y_1 hy_1 => ?_)
  exact zs_some (zs_inl ⟨⟨h_σ, ⟨h_x4, ⟨trivial, hy_1.1⟩⟩⟩, hy_1.2⟩)
-- BX9_claimOf_152
theorem zb_20 {σ0 : sn_S} {σ : sn_S} (h_σ : zs_N σ0 σ) {x1 : Int32} (h_x1 : zs_in x1.toInt 0 5) {x2 : Int32} (h_x2 : zs_in x2.toInt 0 5) {x3 : Int32} (h_x3 : zs_in x3.toInt 1 1) {x4 : Int32} (h_x4 : zs_in x4.toInt 0 1073741823) {x5 : Int32} {x6 : Int32} (h_x6 : zs_in x6.toInt 1 1) {x7 : Int32} (h_x7 : zs_in x7.toInt 0 0) {x8 : Int32} (h_x8 : zs_in x8.toInt 0 29) {t0 : Int32} (h_t0 : zs_in t0.toInt 0 99) {c : Int} (hc : x7.toInt = c + 0) : zs_ok (BX9_claimOf_152 σ x1 x2 x3 x4 x5 x6 x7 x8 t0) (fun r => zs_sum (fun v => ((zs_N σ0 v.1 ∧ (zs_in (v.2.1).toInt 0 1073741823 ∧ (True ∧ zs_in (v.2.2.2).toInt 1 1)))) ∧ v.2.2.2.toInt = c + 1) (fun v => False) r) := by
  unfold BX9_claimOf_152
  obtain rfl : x3 = (1 : Int32) := zs_eqv h_x3 (by decide)
  obtain rfl : x6 = (1 : Int32) := zs_eqv h_x6 (by decide)
  refine zs_lt (Q := fun z => True) trivial (fun y_1 hy_1 => ?_)
  refine zs_ite (fun c1 => ?_) (fun c1 => ?_)
  · skip
    have r2 := (zs_I_eq c1)
    exact (zs_botr r2 h_x3 zlI_0 (by decide)).elim
  · skip
    have r3 := (zs_I_eqn c1)
    refine zs_gd (zs_gin h_x8 (by decide)) ?_
    refine zs_gd (zs_gin h_x8 (by decide)) ?_
    refine zs_lt (Q := fun z => zs_N σ0 z) (zs_wrt h_σ (fun _ => rfl) (fun _ => rfl)) (fun σ_6 hσ_6 => ?_)
    obtain ⟨ret, er, hr⟩ := zb_19 hσ_6 h_x1 h_x2 h_x3 h_x4 h_x6 h_x7 hc
    refine ⟨ret, er, ?_⟩
    exact (zs_sumw hr (fun v w => ⟨w.1, w.2⟩) (fun v w => w.elim))
-- BX9_claimOf_128
theorem zb_21 {σ0 : sn_S} {σ : sn_S} (h_σ : zs_N σ0 σ) {x1 : Int32} (h_x1 : zs_in x1.toInt 0 5) {x2 : Int32} (h_x2 : zs_in x2.toInt 0 5) {x3 : Int32} (h_x3 : zs_in x3.toInt 1 1) {x4 : Int32} (h_x4 : zs_in x4.toInt 0 1073741823) {x5 : Int32} {x6 : Int32} (h_x6 : zs_in x6.toInt 1 1) {x7 : Int32} (h_x7 : zs_in x7.toInt 0 0) {x8 : Int32} (h_x8 : zs_in x8.toInt 0 29) {t0 : Int32} (h_t0 : zs_in t0.toInt 0 0) {c : Int} (hc : x7.toInt = c + 0) : zs_ok (BX9_claimOf_128 σ x1 x2 x3 x4 x5 x6 x7 x8 t0) (fun r => zs_sum (fun v => ((zs_N σ0 v.1 ∧ (zs_in (v.2.1).toInt 0 1073741823 ∧ (True ∧ zs_in (v.2.2.2).toInt 1 1)))) ∧ v.2.2.2.toInt = c + 1) (fun v => False) r) := by
  unfold BX9_claimOf_128
  obtain rfl : x3 = (1 : Int32) := zs_eqv h_x3 (by decide)
  obtain rfl : x6 = (1 : Int32) := zs_eqv h_x6 (by decide)
  obtain rfl : t0 = (0 : Int32) := zs_eqv h_t0 (by decide)
  refine zs_ite (fun c1 => ?_) (fun c1 => ?_)
  · skip
    have r2 := (zs_I_eq c1)
    refine zs_bd_ (zb_9 h_σ h_x1 zlI_3) (fun t_2 pt_2 => ?_)
    obtain ⟨ret, er, hr⟩ := zb_20 h_σ h_x1 h_x2 h_x3 h_x4 h_x6 h_x7 h_x8 pt_2 hc
    refine ⟨ret, er, ?_⟩
    exact (zs_sumw hr (fun v w => ⟨w.1, w.2⟩) (fun v w => w.elim))
  · skip
    have r3 := (zs_I_eqn c1)
    exact (zs_botne r3 h_t0 zlI_0 (by decide)).elim
-- BX9_claimOf_127
theorem zb_22 {σ0 : sn_S} {σ : sn_S} (h_σ : zs_N σ0 σ) {x1 : Int32} (h_x1 : zs_in x1.toInt 0 5) {x2 : Int32} (h_x2 : zs_in x2.toInt 0 5) {x3 : Int32} (h_x3 : zs_in x3.toInt 1 1) {x4 : Int32} (h_x4 : zs_in x4.toInt 0 1073741823) {x5 : Int32} {x6 : Int32} (h_x6 : zs_in x6.toInt 1 1) {x7 : Int32} (h_x7 : zs_in x7.toInt 0 0) {x8 : Int32} (h_x8 : zs_in x8.toInt 0 29) {c : Int} (hc : x7.toInt = c + 0) : zs_ok (BX9_claimOf_127 σ x1 x2 x3 x4 x5 x6 x7 x8) (fun r => zs_sum (fun v => ((zs_N σ0 v.1 ∧ (zs_in (v.2.1).toInt 0 1073741823 ∧ (True ∧ zs_in (v.2.2.2).toInt 1 1)))) ∧ v.2.2.2.toInt = c + 1) (fun v => False) r) := by
  unfold BX9_claimOf_127
  obtain rfl : x3 = (1 : Int32) := zs_eqv h_x3 (by decide)
  obtain rfl : x6 = (1 : Int32) := zs_eqv h_x6 (by decide)
  obtain ⟨ret, er, hr⟩ := zb_21 h_σ h_x1 h_x2 h_x3 h_x4 h_x6 h_x7 h_x8 zlI_0 hc
  refine ⟨ret, er, ?_⟩
  exact (zs_sumw hr (fun v w => ⟨w.1, w.2⟩) (fun v w => w.elim))
-- BX9_claimOf_152
theorem zb_23 {σ0 : sn_S} {σ : sn_S} (h_σ : zs_N σ0 σ) {x1 : Int32} (h_x1 : zs_in x1.toInt 0 5) {x2 : Int32} (h_x2 : zs_in x2.toInt 0 5) {x3 : Int32} (h_x3 : zs_in x3.toInt 1 1) {x4 : Int32} (h_x4 : zs_in x4.toInt 0 1073741823) {x5 : Int32} {x6 : Int32} (h_x6 : zs_in x6.toInt 1 1) {x7 : Int32} (h_x7 : zs_in x7.toInt 0 0) {x8 : Int32} (h_x8 : zs_in x8.toInt 0 29) {t0 : Int32} (h_t0 : zs_in t0.toInt 0 49) {c : Int} (hc : x7.toInt = c + 0) : zs_ok (BX9_claimOf_152 σ x1 x2 x3 x4 x5 x6 x7 x8 t0) (fun r => zs_sum (fun v => ((zs_N σ0 v.1 ∧ (zs_in (v.2.1).toInt 0 1073741823 ∧ (True ∧ zs_in (v.2.2.2).toInt 1 1)))) ∧ v.2.2.2.toInt = c + 1) (fun v => False) r) := by
  unfold BX9_claimOf_152
  obtain rfl : x3 = (1 : Int32) := zs_eqv h_x3 (by decide)
  obtain rfl : x6 = (1 : Int32) := zs_eqv h_x6 (by decide)
  refine zs_lt (Q := fun z => True) trivial (fun y_1 hy_1 => ?_)
  refine zs_ite (fun c1 => ?_) (fun c1 => ?_)
  · skip
    have r2 := (zs_I_eq c1)
    exact (zs_botr r2 h_x3 zlI_0 (by decide)).elim
  · skip
    have r3 := (zs_I_eqn c1)
    refine zs_gd (zs_gin h_x8 (by decide)) ?_
    refine zs_gd (zs_gin h_x8 (by decide)) ?_
    refine zs_lt (Q := fun z => zs_N σ0 z) (zs_wrt h_σ (fun _ => rfl) (fun _ => rfl)) (fun σ_6 hσ_6 => ?_)
    obtain ⟨ret, er, hr⟩ := zb_19 hσ_6 h_x1 h_x2 h_x3 h_x4 h_x6 h_x7 hc
    refine ⟨ret, er, ?_⟩
    exact (zs_sumw hr (fun v w => ⟨w.1, w.2⟩) (fun v w => w.elim))
-- BX9_claimOf_128
theorem zb_24 {σ0 : sn_S} {σ : sn_S} (h_σ : zs_N σ0 σ) {x1 : Int32} (h_x1 : zs_in x1.toInt 0 5) {x2 : Int32} (h_x2 : zs_in x2.toInt 0 5) {x3 : Int32} (h_x3 : zs_in x3.toInt 1 1) {x4 : Int32} (h_x4 : zs_in x4.toInt 0 1073741823) {x5 : Int32} {x6 : Int32} (h_x6 : zs_in x6.toInt 1 1) {x7 : Int32} (h_x7 : zs_in x7.toInt 0 0) {x8 : Int32} (h_x8 : zs_in x8.toInt 0 29) {t0 : Int32} (h_t0 : zs_in t0.toInt 1 1) {c : Int} (hc : x7.toInt = c + 0) : zs_ok (BX9_claimOf_128 σ x1 x2 x3 x4 x5 x6 x7 x8 t0) (fun r => zs_sum (fun v => ((zs_N σ0 v.1 ∧ (zs_in (v.2.1).toInt 0 1073741823 ∧ (True ∧ zs_in (v.2.2.2).toInt 1 1)))) ∧ v.2.2.2.toInt = c + 1) (fun v => False) r) := by
  unfold BX9_claimOf_128
  obtain rfl : x3 = (1 : Int32) := zs_eqv h_x3 (by decide)
  obtain rfl : x6 = (1 : Int32) := zs_eqv h_x6 (by decide)
  obtain rfl : t0 = (1 : Int32) := zs_eqv h_t0 (by decide)
  refine zs_ite (fun c1 => ?_) (fun c1 => ?_)
  · skip
    have r2 := (zs_I_eq c1)
    exact (zs_botr r2 h_t0 zlI_0 (by decide)).elim
  · skip
    have r3 := (zs_I_eqn c1)
    refine zs_bd_ (zb_9 h_σ h_x1 zlI_3) (fun t_4 pt_4 => ?_)
    obtain ⟨ret, er, hr⟩ := zb_23 h_σ h_x1 h_x2 h_x3 h_x4 h_x6 h_x7 h_x8 (zs_divI 0 49 pt_4 zlI_2 (by decide)) hc
    refine ⟨ret, er, ?_⟩
    exact (zs_sumw hr (fun v w => ⟨w.1, w.2⟩) (fun v w => w.elim))
-- BX9_claimOf_63
theorem zb_25 {σ0 : sn_S} {σ : sn_S} (h_σ : zs_N σ0 σ) {x1 : Int32} (h_x1 : zs_in x1.toInt 0 5) {x2 : Int32} (h_x2 : zs_in x2.toInt 0 5) {x3 : Int32} (h_x3 : zs_in x3.toInt 1 1) {x4 : Int32} (h_x4 : zs_in x4.toInt 0 1073741823) {x5 : Int32} {x6 : Int32} (h_x6 : zs_in x6.toInt 1 1) {x7 : Int32} (h_x7 : zs_in x7.toInt 0 1) {c : Int} (hc : x7.toInt = c + 0) : zs_ok (BX9_claimOf_63 σ x1 x2 x3 x4 x5 x6 x7) (fun r => zs_sum (fun v => ((zs_N σ0 v.1 ∧ (zs_in (v.2.1).toInt 0 1073741823 ∧ (True ∧ zs_in (v.2.2.2).toInt 1 1)))) ∧ v.2.2.2.toInt = c + 1) (fun v => (zs_N σ0 v.1 ∧ True)) r) := by
  unfold BX9_claimOf_63
  obtain rfl : x3 = (1 : Int32) := zs_eqv h_x3 (by decide)
  obtain rfl : x6 = (1 : Int32) := zs_eqv h_x6 (by decide)
  refine zs_ite (fun c1 => ?_) (fun c1 => ?_)
  · skip
    have r2 := (zs_I_le c1)
    have g3 : zs_in (x7).toInt 1 1 := (zs_ler 1 1 r2 h_x6 h_x7 (by decide))
    exact zs_some (zs_inr (⟨h_σ, trivial⟩))
  · skip
    have r4 := (zs_I_len c1)
    have g5 : zs_in (x7).toInt 0 0 := (zs_ltl 0 0 r4 h_x7 h_x6 (by decide))
    refine zs_ite (fun c6 => ?_) (fun c6 => ?_)
    · skip
      have r7 := (zs_I_eq c6)
      have g8 : zs_in (x4).toInt 0 0 := (zs_eql 0 0 r7 h_x4 zlI_0 (by decide))
      exact zs_some (zs_inr (⟨h_σ, trivial⟩))
    · skip
      have r9 := (zs_I_eqn c6)
      have g10 : zs_in (x4).toInt 1 1073741823 := (zs_nel 1 1073741823 r9 h_x4 zlI_0 (by decide))
      refine zs_bd_ (zo_fo1 (by decide) g10) (fun t_3 pt_3 => ?_)
      refine zs_lt (Q := fun z => zs_in z.toInt 0 1073741823) (zs_and2 g10 (by decide)) (fun y_5 hy_5 => ?_)
      refine zs_ite (fun c11 => ?_) (fun c11 => ?_)
      · skip
        have r12 := (zs_I_eq c11)
        have g13 : zs_in ((sn_I σ 0 20)).toInt 3 3 := (zs_eql 3 3 r12 (zs_topI _) zlI_3 (by decide))
        refine zs_gd (zs_gin h_x2 (by decide)) ?_
        refine zs_bd_ (zb_7 h_σ h_x1) (fun t_9 pt_9 => ?_)
        refine zs_bd_ (zb_8 pt_3) (fun t_11 pt_11 => ?_)
        refine zs_ite (fun c14 => ?_) (fun c14 => ?_)
        · skip
          have r15 := (zs_I_eq c14)
          have g16 : zs_in ((((sn_I σ 8 x2.toNatClampNeg) &&& t_9) &&& t_11)).toInt 0 0 := (zs_eql 0 0 r15 (zs_and pt_11 (by decide)) zlI_0 (by decide))
          obtain ⟨ret, er, hr⟩ := zb_22 h_σ h_x1 h_x2 h_x3 hy_5 h_x6 g5 pt_3 hc
          refine ⟨ret, er, ?_⟩
          exact (zs_sumw hr (fun v w => ⟨w.1, w.2⟩) (fun v w => w.elim))
        · skip
          have r17 := (zs_I_eqn c14)
          have g18 : zs_in ((((sn_I σ 8 x2.toNatClampNeg) &&& t_9) &&& t_11)).toInt 1 536870911 := (zs_nel 1 536870911 r17 (zs_and pt_11 (by decide)) zlI_0 (by decide))
          obtain ⟨ret, er, hr⟩ := zb_24 h_σ h_x1 h_x2 h_x3 hy_5 h_x6 g5 pt_3 zlI_1 hc
          refine ⟨ret, er, ?_⟩
          exact (zs_sumw hr (fun v w => ⟨w.1, w.2⟩) (fun v w => w.elim))
      · skip
        have r19 := (zs_I_eqn c11)
        obtain ⟨ret, er, hr⟩ := zb_22 h_σ h_x1 h_x2 h_x3 hy_5 h_x6 g5 pt_3 hc
        refine ⟨ret, er, ?_⟩
        exact (zs_sumw hr (fun v w => ⟨w.1, w.2⟩) (fun v w => w.elim))
theorem ze_4 {σ0 : sn_S} {x1 : Int32} (h_x1 : zs_in x1.toInt 0 5) {x2 : Int32} (h_x2 : zs_in x2.toInt 0 5) {x3 : Int32} (h_x3 : zs_in x3.toInt 1 1) {x6 : Int32} (h_x6 : zs_in x6.toInt 1 1) {s0 : (sn_S × (Int32 × (Int32 × Int32)))} (h0 : (zs_N σ0 s0.1 ∧ (zs_in (s0.2.1).toInt 0 1073741823 ∧ (True ∧ zs_in (s0.2.2.2).toInt 0 1)))) : zs_ok (sn_it (LX9_claimOf_63 x1 x2 x3 x6) 5000 s0) (fun t => (zs_N σ0 t.1 ∧ True)) := by
  refine zs_it (I := fun s => (zs_N σ0 s.1 ∧ (zs_in (s.2.1).toInt 0 1073741823 ∧ (True ∧ zs_in (s.2.2.2).toInt 0 1)))) (m := fun s => 1 - s.2.2.2.toInt) (fun s hs => ?_) (fun s hs => ?_) (by exact h0)
  · have h1 := hs.2.2.2; unfold zs_in at h1
    omega
  · obtain ⟨b, eb, hb⟩ := zb_25 hs.1 h_x1 h_x2 h_x3 hs.2.1 h_x6 hs.2.2.2 (c := s.2.2.2.toInt) (Int.add_zero _).symm
    exact ⟨b, eb, zs_sumw hb (fun v w => ⟨⟨w.1.1, ⟨w.1.2.1, ⟨w.1.2.2.1, (zs_w w.1.2.2.2 (by decide))⟩⟩⟩, by have := w.2; omega⟩) (fun v w => w)⟩
-- BX9_claimOf_58
theorem zb_26 {σ0 : sn_S} {σ : sn_S} (h_σ : zs_N σ0 σ) {x1 : Int32} (h_x1 : zs_in x1.toInt 0 5) {x2 : Int32} (h_x2 : zs_in x2.toInt 0 5) {x3 : Int32} (h_x3 : zs_in x3.toInt 1 1) {x4 : Int32} (h_x4 : zs_in x4.toInt 0 1073741823) {x5 : Int32} (h_x5 : zs_in x5.toInt 0 0) {t0 : Int32} (h_t0 : zs_in t0.toInt 1 1) : zs_ok (BX9_claimOf_58 σ x1 x2 x3 x4 x5 t0) (fun r => (True ∧ zs_N σ0 r.2)) := by
  unfold BX9_claimOf_58
  obtain rfl : x3 = (1 : Int32) := zs_eqv h_x3 (by decide)
  obtain rfl : x5 = (0 : Int32) := zs_eqv h_x5 (by decide)
  obtain rfl : t0 = (1 : Int32) := zs_eqv h_t0 (by decide)
  refine zs_bd_ (ze_4 h_x1 h_x2 h_x3 h_t0 (s0 := (σ, (x4, ((0 : Int32), (0 : Int32))))) ⟨h_σ, ⟨h_x4, ⟨trivial, (zs_w zlI_0 (by decide))⟩⟩⟩) (fun t_1 pt_1 => ?_)
  obtain ⟨ret, er, hr⟩ := zb_17 pt_1.1
  refine ⟨ret, er, ?_⟩
  exact hr
-- BX9_claimOf_33
theorem zb_27 {σ0 : sn_S} {σ : sn_S} (h_σ : zs_N σ0 σ) {x1 : Int32} (h_x1 : zs_in x1.toInt 0 5) {x2 : Int32} (h_x2 : zs_in x2.toInt 0 5) {x3 : Int32} (h_x3 : zs_in x3.toInt 1 1) {x4 : Int32} (h_x4 : zs_in x4.toInt 0 1073741823) : zs_ok (BX9_claimOf_33 σ x1 x2 x3 x4) (fun r => (True ∧ zs_N σ0 r.2)) := by
  unfold BX9_claimOf_33
  obtain rfl : x3 = (1 : Int32) := zs_eqv h_x3 (by decide)
  refine zs_bd_ (zo_fot2 h_x4) (fun t_1 pt_1 => ?_)
  refine zs_lt (Q := fun z => zs_N σ0 z) (zs_wrkt h_σ rfl rfl) (fun σ_3 hσ_3 => ?_)
  refine zs_ite (fun c1 => ?_) (fun c1 => ?_)
  · skip
    have r2 := (zs_I_eq c1)
    have g3 : zs_in ((sn_I σ_3 0 20)).toInt 2 2 := (zs_eql 2 2 r2 (zs_topI _) zlI_2 (by decide))
    obtain ⟨ret, er, hr⟩ := zb_18 hσ_3 h_x1 h_x2 h_x3 h_x4 zlI_0 zlI_3
    refine ⟨ret, er, ?_⟩
    exact hr
  · skip
    have r4 := (zs_I_eqn c1)
    obtain ⟨ret, er, hr⟩ := zb_26 hσ_3 h_x1 h_x2 h_x3 h_x4 zlI_0 zlI_1
    refine ⟨ret, er, ?_⟩
    exact hr
-- fX9_claimOf
theorem zb_28 {σ0 : sn_S} {σ : sn_S} (h_σ : zs_N σ0 σ) {x1 : Int32} (h_x1 : zs_in x1.toInt 0 5) {x2 : Int32} (h_x2 : zs_in x2.toInt 0 5) {x3 : Int32} (h_x3 : zs_in x3.toInt 1 1) : zs_ok (fX9_claimOf σ x1 x2 x3) (fun r => (True ∧ zs_N σ0 r.2)) := by
  unfold fX9_claimOf
  obtain rfl : x3 = (1 : Int32) := zs_eqv h_x3 (by decide)
  refine zs_gd (zs_gin h_x2 (by decide)) ?_
  refine zs_bd_ (zb_7 h_σ h_x1) (fun t_2 pt_2 => ?_)
  refine zs_lt (Q := fun z => zs_in z.toInt 0 1073741823) (zs_and pt_2 (by decide)) (fun y_4 hy_4 => ?_)
  refine zs_ite (fun c1 => ?_) (fun c1 => ?_)
  · skip
    have r2 := (zs_I_eq c1)
    have g3 : zs_in ((sn_I σ 0 20)).toInt 1 1 := (zs_eql 1 1 r2 (zs_topI _) zlI_1 (by decide))
    refine zs_lt (Q := fun z => zs_in z.toInt 0 1073741823) (zs_and2 hy_4 (by decide)) (fun y_7 hy_7 => ?_)
    obtain ⟨ret, er, hr⟩ := zb_27 h_σ h_x1 h_x2 h_x3 hy_7
    refine ⟨ret, er, ?_⟩
    exact hr
  · skip
    have r4 := (zs_I_eqn c1)
    obtain ⟨ret, er, hr⟩ := zb_27 h_σ h_x1 h_x2 h_x3 hy_4
    refine ⟨ret, er, ?_⟩
    exact hr
-- BX9_layPaid_23
theorem zb_29 {σ0 : sn_S} {σ : sn_S} (h_σ : zs_N σ0 σ) {x1 : Int32} (h_x1 : zs_in x1.toInt 0 6) {c : Int} (hc : x1.toInt = c + 0) : zs_ok (BX9_layPaid_23 σ x1) (fun r => zs_sum (fun v => ((zs_N σ0 v.1 ∧ zs_in (v.2).toInt 1 6)) ∧ v.2.toInt = c + 1) (fun v => zs_N σ0 v) r) := by
  unfold BX9_layPaid_23
  refine zs_gd (zs_gin zlI_8 (by decide)) ?_
  refine zs_ite (fun c1 => ?_) (fun c1 => ?_)
  · skip
    have r2 := (zs_I_le c1)
    exact zs_some (zs_inr (h_σ))
  · skip
    have r3 := (zs_I_len c1)
    have g4 : zs_in (x1).toInt 0 5 := (zs_ltl 0 5 r3 h_x1 (zs_rdk (q := 1) (k := (8 : Int32).toNatClampNeg) (z := (0, 6)) h_σ.1 rfl) (by decide))
    have g5 : zs_in ((sn_I σ 1 (8 : Int32).toNatClampNeg)).toInt 1 6 := (zs_ltr 1 6 r3 h_x1 (zs_rdk (q := 1) (k := (8 : Int32).toNatClampNeg) (z := (0, 6)) h_σ.1 rfl) (by decide))
    refine zs_bd_ (zb_2 h_σ g4 zlI_0) (fun t_3 pt_3 => ?_)
    refine zs_bd_ (zb_28 h_σ g4 pt_3 zlI_1) (fun t_5 pt_5 => ?_)
    refine zs_lt (Q := fun z => zs_in z.toInt 1 6 ∧ z.toInt = c + 1) ⟨(zs_addI 1 6 g4 zlI_1 (by decide)), (zs_syI 1 hc g4 zlI_1 (by decide) (by decide))⟩ (fun y_7 hy_7 => ?_)
    exact zs_some (zs_inl ⟨⟨pt_5.2, hy_7.1⟩, hy_7.2⟩)
theorem ze_5 {σ0 : sn_S}  {s0 : (sn_S × Int32)} (h0 : (zs_N σ0 s0.1 ∧ zs_in (s0.2).toInt 0 6)) : zs_ok (sn_it (LX9_layPaid_23) 5000 s0) (fun t => zs_N σ0 t) := by
  refine zs_it (I := fun s => (zs_N σ0 s.1 ∧ zs_in (s.2).toInt 0 6)) (m := fun s => 6 - s.2.toInt) (fun s hs => ?_) (fun s hs => ?_) (by exact h0)
  · have h1 := hs.2; unfold zs_in at h1
    omega
  · obtain ⟨b, eb, hb⟩ := zb_29 hs.1 hs.2 (c := s.2.toInt) (Int.add_zero _).symm
    exact ⟨b, eb, zs_sumw hb (fun v w => ⟨⟨w.1.1, (zs_w w.1.2 (by decide))⟩, by have := w.2; omega⟩) (fun v w => w)⟩
-- BX9_layPaid_53
theorem zb_30 {σ0 : sn_S} {σ : sn_S} (h_σ : zs_N σ0 σ) : zs_ok (BX9_layPaid_53 σ) (fun r => zs_N σ0 r) := by
  unfold BX9_layPaid_53
  exact zs_some h_σ
-- BX9_layPaid_21
theorem zb_31 {σ0 : sn_S} {σ : sn_S} (h_σ : zs_N σ0 σ) : zs_ok (BX9_layPaid_21 σ) (fun r => zs_N σ0 r) := by
  unfold BX9_layPaid_21
  refine zs_bd_ (ze_5  (s0 := (σ, (0 : Int32))) ⟨h_σ, (zs_w zlI_0 (by decide))⟩) (fun t_1 pt_1 => ?_)
  obtain ⟨ret, er, hr⟩ := zb_30 pt_1
  refine ⟨ret, er, ?_⟩
  exact hr
-- fX9_layPaid
theorem zb_32 {σ0 : sn_S} {σ : sn_S} (h_σ : zs_N σ0 σ) : zs_ok (fX9_layPaid σ) (fun r => zs_N σ0 r) := by
  unfold fX9_layPaid
  refine zs_bd_ (ze_1  (s0 := (σ, (0 : Int32))) ⟨h_σ, (zs_w zlI_0 (by decide))⟩) (fun t_1 pt_1 => ?_)
  obtain ⟨ret, er, hr⟩ := zb_31 pt_1
  refine ⟨ret, er, ?_⟩
  exact hr
-- fX9_of
theorem zb_33 {σ0 : sn_S} {σ : sn_S} (h_σ : zs_N σ0 σ) {x1 : Int32} (h_x1 : zs_in x1.toInt 0 5) {x2 : Int32} (h_x2 : zs_in x2.toInt 4 4) : zs_ok (fX9_of σ x1 x2) (fun r => zs_in (r).toInt 0 99) := by
  unfold fX9_of
  obtain rfl : x2 = (4 : Int32) := zs_eqv h_x2 (by decide)
  refine zs_gd (zs_gin (zs_addI 53 78 (zs_addI 49 74 zlI_49 (zs_mulI 0 25 zlI_5 h_x1 (by decide)) (by decide)) h_x2 (by decide)) (by decide)) ?_
  exact zs_some (zs_rdb (q := 1) (lo := 0) (hi := 99) h_σ.1 (zs_cases h_x1 (fun z => zs_bd (zs_tM 1 (((49 : Int32) + ((5 : Int32) * z)) + (4 : Int32)).toNatClampNeg) 0 99) (by decide +kernel)))
-- BX9_moneyAt_7
theorem zb_34 {σ0 : sn_S} {σ : sn_S} (h_σ : zs_N σ0 σ) {x1 : Int32} (h_x1 : zs_in x1.toInt 0 29) {x2 : Int32} {x3 : Int32} (h_x3 : zs_in x3.toInt 0 6) {c : Int} (hc : x3.toInt = c + 0) : zs_ok (BX9_moneyAt_7 σ x1 x2 x3) (fun r => zs_sum (fun v => ((True ∧ zs_in (v.2).toInt 1 6)) ∧ v.2.toInt = c + 1) (fun v => True) r) := by
  unfold BX9_moneyAt_7
  refine zs_gd (zs_gin zlI_8 (by decide)) ?_
  refine zs_ite (fun c1 => ?_) (fun c1 => ?_)
  · skip
    have r2 := (zs_I_le c1)
    exact zs_some (zs_inr (trivial))
  · skip
    have r3 := (zs_I_len c1)
    have g4 : zs_in (x3).toInt 0 5 := (zs_ltl 0 5 r3 h_x3 (zs_rdk (q := 1) (k := (8 : Int32).toNatClampNeg) (z := (0, 6)) h_σ.1 rfl) (by decide))
    have g5 : zs_in ((sn_I σ 1 (8 : Int32).toNatClampNeg)).toInt 1 6 := (zs_ltr 1 6 r3 h_x3 (zs_rdk (q := 1) (k := (8 : Int32).toNatClampNeg) (z := (0, 6)) h_σ.1 rfl) (by decide))
    refine zs_bd_ (zb_33 h_σ g4 zlI_4) (fun t_3 pt_3 => ?_)
    refine zs_lt (Q := fun z => True) trivial (fun y_5 hy_5 => ?_)
    refine zs_lt (Q := fun z => zs_in z.toInt 1 6 ∧ z.toInt = c + 1) ⟨(zs_addI 1 6 g4 zlI_1 (by decide)), (zs_syI 1 hc g4 zlI_1 (by decide) (by decide))⟩ (fun y_7 hy_7 => ?_)
    exact zs_some (zs_inl ⟨⟨trivial, hy_7.1⟩, hy_7.2⟩)
theorem ze_6 {σ0 : sn_S} {σ : sn_S} (h_σ : zs_N σ0 σ) {x1 : Int32} (h_x1 : zs_in x1.toInt 0 29) {s0 : (Int32 × Int32)} (h0 : (True ∧ zs_in (s0.2).toInt 0 6)) : zs_ok (sn_it (LX9_moneyAt_7 σ x1) 5000 s0) (fun t => True) := by
  refine zs_it (I := fun s => (True ∧ zs_in (s.2).toInt 0 6)) (m := fun s => 6 - s.2.toInt) (fun s hs => ?_) (fun s hs => ?_) (by exact h0)
  · have h1 := hs.2; unfold zs_in at h1
    omega
  · obtain ⟨b, eb, hb⟩ := zb_34 h_σ h_x1 hs.2 (c := s.2.toInt) (Int.add_zero _).symm
    exact ⟨b, eb, zs_sumw hb (fun v w => ⟨⟨w.1.1, (zs_w w.1.2 (by decide))⟩, by have := w.2; omega⟩) (fun v w => w)⟩
-- BX9_moneyAt_35
theorem zb_35 {σ0 : sn_S} {σ : sn_S} (h_σ : zs_N σ0 σ) {x1 : Int32} (h_x1 : zs_in x1.toInt 0 29) {x2 : Int32} {x3 : Int32} (h_x3 : zs_in x3.toInt 0 30) {c : Int} (hc : x3.toInt = c + 0) : zs_ok (BX9_moneyAt_35 σ x1 x2 x3) (fun r => zs_sum (fun v => ((True ∧ zs_in (v.2).toInt 1 30)) ∧ v.2.toInt = c + 1) (fun v => True) r) := by
  unfold BX9_moneyAt_35
  refine zs_ite (fun c1 => ?_) (fun c1 => ?_)
  · skip
    have r2 := (zs_I_lt c1)
    have g3 : zs_in (x3).toInt 1 30 := (zs_ltr 1 30 r2 h_x1 h_x3 (by decide))
    exact zs_some (zs_inr (trivial))
  · skip
    have r4 := (zs_I_ltn c1)
    have g5 : zs_in (x3).toInt 0 29 := (zs_lel 0 29 r4 h_x3 h_x1 (by decide))
    refine zs_gd (zs_gin g5 (by decide)) ?_
    refine zs_lt (Q := fun z => True) trivial (fun y_3 hy_3 => ?_)
    refine zs_lt (Q := fun z => zs_in z.toInt 1 30 ∧ z.toInt = c + 1) ⟨(zs_addI 1 30 g5 zlI_1 (by decide)), (zs_syI 1 hc g5 zlI_1 (by decide) (by decide))⟩ (fun y_5 hy_5 => ?_)
    exact zs_some (zs_inl ⟨⟨trivial, hy_5.1⟩, hy_5.2⟩)
theorem ze_7 {σ0 : sn_S} {σ : sn_S} (h_σ : zs_N σ0 σ) {x1 : Int32} (h_x1 : zs_in x1.toInt 0 29) {s0 : (Int32 × Int32)} (h0 : (True ∧ zs_in (s0.2).toInt 0 30)) : zs_ok (sn_it (LX9_moneyAt_35 σ x1) 5000 s0) (fun t => True) := by
  refine zs_it (I := fun s => (True ∧ zs_in (s.2).toInt 0 30)) (m := fun s => 30 - s.2.toInt) (fun s hs => ?_) (fun s hs => ?_) (by exact h0)
  · have h1 := hs.2; unfold zs_in at h1
    omega
  · obtain ⟨b, eb, hb⟩ := zb_35 h_σ h_x1 hs.2 (c := s.2.toInt) (Int.add_zero _).symm
    exact ⟨b, eb, zs_sumw hb (fun v w => ⟨⟨w.1.1, (zs_w w.1.2 (by decide))⟩, by have := w.2; omega⟩) (fun v w => w)⟩
-- BX9_moneyAt_55
theorem zb_36 {σ0 : sn_S} {σ : sn_S} (h_σ : zs_N σ0 σ) {x2 : Int32} : zs_ok (BX9_moneyAt_55 σ x2) (fun r => True) := by
  unfold BX9_moneyAt_55
  exact zs_some trivial
-- BX9_moneyAt_33
theorem zb_37 {σ0 : sn_S} {σ : sn_S} (h_σ : zs_N σ0 σ) {x1 : Int32} (h_x1 : zs_in x1.toInt 0 29) {x2 : Int32} : zs_ok (BX9_moneyAt_33 σ x1 x2) (fun r => True) := by
  unfold BX9_moneyAt_33
  refine zs_bd_ (ze_7 h_σ h_x1 (s0 := (x2, (0 : Int32))) ⟨trivial, (zs_w zlI_0 (by decide))⟩) (fun t_1 pt_1 => ?_)
  obtain ⟨ret, er, hr⟩ := zb_36 h_σ
  refine ⟨ret, er, ?_⟩
  exact hr
-- fX9_moneyAt
theorem zb_38 {σ0 : sn_S} {σ : sn_S} (h_σ : zs_N σ0 σ) {x1 : Int32} (h_x1 : zs_in x1.toInt 0 29) : zs_ok (fX9_moneyAt σ x1) (fun r => True) := by
  unfold fX9_moneyAt
  refine zs_lt (Q := fun z => zs_in z.toInt 0 1000) (zs_rdk (q := 0) (k := 21) (z := (0, 1000)) h_σ.1 rfl) (fun y_1 hy_1 => ?_)
  refine zs_bd_ (ze_6 h_σ h_x1 (s0 := (y_1, (0 : Int32))) ⟨trivial, (zs_w zlI_0 (by decide))⟩) (fun t_3 pt_3 => ?_)
  obtain ⟨ret, er, hr⟩ := zb_37 h_σ h_x1
  refine ⟨ret, er, ?_⟩
  exact hr
-- BX9_ruinOf_6
theorem zb_39 {σ0 : sn_S} {σ : sn_S} (h_σ : zs_N σ0 σ) {x1 : Int32} (h_x1 : zs_in x1.toInt 0 30) {c : Int} (hc : x1.toInt = c + 0) : zs_ok (BX9_ruinOf_6 σ x1) (fun r => zs_sum (fun v => (zs_in (v).toInt 1 30) ∧ v.toInt = c + 1) (fun v => zs_sum (fun v => True) (fun v => (zs_in (v.1).toInt 0 29 ∧ zs_N σ0 v.2)) v) r) := by
  unfold BX9_ruinOf_6
  refine zs_ite (fun c1 => ?_) (fun c1 => ?_)
  · skip
    have r2 := (zs_I_lt c1)
    exact zs_some (zs_inr ((zs_inl (trivial))))
  · skip
    have r3 := (zs_I_ltn c1)
    have g4 : zs_in (x1).toInt 0 29 := (zs_lel 0 29 r3 h_x1 (zs_rdk (q := 0) (k := 22) (z := ((-1), 29)) h_σ.1 rfl) (by decide))
    have g5 : zs_in ((sn_I σ 0 22)).toInt 0 29 := (zs_ler 0 29 r3 h_x1 (zs_rdk (q := 0) (k := 22) (z := ((-1), 29)) h_σ.1 rfl) (by decide))
    refine zs_bd_ (zb_38 h_σ g4) (fun t_2 pt_2 => ?_)
    refine zs_ite (fun c6 => ?_) (fun c6 => ?_)
    · skip
      have r7 := (zs_I_le c6)
      have g8 : zs_in (t_2).toInt 0 2147483647 := (zs_ler 0 2147483647 r7 zlI_0 (zs_topI _) (by decide))
      refine zs_lt (Q := fun z => zs_in z.toInt 1 30 ∧ z.toInt = c + 1) ⟨(zs_addI 1 30 g4 zlI_1 (by decide)), (zs_syI 1 hc g4 zlI_1 (by decide) (by decide))⟩ (fun y_5 hy_5 => ?_)
      exact zs_some (zs_inl ⟨hy_5.1, hy_5.2⟩)
    · skip
      have r9 := (zs_I_len c6)
      have g10 : zs_in (t_2).toInt (-2147483648) (-1) := (zs_ltl (-2147483648) (-1) r9 (zs_topI _) zlI_0 (by decide))
      exact zs_some (zs_inr ((zs_inr (⟨g4, h_σ⟩))))
theorem ze_8 {σ0 : sn_S} {σ : sn_S} (h_σ : zs_N σ0 σ) {s0 : Int32} (h0 : zs_in (s0).toInt 0 30) : zs_ok (sn_it (LX9_ruinOf_6 σ) 5000 s0) (fun t => zs_sum (fun v => True) (fun v => (zs_in (v.1).toInt 0 29 ∧ zs_N σ0 v.2)) t) := by
  refine zs_it (I := fun s => zs_in (s).toInt 0 30) (m := fun s => 30 - s.toInt) (fun s hs => ?_) (fun s hs => ?_) (by exact h0)
  · have h1 := hs; unfold zs_in at h1
    omega
  · obtain ⟨b, eb, hb⟩ := zb_39 h_σ hs (c := s.toInt) (Int.add_zero _).symm
    exact ⟨b, eb, zs_sumw hb (fun v w => ⟨(zs_w w.1 (by decide)), by have := w.2; omega⟩) (fun v w => w)⟩
-- BX9_ruinOf_30
theorem zb_40 {σ0 : sn_S} {σ : sn_S} (h_σ : zs_N σ0 σ) : zs_ok (BX9_ruinOf_30 σ) (fun r => (zs_in (r.1).toInt (-1) (-1) ∧ zs_N σ0 r.2)) := by
  unfold BX9_ruinOf_30
  exact zs_some ⟨zlI_m1, h_σ⟩
-- fX9_ruinOf
theorem zb_41 {σ0 : sn_S} {σ : sn_S} (h_σ : zs_N σ0 σ) : zs_ok (fX9_ruinOf σ) (fun r => (zs_in (r.1).toInt (-1) 29 ∧ zs_N σ0 r.2)) := by
  unfold fX9_ruinOf
  refine zs_bd_ (zb_32 h_σ) (fun t_1 pt_1 => ?_)
  refine zs_bd_ (ze_8 pt_1 (s0 := (0 : Int32)) (zs_w zlI_0 (by decide))) (fun t_3 pt_3 => ?_)
  refine zs_elim pt_3 (fun v_5 pv_5 => ?_) (fun r_6 pr_6 => ?_)
  · skip
    obtain ⟨ret, er, hr⟩ := zb_40 pt_1
    refine ⟨ret, er, ?_⟩
    exact ⟨(zs_w hr.1 (by decide)), hr.2⟩
  · skip
    exact zs_some ⟨(zs_w pr_6.1 (by decide)), pr_6.2⟩
-- BX9_goAll_2
theorem zb_42 {σ0 : sn_S} {σ : sn_S} (h_σ : zs_N σ0 σ) {x1 : Int32} (h_x1 : zs_in x1.toInt 0 6) {c : Int} (hc : x1.toInt = c + 0) : zs_ok (BX9_goAll_2 σ x1) (fun r => zs_sum (fun v => ((zs_N σ0 v.1 ∧ zs_in (v.2).toInt 1 6)) ∧ v.2.toInt = c + 1) (fun v => zs_N σ0 v) r) := by
  unfold BX9_goAll_2
  refine zs_ite (fun c1 => ?_) (fun c1 => ?_)
  · skip
    have r2 := (zs_I_le c1)
    have g3 : zs_in (x1).toInt 6 6 := (zs_ler 6 6 r2 zlI_6 h_x1 (by decide))
    exact zs_some (zs_inr (h_σ))
  · skip
    have r4 := (zs_I_len c1)
    have g5 : zs_in (x1).toInt 0 5 := (zs_ltl 0 5 r4 h_x1 zlI_6 (by decide))
    refine zs_gd (zs_gin g5 (by decide)) ?_
    refine zs_lt (Q := fun z => zs_N σ0 z) (zs_wru (z := (0, 1073741823)) h_σ (fun _ => rfl) zlI_0 (by decide) (fun _ => rfl)) (fun σ_3 hσ_3 => ?_)
    refine zs_gd (zs_gin g5 (by decide)) ?_
    refine zs_lt (Q := fun z => zs_N σ0 z) (zs_wrt hσ_3 (fun _ => rfl) (fun _ => rfl)) (fun σ_6 hσ_6 => ?_)
    refine zs_lt (Q := fun z => zs_in z.toInt 1 6 ∧ z.toInt = c + 1) ⟨(zs_addI 1 6 g5 zlI_1 (by decide)), (zs_syI 1 hc g5 zlI_1 (by decide) (by decide))⟩ (fun y_8 hy_8 => ?_)
    exact zs_some (zs_inl ⟨⟨hσ_6, hy_8.1⟩, hy_8.2⟩)
theorem ze_9 {σ0 : sn_S}  {s0 : (sn_S × Int32)} (h0 : (zs_N σ0 s0.1 ∧ zs_in (s0.2).toInt 0 6)) : zs_ok (sn_it (LX9_goAll_2) 5000 s0) (fun t => zs_N σ0 t) := by
  refine zs_it (I := fun s => (zs_N σ0 s.1 ∧ zs_in (s.2).toInt 0 6)) (m := fun s => 6 - s.2.toInt) (fun s hs => ?_) (fun s hs => ?_) (by exact h0)
  · have h1 := hs.2; unfold zs_in at h1
    omega
  · obtain ⟨b, eb, hb⟩ := zb_42 hs.1 hs.2 (c := s.2.toInt) (Int.add_zero _).symm
    exact ⟨b, eb, zs_sumw hb (fun v w => ⟨⟨w.1.1, (zs_w w.1.2 (by decide))⟩, by have := w.2; omega⟩) (fun v w => w)⟩
-- BX9_netsTo_91
theorem zb_43 {σ0 : sn_S} {σ : sn_S} (h_σ : zs_N σ0 σ) {x1 : Int32} (h_x1 : zs_in x1.toInt 0 5) {x2 : Int32} (h_x2 : zs_in x2.toInt 0 0) {x3 : Int32} {x4 : Int32} (h_x4 : zs_in x4.toInt 0 7) {c : Int} (hc : x4.toInt = c + 0) : zs_ok (BX9_netsTo_91 σ x1 x2 x3 x4) (fun r => zs_sum (fun v => ((True ∧ zs_in (v.2).toInt 1 8)) ∧ v.2.toInt = c + 1) (fun v => False) r) := by
  unfold BX9_netsTo_91
  obtain rfl : x2 = (0 : Int32) := zs_eqv h_x2 (by decide)
  refine zs_lt (Q := fun z => zs_in z.toInt 1 8 ∧ z.toInt = c + 1) ⟨(zs_addI 1 8 h_x4 zlI_1 (by decide)), (zs_syI 1 hc h_x4 zlI_1 (by decide) (by decide))⟩ (fun y_1 hy_1 => ?_)
  exact zs_some (zs_inl ⟨⟨trivial, hy_1.1⟩, hy_1.2⟩)
-- fX9_bit
theorem zb_44 {x0 : Int32} (h_x0 : zs_in x0.toInt 0 0) {x1 : Int32} (h_x1 : zs_in x1.toInt 0 5) : zs_ok (fX9_bit x0 x1) (fun r => zs_in (r).toInt 0 1) := by
  unfold fX9_bit
  obtain rfl : x0 = (0 : Int32) := zs_eqv h_x0 (by decide)
  exact zs_some (zs_and zlI_1 (by decide))
-- BX9_netsTo_88
theorem zb_45 {σ0 : sn_S} {σ : sn_S} (h_σ : zs_N σ0 σ) {x1 : Int32} (h_x1 : zs_in x1.toInt 0 5) {x2 : Int32} (h_x2 : zs_in x2.toInt 0 0) {x3 : Int32} {x4 : Int32} (h_x4 : zs_in x4.toInt 0 7) {c : Int} (hc : x4.toInt = c + 0) : zs_ok (BX9_netsTo_88 σ x1 x2 x3 x4) (fun r => zs_sum (fun v => ((True ∧ zs_in (v.2).toInt 1 8)) ∧ v.2.toInt = c + 1) (fun v => False) r) := by
  unfold BX9_netsTo_88
  obtain rfl : x2 = (0 : Int32) := zs_eqv h_x2 (by decide)
  refine zs_lt (Q := fun z => True) trivial (fun y_1 hy_1 => ?_)
  obtain ⟨ret, er, hr⟩ := zb_43 h_σ h_x1 h_x2 h_x4 hc
  refine ⟨ret, er, ?_⟩
  exact (zs_sumw hr (fun v w => ⟨w.1, w.2⟩) (fun v w => w.elim))
-- BX9_netsTo_72
theorem zb_46 {σ0 : sn_S} {σ : sn_S} (h_σ : zs_N σ0 σ) {x1 : Int32} (h_x1 : zs_in x1.toInt 0 5) {x2 : Int32} (h_x2 : zs_in x2.toInt 0 0) {x3 : Int32} {x4 : Int32} (h_x4 : zs_in x4.toInt 0 7) {x5 : Int32} (h_x5 : zs_in x5.toInt 0 5) {x6 : Int32} (h_x6 : zs_in x6.toInt 0 5) {c : Int} (hc : x4.toInt = c + 0) : zs_ok (BX9_netsTo_72 σ x1 x2 x3 x4 x5 x6) (fun r => zs_sum (fun v => ((True ∧ zs_in (v.2).toInt 1 8)) ∧ v.2.toInt = c + 1) (fun v => False) r) := by
  unfold BX9_netsTo_72
  obtain rfl : x2 = (0 : Int32) := zs_eqv h_x2 (by decide)
  refine zs_ite (fun c1 => ?_) (fun c1 => ?_)
  · skip
    have r2 := (zs_I_eq c1)
    refine zs_bd_ (zb_44 h_x2 h_x5) (fun t_2 pt_2 => ?_)
    refine zs_ite (fun c3 => ?_) (fun c3 => ?_)
    · skip
      have r4 := (zs_I_eq c3)
      have g5 : zs_in (t_2).toInt 1 1 := (zs_eql 1 1 r4 pt_2 zlI_1 (by decide))
      obtain ⟨ret, er, hr⟩ := zb_45 h_σ h_x1 h_x2 h_x4 hc
      refine ⟨ret, er, ?_⟩
      exact (zs_sumw hr (fun v w => ⟨w.1, w.2⟩) (fun v w => w.elim))
    · skip
      have r6 := (zs_I_eqn c3)
      have g7 : zs_in (t_2).toInt 0 0 := (zs_neh 0 0 r6 pt_2 zlI_1 (by decide))
      obtain ⟨ret, er, hr⟩ := zb_43 h_σ h_x1 h_x2 h_x4 hc
      refine ⟨ret, er, ?_⟩
      exact (zs_sumw hr (fun v w => ⟨w.1, w.2⟩) (fun v w => w.elim))
  · skip
    have r8 := (zs_I_eqn c1)
    obtain ⟨ret, er, hr⟩ := zb_43 h_σ h_x1 h_x2 h_x4 hc
    refine ⟨ret, er, ?_⟩
    exact (zs_sumw hr (fun v w => ⟨w.1, w.2⟩) (fun v w => w.elim))
-- BX9_netsTo_5
theorem zb_47 {σ0 : sn_S} {σ : sn_S} (h_σ : zs_N σ0 σ) {x1 : Int32} (h_x1 : zs_in x1.toInt 0 5) {x2 : Int32} (h_x2 : zs_in x2.toInt 0 0) {x3 : Int32} {x4 : Int32} (h_x4 : zs_in x4.toInt 0 8) {c : Int} (hc : x4.toInt = c + 0) : zs_ok (BX9_netsTo_5 σ x1 x2 x3 x4) (fun r => zs_sum (fun v => ((True ∧ zs_in (v.2).toInt 1 8)) ∧ v.2.toInt = c + 1) (fun v => True) r) := by
  unfold BX9_netsTo_5
  obtain rfl : x2 = (0 : Int32) := zs_eqv h_x2 (by decide)
  refine zs_gd (zs_gin zlI_7 (by decide)) ?_
  refine zs_ite (fun c1 => ?_) (fun c1 => ?_)
  · skip
    have r2 := (zs_I_le c1)
    exact zs_some (zs_inr (trivial))
  · skip
    have r3 := (zs_I_len c1)
    have g4 : zs_in (x4).toInt 0 7 := (zs_ltl 0 7 r3 h_x4 (zs_rdk (q := 1) (k := (7 : Int32).toNatClampNeg) (z := (0, 8)) h_σ.1 rfl) (by decide))
    have g5 : zs_in ((sn_I σ 1 (7 : Int32).toNatClampNeg)).toInt 1 8 := (zs_ltr 1 8 r3 h_x4 (zs_rdk (q := 1) (k := (7 : Int32).toNatClampNeg) (z := (0, 8)) h_σ.1 rfl) (by decide))
    refine zs_gd (zs_gin (zs_addI 33 47 zlI_33 (zs_mulI 0 14 zlI_2 g4 (by decide)) (by decide)) (by decide)) ?_
    refine zs_lt (Q := fun z => zs_in z.toInt 0 5) (zs_rdb (q := 1) (lo := 0) (hi := 5) h_σ.1 (zs_cases g4 (fun z => zs_bd (zs_tM 1 ((33 : Int32) + ((2 : Int32) * z)).toNatClampNeg) 0 5) (by decide +kernel))) (fun y_4 hy_4 => ?_)
    refine zs_gd (zs_gin (zs_addI 34 48 (zs_addI 33 47 zlI_33 (zs_mulI 0 14 zlI_2 g4 (by decide)) (by decide)) zlI_1 (by decide)) (by decide)) ?_
    refine zs_lt (Q := fun z => zs_in z.toInt 0 5) (zs_rdb (q := 1) (lo := 0) (hi := 5) h_σ.1 (zs_cases g4 (fun z => zs_bd (zs_tM 1 (((33 : Int32) + ((2 : Int32) * z)) + (1 : Int32)).toNatClampNeg) 0 5) (by decide +kernel))) (fun y_7 hy_7 => ?_)
    refine zs_ite (fun c6 => ?_) (fun c6 => ?_)
    · skip
      have r7 := (zs_I_eq c6)
      have g8 : zs_in ((sn_I σ 0 19)).toInt 0 7 := (zs_eqr 0 7 r7 g4 (zs_topI _) (by decide))
      obtain ⟨ret, er, hr⟩ := zb_43 h_σ h_x1 h_x2 g4 hc
      refine ⟨ret, er, ?_⟩
      exact (zs_sumw hr (fun v w => ⟨w.1, w.2⟩) (fun v w => w.elim))
    · skip
      have r9 := (zs_I_eqn c6)
      refine zs_ite (fun c10 => ?_) (fun c10 => ?_)
      · skip
        have r11 := (zs_I_eq c10)
        refine zs_bd_ (zb_44 h_x2 hy_7) (fun t_11 pt_11 => ?_)
        refine zs_ite (fun c12 => ?_) (fun c12 => ?_)
        · skip
          have r13 := (zs_I_eq c12)
          have g14 : zs_in (t_11).toInt 1 1 := (zs_eql 1 1 r13 pt_11 zlI_1 (by decide))
          obtain ⟨ret, er, hr⟩ := zb_45 h_σ h_x1 h_x2 g4 hc
          refine ⟨ret, er, ?_⟩
          exact (zs_sumw hr (fun v w => ⟨w.1, w.2⟩) (fun v w => w.elim))
        · skip
          have r15 := (zs_I_eqn c12)
          have g16 : zs_in (t_11).toInt 0 0 := (zs_neh 0 0 r15 pt_11 zlI_1 (by decide))
          obtain ⟨ret, er, hr⟩ := zb_46 h_σ h_x1 h_x2 g4 hy_4 hy_7 hc
          refine ⟨ret, er, ?_⟩
          exact (zs_sumw hr (fun v w => ⟨w.1, w.2⟩) (fun v w => w.elim))
      · skip
        have r17 := (zs_I_eqn c10)
        obtain ⟨ret, er, hr⟩ := zb_46 h_σ h_x1 h_x2 g4 hy_4 hy_7 hc
        refine ⟨ret, er, ?_⟩
        exact (zs_sumw hr (fun v w => ⟨w.1, w.2⟩) (fun v w => w.elim))
theorem ze_10 {σ0 : sn_S} {σ : sn_S} (h_σ : zs_N σ0 σ) {x1 : Int32} (h_x1 : zs_in x1.toInt 0 5) {x2 : Int32} (h_x2 : zs_in x2.toInt 0 0) {s0 : (Int32 × Int32)} (h0 : (True ∧ zs_in (s0.2).toInt 0 8)) : zs_ok (sn_it (LX9_netsTo_5 σ x1 x2) 5000 s0) (fun t => True) := by
  refine zs_it (I := fun s => (True ∧ zs_in (s.2).toInt 0 8)) (m := fun s => 8 - s.2.toInt) (fun s hs => ?_) (fun s hs => ?_) (by exact h0)
  · have h1 := hs.2; unfold zs_in at h1
    omega
  · obtain ⟨b, eb, hb⟩ := zb_47 h_σ h_x1 h_x2 hs.2 (c := s.2.toInt) (Int.add_zero _).symm
    exact ⟨b, eb, zs_sumw hb (fun v w => ⟨⟨w.1.1, (zs_w w.1.2 (by decide))⟩, by have := w.2; omega⟩) (fun v w => w)⟩
-- BX9_netsTo_97
theorem zb_48 {σ0 : sn_S} {σ : sn_S} (h_σ : zs_N σ0 σ) {x3 : Int32} : zs_ok (BX9_netsTo_97 σ x3) (fun r => True) := by
  unfold BX9_netsTo_97
  exact zs_some trivial
-- fX9_netsTo
theorem zb_49 {σ0 : sn_S} {σ : sn_S} (h_σ : zs_N σ0 σ) {x1 : Int32} (h_x1 : zs_in x1.toInt 0 5) {x2 : Int32} (h_x2 : zs_in x2.toInt 0 0) : zs_ok (fX9_netsTo σ x1 x2) (fun r => True) := by
  unfold fX9_netsTo
  obtain rfl : x2 = (0 : Int32) := zs_eqv h_x2 (by decide)
  refine zs_bd_ (ze_10 h_σ h_x1 h_x2 (s0 := ((0 : Int32), (0 : Int32))) ⟨trivial, (zs_w zlI_0 (by decide))⟩) (fun t_1 pt_1 => ?_)
  obtain ⟨ret, er, hr⟩ := zb_48 h_σ
  refine ⟨ret, er, ?_⟩
  exact hr
-- fX9_bit
theorem zb_50 {x0 : Int32} {x1 : Int32} (h_x1 : zs_in x1.toInt 0 0) : zs_ok (fX9_bit x0 x1) (fun r => zs_in (r).toInt 0 1) := by
  unfold fX9_bit
  obtain rfl : x1 = (0 : Int32) := zs_eqv h_x1 (by decide)
  exact zs_some (zs_and zlI_1 (by decide))
-- BX9_goMinute_225
theorem zb_51 {σ0 : sn_S} {σ : sn_S} (h_σ : zs_N σ0 σ) {x1 : Int32} (h_x1 : zs_in x1.toInt 0 0) {x2 : Int32} (h_x2 : zs_in x2.toInt 0 0) {x3 : Int32} (h_x3 : zs_in x3.toInt 0 5) {c : Int} (hc : x3.toInt = c + 0) : zs_ok (BX9_goMinute_225 σ x1 x2 x3) (fun r => zs_sum (fun v => ((zs_N σ0 v.1 ∧ zs_in (v.2).toInt 1 6)) ∧ v.2.toInt = c + 1) (fun v => False) r) := by
  unfold BX9_goMinute_225
  obtain rfl : x1 = (0 : Int32) := zs_eqv h_x1 (by decide)
  obtain rfl : x2 = (0 : Int32) := zs_eqv h_x2 (by decide)
  refine zs_lt (Q := fun z => zs_in z.toInt 1 6 ∧ z.toInt = c + 1) ⟨(zs_addI 1 6 h_x3 zlI_1 (by decide)), (zs_syI 1 hc h_x3 zlI_1 (by decide) (by decide))⟩ (fun y_1 hy_1 => ?_)
  exact zs_some (zs_inl ⟨⟨h_σ, hy_1.1⟩, hy_1.2⟩)
-- BX9_goMinute_192
theorem zb_52 {σ0 : sn_S} {σ : sn_S} (h_σ : zs_N σ0 σ) {x1 : Int32} (h_x1 : zs_in x1.toInt 0 0) {x2 : Int32} (h_x2 : zs_in x2.toInt 0 0) {x3 : Int32} (h_x3 : zs_in x3.toInt 0 5) {x7 : Int32} (h_x7 : zs_in x7.toInt 0 0) {t1 : Int32} (h_t1 : zs_in t1.toInt 0 5) {t2 : Int32} (h_t2 : zs_in t2.toInt (-2147483648) 98) {c : Int} (hc : x3.toInt = c + 0) : zs_ok (BX9_goMinute_192 σ x1 x2 x3 x7 t1 t2) (fun r => zs_sum (fun v => ((zs_N σ0 v.1 ∧ zs_in (v.2).toInt 1 6)) ∧ v.2.toInt = c + 1) (fun v => False) r) := by
  unfold BX9_goMinute_192
  obtain rfl : x1 = (0 : Int32) := zs_eqv h_x1 (by decide)
  obtain rfl : x2 = (0 : Int32) := zs_eqv h_x2 (by decide)
  obtain rfl : x7 = (0 : Int32) := zs_eqv h_x7 (by decide)
  refine zs_gd (zs_gin h_t1 (by decide)) ?_
  refine zs_lt (Q := fun z => zs_N σ0 z) (zs_wrt h_σ (fun _ => rfl) (fun _ => rfl)) (fun σ_2 hσ_2 => ?_)
  refine zs_ite (fun c1 => ?_) (fun c1 => ?_)
  · skip
    have r2 := (zs_I_eq c1)
    obtain ⟨ret, er, hr⟩ := zb_51 hσ_2 h_x1 h_x2 h_x3 hc
    refine ⟨ret, er, ?_⟩
    exact (zs_sumw hr (fun v w => ⟨w.1, w.2⟩) (fun v w => w.elim))
  · skip
    have r3 := (zs_I_eqn c1)
    exact (zs_botne r3 h_x7 zlI_0 (by decide)).elim
-- BX9_goMinute_145
theorem zb_53 {σ0 : sn_S} {σ : sn_S} (h_σ : zs_N σ0 σ) {x1 : Int32} (h_x1 : zs_in x1.toInt 0 0) {x2 : Int32} (h_x2 : zs_in x2.toInt 0 0) {x3 : Int32} (h_x3 : zs_in x3.toInt 0 5) {x4 : Int32} {x5 : Int32} {x6 : Int32} (h_x6 : zs_in x6.toInt (-2147483648) 98) {t0 : Int32} (h_t0 : zs_in t0.toInt 0 0) {c : Int} (hc : x3.toInt = c + 0) : zs_ok (BX9_goMinute_145 σ x1 x2 x3 x4 x5 x6 t0) (fun r => zs_sum (fun v => ((zs_N σ0 v.1 ∧ zs_in (v.2).toInt 1 6)) ∧ v.2.toInt = c + 1) (fun v => False) r) := by
  unfold BX9_goMinute_145
  obtain rfl : x1 = (0 : Int32) := zs_eqv h_x1 (by decide)
  obtain rfl : x2 = (0 : Int32) := zs_eqv h_x2 (by decide)
  obtain rfl : t0 = (0 : Int32) := zs_eqv h_t0 (by decide)
  refine zs_gd (zs_gin h_x3 (by decide)) ?_
  refine zs_gd (zs_gin h_x3 (by decide)) ?_
  refine zs_lt (Q := fun z => zs_N σ0 z) (zs_wrt h_σ (fun _ => rfl) (fun _ => rfl)) (fun σ_3 hσ_3 => ?_)
  refine zs_gd (zs_gin (zs_addI 0 5 (zs_mulI 0 0 zlI_6 h_x1 (by decide)) h_x3 (by decide)) (by decide)) ?_
  refine zs_lt (Q := fun z => zs_N σ0 z) (zs_wrt hσ_3 (fun _ => rfl) (fun _ => rfl)) (fun σ_6 hσ_6 => ?_)
  refine zs_ite (fun c1 => ?_) (fun c1 => ?_)
  · skip
    have r2 := (zs_I_eq c1)
    obtain ⟨ret, er, hr⟩ := zb_52 hσ_6 h_x1 h_x2 h_x3 h_t0 (zs_addI 0 5 (zs_mulI 0 0 zlI_6 h_x1 (by decide)) h_x3 (by decide)) h_x6 hc
    refine ⟨ret, er, ?_⟩
    exact (zs_sumw hr (fun v w => ⟨w.1, w.2⟩) (fun v w => w.elim))
  · skip
    have r3 := (zs_I_eqn c1)
    exact (zs_botne r3 h_t0 zlI_0 (by decide)).elim
-- BX9_goMinute_144
theorem zb_54 {σ0 : sn_S} {σ : sn_S} (h_σ : zs_N σ0 σ) {x1 : Int32} (h_x1 : zs_in x1.toInt 0 0) {x2 : Int32} (h_x2 : zs_in x2.toInt 0 0) {x3 : Int32} (h_x3 : zs_in x3.toInt 0 5) {x4 : Int32} {x5 : Int32} {x6 : Int32} (h_x6 : zs_in x6.toInt (-2147483648) 98) {c : Int} (hc : x3.toInt = c + 0) : zs_ok (BX9_goMinute_144 σ x1 x2 x3 x4 x5 x6) (fun r => zs_sum (fun v => ((zs_N σ0 v.1 ∧ zs_in (v.2).toInt 1 6)) ∧ v.2.toInt = c + 1) (fun v => False) r) := by
  unfold BX9_goMinute_144
  obtain rfl : x1 = (0 : Int32) := zs_eqv h_x1 (by decide)
  obtain rfl : x2 = (0 : Int32) := zs_eqv h_x2 (by decide)
  obtain ⟨ret, er, hr⟩ := zb_53 h_σ h_x1 h_x2 h_x3 h_x6 zlI_0 hc
  refine ⟨ret, er, ?_⟩
  exact (zs_sumw hr (fun v w => ⟨w.1, w.2⟩) (fun v w => w.elim))
-- BX9_goMinute_192
theorem zb_55 {σ0 : sn_S} {σ : sn_S} (h_σ : zs_N σ0 σ) {x1 : Int32} (h_x1 : zs_in x1.toInt 0 0) {x2 : Int32} (h_x2 : zs_in x2.toInt 0 0) {x3 : Int32} (h_x3 : zs_in x3.toInt 0 5) {x7 : Int32} (h_x7 : zs_in x7.toInt 1 1) {t1 : Int32} (h_t1 : zs_in t1.toInt 0 5) {t2 : Int32} (h_t2 : zs_in t2.toInt 0 0) {c : Int} (hc : x3.toInt = c + 0) : zs_ok (BX9_goMinute_192 σ x1 x2 x3 x7 t1 t2) (fun r => zs_sum (fun v => ((zs_N σ0 v.1 ∧ zs_in (v.2).toInt 1 6)) ∧ v.2.toInt = c + 1) (fun v => False) r) := by
  unfold BX9_goMinute_192
  obtain rfl : x1 = (0 : Int32) := zs_eqv h_x1 (by decide)
  obtain rfl : x2 = (0 : Int32) := zs_eqv h_x2 (by decide)
  obtain rfl : x7 = (1 : Int32) := zs_eqv h_x7 (by decide)
  obtain rfl : t2 = (0 : Int32) := zs_eqv h_t2 (by decide)
  refine zs_gd (zs_gin h_t1 (by decide)) ?_
  refine zs_lt (Q := fun z => zs_N σ0 z) (zs_wrt h_σ (fun _ => rfl) (fun _ => rfl)) (fun σ_2 hσ_2 => ?_)
  refine zs_ite (fun c1 => ?_) (fun c1 => ?_)
  · skip
    have r2 := (zs_I_eq c1)
    exact (zs_botr r2 h_x7 zlI_0 (by decide)).elim
  · skip
    have r3 := (zs_I_eqn c1)
    refine zs_gd (zs_gin h_x1 (by decide)) ?_
    refine zs_gd (zs_gin h_x1 (by decide)) ?_
    refine zs_lt (Q := fun z => zs_N σ0 z) (zs_wrt hσ_2 (fun _ => rfl) (fun _ => rfl)) (fun σ_7 hσ_7 => ?_)
    refine zs_gd (zs_gin h_x3 (by decide)) ?_
    refine zs_gd (zs_gin h_x3 (by decide)) ?_
    refine zs_lt (Q := fun z => zs_N σ0 z) (zs_wru (z := (0, 1073741823)) hσ_7 (fun _ => rfl) (zs_or 30 1073741823 (zs_rdu (q := 10) (z := (0, 1073741823)) hσ_7.1 (fun _ => rfl)) (zs_cases h_x1 (fun z => zs_in ((1 : Int32) <<< (z &&& 31)).toInt 1 1) (by decide +kernel)) (by decide)) (by decide) (fun _ => rfl)) (fun σ_11 hσ_11 => ?_)
    obtain ⟨ret, er, hr⟩ := zb_51 hσ_11 h_x1 h_x2 h_x3 hc
    refine ⟨ret, er, ?_⟩
    exact (zs_sumw hr (fun v w => ⟨w.1, w.2⟩) (fun v w => w.elim))
-- BX9_goMinute_145
theorem zb_56 {σ0 : sn_S} {σ : sn_S} (h_σ : zs_N σ0 σ) {x1 : Int32} (h_x1 : zs_in x1.toInt 0 0) {x2 : Int32} (h_x2 : zs_in x2.toInt 0 0) {x3 : Int32} (h_x3 : zs_in x3.toInt 0 5) {x4 : Int32} {x5 : Int32} {x6 : Int32} (h_x6 : zs_in x6.toInt 0 2147483647) {t0 : Int32} (h_t0 : zs_in t0.toInt 1 1) {c : Int} (hc : x3.toInt = c + 0) : zs_ok (BX9_goMinute_145 σ x1 x2 x3 x4 x5 x6 t0) (fun r => zs_sum (fun v => ((zs_N σ0 v.1 ∧ zs_in (v.2).toInt 1 6)) ∧ v.2.toInt = c + 1) (fun v => False) r) := by
  unfold BX9_goMinute_145
  obtain rfl : x1 = (0 : Int32) := zs_eqv h_x1 (by decide)
  obtain rfl : x2 = (0 : Int32) := zs_eqv h_x2 (by decide)
  obtain rfl : t0 = (1 : Int32) := zs_eqv h_t0 (by decide)
  refine zs_gd (zs_gin h_x3 (by decide)) ?_
  refine zs_gd (zs_gin h_x3 (by decide)) ?_
  refine zs_lt (Q := fun z => zs_N σ0 z) (zs_wrt h_σ (fun _ => rfl) (fun _ => rfl)) (fun σ_3 hσ_3 => ?_)
  refine zs_gd (zs_gin (zs_addI 0 5 (zs_mulI 0 0 zlI_6 h_x1 (by decide)) h_x3 (by decide)) (by decide)) ?_
  refine zs_lt (Q := fun z => zs_N σ0 z) (zs_wrt hσ_3 (fun _ => rfl) (fun _ => rfl)) (fun σ_6 hσ_6 => ?_)
  refine zs_ite (fun c1 => ?_) (fun c1 => ?_)
  · skip
    have r2 := (zs_I_eq c1)
    exact (zs_botr r2 h_t0 zlI_0 (by decide)).elim
  · skip
    have r3 := (zs_I_eqn c1)
    obtain ⟨ret, er, hr⟩ := zb_55 hσ_6 h_x1 h_x2 h_x3 h_t0 (zs_addI 0 5 (zs_mulI 0 0 zlI_6 h_x1 (by decide)) h_x3 (by decide)) zlI_0 hc
    refine ⟨ret, er, ?_⟩
    exact (zs_sumw hr (fun v w => ⟨w.1, w.2⟩) (fun v w => w.elim))
-- BX9_goMinute_192
theorem zb_57 {σ0 : sn_S} {σ : sn_S} (h_σ : zs_N σ0 σ) {x1 : Int32} (h_x1 : zs_in x1.toInt 0 0) {x2 : Int32} (h_x2 : zs_in x2.toInt 0 0) {x3 : Int32} (h_x3 : zs_in x3.toInt 0 5) {x7 : Int32} (h_x7 : zs_in x7.toInt 0 0) {t1 : Int32} (h_t1 : zs_in t1.toInt 0 5) {t2 : Int32} (h_t2 : zs_in t2.toInt 0 2147483647) {c : Int} (hc : x3.toInt = c + 0) : zs_ok (BX9_goMinute_192 σ x1 x2 x3 x7 t1 t2) (fun r => zs_sum (fun v => ((zs_N σ0 v.1 ∧ zs_in (v.2).toInt 1 6)) ∧ v.2.toInt = c + 1) (fun v => False) r) := by
  unfold BX9_goMinute_192
  obtain rfl : x1 = (0 : Int32) := zs_eqv h_x1 (by decide)
  obtain rfl : x2 = (0 : Int32) := zs_eqv h_x2 (by decide)
  obtain rfl : x7 = (0 : Int32) := zs_eqv h_x7 (by decide)
  refine zs_gd (zs_gin h_t1 (by decide)) ?_
  refine zs_lt (Q := fun z => zs_N σ0 z) (zs_wrt h_σ (fun _ => rfl) (fun _ => rfl)) (fun σ_2 hσ_2 => ?_)
  refine zs_ite (fun c1 => ?_) (fun c1 => ?_)
  · skip
    have r2 := (zs_I_eq c1)
    obtain ⟨ret, er, hr⟩ := zb_51 hσ_2 h_x1 h_x2 h_x3 hc
    refine ⟨ret, er, ?_⟩
    exact (zs_sumw hr (fun v w => ⟨w.1, w.2⟩) (fun v w => w.elim))
  · skip
    have r3 := (zs_I_eqn c1)
    exact (zs_botne r3 h_x7 zlI_0 (by decide)).elim
-- BX9_goMinute_145
theorem zb_58 {σ0 : sn_S} {σ : sn_S} (h_σ : zs_N σ0 σ) {x1 : Int32} (h_x1 : zs_in x1.toInt 0 0) {x2 : Int32} (h_x2 : zs_in x2.toInt 0 0) {x3 : Int32} (h_x3 : zs_in x3.toInt 0 5) {x4 : Int32} {x5 : Int32} {x6 : Int32} (h_x6 : zs_in x6.toInt 0 2147483647) {t0 : Int32} (h_t0 : zs_in t0.toInt 0 0) {c : Int} (hc : x3.toInt = c + 0) : zs_ok (BX9_goMinute_145 σ x1 x2 x3 x4 x5 x6 t0) (fun r => zs_sum (fun v => ((zs_N σ0 v.1 ∧ zs_in (v.2).toInt 1 6)) ∧ v.2.toInt = c + 1) (fun v => False) r) := by
  unfold BX9_goMinute_145
  obtain rfl : x1 = (0 : Int32) := zs_eqv h_x1 (by decide)
  obtain rfl : x2 = (0 : Int32) := zs_eqv h_x2 (by decide)
  obtain rfl : t0 = (0 : Int32) := zs_eqv h_t0 (by decide)
  refine zs_gd (zs_gin h_x3 (by decide)) ?_
  refine zs_gd (zs_gin h_x3 (by decide)) ?_
  refine zs_lt (Q := fun z => zs_N σ0 z) (zs_wrt h_σ (fun _ => rfl) (fun _ => rfl)) (fun σ_3 hσ_3 => ?_)
  refine zs_gd (zs_gin (zs_addI 0 5 (zs_mulI 0 0 zlI_6 h_x1 (by decide)) h_x3 (by decide)) (by decide)) ?_
  refine zs_lt (Q := fun z => zs_N σ0 z) (zs_wrt hσ_3 (fun _ => rfl) (fun _ => rfl)) (fun σ_6 hσ_6 => ?_)
  refine zs_ite (fun c1 => ?_) (fun c1 => ?_)
  · skip
    have r2 := (zs_I_eq c1)
    obtain ⟨ret, er, hr⟩ := zb_57 hσ_6 h_x1 h_x2 h_x3 h_t0 (zs_addI 0 5 (zs_mulI 0 0 zlI_6 h_x1 (by decide)) h_x3 (by decide)) h_x6 hc
    refine ⟨ret, er, ?_⟩
    exact (zs_sumw hr (fun v w => ⟨w.1, w.2⟩) (fun v w => w.elim))
  · skip
    have r3 := (zs_I_eqn c1)
    exact (zs_botne r3 h_t0 zlI_0 (by decide)).elim
-- BX9_goMinute_144
theorem zb_59 {σ0 : sn_S} {σ : sn_S} (h_σ : zs_N σ0 σ) {x1 : Int32} (h_x1 : zs_in x1.toInt 0 0) {x2 : Int32} (h_x2 : zs_in x2.toInt 0 0) {x3 : Int32} (h_x3 : zs_in x3.toInt 0 5) {x4 : Int32} {x5 : Int32} {x6 : Int32} (h_x6 : zs_in x6.toInt 0 2147483647) {c : Int} (hc : x3.toInt = c + 0) : zs_ok (BX9_goMinute_144 σ x1 x2 x3 x4 x5 x6) (fun r => zs_sum (fun v => ((zs_N σ0 v.1 ∧ zs_in (v.2).toInt 1 6)) ∧ v.2.toInt = c + 1) (fun v => False) r) := by
  unfold BX9_goMinute_144
  obtain rfl : x1 = (0 : Int32) := zs_eqv h_x1 (by decide)
  obtain rfl : x2 = (0 : Int32) := zs_eqv h_x2 (by decide)
  obtain ⟨ret, er, hr⟩ := zb_58 h_σ h_x1 h_x2 h_x3 h_x6 zlI_0 hc
  refine ⟨ret, er, ?_⟩
  exact (zs_sumw hr (fun v w => ⟨w.1, w.2⟩) (fun v w => w.elim))
-- BX9_goMinute_104
theorem zb_60 {σ0 : sn_S} {σ : sn_S} (h_σ : zs_N σ0 σ) {x1 : Int32} (h_x1 : zs_in x1.toInt 0 0) {x2 : Int32} (h_x2 : zs_in x2.toInt 0 0) {x3 : Int32} (h_x3 : zs_in x3.toInt 0 5) {x4 : Int32} {x5 : Int32} {t0 : Int32} (h_t0 : zs_in t0.toInt 0 0) {c : Int} (hc : x3.toInt = c + 0) : zs_ok (BX9_goMinute_104 σ x1 x2 x3 x4 x5 t0) (fun r => zs_sum (fun v => ((zs_N σ0 v.1 ∧ zs_in (v.2).toInt 1 6)) ∧ v.2.toInt = c + 1) (fun v => False) r) := by
  unfold BX9_goMinute_104
  obtain rfl : x1 = (0 : Int32) := zs_eqv h_x1 (by decide)
  obtain rfl : x2 = (0 : Int32) := zs_eqv h_x2 (by decide)
  obtain rfl : t0 = (0 : Int32) := zs_eqv h_t0 (by decide)
  refine zs_lt (Q := fun z => True) trivial (fun y_1 hy_1 => ?_)
  refine zs_gd (zs_gin (zs_addI 12 22 (zs_addI 11 21 zlI_11 (zs_mulI 0 10 zlI_2 h_x3 (by decide)) (by decide)) zlI_1 (by decide)) (by decide)) ?_
  refine zs_ite (fun c1 => ?_) (fun c1 => ?_)
  · skip
    have r2 := (zs_I_lt c1)
    have g3 : zs_in (y_1).toInt (-2147483648) 98 := (zs_ltl (-2147483648) 98 r2 (zs_topI _) (zs_rdb (q := 1) (lo := 0) (hi := 99) h_σ.1 (zs_cases h_x3 (fun z => zs_bd (zs_tM 1 (((11 : Int32) + ((2 : Int32) * z)) + (1 : Int32)).toNatClampNeg) 0 99) (by decide +kernel))) (by decide))
    obtain ⟨ret, er, hr⟩ := zb_54 h_σ h_x1 h_x2 h_x3 g3 hc
    refine ⟨ret, er, ?_⟩
    exact (zs_sumw hr (fun v w => ⟨w.1, w.2⟩) (fun v w => w.elim))
  · skip
    have r4 := (zs_I_ltn c1)
    have g5 : zs_in (y_1).toInt 0 2147483647 := (zs_ler 0 2147483647 r4 (zs_rdb (q := 1) (lo := 0) (hi := 99) h_σ.1 (zs_cases h_x3 (fun z => zs_bd (zs_tM 1 (((11 : Int32) + ((2 : Int32) * z)) + (1 : Int32)).toNatClampNeg) 0 99) (by decide +kernel))) (zs_topI _) (by decide))
    refine zs_gd (zs_gin h_x3 (by decide)) ?_
    refine zs_bd_ (zb_50 h_x1) (fun t_6 pt_6 => ?_)
    refine zs_ite (fun c6 => ?_) (fun c6 => ?_)
    · skip
      have r7 := (zs_I_eq c6)
      have g8 : zs_in (t_6).toInt 0 0 := (zs_eql 0 0 r7 pt_6 zlI_0 (by decide))
      obtain ⟨ret, er, hr⟩ := zb_56 h_σ h_x1 h_x2 h_x3 g5 zlI_1 hc
      refine ⟨ret, er, ?_⟩
      exact (zs_sumw hr (fun v w => ⟨w.1, w.2⟩) (fun v w => w.elim))
    · skip
      have r9 := (zs_I_eqn c6)
      have g10 : zs_in (t_6).toInt 1 1 := (zs_nel 1 1 r9 pt_6 zlI_0 (by decide))
      obtain ⟨ret, er, hr⟩ := zb_59 h_σ h_x1 h_x2 h_x3 g5 hc
      refine ⟨ret, er, ?_⟩
      exact (zs_sumw hr (fun v w => ⟨w.1, w.2⟩) (fun v w => w.elim))
-- BX9_goMinute_26
theorem zb_61 {σ0 : sn_S} {σ : sn_S} (h_σ : zs_N σ0 σ) {x1 : Int32} (h_x1 : zs_in x1.toInt 0 0) {x2 : Int32} (h_x2 : zs_in x2.toInt 0 0) {x3 : Int32} (h_x3 : zs_in x3.toInt 0 6) {c : Int} (hc : x3.toInt = c + 0) : zs_ok (BX9_goMinute_26 σ x1 x2 x3) (fun r => zs_sum (fun v => ((zs_N σ0 v.1 ∧ zs_in (v.2).toInt 1 6)) ∧ v.2.toInt = c + 1) (fun v => zs_N σ0 v) r) := by
  unfold BX9_goMinute_26
  obtain rfl : x1 = (0 : Int32) := zs_eqv h_x1 (by decide)
  obtain rfl : x2 = (0 : Int32) := zs_eqv h_x2 (by decide)
  refine zs_gd (zs_gin zlI_5 (by decide)) ?_
  refine zs_ite (fun c1 => ?_) (fun c1 => ?_)
  · skip
    have r2 := (zs_I_le c1)
    exact zs_some (zs_inr (h_σ))
  · skip
    have r3 := (zs_I_len c1)
    have g4 : zs_in (x3).toInt 0 5 := (zs_ltl 0 5 r3 h_x3 (zs_rdk (q := 1) (k := (5 : Int32).toNatClampNeg) (z := (0, 6)) h_σ.1 rfl) (by decide))
    have g5 : zs_in ((sn_I σ 1 (5 : Int32).toNatClampNeg)).toInt 1 6 := (zs_ltr 1 6 r3 h_x3 (zs_rdk (q := 1) (k := (5 : Int32).toNatClampNeg) (z := (0, 6)) h_σ.1 rfl) (by decide))
    refine zs_bd_ (zb_49 h_σ g4 h_x2) (fun t_3 pt_3 => ?_)
    refine zs_lt (Q := fun z => True) trivial (fun y_5 hy_5 => ?_)
    refine zs_gd (zs_gin (zs_addI 11 21 zlI_11 (zs_mulI 0 10 zlI_2 g4 (by decide)) (by decide)) (by decide)) ?_
    refine zs_gd (zs_gin h_x1 (by decide)) ?_
    refine zs_gd (zs_gin g4 (by decide)) ?_
    refine zs_bd_ (zb_50 h_x1) (fun t_10 pt_10 => ?_)
    refine zs_lt (Q := fun z => True) trivial (fun y_12 hy_12 => ?_)
    refine zs_ite (fun c6 => ?_) (fun c6 => ?_)
    · skip
      have r7 := (zs_I_eq c6)
      obtain ⟨ret, er, hr⟩ := zb_60 h_σ h_x1 h_x2 g4 zlI_0 hc
      refine ⟨ret, er, ?_⟩
      exact (zs_sumw hr (fun v w => ⟨w.1, w.2⟩) (fun v w => w.elim))
    · skip
      have r8 := (zs_I_eqn c6)
      exact (zs_botne r8 h_x1 zlI_0 (by decide)).elim
theorem ze_11 {σ0 : sn_S} {x1 : Int32} (h_x1 : zs_in x1.toInt 0 0) {x2 : Int32} (h_x2 : zs_in x2.toInt 0 0) {s0 : (sn_S × Int32)} (h0 : (zs_N σ0 s0.1 ∧ zs_in (s0.2).toInt 0 6)) : zs_ok (sn_it (LX9_goMinute_26 x1 x2) 5000 s0) (fun t => zs_N σ0 t) := by
  refine zs_it (I := fun s => (zs_N σ0 s.1 ∧ zs_in (s.2).toInt 0 6)) (m := fun s => 6 - s.2.toInt) (fun s hs => ?_) (fun s hs => ?_) (by exact h0)
  · have h1 := hs.2; unfold zs_in at h1
    omega
  · obtain ⟨b, eb, hb⟩ := zb_61 hs.1 h_x1 h_x2 hs.2 (c := s.2.toInt) (Int.add_zero _).symm
    exact ⟨b, eb, zs_sumw hb (fun v w => ⟨⟨w.1.1, (zs_w w.1.2 (by decide))⟩, by have := w.2; omega⟩) (fun v w => w)⟩
-- BX9_goMinute_231
theorem zb_62 {σ0 : sn_S} {σ : sn_S} (h_σ : zs_N σ0 σ) : zs_ok (BX9_goMinute_231 σ) (fun r => zs_N σ0 r) := by
  unfold BX9_goMinute_231
  exact zs_some h_σ
-- BX9_goMinute_23
theorem zb_63 {σ0 : sn_S} {σ : sn_S} (h_σ : zs_N σ0 σ) {x1 : Int32} (h_x1 : zs_in x1.toInt 0 0) {t0 : Int32} (h_t0 : zs_in t0.toInt 0 0) : zs_ok (BX9_goMinute_23 σ x1 t0) (fun r => zs_N σ0 r) := by
  unfold BX9_goMinute_23
  obtain rfl : x1 = (0 : Int32) := zs_eqv h_x1 (by decide)
  obtain rfl : t0 = (0 : Int32) := zs_eqv h_t0 (by decide)
  refine zs_bd_ (ze_11 h_x1 h_t0 (s0 := (σ, (0 : Int32))) ⟨h_σ, (zs_w zlI_0 (by decide))⟩) (fun t_1 pt_1 => ?_)
  obtain ⟨ret, er, hr⟩ := zb_62 pt_1
  refine ⟨ret, er, ?_⟩
  exact hr
-- BX9_netsTo_91
theorem zb_64 {σ0 : sn_S} {σ : sn_S} (h_σ : zs_N σ0 σ) {x1 : Int32} (h_x1 : zs_in x1.toInt 0 5) {x2 : Int32} {x3 : Int32} {x4 : Int32} (h_x4 : zs_in x4.toInt 0 7) {c : Int} (hc : x4.toInt = c + 0) : zs_ok (BX9_netsTo_91 σ x1 x2 x3 x4) (fun r => zs_sum (fun v => ((True ∧ zs_in (v.2).toInt 1 8)) ∧ v.2.toInt = c + 1) (fun v => False) r) := by
  unfold BX9_netsTo_91
  refine zs_lt (Q := fun z => zs_in z.toInt 1 8 ∧ z.toInt = c + 1) ⟨(zs_addI 1 8 h_x4 zlI_1 (by decide)), (zs_syI 1 hc h_x4 zlI_1 (by decide) (by decide))⟩ (fun y_1 hy_1 => ?_)
  exact zs_some (zs_inl ⟨⟨trivial, hy_1.1⟩, hy_1.2⟩)
-- fX9_bit
theorem zb_65 {x0 : Int32} {x1 : Int32} (h_x1 : zs_in x1.toInt 0 5) : zs_ok (fX9_bit x0 x1) (fun r => zs_in (r).toInt 0 1) := by
  unfold fX9_bit
  exact zs_some (zs_and zlI_1 (by decide))
-- BX9_netsTo_88
theorem zb_66 {σ0 : sn_S} {σ : sn_S} (h_σ : zs_N σ0 σ) {x1 : Int32} (h_x1 : zs_in x1.toInt 0 5) {x2 : Int32} {x3 : Int32} {x4 : Int32} (h_x4 : zs_in x4.toInt 0 7) {c : Int} (hc : x4.toInt = c + 0) : zs_ok (BX9_netsTo_88 σ x1 x2 x3 x4) (fun r => zs_sum (fun v => ((True ∧ zs_in (v.2).toInt 1 8)) ∧ v.2.toInt = c + 1) (fun v => False) r) := by
  unfold BX9_netsTo_88
  refine zs_lt (Q := fun z => True) trivial (fun y_1 hy_1 => ?_)
  obtain ⟨ret, er, hr⟩ := zb_64 h_σ h_x1 h_x4 hc
  refine ⟨ret, er, ?_⟩
  exact (zs_sumw hr (fun v w => ⟨w.1, w.2⟩) (fun v w => w.elim))
-- BX9_netsTo_72
theorem zb_67 {σ0 : sn_S} {σ : sn_S} (h_σ : zs_N σ0 σ) {x1 : Int32} (h_x1 : zs_in x1.toInt 0 5) {x2 : Int32} {x3 : Int32} {x4 : Int32} (h_x4 : zs_in x4.toInt 0 7) {x5 : Int32} (h_x5 : zs_in x5.toInt 0 5) {x6 : Int32} (h_x6 : zs_in x6.toInt 0 5) {c : Int} (hc : x4.toInt = c + 0) : zs_ok (BX9_netsTo_72 σ x1 x2 x3 x4 x5 x6) (fun r => zs_sum (fun v => ((True ∧ zs_in (v.2).toInt 1 8)) ∧ v.2.toInt = c + 1) (fun v => False) r) := by
  unfold BX9_netsTo_72
  refine zs_ite (fun c1 => ?_) (fun c1 => ?_)
  · skip
    have r2 := (zs_I_eq c1)
    refine zs_bd_ (zb_65 h_x5) (fun t_2 pt_2 => ?_)
    refine zs_ite (fun c3 => ?_) (fun c3 => ?_)
    · skip
      have r4 := (zs_I_eq c3)
      have g5 : zs_in (t_2).toInt 1 1 := (zs_eql 1 1 r4 pt_2 zlI_1 (by decide))
      obtain ⟨ret, er, hr⟩ := zb_66 h_σ h_x1 h_x4 hc
      refine ⟨ret, er, ?_⟩
      exact (zs_sumw hr (fun v w => ⟨w.1, w.2⟩) (fun v w => w.elim))
    · skip
      have r6 := (zs_I_eqn c3)
      have g7 : zs_in (t_2).toInt 0 0 := (zs_neh 0 0 r6 pt_2 zlI_1 (by decide))
      obtain ⟨ret, er, hr⟩ := zb_64 h_σ h_x1 h_x4 hc
      refine ⟨ret, er, ?_⟩
      exact (zs_sumw hr (fun v w => ⟨w.1, w.2⟩) (fun v w => w.elim))
  · skip
    have r8 := (zs_I_eqn c1)
    obtain ⟨ret, er, hr⟩ := zb_64 h_σ h_x1 h_x4 hc
    refine ⟨ret, er, ?_⟩
    exact (zs_sumw hr (fun v w => ⟨w.1, w.2⟩) (fun v w => w.elim))
-- BX9_netsTo_5
theorem zb_68 {σ0 : sn_S} {σ : sn_S} (h_σ : zs_N σ0 σ) {x1 : Int32} (h_x1 : zs_in x1.toInt 0 5) {x2 : Int32} {x3 : Int32} {x4 : Int32} (h_x4 : zs_in x4.toInt 0 8) {c : Int} (hc : x4.toInt = c + 0) : zs_ok (BX9_netsTo_5 σ x1 x2 x3 x4) (fun r => zs_sum (fun v => ((True ∧ zs_in (v.2).toInt 1 8)) ∧ v.2.toInt = c + 1) (fun v => True) r) := by
  unfold BX9_netsTo_5
  refine zs_gd (zs_gin zlI_7 (by decide)) ?_
  refine zs_ite (fun c1 => ?_) (fun c1 => ?_)
  · skip
    have r2 := (zs_I_le c1)
    exact zs_some (zs_inr (trivial))
  · skip
    have r3 := (zs_I_len c1)
    have g4 : zs_in (x4).toInt 0 7 := (zs_ltl 0 7 r3 h_x4 (zs_rdk (q := 1) (k := (7 : Int32).toNatClampNeg) (z := (0, 8)) h_σ.1 rfl) (by decide))
    have g5 : zs_in ((sn_I σ 1 (7 : Int32).toNatClampNeg)).toInt 1 8 := (zs_ltr 1 8 r3 h_x4 (zs_rdk (q := 1) (k := (7 : Int32).toNatClampNeg) (z := (0, 8)) h_σ.1 rfl) (by decide))
    refine zs_gd (zs_gin (zs_addI 33 47 zlI_33 (zs_mulI 0 14 zlI_2 g4 (by decide)) (by decide)) (by decide)) ?_
    refine zs_lt (Q := fun z => zs_in z.toInt 0 5) (zs_rdb (q := 1) (lo := 0) (hi := 5) h_σ.1 (zs_cases g4 (fun z => zs_bd (zs_tM 1 ((33 : Int32) + ((2 : Int32) * z)).toNatClampNeg) 0 5) (by decide +kernel))) (fun y_4 hy_4 => ?_)
    refine zs_gd (zs_gin (zs_addI 34 48 (zs_addI 33 47 zlI_33 (zs_mulI 0 14 zlI_2 g4 (by decide)) (by decide)) zlI_1 (by decide)) (by decide)) ?_
    refine zs_lt (Q := fun z => zs_in z.toInt 0 5) (zs_rdb (q := 1) (lo := 0) (hi := 5) h_σ.1 (zs_cases g4 (fun z => zs_bd (zs_tM 1 (((33 : Int32) + ((2 : Int32) * z)) + (1 : Int32)).toNatClampNeg) 0 5) (by decide +kernel))) (fun y_7 hy_7 => ?_)
    refine zs_ite (fun c6 => ?_) (fun c6 => ?_)
    · skip
      have r7 := (zs_I_eq c6)
      have g8 : zs_in ((sn_I σ 0 19)).toInt 0 7 := (zs_eqr 0 7 r7 g4 (zs_topI _) (by decide))
      obtain ⟨ret, er, hr⟩ := zb_64 h_σ h_x1 g4 hc
      refine ⟨ret, er, ?_⟩
      exact (zs_sumw hr (fun v w => ⟨w.1, w.2⟩) (fun v w => w.elim))
    · skip
      have r9 := (zs_I_eqn c6)
      refine zs_ite (fun c10 => ?_) (fun c10 => ?_)
      · skip
        have r11 := (zs_I_eq c10)
        refine zs_bd_ (zb_65 hy_7) (fun t_11 pt_11 => ?_)
        refine zs_ite (fun c12 => ?_) (fun c12 => ?_)
        · skip
          have r13 := (zs_I_eq c12)
          have g14 : zs_in (t_11).toInt 1 1 := (zs_eql 1 1 r13 pt_11 zlI_1 (by decide))
          obtain ⟨ret, er, hr⟩ := zb_66 h_σ h_x1 g4 hc
          refine ⟨ret, er, ?_⟩
          exact (zs_sumw hr (fun v w => ⟨w.1, w.2⟩) (fun v w => w.elim))
        · skip
          have r15 := (zs_I_eqn c12)
          have g16 : zs_in (t_11).toInt 0 0 := (zs_neh 0 0 r15 pt_11 zlI_1 (by decide))
          obtain ⟨ret, er, hr⟩ := zb_67 h_σ h_x1 g4 hy_4 hy_7 hc
          refine ⟨ret, er, ?_⟩
          exact (zs_sumw hr (fun v w => ⟨w.1, w.2⟩) (fun v w => w.elim))
      · skip
        have r17 := (zs_I_eqn c10)
        obtain ⟨ret, er, hr⟩ := zb_67 h_σ h_x1 g4 hy_4 hy_7 hc
        refine ⟨ret, er, ?_⟩
        exact (zs_sumw hr (fun v w => ⟨w.1, w.2⟩) (fun v w => w.elim))
theorem ze_12 {σ0 : sn_S} {σ : sn_S} (h_σ : zs_N σ0 σ) {x1 : Int32} (h_x1 : zs_in x1.toInt 0 5) {x2 : Int32} {s0 : (Int32 × Int32)} (h0 : (True ∧ zs_in (s0.2).toInt 0 8)) : zs_ok (sn_it (LX9_netsTo_5 σ x1 x2) 5000 s0) (fun t => True) := by
  refine zs_it (I := fun s => (True ∧ zs_in (s.2).toInt 0 8)) (m := fun s => 8 - s.2.toInt) (fun s hs => ?_) (fun s hs => ?_) (by exact h0)
  · have h1 := hs.2; unfold zs_in at h1
    omega
  · obtain ⟨b, eb, hb⟩ := zb_68 h_σ h_x1 hs.2 (c := s.2.toInt) (Int.add_zero _).symm
    exact ⟨b, eb, zs_sumw hb (fun v w => ⟨⟨w.1.1, (zs_w w.1.2 (by decide))⟩, by have := w.2; omega⟩) (fun v w => w)⟩
-- fX9_netsTo
theorem zb_69 {σ0 : sn_S} {σ : sn_S} (h_σ : zs_N σ0 σ) {x1 : Int32} (h_x1 : zs_in x1.toInt 0 5) {x2 : Int32} : zs_ok (fX9_netsTo σ x1 x2) (fun r => True) := by
  unfold fX9_netsTo
  refine zs_bd_ (ze_12 h_σ h_x1 (s0 := ((0 : Int32), (0 : Int32))) ⟨trivial, (zs_w zlI_0 (by decide))⟩) (fun t_1 pt_1 => ?_)
  obtain ⟨ret, er, hr⟩ := zb_48 h_σ
  refine ⟨ret, er, ?_⟩
  exact hr
-- fX9_bit
theorem zb_70 {x0 : Int32} {x1 : Int32} (h_x1 : zs_in x1.toInt 1 29) : zs_ok (fX9_bit x0 x1) (fun r => zs_in (r).toInt 0 1) := by
  unfold fX9_bit
  exact zs_some (zs_and zlI_1 (by decide))
-- BX9_goMinute_225
theorem zb_71 {σ0 : sn_S} {σ : sn_S} (h_σ : zs_N σ0 σ) {x1 : Int32} (h_x1 : zs_in x1.toInt 1 29) {x2 : Int32} {x3 : Int32} (h_x3 : zs_in x3.toInt 0 5) {c : Int} (hc : x3.toInt = c + 0) : zs_ok (BX9_goMinute_225 σ x1 x2 x3) (fun r => zs_sum (fun v => ((zs_N σ0 v.1 ∧ zs_in (v.2).toInt 1 6)) ∧ v.2.toInt = c + 1) (fun v => False) r) := by
  unfold BX9_goMinute_225
  refine zs_lt (Q := fun z => zs_in z.toInt 1 6 ∧ z.toInt = c + 1) ⟨(zs_addI 1 6 h_x3 zlI_1 (by decide)), (zs_syI 1 hc h_x3 zlI_1 (by decide) (by decide))⟩ (fun y_1 hy_1 => ?_)
  exact zs_some (zs_inl ⟨⟨h_σ, hy_1.1⟩, hy_1.2⟩)
-- BX9_goMinute_192
theorem zb_72 {σ0 : sn_S} {σ : sn_S} (h_σ : zs_N σ0 σ) {x1 : Int32} (h_x1 : zs_in x1.toInt 1 29) {x2 : Int32} {x3 : Int32} (h_x3 : zs_in x3.toInt 0 5) {x7 : Int32} (h_x7 : zs_in x7.toInt 0 0) {t1 : Int32} (h_t1 : zs_in t1.toInt 6 179) {t2 : Int32} (h_t2 : zs_in t2.toInt (-2147483648) 98) {c : Int} (hc : x3.toInt = c + 0) : zs_ok (BX9_goMinute_192 σ x1 x2 x3 x7 t1 t2) (fun r => zs_sum (fun v => ((zs_N σ0 v.1 ∧ zs_in (v.2).toInt 1 6)) ∧ v.2.toInt = c + 1) (fun v => False) r) := by
  unfold BX9_goMinute_192
  obtain rfl : x7 = (0 : Int32) := zs_eqv h_x7 (by decide)
  refine zs_gd (zs_gin h_t1 (by decide)) ?_
  refine zs_lt (Q := fun z => zs_N σ0 z) (zs_wrt h_σ (fun _ => rfl) (fun _ => rfl)) (fun σ_2 hσ_2 => ?_)
  refine zs_ite (fun c1 => ?_) (fun c1 => ?_)
  · skip
    have r2 := (zs_I_eq c1)
    obtain ⟨ret, er, hr⟩ := zb_71 hσ_2 h_x1 h_x3 hc
    refine ⟨ret, er, ?_⟩
    exact (zs_sumw hr (fun v w => ⟨w.1, w.2⟩) (fun v w => w.elim))
  · skip
    have r3 := (zs_I_eqn c1)
    exact (zs_botne r3 h_x7 zlI_0 (by decide)).elim
-- BX9_goMinute_145
theorem zb_73 {σ0 : sn_S} {σ : sn_S} (h_σ : zs_N σ0 σ) {x1 : Int32} (h_x1 : zs_in x1.toInt 1 29) {x2 : Int32} {x3 : Int32} (h_x3 : zs_in x3.toInt 0 5) {x4 : Int32} {x5 : Int32} {x6 : Int32} (h_x6 : zs_in x6.toInt (-2147483648) 98) {t0 : Int32} (h_t0 : zs_in t0.toInt 0 0) {c : Int} (hc : x3.toInt = c + 0) : zs_ok (BX9_goMinute_145 σ x1 x2 x3 x4 x5 x6 t0) (fun r => zs_sum (fun v => ((zs_N σ0 v.1 ∧ zs_in (v.2).toInt 1 6)) ∧ v.2.toInt = c + 1) (fun v => False) r) := by
  unfold BX9_goMinute_145
  obtain rfl : t0 = (0 : Int32) := zs_eqv h_t0 (by decide)
  refine zs_gd (zs_gin h_x3 (by decide)) ?_
  refine zs_gd (zs_gin h_x3 (by decide)) ?_
  refine zs_lt (Q := fun z => zs_N σ0 z) (zs_wrt h_σ (fun _ => rfl) (fun _ => rfl)) (fun σ_3 hσ_3 => ?_)
  refine zs_gd (zs_gin (zs_addI 6 179 (zs_mulI 6 174 zlI_6 h_x1 (by decide)) h_x3 (by decide)) (by decide)) ?_
  refine zs_lt (Q := fun z => zs_N σ0 z) (zs_wrt hσ_3 (fun _ => rfl) (fun _ => rfl)) (fun σ_6 hσ_6 => ?_)
  refine zs_ite (fun c1 => ?_) (fun c1 => ?_)
  · skip
    have r2 := (zs_I_eq c1)
    obtain ⟨ret, er, hr⟩ := zb_72 hσ_6 h_x1 h_x3 h_t0 (zs_addI 6 179 (zs_mulI 6 174 zlI_6 h_x1 (by decide)) h_x3 (by decide)) h_x6 hc
    refine ⟨ret, er, ?_⟩
    exact (zs_sumw hr (fun v w => ⟨w.1, w.2⟩) (fun v w => w.elim))
  · skip
    have r3 := (zs_I_eqn c1)
    exact (zs_botne r3 h_t0 zlI_0 (by decide)).elim
-- BX9_goMinute_144
theorem zb_74 {σ0 : sn_S} {σ : sn_S} (h_σ : zs_N σ0 σ) {x1 : Int32} (h_x1 : zs_in x1.toInt 1 29) {x2 : Int32} {x3 : Int32} (h_x3 : zs_in x3.toInt 0 5) {x4 : Int32} {x5 : Int32} {x6 : Int32} (h_x6 : zs_in x6.toInt (-2147483648) 98) {c : Int} (hc : x3.toInt = c + 0) : zs_ok (BX9_goMinute_144 σ x1 x2 x3 x4 x5 x6) (fun r => zs_sum (fun v => ((zs_N σ0 v.1 ∧ zs_in (v.2).toInt 1 6)) ∧ v.2.toInt = c + 1) (fun v => False) r) := by
  unfold BX9_goMinute_144
  obtain ⟨ret, er, hr⟩ := zb_73 h_σ h_x1 h_x3 h_x6 zlI_0 hc
  refine ⟨ret, er, ?_⟩
  exact (zs_sumw hr (fun v w => ⟨w.1, w.2⟩) (fun v w => w.elim))
-- BX9_goMinute_192
theorem zb_75 {σ0 : sn_S} {σ : sn_S} (h_σ : zs_N σ0 σ) {x1 : Int32} (h_x1 : zs_in x1.toInt 1 29) {x2 : Int32} {x3 : Int32} (h_x3 : zs_in x3.toInt 0 5) {x7 : Int32} (h_x7 : zs_in x7.toInt 1 1) {t1 : Int32} (h_t1 : zs_in t1.toInt 6 179) {t2 : Int32} (h_t2 : zs_in t2.toInt 0 0) {c : Int} (hc : x3.toInt = c + 0) : zs_ok (BX9_goMinute_192 σ x1 x2 x3 x7 t1 t2) (fun r => zs_sum (fun v => ((zs_N σ0 v.1 ∧ zs_in (v.2).toInt 1 6)) ∧ v.2.toInt = c + 1) (fun v => False) r) := by
  unfold BX9_goMinute_192
  obtain rfl : x7 = (1 : Int32) := zs_eqv h_x7 (by decide)
  obtain rfl : t2 = (0 : Int32) := zs_eqv h_t2 (by decide)
  refine zs_gd (zs_gin h_t1 (by decide)) ?_
  refine zs_lt (Q := fun z => zs_N σ0 z) (zs_wrt h_σ (fun _ => rfl) (fun _ => rfl)) (fun σ_2 hσ_2 => ?_)
  refine zs_ite (fun c1 => ?_) (fun c1 => ?_)
  · skip
    have r2 := (zs_I_eq c1)
    exact (zs_botr r2 h_x7 zlI_0 (by decide)).elim
  · skip
    have r3 := (zs_I_eqn c1)
    refine zs_gd (zs_gin h_x1 (by decide)) ?_
    refine zs_gd (zs_gin h_x1 (by decide)) ?_
    refine zs_lt (Q := fun z => zs_N σ0 z) (zs_wrt hσ_2 (fun _ => rfl) (fun _ => rfl)) (fun σ_7 hσ_7 => ?_)
    refine zs_gd (zs_gin h_x3 (by decide)) ?_
    refine zs_gd (zs_gin h_x3 (by decide)) ?_
    refine zs_lt (Q := fun z => zs_N σ0 z) (zs_wru (z := (0, 1073741823)) hσ_7 (fun _ => rfl) (zs_or 30 1073741823 (zs_rdu (q := 10) (z := (0, 1073741823)) hσ_7.1 (fun _ => rfl)) (zs_cases h_x1 (fun z => zs_in ((1 : Int32) <<< (z &&& 31)).toInt 2 536870912) (by decide +kernel)) (by decide)) (by decide) (fun _ => rfl)) (fun σ_11 hσ_11 => ?_)
    obtain ⟨ret, er, hr⟩ := zb_71 hσ_11 h_x1 h_x3 hc
    refine ⟨ret, er, ?_⟩
    exact (zs_sumw hr (fun v w => ⟨w.1, w.2⟩) (fun v w => w.elim))
-- BX9_goMinute_145
theorem zb_76 {σ0 : sn_S} {σ : sn_S} (h_σ : zs_N σ0 σ) {x1 : Int32} (h_x1 : zs_in x1.toInt 1 29) {x2 : Int32} {x3 : Int32} (h_x3 : zs_in x3.toInt 0 5) {x4 : Int32} {x5 : Int32} {x6 : Int32} (h_x6 : zs_in x6.toInt 0 2147483647) {t0 : Int32} (h_t0 : zs_in t0.toInt 1 1) {c : Int} (hc : x3.toInt = c + 0) : zs_ok (BX9_goMinute_145 σ x1 x2 x3 x4 x5 x6 t0) (fun r => zs_sum (fun v => ((zs_N σ0 v.1 ∧ zs_in (v.2).toInt 1 6)) ∧ v.2.toInt = c + 1) (fun v => False) r) := by
  unfold BX9_goMinute_145
  obtain rfl : t0 = (1 : Int32) := zs_eqv h_t0 (by decide)
  refine zs_gd (zs_gin h_x3 (by decide)) ?_
  refine zs_gd (zs_gin h_x3 (by decide)) ?_
  refine zs_lt (Q := fun z => zs_N σ0 z) (zs_wrt h_σ (fun _ => rfl) (fun _ => rfl)) (fun σ_3 hσ_3 => ?_)
  refine zs_gd (zs_gin (zs_addI 6 179 (zs_mulI 6 174 zlI_6 h_x1 (by decide)) h_x3 (by decide)) (by decide)) ?_
  refine zs_lt (Q := fun z => zs_N σ0 z) (zs_wrt hσ_3 (fun _ => rfl) (fun _ => rfl)) (fun σ_6 hσ_6 => ?_)
  refine zs_ite (fun c1 => ?_) (fun c1 => ?_)
  · skip
    have r2 := (zs_I_eq c1)
    exact (zs_botr r2 h_t0 zlI_0 (by decide)).elim
  · skip
    have r3 := (zs_I_eqn c1)
    obtain ⟨ret, er, hr⟩ := zb_75 hσ_6 h_x1 h_x3 h_t0 (zs_addI 6 179 (zs_mulI 6 174 zlI_6 h_x1 (by decide)) h_x3 (by decide)) zlI_0 hc
    refine ⟨ret, er, ?_⟩
    exact (zs_sumw hr (fun v w => ⟨w.1, w.2⟩) (fun v w => w.elim))
-- BX9_goMinute_192
theorem zb_77 {σ0 : sn_S} {σ : sn_S} (h_σ : zs_N σ0 σ) {x1 : Int32} (h_x1 : zs_in x1.toInt 1 29) {x2 : Int32} {x3 : Int32} (h_x3 : zs_in x3.toInt 0 5) {x7 : Int32} (h_x7 : zs_in x7.toInt 0 0) {t1 : Int32} (h_t1 : zs_in t1.toInt 6 179) {t2 : Int32} (h_t2 : zs_in t2.toInt 0 2147483647) {c : Int} (hc : x3.toInt = c + 0) : zs_ok (BX9_goMinute_192 σ x1 x2 x3 x7 t1 t2) (fun r => zs_sum (fun v => ((zs_N σ0 v.1 ∧ zs_in (v.2).toInt 1 6)) ∧ v.2.toInt = c + 1) (fun v => False) r) := by
  unfold BX9_goMinute_192
  obtain rfl : x7 = (0 : Int32) := zs_eqv h_x7 (by decide)
  refine zs_gd (zs_gin h_t1 (by decide)) ?_
  refine zs_lt (Q := fun z => zs_N σ0 z) (zs_wrt h_σ (fun _ => rfl) (fun _ => rfl)) (fun σ_2 hσ_2 => ?_)
  refine zs_ite (fun c1 => ?_) (fun c1 => ?_)
  · skip
    have r2 := (zs_I_eq c1)
    obtain ⟨ret, er, hr⟩ := zb_71 hσ_2 h_x1 h_x3 hc
    refine ⟨ret, er, ?_⟩
    exact (zs_sumw hr (fun v w => ⟨w.1, w.2⟩) (fun v w => w.elim))
  · skip
    have r3 := (zs_I_eqn c1)
    exact (zs_botne r3 h_x7 zlI_0 (by decide)).elim
-- BX9_goMinute_145
theorem zb_78 {σ0 : sn_S} {σ : sn_S} (h_σ : zs_N σ0 σ) {x1 : Int32} (h_x1 : zs_in x1.toInt 1 29) {x2 : Int32} {x3 : Int32} (h_x3 : zs_in x3.toInt 0 5) {x4 : Int32} {x5 : Int32} {x6 : Int32} (h_x6 : zs_in x6.toInt 0 2147483647) {t0 : Int32} (h_t0 : zs_in t0.toInt 0 0) {c : Int} (hc : x3.toInt = c + 0) : zs_ok (BX9_goMinute_145 σ x1 x2 x3 x4 x5 x6 t0) (fun r => zs_sum (fun v => ((zs_N σ0 v.1 ∧ zs_in (v.2).toInt 1 6)) ∧ v.2.toInt = c + 1) (fun v => False) r) := by
  unfold BX9_goMinute_145
  obtain rfl : t0 = (0 : Int32) := zs_eqv h_t0 (by decide)
  refine zs_gd (zs_gin h_x3 (by decide)) ?_
  refine zs_gd (zs_gin h_x3 (by decide)) ?_
  refine zs_lt (Q := fun z => zs_N σ0 z) (zs_wrt h_σ (fun _ => rfl) (fun _ => rfl)) (fun σ_3 hσ_3 => ?_)
  refine zs_gd (zs_gin (zs_addI 6 179 (zs_mulI 6 174 zlI_6 h_x1 (by decide)) h_x3 (by decide)) (by decide)) ?_
  refine zs_lt (Q := fun z => zs_N σ0 z) (zs_wrt hσ_3 (fun _ => rfl) (fun _ => rfl)) (fun σ_6 hσ_6 => ?_)
  refine zs_ite (fun c1 => ?_) (fun c1 => ?_)
  · skip
    have r2 := (zs_I_eq c1)
    obtain ⟨ret, er, hr⟩ := zb_77 hσ_6 h_x1 h_x3 h_t0 (zs_addI 6 179 (zs_mulI 6 174 zlI_6 h_x1 (by decide)) h_x3 (by decide)) h_x6 hc
    refine ⟨ret, er, ?_⟩
    exact (zs_sumw hr (fun v w => ⟨w.1, w.2⟩) (fun v w => w.elim))
  · skip
    have r3 := (zs_I_eqn c1)
    exact (zs_botne r3 h_t0 zlI_0 (by decide)).elim
-- BX9_goMinute_144
theorem zb_79 {σ0 : sn_S} {σ : sn_S} (h_σ : zs_N σ0 σ) {x1 : Int32} (h_x1 : zs_in x1.toInt 1 29) {x2 : Int32} {x3 : Int32} (h_x3 : zs_in x3.toInt 0 5) {x4 : Int32} {x5 : Int32} {x6 : Int32} (h_x6 : zs_in x6.toInt 0 2147483647) {c : Int} (hc : x3.toInt = c + 0) : zs_ok (BX9_goMinute_144 σ x1 x2 x3 x4 x5 x6) (fun r => zs_sum (fun v => ((zs_N σ0 v.1 ∧ zs_in (v.2).toInt 1 6)) ∧ v.2.toInt = c + 1) (fun v => False) r) := by
  unfold BX9_goMinute_144
  obtain ⟨ret, er, hr⟩ := zb_78 h_σ h_x1 h_x3 h_x6 zlI_0 hc
  refine ⟨ret, er, ?_⟩
  exact (zs_sumw hr (fun v w => ⟨w.1, w.2⟩) (fun v w => w.elim))
-- BX9_goMinute_104
theorem zb_80 {σ0 : sn_S} {σ : sn_S} (h_σ : zs_N σ0 σ) {x1 : Int32} (h_x1 : zs_in x1.toInt 1 29) {x2 : Int32} {x3 : Int32} (h_x3 : zs_in x3.toInt 0 5) {x4 : Int32} {x5 : Int32} {t0 : Int32} {c : Int} (hc : x3.toInt = c + 0) : zs_ok (BX9_goMinute_104 σ x1 x2 x3 x4 x5 t0) (fun r => zs_sum (fun v => ((zs_N σ0 v.1 ∧ zs_in (v.2).toInt 1 6)) ∧ v.2.toInt = c + 1) (fun v => False) r) := by
  unfold BX9_goMinute_104
  refine zs_lt (Q := fun z => True) trivial (fun y_1 hy_1 => ?_)
  refine zs_gd (zs_gin (zs_addI 12 22 (zs_addI 11 21 zlI_11 (zs_mulI 0 10 zlI_2 h_x3 (by decide)) (by decide)) zlI_1 (by decide)) (by decide)) ?_
  refine zs_ite (fun c1 => ?_) (fun c1 => ?_)
  · skip
    have r2 := (zs_I_lt c1)
    have g3 : zs_in (y_1).toInt (-2147483648) 98 := (zs_ltl (-2147483648) 98 r2 (zs_topI _) (zs_rdb (q := 1) (lo := 0) (hi := 99) h_σ.1 (zs_cases h_x3 (fun z => zs_bd (zs_tM 1 (((11 : Int32) + ((2 : Int32) * z)) + (1 : Int32)).toNatClampNeg) 0 99) (by decide +kernel))) (by decide))
    obtain ⟨ret, er, hr⟩ := zb_74 h_σ h_x1 h_x3 g3 hc
    refine ⟨ret, er, ?_⟩
    exact (zs_sumw hr (fun v w => ⟨w.1, w.2⟩) (fun v w => w.elim))
  · skip
    have r4 := (zs_I_ltn c1)
    have g5 : zs_in (y_1).toInt 0 2147483647 := (zs_ler 0 2147483647 r4 (zs_rdb (q := 1) (lo := 0) (hi := 99) h_σ.1 (zs_cases h_x3 (fun z => zs_bd (zs_tM 1 (((11 : Int32) + ((2 : Int32) * z)) + (1 : Int32)).toNatClampNeg) 0 99) (by decide +kernel))) (zs_topI _) (by decide))
    refine zs_gd (zs_gin h_x3 (by decide)) ?_
    refine zs_bd_ (zb_70 h_x1) (fun t_6 pt_6 => ?_)
    refine zs_ite (fun c6 => ?_) (fun c6 => ?_)
    · skip
      have r7 := (zs_I_eq c6)
      have g8 : zs_in (t_6).toInt 0 0 := (zs_eql 0 0 r7 pt_6 zlI_0 (by decide))
      obtain ⟨ret, er, hr⟩ := zb_76 h_σ h_x1 h_x3 g5 zlI_1 hc
      refine ⟨ret, er, ?_⟩
      exact (zs_sumw hr (fun v w => ⟨w.1, w.2⟩) (fun v w => w.elim))
    · skip
      have r9 := (zs_I_eqn c6)
      have g10 : zs_in (t_6).toInt 1 1 := (zs_nel 1 1 r9 pt_6 zlI_0 (by decide))
      obtain ⟨ret, er, hr⟩ := zb_79 h_σ h_x1 h_x3 g5 hc
      refine ⟨ret, er, ?_⟩
      exact (zs_sumw hr (fun v w => ⟨w.1, w.2⟩) (fun v w => w.elim))
-- BX9_goMinute_26
theorem zb_81 {σ0 : sn_S} {σ : sn_S} (h_σ : zs_N σ0 σ) {x1 : Int32} (h_x1 : zs_in x1.toInt 1 29) {x2 : Int32} {x3 : Int32} (h_x3 : zs_in x3.toInt 0 6) {c : Int} (hc : x3.toInt = c + 0) : zs_ok (BX9_goMinute_26 σ x1 x2 x3) (fun r => zs_sum (fun v => ((zs_N σ0 v.1 ∧ zs_in (v.2).toInt 1 6)) ∧ v.2.toInt = c + 1) (fun v => zs_N σ0 v) r) := by
  unfold BX9_goMinute_26
  refine zs_gd (zs_gin zlI_5 (by decide)) ?_
  refine zs_ite (fun c1 => ?_) (fun c1 => ?_)
  · skip
    have r2 := (zs_I_le c1)
    exact zs_some (zs_inr (h_σ))
  · skip
    have r3 := (zs_I_len c1)
    have g4 : zs_in (x3).toInt 0 5 := (zs_ltl 0 5 r3 h_x3 (zs_rdk (q := 1) (k := (5 : Int32).toNatClampNeg) (z := (0, 6)) h_σ.1 rfl) (by decide))
    have g5 : zs_in ((sn_I σ 1 (5 : Int32).toNatClampNeg)).toInt 1 6 := (zs_ltr 1 6 r3 h_x3 (zs_rdk (q := 1) (k := (5 : Int32).toNatClampNeg) (z := (0, 6)) h_σ.1 rfl) (by decide))
    refine zs_bd_ (zb_69 h_σ g4) (fun t_3 pt_3 => ?_)
    refine zs_lt (Q := fun z => True) trivial (fun y_5 hy_5 => ?_)
    refine zs_gd (zs_gin (zs_addI 11 21 zlI_11 (zs_mulI 0 10 zlI_2 g4 (by decide)) (by decide)) (by decide)) ?_
    refine zs_gd (zs_gin h_x1 (by decide)) ?_
    refine zs_gd (zs_gin g4 (by decide)) ?_
    refine zs_bd_ (zb_70 h_x1) (fun t_10 pt_10 => ?_)
    refine zs_lt (Q := fun z => True) trivial (fun y_12 hy_12 => ?_)
    refine zs_ite (fun c6 => ?_) (fun c6 => ?_)
    · skip
      have r7 := (zs_I_eq c6)
      exact (zs_botr r7 h_x1 zlI_0 (by decide)).elim
    · skip
      have r8 := (zs_I_eqn c6)
      refine zs_gd (zs_gin (zs_addI 0 173 (zs_mulI 0 168 zlI_6 (zs_subI 0 28 h_x1 zlI_1 (by decide)) (by decide)) g4 (by decide)) (by decide)) ?_
      obtain ⟨ret, er, hr⟩ := zb_80 h_σ h_x1 g4 hc
      refine ⟨ret, er, ?_⟩
      exact (zs_sumw hr (fun v w => ⟨w.1, w.2⟩) (fun v w => w.elim))
theorem ze_13 {σ0 : sn_S} {x1 : Int32} (h_x1 : zs_in x1.toInt 1 29) {x2 : Int32} {s0 : (sn_S × Int32)} (h0 : (zs_N σ0 s0.1 ∧ zs_in (s0.2).toInt 0 6)) : zs_ok (sn_it (LX9_goMinute_26 x1 x2) 5000 s0) (fun t => zs_N σ0 t) := by
  refine zs_it (I := fun s => (zs_N σ0 s.1 ∧ zs_in (s.2).toInt 0 6)) (m := fun s => 6 - s.2.toInt) (fun s hs => ?_) (fun s hs => ?_) (by exact h0)
  · have h1 := hs.2; unfold zs_in at h1
    omega
  · obtain ⟨b, eb, hb⟩ := zb_81 hs.1 h_x1 hs.2 (c := s.2.toInt) (Int.add_zero _).symm
    exact ⟨b, eb, zs_sumw hb (fun v w => ⟨⟨w.1.1, (zs_w w.1.2 (by decide))⟩, by have := w.2; omega⟩) (fun v w => w)⟩
-- BX9_goMinute_23
theorem zb_82 {σ0 : sn_S} {σ : sn_S} (h_σ : zs_N σ0 σ) {x1 : Int32} (h_x1 : zs_in x1.toInt 1 29) {t0 : Int32} : zs_ok (BX9_goMinute_23 σ x1 t0) (fun r => zs_N σ0 r) := by
  unfold BX9_goMinute_23
  refine zs_bd_ (ze_13 h_x1 (s0 := (σ, (0 : Int32))) ⟨h_σ, (zs_w zlI_0 (by decide))⟩) (fun t_1 pt_1 => ?_)
  obtain ⟨ret, er, hr⟩ := zb_62 pt_1
  refine ⟨ret, er, ?_⟩
  exact hr
-- fX9_goMinute
theorem zb_83 {σ0 : sn_S} {σ : sn_S} (h_σ : zs_N σ0 σ) {x1 : Int32} (h_x1 : zs_in x1.toInt 0 29) : zs_ok (fX9_goMinute σ x1) (fun r => zs_N σ0 r) := by
  unfold fX9_goMinute
  refine zs_gd (zs_gin h_x1 (by decide)) ?_
  refine zs_lt (Q := fun z => zs_N σ0 z) (zs_wrt h_σ (fun _ => rfl) (fun _ => rfl)) (fun σ_2 hσ_2 => ?_)
  refine zs_ite (fun c1 => ?_) (fun c1 => ?_)
  · skip
    have r2 := (zs_I_eq c1)
    have g3 : zs_in (x1).toInt 0 0 := (zs_eql 0 0 r2 h_x1 zlI_0 (by decide))
    obtain ⟨ret, er, hr⟩ := zb_63 hσ_2 g3 zlI_0
    refine ⟨ret, er, ?_⟩
    exact hr
  · skip
    have r4 := (zs_I_eqn c1)
    have g5 : zs_in (x1).toInt 1 29 := (zs_nel 1 29 r4 h_x1 zlI_0 (by decide))
    refine zs_gd (zs_gin (zs_subI 0 28 g5 zlI_1 (by decide)) (by decide)) ?_
    obtain ⟨ret, er, hr⟩ := zb_82 hσ_2 g5
    refine ⟨ret, er, ?_⟩
    exact hr
-- BX9_goAll_30
theorem zb_84 {σ0 : sn_S} {σ : sn_S} (h_σ : zs_N σ0 σ) {x1 : Int32} (h_x1 : zs_in x1.toInt 0 30) {c : Int} (hc : x1.toInt = c + 0) : zs_ok (BX9_goAll_30 σ x1) (fun r => zs_sum (fun v => ((zs_N σ0 v.1 ∧ zs_in (v.2).toInt 1 30)) ∧ v.2.toInt = c + 1) (fun v => zs_N σ0 v) r) := by
  unfold BX9_goAll_30
  refine zs_ite (fun c1 => ?_) (fun c1 => ?_)
  · skip
    have r2 := (zs_I_lt c1)
    exact zs_some (zs_inr (h_σ))
  · skip
    have r3 := (zs_I_ltn c1)
    have g4 : zs_in (x1).toInt 0 29 := (zs_lel 0 29 r3 h_x1 (zs_rdk (q := 0) (k := 22) (z := ((-1), 29)) h_σ.1 rfl) (by decide))
    have g5 : zs_in ((sn_I σ 0 22)).toInt 0 29 := (zs_ler 0 29 r3 h_x1 (zs_rdk (q := 0) (k := 22) (z := ((-1), 29)) h_σ.1 rfl) (by decide))
    refine zs_bd_ (zb_83 h_σ g4) (fun t_2 pt_2 => ?_)
    refine zs_lt (Q := fun z => zs_in z.toInt 1 30 ∧ z.toInt = c + 1) ⟨(zs_addI 1 30 g4 zlI_1 (by decide)), (zs_syI 1 hc g4 zlI_1 (by decide) (by decide))⟩ (fun y_4 hy_4 => ?_)
    exact zs_some (zs_inl ⟨⟨pt_2, hy_4.1⟩, hy_4.2⟩)
theorem ze_14 {σ0 : sn_S}  {s0 : (sn_S × Int32)} (h0 : (zs_N σ0 s0.1 ∧ zs_in (s0.2).toInt 0 30)) : zs_ok (sn_it (LX9_goAll_30) 5000 s0) (fun t => zs_N σ0 t) := by
  refine zs_it (I := fun s => (zs_N σ0 s.1 ∧ zs_in (s.2).toInt 0 30)) (m := fun s => 30 - s.2.toInt) (fun s hs => ?_) (fun s hs => ?_) (by exact h0)
  · have h1 := hs.2; unfold zs_in at h1
    omega
  · obtain ⟨b, eb, hb⟩ := zb_84 hs.1 hs.2 (c := s.2.toInt) (Int.add_zero _).symm
    exact ⟨b, eb, zs_sumw hb (fun v w => ⟨⟨w.1.1, (zs_w w.1.2 (by decide))⟩, by have := w.2; omega⟩) (fun v w => w)⟩
-- BX9_goAll_49
theorem zb_85 {σ0 : sn_S} {σ : sn_S} (h_σ : zs_N σ0 σ) : zs_ok (BX9_goAll_49 σ) (fun r => zs_N σ0 r) := by
  unfold BX9_goAll_49
  exact zs_some h_σ
-- BX9_goAll_28
theorem zb_86 {σ0 : sn_S} {σ : sn_S} (h_σ : zs_N σ0 σ) : zs_ok (BX9_goAll_28 σ) (fun r => zs_N σ0 r) := by
  unfold BX9_goAll_28
  refine zs_bd_ (ze_14  (s0 := (σ, (0 : Int32))) ⟨h_σ, (zs_w zlI_0 (by decide))⟩) (fun t_1 pt_1 => ?_)
  obtain ⟨ret, er, hr⟩ := zb_85 pt_1
  refine ⟨ret, er, ?_⟩
  exact hr
-- fX9_goAll
theorem zb_87 {σ0 : sn_S} {σ : sn_S} (h_σ : zs_N σ0 σ) : zs_ok (fX9_goAll σ) (fun r => zs_N σ0 r) := by
  unfold fX9_goAll
  refine zs_bd_ (ze_9  (s0 := (σ, (0 : Int32))) ⟨h_σ, (zs_w zlI_0 (by decide))⟩) (fun t_1 pt_1 => ?_)
  obtain ⟨ret, er, hr⟩ := zb_86 pt_1
  refine ⟨ret, er, ?_⟩
  exact hr
