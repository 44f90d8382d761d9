/-! calls whose step is by hand -/
theorem zh_kMN (q k : Nat) (h : zs_kM q k = true) : zs_kN q k = true := by
  have e : ∀ a b : Nat, a ≠ b → Nat.beq a b = false := fun a b hj => by
    cases e : Nat.beq a b with
    | false => rfl
    | true => exact absurd (Nat.eq_of_beq_eq_true e) hj
  have hq : q = 0 ∨ q = 1 ∨ q = 2 ∨ q = 3 ∨ q = 4 ∨ q = 21 ∨ q = 22 := by
    by_cases hn : q = 0 ∨ q = 1 ∨ q = 2 ∨ q = 3 ∨ q = 4 ∨ q = 21 ∨ q = 22
    · exact hn
    · exfalso
      unfold zs_kM zs_kM0 at h
      rw [e q 0 (by omega), e q 1 (by omega), e q 2 (by omega), e q 3 (by omega), e q 4 (by omega), e q 21 (by omega), e q 22 (by omega)] at h
      cases h
  rcases hq with x | x | x | x | x | x | x <;> subst x
  · have hk : k = 5 ∨ k = 12 ∨ k = 13 := by
      by_cases hn : k = 5 ∨ k = 12 ∨ k = 13
      · exact hn
      · exfalso
        have : zs_kM 0 k = (Nat.beq k 5 || Nat.beq k 12 || Nat.beq k 13) := rfl
        rw [this, e k 5 (by omega), e k 12 (by omega), e k 13 (by omega)] at h
        cases h
    rcases hk with y | y | y <;> subst y <;> rfl
  · rfl
  · rfl
  · rfl
  · rfl
  · rfl
  · rfl
theorem zh_MN {σ0 σ τ : sn_S} (h : zs_M σ0 σ) (h2 : zs_N σ τ) : zs_M σ0 τ := ⟨h2.1, fun q k hk => (h2.2.1 q k (zh_kMN q k hk)).trans (h.2.1 q k hk), fun q hq => (h2.2.2 q rfl).trans (h.2.2 q hq)⟩
/-! reserve -/
theorem zh_resL {σ0 σ : sn_S} (h : zs_M σ0 σ) (h21 : zs_in (sn_I σ 0 21).toInt 0 1000) : zs_ok (sn_it LX9_reserve_15 5000 σ) (fun t => zs_M σ0 t) := by
  refine zs_it (I := fun s => zs_M σ0 s ∧ zs_in (sn_I s 0 21).toInt 0 1000) (m := fun s => 1000 - (sn_I s 0 21).toInt) (fun s hs => ⟨by have := hs.2; omega, by have := hs.2; omega⟩) (fun s hs => ?_) ⟨h, h21⟩
  unfold LX9_reserve_15 BX9_reserve_15
  refine zs_ite (fun _ => zs_some (zs_inr hs.1)) (fun c => ?_)
  have c1 := zs_I_len c
  have h2 : zs_in (sn_I s 0 21).toInt 0 999 := zs_ltl 0 999 c1 hs.2 (show zs_in (1000 : Int32).toInt 1000 1000 by decide) (by decide)
  refine zs_bd_ (zb_41 (zs_rf hs.1.1)) (fun t ht => ?_)
  have hM : zs_M σ0 t.2 := zh_MN hs.1 ht.2
  refine zs_ite (fun _ => zs_some (zs_inr hM)) (fun _ => ?_)
  have e21 : sn_I t.2 0 21 = sn_I s 0 21 := ht.2.2.1 0 21 rfl
  have h3 : zs_in (sn_I t.2 0 21).toInt 0 999 := by rw [e21]; exact h2
  have h4 : (sn_I t.2 0 21 + (1 : Int32)).toInt = (sn_I s 0 21).toInt + 1 := by
    rw [Int32.toInt_add, e21, show (1 : Int32).toInt = 1 by decide, zs_bm ⟨by omega, by omega⟩]
  refine zs_lt (Q := fun z => zs_M σ0 z ∧ (sn_I z 0 21).toInt = (sn_I s 0 21).toInt + 1) ⟨zs_wrk (z := (0, 1000)) hM rfl (zs_addI 1 1000 h3 (show zs_in (1 : Int32).toInt 1 1 by decide) (by decide)) (by decide) rfl, ?_⟩ (fun z hz => ?_)
  · show (if 0 = 0 ∧ 21 = 21 then sn_I t.2 0 21 + (1 : Int32) else sn_I t.2 0 21).toInt = _
    rw [if_pos ⟨rfl, rfl⟩]
    exact h4
  · exact zs_some (zs_inl ⟨⟨hz.1, ⟨by have := hz.2; omega, by have := hz.2; omega⟩⟩, by show 1000 - (sn_I z 0 21).toInt < 1000 - (sn_I s 0 21).toInt; have := hz.2; omega⟩)
theorem zh_reserve {σ0 σ : sn_S} (h : zs_M σ0 σ) : zs_ok (fX9_reserve σ) (fun r => zs_M σ0 r.2) := by
  unfold fX9_reserve
  refine zs_bd_ (zc_92 h) (fun t ht => ?_)
  refine zs_ite (fun _ => zs_some ht.2) (fun _ => ?_)
  refine zs_lt (Q := fun z => zs_M σ0 z ∧ sn_I z 0 21 = 0) ⟨zs_wrk (z := (0, 1000)) ht.2 rfl (show zs_in (0 : Int32).toInt 0 0 by decide) (by decide) rfl, ?_⟩ (fun z hz => ?_)
  · show (if 0 = 0 ∧ 21 = 21 then (0 : Int32) else sn_I t.2 0 21) = 0
    rw [if_pos ⟨rfl, rfl⟩]
  · refine zs_bd_ (zh_resL hz.1 (by rw [hz.2]; decide)) (fun u hu => ?_)
    unfold BX9_reserve_46
    exact zs_ite (fun _ => zs_some hu) (fun _ => zs_some hu)
/-! images -/
theorem zh_imgL {σ0 σ : sn_S} (h : zs_M0 σ0 σ) {x1 : Int32} (hx : zs_in x1.toInt 0 2) : zs_ok (sn_it (LX9_image_17 x1) 5000 (σ, (0 : Int32))) (fun t => zs_M0 σ0 t) := by
  refine zs_it (I := fun s => zs_M0 σ0 s.1 ∧ zs_in s.2.toInt 0 119) (m := fun s => 119 - s.2.toInt) (fun s hs => ⟨by have := hs.2; omega, by have := hs.2; omega⟩) (fun s hs => ?_) ⟨h, (show zs_in (0 : Int32).toInt 0 119 by decide)⟩
  unfold LX9_image_17 BX9_image_17
  refine zs_ite (fun _ => zs_some (zs_inr hs.1)) (fun c => ?_)
  have c1 := zs_I_len c
  have h2 : zs_in s.2.toInt 0 118 := zs_ltl 0 118 c1 hs.2 (show zs_in (119 : Int32).toInt 119 119 by decide) (by decide)
  refine zs_gd (zs_gin h2 (by decide)) (zs_gd (zs_gin (zs_addI 0 356 (zs_mulI 0 238 (show zs_in (119 : Int32).toInt 119 119 by decide) hx (by decide)) h2 (by decide)) (by decide)) ?_)
  refine zs_lt (Q := fun z => zs_M0 σ0 z) (zs_wrim2 hs.1 hx h2) (fun y hy => ?_)
  refine zs_lt (Q := fun z => zs_in z.toInt 1 119 ∧ z.toInt = s.2.toInt + 1) ⟨zs_addI 1 119 h2 (show zs_in (1 : Int32).toInt 1 1 by decide) (by decide), zs_syI 1 (show s.2.toInt = s.2.toInt + 0 by omega) h2 (show zs_in (1 : Int32).toInt 1 1 by decide) (by decide) (by decide)⟩ (fun z hz => ?_)
  exact zs_some (zs_inl ⟨⟨hy, zs_w hz.1 (by decide)⟩, by show 119 - z.toInt < 119 - s.2.toInt; have := hz.2; omega⟩)
theorem zh_backL {σ0 σ : sn_S} (h : zs_M0 σ0 σ) {x1 : Int32} (hx : zs_in x1.toInt 0 2) : zs_ok (sn_it (LX9_back_29 x1) 5000 (σ, (0 : Int32))) (fun t => zs_M0 σ0 t) := by
  refine zs_it (I := fun s => zs_M0 σ0 s.1 ∧ zs_in s.2.toInt 0 119) (m := fun s => 119 - s.2.toInt) (fun s hs => ⟨by have := hs.2; omega, by have := hs.2; omega⟩) (fun s hs => ?_) ⟨h, (show zs_in (0 : Int32).toInt 0 119 by decide)⟩
  unfold LX9_back_29 BX9_back_29
  refine zs_ite (fun _ => zs_some (zs_inr hs.1)) (fun c => ?_)
  have c1 := zs_I_len c
  have h2 : zs_in s.2.toInt 0 118 := zs_ltl 0 118 c1 hs.2 (show zs_in (119 : Int32).toInt 119 119 by decide) (by decide)
  refine zs_gd (zs_gin (zs_addI 0 356 (zs_mulI 0 238 (show zs_in (119 : Int32).toInt 119 119 by decide) hx (by decide)) h2 (by decide)) (by decide)) (zs_gd (zs_gin h2 (by decide)) ?_)
  refine zs_lt (Q := fun z => zs_M0 σ0 z) (zs_wrim1 hs.1 hx h2) (fun y hy => ?_)
  refine zs_lt (Q := fun z => zs_in z.toInt 1 119 ∧ z.toInt = s.2.toInt + 1) ⟨zs_addI 1 119 h2 (show zs_in (1 : Int32).toInt 1 1 by decide) (by decide), zs_syI 1 (show s.2.toInt = s.2.toInt + 0 by omega) h2 (show zs_in (1 : Int32).toInt 1 1 by decide) (by decide) (by decide)⟩ (fun z hz => ?_)
  exact zs_some (zs_inl ⟨⟨hy, zs_w hz.1 (by decide)⟩, by show 119 - z.toInt < 119 - s.2.toInt; have := hz.2; omega⟩)
/-- which image is meant, on both sides alike -/
theorem zh_k3 (x : Int32) : (∃ j, j < 3 ∧ x = nI j) ∨ (¬ (0 ≤ x ∧ x ≤ 2) ∧ (x < 0 ∨ (¬ x < 0 ∧ ¬ x < 3))) := by
  by_cases h0 : x < 0
  · exact Or.inr ⟨fun z => absurd h0 (Int32.not_lt.mpr z.1), Or.inl h0⟩
  · by_cases h3 : x < 3
    · exact Or.inl (nI_idx (n := 3) (by decide) (Int32.not_lt.mp h0) h3)
    · refine Or.inr ⟨fun z => h3 (Int32.lt_of_le_of_lt z.2 (by decide)), Or.inr ⟨h0, h3⟩⟩
theorem zh_in02 (x : Int32) : fX9_in x.toInt64 (0 : Int64) (2 : Int64) = some (if 0 ≤ x ∧ x ≤ 2 then 1 else 0) := in_eq32 x 0 2
theorem zh_j3 {j : Nat} (h : j < 3) : zs_in (nI j).toInt 0 2 ∧ (0 ≤ nI j ∧ nI j ≤ 2) ∧ sn_in (nI j) 3 = true ∧ (nI j).toNatClampNeg = j ∧ ¬ nI j < 0 ∧ nI j < 3 := by
  have : ∀ j, j < 3 → zs_in (nI j).toInt 0 2 ∧ (0 ≤ nI j ∧ nI j ≤ 2) ∧ sn_in (nI j) 3 = true ∧ (nI j).toNatClampNeg = j ∧ ¬ nI j < 0 ∧ nI j < 3 := by decide +kernel
  exact this j h
theorem zh_mimage {σ : sn_S} (h : zs_SB zs_tM σ) {j : Nat} (hj : j < 3) : ∃ t, zs_M0 σ t ∧ fX9_image σ (nI j) = some (0, sn_pI t 3 j (vp_nar .boolean 1)) := by
  obtain ⟨h1, h2, h3, h4, h5, h6⟩ := zh_j3 hj
  obtain ⟨t, e, ht⟩ := zh_imgL (zs_rf h) h1
  refine ⟨t, ht, ?_⟩
  unfold fX9_image
  rw [zh_in02, if_pos h2]
  show ((sn_it (LX9_image_17 (nI j)) 5000 (σ, (0 : Int32))).bind fun t_4 => BX9_image_46 t_4 (nI j)) = _
  rw [e]
  show BX9_image_46 t (nI j) = _
  unfold BX9_image_46
  rw [h3, h4]
  rfl
theorem zh_mimage0 {σ : sn_S} {x : Int32} (h : ¬ (0 ≤ x ∧ x ≤ 2)) : fX9_image σ x = some (-2, σ) := by
  unfold fX9_image
  rw [zh_in02, if_neg h]
  rfl
theorem zh_cimage {σ : sn_S} (h : zs_SB zs_tC σ) {j : Nat} (hj : j < 3) : ∃ t, zs_C0 σ t ∧ fX8_image σ (nI j) = some (0, sn_pI t 16 j (vp_nar .boolean 1)) := by
  obtain ⟨h1, h2, h3, h4, h5, h6⟩ := zh_j3 hj
  have key : ∃ t, zs_C0 σ t ∧ fX2_copyFrom σ (sn_at sn_rs15 (nI j)) 1 = some t := by
    match j, hj with
    | 0, _ => exact zh_hC h (a := 73) (b := 1) (by decide) (by decide) (by decide)
    | 1, _ => exact zh_hC h (a := 80) (b := 1) (by decide) (by decide) (by decide)
    | 2, _ => exact zh_hC h (a := 87) (b := 1) (by decide) (by decide) (by decide)
  obtain ⟨t, q, e⟩ := key
  refine ⟨t, q, ?_⟩
  unfold fX8_image
  rw [if_neg h5, if_pos h6, h3, gd_T, e, h4]
  rfl
theorem zh_cimage0 {σ : sn_S} {x : Int32} (h : x < 0 ∨ (¬ x < 0 ∧ ¬ x < 3)) : fX8_image σ x = some (-2, σ) := by
  unfold fX8_image
  rcases h with h | h
  · rw [if_pos h]
  · rw [if_neg h.1, if_neg h.2]
theorem zh_mback {σ : sn_S} (h : zs_SB zs_tM σ) {j : Nat} (hj : j < 3) : ∃ r t, zs_M0 σ t ∧ fX9_back σ (nI j) = some (r, t) ∧ r = if sn_I σ 3 j = 0 then -6 else 0 := by
  obtain ⟨h1, h2, h3, h4, h5, h6⟩ := zh_j3 hj
  obtain ⟨t, e, ht⟩ := zh_backL (zs_rf h) h1
  by_cases hk : sn_I σ 3 j = 0
  · refine ⟨-6, σ, zs_rf h, ?_, by rw [if_pos hk]⟩
    unfold fX9_back
    rw [zh_in02, if_pos h2]
    show sn_gd (sn_in (nI j) 3) (if sn_I σ 3 (nI j).toNatClampNeg = 0 then _ else _) = _
    rw [h3, gd_T, h4, if_pos hk]
  · refine ⟨0, t, ht, ?_, by rw [if_neg hk]⟩
    unfold fX9_back
    rw [zh_in02, if_pos h2]
    show sn_gd (sn_in (nI j) 3) (if sn_I σ 3 (nI j).toNatClampNeg = 0 then _ else _) = _
    rw [h3, gd_T, h4, if_neg hk, e]
    rfl
theorem zh_mback0 {σ : sn_S} {x : Int32} (h : ¬ (0 ≤ x ∧ x ≤ 2)) : fX9_back σ x = some (-2, σ) := by
  unfold fX9_back
  rw [zh_in02, if_neg h]
  rfl
theorem zh_cback {σ : sn_S} (h : zs_SB zs_tC σ) {j : Nat} (hj : j < 3) : ∃ r t, zs_C0 σ t ∧ fX8_back σ (nI j) = some (r, t) ∧ r = if sn_I σ 16 j = 0 then -6 else 0 := by
  obtain ⟨h1, h2, h3, h4, h5, h6⟩ := zh_j3 hj
  by_cases hk : sn_I σ 16 j = 0
  · refine ⟨-6, σ, zs_rf h, ?_, by rw [if_pos hk]⟩
    unfold fX8_back
    rw [if_neg h5, if_pos h6, h3, gd_T, h4, if_pos hk]
  · have key : ∃ t, zs_C0 σ t ∧ fX2_copyFrom σ 1 (sn_at sn_rs15 (nI j)) = some t := by
      match j, hj with
      | 0, _ => exact zh_hC h (a := 1) (b := 73) (by decide) (by decide) (by decide)
      | 1, _ => exact zh_hC h (a := 1) (b := 80) (by decide) (by decide) (by decide)
      | 2, _ => exact zh_hC h (a := 1) (b := 87) (by decide) (by decide) (by decide)
    obtain ⟨t, q, e⟩ := key
    obtain ⟨u, e2, q2⟩ := zP_54 (zs_rf q.1)
    refine ⟨0, u, zs_c0t q q2, ?_, by rw [if_neg hk]⟩
    unfold fX8_back
    rw [if_neg h5, if_pos h6, h3, gd_T, h4, if_neg hk, gd_T, e]
    show (fX8_liveAnew t).bind _ = _
    rw [e2]
    rfl
theorem zh_cback0 {σ : sn_S} {x : Int32} (h : x < 0 ∨ (¬ x < 0 ∧ ¬ x < 3)) : fX8_back σ x = some (-2, σ) := by
  unfold fX8_back
  rcases h with h | h
  · rw [if_pos h]
  · rw [if_neg h.1, if_neg h.2]

/-! the tape -/
theorem zh_cend (σ : sn_S) (a : Int32) : fX8_end σ a = some (if 0 ≤ a ∧ a ≤ σ.1 17 1 then (a, sn_pI σ 17 1 a) else (-1, σ)) := by
  unfold fX8_end
  by_cases h1 : a < 0
  · rw [if_pos h1, if_neg (fun h => absurd h1 (Int32.not_lt.mpr h.1))]
  · rw [if_neg h1]
    show (if a ≤ σ.1 17 1 then _ else _) = _
    by_cases h2 : a ≤ σ.1 17 1
    · rw [if_pos h2, if_pos ⟨Int32.not_lt.mp h1, h2⟩]
      rfl
    · rw [if_neg h2, if_neg (fun h => h2 h.2)]
theorem zh_mend (τ : sn_S) (a : Int32) : fX9_end τ a = some (if 0 ≤ a ∧ a ≤ τ.1 0 5 then (a, sn_pI τ 0 5 a) else (-1, τ)) := by
  unfold fX9_end
  have e9 : fX9_in a.toInt64 (0 : Int64) ((sn_I τ 0 5).toInt64) = some (if (0 : Int32) ≤ a ∧ a ≤ τ.1 0 5 then 1 else 0) := in_eq32 a 0 (τ.1 0 5)
  rw [e9]
  by_cases h : 0 ≤ a ∧ a ≤ τ.1 0 5
  · rw [if_pos h, if_pos h]
    rfl
  · rw [if_neg h, if_neg h]
    rfl
theorem zh_put {σ : sn_S} {n : Nat} (h : zs_SB zs_tC σ) (hn : n + 4 ≤ 900) (h1 : σ.1 17 1 = nI n) (x : Int32) : ∃ τ, fX5_put σ x = some τ ∧ zs_SB zs_tC τ ∧ τ.1 17 1 = nI (n + 4) ∧ (∀ q k, q ≠ 18 → ¬ (q = 17 ∧ k = 1) → τ.1 q k = σ.1 q k) ∧ τ.2.1 = σ.2.1 := by
  unfold fX5_put
  have one : ∀ (j : Nat) (ρ : sn_S) (y : Int32), j < 900 → zs_SB zs_tC ρ → ρ.1 17 1 = nI j → ¬ y < 0 → ∃ τ, LX5_put_3 x (ρ, y) = some (.inl (τ, y + (-8))) ∧ zs_SB zs_tC τ ∧ τ.1 17 1 = nI (j + 1) ∧ (∀ q k, q ≠ 18 → ¬ (q = 17 ∧ k = 1) → τ.1 q k = ρ.1 q k) ∧ τ.2.1 = ρ.2.1 := by
    intro j ρ y hj hS h hy
    refine ⟨sn_pI (sn_pI ρ 18 j ((x >>> (y &&& 31)) &&& (255 : Int32))) 17 1 (nI j + 1), ?_, ?_, ?_, ?_, rfl⟩
    · unfold LX5_put_3 BX5_put_3
      rw [if_neg hy]
      have e1 : sn_I ρ 17 1 = nI j := h
      show (if (900 : Int32) ≤ sn_I ρ 17 1 then _ else _) = _
      rw [e1, if_neg (show ¬ (900 : Int32) ≤ nI j from nI_ge (b := 900) hj (by decide)), sn_in_nI hj (by decide), gd_T, nI_clamp (by omega)]
      show some (Sum.inl (sn_pI (sn_pI ρ 18 j _) 17 1 ((sn_pI ρ 18 j _).1 17 1 + 1), y + (-8))) = _
      rw [pI_ne (by decide), h]
    · have hb : (zs_tC 17 1).1 ≤ (nI j + 1).toInt ∧ (nI j + 1).toInt ≤ (zs_tC 17 1).2 := by
        rw [nI_1, nI_toInt (by omega), show zs_tC 17 1 = (0, 900) from rfl]
        exact ⟨by omega, by omega⟩
      exact zs_sbw (zs_sbw hS (by rw [show zs_tC 18 j = (-2147483648, 2147483647) from rfl]; exact zs_topI _)) hb
    · rw [pI_self, nI_1]
    · intro q k h18 h17
      show (if q = 17 ∧ k = 1 then _ else if q = 18 ∧ k = j then _ else ρ.1 q k) = _
      rw [if_neg h17, if_neg (fun z => h18 z.1)]
  obtain ⟨τ1, e1, s1, h1, k1, l1⟩ := one n σ 24 (by omega) h h1 (by decide)
  obtain ⟨τ2, e2, s2, h2, k2, l2⟩ := one (n + 1) τ1 16 (by omega) s1 h1 (by decide)
  obtain ⟨τ3, e3, s3, h3, k3, l3⟩ := one (n + 2) τ2 8 (by omega) s2 h2 (by decide)
  obtain ⟨τ4, e4, s4, h4, k4, l4⟩ := one (n + 3) τ3 0 (by omega) s3 h3 (by decide)
  refine ⟨τ4, ?_, s4, h4, fun q k a b => by rw [k4 q k a b, k3 q k a b, k2 q k a b, k1 q k a b], by rw [l4, l3, l2, l1]⟩
  have e : sn_it (LX5_put_3 x) (4995 + 5) (σ, (24 : Int32)) = some τ4 := by
    unfold sn_it
    rw [e1]
    show sn_it (LX5_put_3 x) (4995 + 4) (τ1, (16 : Int32)) = some τ4
    unfold sn_it
    rw [e2]
    show sn_it (LX5_put_3 x) (4995 + 3) (τ2, (8 : Int32)) = some τ4
    unfold sn_it
    rw [e3]
    show sn_it (LX5_put_3 x) (4995 + 2) (τ3, (0 : Int32)) = some τ4
    unfold sn_it
    rw [e4]
    show sn_it (LX5_put_3 x) (4995 + 1) (τ4, (-8 : Int32)) = some τ4
    unfold sn_it LX5_put_3 BX5_put_3
    rfl
  show (sn_it (LX5_put_3 x) (4995 + 5) (σ, (24 : Int32))).bind _ = _
  rw [e]
  rfl
theorem zh_n {σ : sn_S} {q k : Nat} {t : zs_T} (h : zs_SB t σ) (ht : t q k = (0, 900)) : ∃ n : Nat, n ≤ 900 ∧ σ.1 q k = nI n := by
  have h1 := h.1 q k
  rw [ht] at h1
  obtain ⟨j, j1, j2⟩ := zs_val (x := σ.1 q k) (a := 0) (b := 900) h1 (by decide)
  exact ⟨j, by omega, j2⟩
theorem zh_cfeed {σ : sn_S} {n : Nat} (h : zs_SB zs_tC σ) (h1 : σ.1 17 1 = nI n) (hn : n ≤ 900) (a b c d e : Int32) : (900 < n + 20 ∧ fX8_feed σ a b c d e = some (-1, σ)) ∨ (n + 20 ≤ 900 ∧ ∃ τ, fX8_feed σ a b c d e = some (nI (n + 20), τ) ∧ zs_SB zs_tC τ ∧ τ.1 17 1 = nI (n + 20) ∧ (∀ q k, q ≠ 18 → ¬ (q = 17 ∧ k = 1) → τ.1 q k = σ.1 q k) ∧ τ.2.1 = σ.2.1) := by
  have e0 : sn_I σ 17 1 + (20 : Int32) = nI (n + 20) := by
    show σ.1 17 1 + nI 20 = _
    rw [h1, nI_add]
  by_cases hc : n + 20 ≤ 900
  · right
    refine ⟨hc, ?_⟩
    obtain ⟨s1, e1, b1, h1, k1, l1⟩ := zh_put h (by omega) h1 a
    obtain ⟨s2, e2, b2, h2, k2, l2⟩ := zh_put b1 (by omega) h1 b
    obtain ⟨s3, e3, b3, h3, k3, l3⟩ := zh_put b2 (by omega) h2 c
    obtain ⟨s4, e4, b4, h4, k4, l4⟩ := zh_put b3 (by omega) h3 d
    obtain ⟨s5, e5, b5, h5, k5, l5⟩ := zh_put b4 (by omega) h4 e
    refine ⟨s5, ?_, b5, h5, fun q k x y => by rw [k5 q k x y, k4 q k x y, k3 q k x y, k2 q k x y, k1 q k x y], by rw [l5, l4, l3, l2, l1]⟩
    unfold fX8_feed
    rw [e0, if_pos (show nI (n + 20) ≤ (900 : Int32) from nI_le (b := 900) hc (by decide)), e1]
    show (fX5_put s1 b).bind _ = _
    rw [e2]
    show (fX5_put s2 c).bind _ = _
    rw [e3]
    show (fX5_put s3 d).bind _ = _
    rw [e4]
    show (fX5_put s4 e).bind _ = _
    rw [e5]
    show some (s5.1 17 1, s5) = _
    rw [h5]
  · left
    refine ⟨by omega, ?_⟩
    unfold fX8_feed
    rw [e0, if_neg (show ¬ nI (n + 20) ≤ (900 : Int32) from nI_ge (a := 900) (by omega) (by omega))]
theorem zh_mfeedL {τ : sn_S} {n : Nat} (h : zs_SB zs_tM τ) (h5 : τ.1 0 5 = nI n) (hn : n + 20 ≤ 900) : ∃ t, sn_it LX9_feed_55 5000 (τ, (0 : Int32)) = some t ∧ (zs_SB zs_tM t ∧ (∀ q k, q ≠ 4 → t.1 q k = τ.1 q k) ∧ t.2.1 = τ.2.1) := by
  refine sn_for (f := LX9_feed_55) 20 (fun k z => z.2 = nI k ∧ zs_SB zs_tM z.1 ∧ (∀ q k, q ≠ 4 → z.1.1 q k = τ.1 q k) ∧ z.1.2.1 = τ.2.1) (fun t => zs_SB zs_tM t ∧ (∀ q k, q ≠ 4 → t.1 q k = τ.1 q k) ∧ t.2.1 = τ.2.1)
    (fun k z hk hz => ?_) (fun z hz => ?_) (n := 5000) (by decide) (s := (τ, (0 : Int32))) ⟨nI_0.symm, h, fun _ _ _ => rfl, rfl⟩
  · obtain ⟨z1, z2⟩ := z
    obtain ⟨rfl, hS, hK, hL⟩ := hz
    have h1 : sn_I z1 0 5 = nI n := (hK 0 5 (by decide)).trans h5
    have hd : nI k / 4 = nI (k / 4) := by
      have : ∀ k, k < 20 → nI k / 4 = nI (k / 4) := by decide +kernel
      exact this k hk
    have hv : ∃ v, LX9_feed_55 (z1, nI k) = some (.inl (sn_pI z1 4 (n + k) v, nI (k + 1))) := by
      unfold LX9_feed_55 BX9_feed_55
      show ∃ v, (if (20 : Int32) ≤ nI k then _ else _) = _
      rw [if_neg (show ¬ (20 : Int32) ≤ nI k from nI_ge (b := 20) hk (by decide)), h1, nI_add, hd, sn_in_nI (by omega) (by decide), gd_T, sn_in_nI (by omega) (by decide), gd_T, nI_clamp (show n + k < 2 ^ 31 by omega), ← nI_1]
      exact ⟨_, rfl⟩
    obtain ⟨v, hv⟩ := hv
    refine ⟨_, hv, rfl, zs_sbw hS (by rw [show zs_tM 4 (n + k) = (-2147483648, 2147483647) from rfl]; exact zs_topI _), fun q j hq => ?_, hL⟩
    show (sn_pI z1 4 (n + k) v).1 q j = _
    rw [pI_ne hq]
    exact hK q j hq
  · obtain ⟨z1, z2⟩ := z
    obtain ⟨rfl, hS, hK, hL⟩ := hz
    refine ⟨z1, ?_, hS, hK, hL⟩
    unfold LX9_feed_55 BX9_feed_55
    rw [if_pos (show (20 : Int32) ≤ nI 20 by decide)]
theorem zh_mfeed {τ : sn_S} {n : Nat} (h : zs_SB zs_tM τ) (h5 : τ.1 0 5 = nI n) (hn : n ≤ 900) (a b c d e : Int32) : (900 < n + 20 ∧ fX9_feed τ a b c d e = some (-1, τ)) ∨ (n + 20 ≤ 900 ∧ ∃ t, fX9_feed τ a b c d e = some (nI (n + 20), t) ∧ zs_SB zs_tM t ∧ t.1 0 5 = nI (n + 20) ∧ (∀ q k, q ≠ 4 → q ≠ 5 → ¬ (q = 0 ∧ k = 5) → t.1 q k = τ.1 q k) ∧ t.2.1 = τ.2.1) := by
  have e0 : sn_I τ 0 5 + (20 : Int32) = nI (n + 20) := by
    show τ.1 0 5 + nI 20 = _
    rw [h5, nI_add]
  by_cases hc : n + 20 ≤ 900
  · right
    refine ⟨hc, ?_⟩
    generalize hz : sn_pI (sn_pI (sn_pI (sn_pI (sn_pI τ 5 0 a) 5 1 b) 5 2 c) 5 3 d) 5 4 e = t0
    have hS : zs_SB zs_tM t0 := by
      rw [← hz]
      exact zs_sbw (zs_sbw (zs_sbw (zs_sbw (zs_sbw h (zs_topI _)) (zs_topI _)) (zs_topI _)) (zs_topI _)) (zs_topI _)
    have hK : ∀ q k, q ≠ 5 → t0.1 q k = τ.1 q k := fun q k hq => by
      rw [← hz, pI_ne hq, pI_ne hq, pI_ne hq, pI_ne hq, pI_ne hq]
    have hL : t0.2.1 = τ.2.1 := by rw [← hz]; rfl
    obtain ⟨t1, f1, g1, g2, g3⟩ := zh_mfeedL hS ((hK 0 5 (by decide)).trans h5) hc
    have g5 : sn_I t1 0 5 = nI n := (g2 0 5 (by decide)).trans ((hK 0 5 (by decide)).trans h5)
    refine ⟨sn_pI t1 0 5 (nI (n + 20)), ?_, zs_sbw g1 (by rw [nI_toInt (by omega), show zs_tM 0 5 = (0, 900) from rfl]; exact ⟨by omega, by omega⟩), pI_self, fun q k q4 q5 q0 => ?_, g3.trans hL⟩
    · unfold fX9_feed
      rw [e0, if_pos (show nI (n + 20) ≤ (900 : Int32) from nI_le (b := 900) hc (by decide))]
      show (sn_it LX9_feed_55 5000 (sn_pI (sn_pI (sn_pI (sn_pI (sn_pI τ 5 0 a) 5 1 b) 5 2 c) 5 3 d) 5 4 e, (0 : Int32))).bind _ = _
      rw [hz, f1]
      show some (sn_I (sn_pI t1 0 5 (sn_I t1 0 5 + (20 : Int32))) 0 5, sn_pI t1 0 5 (sn_I t1 0 5 + (20 : Int32))) = _
      rw [g5, show nI n + (20 : Int32) = nI (n + 20) from nI_add n 20]
      show some ((sn_pI t1 0 5 (nI (n + 20))).1 0 5, _) = _
      rw [pI_self]
    · show (if q = 0 ∧ k = 5 then _ else t1.1 q k) = _
      rw [if_neg q0, g2 q k q4, hK q k q5]
  · left
    refine ⟨by omega, ?_⟩
    unfold fX9_feed
    rw [e0, if_neg (show ¬ nI (n + 20) ≤ (900 : Int32) from nI_ge (a := 900) (by omega) (by omega))]
