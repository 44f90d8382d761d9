section
/-! answers: greatest, longest, together -/
def yz_mx (f : Nat → Int32) : Nat → Int32
  | 0 => 0
  | n + 1 => if yz_mx f n < f n then f n else yz_mx f n
section
variable {σ τ : sn_S}
theorem yz_13 {a : Int32} (hK : zK σ τ) : yr (fX8_itch σ a) (fX9_itch τ a) (fun r s => r = s.1) := by
  unfold fX8_itch fX9_itch
  refine yz_pers hK (fun p v u hp ea hM => ?_)
  subst ea
  obtain ⟨-, ⟨p1, p2, p3⟩, ⟨m1, m2, m3⟩⟩ := yK_n hK
  have e0 : σ.1 27 0 = nI (sp_n (τ.1 1) 0) := hK.2.2.2.1
  have u0 : u.1 1 0 = nI (sp_n (τ.1 1) 0) := (congrFun hM.1 0).trans m2
  refine yr_eq (yz_mx (fun m => dy_tick (hs_day (τ.1 1)) m p) (sp_n (τ.1 1) 0)) ?_ ?_
  · refine yp_bd (fun v => v = (yz_mx (fun m => dy_tick (hs_day (τ.1 1)) m p) (sp_n (τ.1 1) 0))) (yp_for (sp_n (τ.1 1) 0) (fun k s => s.2 = nI k ∧ s.1 = yz_mx (fun m => dy_tick (hs_day (τ.1 1)) m p) k) (fun k s hk hs => ?_) (fun s hs => ?_) ⟨nI_0.symm, rfl⟩) (fun v hv => ?_)
    · obtain ⟨v, x⟩ := s
      obtain ⟨ex, ev⟩ := hs
      have ex : x = nI k := ex
      have ev : v = _ := ev
      subst ex
      subst ev
      show yp (BX8_itch_15 σ (nI p) _ (nI k)) _
      unfold BX8_itch_15 fX0_tickleAt
      rw [show sn_I σ 27 0 = _ from e0, if_neg (nI_ge hk (by omega)), yi_6, nI_add, nI_clamp (by omega)]
      exact yp_bd (fun t => t = dy_tick (hs_day (τ.1 1)) k p) (yp_gd (fun _ => yp_some (yz_tick hK hk hp))) (fun t ht => yp_lt (yp_lt (yp_some ⟨nI_1 k, by rw [ht]; rfl⟩)))
    · obtain ⟨v, x⟩ := s
      obtain ⟨ex, ev⟩ := hs
      have ex : x = nI (sp_n (τ.1 1) 0) := ex
      subst ex
      show yp (BX8_itch_15 σ (nI p) v (nI (sp_n (τ.1 1) 0))) _
      unfold BX8_itch_15
      rw [show sn_I σ 27 0 = _ from e0, if_pos (nI_le (Nat.le_refl _) (by omega))]
      exact yp_some ev
    · unfold BX8_itch_46
      exact yp_some hv
  · refine yp_bd (fun v => v = (yz_mx (fun m => dy_tick (hs_day (τ.1 1)) m p) (sp_n (τ.1 1) 0))) (yp_for (sp_n (τ.1 1) 0) (fun k s => s.2 = nI k ∧ s.1 = yz_mx (fun m => dy_tick (hs_day (τ.1 1)) m p) k) (fun k s hk hs => ?_) (fun s hs => ?_) ⟨nI_0.symm, rfl⟩) (fun v hv => ?_)
    · obtain ⟨v, x⟩ := s
      obtain ⟨ex, ev⟩ := hs
      have ex : x = nI k := ex
      have ev : v = _ := ev
      subst ex
      subst ev
      show yp (BX9_itch_15 u (nI p) _ (nI k)) _
      unfold BX9_itch_15 fX9_minutes
      refine yp_bd (fun t => t = nI (sp_n (τ.1 1) 0)) (yp_gd (fun _ => yp_some u0)) (fun t ht => ?_)
      rw [ht, if_neg (nI_ge hk (by omega)), yi_6, nI_add, nI_clamp (by omega), show sn_I u 12 (6 * k + p) = _ from yz_mtick hM hk hp]
      exact yp_gd (fun _ => yp_lt (yp_lt (yp_some ⟨nI_1 k, rfl⟩)))
    · obtain ⟨v, x⟩ := s
      obtain ⟨ex, ev⟩ := hs
      have ex : x = nI (sp_n (τ.1 1) 0) := ex
      subst ex
      show yp (BX9_itch_15 u (nI p) v (nI (sp_n (τ.1 1) 0))) _
      unfold BX9_itch_15 fX9_minutes
      refine yp_bd (fun t => t = nI (sp_n (τ.1 1) 0)) (yp_gd (fun _ => yp_some u0)) (fun t ht => ?_)
      rw [ht, if_pos (nI_le (Nat.le_refl _) (by omega))]
      exact yp_some ev
    · unfold BX9_itch_45
      exact yp_some hv
theorem yz_14 {a : Int32} (hK : zK σ τ) : yr (fX8_caught σ a) (fX9_caught τ a) (fun r s => r = s.1) := by
  unfold fX8_caught fX9_caught
  refine yz_pers hK (fun p v u hp ea hM => ?_)
  subst ea
  obtain ⟨-, ⟨p1, p2, p3⟩, ⟨m1, m2, m3⟩⟩ := yK_n hK
  have e0 : σ.1 27 0 = nI (sp_n (τ.1 1) 0) := hK.2.2.2.1
  refine yr_eq (dy_all (hs_day (τ.1 1)) p (sp_n (τ.1 1) 0)) ?_ ?_
  · refine yp_bd (fun v => v = (dy_all (hs_day (τ.1 1)) p (sp_n (τ.1 1) 0))) (yp_for (sp_n (τ.1 1) 0) (fun k s => s.2 = nI k ∧ s.1 = dy_all (hs_day (τ.1 1)) p k) (fun k s hk hs => ?_) (fun s hs => ?_) ⟨nI_0.symm, rfl⟩) (fun v hv => ?_)
    · obtain ⟨v, x⟩ := s
      obtain ⟨ex, ev⟩ := hs
      have ex : x = nI k := ex
      have ev : v = _ := ev
      subst ex
      subst ev
      show yp (BX8_caught_15 σ (nI p) _ (nI k)) _
      unfold BX8_caught_15 fX0_cameAt
      rw [show sn_I σ 27 0 = _ from e0, if_neg (nI_ge hk (by omega)), yi_6, nI_add, nI_clamp (by omega)]
      exact yp_bd (fun t => t = dy_came (hs_day (τ.1 1)) k p) (yp_gd (fun _ => yp_some (yz_came hK hk hp))) (fun t ht => yp_lt (yp_lt (yp_some ⟨nI_1 k, by rw [ht]; rfl⟩)))
    · obtain ⟨v, x⟩ := s
      obtain ⟨ex, ev⟩ := hs
      have ex : x = nI (sp_n (τ.1 1) 0) := ex
      subst ex
      show yp (BX8_caught_15 σ (nI p) v (nI (sp_n (τ.1 1) 0))) _
      unfold BX8_caught_15
      rw [show sn_I σ 27 0 = _ from e0, if_pos (nI_le (Nat.le_refl _) (by omega))]
      exact yp_some ev
    · unfold BX8_caught_44
      exact yp_some hv
  · rw [nI_clamp (show p < 2 ^ 31 by omega)]
    refine yp_gd (fun _ => yp_some ?_)
    have := (hM.2.1.2 p (by omega)).2
    rw [if_pos (show p < dy_P (hs_day (τ.1 1)) from hp)] at this
    exact this
/-- best and most, gone through by one up -/
def yz_wo (f : Nat → Int32) : Nat → Int32 × Int32
  | 0 => (-1, 0)
  | n + 1 => if f n ≤ (yz_wo f n).2 then yz_wo f n else (nI n, f n)
theorem yz_16 (hK : zK σ τ) : yr (fX8_worst σ) (fX9_worst τ) (fun r s => r = s.1) := by
  unfold fX8_worst fX9_worst
  refine yz_house hK (fun v u h10 hM => ?_)
  have hW := hK.2.1.1
  obtain ⟨-, ⟨p1, p2, p3⟩, ⟨m1, m2, m3⟩⟩ := yK_n hK
  have e1 : σ.1 27 1 = nI (sp_n (τ.1 1) 5) := hK.2.2.2.2.1.1
  have u5 : u.1 1 5 = nI (sp_n (τ.1 1) 5) := (congrFun hM.1 5).trans p2
  obtain ⟨f, hf⟩ : ∃ f : Nat → Int32, f = fun p => nI (yb_pop (dy_sn (hs_day (τ.1 1)) (sp_n (τ.1 1) 0) p) 30) := ⟨_, rfl⟩
  refine yr_eq (yz_wo f (sp_n (τ.1 1) 5)).1 ?_ ?_
  · refine yp_bd (fun v => v = (yz_wo f (sp_n (τ.1 1) 5)).1) (yp_for (sp_n (τ.1 1) 5) (fun k s => s.2.2 = nI k ∧ s.1 = (yz_wo f k).1 ∧ s.2.1 = (yz_wo f k).2) (fun k s hk hs => ?_) (fun s hs => ?_) ⟨nI_0.symm, rfl, rfl⟩) (fun v hv => ?_)
    · obtain ⟨b, c, x⟩ := s
      obtain ⟨ex, eb, ec⟩ := hs
      have ex : x = nI k := ex
      have eb : b = _ := eb
      have ec : c = _ := ec
      subst ex
      subst eb
      subst ec
      have k1 : yz_wo f (k + 1) = if f k ≤ (yz_wo f k).2 then yz_wo f k else (nI k, f k) := rfl
      show yp (BX8_worst_16 σ _ _ (nI k)) _
      unfold BX8_worst_16 BX8_worst_52
      rw [show sn_I σ 27 1 = _ from e1, if_neg (nI_ge hk (by omega)), nI_clamp (show k < 2 ^ 31 by omega), show sn_I σ (27 + 10) k = _ from yz_sn hK hk, yb_count, yb_pop30 (fun j g1 g2 => yz_sbits m3 j (by omega) g2)]
      refine yp_gd (fun _ => yp_bs rfl ?_)
      rw [show nI (yb_pop (dy_sn (hs_day (τ.1 1)) (sp_n (τ.1 1) 0) k) 30) = f k by rw [hf]]
      refine yp_ite (fun c => yp_lt (yp_some ⟨nI_1 k, ?_, ?_⟩)) (fun c => yp_lt (yp_some ⟨nI_1 k, ?_, ?_⟩))
      · rw [k1, if_pos c]
      · rw [k1, if_pos c]
      · rw [k1, if_neg c]
      · rw [k1, if_neg c]
    · obtain ⟨b, c, x⟩ := s
      obtain ⟨ex, eb, ec⟩ := hs
      have ex : x = nI (sp_n (τ.1 1) 5) := ex
      subst ex
      show yp (BX8_worst_16 σ b c (nI (sp_n (τ.1 1) 5))) _
      unfold BX8_worst_16
      rw [show sn_I σ 27 1 = _ from e1, if_pos (nI_le (Nat.le_refl _) (by omega))]
      exact yp_some eb
    · unfold BX8_worst_58
      exact yp_some hv
  · refine yp_bd (fun v => v = (yz_wo f (sp_n (τ.1 1) 5)).1) (yp_for (sp_n (τ.1 1) 5) (fun k s => s.2.2 = nI k ∧ s.1 = (yz_wo f k).1 ∧ s.2.1 = (yz_wo f k).2) (fun k s hk hs => ?_) (fun s hs => ?_) ⟨nI_0.symm, rfl, rfl⟩) (fun v hv => ?_)
    · obtain ⟨b, c, x⟩ := s
      obtain ⟨ex, eb, ec⟩ := hs
      have ex : x = nI k := ex
      have eb : b = _ := eb
      have ec : c = _ := ec
      subst ex
      subst eb
      subst ec
      have k1 : yz_wo f (k + 1) = if f k ≤ (yz_wo f k).2 then yz_wo f k else (nI k, f k) := rfl
      show yp (BX9_worst_16 u _ _ (nI k)) _
      unfold BX9_worst_16 BX9_worst_54
      rw [show sn_I u 1 (5 : Int32).toNatClampNeg = _ from u5, if_neg (nI_ge hk (by omega)), nI_clamp (show k < 2 ^ 31 by omega), show sn_I u 10 k = _ from yz_msn hW hM hk]
      have fk : nI (yb_pop (dy_sn (hs_day (τ.1 1)) (sp_n (τ.1 1) 0) k) 30) = f k := by rw [hf]
      refine yp_gd (fun _ => yp_gd (fun _ => yp_bd _ (yb_mbits _) (fun t ht => ?_)))
      rw [ht, fk]
      refine yp_ite (fun c => yp_gd (fun _ => yp_bd _ (yb_mbits _) (fun t2 ht2 => yp_lt (yp_some ⟨nI_1 k, ?_, ?_⟩)))) (fun c => yp_lt (yp_some ⟨nI_1 k, ?_, ?_⟩))
      · rw [k1, if_neg (Int32.not_le.mpr c)]
      · rw [k1, if_neg (Int32.not_le.mpr c), ht2, fk]
      · rw [k1, if_pos (Int32.not_lt.mp c)]
      · rw [k1, if_pos (Int32.not_lt.mp c)]
    · obtain ⟨b, c, x⟩ := s
      obtain ⟨ex, eb, ec⟩ := hs
      have ex : x = nI (sp_n (τ.1 1) 5) := ex
      subst ex
      show yp (BX9_worst_16 u b c (nI (sp_n (τ.1 1) 5))) _
      unfold BX9_worst_16
      rw [show sn_I u 1 (5 : Int32).toNatClampNeg = _ from u5, if_pos (nI_le (Nat.le_refl _) (by omega))]
      exact yp_gd (fun _ => yp_some eb)
    · unfold BX9_worst_60
      exact yp_some hv
theorem yz_17 (hK : zK σ τ) : yr (fX8_chorus σ) (fX9_chorus τ) (fun r s => r = s.1) := by
  unfold fX8_chorus fX9_chorus
  refine yz_house hK (fun v u h10 hM => ?_)
  have hW := hK.2.1.1
  obtain ⟨-, ⟨p1, p2, p3⟩, ⟨m1, m2, m3⟩⟩ := yK_n hK
  have e0 : σ.1 27 0 = nI (sp_n (τ.1 1) 0) := hK.2.2.2.1
  have u0 : u.1 1 0 = nI (sp_n (τ.1 1) 0) := (congrFun hM.1 0).trans m2
  refine yr_eq (yz_mx (fun m => nI (yb_pop (dy_who (hs_day (τ.1 1)) m) 30)) (sp_n (τ.1 1) 0)) ?_ ?_
  · refine yp_bd (fun v => v = (yz_mx (fun m => nI (yb_pop (dy_who (hs_day (τ.1 1)) m) 30)) (sp_n (τ.1 1) 0))) (yp_for (sp_n (τ.1 1) 0) (fun k s => s.2 = nI k ∧ s.1 = yz_mx (fun m => nI (yb_pop (dy_who (hs_day (τ.1 1)) m) 30)) k) (fun k s hk hs => ?_) (fun s hs => ?_) ⟨nI_0.symm, rfl⟩) (fun v hv => ?_)
    · obtain ⟨v, x⟩ := s
      obtain ⟨ex, ev⟩ := hs
      have ex : x = nI k := ex
      have ev : v = _ := ev
      subst ex
      subst ev
      show yp (BX8_chorus_14 σ _ (nI k)) _
      unfold BX8_chorus_14
      rw [show sn_I σ 27 0 = _ from e0, if_neg (nI_ge hk (by omega)), nI_clamp (show k < 2 ^ 31 by omega), show sn_I σ (27 + 9) k = _ from yz_who hK hk, yb_count, yb_pop30 (fun j g1 g2 => yz_wbits (i := hs_day (τ.1 1)) p3 j (by show sp_n (τ.1 1) 5 ≤ j; omega) g2)]
      exact yp_gd (fun _ => yp_bs rfl (yp_lt (yp_lt (yp_some ⟨nI_1 k, rfl⟩))))
    · obtain ⟨v, x⟩ := s
      obtain ⟨ex, ev⟩ := hs
      have ex : x = nI (sp_n (τ.1 1) 0) := ex
      subst ex
      show yp (BX8_chorus_14 σ v (nI (sp_n (τ.1 1) 0))) _
      unfold BX8_chorus_14
      rw [show sn_I σ 27 0 = _ from e0, if_pos (nI_le (Nat.le_refl _) (by omega))]
      exact yp_some ev
    · unfold BX8_chorus_48
      exact yp_some hv
  · refine yp_bd (fun v => v = (yz_mx (fun m => nI (yb_pop (dy_who (hs_day (τ.1 1)) m) 30)) (sp_n (τ.1 1) 0))) (yp_for (sp_n (τ.1 1) 0) (fun k s => s.2 = nI k ∧ s.1 = yz_mx (fun m => nI (yb_pop (dy_who (hs_day (τ.1 1)) m) 30)) k) (fun k s hk hs => ?_) (fun s hs => ?_) ⟨nI_0.symm, rfl⟩) (fun v hv => ?_)
    · obtain ⟨v, x⟩ := s
      obtain ⟨ex, ev⟩ := hs
      have ex : x = nI k := ex
      have ev : v = _ := ev
      subst ex
      subst ev
      show yp (BX9_chorus_14 u _ (nI k)) _
      unfold BX9_chorus_14 fX9_minutes
      refine yp_bd (fun t => t = nI (sp_n (τ.1 1) 0)) (yp_gd (fun _ => yp_some u0)) (fun t ht => ?_)
      rw [ht, if_neg (nI_ge hk (by omega)), nI_clamp (show k < 2 ^ 31 by omega), show sn_I u 11 k = _ from yz_mwho hM hk]
      exact yp_gd (fun _ => yp_bd _ (yb_mbits _) (fun t2 ht2 => yp_lt (yp_lt (yp_some ⟨nI_1 k, by rw [ht2]; rfl⟩))))
    · obtain ⟨v, x⟩ := s
      obtain ⟨ex, ev⟩ := hs
      have ex : x = nI (sp_n (τ.1 1) 0) := ex
      subst ex
      show yp (BX9_chorus_14 u v (nI (sp_n (τ.1 1) 0))) _
      unfold BX9_chorus_14 fX9_minutes
      refine yp_bd (fun t => t = nI (sp_n (τ.1 1) 0)) (yp_gd (fun _ => yp_some u0)) (fun t ht => ?_)
      rw [ht, if_pos (nI_le (Nat.le_refl _) (by omega))]
      exact yp_some ev
    · unfold BX9_chorus_42
      exact yp_some hv
/-- the most, and how many now -/
def yz_ca (f : Nat → Int32) : Nat → Int32 × Int32
  | 0 => (0, 0)
  | n + 1 => (if (yz_ca f n).1 < (if f n = 0 then (yz_ca f n).2 + 1 else 0) then (if f n = 0 then (yz_ca f n).2 + 1 else 0) else (yz_ca f n).1, if f n = 0 then (yz_ca f n).2 + 1 else 0)
theorem yz_18 (hK : zK σ τ) : yr (fX8_calm σ) (fX9_calm τ) (fun r s => r = s.1) := by
  unfold fX8_calm fX9_calm
  refine yz_house hK (fun v u h10 hM => ?_)
  obtain ⟨-, ⟨p1, p2, p3⟩, ⟨m1, m2, m3⟩⟩ := yK_n hK
  have e0 : σ.1 27 0 = nI (sp_n (τ.1 1) 0) := hK.2.2.2.1
  have u0 : u.1 1 0 = nI (sp_n (τ.1 1) 0) := (congrFun hM.1 0).trans m2
  obtain ⟨f, hf⟩ : ∃ f : Nat → Int32, f = fun m => dy_who (hs_day (τ.1 1)) m := ⟨_, rfl⟩
  have k1 : ∀ k, yz_ca f (k + 1) = (if (yz_ca f k).1 < (if f k = 0 then (yz_ca f k).2 + 1 else 0) then (if f k = 0 then (yz_ca f k).2 + 1 else 0) else (yz_ca f k).1, if f k = 0 then (yz_ca f k).2 + 1 else 0) := fun k => rfl
  refine yr_eq (yz_ca f (sp_n (τ.1 1) 0)).1 ?_ ?_
  · refine yp_bd (fun v => v = (yz_ca f (sp_n (τ.1 1) 0)).1) (yp_for (sp_n (τ.1 1) 0) (fun k s => s.2.2 = nI k ∧ s.1 = (yz_ca f k).1 ∧ s.2.1 = (yz_ca f k).2) (fun k s hk hs => ?_) (fun s hs => ?_) ⟨nI_0.symm, rfl, rfl⟩) (fun v hv => ?_)
    · obtain ⟨b, c, x⟩ := s
      obtain ⟨ex, eb, ec⟩ := hs
      have ex : x = nI k := ex
      have eb : b = _ := eb
      have ec : c = _ := ec
      subst ex
      subst eb
      subst ec
      show yp (BX8_calm_16 σ _ _ (nI k)) _
      unfold BX8_calm_16 BX8_calm_46
      rw [show sn_I σ 27 0 = _ from e0, if_neg (nI_ge hk (by omega)), nI_clamp (show k < 2 ^ 31 by omega), show sn_I σ (27 + 9) k = f k by rw [hf]; exact yz_who hK hk]
      refine yp_gd (fun _ => yp_ite (fun c => yp_lt (yp_lt (yp_some ⟨nI_1 k, ?_, ?_⟩))) (fun c => yp_lt (yp_lt (yp_some ⟨nI_1 k, ?_, ?_⟩))))
      · rw [k1, if_pos c]
      · rw [k1, if_pos c]
      · rw [k1, if_neg c]
      · rw [k1, if_neg c]
    · obtain ⟨b, c, x⟩ := s
      obtain ⟨ex, eb, ec⟩ := hs
      have ex : x = nI (sp_n (τ.1 1) 0) := ex
      subst ex
      show yp (BX8_calm_16 σ b c (nI (sp_n (τ.1 1) 0))) _
      unfold BX8_calm_16
      rw [show sn_I σ 27 0 = _ from e0, if_pos (nI_le (Nat.le_refl _) (by omega))]
      exact yp_some eb
    · unfold BX8_calm_59
      exact yp_some hv
  · refine yp_bd (fun v => v = (yz_ca f (sp_n (τ.1 1) 0)).1) (yp_for (sp_n (τ.1 1) 0) (fun k s => s.2.2 = nI k ∧ s.1 = (yz_ca f k).1 ∧ s.2.1 = (yz_ca f k).2) (fun k s hk hs => ?_) (fun s hs => ?_) ⟨nI_0.symm, rfl, rfl⟩) (fun v hv => ?_)
    · obtain ⟨b, c, x⟩ := s
      obtain ⟨ex, eb, ec⟩ := hs
      have ex : x = nI k := ex
      have eb : b = _ := eb
      have ec : c = _ := ec
      subst ex
      subst eb
      subst ec
      show yp (BX9_calm_16 u _ _ (nI k)) _
      unfold BX9_calm_16 BX9_calm_40 fX9_minutes
      refine yp_bd (fun t => t = nI (sp_n (τ.1 1) 0)) (yp_gd (fun _ => yp_some u0)) (fun t ht => ?_)
      rw [ht, if_neg (nI_ge hk (by omega)), nI_clamp (show k < 2 ^ 31 by omega), show sn_I u 11 k = f k by rw [hf]; exact yz_mwho hM hk]
      refine yp_gd (fun _ => yp_ite (fun c => yp_lt (yp_lt (yp_some ⟨nI_1 k, ?_, ?_⟩))) (fun c => yp_lt (yp_lt (yp_some ⟨nI_1 k, ?_, ?_⟩))))
      · rw [k1, if_pos c]
      · rw [k1, if_pos c]
      · rw [k1, if_neg c]
      · rw [k1, if_neg c]
    · obtain ⟨b, c, x⟩ := s
      obtain ⟨ex, eb, ec⟩ := hs
      have ex : x = nI (sp_n (τ.1 1) 0) := ex
      subst ex
      show yp (BX9_calm_16 u b c (nI (sp_n (τ.1 1) 0))) _
      unfold BX9_calm_16 fX9_minutes
      refine yp_bd (fun t => t = nI (sp_n (τ.1 1) 0)) (yp_gd (fun _ => yp_some u0)) (fun t ht => ?_)
      rw [ht, if_pos (nI_le (Nat.le_refl _) (by omega))]
      exact yp_some eb
    · unfold BX9_calm_53
      exact yp_some hv
theorem yb_firstFrom (x : Int32) {m : Nat} (hm : m < 30 + 1) : yp (fX9_firstFrom x (nI m)) (fun r => yb_F x m r) := by
  unfold fX9_firstFrom
  refine yp_bd (fun t => (t = Sum.inl () ∧ ∀ k, m ≤ k → k < 30 → sp_bit x k = false) ∨ ∃ k, m ≤ k ∧ k < 30 ∧ sp_bit x k = true ∧ (∀ j, m ≤ j → j < k → sp_bit x j = false) ∧ t = Sum.inr (nI k)) (yp_it (fun s => ∃ k, m ≤ k ∧ k ≤ 30 ∧ s = nI k ∧ ∀ j, m ≤ j → j < k → sp_bit x j = false) (fun s hs => ?_) _ _ ⟨m, Nat.le_refl _, by omega, rfl, fun j h1 h2 => absurd h1 (by omega)⟩) (fun t ht => ?_)
  · obtain ⟨k, hm2, hk, e, h⟩ := hs
    subst e
    show yp (BX9_firstFrom_2 x (nI k)) _
    unfold BX9_firstFrom_2
    refine yp_ite (fun c => yp_some (Or.inl ⟨rfl, ?_⟩)) (fun c => ?_)
    · have : k = 30 := by
        rcases Nat.lt_or_ge k 30 with g | g
        · exact absurd c (nI_ge (b := 30) g (by decide))
        · omega
      subst this
      exact h
    · have k30 : k < 30 := by
        rcases Nat.lt_or_ge k 30 with g | g
        · exact g
        · exact absurd (nI_le (a := 30) g (by omega)) c
      rw [yb_m]
      refine yp_bit (fun b => ?_) (fun b => ?_)
      · rw [if_pos rfl]
        exact yp_some (Or.inr ⟨k, hm2, k30, b, h, rfl⟩)
      · rw [if_neg (by decide)]
        refine yp_lt (yp_some ⟨k + 1, by omega, k30, nI_1 k, fun j hj1 hj2 => ?_⟩)
        by_cases e : j = k
        · rw [e]; exact b
        · exact h j hj1 (by omega)
  · rcases ht with ⟨e, h⟩ | ⟨k, k0, k1, k2, k3, e⟩
    · subst e
      show yp (BX9_firstFrom_25) _
      unfold BX9_firstFrom_25
      exact yp_some (Or.inl ⟨rfl, h⟩)
    · subst e
      exact yp_some (Or.inr ⟨k, k0, k1, k2, k3, rfl⟩)
theorem yb_xor1 (x : Int32) {j : Nat} (hj : j < 32) : sp_bit (x ^^^ (-1 : Int32)) j = !sp_bit x j := by
  have e : (x ^^^ (-1 : Int32)).toBitVec = x.toBitVec ^^^ (-1 : Int32).toBitVec := rfl
  have e1 : (-1 : Int32).toBitVec = BitVec.allOnes 32 := by decide
  rw [yb_tb _ hj, yb_tb _ hj, e, e1, BitVec.getLsbD_xor, BitVec.getLsbD_allOnes]
  simp [hj]
theorem yz_20 {a b : Int32} (hK : zK σ τ) : yr (fX8_later σ a b) (fX9_later τ a b) (fun r s => r = s.1) := by
  obtain ⟨-, ⟨p1, p2, p3⟩, ⟨m1, m2, m3⟩⟩ := yK_n hK
  have hW := hK.2.1.1
  unfold fX8_later fX9_later
  rw [c_isPerson, c_isMinute, p1, m1]
  intro r s e1 e2
  obtain ⟨⟨v, u⟩, e3, e4⟩ := sn_bd e2
  obtain ⟨hv, hM⟩ := ym_askM rfl hW _ e3
  have hv : v = _ := hv
  have hM : yM τ u (τ.1 1) := hM
  have e4 : (if v = 0 then some ((-2 : Int32), u) else (fX9_isPerson u a.toInt64).bind _) = some s := e4
  by_cases cp : 0 ≤ a ∧ a < τ.1 1 5
  · rw [if_pos cp] at e1
    have e1 : (if (1 : Int32) = 0 then some (-2 : Int32) else _) = some r := e1
    rw [if_neg (by decide)] at e1
    by_cases cm : 0 ≤ b ∧ b < τ.1 1 0
    · rw [if_pos cm] at e1 hv
      have e1 : (if (1 : Int32) = 0 then some (-2 : Int32) else _) = some r := e1
      rw [if_neg (by decide)] at e1
      rw [hv, if_neg (by decide), ym_isP hW hM, if_pos cp] at e4
      have e4 : (if (1 : Int32) = 0 then some ((-2 : Int32), u) else _) = some s := e4
      rw [if_neg (by decide)] at e4
      obtain ⟨p, hp, ep⟩ := yK_p (by omega) p2 cp
      obtain ⟨m, hm, em⟩ := yK_p (by omega) m2 cm
      subst ep
      subst em
      obtain ⟨x, hx⟩ : ∃ x, x = dy_sn (hs_day (τ.1 1)) (sp_n (τ.1 1) 0) p := ⟨_, rfl⟩
      rw [nI_clamp (show p < 2 ^ 31 by omega)] at e1 e4
      obtain ⟨_, e5⟩ := sn_gdE e4
      rw [show sn_I u 10 p = x from (yz_msn hW hM hp).trans hx.symm] at e5
      obtain ⟨t, e6, e7⟩ := sn_bd e5
      cases e7
      have f2 : yb_F x m t := yb_firstFrom x (by omega) _ e6
      obtain ⟨_, e8⟩ := sn_gdE e1
      obtain ⟨w, e9, e10⟩ := sn_bd e8
      have ew : w = ((1 : Int32) <<< (nI m &&& 31)) - (1 : Int32) := (Option.some.inj e9).symm
      rw [show sn_I σ (27 + 10) p = x from (yz_sn hK hp).trans hx.symm, ew] at e10
      obtain ⟨t2, e11, e12⟩ := sn_bd e10
      cases e12
      have bx : ∀ k, k < 32 → sp_bit (x &&& ((((1 : Int32) <<< (nI m &&& 31)) - (1 : Int32)) ^^^ (-1 : Int32))) k = (sp_bit x k && !decide (k < m)) := fun k hk => by
        rw [yb_and _ _ hk, yb_xor1 _ hk, yb_low m (by omega) k hk]
      have f1 := yb_lowest (fun k h1 h2 => by
        rw [bx k h2, hx, yz_sbits m3 k (by omega) h2]
        rfl) _ e11
      have f3 : yb_F x m r := yb_Fx (fun k hk => by
        rw [bx k (by omega)]
        constructor
        · rintro ⟨-, h⟩
          simp at h
          exact ⟨h.2, h.1⟩
        · rintro ⟨h1, h2⟩
          refine ⟨Nat.zero_le _, ?_⟩
          simp
          exact ⟨h2, h1⟩) f1
      exact yb_F1 f3 f2
    · rw [if_neg cm] at e1 hv
      rw [hv, if_pos rfl] at e4
      have e1 : some (-2 : Int32) = some r := e1
      cases e1
      cases e4
      rfl
  · rw [if_neg cp] at e1
    have e1 : some (-2 : Int32) = some r := e1
    cases e1
    by_cases c : v = 0
    · rw [if_pos c] at e4
      cases e4
      rfl
    · rw [if_neg c, ym_isP hW hM, if_neg cp] at e4
      have e4 : some ((-2 : Int32), u) = some s := e4
      cases e4
      rfl
end
end
section
/-! who is beside whom -/
def yn_nb (na nb : Nat → Nat) (p o : Nat) : Nat → Bool
  | 0 => false
  | k + 1 => yn_nb na nb p o k || (decide (na k = p ∧ nb k = o) || decide (nb k = p ∧ na k = o))
theorem yn_nb0 {na nb : Nat → Nat} {p o P : Nat} (ho : P ≤ o) : ∀ n, (∀ k, k < n → na k < P ∧ nb k < P) → yn_nb na nb p o n = false := by
  intro n
  induction n with
  | zero => intro _; rfl
  | succ n ih =>
    intro h
    show (yn_nb na nb p o n || (decide (na n = p ∧ nb n = o) || decide (nb n = p ∧ na n = o))) = false
    have g := h n (by omega)
    rw [ih (fun k hk => h k (by omega)), decide_eq_false (by omega), decide_eq_false (by omega)]
    rfl
theorem yn_cntn {na nb : Nat → Nat} {p o : Nat} (ho : o < 32) : ∀ n, n ≤ 8 → (∀ k, k < n → na k < 6 ∧ nb k < 6) → ((0 < dy_cnt na nb (-1) p ((1 : Int32) <<< (nI o &&& 31)) n) ↔ yn_nb na nb p o n = true) := by
  intro n
  induction n with
  | zero =>
    intro _ _
    exact ⟨fun h => absurd h (show ¬ 0 < 0 by decide), fun h => absurd h (show ¬ false = true by decide)⟩
  | succ n ih =>
    intro hn h
    have g := h n (by omega)
    have i := ih (by omega) (fun k hk => h k (by omega))
    have ne : ¬ nI n = (-1 : Int32) := fun e => by
      have e2 := congrArg Int32.toInt e
      rw [nI_toInt (by omega), show (-1 : Int32).toInt = -1 by decide] at e2
      omega
    show (0 < dy_cnt na nb (-1) p ((1 : Int32) <<< (nI o &&& 31)) n + (if ¬ nI n = (-1 : Int32) ∧ ((na n = p ∧ sp_bit ((1 : Int32) <<< (nI o &&& 31)) (nb n) = true) ∨ (nb n = p ∧ sp_bit ((1 : Int32) <<< (nI o &&& 31)) (na n) = true)) then 1 else 0)) ↔ (yn_nb na nb p o n || (decide (na n = p ∧ nb n = o) || decide (nb n = p ∧ na n = o))) = true
    rw [yb_1k ho (show nb n < 32 by omega), yb_1k ho (show na n < 32 by omega)]
    have e : (¬ nI n = (-1 : Int32) ∧ ((na n = p ∧ decide (nb n = o) = true) ∨ (nb n = p ∧ decide (na n = o) = true))) ↔ ((na n = p ∧ nb n = o) ∨ (nb n = p ∧ na n = o)) := by
      constructor
      · rintro ⟨-, h⟩
        rcases h with ⟨a, b⟩ | ⟨a, b⟩
        · exact Or.inl ⟨a, of_decide_eq_true b⟩
        · exact Or.inr ⟨a, of_decide_eq_true b⟩
      · intro h
        refine ⟨ne, ?_⟩
        rcases h with ⟨a, b⟩ | ⟨a, b⟩
        · exact Or.inl ⟨a, decide_eq_true b⟩
        · exact Or.inr ⟨a, decide_eq_true b⟩
    have r : (yn_nb na nb p o n || (decide (na n = p ∧ nb n = o) || decide (nb n = p ∧ na n = o))) = true ↔ (yn_nb na nb p o n = true ∨ ((na n = p ∧ nb n = o) ∨ (nb n = p ∧ na n = o))) := by
      rw [Bool.or_eq_true, Bool.or_eq_true, decide_eq_true_eq, decide_eq_true_eq]
    rw [r, ← i]
    by_cases c : (na n = p ∧ nb n = o) ∨ (nb n = p ∧ na n = o)
    · rw [if_pos (e.mpr c)]
      exact ⟨fun _ => Or.inr c, fun _ => by omega⟩
    · rw [if_neg (fun z => c (e.mp z))]
      exact ⟨fun h => Or.inl (by omega), fun h => h.elim (fun h => by omega) (fun h => absurd h c)⟩
section
variable {σ τ : sn_S}
theorem yc_neigh0 {na nb : Nat → Nat} {N p : Nat} (hp : p < 6) (hN : N ≤ 8) (e7 : sn_I σ (1 + 1) (7 : Int32).toNatClampNeg = nI N) (hab : ∀ k, k < N → sn_I σ (1 + 4) (2 * k) = nI (na k) ∧ sn_I σ (1 + 4) (2 * k + 1) = nI (nb k) ∧ na k < 6 ∧ nb k < 6) : yp (fX2_neighbours σ 1 (nI p)) (fun v => ∀ o, o < 32 → sp_bit v o = yn_nb na nb p o N) := by
  unfold fX2_neighbours
  refine yp_bd (fun v => ∀ o, o < 32 → sp_bit v o = yn_nb na nb p o N) (yp_for N (fun k s => s.2 = nI k ∧ ∀ o, o < 32 → sp_bit s.1 o = yn_nb na nb p o k) (fun k s hk hs => ?_) (fun s hs => ?_) ⟨nI_0.symm, fun o ho => by exact yb_z o ho⟩) (fun v hv => ?_)
  · obtain ⟨v, x⟩ := s
    obtain ⟨ex, hv⟩ := hs
    have ex : x = nI k := ex
    subst ex
    have hv : ∀ o, o < 32 → sp_bit v o = yn_nb na nb p o k := hv
    obtain ⟨ea, eb, la, lb⟩ := hab k hk
    have k1 : ∀ o, yn_nb na nb p o (k + 1) = (yn_nb na nb p o k || (decide (na k = p ∧ nb k = o) || decide (nb k = p ∧ na k = o))) := fun o => rfl
    have l69 : ∀ y : Int32, (∀ o, o < 32 → sp_bit y o = yn_nb na nb p o (k + 1)) → yp (BX2_neighbours_69 σ 1 (nI p) y (nI k)) (yp_sum (fun s : Int32 × Int32 => s.2 = nI (k + 1) ∧ ∀ o, o < 32 → sp_bit s.1 o = yn_nb na nb p o (k + 1)) (fun _ => False)) := fun y hy => by
      unfold BX2_neighbours_69
      exact yp_lt (yp_some ⟨nI_1 k, hy⟩)
    have l42 : ∀ y : Int32, (∀ o, o < 32 → sp_bit y o = (yn_nb na nb p o k || decide (na k = p ∧ nb k = o))) → yp (BX2_neighbours_42 σ 1 (nI p) y (nI k)) (yp_sum (fun s : Int32 × Int32 => s.2 = nI (k + 1) ∧ ∀ o, o < 32 → sp_bit s.1 o = yn_nb na nb p o (k + 1)) (fun _ => False)) := fun y hy => by
      unfold BX2_neighbours_42
      rw [yi_2, show nI (2 * k) + (1 : Int32) = nI (2 * k + 1) from nI_1 _, nI_clamp (show 2 * k < 2 ^ 31 by omega), nI_clamp (show 2 * k + 1 < 2 ^ 31 by omega), ea, eb]
      refine yp_gd (fun _ => yp_ite (fun c => yp_gd (fun _ => yp_lt (l69 _ (fun o ho => ?_)))) (fun c => l69 _ (fun o ho => ?_)))
      · have c := (nI_eq (by omega) (by omega)).mp c
        have d : decide (o = na k) = decide (nb k = p ∧ na k = o) := decide_eq_decide.mpr ⟨fun e => ⟨c, e.symm⟩, fun e => e.2.symm⟩
        rw [yb_or1 y (show na k < 32 by omega) ho, hy o ho, k1, Bool.or_assoc, d]
      · have d : decide (nb k = p ∧ na k = o) = false := decide_eq_false (fun e => c (congrArg nI e.1))
        rw [hy o ho, k1, d, Bool.or_false]
    show yp (BX2_neighbours_4 σ 1 (nI p) v (nI k)) _
    unfold BX2_neighbours_4
    rw [e7, if_neg (nI_ge hk (by omega)), yi_2, show nI (2 * k) + (1 : Int32) = nI (2 * k + 1) from nI_1 _, nI_clamp (show 2 * k < 2 ^ 31 by omega), nI_clamp (show 2 * k + 1 < 2 ^ 31 by omega), ea, eb]
    refine yp_gd (fun _ => yp_gd (fun _ => yp_ite (fun c => yp_gd (fun _ => yp_lt (l42 _ (fun o ho => ?_)))) (fun c => l42 _ (fun o ho => ?_))))
    · have c := (nI_eq (by omega) (by omega)).mp c
      have d : decide (o = nb k) = decide (na k = p ∧ nb k = o) := decide_eq_decide.mpr ⟨fun e => ⟨c, e.symm⟩, fun e => e.2.symm⟩
      rw [yb_or1 v (show nb k < 32 by omega) ho, hv o ho, d]
    · have d : decide (na k = p ∧ nb k = o) = false := decide_eq_false (fun e => c (congrArg nI e.1))
      rw [hv o ho, d, Bool.or_false]
  · obtain ⟨v, x⟩ := s
    obtain ⟨ex, hv⟩ := hs
    have ex : x = nI N := ex
    subst ex
    show yp (BX2_neighbours_4 σ 1 (nI p) v (nI N)) _
    unfold BX2_neighbours_4
    rw [e7, if_pos (nI_le (Nat.le_refl _) (by omega))]
    exact yp_gd (fun _ => yp_some hv)
  · unfold BX2_neighbours_75
    exact yp_some hv
theorem yc_neigh {w : Nat → Int32} (hW : jW w) (hH : yH 1 σ w) {p : Nat} (hp : p < 6) : yp (fX2_neighbours σ 1 (nI p)) (fun v => ∀ o, o < 32 → sp_bit v o = yn_nb (fun k => sp_n w (33 + 2 * k)) (fun k => sp_n w (34 + 2 * k)) p o (sp_n w 7)) := by
  obtain ⟨b7, l7⟩ := hW.1.2.2.2.2.2.2.2.1
  have l5 := hW.1.2.2.2.2.2.1.2
  refine yc_neigh0 hp l7 ((hH.1 7 (by decide)).trans b7) (fun k hk => ?_)
  obtain ⟨g1, g2, g3, g4, g5⟩ := hW.2.2.2.2.2.1 k hk
  refine ⟨(hH.2.2.2.1 (2 * k) (by omega)).trans g1, ?_, Nat.lt_of_lt_of_le g2 l5, Nat.lt_of_lt_of_le g4 l5⟩
  have h := hH.2.2.2.1 (2 * k + 1) (by omega)
  rw [show 33 + (2 * k + 1) = 34 + 2 * k by omega] at h
  exact h.trans g3
/-- whom a net joins to p: the reference's way -/
theorem ym_nb {u : sn_S} {w : Nat → Int32} (hW : jW w) (hT : ym_T u (hs_day w)) {p o : Nat} (hp : p < 6) (ho : o < 32) : yp (fX9_netsTo u (nI p) ((1 : Int32) <<< (nI o &&& 31))) (fun v => (v ≤ 0 ↔ yn_nb (fun k => sp_n w (33 + 2 * k)) (fun k => sp_n w (34 + 2 * k)) p o (sp_n w 7) = false)) := by
  have l7 := hW.1.2.2.2.2.2.2.2.1.2
  have ok := hs_ok hW
  refine yp_w (ym_nets hT ok hp _) (fun v hv => ?_)
  have key := yn_cntn (na := fun k => sp_n w (33 + 2 * k)) (nb := fun k => sp_n w (34 + 2 * k)) (p := p) ho (sp_n w 7) l7 (fun k hk => ⟨(ok.2.2 k hk).1, (ok.2.2 k hk).2.1⟩)
  have hv : v = nI (dy_cnt (fun k => sp_n w (33 + 2 * k)) (fun k => sp_n w (34 + 2 * k)) (-1) p ((1 : Int32) <<< (nI o &&& 31)) (sp_n w 7)) := hv
  have le : ∀ n, dy_cnt (fun k => sp_n w (33 + 2 * k)) (fun k => sp_n w (34 + 2 * k)) (-1) p ((1 : Int32) <<< (nI o &&& 31)) n ≤ n := by
    intro n
    induction n with
    | zero => exact Nat.le_refl _
    | succ n ih =>
      show dy_cnt _ _ (-1) p ((1 : Int32) <<< (nI o &&& 31)) n + (if _ then 1 else 0) ≤ n + 1
      split <;> omega
  have l := le (sp_n w 7)
  rw [hv]
  generalize dy_cnt (fun k => sp_n w (33 + 2 * k)) (fun k => sp_n w (34 + 2 * k)) (-1) p ((1 : Int32) <<< (nI o &&& 31)) (sp_n w 7) = n at key l ⊢
  by_cases c : 0 < n
  · have y := key.mp c
    exact ⟨fun h => absurd h (nI_nle c (by omega)), fun h => by rw [h] at y; cases y⟩
  · have z : n = 0 := by omega
    subst z
    refine ⟨fun _ => ?_, fun _ => by decide⟩
    cases e : yn_nb (fun k => sp_n w (33 + 2 * k)) (fun k => sp_n w (34 + 2 * k)) p o (sp_n w 7) with
    | false => rfl
    | true => exact absurd (key.mpr e) (by omega)
theorem yb_or0 (x : Int32) : x ||| (0 : Int32) = x := Int32.or_zero
theorem yz_6 {a : Int32} (hK : zK σ τ) : yr (fX8_beside σ a) (fX9_beside τ a) (fun r s => r = s.1) := by
  obtain ⟨-, ⟨p1, p2, p3⟩, -⟩ := yK_n hK
  have hW := hK.2.1.1
  unfold fX8_beside fX9_beside
  rw [c_isPerson, p1]
  by_cases cp : 0 ≤ a ∧ a < τ.1 1 5
  · obtain ⟨p, hp, ep⟩ := yK_p (by omega) p2 cp
    subst ep
    rw [if_pos cp]
    refine yr_of (A := fun v => ∀ o, o < 32 → sp_bit v o = yn_nb (fun k => sp_n (τ.1 1) (33 + 2 * k)) (fun k => sp_n (τ.1 1) (34 + 2 * k)) p o (sp_n (τ.1 1) 7)) (B := fun s => s.1 = dy_set (fun o => yn_nb (fun k => sp_n (τ.1 1) (33 + 2 * k)) (fun k => sp_n (τ.1 1) (34 + 2 * k)) p o (sp_n (τ.1 1) 7)) (sp_n (τ.1 1) 5)) ?_ ?_ (fun v s hv hs => ?_)
    · refine yp_bs rfl (yp_ite (fun x => absurd (show (1 : Int32) = 0 from x) (by decide)) (fun _ => ?_))
      exact yp_bd _ (yc_neigh hW hK.2.1.2 (show p < 6 by omega)) (fun v hv => yp_some hv)
    · refine yp_bd _ (ym_asItIs rfl hW) (fun z hz => ?_)
      have hT := ya_day rfl hW hz
      have z1 : z.1 1 = τ.1 1 := hz.1.1 1 (by decide) (by decide) (by decide) (by decide)
      have e5 : z.1 1 5 = nI (sp_n (τ.1 1) 5) := (congrFun z1 5).trans p2
      rw [m_isPerson (by rw [e5]; exact nI_pos' (by omega)), z1, if_pos cp]
      refine yp_bs rfl (yp_ite (fun x => absurd (show (1 : Int32) = 0 from x) (by decide)) (fun _ => ?_))
      obtain ⟨f, hf⟩ : ∃ f : Nat → Bool, f = fun o => yn_nb (fun k => sp_n (τ.1 1) (33 + 2 * k)) (fun k => sp_n (τ.1 1) (34 + 2 * k)) p o (sp_n (τ.1 1) 7) := ⟨_, rfl⟩
      rw [← hf]
      refine yp_bd (fun v => v = dy_set f (sp_n (τ.1 1) 5)) (yp_for (sp_n (τ.1 1) 5) (fun k s => s.2 = nI k ∧ s.1 = dy_set f k) (fun k s hk hs => ?_) (fun s hs => ?_) ⟨nI_0.symm, rfl⟩) (fun v hv => ?_)
      · obtain ⟨v, x⟩ := s
        obtain ⟨ex, ev⟩ := hs
        have ex : x = nI k := ex
        have ev : v = dy_set f k := ev
        subst ex
        subst ev
        have k1 : dy_set f (k + 1) = if f k = true then dy_set f k ||| ((1 : Int32) <<< (nI k &&& 31)) else dy_set f k := rfl
        show yp (BX9_beside_20 z (nI p) _ (nI k)) _
        unfold BX9_beside_20 BX9_beside_49
        rw [show sn_I z 1 (5 : Int32).toNatClampNeg = _ from e5, if_neg (nI_ge hk (by omega))]
        refine yp_gd (fun _ => yp_bd _ (ym_nb hW hT (show p < 6 by omega) (show k < 32 by omega)) (fun t ht => ?_))
        rw [show yn_nb (fun k => sp_n (τ.1 1) (33 + 2 * k)) (fun k => sp_n (τ.1 1) (34 + 2 * k)) p k (sp_n (τ.1 1) 7) = f k by rw [hf]] at ht
        refine yp_ite (fun c => yp_lt (yp_lt (yp_some ⟨nI_1 k, ?_⟩))) (fun c => yp_lt (yp_lt (yp_some ⟨nI_1 k, ?_⟩)))
        · rw [k1, ht.mp c, if_neg (by decide)]
          exact yb_or0 _
        · rw [k1, if_pos]
          cases e : f k with
          | true => rfl
          | false => exact absurd (ht.mpr e) c
      · obtain ⟨v, x⟩ := s
        obtain ⟨ex, ev⟩ := hs
        have ex : x = nI (sp_n (τ.1 1) 5) := ex
        subst ex
        show yp (BX9_beside_20 z (nI p) v (nI (sp_n (τ.1 1) 5))) _
        unfold BX9_beside_20
        rw [show sn_I z 1 (5 : Int32).toNatClampNeg = _ from e5, if_pos (nI_le (Nat.le_refl _) (by omega))]
        exact yp_gd (fun _ => yp_some ev)
      · unfold BX9_beside_57
        exact yp_some hv
    · rw [hs]
      refine yb_ext (fun o ho => ?_)
      rw [hv o ho, yb_set _ (by omega) o ho]
      by_cases c : o < sp_n (τ.1 1) 5
      · rw [decide_eq_true c, Bool.true_and]
      · rw [decide_eq_false c, Bool.false_and]
        exact yn_nb0 (P := sp_n (τ.1 1) 5) (by omega) _ (fun k hk => ⟨(hW.2.2.2.2.2.1 k hk).2.1, (hW.2.2.2.2.2.1 k hk).2.2.2.1⟩)
  · rw [if_neg cp]
    refine yr_eq (-2) (yp_bs rfl (yp_ite (fun _ => yp_some rfl) (fun x => absurd (show (0 : Int32) = 0 from rfl) x))) ?_
    refine yp_bd _ (ym_asItIs rfl hW) (fun z hz => ?_)
    have z1 : z.1 1 = τ.1 1 := hz.1.1 1 (by decide) (by decide) (by decide) (by decide)
    have e5 : z.1 1 5 = nI (sp_n (τ.1 1) 5) := (congrFun z1 5).trans p2
    rw [m_isPerson (by rw [e5]; exact nI_pos' (by omega)), z1, if_neg cp]
    exact yp_bs rfl (yp_ite (fun _ => yp_some rfl) (fun x => absurd (show (0 : Int32) = 0 from rfl) x))
theorem yz_15 {a : Int32} (hK : zK σ τ) : yr (fX8_gave σ a) (fX9_gave τ a) (fun r s => r = s.1) := by
  unfold fX8_gave fX9_gave
  refine yz_pers hK (fun p v u hp ea hM => ?_)
  subst ea
  obtain ⟨-, ⟨p1, p2, p3⟩, ⟨m1, m2, m3⟩⟩ := yK_n hK
  have hW := hK.2.1.1
  obtain ⟨x, hx⟩ : ∃ x, x = dy_sn (hs_day (τ.1 1)) (sp_n (τ.1 1) 0) p := ⟨_, rfl⟩
  obtain ⟨nbf, hnb⟩ : ∃ nbf : Nat → Bool, nbf = fun o => yn_nb (fun k => sp_n (τ.1 1) (33 + 2 * k)) (fun k => sp_n (τ.1 1) (34 + 2 * k)) p o (sp_n (τ.1 1) 7) := ⟨_, rfl⟩
  have xb : ∀ k, sp_n (τ.1 1) 0 ≤ k → k < 32 → sp_bit x k = false := by
    rw [hx]
    exact yz_sbits m3
  have u5 : u.1 1 5 = nI (sp_n (τ.1 1) 5) := (congrFun hM.1 5).trans p2
  rw [nI_clamp (show p < 2 ^ 31 by omega)]
  refine yr_of (A := fun r => ∃ t, yb_F x 0 t ∧ ((1 ≤ t ∧ ∃ m, m + 1 < sp_n (τ.1 1) 0 ∧ t = nI (m + 1) ∧ ∀ o, o < 32 → sp_bit r o = (sp_bit (dy_who (hs_day (τ.1 1)) m) o && nbf o)) ∨ (¬ 1 ≤ t ∧ r = 0))) (B := fun s => ∃ t, yb_F x 0 t ∧ ((1 ≤ t ∧ ∃ m, m + 1 < sp_n (τ.1 1) 0 ∧ t = nI (m + 1) ∧ s.1 = dy_set (fun o => sp_bit (dy_who (hs_day (τ.1 1)) m) o && nbf o) (sp_n (τ.1 1) 5)) ∨ (¬ 1 ≤ t ∧ s.1 = 0))) ?_ ?_ ?_
  · refine yp_gd (fun _ => ?_)
    rw [show sn_I σ (27 + 10) p = x from (yz_sn hK hp).trans hx.symm]
    refine yp_bd _ (yb_lowest (fun k h1 h2 => xb k (by omega) h2)) (fun t ht => yp_ite (fun c => yp_gd (fun _ => ?_)) (fun c => yp_some ⟨t, ht, Or.inr ⟨c, rfl⟩⟩))
    refine yp_bd _ (yc_neigh hW hK.2.1.2 (show p < 6 by omega)) (fun n hn => yp_some ⟨t, ht, Or.inl ⟨c, ?_⟩⟩)
    obtain ⟨k, k1, k2, et⟩ : ∃ k, k < 30 ∧ sp_bit x k = true ∧ t = nI k := by
      rcases ht with ⟨e, _⟩ | ⟨k, _, k1, k2, _, e⟩
      · rw [e] at c
        exact absurd c (by decide)
      · exact ⟨k, k1, k2, e⟩
    have kM : k < sp_n (τ.1 1) 0 := by
      rcases Nat.lt_or_ge k (sp_n (τ.1 1) 0) with g | g
      · exact g
      · rw [xb k g (by omega)] at k2
        cases k2
    have k0 : 1 ≤ k := by
      rw [et] at c
      exact (nI_leI (a := 1) (by decide) (by omega)).mp c
    refine ⟨k - 1, by omega, by rw [et]; exact congrArg nI (by omega), fun o ho => ?_⟩
    rw [et, yi_s1 k0, nI_clamp (show k - 1 < 2 ^ 31 by omega), show sn_I σ (27 + 9) (k - 1) = _ from yz_who hK (show k - 1 < sp_n (τ.1 1) 0 by omega), yb_and _ _ ho, hn o ho, hnb]
  · refine yp_gd (fun _ => ?_)
    show yp ((fX9_firstOf (sn_I u 10 p)).bind _) _
    rw [show sn_I u 10 p = x from (yz_msn hW hM hp).trans hx.symm]
    refine yp_bd _ (yb_firstOf x) (fun t ht => ?_)
    by_cases c : 1 ≤ t
    · obtain ⟨k, k1, k2, et⟩ : ∃ k, k < 30 ∧ sp_bit x k = true ∧ t = nI k := by
        rcases ht with ⟨e, _⟩ | ⟨k, _, k1, k2, _, e⟩
        · rw [e] at c
          exact absurd c (by decide)
        · exact ⟨k, k1, k2, e⟩
      have kM : k < sp_n (τ.1 1) 0 := by
        rcases Nat.lt_or_ge k (sp_n (τ.1 1) 0) with g | g
        · exact g
        · rw [xb k g (by omega)] at k2
          cases k2
      have k0 : 1 ≤ k := by
        rw [et] at c
        exact (nI_leI (a := 1) (by decide) (by omega)).mp c
      obtain ⟨f, hf⟩ : ∃ f : Nat → Bool, f = fun o => sp_bit (dy_who (hs_day (τ.1 1)) (k - 1)) o && nbf o := ⟨_, rfl⟩
      refine yp_bd (fun v => v = dy_set f (sp_n (τ.1 1) 5)) (yp_for (sp_n (τ.1 1) 5) (fun j s => s.2 = nI j ∧ s.1 = dy_set f j) (fun j s hj hs => ?_) (fun s hs => ?_) ⟨nI_0.symm, rfl⟩) (fun v hv => ?_)
      · obtain ⟨v, y⟩ := s
        obtain ⟨ey, ev⟩ := hs
        have ey : y = nI j := ey
        have ev : v = dy_set f j := ev
        subst ey
        subst ev
        have j1 : dy_set f (j + 1) = if f j = true then dy_set f j ||| ((1 : Int32) <<< (nI j &&& 31)) else dy_set f j := rfl
        have fj : f j = (sp_bit (dy_who (hs_day (τ.1 1)) (k - 1)) j && nbf j) := by rw [hf]
        show yp (BX9_gave_26 u (nI p) t _ (nI j)) _
        unfold BX9_gave_26 BX9_gave_78 BX9_gave_79
        rw [show sn_I u 1 (5 : Int32).toNatClampNeg = _ from u5, if_neg (nI_ge hj (by omega)), et, if_neg (nI_nle (show 0 < k by omega) (by omega)), yi_s1 k0, nI_clamp (show k - 1 < 2 ^ 31 by omega), show sn_I u 11 (k - 1) = _ from yz_mwho hM (show k - 1 < sp_n (τ.1 1) 0 by omega), yb_m]
        refine yp_gd (fun _ => yp_gd (fun _ => yp_bit (fun b => ?_) (fun b => ?_)))
        · rw [if_pos rfl]
          refine yp_bd _ (ym_nb hW hM.2.2.2.2.2.2.2.2.2.1 (show p < 6 by omega) (show j < 32 by omega)) (fun n hn => ?_)
          rw [show yn_nb (fun k => sp_n (τ.1 1) (33 + 2 * k)) (fun k => sp_n (τ.1 1) (34 + 2 * k)) p j (sp_n (τ.1 1) 7) = nbf j by rw [hnb]] at hn
          refine yp_ite (fun c2 => yp_lt (yp_lt (yp_some ⟨nI_1 j, ?_⟩))) (fun c2 => yp_lt (yp_lt (yp_some ⟨nI_1 j, ?_⟩)))
          · rw [j1, fj, hn.mp c2, Bool.and_false, if_neg (by decide)]
            exact yb_or0 _
          · have e : nbf j = true := by
              cases e : nbf j with
              | true => rfl
              | false => exact absurd (hn.mpr e) c2
            rw [j1, fj, b, e]
            rfl
        · rw [if_neg (by decide)]
          refine yp_lt (yp_lt (yp_some ⟨nI_1 j, ?_⟩))
          rw [j1, fj, b, Bool.false_and, if_neg (by decide)]
          exact yb_or0 _
      · obtain ⟨v, y⟩ := s
        obtain ⟨ey, ev⟩ := hs
        have ey : y = nI (sp_n (τ.1 1) 5) := ey
        subst ey
        show yp (BX9_gave_26 u (nI p) t v (nI (sp_n (τ.1 1) 5))) _
        unfold BX9_gave_26
        rw [show sn_I u 1 (5 : Int32).toNatClampNeg = _ from u5, if_pos (nI_le (Nat.le_refl _) (by omega))]
        exact yp_gd (fun _ => yp_some ev)
      · unfold BX9_gave_87
        exact yp_some ⟨t, ht, Or.inl ⟨c, k - 1, by omega, by rw [et]; exact congrArg nI (by omega), by rw [← hf]; exact hv⟩⟩
    · have c0 : t ≤ 0 := by
        rcases ht with ⟨e, _⟩ | ⟨k, _, k1, k2, _, e⟩
        · rw [e]
          decide
        · have k0 : k = 0 := by
            rcases Nat.lt_or_ge 0 k with g | g
            · exact absurd (by rw [e]; exact nI_le (a := 1) g (by omega)) c
            · omega
          rw [e, k0]
          decide
      refine yp_bd (fun v => v = 0) (yp_it (fun s : Int32 × Int32 => s.1 = 0 ∧ s.2 = 0) (fun s hs => ?_) _ _ ⟨rfl, rfl⟩) (fun v hv => ?_)
      · obtain ⟨v, y⟩ := s
        obtain ⟨ev, ey⟩ := hs
        show yp (BX9_gave_26 u (nI p) t v y) _
        unfold BX9_gave_26
        exact yp_gd (fun _ => yp_ite (fun _ => yp_some ev) (fun _ => yp_ite (fun _ => yp_some ev) (fun z => absurd c0 z)))
      · unfold BX9_gave_87
        exact yp_some ⟨t, ht, Or.inr ⟨c, hv⟩⟩
  · rintro r s ⟨t, ht, h1⟩ ⟨t', ht', h2⟩
    have et := yb_F1 ht ht'
    subst et
    rcases h1 with ⟨c, m, hm, em, h1⟩ | ⟨c, h1⟩
    · rcases h2 with ⟨_, m', hm', em', h2⟩ | ⟨c2, _⟩
      · have e : m = m' := by
          have := (nI_eq (by omega) (by omega)).mp (em.symm.trans em')
          omega
        subst e
        rw [h2]
        refine yb_ext (fun o ho => ?_)
        rw [h1 o ho, yb_set _ (by omega) o ho]
        by_cases g : o < sp_n (τ.1 1) 5
        · rw [decide_eq_true g, Bool.true_and]
        · rw [decide_eq_false g, Bool.false_and, yz_wbits (i := hs_day (τ.1 1)) p3 o (by show sp_n (τ.1 1) 5 ≤ o; omega) ho, Bool.false_and]
      · exact absurd c c2
    · rcases h2 with ⟨c2, _⟩ | ⟨_, h2⟩
      · exact absurd c2 c
      · rw [h1, h2]
end
end
section
/-! windows of policies, both sides -/
theorem yb_V {x : Int32} {f : Nat → Bool} (h : ∀ k, k < 32 → sp_bit x k = f k) : x = dy_set f 32 := yb_ext (fun k hk => by rw [yb_set 32 (Nat.le_refl _) k hk, h k hk, decide_eq_true hk, Bool.true_and])
theorem yb_Vb {f : Nat → Bool} {k : Nat} (hk : k < 32) : sp_bit (dy_set f 32) k = f k := by rw [yb_set 32 (Nat.le_refl _) k hk, decide_eq_true hk, Bool.true_and]
theorem dy_s1 {f : Nat → Bool} {n : Nat} (h : f n = true) : dy_set f n ||| ((1 : Int32) <<< (nI n &&& 31)) = dy_set f (n + 1) := by
  show _ = if f n = true then _ else _
  rw [if_pos h]
theorem dy_s0 {f : Nat → Bool} {n : Nat} (h : f n = false) : dy_set f n = dy_set f (n + 1) := by
  show _ = if f n = true then _ else _
  rw [h, if_neg (by decide)]
theorem yb_win : ∀ a, a < 30 → ∀ b, b < 30 → a ≤ b → ((2 : Int32) <<< (nI b &&& 31)) - ((1 : Int32) <<< (nI a &&& 31)) = (((1 : Int32) <<< (nI (b + 1) &&& 31)) - 1) &&& ((((1 : Int32) <<< (nI a &&& 31)) - 1) ^^^ (-1 : Int32)) := by decide +kernel
theorem yb_wb {a b k : Nat} (ha : a < 30) (hb : b < 30) (h : a ≤ b) (hk : k < 32) : sp_bit (((2 : Int32) <<< (nI b &&& 31)) - ((1 : Int32) <<< (nI a &&& 31))) k = decide (a ≤ k ∧ k ≤ b) := by
  rw [yb_win a ha b hb h, yb_and _ _ hk, yb_low (b + 1) (by omega) k hk, yb_xor1 _ hk, yb_low a (by omega) k hk, Bool.eq_iff_iff]
  simp only [Bool.and_eq_true, Bool.not_eq_true', decide_eq_true_eq, decide_eq_false_iff_not]
  omega
def yl_w (w : Nat → Int32) (q k : Nat) : Bool := decide (sp_n w (50 + 5 * q) ≤ k ∧ k ≤ sp_n w (51 + 5 * q))
def yl_m (w : Nat → Int32) (q k : Nat) : Bool := yl_w w q k && decide (k < sp_n w 0)
def yl_cov (w : Nat → Int32) (f : Nat → Nat → Bool) (p : Nat) : Nat → Nat → Bool
  | 0, _ => false
  | n + 1, k => yl_cov w f p n k || (decide (sp_n w (49 + 5 * n) = p) && f n k)
theorem yl_covm {w : Nat → Int32} {p k : Nat} : ∀ n, yl_cov w (yl_m w) p n k = (yl_cov w (yl_w w) p n k && decide (k < sp_n w 0)) := by
  intro n
  induction n with
  | zero => rfl
  | succ n ih =>
    show (yl_cov w (yl_m w) p n k || (decide (sp_n w (49 + 5 * n) = p) && (yl_w w n k && decide (k < sp_n w 0)))) = ((yl_cov w (yl_w w) p n k || (decide (sp_n w (49 + 5 * n) = p) && yl_w w n k)) && decide (k < sp_n w 0))
    rw [ih]
    generalize yl_cov w (yl_w w) p n k = a
    generalize yl_w w n k = b
    generalize decide (sp_n w (49 + 5 * n) = p) = c
    generalize decide (k < sp_n w 0) = d
    cases a <;> cases b <;> cases c <;> cases d <;> rfl
section
variable {σ τ u : sn_S} {w : Nat → Int32} {q : Nat}
theorem yl_p (hW : jW w) (hq : q < sp_n w 8) : (w (49 + 5 * q) = nI (sp_n w (49 + 5 * q)) ∧ sp_n w (49 + 5 * q) < sp_n w 5) ∧ yh_n w (50 + 5 * q) 29 ∧ yh_n w (51 + 5 * q) 29 ∧ sp_n w (50 + 5 * q) ≤ sp_n w (51 + 5 * q) ∧ yh_n w (52 + 5 * q) 99 ∧ 1 ≤ sp_n w (52 + 5 * q) ∧ yh_n w (53 + 5 * q) 99 := hW.2.2.2.2.2.2.1 q hq
theorem yl_8 (hW : jW w) : w 8 = nI (sp_n w 8) ∧ sp_n w 8 ≤ 6 := hW.1.2.2.2.2.2.2.2.2.1
theorem yl_5 (hW : jW w) : w 5 = nI (sp_n w 5) ∧ sp_n w 5 ≤ 6 := hW.1.2.2.2.2.2.1
theorem yl_0 (hW : jW w) : w 0 = nI (sp_n w 0) ∧ sp_n w 0 ≤ 30 := hW.1.1
theorem yc_of (hW : jW w) (hH : yH 1 σ w) (hq : q < sp_n w 8) (x : Nat) (hx : x < 5) {y : Int32} (ey : y = nI x) : yp (fX2_ofPolicy σ 1 (nI q) y) (fun v => v = w (49 + x + 5 * q)) := by
  have c8 := (yl_8 hW).2
  subst ey
  unfold fX2_ofPolicy
  rw [yi_5, nI_add, nI_clamp (by omega)]
  exact yp_gd (fun _ => yp_some ((hH.2.2.2.2.1 (5 * q + x) (by omega)).trans (congrArg w (by omega))))
theorem ym_of (hW : jW w) (hu : u.1 1 = w) (hq : q < sp_n w 8) (x : Nat) (hx : x < 5) {y : Int32} (ey : y = nI x) : yp (fX9_of u (nI q) y) (fun v => v = w (49 + x + 5 * q)) := by
  have c8 := (yl_8 hW).2
  subst ey
  unfold fX9_of
  rw [yi_5, show (49 : Int32) + nI (5 * q) = nI (49 + 5 * q) from nI_add 49 _, nI_add, nI_clamp (by omega)]
  exact yp_gd (fun _ => yp_some ((congrFun hu _).trans (congrArg w (by omega))))
theorem yc_8 (hW : jW w) (hH : yH 1 σ w) : sn_I σ (1 + 1) (8 : Int32).toNatClampNeg = nI (sp_n w 8) := (hH.1 8 (by decide)).trans (yl_8 hW).1
theorem ym_8 (hW : jW w) (hu : u.1 1 = w) : sn_I u 1 (8 : Int32).toNatClampNeg = nI (sp_n w 8) := (congrFun hu 8).trans (yl_8 hW).1
theorem yc_win (hW : jW w) (hH : yH 1 σ w) (hq : q < sp_n w 8) : yp (fX2_window σ 1 (nI q)) (fun v => v = dy_set (yl_w w q) 32) := by
  obtain ⟨-, ⟨a1, a2⟩, ⟨b1, b2⟩, hab, -⟩ := yl_p hW hq
  have c8 := (yl_8 hW).2
  have e1 : sn_I σ (1 + 5) (nI (5 * q) + (1 : Int32)).toNatClampNeg = nI (sp_n w (50 + 5 * q)) := by
    rw [nI_1, nI_clamp (by omega)]
    exact (hH.2.2.2.2.1 (5 * q + 1) (by omega)).trans ((congrArg w (by omega)).trans a1)
  have e2 : sn_I σ (1 + 5) (nI (5 * q) + (2 : Int32)).toNatClampNeg = nI (sp_n w (51 + 5 * q)) := by
    rw [show nI (5 * q) + (2 : Int32) = nI (5 * q + 2) from nI_add _ 2, nI_clamp (by omega)]
    exact (hH.2.2.2.2.1 (5 * q + 2) (by omega)).trans ((congrArg w (by omega)).trans b1)
  unfold fX2_window
  rw [yi_5]
  refine yp_lt (yp_gd (fun _ => yp_gd (fun _ => yp_some ?_)))
  rw [e1, e2]
  exact yb_V (fun k hk => yb_wb (by omega) (by omega) hab hk)
theorem ym_win (hW : jW w) (hu : u.1 1 = w) (h22 : u.1 0 22 = nI (sp_n w 0) - 1) (hq : q < sp_n w 8) : yp (fX9_windowOf u (nI q)) (fun v => v = dy_set (yl_m w q) 32) := by
  obtain ⟨-, ⟨a1, a2⟩, ⟨b1, b2⟩, hab, -⟩ := yl_p hW hq
  have c0 := (yl_0 hW).2
  unfold fX9_windowOf
  refine yp_bd _ (ym_of hW hu hq 1 (by decide) rfl) (fun t ht => ?_)
  rw [ht, show w (49 + 1 + 5 * q) = nI (sp_n w (50 + 5 * q)) from a1]
  refine yp_bd (fun v => v = dy_set (yl_m w q) 32) (yp_it (fun s : Int32 × Int32 => ∃ m, sp_n w (50 + 5 * q) ≤ m ∧ m ≤ sp_n w (51 + 5 * q) + 1 ∧ (m ≤ sp_n w 0 ∨ m = sp_n w (50 + 5 * q)) ∧ s.2 = nI m ∧ ∀ k, k < 32 → sp_bit s.1 k = decide (sp_n w (50 + 5 * q) ≤ k ∧ k < m)) (fun s hs => ?_) _ _ ⟨sp_n w (50 + 5 * q), Nat.le_refl _, by omega, Or.inr rfl, rfl, fun k hk => ?_⟩) (fun v hv => ?_)
  · obtain ⟨v, x⟩ := s
    obtain ⟨m, h1, h2, h3, ex, hb⟩ := hs
    have ex : x = nI m := ex
    subst ex
    have hb : ∀ k, k < 32 → sp_bit v k = decide (sp_n w (50 + 5 * q) ≤ k ∧ k < m) := hb
    show yp (BX9_windowOf_9 u (nI q) v (nI m)) _
    unfold BX9_windowOf_9
    refine yp_bd _ (ym_of hW hu hq 2 (by decide) rfl) (fun t ht => ?_)
    rw [ht, show w (49 + 2 + 5 * q) = nI (sp_n w (51 + 5 * q)) from b1, show sn_I u 0 22 = _ from h22]
    refine yp_ite (fun c => yp_some (yb_V fun k hk => ?_)) (fun c => yp_ite (fun c2 => yp_some (yb_V fun k hk => ?_)) (fun c2 => ?_))
    · have c := (nI_ltI (by omega) (by omega)).mp c
      rw [hb k hk]
      unfold yl_m yl_w
      rw [Bool.eq_iff_iff]
      simp only [Bool.and_eq_true, decide_eq_true_eq]
      omega
    · have c2 := (yi_last c0 (by omega)).mp c2
      rw [hb k hk]
      unfold yl_m yl_w
      rw [Bool.eq_iff_iff]
      simp only [Bool.and_eq_true, decide_eq_true_eq]
      have c := fun h => c ((nI_ltI (by omega) (by omega)).mpr h)
      omega
    · have c : ¬ sp_n w (51 + 5 * q) < m := fun h => c ((nI_ltI (by omega) (by omega)).mpr h)
      have c2 : ¬ sp_n w 0 ≤ m := fun h => c2 ((yi_last c0 (by omega)).mpr h)
      refine yp_lt (yp_lt (yp_some ⟨m + 1, by omega, by omega, Or.inl (by omega), nI_1 m, fun k hk => ?_⟩))
      show sp_bit (v ||| ((1 : Int32) <<< (nI m &&& 31))) k = _
      rw [yb_or1 _ (by omega) hk, hb k hk, Bool.eq_iff_iff]
      simp only [Bool.or_eq_true, decide_eq_true_eq]
      omega
  · show sp_bit 0 k = _
    rw [yb_z k hk, decide_eq_false (by omega)]
  · unfold BX9_windowOf_39
    exact yp_some hv
theorem yc_cov (hW : jW w) (hH : yH 1 σ w) {p : Nat} (hp : p < 6) : yp (fX8_minutesCovered σ (nI p)) (fun v => v = dy_set (yl_cov w (yl_m w) p (sp_n w 8)) 32) := by
  have c8 := (yl_8 hW).2
  have c5 := (yl_5 hW).2
  have c0 := (yl_0 hW).2
  unfold fX8_minutesCovered
  refine yp_bd (fun v => ∀ k, k < 32 → sp_bit v k = yl_cov w (yl_w w) p (sp_n w 8) k) (yp_for (sp_n w 8) (fun n s => s.2 = nI n ∧ ∀ k, k < 32 → sp_bit s.1 k = yl_cov w (yl_w w) p n k) (fun n s hn hs => ?_) (fun s hs => ?_) ⟨nI_0.symm, fun k hk => by exact yb_z k hk⟩) (fun v hv => ?_)
  · obtain ⟨v, x⟩ := s
    obtain ⟨ex, hb⟩ := hs
    have ex : x = nI n := ex
    have hb : ∀ k, k < 32 → sp_bit v k = yl_cov w (yl_w w) p n k := hb
    subst ex
    obtain ⟨⟨q1, q2⟩, -⟩ := yl_p hW hn
    show yp (BX8_minutesCovered_4 σ (nI p) v (nI n)) _
    unfold BX8_minutesCovered_4
    rw [yc_8 hW hH, if_neg (nI_ge hn (by omega))]
    refine yp_gd (fun _ => yp_bd _ (yc_of hW hH hn 0 (by decide) nI_0.symm) (fun t ht => ?_))
    rw [ht, show w (49 + 0 + 5 * n) = nI (sp_n w (49 + 5 * n)) from q1]
    refine yp_ite (fun c => yp_bd _ (yc_win hW hH hn) (fun t2 ht2 => yp_lt ?_)) (fun c => ?_)
    · have c := (nI_eq (by omega) (by omega)).mp c
      unfold BX8_minutesCovered_42
      refine yp_lt (yp_some ⟨nI_1 n, fun k hk => ?_⟩)
      show sp_bit (v ||| t2) k = (yl_cov w (yl_w w) p n k || (decide (sp_n w (49 + 5 * n) = p) && yl_w w n k))
      rw [yb_or _ _ hk, hb k hk, ht2, yb_Vb hk, decide_eq_true c, Bool.true_and]
    · have c : ¬ sp_n w (49 + 5 * n) = p := fun h => c (congrArg nI h)
      unfold BX8_minutesCovered_42
      refine yp_lt (yp_some ⟨nI_1 n, fun k hk => ?_⟩)
      show sp_bit v k = (yl_cov w (yl_w w) p n k || (decide (sp_n w (49 + 5 * n) = p) && yl_w w n k))
      rw [hb k hk, decide_eq_false c, Bool.false_and, Bool.or_false]
  · obtain ⟨v, x⟩ := s
    obtain ⟨ex, hb⟩ := hs
    have ex : x = nI (sp_n w 8) := ex
    subst ex
    show yp (BX8_minutesCovered_4 σ (nI p) v (nI (sp_n w 8))) _
    unfold BX8_minutesCovered_4
    rw [yc_8 hW hH, if_pos (nI_le (Nat.le_refl _) (by omega))]
    exact yp_gd (fun _ => yp_some hb)
  · unfold BX8_minutesCovered_48 fX8_firstMinutes
    rw [show sn_I σ (1 + 1) (0 : Int32).toNatClampNeg = nI (sp_n w 0) from (hH.1 0 (by decide)).trans (yl_0 hW).1]
    refine yp_gd (fun _ => yp_bs rfl (yp_some (yb_V fun k hk => ?_)))
    rw [yb_and _ _ hk, hv k hk, yb_low _ (by omega) k hk, yl_covm]
theorem ym_cov (hW : jW w) (hu : u.1 1 = w) (h22 : u.1 0 22 = nI (sp_n w 0) - 1) {p : Nat} (hp : p < 6) : yp (fX9_coveredOf u (nI p)) (fun v => v = dy_set (yl_cov w (yl_m w) p (sp_n w 8)) 32) := by
  have c8 := (yl_8 hW).2
  have c5 := (yl_5 hW).2
  unfold fX9_coveredOf
  refine yp_bd (fun v => v = dy_set (yl_cov w (yl_m w) p (sp_n w 8)) 32) (yp_for (sp_n w 8) (fun n s => s.2 = nI n ∧ ∀ k, k < 32 → sp_bit s.1 k = yl_cov w (yl_m w) p n k) (fun n s hn hs => ?_) (fun s hs => ?_) ⟨nI_0.symm, fun k hk => by exact yb_z k hk⟩) (fun v hv => ?_)
  · obtain ⟨v, x⟩ := s
    obtain ⟨ex, hb⟩ := hs
    have ex : x = nI n := ex
    have hb : ∀ k, k < 32 → sp_bit v k = yl_cov w (yl_m w) p n k := hb
    subst ex
    obtain ⟨⟨q1, q2⟩, -⟩ := yl_p hW hn
    show yp (BX9_coveredOf_4 u (nI p) v (nI n)) _
    unfold BX9_coveredOf_4
    rw [ym_8 hW hu, if_neg (nI_ge hn (by omega))]
    refine yp_gd (fun _ => yp_bd _ (ym_of hW hu hn 0 (by decide) nI_0.symm) (fun t ht => ?_))
    rw [ht, show w (49 + 0 + 5 * n) = nI (sp_n w (49 + 5 * n)) from q1]
    refine yp_ite (fun c => yp_bd _ (ym_win hW hu h22 hn) (fun t2 ht2 => ?_)) (fun c => ?_)
    · have c := (nI_eq (by omega) (by omega)).mp c
      unfold BX9_coveredOf_35
      refine yp_lt (yp_lt (yp_some ⟨nI_1 n, fun k hk => ?_⟩))
      show sp_bit (v ||| t2) k = (yl_cov w (yl_m w) p n k || (decide (sp_n w (49 + 5 * n) = p) && yl_m w n k))
      rw [yb_or _ _ hk, hb k hk, ht2, yb_Vb hk, decide_eq_true c, Bool.true_and]
    · have c : ¬ sp_n w (49 + 5 * n) = p := fun h => c (congrArg nI h)
      unfold BX9_coveredOf_35
      refine yp_lt (yp_lt (yp_some ⟨nI_1 n, fun k hk => ?_⟩))
      show sp_bit (v ||| (0 : Int32)) k = (yl_cov w (yl_m w) p n k || (decide (sp_n w (49 + 5 * n) = p) && yl_m w n k))
      rw [yb_or0, hb k hk, decide_eq_false c, Bool.false_and, Bool.or_false]
  · obtain ⟨v, x⟩ := s
    obtain ⟨ex, hb⟩ := hs
    have ex : x = nI (sp_n w 8) := ex
    subst ex
    show yp (BX9_coveredOf_4 u (nI p) v (nI (sp_n w 8))) _
    unfold BX9_coveredOf_4
    rw [ym_8 hW hu, if_pos (nI_le (Nat.le_refl _) (by omega))]
    exact yp_gd (fun _ => yp_some (yb_V hb))
  · unfold BX9_coveredOf_43
    exact yp_some hv
theorem yM_22 (h : yM τ u w) : u.1 0 22 = nI (sp_n w 0) - 1 := h.2.2.2.2.2.2.1
theorem yz_21 {a : Int32} (hK : zK σ τ) : yr (fX8_covered σ a) (fX9_covered τ a) (fun r s => r = s.1) := by
  have hW := hK.2.1.1
  have c5 := (yl_5 hW).2
  unfold fX8_covered fX9_covered
  refine yz_pers hK (fun p v u hp ea hM => ?_)
  subst ea
  exact yr_eq _ (yp_bd _ (yc_cov hW hK.2.1.2 (by omega)) (fun t ht => yp_some ht)) (yp_bd _ (ym_cov hW hM.1 (yM_22 hM) (by omega)) (fun t ht => yp_some ht))
theorem yz_22 (hK : zK σ τ) : yr (fX8_naked σ) (fX9_naked τ) (fun r s => r = s.1) := by
  unfold fX8_naked fX9_naked
  refine yz_house hK (fun v u h10 hM => ?_)
  have hW := hK.2.1.1
  obtain ⟨-, ⟨p1, p2, p3⟩, ⟨m1, m2, m3⟩⟩ := yK_n hK
  have e1 : σ.1 27 1 = nI (sp_n (τ.1 1) 5) := hK.2.2.2.2.1.1
  have u5 : u.1 1 5 = nI (sp_n (τ.1 1) 5) := (congrFun hM.1 5).trans p2
  obtain ⟨f, hf⟩ : ∃ f : Nat → Bool, ∀ p, f p = !decide (dy_sn (hs_day (τ.1 1)) (sp_n (τ.1 1) 0) p &&& (dy_set (yl_cov (τ.1 1) (yl_m (τ.1 1)) p (sp_n (τ.1 1) 8)) 32 ^^^ (-1 : Int32)) = 0) := ⟨_, fun _ => rfl⟩
  refine yr_eq (dy_set f (sp_n (τ.1 1) 5)) ?_ ?_
  · refine yp_bd (fun v => v = dy_set f (sp_n (τ.1 1) 5)) (yp_for (sp_n (τ.1 1) 5) (fun k s => s.2 = nI k ∧ s.1 = dy_set f k) (fun k s hk hs => ?_) (fun s hs => ?_) ⟨nI_0.symm, rfl⟩) (fun v hv => ?_)
    · obtain ⟨v, x⟩ := s
      obtain ⟨ex, ev⟩ := hs
      have ex : x = nI k := ex
      have ev : v = _ := ev
      subst ex
      subst ev
      show yp (BX8_naked_14 σ _ (nI k)) _
      unfold BX8_naked_14 BX8_naked_51
      rw [show sn_I σ 27 1 = _ from e1, if_neg (nI_ge hk (by omega)), nI_clamp (show k < 2 ^ 31 by omega), show sn_I σ (27 + 10) k = _ from yz_sn hK hk]
      refine yp_gd (fun _ => yp_bd _ (yc_cov hW hK.2.1.2 (by omega)) (fun t ht => ?_))
      rw [ht]
      refine yp_ite (fun c => yp_lt (yp_some ⟨nI_1 k, dy_s0 ?_⟩)) (fun c => yp_lt (yp_lt (yp_some ⟨nI_1 k, dy_s1 ?_⟩)))
      · rw [hf k, decide_eq_true c]; rfl
      · rw [hf k, decide_eq_false c]; rfl
    · obtain ⟨v, x⟩ := s
      obtain ⟨ex, ev⟩ := hs
      have ex : x = nI (sp_n (τ.1 1) 5) := ex
      subst ex
      show yp (BX8_naked_14 σ v (nI (sp_n (τ.1 1) 5))) _
      unfold BX8_naked_14
      rw [show sn_I σ 27 1 = _ from e1, if_pos (nI_le (Nat.le_refl _) (by omega))]
      exact yp_some ev
    · unfold BX8_naked_57
      exact yp_some hv
  · refine yp_bd (fun v => v = dy_set f (sp_n (τ.1 1) 5)) (yp_for (sp_n (τ.1 1) 5) (fun k s => s.2 = nI k ∧ s.1 = dy_set f k) (fun k s hk hs => ?_) (fun s hs => ?_) ⟨nI_0.symm, rfl⟩) (fun v hv => ?_)
    · obtain ⟨v, x⟩ := s
      obtain ⟨ex, ev⟩ := hs
      have ex : x = nI k := ex
      have ev : v = _ := ev
      subst ex
      subst ev
      show yp (BX9_naked_14 u _ (nI k)) _
      unfold BX9_naked_14 BX9_naked_49
      rw [show sn_I u 1 (5 : Int32).toNatClampNeg = _ from u5, if_neg (nI_ge hk (by omega)), nI_clamp (show k < 2 ^ 31 by omega), show sn_I u 10 k = _ from yz_msn hW hM hk]
      refine yp_gd (fun _ => yp_gd (fun _ => yp_bd _ (ym_cov hW hM.1 (yM_22 hM) (by omega)) (fun t ht => ?_)))
      rw [ht]
      refine yp_ite (fun c => yp_lt (yp_lt (yp_some ⟨nI_1 k, (yb_or0 _).trans (dy_s0 ?_)⟩))) (fun c => yp_lt (yp_lt (yp_some ⟨nI_1 k, dy_s1 ?_⟩)))
      · rw [hf k, decide_eq_true c]; rfl
      · rw [hf k, decide_eq_false c]; rfl
    · obtain ⟨v, x⟩ := s
      obtain ⟨ex, ev⟩ := hs
      have ex : x = nI (sp_n (τ.1 1) 5) := ex
      subst ex
      show yp (BX9_naked_14 u v (nI (sp_n (τ.1 1) 5))) _
      unfold BX9_naked_14
      rw [show sn_I u 1 (5 : Int32).toNatClampNeg = _ from u5, if_pos (nI_le (Nat.le_refl _) (by omega))]
      exact yp_gd (fun _ => yp_some ev)
    · unfold BX9_naked_57
      exact yp_some hv
theorem yz_23 {a : Int32} (hK : zK σ τ) : yr (fX8_covers σ a) (fX9_covers τ a) (fun r s => r = s.1) := by
  have hW := hK.2.1.1
  have hH := hK.2.1.2
  have c8 := (yl_8 hW).2
  have c0 := (yl_0 hW).2
  unfold fX8_covers fX9_covers
  refine yz_min hK (fun m v u hm ea hM => ?_)
  subst ea
  obtain ⟨f, hf⟩ : ∃ f : Nat → Bool, ∀ q, f q = yl_w (τ.1 1) q m := ⟨_, fun _ => rfl⟩
  refine yr_eq (dy_set f (sp_n (τ.1 1) 8)) ?_ ?_
  · refine yp_bd (fun v => v = dy_set f (sp_n (τ.1 1) 8)) (yp_for (sp_n (τ.1 1) 8) (fun k s => s.2 = nI k ∧ s.1 = dy_set f k) (fun k s hk hs => ?_) (fun s hs => ?_) ⟨nI_0.symm, rfl⟩) (fun v hv => ?_)
    · obtain ⟨v, x⟩ := s
      obtain ⟨ex, ev⟩ := hs
      have ex : x = nI k := ex
      have ev : v = _ := ev
      subst ex
      subst ev
      show yp (BX8_covers_15 σ (nI m) _ (nI k)) _
      unfold BX8_covers_15 BX8_covers_50
      rw [yc_8 hW hH, if_neg (nI_ge hk (by omega))]
      refine yp_gd (fun _ => yp_bd _ (yc_win hW hH hk) (fun t ht => ?_))
      rw [ht, yb_c, yb_Vb (by omega)]
      refine yp_bit (fun c => ?_) (fun c => ?_)
      · rw [if_neg (by decide)]
        exact yp_lt (yp_lt (yp_some ⟨nI_1 k, dy_s1 ((hf k).trans c)⟩))
      · rw [if_pos rfl]
        exact yp_lt (yp_some ⟨nI_1 k, dy_s0 ((hf k).trans c)⟩)
    · obtain ⟨v, x⟩ := s
      obtain ⟨ex, ev⟩ := hs
      have ex : x = nI (sp_n (τ.1 1) 8) := ex
      subst ex
      show yp (BX8_covers_15 σ (nI m) v (nI (sp_n (τ.1 1) 8))) _
      unfold BX8_covers_15
      rw [yc_8 hW hH, if_pos (nI_le (Nat.le_refl _) (by omega))]
      exact yp_gd (fun _ => yp_some ev)
    · unfold BX8_covers_56
      exact yp_some hv
  · refine yp_bd (fun v => v = dy_set f (sp_n (τ.1 1) 8)) (yp_for (sp_n (τ.1 1) 8) (fun k s => s.2 = nI k ∧ s.1 = dy_set f k) (fun k s hk hs => ?_) (fun s hs => ?_) ⟨nI_0.symm, rfl⟩) (fun v hv => ?_)
    · obtain ⟨v, x⟩ := s
      obtain ⟨ex, ev⟩ := hs
      have ex : x = nI k := ex
      have ev : v = _ := ev
      subst ex
      subst ev
      show yp (BX9_covers_15 u (nI m) _ (nI k)) _
      unfold BX9_covers_15
      rw [ym_8 hW hM.1, if_neg (nI_ge hk (by omega))]
      refine yp_gd (fun _ => yp_bd _ (ym_win hW hM.1 (yM_22 hM) hk) (fun t ht => ?_))
      have em : yl_m (τ.1 1) k m = yl_w (τ.1 1) k m := by
        unfold yl_m
        rw [decide_eq_true hm, Bool.and_true]
      rw [ht, yb_m, yb_Vb (by omega), em]
      refine yp_bit (fun c => ?_) (fun c => ?_)
      · exact yp_lt (yp_lt (yp_some ⟨nI_1 k, dy_s1 ((hf k).trans c)⟩))
      · refine yp_lt (yp_lt (yp_some ⟨nI_1 k, ?_⟩))
        show _ ||| ((0 : Int32) <<< (nI k &&& 31)) = _
        rw [show (0 : Int32) <<< (nI k &&& 31) = 0 from Int32.zero_shiftLeft, yb_or0]
        exact dy_s0 ((hf k).trans c)
    · obtain ⟨v, x⟩ := s
      obtain ⟨ex, ev⟩ := hs
      have ex : x = nI (sp_n (τ.1 1) 8) := ex
      subst ex
      show yp (BX9_covers_15 u (nI m) v (nI (sp_n (τ.1 1) 8))) _
      unfold BX9_covers_15
      rw [ym_8 hW hM.1, if_pos (nI_le (Nat.le_refl _) (by omega))]
      exact yp_gd (fun _ => yp_some ev)
    · unfold BX9_covers_46
      exact yp_some hv
end
end
section
/-! claims, both sides -/
def yn_sum (f : Nat → Nat) : Nat → Nat
  | 0 => 0
  | n + 1 => yn_sum f n + f n
theorem yn_up {f g : Nat → Nat} {m a : Nat} (hm : g m = f m + a) (ho : ∀ k, k ≠ m → g k = f k) : ∀ n, yn_sum g n = yn_sum f n + if m < n then a else 0 := by
  intro n
  induction n with
  | zero => rfl
  | succ n ih =>
    show yn_sum g n + g n = yn_sum f n + f n + _
    rw [ih]
    by_cases e : m = n
    · subst e
      rw [hm, if_neg (by omega), if_pos (by omega)]
      omega
    · rw [ho n (by omega)]
      by_cases c : m < n
      · rw [if_pos c, if_pos (by omega)]; omega
      · rw [if_neg c, if_neg (by omega)]; omega
theorem yn_sumle {f : Nat → Nat} {b : Nat} : ∀ n, (∀ k, k < n → f k ≤ b) → yn_sum f n ≤ n * b := by
  intro n
  induction n with
  | zero => intro _; exact Nat.zero_le _
  | succ n ih =>
    intro h
    have h1 := ih (fun k hk => h k (by omega))
    have h2 := h n (by omega)
    show yn_sum f n + f n ≤ _
    rw [Nat.succ_mul]
    omega
def yl_fst (x : Int32) : Nat → Int32
  | 0 => -1
  | n + 1 => if yl_fst x n = -1 ∧ sp_bit x n = true then nI n else yl_fst x n
theorem yl_ne {k : Nat} (h : k < 100) : nI k ≠ -1 := by
  intro e
  have h1 := nI_toInt (show k < 2 ^ 31 by omega)
  rw [e, show (-1 : Int32).toInt = -1 by decide] at h1
  omega
theorem yl_F0 (x : Int32) : ∀ n, n ≤ 32 → (yl_fst x n = -1 ∧ ∀ k, k < n → sp_bit x k = false) ∨ ∃ k, k < n ∧ sp_bit x k = true ∧ (∀ j, j < k → sp_bit x j = false) ∧ yl_fst x n = nI k := by
  intro n
  induction n with
  | zero => intro _; exact Or.inl ⟨rfl, fun k hk => absurd hk (by omega)⟩
  | succ n ih =>
    intro hn
    have e : yl_fst x (n + 1) = if yl_fst x n = -1 ∧ sp_bit x n = true then nI n else yl_fst x n := rfl
    rcases ih (by omega) with ⟨h1, h2⟩ | ⟨k, h1, h2, h3, h4⟩
    · cases c : sp_bit x n with
      | true => exact Or.inr ⟨n, by omega, c, h2, by rw [e, if_pos ⟨h1, c⟩]⟩
      | false =>
        refine Or.inl ⟨?_, fun k hk => ?_⟩
        · rw [e, if_neg (fun h => by rw [c] at h; exact absurd h.2 (by decide))]
          exact h1
        · by_cases g : k = n
          · rw [g]; exact c
          · exact h2 k (by omega)
    · refine Or.inr ⟨k, by omega, h2, h3, ?_⟩
      rw [e, if_neg (fun h => yl_ne (by omega) (h4.symm.trans h.1))]
      exact h4
theorem yl_F (x : Int32) : yb_F x 0 (yl_fst x 30) := by
  rcases yl_F0 x 30 (by decide) with ⟨h1, h2⟩ | ⟨k, h1, h2, h3, h4⟩
  · exact Or.inl ⟨h1, fun k _ hk => h2 k hk⟩
  · exact Or.inr ⟨k, Nat.zero_le _, h1, h2, fun j _ hj => h3 j hj, h4⟩
/-- one bit fewer -/
theorem yb_pop1 {x y : Int32} {m : Nat} (hm : sp_bit x m = true) (h : ∀ k, k < 32 → sp_bit y k = (sp_bit x k && !decide (k = m))) : ∀ n, n ≤ 32 → yb_pop y n + (if m < n then 1 else 0) = yb_pop x n := by
  intro n
  induction n with
  | zero => intro _; rfl
  | succ n ih =>
    intro hn
    have e := ih (by omega)
    show yb_pop y n + (if sp_bit y n = true then 1 else 0) + _ = yb_pop x n + (if sp_bit x n = true then 1 else 0)
    rw [h n (by omega), ← e]
    by_cases c : n = m
    · subst c
      rw [decide_eq_true rfl, hm, if_neg (by decide), if_pos (by omega), if_neg (by omega), if_pos rfl]
    · rw [decide_eq_false c, Bool.not_false, Bool.and_true]
      by_cases g : m < n
      · rw [if_pos g, if_pos (show m < n + 1 by omega)]; omega
      · rw [if_neg g, if_neg (show ¬ m < n + 1 by omega), Nat.add_zero, Nat.add_zero]
theorem yb_popge {x : Int32} {k : Nat} (h : sp_bit x k = true) : ∀ n, k < n → 1 ≤ yb_pop x n := by
  intro n
  induction n with
  | zero => intro g; exact absurd g (by omega)
  | succ n ih =>
    intro g
    show 1 ≤ yb_pop x n + (if sp_bit x n = true then 1 else 0)
    by_cases e : k = n
    · subst e
      rw [if_pos h]
      omega
    · have := ih (by omega)
      omega
theorem yb_pop0 {n : Nat} : yb_pop 0 n ≤ 0 ∨ 32 ≤ n := by
  rcases Nat.lt_or_ge n 32 with c | c
  · exact Or.inl (Nat.le_of_eq (yb_popz n (fun k hk => yb_z k (by omega))))
  · exact Or.inr c
def yl_A (r : Int32) : Int32 := ((1 : Int32) <<< (r &&& 31)) - 1
/-- the sneezes by which a policy pays, of those in s -/
def yl_C (w : Nat → Int32) (l : Int32) (q : Nat) (s : Int32) : Int32 := dy_set (fun k => sp_bit s k && yl_w w q k && (!decide (l = 1) || !sp_bit (hs_gust w (sp_n w 6)) k)) 32
/-- what one sneeze brings -/
def yl_a (w : Nat → Int32) (l : Int32) (q : Nat) (s h : Int32) : Nat := if l = 3 ∧ ¬ h &&& (yl_A (yl_fst (yl_C w l q s) 30) &&& dy_set (yl_w w q) 32) = 0 then sp_n w (52 + 5 * q) / 2 else sp_n w (52 + 5 * q)
def yl_v (w : Nat → Int32) (l : Int32) (q : Nat) (s h : Int32) : Nat := min (if l = 2 then 3 else 1) (yb_pop (yl_C w l q s) 30) * yl_a w l q s h
section
variable {σ τ u z : sn_S} {w : Nat → Int32} {q : Nat} {l s h : Int32}
theorem yl_Cb {k : Nat} (hk : k < 32) : sp_bit (yl_C w l q s) k = (sp_bit s k && yl_w w q k && (!decide (l = 1) || !sp_bit (hs_gust w (sp_n w 6)) k)) := yb_Vb hk
theorem yl_Cs {k M : Nat} (hs : ∀ k, M ≤ k → k < 32 → sp_bit s k = false) (h1 : M ≤ k) (hk : k < 32) : sp_bit (yl_C w l q s) k = false := by
  rw [yl_Cb hk, hs k h1 hk]
  rfl
theorem yl_ale : yl_a w l q s h ≤ sp_n w (52 + 5 * q) := by
  unfold yl_a
  by_cases c : l = 3 ∧ ¬ h &&& (yl_A (yl_fst (yl_C w l q s) 30) &&& dy_set (yl_w w q) 32) = 0
  · rw [if_pos c]; omega
  · rw [if_neg c]; omega
theorem yl_vle (hW : jW w) (hq : q < sp_n w 8) : yl_v w l q s h ≤ 297 := by
  have h1 := (yl_p hW hq).2.2.2.2.1.2
  have h2 : yl_a w l q s h ≤ sp_n w (52 + 5 * q) := yl_ale
  have h3 : min (if l = 2 then 3 else 1) (yb_pop (yl_C w l q s) 30) ≤ 3 := Nat.le_trans (Nat.min_le_left _ _) (by by_cases c : l = 2 <;> simp [c])
  exact Nat.le_trans (Nat.mul_le_mul h3 (Nat.le_trans h2 h1)) (by decide)
theorem yc_gust (hW : jW w) (hH : yH 1 σ w) : yp (fX2_gustMinutes σ 1) (fun v => v = hs_gust w (sp_n w 6)) := by
  obtain ⟨g1, g2⟩ : yh_n w 6 5 := hW.1.2.2.2.2.2.2.1
  have e6 : sn_I σ (1 + 1) (6 : Int32).toNatClampNeg = nI (sp_n w 6) := (hH.1 6 (by decide)).trans g1
  unfold fX2_gustMinutes
  refine yp_bd (fun v => v = hs_gust w (sp_n w 6)) (yp_for (sp_n w 6) (fun n s => s.2 = nI n ∧ s.1 = hs_gust w n) (fun n s hn hs => ?_) (fun s hs => ?_) ⟨nI_0.symm, rfl⟩) (fun v hv => ?_)
  · obtain ⟨v, x⟩ := s
    obtain ⟨ex, ev⟩ := hs
    have ex : x = nI n := ex
    have ev : v = _ := ev
    subst ex
    subst ev
    have e1 : sn_I σ (1 + 3) ((2 : Int32) * nI n + (1 : Int32)).toNatClampNeg = nI (sp_n w (24 + 2 * n)) := by
      rw [yi_2, nI_1, nI_clamp (by omega)]
      exact (hH.2.2.1 (2 * n + 1) (by omega)).trans ((congrArg w (by omega)).trans (hW.2.2.2.2.1 n hn).2.1)
    show yp (BX2_gustMinutes_4 σ 1 _ (nI n)) _
    unfold BX2_gustMinutes_4
    rw [e6, if_neg (nI_ge hn (by omega)), e1]
    exact yp_gd (fun _ => yp_gd (fun _ => yp_lt (yp_lt (yp_some ⟨nI_1 n, rfl⟩))))
  · obtain ⟨v, x⟩ := s
    obtain ⟨ex, ev⟩ := hs
    have ex : x = nI (sp_n w 6) := ex
    subst ex
    show yp (BX2_gustMinutes_4 σ 1 v (nI (sp_n w 6))) _
    unfold BX2_gustMinutes_4
    rw [e6, if_pos (nI_le (Nat.le_refl _) (by omega))]
    exact yp_gd (fun _ => yp_some ev)
  · unfold BX2_gustMinutes_36
    exact yp_some hv
theorem yc_count (hW : jW w) (hH : yH 1 σ w) (hq : q < sp_n w 8) : yp (fX3_counting σ 1 l (nI q) s) (fun v => v = yl_C w l q s) := by
  unfold fX3_counting
  refine yp_bd _ (yc_win hW hH hq) (fun t ht => yp_lt ?_)
  rw [ht]
  refine yp_ite (fun c => yp_bd _ (yc_gust hW hH) (fun t2 ht2 => yp_some ?_)) (fun c => yp_some ?_)
  · rw [ht2]
    refine yb_V (fun k hk => ?_)
    rw [yb_and _ _ hk, yb_and _ _ hk, yb_Vb hk, yb_xor1 _ hk, decide_eq_true c]
    rfl
  · refine yb_V (fun k hk => ?_)
    rw [yb_and _ _ hk, yb_Vb hk, decide_eq_false c]
    exact (Bool.and_true _).symm
theorem yc_claim (hW : jW w) (hH : yH 1 σ w) (hq : q < sp_n w 8) (hs : ∀ k, sp_n w 0 ≤ k → k < 32 → sp_bit s k = false) : yp (fX3_claimBy σ 1 l (nI q) s h) (fun v => v = nI (yl_v w l q s h)) := by
  have c0 := (yl_0 hW).2
  obtain ⟨-, -, -, -, ⟨s1, s2⟩, -⟩ := yl_p hW hq
  have C30 : ∀ k, 30 ≤ k → k < 32 → sp_bit (yl_C w l q s) k = false := fun k h1 h2 => yl_Cs hs (by omega) h2
  unfold fX3_claimBy
  refine yp_bd _ (yc_count hW hH hq) (fun t1 h1 => yp_bd _ (yc_of hW hH hq 3 (by decide) rfl) (fun t3 h3 => ?_))
  rw [h1, h3, show w (49 + 3 + 5 * q) = nI (sp_n w (52 + 5 * q)) from s1]
  refine yp_ite (fun c => yp_some ?_) (fun c => ?_)
  · have : yb_pop (yl_C w l q s) 30 = 0 := by
      rw [c]
      exact yb_popz 30 (fun k hk => yb_z k (by omega))
    unfold yl_v
    rw [this, Nat.min_zero, Nat.zero_mul]
    exact nI_0.symm
  obtain ⟨k, k1, k2, k3⟩ := yb_ex c
  have k30 : k < 30 := by
    rcases Nat.lt_or_ge k 30 with g | g
    · exact g
    · rw [C30 k g k1] at k2; cases k2
  have pop1 := yb_popge k2 30 k30
  refine yp_ite (fun c2 => ?_) (fun c2 => ?_)
  · have ea : yl_a w l q s h = sp_n w (52 + 5 * q) := by
      unfold yl_a
      rw [if_neg (fun g => absurd (c2.symm.trans g.1) (by decide))]
    rw [yb_count, yb_pop30 C30]
    refine yp_bs rfl (yp_lt (yp_some ?_))
    unfold yl_v
    rw [ea, if_pos c2]
    have hp := yb_pople (yl_C w l q s) 30
    by_cases g : yb_pop (yl_C w l q s) 30 < 3
    · rw [if_pos (show nI (yb_pop (yl_C w l q s) 30) < (3 : Int32) from nI_lt (b := 3) g (by decide)), nI_mul, Nat.min_eq_right (by omega), Nat.mul_comm]
    · rw [if_neg (show ¬ nI (yb_pop (yl_C w l q s) 30) < (3 : Int32) from nI_nlt (b := 3) (by omega) (by omega)), show nI (sp_n w (52 + 5 * q)) * (3 : Int32) = nI (sp_n w (52 + 5 * q) * 3) from nI_mul _ 3, Nat.min_eq_left (by omega), Nat.mul_comm]
  · refine yp_bd _ (yb_lowest C30) (fun t7 h7 => ?_)
    have e7 : t7 = yl_fst (yl_C w l q s) 30 := yb_F1 h7 (yl_F _)
    unfold fX8_firstMinutes
    refine yp_bs rfl (yp_bd _ (yc_win hW hH hq) (fun t11 h11 => yp_lt ?_))
    rw [h11, e7]
    have ev : yl_v w l q s h = yl_a w l q s h := by
      unfold yl_v
      rw [if_neg c2, Nat.min_eq_left pop1, Nat.one_mul]
    rw [ev]
    refine yp_ite (fun c3 => yp_ite (fun c4 => yp_some ?_) (fun c4 => yp_some ?_)) (fun c3 => yp_some ?_)
    · unfold yl_a
      rw [if_neg (fun g => g.2 c4)]
    · unfold yl_a
      rw [if_pos ⟨c3, c4⟩]
      exact yi_d2 (by omega)
    · unfold yl_a
      rw [if_neg (fun g => c3 g.1)]
/-! the reference's claim -/
def yl_fr (u z : sn_S) : Prop := (∀ a, a ≠ 0 → a ≠ 16 → z.1 a = u.1 a) ∧ ∀ k, k ≠ 30 → z.1 0 k = u.1 0 k
theorem yl_fr0 : yl_fr u u := ⟨fun _ _ _ => rfl, fun _ _ => rfl⟩
theorem yl_frt {v : sn_S} (h : yl_fr u z) (g : yl_fr z v) : yl_fr u v := ⟨fun a h0 h1 => (g.1 a h0 h1).trans (h.1 a h0 h1), fun k h0 => (g.2 k h0).trans (h.2 k h0)⟩
def yX (u : sn_S) (w : Nat → Int32) (l : Int32) (S H : Nat → Int32) : Prop := u.1 1 = w ∧ (∀ p, p < sp_n w 5 → u.1 10 p = S p ∧ u.1 8 p = H p) ∧ u.1 0 18 = hs_gust w (sp_n w 6) ∧ u.1 0 20 = l ∧ u.1 0 22 = nI (sp_n w 0) - 1
theorem yX_fr {S H : Nat → Int32} (h : yl_fr u z) (g : yX u w l S H) : yX z w l S H :=
  ⟨(h.1 1 (by decide) (by decide)).trans g.1, fun p hp => ⟨(congrFun (h.1 10 (by decide) (by decide)) p).trans (g.2.1 p hp).1, (congrFun (h.1 8 (by decide) (by decide)) p).trans (g.2.1 p hp).2⟩, (h.2 18 (by decide)).trans g.2.2.1, (h.2 20 (by decide)).trans g.2.2.2.1, (h.2 22 (by decide)).trans g.2.2.2.2⟩
/-- what is paid by minutes: v more in the first M minutes -/
def yl_pd (M : Nat) (x : Int32) (u z : sn_S) (v : Nat) : Prop := x ≠ 0 → ∀ c : Nat → Nat, (∀ m, m < 30 → u.1 16 m = nI (c m)) → ∃ c' : Nat → Nat, (∀ m, m < 30 → z.1 16 m = nI (c' m)) ∧ yn_sum c' M = yn_sum c M + v
theorem yl_half {M m : Nat} (hw : ∀ k, k < 32 → yl_m w q k = (yl_w w q k && decide (k < M))) (hm : m < M) (hM : M ≤ 30) : (h &&& dy_set (yl_m w q) 32) &&& yl_A (nI m) = h &&& (yl_A (nI m) &&& dy_set (yl_w w q) 32) := by
  refine yb_ext (fun k hk => ?_)
  have e : sp_bit (yl_A (nI m)) k = decide (k < m) := yb_low m (by omega) k hk
  rw [yb_and _ _ hk, yb_and _ _ hk, yb_and _ _ hk, yb_and _ _ hk, yb_Vb hk, yb_Vb hk, e, hw k hk]
  by_cases g : k < m
  · rw [decide_eq_true g, decide_eq_true (show k < M by omega), Bool.and_true, Bool.and_true, Bool.true_and]
  · rw [decide_eq_false g, Bool.and_false, Bool.false_and, Bool.and_false]
def yl_I (w : Nat → Int32) (l : Int32) (q : Nat) (s h x : Int32) (u : sn_S) (t : sn_S × Int32 × Int32 × Int32) : Prop := ∃ n, n ≤ (if l = 2 then 3 else 1) ∧ t.2.2.2 = nI n ∧ yl_fr u t.1 ∧ t.1.1 0 30 = yl_fst (yl_C w l q s) 30 ∧ t.2.2.1 = nI (n * yl_a w l q s h) ∧ (∀ k, k < 32 → sp_bit t.2.1 k = true → sp_bit (yl_C w l q s) k = true) ∧ (n = 0 → t.2.1 = yl_C w l q s) ∧ yb_pop t.2.1 30 + n = yb_pop (yl_C w l q s) 30 ∧ yl_pd (sp_n w 0) x u t.1 (n * yl_a w l q s h)
theorem ym_claimI {S H : Nat → Int32} {x : Int32} {p : Nat} (hW : jW w) (hq : q < sp_n w 8) (hp : p < sp_n w 5) (hX : yX u w l S H) (hs : ∀ k, sp_n w 0 ≤ k → k < 32 → sp_bit (S p) k = false) (t : sn_S × Int32 × Int32 × Int32) (ht : yl_I w l q (S p) (H p) x u t) : yp (LX9_claimOf_63 (nI q) (nI p) x (nI (if l = 2 then 3 else 1)) t) (yp_sum (yl_I w l q (S p) (H p) x u) (fun r => yl_fr u r.1 ∧ r.1.1 0 30 = yl_fst (yl_C w l q (S p)) 30 ∧ r.2 = nI (yl_v w l q (S p) (H p)) ∧ yl_pd (sp_n w 0) x u r.1 (yl_v w l q (S p) (H p)))) := by
  have c0 := (yl_0 hW).2
  have c5 := (yl_5 hW).2
  obtain ⟨-, -, -, -, ⟨s1, s2⟩, -⟩ := yl_p hW hq
  obtain ⟨z, st, sm, x7⟩ := t
  obtain ⟨n, hn, ex, hf, h30, em, hb, h0, hpop, hpd⟩ := ht
  have ex : x7 = nI n := ex
  subst ex
  have em : sm = nI (n * yl_a w l q (S p) (H p)) := em
  have hf : yl_fr u z := hf
  have h30 : z.1 0 30 = yl_fst (yl_C w l q (S p)) 30 := h30
  have hb : ∀ k, k < 32 → sp_bit st k = true → sp_bit (yl_C w l q (S p)) k = true := hb
  have h0 : n = 0 → st = yl_C w l q (S p) := h0
  have hpop : yb_pop st 30 + n = yb_pop (yl_C w l q (S p)) 30 := hpop
  have hpd : yl_pd (sp_n w 0) x u z (n * yl_a w l q (S p) (H p)) := hpd
  have hZ := yX_fr hf hX
  have m3 : (if l = 2 then 3 else 1) ≤ 3 := by by_cases c : l = 2 <;> simp [c]
  have stM : ∀ k, sp_n w 0 ≤ k → k < 32 → sp_bit st k = false := fun k h1 h2 => by
    cases g : sp_bit st k with
    | false => rfl
    | true =>
      have := hb k h2 g
      rw [yl_Cs hs h1 h2] at this
      cases this
  show yp (BX9_claimOf_63 z (nI q) (nI p) x st sm (nI (if l = 2 then 3 else 1)) (nI n)) _
  unfold BX9_claimOf_63
  have ends : n = min (if l = 2 then 3 else 1) (yb_pop (yl_C w l q (S p)) 30) → yp (some (Sum.inr (z, sm)) : Option ((sn_S × Int32 × Int32 × Int32) ⊕ (sn_S × Int32))) (yp_sum (yl_I w l q (S p) (H p) x u) (fun r => yl_fr u r.1 ∧ r.1.1 0 30 = yl_fst (yl_C w l q (S p)) 30 ∧ r.2 = nI (yl_v w l q (S p) (H p)) ∧ yl_pd (sp_n w 0) x u r.1 (yl_v w l q (S p) (H p)))) := fun e => by
    have ev : yl_v w l q (S p) (H p) = n * yl_a w l q (S p) (H p) := by
      unfold yl_v
      rw [← e]
    refine yp_some ⟨hf, h30, ?_, ?_⟩
    · rw [ev]; exact em
    · rw [ev]; exact hpd
  refine yp_ite (fun c => ?_) (fun c => yp_ite (fun c2 => ?_) (fun c2 => ?_))
  · have c := (nI_leI (by omega) (by omega)).mp c
    exact ends (by rw [Nat.min_eq_left (by omega)]; omega)
  · have e : yb_pop st 30 = 0 := by
      rw [c2]
      exact yb_popz 30 (fun k hk => yb_z k (by omega))
    exact ends (by rw [Nat.min_eq_right (by omega)]; omega)
  have c : ¬ (if l = 2 then 3 else 1) ≤ n := fun g => c ((nI_leI (by omega) (by omega)).mpr g)
  refine yp_bd _ (yb_firstOf st) (fun r hr => ?_)
  have hm : ∃ m, m < sp_n w 0 ∧ sp_bit st m = true ∧ r = nI m := by
    rcases hr with ⟨-, g⟩ | ⟨m, -, m1, m2, -, m4⟩
    · obtain ⟨k, k1, k2, -⟩ := yb_ex c2
      rcases Nat.lt_or_ge k 30 with g2 | g2
      · rw [g k (Nat.zero_le _) g2] at k2; cases k2
      · rw [stM k (by omega) k1] at k2; cases k2
    · refine ⟨m, ?_, m2, m4⟩
      rcases Nat.lt_or_ge m (sp_n w 0) with g | g
      · exact g
      · rw [stM m g (by omega)] at m2; cases m2
  obtain ⟨m, m1, m2, m4⟩ := hm
  have hr0 : n = 0 → nI m = yl_fst (yl_C w l q (S p)) 30 := fun e => by
    rw [← m4]
    rw [h0 e] at hr
    exact yb_F1 hr (yl_F _)
  rw [m4]
  refine yp_lt ?_
  generalize hy : st &&& (((1 : Int32) <<< (nI m &&& 31)) ^^^ (-1 : Int32)) = y
  have yb : ∀ k, k < 32 → sp_bit y k = (sp_bit st k && !decide (k = m)) := fun k hk => by
    rw [← hy, yb_and _ _ hk, yb_xor1 _ hk, yb_1k (by omega) hk]
  have ypop := yb_pop1 m2 yb 30 (by decide)
  rw [if_pos (show m < 30 by omega)] at ypop
  have k152 : yp (BX9_claimOf_152 z (nI q) (nI p) x y sm (nI (if l = 2 then 3 else 1)) (nI n) (nI m) (nI (yl_a w l q (S p) (H p)))) (yp_sum (yl_I w l q (S p) (H p) x u) (fun r => yl_fr u r.1 ∧ r.1.1 0 30 = yl_fst (yl_C w l q (S p)) 30 ∧ r.2 = nI (yl_v w l q (S p) (H p)) ∧ yl_pd (sp_n w 0) x u r.1 (yl_v w l q (S p) (H p)))) := by
    have es : sm + nI (yl_a w l q (S p) (H p)) = nI ((n + 1) * yl_a w l q (S p) (H p)) := by
      rw [em, nI_add, Nat.succ_mul]
    have hb2 : ∀ k, k < 32 → sp_bit y k = true → sp_bit (yl_C w l q (S p)) k = true := fun k hk g => by
      rw [yb k hk] at g
      exact hb k hk (Bool.and_eq_true _ _ ▸ g).1
    unfold BX9_claimOf_152 BX9_claimOf_177
    refine yp_lt (yp_ite (fun g => yp_lt (yp_some ⟨n + 1, by omega, nI_1 n, hf, h30, es, hb2, fun e => absurd e (by omega), ?_, fun g2 => absurd g g2⟩)) (fun g => yp_gd (fun _ => yp_gd (fun _ => yp_lt (yp_lt (yp_some ⟨n + 1, by omega, nI_1 n, ?_, ?_, es, hb2, fun e => absurd e (by omega), ?_, ?_⟩))))))
    · show yb_pop y 30 + (n + 1) = _
      omega
    · exact yl_frt hf ⟨fun a h1 h2 => pI_ne h2, fun k _ => congrFun (pI_ne (by decide)) k⟩
    · exact (congrFun (pI_ne (by decide)) 30).trans h30
    · show yb_pop y 30 + (n + 1) = _
      omega
    · intro g2 cc hcc
      obtain ⟨c', hc1, hc2⟩ := hpd g2 cc hcc
      refine ⟨fun k => if k = m then c' k + yl_a w l q (S p) (H p) else c' k, fun k hk => ?_, ?_⟩
      · rw [nI_clamp (show m < 2 ^ 31 by omega)]
        by_cases e : k = m
        · subst e
          show (sn_pI z 16 k (sn_I z 16 k + nI (yl_a w l q (S p) (H p)))).1 16 k = nI (if k = k then c' k + yl_a w l q (S p) (H p) else c' k)
          rw [if_pos rfl, pI_self, show sn_I z 16 k = _ from hc1 k hk]
          exact nI_add _ _
        · show (sn_pI z 16 m (sn_I z 16 m + nI (yl_a w l q (S p) (H p)))).1 16 k = nI (if k = m then c' k + yl_a w l q (S p) (H p) else c' k)
          rw [if_neg e, pI_slot e]
          exact hc1 k hk
      · rw [yn_up (f := c') (m := m) (a := yl_a w l q (S p) (H p)) (by rw [if_pos rfl]) (fun k hk => by rw [if_neg hk]), if_pos m1, hc2, Nat.succ_mul]
        omega
  have k127 : yl_a w l q (S p) (H p) = sp_n w (52 + 5 * q) → yp (BX9_claimOf_127 z (nI q) (nI p) x y sm (nI (if l = 2 then 3 else 1)) (nI n) (nI m)) (yp_sum (yl_I w l q (S p) (H p) x u) (fun r => yl_fr u r.1 ∧ r.1.1 0 30 = yl_fst (yl_C w l q (S p)) 30 ∧ r.2 = nI (yl_v w l q (S p) (H p)) ∧ yl_pd (sp_n w 0) x u r.1 (yl_v w l q (S p) (H p)))) := fun e => by
    unfold BX9_claimOf_127 BX9_claimOf_128
    rw [if_pos rfl]
    refine yp_bd _ (ym_of hW hZ.1 hq 3 (by decide) rfl) (fun t ht => ?_)
    rw [ht, show w (49 + 3 + 5 * q) = nI (sp_n w (52 + 5 * q)) from s1, ← e]
    exact k152
  rw [show sn_I z 0 20 = _ from hZ.2.2.2.1]
  refine yp_ite (fun c3 => yp_gd (fun _ => yp_bd _ (ym_win hW hZ.1 hZ.2.2.2.2 hq) (fun t9 h9 => ?_))) (fun c3 => k127 (by unfold yl_a; rw [if_neg (fun g => c3 g.1)]))
  have c1 : (if l = 2 then 3 else 1) = 1 := by rw [if_neg (fun g => absurd (c3.symm.trans g) (by decide))]
  have n0 : n = 0 := by omega
  have eh : (H p &&& dy_set (yl_m w q) 32) &&& yl_A (nI m) = H p &&& (yl_A (yl_fst (yl_C w l q (S p)) 30) &&& dy_set (yl_w w q) 32) := by
    rw [← hr0 n0]
    exact yl_half (M := sp_n w 0) (fun k _ => rfl) m1 c0
  unfold fX9_ahead
  refine yp_bs rfl ?_
  rw [h9, nI_clamp (show p < 2 ^ 31 by omega), show sn_I z 8 p = _ from (hZ.2.1 p hp).2, show ((1 : Int32) <<< (nI m &&& 31)) - (1 : Int32) = yl_A (nI m) from rfl, eh]
  refine yp_ite (fun c4 => k127 (by unfold yl_a; rw [if_neg (fun g => g.2 c4)])) (fun c4 => ?_)
  unfold BX9_claimOf_128
  rw [if_neg (by decide)]
  refine yp_bd _ (ym_of hW hZ.1 hq 3 (by decide) rfl) (fun t ht => ?_)
  have e : yl_a w l q (S p) (H p) = sp_n w (52 + 5 * q) / 2 := by
    unfold yl_a
    rw [if_pos ⟨c3, c4⟩]
  rw [ht, show w (49 + 3 + 5 * q) = nI (sp_n w (52 + 5 * q)) from s1, yi_d2 (by omega), ← e]
  exact k152
theorem ym_claim {S H : Nat → Int32} {x : Int32} {p : Nat} (hW : jW w) (hq : q < sp_n w 8) (hp : p < sp_n w 5) (hX : yX u w l S H) (hs : ∀ k, sp_n w 0 ≤ k → k < 32 → sp_bit (S p) k = false) : yp (fX9_claimOf u (nI q) (nI p) x) (fun r => yl_fr u r.2 ∧ r.2.1 0 30 = yl_fst (yl_C w l q (S p)) 30 ∧ r.1 = nI (yl_v w l q (S p) (H p)) ∧ yl_pd (sp_n w 0) x u r.2 (yl_v w l q (S p) (H p))) := by
  have c0 := (yl_0 hW).2
  have c5 := (yl_5 hW).2
  have k58 : ∀ (z : sn_S), yl_fr u z → z.1 16 = u.1 16 → z.1 0 30 = yl_fst (yl_C w l q (S p)) 30 → yp (BX9_claimOf_58 z (nI q) (nI p) x (yl_C w l q (S p)) (0 : Int32) (nI (if l = 2 then 3 else 1))) (fun r => yl_fr u r.2 ∧ r.2.1 0 30 = yl_fst (yl_C w l q (S p)) 30 ∧ r.1 = nI (yl_v w l q (S p) (H p)) ∧ yl_pd (sp_n w 0) x u r.2 (yl_v w l q (S p) (H p))) := fun z hf h16 h30 => by
    unfold BX9_claimOf_58
    refine yp_bd _ (yp_it (yl_I w l q (S p) (H p) x u) (ym_claimI hW hq hp hX hs) _ _ ⟨0, Nat.zero_le _, nI_0.symm, hf, h30, ?_, fun _ _ g => g, fun _ => rfl, rfl, fun _ cc hcc => ⟨cc, fun m hm => ?_, ?_⟩⟩) (fun r hr => ?_)
    · rw [Nat.zero_mul]; exact nI_0.symm
    · rw [show (z, yl_C w l q (S p), (0 : Int32), (0 : Int32)).1 = z from rfl, h16]
      exact hcc m hm
    · rw [Nat.zero_mul]; rfl
    · unfold BX9_claimOf_183
      exact yp_some hr
  have k33 : yp (BX9_claimOf_33 u (nI q) (nI p) x (yl_C w l q (S p))) (fun r => yl_fr u r.2 ∧ r.2.1 0 30 = yl_fst (yl_C w l q (S p)) 30 ∧ r.1 = nI (yl_v w l q (S p) (H p)) ∧ yl_pd (sp_n w 0) x u r.2 (yl_v w l q (S p) (H p))) := by
    unfold BX9_claimOf_33
    refine yp_bd _ (yb_firstOf _) (fun r hr => yp_lt ?_)
    have er : r = yl_fst (yl_C w l q (S p)) 30 := yb_F1 hr (yl_F _)
    have g := k58 (sn_pI u 0 30 r) ⟨fun a h0 h1 => pI_ne h0, fun k h0 => pI_slot h0⟩ (pI_ne (by decide)) (pI_self.trans er)
    rw [show sn_I (sn_pI u 0 30 r) 0 20 = l from (pI_slot (by decide)).trans hX.2.2.2.1]
    refine yp_ite (fun c => ?_) (fun c => ?_)
    · rw [if_pos c] at g; exact g
    · rw [if_neg c] at g; exact g
  unfold fX9_claimOf
  refine yp_gd (fun _ => yp_bd _ (ym_win hW hX.1 hX.2.2.2.2 hq) (fun t ht => yp_lt ?_))
  rw [ht, nI_clamp (show p < 2 ^ 31 by omega), show sn_I u 10 p = _ from (hX.2.1 p hp).1, show sn_I u 0 20 = _ from hX.2.2.2.1, show sn_I u 0 18 = _ from hX.2.2.1]
  have em : ∀ k, k < 32 → (sp_bit (S p) k && yl_m w q k) = (sp_bit (S p) k && yl_w w q k) := fun k hk => by
    unfold yl_m
    by_cases g : k < sp_n w 0
    · rw [decide_eq_true g, Bool.and_true]
    · rw [hs k (by omega) hk]; rfl
  refine yp_ite (fun c => yp_lt ?_) (fun c => ?_)
  · have e : (S p &&& dy_set (yl_m w q) 32) &&& (hs_gust w (sp_n w 6) ^^^ (-1 : Int32)) = yl_C w l q (S p) := yb_V (fun k hk => by
      rw [yb_and _ _ hk, yb_and _ _ hk, yb_Vb hk, yb_xor1 _ hk, em k hk, decide_eq_true c]
      rfl)
    rw [e]
    exact k33
  · have e : S p &&& dy_set (yl_m w q) 32 = yl_C w l q (S p) := yb_V (fun k hk => by
      rw [yb_and _ _ hk, yb_Vb hk, em k hk, decide_eq_false c]
      exact (Bool.and_true _).symm)
    rw [e]
    exact k33
end
end
section
/-! the ledger, both sides -/
def yS (w : Nat → Int32) : Nat → Int32 := dy_sn (hs_day w) (sp_n w 0)
def yHh (w : Nat → Int32) : Nat → Int32 := fun p => hs_acts w 0 p (sp_n w 9)
def yl_o (w : Nat → Int32) (l : Int32) (q : Nat) : Nat := yl_v w l q (yS w (sp_n w (49 + 5 * q))) (yHh w (sp_n w (49 + 5 * q)))
def yl_y (w : Nat → Int32) (q : Nat) : Nat := sp_n w (53 + 5 * q)
def yl_L (σ z : sn_S) (w : Nat → Int32) (l : Int32) (n : Nat) : Prop := (∀ a, a < 49 ∨ 51 < a → z.1 a = σ.1 a) ∧ z.1 49 2 = nI (sp_n w 8) ∧ z.1 49 3 = nI (sp_n w 3 + yn_sum (yl_y w) n) ∧ ∀ q, q < n → z.1 50 q = nI (yl_o w l q) ∧ z.1 51 q = yl_fst (yl_C w l q (yS w (sp_n w (49 + 5 * q)))) 30
section
variable {σ τ u z : sn_S} {w : Nat → Int32} {q : Nat} {l : Int32}
theorem yl_Sb (hW : jW w) (p : Nat) : ∀ k, sp_n w 0 ≤ k → k < 32 → sp_bit (yS w p) k = false := yz_sbits (yl_0 hW).2
theorem yc_S (hD : yD σ w) {p : Nat} (hp : p < sp_n w 5) : σ.1 (27 + 10) p = yS w p ∧ σ.1 (27 + 4) p = yHh w p := ⟨hD.2.2.2 p hp, (hD.2.1.2.2.2.2.1 p hp).2.2.1⟩
theorem yc_reckon (hW : jW w) (hH : yH 1 σ w) (hD : yD σ w) (l : Int32) : yp (fX3_reckon σ 49 1 27 l) (fun z => yl_L σ z w l (sp_n w 8)) := by
  have c8 := (yl_8 hW).2
  have c5 := (yl_5 hW).2
  have c0 := (yl_0 hW).2
  obtain ⟨n3, -⟩ : yh_n w 3 999 := hW.1.2.2.2.1
  unfold fX3_reckon
  refine yp_gd (fun _ => yp_lt (yp_gd (fun _ => yp_lt ?_)))
  refine yp_bd (fun z => yl_L σ z w l (sp_n w 8)) (yp_for (sp_n w 8) (fun n s => s.2 = nI n ∧ yl_L σ s.1 w l n) (fun n s hn hs => ?_) (fun s hs => ?_) ⟨nI_0.symm, fun a ha => ?_, ?_, ?_, fun q hq => absurd hq (by omega)⟩) (fun v hv => ?_)
  · obtain ⟨z, x⟩ := s
    obtain ⟨ex, z0, z2, z3, zq⟩ := hs
    have ex : x = nI n := ex
    subst ex
    have z0 : ∀ a, a < 49 ∨ 51 < a → z.1 a = σ.1 a := z0
    have z2 : z.1 49 2 = nI (sp_n w 8) := z2
    have z3 : z.1 49 3 = nI (sp_n w 3 + yn_sum (yl_y w) n) := z3
    have zq : ∀ q, q < n → z.1 50 q = nI (yl_o w l q) ∧ z.1 51 q = yl_fst (yl_C w l q (yS w (sp_n w (49 + 5 * q)))) 30 := zq
    obtain ⟨⟨q1, q2⟩, -, -, -, -, -, ⟨y1, y2⟩⟩ := yl_p hW hn
    have zH : yH 1 z w := yH_c (fun a a1 a2 => z0 a (by omega)) hH
    have zS := yc_S hD q2
    show yp (BX3_reckon_24 z 49 1 27 l (nI n)) _
    unfold BX3_reckon_24
    rw [show sn_I z 49 2 = _ from z2, if_neg (nI_ge hn (by omega)), nI_clamp (show n < 2 ^ 31 by omega)]
    refine yp_bd _ (yc_of hW zH hn 0 (by decide) nI_0.symm) (fun t2 h2 => ?_)
    rw [h2, show w (49 + 0 + 5 * n) = nI (sp_n w (49 + 5 * n)) from q1, nI_clamp (show sp_n w (49 + 5 * n) < 2 ^ 31 by omega), show sn_I z (27 + 10) (sp_n w (49 + 5 * n)) = _ from (congrFun (z0 (27 + 10) (by omega)) _).trans zS.1]
    refine yp_gd (fun _ => yp_lt (yp_bd _ (yc_of hW zH hn 4 (by decide) rfl) (fun t7 h7 => yp_lt (yp_gd (fun _ => ?_)))))
    obtain ⟨z9, e9⟩ : ∃ z9, z9 = sn_pI z 49 3 (sn_I z 49 3 + t7) := ⟨_, rfl⟩
    rw [← e9]
    have z9r : ∀ a, a ≠ 49 → z9.1 a = z.1 a := fun a ha => by rw [e9]; exact pI_ne ha
    have z9H : yH 1 z9 w := yH_c (fun a a1 a2 => (z9r a (by omega)).trans (z0 a (by omega))) hH
    rw [show sn_I z9 (27 + 4) (sp_n w (49 + 5 * n)) = _ from (congrFun ((z9r (27 + 4) (by omega)).trans (z0 (27 + 4) (by omega))) _).trans zS.2]
    refine yp_bd _ (yc_claim hW z9H hn (yl_Sb hW _)) (fun t12 h12 => yp_gd (fun _ => yp_lt ?_))
    obtain ⟨zF, eF⟩ : ∃ zF, zF = sn_pI z9 (49 + 1) n t12 := ⟨_, rfl⟩
    rw [← eF]
    have zFr : ∀ a, a ≠ 50 → zF.1 a = z9.1 a := fun a ha => by rw [eF]; exact pI_ne ha
    have zFH : yH 1 zF w := yH_c (fun a a1 a2 => (zFr a (by omega)).trans ((z9r a (by omega)).trans (z0 a (by omega)))) hH
    refine yp_bd _ (yc_count hW zFH hn) (fun t17 h17 => ?_)
    rw [h17]
    refine yp_bd _ (yb_lowest (fun k h1 h2 => yl_Cs (yl_Sb hW _) (by omega) h2)) (fun t19 h19 => yp_gd (fun _ => yp_lt (yp_lt (yp_some ⟨nI_1 n, ?_⟩))))
    have e19 := yb_F1 h19 (yl_F _)
    refine ⟨fun a ha => (pI_ne (by omega)).trans ((zFr a (by omega)).trans ((z9r a (by omega)).trans (z0 a ha))), ?_, ?_, fun q hq => ?_⟩
    · refine (congrFun (pI_ne (by decide)) 2).trans ?_
      rw [zFr 49 (by decide), e9]
      exact (pI_slot (by decide)).trans z2
    · refine (congrFun (pI_ne (by decide)) 3).trans ?_
      rw [zFr 49 (by decide), e9]
      refine pI_self.trans ?_
      rw [show sn_I z 49 3 = _ from z3, h7, show w (49 + 4 + 5 * n) = nI (sp_n w (53 + 5 * n)) from y1, nI_add, Nat.add_assoc]
      rfl
    · by_cases e : q = n
      · subst e
        refine ⟨(congrFun (pI_ne (by decide)) q).trans ?_, pI_self.trans e19⟩
        rw [eF]
        exact pI_self.trans h12
      · refine ⟨(congrFun (pI_ne (by decide)) q).trans ?_, (pI_slot e).trans ?_⟩
        · rw [eF]
          refine (pI_slot e).trans ?_
          rw [z9r (49 + 1) (by decide)]
          exact (zq q (by omega)).1
        · rw [zFr (49 + 2) (by decide), z9r (49 + 2) (by decide)]
          exact (zq q (by omega)).2
  · obtain ⟨z, x⟩ := s
    obtain ⟨ex, hL⟩ := hs
    have ex : x = nI (sp_n w 8) := ex
    subst ex
    have hL : yl_L σ z w l (sp_n w 8) := hL
    show yp (BX3_reckon_24 z 49 1 27 l (nI (sp_n w 8))) _
    unfold BX3_reckon_24
    rw [show sn_I z 49 2 = _ from hL.2.1, if_pos (nI_le (Nat.le_refl _) (by omega))]
    exact yp_some hL
  · exact (pI_ne (by omega)).trans (pI_ne (by omega))
  · exact (pI_slot (by decide)).trans (pI_self.trans (yc_8 hW hH))
  · refine pI_self.trans ((congrFun (pI_ne (by decide)) _).trans ((hH.1 3 (by decide)).trans n3))
  · unfold BX3_reckon_115
    exact yp_some hv
theorem yc_now (hK : zK σ τ) : yp (fX8_ledgerNow σ) (fun z => yl_L σ z (τ.1 1) ((τ.1 1) 2) (sp_n (τ.1 1) 8)) := by
  unfold fX8_ledgerNow
  rw [show sn_I σ (1 + 1) (2 : Int32).toNatClampNeg = τ.1 1 2 from hK.2.1.2.1 2 (by decide)]
  exact yp_gd (fun _ => yp_bd _ (yc_reckon hK.2.1.1 hK.2.1.2 hK.2.2.2 _) (fun z hz => yp_some hz))
theorem ym_claim_ (hW : jW w) (hq : q < sp_n w 8) (hX : yX u w l (yS w) (yHh w)) : yp (fX9_claimOf_ u (nI q)) (fun r => yl_fr u r.2 ∧ r.2.1 0 30 = yl_fst (yl_C w l q (yS w (sp_n w (49 + 5 * q)))) 30 ∧ r.1 = nI (yl_o w l q)) := by
  obtain ⟨⟨q1, q2⟩, -⟩ := yl_p hW hq
  unfold fX9_claimOf_
  refine yp_bd _ (ym_of hW hX.1 hq 0 (by decide) nI_0.symm) (fun t ht => ?_)
  rw [ht, show w (49 + 0 + 5 * q) = nI (sp_n w (49 + 5 * q)) from q1]
  exact yp_bd _ (ym_claim hW hq q2 hX (yl_Sb hW _)) (fun r hr => yp_some ⟨hr.1, hr.2.1, hr.2.2.1⟩)
theorem ym_X (hW : jW w) (h : yM τ u w) : yX u w (w 2) (yS w) (yHh w) := by
  have c5 := (yl_5 hW).2
  exact ⟨h.1, fun p hp => ⟨yz_msn hW h hp, (h.2.2.2.2.2.2.2.2.1 p (by omega)).1⟩, h.2.2.1, h.2.2.2.2.1, yM_22 h⟩
/-! calls that change the ledger -/
theorem yz_go2 {σ0 : sn_S} {v x0 : Int32} {A : Option (Int32 × sn_S)} {Q : sn_S → Prop} {X : Option (Int32 × sn_S)} {Y : Int32 × sn_S → Option (Int32 × sn_S)} (hA : yp A (fun r => r.1 = v ∧ Q r.2)) (h : v ≠ 0 → ∀ u, Q u → yr X (Y (v, u)) (fun r s => r.1 = s.1)) : yr ((some v).bind fun t => if t = 0 then some (x0, σ0) else X) (A.bind fun t => if t.1 = 0 then some (x0, t.2) else Y t) (fun r s => r.1 = s.1) := by
  intro r s e1 e2
  obtain ⟨⟨v2, u⟩, e3, e4⟩ := sn_bd e2
  obtain ⟨hv, hu⟩ := hA _ e3
  have hv : v2 = v := hv
  subst hv
  have e1 : (if v2 = 0 then some (x0, σ0) else X) = some r := e1
  have e4 : (if v2 = 0 then some (x0, u) else Y (v2, u)) = some s := e4
  by_cases c : v2 = 0
  · rw [if_pos c] at e1 e4
    cases e1
    cases e4
    rfl
  · rw [if_neg c] at e1 e4
    exact h c u hu r s e1 e4
theorem yz_min2 {a x0 : Int32} {X : Option (Int32 × sn_S)} {Y : Int32 × sn_S → Option (Int32 × sn_S)} (hK : zK σ τ) (h : ∀ m v u, m < sp_n (τ.1 1) 0 → a = nI m → yM τ u (τ.1 1) → yr X (Y (v, u)) (fun r s => r.1 = s.1)) : yr ((fX8_isMinute σ a).bind fun t => if t = 0 then some (x0, σ) else X) ((fX9_asksMinute τ a).bind fun t => if t.1 = 0 then some (x0, t.2) else Y t) (fun r s => r.1 = s.1) := by
  obtain ⟨-, -, ⟨p1, p2, p3⟩⟩ := yK_n hK
  rw [c_isMinute, p1]
  refine yz_go2 (Q := fun z => yM τ z (τ.1 1)) (ym_askM rfl hK.2.1.1) (fun c u hu => ?_)
  obtain ⟨p, hp, ep⟩ := yK_p (by omega) p2 (yz_if c)
  exact h p _ u hp ep hu
theorem yz_pol2 {a x0 : Int32} {X : Option (Int32 × sn_S)} {Y : Int32 × sn_S → Option (Int32 × sn_S)} (hK : zK σ τ) (h : ∀ q v u, q < sp_n (τ.1 1) 8 → a = nI q → yM τ u (τ.1 1) → yr X (Y (v, u)) (fun r s => r.1 = s.1)) : yr ((fX8_isPolicy σ a).bind fun t => if t = 0 then some (x0, σ) else X) ((fX9_asksPolicy τ a).bind fun t => if t.1 = 0 then some (x0, t.2) else Y t) (fun r s => r.1 = s.1) := by
  have b := yl_8 hK.2.1.1
  have l := b.2
  rw [c_isPolicy, show σ.1 2 8 = τ.1 1 8 from hK.2.1.2.1 8 (by decide)]
  refine yz_go2 (Q := fun z => yM τ z (τ.1 1)) (ym_askQ rfl hK.2.1.1) (fun c u hu => ?_)
  obtain ⟨p, hp, ep⟩ := yK_p (by omega) b.1 (yz_if c)
  exact h p _ u hp ep hu
theorem yk_hv (hK : zK σ τ) : fX8_isHouse σ = some (if 0 < sp_n (τ.1 1) 10 then 1 else 0) := by
  have b := hK.2.1.1.1.2.2.2.2.2.2.2.2.2.2
  have l := b.2
  have e10 : σ.1 2 10 = nI (sp_n (τ.1 1) 10) := (hK.2.1.2.1 10 (by decide)).trans b.1
  rw [yk_isHouse, e10]
  by_cases c : 0 < sp_n (τ.1 1) 10
  · rw [if_neg (nI_nle c (by omega)), if_pos c]
  · have : sp_n (τ.1 1) 10 = 0 := by omega
    rw [this, if_pos (show nI 0 ≤ 0 by decide), if_neg (by decide)]
theorem yz_house2 {x0 : Int32} {X : Option (Int32 × sn_S)} {Y : Int32 × sn_S → Option (Int32 × sn_S)} (hK : zK σ τ) (h : ∀ v u, 0 < sp_n (τ.1 1) 10 → yM τ u (τ.1 1) → yr X (Y (v, u)) (fun r s => r.1 = s.1)) : yr ((fX8_isHouse σ).bind fun t => if t = 0 then some (x0, σ) else X) ((fX9_asksHouse τ).bind fun t => if t.1 = 0 then some (x0, t.2) else Y t) (fun r s => r.1 = s.1) := by
  rw [yk_hv hK]
  refine yz_go2 (Q := fun z => yM τ z (τ.1 1)) (ym_asks rfl hK.2.1.1) (fun c u hu => ?_)
  refine h _ u ?_ hu
  by_cases g : 0 < sp_n (τ.1 1) 10
  · exact g
  · rw [if_neg g] at c
    exact absurd rfl c
theorem yr_eq2 {X Y : Option (Int32 × sn_S)} (v : Int32) (hx : yp X (fun r => r.1 = v)) (hy : yp Y (fun s => s.1 = v)) : yr X Y (fun r s => r.1 = s.1) := yr_of hx hy (fun _ _ a b => a.trans b.symm)
theorem yz_24 {a : Int32} (hK : zK σ τ) : yr (fX8_profit σ a) (fX9_profit τ a) (fun r s => r.1 = s.1) := by
  have hW := hK.2.1.1
  have c8 := (yl_8 hW).2
  unfold fX8_profit fX9_profit
  refine yz_pol2 hK (fun q v u hq ea hM => ?_)
  subst ea
  rw [nI_clamp (show q < 2 ^ 31 by omega)]
  refine yr_eq2 (τ.1 1 (49 + 4 + 5 * q) - nI (yl_o (τ.1 1) ((τ.1 1) 2) q)) ?_ ?_
  · refine yp_bd _ (yc_of hW hK.2.1.2 hq 4 (by decide) rfl) (fun t4 h4 => yp_bd _ (yc_now hK) (fun z hz => yp_gd (fun _ => yp_some ?_)))
    show t4 - z.1 (49 + 1) q = _
    rw [h4, show z.1 (49 + 1) q = _ from (hz.2.2.2 q hq).1]
  · refine yp_bd _ (ym_of hW hM.1 hq 4 (by decide) rfl) (fun t4 h4 => yp_bd _ (ym_claim_ hW hq (ym_X hW hM)) (fun r hr => yp_some ?_))
    show t4 - r.1 = _
    rw [h4, hr.2.2]
theorem yz_31 {a : Int32} (hK : zK σ τ) : yr (fX8_claim σ a) (fX9_claim τ a) (fun r s => r.1 = s.1) := by
  have hW := hK.2.1.1
  have c8 := (yl_8 hW).2
  unfold fX8_claim fX9_claim
  refine yz_pol2 hK (fun q v u hq ea hM => ?_)
  subst ea
  rw [nI_clamp (show q < 2 ^ 31 by omega)]
  exact yr_eq2 (nI (yl_o (τ.1 1) ((τ.1 1) 2) q)) (yp_bd _ (yc_now hK) (fun z hz => yp_gd (fun _ => yp_some (hz.2.2.2 q hq).1))) (yp_bd _ (ym_claim_ hW hq (ym_X hW hM)) (fun r hr => yp_some hr.2.2))
theorem yz_32 {a : Int32} (hK : zK σ τ) : yr (fX8_paid σ a) (fX9_paid τ a) (fun r s => r.1 = s.1) := by
  have hW := hK.2.1.1
  have c8 := (yl_8 hW).2
  unfold fX8_paid fX9_paid
  refine yz_pol2 hK (fun q v u hq ea hM => ?_)
  subst ea
  rw [nI_clamp (show q < 2 ^ 31 by omega)]
  exact yr_eq2 _ (yp_bd _ (yc_now hK) (fun z hz => yp_gd (fun _ => yp_some (hz.2.2.2 q hq).2))) (yp_bd _ (ym_claim_ hW hq (ym_X hW hM)) (fun r hr => yp_some hr.2.1))
theorem yz_33 (hK : zK σ τ) : yr (fX8_claims σ) (fX9_claims τ) (fun r s => r.1 = s.1) := by
  have hW := hK.2.1.1
  have c8 := (yl_8 hW).2
  unfold fX8_claims fX9_claims
  refine yz_house2 hK (fun v u h10 hM => ?_)
  obtain ⟨f, hf⟩ : ∃ f : Nat → Bool, ∀ q, f q = !decide (nI (yl_o (τ.1 1) ((τ.1 1) 2) q) ≤ 0) := ⟨_, fun _ => rfl⟩
  refine yr_eq2 (dy_set f (sp_n (τ.1 1) 8)) ?_ ?_
  · refine yp_bd _ (yc_now hK) (fun z hz => ?_)
    obtain ⟨z0, z2, z3, zq⟩ := hz
    refine yp_bd (fun v => v = dy_set f (sp_n (τ.1 1) 8)) (yp_for (sp_n (τ.1 1) 8) (fun k s => s.2 = nI k ∧ s.1 = dy_set f k) (fun k s hk hs => ?_) (fun s hs => ?_) ⟨nI_0.symm, rfl⟩) (fun v hv => ?_)
    · obtain ⟨v, x⟩ := s
      obtain ⟨ex, ev⟩ := hs
      have ex : x = nI k := ex
      have ev : v = _ := ev
      subst ex
      subst ev
      show yp (BX8_claims_19 z _ (nI k)) _
      unfold BX8_claims_19 BX8_claims_42
      rw [show sn_I z 49 2 = _ from z2, if_neg (nI_ge hk (by omega)), nI_clamp (show k < 2 ^ 31 by omega), show sn_I z (49 + 1) k = _ from (zq k hk).1]
      refine yp_gd (fun _ => yp_ite (fun c => yp_lt (yp_some ⟨nI_1 k, dy_s0 ?_⟩)) (fun c => yp_lt (yp_lt (yp_some ⟨nI_1 k, dy_s1 ?_⟩))))
      · rw [hf k, decide_eq_true c]; rfl
      · rw [hf k, decide_eq_false c]; rfl
    · obtain ⟨v, x⟩ := s
      obtain ⟨ex, ev⟩ := hs
      have ex : x = nI (sp_n (τ.1 1) 8) := ex
      subst ex
      show yp (BX8_claims_19 z v (nI (sp_n (τ.1 1) 8))) _
      unfold BX8_claims_19
      rw [show sn_I z 49 2 = _ from z2, if_pos (nI_le (Nat.le_refl _) (by omega))]
      exact yp_some ev
    · unfold BX8_claims_48
      exact yp_some hv
  · refine yp_bd (fun r => r.2 = dy_set f (sp_n (τ.1 1) 8)) (yp_for (sp_n (τ.1 1) 8) (fun k s => s.2.2 = nI k ∧ s.2.1 = dy_set f k ∧ yl_fr u s.1) (fun k s hk hs => ?_) (fun s hs => ?_) ⟨nI_0.symm, rfl, yl_fr0⟩) (fun v hv => ?_)
    · obtain ⟨z, v, x⟩ := s
      obtain ⟨ex, ev, hz⟩ := hs
      have ex : x = nI k := ex
      have ev : v = _ := ev
      have hz : yl_fr u z := hz
      subst ex
      subst ev
      have hX := yX_fr hz (ym_X hW hM)
      show yp (BX9_claims_14 z _ (nI k)) _
      unfold BX9_claims_14 BX9_claims_41
      rw [ym_8 hW hX.1, if_neg (nI_ge hk (by omega))]
      refine yp_gd (fun _ => yp_bd _ (ym_claim_ hW hk hX) (fun r hr => ?_))
      rw [hr.2.2]
      refine yp_ite (fun c => yp_lt (yp_lt (yp_some ⟨nI_1 k, (yb_or0 _).trans (dy_s0 ?_), yl_frt hz hr.1⟩))) (fun c => yp_lt (yp_lt (yp_some ⟨nI_1 k, dy_s1 ?_, yl_frt hz hr.1⟩)))
      · rw [hf k, decide_eq_true c]; rfl
      · rw [hf k, decide_eq_false c]; rfl
    · obtain ⟨z, v, x⟩ := s
      obtain ⟨ex, ev, hz⟩ := hs
      have ex : x = nI (sp_n (τ.1 1) 8) := ex
      have hz : yl_fr u z := hz
      subst ex
      have hX := yX_fr hz (ym_X hW hM)
      show yp (BX9_claims_14 z v (nI (sp_n (τ.1 1) 8))) _
      unfold BX9_claims_14
      rw [ym_8 hW hX.1, if_pos (nI_le (Nat.le_refl _) (by omega))]
      exact yp_gd (fun _ => yp_some ev)
    · unfold BX9_claims_49
      exact yp_some hv
theorem yz_36 (hK : zK σ τ) : yr (fX8_dear σ) (fX9_dear τ) (fun r s => r.1 = s.1) := by
  have hW := hK.2.1.1
  have c8 := (yl_8 hW).2
  unfold fX8_dear fX9_dear
  refine yz_house2 hK (fun v u h10 hM => ?_)
  obtain ⟨f, hf⟩ : ∃ f : Nat → Int32, ∀ q, f q = nI (yl_o (τ.1 1) ((τ.1 1) 2) q) - τ.1 1 (49 + 4 + 5 * q) := ⟨_, fun _ => rfl⟩
  have k1 : ∀ k, yz_wo f (k + 1) = if f k ≤ (yz_wo f k).2 then yz_wo f k else (nI k, f k) := fun k => rfl
  refine yr_eq2 (yz_wo f (sp_n (τ.1 1) 8)).1 ?_ ?_
  · refine yp_bd _ (yc_now hK) (fun z hz => ?_)
    obtain ⟨z0, z2, z3, zq⟩ := hz
    have zH : yH 1 z (τ.1 1) := yH_c (fun a a1 a2 => z0 a (by omega)) hK.2.1.2
    refine yp_bd (fun v => v = (yz_wo f (sp_n (τ.1 1) 8)).1) (yp_for (sp_n (τ.1 1) 8) (fun k s => s.2.2 = nI k ∧ s.1 = (yz_wo f k).1 ∧ s.2.1 = (yz_wo f k).2) (fun k s hk hs => ?_) (fun s hs => ?_) ⟨nI_0.symm, rfl, rfl⟩) (fun v hv => ?_)
    · obtain ⟨b, c, x⟩ := s
      obtain ⟨ex, eb, ec⟩ := hs
      have ex : x = nI k := ex
      have eb : b = _ := eb
      have ec : c = _ := ec
      subst ex
      subst eb
      subst ec
      show yp (BX8_dear_22 z _ _ (nI k)) _
      unfold BX8_dear_22 BX8_dear_63
      rw [show sn_I z 49 2 = _ from z2, if_neg (nI_ge hk (by omega)), nI_clamp (show k < 2 ^ 31 by omega), show sn_I z (49 + 1) k = _ from (zq k hk).1]
      refine yp_gd (fun _ => yp_bd _ (yc_of hW zH hk 4 (by decide) rfl) (fun t ht => yp_lt ?_))
      rw [ht, ← hf k]
      refine yp_ite (fun c => yp_lt (yp_some ⟨nI_1 k, ?_, ?_⟩)) (fun c => yp_lt (yp_some ⟨nI_1 k, ?_, ?_⟩))
      · rw [k1, if_pos c]
      · rw [k1, if_pos c]
      · rw [k1, if_neg c]
      · rw [k1, if_neg c]
    · obtain ⟨b, c, x⟩ := s
      obtain ⟨ex, eb, ec⟩ := hs
      have ex : x = nI (sp_n (τ.1 1) 8) := ex
      subst ex
      show yp (BX8_dear_22 z b c (nI (sp_n (τ.1 1) 8))) _
      unfold BX8_dear_22
      rw [show sn_I z 49 2 = _ from z2, if_pos (nI_le (Nat.le_refl _) (by omega))]
      exact yp_some eb
    · unfold BX8_dear_69
      exact yp_some hv
  · refine yp_bd (fun r => r.2 = (yz_wo f (sp_n (τ.1 1) 8)).1) (yp_for (sp_n (τ.1 1) 8) (fun k s => s.2.2.2 = nI k ∧ s.2.1 = (yz_wo f k).1 ∧ s.2.2.1 = (yz_wo f k).2 ∧ yl_fr u s.1) (fun k s hk hs => ?_) (fun s hs => ?_) ⟨nI_0.symm, rfl, rfl, yl_fr0⟩) (fun v hv => ?_)
    · obtain ⟨z, b, c, x⟩ := s
      obtain ⟨ex, eb, ec, hz⟩ := hs
      have ex : x = nI k := ex
      have eb : b = _ := eb
      have ec : c = _ := ec
      have hz : yl_fr u z := hz
      subst ex
      subst eb
      subst ec
      have hX := yX_fr hz (ym_X hW hM)
      show yp (BX9_dear_16 z _ _ (nI k)) _
      unfold BX9_dear_16 BX9_dear_55
      rw [ym_8 hW hX.1, if_neg (nI_ge hk (by omega))]
      refine yp_gd (fun _ => yp_bd _ (ym_claim_ hW hk hX) (fun r hr => yp_bd _ (ym_of hW (yX_fr hr.1 hX).1 hk 4 (by decide) rfl) (fun t ht => yp_lt ?_)))
      rw [ht, hr.2.2, ← hf k]
      refine yp_ite (fun c => yp_lt (yp_some ⟨nI_1 k, ?_, ?_, yl_frt hz hr.1⟩)) (fun c => yp_lt (yp_some ⟨nI_1 k, ?_, ?_, yl_frt hz hr.1⟩))
      · rw [k1, if_neg (Int32.not_le.mpr c)]
      · rw [k1, if_neg (Int32.not_le.mpr c)]
      · rw [k1, if_pos (Int32.not_lt.mp c)]
      · rw [k1, if_pos (Int32.not_lt.mp c)]
    · obtain ⟨z, b, c, x⟩ := s
      obtain ⟨ex, eb, ec, hz⟩ := hs
      have ex : x = nI (sp_n (τ.1 1) 8) := ex
      have hz : yl_fr u z := hz
      subst ex
      have hX := yX_fr hz (ym_X hW hM)
      show yp (BX9_dear_16 z b c (nI (sp_n (τ.1 1) 8))) _
      unfold BX9_dear_16
      rw [ym_8 hW hX.1, if_pos (nI_le (Nat.le_refl _) (by omega))]
      exact yp_gd (fun _ => yp_some eb)
    · unfold BX9_dear_61
      exact yp_some hv
end
end
section
/-! a day that is not: copied, changed, lived -/
theorem yp_le {α β : Type} {P : α → Prop} {v : β} {g : β → Option α} (h : ∀ y, y = v → yp (g y) P) : yp (sn_lt v g) P := h v rfl
theorem yc_dcopy {σ : sn_S} {a b : Nat} (hd : b + 10 < a) : yp (fX0_copyFrom σ a b) (fun z => (∀ q, (q < a ∨ a + 10 < q) → z.1 q = σ.1 q) ∧ (∀ k, k < 4 → z.1 a k = σ.1 b k) ∧ (∀ k, k < 30 → z.1 (a + 1) k = σ.1 (b + 1) k) ∧ (∀ k, k < 6 → z.1 (a + 2) k = σ.1 (b + 2) k) ∧ (∀ k, k < 6 → z.1 (a + 3) k = σ.1 (b + 3) k) ∧ (∀ k, k < 6 → z.1 (a + 4) k = σ.1 (b + 4) k) ∧ (∀ k, k < 6 → z.1 (a + 5) k = σ.1 (b + 5) k) ∧ (∀ k, k < 16 → z.1 (a + 6) k = σ.1 (b + 6) k) ∧ (∀ k, k < 180 → z.1 (a + 7) k = σ.1 (b + 7) k) ∧ (∀ k, k < 180 → z.1 (a + 8) k = σ.1 (b + 8) k) ∧ (∀ k, k < 30 → z.1 (a + 9) k = σ.1 (b + 9) k) ∧ (∀ k, k < 6 → z.1 (a + 10) k = σ.1 (b + 10) k)) := by
  unfold fX0_copyFrom
  refine yp_le (fun y1 e1 => yp_le (fun y2 e2 => yp_le (fun y3 e3 => yp_le (fun z0 e4 => ?_))))
  have hb : b ≠ a := by omega
  have r1 : ∀ q, q ≠ a → y1.1 q = σ.1 q := fun q hq => by rw [e1, pI_ne hq]
  have r2 : ∀ q, q ≠ a → y2.1 q = σ.1 q := fun q hq => by rw [e2, pI_ne hq, r1 q hq]
  have r3 : ∀ q, q ≠ a → y3.1 q = σ.1 q := fun q hq => by rw [e3, pI_ne hq, r2 q hq]
  have r0 : ∀ q, q ≠ a → z0.1 q = σ.1 q := fun q hq => by rw [e4, pI_ne hq, r3 q hq]
  have c0 : ∀ k, k < 4 → z0.1 a k = σ.1 b k := fun k hk => by
    match k, hk with
    | 0, _ => rw [e4, pI_slot (by decide), e3, pI_slot (by decide), e2, pI_slot (by decide), e1, pI_self]; rfl
    | 1, _ => rw [e4, pI_slot (by decide), e3, pI_slot (by decide), e2, pI_self]; exact congrFun (r1 b hb) 1
    | 2, _ => rw [e4, pI_slot (by decide), e3, pI_self]; exact congrFun (r2 b hb) 2
    | 3, _ => rw [e4, pI_self]; exact congrFun (r3 b hb) 3
  refine yp_gd (fun _ => yp_le (fun z1 h1 => ?_))
  obtain ⟨p1, q1⟩ := yc_cpy (z := z0) (a := a + 1) (b := b + 1) (L := 30) (by decide)
  rw [← h1] at p1 q1
  refine yp_gd (fun _ => yp_le (fun z2 h2 => ?_))
  obtain ⟨p2, q2⟩ := yc_cpy (z := z1) (a := a + 2) (b := b + 2) (L := 6) (by decide)
  rw [← h2] at p2 q2
  refine yp_gd (fun _ => yp_le (fun z3 h3 => ?_))
  obtain ⟨p3, q3⟩ := yc_cpy (z := z2) (a := a + 3) (b := b + 3) (L := 6) (by decide)
  rw [← h3] at p3 q3
  refine yp_gd (fun _ => yp_le (fun z4 h4 => ?_))
  obtain ⟨p4, q4⟩ := yc_cpy (z := z3) (a := a + 4) (b := b + 4) (L := 6) (by decide)
  rw [← h4] at p4 q4
  refine yp_gd (fun _ => yp_le (fun z5 h5 => ?_))
  obtain ⟨p5, q5⟩ := yc_cpy (z := z4) (a := a + 5) (b := b + 5) (L := 6) (by decide)
  rw [← h5] at p5 q5
  refine yp_gd (fun _ => yp_le (fun z6 h6 => ?_))
  obtain ⟨p6, q6⟩ := yc_cpy (z := z5) (a := a + 6) (b := b + 6) (L := 16) (by decide)
  rw [← h6] at p6 q6
  refine yp_gd (fun _ => yp_le (fun z7 h7 => ?_))
  obtain ⟨p7, q7⟩ := yc_cpy (z := z6) (a := a + 7) (b := b + 7) (L := 180) (by decide)
  rw [← h7] at p7 q7
  refine yp_gd (fun _ => yp_le (fun z8 h8 => ?_))
  obtain ⟨p8, q8⟩ := yc_cpy (z := z7) (a := a + 8) (b := b + 8) (L := 180) (by decide)
  rw [← h8] at p8 q8
  refine yp_gd (fun _ => yp_le (fun z9 h9 => ?_))
  obtain ⟨p9, q9⟩ := yc_cpy (z := z8) (a := a + 9) (b := b + 9) (L := 30) (by decide)
  rw [← h9] at p9 q9
  refine yp_gd (fun _ => yp_le (fun z10 h10 => ?_))
  obtain ⟨p10, q10⟩ := yc_cpy (z := z9) (a := a + 10) (b := b + 10) (L := 6) (by decide)
  rw [← h10] at p10 q10
  refine yp_some ⟨fun q hq => ?_, fun k hk => ?_, fun k hk => ?_, fun k hk => ?_, fun k hk => ?_, fun k hk => ?_, fun k hk => ?_, fun k hk => ?_, fun k hk => ?_, fun k hk => ?_, fun k hk => ?_, fun k hk => ?_⟩
  · rw [p10 q (by omega), p9 q (by omega), p8 q (by omega), p7 q (by omega), p6 q (by omega), p5 q (by omega), p4 q (by omega), p3 q (by omega), p2 q (by omega), p1 q (by omega), r0 q (by omega)]
  · rw [p10 a (by omega), p9 a (by omega), p8 a (by omega), p7 a (by omega), p6 a (by omega), p5 a (by omega), p4 a (by omega), p3 a (by omega), p2 a (by omega), p1 a (by omega), c0 k hk]
  · rw [p10 (a + 1) (by omega), p9 (a + 1) (by omega), p8 (a + 1) (by omega), p7 (a + 1) (by omega), p6 (a + 1) (by omega), p5 (a + 1) (by omega), p4 (a + 1) (by omega), p3 (a + 1) (by omega), p2 (a + 1) (by omega), q1 k, if_pos hk, r0 (b + 1) (by omega)]
  · rw [p10 (a + 2) (by omega), p9 (a + 2) (by omega), p8 (a + 2) (by omega), p7 (a + 2) (by omega), p6 (a + 2) (by omega), p5 (a + 2) (by omega), p4 (a + 2) (by omega), p3 (a + 2) (by omega), q2 k, if_pos hk, p1 (b + 2) (by omega), r0 (b + 2) (by omega)]
  · rw [p10 (a + 3) (by omega), p9 (a + 3) (by omega), p8 (a + 3) (by omega), p7 (a + 3) (by omega), p6 (a + 3) (by omega), p5 (a + 3) (by omega), p4 (a + 3) (by omega), q3 k, if_pos hk, p2 (b + 3) (by omega), p1 (b + 3) (by omega), r0 (b + 3) (by omega)]
  · rw [p10 (a + 4) (by omega), p9 (a + 4) (by omega), p8 (a + 4) (by omega), p7 (a + 4) (by omega), p6 (a + 4) (by omega), p5 (a + 4) (by omega), q4 k, if_pos hk, p3 (b + 4) (by omega), p2 (b + 4) (by omega), p1 (b + 4) (by omega), r0 (b + 4) (by omega)]
  · rw [p10 (a + 5) (by omega), p9 (a + 5) (by omega), p8 (a + 5) (by omega), p7 (a + 5) (by omega), p6 (a + 5) (by omega), q5 k, if_pos hk, p4 (b + 5) (by omega), p3 (b + 5) (by omega), p2 (b + 5) (by omega), p1 (b + 5) (by omega), r0 (b + 5) (by omega)]
  · rw [p10 (a + 6) (by omega), p9 (a + 6) (by omega), p8 (a + 6) (by omega), p7 (a + 6) (by omega), q6 k, if_pos hk, p5 (b + 6) (by omega), p4 (b + 6) (by omega), p3 (b + 6) (by omega), p2 (b + 6) (by omega), p1 (b + 6) (by omega), r0 (b + 6) (by omega)]
  · rw [p10 (a + 7) (by omega), p9 (a + 7) (by omega), p8 (a + 7) (by omega), q7 k, if_pos hk, p6 (b + 7) (by omega), p5 (b + 7) (by omega), p4 (b + 7) (by omega), p3 (b + 7) (by omega), p2 (b + 7) (by omega), p1 (b + 7) (by omega), r0 (b + 7) (by omega)]
  · rw [p10 (a + 8) (by omega), p9 (a + 8) (by omega), q8 k, if_pos hk, p7 (b + 8) (by omega), p6 (b + 8) (by omega), p5 (b + 8) (by omega), p4 (b + 8) (by omega), p3 (b + 8) (by omega), p2 (b + 8) (by omega), p1 (b + 8) (by omega), r0 (b + 8) (by omega)]
  · rw [p10 (a + 9) (by omega), q9 k, if_pos hk, p8 (b + 9) (by omega), p7 (b + 9) (by omega), p6 (b + 9) (by omega), p5 (b + 9) (by omega), p4 (b + 9) (by omega), p3 (b + 9) (by omega), p2 (b + 9) (by omega), p1 (b + 9) (by omega), r0 (b + 9) (by omega)]
  · rw [q10 k, if_pos hk, p9 (b + 10) (by omega), p8 (b + 10) (by omega), p7 (b + 10) (by omega), p6 (b + 10) (by omega), p5 (b + 10) (by omega), p4 (b + 10) (by omega), p3 (b + 10) (by omega), p2 (b + 10) (by omega), p1 (b + 10) (by omega), r0 (b + 10) (by omega)]
def dy_noSet (i : dy_I) (n : Int32) : dy_I := (dy_P i, dy_keen i, dy_lim i, dy_held i, dy_snuf i, dy_dust i, dy_na i, dy_nb i, dy_nN i, n)
def dy_keenSet (i : dy_I) (p : Nat) (v : Int32) : dy_I := (dy_P i, (fun x => if x = p then v else dy_keen i x), dy_lim i, dy_held i, dy_snuf i, dy_dust i, dy_na i, dy_nb i, dy_nN i, dy_no i)
def dy_limSet (i : dy_I) (p : Nat) (v : Int32) : dy_I := (dy_P i, dy_keen i, (fun x => if x = p then v else dy_lim i x), dy_held i, dy_snuf i, dy_dust i, dy_na i, dy_nb i, dy_nN i, dy_no i)
def dy_heldSet (i : dy_I) (p : Nat) (v : Int32) : dy_I := (dy_P i, dy_keen i, dy_lim i, (fun x => if x = p then v else dy_held i x), dy_snuf i, dy_dust i, dy_na i, dy_nb i, dy_nN i, dy_no i)
def dy_snufSet (i : dy_I) (p : Nat) (v : Int32) : dy_I := (dy_P i, dy_keen i, dy_lim i, dy_held i, (fun x => if x = p then v else dy_snuf i x), dy_dust i, dy_na i, dy_nb i, dy_nN i, dy_no i)
def dy_dustSet (i : dy_I) (f : Nat → Int32) : dy_I := (dy_P i, dy_keen i, dy_lim i, dy_held i, dy_snuf i, f, dy_na i, dy_nb i, dy_nN i, dy_no i)
section
variable {σ τ u z : sn_S} {w : Nat → Int32}
/-- the trial is told what the day was, and lived as it was -/
theorem yc_trial {a : Nat} (hW : jW w) (hD : yD σ w) (ha : 37 < a) : yp (fX0_copyFrom σ a 27) (fun z => (∀ q, (q < a ∨ a + 10 < q) → z.1 q = σ.1 q) ∧ z.1 a 0 = nI (sp_n w 0) ∧ yd_T a z (hs_day w) ∧ yd_L a z (hs_day w) (sp_n w 0)) := by
  have c5 := (yl_5 hW).2
  have c0 := (yl_0 hW).2
  have c7 := hW.1.2.2.2.2.2.2.2.1.2
  obtain ⟨d0, ⟨t1, t2, t3, t4, t5, t6⟩, l1, l2⟩ := hD
  refine yp_w (yc_dcopy (by omega)) (fun z hz => ?_)
  obtain ⟨hr, h0, h1, h2, h3, h4, h5, h6, h7, h8, h9, h10⟩ := hz
  refine ⟨hr, (h0 0 (by decide)).trans d0, ⟨(h0 1 (by decide)).trans t1, (h0 2 (by decide)).trans t2, (h0 3 (by decide)).trans t3, fun m hm => (h1 m hm).trans (t4 m hm), fun p hp => ?_, fun k hk => ?_⟩, fun m hm => ⟨(h9 m (by omega)).trans (l1 m hm).1, fun p hp => ?_⟩, fun p hp => ?_⟩
  · have g := t5 p hp
    have hp : p < sp_n w 5 := hp
    exact ⟨(h2 p (by omega)).trans g.1, (h3 p (by omega)).trans g.2.1, (h4 p (by omega)).trans g.2.2.1, (h5 p (by omega)).trans g.2.2.2⟩
  · have g := t6 k hk
    have hk : k < sp_n w 7 := hk
    exact ⟨(h6 _ (by omega)).trans g.1, (h6 _ (by omega)).trans g.2⟩
  · have g := (l1 m hm).2 p hp
    have hp : p < sp_n w 5 := hp
    exact ⟨(h7 _ (by omega)).trans g.1, (h8 _ (by omega)).trans g.2⟩
  · have g := l2 p hp
    have hp : p < sp_n w 5 := hp
    exact (h10 p (by omega)).trans g
/-! nets cut -/
def yz_cut (w : Nat → Int32) (n : Int32) : Nat := yz_sum (dy_noSet (hs_day w) n) (sp_n w 0) (sp_n w 5)
theorem yc_without {n : Int32} (hW : jW w) (hD : yD σ w) : yp (fX8_totalWithout σ n) (fun r => r.1 = nI (yz_cut w n) ∧ ∀ q, (q < 38 ∨ 48 < q) → r.2.1 q = σ.1 q) := by
  have c5 := (yl_5 hW).2
  have c0 := (yl_0 hW).2
  unfold fX8_totalWithout
  refine yp_bd _ (yc_trial hW hD (by decide)) (fun z hz => yp_lt ?_)
  obtain ⟨hr, h0, ⟨t1, t2, t3, t4, t5, t6⟩, hl⟩ := hz
  have hT : yd_T 38 (sn_pI z 38 3 n) (dy_noSet (hs_day w) n) := ⟨(pI_slot (by decide)).trans t1, (pI_slot (by decide)).trans t2, pI_self, fun m hm => (congrFun (pI_ne (by decide)) m).trans (t4 m hm), fun p hp => by
    rw [pI_ne (by decide), pI_ne (by decide), pI_ne (by decide), pI_ne (by decide)]
    exact t5 p hp, fun k hk => by
    rw [pI_ne (by decide)]
    exact t6 k hk⟩
  refine yp_bd _ (yc_whole ((pI_slot (by decide)).trans h0) c0 hT (hs_ok hW)) (fun v hv => ?_)
  obtain ⟨hf, hL⟩ := hv
  refine yp_bd _ (yc_total (i := dy_noSet (hs_day w) n) ((congrFun (hf.1 38 (by omega)) 1).trans hT.1) c5 c0 hL.2) (fun t ht => yp_some ⟨ht, fun q hq => ?_⟩)
  exact (hf.1 q (by omega)).trans ((pI_ne (by omega)).trans (hr q (by omega)))
/-- the reference, told of a house, net n cut -/
theorem ym_without {n : Int32} (hW : jW w) (hu : u.1 1 = w) (h22 : u.1 0 22 = nI (sp_n w 0) - 1) (hT : ∃ n, ym_T u (dy_noSet (hs_day w) n)) : yp (fX9_allWithout u n) (fun r => r.1 = nI (yz_cut w n) ∧ r.2.1 1 = w ∧ r.2.1 0 22 = nI (sp_n w 0) - 1 ∧ ∃ n, ym_T r.2 (dy_noSet (hs_day w) n)) := by
  have c5 := (yl_5 hW).2
  have c0 := (yl_0 hW).2
  obtain ⟨n0, t1, t2, t3, t4, t5, t6⟩ := hT
  have hT2 : ym_T (sn_pI u 0 19 n) (dy_noSet (hs_day w) n) := ⟨(congrFun (pI_ne (by decide)) 5).trans t1, (congrFun (pI_ne (by decide)) 7).trans t2, pI_self, fun m hm => (congrFun (pI_ne (by decide)) m).trans (t4 m hm), fun p hp => by
    rw [pI_ne (by decide), pI_ne (by decide), pI_ne (by decide)]
    exact t5 p hp, fun k hk => by
    rw [pI_ne (by decide)]
    exact t6 k hk⟩
  have e22 : (sn_pI u 0 19 n).1 0 22 = nI (sp_n w 0) - 1 := (pI_slot (by decide)).trans h22
  unfold fX9_allWithout
  refine yp_lt (yp_bd _ (ym_goAll c0 e22 hT2 (hs_ok hW)) (fun v hv => ?_))
  obtain ⟨⟨f1, f2⟩, hL⟩ := hv
  have e1 : v.1 1 = w := (f1 1 (by omega)).trans ((pI_ne (by decide)).trans hu)
  refine yp_bd _ (ym_total (i := dy_noSet (hs_day w) n) ((congrFun e1 5).trans (yl_5 hW).1) c5 (fun p hp => ?_)) (fun t ht => yp_some ⟨ht, e1, (congrFun (f1 0 (by omega)) 22).trans e22, n, ym_Tc (fun a ha => f1 a (Or.inl ha)) hT2⟩)
  have g := (hL.2 p (by have : p < sp_n w 5 := hp; omega)).1
  rw [if_pos hp] at g
  exact g
theorem yz_54 {a : Int32} (hK : zK σ τ) : yr (fX8_cut σ a) (fX9_cut τ a) (fun r s => r.1 = s.1) := by
  have hW := hK.2.1.1
  have hH := hK.2.1.2
  have c7 := hW.1.2.2.2.2.2.2.2.1
  have e7 : sn_I σ (1 + 1) (7 : Int32).toNatClampNeg = nI (sp_n (τ.1 1) 7) := (hH.1 7 (by decide)).trans c7.1
  unfold fX8_cut fX9_cut
  have l7 := c7.2
  have eN : yp (fX8_isNet σ a) (fun v => v = if 0 ≤ a ∧ a < nI (sp_n (τ.1 1) 7) then 1 else 0) := by
    unfold fX8_isNet
    rw [e7]
    refine yp_ite (fun c => yp_gd (fun _ => yp_some ?_)) (fun c => yp_gd (fun _ => yp_ite (fun c2 => yp_gd (fun _ => yp_some ?_)) (fun c2 => yp_gd (fun _ => yp_some ?_))))
    · rw [if_neg (fun h => Int32.not_lt.mpr h.1 c)]
    · rw [if_neg (fun h => Int32.not_lt.mpr c2 h.2)]
    · rw [if_pos ⟨Int32.not_lt.mp c, Int32.not_le.mp c2⟩]
  by_cases g : 0 ≤ a ∧ a < nI (sp_n (τ.1 1) 7)
  · refine yr_eq2 (nI (yz_cut (τ.1 1) a)) ?_ ?_
    · refine yp_bd _ eN (fun t ht => ?_)
      rw [ht, if_pos g, if_neg (by decide)]
      exact yp_bd _ (yc_without hW hK.2.2.2) (fun r hr => yp_some hr.1)
    · refine yp_bd _ (ym_asItIs rfl hW) (fun u hu => ?_)
      have u1 : u.1 1 = τ.1 1 := hu.1.1 1 (by decide) (by decide) (by decide) (by decide)
      rw [show sn_I u 1 (7 : Int32).toNatClampNeg = nI (sp_n (τ.1 1) 7) from (congrFun u1 7).trans c7.1, show fX9_in a.toInt64 (0 : Int64) (nI (sp_n (τ.1 1) 7) - (1 : Int32)).toInt64 = _ from in_eq32 a 0 (nI (sp_n (τ.1 1) 7) - (1 : Int32)), if_pos ⟨g.1, (i32_le_sub1 (nI_pos' (by omega))).mpr g.2⟩]
      refine yp_gd (fun _ => yp_bs rfl ?_)
      rw [if_neg (by decide)]
      exact yp_bd _ (ym_without hW u1 hu.2.2.2.2.2.1 ⟨-1, ya_day rfl hW hu⟩) (fun r hr => yp_some hr.1)
  · refine yr_eq2 (-2 : Int32) ?_ ?_
    · refine yp_bd _ eN (fun t ht => ?_)
      rw [ht, if_neg g, if_pos rfl]
      exact yp_some rfl
    · refine yp_bd _ (ym_asItIs rfl hW) (fun u hu => ?_)
      have u1 : u.1 1 = τ.1 1 := hu.1.1 1 (by decide) (by decide) (by decide) (by decide)
      rw [show sn_I u 1 (7 : Int32).toNatClampNeg = nI (sp_n (τ.1 1) 7) from (congrFun u1 7).trans c7.1, show fX9_in a.toInt64 (0 : Int64) (nI (sp_n (τ.1 1) 7) - (1 : Int32)).toInt64 = _ from in_eq32 a 0 (nI (sp_n (τ.1 1) 7) - (1 : Int32)), if_neg (fun h => g ⟨h.1, (i32_le_sub1 (nI_pos' (by omega))).mp h.2⟩)]
      refine yp_gd (fun _ => yp_bs rfl ?_)
      rw [if_pos rfl]
      exact yp_some rfl
def yz_ls (t0 : Int32) (f : Nat → Int32) : Nat → Int32 × Int32
  | 0 => (-1, t0)
  | n + 1 => if f n < (yz_ls t0 f n).2 then (nI n, f n) else yz_ls t0 f n
theorem yz_55 (hK : zK σ τ) : yr (fX8_cuts σ) (fX9_cuts τ) (fun r s => r.1 = s.1) := by
  have hW := hK.2.1.1
  have c7 := hW.1.2.2.2.2.2.2.2.1
  have l7 := c7.2
  unfold fX8_cuts fX9_cuts
  refine yz_house2 hK (fun v u h10 hM => ?_)
  obtain ⟨f, hf⟩ : ∃ f : Nat → Int32, ∀ k, f k = nI (yz_cut (τ.1 1) (nI k)) := ⟨_, fun _ => rfl⟩
  obtain ⟨t0, ht0⟩ : ∃ t0, t0 = nI (yz_sum (hs_day (τ.1 1)) (sp_n (τ.1 1) 0) (sp_n (τ.1 1) 5)) := ⟨_, rfl⟩
  have k1 : ∀ k, yz_ls t0 f (k + 1) = if f k < (yz_ls t0 f k).2 then (nI k, f k) else yz_ls t0 f k := fun k => rfl
  refine yr_eq2 (yz_ls t0 f (sp_n (τ.1 1) 7)).1 ?_ ?_
  · refine yp_bd _ (yc_total (i := hs_day (τ.1 1)) hK.2.2.2.2.1.1 hW.1.2.2.2.2.2.1.2 hW.1.1.2 (fun p hp => yz_sn hK hp)) (fun t ht => ?_)
    have ht : t = t0 := ht.trans ht0.symm
    subst ht
    refine yp_bd (fun r => r.2 = (yz_ls t f (sp_n (τ.1 1) 7)).1) (yp_for (sp_n (τ.1 1) 7) (fun k s => s.2.2.2 = nI k ∧ s.2.1 = (yz_ls t f k).1 ∧ s.2.2.1 = (yz_ls t f k).2 ∧ ∀ q, (q < 38 ∨ 48 < q) → s.1.1 q = σ.1 q) (fun k s hk hs => ?_) (fun s hs => ?_) ⟨nI_0.symm, rfl, rfl, fun _ _ => rfl⟩) (fun v hv => ?_)
    · obtain ⟨z, b, c, x⟩ := s
      obtain ⟨ex, eb, ec, hz⟩ := hs
      have ex : x = nI k := ex
      have eb : b = _ := eb
      have ec : c = _ := ec
      have hz : ∀ q, (q < 38 ∨ 48 < q) → z.1 q = σ.1 q := hz
      subst ex
      subst eb
      subst ec
      show yp (BX8_cuts_22 z _ _ (nI k)) _
      unfold BX8_cuts_22 BX8_cuts_54
      rw [show sn_I z (1 + 1) (7 : Int32).toNatClampNeg = nI (sp_n (τ.1 1) 7) from (congrFun (hz 2 (by omega)) 7).trans ((hK.2.1.2.1 7 (by decide)).trans c7.1), if_neg (nI_ge hk (by omega))]
      refine yp_gd (fun _ => yp_bd _ (yc_without hW (yD_c (fun q a b => hz q (by omega)) hK.2.2.2)) (fun r hr => ?_))
      rw [hr.1, ← hf k]
      refine yp_ite (fun c => yp_lt (yp_some ⟨nI_1 k, ?_, ?_, fun q hq => (hr.2 q hq).trans (hz q hq)⟩)) (fun c => yp_lt (yp_some ⟨nI_1 k, ?_, ?_, fun q hq => (hr.2 q hq).trans (hz q hq)⟩))
      · rw [k1, if_neg (Int32.not_lt.mpr c)]
      · rw [k1, if_neg (Int32.not_lt.mpr c)]
      · rw [k1, if_pos (Int32.not_le.mp c)]
      · rw [k1, if_pos (Int32.not_le.mp c)]
    · obtain ⟨z, b, c, x⟩ := s
      obtain ⟨ex, eb, ec, hz⟩ := hs
      have ex : x = nI (sp_n (τ.1 1) 7) := ex
      have hz : ∀ q, (q < 38 ∨ 48 < q) → z.1 q = σ.1 q := hz
      subst ex
      show yp (BX8_cuts_22 z b c (nI (sp_n (τ.1 1) 7))) _
      unfold BX8_cuts_22
      rw [show sn_I z (1 + 1) (7 : Int32).toNatClampNeg = nI (sp_n (τ.1 1) 7) from (congrFun (hz 2 (by omega)) 7).trans ((hK.2.1.2.1 7 (by decide)).trans c7.1), if_pos (nI_le (Nat.le_refl _) (by omega))]
      exact yp_gd (fun _ => yp_some eb)
    · unfold BX8_cuts_60
      exact yp_some hv
  · refine yp_bd _ (ym_total (i := hs_day (τ.1 1)) ((congrFun hM.1 5).trans hW.1.2.2.2.2.2.1.1) hW.1.2.2.2.2.2.1.2 (fun p hp => yz_msn hW hM hp)) (fun t ht => ?_)
    have ht : t = t0 := ht.trans ht0.symm
    subst ht
    refine yp_bd (fun r => r.2 = (yz_ls t f (sp_n (τ.1 1) 7)).1) (yp_for (sp_n (τ.1 1) 7) (fun k s => s.2.2.2 = nI k ∧ s.2.1 = (yz_ls t f k).1 ∧ s.2.2.1 = (yz_ls t f k).2 ∧ s.1.1 1 = τ.1 1 ∧ s.1.1 0 22 = nI (sp_n (τ.1 1) 0) - 1 ∧ ∃ n, ym_T s.1 (dy_noSet (hs_day (τ.1 1)) n)) (fun k s hk hs => ?_) (fun s hs => ?_) ⟨nI_0.symm, rfl, rfl, hM.1, yM_22 hM, -1, hM.2.2.2.2.2.2.2.2.2.1⟩) (fun v hv => ?_)
    · obtain ⟨z, b, c, x⟩ := s
      obtain ⟨ex, eb, ec, z1, z22, zT⟩ := hs
      have ex : x = nI k := ex
      have eb : b = _ := eb
      have ec : c = _ := ec
      have z1 : z.1 1 = τ.1 1 := z1
      subst ex
      subst eb
      subst ec
      show yp (BX9_cuts_19 z _ _ (nI k)) _
      unfold BX9_cuts_19 BX9_cuts_51
      rw [show sn_I z 1 (7 : Int32).toNatClampNeg = nI (sp_n (τ.1 1) 7) from (congrFun z1 7).trans c7.1, if_neg (nI_ge hk (by omega))]
      refine yp_gd (fun _ => yp_bd _ (ym_without hW z1 z22 zT) (fun r hr => ?_))
      rw [hr.1, ← hf k]
      refine yp_ite (fun c => yp_lt (yp_some ⟨nI_1 k, ?_, ?_, hr.2⟩)) (fun c => yp_lt (yp_some ⟨nI_1 k, ?_, ?_, hr.2⟩))
      · rw [k1, if_pos c]
      · rw [k1, if_pos c]
      · rw [k1, if_neg c]
      · rw [k1, if_neg c]
    · obtain ⟨z, b, c, x⟩ := s
      obtain ⟨ex, eb, ec, z1, z22, zT⟩ := hs
      have ex : x = nI (sp_n (τ.1 1) 7) := ex
      have z1 : z.1 1 = τ.1 1 := z1
      subst ex
      show yp (BX9_cuts_19 z b c (nI (sp_n (τ.1 1) 7))) _
      unfold BX9_cuts_19
      rw [show sn_I z 1 (7 : Int32).toNatClampNeg = nI (sp_n (τ.1 1) 7) from (congrFun z1 7).trans c7.1, if_pos (nI_le (Nat.le_refl _) (by omega))]
      exact yp_gd (fun _ => yp_some eb)
    · unfold BX9_cuts_57
      exact yp_some hv
end
end
section
/-! the fewest minutes to hold back in: what is meant, backward over all minutes; the class goes forward -/
def yo_c (m : Nat) : Nat := 1073741824 + 2 ^ m
/-- the cost of the last n of M minutes, by the minute behind the latest sneeze -/
def yo_v (F : Nat → Nat → Bool) (W : Nat → Bool) (M : Nat) : Nat → Nat → Nat
  | 0, _ => 0
  | n + 1, l => if F l (M - (n + 1)) = true then (if W (M - (n + 1)) = true then yo_v F W M n l + yo_c (M - (n + 1)) else min (yo_v F W M n l + yo_c (M - (n + 1))) (yo_v F W M n (M - (n + 1) + 1))) else yo_v F W M n l
def yo_V (F : Nat → Nat → Bool) (W : Nat → Bool) (M m l : Nat) : Nat := yo_v F W M (M - m) l
section
variable {F : Nat → Nat → Bool} {W : Nat → Bool} {M m l n V : Nat}
theorem yo_step (hm : m < M) : yo_V F W M m l = if F l m = true then (if W m = true then yo_V F W M (m + 1) l + yo_c m else min (yo_V F W M (m + 1) l + yo_c m) (yo_V F W M (m + 1) (m + 1))) else yo_V F W M (m + 1) l := by
  obtain ⟨n, hn⟩ : ∃ n, M - m = n + 1 := ⟨M - m - 1, by omega⟩
  have e : M - (n + 1) = m := by omega
  have e2 : M - (m + 1) = n := by omega
  unfold yo_V
  rw [hn, e2]
  show (if F l (M - (n + 1)) = true then (if W (M - (n + 1)) = true then yo_v F W M n l + yo_c (M - (n + 1)) else min (yo_v F W M n l + yo_c (M - (n + 1))) (yo_v F W M n (M - (n + 1) + 1))) else yo_v F W M n l) = _
  rw [e]
theorem yo_end : yo_V F W M M l = 0 := by
  unfold yo_V
  rw [Nat.sub_self]
  rfl
theorem yo_v0 : ∀ n, n ≤ M → (∀ m, M - n ≤ m → m < M → W m = false) → ∀ l, yo_v F W M n l = 0 := by
  intro n
  induction n with
  | zero => intro _ _ l; rfl
  | succ n ih =>
    intro hn h l
    have ih := ih (by omega) (fun m h1 h2 => h m (by omega) h2)
    show (if F l (M - (n + 1)) = true then (if W (M - (n + 1)) = true then yo_v F W M n l + yo_c (M - (n + 1)) else min (yo_v F W M n l + yo_c (M - (n + 1))) (yo_v F W M n (M - (n + 1) + 1))) else yo_v F W M n l) = 0
    rw [h (M - (n + 1)) (Nat.le_refl _) (by omega), ih l, ih (M - (n + 1) + 1)]
    by_cases c : F l (M - (n + 1)) = true
    · rw [if_pos c, if_neg (by decide), Nat.min_eq_right (Nat.zero_le _)]
    · rw [if_neg c]
theorem yo_V0 (hm : m ≤ M) (h : ∀ j, m ≤ j → j < M → W j = false) : yo_V F W M m l = 0 := yo_v0 (M - m) (by omega) (fun j h1 h2 => h j (by omega) h2) l
/-! a set as one number: how many, then which -/
def yo_g (m n V : Nat) : Prop := V % 2 ^ m = 0 ∧ V < (n + 1) * 1073741824
theorem yo_inc (hm : m < 30) (h : yo_g (m + 1) n V) : (V + yo_c m) / 1073741824 = V / 1073741824 + 1 ∧ (V + yo_c m) % 1073741824 = V % 1073741824 + 2 ^ m ∧ yo_g m (n + 1) (V + yo_c m) ∧ V % 1073741824 % 2 ^ (m + 1) = 0 ∧ V % 1073741824 + 2 ^ (m + 1) ≤ 1073741824 := by
  obtain ⟨h1, h2⟩ := h
  obtain ⟨R, hR⟩ : ∃ R, 1073741824 = 2 ^ (m + 1) * R := ⟨2 ^ (29 - m), (show (1073741824 : Nat) = 2 ^ 30 from rfl).trans (by rw [← Nat.pow_add, show m + 1 + (29 - m) = 30 by omega])⟩
  obtain ⟨t, ht⟩ : ∃ t, V = 2 ^ (m + 1) * t := ⟨V / 2 ^ (m + 1), (Nat.mul_div_cancel' (Nat.dvd_of_mod_eq_zero h1)).symm⟩
  have hx : V % 1073741824 = 2 ^ (m + 1) * (t % R) := by
    rw [hR, ht, Nat.mul_mod_mul_left]
  have hR0 : 0 < R := by
    rcases Nat.eq_zero_or_pos R with e | e
    · rw [e, Nat.mul_zero] at hR
      exact absurd hR (by decide)
    · exact e
  have hlt : t % R < R := Nat.mod_lt _ hR0
  have hle : V % 1073741824 + 2 ^ (m + 1) ≤ 1073741824 := by
    have g : 2 ^ (m + 1) * (t % R + 1) ≤ 2 ^ (m + 1) * R := Nat.mul_le_mul_left _ hlt
    rw [← hR, Nat.mul_add, Nat.mul_one, ← hx] at g
    exact g
  have p2 : 2 ^ (m + 1) = 2 * 2 ^ m := by rw [Nat.pow_succ, Nat.mul_comm]
  have hp : 0 < 2 ^ m := Nat.pow_pos (by decide)
  have d1 : 2 ^ m ∣ V := Nat.dvd_trans (Nat.pow_dvd_pow 2 (Nat.le_succ m)) (Nat.dvd_of_mod_eq_zero h1)
  have d2 : 2 ^ m ∣ 1073741824 := show 2 ^ m ∣ 2 ^ 30 from Nat.pow_dvd_pow 2 (by omega)
  have d3 : (V + yo_c m) % 2 ^ m = 0 := Nat.mod_eq_zero_of_dvd (Nat.dvd_add d1 (Nat.dvd_add d2 (Nat.dvd_refl _)))
  have d4 : V % 1073741824 % 2 ^ (m + 1) = 0 := by rw [hx]; exact Nat.mul_mod_right _ _
  refine ⟨?_, ?_, ⟨d3, ?_⟩, d4, hle⟩
  · rw [p2] at hle
    unfold yo_c
    generalize 2 ^ m = P at hle hp ⊢
    clear hx d1 d2 d3 d4 ht hR hlt h1 p2
    omega
  · rw [p2] at hle
    unfold yo_c
    generalize 2 ^ m = P at hle hp ⊢
    clear hx d1 d2 d3 d4 ht hR hlt h1 p2
    omega
  · rw [p2] at hle
    unfold yo_c
    generalize 2 ^ m = P at hle hp ⊢
    clear hx d1 d2 d3 d4 ht hR hlt h1 p2
    omega
theorem yo_gs (h : yo_g (m + 1) n V) : yo_g m (n + 1) V := by
  obtain ⟨h1, h2⟩ := h
  have h3 : V < (n + 1 + 1) * 1073741824 := by
    have e : (n + 1 + 1) * 1073741824 = (n + 1) * 1073741824 + 1073741824 := by rw [Nat.add_mul (n + 1) 1, Nat.one_mul]
    rw [e]
    exact Nat.lt_of_lt_of_le h2 (Nat.le_add_right _ _)
  exact ⟨Nat.mod_eq_zero_of_dvd (Nat.dvd_trans (Nat.pow_dvd_pow 2 (Nat.le_succ m)) (Nat.dvd_of_mod_eq_zero h1)), h3⟩
theorem yo_ok (hM : M ≤ 30) : ∀ n, n ≤ M → ∀ l, yo_g (M - n) n (yo_v F W M n l) := by
  intro n
  induction n with
  | zero => exact fun _ l => ⟨Nat.zero_mod _, by show 0 < (0 + 1) * 1073741824; decide⟩
  | succ n ih =>
    intro hn l
    obtain ⟨m, em⟩ : ∃ m, m = M - (n + 1) := ⟨_, rfl⟩
    have e1 : M - n = m + 1 := by omega
    have ih := ih (by omega)
    rw [e1] at ih
    show yo_g (M - (n + 1)) (n + 1) (if F l (M - (n + 1)) = true then (if W (M - (n + 1)) = true then yo_v F W M n l + yo_c (M - (n + 1)) else min (yo_v F W M n l + yo_c (M - (n + 1))) (yo_v F W M n (M - (n + 1) + 1))) else yo_v F W M n l)
    rw [← em]
    have a1 := (yo_inc (show m < 30 by omega) (ih l)).2.2.1
    by_cases c : F l m = true
    · rw [if_pos c]
      by_cases g : W m = true
      · rw [if_pos g]
        exact a1
      · rw [if_neg g]
        rcases Nat.le_total (yo_v F W M n l + yo_c m) (yo_v F W M n (m + 1)) with x | x
        · rw [Nat.min_eq_left x]
          exact a1
        · rw [Nat.min_eq_right x]
          exact yo_gs (ih _)
    · rw [if_neg c]
      exact yo_gs (ih l)
theorem yo_Vok (hM : M ≤ 30) (hm : m ≤ M) : yo_g m (M - m) (yo_V F W M m l) := by
  have h := yo_ok (F := F) (W := W) hM (M - m) (by omega) l
  rw [show M - (M - m) = m by omega] at h
  exact h
/-! forward -/
def yo_K (G a : Nat) (D : Nat → Nat) (lo : Nat) (fr : Nat → Nat) (bs av : Nat) : Prop := G ≤ bs ∧ (∀ t, lo ≤ t → t ≤ a → G ≤ fr t + D t) ∧ G ≤ av ∧ (bs = G ∨ (∃ t, lo ≤ t ∧ t ≤ a ∧ fr t + D t = G) ∨ av = G)
def yo_u (fr : Nat → Nat) (k v : Nat) : Nat → Nat := fun t => if t = k then v else fr t
theorem yo_split {G a lo bs S A B k : Nat} {D fr : Nat → Nat} (h1 : lo ≤ k) (h2 : k ≤ a) (hB : B = D k) (h : yo_K G a D lo fr bs (S + min A B)) : yo_K G a D lo (yo_u fr k (min S (fr k))) bs (S + A) := by
  obtain ⟨b0, bt, ba, be⟩ := h
  have hk := bt k h1 h2
  rw [← hB] at hk
  refine ⟨b0, fun t t1 t2 => ?_, by omega, ?_⟩
  · show G ≤ (if t = k then min S (fr k) else fr t) + D t
    by_cases e : t = k
    · rw [if_pos e, e, ← hB]
      omega
    · rw [if_neg e]
      exact bt t t1 t2
  · rcases be with e | ⟨t, t1, t2, e⟩ | e
    · exact Or.inl e
    · refine Or.inr (Or.inl ⟨t, t1, t2, ?_⟩)
      show (if t = k then min S (fr k) else fr t) + D t = G
      by_cases g : t = k
      · rw [if_pos g, g, ← hB]
        rw [g, ← hB] at e
        omega
      · rw [if_neg g]
        exact e
    · by_cases g : A ≤ B
      · exact Or.inr (Or.inr (by omega))
      · refine Or.inr (Or.inl ⟨k, h1, h2, ?_⟩)
        show (if k = k then min S (fr k) else fr k) + D k = G
        rw [if_pos rfl, ← hB]
        omega
theorem yo_skip {G a lo bs av R : Nat} {D fr : Nat → Nat} (hR : G < R) (hf : fr lo = R) (h : yo_K G a D lo fr bs av) : yo_K G a D (lo + 1) fr bs av := by
  obtain ⟨b0, bt, ba, be⟩ := h
  refine ⟨b0, fun t t1 t2 => bt t (by omega) t2, ba, ?_⟩
  rcases be with e | ⟨t, t1, t2, e⟩ | e
  · exact Or.inl e
  · refine Or.inr (Or.inl ⟨t, ?_, t2, e⟩)
    rcases Nat.lt_or_ge lo t with g | g
    · exact g
    · have g2 : t = lo := by omega
      rw [g2, hf] at e
      omega
  · exact Or.inr (Or.inr e)
theorem yo_take {G a lo bs R : Nat} {D fr : Nat → Nat} (hR : G < R) (ha : lo ≤ a) (h : yo_K G a D lo fr bs R) : yo_K G a D (lo + 1) fr bs (fr lo + D lo) := by
  obtain ⟨b0, bt, ba, be⟩ := h
  refine ⟨b0, fun t t1 t2 => bt t (by omega) t2, bt lo (Nat.le_refl _) ha, ?_⟩
  rcases be with e | ⟨t, t1, t2, e⟩ | e
  · exact Or.inl e
  · rcases Nat.lt_or_ge lo t with g | g
    · exact Or.inr (Or.inl ⟨t, g, t2, e⟩)
    · have g2 : t = lo := by omega
      rw [g2] at e
      exact Or.inr (Or.inr e)
  · omega
theorem yo_best {G a lo bs S R : Nat} {D fr : Nat → Nat} (hR : G < R) (h : yo_K G a D lo fr bs S) : yo_K G a D lo fr (min S bs) R := by
  obtain ⟨b0, bt, ba, be⟩ := h
  refine ⟨by omega, bt, by omega, ?_⟩
  rcases be with e | e | e
  · exact Or.inl (by omega)
  · exact Or.inr (Or.inl e)
  · exact Or.inl (by omega)
end
/-! what comes to him, and when he tickles enough -/
def yo_x (w : Nat → Int32) (p m : Nat) : Int32 := dy_more (hs_day w) (dy_st (hs_day w) m).2 m p
def yo_t (x : Nat → Int32) (s : Nat) : Nat → Int32
  | 0 => 0
  | n + 1 => yo_t x s n + x (s + n)
def yo_F (w : Nat → Int32) (p s m : Nat) : Bool := decide (dy_lim (hs_day w) p ≤ yo_t (yo_x w p) s (m + 1 - s))
def yo_a (w : Nat → Int32) (q : Nat) : Nat := sp_n w (50 + 5 * q)
def yo_L (w : Nat → Int32) (q : Nat) : Nat := min (sp_n w (51 + 5 * q) + 1) (sp_n w 0)
def yo_p (w : Nat → Int32) (q : Nat) : Nat := sp_n w (49 + 5 * q)
def yo_D (w : Nat → Int32) (q m l : Nat) : Nat := yo_V (yo_F w (yo_p w q)) (yl_m w q) (sp_n w 0) m l
def yo_G (w : Nat → Int32) (q : Nat) : Nat := yo_D w q 0 0
def yo_far : Nat := 4611686018427387904
def yo_B (fr : Nat → Nat) (z : sn_S) : Prop := ∀ t, t < 31 → z.2.1 53 t = lN (fr t) ∧ (fr t = yo_far ∨ fr t < (t + 1) * 2147483648)
theorem yo_Ls {z : sn_S} {q k : Nat} {v : Int64} : (sn_pL z q k v).2.1 q k = v := if_pos ⟨rfl, rfl⟩
theorem yo_Lk {z : sn_S} {q k b : Nat} {v : Int64} (h : b ≠ k) : (sn_pL z q k v).2.1 q b = z.2.1 q b := if_neg (fun g => h g.2)
theorem yo_Lq {z : sn_S} {a q k b : Nat} {v : Int64} (h : a ≠ q) : (sn_pL z q k v).2.1 a b = z.2.1 a b := if_neg (fun g => h g.1)
section
variable {σ z : sn_S} {w : Nat → Int32} {q s m : Nat}
theorem yo_cL : ∀ m, m < 30 → (1073741824 : Int64) + ((1 : Int64) <<< ((nI m).toInt64 &&& 63)) = lN (yo_c m) := by decide +kernel
theorem yo_cle (hm : m < 30) : yo_c m < 2147483648 := by
  have h : 2 ^ m ≤ 2 ^ 29 := Nat.pow_le_pow_right (by decide) (by omega)
  have h2 : (2 : Nat) ^ 29 = 536870912 := by decide
  unfold yo_c
  omega
theorem yo_min {a b : Nat} (ha : a < 2 ^ 63) (hb : b < 2 ^ 63) : (if lN a < lN b then lN a else lN b) = lN (min a b) := by
  by_cases c : a < b
  · rw [if_pos ((pk_lLT ha hb).mpr c), Nat.min_eq_left (by omega)]
  · rw [if_neg (fun h => c ((pk_lLT ha hb).mp h)), Nat.min_eq_right (by omega)]
theorem yo_lc {a b : Nat} (ha : a < 2 ^ 63) (hb : b < 2 ^ 63) : lg_cmp (lN a) (lN b) = 0 ↔ a = b := by
  constructor
  · intro h
    exact (pk_lEQ ha hb).mp (Int64.toInt_inj.mp (zs_lg_eq h))
  · intro h
    rw [h]
    exact lw_cmp0 (lN b)
theorem yo_ts (x : Nat → Int32) (h : s ≤ m) : yo_t x s (m - s) + x m = yo_t x s (m + 1 - s) := by
  rw [show m + 1 - s = (m - s) + 1 by omega]
  show _ = yo_t x s (m - s) + x (s + (m - s))
  rw [show s + (m - s) = m by omega]
theorem yo_Glt (hW : jW w) : yo_G w q < yo_far := by
  have h := (yo_Vok (F := yo_F w (yo_p w q)) (W := yl_m w q) (l := 0) (yl_0 hW).2 (Nat.zero_le _)).2
  have c0 := (yl_0 hW).2
  have e : yo_G w q = yo_V (yo_F w (yo_p w q)) (yl_m w q) (sp_n w 0) 0 0 := rfl
  have e2 : yo_far = 4611686018427387904 := rfl
  rw [← e] at h
  omega
theorem yo_Wm (h1 : m < yo_L w q) : yl_m w q m = decide (yo_a w q ≤ m) := by
  have h2 : m < sp_n w (51 + 5 * q) + 1 ∧ m < sp_n w 0 := by unfold yo_L at h1; omega
  unfold yl_m yl_w yo_a
  rw [Bool.eq_iff_iff]
  simp only [Bool.and_eq_true, decide_eq_true_eq]
  omega
theorem yo_W0 (h1 : yo_L w q ≤ m) (h2 : m < sp_n w 0) : yl_m w q m = false := by
  have h3 : sp_n w (51 + 5 * q) < m := by unfold yo_L at h1; omega
  unfold yl_m yl_w
  rw [decide_eq_false (by omega), Bool.false_and]
theorem yo_Wa (h0 : yo_L w q ≤ yo_a w q) (h2 : m < sp_n w 0) : yl_m w q m = false := by
  rcases Nat.lt_or_ge m (yo_L w q) with g | g
  · rw [yo_Wm g, decide_eq_false (by omega)]
  · exact yo_W0 g h2
theorem yo_LM : yo_L w q ≤ sp_n w 0 := Nat.min_le_right _ _
/-- what holds in the loop of a beginning -/
def yo_I (σ : sn_S) (w : Nat → Int32) (q s m : Nat) (z : sn_S) (x : Int64) : Prop := z.1 = σ.1 ∧ ∃ (fr : Nat → Nat) (bs S : Nat), yo_B fr z ∧ z.2.1 52 1 = lN bs ∧ bs ≤ yo_far ∧ x = lN S ∧ S < (m + 1) * 2147483648 ∧ yo_K (yo_G w q) (yo_a w q) (fun t => yo_D w q t t) (s + 1) fr bs (S + yo_D w q m s)
def yo_J (σ : sn_S) (w : Nat → Int32) (q s : Nat) (z : sn_S) : Prop := z.1 = σ.1 ∧ ∃ (fr : Nat → Nat) (bs : Nat), yo_B fr z ∧ z.2.1 52 1 = lN bs ∧ bs ≤ yo_far ∧ yo_K (yo_G w q) (yo_a w q) (fun t => yo_D w q t t) s fr bs yo_far
theorem yc_comesx {p : Nat} (hD : yD σ w) (hW : jW w) (hp : p < sp_n w 5) (hm : m < sp_n w 0) (hz : z.1 = σ.1) : yp (fX0_comesTo z 27 (nI p) (nI m)) (fun v => v = yo_x w p m) := by
  have c0 := (yl_0 hW).2
  have c5 := (yl_5 hW).2
  obtain ⟨-, ⟨-, -, -, t4, t5, -⟩, ⟨l1, -⟩⟩ := hD
  obtain ⟨k1, k2, k3, k4⟩ := t5 p hp
  refine yp_w (yc_comes (q := 27) (show m < 30 by omega) (show p < 6 by omega)) (fun v hv => ?_)
  rw [hv, hz, k1, k4, t4 m (by omega), (((l1 m hm).2 p hp).2 : σ.1 (27 + 8) (6 * m + p) = _)]
  rfl
theorem yc_goOnI {p : Nat} {z : sn_S} {x : Int64} {t : Int32} (hD : yD σ w) (hW : jW w) (hp : p < sp_n w 5) (ep : p = yo_p w q) (hs : s ≤ m) (hm : m ≤ yo_L w q) (ha : yo_a w q < yo_L w q) (ht : t = yo_t (yo_x w p) s (m - s)) (hI : yo_I σ w q s m z x) : yp (BX1_goOn_14 z 27 (nI p) (nI (yo_a w q)) (nI (yo_L w q) - 1) x t (nI m)) (yp_sum (fun r : sn_S × Int64 × Int32 × Int32 => ∃ m', s ≤ m' ∧ m' ≤ yo_L w q ∧ r.2.2.2 = nI m' ∧ r.2.2.1 = yo_t (yo_x w p) s (m' - s) ∧ yo_I σ w q s m' r.1 r.2.1) (fun r : sn_S × Int64 => yo_I σ w q s (yo_L w q) r.1 r.2)) := by
  have c0 := (yl_0 hW).2
  have c5 := (yl_5 hW).2
  have hLM : yo_L w q ≤ sp_n w 0 := yo_LM
  unfold BX1_goOn_14
  refine yp_ite (fun c => ?_) (fun c => ?_)
  · have c := (yi_last (M := yo_L w q) (by omega) (by omega)).mp c
    have e : m = yo_L w q := by omega
    rw [← e]
    exact yp_some hI
  · have hmL : m < yo_L w q := by
      rcases Nat.lt_or_ge m (yo_L w q) with g | g
      · exact g
      · exact absurd ((yi_last (M := yo_L w q) (by omega) (by omega)).mpr g) c
    obtain ⟨z1, fr, bs, S, hB, hb, hb2, ex, hS, hK⟩ := hI
    refine yp_bd _ (yc_comesx hD hW hp (show m < sp_n w 0 by omega) z1) (fun v hv => yp_lt (yp_gd (fun _ => ?_)))
    rw [hv, ht, yo_ts _ hs, ex, nI_clamp (show p < 2 ^ 31 by omega), show sn_I z (27 + 3) p = dy_lim (hs_day w) p from (congrFun (congrFun z1 30) p).trans (hD.2.1.2.2.2.2.1 p hp).2.1]
    have st := yo_step (F := yo_F w (yo_p w q)) (W := yl_m w q) (M := sp_n w 0) (m := m) (l := s) (by omega)
    rw [yo_Wm hmL] at st
    have st : yo_D w q m s = _ := st
    have hc := yo_cle (show m < 30 by omega)
    have n87 : ∀ (z' : sn_S) (S' : Nat), yo_I σ w q s (m + 1) z' (lN S') → yp (BX1_goOn_87 z' 27 (nI p) (nI (yo_a w q)) (nI (yo_L w q) - 1) (lN S') (yo_t (yo_x w p) s (m + 1 - s)) (nI m)) (yp_sum (fun r : sn_S × Int64 × Int32 × Int32 => ∃ m', s ≤ m' ∧ m' ≤ yo_L w q ∧ r.2.2.2 = nI m' ∧ r.2.2.1 = yo_t (yo_x w p) s (m' - s) ∧ yo_I σ w q s m' r.1 r.2.1) (fun r : sn_S × Int64 => yo_I σ w q s (yo_L w q) r.1 r.2)) := fun z' S' hI' => by
      unfold BX1_goOn_87
      exact yp_lt (yp_some ⟨m + 1, by omega, hmL, nI_1 m, rfl, hI'⟩)
    have n74 : ∀ (z' : sn_S), yo_I σ w q s (m + 1) z' (lN (S + yo_c m)) → yp (BX1_goOn_74 z' 27 (nI p) (nI (yo_a w q)) (nI (yo_L w q) - 1) (lN S) (yo_t (yo_x w p) s (m + 1 - s)) (nI m)) (yp_sum (fun r : sn_S × Int64 × Int32 × Int32 => ∃ m', s ≤ m' ∧ m' ≤ yo_L w q ∧ r.2.2.2 = nI m' ∧ r.2.2.1 = yo_t (yo_x w p) s (m' - s) ∧ yo_I σ w q s m' r.1 r.2.1) (fun r : sn_S × Int64 => yo_I σ w q s (yo_L w q) r.1 r.2)) := fun z' hI' => by
      unfold BX1_goOn_74
      rw [yo_cL m (by omega), lN_add]
      exact yp_lt (n87 z' _ hI')
    refine yp_ite (fun c1 => ?_) (fun c1 => ?_)
    · have f : ¬ yo_F w (yo_p w q) s m = true := by
        rw [← ep]
        exact fun h => absurd (of_decide_eq_true h) (Int32.not_le.mpr c1)
      rw [if_neg f] at st
      have st : yo_D w q m s = yo_D w q (m + 1) s := st
      rw [st] at hK
      have hS2 : S < (m + 1 + 1) * 2147483648 := by
        have e : (m + 1 + 1) * 2147483648 = (m + 1) * 2147483648 + 2147483648 := by rw [Nat.add_mul (m + 1) 1, Nat.one_mul]
        rw [e]
        exact Nat.lt_of_lt_of_le hS (Nat.le_add_right _ _)
      exact n87 z S ⟨z1, fr, bs, S, hB, hb, hb2, rfl, hS2, hK⟩
    · have f : yo_F w (yo_p w q) s m = true := by
        rw [← ep]
        exact decide_eq_true (Int32.not_lt.mp c1)
      rw [if_pos f] at st
      refine yp_ite (fun c2 => ?_) (fun c2 => ?_)
      · have c2 : yo_a w q ≤ m := (nI_leI (by omega) (by omega)).mp c2
        rw [decide_eq_true c2, if_pos rfl] at st
        have st : yo_D w q m s = yo_D w q (m + 1) s + yo_c m := st
        rw [st, show S + (yo_D w q (m + 1) s + yo_c m) = S + yo_c m + yo_D w q (m + 1) s by omega] at hK
        exact n74 z ⟨z1, fr, bs, S + yo_c m, hB, hb, hb2, rfl, by omega, hK⟩
      · have c2 : m < yo_a w q := by
          rcases Nat.lt_or_ge m (yo_a w q) with g | g
          · exact g
          · exact absurd ((nI_leI (by omega) (by omega)).mpr g) c2
        rw [decide_eq_false (by omega), if_neg (by decide)] at st
        have st : yo_D w q m s = min (yo_D w q (m + 1) s + yo_c m) (yo_D w q (m + 1) (m + 1)) := st
        rw [st] at hK
        have hK2 := yo_split (k := m + 1) (by omega) (by omega) rfl hK
        rw [show S + (yo_D w q (m + 1) s + yo_c m) = S + yo_c m + yo_D w q (m + 1) s by omega] at hK2
        have hf := hB (m + 1) (by omega)
        have e2 : yo_far = 4611686018427387904 := rfl
        rw [nI_1, nI_clamp (show m + 1 < 2 ^ 31 by omega), show sn_L z 53 (m + 1) = lN (fr (m + 1)) from hf.1, yo_min (show S < 2 ^ 63 by omega) (show fr (m + 1) < 2 ^ 63 by rcases hf.2 with g | g <;> omega)]
        refine yp_gd (fun _ => yp_lt (yp_gd (fun _ => yp_le (fun y ey => ?_))))
        refine n74 y ⟨by rw [ey]; exact z1, yo_u fr (m + 1) (min S (fr (m + 1))), bs, S + yo_c m, fun t ht => ?_, ?_, hb2, rfl, by omega, hK2⟩
        · show y.2.1 53 t = lN (if t = m + 1 then min S (fr (m + 1)) else fr t) ∧ ((if t = m + 1 then min S (fr (m + 1)) else fr t) = yo_far ∨ (if t = m + 1 then min S (fr (m + 1)) else fr t) < (t + 1) * 2147483648)
          rw [ey]
          by_cases e : t = m + 1
          · rw [if_pos e]
            refine ⟨by rw [e]; exact yo_Ls, Or.inr ?_⟩
            omega
          · rw [if_neg e]
            exact ⟨(yo_Lk e).trans (hB t ht).1, (hB t ht).2⟩
        · rw [ey]
          exact (yo_Lq (by decide)).trans hb
theorem yc_goOn (hD : yD σ w) (hW : jW w) (hq : q < sp_n w 8) (ha : yo_a w q < yo_L w q) (hs : s ≤ yo_a w q) {fr : Nat → Nat} {bs : Nat} (z1 : z.1 = σ.1) (hB : yo_B fr z) (hb : z.2.1 52 1 = lN bs) (hb2 : bs ≤ yo_far) (hK : yo_K (yo_G w q) (yo_a w q) (fun t => yo_D w q t t) s fr bs yo_far) (hf : ¬ fr s = yo_far) : yp (fX1_goOn z 27 (nI (yo_p w q)) (nI s) (nI (yo_a w q)) (nI (yo_L w q) - 1)) (fun v => yo_J σ w q (s + 1) v) := by
  have c0 := (yl_0 hW).2
  have hLM : yo_L w q ≤ sp_n w 0 := yo_LM
  have hp : yo_p w q < sp_n w 5 := (yl_p hW hq).1.2
  have hGl := yo_Glt (q := q) hW
  have fs := hB s (by omega)
  have e2 : yo_far = 4611686018427387904 := rfl
  unfold fX1_goOn
  rw [nI_clamp (show s < 2 ^ 31 by omega), show sn_L z 53 s = lN (fr s) from fs.1]
  have fs2 : fr s < (s + 1) * 2147483648 := by
    rcases fs.2 with g | g
    · exact absurd g hf
    · exact g
  refine yp_gd (fun _ => yp_lt (yp_bd (fun r : sn_S × Int64 => yo_I σ w q s (yo_L w q) r.1 r.2) (yp_it (fun r : sn_S × Int64 × Int32 × Int32 => ∃ m', s ≤ m' ∧ m' ≤ yo_L w q ∧ r.2.2.2 = nI m' ∧ r.2.2.1 = yo_t (yo_x w (yo_p w q)) s (m' - s) ∧ yo_I σ w q s m' r.1 r.2.1) (fun r hr => ?_) _ _ (by exact ⟨s, Nat.le_refl _, by omega, rfl, by rw [Nat.sub_self]; rfl, z1, fr, bs, fr s, hB, hb, hb2, rfl, fs2, yo_take hGl hs hK⟩)) (fun r hr => ?_)))
  · obtain ⟨z', x, t, y⟩ := r
    obtain ⟨m, m1, m2, e1, et, hI⟩ := hr
    have e1 : y = nI m := e1
    have et : t = yo_t (yo_x w (yo_p w q)) s (m - s) := et
    subst e1
    exact yc_goOnI hD hW hp rfl m1 m2 ha et hI
  · obtain ⟨z', x⟩ := r
    obtain ⟨y1, fr', bs', S, hB', hb', hb2', ex, hS, hK'⟩ := hr
    have ex : x = lN S := ex
    have y1 : z'.1 = σ.1 := y1
    have hb' : z'.2.1 52 1 = lN bs' := hb'
    show yp (BX1_goOn_93 z' 27 x) _
    unfold BX1_goOn_93
    have dz : yo_D w q (yo_L w q) s = 0 := yo_V0 hLM (fun j h1 h2 => yo_W0 h1 h2)
    rw [dz, Nat.add_zero] at hK'
    rw [ex, show sn_L z' 52 1 = lN bs' from hb', yo_min (show S < 2 ^ 63 by omega) (show bs' < 2 ^ 63 by omega)]
    refine yp_lt (yp_le (fun y ey => yp_some ⟨by rw [ey]; exact y1, fr', min S bs', fun t ht => ?_, ?_, by omega, yo_best hGl hK'⟩))
    · rw [ey]
      exact ⟨(yo_Lq (by decide)).trans (hB' t ht).1, (hB' t ht).2⟩
    · rw [ey]
      exact yo_Ls
theorem yc_fillL (σ : sn_S) (q n : Nat) (v : Int64) (hn : n < 5000) : yp (fJ7_fill_d0a16 σ q n v) (fun z => z.1 = σ.1 ∧ (∀ a k, a ≠ q → z.2.1 a k = σ.2.1 a k) ∧ ∀ k, k < n → z.2.1 q k = v) := by
  unfold fJ7_fill_d0a16
  refine yp_lt (yp_bd (fun z : sn_S => z.1 = σ.1 ∧ (∀ a k, a ≠ q → z.2.1 a k = σ.2.1 a k) ∧ ∀ k, k < n → z.2.1 q k = v) (yp_for n (fun k (s : sn_S × Int32) => s.2 = nI k ∧ s.1.1 = σ.1 ∧ (∀ a k, a ≠ q → s.1.2.1 a k = σ.2.1 a k) ∧ ∀ j, j < k → s.1.2.1 q j = v) (fun k s hk hs => ?_) (fun s hs => ?_) (by exact ⟨nI_0.symm, rfl, fun _ _ _ => rfl, fun j hj => absurd hj (by omega)⟩)) (fun u hu => ?_))
  · obtain ⟨z, x⟩ := s
    obtain ⟨ex, h1, h2, h3⟩ := hs
    have ex : x = nI k := ex
    have h1 : z.1 = σ.1 := h1
    have h2 : ∀ a k, a ≠ q → z.2.1 a k = σ.2.1 a k := h2
    have h3 : ∀ j, j < k → z.2.1 q j = v := h3
    subst ex
    show yp (BJ7_fill_d0a16_6 z q n v (nI k) (Int32.ofNat n)) _
    unfold BJ7_fill_d0a16_6
    rw [if_neg (show ¬ Int32.ofNat n ≤ nI k from nI_ge hk (by omega)), nI_clamp (show k < 2 ^ 31 by omega)]
    refine yp_gd (fun _ => yp_lt (yp_lt (yp_some ⟨nI_1 k, h1, fun a j ha => (yo_Lq ha).trans (h2 a j ha), fun j hj => ?_⟩)))
    by_cases c : j = k
    · rw [c]
      exact yo_Ls
    · exact (yo_Lk c).trans (h3 j (by omega))
  · obtain ⟨z, x⟩ := s
    obtain ⟨ex, h1, h2, h3⟩ := hs
    have ex : x = nI n := ex
    subst ex
    show yp (BJ7_fill_d0a16_6 z q n v (nI n) (Int32.ofNat n)) _
    unfold BJ7_fill_d0a16_6
    rw [if_pos (show Int32.ofNat n ≤ nI n from Int32.le_refl _)]
    exact yp_some ⟨h1, h2, h3⟩
  · unfold BJ7_fill_d0a16_22
    exact yp_some hu
theorem yo_last (hW : jW w) (hq : q < sp_n w 8) : (if nI (sp_n w 0) - (1 : Int32) < nI (sp_n w (51 + 5 * q)) then nI (sp_n w 0) - (1 : Int32) else nI (sp_n w (51 + 5 * q))) = nI (yo_L w q) - 1 := by
  have c0 := (yl_0 hW).2
  obtain ⟨-, -, ⟨t1, t2⟩, -⟩ := yl_p hW hq
  by_cases c : sp_n w 0 ≤ sp_n w (51 + 5 * q)
  · rw [if_pos ((yi_last c0 (by omega)).mpr c)]
    unfold yo_L
    rw [Nat.min_eq_right (by omega)]
  · rw [if_neg (fun h => c ((yi_last c0 (by omega)).mp h))]
    unfold yo_L
    rw [Nat.min_eq_left (by omega), nI_pred]
theorem yc_hold (hW : jW w) (hH : yH 1 σ w) (hD : yD σ w) (hq : q < sp_n w 8) : yp (fX1_reckon σ 1 27 (nI q)) (fun z => sn_L z 52 1 = lN (yo_G w q)) := by
  have c0 := (yl_0 hW).2
  have c8 := (yl_8 hW).2
  have hLM : yo_L w q ≤ sp_n w 0 := yo_LM
  have hGl := yo_Glt (q := q) hW
  have e2 : yo_far = 4611686018427387904 := rfl
  obtain ⟨⟨q1, q2⟩, ⟨f1, f2⟩, ⟨t1, t2⟩, -⟩ := yl_p hW hq
  unfold fX1_reckon
  refine yp_bd _ (yc_of hW hH hq 1 (by decide) rfl) (fun v1 h1 => yp_bd _ (yc_of hW hH hq 2 (by decide) rfl) (fun v2 h2 => ?_))
  rw [h1, h2, show w (49 + 1 + 5 * q) = nI (yo_a w q) from f1, show w (49 + 2 + 5 * q) = nI (sp_n w (51 + 5 * q)) from t1, show sn_I σ 27 0 = nI (sp_n w 0) from hD.1, yo_last hW hq]
  have f2 : yo_a w q ≤ 29 := f2
  refine yp_lt (yp_le (fun z7 e7 => yp_ite (fun c => yp_le (fun z10 e10 => ?_)) (fun c => ?_)))
  · have ha : yo_a w q < yo_L w q := by
      rcases Nat.lt_or_ge (yo_a w q) (yo_L w q) with g | g
      · exact g
      · exact absurd ((yi_last (M := yo_L w q) (by omega) (by omega)).mpr g) (Int32.not_lt.mpr c)
    refine yp_bd _ (yc_fillL z10 53 31 _ (by decide)) (fun z12 h12 => yp_gd (fun _ => yp_le (fun z15 e15 => ?_)))
    obtain ⟨g1, g2, g3⟩ := h12
    have i1 : z15.1 = σ.1 := by rw [e15]; show z12.1 = _; rw [g1, e10]; show z7.1 = _; rw [e7]; rfl
    have ib : z15.2.1 52 1 = lN yo_far := by
      rw [e15]
      refine (yo_Lq (by decide)).trans ((g2 52 1 (by decide)).trans ?_)
      rw [e10]
      exact yo_Ls
    have iB : yo_B (fun t => if t = 0 then 0 else yo_far) z15 := fun t ht => by
      show z15.2.1 53 t = lN (if t = 0 then 0 else yo_far) ∧ ((if t = 0 then 0 else yo_far) = yo_far ∨ (if t = 0 then 0 else yo_far) < (t + 1) * 2147483648)
      rw [e15]
      by_cases e : t = 0
      · rw [if_pos e, e]
        exact ⟨yo_Ls, Or.inr (by decide)⟩
      · rw [if_neg e]
        exact ⟨(yo_Lk e).trans (g3 t ht), Or.inl rfl⟩
    have iK : yo_K (yo_G w q) (yo_a w q) (fun t => yo_D w q t t) 0 (fun t => if t = 0 then 0 else yo_far) yo_far yo_far := by
      refine ⟨by omega, fun t _ _ => ?_, by omega, Or.inr (Or.inl ⟨0, Nat.le_refl _, Nat.zero_le _, ?_⟩)⟩
      · show yo_G w q ≤ (if t = 0 then 0 else yo_far) + yo_D w q t t
        by_cases e : t = 0
        · rw [if_pos e, e, Nat.zero_add]
          exact Nat.le_refl _
        · rw [if_neg e]
          omega
      · show (if 0 = 0 then 0 else yo_far) + yo_D w q 0 0 = yo_G w q
        rw [if_pos rfl, Nat.zero_add]
        rfl
    refine yp_bd (fun z : sn_S => yo_J σ w q (yo_a w q + 1) z) (yp_for (yo_a w q + 1) (fun s (r : sn_S × Int32) => r.2 = nI s ∧ yo_J σ w q s r.1) (fun s r hs hr => ?_) (fun r hr => ?_) (by exact ⟨nI_0.symm, i1, _, _, iB, ib, Nat.le_refl _, iK⟩)) (fun z hz => ?_)
    · obtain ⟨z, x⟩ := r
      obtain ⟨ex, z1, fr, bs, hB, hb, hb2, hK⟩ := hr
      have ex : x = nI s := ex
      have z1 : z.1 = σ.1 := z1
      have hb : z.2.1 52 1 = lN bs := hb
      subst ex
      show yp (BX1_reckon_65 z 1 27 (nI q) (nI (yo_a w q)) (nI (yo_L w q) - 1) (nI s)) _
      unfold BX1_reckon_65
      have fs := hB s (by omega)
      rw [if_neg (nI_nlt (show s ≤ yo_a w q by omega) (by omega)), nI_clamp (show s < 2 ^ 31 by omega), show sn_L z 53 s = lN (fr s) from fs.1, show (4611686018427387904 : Int64) = lN yo_far from rfl]
      have fb : fr s < 2 ^ 63 := by rcases fs.2 with g | g <;> omega
      refine yp_gd (fun _ => yp_ite (fun c3 => ?_) (fun c3 => ?_))
      · have c3 : fr s = yo_far := (yo_lc fb (show yo_far < 2 ^ 63 by omega)).mp c3
        unfold BX1_reckon_103
        exact yp_lt (yp_some ⟨nI_1 s, z1, fr, bs, hB, hb, hb2, yo_skip hGl c3 hK⟩)
      · have c3 : ¬ fr s = yo_far := fun h => c3 ((yo_lc fb (show yo_far < 2 ^ 63 by omega)).mpr h)
        have zH : yH 1 z w := yH_c (fun a _ _ => congrFun z1 a) hH
        refine yp_bd _ (yc_of hW zH hq 0 (by decide) nI_0.symm) (fun v hv => ?_)
        rw [hv, show w (49 + 0 + 5 * q) = nI (yo_p w q) from q1]
        refine yp_bd _ (yc_goOn hD hW hq ha (by omega) z1 hB hb hb2 hK c3) (fun y hy => ?_)
        unfold BX1_reckon_103
        exact yp_lt (yp_some ⟨nI_1 s, hy⟩)
    · obtain ⟨z, x⟩ := r
      obtain ⟨ex, hJ⟩ := hr
      have ex : x = nI (yo_a w q + 1) := ex
      subst ex
      show yp (BX1_reckon_65 z 1 27 (nI q) (nI (yo_a w q)) (nI (yo_L w q) - 1) (nI (yo_a w q + 1))) _
      unfold BX1_reckon_65
      rw [if_pos (show nI (yo_a w q) < nI (yo_a w q + 1) from nI_lt (by omega) (by omega))]
      exact yp_some hJ
    · unfold BX1_reckon_109
      obtain ⟨-, fr, bs, -, hb, -, b0, -, b2, be⟩ := hz
      refine yp_some (hb.trans (congrArg lN ?_))
      rcases be with e | ⟨t, x1, x2, -⟩ | e
      · exact e
      · omega
      · omega
  · have ha : yo_L w q ≤ yo_a w q := by
      rcases Nat.lt_or_ge (yo_a w q) (yo_L w q) with g | g
      · exact absurd (Int32.not_lt.mp (fun h => absurd ((yi_last (M := yo_L w q) (by omega) (by omega)).mp h) (by omega))) c
      · exact g
    have e0 : yo_G w q = 0 := yo_V0 (Nat.zero_le _) (fun j _ h2 => yo_Wa ha h2)
    rw [e0]
    refine yp_some ?_
    rw [e7]
    exact yo_Ls
end
end
section
/-! the fewest minutes to hold back in: the reference goes backward -/
def yo_C (z : sn_S) (k V : Nat) : Prop := z.1 17 k = nI (V / 1073741824) ∧ z.1 18 k = nI (V % 1073741824)
def yo_fr (k : Nat) (z v : sn_S) : Prop := (∀ a, a ≠ 17 → a ≠ 18 → v.1 a = z.1 a) ∧ ∀ j, j ≠ k → v.1 17 j = z.1 17 j ∧ v.1 18 j = z.1 18 j
section
variable {σ τ u z v : sn_S} {w : Nat → Int32} {q p m l k : Nat}
theorem yo_fr0 : yo_fr k z z := ⟨fun _ _ _ => rfl, fun _ _ => ⟨rfl, rfl⟩⟩
theorem yo_fr7 {x : Int32} (h : yo_fr k z v) : yo_fr k z (sn_pI v 17 k x) := ⟨fun a h1 h2 => (pI_ne h1).trans (h.1 a h1 h2), fun j hj => ⟨(pI_slot hj).trans (h.2 j hj).1, (congrFun (pI_ne (by decide)) j).trans (h.2 j hj).2⟩⟩
theorem yo_fr8 {x : Int32} (h : yo_fr k z v) : yo_fr k z (sn_pI v 18 k x) := ⟨fun a h1 h2 => (pI_ne h2).trans (h.1 a h1 h2), fun j hj => ⟨(congrFun (pI_ne (by decide)) j).trans (h.2 j hj).1, (pI_slot hj).trans (h.2 j hj).2⟩⟩
theorem yo_Cp {V : Nat} {x y : Int32} (hx : x = nI (V / 1073741824)) (hy : y = nI (V % 1073741824)) : yo_C (sn_pI (sn_pI z 17 k x) 18 k y) k V := ⟨((congrFun (pI_ne (by decide)) k).trans pI_self).trans hx, pI_self.trans hy⟩
theorem yo_1n : ∀ m, m < 30 → yb_n ((1 : Int32) <<< (nI m &&& 31)) = 2 ^ m := by decide +kernel
theorem yo_nor (x y : Int32) : yb_n (x ||| y) = yb_n x ||| yb_n y := by
  have e : (x ||| y).toBitVec = x.toBitVec ||| y.toBitVec := rfl
  unfold yb_n
  rw [e, BitVec.toNat_or]
theorem yo_nn {B : Nat} (hB : B < 4294967296) : yb_n (nI B) = B := by
  show (BitVec.ofNat 32 B).toNat = B
  rw [BitVec.toNat_ofNat]
  exact Nat.mod_eq_of_lt hB
theorem yo_or {s : Nat} (hm : m < 30) (h1 : s % 2 ^ (m + 1) = 0) (h2 : s + 2 ^ (m + 1) ≤ 1073741824) : nI s ||| ((1 : Int32) <<< (nI m &&& 31)) = nI (s + 2 ^ m) := by
  have p2 : 2 ^ (m + 1) = 2 * 2 ^ m := by rw [Nat.pow_succ, Nat.mul_comm]
  have hp : 0 < 2 ^ m := Nat.pow_pos (by decide)
  have hs : s < 4294967296 := by omega
  refine yb_nI ?_ (by omega)
  rw [yo_nor, yo_nn hs, yo_1n m hm]
  have e : s = 2 ^ (m + 1) * (s / 2 ^ (m + 1)) := (Nat.mul_div_cancel' (Nat.dvd_of_mod_eq_zero h1)).symm
  rw [e]
  exact (Nat.two_pow_add_eq_or_of_lt (by omega) _).symm
theorem ym_since (hm : m < 30) (hl : l ≤ m) (hp : p < 6) (hx : ∀ j, j ≤ m → z.1 13 (6 * j + p) = yo_x w p j) : yp (fX9_tickleSince z (nI p) (nI l) (nI m)) (fun r => r = yo_t (yo_x w p) l (m + 1 - l)) := by
  unfold fX9_tickleSince
  refine yp_bd (fun r => r = yo_t (yo_x w p) l (m + 1 - l)) (yp_for0 l (m + 1) (by omega) (fun k (s : Int32 × Int32) => s.2 = nI k ∧ s.1 = yo_t (yo_x w p) l (k - l)) (fun k s hk1 hk hs => ?_) (fun s hs => ?_) (by exact ⟨rfl, by rw [Nat.sub_self]; rfl⟩)) (fun r hr => ?_)
  · obtain ⟨x, y⟩ := s
    obtain ⟨ey, ex⟩ := hs
    have ey : y = nI k := ey
    have ex : x = _ := ex
    subst ey
    subst ex
    show yp (BX9_tickleSince_6 z (nI p) (nI m) _ (nI k)) _
    unfold BX9_tickleSince_6
    rw [if_neg (nI_nlt (show k ≤ m by omega) (by omega)), yi_6, nI_add, nI_clamp (by omega), show sn_I z 13 (6 * k + p) = yo_x w p k from hx k (by omega), yo_ts _ hk1]
    exact yp_gd (fun _ => yp_lt (yp_lt (yp_some ⟨nI_1 k, rfl⟩)))
  · obtain ⟨x, y⟩ := s
    obtain ⟨ey, ex⟩ := hs
    have ey : y = nI (m + 1) := ey
    subst ey
    show yp (BX9_tickleSince_6 z (nI p) (nI m) x (nI (m + 1))) _
    unfold BX9_tickleSince_6
    rw [if_pos (show nI m < nI (m + 1) from nI_lt (by omega) (by omega))]
    exact yp_some ex
  · unfold BX9_tickleSince_35
    exact yp_some hr
theorem ym_cpy {a b : Nat} (ha : a < 2 ^ 31) (hb : b < 2 ^ 31) : yp (BX9_layHold_180 z (nI a) (nI b)) (fun r => r = sn_pI (sn_pI z 17 a (z.1 17 b)) 18 a (z.1 18 b)) := by
  unfold BX9_layHold_180 BX9_layHold_185
  rw [if_neg (by decide), nI_clamp ha, nI_clamp hb]
  exact yp_gd (fun _ => yp_gd (fun _ => yp_lt (yp_gd (fun _ => yp_gd (fun _ => yp_lt (yp_some rfl))))))
theorem ym_hold1 (hW : jW w) (hz : z.1 1 = w) (hp : yo_p w q = p) (hp5 : p < sp_n w 5) (hm : m < sp_n w 0) (hl : l ≤ m) (hx : ∀ j, j ≤ m → z.1 13 (6 * j + p) = yo_x w p j) (h1 : yo_C z (31 * (m + 1) + l) (yo_D w q (m + 1) l)) (h2 : yo_C z (31 * (m + 1) + (m + 1)) (yo_D w q (m + 1) (m + 1))) : yp (fX9_layHold z (nI p) (dy_set (yl_m w q) 32) (nI m) (nI l)) (fun r => yo_fr (31 * m + l) z r ∧ yo_C r (31 * m + l) (yo_D w q m l)) := by
  have c0 := (yl_0 hW).2
  have c5 := (yl_5 hW).2
  have i1 : ((31 : Int32) * nI m) + nI l = nI (31 * m + l) := by
    rw [show (31 : Int32) * nI m = nI (31 * m) from nI_mul 31 m]
    exact nI_add _ _
  have i3 : ((31 : Int32) * (nI m + (1 : Int32))) + nI l = nI (31 * (m + 1) + l) := by
    rw [nI_1, show (31 : Int32) * nI (m + 1) = nI (31 * (m + 1)) from nI_mul 31 _]
    exact nI_add _ _
  have i28 : (((31 : Int32) * (nI m + (1 : Int32))) + nI m) + (1 : Int32) = nI (31 * (m + 1) + (m + 1)) := by
    rw [nI_1, show (31 : Int32) * nI (m + 1) = nI (31 * (m + 1)) from nI_mul 31 _, nI_add]
    exact nI_1 _
  have st := yo_step (F := yo_F w (yo_p w q)) (W := yl_m w q) (M := sp_n w 0) (m := m) (l := l) hm
  have st : yo_D w q m l = _ := st
  have g1 : yo_g (m + 1) (sp_n w 0 - (m + 1)) (yo_D w q (m + 1) l) := yo_Vok c0 (by omega)
  have g2 : yo_g (m + 1) (sp_n w 0 - (m + 1)) (yo_D w q (m + 1) (m + 1)) := yo_Vok c0 (by omega)
  obtain ⟨n1, n2, n3, n4, n5⟩ := yo_inc (show m < 30 by omega) g1
  have lim : ∀ v : sn_S, yo_fr (31 * m + l) z v → sn_I v 1 (12 + 2 * p) = dy_lim (hs_day w) p := fun v hv => (congrFun ((hv.1 1 (by decide) (by decide)).trans hz) (12 + 2 * p)).trans rfl
  unfold fX9_layHold
  rw [i1, i3, i28, yi_12]
  refine yp_lt (yp_lt (yp_gd (fun _ => yp_gd (fun _ => yp_le (fun z7 e7 => yp_gd (fun _ => yp_gd (fun _ => yp_le (fun z11 e11 => ?_))))))))
  rw [nI_clamp (show 31 * m + l < 2 ^ 31 by omega), nI_clamp (show 31 * (m + 1) + l < 2 ^ 31 by omega)] at e7 e11 ⊢
  have r7 : yo_fr (31 * m + l) z z7 := by rw [e7]; exact yo_fr7 yo_fr0
  have r11 : yo_fr (31 * m + l) z z11 := by rw [e11]; exact yo_fr8 r7
  have c11 : yo_C z11 (31 * m + l) (yo_D w q (m + 1) l) := by
    rw [e11, e7]
    refine yo_Cp h1.1 ?_
    exact (congrFun (pI_ne (by decide)) _).trans h1.2
  have d11 : ∀ V j, j ≠ 31 * m + l → yo_C z j V → yo_C z11 j V := fun V j hj h => ⟨(r11.2 j hj).1.trans h.1, (r11.2 j hj).2.trans h.2⟩
  have s11 := d11 _ (31 * (m + 1) + l) (by omega) h1
  refine yp_bd _ (ym_since (w := w) (show m < 30 by omega) hl (show p < 6 by omega) (fun j hj => (congrFun (r11.1 13 (by decide) (by decide)) _).trans (hx j hj))) (fun t ht => yp_gd (fun _ => ?_))
  rw [ht, nI_clamp (show 12 + 2 * p < 2 ^ 31 by omega), lim z11 r11]
  refine yp_ite (fun c => ?_) (fun c => ?_)
  · have f : yo_F w (yo_p w q) l m = true := by
      rw [hp]
      exact decide_eq_true c
    rw [if_pos f] at st
    refine yp_gd (fun _ => yp_gd (fun _ => yp_le (fun z19 e19 => yp_gd (fun _ => yp_gd (fun _ => yp_le (fun z23 e23 => ?_))))))
    have r23 : yo_fr (31 * m + l) z z23 := by rw [e23, e19]; exact yo_fr8 (yo_fr7 r11)
    have c23 : yo_C z23 (31 * m + l) (yo_D w q (m + 1) l + yo_c m) := by
      rw [e23, e19]
      refine yo_Cp ?_ ?_
      · rw [show sn_I z11 17 (31 * (m + 1) + l) = _ from s11.1, nI_1, n1]
      · rw [show sn_I (sn_pI z11 17 (31 * m + l) (sn_I z11 17 (31 * (m + 1) + l) + (1 : Int32))) 18 (31 * (m + 1) + l) = _ from (congrFun (pI_ne (by decide)) _).trans s11.2, yo_or (by omega) n4 n5, n2]
    have s28 : yo_C z23 (31 * (m + 1) + (m + 1)) (yo_D w q (m + 1) (m + 1)) := ⟨(r23.2 _ (by omega)).1.trans h2.1, (r23.2 _ (by omega)).2.trans h2.2⟩
    rw [yb_m, yb_Vb (show m < 32 by omega)]
    refine yp_bit (fun g => ?_) (fun g => ?_)
    · rw [if_pos rfl]
      rw [if_pos g] at st
      refine yp_some ⟨r23, ?_⟩
      rw [st]
      exact c23
    · rw [if_neg (by decide)]
      rw [if_neg (by rw [g]; decide)] at st
      have st : yo_D w q m l = min (yo_D w q (m + 1) l + yo_c m) (yo_D w q (m + 1) (m + 1)) := st
      obtain ⟨A, hA⟩ : ∃ A, A = yo_D w q (m + 1) l + yo_c m := ⟨_, rfl⟩
      obtain ⟨B, hB⟩ : ∃ B, B = yo_D w q (m + 1) (m + 1) := ⟨_, rfl⟩
      rw [← hA, ← hB] at st
      rw [← hA] at c23
      rw [← hB] at s28
      have bA : A < 32 * 1073741824 := by
        have h := n3.2
        rw [← hA] at h
        exact Nat.lt_of_lt_of_le h (Nat.mul_le_mul_right _ (show sp_n w 0 - (m + 1) + 1 + 1 ≤ 32 by omega))
      have bB : B < 32 * 1073741824 := by
        have h := g2.2
        rw [← hB] at h
        exact Nat.lt_of_lt_of_le h (Nat.mul_le_mul_right _ (show sp_n w 0 - (m + 1) + 1 ≤ 32 by omega))
      have keep : A ≤ B → yp (BX9_layHold_184 z23 (nI (31 * m + l)) (nI (31 * (m + 1) + (m + 1)))) (fun r => yo_fr (31 * m + l) z r ∧ yo_C r (31 * m + l) (yo_D w q m l)) := fun h => by
        unfold BX9_layHold_184 BX9_layHold_185
        rw [if_pos rfl, st, Nat.min_eq_left h]
        exact yp_some ⟨r23, c23⟩
      have copy : B ≤ A → yp (BX9_layHold_180 z23 (nI (31 * m + l)) (nI (31 * (m + 1) + (m + 1)))) (fun r => yo_fr (31 * m + l) z r ∧ yo_C r (31 * m + l) (yo_D w q m l)) := fun h => by
        refine yp_w (ym_cpy (by omega) (by omega)) (fun r hr => ?_)
        rw [hr, st, Nat.min_eq_right h]
        exact ⟨yo_fr8 (yo_fr7 r23), yo_Cp s28.1 s28.2⟩
      refine yp_lt ?_
      rw [nI_clamp (show 31 * (m + 1) + (m + 1) < 2 ^ 31 by omega), show sn_I z23 17 (31 * (m + 1) + (m + 1)) = _ from s28.1, show sn_I z23 18 (31 * (m + 1) + (m + 1)) = _ from s28.2, show sn_I z23 17 (31 * m + l) = _ from c23.1, show sn_I z23 18 (31 * m + l) = _ from c23.2]
      refine yp_gd (fun _ => yp_gd (fun _ => yp_ite (fun c1 => copy ?_) (fun c1 => yp_gd (fun _ => yp_gd (fun _ => yp_ite (fun c2 => yp_gd (fun _ => yp_gd (fun _ => yp_ite (fun c3 => keep ?_) (fun c3 => copy ?_)))) (fun c2 => keep ?_))))))
      · have c1 := (nI_ltI (by omega) (by omega)).mp c1
        omega
      · have c2 := (nI_eq (by omega) (by omega)).mp c2
        have c3 := (nI_leI (by omega) (by omega)).mp c3
        omega
      · have c2 := (nI_eq (by omega) (by omega)).mp c2
        have c3 : ¬ A % 1073741824 ≤ B % 1073741824 := fun h => c3 ((nI_leI (by omega) (by omega)).mpr h)
        omega
      · have c1 : ¬ B / 1073741824 < A / 1073741824 := fun h => c1 ((nI_ltI (by omega) (by omega)).mpr h)
        have c2 : ¬ B / 1073741824 = A / 1073741824 := fun h => c2 ((nI_eq (by omega) (by omega)).mpr h)
        omega
  · have f : ¬ yo_F w (yo_p w q) l m = true := by
      rw [hp]
      exact fun h => c (of_decide_eq_true h)
    rw [if_neg f] at st
    have st : yo_D w q m l = yo_D w q (m + 1) l := st
    refine yp_some ⟨r11, ?_⟩
    rw [st]
    exact c11
/-- the table from a minute on -/
def yo_R (u : sn_S) (w : Nat → Int32) (q k : Nat) (z : sn_S) : Prop := (∀ a, a ≠ 17 → a ≠ 18 → z.1 a = u.1 a) ∧ ∀ m l, k ≤ m → m ≤ sp_n w 0 → l ≤ m → yo_C z (31 * m + l) (yo_D w q m l)
theorem yo_Rf {z v : sn_S} (hl : l ≤ m) (hm : m < 31) (h : yo_fr (31 * m + l) z v) (hR : yo_R u w q (m + 1) z) : yo_R u w q (m + 1) v := by
  refine ⟨fun a h1 h2 => (h.1 a h1 h2).trans (hR.1 a h1 h2), fun m' l' h1 h2 h3 => ?_⟩
  have g := hR.2 m' l' h1 h2 h3
  exact ⟨(h.2 _ (by omega)).1.trans g.1, (h.2 _ (by omega)).2.trans g.2⟩
theorem ym_row (hW : jW w) (hM : yM τ u w) (hq : q < sp_n w 8) (hm : m < sp_n w 0) (hR : yo_R u w q (m + 1) z) : yp (sn_it (LX9_layHolds_67 (nI q) (nI m)) 5000 (z, (0 : Int32))) (fun v => yo_R u w q m v) := by
  have c0 := (yl_0 hW).2
  have c5 := (yl_5 hW).2
  obtain ⟨⟨q1, q2⟩, -⟩ := yl_p hW hq
  refine yp_for (m + 1) (fun l (s : sn_S × Int32) => s.2 = nI l ∧ yo_R u w q (m + 1) s.1 ∧ ∀ j, j < l → yo_C s.1 (31 * m + j) (yo_D w q m j)) (fun l s hl hs => ?_) (fun s hs => ?_) (by exact ⟨nI_0.symm, hR, fun j hj => absurd hj (by omega)⟩)
  · obtain ⟨z, x⟩ := s
    obtain ⟨ex, hR, hj⟩ := hs
    have ex : x = nI l := ex
    have hR : yo_R u w q (m + 1) z := hR
    have hj : ∀ j, j < l → yo_C z (31 * m + j) (yo_D w q m j) := hj
    subst ex
    show yp (BX9_layHolds_67 z (nI q) (nI m) (nI l)) _
    unfold BX9_layHolds_67
    have z1 : z.1 1 = w := (hR.1 1 (by decide) (by decide)).trans hM.1
    rw [if_neg (nI_nlt (show l ≤ m by omega) (by omega))]
    refine yp_bd _ (ym_of hW z1 hq 0 (by decide) nI_0.symm) (fun t2 h2 => yp_bd _ (ym_win hW z1 ((congrFun (hR.1 0 (by decide) (by decide)) 22).trans (yM_22 hM)) hq) (fun t4 h4 => ?_))
    rw [h2, h4, show w (49 + 0 + 5 * q) = nI (yo_p w q) from q1]
    refine yp_bd _ (ym_hold1 (p := yo_p w q) hW z1 rfl q2 hm (show l ≤ m by omega) (fun j hj => ?_) (hR.2 (m + 1) l (Nat.le_refl _) (by omega) (by omega)) (hR.2 (m + 1) (m + 1) (Nat.le_refl _) (by omega) (Nat.le_refl _))) (fun t6 h6 => ?_)
    · exact (congrFun (hR.1 13 (by decide) (by decide)) _).trans ((hM.2.1.1 j (by omega)).2 _ q2).2
    · obtain ⟨hf, hC⟩ := h6
      refine yp_lt (yp_some ⟨nI_1 l, yo_Rf (show l ≤ m by omega) (by omega) hf hR, fun j hj2 => ?_⟩)
      by_cases e : j = l
      · rw [e]
        exact hC
      · have g := hj j (by omega)
        exact ⟨(hf.2 _ (by omega)).1.trans g.1, (hf.2 _ (by omega)).2.trans g.2⟩
  · obtain ⟨z, x⟩ := s
    obtain ⟨ex, hR, hj⟩ := hs
    have ex : x = nI (m + 1) := ex
    have hR : yo_R u w q (m + 1) z := hR
    have hj : ∀ j, j < m + 1 → yo_C z (31 * m + j) (yo_D w q m j) := hj
    subst ex
    show yp (BX9_layHolds_67 z (nI q) (nI m) (nI (m + 1))) _
    unfold BX9_layHolds_67
    rw [if_pos (show nI m < nI (m + 1) from nI_lt (by omega) (by omega))]
    refine yp_some ⟨hR.1, fun m' l' h1 h2 h3 => ?_⟩
    by_cases e : m' = m
    · rw [e]
      exact hj l' (by omega)
    · exact hR.2 m' l' (by omega) h2 h3
theorem yo_m1 (x : Int32) : x + (-1) = x - 1 := (Int32.sub_eq_add_neg x 1).symm
theorem ym_holds (hW : jW w) (hM : yM τ u w) (hq : q < sp_n w 8) : yp ((sn_it (LX9_layHolds_12 (nI q)) 5000 (u, (0 : Int32))).bind fun t_4 => BX9_layHolds_54 t_4 (nI q)) (fun r => r.1 = 1 ∧ yo_C r.2 0 (yo_G w q)) := by
  have c0 := (yl_0 hW).2
  have n0 := (yl_0 hW).1
  refine yp_bd (fun z => yo_R u w q (sp_n w 0) z) (yp_for 31 (fun k (s : sn_S × Int32) => s.2 = nI k ∧ (∀ a, a ≠ 17 → a ≠ 18 → s.1.1 a = u.1 a) ∧ ∀ l, l < k → yo_C s.1 (31 * sp_n w 0 + l) 0) (fun k s hk hs => ?_) (fun s hs => ?_) (by exact ⟨nI_0.symm, fun _ _ _ => rfl, fun l hl => absurd hl (by omega)⟩)) (fun z hz => ?_)
  · obtain ⟨z, x⟩ := s
    obtain ⟨ex, hf, hl⟩ := hs
    have ex : x = nI k := ex
    have hf : ∀ a, a ≠ 17 → a ≠ 18 → z.1 a = u.1 a := hf
    have hl : ∀ l, l < k → yo_C z (31 * sp_n w 0 + l) 0 := hl
    subst ex
    show yp (BX9_layHolds_12 z (nI q) (nI k)) _
    unfold BX9_layHolds_12 fX9_minutes
    have e0 : ∀ v : sn_S, (∀ a, a ≠ 17 → a ≠ 18 → v.1 a = u.1 a) → sn_I v 1 (0 : Int32).toNatClampNeg = nI (sp_n w 0) := fun v hv => (congrFun ((hv 1 (by decide) (by decide)).trans hM.1) 0).trans n0
    have ix : ((31 : Int32) * nI (sp_n w 0)) + nI k = nI (31 * sp_n w 0 + k) := by
      rw [show (31 : Int32) * nI (sp_n w 0) = nI (31 * sp_n w 0) from nI_mul 31 _]
      exact nI_add _ _
    rw [if_neg (show ¬ (31 : Int32) ≤ nI k from nI_ge (b := 31) hk (by decide)), e0 z hf]
    refine yp_bd (fun t => t = nI (sp_n w 0)) (yp_gd (fun _ => yp_some rfl)) (fun t2 h2 => ?_)
    rw [h2, ix, nI_clamp (show 31 * sp_n w 0 + k < 2 ^ 31 by omega)]
    refine yp_gd (fun _ => yp_le (fun z5 e5 => ?_))
    have f5 : ∀ a, a ≠ 17 → a ≠ 18 → z5.1 a = u.1 a := fun a h1 h2 => by rw [e5]; exact (pI_ne h1).trans (hf a h1 h2)
    rw [e0 z5 f5]
    refine yp_bd (fun t => t = nI (sp_n w 0)) (yp_gd (fun _ => yp_some rfl)) (fun t7 h7 => ?_)
    rw [h7, ix, nI_clamp (show 31 * sp_n w 0 + k < 2 ^ 31 by omega)]
    refine yp_gd (fun _ => yp_lt (yp_lt (yp_some ⟨nI_1 k, fun a h1 h2 => (pI_ne h2).trans (f5 a h1 h2), fun l h => ?_⟩)))
    rw [e5]
    by_cases e : l = k
    · rw [e]
      exact yo_Cp rfl rfl
    · have hc := hl l (by omega)
      exact ⟨(congrFun (pI_ne (by decide)) _).trans ((pI_slot (by omega)).trans hc.1), (pI_slot (by omega)).trans ((congrFun (pI_ne (by decide)) _).trans hc.2)⟩
  · obtain ⟨z, x⟩ := s
    obtain ⟨ex, hf, hl⟩ := hs
    have ex : x = nI 31 := ex
    have hf : ∀ a, a ≠ 17 → a ≠ 18 → z.1 a = u.1 a := hf
    have hl : ∀ l, l < 31 → yo_C z (31 * sp_n w 0 + l) 0 := hl
    subst ex
    show yp (BX9_layHolds_12 z (nI q) (nI 31)) _
    unfold BX9_layHolds_12
    rw [if_pos (show (31 : Int32) ≤ nI 31 by decide)]
    refine yp_some ⟨hf, fun m l h1 h2 h3 => ?_⟩
    have e : m = sp_n w 0 := by omega
    rw [e, show yo_D w q (sp_n w 0) l = 0 from yo_end]
    exact hl l (by omega)
  · unfold BX9_layHolds_54 fX9_minutes
    rw [show sn_I z 1 (0 : Int32).toNatClampNeg = nI (sp_n w 0) from (congrFun ((hz.1 1 (by decide) (by decide)).trans hM.1) 0).trans n0]
    refine yp_bd (fun t => t = nI (sp_n w 0)) (yp_gd (fun _ => yp_some rfl)) (fun t1 h1 => ?_)
    rw [h1]
    refine yp_lt (yp_bd (fun z => yo_R u w q 0 z) (yp_it (fun s : sn_S × Int32 => ∃ k, k ≤ sp_n w 0 ∧ s.2 = nI k - 1 ∧ yo_R u w q k s.1) (fun s hs => ?_) _ _ (by exact ⟨sp_n w 0, Nat.le_refl _, rfl, hz⟩)) (fun r hr => ?_))
    · obtain ⟨z, x⟩ := s
      obtain ⟨k, hk, ex, hR⟩ := hs
      have ex : x = nI k - 1 := ex
      have hR : yo_R u w q k z := hR
      subst ex
      show yp (BX9_layHolds_61 z (nI q) (nI k - 1)) _
      unfold BX9_layHolds_61
      rcases Nat.eq_zero_or_pos k with g | g
      · rw [g] at hR ⊢
        rw [if_pos (by decide)]
        exact yp_some hR
      · obtain ⟨m, rfl⟩ : ∃ m, k = m + 1 := ⟨k - 1, by omega⟩
        rw [nI_pred, if_neg (nI_pos (show m < 2 ^ 31 by omega))]
        refine yp_bd _ (ym_row hW hM hq (by omega) hR) (fun t ht => ?_)
        unfold BX9_layHolds_95
        exact yp_lt (yp_some ⟨m, by omega, yo_m1 _, ht⟩)
    · unfold BX9_layHolds_101
      exact yp_gd (fun _ => yp_some ⟨rfl, hr.2 0 0 (Nat.le_refl _) (Nat.zero_le _) (Nat.le_refl _)⟩)
theorem yz_43 {a : Int32} (hK : zK σ τ) : yr (fX8_hold σ a) (fX9_hold τ a) (fun r s => r.1 = s.1) := by
  have hW := hK.2.1.1
  have b8 := yl_8 hW
  have e8 : σ.1 2 8 = τ.1 1 8 := hK.2.1.2.1 8 (by decide)
  unfold fX8_hold fX9_hold fX9_layHolds
  rw [c_isPolicy, e8]
  by_cases cp : 0 ≤ a ∧ a < τ.1 1 8
  · rw [if_pos cp]
    obtain ⟨q, hq, eq⟩ := yK_p (by omega) b8.1 cp
    subst eq
    have hG := yo_Glt (q := q) hW
    have e2 : yo_far = 4611686018427387904 := rfl
    refine yr_eq2 (nI (yo_G (τ.1 1) q / 1073741824)) ?_ ?_
    · refine yp_bs rfl ?_
      rw [if_neg (by decide)]
      refine yp_bd _ (yc_hold hW hK.2.1.2 hK.2.2.2 hq) (fun z hz => ?_)
      unfold fX1_fewest
      rw [hz, show (1073741824 : Int64) = lN 1073741824 from rfl, pk_lDiv (by omega) (by decide) (by decide), lN_i]
      exact yp_bs rfl (yp_some rfl)
    · refine yp_bd (fun t : Int32 × sn_S => t.1 = 1 ∧ yo_C t.2 0 (yo_G (τ.1 1) q)) (yp_bd _ (ym_askQ rfl hW) (fun t1 h1 => ?_)) (fun t ht => ?_)
      · obtain ⟨hv, hM⟩ := h1
        rw [hv, if_pos cp, if_neg (by decide)]
        exact ym_holds hW hM hq
      · obtain ⟨h1, h2⟩ := ht
        rw [h1, if_neg (by decide)]
        exact yp_gd (fun _ => yp_some h2.1)
  · rw [if_neg cp]
    refine yr_eq2 (-2 : Int32) (yp_some rfl) ?_
    refine yp_bd (fun t : Int32 × sn_S => t.1 = 0) (yp_bd _ (ym_askQ rfl hW) (fun t1 h1 => ?_)) (fun t ht => ?_)
    · rw [h1.1, if_neg cp, if_pos rfl]
      exact yp_gd (fun _ => yp_some rfl)
    · rw [ht, if_pos rfl]
      exact yp_some rfl
theorem yz_44 {a : Int32} (hK : zK σ τ) : yr (fX8_holds σ a) (fX9_holds τ a) (fun r s => r.1 = s.1) := by
  have hW := hK.2.1.1
  have b8 := yl_8 hW
  have e8 : σ.1 2 8 = τ.1 1 8 := hK.2.1.2.1 8 (by decide)
  unfold fX8_holds fX9_holds fX9_layHolds
  rw [c_isPolicy, e8]
  by_cases cp : 0 ≤ a ∧ a < τ.1 1 8
  · rw [if_pos cp]
    obtain ⟨q, hq, eq⟩ := yK_p (by omega) b8.1 cp
    subst eq
    have hG := yo_Glt (q := q) hW
    have e2 : yo_far = 4611686018427387904 := rfl
    refine yr_eq2 (nI (yo_G (τ.1 1) q % 1073741824)) ?_ ?_
    · refine yp_bs rfl ?_
      rw [if_neg (by decide)]
      refine yp_bd _ (yc_hold hW hK.2.1.2 hK.2.2.2 hq) (fun z hz => ?_)
      unfold fX1_minutesHeld
      rw [hz, show (1073741824 : Int64) = lN 1073741824 from rfl, pk_lRem (by omega) (by decide) (by decide), lN_i]
      exact yp_bs rfl (yp_some rfl)
    · refine yp_bd (fun t : Int32 × sn_S => t.1 = 1 ∧ yo_C t.2 0 (yo_G (τ.1 1) q)) (yp_bd _ (ym_askQ rfl hW) (fun t1 h1 => ?_)) (fun t ht => ?_)
      · obtain ⟨hv, hM⟩ := h1
        rw [hv, if_pos cp, if_neg (by decide)]
        exact ym_holds hW hM hq
      · obtain ⟨h1, h2⟩ := ht
        rw [h1, if_neg (by decide)]
        exact yp_gd (fun _ => yp_some h2.2)
  · rw [if_neg cp]
    refine yr_eq2 (-2 : Int32) (yp_some rfl) ?_
    refine yp_bd (fun t : Int32 × sn_S => t.1 = 0) (yp_bd _ (ym_askQ rfl hW) (fun t1 h1 => ?_)) (fun t ht => ?_)
    · rw [h1.1, if_neg cp, if_pos rfl]
      exact yp_gd (fun _ => yp_some rfl)
    · rw [ht, if_pos rfl]
      exact yp_some rfl
end
end
section
/-! every call keeps what the two have in common, the houses too -/
theorem zz_0 : st_0 zK zK := by
  intro σ τ a0 a1 a2 a3 a4 hJ
  obtain ⟨r, σ1, τ1, e1, e2, h⟩ := zK_0 σ τ a0 a1 a2 a3 a4 hJ
  exact ⟨r, r, σ1, τ1, e1, e2, h⟩
theorem zz_1 : st_1 zK zK := by
  intro σ τ a0 hJ
  obtain ⟨r, σ1, τ1, e1, e2, h⟩ := zK_1 σ τ a0 hJ
  exact ⟨r, r, σ1, τ1, e1, e2, h⟩
theorem zz_2 : st_2 zK zK := by
  intro σ τ hJ
  obtain ⟨r, σ1, τ1, e1, e2, h⟩ := zK_2 σ τ hJ
  exact ⟨r, r, σ1, τ1, e1, e2, h⟩
theorem zz_3 : st_3 zK zK := by
  intro σ τ a0 hJ
  obtain ⟨r, e1, e2⟩ := zJ_3 σ τ a0 hJ.1
  exact ⟨r, r, e1, e2, hJ⟩
theorem zz_4 : st_4 zK zK := by
  intro σ τ a0 a1 hJ
  obtain ⟨r, e1, e2⟩ := zJ_4 σ τ a0 a1 hJ.1
  exact ⟨r, r, e1, e2, hJ⟩
theorem zz_5 : st_5 zK zK := by
  intro σ τ a0 a1 hJ
  obtain ⟨r, e1, e2⟩ := zJ_5 σ τ a0 a1 hJ.1
  exact ⟨r, r, e1, e2, hJ⟩
theorem zz_6 : st_6 zK zK := by
  intro σ τ a0 hJ
  obtain ⟨r, e1, h1⟩ := zc_20 (zs_rf (key := zs_kC) (kl := zs_lC) hJ.1.1.1) (x1 := a0)
  obtain ⟨r2, e2, h2⟩ := zc_43 (zs_rf (key := zs_kM) (kl := zs_lM) hJ.1.1.2.1) (x1 := a0)
  exact ⟨r, r2.1, r2.2, e1, e2, zK_keep (zs_rf hJ.1.1.1) (h2.1.2) hJ⟩
theorem zz_7 : st_7 zK zK := by
  intro σ τ a0 hJ
  obtain ⟨r, e1, h1⟩ := zc_45 (zs_rf (key := zs_kC) (kl := zs_lC) hJ.1.1.1) (x1 := a0)
  obtain ⟨r2, e2, h2⟩ := zc_96 (zs_rf (key := zs_kM) (kl := zs_lM) hJ.1.1.2.1) (x1 := a0)
  exact ⟨r, r2.1, r2.2, e1, e2, zK_keep (zs_rf hJ.1.1.1) (h2.1.2) hJ⟩
theorem zz_8 : st_8 zK zK := by
  intro σ τ a0 hJ
  obtain ⟨r, e1, h1⟩ := zc_97 (zs_rf (key := zs_kC) (kl := zs_lC) hJ.1.1.1) (x1 := a0)
  obtain ⟨r2, e2, h2⟩ := zc_99 (zs_rf (key := zs_kM) (kl := zs_lM) hJ.1.1.2.1) (x1 := a0)
  exact ⟨r, r2.1, r2.2, e1, e2, zK_keep (zs_rf hJ.1.1.1) (h2.1.2) hJ⟩
theorem zz_9 : st_9 zK zK := by
  intro σ τ a0 hJ
  obtain ⟨r, e1, h1⟩ := zc_100 (zs_rf (key := zs_kC) (kl := zs_lC) hJ.1.1.1) (x1 := a0)
  obtain ⟨r2, e2, h2⟩ := zc_101 (zs_rf (key := zs_kM) (kl := zs_lM) hJ.1.1.2.1) (x1 := a0)
  exact ⟨r, r2.1, r2.2, e1, e2, zK_keep (zs_rf hJ.1.1.1) (h2.1.2) hJ⟩
theorem zz_10 : st_10 zK zK := by
  intro σ τ hJ
  obtain ⟨r, e1, h1⟩ := zc_106 (zs_rf (key := zs_kC) (kl := zs_lC) hJ.1.1.1) 
  obtain ⟨r2, e2, h2⟩ := zc_113 (zs_rf (key := zs_kM) (kl := zs_lM) hJ.1.1.2.1) 
  exact ⟨r, r2.1, r2.2, e1, e2, zK_keep (zs_rf hJ.1.1.1) (h2.2) hJ⟩
theorem zz_11 : st_11 zK zK := by
  intro σ τ a0 hJ
  obtain ⟨r, e1, h1⟩ := zc_114 (zs_rf (key := zs_kC) (kl := zs_lC) hJ.1.1.1) (x1 := a0)
  obtain ⟨r2, e2, h2⟩ := zc_115 (zs_rf (key := zs_kM) (kl := zs_lM) hJ.1.1.2.1) (x1 := a0)
  exact ⟨r, r2.1, r2.2, e1, e2, zK_keep (zs_rf hJ.1.1.1) (h2.1.2) hJ⟩
theorem zz_12 : st_12 zK zK := by
  intro σ τ a0 a1 hJ
  obtain ⟨r, e1, h1⟩ := zc_117 (zs_rf (key := zs_kC) (kl := zs_lC) hJ.1.1.1) (x1 := a0) (x2 := a1)
  obtain ⟨r2, e2, h2⟩ := zc_118 (zs_rf (key := zs_kM) (kl := zs_lM) hJ.1.1.2.1) (x1 := a0) (x2 := a1)
  exact ⟨r, r2.1, r2.2, e1, e2, zK_keep (zs_rf hJ.1.1.1) (h2.1.2) hJ⟩
theorem zz_13 : st_13 zK zK := by
  intro σ τ a0 hJ
  obtain ⟨r, e1, h1⟩ := zc_121 (zs_rf (key := zs_kC) (kl := zs_lC) hJ.1.1.1) (x1 := a0)
  obtain ⟨r2, e2, h2⟩ := zc_124 (zs_rf (key := zs_kM) (kl := zs_lM) hJ.1.1.2.1) (x1 := a0)
  exact ⟨r, r2.1, r2.2, e1, e2, zK_keep (zs_rf hJ.1.1.1) (h2.1.2) hJ⟩
theorem zz_14 : st_14 zK zK := by
  intro σ τ a0 hJ
  obtain ⟨r, e1, h1⟩ := zc_128 (zs_rf (key := zs_kC) (kl := zs_lC) hJ.1.1.1) (x1 := a0)
  obtain ⟨r2, e2, h2⟩ := zc_129 (zs_rf (key := zs_kM) (kl := zs_lM) hJ.1.1.2.1) (x1 := a0)
  exact ⟨r, r2.1, r2.2, e1, e2, zK_keep (zs_rf hJ.1.1.1) (h2.1.2) hJ⟩
theorem zz_15 : st_15 zK zK := by
  intro σ τ a0 hJ
  obtain ⟨r, e1, h1⟩ := zc_130 (zs_rf (key := zs_kC) (kl := zs_lC) hJ.1.1.1) (x1 := a0)
  obtain ⟨r2, e2, h2⟩ := zc_136 (zs_rf (key := zs_kM) (kl := zs_lM) hJ.1.1.2.1) (x1 := a0)
  exact ⟨r, r2.1, r2.2, e1, e2, zK_keep (zs_rf hJ.1.1.1) (h2.1.2) hJ⟩
theorem zz_16 : st_16 zK zK := by
  intro σ τ hJ
  obtain ⟨r, e1, h1⟩ := zc_141 (zs_rf (key := zs_kC) (kl := zs_lC) hJ.1.1.1) 
  obtain ⟨r2, e2, h2⟩ := zc_146 (zs_rf (key := zs_kM) (kl := zs_lM) hJ.1.1.2.1) 
  exact ⟨r, r2.1, r2.2, e1, e2, zK_keep (zs_rf hJ.1.1.1) (h2.2) hJ⟩
theorem zz_17 : st_17 zK zK := by
  intro σ τ hJ
  obtain ⟨r, e1, h1⟩ := zc_149 (zs_rf (key := zs_kC) (kl := zs_lC) hJ.1.1.1) 
  obtain ⟨r2, e2, h2⟩ := zc_154 (zs_rf (key := zs_kM) (kl := zs_lM) hJ.1.1.2.1) 
  exact ⟨r, r2.1, r2.2, e1, e2, zK_keep (zs_rf hJ.1.1.1) (h2.2) hJ⟩
theorem zz_18 : st_18 zK zK := by
  intro σ τ hJ
  obtain ⟨r, e1, h1⟩ := zc_159 (zs_rf (key := zs_kC) (kl := zs_lC) hJ.1.1.1) 
  obtain ⟨r2, e2, h2⟩ := zc_164 (zs_rf (key := zs_kM) (kl := zs_lM) hJ.1.1.2.1) 
  exact ⟨r, r2.1, r2.2, e1, e2, zK_keep (zs_rf hJ.1.1.1) (h2.2) hJ⟩
theorem zz_19 : st_19 zK zK := by
  intro σ τ a0 hJ
  obtain ⟨r, e1, h1⟩ := zc_176 (zs_rf (key := zs_kC) (kl := zs_lC) hJ.1.1.1) (x1 := a0)
  obtain ⟨r2, e2, h2⟩ := zc_186 (zs_rf (key := zs_kM) (kl := zs_lM) hJ.1.1.2.1) (x1 := a0)
  exact ⟨r, r2.1, r2.2, e1, e2, zK_keep (zs_rf hJ.1.1.1) (h2.1.2) hJ⟩
theorem zz_20 : st_20 zK zK := by
  intro σ τ a0 a1 hJ
  obtain ⟨r, e1, h1⟩ := zc_188 (zs_rf (key := zs_kC) (kl := zs_lC) hJ.1.1.1) (x1 := a0) (x2 := a1)
  obtain ⟨r2, e2, h2⟩ := zc_191 (zs_rf (key := zs_kM) (kl := zs_lM) hJ.1.1.2.1) (x1 := a0) (x2 := a1)
  exact ⟨r, r2.1, r2.2, e1, e2, zK_keep (zs_rf hJ.1.1.1) (h2.1.2) hJ⟩
theorem zz_21 : st_21 zK zK := by
  intro σ τ a0 hJ
  obtain ⟨r, e1, h1⟩ := zc_199 (zs_rf (key := zs_kC) (kl := zs_lC) hJ.1.1.1) (x1 := a0)
  obtain ⟨r2, e2, h2⟩ := zc_211 (zs_rf (key := zs_kM) (kl := zs_lM) hJ.1.1.2.1) (x1 := a0)
  exact ⟨r, r2.1, r2.2, e1, e2, zK_keep (zs_rf hJ.1.1.1) (h2.1.2) hJ⟩
theorem zz_22 : st_22 zK zK := by
  intro σ τ hJ
  obtain ⟨r, e1, h1⟩ := zc_215 (zs_rf (key := zs_kC) (kl := zs_lC) hJ.1.1.1) 
  obtain ⟨r2, e2, h2⟩ := zc_220 (zs_rf (key := zs_kM) (kl := zs_lM) hJ.1.1.2.1) 
  exact ⟨r, r2.1, r2.2, e1, e2, zK_keep (zs_rf hJ.1.1.1) (h2.2) hJ⟩
theorem zz_23 : st_23 zK zK := by
  intro σ τ a0 hJ
  obtain ⟨r, e1, h1⟩ := zc_225 (zs_rf (key := zs_kC) (kl := zs_lC) hJ.1.1.1) (x1 := a0)
  obtain ⟨r2, e2, h2⟩ := zc_228 (zs_rf (key := zs_kM) (kl := zs_lM) hJ.1.1.2.1) (x1 := a0)
  exact ⟨r, r2.1, r2.2, e1, e2, zK_keep (zs_rf hJ.1.1.1) (h2.1.2) hJ⟩
theorem zz_24 : st_24 zK zK := by
  intro σ τ a0 hJ
  obtain ⟨r, e1, h1⟩ := zc_238 (zs_rf (key := zs_kC) (kl := zs_lC) hJ.1.1.1) (x1 := a0)
  obtain ⟨r2, e2, h2⟩ := zc_263 (zs_rf (key := zs_kM) (kl := zs_lM) hJ.1.1.2.1) (x1 := a0)
  exact ⟨r.1, r2.1, r.2, r2.2, e1, e2, zK_keep (h1.2) (h2.2) hJ⟩
theorem zz_25 : st_25 zK zK := by
  intro σ τ hJ
  obtain ⟨r, e1, h1⟩ := zc_276 (zs_rf (key := zs_kC) (kl := zs_lC) hJ.1.1.1) 
  obtain ⟨r2, e2, h2⟩ := zc_313 (zs_rf (key := zs_kM) (kl := zs_lM) hJ.1.1.2.1) 
  exact ⟨r.1, r2.1, r.2, r2.2, e1, e2, zK_keep (h1.2) (h2.2) hJ⟩
theorem zz_26 : st_26 zK zK := by
  intro σ τ a0 hJ
  obtain ⟨r, e1, h1⟩ := zc_353 (zs_rf (key := zs_kC) (kl := zs_lC) hJ.1.1.1) (x1 := a0)
  obtain ⟨r2, e2, h2⟩ := zA_70 (zs_rf (key := zs_kM0) (kl := zs_lM) hJ.1.1.2.1) (x1 := a0)
  exact ⟨r.1, r2.1, r.2, r2.2, e1, e2, zK_keep0 (h1.1.2) (h2.1.2) (qb_dull hJ.1.1.2.1 e2) hJ⟩
theorem zz_27 : st_27 zK zK := by
  intro σ τ a0 hJ
  obtain ⟨r, e1, h1⟩ := zc_358 (zs_rf (key := zs_kC) (kl := zs_lC) hJ.1.1.1) (x1 := a0)
  obtain ⟨r2, e2, h2⟩ := zA_79 (zs_rf (key := zs_kM0) (kl := zs_lM) hJ.1.1.2.1) (x1 := a0)
  exact ⟨r.1, r2.1, r.2, r2.2, e1, e2, zK_keep0 (h1.1.2) (h2.1.2) (qb_bears hJ.1.1.2.1 e2) hJ⟩
theorem zz_28 : st_28 zK zK := by
  intro σ τ hJ
  obtain ⟨r, e1, h1⟩ := zc_366 (zs_rf (key := zs_kC) (kl := zs_lC) hJ.1.1.1) 
  obtain ⟨r2, e2, h2⟩ := zA_94 (zs_rf (key := zs_kM0) (kl := zs_lM) hJ.1.1.2.1) 
  exact ⟨r.1, r2.1, r.2, r2.2, e1, e2, zK_keep0 (h1.2) (h2.2) (qb_clean hJ.1.1.2.1 e2) hJ⟩
theorem zz_29 : st_29 zK zK := by
  intro σ τ a0 hJ
  obtain ⟨r, e1, h1⟩ := zc_370 (zs_rf (key := zs_kC) (kl := zs_lC) hJ.1.1.1) (x1 := a0)
  obtain ⟨r2, e2, h2⟩ := zc_378 (zs_rf (key := zs_kM) (kl := zs_lM) hJ.1.1.2.1) (x1 := a0)
  exact ⟨r.1, r2.1, r.2, r2.2, e1, e2, zK_keep (h1.1.2) (h2.1.2) hJ⟩
theorem zz_30 : st_30 zK zK := by
  intro σ τ a0 hJ
  obtain ⟨r, e1, h1⟩ := zc_384 (zs_rf (key := zs_kC) (kl := zs_lC) hJ.1.1.1) (x1 := a0)
  obtain ⟨r2, e2, h2⟩ := zc_397 (zs_rf (key := zs_kM) (kl := zs_lM) hJ.1.1.2.1) (x1 := a0)
  exact ⟨r, r2.1, r2.2, e1, e2, zK_keep (zs_rf hJ.1.1.1) (h2.1.2) hJ⟩
theorem zz_31 : st_31 zK zK := by
  intro σ τ a0 hJ
  obtain ⟨r, e1, h1⟩ := zc_398 (zs_rf (key := zs_kC) (kl := zs_lC) hJ.1.1.1) (x1 := a0)
  obtain ⟨r2, e2, h2⟩ := zc_399 (zs_rf (key := zs_kM) (kl := zs_lM) hJ.1.1.2.1) (x1 := a0)
  exact ⟨r.1, r2.1, r.2, r2.2, e1, e2, zK_keep (h1.1.2) (h2.1.2) hJ⟩
theorem zz_32 : st_32 zK zK := by
  intro σ τ a0 hJ
  obtain ⟨r, e1, h1⟩ := zc_400 (zs_rf (key := zs_kC) (kl := zs_lC) hJ.1.1.1) (x1 := a0)
  obtain ⟨r2, e2, h2⟩ := zc_401 (zs_rf (key := zs_kM) (kl := zs_lM) hJ.1.1.2.1) (x1 := a0)
  exact ⟨r.1, r2.1, r.2, r2.2, e1, e2, zK_keep (h1.1.2) (h2.1.2) hJ⟩
theorem zz_33 : st_33 zK zK := by
  intro σ τ hJ
  obtain ⟨r, e1, h1⟩ := zc_405 (zs_rf (key := zs_kC) (kl := zs_lC) hJ.1.1.1) 
  obtain ⟨r2, e2, h2⟩ := zc_410 (zs_rf (key := zs_kM) (kl := zs_lM) hJ.1.1.2.1) 
  exact ⟨r.1, r2.1, r.2, r2.2, e1, e2, zK_keep (h1.2) (h2.2) hJ⟩
theorem zz_34 : st_34 zK zK := by
  intro σ τ a0 hJ
  obtain ⟨r, e1, h1⟩ := zc_411 (zs_rf (key := zs_kC) (kl := zs_lC) hJ.1.1.1) (x1 := a0)
  obtain ⟨r2, e2, h2⟩ := zc_412 (zs_rf (key := zs_kM) (kl := zs_lM) hJ.1.1.2.1) (x1 := a0)
  exact ⟨r.1, r2.1, r.2, r2.2, e1, e2, zK_keep (h1.2) (h2.2) hJ⟩
theorem zz_35 : st_35 zK zK := by
  intro σ τ hJ
  obtain ⟨r, e1, h1⟩ := zc_416 (zs_rf (key := zs_kC) (kl := zs_lC) hJ.1.1.1) 
  obtain ⟨r2, e2, h2⟩ := zc_420 (zs_rf (key := zs_kM) (kl := zs_lM) hJ.1.1.2.1) 
  exact ⟨r.1, r2.1, r.2, r2.2, e1, e2, zK_keep (h1.2) (h2.2) hJ⟩
theorem zz_36 : st_36 zK zK := by
  intro σ τ hJ
  obtain ⟨r, e1, h1⟩ := zc_425 (zs_rf (key := zs_kC) (kl := zs_lC) hJ.1.1.1) 
  obtain ⟨r2, e2, h2⟩ := zc_430 (zs_rf (key := zs_kM) (kl := zs_lM) hJ.1.1.2.1) 
  exact ⟨r.1, r2.1, r.2, r2.2, e1, e2, zK_keep (h1.2) (h2.2) hJ⟩
theorem zz_37 : st_37 zK zK := by
  intro σ τ hJ
  obtain ⟨r, e1, h1⟩ := zc_434 (zs_rf (key := zs_kC) (kl := zs_lC) hJ.1.1.1) 
  obtain ⟨r2, e2, h2⟩ := zh_reserve (zs_rf (key := zs_kM) (kl := zs_lM) hJ.1.1.2.1)
  exact ⟨r.1, r2.1, r.2, r2.2, e1, e2, zK_keep (h1.2) (h2) hJ⟩
theorem zz_38 : st_38 zK zK := by
  intro σ τ a0 hJ
  obtain ⟨r, e1, h1⟩ := zc_437 (zs_rf (key := zs_kC) (kl := zs_lC) hJ.1.1.1) (x1 := a0)
  obtain ⟨r2, e2, h2⟩ := zc_446 (zs_rf (key := zs_kM) (kl := zs_lM) hJ.1.1.2.1) (x1 := a0)
  exact ⟨r.1, r2.1, r.2, r2.2, e1, e2, zK_keep (h1.2) (h2.2) hJ⟩
theorem zz_39 : st_39 zK zK := by
  intro σ τ hJ
  obtain ⟨r, e1, h1⟩ := zc_457 (zs_rf (key := zs_kC) (kl := zs_lC) hJ.1.1.1) 
  obtain ⟨r2, e2, h2⟩ := zc_463 (zs_rf (key := zs_kM) (kl := zs_lM) hJ.1.1.2.1) 
  exact ⟨r.1, r2.1, r.2, r2.2, e1, e2, zK_keep (h1.2) (h2.2) hJ⟩
theorem zz_40 : st_40 zK zK := by
  intro σ τ a0 hJ
  obtain ⟨r, e1, h1⟩ := zc_471 (zs_rf (key := zs_kC) (kl := zs_lC) hJ.1.1.1) (x1 := a0)
  obtain ⟨r2, e2, h2⟩ := zc_478 (zs_rf (key := zs_kM) (kl := zs_lM) hJ.1.1.2.1) (x1 := a0)
  exact ⟨r, r2.1, r2.2, e1, e2, zK_keep (zs_rf hJ.1.1.1) (h2.1.2) hJ⟩
theorem zz_41 : st_41 zK zK := by
  intro σ τ a0 hJ
  obtain ⟨r, e1, h1⟩ := zc_479 (zs_rf (key := zs_kC) (kl := zs_lC) hJ.1.1.1) (x1 := a0)
  obtain ⟨r2, e2, h2⟩ := zc_480 (zs_rf (key := zs_kM) (kl := zs_lM) hJ.1.1.2.1) (x1 := a0)
  exact ⟨r, r2.1, r2.2, e1, e2, zK_keep (zs_rf hJ.1.1.1) (h2.1.2) hJ⟩
theorem zz_42 : st_42 zK zK := by
  intro σ τ a0 hJ
  obtain ⟨r, e1, h1⟩ := zc_489 (zs_rf (key := zs_kC) (kl := zs_lC) hJ.1.1.1) (x1 := a0)
  obtain ⟨r2, e2, h2⟩ := zr_price hJ.1.1.2.1 a0
  exact ⟨r, r2.1, r2.2, e1, e2, zK_keep (zs_rf hJ.1.1.1) (h2) hJ⟩
theorem zz_43 : st_43 zK zK := by
  intro σ τ a0 hJ
  obtain ⟨r, e1, h1⟩ := zc_511 (zs_rf (key := zs_kC) (kl := zs_lC) hJ.1.1.1) (x1 := a0)
  obtain ⟨r2, e2, h2⟩ := zc_527 (zs_rf (key := zs_kM) (kl := zs_lM) hJ.1.1.2.1) (x1 := a0)
  exact ⟨r.1, r2.1, r.2, r2.2, e1, e2, zK_keep (h1.1.2) (h2.1.2) hJ⟩
theorem zz_44 : st_44 zK zK := by
  intro σ τ a0 hJ
  obtain ⟨r, e1, h1⟩ := zc_529 (zs_rf (key := zs_kC) (kl := zs_lC) hJ.1.1.1) (x1 := a0)
  obtain ⟨r2, e2, h2⟩ := zc_530 (zs_rf (key := zs_kM) (kl := zs_lM) hJ.1.1.2.1) (x1 := a0)
  have q : r.1 = r2.1 := yz_44 hJ _ _ e1 e2
  exact ⟨r.1, r.2, r2.2, e1, (e2.trans (show some r2 = some (r.1, r2.2) by rw [q])), zK_keep (h1.1.2) (h2.1.2) hJ⟩
theorem zz_45 : st_45 zK zK := by
  intro σ τ a0 hJ
  obtain ⟨r, e1, h1⟩ := zc_543 (zs_rf (key := zs_kC) (kl := zs_lC) hJ.1.1.1) (x1 := a0)
  obtain ⟨r2, e2, h2⟩ := zc_549 (zs_rf (key := zs_kM) (kl := zs_lM) hJ.1.1.2.1) (x1 := a0)
  exact ⟨r.1, r2.1, r.2, r2.2, e1, e2, zK_keep (h1.1.2) (h2.1.2) hJ⟩
theorem zz_46 : st_46 zK zK := by
  intro σ τ a0 hJ
  obtain ⟨r, e1, h1⟩ := zc_550 (zs_rf (key := zs_kC) (kl := zs_lC) hJ.1.1.1) (x1 := a0)
  obtain ⟨r2, e2, h2⟩ := zc_551 (zs_rf (key := zs_kM) (kl := zs_lM) hJ.1.1.2.1) (x1 := a0)
  exact ⟨r.1, r2.1, r.2, r2.2, e1, e2, zK_keep (h1.1.2) (h2.1.2) hJ⟩
theorem zz_47 : st_47 zK zK := by
  intro σ τ a0 hJ
  obtain ⟨r, e1, h1⟩ := zc_579 (zs_rf (key := zs_kC) (kl := zs_lC) hJ.1.1.1) (x1 := a0)
  obtain ⟨r2, e2, h2⟩ := zc_1500 (zs_rf (key := zs_kM) (kl := zs_lM) hJ.1.1.2.1) (x1 := a0)
  exact ⟨r.1, r2.1, r.2, r2.2, e1, e2, zK_keep (h1.1.2) (h2.2) hJ⟩
theorem zz_48 : st_48 zK zK := by
  intro σ τ a0 hJ
  obtain ⟨r, e1, h1⟩ := zc_580 (zs_rf (key := zs_kC) (kl := zs_lC) hJ.1.1.1) (x1 := a0)
  obtain ⟨r2, e2, h2⟩ := zc_1503 (zs_rf (key := zs_kM) (kl := zs_lM) hJ.1.1.2.1) (x1 := a0)
  exact ⟨r.1, r2.1, r.2, r2.2, e1, e2, zK_keep (h1.1.2) (h2.2) hJ⟩
theorem zz_49 : st_49 zK zK := by
  intro σ τ a0 hJ
  obtain ⟨r, e1, h1⟩ := zc_581 (zs_rf (key := zs_kC) (kl := zs_lC) hJ.1.1.1) (x1 := a0)
  obtain ⟨r2, e2, h2⟩ := zc_1504 (zs_rf (key := zs_kM) (kl := zs_lM) hJ.1.1.2.1) (x1 := a0)
  exact ⟨r.1, r2.1, r.2, r2.2, e1, e2, zK_keep (h1.1.2) (h2.2) hJ⟩
theorem zz_50 : st_50 zK zK := by
  intro σ τ a0 hJ
  obtain ⟨r, e1, h1⟩ := zc_590 (zs_rf (key := zs_kC) (kl := zs_lC) hJ.1.1.1) (x1 := a0)
  obtain ⟨r2, e2, h2⟩ := zc_1516 (zs_rf (key := zs_kM) (kl := zs_lM) hJ.1.1.2.1) (x1 := a0)
  exact ⟨r.1, r2.1, r.2, r2.2, e1, e2, zK_keep (h1.1.2) (h2.2) hJ⟩
theorem zz_51 : st_51 zK zK := by
  intro σ τ a0 hJ
  obtain ⟨r, e1, h1⟩ := zc_591 (zs_rf (key := zs_kC) (kl := zs_lC) hJ.1.1.1) (x1 := a0)
  obtain ⟨r2, e2, h2⟩ := zc_1517 (zs_rf (key := zs_kM) (kl := zs_lM) hJ.1.1.2.1) (x1 := a0)
  exact ⟨r.1, r2.1, r.2, r2.2, e1, e2, zK_keep (h1.1.2) (h2.2) hJ⟩
theorem zz_52 : st_52 zK zK := by
  intro σ τ a0 a1 hJ
  obtain ⟨r, e1, h1⟩ := zc_606 (zs_rf (key := zs_kC) (kl := zs_lC) hJ.1.1.1) (x1 := a0) (x2 := a1)
  obtain ⟨r2, e2, h2⟩ := zc_642 (zs_rf (key := zs_kM) (kl := zs_lM) hJ.1.1.2.1) (x1 := a0) (x2 := a1)
  exact ⟨r.1, r2.1, r.2, r2.2, e1, e2, zK_keep (h1.1.2) (h2.1.2) hJ⟩
theorem zz_53 : st_53 zK zK := by
  intro σ τ a0 a1 a2 a3 hJ
  obtain ⟨r, e1, h1⟩ := zc_643 (zs_rf (key := zs_kC) (kl := zs_lC) hJ.1.1.1) (x1 := a0) (x2 := a1) (x3 := a2) (x4 := a3)
  obtain ⟨r2, e2, h2⟩ := zc_651 (zs_rf (key := zs_kM) (kl := zs_lM) hJ.1.1.2.1) (x1 := a0) (x2 := a1) (x3 := a2) (x4 := a3)
  exact ⟨r.1, r2.1, r.2, r2.2, e1, e2, zK_keep (h1.1.2) (h2.1.2) hJ⟩
theorem zz_54 : st_54 zK zK := by
  intro σ τ a0 hJ
  obtain ⟨r, e1, h1⟩ := zc_654 (zs_rf (key := zs_kC) (kl := zs_lC) hJ.1.1.1) (x1 := a0)
  obtain ⟨r2, e2, h2⟩ := zc_657 (zs_rf (key := zs_kM) (kl := zs_lM) hJ.1.1.2.1) (x1 := a0)
  exact ⟨r.1, r2.1, r.2, r2.2, e1, e2, zK_keep (h1.1.2) (h2.1.2) hJ⟩
theorem zz_55 : st_55 zK zK := by
  intro σ τ hJ
  obtain ⟨r, e1, h1⟩ := zc_662 (zs_rf (key := zs_kC) (kl := zs_lC) hJ.1.1.1) 
  obtain ⟨r2, e2, h2⟩ := zc_667 (zs_rf (key := zs_kM) (kl := zs_lM) hJ.1.1.2.1) 
  exact ⟨r.1, r2.1, r.2, r2.2, e1, e2, zK_keep (h1.2) (h2.2) hJ⟩
theorem zz_56 : st_56 zK zK := by
  intro σ τ a0 a1 a2 hJ
  obtain ⟨r, e1, h1⟩ := zc_1112 (zs_rf (key := zs_kC) (kl := zs_lC) hJ.1.1.1) (x1 := a0) (x2 := a1) (x3 := a2)
  obtain ⟨r2, e2, h2⟩ := zq_chance hJ.1.1.2.1 a0 a1 a2
  exact ⟨r.1, r2.1, r.2, r2.2, e1, e2, zK_keep (h1.1.2) (h2) hJ⟩
theorem zz_57 : st_57 zK zK := by
  intro σ τ a0 a1 a2 hJ
  obtain ⟨r, e1, h1⟩ := zc_1235 (zs_rf (key := zs_kC) (kl := zs_lC) hJ.1.1.1) (x1 := a0) (x2 := a1) (x3 := a2)
  obtain ⟨r2, e2, h2⟩ := zq_fair hJ.1.1.2.1 a0 a1 a2
  exact ⟨r.1, r2.1, r.2, r2.2, e1, e2, zK_keep (h1.1.2) (h2) hJ⟩
theorem zz_58 : st_58 zK zK := by
  intro σ τ a0 a1 hJ
  obtain ⟨r, e1, h1⟩ := zc_1445 (zs_rf (key := zs_kC) (kl := zs_lC) hJ.1.1.1) (x1 := a0) (x2 := a1)
  obtain ⟨r2, e2, h2⟩ := zq_risk hJ.1.1.2.1 a0 a1
  exact ⟨r.1, r2.1, r.2, r2.2, e1, e2, zK_keep (h1.1.2) (h2) hJ⟩
theorem zz_59 : st_59 zK zK := by
  intro σ τ a0 a1 hJ
  obtain ⟨r, σ1, τ1, e1, e2, h⟩ := zK_59 σ τ a0 a1 hJ
  exact ⟨r, r, σ1, τ1, e1, e2, h⟩
theorem zz_60 : st_60 zK zK := by
  intro σ τ a0 a1 hJ
  obtain ⟨r, σ1, τ1, e1, e2, h⟩ := zK_60 σ τ a0 a1 hJ
  exact ⟨r, r, σ1, τ1, e1, e2, h⟩
theorem zz_61 : st_61 zK zK := by
  intro σ τ hJ
  obtain ⟨r, σ1, τ1, e1, e2, h⟩ := zK_61 σ τ hJ
  exact ⟨r, r, σ1, τ1, e1, e2, h⟩
theorem zz_62 : st_62 zK zK := by
  intro σ τ hJ
  obtain ⟨r, σ1, τ1, e1, e2, h⟩ := zK_62 σ τ hJ
  exact ⟨r, r, σ1, τ1, e1, e2, h⟩
theorem zz_63 : st_63 zK zK := by
  intro σ τ a0 a1 hJ
  obtain ⟨r, e1, h1⟩ := zc_1452 (zs_rf (key := zs_kC) (kl := zs_lC) hJ.1.1.1) (x1 := a0) (x2 := a1)
  obtain ⟨r2, e2, h2⟩ := zc_1460 (zs_rf (key := zs_kM) (kl := zs_lM) hJ.1.1.2.1) (x1 := a0) (x2 := a1)
  exact ⟨r.1, r2.1, r.2, r2.2, e1, e2, zK_keep (h1.1.2) (h2.1.2) hJ⟩
theorem zz_64 : st_64 zK zK := by
  intro σ τ a0 a1 a2 hJ
  obtain ⟨r, e1, h1⟩ := zc_1465 (zs_rf (key := zs_kC) (kl := zs_lC) hJ.1.1.1) (x1 := a0) (x2 := a1) (x3 := a2)
  obtain ⟨r2, e2, h2⟩ := zc_1472 (zs_rf (key := zs_kM) (kl := zs_lM) hJ.1.1.2.1) (x1 := a0) (x2 := a1) (x3 := a2)
  exact ⟨r.1, r2.1, r.2, r2.2, e1, e2, zK_keep (h1.1.2) (h2.1.2) hJ⟩
theorem zz_65 : st_65 zK zK := by
  intro σ τ a0 a1 hJ
  obtain ⟨r, σ1, τ1, e1, e2, h⟩ := zK_65 σ τ a0 a1 hJ
  exact ⟨r, r, σ1, τ1, e1, e2, h⟩
theorem zz_66 : st_66 zK zK := by
  intro σ τ a0 hJ
  obtain ⟨r, e1, e2⟩ := zJ_66 σ τ a0 hJ.1
  exact ⟨r, r, e1, e2, hJ⟩
theorem zz_67 : st_67 zK zK := by
  intro σ τ a0 hJ
  obtain ⟨r, σ1, τ1, e1, e2, h⟩ := zK_67 σ τ a0 hJ
  exact ⟨r, r, σ1, τ1, e1, e2, h⟩
theorem zz_68 : st_68 zK zK := by
  intro σ τ a0 hJ
  obtain ⟨r, σ1, τ1, e1, e2, h⟩ := zK_68 σ τ a0 hJ
  exact ⟨r, r, σ1, τ1, e1, e2, h⟩
theorem zz_69 : st_69 zK zK := by
  intro σ τ a0 a1 a2 hJ
  obtain ⟨r, σ1, τ1, e1, e2, h⟩ := zK_69 σ τ a0 a1 a2 hJ
  exact ⟨r, r, σ1, τ1, e1, e2, h⟩
theorem zz_70 : st_70 zK zK := by
  intro σ τ a0 a1 a2 hJ
  obtain ⟨r, σ1, τ1, e1, e2, h⟩ := zK_70 σ τ a0 a1 a2 hJ
  exact ⟨r, r, σ1, τ1, e1, e2, h⟩
theorem zz_71 : st_71 zK zK := by
  intro σ τ a0 a1 a2 a3 a4 hJ
  obtain ⟨r, σ1, τ1, e1, e2, h⟩ := zK_71 σ τ a0 a1 a2 a3 a4 hJ
  exact ⟨r, r, σ1, τ1, e1, e2, h⟩
theorem zJ_ini : zJ sn_iniX8 sn_iniX9 := by
  have z0 : (0 : Int32).toInt = 0 := by decide
  have H : ∀ (h : Nat) (w : Nat → Int32), (∀ k, sn_iniX8.1 (h + 1) k = 0) → (∀ k, k < 11 → w k = 0) → rr_H h sn_iniX8 w := by
    intro h w h1 hw
    unfold rr_H
    rw [h1 5, h1 6, h1 7, h1 8, h1 9, z0]
    exact ⟨fun k hk => by rw [h1 k, hw k hk], fun i hi => absurd hi (by omega), fun i hi => absurd hi (by omega), fun i hi => absurd hi (by omega), fun i hi => absurd hi (by omega), fun i hi => absurd hi (by omega)⟩
  refine ⟨zj_ini, H 1 _ (fun k => rfl) (fun k _ => rfl), fun j hj => H _ _ (fun k => ?_) (fun k _ => rfl)⟩
  match j, hj with
  | 0, _ => rfl
  | 1, _ => rfl
  | 2, _ => rfl
theorem zK_ini : zK sn_iniX8 sn_iniX9 := by
  refine ⟨zJ_ini, ⟨jW_0 (fun _ => rfl), yH_0 (fun _ => rfl) (fun k => rfl)⟩, fun j hj => ⟨jW_0 (fun _ => rfl), yH_0 (fun _ => rfl) (fun k => ?_)⟩, yD_0 (fun _ => rfl) rfl rfl rfl rfl (fun m => rfl)⟩
  match j, hj with
  | 0, _ => rfl
  | 1, _ => rfl
  | 2, _ => rfl
theorem sn_pure : ∃ J : Nat → sn_S → sn_S → Prop, J 0 sn_iniX8 sn_iniX9 ∧ (∀ k, k + 6 ≤ 3072 → st_all (J k) (J (k + 6))) ∧ ∀ k, k + 6 ≤ 3072 → ∀ σ τ, J k σ τ → J (k + 6) σ τ := by
  refine ⟨fun _ => zK, zK_ini, fun _ _ => ⟨zz_0, zz_1, zz_2, zz_3, zz_4, zz_5, zz_6, zz_7, zz_8, zz_9, zz_10, zz_11, zz_12, zz_13, zz_14, zz_15, zz_16, zz_17, zz_18, zz_19, zz_20, zz_21, zz_22, zz_23, zz_24, zz_25, zz_26, zz_27, zz_28, zz_29, zz_30, zz_31, zz_32, zz_33, zz_34, zz_35, zz_36, zz_37, zz_38, zz_39, zz_40, zz_41, zz_42, zz_43, zz_44, zz_45, zz_46, zz_47, zz_48, zz_49, zz_50, zz_51, zz_52, zz_53, zz_54, zz_55, zz_56, zz_57, zz_58, zz_59, zz_60, zz_61, zz_62, zz_63, zz_64, zz_65, zz_66, zz_67, zz_68, zz_69, zz_70, zz_71⟩, fun _ _ _ _ h => h⟩
end
