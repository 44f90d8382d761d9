/-! answers: greatest, longest, together -/
def yz_mx (f : Nat → Int32) : Nat → Int32
  | 0 => 0
  | n + 1 => if yz_mx f n < f n then f n else yz_mx f n
section
variable {σ τ : sn_S}
theorem yz_13 {a : Int32} (hK : zK σ τ) : yr (fX8_itch σ a) (fX9_itch τ a) (fun r s => r = s.1) := by
  unfold fX8_itch fX9_itch
  refine yz_pers hK (fun p v u hp ea hM => ?_)
  subst ea
  obtain ⟨-, ⟨p1, p2, p3⟩, ⟨m1, m2, m3⟩⟩ := yK_n hK
  have e0 : σ.1 27 0 = nI (sp_n (τ.1 1) 0) := hK.2.2.2.1
  have u0 : u.1 1 0 = nI (sp_n (τ.1 1) 0) := (congrFun hM.1 0).trans m2
  refine yr_eq (yz_mx (fun m => dy_tick (hs_day (τ.1 1)) m p) (sp_n (τ.1 1) 0)) ?_ ?_
  · refine yp_bd (fun v => v = (yz_mx (fun m => dy_tick (hs_day (τ.1 1)) m p) (sp_n (τ.1 1) 0))) (yp_for (sp_n (τ.1 1) 0) (fun k s => s.2 = nI k ∧ s.1 = yz_mx (fun m => dy_tick (hs_day (τ.1 1)) m p) k) (fun k s hk hs => ?_) (fun s hs => ?_) ⟨nI_0.symm, rfl⟩) (fun v hv => ?_)
    · obtain ⟨v, x⟩ := s
      obtain ⟨ex, ev⟩ := hs
      have ex : x = nI k := ex
      have ev : v = _ := ev
      subst ex
      subst ev
      show yp (BX8_itch_15 σ (nI p) _ (nI k)) _
      unfold BX8_itch_15 fX0_tickleAt
      rw [show sn_I σ 27 0 = _ from e0, if_neg (nI_ge hk (by omega)), yi_6, nI_add, nI_clamp (by omega)]
      exact yp_bd (fun t => t = dy_tick (hs_day (τ.1 1)) k p) (yp_gd (fun _ => yp_some (yz_tick hK hk hp))) (fun t ht => yp_lt (yp_lt (yp_some ⟨nI_1 k, by rw [ht]; rfl⟩)))
    · obtain ⟨v, x⟩ := s
      obtain ⟨ex, ev⟩ := hs
      have ex : x = nI (sp_n (τ.1 1) 0) := ex
      subst ex
      show yp (BX8_itch_15 σ (nI p) v (nI (sp_n (τ.1 1) 0))) _
      unfold BX8_itch_15
      rw [show sn_I σ 27 0 = _ from e0, if_pos (nI_le (Nat.le_refl _) (by omega))]
      exact yp_some ev
    · unfold BX8_itch_46
      exact yp_some hv
  · refine yp_bd (fun v => v = (yz_mx (fun m => dy_tick (hs_day (τ.1 1)) m p) (sp_n (τ.1 1) 0))) (yp_for (sp_n (τ.1 1) 0) (fun k s => s.2 = nI k ∧ s.1 = yz_mx (fun m => dy_tick (hs_day (τ.1 1)) m p) k) (fun k s hk hs => ?_) (fun s hs => ?_) ⟨nI_0.symm, rfl⟩) (fun v hv => ?_)
    · obtain ⟨v, x⟩ := s
      obtain ⟨ex, ev⟩ := hs
      have ex : x = nI k := ex
      have ev : v = _ := ev
      subst ex
      subst ev
      show yp (BX9_itch_15 u (nI p) _ (nI k)) _
      unfold BX9_itch_15 fX9_minutes
      refine yp_bd (fun t => t = nI (sp_n (τ.1 1) 0)) (yp_gd (fun _ => yp_some u0)) (fun t ht => ?_)
      rw [ht, if_neg (nI_ge hk (by omega)), yi_6, nI_add, nI_clamp (by omega), show sn_I u 12 (6 * k + p) = _ from yz_mtick hM hk hp]
      exact yp_gd (fun _ => yp_lt (yp_lt (yp_some ⟨nI_1 k, rfl⟩)))
    · obtain ⟨v, x⟩ := s
      obtain ⟨ex, ev⟩ := hs
      have ex : x = nI (sp_n (τ.1 1) 0) := ex
      subst ex
      show yp (BX9_itch_15 u (nI p) v (nI (sp_n (τ.1 1) 0))) _
      unfold BX9_itch_15 fX9_minutes
      refine yp_bd (fun t => t = nI (sp_n (τ.1 1) 0)) (yp_gd (fun _ => yp_some u0)) (fun t ht => ?_)
      rw [ht, if_pos (nI_le (Nat.le_refl _) (by omega))]
      exact yp_some ev
    · unfold BX9_itch_45
      exact yp_some hv
theorem yz_14 {a : Int32} (hK : zK σ τ) : yr (fX8_caught σ a) (fX9_caught τ a) (fun r s => r = s.1) := by
  unfold fX8_caught fX9_caught
  refine yz_pers hK (fun p v u hp ea hM => ?_)
  subst ea
  obtain ⟨-, ⟨p1, p2, p3⟩, ⟨m1, m2, m3⟩⟩ := yK_n hK
  have e0 : σ.1 27 0 = nI (sp_n (τ.1 1) 0) := hK.2.2.2.1
  refine yr_eq (dy_all (hs_day (τ.1 1)) p (sp_n (τ.1 1) 0)) ?_ ?_
  · refine yp_bd (fun v => v = (dy_all (hs_day (τ.1 1)) p (sp_n (τ.1 1) 0))) (yp_for (sp_n (τ.1 1) 0) (fun k s => s.2 = nI k ∧ s.1 = dy_all (hs_day (τ.1 1)) p k) (fun k s hk hs => ?_) (fun s hs => ?_) ⟨nI_0.symm, rfl⟩) (fun v hv => ?_)
    · obtain ⟨v, x⟩ := s
      obtain ⟨ex, ev⟩ := hs
      have ex : x = nI k := ex
      have ev : v = _ := ev
      subst ex
      subst ev
      show yp (BX8_caught_15 σ (nI p) _ (nI k)) _
      unfold BX8_caught_15 fX0_cameAt
      rw [show sn_I σ 27 0 = _ from e0, if_neg (nI_ge hk (by omega)), yi_6, nI_add, nI_clamp (by omega)]
      exact yp_bd (fun t => t = dy_came (hs_day (τ.1 1)) k p) (yp_gd (fun _ => yp_some (yz_came hK hk hp))) (fun t ht => yp_lt (yp_lt (yp_some ⟨nI_1 k, by rw [ht]; rfl⟩)))
    · obtain ⟨v, x⟩ := s
      obtain ⟨ex, ev⟩ := hs
      have ex : x = nI (sp_n (τ.1 1) 0) := ex
      subst ex
      show yp (BX8_caught_15 σ (nI p) v (nI (sp_n (τ.1 1) 0))) _
      unfold BX8_caught_15
      rw [show sn_I σ 27 0 = _ from e0, if_pos (nI_le (Nat.le_refl _) (by omega))]
      exact yp_some ev
    · unfold BX8_caught_44
      exact yp_some hv
  · rw [nI_clamp (show p < 2 ^ 31 by omega)]
    refine yp_gd (fun _ => yp_some ?_)
    have := (hM.2.1.2 p (by omega)).2
    rw [if_pos (show p < dy_P (hs_day (τ.1 1)) from hp)] at this
    exact this
/-- best and most, gone through by one up -/
def yz_wo (f : Nat → Int32) : Nat → Int32 × Int32
  | 0 => (-1, 0)
  | n + 1 => if f n ≤ (yz_wo f n).2 then yz_wo f n else (nI n, f n)
theorem yz_16 (hK : zK σ τ) : yr (fX8_worst σ) (fX9_worst τ) (fun r s => r = s.1) := by
  unfold fX8_worst fX9_worst
  refine yz_house hK (fun v u h10 hM => ?_)
  have hW := hK.2.1.1
  obtain ⟨-, ⟨p1, p2, p3⟩, ⟨m1, m2, m3⟩⟩ := yK_n hK
  have e1 : σ.1 27 1 = nI (sp_n (τ.1 1) 5) := hK.2.2.2.2.1.1
  have u5 : u.1 1 5 = nI (sp_n (τ.1 1) 5) := (congrFun hM.1 5).trans p2
  obtain ⟨f, hf⟩ : ∃ f : Nat → Int32, f = fun p => nI (yb_pop (dy_sn (hs_day (τ.1 1)) (sp_n (τ.1 1) 0) p) 30) := ⟨_, rfl⟩
  refine yr_eq (yz_wo f (sp_n (τ.1 1) 5)).1 ?_ ?_
  · refine yp_bd (fun v => v = (yz_wo f (sp_n (τ.1 1) 5)).1) (yp_for (sp_n (τ.1 1) 5) (fun k s => s.2.2 = nI k ∧ s.1 = (yz_wo f k).1 ∧ s.2.1 = (yz_wo f k).2) (fun k s hk hs => ?_) (fun s hs => ?_) ⟨nI_0.symm, rfl, rfl⟩) (fun v hv => ?_)
    · obtain ⟨b, c, x⟩ := s
      obtain ⟨ex, eb, ec⟩ := hs
      have ex : x = nI k := ex
      have eb : b = _ := eb
      have ec : c = _ := ec
      subst ex
      subst eb
      subst ec
      have k1 : yz_wo f (k + 1) = if f k ≤ (yz_wo f k).2 then yz_wo f k else (nI k, f k) := rfl
      show yp (BX8_worst_16 σ _ _ (nI k)) _
      unfold BX8_worst_16 BX8_worst_52
      rw [show sn_I σ 27 1 = _ from e1, if_neg (nI_ge hk (by omega)), nI_clamp (show k < 2 ^ 31 by omega), show sn_I σ (27 + 10) k = _ from yz_sn hK hk, yb_count, yb_pop30 (fun j g1 g2 => yz_sbits m3 j (by omega) g2)]
      refine yp_gd (fun _ => yp_bs rfl ?_)
      rw [show nI (yb_pop (dy_sn (hs_day (τ.1 1)) (sp_n (τ.1 1) 0) k) 30) = f k by rw [hf]]
      refine yp_ite (fun c => yp_lt (yp_some ⟨nI_1 k, ?_, ?_⟩)) (fun c => yp_lt (yp_some ⟨nI_1 k, ?_, ?_⟩))
      · rw [k1, if_pos c]
      · rw [k1, if_pos c]
      · rw [k1, if_neg c]
      · rw [k1, if_neg c]
    · obtain ⟨b, c, x⟩ := s
      obtain ⟨ex, eb, ec⟩ := hs
      have ex : x = nI (sp_n (τ.1 1) 5) := ex
      subst ex
      show yp (BX8_worst_16 σ b c (nI (sp_n (τ.1 1) 5))) _
      unfold BX8_worst_16
      rw [show sn_I σ 27 1 = _ from e1, if_pos (nI_le (Nat.le_refl _) (by omega))]
      exact yp_some eb
    · unfold BX8_worst_58
      exact yp_some hv
  · refine yp_bd (fun v => v = (yz_wo f (sp_n (τ.1 1) 5)).1) (yp_for (sp_n (τ.1 1) 5) (fun k s => s.2.2 = nI k ∧ s.1 = (yz_wo f k).1 ∧ s.2.1 = (yz_wo f k).2) (fun k s hk hs => ?_) (fun s hs => ?_) ⟨nI_0.symm, rfl, rfl⟩) (fun v hv => ?_)
    · obtain ⟨b, c, x⟩ := s
      obtain ⟨ex, eb, ec⟩ := hs
      have ex : x = nI k := ex
      have eb : b = _ := eb
      have ec : c = _ := ec
      subst ex
      subst eb
      subst ec
      have k1 : yz_wo f (k + 1) = if f k ≤ (yz_wo f k).2 then yz_wo f k else (nI k, f k) := rfl
      show yp (BX9_worst_16 u _ _ (nI k)) _
      unfold BX9_worst_16 BX9_worst_54
      rw [show sn_I u 1 (5 : Int32).toNatClampNeg = _ from u5, if_neg (nI_ge hk (by omega)), nI_clamp (show k < 2 ^ 31 by omega), show sn_I u 10 k = _ from yz_msn hW hM hk]
      have fk : nI (yb_pop (dy_sn (hs_day (τ.1 1)) (sp_n (τ.1 1) 0) k) 30) = f k := by rw [hf]
      refine yp_gd (fun _ => yp_gd (fun _ => yp_bd _ (yb_mbits _) (fun t ht => ?_)))
      rw [ht, fk]
      refine yp_ite (fun c => yp_gd (fun _ => yp_bd _ (yb_mbits _) (fun t2 ht2 => yp_lt (yp_some ⟨nI_1 k, ?_, ?_⟩)))) (fun c => yp_lt (yp_some ⟨nI_1 k, ?_, ?_⟩))
      · rw [k1, if_neg (Int32.not_le.mpr c)]
      · rw [k1, if_neg (Int32.not_le.mpr c), ht2, fk]
      · rw [k1, if_pos (Int32.not_lt.mp c)]
      · rw [k1, if_pos (Int32.not_lt.mp c)]
    · obtain ⟨b, c, x⟩ := s
      obtain ⟨ex, eb, ec⟩ := hs
      have ex : x = nI (sp_n (τ.1 1) 5) := ex
      subst ex
      show yp (BX9_worst_16 u b c (nI (sp_n (τ.1 1) 5))) _
      unfold BX9_worst_16
      rw [show sn_I u 1 (5 : Int32).toNatClampNeg = _ from u5, if_pos (nI_le (Nat.le_refl _) (by omega))]
      exact yp_gd (fun _ => yp_some eb)
    · unfold BX9_worst_60
      exact yp_some hv
theorem yz_17 (hK : zK σ τ) : yr (fX8_chorus σ) (fX9_chorus τ) (fun r s => r = s.1) := by
  unfold fX8_chorus fX9_chorus
  refine yz_house hK (fun v u h10 hM => ?_)
  have hW := hK.2.1.1
  obtain ⟨-, ⟨p1, p2, p3⟩, ⟨m1, m2, m3⟩⟩ := yK_n hK
  have e0 : σ.1 27 0 = nI (sp_n (τ.1 1) 0) := hK.2.2.2.1
  have u0 : u.1 1 0 = nI (sp_n (τ.1 1) 0) := (congrFun hM.1 0).trans m2
  refine yr_eq (yz_mx (fun m => nI (yb_pop (dy_who (hs_day (τ.1 1)) m) 30)) (sp_n (τ.1 1) 0)) ?_ ?_
  · refine yp_bd (fun v => v = (yz_mx (fun m => nI (yb_pop (dy_who (hs_day (τ.1 1)) m) 30)) (sp_n (τ.1 1) 0))) (yp_for (sp_n (τ.1 1) 0) (fun k s => s.2 = nI k ∧ s.1 = yz_mx (fun m => nI (yb_pop (dy_who (hs_day (τ.1 1)) m) 30)) k) (fun k s hk hs => ?_) (fun s hs => ?_) ⟨nI_0.symm, rfl⟩) (fun v hv => ?_)
    · obtain ⟨v, x⟩ := s
      obtain ⟨ex, ev⟩ := hs
      have ex : x = nI k := ex
      have ev : v = _ := ev
      subst ex
      subst ev
      show yp (BX8_chorus_14 σ _ (nI k)) _
      unfold BX8_chorus_14
      rw [show sn_I σ 27 0 = _ from e0, if_neg (nI_ge hk (by omega)), nI_clamp (show k < 2 ^ 31 by omega), show sn_I σ (27 + 9) k = _ from yz_who hK hk, yb_count, yb_pop30 (fun j g1 g2 => yz_wbits (i := hs_day (τ.1 1)) p3 j (by show sp_n (τ.1 1) 5 ≤ j; omega) g2)]
      exact yp_gd (fun _ => yp_bs rfl (yp_lt (yp_lt (yp_some ⟨nI_1 k, rfl⟩))))
    · obtain ⟨v, x⟩ := s
      obtain ⟨ex, ev⟩ := hs
      have ex : x = nI (sp_n (τ.1 1) 0) := ex
      subst ex
      show yp (BX8_chorus_14 σ v (nI (sp_n (τ.1 1) 0))) _
      unfold BX8_chorus_14
      rw [show sn_I σ 27 0 = _ from e0, if_pos (nI_le (Nat.le_refl _) (by omega))]
      exact yp_some ev
    · unfold BX8_chorus_48
      exact yp_some hv
  · refine yp_bd (fun v => v = (yz_mx (fun m => nI (yb_pop (dy_who (hs_day (τ.1 1)) m) 30)) (sp_n (τ.1 1) 0))) (yp_for (sp_n (τ.1 1) 0) (fun k s => s.2 = nI k ∧ s.1 = yz_mx (fun m => nI (yb_pop (dy_who (hs_day (τ.1 1)) m) 30)) k) (fun k s hk hs => ?_) (fun s hs => ?_) ⟨nI_0.symm, rfl⟩) (fun v hv => ?_)
    · obtain ⟨v, x⟩ := s
      obtain ⟨ex, ev⟩ := hs
      have ex : x = nI k := ex
      have ev : v = _ := ev
      subst ex
      subst ev
      show yp (BX9_chorus_14 u _ (nI k)) _
      unfold BX9_chorus_14 fX9_minutes
      refine yp_bd (fun t => t = nI (sp_n (τ.1 1) 0)) (yp_gd (fun _ => yp_some u0)) (fun t ht => ?_)
      rw [ht, if_neg (nI_ge hk (by omega)), nI_clamp (show k < 2 ^ 31 by omega), show sn_I u 11 k = _ from yz_mwho hM hk]
      exact yp_gd (fun _ => yp_bd _ (yb_mbits _) (fun t2 ht2 => yp_lt (yp_lt (yp_some ⟨nI_1 k, by rw [ht2]; rfl⟩))))
    · obtain ⟨v, x⟩ := s
      obtain ⟨ex, ev⟩ := hs
      have ex : x = nI (sp_n (τ.1 1) 0) := ex
      subst ex
      show yp (BX9_chorus_14 u v (nI (sp_n (τ.1 1) 0))) _
      unfold BX9_chorus_14 fX9_minutes
      refine yp_bd (fun t => t = nI (sp_n (τ.1 1) 0)) (yp_gd (fun _ => yp_some u0)) (fun t ht => ?_)
      rw [ht, if_pos (nI_le (Nat.le_refl _) (by omega))]
      exact yp_some ev
    · unfold BX9_chorus_42
      exact yp_some hv
/-- the most, and how many now -/
def yz_ca (f : Nat → Int32) : Nat → Int32 × Int32
  | 0 => (0, 0)
  | n + 1 => (if (yz_ca f n).1 < (if f n = 0 then (yz_ca f n).2 + 1 else 0) then (if f n = 0 then (yz_ca f n).2 + 1 else 0) else (yz_ca f n).1, if f n = 0 then (yz_ca f n).2 + 1 else 0)
theorem yz_18 (hK : zK σ τ) : yr (fX8_calm σ) (fX9_calm τ) (fun r s => r = s.1) := by
  unfold fX8_calm fX9_calm
  refine yz_house hK (fun v u h10 hM => ?_)
  obtain ⟨-, ⟨p1, p2, p3⟩, ⟨m1, m2, m3⟩⟩ := yK_n hK
  have e0 : σ.1 27 0 = nI (sp_n (τ.1 1) 0) := hK.2.2.2.1
  have u0 : u.1 1 0 = nI (sp_n (τ.1 1) 0) := (congrFun hM.1 0).trans m2
  obtain ⟨f, hf⟩ : ∃ f : Nat → Int32, f = fun m => dy_who (hs_day (τ.1 1)) m := ⟨_, rfl⟩
  have k1 : ∀ k, yz_ca f (k + 1) = (if (yz_ca f k).1 < (if f k = 0 then (yz_ca f k).2 + 1 else 0) then (if f k = 0 then (yz_ca f k).2 + 1 else 0) else (yz_ca f k).1, if f k = 0 then (yz_ca f k).2 + 1 else 0) := fun k => rfl
  refine yr_eq (yz_ca f (sp_n (τ.1 1) 0)).1 ?_ ?_
  · refine yp_bd (fun v => v = (yz_ca f (sp_n (τ.1 1) 0)).1) (yp_for (sp_n (τ.1 1) 0) (fun k s => s.2.2 = nI k ∧ s.1 = (yz_ca f k).1 ∧ s.2.1 = (yz_ca f k).2) (fun k s hk hs => ?_) (fun s hs => ?_) ⟨nI_0.symm, rfl, rfl⟩) (fun v hv => ?_)
    · obtain ⟨b, c, x⟩ := s
      obtain ⟨ex, eb, ec⟩ := hs
      have ex : x = nI k := ex
      have eb : b = _ := eb
      have ec : c = _ := ec
      subst ex
      subst eb
      subst ec
      show yp (BX8_calm_16 σ _ _ (nI k)) _
      unfold BX8_calm_16 BX8_calm_46
      rw [show sn_I σ 27 0 = _ from e0, if_neg (nI_ge hk (by omega)), nI_clamp (show k < 2 ^ 31 by omega), show sn_I σ (27 + 9) k = f k by rw [hf]; exact yz_who hK hk]
      refine yp_gd (fun _ => yp_ite (fun c => yp_lt (yp_lt (yp_some ⟨nI_1 k, ?_, ?_⟩))) (fun c => yp_lt (yp_lt (yp_some ⟨nI_1 k, ?_, ?_⟩))))
      · rw [k1, if_pos c]
      · rw [k1, if_pos c]
      · rw [k1, if_neg c]
      · rw [k1, if_neg c]
    · obtain ⟨b, c, x⟩ := s
      obtain ⟨ex, eb, ec⟩ := hs
      have ex : x = nI (sp_n (τ.1 1) 0) := ex
      subst ex
      show yp (BX8_calm_16 σ b c (nI (sp_n (τ.1 1) 0))) _
      unfold BX8_calm_16
      rw [show sn_I σ 27 0 = _ from e0, if_pos (nI_le (Nat.le_refl _) (by omega))]
      exact yp_some eb
    · unfold BX8_calm_59
      exact yp_some hv
  · refine yp_bd (fun v => v = (yz_ca f (sp_n (τ.1 1) 0)).1) (yp_for (sp_n (τ.1 1) 0) (fun k s => s.2.2 = nI k ∧ s.1 = (yz_ca f k).1 ∧ s.2.1 = (yz_ca f k).2) (fun k s hk hs => ?_) (fun s hs => ?_) ⟨nI_0.symm, rfl, rfl⟩) (fun v hv => ?_)
    · obtain ⟨b, c, x⟩ := s
      obtain ⟨ex, eb, ec⟩ := hs
      have ex : x = nI k := ex
      have eb : b = _ := eb
      have ec : c = _ := ec
      subst ex
      subst eb
      subst ec
      show yp (BX9_calm_16 u _ _ (nI k)) _
      unfold BX9_calm_16 BX9_calm_40 fX9_minutes
      refine yp_bd (fun t => t = nI (sp_n (τ.1 1) 0)) (yp_gd (fun _ => yp_some u0)) (fun t ht => ?_)
      rw [ht, if_neg (nI_ge hk (by omega)), nI_clamp (show k < 2 ^ 31 by omega), show sn_I u 11 k = f k by rw [hf]; exact yz_mwho hM hk]
      refine yp_gd (fun _ => yp_ite (fun c => yp_lt (yp_lt (yp_some ⟨nI_1 k, ?_, ?_⟩))) (fun c => yp_lt (yp_lt (yp_some ⟨nI_1 k, ?_, ?_⟩))))
      · rw [k1, if_pos c]
      · rw [k1, if_pos c]
      · rw [k1, if_neg c]
      · rw [k1, if_neg c]
    · obtain ⟨b, c, x⟩ := s
      obtain ⟨ex, eb, ec⟩ := hs
      have ex : x = nI (sp_n (τ.1 1) 0) := ex
      subst ex
      show yp (BX9_calm_16 u b c (nI (sp_n (τ.1 1) 0))) _
      unfold BX9_calm_16 fX9_minutes
      refine yp_bd (fun t => t = nI (sp_n (τ.1 1) 0)) (yp_gd (fun _ => yp_some u0)) (fun t ht => ?_)
      rw [ht, if_pos (nI_le (Nat.le_refl _) (by omega))]
      exact yp_some eb
    · unfold BX9_calm_53
      exact yp_some hv
theorem yb_firstFrom (x : Int32) {m : Nat} (hm : m < 30 + 1) : yp (fX9_firstFrom x (nI m)) (fun r => yb_F x m r) := by
  unfold fX9_firstFrom
  refine yp_bd (fun t => (t = Sum.inl () ∧ ∀ k, m ≤ k → k < 30 → sp_bit x k = false) ∨ ∃ k, m ≤ k ∧ k < 30 ∧ sp_bit x k = true ∧ (∀ j, m ≤ j → j < k → sp_bit x j = false) ∧ t = Sum.inr (nI k)) (yp_it (fun s => ∃ k, m ≤ k ∧ k ≤ 30 ∧ s = nI k ∧ ∀ j, m ≤ j → j < k → sp_bit x j = false) (fun s hs => ?_) _ _ ⟨m, Nat.le_refl _, by omega, rfl, fun j h1 h2 => absurd h1 (by omega)⟩) (fun t ht => ?_)
  · obtain ⟨k, hm2, hk, e, h⟩ := hs
    subst e
    show yp (BX9_firstFrom_2 x (nI k)) _
    unfold BX9_firstFrom_2
    refine yp_ite (fun c => yp_some (Or.inl ⟨rfl, ?_⟩)) (fun c => ?_)
    · have : k = 30 := by
        rcases Nat.lt_or_ge k 30 with g | g
        · exact absurd c (nI_ge (b := 30) g (by decide))
        · omega
      subst this
      exact h
    · have k30 : k < 30 := by
        rcases Nat.lt_or_ge k 30 with g | g
        · exact g
        · exact absurd (nI_le (a := 30) g (by omega)) c
      rw [yb_m]
      refine yp_bit (fun b => ?_) (fun b => ?_)
      · rw [if_pos rfl]
        exact yp_some (Or.inr ⟨k, hm2, k30, b, h, rfl⟩)
      · rw [if_neg (by decide)]
        refine yp_lt (yp_some ⟨k + 1, by omega, k30, nI_1 k, fun j hj1 hj2 => ?_⟩)
        by_cases e : j = k
        · rw [e]; exact b
        · exact h j hj1 (by omega)
  · rcases ht with ⟨e, h⟩ | ⟨k, k0, k1, k2, k3, e⟩
    · subst e
      show yp (BX9_firstFrom_25) _
      unfold BX9_firstFrom_25
      exact yp_some (Or.inl ⟨rfl, h⟩)
    · subst e
      exact yp_some (Or.inr ⟨k, k0, k1, k2, k3, rfl⟩)
theorem yb_xor1 (x : Int32) {j : Nat} (hj : j < 32) : sp_bit (x ^^^ (-1 : Int32)) j = !sp_bit x j := by
  have e : (x ^^^ (-1 : Int32)).toBitVec = x.toBitVec ^^^ (-1 : Int32).toBitVec := rfl
  have e1 : (-1 : Int32).toBitVec = BitVec.allOnes 32 := by decide
  rw [yb_tb _ hj, yb_tb _ hj, e, e1, BitVec.getLsbD_xor, BitVec.getLsbD_allOnes]
  simp [hj]
theorem yz_20 {a b : Int32} (hK : zK σ τ) : yr (fX8_later σ a b) (fX9_later τ a b) (fun r s => r = s.1) := by
  obtain ⟨-, ⟨p1, p2, p3⟩, ⟨m1, m2, m3⟩⟩ := yK_n hK
  have hW := hK.2.1.1
  unfold fX8_later fX9_later
  rw [c_isPerson, c_isMinute, p1, m1]
  intro r s e1 e2
  obtain ⟨⟨v, u⟩, e3, e4⟩ := sn_bd e2
  obtain ⟨hv, hM⟩ := ym_askM rfl hW _ e3
  have hv : v = _ := hv
  have hM : yM τ u (τ.1 1) := hM
  have e4 : (if v = 0 then some ((-2 : Int32), u) else (fX9_isPerson u a.toInt64).bind _) = some s := e4
  by_cases cp : 0 ≤ a ∧ a < τ.1 1 5
  · rw [if_pos cp] at e1
    have e1 : (if (1 : Int32) = 0 then some (-2 : Int32) else _) = some r := e1
    rw [if_neg (by decide)] at e1
    by_cases cm : 0 ≤ b ∧ b < τ.1 1 0
    · rw [if_pos cm] at e1 hv
      have e1 : (if (1 : Int32) = 0 then some (-2 : Int32) else _) = some r := e1
      rw [if_neg (by decide)] at e1
      rw [hv, if_neg (by decide), ym_isP hW hM, if_pos cp] at e4
      have e4 : (if (1 : Int32) = 0 then some ((-2 : Int32), u) else _) = some s := e4
      rw [if_neg (by decide)] at e4
      obtain ⟨p, hp, ep⟩ := yK_p (by omega) p2 cp
      obtain ⟨m, hm, em⟩ := yK_p (by omega) m2 cm
      subst ep
      subst em
      obtain ⟨x, hx⟩ : ∃ x, x = dy_sn (hs_day (τ.1 1)) (sp_n (τ.1 1) 0) p := ⟨_, rfl⟩
      rw [nI_clamp (show p < 2 ^ 31 by omega)] at e1 e4
      obtain ⟨_, e5⟩ := sn_gdE e4
      rw [show sn_I u 10 p = x from (yz_msn hW hM hp).trans hx.symm] at e5
      obtain ⟨t, e6, e7⟩ := sn_bd e5
      cases e7
      have f2 : yb_F x m t := yb_firstFrom x (by omega) _ e6
      obtain ⟨_, e8⟩ := sn_gdE e1
      obtain ⟨w, e9, e10⟩ := sn_bd e8
      have ew : w = ((1 : Int32) <<< (nI m &&& 31)) - (1 : Int32) := (Option.some.inj e9).symm
      rw [show sn_I σ (27 + 10) p = x from (yz_sn hK hp).trans hx.symm, ew] at e10
      obtain ⟨t2, e11, e12⟩ := sn_bd e10
      cases e12
      have bx : ∀ k, k < 32 → sp_bit (x &&& ((((1 : Int32) <<< (nI m &&& 31)) - (1 : Int32)) ^^^ (-1 : Int32))) k = (sp_bit x k && !decide (k < m)) := fun k hk => by
        rw [yb_and _ _ hk, yb_xor1 _ hk, yb_low m (by omega) k hk]
      have f1 := yb_lowest (fun k h1 h2 => by
        rw [bx k h2, hx, yz_sbits m3 k (by omega) h2]
        rfl) _ e11
      have f3 : yb_F x m r := yb_Fx (fun k hk => by
        rw [bx k (by omega)]
        constructor
        · rintro ⟨-, h⟩
          simp at h
          exact ⟨h.2, h.1⟩
        · rintro ⟨h1, h2⟩
          refine ⟨Nat.zero_le _, ?_⟩
          simp
          exact ⟨h2, h1⟩) f1
      exact yb_F1 f3 f2
    · rw [if_neg cm] at e1 hv
      rw [hv, if_pos rfl] at e4
      have e1 : some (-2 : Int32) = some r := e1
      cases e1
      cases e4
      rfl
  · rw [if_neg cp] at e1
    have e1 : some (-2 : Int32) = some r := e1
    cases e1
    by_cases c : v = 0
    · rw [if_pos c] at e4
      cases e4
      rfl
    · rw [if_neg c, ym_isP hW hM, if_neg cp] at e4
      have e4 : some ((-2 : Int32), u) = some s := e4
      cases e4
      rfl
end
