/-! days drawn: luck -/
def lx_s (v : Int64) : Int64 := (((1103515245 : Int64) * v) + (12345 : Int64)) - (((1103515245 : Int64) * v) + (12345 : Int64)) / (2147483648 : Int64) * (2147483648 : Int64)
def lx (s : Int64) : Nat → Int64
  | 0 => s
  | n + 1 => lx_s (lx s n)
def lx_c (o : Int32) (y : Int64) : Int32 := lg_cmp ((y / (65536 : Int64)) - (y / (65536 : Int64)) / (10 : Int64) * (10 : Int64)) o.toInt64
def lx_p (o : Int32) (s : Int64) (m : Nat) : Bool := decide (lx_c o (lx s (m + 1)) < 0)
def lx_D (w : Nat → Int32) (s : Int64) (n m : Nat) : Int32 := if m < n ∧ lx_p (w 4) s m = true then hs_dust w m (sp_n w 6) + 3 else hs_dust w m (sp_n w 6)
def lx_j (w : Nat → Int32) (s : Int64) : dy_I := dy_dustSet (hs_day w) (lx_D w s (sp_n w 0))
theorem lx_D0 {w : Nat → Int32} {s : Int64} {n m : Nat} (h : ¬ m < n) : lx_D w s n m = hs_dust w m (sp_n w 6) := if_neg (fun g => h g.1)
theorem lx_Dn {w : Nat → Int32} {s : Int64} {n m : Nat} (h : m ≠ n) : lx_D w s (n + 1) m = lx_D w s n m := by
  unfold lx_D
  by_cases c : m < n ∧ lx_p (w 4) s m = true
  · rw [if_pos c, if_pos ⟨by omega, c.2⟩]
  · rw [if_neg c, if_neg (fun g => c ⟨by omega, g.2⟩)]
section
variable {σ τ u z : sn_S} {w : Nat → Int32} {q : Nat} {l : Int32}
theorem yc_drawn {s : Int32} (hW : jW w) (hH : yH 1 σ w) (hD : yD σ w) : yp (fX8_liveDrawn σ s) (fun r => (∀ a, (a < 38 ∨ 48 < a) → r.2.1 a = σ.1 a) ∧ yd_T 38 r.2 (lx_j w s.toInt64) ∧ yd_L 38 r.2 (lx_j w s.toInt64) (sp_n w 0)) := by
  have c0 := (yl_0 hW).2
  unfold fX8_liveDrawn
  refine yp_bd _ (yc_trial hW hD (by decide)) (fun z0 hz0 => ?_)
  obtain ⟨hr0, h00, ⟨t1, t2, t3, t4, t5, t6⟩, -⟩ := hz0
  have k0 : ∀ (y : sn_S), (∀ a, (a < 38 ∨ 48 < a) → y.1 a = σ.1 a) → (∀ a, a ≠ 39 → y.1 a = z0.1 a) → sn_I y 27 0 = nI (sp_n w 0) ∧ sn_I y (1 + 1) (4 : Int32).toNatClampNeg = w 4 := fun y h _ => ⟨(congrFun (h 27 (by omega)) 0).trans hD.1, (congrFun (h (1 + 1) (by omega)) 4).trans (hH.1 4 (by decide))⟩
  refine yp_bd (fun r => (∀ a, a ≠ 39 → r.1.1 a = z0.1 a) ∧ ∀ m, m < 30 → r.1.1 39 m = lx_D w s.toInt64 (sp_n w 0) m) (yp_for (sp_n w 0) (fun k t => t.2.2.2 = nI k ∧ t.2.2.1 = lx s.toInt64 k ∧ (∀ a, a ≠ 39 → t.1.1 a = z0.1 a) ∧ ∀ m, m < 30 → t.1.1 39 m = lx_D w s.toInt64 k m) (fun k t hk ht => ?_) (fun t ht => ?_) ⟨nI_0.symm, rfl, fun _ _ => rfl, fun m hm => by rw [lx_D0 (by omega)]; exact t4 m hm⟩) (fun r hr => ?_)
  · obtain ⟨y, x2, x3, x5⟩ := t
    obtain ⟨ex, e3, hy, hd⟩ := ht
    have ex : x5 = nI k := ex
    have e3 : x3 = _ := e3
    have hy : ∀ a, a ≠ 39 → y.1 a = z0.1 a := hy
    have hd : ∀ m, m < 30 → y.1 39 m = lx_D w s.toInt64 k m := hd
    subst ex
    subst e3
    obtain ⟨k1, k2⟩ := k0 y (fun a ha => (hy a (by omega)).trans (hr0 a ha)) hy
    show yp (BX8_liveDrawn_19 y x2 _ (nI k)) _
    unfold BX8_liveDrawn_19 BX8_liveDrawn_89
    rw [k1, if_neg (nI_ge hk (by omega)), k2, nI_clamp (show k < 2 ^ 31 by omega)]
    refine yp_lt (yp_gd (fun _ => yp_ite (fun c => yp_lt (yp_some ⟨nI_1 k, rfl, hy, fun m hm => ?_⟩)) (fun c => yp_lt (yp_gd (fun _ => yp_gd (fun _ => yp_lt (yp_lt (yp_some ⟨nI_1 k, rfl, fun a ha => (pI_ne ha).trans (hy a ha), fun m hm => ?_⟩))))))))
    · have c : ¬ lx_p (w 4) s.toInt64 k = true := fun h => absurd (of_decide_eq_true h) (Int32.not_lt.mpr c)
      by_cases e : m = k
      · subst e
        refine (hd m hm).trans ?_
        rw [lx_D0 (by omega)]
        exact (if_neg (fun g => c g.2)).symm
      · rw [lx_Dn e]
        exact hd m hm
    · have c : lx_p (w 4) s.toInt64 k = true := decide_eq_true (Int32.not_le.mp c)
      by_cases e : m = k
      · subst e
        refine pI_self.trans ?_
        rw [show sn_I y (38 + 1) m = _ from hd m hm, lx_D0 (by omega)]
        exact (if_pos ⟨by omega, c⟩).symm
      · rw [lx_Dn e]
        exact (pI_slot e).trans (hd m hm)
  · obtain ⟨y, x2, x3, x5⟩ := t
    obtain ⟨ex, e3, hy, hd⟩ := ht
    have ex : x5 = nI (sp_n w 0) := ex
    have hy : ∀ a, a ≠ 39 → y.1 a = z0.1 a := hy
    subst ex
    obtain ⟨k1, k2⟩ := k0 y (fun a ha => (hy a (by omega)).trans (hr0 a ha)) hy
    show yp (BX8_liveDrawn_19 y x2 x3 (nI (sp_n w 0))) _
    unfold BX8_liveDrawn_19
    rw [k1, if_pos (nI_le (Nat.le_refl _) (by omega))]
    exact yp_some ⟨hy, hd⟩
  · obtain ⟨hy, hd⟩ := hr
    have hT : yd_T 38 r.1 (lx_j w s.toInt64) := by
      refine ⟨(congrFun (hy 38 (by decide)) 1).trans t1, (congrFun (hy 38 (by decide)) 2).trans t2, (congrFun (hy 38 (by decide)) 3).trans t3, hd, fun p hp => ?_, fun k hk => ?_⟩
      · rw [hy (38 + 2) (by decide), hy (38 + 3) (by decide), hy (38 + 4) (by decide), hy (38 + 5) (by decide)]
        exact t5 p hp
      · rw [hy (38 + 6) (by decide)]
        exact t6 k hk
    unfold BX8_liveDrawn_95
    refine yp_bd _ (yc_whole ((congrFun (hy 38 (by decide)) 0).trans h00) c0 hT (hs_ok hW)) (fun v hv => yp_some ⟨fun a ha => ?_, yd_Tc (fun a a1 a2 => hv.1.1 a (by omega)) hT, hv.2⟩)
    exact (hv.1.1 a (by omega)).trans ((hy a (by omega)).trans (hr0 a ha))
theorem ym_drawn {s : Int64} (hW : jW w) (hu : u.1 1 = w) : yp (fX9_goDrawn u s) (fun r => yX r.2 w (w 2) (fun p => dy_sn (lx_j w s) (sp_n w 0) p) (yHh w)) := by
  have c0 := (yl_0 hW).2
  have c5 := (yl_5 hW).2
  unfold fX9_goDrawn
  refine yp_bd _ (ym_asItIs hu hW) (fun z0 hz0 => ?_)
  have z1 : z0.1 1 = w := (hz0.1.1 1 (by decide) (by decide) (by decide) (by decide)).trans hu
  obtain ⟨t1, t2, t3, t4, t5, t6⟩ := ya_day hu hW hz0
  obtain ⟨-, h18, h19, h20, h21, h22, h7, h89⟩ := hz0
  refine yp_bd (fun r => (∀ a, a ≠ 7 → r.1.1 a = z0.1 a) ∧ ∀ m, m < 30 → r.1.1 7 m = lx_D w s (sp_n w 0) m) (yp_for (sp_n w 0) (fun k t => t.2.2.2 = nI k ∧ t.2.1 = lx s k ∧ (∀ a, a ≠ 7 → t.1.1 a = z0.1 a) ∧ ∀ m, m < 30 → t.1.1 7 m = lx_D w s k m) (fun k t hk ht => ?_) (fun t ht => ?_) ⟨nI_0.symm, rfl, fun _ _ => rfl, fun m hm => by rw [lx_D0 (by omega)]; exact t4 m hm⟩) (fun r hr => ?_)
  · obtain ⟨y, x3, x5, x6⟩ := t
    obtain ⟨ex, e3, hy, hd⟩ := ht
    have ex : x6 = nI k := ex
    have e3 : x3 = _ := e3
    have hy : ∀ a, a ≠ 7 → y.1 a = z0.1 a := hy
    have hd : ∀ m, m < 30 → y.1 7 m = lx_D w s k m := hd
    subst ex
    subst e3
    have y1 : y.1 1 = w := (hy 1 (by decide)).trans z1
    show yp (BX9_goDrawn_12 y _ x5 (nI k)) _
    unfold BX9_goDrawn_12 BX9_goDrawn_78 fX9_minutes
    refine yp_bd (fun t => t = nI (sp_n w 0)) (yp_gd (fun _ => yp_some ((congrFun y1 0).trans (yl_0 hW).1))) (fun t ht => ?_)
    rw [ht, if_neg (nI_ge hk (by omega)), show sn_I y 1 (4 : Int32).toNatClampNeg = w 4 from congrFun y1 4, nI_clamp (show k < 2 ^ 31 by omega)]
    refine yp_lt (yp_gd (fun _ => yp_ite (fun c => yp_gd (fun _ => yp_gd (fun _ => yp_lt (yp_lt (yp_lt (yp_some ⟨nI_1 k, rfl, fun a ha => (pI_ne ha).trans (hy a ha), fun m hm => ?_⟩)))))) (fun c => yp_lt (yp_some ⟨nI_1 k, rfl, hy, fun m hm => ?_⟩))))
    · have c : lx_p (w 4) s k = true := decide_eq_true c
      by_cases e : m = k
      · subst e
        refine pI_self.trans ?_
        rw [show sn_I y 7 m = _ from hd m hm, lx_D0 (by omega)]
        exact (if_pos ⟨by omega, c⟩).symm
      · rw [lx_Dn e]
        exact (pI_slot e).trans (hd m hm)
    · have c : ¬ lx_p (w 4) s k = true := fun h => absurd (of_decide_eq_true h) c
      by_cases e : m = k
      · subst e
        refine (hd m hm).trans ?_
        rw [lx_D0 (by omega)]
        exact (if_neg (fun g => c g.2)).symm
      · rw [lx_Dn e]
        exact hd m hm
  · obtain ⟨y, x3, x5, x6⟩ := t
    obtain ⟨ex, e3, hy, hd⟩ := ht
    have ex : x6 = nI (sp_n w 0) := ex
    have hy : ∀ a, a ≠ 7 → y.1 a = z0.1 a := hy
    subst ex
    have y1 : y.1 1 = w := (hy 1 (by decide)).trans z1
    show yp (BX9_goDrawn_12 y x3 x5 (nI (sp_n w 0))) _
    unfold BX9_goDrawn_12 fX9_minutes
    refine yp_bd (fun t => t = nI (sp_n w 0)) (yp_gd (fun _ => yp_some ((congrFun y1 0).trans (yl_0 hW).1))) (fun t ht => ?_)
    rw [ht, if_pos (nI_le (Nat.le_refl _) (by omega))]
    exact yp_some ⟨hy, hd⟩
  · obtain ⟨hy, hd⟩ := hr
    have r1 : r.1.1 1 = w := (hy 1 (by decide)).trans z1
    have hT : ym_T r.1 (lx_j w s) := by
      refine ⟨(congrFun (hy 1 (by decide)) 5).trans t1, (congrFun (hy 1 (by decide)) 7).trans t2, (congrFun (hy 0 (by decide)) 19).trans t3, hd, fun p hp => ?_, fun k hk => ?_⟩
      · rw [hy 1 (by decide), hy 8 (by decide), hy 9 (by decide)]
        exact t5 p hp
      · rw [hy 1 (by decide)]
        exact t6 k hk
    unfold BX9_goDrawn_84
    refine yp_bd _ (ym_goAll c0 ((congrFun (hy 0 (by decide)) 22).trans h22) hT (hs_ok hW)) (fun v hv => yp_some ?_)
    obtain ⟨⟨f1, f2⟩, hL⟩ := hv
    have e0 : v.1 0 = z0.1 0 := (f1 0 (by omega)).trans (hy 0 (by decide))
    refine ⟨(f1 1 (by omega)).trans r1, fun p hp => ⟨?_, (congrFun ((f1 8 (by omega)).trans (hy 8 (by decide))) p).trans (h89 p (by omega)).1⟩, (congrFun e0 18).trans h18, (congrFun e0 20).trans h20, (congrFun e0 22).trans h22⟩
    have g := (hL.2 p (by omega)).1
    rw [if_pos (show p < dy_P (lx_j w s) from hp)] at g
    exact g
end
