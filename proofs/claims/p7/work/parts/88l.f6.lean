/-! how little dust would have to be told -/
theorem yz_sumP {M : Nat} {i j : dy_I} (h : dy_EP M i j) : ∀ n, n ≤ dy_P i → yz_sum i M n = yz_sum j M n := by
  intro n
  induction n with
  | zero => intro _; rfl
  | succ n ih =>
    intro hn
    show yz_sum i M n + yb_pop (dy_sn i M n) 30 = yz_sum j M n + yb_pop (dy_sn j M n) 30
    rw [ih (by omega), dy_snP h (Nat.le_refl _) (by omega)]
theorem yz_sumle (i : dy_I) (M : Nat) : ∀ n, yz_sum i M n ≤ 30 * n := by
  intro n
  induction n with
  | zero => exact Nat.le_refl _
  | succ n ih =>
    have h := yb_pople (dy_sn i M n) 30
    show yz_sum i M n + yb_pop (dy_sn i M n) 30 ≤ 30 * (n + 1)
    omega
section
variable {σ τ u z : sn_S} {w : Nat → Int32}
def yv_D (w : Nat → Int32) (n m : Nat) : Int32 := if m < sp_n w 0 then hs_dust w m (sp_n w 6) - w 1 + nI n else hs_dust w m (sp_n w 6)
def yv_j (w : Nat → Int32) (n : Nat) : dy_I := dy_dustSet (hs_day w) (yv_D w n)
def yv_g (w : Nat → Int32) (n : Nat) : Bool := decide (yz_sum (yv_j w n) (sp_n w 0) (sp_n w 5) = 0)
theorem yv_EP {w' : Nat → Int32} {n : Nat} (e : ∀ k, k ≠ 1 → w' k = w k) (ex : w' 1 = nI n) : dy_EP (sp_n w 0) (hs_day w') (yv_j w n) := by
  have s : ∀ k, k ≠ 1 → sp_n w' k = sp_n w k := fun k h1 => sp_mv (e k h1)
  have s5 := s 5 (by omega)
  have s6 := s 6 (by omega)
  have s7 := s 7 (by omega)
  have s9 := s 9 (by omega)
  refine ⟨s5, s7, show (-1 : Int32) = -1 from rfl, fun x hx => ⟨e (11 + 2 * x) (by omega), e (12 + 2 * x) (by omega)⟩, fun m hm => ⟨?_, fun x _ => ⟨?_, ?_⟩⟩, fun k _ => ⟨s (33 + 2 * k) (by omega), s (34 + 2 * k) (by omega)⟩⟩
  · show hs_dust w' m (sp_n w' 6) = (if m < sp_n w 0 then hs_dust w m (sp_n w 6) - w 1 + nI n else hs_dust w m (sp_n w 6))
    rw [if_pos hm, s6, hs_dustE (fun k hk => e k (by omega)), ex]
  · show sp_bit (hs_acts w' 0 x (sp_n w' 9)) m = sp_bit (hs_acts w 0 x (sp_n w 9)) m
    rw [s9, hs_actsE (fun k hk => e k (by omega))]
  · show sp_bit (hs_acts w' 1 x (sp_n w' 9)) m = sp_bit (hs_acts w 1 x (sp_n w 9)) m
    rw [s9, hs_actsE (fun k hk => e k (by omega))]
theorem yc_dusts {n : Nat} {z : sn_S} (hW : jW w) (hH : yH 1 σ w) (hD : yD σ w) (hr : ∀ a, a < 38 → z.1 a = σ.1 a) : yp (sn_it (LX8_clean_30 (nI n)) 5000 (z, (0 : Int32))) (fun y => (∀ a, a ≠ 39 → y.1 a = z.1 a) ∧ ∀ m, y.1 39 m = if m < sp_n w 0 then yv_D w n m else z.1 39 m) := by
  have c0 := (yl_0 hW).2
  refine yp_for (sp_n w 0) (fun k s => s.2 = nI k ∧ (∀ a, a ≠ 39 → s.1.1 a = z.1 a) ∧ ∀ m, s.1.1 39 m = if m < k then yv_D w n m else z.1 39 m) (fun k s hk hs => ?_) (fun s hs => ?_) ⟨nI_0.symm, fun _ _ => rfl, fun m => by rw [if_neg (by omega)]⟩
  · obtain ⟨y, x2⟩ := s
    obtain ⟨ex, hy, hd⟩ := hs
    have ex : x2 = nI k := ex
    have hy : ∀ a, a ≠ 39 → y.1 a = z.1 a := hy
    have hd : ∀ m, y.1 39 m = if m < k then yv_D w n m else z.1 39 m := hd
    subst ex
    have yr : ∀ a, a < 38 → y.1 a = σ.1 a := fun a ha => (hy a (by omega)).trans (hr a ha)
    show yp (BX8_clean_30 y (nI n) (nI k)) _
    unfold BX8_clean_30
    rw [show sn_I y 27 0 = nI (sp_n w 0) from (congrFun (yr 27 (by omega)) 0).trans hD.1, if_neg (nI_ge hk (by omega)), nI_clamp (show k < 2 ^ 31 by omega), show sn_I y (27 + 1) k = hs_dust w k (sp_n w 6) from (congrFun (yr (27 + 1) (by omega)) k).trans (hD.2.1.2.2.2.1 k (by omega)), show sn_I y (1 + 1) (1 : Int32).toNatClampNeg = w 1 from (congrFun (yr (1 + 1) (by omega)) 1).trans (hH.1 1 (by decide))]
    refine yp_gd (fun _ => yp_gd (fun _ => yp_gd (fun _ => yp_lt (yp_lt (yp_some ⟨nI_1 k, fun a ha => (pI_ne ha).trans (hy a ha), fun m => ?_⟩)))))
    show (sn_pI y 39 k (hs_dust w k (sp_n w 6) - w 1 + nI n)).1 39 m = _
    by_cases e : m = k
    · subst e
      rw [pI_self, if_pos (by omega)]
      unfold yv_D
      rw [if_pos hk]
    · rw [pI_slot e, hd m]
      by_cases c : m < k
      · rw [if_pos c, if_pos (by omega)]
      · rw [if_neg c, if_neg (by omega)]
  · obtain ⟨y, x2⟩ := s
    obtain ⟨ex, hy, hd⟩ := hs
    have ex : x2 = nI (sp_n w 0) := ex
    have hy : ∀ a, a ≠ 39 → y.1 a = z.1 a := hy
    subst ex
    show yp (BX8_clean_30 y (nI n) (nI (sp_n w 0))) _
    unfold BX8_clean_30
    rw [show sn_I y 27 0 = nI (sp_n w 0) from (congrFun ((hy 27 (by omega)).trans (hr 27 (by omega))) 0).trans hD.1, if_pos (nI_le (Nat.le_refl _) (by omega))]
    exact yp_some ⟨hy, hd⟩
theorem yc_clean (hW : jW w) (hH : yH 1 σ w) (hD : yD σ w) : yp ((fX0_copyFrom σ 38 27).bind fun t_4 => ((sn_it (LX8_clean_24) 5000 (t_4, (9 : Int32))).bind fun t_6 => Sum.elim (fun v_8 => (BX8_clean_102 v_8)) (fun r_9 => (some r_9)) t_6)) (fun r => r.1 = yz_dn (yv_g w) 10) := by
  have c0 := (yl_0 hW).2
  have c5 := (yl_5 hW).2
  have k1 : ∀ n, yz_dn (yv_g w) (n + 1) = if yv_g w n = true then nI n else yz_dn (yv_g w) n := fun n => rfl
  refine yp_bd _ (yc_trial hW hD (by decide)) (fun z0 hz0 => ?_)
  obtain ⟨hr0, h00, ⟨t1, t2, t3, t4, t5, t6⟩, -⟩ := hz0
  refine yp_bd (fun t => (∃ z, t = Sum.inl z ∧ yz_dn (yv_g w) 10 = -1) ∨ ∃ r, t = Sum.inr r ∧ r.1 = yz_dn (yv_g w) 10) (yp_it (fun s : sn_S × Int32 => (∀ a, a < 38 → s.1.1 a = σ.1 a) ∧ s.1.1 38 0 = nI (sp_n w 0) ∧ (∃ f, (∀ m, sp_n w 0 ≤ m → f m = hs_dust w m (sp_n w 6)) ∧ yd_T 38 s.1 (dy_dustSet (hs_day w) f)) ∧ ((∃ n, n < 10 ∧ s.2 = nI n ∧ yz_dn (yv_g w) 10 = yz_dn (yv_g w) (n + 1)) ∨ (s.2 = -1 ∧ yz_dn (yv_g w) 10 = -1))) (fun s hs => ?_) _ _ ⟨fun a ha => hr0 a (by omega), h00, ⟨fun m => hs_dust w m (sp_n w 6), fun _ _ => rfl, t1, t2, t3, t4, t5, t6⟩, Or.inl ⟨9, by decide, rfl, rfl⟩⟩) (fun t ht => ?_)
  · obtain ⟨z, x2⟩ := s
    obtain ⟨hr, h0, ⟨f, hf, t1, t2, t3, t4, t5, t6⟩, h⟩ := hs
    have hr : ∀ a, a < 38 → z.1 a = σ.1 a := hr
    have h0 : z.1 38 0 = nI (sp_n w 0) := h0
    show yp (BX8_clean_24 z x2) _
    unfold BX8_clean_24
    rcases h with ⟨n, hn, e2, ed⟩ | ⟨e2, ed⟩
    · have e2 : x2 = nI n := e2
      subst e2
      rw [if_neg (nI_pos (show n < 2 ^ 31 by omega))]
      refine yp_bd _ (yc_dusts hW hH hD hr) (fun y hy => ?_)
      obtain ⟨yr0, yd⟩ := hy
      have hT2 : yd_T 38 y (yv_j w n) := by
        refine ⟨(congrFun (yr0 38 (by decide)) 1).trans t1, (congrFun (yr0 38 (by decide)) 2).trans t2, (congrFun (yr0 38 (by decide)) 3).trans t3, fun k hk => ?_, fun x hx => ?_, fun k hk => ?_⟩
        · show y.1 39 k = yv_D w n k
          rw [yd k]
          by_cases c : k < sp_n w 0
          · rw [if_pos c]
          · rw [if_neg c]
            unfold yv_D
            rw [if_neg c]
            exact (t4 k hk).trans (hf k (by omega))
        · rw [yr0 (38 + 2) (by decide), yr0 (38 + 3) (by decide), yr0 (38 + 4) (by decide), yr0 (38 + 5) (by decide)]
          exact t5 x hx
        · rw [yr0 (38 + 6) (by decide)]
          exact t6 k hk
      unfold BX8_clean_77
      refine yp_bd _ (yc_whole ((congrFun (yr0 38 (by decide)) 0).trans h0) c0 hT2 (hs_ok hW)) (fun v hv => ?_)
      obtain ⟨⟨f1, f2⟩, hL⟩ := hv
      have b := yz_sumle (yv_j w n) (sp_n w 0) (sp_n w 5)
      refine yp_bd _ (yc_total (i := yv_j w n) ((congrFun (f1 38 (by omega)) 1).trans hT2.1) c5 c0 hL.2) (fun t3 ht3 => ?_)
      have ht3 : t3 = nI (yz_sum (yv_j w n) (sp_n w 0) (sp_n w 5)) := ht3
      rw [ht3]
      refine yp_ite (fun c => yp_some (Or.inr ⟨_, rfl, ?_⟩)) (fun c => yp_lt (yp_some ⟨fun a ha => (f1 a (by omega)).trans ((yr0 a (by omega)).trans (hr a ha)), (congrFun (f1 38 (by omega)) 0).trans ((congrFun (yr0 38 (by decide)) 0).trans h0), ⟨yv_D w n, fun m hm => by unfold yv_D; rw [if_neg (by omega)], yd_Tc (fun a a1 a2 => f1 a (by omega)) hT2⟩, ?_⟩))
      · have e : yv_g w n = true := decide_eq_true ((yi_0 (by omega)).mp c)
        rw [k1 n, e, if_pos rfl] at ed
        exact ed.symm
      · have e : yv_g w n = false := decide_eq_false (fun h => c ((yi_0 (by omega)).mpr h))
        rw [k1 n, e, if_neg (by decide)] at ed
        match n, hn, ed with
        | 0, _, ed => exact Or.inr ⟨by show nI 0 + (-1 : Int32) = -1; decide, ed⟩
        | m + 1, hm, ed => exact Or.inl ⟨m, by omega, yi_m1 m (by omega), ed⟩
    · have e2 : x2 = -1 := e2
      subst e2
      rw [if_pos (by decide)]
      exact yp_some (Or.inl ⟨z, rfl, ed⟩)
  · rcases ht with ⟨z, e, h⟩ | ⟨r, e, h⟩
    · subst e
      show yp (BX8_clean_102 z) _
      unfold BX8_clean_102
      exact yp_some h.symm
    · subst e
      exact yp_some h
theorem ym_isHv (hW : jW w) (hu : u.1 1 = w) : yp (fX9_isHouse u) (fun v => v = if 0 < sp_n w 10 then 1 else 0) := by
  obtain ⟨b, c⟩ : yh_n w 10 900 := hW.1.2.2.2.2.2.2.2.2.2.2
  have e : sn_I u 1 (10 : Int32).toNatClampNeg = nI (sp_n w 10) := (congrFun hu 10).trans b
  unfold fX9_isHouse
  rw [e]
  refine yp_gd (fun _ => yp_ite (fun h => yp_gd (fun _ => yp_some ?_)) (fun h => yp_gd (fun _ => yp_some ?_)))
  · rw [if_neg]
    intro g
    exact absurd h (nI_nle g (by omega))
  · rw [if_pos]
    by_cases g : 0 < sp_n w 10
    · exact g
    · have : sp_n w 10 = 0 := by omega
      rw [this] at h
      exact absurd (show nI 0 ≤ 0 by decide) h
theorem yz_28 (hK : zK σ τ) : yr (fX8_clean σ) (fX9_clean τ) (fun r s => r.1 = s.1) := by
  have hW := hK.2.1.1
  have c5 := (yl_5 hW).2
  have c0 := (yl_0 hW).2
  unfold fX8_clean fX9_clean
  rw [yk_hv hK]
  by_cases c : 0 < sp_n (τ.1 1) 10
  · refine yr_eq2 (yz_dn (yv_g (τ.1 1)) 10) ?_ (yp_bd _ (ym_isHv hW rfl) (fun t ht => ?_))
    · rw [if_pos c]
      refine yp_bs rfl ?_
      rw [if_neg (by decide)]
      exact yc_clean hW hK.2.1.2 hK.2.2.2
    · rw [ht, if_pos c, if_neg (by decide)]
      refine yp_bd _ (ym_quietD (x := 1) (w := τ.1 1) (g := yv_g (τ.1 1)) (by omega) (fun _ => rfl) (fun y n hn hy ey => ?_)) (fun r hr => yp_some hr)
      have hW2 : jW (y.1 1) := jW_set hW hy ey (Or.inl ⟨rfl, by omega⟩)
      have s5 : sp_n (y.1 1) 5 = sp_n (τ.1 1) 5 := sp_mv (hy 5 (by omega))
      have s0 : sp_n (y.1 1) 0 = sp_n (τ.1 1) 0 := sp_mv (hy 0 (by omega))
      refine yp_w (ym_asks rfl hW2) (fun t ht => ⟨fun k hk => (congrFun ht.2.1 k).trans (hy k hk), fun _ => ?_, fun c => absurd rfl c⟩)
      have b := yz_sumle (hs_day (y.1 1)) (sp_n (y.1 1) 0) (sp_n (y.1 1) 5)
      refine yp_w (ym_total (i := hs_day (y.1 1)) ((congrFun ht.2.1 5).trans (yl_5 hW2).1) (yl_5 hW2).2 (fun p hp => yz_msn hW2 ht.2 hp)) (fun v hv => ?_)
      have hv : v = nI (yz_sum (hs_day (y.1 1)) (sp_n (y.1 1) 0) (sp_n (y.1 1) 5)) := hv
      have eq : yz_sum (hs_day (y.1 1)) (sp_n (y.1 1) 0) (sp_n (y.1 1) 5) = yz_sum (yv_j (τ.1 1) n) (sp_n (τ.1 1) 0) (sp_n (τ.1 1) 5) := by
        rw [s0, ← s5]
        exact yz_sumP (yv_EP hy ey) _ (Nat.le_refl _)
      rw [hv, yi_0 (by omega), eq]
      unfold yv_g
      rw [decide_eq_true_eq]
  · refine yr_eq2 (-2 : Int32) ?_ (yp_bd _ (ym_isHv hW rfl) (fun t ht => ?_))
    · rw [if_neg c]
      refine yp_bs rfl ?_
      rw [if_pos rfl]
      exact yp_some rfl
    · rw [ht, if_neg c, if_pos rfl]
      exact yp_some rfl
end
