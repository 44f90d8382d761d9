/-! days alike in their first n minutes -/
def dy_EP (n : Nat) (i j : dy_I) : Prop := dy_P i = dy_P j ∧ dy_nN i = dy_nN j ∧ dy_no i = dy_no j ∧ (∀ p, p < dy_P i → dy_keen i p = dy_keen j p ∧ dy_lim i p = dy_lim j p) ∧ (∀ m, m < n → dy_dust i m = dy_dust j m ∧ ∀ p, p < dy_P i → sp_bit (dy_held i p) m = sp_bit (dy_held j p) m ∧ sp_bit (dy_snuf i p) m = sp_bit (dy_snuf j p) m) ∧ ∀ k, k < dy_nN i → dy_na i k = dy_na j k ∧ dy_nb i k = dy_nb j k
section
variable {n : Nat} {i j : dy_I}
theorem dy_EPs (h : dy_EP n i j) : dy_EP n j i := by
  obtain ⟨h1, h2, h3, h4, h5, h6⟩ := h
  refine ⟨h1.symm, h2.symm, h3.symm, fun p hp => ?_, fun m hm => ⟨(h5 m hm).1.symm, fun p hp => ?_⟩, fun k hk => ?_⟩
  · have g := h4 p (by rw [h1]; exact hp)
    exact ⟨g.1.symm, g.2.symm⟩
  · have g := (h5 m hm).2 p (by rw [h1]; exact hp)
    exact ⟨g.1.symm, g.2.symm⟩
  · have g := h6 k (by rw [h2]; exact hk)
    exact ⟨g.1.symm, g.2.symm⟩
theorem dy_byP (h : dy_EP n i j) (s : Int32) (p : Nat) : dy_by i s p = dy_by j s p := by
  unfold dy_by
  rw [← h.2.1, ← h.2.2.1, dy_cntE _ h.2.2.2.2.2]
theorem dy_moreP (h : dy_EP n i j) (s : Int32) {m p : Nat} (hm : m < n) (hp : p < dy_P i) : dy_more i s m p = dy_more j s m p := by
  unfold dy_more
  rw [dy_byP h, (h.2.2.2.1 p hp).1, (h.2.2.2.2.1 m hm).1, ((h.2.2.2.2.1 m hm).2 p hp).2]
theorem dy_doesP (h : dy_EP n i j) (t s : Int32) {m p : Nat} (hm : m < n) (hp : p < dy_P i) : dy_does i t s m p = dy_does j t s m p := by
  unfold dy_does
  rw [dy_moreP h s hm hp, (h.2.2.2.1 p hp).2, ((h.2.2.2.2.1 m hm).2 p hp).1]
theorem dy_stP (h : dy_EP n i j) : ∀ m, m ≤ n → (∀ p, p < dy_P i → (dy_st i m).1 p = (dy_st j m).1 p) ∧ (dy_st i m).2 = (dy_st j m).2 := by
  intro m
  induction m with
  | zero => intro _; exact ⟨fun _ _ => rfl, rfl⟩
  | succ m ih =>
    intro hm
    have ih := ih (by omega)
    refine ⟨fun p hp => ?_, ?_⟩
    · show (if dy_does i ((dy_st i m).1 p) (dy_st i m).2 m p = true then 0 else (dy_st i m).1 p + dy_more i (dy_st i m).2 m p) = (if dy_does j ((dy_st j m).1 p) (dy_st j m).2 m p = true then 0 else (dy_st j m).1 p + dy_more j (dy_st j m).2 m p)
      rw [ih.1 p hp, ih.2, dy_doesP h _ _ (by omega) hp, dy_moreP h _ (by omega) hp]
    · show dy_set (fun p => dy_does i ((dy_st i m).1 p) (dy_st i m).2 m p) (dy_P i) = dy_set (fun p => dy_does j ((dy_st j m).1 p) (dy_st j m).2 m p) (dy_P j)
      rw [← h.1]
      exact dy_setE _ (fun p hp => by rw [ih.1 p hp, ih.2, dy_doesP h _ _ (by omega) hp])
theorem dy_snP (h : dy_EP n i j) {m p : Nat} (hm : m ≤ n) (hp : p < dy_P i) : dy_sn i m p = dy_sn j m p := dy_setE _ (fun k hk => by rw [(dy_stP h k (by omega)).1 p hp, (dy_stP h k (by omega)).2, dy_doesP h _ _ (by omega) hp])
theorem yd_L0P {q e : Nat} {σ : sn_S} (h : dy_EP n i j) (he : e ≤ n) (hL : yd_L0 q σ i e) : yd_L0 q σ j e := fun m hm => by
  have g := hL m hm
  have s := dy_stP h (m + 1) (by omega)
  have s0 := dy_stP h m (by omega)
  refine ⟨g.1.trans s.2, fun p hp => ?_⟩
  rw [← h.1] at hp
  have g2 := g.2 p hp
  refine ⟨g2.1.trans (s.1 p hp), g2.2.trans ?_⟩
  show dy_by i (dy_st i m).2 p = dy_by j (dy_st j m).2 p
  rw [s0.2, dy_byP h]
theorem dy_snlow {M m p : Nat} (hm : m ≤ M) (hM : M ≤ 30) : dy_sn i M p &&& (((1 : Int32) <<< (nI m &&& 31)) - 1) = dy_sn i m p := yb_ext (fun k hk => by
  rw [yb_and _ _ hk, yb_low m (by omega) k hk]
  unfold dy_sn
  rw [yb_set M (by omega) k hk, yb_set m (by omega) k hk]
  by_cases c : k < m
  · rw [decide_eq_true c, decide_eq_true (show k < M by omega), Bool.and_true, Bool.true_and]
  · rw [decide_eq_false c, Bool.and_false, Bool.false_and])
end
/-! snuff by which a claim grows -/
section
variable {σ τ u z : sn_S} {w : Nat → Int32} {q : Nat} {l : Int32}
def yf_who (w : Nat → Int32) (q : Nat) : Nat := sp_n w (49 + 5 * q)
def yf_j (w : Nat → Int32) (q m : Nat) : dy_I := dy_snufSet (hs_day w) (yf_who w q) (hs_acts w 1 (yf_who w q) (sp_n w 9) ||| ((1 : Int32) <<< (nI m &&& 31)))
def yf_g (w : Nat → Int32) (q m : Nat) : Bool := !decide (nI (yl_v w (w 2) q (dy_sn (yf_j w q m) (sp_n w 0) (yf_who w q)) (yHh w (yf_who w q))) ≤ nI (yl_o w (w 2) q))
theorem yf_EP {m : Nat} (hm : m < 32) : dy_EP m (hs_day w) (yf_j w q m) := by
  refine ⟨rfl, rfl, rfl, fun p _ => ⟨rfl, rfl⟩, fun k hk => ⟨rfl, fun p _ => ⟨rfl, ?_⟩⟩, fun k _ => ⟨rfl, rfl⟩⟩
  show sp_bit (hs_acts w 1 p (sp_n w 9)) k = sp_bit (if p = yf_who w q then hs_acts w 1 (yf_who w q) (sp_n w 9) ||| ((1 : Int32) <<< (nI m &&& 31)) else hs_acts w 1 p (sp_n w 9)) k
  by_cases e : p = yf_who w q
  · rw [if_pos e, yb_or1 _ hm (by omega), decide_eq_false (by omega), Bool.or_false, e]
  · rw [if_neg e]
def yf_I (w : Nat → Int32) (q : Nat) (σ : sn_S) (m : Nat) (z : sn_S) : Prop := (∀ a, (a < 38 ∨ 48 < a) → z.1 a = σ.1 a) ∧ z.1 38 0 = nI (sp_n w 0) ∧ yd_T 38 z (hs_day w) ∧ yd_L0 38 z (hs_day w) m ∧ ∀ p, p < sp_n w 5 → z.1 48 p &&& (((1 : Int32) <<< (nI m &&& 31)) - 1) = dy_sn (hs_day w) m p
theorem yc_fback {m : Nat} {x1 x3 x4 : Int32} (hW : jW w) (hD : yD σ w) (hq : q < sp_n w 8) (hm : m < sp_n w 0) (hr : ∀ a, (a < 38 ∨ 48 < a) → z.1 a = σ.1 a) (h0 : z.1 38 0 = nI (sp_n w 0)) (hT : yd_T 38 z (yf_j w q m)) (hL : yd_L 38 z (yf_j w q m) (sp_n w 0)) (h4 : x4 = dy_set (yf_g w q) (m + 1)) : yp (BX8_minutesOfFraud_133 z x1 (nI (yf_who w q)) x3 x4 (nI m)) (yp_sum (fun s : sn_S × Int32 × Int32 => s.2.2 = nI (m + 1) ∧ s.2.1 = dy_set (yf_g w q) (m + 1) ∧ yf_I w q σ (m + 1) s.1) (fun _ => False)) := by
  have c0 := (yl_0 hW).2
  have c5 := (yl_5 hW).2
  have hw : yf_who w q < sp_n w 5 := (yl_p hW hq).1.2
  have s0 : z.1 (27 + 5) (yf_who w q) = hs_acts w 1 (yf_who w q) (sp_n w 9) := (congrFun (hr (27 + 5) (by omega)) _).trans (hD.2.1.2.2.2.2.1 (yf_who w q) hw).2.2.2
  unfold BX8_minutesOfFraud_133
  rw [nI_clamp (show yf_who w q < 2 ^ 31 by omega), show sn_I z (27 + 5) (yf_who w q) = _ from s0]
  refine yp_gd (fun _ => yp_gd (fun _ => yp_le (fun y ey => ?_)))
  have yr0 : ∀ a, a ≠ 43 → y.1 a = z.1 a := fun a ha => by rw [ey]; exact pI_ne ha
  obtain ⟨t1, t2, t3, t4, t5, t6⟩ := hT
  have hT2 : yd_T 38 y (hs_day w) := by
    refine ⟨(congrFun (yr0 38 (by decide)) 1).trans t1, (congrFun (yr0 38 (by decide)) 2).trans t2, (congrFun (yr0 38 (by decide)) 3).trans t3, fun k hk => (congrFun (yr0 39 (by decide)) k).trans (t4 k hk), fun p hp => ?_, fun k hk => ?_⟩
    · have g := t5 p hp
      refine ⟨(congrFun (yr0 40 (by decide)) p).trans g.1, (congrFun (yr0 41 (by decide)) p).trans g.2.1, (congrFun (yr0 42 (by decide)) p).trans g.2.2.1, ?_⟩
      show y.1 43 p = hs_acts w 1 p (sp_n w 9)
      by_cases e : p = yf_who w q
      · rw [e, ey]; exact pI_self
      · have g4 : z.1 43 p = (if p = yf_who w q then hs_acts w 1 (yf_who w q) (sp_n w 9) ||| ((1 : Int32) <<< (nI m &&& 31)) else hs_acts w 1 p (sp_n w 9)) := g.2.2.2
        rw [if_neg e] at g4
        rw [ey]
        exact (pI_slot e).trans g4
    · rw [yr0 44 (by decide)]
      exact t6 k hk
  have EP := yf_EP (w := w) (q := q) (m := m) (by omega)
  have hL0 : yd_L0 38 y (hs_day w) m := fun k hk => by
    have g := yd_L0P (dy_EPs EP) (Nat.le_refl _) (fun k hk => hL.1 k (by omega) : yd_L0 38 z (yf_j w q m) m) k hk
    rw [yr0 (38 + 9) (by decide), yr0 (38 + 7) (by decide), yr0 (38 + 8) (by decide)]
    exact g
  rw [show nI m + (1 : Int32) = nI (m + 1) from nI_1 m]
  refine yp_bd _ (yc_live (f := m) (t := m + 1) ((congrFun (yr0 38 (by decide)) 0).trans h0) c0 hT2 (hs_ok hW) (by omega) (by omega) hL0 (fun p hp => ?_)) (fun v hv => yp_lt (yp_some ⟨rfl, h4, ?_⟩))
  · rw [yr0 (38 + 10) (by decide), hL.2 p hp, dy_snlow (by omega) c0]
    exact (dy_snP EP (Nat.le_refl _) hp).symm
  · obtain ⟨⟨f1, f2⟩, l1, l2⟩ := hv
    refine ⟨fun a ha => (f1 a (by omega)).trans ((yr0 a (by omega)).trans (hr a ha)), (congrFun (f1 38 (by omega)) 0).trans ((congrFun (yr0 38 (by decide)) 0).trans h0), yd_Tc (fun a a1 a2 => f1 a (by omega)) hT2, l1, fun p hp => ?_⟩
    rw [show v.1 48 p = _ from l2 p hp, dy_snlow (Nat.le_refl _) (by omega)]
theorem yc_fraud (hW : jW w) (hH : yH 1 σ w) (hD : yD σ w) (hq : q < sp_n w 8) : yp (fX8_minutesOfFraud σ (nI q)) (fun r => r.1 = dy_set (yf_g w q) (sp_n w 0)) := by
  have c0 := (yl_0 hW).2
  have c5 := (yl_5 hW).2
  obtain ⟨⟨q1, q2⟩, -⟩ := yl_p hW hq
  have hw : yf_who w q < sp_n w 5 := q2
  unfold fX8_minutesOfFraud
  refine yp_bd _ (yc_of hW hH hq 0 (by decide) nI_0.symm) (fun t1 ht1 => ?_)
  rw [ht1, show w (49 + 0 + 5 * q) = nI (yf_who w q) from q1]
  refine yp_bd _ (yc_asIf hW hH hD hq hw) (fun t3 ht3 => yp_bd _ (yc_trial hW hD (by decide)) (fun z0 hz0 => ?_))
  have ht3 : t3 = nI (yl_o w (w 2) q) := ht3
  rw [ht3]
  refine yp_bd (fun r => r.2 = dy_set (yf_g w q) (sp_n w 0)) (yp_for (sp_n w 0) (fun m s => s.2.2 = nI m ∧ s.2.1 = dy_set (yf_g w q) m ∧ yf_I w q σ m s.1) (fun m s hm hs => ?_) (fun s hs => ?_) ⟨nI_0.symm, rfl, hz0.1, hz0.2.1, hz0.2.2.1, fun k hk => absurd hk (by omega), fun p _ => ?_⟩) (fun r hr => ?_)
  · obtain ⟨z, x4, x5⟩ := s
    obtain ⟨ex, e4, hr, h0, ⟨t1, t2, t3, t4, t5, t6⟩, hL0, hS⟩ := hs
    have ex : x5 = nI m := ex
    have e4 : x4 = _ := e4
    subst ex
    subst e4
    have hr : ∀ a, (a < 38 ∨ 48 < a) → z.1 a = σ.1 a := hr
    have h0 : z.1 38 0 = nI (sp_n w 0) := h0
    have s0 : z.1 (27 + 5) (yf_who w q) = hs_acts w 1 (yf_who w q) (sp_n w 9) := (congrFun (hr (27 + 5) (by omega)) _).trans (hD.2.1.2.2.2.2.1 (yf_who w q) hw).2.2.2
    show yp (BX8_minutesOfFraud_34 z (nI q) (nI (yf_who w q)) _ _ (nI m)) _
    unfold BX8_minutesOfFraud_34
    rw [show sn_I z 27 0 = nI (sp_n w 0) from (congrFun (hr 27 (by omega)) 0).trans hD.1, if_neg (nI_ge hm (by omega)), nI_clamp (show yf_who w q < 2 ^ 31 by omega), show sn_I z (27 + 5) (yf_who w q) = _ from s0]
    refine yp_gd (fun _ => yp_gd (fun _ => yp_le (fun y ey => ?_)))
    have yr0 : ∀ a, a ≠ 43 → y.1 a = z.1 a := fun a ha => by rw [ey]; exact pI_ne ha
    have hT2 : yd_T 38 y (yf_j w q m) := by
      refine ⟨(congrFun (yr0 38 (by decide)) 1).trans t1, (congrFun (yr0 38 (by decide)) 2).trans t2, (congrFun (yr0 38 (by decide)) 3).trans t3, fun k hk => (congrFun (yr0 39 (by decide)) k).trans (t4 k hk), fun p hp => ?_, fun k hk => ?_⟩
      · have g := t5 p hp
        refine ⟨(congrFun (yr0 40 (by decide)) p).trans g.1, (congrFun (yr0 41 (by decide)) p).trans g.2.1, (congrFun (yr0 42 (by decide)) p).trans g.2.2.1, ?_⟩
        show y.1 43 p = (if p = yf_who w q then hs_acts w 1 (yf_who w q) (sp_n w 9) ||| ((1 : Int32) <<< (nI m &&& 31)) else hs_acts w 1 p (sp_n w 9))
        by_cases e : p = yf_who w q
        · rw [if_pos e, e, ey]; exact pI_self
        · rw [if_neg e, ey]
          exact (pI_slot e).trans g.2.2.2
      · rw [yr0 44 (by decide)]
        exact t6 k hk
    have EP := yf_EP (w := w) (q := q) (m := m) (by omega)
    have hL : yd_L0 38 y (yf_j w q m) m := fun k hk => by
      have g := yd_L0P EP (Nat.le_refl _) hL0 k hk
      rw [yr0 (38 + 9) (by decide), yr0 (38 + 7) (by decide), yr0 (38 + 8) (by decide)]
      exact g
    rw [show sn_I y 27 0 = nI (sp_n w 0) from (congrFun (yr0 27 (by decide)) 0).trans ((congrFun (hr 27 (by omega)) 0).trans hD.1)]
    refine yp_bd _ (yc_live (f := m) (t := sp_n w 0) ((congrFun (yr0 38 (by decide)) 0).trans h0) c0 hT2 (hs_ok hW) (by omega) (by omega) hL (fun p hp => ?_)) (fun v hv => ?_)
    · rw [yr0 (38 + 10) (by decide), show z.1 (38 + 10) p &&& _ = _ from hS p hp]
      exact dy_snP EP (Nat.le_refl _) hp
    · obtain ⟨⟨f1, f2⟩, hLv⟩ := hv
      have vr : ∀ a, (a < 38 ∨ 48 < a) → v.1 a = σ.1 a := fun a ha => (f1 a (by omega)).trans ((yr0 a (by omega)).trans (hr a ha))
      have vH : yH 1 v w := yH_c (fun a a1 a2 => vr a (by omega)) hH
      rw [show sn_I v (1 + 1) (2 : Int32).toNatClampNeg = w 2 from vH.1 2 (by decide), show sn_I v (38 + 10) (yf_who w q) = _ from hLv.2 (yf_who w q) hw, show sn_I v (38 + 4) (yf_who w q) = yHh w (yf_who w q) from (congrFun (f1 (38 + 4) (by omega)) _).trans ((congrFun (yr0 42 (by decide)) _).trans (t5 (yf_who w q) hw).2.2.1)]
      refine yp_gd (fun _ => yp_gd (fun _ => yp_gd (fun _ => yp_bd _ (yc_claim hW vH hq (yz_sbits c0)) (fun t ht => ?_))))
      rw [ht]
      have v0 : v.1 38 0 = nI (sp_n w 0) := (congrFun (f1 38 (by omega)) 0).trans ((congrFun (yr0 38 (by decide)) 0).trans h0)
      have vT : yd_T 38 v (yf_j w q m) := yd_Tc (fun a a1 a2 => f1 a (by omega)) hT2
      refine yp_ite (fun c => ?_) (fun c => yp_lt ?_)
      · exact yc_fback hW hD hq hm vr v0 vT hLv (dy_s0 (by unfold yf_g; rw [decide_eq_true c]; rfl))
      · exact yc_fback hW hD hq hm vr v0 vT hLv (dy_s1 (by unfold yf_g; rw [decide_eq_false c]; rfl))
  · obtain ⟨z, x4, x5⟩ := s
    obtain ⟨ex, e4, hr, -⟩ := hs
    have ex : x5 = nI (sp_n w 0) := ex
    have hr : ∀ a, (a < 38 ∨ 48 < a) → z.1 a = σ.1 a := hr
    subst ex
    show yp (BX8_minutesOfFraud_34 z (nI q) (nI (yf_who w q)) _ x4 (nI (sp_n w 0))) _
    unfold BX8_minutesOfFraud_34
    rw [show sn_I z 27 0 = nI (sp_n w 0) from (congrFun (hr 27 (by omega)) 0).trans hD.1, if_pos (nI_le (Nat.le_refl _) (by omega))]
    exact yp_some e4
  · rw [yb_and0]
    rfl
  · unfold BX8_minutesOfFraud_170
    exact yp_some hr
/-! the reference's -/
theorem ym_claimS {S H : Nat → Int32} (hW : jW w) (hq : q < sp_n w 8) (hX : yX u w l S H) (hs : ∀ k, sp_n w 0 ≤ k → k < 32 → sp_bit (S (yf_who w q)) k = false) : yp (fX9_claimOf_ u (nI q)) (fun r => yl_fr u r.2 ∧ r.1 = nI (yl_v w l q (S (yf_who w q)) (H (yf_who w q)))) := by
  obtain ⟨⟨q1, q2⟩, -⟩ := yl_p hW hq
  unfold fX9_claimOf_
  refine yp_bd _ (ym_of hW hX.1 hq 0 (by decide) nI_0.symm) (fun t ht => ?_)
  rw [ht, show w (49 + 0 + 5 * q) = nI (yf_who w q) from q1]
  exact yp_bd _ (ym_claim hW hq q2 hX hs) (fun r hr => yp_some ⟨hr.1, hr.2.2.1⟩)
theorem ym_Tfr {i : dy_I} (h : yl_fr u z) (hT : ym_T u i) : ym_T z i := by
  unfold ym_T
  rw [h.1 1 (by decide) (by decide), h.2 19 (by decide), h.1 7 (by decide) (by decide), h.1 8 (by decide) (by decide), h.1 9 (by decide) (by decide)]
  exact hT
def yY (u : sn_S) (w : Nat → Int32) (l : Int32) : Prop := u.1 1 = w ∧ (∀ p, p < sp_n w 5 → u.1 8 p = yHh w p) ∧ u.1 0 18 = hs_gust w (sp_n w 6) ∧ u.1 0 20 = l ∧ u.1 0 22 = nI (sp_n w 0) - 1
theorem ym_fraud (hW : jW w) (hM : yM τ u w) (hq : q < sp_n w 8) : yp (fX9_fraudsOf u (nI q)) (fun r => r.1 = dy_set (yf_g w q) (sp_n w 0)) := by
  have c0 := (yl_0 hW).2
  have c5 := (yl_5 hW).2
  obtain ⟨⟨q1, q2⟩, -⟩ := yl_p hW hq
  have hw : yf_who w q < sp_n w 5 := q2
  have hX := ym_X hW hM
  unfold fX9_fraudsOf
  refine yp_bd _ (ym_of hW hM.1 hq 0 (by decide) nI_0.symm) (fun t1 ht1 => ?_)
  rw [ht1, show w (49 + 0 + 5 * q) = nI (yf_who w q) from q1, nI_clamp (show yf_who w q < 2 ^ 31 by omega)]
  refine yp_bd _ (ym_claim_ hW hq hX) (fun t3 ht3 => yp_gd (fun _ => yp_lt ?_))
  obtain ⟨f3, -, e3⟩ := ht3
  have hT0 : ym_T t3.2 (hs_day w) := ym_Tfr f3 hM.2.2.2.2.2.2.2.2.2.1
  have hX3 := yX_fr f3 hX
  rw [e3, show sn_I t3.2 9 (yf_who w q) = hs_acts w 1 (yf_who w q) (sp_n w 9) from (hT0.2.2.2.2.1 (yf_who w q) hw).2.2.2]
  refine yp_bd (fun r => r.2 = dy_set (yf_g w q) (sp_n w 0)) (yp_for (sp_n w 0) (fun m s => s.2.2 = nI m ∧ s.2.1 = dy_set (yf_g w q) m ∧ yY s.1 w (w 2) ∧ ∃ y, ym_T s.1 (dy_snufSet (hs_day w) (yf_who w q) y)) (fun m s hm hs => ?_) (fun s hs => ?_) ⟨nI_0.symm, rfl, ⟨hX3.1, fun p hp => (hX3.2.1 p hp).2, hX3.2.2⟩, hs_acts w 1 (yf_who w q) (sp_n w 9), ?_⟩) (fun r hr => ?_)
  · obtain ⟨z, x5, x6⟩ := s
    obtain ⟨ex, e5, ⟨y1, y8, y18, y20, y22⟩, yy, t1, t2, t3, t4, t5, t6⟩ := hs
    have ex : x6 = nI m := ex
    have e5 : x5 = _ := e5
    have y1 : z.1 1 = w := y1
    have y22 : z.1 0 22 = nI (sp_n w 0) - 1 := y22
    subst ex
    subst e5
    show yp (BX9_fraudsOf_27 z (nI q) (nI (yf_who w q)) _ _ _ (nI m)) _
    unfold BX9_fraudsOf_27 fX9_minutes
    refine yp_bd (fun t => t = nI (sp_n w 0)) (yp_gd (fun _ => yp_some ((congrFun y1 0).trans (yl_0 hW).1))) (fun t ht => ?_)
    rw [ht, if_neg (nI_ge hm (by omega)), nI_clamp (show yf_who w q < 2 ^ 31 by omega)]
    refine yp_gd (fun _ => yp_le (fun y ey => ?_))
    have yr0 : ∀ a, a ≠ 9 → y.1 a = z.1 a := fun a ha => by rw [ey]; exact pI_ne ha
    have hT2 : ym_T y (yf_j w q m) := by
      refine ⟨(congrFun (yr0 1 (by decide)) 5).trans t1, (congrFun (yr0 1 (by decide)) 7).trans t2, (congrFun (yr0 0 (by decide)) 19).trans t3, fun k hk => (congrFun (yr0 7 (by decide)) k).trans (t4 k hk), fun p hp => ?_, fun k hk => ?_⟩
      · have g := t5 p hp
        refine ⟨(congrFun (yr0 1 (by decide)) _).trans g.1, (congrFun (yr0 1 (by decide)) _).trans g.2.1, (congrFun (yr0 8 (by decide)) p).trans g.2.2.1, ?_⟩
        show y.1 9 p = (if p = yf_who w q then hs_acts w 1 (yf_who w q) (sp_n w 9) ||| ((1 : Int32) <<< (nI m &&& 31)) else hs_acts w 1 p (sp_n w 9))
        by_cases e : p = yf_who w q
        · rw [if_pos e, e, ey]; exact pI_self
        · have g4 : z.1 9 p = (if p = yf_who w q then yy else hs_acts w 1 p (sp_n w 9)) := g.2.2.2
          rw [if_neg e] at g4
          rw [if_neg e, ey]
          exact (pI_slot e).trans g4
      · rw [yr0 1 (by decide)]
        exact t6 k hk
    refine yp_bd _ (ym_goAll c0 ((congrFun (yr0 0 (by decide)) 22).trans y22) hT2 (hs_ok hW)) (fun v hv => ?_)
    obtain ⟨⟨f1, f2⟩, hLv⟩ := hv
    have hXv : yX v w (w 2) (fun p => dy_sn (yf_j w q m) (sp_n w 0) p) (yHh w) := by
      refine ⟨(f1 1 (by omega)).trans ((yr0 1 (by decide)).trans y1), fun p hp => ⟨?_, (congrFun (f1 8 (by omega)) p).trans ((congrFun (yr0 8 (by decide)) p).trans (y8 p hp))⟩, (congrFun (f1 0 (by omega)) 18).trans ((congrFun (yr0 0 (by decide)) 18).trans y18), (congrFun (f1 0 (by omega)) 20).trans ((congrFun (yr0 0 (by decide)) 20).trans y20), (congrFun (f1 0 (by omega)) 22).trans ((congrFun (yr0 0 (by decide)) 22).trans y22)⟩
      have g := (hLv.2 p (by omega)).1
      rw [if_pos (show p < dy_P (yf_j w q m) from hp)] at g
      exact g
    refine yp_bd _ (ym_claimS hW hq hXv (yz_sbits c0)) (fun r hr => ?_)
    have hXr := yX_fr hr.1 hXv
    have hTr : ym_T r.2 (yf_j w q m) := ym_Tfr hr.1 (ym_Tc (fun a ha => f1 a (Or.inl ha)) hT2)
    rw [hr.2]
    unfold BX9_fraudsOf_72
    refine yp_ite (fun c => yp_lt (yp_lt (yp_some ⟨nI_1 m, (yb_or0 _).trans (dy_s0 ?_), ⟨hXr.1, fun p hp => (hXr.2.1 p hp).2, hXr.2.2⟩, _, hTr⟩))) (fun c => yp_lt (yp_lt (yp_some ⟨nI_1 m, dy_s1 ?_, ⟨hXr.1, fun p hp => (hXr.2.1 p hp).2, hXr.2.2⟩, _, hTr⟩)))
    · unfold yf_g; rw [decide_eq_true c]; rfl
    · unfold yf_g; rw [decide_eq_false c]; rfl
  · obtain ⟨z, x5, x6⟩ := s
    obtain ⟨ex, e5, ⟨y1, -⟩, -⟩ := hs
    have ex : x6 = nI (sp_n w 0) := ex
    have y1 : z.1 1 = w := y1
    subst ex
    show yp (BX9_fraudsOf_27 z (nI q) (nI (yf_who w q)) _ _ x5 (nI (sp_n w 0))) _
    unfold BX9_fraudsOf_27 fX9_minutes
    refine yp_bd (fun t => t = nI (sp_n w 0)) (yp_gd (fun _ => yp_some ((congrFun y1 0).trans (yl_0 hW).1))) (fun t ht => ?_)
    rw [ht, if_pos (nI_le (Nat.le_refl _) (by omega))]
    exact yp_some e5
  · obtain ⟨t1, t2, t3, t4, t5, t6⟩ := hT0
    refine ⟨t1, t2, t3, t4, fun p hp => ?_, t6⟩
    have g := t5 p hp
    refine ⟨g.1, g.2.1, g.2.2.1, ?_⟩
    show _ = (if p = yf_who w q then hs_acts w 1 (yf_who w q) (sp_n w 9) else hs_acts w 1 p (sp_n w 9))
    by_cases e : p = yf_who w q
    · rw [if_pos e, ← e]; exact g.2.2.2
    · rw [if_neg e]; exact g.2.2.2
  · unfold BX9_fraudsOf_81
    exact yp_some hr
theorem yz_46 {a : Int32} (hK : zK σ τ) : yr (fX8_frauds σ a) (fX9_frauds τ a) (fun r s => r.1 = s.1) := by
  have hW := hK.2.1.1
  unfold fX8_frauds fX9_frauds
  refine yz_pol2 hK (fun q v u hq ea hM => ?_)
  subst ea
  exact yr_eq2 (dy_set (yf_g (τ.1 1) q) (sp_n (τ.1 1) 0)) (yp_bd _ (yc_fraud hW hK.2.1.2 hK.2.2.2 hq) (fun r hr => yp_some hr)) (yp_bd _ (ym_fraud hW hM hq) (fun r hr => yp_some hr))
theorem yz_45 {a : Int32} (hK : zK σ τ) : yr (fX8_snuff σ a) (fX9_snuff τ a) (fun r s => r.1 = s.1) := by
  have hW := hK.2.1.1
  have c0 := (yl_0 hW).2
  unfold fX8_snuff fX9_snuff
  refine yz_pol2 hK (fun q v u hq ea hM => ?_)
  subst ea
  refine yr_of (A := fun r => yb_F (dy_set (yf_g (τ.1 1) q) (sp_n (τ.1 1) 0)) 0 r.1) (B := fun r => yb_F (dy_set (yf_g (τ.1 1) q) (sp_n (τ.1 1) 0)) 0 r.1) ?_ ?_ (fun _ _ g h => yb_F1 g h)
  · refine yp_bd _ (yc_fraud hW hK.2.1.2 hK.2.2.2 hq) (fun r hr => ?_)
    rw [hr]
    refine yp_bd _ (yb_lowest (fun k h1 h2 => ?_)) (fun t ht => yp_some ht)
    rw [yb_set _ (by omega) k h2, decide_eq_false (by omega)]
    rfl
  · refine yp_bd _ (ym_fraud hW hM hq) (fun r hr => ?_)
    rw [hr]
    exact yp_bd _ (yb_firstOf _) (fun t ht => yp_some ht)
end
