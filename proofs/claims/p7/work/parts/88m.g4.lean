/-! which gust it was: the class seeks -/
section
variable {σ τ u z : sn_S} {w : Nat → Int32} {a b : Nat → Nat} {N m n p t : Nat} {A : Nat → Int64}
def ye_I (w : Nat → Int32) (σ : sn_S) (m : Nat) (z : sn_S) : Prop := (∀ q, (q < 38 ∨ (48 < q ∧ q ≠ 54 ∧ q ≠ 56)) → z.1 q = σ.1 q) ∧ z.1 38 0 = nI (sp_n w 0) ∧ yd_L0 38 z (hs_day w) m ∧ ∀ p, p < sp_n w 5 → z.1 48 p &&& (((1 : Int32) <<< (nI m &&& 31)) - 1) = dy_sn (hs_day w) m p
theorem ye_Ic (e : ∀ q, q ≠ 54 → q ≠ 56 → u.1 q = z.1 q) (h : ye_I w σ m z) : ye_I w σ m u := by
  obtain ⟨h1, h2, h3, h4⟩ := h
  refine ⟨fun q hq => (e q (by omega) (by omega)).trans (h1 q hq), (congrFun (e 38 (by decide) (by decide)) 0).trans h2, fun k hk => ?_, fun p hp => ?_⟩
  · rw [e (38 + 9) (by decide) (by decide), e (38 + 7) (by decide) (by decide), e (38 + 8) (by decide) (by decide)]
    exact h3 k hk
  · rw [e 48 (by decide) (by decide)]
    exact h4 p hp
theorem ye_Tw {y y' : Int32} (hT : yd_T 38 z (ye_j w m y)) (hu : u = sn_pI z 39 m y') : yd_T 38 u (ye_j w m y') := by
  have r : ∀ q, q ≠ 39 → u.1 q = z.1 q := fun q h => by rw [hu]; exact pI_ne h
  obtain ⟨t1, t2, t3, t4, t5, t6⟩ := hT
  refine ⟨(congrFun (r 38 (by decide)) 1).trans t1, (congrFun (r 38 (by decide)) 2).trans t2, (congrFun (r 38 (by decide)) 3).trans t3, fun k hk => ?_, fun p hp => ?_, fun k hk => ?_⟩
  · show u.1 39 k = (if k = m then y' else hs_dust w k (sp_n w 6))
    by_cases c : k = m
    · rw [if_pos c, c, hu]
      exact pI_self
    · have g : z.1 39 k = (if k = m then y else hs_dust w k (sp_n w 6)) := t4 k hk
      rw [if_neg c] at g
      rw [if_neg c, hu]
      exact (pI_slot c).trans g
  · have g := t5 p hp
    exact ⟨(congrFun (r 40 (by decide)) p).trans g.1, (congrFun (r 41 (by decide)) p).trans g.2.1, (congrFun (r 42 (by decide)) p).trans g.2.2.1, (congrFun (r 43 (by decide)) p).trans g.2.2.2⟩
  · rw [r 44 (by decide)]
    exact t6 k hk
theorem ye_T0 (h : yd_T 38 z (hs_day w)) : yd_T 38 z (ye_j w m (hs_dust w m (sp_n w 6))) := by
  refine ⟨h.1, h.2.1, h.2.2.1, fun k hk => ?_, h.2.2.2.2.1, h.2.2.2.2.2⟩
  show z.1 39 k = (if k = m then hs_dust w m (sp_n w 6) else hs_dust w k (sp_n w 6))
  by_cases c : k = m
  · rw [if_pos c, ← c]
    exact h.2.2.2.1 k hk
  · rw [if_neg c]
    exact h.2.2.2.1 k hk
theorem ye_T1 (h : yd_T 38 z (ye_j w m (hs_dust w m (sp_n w 6)))) : yd_T 38 z (hs_day w) := by
  refine ⟨h.1, h.2.1, h.2.2.1, fun k hk => ?_, h.2.2.2.2.1, h.2.2.2.2.2⟩
  have g : z.1 39 k = (if k = m then hs_dust w m (sp_n w 6) else hs_dust w k (sp_n w 6)) := h.2.2.2.1 k hk
  show z.1 39 k = hs_dust w k (sp_n w 6)
  by_cases c : k = m
  · rw [if_pos c] at g
    rw [g, c]
  · rw [if_neg c] at g
    exact g
theorem yc_qin (hW : jW w) (hD : yD σ w) (hm : m < sp_n w 0) (ha : ∀ i, i < N → a i < sp_n w 5 ∧ b i < sp_n w 0) (h55 : ∀ p, p < 6 → ∀ k, k < 32 → sp_bit (σ.1 55 p) k = ye_nd a b p k N) (hI : ye_I w σ m z) (hT : ∃ y, yd_T 38 z (ye_j w m y)) (hN : ye_N w (ye_ok w a b N) (9 * m) z) : yp (sn_it (LX7_seekIn_31 27 38 (nI m)) 5000 (z, (1 : Int32))) (fun v => ye_I w σ m v ∧ (∃ y, yd_T 38 v (ye_j w m y)) ∧ ye_N w (ye_ok w a b N) (9 * m + 9) v) := by
  have c0 := (yl_0 hW).2
  have c5 := (yl_5 hW).2
  refine yp_for 9 (fun g s => s.2 = nI (g + 1) ∧ ye_I w σ m s.1 ∧ (∃ y, yd_T 38 s.1 (ye_j w m y)) ∧ ye_N w (ye_ok w a b N) (9 * m + g) s.1) (fun g s hg hs => ?_) (fun s hs => ?_) (by exact ⟨rfl, hI, hT, hN⟩)
  · obtain ⟨z, x4⟩ := s
    obtain ⟨ex, hI, ⟨y0, hT⟩, hN⟩ := hs
    have ex : x4 = nI (g + 1) := ex
    subst ex
    have hI : ye_I w σ m z := hI
    have hT : yd_T 38 z (ye_j w m y0) := hT
    have hN : ye_N w (ye_ok w a b N) (9 * m + g) z := hN
    have hr := hI.1
    have e28 : sn_I z (27 + 1) m = hs_dust w m (sp_n w 6) := (congrFun (hr 28 (by omega)) m).trans (hD.2.1.2.2.2.1 m (by omega))
    show yp (BX7_seekIn_31 z 27 38 (nI m) (nI (g + 1))) _
    unfold BX7_seekIn_31
    rw [if_neg (show ¬ (9 : Int32) < nI (g + 1) from nI_nlt (a := 9) (by omega) (by decide)), nI_clamp (show m < 2 ^ 31 by omega), e28]
    refine yp_gd (fun _ => yp_gd (fun _ => yp_le (fun y ey => ?_)))
    have yr0 : ∀ q, q ≠ 39 → y.1 q = z.1 q := fun q h => by rw [ey]; exact pI_ne h
    have hT2 : yd_T 38 y (ye_j w m (hs_dust w m (sp_n w 6) + nI (g + 1))) := ye_Tw hT ey
    have e27 : sn_I y 27 0 = nI (sp_n w 0) := (congrFun (yr0 27 (by decide)) 0).trans ((congrFun (hr 27 (by omega)) 0).trans hD.1)
    have EP := ye_EP (w := w) (m := m) (y := hs_dust w m (sp_n w 6) + nI (g + 1))
    have hL0 : yd_L0 38 y (ye_j w m (hs_dust w m (sp_n w 6) + nI (g + 1))) m := fun k hk => by
      have e := yd_L0P EP (Nat.le_refl _) hI.2.2.1 k hk
      rw [yr0 (38 + 9) (by decide), yr0 (38 + 7) (by decide), yr0 (38 + 8) (by decide)]
      exact e
    rw [e27]
    refine yp_bd _ (yc_live (f := m) (t := sp_n w 0) ((congrFun (yr0 38 (by decide)) 0).trans hI.2.1) c0 hT2 (hs_ok hW) (by omega) (Nat.le_refl _) hL0 (fun p hp => ?_)) (fun v hv => ?_)
    · rw [yr0 (38 + 10) (by decide), show z.1 (38 + 10) p &&& _ = _ from hI.2.2.2 p hp]
      exact dy_snP EP (Nat.le_refl _) hp
    · obtain ⟨⟨f1, f2⟩, hLv⟩ := hv
      have t9 : (9 * m + g) / 9 = m := by omega
      have tg : (9 * m + g) % 9 + 1 = g + 1 := by omega
      have ed : ye_d w (9 * m + g) = ye_j w m (hs_dust w m (sp_n w 6) + nI (g + 1)) := by
        unfold ye_d
        rw [t9, tg]
      have v48 : ∀ p, p < sp_n w 5 → v.1 48 p = ye_s w (9 * m + g) p := fun p hp => by
        unfold ye_s
        rw [ed]
        exact hLv.2 p hp
      have vI : ye_I w σ m v := by
        refine ⟨fun q hq => (f1 q (by omega)).trans ((yr0 q (by omega)).trans (hr q hq)), (congrFun (f1 38 (by omega)) 0).trans ((congrFun (yr0 38 (by decide)) 0).trans hI.2.1), yd_L0P (dy_EPs EP) (Nat.le_refl _) (fun k hk => hLv.1 k (by omega) : yd_L0 38 v (ye_j w m (hs_dust w m (sp_n w 6) + nI (g + 1))) m), fun p hp => ?_⟩
        rw [show v.1 48 p = dy_sn (ye_j w m (hs_dust w m (sp_n w 6) + nI (g + 1))) (sp_n w 0) p from hLv.2 p hp, dy_snlow (by omega) c0]
        exact (dy_snP EP (Nat.le_refl _) hp).symm
      have vT : yd_T 38 v (ye_j w m (hs_dust w m (sp_n w 6) + nI (g + 1))) := yd_Tc (fun q q1 q2 => f1 q (by omega)) hT2
      have v54 : v.1 54 = z.1 54 := (f1 54 (by omega)).trans (yr0 54 (by decide))
      have v56 : v.1 56 = z.1 56 := (f1 56 (by omega)).trans (yr0 56 (by decide))
      have v55 : ∀ p, p < 6 → ∀ k, k < 32 → sp_bit (v.1 55 p) k = ye_nd a b p k N := fun p hp k hk => by
        rw [vI.1 55 (by omega)]
        exact h55 p hp k hk
      rw [show sn_I v 27 0 = nI (sp_n w 0) from (congrFun (vI.1 27 (by omega)) 0).trans hD.1]
      unfold fX8_firstMinutes
      have fin : ∀ v' : sn_S, ye_I w σ m v' → yd_T 38 v' (ye_j w m (hs_dust w m (sp_n w 6) + nI (g + 1))) → ye_N w (ye_ok w a b N) (9 * m + (g + 1)) v' → yp (BX7_seekIn_85 v' 27 38 (nI m) (nI (g + 1))) (yp_sum (fun s : sn_S × Int32 => s.2 = nI (g + 1 + 1) ∧ ye_I w σ m s.1 ∧ (∃ y, yd_T 38 s.1 (ye_j w m y)) ∧ ye_N w (ye_ok w a b N) (9 * m + (g + 1)) s.1) (fun _ => False)) := fun v' h1 h2 h3 => by
        unfold BX7_seekIn_85
        exact yp_lt (yp_some ⟨nI_1 _, h1, ⟨_, h2⟩, h3⟩)
      refine yp_bs rfl (yp_bd _ (yc_meets (S := fun p k => sp_bit (ye_s w (9 * m + g) p) k) (nd := fun p k => ye_nd a b p k N) c0 c5 vT.1 v55 (fun p hp k _ => by rw [v48 p hp])) (fun r hr2 => ?_))
      rcases hr2 with ⟨er, hC⟩ | ⟨er, hC⟩
      · rw [er, if_neg (by decide)]
        exact yp_bd _ (yc_note c0 c5 (by omega) t9 tg ((ye_Cok ha).mp hC) vT.1 v48 (ye_Nc v54 v56 hN)) (fun v' hv' => fin v' (ye_Ic hv'.1 vI) (yd_Tc (fun q q1 q2 => hv'.1 q (by omega) (by omega)) vT) hv'.2)
      · rw [er, if_pos rfl]
        have o : ye_ok w a b N (9 * m + g) = false := by
          cases c : ye_ok w a b N (9 * m + g) with
          | false => rfl
          | true => exact absurd ((ye_Cok ha).mpr c) hC
        exact fin v vI vT (ye_Nt (t := 9 * m + g) (by omega) (fun k h1 h2 => by rw [show k = 9 * m + g by omega]; exact o) (ye_Nc v54 v56 hN))
  · obtain ⟨z, x4⟩ := s
    obtain ⟨ex, hI, hT, hN⟩ := hs
    have ex : x4 = nI (9 + 1) := ex
    subst ex
    show yp (BX7_seekIn_31 z 27 38 (nI m) (nI (9 + 1))) _
    unfold BX7_seekIn_31
    rw [if_pos (show (9 : Int32) < nI (9 + 1) by decide)]
    exact yp_some ⟨hI, hT, hN⟩
theorem ye_lb {x : Int32} {k : Nat} (c0 : sp_n w 0 ≤ 30) (hk : k < m) (hm : m ≤ sp_n w 0) (h : x &&& (((1 : Int32) <<< (nI m &&& 31)) - 1) = dy_sn (hs_day w) m p) : sp_bit x k = sp_bit (dy_sn (hs_day w) (sp_n w 0) p) k := by
  have e1 : sp_bit (x &&& (((1 : Int32) <<< (nI m &&& 31)) - 1)) k = sp_bit (dy_sn (hs_day w) m p) k := by rw [h]
  have e2 : sp_bit (dy_sn (hs_day w) (sp_n w 0) p &&& (((1 : Int32) <<< (nI m &&& 31)) - 1)) k = sp_bit (dy_sn (hs_day w) m p) k := by rw [dy_snlow hm c0]
  rw [yb_and _ _ (by omega), yb_low m (by omega) k (by omega), decide_eq_true hk, Bool.and_true] at e1 e2
  rw [e1, e2]
theorem yc_seekIn (hW : jW w) (hD : yD σ w) (ha : ∀ i, i < N → a i < sp_n w 5 ∧ b i < sp_n w 0) (h55 : ∀ p, p < 6 → ∀ k, k < 32 → sp_bit (σ.1 55 p) k = ye_nd a b p k N) (hN : ye_N w (ye_ok w a b N) 0 σ) : yp (fX7_seekIn σ 27 38) (fun v => (∀ q, (q < 38 ∨ (48 < q ∧ q ≠ 54 ∧ q ≠ 56)) → v.1 q = σ.1 q) ∧ ye_N w (ye_ok w a b N) (9 * sp_n w 0) v) := by
  have c0 := (yl_0 hW).2
  have c5 := (yl_5 hW).2
  unfold fX7_seekIn
  refine yp_bd _ (yc_trial hW hD (by decide)) (fun z0 hz0 => ?_)
  obtain ⟨hr0, h00, hT0, -⟩ := hz0
  have n0 : ye_N w (ye_ok w a b N) (9 * 0) z0 := ye_Nc (hr0 54 (by omega)) (hr0 56 (by omega)) hN
  refine yp_bd (fun t : sn_S ⊕ sn_S => ∃ v, (t = Sum.inl v ∨ t = Sum.inr v) ∧ (∀ q, (q < 38 ∨ (48 < q ∧ q ≠ 54 ∧ q ≠ 56)) → v.1 q = σ.1 q) ∧ ye_N w (ye_ok w a b N) (9 * sp_n w 0) v) (yp_it (fun s : sn_S × Int32 => ∃ m, m ≤ sp_n w 0 ∧ s.2 = nI m ∧ ye_I w σ m s.1 ∧ yd_T 38 s.1 (hs_day w) ∧ ye_N w (ye_ok w a b N) (9 * m) s.1) (fun s hs => ?_) _ _ (by exact ⟨0, Nat.zero_le _, nI_0.symm, ⟨fun q hq => hr0 q (by omega), h00, fun k hk => absurd hk (by omega), fun p _ => yb_and0 _⟩, hT0, n0⟩)) (fun t ht => ?_)
  · obtain ⟨z, x3⟩ := s
    obtain ⟨m, hm, ex, hI, hT, hN⟩ := hs
    have ex : x3 = nI m := ex
    subst ex
    have hI : ye_I w σ m z := hI
    have hT : yd_T 38 z (hs_day w) := hT
    have hN : ye_N w (ye_ok w a b N) (9 * m) z := hN
    show yp (BX7_seekIn_7 z 27 38 (nI m)) _
    unfold BX7_seekIn_7
    rw [show sn_I z 27 0 = nI (sp_n w 0) from (congrFun (hI.1 27 (by omega)) 0).trans hD.1]
    rcases Nat.lt_or_ge m (sp_n w 0) with c | c
    · rw [if_neg (nI_ge c (by omega))]
      unfold fX8_firstMinutes
      have z55 : ∀ p, p < 6 → ∀ k, k < 32 → sp_bit (z.1 55 p) k = ye_nd a b p k N := fun p hp k hk => by
        rw [hI.1 55 (by omega)]
        exact h55 p hp k hk
      refine yp_bs rfl (yp_bd _ (yc_meets (n := m) (S := fun p k => sp_bit (dy_sn (hs_day w) (sp_n w 0) p) k) (nd := fun p k => ye_nd a b p k N) (by omega) c5 hT.1 z55 (fun p hp k hk => ye_lb c0 hk hm (hI.2.2.2 p hp))) (fun r hr2 => ?_))
      rcases hr2 with ⟨er, hC⟩ | ⟨er, hC⟩
      · rw [er, if_neg (by decide)]
        refine yp_bd _ (yc_qin hW hD c ha h55 hI ⟨_, ye_T0 hT⟩ hN) (fun v hv => ?_)
        obtain ⟨vI, ⟨y0, vT⟩, vN⟩ := hv
        have e28 : sn_I v (27 + 1) m = hs_dust w m (sp_n w 6) := (congrFun (vI.1 28 (by omega)) m).trans (hD.2.1.2.2.2.1 m (by omega))
        unfold BX7_seekIn_91
        rw [nI_clamp (show m < 2 ^ 31 by omega), e28, show nI m + (1 : Int32) = nI (m + 1) from nI_1 m]
        refine yp_gd (fun _ => yp_gd (fun _ => yp_le (fun y ey => ?_)))
        have yr0 : ∀ q, q ≠ 39 → y.1 q = v.1 q := fun q h => by rw [ey]; exact pI_ne h
        have hT2 : yd_T 38 y (hs_day w) := ye_T1 (m := m) (ye_Tw vT ey)
        have hL0 : yd_L0 38 y (hs_day w) m := fun k hk => by
          rw [yr0 (38 + 9) (by decide), yr0 (38 + 7) (by decide), yr0 (38 + 8) (by decide)]
          exact vI.2.2.1 k hk
        refine yp_bd _ (yc_live (f := m) (t := m + 1) ((congrFun (yr0 38 (by decide)) 0).trans vI.2.1) c0 hT2 (hs_ok hW) (by omega) (by omega) hL0 (fun p hp => ?_)) (fun v2 hv2 => yp_lt (yp_some ⟨m + 1, c, rfl, ?_, ?_, ?_⟩))
        · rw [yr0 (38 + 10) (by decide)]
          exact vI.2.2.2 p hp
        · obtain ⟨⟨f1, f2⟩, l1, l2⟩ := hv2
          refine ⟨fun q hq => (f1 q (by omega)).trans ((yr0 q (by omega)).trans (vI.1 q hq)), (congrFun (f1 38 (by omega)) 0).trans ((congrFun (yr0 38 (by decide)) 0).trans vI.2.1), l1, fun p hp => ?_⟩
          rw [show v2.1 48 p = _ from l2 p hp, dy_snlow (Nat.le_refl _) (by omega)]
        · exact yd_Tc (fun q q1 q2 => hv2.1.1 q (by omega)) hT2
        · exact ye_Nc ((hv2.1.1 54 (by omega)).trans (yr0 54 (by decide))) ((hv2.1.1 56 (by omega)).trans (yr0 56 (by decide))) vN
      · rw [er, if_pos rfl]
        exact yp_some ⟨z, Or.inr rfl, hI.1, ye_Nt (by omega) (ye_late c0 hm ha hC) hN⟩
    · rw [if_pos (nI_le c (by omega))]
      have e : m = sp_n w 0 := by omega
      rw [e] at hN
      exact yp_some ⟨z, Or.inl rfl, hI.1, hN⟩
  · obtain ⟨v, e | e, h⟩ := ht
    · subst e
      show yp (BX7_seekIn_117 v 27 38) _
      unfold BX7_seekIn_117
      exact yp_some h
    · subst e
      exact yp_some h
theorem yc_forget : yp (fX7_forget σ) (fun v => (∀ q, q ≠ 54 → q ≠ 55 → q ≠ 56 → v.1 q = σ.1 q) ∧ v.2 = σ.2 ∧ (∀ k, k < 6 → v.1 55 k = 0) ∧ (∀ k, k < 186 → v.1 56 k = 0) ∧ v.1 54 1 = 0 ∧ v.1 54 2 = 0 ∧ v.1 54 3 = -1) := by
  unfold fX7_forget
  refine yp_bd _ (yc_fill σ 55 6 0 (by decide)) (fun v1 h1 => yp_bd _ (yc_fill v1 56 186 0 (by decide)) (fun v2 h2 => yp_le (fun v3 e3 => yp_le (fun v4 e4 => yp_le (fun v5 e5 => yp_some ?_)))))
  obtain ⟨a1, a2, a3⟩ := h1
  obtain ⟨b1, b2, b3⟩ := h2
  have r : ∀ q, q ≠ 54 → v5.1 q = v2.1 q := fun q h => by rw [e5, pI_ne h, e4, pI_ne h, e3, pI_ne h]
  have rl : v5.2 = v2.2 := by rw [e5]; show v4.2 = _; rw [e4]; show v3.2 = _; rw [e3]; rfl
  refine ⟨fun q h4 h5 h6 => (r q h4).trans ((b1 q h6).trans (a1 q h5)), rl.trans (b2.trans a2), fun k hk => ?_, fun k hk => ?_, ?_, ?_, ?_⟩
  · rw [r 55 (by decide), b1 55 (by decide)]
    exact a3 k hk
  · rw [r 56 (by decide)]
    exact b3 k hk
  · rw [e5, pI_slot (by decide), e4, pI_slot (by decide), e3]
    exact pI_self
  · rw [e5, pI_slot (by decide), e4]
    exact pI_self
  · rw [e5]
    exact pI_self
def ye_a (A : Nat → Int64) (i : Nat) : Nat := (A (2 * i)).toInt.toNat
def ye_b (A : Nat → Int64) (i : Nat) : Nat := (A (2 * i + 1)).toInt.toNat
def ye_v (w : Nat → Int32) (A : Nat → Int64) (i : Nat) : Prop := (0 ≤ (A (2 * i)).toInt ∧ (A (2 * i)).toInt < sp_n w 5) ∧ (0 ≤ (A (2 * i + 1)).toInt ∧ (A (2 * i + 1)).toInt < sp_n w 0)
theorem ye_ab (h : ∀ i, i < N → ye_v w A i) : ∀ i, i < N → ye_a A i < sp_n w 5 ∧ ye_b A i < sp_n w 0 := fun i hi => by
  obtain ⟨⟨h1, h2⟩, h3, h4⟩ := h i hi
  unfold ye_a ye_b
  omega
theorem ye_l {n : Nat} (hn : n < 2 ^ 31) : ((nI n).toInt64).toInt = (n : Int) := by
  rw [Int32.toInt_toInt64, nI_toInt hn]
theorem yc_pairs {s : Nat} (hs : s < 4) (hN : N ≤ 30) (c0 : sp_n w 0 ≤ 30) (c5 : sp_n w 5 ≤ 6) (e0 : σ.1 27 0 = nI (sp_n w 0)) (e1 : σ.1 27 1 = nI (sp_n w 5)) (hlen : σ.1 26 s = nI (2 * N)) (hA : ∀ i, i < 60 → σ.2.1 (21 + s) i = A i) (h55 : ∀ k, k < 6 → σ.1 55 k = 0) : yp (sn_it (LX8_seek_57 (nI s)) 5000 (σ, (0 : Int32))) (fun t => (∃ v, t = Sum.inl v ∧ (∀ i, i < N → ye_v w A i) ∧ (∀ q, q ≠ 55 → v.1 q = σ.1 q) ∧ ∀ p, p < 6 → ∀ k, k < 32 → sp_bit (v.1 55 p) k = ye_nd (ye_a A) (ye_b A) p k N) ∨ ∃ r, t = Sum.inr r ∧ r.1 = -2 ∧ ¬ ∀ i, i < N → ye_v w A i) := by
  refine yp_it (fun s : sn_S × Int32 => ∃ i, i ≤ N ∧ s.2 = nI (2 * i) ∧ (∀ j, j < i → ye_v w A j) ∧ (∀ q, q ≠ 55 → s.1.1 q = σ.1 q) ∧ s.1.2 = σ.2 ∧ ∀ p, p < 6 → ∀ k, k < 32 → sp_bit (s.1.1 55 p) k = ye_nd (ye_a A) (ye_b A) p k i) (fun s2 hs2 => ?_) _ _ (by exact ⟨0, Nat.zero_le _, nI_0.symm, fun j hj => absurd hj (by omega), fun _ _ => rfl, rfl, fun p hp k hk => by rw [h55 p hp]; exact yb_z k hk⟩)
  obtain ⟨z, x2⟩ := s2
  obtain ⟨i, hi, ex, hv, hr, hl, hb⟩ := hs2
  have ex : x2 = nI (2 * i) := ex
  subst ex
  have hr : ∀ q, q ≠ 55 → z.1 q = σ.1 q := hr
  have hl : z.2 = σ.2 := hl
  have hb : ∀ p, p < 6 → ∀ k, k < 32 → sp_bit (z.1 55 p) k = ye_nd (ye_a A) (ye_b A) p k i := hb
  show yp (BX8_seek_57 z (nI s) (nI (2 * i))) _
  unfold BX8_seek_57
  rw [nI_clamp (show s < 2 ^ 31 by omega), show sn_I z 26 s = nI (2 * N) from (congrFun (hr 26 (by decide)) s).trans hlen, nI_1]
  refine yp_gd (fun _ => ?_)
  by_cases c : i < N
  · have l0 : sn_L z (21 + s) (2 * i) = A (2 * i) := by
      show z.2.1 (21 + s) (2 * i) = _
      rw [hl]
      exact hA _ (by omega)
    have l1 : sn_L z (21 + s) (2 * i + 1) = A (2 * i + 1) := by
      show z.2.1 (21 + s) (2 * i + 1) = _
      rw [hl]
      exact hA _ (by omega)
    have z0 : (0 : Int64).toInt = 0 := by decide
    rw [if_neg (nI_ge (show 2 * i + 1 < 2 * N by omega) (by omega)), at20 hs, nI_clamp (show 2 * i < 2 ^ 31 by omega), nI_clamp (show 2 * i + 1 < 2 ^ 31 by omega), l0, l1, show sn_I z 27 1 = nI (sp_n w 5) from (congrFun (hr 27 (by decide)) 1).trans e1, show sn_I z 27 0 = nI (sp_n w 0) from (congrFun (hr 27 (by decide)) 0).trans e0]
    refine yp_gd (fun _ => yp_gd (fun _ => yp_lt (yp_gd (fun _ => yp_gd (fun _ => yp_lt ?_)))))
    refine yp_ite (fun d1 => yp_some (Or.inr ⟨_, rfl, rfl, fun g => ?_⟩)) (fun d1 => yp_ite (fun d2 => yp_some (Or.inr ⟨_, rfl, rfl, fun g => ?_⟩)) (fun d2 => yp_ite (fun d3 => yp_some (Or.inr ⟨_, rfl, rfl, fun g => ?_⟩)) (fun d3 => yp_ite (fun d4 => ?_) (fun d4 => yp_some (Or.inr ⟨_, rfl, rfl, fun g => ?_⟩)))))
    · have q := zs_lgc.1.mp d1
      have h := (g i c).1.1
      omega
    · have q := zs_lgc.2.2.2.2.mp d2
      rw [ye_l (by omega)] at q
      have h := (g i c).1.2
      omega
    · have q := zs_lgc.1.mp d3
      have h := (g i c).2.1
      omega
    · have q1 : ¬ (A (2 * i)).toInt < (0 : Int64).toInt := fun h => d1 (zs_lgc.1.mpr h)
      have q2 : ¬ ((nI (sp_n w 5)).toInt64).toInt ≤ (A (2 * i)).toInt := fun h => d2 (zs_lgc.2.2.2.2.mpr h)
      have q3 : ¬ (A (2 * i + 1)).toInt < (0 : Int64).toInt := fun h => d3 (zs_lgc.1.mpr h)
      have q4 := zs_lgc.1.mp d4
      rw [ye_l (by omega)] at q2 q4
      have hvi : ye_v w A i := ⟨⟨by omega, by omega⟩, by omega, by omega⟩
      have ea : (A (2 * i)).toInt = (ye_a A i : Int) := by unfold ye_a; omega
      have eb : (A (2 * i + 1)).toInt = (ye_b A i : Int) := by unfold ye_b; omega
      have la : ye_a A i < 6 := by omega
      have lb : ye_b A i < 30 := by omega
      rw [ye_32 ea (by omega), ye_32 eb (by omega), nI_clamp (show ye_a A i < 2 ^ 31 by omega)]
      refine yp_gd (fun _ => yp_gd (fun _ => yp_le (fun v ev => yp_lt (yp_some ⟨i + 1, c, (nI_add _ 2).trans (congrArg nI (by omega)), fun j hj => ?_, fun q hq => ?_, ?_, fun p hp k hk => ?_⟩))))
      · by_cases d : j = i
        · subst d
          exact hvi
        · exact hv j (by omega)
      · show v.1 q = _
        rw [ev, pI_ne hq]
        exact hr q hq
      · show v.2 = _
        rw [ev]
        exact hl
      · show sp_bit (v.1 55 p) k = (ye_nd (ye_a A) (ye_b A) p k i || (decide (p = ye_a A i) && decide (k = ye_b A i)))
        rw [ev]
        by_cases d : p = ye_a A i
        · subst d
          rw [pI_self, yb_or1 _ (by omega) hk, show sp_bit (sn_I z 55 (ye_a A i)) k = _ from hb _ hp k hk, decide_eq_true rfl, Bool.true_and]
        · rw [pI_slot d, hb p hp k hk, decide_eq_false d, Bool.false_and, Bool.or_false]
    · have q : ¬ (A (2 * i + 1)).toInt < ((nI (sp_n w 0)).toInt64).toInt := fun h => d4 (zs_lgc.1.mpr h)
      rw [ye_l (by omega)] at q
      have h := (g i c).2.2
      omega
  · rw [if_pos (nI_le (show 2 * N ≤ 2 * i + 1 by omega) (by omega))]
    have e : i = N := by omega
    subst e
    exact yp_some (Or.inl ⟨z, rfl, hv, hr, hb⟩)
theorem yc_seek {s : Nat} (hs : s < 4) (hN : N ≤ 30) (hW : jW w) (hD : yD σ w) (hH : fX8_isHouse σ = some 1) (hlen : σ.1 26 s = nI (2 * N)) (hA : ∀ i, i < 60 → σ.2.1 (21 + s) i = A i) : yp (fX8_seek σ (nI s)) (fun r => (r.1 = 0 ∧ (∀ i, i < N → ye_v w A i) ∧ r.2.1 27 1 = nI (sp_n w 5) ∧ ye_N w (ye_ok w (ye_a A) (ye_b A) N) (9 * sp_n w 0) r.2) ∨ (r.1 = -2 ∧ ¬ ∀ i, i < N → ye_v w A i)) := by
  have c0 := (yl_0 hW).2
  have c5 := (yl_5 hW).2
  unfold fX8_seek
  rw [c_isSlot, if_pos ⟨nI_pos' (by omega), nI_lt (b := 4) hs (by decide)⟩]
  refine yp_bs rfl ?_
  rw [if_neg (by decide), hH]
  refine yp_bs rfl ?_
  rw [if_neg (by decide), c_has σ hs, if_neg (by rw [hlen]; exact yi_m (by omega))]
  refine yp_bs rfl ?_
  rw [if_neg (by decide), nI_clamp (show s < 2 ^ 31 by omega), show sn_I σ 26 s = nI (2 * N) from hlen, yi_m2 (by omega), if_pos (show nI (2 * N % 2) = 0 by rw [show 2 * N % 2 = 0 by omega]; exact nI_0)]
  refine yp_gd (fun _ => yp_bd _ yc_forget (fun v hv => ?_))
  obtain ⟨r, rl, f5, f6, f1, f2, f3⟩ := hv
  have vD : yD v w := yD_c (fun q q1 q2 => r q (by omega) (by omega) (by omega)) hD
  refine yp_bd _ (yc_pairs (A := A) hs hN c0 c5 ((congrFun (r 27 (by decide) (by decide) (by decide)) 0).trans hD.1) ((congrFun (r 27 (by decide) (by decide) (by decide)) 1).trans hD.2.1.1) ((congrFun (r 26 (by decide) (by decide) (by decide)) s).trans hlen) (fun i hi => by rw [rl]; exact hA i hi) f5) (fun t ht => ?_)
  rcases ht with ⟨z, e, hv, hr, hb⟩ | ⟨x, e, h1, h2⟩
  · subst e
    show yp (BX8_seek_166 z) _
    unfold BX8_seek_166
    have zD : yD z w := yD_c (fun q q1 q2 => hr q (by omega)) vD
    have n0 : ye_N w (ye_ok w (ye_a A) (ye_b A) N) 0 z := ⟨(congrFun (hr 54 (by decide)) 1).trans (f1.trans nI_0.symm), (congrFun (hr 54 (by decide)) 2).trans f2, (congrFun (hr 54 (by decide)) 3).trans f3, fun p hp o ho => (congrFun (hr 56 (by decide)) _).trans ((f6 _ (by omega)).trans nI_0.symm)⟩
    refine yp_bd _ (yc_seekIn hW zD (ye_ab hv) hb n0) (fun y hy => yp_some (Or.inl ⟨rfl, hv, ?_, hy.2⟩))
    exact (congrFun (hy.1 27 (by omega)) 1).trans zD.2.1.1
  · subst e
    exact yp_some (Or.inr ⟨h1, h2⟩)
end
