/-! on whom somebody's sneezes tell -/
section
variable {σ τ u z : sn_S} {w : Nat → Int32}
theorem yz_pers2 {a x0 : Int32} {X : Option (Int32 × sn_S)} {Y : Int32 × sn_S → Option (Int32 × sn_S)} (hK : zK σ τ) (h : ∀ p v u, p < sp_n (τ.1 1) 5 → a = nI p → yM τ u (τ.1 1) → yr X (Y (v, u)) (fun r s => r.1 = s.1)) : yr ((fX8_isPerson σ a).bind fun t => if t = 0 then some (x0, σ) else X) ((fX9_asksPerson τ a).bind fun t => if t.1 = 0 then some (x0, t.2) else Y t) (fun r s => r.1 = s.1) := by
  obtain ⟨-, ⟨p1, p2, p3⟩, -⟩ := yK_n hK
  rw [c_isPerson, p1]
  refine yz_go2 (Q := fun z => yM τ z (τ.1 1)) (ym_askP rfl hK.2.1.1) (fun c u hu => ?_)
  obtain ⟨p, hp, ep⟩ := yK_p (by omega) p2 (yz_if c)
  exact h p _ u hp ep hu
def yg_j (w : Nat → Int32) (p : Nat) : dy_I := dy_heldSet (hs_day w) p (((1 : Int32) <<< (nI (sp_n w 0) &&& 31)) - 1)
def yg_f (w : Nat → Int32) (p k : Nat) : Bool := !decide (k = p) && decide (yb_pop (dy_sn (yg_j w p) (sp_n w 0) k) 30 < yb_pop (dy_sn (hs_day w) (sp_n w 0) k) 30)
theorem yz_29 {a : Int32} (hK : zK σ τ) : yr (fX8_spreads σ a) (fX9_spreads τ a) (fun r s => r.1 = s.1) := by
  have hW := hK.2.1.1
  have hD := hK.2.2.2
  have c0 := (yl_0 hW).2
  have c5 := (yl_5 hW).2
  unfold fX8_spreads fX9_spreads
  refine yz_pers2 hK (fun p v u hp ea hM => ?_)
  subst ea
  obtain ⟨w, ew⟩ : ∃ w, w = τ.1 1 := ⟨_, rfl⟩
  rw [← ew] at hW hD c0 c5 hp hM
  refine yr_eq2 (dy_set (yg_f w p) (sp_n w 5)) ?_ ?_
  · refine yp_bd _ (yc_trial hW hD (by decide)) (fun z hz => ?_)
    obtain ⟨hr, h0, ⟨t1, t2, t3, t4, t5, t6⟩, -⟩ := hz
    unfold fX8_firstMinutes
    rw [show sn_I z 27 0 = nI (sp_n w 0) from (congrFun (hr 27 (by omega)) 0).trans hD.1, nI_clamp (show p < 2 ^ 31 by omega)]
    refine yp_bs rfl (yp_gd (fun _ => yp_le (fun y ey => ?_)))
    have yr0 : ∀ a, a ≠ 42 → y.1 a = z.1 a := fun a ha => by rw [ey]; exact pI_ne ha
    have hT2 : yd_T 38 y (yg_j w p) := by
      refine ⟨(congrFun (yr0 38 (by decide)) 1).trans t1, (congrFun (yr0 38 (by decide)) 2).trans t2, (congrFun (yr0 38 (by decide)) 3).trans t3, fun k hk => (congrFun (yr0 39 (by decide)) k).trans (t4 k hk), fun x hx => ?_, fun k hk => ?_⟩
      · have g := t5 x hx
        refine ⟨(congrFun (yr0 40 (by decide)) x).trans g.1, (congrFun (yr0 41 (by decide)) x).trans g.2.1, ?_, (congrFun (yr0 43 (by decide)) x).trans g.2.2.2⟩
        show y.1 42 x = (if x = p then ((1 : Int32) <<< (nI (sp_n w 0) &&& 31)) - 1 else hs_acts w 0 x (sp_n w 9))
        by_cases e : x = p
        · rw [if_pos e, e, ey]; exact pI_self
        · rw [if_neg e, ey]
          exact (pI_slot e).trans g.2.2.1
      · rw [yr0 44 (by decide)]
        exact t6 k hk
    refine yp_bd _ (yc_whole ((congrFun (yr0 38 (by decide)) 0).trans h0) c0 hT2 (hs_ok hW)) (fun v hv => ?_)
    obtain ⟨⟨f1, f2⟩, hL⟩ := hv
    have vr : ∀ a, a < 38 → v.1 a = σ.1 a := fun a ha => (f1 a (by omega)).trans ((yr0 a (by omega)).trans (hr a (by omega)))
    refine yp_bd (fun x => x = dy_set (yg_f w p) (sp_n w 5)) (yp_for (sp_n w 5) (fun k s => s.2 = nI k ∧ s.1 = dy_set (yg_f w p) k) (fun k s hk hs => ?_) (fun s hs => ?_) ⟨nI_0.symm, rfl⟩) (fun v hv => ?_)
    · obtain ⟨x2, x3⟩ := s
      obtain ⟨ex, ev⟩ := hs
      have ex : x3 = nI k := ex
      have ev : x2 = _ := ev
      subst ex
      subst ev
      show yp (BX8_spreads_52 v (nI p) _ (nI k)) _
      unfold BX8_spreads_52 BX8_spreads_101
      rw [show sn_I v 27 1 = nI (sp_n w 5) from (congrFun (vr 27 (by omega)) 1).trans hD.2.1.1, if_neg (nI_ge hk (by omega)), nI_clamp (show k < 2 ^ 31 by omega), show sn_I v (38 + 10) k = _ from hL.2 k hk, show sn_I v (27 + 10) k = dy_sn (hs_day w) (sp_n w 0) k from (congrFun (vr (27 + 10) (by omega)) k).trans (hD.2.2.2 k hk), yb_count, yb_count, yb_pop30 (fun j g1 g2 => yz_sbits c0 j (by omega) g2), yb_pop30 (fun j g1 g2 => yz_sbits c0 j (by omega) g2)]
      have b1 := yb_pople (dy_sn (yg_j w p) (sp_n w 0) k) 30
      have b2 := yb_pople (dy_sn (hs_day w) (sp_n w 0) k) 30
      refine yp_ite (fun c => yp_lt (yp_some ⟨nI_1 k, dy_s0 ?_⟩)) (fun c => yp_gd (fun _ => yp_bs rfl (yp_gd (fun _ => yp_bs rfl (yp_ite (fun c2 => yp_lt (yp_some ⟨nI_1 k, dy_s0 ?_⟩)) (fun c2 => yp_lt (yp_lt (yp_some ⟨nI_1 k, dy_s1 ?_⟩))))))))
      · have c := (nI_eq (by omega) (by omega)).mp c
        unfold yg_f
        rw [decide_eq_true c]
        rfl
      · have c2 := (nI_leI (by omega) (by omega)).mp c2
        unfold yg_f
        rw [decide_eq_false (p := yb_pop (dy_sn (yg_j w p) (sp_n w 0) k) 30 < yb_pop (dy_sn (hs_day w) (sp_n w 0) k) 30) (by omega), Bool.and_false]
      · have c : ¬ k = p := fun e => c (congrArg nI e)
        have c2 : ¬ yb_pop (dy_sn (hs_day w) (sp_n w 0) k) 30 ≤ yb_pop (dy_sn (yg_j w p) (sp_n w 0) k) 30 := fun e => c2 ((nI_leI (by omega) (by omega)).mpr e)
        unfold yg_f
        rw [decide_eq_false c, decide_eq_true (p := yb_pop (dy_sn (yg_j w p) (sp_n w 0) k) 30 < yb_pop (dy_sn (hs_day w) (sp_n w 0) k) 30) (by omega)]
        rfl
    · obtain ⟨x2, x3⟩ := s
      obtain ⟨ex, ev⟩ := hs
      have ex : x3 = nI (sp_n w 5) := ex
      subst ex
      show yp (BX8_spreads_52 v (nI p) x2 (nI (sp_n w 5))) _
      unfold BX8_spreads_52
      rw [show sn_I v 27 1 = nI (sp_n w 5) from (congrFun (vr 27 (by omega)) 1).trans hD.2.1.1, if_pos (nI_le (Nat.le_refl _) (by omega))]
      exact yp_some ev
    · unfold BX8_spreads_107
      exact yp_some hv
  · refine yp_bd (fun z : sn_S => (∀ a, a ≠ 15 → z.1 a = u.1 a) ∧ ∀ k, k < 6 → z.1 15 k = nI (yb_pop (u.1 10 k) 30)) (yp_for 6 (fun k s => s.2 = nI k ∧ (∀ a, a ≠ 15 → s.1.1 a = u.1 a) ∧ ∀ j, j < k → s.1.1 15 j = nI (yb_pop (u.1 10 j) 30)) (fun k s hk hs => ?_) (fun s hs => ?_) ⟨nI_0.symm, fun _ _ => rfl, fun j hj => absurd hj (by omega)⟩) (fun z hz => ?_)
    · obtain ⟨z, x2⟩ := s
      obtain ⟨ex, hz, h15⟩ := hs
      have ex : x2 = nI k := ex
      have hz : ∀ a, a ≠ 15 → z.1 a = u.1 a := hz
      subst ex
      show yp (BX9_spreads_13 z (nI p) (nI k)) _
      unfold BX9_spreads_13
      rw [if_neg (show ¬ (6 : Int32) ≤ nI k from nI_ge (b := 6) hk (by decide)), nI_clamp (show k < 2 ^ 31 by omega)]
      refine yp_gd (fun _ => yp_bd _ (yb_mbits _) (fun t ht => yp_gd (fun _ => yp_lt (yp_lt (yp_some ⟨nI_1 k, fun a ha => (pI_ne ha).trans (hz a ha), fun j hj => ?_⟩)))))
      by_cases e : j = k
      · subst e
        refine pI_self.trans (ht.trans ?_)
        rw [show sn_I z 10 j = u.1 10 j from congrFun (hz 10 (by decide)) j]
      · exact (pI_slot e).trans (h15 j (by omega))
    · obtain ⟨z, x2⟩ := s
      obtain ⟨ex, hz⟩ := hs
      have ex : x2 = nI 6 := ex
      subst ex
      show yp (BX9_spreads_13 z (nI p) (nI 6)) _
      unfold BX9_spreads_13
      rw [if_pos (show (6 : Int32) ≤ nI 6 by decide)]
      exact yp_some hz
    · obtain ⟨hz, h15⟩ := hz
      have z1 : z.1 1 = w := (hz 1 (by decide)).trans hM.1
      obtain ⟨t1, t2, t3, t4, t5, t6⟩ : ym_T z (hs_day w) := ym_Tc (fun a ha => hz a (by omega)) hM.2.2.2.2.2.2.2.2.2.1
      unfold BX9_spreads_40 fX9_minutes
      refine yp_bd (fun t => t = nI (sp_n w 0)) (yp_gd (fun _ => yp_some ((congrFun z1 0).trans (yl_0 hW).1))) (fun t ht => ?_)
      rw [ht, nI_clamp (show p < 2 ^ 31 by omega)]
      refine yp_gd (fun _ => yp_le (fun y ey => ?_))
      have yr0 : ∀ a, a ≠ 8 → y.1 a = z.1 a := fun a ha => by rw [ey]; exact pI_ne ha
      have hT2 : ym_T y (yg_j w p) := by
        refine ⟨(congrFun (yr0 1 (by decide)) 5).trans t1, (congrFun (yr0 1 (by decide)) 7).trans t2, (congrFun (yr0 0 (by decide)) 19).trans t3, fun k hk => (congrFun (yr0 7 (by decide)) k).trans (t4 k hk), fun x hx => ?_, fun k hk => ?_⟩
        · have g := t5 x hx
          refine ⟨(congrFun (yr0 1 (by decide)) _).trans g.1, (congrFun (yr0 1 (by decide)) _).trans g.2.1, ?_, (congrFun (yr0 9 (by decide)) x).trans g.2.2.2⟩
          show y.1 8 x = (if x = p then ((1 : Int32) <<< (nI (sp_n w 0) &&& 31)) - 1 else hs_acts w 0 x (sp_n w 9))
          by_cases e : x = p
          · rw [if_pos e, e, ey]; exact pI_self
          · rw [if_neg e, ey]
            exact (pI_slot e).trans g.2.2.1
        · rw [yr0 1 (by decide)]
          exact t6 k hk
      refine yp_bd _ (ym_goAll c0 ((congrFun (yr0 0 (by decide)) 22).trans ((congrFun (hz 0 (by decide)) 22).trans (yM_22 hM))) hT2 (hs_ok hW)) (fun v hv => ?_)
      obtain ⟨⟨f1, f2⟩, hL⟩ := hv
      have v5 : sn_I v 1 (5 : Int32).toNatClampNeg = nI (sp_n w 5) := (congrFun (f1 1 (by omega)) 5).trans ((congrFun (yr0 1 (by decide)) 5).trans t1)
      have vs : ∀ k, k < sp_n w 5 → sn_I v 10 k = dy_sn (yg_j w p) (sp_n w 0) k := fun k hk => by
        have g := (hL.2 k (by omega)).1
        rw [if_pos (show k < dy_P (yg_j w p) from hk)] at g
        exact g
      have v15 : ∀ k, k < sp_n w 5 → sn_I v 15 k = nI (yb_pop (dy_sn (hs_day w) (sp_n w 0) k) 30) := fun k hk => by
        refine (congrFun (f1 15 (by omega)) k).trans ((congrFun (yr0 15 (by decide)) k).trans ((h15 k (by omega)).trans ?_))
        rw [yz_msn hW hM hk]
      refine yp_bd (fun x => x = dy_set (yg_f w p) (sp_n w 5)) (yp_for (sp_n w 5) (fun k s => s.2 = nI k ∧ s.1 = dy_set (yg_f w p) k) (fun k s hk hs => ?_) (fun s hs => ?_) ⟨nI_0.symm, rfl⟩) (fun v hv => ?_)
      · obtain ⟨x2, x3⟩ := s
        obtain ⟨ex, ev⟩ := hs
        have ex : x3 = nI k := ex
        have ev : x2 = _ := ev
        subst ex
        subst ev
        have b1 := yb_pople (dy_sn (yg_j w p) (sp_n w 0) k) 30
        have b2 := yb_pople (dy_sn (hs_day w) (sp_n w 0) k) 30
        show yp (BX9_spreads_62 v (nI p) _ (nI k)) _
        unfold BX9_spreads_62 BX9_spreads_102 BX9_spreads_103
        rw [v5, if_neg (nI_ge hk (by omega)), nI_clamp (show k < 2 ^ 31 by omega), vs k hk, v15 k hk]
        refine yp_gd (fun _ => yp_ite (fun c => yp_lt (yp_lt (yp_some ⟨nI_1 k, (yb_or0 _).trans (dy_s0 ?_)⟩))) (fun c => yp_gd (fun _ => yp_bd _ (yb_mbits _) (fun t ht => yp_gd (fun _ => ?_)))))
        · have c := (nI_eq (by omega) (by omega)).mp c
          unfold yg_f
          rw [decide_eq_true c]
          rfl
        · rw [ht]
          refine yp_ite (fun c2 => yp_lt (yp_lt (yp_some ⟨nI_1 k, (yb_or0 _).trans (dy_s0 ?_)⟩))) (fun c2 => yp_lt (yp_lt (yp_some ⟨nI_1 k, dy_s1 ?_⟩)))
          · have c2 := (nI_leI (by omega) (by omega)).mp c2
            unfold yg_f
            rw [decide_eq_false (p := yb_pop (dy_sn (yg_j w p) (sp_n w 0) k) 30 < yb_pop (dy_sn (hs_day w) (sp_n w 0) k) 30) (by omega), Bool.and_false]
          · have c : ¬ k = p := fun e => c (congrArg nI e)
            have c2 : ¬ yb_pop (dy_sn (hs_day w) (sp_n w 0) k) 30 ≤ yb_pop (dy_sn (yg_j w p) (sp_n w 0) k) 30 := fun e => c2 ((nI_leI (by omega) (by omega)).mpr e)
            unfold yg_f
            rw [decide_eq_false c, decide_eq_true (p := yb_pop (dy_sn (yg_j w p) (sp_n w 0) k) 30 < yb_pop (dy_sn (hs_day w) (sp_n w 0) k) 30) (by omega)]
            rfl
      · obtain ⟨x2, x3⟩ := s
        obtain ⟨ex, ev⟩ := hs
        have ex : x3 = nI (sp_n w 5) := ex
        subst ex
        show yp (BX9_spreads_62 v (nI p) x2 (nI (sp_n w 5))) _
        unfold BX9_spreads_62
        rw [v5, if_pos (nI_le (Nat.le_refl _) (by omega))]
        exact yp_gd (fun _ => yp_some ev)
      · unfold BX9_spreads_111
        exact yp_some hv
end
