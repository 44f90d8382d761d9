section
variable {σ τ u z : sn_S} {w : Nat → Int32} {q : Nat} {l : Int32}
/-- the ledger of any day -/
def yl_LS (σ z : sn_S) (w : Nat → Int32) (l : Int32) (S H : Nat → Int32) (n : Nat) : Prop := (∀ a, a < 49 ∨ 51 < a → z.1 a = σ.1 a) ∧ z.1 49 2 = nI (sp_n w 8) ∧ z.1 49 3 = nI (sp_n w 3 + yn_sum (yl_y w) n) ∧ ∀ q, q < n → z.1 50 q = nI (yl_v w l q (S (sp_n w (49 + 5 * q))) (H (sp_n w (49 + 5 * q)))) ∧ z.1 51 q = yl_fst (yl_C w l q (S (sp_n w (49 + 5 * q)))) 30
theorem yc_reckonS {d : Nat} {S H : Nat → Int32} (hd : d + 10 < 49) (hW : jW w) (hH : yH 1 σ w) (hS : ∀ p, p < sp_n w 5 → σ.1 (d + 10) p = S p ∧ σ.1 (d + 4) p = H p) (hb : ∀ p k, sp_n w 0 ≤ k → k < 32 → sp_bit (S p) k = false) (l : Int32) : yp (fX3_reckon σ 49 1 d l) (fun z => yl_LS σ z w l S H (sp_n w 8)) := by
  have c8 := (yl_8 hW).2
  have c5 := (yl_5 hW).2
  have c0 := (yl_0 hW).2
  obtain ⟨n3, -⟩ : yh_n w 3 999 := hW.1.2.2.2.1
  unfold fX3_reckon
  refine yp_gd (fun _ => yp_lt (yp_gd (fun _ => yp_lt ?_)))
  refine yp_bd (fun z => yl_LS σ z w l S H (sp_n w 8)) (yp_for (sp_n w 8) (fun n s => s.2 = nI n ∧ yl_LS σ s.1 w l S H n) (fun n s hn hs => ?_) (fun s hs => ?_) ⟨nI_0.symm, fun a ha => ?_, ?_, ?_, fun q hq => absurd hq (by omega)⟩) (fun v hv => ?_)
  · obtain ⟨z, x⟩ := s
    obtain ⟨ex, z0, z2, z3, zq⟩ := hs
    have ex : x = nI n := ex
    subst ex
    have z0 : ∀ a, a < 49 ∨ 51 < a → z.1 a = σ.1 a := z0
    have z2 : z.1 49 2 = nI (sp_n w 8) := z2
    have z3 : z.1 49 3 = nI (sp_n w 3 + yn_sum (yl_y w) n) := z3
    have zq : ∀ q, q < n → z.1 50 q = nI (yl_v w l q (S (sp_n w (49 + 5 * q))) (H (sp_n w (49 + 5 * q)))) ∧ z.1 51 q = yl_fst (yl_C w l q (S (sp_n w (49 + 5 * q)))) 30 := zq
    obtain ⟨⟨q1, q2⟩, -, -, -, -, -, ⟨y1, y2⟩⟩ := yl_p hW hn
    have zH : yH 1 z w := yH_c (fun a a1 a2 => z0 a (by omega)) hH
    have zS := hS _ q2
    show yp (BX3_reckon_24 z 49 1 d l (nI n)) _
    unfold BX3_reckon_24
    rw [show sn_I z 49 2 = _ from z2, if_neg (nI_ge hn (by omega)), nI_clamp (show n < 2 ^ 31 by omega)]
    refine yp_bd _ (yc_of hW zH hn 0 (by decide) nI_0.symm) (fun t2 h2 => ?_)
    rw [h2, show w (49 + 0 + 5 * n) = nI (sp_n w (49 + 5 * n)) from q1, nI_clamp (show sp_n w (49 + 5 * n) < 2 ^ 31 by omega), show sn_I z (d + 10) (sp_n w (49 + 5 * n)) = _ from (congrFun (z0 (d + 10) (by omega)) _).trans zS.1]
    refine yp_gd (fun _ => yp_lt (yp_bd _ (yc_of hW zH hn 4 (by decide) rfl) (fun t7 h7 => yp_lt (yp_gd (fun _ => ?_)))))
    obtain ⟨z9, e9⟩ : ∃ z9, z9 = sn_pI z 49 3 (sn_I z 49 3 + t7) := ⟨_, rfl⟩
    rw [← e9]
    have z9r : ∀ a, a ≠ 49 → z9.1 a = z.1 a := fun a ha => by rw [e9]; exact pI_ne ha
    have z9H : yH 1 z9 w := yH_c (fun a a1 a2 => (z9r a (by omega)).trans (z0 a (by omega))) hH
    rw [show sn_I z9 (d + 4) (sp_n w (49 + 5 * n)) = _ from (congrFun ((z9r (d + 4) (by omega)).trans (z0 (d + 4) (by omega))) _).trans zS.2]
    refine yp_bd _ (yc_claim hW z9H hn (hb _)) (fun t12 h12 => yp_gd (fun _ => yp_lt ?_))
    obtain ⟨zF, eF⟩ : ∃ zF, zF = sn_pI z9 (49 + 1) n t12 := ⟨_, rfl⟩
    rw [← eF]
    have zFr : ∀ a, a ≠ 50 → zF.1 a = z9.1 a := fun a ha => by rw [eF]; exact pI_ne ha
    have zFH : yH 1 zF w := yH_c (fun a a1 a2 => (zFr a (by omega)).trans ((z9r a (by omega)).trans (z0 a (by omega)))) hH
    refine yp_bd _ (yc_count hW zFH hn) (fun t17 h17 => ?_)
    rw [h17]
    refine yp_bd _ (yb_lowest (fun k h1 h2 => yl_Cs (hb _) (by omega) h2)) (fun t19 h19 => yp_gd (fun _ => yp_lt (yp_lt (yp_some ⟨nI_1 n, ?_⟩))))
    have e19 := yb_F1 h19 (yl_F _)
    refine ⟨fun a ha => (pI_ne (by omega)).trans ((zFr a (by omega)).trans ((z9r a (by omega)).trans (z0 a ha))), ?_, ?_, fun q hq => ?_⟩
    · refine (congrFun (pI_ne (by decide)) 2).trans ?_
      rw [zFr 49 (by decide), e9]
      exact (pI_slot (by decide)).trans z2
    · refine (congrFun (pI_ne (by decide)) 3).trans ?_
      rw [zFr 49 (by decide), e9]
      refine pI_self.trans ?_
      rw [show sn_I z 49 3 = _ from z3, h7, show w (49 + 4 + 5 * n) = nI (sp_n w (53 + 5 * n)) from y1, nI_add, Nat.add_assoc]
      rfl
    · by_cases e : q = n
      · subst e
        refine ⟨(congrFun (pI_ne (by decide)) q).trans ?_, pI_self.trans e19⟩
        rw [eF]
        exact pI_self.trans h12
      · refine ⟨(congrFun (pI_ne (by decide)) q).trans ?_, (pI_slot e).trans ?_⟩
        · rw [eF]
          refine (pI_slot e).trans ?_
          rw [z9r (49 + 1) (by decide)]
          exact (zq q (by omega)).1
        · rw [zFr (49 + 2) (by decide), z9r (49 + 2) (by decide)]
          exact (zq q (by omega)).2
  · obtain ⟨z, x⟩ := s
    obtain ⟨ex, hL⟩ := hs
    have ex : x = nI (sp_n w 8) := ex
    subst ex
    have hL : yl_LS σ z w l S H (sp_n w 8) := hL
    show yp (BX3_reckon_24 z 49 1 d l (nI (sp_n w 8))) _
    unfold BX3_reckon_24
    rw [show sn_I z 49 2 = _ from hL.2.1, if_pos (nI_le (Nat.le_refl _) (by omega))]
    exact yp_some hL
  · exact (pI_ne (by omega)).trans (pI_ne (by omega))
  · exact (pI_slot (by decide)).trans (pI_self.trans (yc_8 hW hH))
  · refine pI_self.trans ((congrFun (pI_ne (by decide)) _).trans ((hH.1 3 (by decide)).trans n3))
  · unfold BX3_reckon_115
    exact yp_some hv
def lx_g (w : Nat → Int32) (q : Nat) (s : Int64) : Bool := !decide (nI (yl_v w (w 2) q (dy_sn (lx_j w s) (sp_n w 0) (sp_n w (49 + 5 * q))) (yHh w (sp_n w (49 + 5 * q)))) ≤ 0)
def lx_n (w : Nat → Int32) (q : Nat) (a : Int32) : Nat → Nat
  | 0 => 0
  | n + 1 => lx_n w q a n + if lx_g w q (a.toInt64 + (nI n).toInt64) = true then 1 else 0
theorem lx_add {a : Int32} {n : Nat} (h : ¬ a < 0) (h2 : a ≤ 2000000000) (hn : n < 20) : (a + nI n).toInt64 = a.toInt64 + (nI n).toInt64 := by
  apply Int64.toInt_inj.mp
  have h1 : 0 ≤ a.toInt := by
    have := Int32.le_iff_toInt_le.mp (Int32.not_lt.mp h)
    simpa using this
  have h3 : a.toInt ≤ 2000000000 := by
    have := Int32.le_iff_toInt_le.mp h2
    rw [show (2000000000 : Int32).toInt = 2000000000 by decide] at this
    exact this
  have h4 := nI_toInt (show n < 2 ^ 31 by omega)
  rw [Int32.toInt_toInt64, Int32.toInt_add, Int64.toInt_add, Int32.toInt_toInt64, Int32.toInt_toInt64, h4, Int.bmod_eq_of_le (by omega) (by omega), Int.bmod_eq_of_le (by omega) (by omega)]
theorem yc_luck {a : Int32} {n : Nat} (hW : jW w) (hH : yH 1 σ w) (hD : yD σ w) (hq : q < sp_n w 8) (h0 : ¬ a < 0) (h1 : a ≤ 2000000000) (hn : n ≤ 20) : yp ((sn_it (LX8_luck_35 a (nI n) (nI q)) 5000 (σ, (0 : Int32), (0 : Int32))).bind fun t_9 => BX8_luck_95 t_9.1 t_9.2) (fun r => r.1 = nI (lx_n w q a n)) := by
  have c8 := (yl_8 hW).2
  have c0 := (yl_0 hW).2
  refine yp_bd (fun r => r.2 = nI (lx_n w q a n)) (yp_for n (fun k s => s.2.2 = nI k ∧ s.2.1 = nI (lx_n w q a k) ∧ ∀ b, (b < 38 ∨ 51 < b) → s.1.1 b = σ.1 b) (fun k s hk hs => ?_) (fun s hs => ?_) ⟨nI_0.symm, nI_0.symm, fun _ _ => rfl⟩) (fun r hr => ?_)
  · obtain ⟨z, x4, x5⟩ := s
    obtain ⟨ex, e4, hz⟩ := hs
    have ex : x5 = nI k := ex
    have e4 : x4 = _ := e4
    have hz : ∀ b, (b < 38 ∨ 51 < b) → z.1 b = σ.1 b := hz
    subst ex
    subst e4
    have zH : yH 1 z w := yH_c (fun b b1 b2 => hz b (by omega)) hH
    have zD : yD z w := yD_c (fun b b1 b2 => hz b (by omega)) hD
    show yp (BX8_luck_35 z a (nI n) (nI q) _ (nI k)) _
    unfold BX8_luck_35 BX8_luck_89
    rw [if_neg (nI_ge hk (by omega)), nI_clamp (show q < 2 ^ 31 by omega)]
    refine yp_bd _ (yc_drawn hW zH zD) (fun t ht => ?_)
    obtain ⟨tr, tT, tL⟩ := ht
    rw [lx_add h0 h1 (by omega)] at tT tL
    have tH : yH 1 t.2 w := yH_c (fun b b1 b2 => tr b (by omega)) zH
    rw [show sn_I t.2 (1 + 1) (2 : Int32).toNatClampNeg = w 2 from tH.1 2 (by decide)]
    refine yp_gd (fun _ => yp_bd _ (yc_reckonS (d := 38) (S := fun p => dy_sn (lx_j w (a.toInt64 + (nI k).toInt64)) (sp_n w 0) p) (H := yHh w) (by decide) hW tH (fun p hp => ⟨tL.2 p hp, (tT.2.2.2.2.1 p hp).2.2.1⟩) (fun p => yz_sbits c0) (w 2)) (fun v hv => yp_gd (fun _ => ?_)))
    have vr : ∀ b, (b < 38 ∨ 51 < b) → v.1 b = σ.1 b := fun b hb => (hv.1 b (by omega)).trans ((tr b (by omega)).trans (hz b hb))
    rw [show sn_I v (49 + 1) q = _ from (hv.2.2.2 q hq).1]
    have st : lx_n w q a (k + 1) = lx_n w q a k + if lx_g w q (a.toInt64 + (nI k).toInt64) = true then 1 else 0 := rfl
    refine yp_ite (fun c => yp_lt (yp_some ⟨nI_1 k, ?_, vr⟩)) (fun c => yp_lt (yp_lt (yp_some ⟨nI_1 k, ?_, vr⟩)))
    · have g : lx_g w q (a.toInt64 + (nI k).toInt64) = false := by unfold lx_g; rw [decide_eq_true c]; rfl
      rw [st, g, if_neg (by decide)]
      rfl
    · have g : lx_g w q (a.toInt64 + (nI k).toInt64) = true := by unfold lx_g; rw [decide_eq_false c]; rfl
      rw [st, g, if_pos rfl]
      exact nI_1 _
  · obtain ⟨z, x4, x5⟩ := s
    obtain ⟨ex, e4, hz⟩ := hs
    have ex : x5 = nI n := ex
    subst ex
    show yp (BX8_luck_35 z a (nI n) (nI q) x4 (nI n)) _
    unfold BX8_luck_35
    rw [if_pos (nI_le (Nat.le_refl _) (by omega))]
    exact yp_some e4
  · unfold BX8_luck_95
    exact yp_some hr
theorem ym_luck {a : Int32} {n : Nat} (hW : jW w) (hu : u.1 1 = w) (hq : q < sp_n w 8) (hn : n ≤ 20) : yp ((sn_it (LX9_luck_36 a (nI n) (nI q)) 5000 (u, (0 : Int32), (0 : Int32))).bind fun t_10 => BX9_luck_77 t_10.1 t_10.2) (fun r => r.1 = nI (lx_n w q a n)) := by
  have c0 := (yl_0 hW).2
  refine yp_bd (fun r => r.2 = nI (lx_n w q a n)) (yp_for n (fun k s => s.2.2 = nI k ∧ s.2.1 = nI (lx_n w q a k) ∧ s.1.1 1 = w) (fun k s hk hs => ?_) (fun s hs => ?_) ⟨nI_0.symm, nI_0.symm, hu⟩) (fun r hr => ?_)
  · obtain ⟨z, x4, x5⟩ := s
    obtain ⟨ex, e4, hz⟩ := hs
    have ex : x5 = nI k := ex
    have e4 : x4 = _ := e4
    have hz : z.1 1 = w := hz
    subst ex
    subst e4
    show yp (BX9_luck_36 z a (nI n) (nI q) _ (nI k)) _
    unfold BX9_luck_36 BX9_luck_68
    rw [if_neg (nI_ge hk (by omega))]
    refine yp_bd _ (ym_drawn hW hz) (fun t ht => yp_bd _ (ym_claimS hW hq ht (yz_sbits c0)) (fun r hr => ?_))
    have r1 : r.2.1 1 = w := (yX_fr hr.1 ht).1
    rw [hr.2]
    have st : lx_n w q a (k + 1) = lx_n w q a k + if lx_g w q (a.toInt64 + (nI k).toInt64) = true then 1 else 0 := rfl
    refine yp_ite (fun c => yp_lt (yp_lt (yp_some ⟨nI_1 k, ?_, r1⟩))) (fun c => yp_lt (yp_lt (yp_some ⟨nI_1 k, ?_, r1⟩)))
    · have c : nI (yl_v w (w 2) q (dy_sn (lx_j w (a.toInt64 + (nI k).toInt64)) (sp_n w 0) (sp_n w (49 + 5 * q))) (yHh w (sp_n w (49 + 5 * q)))) ≤ 0 := c
      have g : lx_g w q (a.toInt64 + (nI k).toInt64) = false := by unfold lx_g; rw [decide_eq_true c]; rfl
      show nI (lx_n w q a k) + (0 : Int32) = _
      rw [st, g, if_neg (by decide), Int32.add_zero]
      rfl
    · have c : ¬ nI (yl_v w (w 2) q (dy_sn (lx_j w (a.toInt64 + (nI k).toInt64)) (sp_n w 0) (sp_n w (49 + 5 * q))) (yHh w (sp_n w (49 + 5 * q)))) ≤ 0 := c
      have g : lx_g w q (a.toInt64 + (nI k).toInt64) = true := by unfold lx_g; rw [decide_eq_false c]; rfl
      show nI (lx_n w q a k) + (1 : Int32) = _
      rw [st, g, if_pos rfl]
      exact nI_1 _
  · obtain ⟨z, x4, x5⟩ := s
    obtain ⟨ex, e4, hz⟩ := hs
    have ex : x5 = nI n := ex
    subst ex
    show yp (BX9_luck_36 z a (nI n) (nI q) x4 (nI n)) _
    unfold BX9_luck_36
    rw [if_pos (nI_le (Nat.le_refl _) (by omega))]
    exact yp_some e4
  · unfold BX9_luck_77
    exact yp_some hr
theorem yz_64 {a n q : Int32} (hK : zK σ τ) : yr (fX8_luck σ a n q) (fX9_luck τ a n q) (fun r s => r.1 = s.1) := by
  have hW := hK.2.1.1
  have b8 := yl_8 hW
  have e8 : σ.1 2 8 = τ.1 1 8 := hK.2.1.2.1 8 (by decide)
  have cs : fX8_isSeed a = some (if (0 : Int32) ≤ a ∧ a ≤ 2000000000 then 1 else 0) := by
    unfold fX8_isSeed
    by_cases g1 : a < 0
    · rw [if_pos g1, if_neg (fun h => absurd g1 (Int32.not_lt.mpr h.1))]; rfl
    · by_cases g2 : (2000000000 : Int32) < a
      · rw [if_neg g1, if_pos g2, if_neg (fun h => absurd g2 (Int32.not_lt.mpr h.2))]; rfl
      · rw [if_neg g1, if_neg g2, if_pos ⟨Int32.not_lt.mp g1, Int32.not_lt.mp g2⟩]; rfl
  have ms : fX9_isSeed a = some (if (0 : Int32) ≤ a ∧ a ≤ 2000000000 then 1 else 0) := by
    unfold fX9_isSeed
    rw [show fX9_in a.toInt64 (0 : Int64) (2000000000 : Int64) = _ from in_eq32 a 0 2000000000]
    by_cases g : (0 : Int32) ≤ a ∧ a ≤ 2000000000
    · rw [if_pos g]; rfl
    · rw [if_neg g]; rfl
  have n1 : n < 1 ↔ ¬ (1 : Int32) ≤ n := by rw [Int32.not_le]
  unfold fX8_luck fX9_luck
  rw [c_isPolicy, e8, m_isPolicy (by rw [b8.1]; exact nI_pos' (by omega)), cs, ms, show fX9_in n.toInt64 (1 : Int64) (20 : Int64) = _ from in_eq32 n 1 20]
  by_cases c1 : 0 ≤ q ∧ q < τ.1 1 8
  · by_cases c2 : (0 : Int32) ≤ a ∧ a ≤ 2000000000
    · by_cases c3 : (1 : Int32) ≤ n ∧ n ≤ 20
      · rw [if_pos c1, if_pos c2, if_pos c3, if_neg (fun h => n1.mp h c3.1), if_pos c3.2]
        obtain ⟨k, hk, ek⟩ := yK_p (by omega) b8.1 c1
        obtain ⟨m, hm, em⟩ : ∃ m, m < 21 ∧ n = nI m := nI_idx (n := 21) (by decide) (Int32.le_trans (by decide) c3.1) (by
          have h := Int32.le_iff_toInt_le.mp c3.2
          rw [show (20 : Int32).toInt = 20 by decide] at h
          rw [Int32.lt_iff_toInt_lt, nI_toInt (by decide)]
          omega)
        subst ek
        subst em
        refine yr_eq2 (nI (lx_n (τ.1 1) k a m)) ?_ ?_
        · exact yp_bs rfl (yp_ite (fun h => absurd (show (1 : Int32) = 0 from h) (by decide)) (fun _ => yp_bs rfl (yp_ite (fun h => absurd (show (1 : Int32) = 0 from h) (by decide)) (fun _ => yc_luck hW hK.2.1.2 hK.2.2.2 hk (Int32.not_lt.mpr c2.1) c2.2 (by omega)))))
        · exact yp_bs rfl (yp_ite (fun h => absurd (show (1 : Int32) = 0 from h) (by decide)) (fun _ => yp_bs rfl (yp_ite (fun h => absurd (show (1 : Int32) = 0 from h) (by decide)) (fun _ => yp_bs rfl (yp_ite (fun h => absurd (show (1 : Int32) = 0 from h) (by decide)) (fun _ => ym_luck hW rfl hk (by omega)))))))
      · rw [if_pos c1, if_pos c2, if_neg c3]
        refine yr_eq2 (-2 : Int32) ?_ (yp_some rfl)
        refine yp_bs rfl (yp_ite (fun h => absurd (show (1 : Int32) = 0 from h) (by decide)) (fun _ => yp_bs rfl (yp_ite (fun h => absurd (show (1 : Int32) = 0 from h) (by decide)) (fun _ => yp_ite (fun _ => yp_some rfl) (fun d1 => yp_ite (fun d2 => ?_) (fun _ => yp_some rfl))))))
        exact absurd ⟨Int32.not_lt.mp d1, d2⟩ c3
    · rw [if_pos c1, if_neg c2]
      exact yr_eq2 (-2 : Int32) (yp_some rfl) (yp_some rfl)
  · rw [if_neg c1]
    refine yr_eq2 (-2 : Int32) (yp_some rfl) ?_
    by_cases c2 : (0 : Int32) ≤ a ∧ a ≤ 2000000000
    · by_cases c3 : (1 : Int32) ≤ n ∧ n ≤ 20
      · rw [if_pos c2, if_pos c3]
        exact yp_some rfl
      · rw [if_pos c2, if_neg c3]
        exact yp_some rfl
    · rw [if_neg c2]
      exact yp_some rfl
end
