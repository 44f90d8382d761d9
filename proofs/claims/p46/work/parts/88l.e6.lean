/-! the ledger, both sides -/
def yS (w : Nat → Int32) : Nat → Int32 := dy_sn (hs_day w) (sp_n w 0)
def yHh (w : Nat → Int32) : Nat → Int32 := fun p => hs_acts w 0 p (sp_n w 9)
def yl_o (w : Nat → Int32) (l : Int32) (q : Nat) : Nat := yl_v w l q (yS w (sp_n w (49 + 5 * q))) (yHh w (sp_n w (49 + 5 * q)))
def yl_y (w : Nat → Int32) (q : Nat) : Nat := sp_n w (53 + 5 * q)
def yl_L (σ z : sn_S) (w : Nat → Int32) (l : Int32) (n : Nat) : Prop := (∀ a, a < 49 ∨ 51 < a → z.1 a = σ.1 a) ∧ z.1 49 2 = nI (sp_n w 8) ∧ z.1 49 3 = nI (sp_n w 3 + yn_sum (yl_y w) n) ∧ ∀ q, q < n → z.1 50 q = nI (yl_o w l q) ∧ z.1 51 q = yl_fst (yl_C w l q (yS w (sp_n w (49 + 5 * q)))) 30
section
variable {σ τ u z : sn_S} {w : Nat → Int32} {q : Nat} {l : Int32}
theorem yl_Sb (hW : jW w) (p : Nat) : ∀ k, sp_n w 0 ≤ k → k < 32 → sp_bit (yS w p) k = false := yz_sbits (yl_0 hW).2
theorem yc_S (hD : yD σ w) {p : Nat} (hp : p < sp_n w 5) : σ.1 (27 + 10) p = yS w p ∧ σ.1 (27 + 4) p = yHh w p := ⟨hD.2.2.2 p hp, (hD.2.1.2.2.2.2.1 p hp).2.2.1⟩
theorem yc_reckon (hW : jW w) (hH : yH 1 σ w) (hD : yD σ w) (l : Int32) : yp (fX3_reckon σ 49 1 27 l) (fun z => yl_L σ z w l (sp_n w 8)) := by
  have c8 := (yl_8 hW).2
  have c5 := (yl_5 hW).2
  have c0 := (yl_0 hW).2
  obtain ⟨n3, -⟩ : yh_n w 3 999 := hW.1.2.2.2.1
  unfold fX3_reckon
  refine yp_gd (fun _ => yp_lt (yp_gd (fun _ => yp_lt ?_)))
  refine yp_bd (fun z => yl_L σ z w l (sp_n w 8)) (yp_for (sp_n w 8) (fun n s => s.2 = nI n ∧ yl_L σ s.1 w l n) (fun n s hn hs => ?_) (fun s hs => ?_) ⟨nI_0.symm, fun a ha => ?_, ?_, ?_, fun q hq => absurd hq (by omega)⟩) (fun v hv => ?_)
  · obtain ⟨z, x⟩ := s
    obtain ⟨ex, z0, z2, z3, zq⟩ := hs
    have ex : x = nI n := ex
    subst ex
    have z0 : ∀ a, a < 49 ∨ 51 < a → z.1 a = σ.1 a := z0
    have z2 : z.1 49 2 = nI (sp_n w 8) := z2
    have z3 : z.1 49 3 = nI (sp_n w 3 + yn_sum (yl_y w) n) := z3
    have zq : ∀ q, q < n → z.1 50 q = nI (yl_o w l q) ∧ z.1 51 q = yl_fst (yl_C w l q (yS w (sp_n w (49 + 5 * q)))) 30 := zq
    obtain ⟨⟨q1, q2⟩, -, -, -, -, -, ⟨y1, y2⟩⟩ := yl_p hW hn
    have zH : yH 1 z w := yH_c (fun a a1 a2 => z0 a (by omega)) hH
    have zS := yc_S hD q2
    show yp (BX3_reckon_24 z 49 1 27 l (nI n)) _
    unfold BX3_reckon_24
    rw [show sn_I z 49 2 = _ from z2, if_neg (nI_ge hn (by omega)), nI_clamp (show n < 2 ^ 31 by omega)]
    refine yp_bd _ (yc_of hW zH hn 0 (by decide) nI_0.symm) (fun t2 h2 => ?_)
    rw [h2, show w (49 + 0 + 5 * n) = nI (sp_n w (49 + 5 * n)) from q1, nI_clamp (show sp_n w (49 + 5 * n) < 2 ^ 31 by omega), show sn_I z (27 + 10) (sp_n w (49 + 5 * n)) = _ from (congrFun (z0 (27 + 10) (by omega)) _).trans zS.1]
    refine yp_gd (fun _ => yp_lt (yp_bd _ (yc_of hW zH hn 4 (by decide) rfl) (fun t7 h7 => yp_lt (yp_gd (fun _ => ?_)))))
    obtain ⟨z9, e9⟩ : ∃ z9, z9 = sn_pI z 49 3 (sn_I z 49 3 + t7) := ⟨_, rfl⟩
    rw [← e9]
    have z9r : ∀ a, a ≠ 49 → z9.1 a = z.1 a := fun a ha => by rw [e9]; exact pI_ne ha
    have z9H : yH 1 z9 w := yH_c (fun a a1 a2 => (z9r a (by omega)).trans (z0 a (by omega))) hH
    rw [show sn_I z9 (27 + 4) (sp_n w (49 + 5 * n)) = _ from (congrFun ((z9r (27 + 4) (by omega)).trans (z0 (27 + 4) (by omega))) _).trans zS.2]
    refine yp_bd _ (yc_claim hW z9H hn (yl_Sb hW _)) (fun t12 h12 => yp_gd (fun _ => yp_lt ?_))
    obtain ⟨zF, eF⟩ : ∃ zF, zF = sn_pI z9 (49 + 1) n t12 := ⟨_, rfl⟩
    rw [← eF]
    have zFr : ∀ a, a ≠ 50 → zF.1 a = z9.1 a := fun a ha => by rw [eF]; exact pI_ne ha
    have zFH : yH 1 zF w := yH_c (fun a a1 a2 => (zFr a (by omega)).trans ((z9r a (by omega)).trans (z0 a (by omega)))) hH
    refine yp_bd _ (yc_count hW zFH hn) (fun t17 h17 => ?_)
    rw [h17]
    refine yp_bd _ (yb_lowest (fun k h1 h2 => yl_Cs (yl_Sb hW _) (by omega) h2)) (fun t19 h19 => yp_gd (fun _ => yp_lt (yp_lt (yp_some ⟨nI_1 n, ?_⟩))))
    have e19 := yb_F1 h19 (yl_F _)
    refine ⟨fun a ha => (pI_ne (by omega)).trans ((zFr a (by omega)).trans ((z9r a (by omega)).trans (z0 a ha))), ?_, ?_, fun q hq => ?_⟩
    · refine (congrFun (pI_ne (by decide)) 2).trans ?_
      rw [zFr 49 (by decide), e9]
      exact (pI_slot (by decide)).trans z2
    · refine (congrFun (pI_ne (by decide)) 3).trans ?_
      rw [zFr 49 (by decide), e9]
      refine pI_self.trans ?_
      rw [show sn_I z 49 3 = _ from z3, h7, show w (49 + 4 + 5 * n) = nI (sp_n w (53 + 5 * n)) from y1, nI_add, Nat.add_assoc]
      rfl
    · by_cases e : q = n
      · subst e
        refine ⟨(congrFun (pI_ne (by decide)) q).trans ?_, pI_self.trans e19⟩
        rw [eF]
        exact pI_self.trans h12
      · refine ⟨(congrFun (pI_ne (by decide)) q).trans ?_, (pI_slot e).trans ?_⟩
        · rw [eF]
          refine (pI_slot e).trans ?_
          rw [z9r (49 + 1) (by decide)]
          exact (zq q (by omega)).1
        · rw [zFr (49 + 2) (by decide), z9r (49 + 2) (by decide)]
          exact (zq q (by omega)).2
  · obtain ⟨z, x⟩ := s
    obtain ⟨ex, hL⟩ := hs
    have ex : x = nI (sp_n w 8) := ex
    subst ex
    have hL : yl_L σ z w l (sp_n w 8) := hL
    show yp (BX3_reckon_24 z 49 1 27 l (nI (sp_n w 8))) _
    unfold BX3_reckon_24
    rw [show sn_I z 49 2 = _ from hL.2.1, if_pos (nI_le (Nat.le_refl _) (by omega))]
    exact yp_some hL
  · exact (pI_ne (by omega)).trans (pI_ne (by omega))
  · exact (pI_slot (by decide)).trans (pI_self.trans (yc_8 hW hH))
  · refine pI_self.trans ((congrFun (pI_ne (by decide)) _).trans ((hH.1 3 (by decide)).trans n3))
  · unfold BX3_reckon_115
    exact yp_some hv
theorem yc_now (hK : zK σ τ) : yp (fX8_ledgerNow σ) (fun z => yl_L σ z (τ.1 1) ((τ.1 1) 2) (sp_n (τ.1 1) 8)) := by
  unfold fX8_ledgerNow
  rw [show sn_I σ (1 + 1) (2 : Int32).toNatClampNeg = τ.1 1 2 from hK.2.1.2.1 2 (by decide)]
  exact yp_gd (fun _ => yp_bd _ (yc_reckon hK.2.1.1 hK.2.1.2 hK.2.2.2 _) (fun z hz => yp_some hz))
theorem ym_claim_ (hW : jW w) (hq : q < sp_n w 8) (hX : yX u w l (yS w) (yHh w)) : yp (fX9_claimOf_ u (nI q)) (fun r => yl_fr u r.2 ∧ r.2.1 0 30 = yl_fst (yl_C w l q (yS w (sp_n w (49 + 5 * q)))) 30 ∧ r.1 = nI (yl_o w l q)) := by
  obtain ⟨⟨q1, q2⟩, -⟩ := yl_p hW hq
  unfold fX9_claimOf_
  refine yp_bd _ (ym_of hW hX.1 hq 0 (by decide) nI_0.symm) (fun t ht => ?_)
  rw [ht, show w (49 + 0 + 5 * q) = nI (sp_n w (49 + 5 * q)) from q1]
  exact yp_bd _ (ym_claim hW hq q2 hX (yl_Sb hW _)) (fun r hr => yp_some ⟨hr.1, hr.2.1, hr.2.2.1⟩)
theorem ym_X (hW : jW w) (h : yM τ u w) : yX u w (w 2) (yS w) (yHh w) := by
  have c5 := (yl_5 hW).2
  exact ⟨h.1, fun p hp => ⟨yz_msn hW h hp, (h.2.2.2.2.2.2.2.2.1 p (by omega)).1⟩, h.2.2.1, h.2.2.2.2.1, yM_22 h⟩
/-! calls that change the ledger -/
theorem yz_go2 {σ0 : sn_S} {v x0 : Int32} {A : Option (Int32 × sn_S)} {Q : sn_S → Prop} {X : Option (Int32 × sn_S)} {Y : Int32 × sn_S → Option (Int32 × sn_S)} (hA : yp A (fun r => r.1 = v ∧ Q r.2)) (h : v ≠ 0 → ∀ u, Q u → yr X (Y (v, u)) (fun r s => r.1 = s.1)) : yr ((some v).bind fun t => if t = 0 then some (x0, σ0) else X) (A.bind fun t => if t.1 = 0 then some (x0, t.2) else Y t) (fun r s => r.1 = s.1) := by
  intro r s e1 e2
  obtain ⟨⟨v2, u⟩, e3, e4⟩ := sn_bd e2
  obtain ⟨hv, hu⟩ := hA _ e3
  have hv : v2 = v := hv
  subst hv
  have e1 : (if v2 = 0 then some (x0, σ0) else X) = some r := e1
  have e4 : (if v2 = 0 then some (x0, u) else Y (v2, u)) = some s := e4
  by_cases c : v2 = 0
  · rw [if_pos c] at e1 e4
    cases e1
    cases e4
    rfl
  · rw [if_neg c] at e1 e4
    exact h c u hu r s e1 e4
theorem yz_min2 {a x0 : Int32} {X : Option (Int32 × sn_S)} {Y : Int32 × sn_S → Option (Int32 × sn_S)} (hK : zK σ τ) (h : ∀ m v u, m < sp_n (τ.1 1) 0 → a = nI m → yM τ u (τ.1 1) → yr X (Y (v, u)) (fun r s => r.1 = s.1)) : yr ((fX8_isMinute σ a).bind fun t => if t = 0 then some (x0, σ) else X) ((fX9_asksMinute τ a).bind fun t => if t.1 = 0 then some (x0, t.2) else Y t) (fun r s => r.1 = s.1) := by
  obtain ⟨-, -, ⟨p1, p2, p3⟩⟩ := yK_n hK
  rw [c_isMinute, p1]
  refine yz_go2 (Q := fun z => yM τ z (τ.1 1)) (ym_askM rfl hK.2.1.1) (fun c u hu => ?_)
  obtain ⟨p, hp, ep⟩ := yK_p (by omega) p2 (yz_if c)
  exact h p _ u hp ep hu
theorem yz_pol2 {a x0 : Int32} {X : Option (Int32 × sn_S)} {Y : Int32 × sn_S → Option (Int32 × sn_S)} (hK : zK σ τ) (h : ∀ q v u, q < sp_n (τ.1 1) 8 → a = nI q → yM τ u (τ.1 1) → yr X (Y (v, u)) (fun r s => r.1 = s.1)) : yr ((fX8_isPolicy σ a).bind fun t => if t = 0 then some (x0, σ) else X) ((fX9_asksPolicy τ a).bind fun t => if t.1 = 0 then some (x0, t.2) else Y t) (fun r s => r.1 = s.1) := by
  have b := yl_8 hK.2.1.1
  have l := b.2
  rw [c_isPolicy, show σ.1 2 8 = τ.1 1 8 from hK.2.1.2.1 8 (by decide)]
  refine yz_go2 (Q := fun z => yM τ z (τ.1 1)) (ym_askQ rfl hK.2.1.1) (fun c u hu => ?_)
  obtain ⟨p, hp, ep⟩ := yK_p (by omega) b.1 (yz_if c)
  exact h p _ u hp ep hu
theorem yk_hv (hK : zK σ τ) : fX8_isHouse σ = some (if 0 < sp_n (τ.1 1) 10 then 1 else 0) := by
  have b := hK.2.1.1.1.2.2.2.2.2.2.2.2.2.2
  have l := b.2
  have e10 : σ.1 2 10 = nI (sp_n (τ.1 1) 10) := (hK.2.1.2.1 10 (by decide)).trans b.1
  rw [yk_isHouse, e10]
  by_cases c : 0 < sp_n (τ.1 1) 10
  · rw [if_neg (nI_nle c (by omega)), if_pos c]
  · have : sp_n (τ.1 1) 10 = 0 := by omega
    rw [this, if_pos (show nI 0 ≤ 0 by decide), if_neg (by decide)]
theorem yz_house2 {x0 : Int32} {X : Option (Int32 × sn_S)} {Y : Int32 × sn_S → Option (Int32 × sn_S)} (hK : zK σ τ) (h : ∀ v u, 0 < sp_n (τ.1 1) 10 → yM τ u (τ.1 1) → yr X (Y (v, u)) (fun r s => r.1 = s.1)) : yr ((fX8_isHouse σ).bind fun t => if t = 0 then some (x0, σ) else X) ((fX9_asksHouse τ).bind fun t => if t.1 = 0 then some (x0, t.2) else Y t) (fun r s => r.1 = s.1) := by
  rw [yk_hv hK]
  refine yz_go2 (Q := fun z => yM τ z (τ.1 1)) (ym_asks rfl hK.2.1.1) (fun c u hu => ?_)
  refine h _ u ?_ hu
  by_cases g : 0 < sp_n (τ.1 1) 10
  · exact g
  · rw [if_neg g] at c
    exact absurd rfl c
theorem yr_eq2 {X Y : Option (Int32 × sn_S)} (v : Int32) (hx : yp X (fun r => r.1 = v)) (hy : yp Y (fun s => s.1 = v)) : yr X Y (fun r s => r.1 = s.1) := yr_of hx hy (fun _ _ a b => a.trans b.symm)
theorem yz_24 {a : Int32} (hK : zK σ τ) : yr (fX8_profit σ a) (fX9_profit τ a) (fun r s => r.1 = s.1) := by
  have hW := hK.2.1.1
  have c8 := (yl_8 hW).2
  unfold fX8_profit fX9_profit
  refine yz_pol2 hK (fun q v u hq ea hM => ?_)
  subst ea
  rw [nI_clamp (show q < 2 ^ 31 by omega)]
  refine yr_eq2 (τ.1 1 (49 + 4 + 5 * q) - nI (yl_o (τ.1 1) ((τ.1 1) 2) q)) ?_ ?_
  · refine yp_bd _ (yc_of hW hK.2.1.2 hq 4 (by decide) rfl) (fun t4 h4 => yp_bd _ (yc_now hK) (fun z hz => yp_gd (fun _ => yp_some ?_)))
    show t4 - z.1 (49 + 1) q = _
    rw [h4, show z.1 (49 + 1) q = _ from (hz.2.2.2 q hq).1]
  · refine yp_bd _ (ym_of hW hM.1 hq 4 (by decide) rfl) (fun t4 h4 => yp_bd _ (ym_claim_ hW hq (ym_X hW hM)) (fun r hr => yp_some ?_))
    show t4 - r.1 = _
    rw [h4, hr.2.2]
theorem yz_31 {a : Int32} (hK : zK σ τ) : yr (fX8_claim σ a) (fX9_claim τ a) (fun r s => r.1 = s.1) := by
  have hW := hK.2.1.1
  have c8 := (yl_8 hW).2
  unfold fX8_claim fX9_claim
  refine yz_pol2 hK (fun q v u hq ea hM => ?_)
  subst ea
  rw [nI_clamp (show q < 2 ^ 31 by omega)]
  exact yr_eq2 (nI (yl_o (τ.1 1) ((τ.1 1) 2) q)) (yp_bd _ (yc_now hK) (fun z hz => yp_gd (fun _ => yp_some (hz.2.2.2 q hq).1))) (yp_bd _ (ym_claim_ hW hq (ym_X hW hM)) (fun r hr => yp_some hr.2.2))
theorem yz_32 {a : Int32} (hK : zK σ τ) : yr (fX8_paid σ a) (fX9_paid τ a) (fun r s => r.1 = s.1) := by
  have hW := hK.2.1.1
  have c8 := (yl_8 hW).2
  unfold fX8_paid fX9_paid
  refine yz_pol2 hK (fun q v u hq ea hM => ?_)
  subst ea
  rw [nI_clamp (show q < 2 ^ 31 by omega)]
  exact yr_eq2 _ (yp_bd _ (yc_now hK) (fun z hz => yp_gd (fun _ => yp_some (hz.2.2.2 q hq).2))) (yp_bd _ (ym_claim_ hW hq (ym_X hW hM)) (fun r hr => yp_some hr.2.1))
theorem yz_33 (hK : zK σ τ) : yr (fX8_claims σ) (fX9_claims τ) (fun r s => r.1 = s.1) := by
  have hW := hK.2.1.1
  have c8 := (yl_8 hW).2
  unfold fX8_claims fX9_claims
  refine yz_house2 hK (fun v u h10 hM => ?_)
  obtain ⟨f, hf⟩ : ∃ f : Nat → Bool, ∀ q, f q = !decide (nI (yl_o (τ.1 1) ((τ.1 1) 2) q) ≤ 0) := ⟨_, fun _ => rfl⟩
  refine yr_eq2 (dy_set f (sp_n (τ.1 1) 8)) ?_ ?_
  · refine yp_bd _ (yc_now hK) (fun z hz => ?_)
    obtain ⟨z0, z2, z3, zq⟩ := hz
    refine yp_bd (fun v => v = dy_set f (sp_n (τ.1 1) 8)) (yp_for (sp_n (τ.1 1) 8) (fun k s => s.2 = nI k ∧ s.1 = dy_set f k) (fun k s hk hs => ?_) (fun s hs => ?_) ⟨nI_0.symm, rfl⟩) (fun v hv => ?_)
    · obtain ⟨v, x⟩ := s
      obtain ⟨ex, ev⟩ := hs
      have ex : x = nI k := ex
      have ev : v = _ := ev
      subst ex
      subst ev
      show yp (BX8_claims_19 z _ (nI k)) _
      unfold BX8_claims_19 BX8_claims_42
      rw [show sn_I z 49 2 = _ from z2, if_neg (nI_ge hk (by omega)), nI_clamp (show k < 2 ^ 31 by omega), show sn_I z (49 + 1) k = _ from (zq k hk).1]
      refine yp_gd (fun _ => yp_ite (fun c => yp_lt (yp_some ⟨nI_1 k, dy_s0 ?_⟩)) (fun c => yp_lt (yp_lt (yp_some ⟨nI_1 k, dy_s1 ?_⟩))))
      · rw [hf k, decide_eq_true c]; rfl
      · rw [hf k, decide_eq_false c]; rfl
    · obtain ⟨v, x⟩ := s
      obtain ⟨ex, ev⟩ := hs
      have ex : x = nI (sp_n (τ.1 1) 8) := ex
      subst ex
      show yp (BX8_claims_19 z v (nI (sp_n (τ.1 1) 8))) _
      unfold BX8_claims_19
      rw [show sn_I z 49 2 = _ from z2, if_pos (nI_le (Nat.le_refl _) (by omega))]
      exact yp_some ev
    · unfold BX8_claims_48
      exact yp_some hv
  · refine yp_bd (fun r => r.2 = dy_set f (sp_n (τ.1 1) 8)) (yp_for (sp_n (τ.1 1) 8) (fun k s => s.2.2 = nI k ∧ s.2.1 = dy_set f k ∧ yl_fr u s.1) (fun k s hk hs => ?_) (fun s hs => ?_) ⟨nI_0.symm, rfl, yl_fr0⟩) (fun v hv => ?_)
    · obtain ⟨z, v, x⟩ := s
      obtain ⟨ex, ev, hz⟩ := hs
      have ex : x = nI k := ex
      have ev : v = _ := ev
      have hz : yl_fr u z := hz
      subst ex
      subst ev
      have hX := yX_fr hz (ym_X hW hM)
      show yp (BX9_claims_14 z _ (nI k)) _
      unfold BX9_claims_14 BX9_claims_41
      rw [ym_8 hW hX.1, if_neg (nI_ge hk (by omega))]
      refine yp_gd (fun _ => yp_bd _ (ym_claim_ hW hk hX) (fun r hr => ?_))
      rw [hr.2.2]
      refine yp_ite (fun c => yp_lt (yp_lt (yp_some ⟨nI_1 k, (yb_or0 _).trans (dy_s0 ?_), yl_frt hz hr.1⟩))) (fun c => yp_lt (yp_lt (yp_some ⟨nI_1 k, dy_s1 ?_, yl_frt hz hr.1⟩)))
      · rw [hf k, decide_eq_true c]; rfl
      · rw [hf k, decide_eq_false c]; rfl
    · obtain ⟨z, v, x⟩ := s
      obtain ⟨ex, ev, hz⟩ := hs
      have ex : x = nI (sp_n (τ.1 1) 8) := ex
      have hz : yl_fr u z := hz
      subst ex
      have hX := yX_fr hz (ym_X hW hM)
      show yp (BX9_claims_14 z v (nI (sp_n (τ.1 1) 8))) _
      unfold BX9_claims_14
      rw [ym_8 hW hX.1, if_pos (nI_le (Nat.le_refl _) (by omega))]
      exact yp_gd (fun _ => yp_some ev)
    · unfold BX9_claims_49
      exact yp_some hv
theorem yz_36 (hK : zK σ τ) : yr (fX8_dear σ) (fX9_dear τ) (fun r s => r.1 = s.1) := by
  have hW := hK.2.1.1
  have c8 := (yl_8 hW).2
  unfold fX8_dear fX9_dear
  refine yz_house2 hK (fun v u h10 hM => ?_)
  obtain ⟨f, hf⟩ : ∃ f : Nat → Int32, ∀ q, f q = nI (yl_o (τ.1 1) ((τ.1 1) 2) q) - τ.1 1 (49 + 4 + 5 * q) := ⟨_, fun _ => rfl⟩
  have k1 : ∀ k, yz_wo f (k + 1) = if f k ≤ (yz_wo f k).2 then yz_wo f k else (nI k, f k) := fun k => rfl
  refine yr_eq2 (yz_wo f (sp_n (τ.1 1) 8)).1 ?_ ?_
  · refine yp_bd _ (yc_now hK) (fun z hz => ?_)
    obtain ⟨z0, z2, z3, zq⟩ := hz
    have zH : yH 1 z (τ.1 1) := yH_c (fun a a1 a2 => z0 a (by omega)) hK.2.1.2
    refine yp_bd (fun v => v = (yz_wo f (sp_n (τ.1 1) 8)).1) (yp_for (sp_n (τ.1 1) 8) (fun k s => s.2.2 = nI k ∧ s.1 = (yz_wo f k).1 ∧ s.2.1 = (yz_wo f k).2) (fun k s hk hs => ?_) (fun s hs => ?_) ⟨nI_0.symm, rfl, rfl⟩) (fun v hv => ?_)
    · obtain ⟨b, c, x⟩ := s
      obtain ⟨ex, eb, ec⟩ := hs
      have ex : x = nI k := ex
      have eb : b = _ := eb
      have ec : c = _ := ec
      subst ex
      subst eb
      subst ec
      show yp (BX8_dear_22 z _ _ (nI k)) _
      unfold BX8_dear_22 BX8_dear_63
      rw [show sn_I z 49 2 = _ from z2, if_neg (nI_ge hk (by omega)), nI_clamp (show k < 2 ^ 31 by omega), show sn_I z (49 + 1) k = _ from (zq k hk).1]
      refine yp_gd (fun _ => yp_bd _ (yc_of hW zH hk 4 (by decide) rfl) (fun t ht => yp_lt ?_))
      rw [ht, ← hf k]
      refine yp_ite (fun c => yp_lt (yp_some ⟨nI_1 k, ?_, ?_⟩)) (fun c => yp_lt (yp_some ⟨nI_1 k, ?_, ?_⟩))
      · rw [k1, if_pos c]
      · rw [k1, if_pos c]
      · rw [k1, if_neg c]
      · rw [k1, if_neg c]
    · obtain ⟨b, c, x⟩ := s
      obtain ⟨ex, eb, ec⟩ := hs
      have ex : x = nI (sp_n (τ.1 1) 8) := ex
      subst ex
      show yp (BX8_dear_22 z b c (nI (sp_n (τ.1 1) 8))) _
      unfold BX8_dear_22
      rw [show sn_I z 49 2 = _ from z2, if_pos (nI_le (Nat.le_refl _) (by omega))]
      exact yp_some eb
    · unfold BX8_dear_69
      exact yp_some hv
  · refine yp_bd (fun r => r.2 = (yz_wo f (sp_n (τ.1 1) 8)).1) (yp_for (sp_n (τ.1 1) 8) (fun k s => s.2.2.2 = nI k ∧ s.2.1 = (yz_wo f k).1 ∧ s.2.2.1 = (yz_wo f k).2 ∧ yl_fr u s.1) (fun k s hk hs => ?_) (fun s hs => ?_) ⟨nI_0.symm, rfl, rfl, yl_fr0⟩) (fun v hv => ?_)
    · obtain ⟨z, b, c, x⟩ := s
      obtain ⟨ex, eb, ec, hz⟩ := hs
      have ex : x = nI k := ex
      have eb : b = _ := eb
      have ec : c = _ := ec
      have hz : yl_fr u z := hz
      subst ex
      subst eb
      subst ec
      have hX := yX_fr hz (ym_X hW hM)
      show yp (BX9_dear_16 z _ _ (nI k)) _
      unfold BX9_dear_16 BX9_dear_55
      rw [ym_8 hW hX.1, if_neg (nI_ge hk (by omega))]
      refine yp_gd (fun _ => yp_bd _ (ym_claim_ hW hk hX) (fun r hr => yp_bd _ (ym_of hW (yX_fr hr.1 hX).1 hk 4 (by decide) rfl) (fun t ht => yp_lt ?_)))
      rw [ht, hr.2.2, ← hf k]
      refine yp_ite (fun c => yp_lt (yp_some ⟨nI_1 k, ?_, ?_, yl_frt hz hr.1⟩)) (fun c => yp_lt (yp_some ⟨nI_1 k, ?_, ?_, yl_frt hz hr.1⟩))
      · rw [k1, if_neg (Int32.not_le.mpr c)]
      · rw [k1, if_neg (Int32.not_le.mpr c)]
      · rw [k1, if_pos (Int32.not_lt.mp c)]
      · rw [k1, if_pos (Int32.not_lt.mp c)]
    · obtain ⟨z, b, c, x⟩ := s
      obtain ⟨ex, eb, ec, hz⟩ := hs
      have ex : x = nI (sp_n (τ.1 1) 8) := ex
      have hz : yl_fr u z := hz
      subst ex
      have hX := yX_fr hz (ym_X hW hM)
      show yp (BX9_dear_16 z b c (nI (sp_n (τ.1 1) 8))) _
      unfold BX9_dear_16
      rw [ym_8 hW hX.1, if_pos (nI_le (Nat.le_refl _) (by omega))]
      exact yp_gd (fun _ => yp_some eb)
    · unfold BX9_dear_61
      exact yp_some hv
end
