/-! money at the end of a day -/
def yl_E (w : Nat → Int32) (l : Int32) : Int32 := nI (sp_n w 3 + yn_sum (yl_y w) (sp_n w 8)) - nI (yn_sum (yl_o w l) (sp_n w 8))
/-- the best of the first n by f: greatest, the first of such -/
def yl_b (f : Nat → Int32) : Nat → Nat
  | 0 => 0
  | n + 1 => if f n ≤ f (yl_b f n) then yl_b f n else n
theorem yl_blt (f : Nat → Int32) : ∀ n, 0 < n → yl_b f n < n := by
  intro n
  induction n with
  | zero => intro h; exact absurd h (by omega)
  | succ n ih =>
    intro _
    show (if f n ≤ f (yl_b f n) then yl_b f n else n) < n + 1
    by_cases c : f n ≤ f (yl_b f n)
    · rw [if_pos c]
      rcases Nat.eq_zero_or_pos n with e | e
      · subst e; exact Nat.zero_lt_one
      · have := ih e; omega
    · rw [if_neg c]; omega
theorem yl_b1 (f : Nat → Int32) : yl_b f 1 = 0 := by
  show (if f 0 ≤ f (yl_b f 0) then yl_b f 0 else 0) = 0
  by_cases c : f 0 ≤ f (yl_b f 0)
  · rw [if_pos c]; rfl
  · rw [if_neg c]
theorem yn_sum0 : ∀ n, yn_sum (fun _ => 0) n = 0 := by
  intro n
  induction n with
  | zero => rfl
  | succ n ih => exact ih
theorem yn_mono (f : Nat → Nat) {m : Nat} : ∀ n, m ≤ n → yn_sum f m ≤ yn_sum f n := by
  intro n
  induction n with
  | zero => intro h; have : m = 0 := by omega
            subst this; exact Nat.le_refl _
  | succ n ih =>
    intro h
    show _ ≤ yn_sum f n + f n
    by_cases e : m = n + 1
    · subst e; exact Nat.le_refl _
    · have := ih (by omega); omega
theorem yi_subI {a b : Nat} (ha : a < 2 ^ 30) (hb : b < 2 ^ 30) : (nI a - nI b).toInt = (a : Int) - b := by
  rw [Int32.toInt_sub, nI_toInt (by omega), nI_toInt (by omega), Int.bmod_eq_of_le (by omega) (by omega)]
section
variable {σ τ u z : sn_S} {w : Nat → Int32} {q : Nat} {l : Int32}
theorem yl_v0 {s h : Int32} (e : yl_fst (yl_C w l q s) 30 = -1) : yl_v w l q s h = 0 := by
  have : yb_pop (yl_C w l q s) 30 = 0 := by
    rcases yl_F0 (yl_C w l q s) 30 (by decide) with ⟨-, g⟩ | ⟨k, k1, k2, k3, k4⟩
    · exact yb_popz 30 g
    · exact absurd (k4.symm.trans e) (yl_ne (by omega))
  unfold yl_v
  rw [this, Nat.min_zero, Nat.zero_mul]
theorem yl_fM {s : Int32} {k : Nat} (hs : ∀ k, sp_n w 0 ≤ k → k < 32 → sp_bit s k = false) (hk : k < 30) (e : yl_fst (yl_C w l q s) 30 = nI k) : k < sp_n w 0 := by
  rcases yl_F0 (yl_C w l q s) 30 (by decide) with ⟨g, -⟩ | ⟨j, k1, k2, k3, k4⟩
  · exact absurd (e.symm.trans g) (yl_ne (by omega))
  · have : j = k := (nI_eq (by omega) (by omega)).mp (k4.symm.trans e)
    subst this
    rcases Nat.lt_or_ge j (sp_n w 0) with c | c
    · exact c
    · rw [yl_Cs hs c (by omega)] at k2; cases k2
theorem yc_money (hW : jW w) (hL : yl_L σ z w l (sp_n w 8)) : yp (fX3_moneyAt z 49 (nI (sp_n w 0) - 1)) (fun v => v = yl_E w l) := by
  have c8 := (yl_8 hW).2
  have c0 := (yl_0 hW).2
  obtain ⟨z0, z2, z3, zq⟩ := hL
  unfold fX3_moneyAt
  refine yp_lt ?_
  rw [show sn_I z 49 3 = _ from z3]
  obtain ⟨A, hA⟩ : ∃ A, A = sp_n w 3 + yn_sum (yl_y w) (sp_n w 8) := ⟨_, rfl⟩
  rw [← hA]
  refine yp_bd (fun v => v = yl_E w l) (yp_for (sp_n w 8) (fun n s => s.2 = nI n ∧ s.1 = nI A - nI (yn_sum (yl_o w l) n)) (fun n s hn hs => ?_) (fun s hs => ?_) ⟨nI_0.symm, ?_⟩) (fun v hv => ?_)
  · obtain ⟨v, x⟩ := s
    obtain ⟨ex, ev⟩ := hs
    have ex : x = nI n := ex
    have ev : v = _ := ev
    subst ex
    subst ev
    have hq := zq n hn
    have fin : ∀ v, v = nI A - nI (yn_sum (yl_o w l) (n + 1)) → yp (BX3_moneyAt_44 z 49 (nI (sp_n w 0) - 1) v (nI n)) (yp_sum (fun s : Int32 × Int32 => s.2 = nI (n + 1) ∧ s.1 = nI A - nI (yn_sum (yl_o w l) (n + 1))) (fun _ => False)) := fun v hv => by
      unfold BX3_moneyAt_44
      exact yp_lt (yp_some ⟨nI_1 n, hv⟩)
    show yp (BX3_moneyAt_7 z 49 (nI (sp_n w 0) - 1) _ (nI n)) _
    unfold BX3_moneyAt_7
    rw [show sn_I z 49 2 = _ from z2, if_neg (nI_ge hn (by omega)), nI_clamp (show n < 2 ^ 31 by omega), show sn_I z (49 + 2) n = _ from hq.2, show sn_I z (49 + 1) n = _ from hq.1]
    refine yp_gd (fun _ => yp_ite (fun c => fin _ ?_) (fun c => yp_gd (fun _ => yp_ite (fun c2 => ?_) (fun c2 => yp_gd (fun _ => yp_lt (fin _ ?_))))))
    · have : yl_o w l n = 0 := yl_v0 c
      show _ = nI A - nI (yn_sum (yl_o w l) n + yl_o w l n)
      rw [this]
      rfl
    · rcases yl_F0 (yl_C w l n (yS w (sp_n w (49 + 5 * n)))) 30 (by decide) with ⟨g, -⟩ | ⟨k, k1, k2, k3, k4⟩
      · exact absurd g c
      · have := yl_fM (yl_Sb hW _) k1 k4
        rw [k4] at c2
        have := (yi_last c0 (by omega)).mp c2
        omega
    · rw [Int32.sub_sub, nI_add]
      rfl
  · obtain ⟨v, x⟩ := s
    obtain ⟨ex, ev⟩ := hs
    have ex : x = nI (sp_n w 8) := ex
    subst ex
    show yp (BX3_moneyAt_7 z 49 (nI (sp_n w 0) - 1) v (nI (sp_n w 8))) _
    unfold BX3_moneyAt_7
    rw [show sn_I z 49 2 = _ from z2, if_pos (nI_le (Nat.le_refl _) (by omega))]
    refine yp_some ?_
    unfold yl_E
    rw [← hA]
    exact ev
  · show nI A = nI A - nI 0
    rw [nI_0, Int32.sub_zero]
  · unfold BX3_moneyAt_50
    exact yp_some hv
theorem yc_end (hW : jW w) (hH : yH 1 σ w) (hD : yD σ w) (l : Int32) : yp (fX8_moneyInTheEnd σ l) (fun r => r.1 = yl_E w l ∧ ∀ a, a < 49 ∨ 51 < a → r.2.1 a = σ.1 a) := by
  unfold fX8_moneyInTheEnd
  refine yp_bd _ (yc_reckon hW hH hD l) (fun z hz => ?_)
  rw [show sn_I z 27 0 = nI (sp_n w 0) from (congrFun (hz.1 27 (by omega)) 0).trans hD.1]
  exact yp_bd _ (yc_money hW hz) (fun v hv => yp_some ⟨hv, hz.1⟩)
/-! the reference's -/
theorem ym_lay (hW : jW w) (hX : yX u w l (yS w) (yHh w)) : yp (fX9_layPaid u) (fun z => yl_fr u z ∧ ∃ c : Nat → Nat, (∀ m, m < 30 → z.1 16 m = nI (c m)) ∧ yn_sum c (sp_n w 0) = yn_sum (yl_o w l) (sp_n w 8)) := by
  have c8 := (yl_8 hW).2
  have c0 := (yl_0 hW).2
  unfold fX9_layPaid
  refine yp_bd (fun z : sn_S => yl_fr u z ∧ ∀ m, m < 30 → z.1 16 m = 0) (yp_for 30 (fun k s => s.2 = nI k ∧ yl_fr u s.1 ∧ ∀ m, m < k → s.1.1 16 m = 0) (fun k s hk hs => ?_) (fun s hs => ?_) ⟨nI_0.symm, yl_fr0, fun m hm => absurd hm (by omega)⟩) (fun z hz => ?_)
  · obtain ⟨z, x⟩ := s
    obtain ⟨ex, hf, h0⟩ := hs
    have ex : x = nI k := ex
    have hf : yl_fr u z := hf
    have h0 : ∀ m, m < k → z.1 16 m = 0 := h0
    subst ex
    show yp (BX9_layPaid_2 z (nI k)) _
    unfold BX9_layPaid_2
    rw [if_neg (show ¬ (30 : Int32) ≤ nI k from nI_ge (b := 30) hk (by decide)), nI_clamp (show k < 2 ^ 31 by omega)]
    refine yp_gd (fun _ => yp_lt (yp_lt (yp_some ⟨nI_1 k, yl_frt hf ⟨fun a h1 h2 => pI_ne h2, fun j _ => congrFun (pI_ne (by decide)) j⟩, fun m hm => ?_⟩)))
    by_cases e : m = k
    · subst e; exact pI_self
    · exact (pI_slot e).trans (h0 m (by omega))
  · obtain ⟨z, x⟩ := s
    obtain ⟨ex, hf⟩ := hs
    have ex : x = nI 30 := ex
    subst ex
    show yp (BX9_layPaid_2 z (nI 30)) _
    unfold BX9_layPaid_2
    rw [if_pos (show (30 : Int32) ≤ nI 30 by decide)]
    exact yp_some hf
  · unfold BX9_layPaid_21
    refine yp_bd (fun z => yl_fr u z ∧ ∃ c : Nat → Nat, (∀ m, m < 30 → z.1 16 m = nI (c m)) ∧ yn_sum c (sp_n w 0) = yn_sum (yl_o w l) (sp_n w 8)) (yp_for (sp_n w 8) (fun n s => s.2 = nI n ∧ yl_fr u s.1 ∧ ∃ c : Nat → Nat, (∀ m, m < 30 → s.1.1 16 m = nI (c m)) ∧ yn_sum c (sp_n w 0) = yn_sum (yl_o w l) n) (fun n s hn hs => ?_) (fun s hs => ?_) ⟨nI_0.symm, hz.1, fun _ => 0, fun m hm => (hz.2 m hm).trans nI_0.symm, yn_sum0 _⟩) (fun v hv => ?_)
    · obtain ⟨z, x⟩ := s
      obtain ⟨ex, hf, c, hc, hcs⟩ := hs
      have ex : x = nI n := ex
      have hf : yl_fr u z := hf
      have hc : ∀ m, m < 30 → z.1 16 m = nI (c m) := hc
      subst ex
      obtain ⟨⟨q1, q2⟩, -⟩ := yl_p hW hn
      have hZ := yX_fr hf hX
      show yp (BX9_layPaid_23 z (nI n)) _
      unfold BX9_layPaid_23
      rw [ym_8 hW hZ.1, if_neg (nI_ge hn (by omega))]
      refine yp_gd (fun _ => yp_bd _ (ym_of hW hZ.1 hn 0 (by decide) nI_0.symm) (fun t ht => ?_))
      rw [ht, show w (49 + 0 + 5 * n) = nI (sp_n w (49 + 5 * n)) from q1]
      refine yp_bd _ (ym_claim hW hn q2 hZ (yl_Sb hW _)) (fun r hr => yp_lt (yp_some ⟨nI_1 n, yl_frt hf hr.1, ?_⟩))
      obtain ⟨c', h1, h2⟩ := hr.2.2.2 (by decide) c hc
      refine ⟨c', h1, ?_⟩
      rw [h2, hcs]
      rfl
    · obtain ⟨z, x⟩ := s
      obtain ⟨ex, hf, hc⟩ := hs
      have ex : x = nI (sp_n w 8) := ex
      have hf : yl_fr u z := hf
      subst ex
      have hZ := yX_fr hf hX
      show yp (BX9_layPaid_23 z (nI (sp_n w 8))) _
      unfold BX9_layPaid_23
      rw [ym_8 hW hZ.1, if_pos (nI_le (Nat.le_refl _) (by omega))]
      exact yp_gd (fun _ => yp_some ⟨hf, hc⟩)
    · unfold BX9_layPaid_53
      exact yp_some hv
theorem ym_money {mo m : Nat} {c : Nat → Nat} (hW : jW w) (hu : u.1 1 = w) (h21 : u.1 0 21 = nI mo) (hc : ∀ m, m < 30 → u.1 16 m = nI (c m)) (hm : m < 30) : yp (fX9_moneyAt u (nI m)) (fun v => v = nI (mo + yn_sum (yl_y w) (sp_n w 8)) - nI (yn_sum c (m + 1))) := by
  have c8 := (yl_8 hW).2
  unfold fX9_moneyAt
  refine yp_lt ?_
  rw [show sn_I u 0 21 = _ from h21]
  refine yp_bd (fun v => v = nI (mo + yn_sum (yl_y w) (sp_n w 8))) (yp_for (sp_n w 8) (fun n s => s.2 = nI n ∧ s.1 = nI (mo + yn_sum (yl_y w) n)) (fun n s hn hs => ?_) (fun s hs => ?_) ⟨nI_0.symm, rfl⟩) (fun v hv => ?_)
  · obtain ⟨v, x⟩ := s
    obtain ⟨ex, ev⟩ := hs
    have ex : x = nI n := ex
    have ev : v = _ := ev
    subst ex
    subst ev
    obtain ⟨-, -, -, -, -, -, ⟨y1, y2⟩⟩ := yl_p hW hn
    show yp (BX9_moneyAt_7 u (nI m) _ (nI n)) _
    unfold BX9_moneyAt_7
    rw [ym_8 hW hu, if_neg (nI_ge hn (by omega))]
    refine yp_gd (fun _ => yp_bd _ (ym_of hW hu hn 4 (by decide) rfl) (fun t ht => yp_lt (yp_lt (yp_some ⟨nI_1 n, ?_⟩))))
    show _ + t = _
    rw [ht, show w (49 + 4 + 5 * n) = nI (sp_n w (53 + 5 * n)) from y1, nI_add, Nat.add_assoc]
    rfl
  · obtain ⟨v, x⟩ := s
    obtain ⟨ex, ev⟩ := hs
    have ex : x = nI (sp_n w 8) := ex
    subst ex
    show yp (BX9_moneyAt_7 u (nI m) v (nI (sp_n w 8))) _
    unfold BX9_moneyAt_7
    rw [ym_8 hW hu, if_pos (nI_le (Nat.le_refl _) (by omega))]
    exact yp_gd (fun _ => yp_some ev)
  · unfold BX9_moneyAt_33
    rw [hv]
    obtain ⟨A, hA⟩ : ∃ A, A = mo + yn_sum (yl_y w) (sp_n w 8) := ⟨_, rfl⟩
    rw [← hA]
    refine yp_bd (fun v => v = nI A - nI (yn_sum c (m + 1))) (yp_for (m + 1) (fun n s => s.2 = nI n ∧ s.1 = nI A - nI (yn_sum c n)) (fun n s hn hs => ?_) (fun s hs => ?_) ⟨nI_0.symm, ?_⟩) (fun v hv => ?_)
    · obtain ⟨v, x⟩ := s
      obtain ⟨ex, ev⟩ := hs
      have ex : x = nI n := ex
      have ev : v = _ := ev
      subst ex
      subst ev
      show yp (BX9_moneyAt_35 u (nI m) _ (nI n)) _
      unfold BX9_moneyAt_35
      rw [if_neg (nI_nlt (show n ≤ m by omega) (by omega)), nI_clamp (show n < 2 ^ 31 by omega), show sn_I u 16 n = _ from hc n (by omega)]
      refine yp_gd (fun _ => yp_lt (yp_lt (yp_some ⟨nI_1 n, ?_⟩)))
      show _ - nI (c n) = _
      rw [Int32.sub_sub, nI_add]
      rfl
    · obtain ⟨v, x⟩ := s
      obtain ⟨ex, ev⟩ := hs
      have ex : x = nI (m + 1) := ex
      subst ex
      show yp (BX9_moneyAt_35 u (nI m) v (nI (m + 1))) _
      unfold BX9_moneyAt_35
      rw [if_pos (nI_lt (show m < m + 1 by omega) (by omega))]
      exact yp_some ev
    · show nI A = nI A - nI 0
      rw [nI_0, Int32.sub_zero]
    · unfold BX9_moneyAt_55
      exact yp_some hv
def yXm (u : sn_S) (w : Nat → Int32) (l : Int32) : Prop := yX u w l (yS w) (yHh w) ∧ u.1 0 21 = w 3
theorem yX_law {S H : Nat → Int32} {l2 : Int32} (h : yX u w l S H) : yX (sn_pI u 0 20 l2) w l2 S H :=
  ⟨(pI_ne (by decide)).trans h.1, fun p hp => ⟨(congrFun (pI_ne (by decide)) p).trans (h.2.1 p hp).1, (congrFun (pI_ne (by decide)) p).trans (h.2.1 p hp).2⟩, (pI_slot (by decide)).trans h.2.2.1, pI_self, (pI_slot (by decide)).trans h.2.2.2.2⟩
theorem ym_byLaw {l2 : Int32} (hW : jW w) (h0 : 0 < sp_n w 0) (hX : yXm u w l) : yp (fX9_byLaw u l2) (fun r => r.1 = yl_E w l2 ∧ yXm r.2 w l2) := by
  have c0 := (yl_0 hW).2
  obtain ⟨n3, -⟩ : yh_n w 3 999 := hW.1.2.2.2.1
  have hX2 := yX_law (l2 := l2) hX.1
  unfold fX9_byLaw
  refine yp_lt (yp_bd _ (ym_lay hW hX2) (fun z hz => ?_))
  obtain ⟨hf, c, hc, hcs⟩ := hz
  have hZ := yX_fr hf hX2
  have h21 : z.1 0 21 = w 3 := (hf.2 21 (by decide)).trans ((pI_slot (by decide)).trans hX.2)
  rw [show sn_I z 0 22 = nI (sp_n w 0 - 1) from hZ.2.2.2.2.trans (yi_s1 h0)]
  refine yp_bd _ (ym_money hW hZ.1 (h21.trans n3) hc (by omega)) (fun t ht => yp_some ⟨?_, hZ, h21⟩)
  show t = _
  rw [ht, show sp_n w 0 - 1 + 1 = sp_n w 0 by omega, hcs]
  rfl
theorem yM_m (hW : jW w) (h : yM τ u w) : yXm u w (w 2) := ⟨ym_X hW h, h.2.2.2.2.2.1⟩
theorem yz_38 {a : Int32} (hK : zK σ τ) : yr (fX8_by σ a) (fX9_by τ a) (fun r s => r.1 = s.1) := by
  have hW := hK.2.1.1
  unfold fX8_by fX9_by BX8_by_16 BX9_by_22
  rw [yk_hv hK]
  refine yz_go2 (Q := fun z => yM τ z (τ.1 1)) (ym_asks rfl hW) (fun c u hM => ?_)
  have h10 : 0 < sp_n (τ.1 1) 10 := by
    by_cases g : 0 < sp_n (τ.1 1) 10
    · exact g
    · rw [if_neg g] at c
      exact absurd rfl c
  have h0 := hW.2.2.1 h10
  have eL : fX9_isLaw a = some (if (0 : Int32) ≤ a ∧ a ≤ 3 then 1 else 0) := by
    unfold fX9_isLaw
    rw [show fX9_in a.toInt64 (0 : Int64) (3 : Int64) = _ from in_eq32 a 0 3]
    by_cases g : (0 : Int32) ≤ a ∧ a ≤ 3
    · rw [if_pos g]; rfl
    · rw [if_neg g]; rfl
  have h3 : a < 4 ↔ a ≤ 3 := by
    rw [Int32.lt_iff_toInt_lt, Int32.le_iff_toInt_le, show (4 : Int32).toInt = 4 by decide, show (3 : Int32).toInt = 3 by decide]
    omega
  show yr _ ((fX9_isLaw a).bind _) _
  rw [eL]
  by_cases g : (0 : Int32) ≤ a ∧ a ≤ 3
  · rw [if_pos g, if_neg (Int32.not_lt.mpr g.1), if_pos (h3.mpr g.2)]
    refine yr_eq2 (yl_E (τ.1 1) a) ?_ (yp_bs rfl ?_)
    · exact yp_bd _ (yc_end hW hK.2.1.2 hK.2.2.2 a) (fun t ht => yp_some ht.1)
    · rw [if_neg (by decide)]
      exact yp_bd _ (ym_byLaw hW h0 (yM_m hW hM)) (fun t ht => yp_some ht.1)
  · rw [if_neg g]
    refine yr_eq2 (-100000 : Int32) ?_ (yp_bs rfl ?_)
    · refine yp_ite (fun _ => yp_some rfl) (fun c1 => yp_ite (fun c2 => ?_) (fun _ => yp_some rfl))
      exact absurd ⟨Int32.not_lt.mp c1, h3.mp c2⟩ g
    · rw [if_pos rfl]
      exact yp_some rfl
theorem yz_39 (hK : zK σ τ) : yr (fX8_law σ) (fX9_law τ) (fun r s => r.1 = s.1) := by
  have hW := hK.2.1.1
  unfold fX8_law fX9_law
  refine yz_house2 hK (fun v u h10 hM => ?_)
  have h0 := hW.2.2.1 h10
  obtain ⟨f, hf⟩ : ∃ f : Nat → Int32, ∀ k, f k = yl_E (τ.1 1) (nI k) := ⟨_, fun _ => rfl⟩
  have k1 : ∀ k, yl_b f (k + 1) = if f k ≤ f (yl_b f k) then yl_b f k else k := fun k => rfl
  refine yr_eq2 (nI (yl_b f 4)) ?_ ?_
  · refine yp_bd _ (yc_end hW hK.2.1.2 hK.2.2.2 0) (fun t ht => ?_)
    refine yp_bd (fun r => r.2 = nI (yl_b f 4)) (yp_for0 1 4 (by decide) (fun k s => s.2.2.2 = nI k ∧ s.2.1 = nI (yl_b f k) ∧ s.2.2.1 = f (yl_b f k) ∧ ∀ a, a < 49 ∨ 51 < a → s.1.1 a = σ.1 a) (fun k s hk0 hk hs => ?_) (fun s hs => ?_) ⟨rfl, ?_, ?_, ht.2⟩) (fun v hv => ?_)
    · obtain ⟨z, b, c, x⟩ := s
      obtain ⟨ex, eb, ec, hz⟩ := hs
      have ex : x = nI k := ex
      have eb : b = _ := eb
      have ec : c = _ := ec
      have hz : ∀ a, a < 49 ∨ 51 < a → z.1 a = σ.1 a := hz
      subst ex
      subst eb
      subst ec
      show yp (BX8_law_20 z _ _ (nI k)) _
      unfold BX8_law_20 BX8_law_43
      rw [if_neg (show ¬ (4 : Int32) ≤ nI k from nI_ge (b := 4) hk (by decide))]
      refine yp_bd _ (yc_end hW (yH_c (fun a a1 a2 => hz a (by omega)) hK.2.1.2) (yD_c (fun q a b => hz q (by omega)) hK.2.2.2) (nI k)) (fun r hr => ?_)
      rw [hr.1, ← hf k]
      refine yp_ite (fun c => yp_lt (yp_some ⟨nI_1 k, ?_, ?_, fun a ha => (hr.2 a ha).trans (hz a ha)⟩)) (fun c => yp_lt (yp_some ⟨nI_1 k, ?_, ?_, fun a ha => (hr.2 a ha).trans (hz a ha)⟩))
      · rw [k1, if_pos c]
      · rw [k1, if_pos c]
      · rw [k1, if_neg c]
      · rw [k1, if_neg c]
    · obtain ⟨z, b, c, x⟩ := s
      obtain ⟨ex, eb, ec, hz⟩ := hs
      have ex : x = nI 4 := ex
      subst ex
      show yp (BX8_law_20 z b c (nI 4)) _
      unfold BX8_law_20
      rw [if_pos (show (4 : Int32) ≤ nI 4 by decide)]
      exact yp_some eb
    · rw [yl_b1]; rfl
    · rw [yl_b1, hf 0]
      exact ht.1
    · unfold BX8_law_49
      exact yp_some hv
  · refine yp_bd (fun r => r.2 = nI (yl_b f 4)) (yp_for0 1 4 (by decide) (fun k s => s.2.2 = nI k ∧ s.2.1 = nI (yl_b f k) ∧ ∃ l, yXm s.1 (τ.1 1) l) (fun k s hk0 hk hs => ?_) (fun s hs => ?_) ⟨rfl, ?_, _, yM_m hW hM⟩) (fun v hv => ?_)
    · obtain ⟨z, b, x⟩ := s
      obtain ⟨ex, eb, l, hz⟩ := hs
      have ex : x = nI k := ex
      have eb : b = _ := eb
      have hz : yXm z (τ.1 1) l := hz
      subst ex
      subst eb
      show yp (BX9_law_14 z _ (nI k)) _
      unfold BX9_law_14 BX9_law_37
      rw [if_neg (show ¬ (4 : Int32) ≤ nI k from nI_ge (b := 4) hk (by decide))]
      refine yp_bd _ (ym_byLaw hW h0 hz) (fun r hr => yp_bd _ (ym_byLaw hW h0 hr.2) (fun r2 hr2 => ?_))
      rw [hr.1, hr2.1, ← hf k, ← hf (yl_b f k)]
      refine yp_ite (fun c => yp_lt (yp_some ⟨nI_1 k, ?_, _, hr2.2⟩)) (fun c => yp_lt (yp_some ⟨nI_1 k, ?_, _, hr2.2⟩))
      · rw [k1, if_pos c]
      · rw [k1, if_neg c]
    · obtain ⟨z, b, x⟩ := s
      obtain ⟨ex, eb, hz⟩ := hs
      have ex : x = nI 4 := ex
      subst ex
      show yp (BX9_law_14 z b (nI 4)) _
      unfold BX9_law_14
      rw [if_pos (show (4 : Int32) ≤ nI 4 by decide)]
      exact yp_some eb
    · rw [yl_b1]; rfl
    · unfold BX9_law_44
      exact yp_some hv
/-! what would have to be in the box -/
theorem yl_ole (hW : jW w) : ∀ n, n ≤ sp_n w 8 → yn_sum (yl_o w l) n ≤ n * 297 := fun n hn => yn_sumle n (fun k hk => yl_vle hW (by omega))
theorem yl_yle (hW : jW w) : ∀ n, n ≤ sp_n w 8 → yn_sum (yl_y w) n ≤ n * 99 := fun n hn => yn_sumle n (fun k hk => (yl_p hW (show k < sp_n w 8 by omega)).2.2.2.2.2.2.2)
theorem ym_ruin {mo : Nat} (hW : jW w) (h0 : 0 < sp_n w 0) (hX : yX u w l (yS w) (yHh w)) (h21 : u.1 0 21 = nI mo) (hmo : mo ≤ 1000) : yp (fX9_ruinOf u) (fun r => (yl_fr u r.2) ∧ (r.1 = -1 ↔ yn_sum (yl_o w l) (sp_n w 8) ≤ mo + yn_sum (yl_y w) (sp_n w 8))) := by
  have c0 := (yl_0 hW).2
  have c8 := (yl_8 hW).2
  have bo := yl_ole (l := l) hW _ (Nat.le_refl _)
  have by_ := yl_yle hW _ (Nat.le_refl _)
  unfold fX9_ruinOf
  refine yp_bd _ (ym_lay hW hX) (fun z hz => ?_)
  obtain ⟨hf, c, hc, hcs⟩ := hz
  have hZ := yX_fr hf hX
  have z21 : z.1 0 21 = nI mo := (hf.2 21 (by decide)).trans h21
  have sgn : ∀ m, m < sp_n w 0 → ((0 : Int32) ≤ nI (mo + yn_sum (yl_y w) (sp_n w 8)) - nI (yn_sum c (m + 1)) ↔ yn_sum c (m + 1) ≤ mo + yn_sum (yl_y w) (sp_n w 8)) := fun m hm => by
    have := yn_mono c (m := m + 1) (sp_n w 0) (by omega)
    rw [Int32.le_iff_toInt_le, yi_subI (by omega) (by omega), show (0 : Int32).toInt = 0 by decide]
    omega
  refine yp_bd (fun t => (t = Sum.inl () ∧ ∀ m, m < sp_n w 0 → yn_sum c (m + 1) ≤ mo + yn_sum (yl_y w) (sp_n w 8)) ∨ ∃ m, m < sp_n w 0 ∧ ¬ yn_sum c (m + 1) ≤ mo + yn_sum (yl_y w) (sp_n w 8) ∧ t = Sum.inr (nI m, z)) (yp_it (fun s => ∃ m, m ≤ sp_n w 0 ∧ s = nI m ∧ ∀ j, j < m → yn_sum c (j + 1) ≤ mo + yn_sum (yl_y w) (sp_n w 8)) (fun s hs => ?_) _ _ ⟨0, Nat.zero_le _, nI_0.symm, fun j hj => absurd hj (by omega)⟩) (fun t ht => ?_)
  · obtain ⟨m, hm, e, hj⟩ := hs
    subst e
    show yp (BX9_ruinOf_6 z (nI m)) _
    unfold BX9_ruinOf_6
    rw [show sn_I z 0 22 = _ from hZ.2.2.2.2]
    refine yp_ite (fun c1 => yp_some (Or.inl ⟨rfl, ?_⟩)) (fun c1 => ?_)
    · have := (yi_last c0 (by omega)).mp c1
      exact fun j hj2 => hj j (by omega)
    · have hm2 : m < sp_n w 0 := by
        rcases Nat.lt_or_ge m (sp_n w 0) with g | g
        · exact g
        · exact absurd ((yi_last c0 (by omega)).mpr g) c1
      refine yp_bd _ (ym_money hW hZ.1 z21 hc (by omega)) (fun t ht => ?_)
      rw [ht]
      refine yp_ite (fun c2 => yp_lt (yp_some ⟨m + 1, by omega, nI_1 m, fun j hj2 => ?_⟩)) (fun c2 => yp_some (Or.inr ⟨m, hm2, fun g => c2 ((sgn m hm2).mpr g), rfl⟩))
      by_cases e : j = m
      · subst e; exact (sgn j hm2).mp c2
      · exact hj j (by omega)
  · rcases ht with ⟨e, h⟩ | ⟨m, hm, h, e⟩
    · subst e
      show yp (BX9_ruinOf_30 z) _
      unfold BX9_ruinOf_30
      have h1 := h (sp_n w 0 - 1) (by omega)
      rw [show sp_n w 0 - 1 + 1 = sp_n w 0 by omega, hcs] at h1
      exact yp_some ⟨hf, fun _ => h1, fun _ => rfl⟩
    · subst e
      have h1 := yn_mono c (m := m + 1) (sp_n w 0) (by omega)
      rw [hcs] at h1
      exact yp_some ⟨hf, fun g => absurd g (yl_ne (by omega)), fun g => absurd (Nat.le_trans h1 g) h⟩
theorem yz_37 (hK : zK σ τ) : yr (fX8_reserve σ) (fX9_reserve τ) (fun r s => r.1 = s.1) := by
  have hW := hK.2.1.1
  have c0 := (yl_0 hW).2
  have c8 := (yl_8 hW).2
  unfold fX8_reserve fX9_reserve
  refine yz_house2 hK (fun v u h10 hM => ?_)
  have h0 := hW.2.2.1 h10
  obtain ⟨n3, b3⟩ : yh_n (τ.1 1) 3 999 := hW.1.2.2.2.1
  have bo := yl_ole (l := τ.1 1 2) hW _ (Nat.le_refl _)
  have by_ := yl_yle hW _ (Nat.le_refl _)
  obtain ⟨T, hT⟩ : ∃ T, T = yn_sum (yl_o (τ.1 1) (τ.1 1 2)) (sp_n (τ.1 1) 8) := ⟨_, rfl⟩
  obtain ⟨Y, hY⟩ : ∃ Y, Y = yn_sum (yl_y (τ.1 1)) (sp_n (τ.1 1) 8) := ⟨_, rfl⟩
  rw [← hT] at bo
  rw [← hY] at by_
  refine yr_eq2 (if T - Y ≤ 999 then nI (T - Y) else -1) ?_ ?_
  · refine yp_gd (fun _ => yp_bd _ (yc_now hK) (fun z hz => ?_))
    rw [show sn_I z 27 0 = nI (sp_n (τ.1 1) 0) from (congrFun (hz.1 27 (by omega)) 0).trans hK.2.2.2.1]
    refine yp_bd _ (yc_money hW hz) (fun v hv => yp_lt ?_)
    rw [hv, show sn_I σ (1 + 1) (3 : Int32).toNatClampNeg = nI (sp_n (τ.1 1) 3) from (hK.2.1.2.1 3 (by decide)).trans n3]
    unfold yl_E
    rw [← hT, ← hY]
    have e : nI (sp_n (τ.1 1) 3) - (nI (sp_n (τ.1 1) 3 + Y) - nI T) = nI T - nI Y := by
      rw [← nI_add, Int32.sub_eq_add_neg, Int32.neg_sub, Int32.sub_eq_add_neg, Int32.neg_add, Int32.sub_eq_add_neg, ← Int32.add_assoc, Int32.add_comm (nI (sp_n (τ.1 1) 3)) (nI T), Int32.add_assoc, ← Int32.add_assoc (nI (sp_n (τ.1 1) 3)), ← Int32.sub_eq_add_neg (nI (sp_n (τ.1 1) 3)), Int32.sub_self, Int32.zero_add, ← Int32.sub_eq_add_neg]
    rw [e]
    have e2 : (if (0 : Int32) < nI T - nI Y then nI T - nI Y else 0) = nI (T - Y) := by
      by_cases g : (0 : Int32) < nI T - nI Y
      · rw [if_pos g]
        rw [Int32.lt_iff_toInt_lt, yi_subI (by omega) (by omega), show (0 : Int32).toInt = 0 by decide] at g
        exact yi_sub (by omega)
      · rw [if_neg g]
        rw [Int32.lt_iff_toInt_lt, yi_subI (by omega) (by omega), show (0 : Int32).toInt = 0 by decide] at g
        rw [show T - Y = 0 by omega]
        exact nI_0.symm
    refine yp_lt ?_
    rw [e2]
    by_cases g : T - Y ≤ 999
    · rw [if_pos (show nI (T - Y) ≤ (999 : Int32) from nI_le (b := 999) g (by decide)), if_pos g]
      exact yp_some rfl
    · rw [if_neg (show ¬ nI (T - Y) ≤ (999 : Int32) from nI_ge (a := 999) (by omega) (by omega)), if_neg g]
      exact yp_some rfl
  · refine yp_lt ?_
    refine yp_bd (fun z : sn_S => ∃ v, z.1 0 21 = nI v ∧ v ≤ 1000 ∧ v ≤ T - Y ∧ (v = 1000 ∨ T ≤ v + Y)) (yp_it (fun z : sn_S => ∃ v, z.1 0 21 = nI v ∧ v ≤ 1000 ∧ v ≤ T - Y ∧ yX z (τ.1 1) (τ.1 1 2) (yS (τ.1 1)) (yHh (τ.1 1))) (fun z hz => ?_) _ _ ⟨0, pI_self.trans nI_0.symm, by omega, Nat.zero_le _, ?_⟩) (fun z hz => ?_)
    · obtain ⟨v, h21, h1, h2, hX⟩ := hz
      show yp (BX9_reserve_15 z) _
      unfold BX9_reserve_15
      rw [show sn_I z 0 21 = _ from h21]
      refine yp_ite (fun c => yp_some ⟨v, h21, h1, h2, Or.inl ?_⟩) (fun c => ?_)
      · have := (nI_leI (a := 1000) (b := v) (by decide) (by omega)).mp c
        omega
      · have hv : v < 1000 := by
          rcases Nat.lt_or_ge v 1000 with g | g
          · exact g
          · exact absurd ((nI_leI (a := 1000) (b := v) (by decide) (by omega)).mpr g) c
        refine yp_bd _ (ym_ruin hW h0 hX h21 (by omega)) (fun r hr => ?_)
        obtain ⟨hf, hiff⟩ := hr
        rw [← hT, ← hY] at hiff
        have r21 : r.2.1 0 21 = nI v := (hf.2 21 (by decide)).trans h21
        refine yp_ite (fun c2 => yp_some ⟨v, r21, h1, h2, Or.inr (hiff.mp c2)⟩) (fun c2 => yp_lt (yp_some ⟨v + 1, ?_, by omega, ?_, ?_⟩))
        · refine pI_self.trans ?_
          rw [show sn_I r.2 0 21 = _ from r21]
          exact nI_1 v
        · have : ¬ T ≤ v + Y := fun g => c2 (hiff.mpr g)
          omega
        · have hX2 := yX_fr hf hX
          exact ⟨(pI_ne (by decide)).trans hX2.1, fun p hp => ⟨(congrFun (pI_ne (by decide)) p).trans (hX2.2.1 p hp).1, (congrFun (pI_ne (by decide)) p).trans (hX2.2.1 p hp).2⟩, (pI_slot (by decide)).trans hX2.2.2.1, (pI_slot (by decide)).trans hX2.2.2.2.1, (pI_slot (by decide)).trans hX2.2.2.2.2⟩
    · have hX2 := ym_X hW hM
      exact ⟨(pI_ne (by decide)).trans hX2.1, fun p hp => ⟨(congrFun (pI_ne (by decide)) p).trans (hX2.2.1 p hp).1, (congrFun (pI_ne (by decide)) p).trans (hX2.2.1 p hp).2⟩, (pI_slot (by decide)).trans hX2.2.2.1, (pI_slot (by decide)).trans hX2.2.2.2.1, (pI_slot (by decide)).trans hX2.2.2.2.2⟩
    · obtain ⟨v, h21, h1, h2, h3⟩ := hz
      unfold BX9_reserve_46
      rw [show sn_I z 0 21 = _ from h21]
      refine yp_ite (fun c => yp_some ?_) (fun c => yp_some ?_)
      · have := (nI_leI (a := 1000) (b := v) (by decide) (by omega)).mp c
        rw [if_neg (by omega)]
      · have hv : v < 1000 := by
          rcases Nat.lt_or_ge v 1000 with g | g
          · exact g
          · exact absurd ((nI_leI (a := 1000) (b := v) (by decide) (by omega)).mpr g) c
        rw [if_pos (by omega)]
        show nI v = _
        exact congrArg nI (by omega)
end
