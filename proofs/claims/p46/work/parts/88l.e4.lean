/-! windows of policies, both sides -/
theorem yb_V {x : Int32} {f : Nat → Bool} (h : ∀ k, k < 32 → sp_bit x k = f k) : x = dy_set f 32 := yb_ext (fun k hk => by rw [yb_set 32 (Nat.le_refl _) k hk, h k hk, decide_eq_true hk, Bool.true_and])
theorem yb_Vb {f : Nat → Bool} {k : Nat} (hk : k < 32) : sp_bit (dy_set f 32) k = f k := by rw [yb_set 32 (Nat.le_refl _) k hk, decide_eq_true hk, Bool.true_and]
theorem dy_s1 {f : Nat → Bool} {n : Nat} (h : f n = true) : dy_set f n ||| ((1 : Int32) <<< (nI n &&& 31)) = dy_set f (n + 1) := by
  show _ = if f n = true then _ else _
  rw [if_pos h]
theorem dy_s0 {f : Nat → Bool} {n : Nat} (h : f n = false) : dy_set f n = dy_set f (n + 1) := by
  show _ = if f n = true then _ else _
  rw [h, if_neg (by decide)]
theorem yb_win : ∀ a, a < 30 → ∀ b, b < 30 → a ≤ b → ((2 : Int32) <<< (nI b &&& 31)) - ((1 : Int32) <<< (nI a &&& 31)) = (((1 : Int32) <<< (nI (b + 1) &&& 31)) - 1) &&& ((((1 : Int32) <<< (nI a &&& 31)) - 1) ^^^ (-1 : Int32)) := by decide +kernel
theorem yb_wb {a b k : Nat} (ha : a < 30) (hb : b < 30) (h : a ≤ b) (hk : k < 32) : sp_bit (((2 : Int32) <<< (nI b &&& 31)) - ((1 : Int32) <<< (nI a &&& 31))) k = decide (a ≤ k ∧ k ≤ b) := by
  rw [yb_win a ha b hb h, yb_and _ _ hk, yb_low (b + 1) (by omega) k hk, yb_xor1 _ hk, yb_low a (by omega) k hk, Bool.eq_iff_iff]
  simp only [Bool.and_eq_true, Bool.not_eq_true', decide_eq_true_eq, decide_eq_false_iff_not]
  omega
def yl_w (w : Nat → Int32) (q k : Nat) : Bool := decide (sp_n w (50 + 5 * q) ≤ k ∧ k ≤ sp_n w (51 + 5 * q))
def yl_m (w : Nat → Int32) (q k : Nat) : Bool := yl_w w q k && decide (k < sp_n w 0)
def yl_cov (w : Nat → Int32) (f : Nat → Nat → Bool) (p : Nat) : Nat → Nat → Bool
  | 0, _ => false
  | n + 1, k => yl_cov w f p n k || (decide (sp_n w (49 + 5 * n) = p) && f n k)
theorem yl_covm {w : Nat → Int32} {p k : Nat} : ∀ n, yl_cov w (yl_m w) p n k = (yl_cov w (yl_w w) p n k && decide (k < sp_n w 0)) := by
  intro n
  induction n with
  | zero => rfl
  | succ n ih =>
    show (yl_cov w (yl_m w) p n k || (decide (sp_n w (49 + 5 * n) = p) && (yl_w w n k && decide (k < sp_n w 0)))) = ((yl_cov w (yl_w w) p n k || (decide (sp_n w (49 + 5 * n) = p) && yl_w w n k)) && decide (k < sp_n w 0))
    rw [ih]
    generalize yl_cov w (yl_w w) p n k = a
    generalize yl_w w n k = b
    generalize decide (sp_n w (49 + 5 * n) = p) = c
    generalize decide (k < sp_n w 0) = d
    cases a <;> cases b <;> cases c <;> cases d <;> rfl
section
variable {σ τ u : sn_S} {w : Nat → Int32} {q : Nat}
theorem yl_p (hW : jW w) (hq : q < sp_n w 8) : (w (49 + 5 * q) = nI (sp_n w (49 + 5 * q)) ∧ sp_n w (49 + 5 * q) < sp_n w 5) ∧ yh_n w (50 + 5 * q) 29 ∧ yh_n w (51 + 5 * q) 29 ∧ sp_n w (50 + 5 * q) ≤ sp_n w (51 + 5 * q) ∧ yh_n w (52 + 5 * q) 99 ∧ 1 ≤ sp_n w (52 + 5 * q) ∧ yh_n w (53 + 5 * q) 99 := hW.2.2.2.2.2.2.1 q hq
theorem yl_8 (hW : jW w) : w 8 = nI (sp_n w 8) ∧ sp_n w 8 ≤ 6 := hW.1.2.2.2.2.2.2.2.2.1
theorem yl_5 (hW : jW w) : w 5 = nI (sp_n w 5) ∧ sp_n w 5 ≤ 6 := hW.1.2.2.2.2.2.1
theorem yl_0 (hW : jW w) : w 0 = nI (sp_n w 0) ∧ sp_n w 0 ≤ 30 := hW.1.1
theorem yc_of (hW : jW w) (hH : yH 1 σ w) (hq : q < sp_n w 8) (x : Nat) (hx : x < 5) {y : Int32} (ey : y = nI x) : yp (fX2_ofPolicy σ 1 (nI q) y) (fun v => v = w (49 + x + 5 * q)) := by
  have c8 := (yl_8 hW).2
  subst ey
  unfold fX2_ofPolicy
  rw [yi_5, nI_add, nI_clamp (by omega)]
  exact yp_gd (fun _ => yp_some ((hH.2.2.2.2.1 (5 * q + x) (by omega)).trans (congrArg w (by omega))))
theorem ym_of (hW : jW w) (hu : u.1 1 = w) (hq : q < sp_n w 8) (x : Nat) (hx : x < 5) {y : Int32} (ey : y = nI x) : yp (fX9_of u (nI q) y) (fun v => v = w (49 + x + 5 * q)) := by
  have c8 := (yl_8 hW).2
  subst ey
  unfold fX9_of
  rw [yi_5, show (49 : Int32) + nI (5 * q) = nI (49 + 5 * q) from nI_add 49 _, nI_add, nI_clamp (by omega)]
  exact yp_gd (fun _ => yp_some ((congrFun hu _).trans (congrArg w (by omega))))
theorem yc_8 (hW : jW w) (hH : yH 1 σ w) : sn_I σ (1 + 1) (8 : Int32).toNatClampNeg = nI (sp_n w 8) := (hH.1 8 (by decide)).trans (yl_8 hW).1
theorem ym_8 (hW : jW w) (hu : u.1 1 = w) : sn_I u 1 (8 : Int32).toNatClampNeg = nI (sp_n w 8) := (congrFun hu 8).trans (yl_8 hW).1
theorem yc_win (hW : jW w) (hH : yH 1 σ w) (hq : q < sp_n w 8) : yp (fX2_window σ 1 (nI q)) (fun v => v = dy_set (yl_w w q) 32) := by
  obtain ⟨-, ⟨a1, a2⟩, ⟨b1, b2⟩, hab, -⟩ := yl_p hW hq
  have c8 := (yl_8 hW).2
  have e1 : sn_I σ (1 + 5) (nI (5 * q) + (1 : Int32)).toNatClampNeg = nI (sp_n w (50 + 5 * q)) := by
    rw [nI_1, nI_clamp (by omega)]
    exact (hH.2.2.2.2.1 (5 * q + 1) (by omega)).trans ((congrArg w (by omega)).trans a1)
  have e2 : sn_I σ (1 + 5) (nI (5 * q) + (2 : Int32)).toNatClampNeg = nI (sp_n w (51 + 5 * q)) := by
    rw [show nI (5 * q) + (2 : Int32) = nI (5 * q + 2) from nI_add _ 2, nI_clamp (by omega)]
    exact (hH.2.2.2.2.1 (5 * q + 2) (by omega)).trans ((congrArg w (by omega)).trans b1)
  unfold fX2_window
  rw [yi_5]
  refine yp_lt (yp_gd (fun _ => yp_gd (fun _ => yp_some ?_)))
  rw [e1, e2]
  exact yb_V (fun k hk => yb_wb (by omega) (by omega) hab hk)
theorem ym_win (hW : jW w) (hu : u.1 1 = w) (h22 : u.1 0 22 = nI (sp_n w 0) - 1) (hq : q < sp_n w 8) : yp (fX9_windowOf u (nI q)) (fun v => v = dy_set (yl_m w q) 32) := by
  obtain ⟨-, ⟨a1, a2⟩, ⟨b1, b2⟩, hab, -⟩ := yl_p hW hq
  have c0 := (yl_0 hW).2
  unfold fX9_windowOf
  refine yp_bd _ (ym_of hW hu hq 1 (by decide) rfl) (fun t ht => ?_)
  rw [ht, show w (49 + 1 + 5 * q) = nI (sp_n w (50 + 5 * q)) from a1]
  refine yp_bd (fun v => v = dy_set (yl_m w q) 32) (yp_it (fun s : Int32 × Int32 => ∃ m, sp_n w (50 + 5 * q) ≤ m ∧ m ≤ sp_n w (51 + 5 * q) + 1 ∧ (m ≤ sp_n w 0 ∨ m = sp_n w (50 + 5 * q)) ∧ s.2 = nI m ∧ ∀ k, k < 32 → sp_bit s.1 k = decide (sp_n w (50 + 5 * q) ≤ k ∧ k < m)) (fun s hs => ?_) _ _ ⟨sp_n w (50 + 5 * q), Nat.le_refl _, by omega, Or.inr rfl, rfl, fun k hk => ?_⟩) (fun v hv => ?_)
  · obtain ⟨v, x⟩ := s
    obtain ⟨m, h1, h2, h3, ex, hb⟩ := hs
    have ex : x = nI m := ex
    subst ex
    have hb : ∀ k, k < 32 → sp_bit v k = decide (sp_n w (50 + 5 * q) ≤ k ∧ k < m) := hb
    show yp (BX9_windowOf_9 u (nI q) v (nI m)) _
    unfold BX9_windowOf_9
    refine yp_bd _ (ym_of hW hu hq 2 (by decide) rfl) (fun t ht => ?_)
    rw [ht, show w (49 + 2 + 5 * q) = nI (sp_n w (51 + 5 * q)) from b1, show sn_I u 0 22 = _ from h22]
    refine yp_ite (fun c => yp_some (yb_V fun k hk => ?_)) (fun c => yp_ite (fun c2 => yp_some (yb_V fun k hk => ?_)) (fun c2 => ?_))
    · have c := (nI_ltI (by omega) (by omega)).mp c
      rw [hb k hk]
      unfold yl_m yl_w
      rw [Bool.eq_iff_iff]
      simp only [Bool.and_eq_true, decide_eq_true_eq]
      omega
    · have c2 := (yi_last c0 (by omega)).mp c2
      rw [hb k hk]
      unfold yl_m yl_w
      rw [Bool.eq_iff_iff]
      simp only [Bool.and_eq_true, decide_eq_true_eq]
      have c := fun h => c ((nI_ltI (by omega) (by omega)).mpr h)
      omega
    · have c : ¬ sp_n w (51 + 5 * q) < m := fun h => c ((nI_ltI (by omega) (by omega)).mpr h)
      have c2 : ¬ sp_n w 0 ≤ m := fun h => c2 ((yi_last c0 (by omega)).mpr h)
      refine yp_lt (yp_lt (yp_some ⟨m + 1, by omega, by omega, Or.inl (by omega), nI_1 m, fun k hk => ?_⟩))
      show sp_bit (v ||| ((1 : Int32) <<< (nI m &&& 31))) k = _
      rw [yb_or1 _ (by omega) hk, hb k hk, Bool.eq_iff_iff]
      simp only [Bool.or_eq_true, decide_eq_true_eq]
      omega
  · show sp_bit 0 k = _
    rw [yb_z k hk, decide_eq_false (by omega)]
  · unfold BX9_windowOf_39
    exact yp_some hv
theorem yc_cov (hW : jW w) (hH : yH 1 σ w) {p : Nat} (hp : p < 6) : yp (fX8_minutesCovered σ (nI p)) (fun v => v = dy_set (yl_cov w (yl_m w) p (sp_n w 8)) 32) := by
  have c8 := (yl_8 hW).2
  have c5 := (yl_5 hW).2
  have c0 := (yl_0 hW).2
  unfold fX8_minutesCovered
  refine yp_bd (fun v => ∀ k, k < 32 → sp_bit v k = yl_cov w (yl_w w) p (sp_n w 8) k) (yp_for (sp_n w 8) (fun n s => s.2 = nI n ∧ ∀ k, k < 32 → sp_bit s.1 k = yl_cov w (yl_w w) p n k) (fun n s hn hs => ?_) (fun s hs => ?_) ⟨nI_0.symm, fun k hk => by exact yb_z k hk⟩) (fun v hv => ?_)
  · obtain ⟨v, x⟩ := s
    obtain ⟨ex, hb⟩ := hs
    have ex : x = nI n := ex
    have hb : ∀ k, k < 32 → sp_bit v k = yl_cov w (yl_w w) p n k := hb
    subst ex
    obtain ⟨⟨q1, q2⟩, -⟩ := yl_p hW hn
    show yp (BX8_minutesCovered_4 σ (nI p) v (nI n)) _
    unfold BX8_minutesCovered_4
    rw [yc_8 hW hH, if_neg (nI_ge hn (by omega))]
    refine yp_gd (fun _ => yp_bd _ (yc_of hW hH hn 0 (by decide) nI_0.symm) (fun t ht => ?_))
    rw [ht, show w (49 + 0 + 5 * n) = nI (sp_n w (49 + 5 * n)) from q1]
    refine yp_ite (fun c => yp_bd _ (yc_win hW hH hn) (fun t2 ht2 => yp_lt ?_)) (fun c => ?_)
    · have c := (nI_eq (by omega) (by omega)).mp c
      unfold BX8_minutesCovered_42
      refine yp_lt (yp_some ⟨nI_1 n, fun k hk => ?_⟩)
      show sp_bit (v ||| t2) k = (yl_cov w (yl_w w) p n k || (decide (sp_n w (49 + 5 * n) = p) && yl_w w n k))
      rw [yb_or _ _ hk, hb k hk, ht2, yb_Vb hk, decide_eq_true c, Bool.true_and]
    · have c : ¬ sp_n w (49 + 5 * n) = p := fun h => c (congrArg nI h)
      unfold BX8_minutesCovered_42
      refine yp_lt (yp_some ⟨nI_1 n, fun k hk => ?_⟩)
      show sp_bit v k = (yl_cov w (yl_w w) p n k || (decide (sp_n w (49 + 5 * n) = p) && yl_w w n k))
      rw [hb k hk, decide_eq_false c, Bool.false_and, Bool.or_false]
  · obtain ⟨v, x⟩ := s
    obtain ⟨ex, hb⟩ := hs
    have ex : x = nI (sp_n w 8) := ex
    subst ex
    show yp (BX8_minutesCovered_4 σ (nI p) v (nI (sp_n w 8))) _
    unfold BX8_minutesCovered_4
    rw [yc_8 hW hH, if_pos (nI_le (Nat.le_refl _) (by omega))]
    exact yp_gd (fun _ => yp_some hb)
  · unfold BX8_minutesCovered_48 fX8_firstMinutes
    rw [show sn_I σ (1 + 1) (0 : Int32).toNatClampNeg = nI (sp_n w 0) from (hH.1 0 (by decide)).trans (yl_0 hW).1]
    refine yp_gd (fun _ => yp_bs rfl (yp_some (yb_V fun k hk => ?_)))
    rw [yb_and _ _ hk, hv k hk, yb_low _ (by omega) k hk, yl_covm]
theorem ym_cov (hW : jW w) (hu : u.1 1 = w) (h22 : u.1 0 22 = nI (sp_n w 0) - 1) {p : Nat} (hp : p < 6) : yp (fX9_coveredOf u (nI p)) (fun v => v = dy_set (yl_cov w (yl_m w) p (sp_n w 8)) 32) := by
  have c8 := (yl_8 hW).2
  have c5 := (yl_5 hW).2
  unfold fX9_coveredOf
  refine yp_bd (fun v => v = dy_set (yl_cov w (yl_m w) p (sp_n w 8)) 32) (yp_for (sp_n w 8) (fun n s => s.2 = nI n ∧ ∀ k, k < 32 → sp_bit s.1 k = yl_cov w (yl_m w) p n k) (fun n s hn hs => ?_) (fun s hs => ?_) ⟨nI_0.symm, fun k hk => by exact yb_z k hk⟩) (fun v hv => ?_)
  · obtain ⟨v, x⟩ := s
    obtain ⟨ex, hb⟩ := hs
    have ex : x = nI n := ex
    have hb : ∀ k, k < 32 → sp_bit v k = yl_cov w (yl_m w) p n k := hb
    subst ex
    obtain ⟨⟨q1, q2⟩, -⟩ := yl_p hW hn
    show yp (BX9_coveredOf_4 u (nI p) v (nI n)) _
    unfold BX9_coveredOf_4
    rw [ym_8 hW hu, if_neg (nI_ge hn (by omega))]
    refine yp_gd (fun _ => yp_bd _ (ym_of hW hu hn 0 (by decide) nI_0.symm) (fun t ht => ?_))
    rw [ht, show w (49 + 0 + 5 * n) = nI (sp_n w (49 + 5 * n)) from q1]
    refine yp_ite (fun c => yp_bd _ (ym_win hW hu h22 hn) (fun t2 ht2 => ?_)) (fun c => ?_)
    · have c := (nI_eq (by omega) (by omega)).mp c
      unfold BX9_coveredOf_35
      refine yp_lt (yp_lt (yp_some ⟨nI_1 n, fun k hk => ?_⟩))
      show sp_bit (v ||| t2) k = (yl_cov w (yl_m w) p n k || (decide (sp_n w (49 + 5 * n) = p) && yl_m w n k))
      rw [yb_or _ _ hk, hb k hk, ht2, yb_Vb hk, decide_eq_true c, Bool.true_and]
    · have c : ¬ sp_n w (49 + 5 * n) = p := fun h => c (congrArg nI h)
      unfold BX9_coveredOf_35
      refine yp_lt (yp_lt (yp_some ⟨nI_1 n, fun k hk => ?_⟩))
      show sp_bit (v ||| (0 : Int32)) k = (yl_cov w (yl_m w) p n k || (decide (sp_n w (49 + 5 * n) = p) && yl_m w n k))
      rw [yb_or0, hb k hk, decide_eq_false c, Bool.false_and, Bool.or_false]
  · obtain ⟨v, x⟩ := s
    obtain ⟨ex, hb⟩ := hs
    have ex : x = nI (sp_n w 8) := ex
    subst ex
    show yp (BX9_coveredOf_4 u (nI p) v (nI (sp_n w 8))) _
    unfold BX9_coveredOf_4
    rw [ym_8 hW hu, if_pos (nI_le (Nat.le_refl _) (by omega))]
    exact yp_gd (fun _ => yp_some (yb_V hb))
  · unfold BX9_coveredOf_43
    exact yp_some hv
theorem yM_22 (h : yM τ u w) : u.1 0 22 = nI (sp_n w 0) - 1 := h.2.2.2.2.2.2.1
theorem yz_21 {a : Int32} (hK : zK σ τ) : yr (fX8_covered σ a) (fX9_covered τ a) (fun r s => r = s.1) := by
  have hW := hK.2.1.1
  have c5 := (yl_5 hW).2
  unfold fX8_covered fX9_covered
  refine yz_pers hK (fun p v u hp ea hM => ?_)
  subst ea
  exact yr_eq _ (yp_bd _ (yc_cov hW hK.2.1.2 (by omega)) (fun t ht => yp_some ht)) (yp_bd _ (ym_cov hW hM.1 (yM_22 hM) (by omega)) (fun t ht => yp_some ht))
theorem yz_22 (hK : zK σ τ) : yr (fX8_naked σ) (fX9_naked τ) (fun r s => r = s.1) := by
  unfold fX8_naked fX9_naked
  refine yz_house hK (fun v u h10 hM => ?_)
  have hW := hK.2.1.1
  obtain ⟨-, ⟨p1, p2, p3⟩, ⟨m1, m2, m3⟩⟩ := yK_n hK
  have e1 : σ.1 27 1 = nI (sp_n (τ.1 1) 5) := hK.2.2.2.2.1.1
  have u5 : u.1 1 5 = nI (sp_n (τ.1 1) 5) := (congrFun hM.1 5).trans p2
  obtain ⟨f, hf⟩ : ∃ f : Nat → Bool, ∀ p, f p = !decide (dy_sn (hs_day (τ.1 1)) (sp_n (τ.1 1) 0) p &&& (dy_set (yl_cov (τ.1 1) (yl_m (τ.1 1)) p (sp_n (τ.1 1) 8)) 32 ^^^ (-1 : Int32)) = 0) := ⟨_, fun _ => rfl⟩
  refine yr_eq (dy_set f (sp_n (τ.1 1) 5)) ?_ ?_
  · refine yp_bd (fun v => v = dy_set f (sp_n (τ.1 1) 5)) (yp_for (sp_n (τ.1 1) 5) (fun k s => s.2 = nI k ∧ s.1 = dy_set f k) (fun k s hk hs => ?_) (fun s hs => ?_) ⟨nI_0.symm, rfl⟩) (fun v hv => ?_)
    · obtain ⟨v, x⟩ := s
      obtain ⟨ex, ev⟩ := hs
      have ex : x = nI k := ex
      have ev : v = _ := ev
      subst ex
      subst ev
      show yp (BX8_naked_14 σ _ (nI k)) _
      unfold BX8_naked_14 BX8_naked_51
      rw [show sn_I σ 27 1 = _ from e1, if_neg (nI_ge hk (by omega)), nI_clamp (show k < 2 ^ 31 by omega), show sn_I σ (27 + 10) k = _ from yz_sn hK hk]
      refine yp_gd (fun _ => yp_bd _ (yc_cov hW hK.2.1.2 (by omega)) (fun t ht => ?_))
      rw [ht]
      refine yp_ite (fun c => yp_lt (yp_some ⟨nI_1 k, dy_s0 ?_⟩)) (fun c => yp_lt (yp_lt (yp_some ⟨nI_1 k, dy_s1 ?_⟩)))
      · rw [hf k, decide_eq_true c]; rfl
      · rw [hf k, decide_eq_false c]; rfl
    · obtain ⟨v, x⟩ := s
      obtain ⟨ex, ev⟩ := hs
      have ex : x = nI (sp_n (τ.1 1) 5) := ex
      subst ex
      show yp (BX8_naked_14 σ v (nI (sp_n (τ.1 1) 5))) _
      unfold BX8_naked_14
      rw [show sn_I σ 27 1 = _ from e1, if_pos (nI_le (Nat.le_refl _) (by omega))]
      exact yp_some ev
    · unfold BX8_naked_57
      exact yp_some hv
  · refine yp_bd (fun v => v = dy_set f (sp_n (τ.1 1) 5)) (yp_for (sp_n (τ.1 1) 5) (fun k s => s.2 = nI k ∧ s.1 = dy_set f k) (fun k s hk hs => ?_) (fun s hs => ?_) ⟨nI_0.symm, rfl⟩) (fun v hv => ?_)
    · obtain ⟨v, x⟩ := s
      obtain ⟨ex, ev⟩ := hs
      have ex : x = nI k := ex
      have ev : v = _ := ev
      subst ex
      subst ev
      show yp (BX9_naked_14 u _ (nI k)) _
      unfold BX9_naked_14 BX9_naked_49
      rw [show sn_I u 1 (5 : Int32).toNatClampNeg = _ from u5, if_neg (nI_ge hk (by omega)), nI_clamp (show k < 2 ^ 31 by omega), show sn_I u 10 k = _ from yz_msn hW hM hk]
      refine yp_gd (fun _ => yp_gd (fun _ => yp_bd _ (ym_cov hW hM.1 (yM_22 hM) (by omega)) (fun t ht => ?_)))
      rw [ht]
      refine yp_ite (fun c => yp_lt (yp_lt (yp_some ⟨nI_1 k, (yb_or0 _).trans (dy_s0 ?_)⟩))) (fun c => yp_lt (yp_lt (yp_some ⟨nI_1 k, dy_s1 ?_⟩)))
      · rw [hf k, decide_eq_true c]; rfl
      · rw [hf k, decide_eq_false c]; rfl
    · obtain ⟨v, x⟩ := s
      obtain ⟨ex, ev⟩ := hs
      have ex : x = nI (sp_n (τ.1 1) 5) := ex
      subst ex
      show yp (BX9_naked_14 u v (nI (sp_n (τ.1 1) 5))) _
      unfold BX9_naked_14
      rw [show sn_I u 1 (5 : Int32).toNatClampNeg = _ from u5, if_pos (nI_le (Nat.le_refl _) (by omega))]
      exact yp_gd (fun _ => yp_some ev)
    · unfold BX9_naked_57
      exact yp_some hv
theorem yz_23 {a : Int32} (hK : zK σ τ) : yr (fX8_covers σ a) (fX9_covers τ a) (fun r s => r = s.1) := by
  have hW := hK.2.1.1
  have hH := hK.2.1.2
  have c8 := (yl_8 hW).2
  have c0 := (yl_0 hW).2
  unfold fX8_covers fX9_covers
  refine yz_min hK (fun m v u hm ea hM => ?_)
  subst ea
  obtain ⟨f, hf⟩ : ∃ f : Nat → Bool, ∀ q, f q = yl_w (τ.1 1) q m := ⟨_, fun _ => rfl⟩
  refine yr_eq (dy_set f (sp_n (τ.1 1) 8)) ?_ ?_
  · refine yp_bd (fun v => v = dy_set f (sp_n (τ.1 1) 8)) (yp_for (sp_n (τ.1 1) 8) (fun k s => s.2 = nI k ∧ s.1 = dy_set f k) (fun k s hk hs => ?_) (fun s hs => ?_) ⟨nI_0.symm, rfl⟩) (fun v hv => ?_)
    · obtain ⟨v, x⟩ := s
      obtain ⟨ex, ev⟩ := hs
      have ex : x = nI k := ex
      have ev : v = _ := ev
      subst ex
      subst ev
      show yp (BX8_covers_15 σ (nI m) _ (nI k)) _
      unfold BX8_covers_15 BX8_covers_50
      rw [yc_8 hW hH, if_neg (nI_ge hk (by omega))]
      refine yp_gd (fun _ => yp_bd _ (yc_win hW hH hk) (fun t ht => ?_))
      rw [ht, yb_c, yb_Vb (by omega)]
      refine yp_bit (fun c => ?_) (fun c => ?_)
      · rw [if_neg (by decide)]
        exact yp_lt (yp_lt (yp_some ⟨nI_1 k, dy_s1 ((hf k).trans c)⟩))
      · rw [if_pos rfl]
        exact yp_lt (yp_some ⟨nI_1 k, dy_s0 ((hf k).trans c)⟩)
    · obtain ⟨v, x⟩ := s
      obtain ⟨ex, ev⟩ := hs
      have ex : x = nI (sp_n (τ.1 1) 8) := ex
      subst ex
      show yp (BX8_covers_15 σ (nI m) v (nI (sp_n (τ.1 1) 8))) _
      unfold BX8_covers_15
      rw [yc_8 hW hH, if_pos (nI_le (Nat.le_refl _) (by omega))]
      exact yp_gd (fun _ => yp_some ev)
    · unfold BX8_covers_56
      exact yp_some hv
  · refine yp_bd (fun v => v = dy_set f (sp_n (τ.1 1) 8)) (yp_for (sp_n (τ.1 1) 8) (fun k s => s.2 = nI k ∧ s.1 = dy_set f k) (fun k s hk hs => ?_) (fun s hs => ?_) ⟨nI_0.symm, rfl⟩) (fun v hv => ?_)
    · obtain ⟨v, x⟩ := s
      obtain ⟨ex, ev⟩ := hs
      have ex : x = nI k := ex
      have ev : v = _ := ev
      subst ex
      subst ev
      show yp (BX9_covers_15 u (nI m) _ (nI k)) _
      unfold BX9_covers_15
      rw [ym_8 hW hM.1, if_neg (nI_ge hk (by omega))]
      refine yp_gd (fun _ => yp_bd _ (ym_win hW hM.1 (yM_22 hM) hk) (fun t ht => ?_))
      have em : yl_m (τ.1 1) k m = yl_w (τ.1 1) k m := by
        unfold yl_m
        rw [decide_eq_true hm, Bool.and_true]
      rw [ht, yb_m, yb_Vb (by omega), em]
      refine yp_bit (fun c => ?_) (fun c => ?_)
      · exact yp_lt (yp_lt (yp_some ⟨nI_1 k, dy_s1 ((hf k).trans c)⟩))
      · refine yp_lt (yp_lt (yp_some ⟨nI_1 k, ?_⟩))
        show _ ||| ((0 : Int32) <<< (nI k &&& 31)) = _
        rw [show (0 : Int32) <<< (nI k &&& 31) = 0 from Int32.zero_shiftLeft, yb_or0]
        exact dy_s0 ((hf k).trans c)
    · obtain ⟨v, x⟩ := s
      obtain ⟨ex, ev⟩ := hs
      have ex : x = nI (sp_n (τ.1 1) 8) := ex
      subst ex
      show yp (BX9_covers_15 u (nI m) v (nI (sp_n (τ.1 1) 8))) _
      unfold BX9_covers_15
      rw [ym_8 hW hM.1, if_pos (nI_le (Nat.le_refl _) (by omega))]
      exact yp_gd (fun _ => yp_some ev)
    · unfold BX9_covers_46
      exact yp_some hv
end
