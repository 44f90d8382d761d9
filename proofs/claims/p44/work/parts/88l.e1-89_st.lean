section
/-! answers: greatest, longest, together -/
section
variable {σ τ : sn_S}
/-- best and most, gone through by one up -/
def yz_wo (f : Nat → Int32) : Nat → Int32 × Int32
  | 0 => (-1, 0)
  | n + 1 => if f n ≤ (yz_wo f n).2 then yz_wo f n else (nI n, f n)
theorem yb_xor1 (x : Int32) {j : Nat} (hj : j < 32) : sp_bit (x ^^^ (-1 : Int32)) j = !sp_bit x j := by
  have e : (x ^^^ (-1 : Int32)).toBitVec = x.toBitVec ^^^ (-1 : Int32).toBitVec := rfl
  have e1 : (-1 : Int32).toBitVec = BitVec.allOnes 32 := by decide
  rw [yb_tb _ hj, yb_tb _ hj, e, e1, BitVec.getLsbD_xor, BitVec.getLsbD_allOnes]
  simp [hj]
end
end
section
/-! windows of policies, both sides -/
theorem yb_V {x : Int32} {f : Nat → Bool} (h : ∀ k, k < 32 → sp_bit x k = f k) : x = dy_set f 32 := yb_ext (fun k hk => by rw [yb_set 32 (Nat.le_refl _) k hk, h k hk, decide_eq_true hk, Bool.true_and])
theorem yb_Vb {f : Nat → Bool} {k : Nat} (hk : k < 32) : sp_bit (dy_set f 32) k = f k := by rw [yb_set 32 (Nat.le_refl _) k hk, decide_eq_true hk, Bool.true_and]
theorem yb_win : ∀ a, a < 30 → ∀ b, b < 30 → a ≤ b → ((2 : Int32) <<< (nI b &&& 31)) - ((1 : Int32) <<< (nI a &&& 31)) = (((1 : Int32) <<< (nI (b + 1) &&& 31)) - 1) &&& ((((1 : Int32) <<< (nI a &&& 31)) - 1) ^^^ (-1 : Int32)) := by decide +kernel
theorem yb_wb {a b k : Nat} (ha : a < 30) (hb : b < 30) (h : a ≤ b) (hk : k < 32) : sp_bit (((2 : Int32) <<< (nI b &&& 31)) - ((1 : Int32) <<< (nI a &&& 31))) k = decide (a ≤ k ∧ k ≤ b) := by
  rw [yb_win a ha b hb h, yb_and _ _ hk, yb_low (b + 1) (by omega) k hk, yb_xor1 _ hk, yb_low a (by omega) k hk, Bool.eq_iff_iff]
  simp only [Bool.and_eq_true, Bool.not_eq_true', decide_eq_true_eq, decide_eq_false_iff_not]
  omega
def yl_w (w : Nat → Int32) (q k : Nat) : Bool := decide (sp_n w (50 + 5 * q) ≤ k ∧ k ≤ sp_n w (51 + 5 * q))
def yl_m (w : Nat → Int32) (q k : Nat) : Bool := yl_w w q k && decide (k < sp_n w 0)
section
variable {σ τ u : sn_S} {w : Nat → Int32} {q : Nat}
theorem yl_p (hW : jW w) (hq : q < sp_n w 8) : (w (49 + 5 * q) = nI (sp_n w (49 + 5 * q)) ∧ sp_n w (49 + 5 * q) < sp_n w 5) ∧ yh_n w (50 + 5 * q) 29 ∧ yh_n w (51 + 5 * q) 29 ∧ sp_n w (50 + 5 * q) ≤ sp_n w (51 + 5 * q) ∧ yh_n w (52 + 5 * q) 99 ∧ 1 ≤ sp_n w (52 + 5 * q) ∧ yh_n w (53 + 5 * q) 99 := hW.2.2.2.2.2.2.1 q hq
theorem yl_8 (hW : jW w) : w 8 = nI (sp_n w 8) ∧ sp_n w 8 ≤ 6 := hW.1.2.2.2.2.2.2.2.2.1
theorem yl_5 (hW : jW w) : w 5 = nI (sp_n w 5) ∧ sp_n w 5 ≤ 6 := hW.1.2.2.2.2.2.1
theorem yl_0 (hW : jW w) : w 0 = nI (sp_n w 0) ∧ sp_n w 0 ≤ 30 := hW.1.1
theorem yc_of (hW : jW w) (hH : yH 1 σ w) (hq : q < sp_n w 8) (x : Nat) (hx : x < 5) {y : Int32} (ey : y = nI x) : yp (fX2_ofPolicy σ 1 (nI q) y) (fun v => v = w (49 + x + 5 * q)) := by
  have c8 := (yl_8 hW).2
  subst ey
  unfold fX2_ofPolicy
  rw [yi_5, nI_add, nI_clamp (by omega)]
  exact yp_gd (fun _ => yp_some ((hH.2.2.2.2.1 (5 * q + x) (by omega)).trans (congrArg w (by omega))))
theorem ym_of (hW : jW w) (hu : u.1 1 = w) (hq : q < sp_n w 8) (x : Nat) (hx : x < 5) {y : Int32} (ey : y = nI x) : yp (fX9_of u (nI q) y) (fun v => v = w (49 + x + 5 * q)) := by
  have c8 := (yl_8 hW).2
  subst ey
  unfold fX9_of
  rw [yi_5, show (49 : Int32) + nI (5 * q) = nI (49 + 5 * q) from nI_add 49 _, nI_add, nI_clamp (by omega)]
  exact yp_gd (fun _ => yp_some ((congrFun hu _).trans (congrArg w (by omega))))
theorem yc_8 (hW : jW w) (hH : yH 1 σ w) : sn_I σ (1 + 1) (8 : Int32).toNatClampNeg = nI (sp_n w 8) := (hH.1 8 (by decide)).trans (yl_8 hW).1
theorem ym_8 (hW : jW w) (hu : u.1 1 = w) : sn_I u 1 (8 : Int32).toNatClampNeg = nI (sp_n w 8) := (congrFun hu 8).trans (yl_8 hW).1
theorem yc_win (hW : jW w) (hH : yH 1 σ w) (hq : q < sp_n w 8) : yp (fX2_window σ 1 (nI q)) (fun v => v = dy_set (yl_w w q) 32) := by
  obtain ⟨-, ⟨a1, a2⟩, ⟨b1, b2⟩, hab, -⟩ := yl_p hW hq
  have c8 := (yl_8 hW).2
  have e1 : sn_I σ (1 + 5) (nI (5 * q) + (1 : Int32)).toNatClampNeg = nI (sp_n w (50 + 5 * q)) := by
    rw [nI_1, nI_clamp (by omega)]
    exact (hH.2.2.2.2.1 (5 * q + 1) (by omega)).trans ((congrArg w (by omega)).trans a1)
  have e2 : sn_I σ (1 + 5) (nI (5 * q) + (2 : Int32)).toNatClampNeg = nI (sp_n w (51 + 5 * q)) := by
    rw [show nI (5 * q) + (2 : Int32) = nI (5 * q + 2) from nI_add _ 2, nI_clamp (by omega)]
    exact (hH.2.2.2.2.1 (5 * q + 2) (by omega)).trans ((congrArg w (by omega)).trans b1)
  unfold fX2_window
  rw [yi_5]
  refine yp_lt (yp_gd (fun _ => yp_gd (fun _ => yp_some ?_)))
  rw [e1, e2]
  exact yb_V (fun k hk => yb_wb (by omega) (by omega) hab hk)
theorem ym_win (hW : jW w) (hu : u.1 1 = w) (h22 : u.1 0 22 = nI (sp_n w 0) - 1) (hq : q < sp_n w 8) : yp (fX9_windowOf u (nI q)) (fun v => v = dy_set (yl_m w q) 32) := by
  obtain ⟨-, ⟨a1, a2⟩, ⟨b1, b2⟩, hab, -⟩ := yl_p hW hq
  have c0 := (yl_0 hW).2
  unfold fX9_windowOf
  refine yp_bd _ (ym_of hW hu hq 1 (by decide) rfl) (fun t ht => ?_)
  rw [ht, show w (49 + 1 + 5 * q) = nI (sp_n w (50 + 5 * q)) from a1]
  refine yp_bd (fun v => v = dy_set (yl_m w q) 32) (yp_it (fun s : Int32 × Int32 => ∃ m, sp_n w (50 + 5 * q) ≤ m ∧ m ≤ sp_n w (51 + 5 * q) + 1 ∧ (m ≤ sp_n w 0 ∨ m = sp_n w (50 + 5 * q)) ∧ s.2 = nI m ∧ ∀ k, k < 32 → sp_bit s.1 k = decide (sp_n w (50 + 5 * q) ≤ k ∧ k < m)) (fun s hs => ?_) _ _ ⟨sp_n w (50 + 5 * q), Nat.le_refl _, by omega, Or.inr rfl, rfl, fun k hk => ?_⟩) (fun v hv => ?_)
  · obtain ⟨v, x⟩ := s
    obtain ⟨m, h1, h2, h3, ex, hb⟩ := hs
    have ex : x = nI m := ex
    subst ex
    have hb : ∀ k, k < 32 → sp_bit v k = decide (sp_n w (50 + 5 * q) ≤ k ∧ k < m) := hb
    show yp (BX9_windowOf_9 u (nI q) v (nI m)) _
    unfold BX9_windowOf_9
    refine yp_bd _ (ym_of hW hu hq 2 (by decide) rfl) (fun t ht => ?_)
    rw [ht, show w (49 + 2 + 5 * q) = nI (sp_n w (51 + 5 * q)) from b1, show sn_I u 0 22 = _ from h22]
    refine yp_ite (fun c => yp_some (yb_V fun k hk => ?_)) (fun c => yp_ite (fun c2 => yp_some (yb_V fun k hk => ?_)) (fun c2 => ?_))
    · have c := (nI_ltI (by omega) (by omega)).mp c
      rw [hb k hk]
      unfold yl_m yl_w
      rw [Bool.eq_iff_iff]
      simp only [Bool.and_eq_true, decide_eq_true_eq]
      omega
    · have c2 := (yi_last c0 (by omega)).mp c2
      rw [hb k hk]
      unfold yl_m yl_w
      rw [Bool.eq_iff_iff]
      simp only [Bool.and_eq_true, decide_eq_true_eq]
      have c := fun h => c ((nI_ltI (by omega) (by omega)).mpr h)
      omega
    · have c : ¬ sp_n w (51 + 5 * q) < m := fun h => c ((nI_ltI (by omega) (by omega)).mpr h)
      have c2 : ¬ sp_n w 0 ≤ m := fun h => c2 ((yi_last c0 (by omega)).mpr h)
      refine yp_lt (yp_lt (yp_some ⟨m + 1, by omega, by omega, Or.inl (by omega), nI_1 m, fun k hk => ?_⟩))
      show sp_bit (v ||| ((1 : Int32) <<< (nI m &&& 31))) k = _
      rw [yb_or1 _ (by omega) hk, hb k hk, Bool.eq_iff_iff]
      simp only [Bool.or_eq_true, decide_eq_true_eq]
      omega
  · show sp_bit 0 k = _
    rw [yb_z k hk, decide_eq_false (by omega)]
  · unfold BX9_windowOf_39
    exact yp_some hv
theorem yM_22 (h : yM τ u w) : u.1 0 22 = nI (sp_n w 0) - 1 := h.2.2.2.2.2.2.1
end
end
section
/-! claims, both sides -/
def yn_sum (f : Nat → Nat) : Nat → Nat
  | 0 => 0
  | n + 1 => yn_sum f n + f n
theorem yn_up {f g : Nat → Nat} {m a : Nat} (hm : g m = f m + a) (ho : ∀ k, k ≠ m → g k = f k) : ∀ n, yn_sum g n = yn_sum f n + if m < n then a else 0 := by
  intro n
  induction n with
  | zero => rfl
  | succ n ih =>
    show yn_sum g n + g n = yn_sum f n + f n + _
    rw [ih]
    by_cases e : m = n
    · subst e
      rw [hm, if_neg (by omega), if_pos (by omega)]
      omega
    · rw [ho n (by omega)]
      by_cases c : m < n
      · rw [if_pos c, if_pos (by omega)]; omega
      · rw [if_neg c, if_neg (by omega)]; omega
def yl_fst (x : Int32) : Nat → Int32
  | 0 => -1
  | n + 1 => if yl_fst x n = -1 ∧ sp_bit x n = true then nI n else yl_fst x n
theorem yl_ne {k : Nat} (h : k < 100) : nI k ≠ -1 := by
  intro e
  have h1 := nI_toInt (show k < 2 ^ 31 by omega)
  rw [e, show (-1 : Int32).toInt = -1 by decide] at h1
  omega
theorem yl_F0 (x : Int32) : ∀ n, n ≤ 32 → (yl_fst x n = -1 ∧ ∀ k, k < n → sp_bit x k = false) ∨ ∃ k, k < n ∧ sp_bit x k = true ∧ (∀ j, j < k → sp_bit x j = false) ∧ yl_fst x n = nI k := by
  intro n
  induction n with
  | zero => intro _; exact Or.inl ⟨rfl, fun k hk => absurd hk (by omega)⟩
  | succ n ih =>
    intro hn
    have e : yl_fst x (n + 1) = if yl_fst x n = -1 ∧ sp_bit x n = true then nI n else yl_fst x n := rfl
    rcases ih (by omega) with ⟨h1, h2⟩ | ⟨k, h1, h2, h3, h4⟩
    · cases c : sp_bit x n with
      | true => exact Or.inr ⟨n, by omega, c, h2, by rw [e, if_pos ⟨h1, c⟩]⟩
      | false =>
        refine Or.inl ⟨?_, fun k hk => ?_⟩
        · rw [e, if_neg (fun h => by rw [c] at h; exact absurd h.2 (by decide))]
          exact h1
        · by_cases g : k = n
          · rw [g]; exact c
          · exact h2 k (by omega)
    · refine Or.inr ⟨k, by omega, h2, h3, ?_⟩
      rw [e, if_neg (fun h => yl_ne (by omega) (h4.symm.trans h.1))]
      exact h4
theorem yl_F (x : Int32) : yb_F x 0 (yl_fst x 30) := by
  rcases yl_F0 x 30 (by decide) with ⟨h1, h2⟩ | ⟨k, h1, h2, h3, h4⟩
  · exact Or.inl ⟨h1, fun k _ hk => h2 k hk⟩
  · exact Or.inr ⟨k, Nat.zero_le _, h1, h2, fun j _ hj => h3 j hj, h4⟩
/-- one bit fewer -/
theorem yb_pop1 {x y : Int32} {m : Nat} (hm : sp_bit x m = true) (h : ∀ k, k < 32 → sp_bit y k = (sp_bit x k && !decide (k = m))) : ∀ n, n ≤ 32 → yb_pop y n + (if m < n then 1 else 0) = yb_pop x n := by
  intro n
  induction n with
  | zero => intro _; rfl
  | succ n ih =>
    intro hn
    have e := ih (by omega)
    show yb_pop y n + (if sp_bit y n = true then 1 else 0) + _ = yb_pop x n + (if sp_bit x n = true then 1 else 0)
    rw [h n (by omega), ← e]
    by_cases c : n = m
    · subst c
      rw [decide_eq_true rfl, hm, if_neg (by decide), if_pos (by omega), if_neg (by omega), if_pos rfl]
    · rw [decide_eq_false c, Bool.not_false, Bool.and_true]
      by_cases g : m < n
      · rw [if_pos g, if_pos (show m < n + 1 by omega)]; omega
      · rw [if_neg g, if_neg (show ¬ m < n + 1 by omega), Nat.add_zero, Nat.add_zero]
theorem yb_popge {x : Int32} {k : Nat} (h : sp_bit x k = true) : ∀ n, k < n → 1 ≤ yb_pop x n := by
  intro n
  induction n with
  | zero => intro g; exact absurd g (by omega)
  | succ n ih =>
    intro g
    show 1 ≤ yb_pop x n + (if sp_bit x n = true then 1 else 0)
    by_cases e : k = n
    · subst e
      rw [if_pos h]
      omega
    · have := ih (by omega)
      omega
def yl_A (r : Int32) : Int32 := ((1 : Int32) <<< (r &&& 31)) - 1
/-- the sneezes by which a policy pays, of those in s -/
def yl_C (w : Nat → Int32) (l : Int32) (q : Nat) (s : Int32) : Int32 := dy_set (fun k => sp_bit s k && yl_w w q k && (!decide (l = 1) || !sp_bit (hs_gust w (sp_n w 6)) k)) 32
/-- what one sneeze brings -/
def yl_a (w : Nat → Int32) (l : Int32) (q : Nat) (s h : Int32) : Nat := if l = 3 ∧ ¬ h &&& (yl_A (yl_fst (yl_C w l q s) 30) &&& dy_set (yl_w w q) 32) = 0 then sp_n w (52 + 5 * q) / 2 else sp_n w (52 + 5 * q)
def yl_v (w : Nat → Int32) (l : Int32) (q : Nat) (s h : Int32) : Nat := min (if l = 2 then 3 else 1) (yb_pop (yl_C w l q s) 30) * yl_a w l q s h
section
variable {σ τ u z : sn_S} {w : Nat → Int32} {q : Nat} {l s h : Int32}
theorem yl_Cb {k : Nat} (hk : k < 32) : sp_bit (yl_C w l q s) k = (sp_bit s k && yl_w w q k && (!decide (l = 1) || !sp_bit (hs_gust w (sp_n w 6)) k)) := yb_Vb hk
theorem yl_Cs {k M : Nat} (hs : ∀ k, M ≤ k → k < 32 → sp_bit s k = false) (h1 : M ≤ k) (hk : k < 32) : sp_bit (yl_C w l q s) k = false := by
  rw [yl_Cb hk, hs k h1 hk]
  rfl
theorem yl_ale : yl_a w l q s h ≤ sp_n w (52 + 5 * q) := by
  unfold yl_a
  by_cases c : l = 3 ∧ ¬ h &&& (yl_A (yl_fst (yl_C w l q s) 30) &&& dy_set (yl_w w q) 32) = 0
  · rw [if_pos c]; omega
  · rw [if_neg c]; omega
theorem yl_vle (hW : jW w) (hq : q < sp_n w 8) : yl_v w l q s h ≤ 297 := by
  have h1 := (yl_p hW hq).2.2.2.2.1.2
  have h2 : yl_a w l q s h ≤ sp_n w (52 + 5 * q) := yl_ale
  have h3 : min (if l = 2 then 3 else 1) (yb_pop (yl_C w l q s) 30) ≤ 3 := Nat.le_trans (Nat.min_le_left _ _) (by by_cases c : l = 2 <;> simp [c])
  exact Nat.le_trans (Nat.mul_le_mul h3 (Nat.le_trans h2 h1)) (by decide)
theorem yc_gust (hW : jW w) (hH : yH 1 σ w) : yp (fX2_gustMinutes σ 1) (fun v => v = hs_gust w (sp_n w 6)) := by
  obtain ⟨g1, g2⟩ : yh_n w 6 5 := hW.1.2.2.2.2.2.2.1
  have e6 : sn_I σ (1 + 1) (6 : Int32).toNatClampNeg = nI (sp_n w 6) := (hH.1 6 (by decide)).trans g1
  unfold fX2_gustMinutes
  refine yp_bd (fun v => v = hs_gust w (sp_n w 6)) (yp_for (sp_n w 6) (fun n s => s.2 = nI n ∧ s.1 = hs_gust w n) (fun n s hn hs => ?_) (fun s hs => ?_) ⟨nI_0.symm, rfl⟩) (fun v hv => ?_)
  · obtain ⟨v, x⟩ := s
    obtain ⟨ex, ev⟩ := hs
    have ex : x = nI n := ex
    have ev : v = _ := ev
    subst ex
    subst ev
    have e1 : sn_I σ (1 + 3) ((2 : Int32) * nI n + (1 : Int32)).toNatClampNeg = nI (sp_n w (24 + 2 * n)) := by
      rw [yi_2, nI_1, nI_clamp (by omega)]
      exact (hH.2.2.1 (2 * n + 1) (by omega)).trans ((congrArg w (by omega)).trans (hW.2.2.2.2.1 n hn).2.1)
    show yp (BX2_gustMinutes_4 σ 1 _ (nI n)) _
    unfold BX2_gustMinutes_4
    rw [e6, if_neg (nI_ge hn (by omega)), e1]
    exact yp_gd (fun _ => yp_gd (fun _ => yp_lt (yp_lt (yp_some ⟨nI_1 n, rfl⟩))))
  · obtain ⟨v, x⟩ := s
    obtain ⟨ex, ev⟩ := hs
    have ex : x = nI (sp_n w 6) := ex
    subst ex
    show yp (BX2_gustMinutes_4 σ 1 v (nI (sp_n w 6))) _
    unfold BX2_gustMinutes_4
    rw [e6, if_pos (nI_le (Nat.le_refl _) (by omega))]
    exact yp_gd (fun _ => yp_some ev)
  · unfold BX2_gustMinutes_36
    exact yp_some hv
theorem yc_count (hW : jW w) (hH : yH 1 σ w) (hq : q < sp_n w 8) : yp (fX3_counting σ 1 l (nI q) s) (fun v => v = yl_C w l q s) := by
  unfold fX3_counting
  refine yp_bd _ (yc_win hW hH hq) (fun t ht => yp_lt ?_)
  rw [ht]
  refine yp_ite (fun c => yp_bd _ (yc_gust hW hH) (fun t2 ht2 => yp_some ?_)) (fun c => yp_some ?_)
  · rw [ht2]
    refine yb_V (fun k hk => ?_)
    rw [yb_and _ _ hk, yb_and _ _ hk, yb_Vb hk, yb_xor1 _ hk, decide_eq_true c]
    rfl
  · refine yb_V (fun k hk => ?_)
    rw [yb_and _ _ hk, yb_Vb hk, decide_eq_false c]
    exact (Bool.and_true _).symm
theorem yc_claim (hW : jW w) (hH : yH 1 σ w) (hq : q < sp_n w 8) (hs : ∀ k, sp_n w 0 ≤ k → k < 32 → sp_bit s k = false) : yp (fX3_claimBy σ 1 l (nI q) s h) (fun v => v = nI (yl_v w l q s h)) := by
  have c0 := (yl_0 hW).2
  obtain ⟨-, -, -, -, ⟨s1, s2⟩, -⟩ := yl_p hW hq
  have C30 : ∀ k, 30 ≤ k → k < 32 → sp_bit (yl_C w l q s) k = false := fun k h1 h2 => yl_Cs hs (by omega) h2
  unfold fX3_claimBy
  refine yp_bd _ (yc_count hW hH hq) (fun t1 h1 => yp_bd _ (yc_of hW hH hq 3 (by decide) rfl) (fun t3 h3 => ?_))
  rw [h1, h3, show w (49 + 3 + 5 * q) = nI (sp_n w (52 + 5 * q)) from s1]
  refine yp_ite (fun c => yp_some ?_) (fun c => ?_)
  · have : yb_pop (yl_C w l q s) 30 = 0 := by
      rw [c]
      exact yb_popz 30 (fun k hk => yb_z k (by omega))
    unfold yl_v
    rw [this, Nat.min_zero, Nat.zero_mul]
    exact nI_0.symm
  obtain ⟨k, k1, k2, k3⟩ := yb_ex c
  have k30 : k < 30 := by
    rcases Nat.lt_or_ge k 30 with g | g
    · exact g
    · rw [C30 k g k1] at k2; cases k2
  have pop1 := yb_popge k2 30 k30
  refine yp_ite (fun c2 => ?_) (fun c2 => ?_)
  · have ea : yl_a w l q s h = sp_n w (52 + 5 * q) := by
      unfold yl_a
      rw [if_neg (fun g => absurd (c2.symm.trans g.1) (by decide))]
    rw [yb_count, yb_pop30 C30]
    refine yp_bs rfl (yp_lt (yp_some ?_))
    unfold yl_v
    rw [ea, if_pos c2]
    have hp := yb_pople (yl_C w l q s) 30
    by_cases g : yb_pop (yl_C w l q s) 30 < 3
    · rw [if_pos (show nI (yb_pop (yl_C w l q s) 30) < (3 : Int32) from nI_lt (b := 3) g (by decide)), nI_mul, Nat.min_eq_right (by omega), Nat.mul_comm]
    · rw [if_neg (show ¬ nI (yb_pop (yl_C w l q s) 30) < (3 : Int32) from nI_nlt (b := 3) (by omega) (by omega)), show nI (sp_n w (52 + 5 * q)) * (3 : Int32) = nI (sp_n w (52 + 5 * q) * 3) from nI_mul _ 3, Nat.min_eq_left (by omega), Nat.mul_comm]
  · refine yp_bd _ (yb_lowest C30) (fun t7 h7 => ?_)
    have e7 : t7 = yl_fst (yl_C w l q s) 30 := yb_F1 h7 (yl_F _)
    unfold fX8_firstMinutes
    refine yp_bs rfl (yp_bd _ (yc_win hW hH hq) (fun t11 h11 => yp_lt ?_))
    rw [h11, e7]
    have ev : yl_v w l q s h = yl_a w l q s h := by
      unfold yl_v
      rw [if_neg c2, Nat.min_eq_left pop1, Nat.one_mul]
    rw [ev]
    refine yp_ite (fun c3 => yp_ite (fun c4 => yp_some ?_) (fun c4 => yp_some ?_)) (fun c3 => yp_some ?_)
    · unfold yl_a
      rw [if_neg (fun g => g.2 c4)]
    · unfold yl_a
      rw [if_pos ⟨c3, c4⟩]
      exact yi_d2 (by omega)
    · unfold yl_a
      rw [if_neg (fun g => c3 g.1)]
/-! the reference's claim -/
def yl_fr (u z : sn_S) : Prop := (∀ a, a ≠ 0 → a ≠ 16 → z.1 a = u.1 a) ∧ ∀ k, k ≠ 30 → z.1 0 k = u.1 0 k
theorem yl_fr0 : yl_fr u u := ⟨fun _ _ _ => rfl, fun _ _ => rfl⟩
theorem yl_frt {v : sn_S} (h : yl_fr u z) (g : yl_fr z v) : yl_fr u v := ⟨fun a h0 h1 => (g.1 a h0 h1).trans (h.1 a h0 h1), fun k h0 => (g.2 k h0).trans (h.2 k h0)⟩
def yX (u : sn_S) (w : Nat → Int32) (l : Int32) (S H : Nat → Int32) : Prop := u.1 1 = w ∧ (∀ p, p < sp_n w 5 → u.1 10 p = S p ∧ u.1 8 p = H p) ∧ u.1 0 18 = hs_gust w (sp_n w 6) ∧ u.1 0 20 = l ∧ u.1 0 22 = nI (sp_n w 0) - 1
theorem yX_fr {S H : Nat → Int32} (h : yl_fr u z) (g : yX u w l S H) : yX z w l S H :=
  ⟨(h.1 1 (by decide) (by decide)).trans g.1, fun p hp => ⟨(congrFun (h.1 10 (by decide) (by decide)) p).trans (g.2.1 p hp).1, (congrFun (h.1 8 (by decide) (by decide)) p).trans (g.2.1 p hp).2⟩, (h.2 18 (by decide)).trans g.2.2.1, (h.2 20 (by decide)).trans g.2.2.2.1, (h.2 22 (by decide)).trans g.2.2.2.2⟩
/-- what is paid by minutes: v more in the first M minutes -/
def yl_pd (M : Nat) (x : Int32) (u z : sn_S) (v : Nat) : Prop := x ≠ 0 → ∀ c : Nat → Nat, (∀ m, m < 30 → u.1 16 m = nI (c m)) → ∃ c' : Nat → Nat, (∀ m, m < 30 → z.1 16 m = nI (c' m)) ∧ yn_sum c' M = yn_sum c M + v
theorem yl_half {M m : Nat} (hw : ∀ k, k < 32 → yl_m w q k = (yl_w w q k && decide (k < M))) (hm : m < M) (hM : M ≤ 30) : (h &&& dy_set (yl_m w q) 32) &&& yl_A (nI m) = h &&& (yl_A (nI m) &&& dy_set (yl_w w q) 32) := by
  refine yb_ext (fun k hk => ?_)
  have e : sp_bit (yl_A (nI m)) k = decide (k < m) := yb_low m (by omega) k hk
  rw [yb_and _ _ hk, yb_and _ _ hk, yb_and _ _ hk, yb_and _ _ hk, yb_Vb hk, yb_Vb hk, e, hw k hk]
  by_cases g : k < m
  · rw [decide_eq_true g, decide_eq_true (show k < M by omega), Bool.and_true, Bool.and_true, Bool.true_and]
  · rw [decide_eq_false g, Bool.and_false, Bool.false_and, Bool.and_false]
def yl_I (w : Nat → Int32) (l : Int32) (q : Nat) (s h x : Int32) (u : sn_S) (t : sn_S × Int32 × Int32 × Int32) : Prop := ∃ n, n ≤ (if l = 2 then 3 else 1) ∧ t.2.2.2 = nI n ∧ yl_fr u t.1 ∧ t.1.1 0 30 = yl_fst (yl_C w l q s) 30 ∧ t.2.2.1 = nI (n * yl_a w l q s h) ∧ (∀ k, k < 32 → sp_bit t.2.1 k = true → sp_bit (yl_C w l q s) k = true) ∧ (n = 0 → t.2.1 = yl_C w l q s) ∧ yb_pop t.2.1 30 + n = yb_pop (yl_C w l q s) 30 ∧ yl_pd (sp_n w 0) x u t.1 (n * yl_a w l q s h)
theorem ym_claimI {S H : Nat → Int32} {x : Int32} {p : Nat} (hW : jW w) (hq : q < sp_n w 8) (hp : p < sp_n w 5) (hX : yX u w l S H) (hs : ∀ k, sp_n w 0 ≤ k → k < 32 → sp_bit (S p) k = false) (t : sn_S × Int32 × Int32 × Int32) (ht : yl_I w l q (S p) (H p) x u t) : yp (LX9_claimOf_63 (nI q) (nI p) x (nI (if l = 2 then 3 else 1)) t) (yp_sum (yl_I w l q (S p) (H p) x u) (fun r => yl_fr u r.1 ∧ r.1.1 0 30 = yl_fst (yl_C w l q (S p)) 30 ∧ r.2 = nI (yl_v w l q (S p) (H p)) ∧ yl_pd (sp_n w 0) x u r.1 (yl_v w l q (S p) (H p)))) := by
  have c0 := (yl_0 hW).2
  have c5 := (yl_5 hW).2
  obtain ⟨-, -, -, -, ⟨s1, s2⟩, -⟩ := yl_p hW hq
  obtain ⟨z, st, sm, x7⟩ := t
  obtain ⟨n, hn, ex, hf, h30, em, hb, h0, hpop, hpd⟩ := ht
  have ex : x7 = nI n := ex
  subst ex
  have em : sm = nI (n * yl_a w l q (S p) (H p)) := em
  have hf : yl_fr u z := hf
  have h30 : z.1 0 30 = yl_fst (yl_C w l q (S p)) 30 := h30
  have hb : ∀ k, k < 32 → sp_bit st k = true → sp_bit (yl_C w l q (S p)) k = true := hb
  have h0 : n = 0 → st = yl_C w l q (S p) := h0
  have hpop : yb_pop st 30 + n = yb_pop (yl_C w l q (S p)) 30 := hpop
  have hpd : yl_pd (sp_n w 0) x u z (n * yl_a w l q (S p) (H p)) := hpd
  have hZ := yX_fr hf hX
  have m3 : (if l = 2 then 3 else 1) ≤ 3 := by by_cases c : l = 2 <;> simp [c]
  have stM : ∀ k, sp_n w 0 ≤ k → k < 32 → sp_bit st k = false := fun k h1 h2 => by
    cases g : sp_bit st k with
    | false => rfl
    | true =>
      have := hb k h2 g
      rw [yl_Cs hs h1 h2] at this
      cases this
  show yp (BX9_claimOf_63 z (nI q) (nI p) x st sm (nI (if l = 2 then 3 else 1)) (nI n)) _
  unfold BX9_claimOf_63
  have ends : n = min (if l = 2 then 3 else 1) (yb_pop (yl_C w l q (S p)) 30) → yp (some (Sum.inr (z, sm)) : Option ((sn_S × Int32 × Int32 × Int32) ⊕ (sn_S × Int32))) (yp_sum (yl_I w l q (S p) (H p) x u) (fun r => yl_fr u r.1 ∧ r.1.1 0 30 = yl_fst (yl_C w l q (S p)) 30 ∧ r.2 = nI (yl_v w l q (S p) (H p)) ∧ yl_pd (sp_n w 0) x u r.1 (yl_v w l q (S p) (H p)))) := fun e => by
    have ev : yl_v w l q (S p) (H p) = n * yl_a w l q (S p) (H p) := by
      unfold yl_v
      rw [← e]
    refine yp_some ⟨hf, h30, ?_, ?_⟩
    · rw [ev]; exact em
    · rw [ev]; exact hpd
  refine yp_ite (fun c => ?_) (fun c => yp_ite (fun c2 => ?_) (fun c2 => ?_))
  · have c := (nI_leI (by omega) (by omega)).mp c
    exact ends (by rw [Nat.min_eq_left (by omega)]; omega)
  · have e : yb_pop st 30 = 0 := by
      rw [c2]
      exact yb_popz 30 (fun k hk => yb_z k (by omega))
    exact ends (by rw [Nat.min_eq_right (by omega)]; omega)
  have c : ¬ (if l = 2 then 3 else 1) ≤ n := fun g => c ((nI_leI (by omega) (by omega)).mpr g)
  refine yp_bd _ (yb_firstOf st) (fun r hr => ?_)
  have hm : ∃ m, m < sp_n w 0 ∧ sp_bit st m = true ∧ r = nI m := by
    rcases hr with ⟨-, g⟩ | ⟨m, -, m1, m2, -, m4⟩
    · obtain ⟨k, k1, k2, -⟩ := yb_ex c2
      rcases Nat.lt_or_ge k 30 with g2 | g2
      · rw [g k (Nat.zero_le _) g2] at k2; cases k2
      · rw [stM k (by omega) k1] at k2; cases k2
    · refine ⟨m, ?_, m2, m4⟩
      rcases Nat.lt_or_ge m (sp_n w 0) with g | g
      · exact g
      · rw [stM m g (by omega)] at m2; cases m2
  obtain ⟨m, m1, m2, m4⟩ := hm
  have hr0 : n = 0 → nI m = yl_fst (yl_C w l q (S p)) 30 := fun e => by
    rw [← m4]
    rw [h0 e] at hr
    exact yb_F1 hr (yl_F _)
  rw [m4]
  refine yp_lt ?_
  generalize hy : st &&& (((1 : Int32) <<< (nI m &&& 31)) ^^^ (-1 : Int32)) = y
  have yb : ∀ k, k < 32 → sp_bit y k = (sp_bit st k && !decide (k = m)) := fun k hk => by
    rw [← hy, yb_and _ _ hk, yb_xor1 _ hk, yb_1k (by omega) hk]
  have ypop := yb_pop1 m2 yb 30 (by decide)
  rw [if_pos (show m < 30 by omega)] at ypop
  have k152 : yp (BX9_claimOf_152 z (nI q) (nI p) x y sm (nI (if l = 2 then 3 else 1)) (nI n) (nI m) (nI (yl_a w l q (S p) (H p)))) (yp_sum (yl_I w l q (S p) (H p) x u) (fun r => yl_fr u r.1 ∧ r.1.1 0 30 = yl_fst (yl_C w l q (S p)) 30 ∧ r.2 = nI (yl_v w l q (S p) (H p)) ∧ yl_pd (sp_n w 0) x u r.1 (yl_v w l q (S p) (H p)))) := by
    have es : sm + nI (yl_a w l q (S p) (H p)) = nI ((n + 1) * yl_a w l q (S p) (H p)) := by
      rw [em, nI_add, Nat.succ_mul]
    have hb2 : ∀ k, k < 32 → sp_bit y k = true → sp_bit (yl_C w l q (S p)) k = true := fun k hk g => by
      rw [yb k hk] at g
      exact hb k hk (Bool.and_eq_true _ _ ▸ g).1
    unfold BX9_claimOf_152 BX9_claimOf_177
    refine yp_lt (yp_ite (fun g => yp_lt (yp_some ⟨n + 1, by omega, nI_1 n, hf, h30, es, hb2, fun e => absurd e (by omega), ?_, fun g2 => absurd g g2⟩)) (fun g => yp_gd (fun _ => yp_gd (fun _ => yp_lt (yp_lt (yp_some ⟨n + 1, by omega, nI_1 n, ?_, ?_, es, hb2, fun e => absurd e (by omega), ?_, ?_⟩))))))
    · show yb_pop y 30 + (n + 1) = _
      omega
    · exact yl_frt hf ⟨fun a h1 h2 => pI_ne h2, fun k _ => congrFun (pI_ne (by decide)) k⟩
    · exact (congrFun (pI_ne (by decide)) 30).trans h30
    · show yb_pop y 30 + (n + 1) = _
      omega
    · intro g2 cc hcc
      obtain ⟨c', hc1, hc2⟩ := hpd g2 cc hcc
      refine ⟨fun k => if k = m then c' k + yl_a w l q (S p) (H p) else c' k, fun k hk => ?_, ?_⟩
      · rw [nI_clamp (show m < 2 ^ 31 by omega)]
        by_cases e : k = m
        · subst e
          show (sn_pI z 16 k (sn_I z 16 k + nI (yl_a w l q (S p) (H p)))).1 16 k = nI (if k = k then c' k + yl_a w l q (S p) (H p) else c' k)
          rw [if_pos rfl, pI_self, show sn_I z 16 k = _ from hc1 k hk]
          exact nI_add _ _
        · show (sn_pI z 16 m (sn_I z 16 m + nI (yl_a w l q (S p) (H p)))).1 16 k = nI (if k = m then c' k + yl_a w l q (S p) (H p) else c' k)
          rw [if_neg e, pI_slot e]
          exact hc1 k hk
      · rw [yn_up (f := c') (m := m) (a := yl_a w l q (S p) (H p)) (by rw [if_pos rfl]) (fun k hk => by rw [if_neg hk]), if_pos m1, hc2, Nat.succ_mul]
        omega
  have k127 : yl_a w l q (S p) (H p) = sp_n w (52 + 5 * q) → yp (BX9_claimOf_127 z (nI q) (nI p) x y sm (nI (if l = 2 then 3 else 1)) (nI n) (nI m)) (yp_sum (yl_I w l q (S p) (H p) x u) (fun r => yl_fr u r.1 ∧ r.1.1 0 30 = yl_fst (yl_C w l q (S p)) 30 ∧ r.2 = nI (yl_v w l q (S p) (H p)) ∧ yl_pd (sp_n w 0) x u r.1 (yl_v w l q (S p) (H p)))) := fun e => by
    unfold BX9_claimOf_127 BX9_claimOf_128
    rw [if_pos rfl]
    refine yp_bd _ (ym_of hW hZ.1 hq 3 (by decide) rfl) (fun t ht => ?_)
    rw [ht, show w (49 + 3 + 5 * q) = nI (sp_n w (52 + 5 * q)) from s1, ← e]
    exact k152
  rw [show sn_I z 0 20 = _ from hZ.2.2.2.1]
  refine yp_ite (fun c3 => yp_gd (fun _ => yp_bd _ (ym_win hW hZ.1 hZ.2.2.2.2 hq) (fun t9 h9 => ?_))) (fun c3 => k127 (by unfold yl_a; rw [if_neg (fun g => c3 g.1)]))
  have c1 : (if l = 2 then 3 else 1) = 1 := by rw [if_neg (fun g => absurd (c3.symm.trans g) (by decide))]
  have n0 : n = 0 := by omega
  have eh : (H p &&& dy_set (yl_m w q) 32) &&& yl_A (nI m) = H p &&& (yl_A (yl_fst (yl_C w l q (S p)) 30) &&& dy_set (yl_w w q) 32) := by
    rw [← hr0 n0]
    exact yl_half (M := sp_n w 0) (fun k _ => rfl) m1 c0
  unfold fX9_ahead
  refine yp_bs rfl ?_
  rw [h9, nI_clamp (show p < 2 ^ 31 by omega), show sn_I z 8 p = _ from (hZ.2.1 p hp).2, show ((1 : Int32) <<< (nI m &&& 31)) - (1 : Int32) = yl_A (nI m) from rfl, eh]
  refine yp_ite (fun c4 => k127 (by unfold yl_a; rw [if_neg (fun g => g.2 c4)])) (fun c4 => ?_)
  unfold BX9_claimOf_128
  rw [if_neg (by decide)]
  refine yp_bd _ (ym_of hW hZ.1 hq 3 (by decide) rfl) (fun t ht => ?_)
  have e : yl_a w l q (S p) (H p) = sp_n w (52 + 5 * q) / 2 := by
    unfold yl_a
    rw [if_pos ⟨c3, c4⟩]
  rw [ht, show w (49 + 3 + 5 * q) = nI (sp_n w (52 + 5 * q)) from s1, yi_d2 (by omega), ← e]
  exact k152
theorem ym_claim {S H : Nat → Int32} {x : Int32} {p : Nat} (hW : jW w) (hq : q < sp_n w 8) (hp : p < sp_n w 5) (hX : yX u w l S H) (hs : ∀ k, sp_n w 0 ≤ k → k < 32 → sp_bit (S p) k = false) : yp (fX9_claimOf u (nI q) (nI p) x) (fun r => yl_fr u r.2 ∧ r.2.1 0 30 = yl_fst (yl_C w l q (S p)) 30 ∧ r.1 = nI (yl_v w l q (S p) (H p)) ∧ yl_pd (sp_n w 0) x u r.2 (yl_v w l q (S p) (H p))) := by
  have c0 := (yl_0 hW).2
  have c5 := (yl_5 hW).2
  have k58 : ∀ (z : sn_S), yl_fr u z → z.1 16 = u.1 16 → z.1 0 30 = yl_fst (yl_C w l q (S p)) 30 → yp (BX9_claimOf_58 z (nI q) (nI p) x (yl_C w l q (S p)) (0 : Int32) (nI (if l = 2 then 3 else 1))) (fun r => yl_fr u r.2 ∧ r.2.1 0 30 = yl_fst (yl_C w l q (S p)) 30 ∧ r.1 = nI (yl_v w l q (S p) (H p)) ∧ yl_pd (sp_n w 0) x u r.2 (yl_v w l q (S p) (H p))) := fun z hf h16 h30 => by
    unfold BX9_claimOf_58
    refine yp_bd _ (yp_it (yl_I w l q (S p) (H p) x u) (ym_claimI hW hq hp hX hs) _ _ ⟨0, Nat.zero_le _, nI_0.symm, hf, h30, ?_, fun _ _ g => g, fun _ => rfl, rfl, fun _ cc hcc => ⟨cc, fun m hm => ?_, ?_⟩⟩) (fun r hr => ?_)
    · rw [Nat.zero_mul]; exact nI_0.symm
    · rw [show (z, yl_C w l q (S p), (0 : Int32), (0 : Int32)).1 = z from rfl, h16]
      exact hcc m hm
    · rw [Nat.zero_mul]; rfl
    · unfold BX9_claimOf_183
      exact yp_some hr
  have k33 : yp (BX9_claimOf_33 u (nI q) (nI p) x (yl_C w l q (S p))) (fun r => yl_fr u r.2 ∧ r.2.1 0 30 = yl_fst (yl_C w l q (S p)) 30 ∧ r.1 = nI (yl_v w l q (S p) (H p)) ∧ yl_pd (sp_n w 0) x u r.2 (yl_v w l q (S p) (H p))) := by
    unfold BX9_claimOf_33
    refine yp_bd _ (yb_firstOf _) (fun r hr => yp_lt ?_)
    have er : r = yl_fst (yl_C w l q (S p)) 30 := yb_F1 hr (yl_F _)
    have g := k58 (sn_pI u 0 30 r) ⟨fun a h0 h1 => pI_ne h0, fun k h0 => pI_slot h0⟩ (pI_ne (by decide)) (pI_self.trans er)
    rw [show sn_I (sn_pI u 0 30 r) 0 20 = l from (pI_slot (by decide)).trans hX.2.2.2.1]
    refine yp_ite (fun c => ?_) (fun c => ?_)
    · rw [if_pos c] at g; exact g
    · rw [if_neg c] at g; exact g
  unfold fX9_claimOf
  refine yp_gd (fun _ => yp_bd _ (ym_win hW hX.1 hX.2.2.2.2 hq) (fun t ht => yp_lt ?_))
  rw [ht, nI_clamp (show p < 2 ^ 31 by omega), show sn_I u 10 p = _ from (hX.2.1 p hp).1, show sn_I u 0 20 = _ from hX.2.2.2.1, show sn_I u 0 18 = _ from hX.2.2.1]
  have em : ∀ k, k < 32 → (sp_bit (S p) k && yl_m w q k) = (sp_bit (S p) k && yl_w w q k) := fun k hk => by
    unfold yl_m
    by_cases g : k < sp_n w 0
    · rw [decide_eq_true g, Bool.and_true]
    · rw [hs k (by omega) hk]; rfl
  refine yp_ite (fun c => yp_lt ?_) (fun c => ?_)
  · have e : (S p &&& dy_set (yl_m w q) 32) &&& (hs_gust w (sp_n w 6) ^^^ (-1 : Int32)) = yl_C w l q (S p) := yb_V (fun k hk => by
      rw [yb_and _ _ hk, yb_and _ _ hk, yb_Vb hk, yb_xor1 _ hk, em k hk, decide_eq_true c]
      rfl)
    rw [e]
    exact k33
  · have e : S p &&& dy_set (yl_m w q) 32 = yl_C w l q (S p) := yb_V (fun k hk => by
      rw [yb_and _ _ hk, yb_Vb hk, em k hk, decide_eq_false c]
      exact (Bool.and_true _).symm)
    rw [e]
    exact k33
end
end
section
/-! the ledger, both sides -/
def yS (w : Nat → Int32) : Nat → Int32 := dy_sn (hs_day w) (sp_n w 0)
def yHh (w : Nat → Int32) : Nat → Int32 := fun p => hs_acts w 0 p (sp_n w 9)
def yl_y (w : Nat → Int32) (q : Nat) : Nat := sp_n w (53 + 5 * q)
section
variable {σ τ u z : sn_S} {w : Nat → Int32} {q : Nat} {l : Int32}
theorem yl_Sb (hW : jW w) (p : Nat) : ∀ k, sp_n w 0 ≤ k → k < 32 → sp_bit (yS w p) k = false := yz_sbits (yl_0 hW).2
theorem yc_S (hD : yD σ w) {p : Nat} (hp : p < sp_n w 5) : σ.1 (27 + 10) p = yS w p ∧ σ.1 (27 + 4) p = yHh w p := ⟨hD.2.2.2 p hp, (hD.2.1.2.2.2.2.1 p hp).2.2.1⟩
theorem ym_X (hW : jW w) (h : yM τ u w) : yX u w (w 2) (yS w) (yHh w) := by
  have c5 := (yl_5 hW).2
  exact ⟨h.1, fun p hp => ⟨yz_msn hW h hp, (h.2.2.2.2.2.2.2.2.1 p (by omega)).1⟩, h.2.2.1, h.2.2.2.2.1, yM_22 h⟩
/-! calls that change the ledger -/
end
end
section
/-! money at the end of a day -/
theorem yi_subI {a b : Nat} (ha : a < 2 ^ 30) (hb : b < 2 ^ 30) : (nI a - nI b).toInt = (a : Int) - b := by
  rw [Int32.toInt_sub, nI_toInt (by omega), nI_toInt (by omega), Int.bmod_eq_of_le (by omega) (by omega)]
section
variable {σ τ u z : sn_S} {w : Nat → Int32} {q : Nat} {l : Int32}
/-! the reference's -/
/-! what would have to be in the box -/
end
end
section
/-! what one takes -/
section
variable {σ τ u z : sn_S} {w : Nat → Int32} {q : Nat} {l : Int32}
/-- what a policy gains a person -/
def yl_g (w : Nat → Int32) (l : Int32) (p q : Nat) : Int32 := nI (yl_v w l q (yS w p) (yHh w p)) - nI (yl_y w q)
theorem yc_asIf (hW : jW w) (hH : yH 1 σ w) (hD : yD σ w) {p : Nat} (hq : q < sp_n w 8) (hp : p < sp_n w 5) : yp (fX8_claimAsIfOf σ (nI p) (nI q)) (fun v => v = nI (yl_v w (w 2) q (yS w p) (yHh w p))) := by
  have c5 := (yl_5 hW).2
  unfold fX8_claimAsIfOf
  rw [show sn_I σ (1 + 1) (2 : Int32).toNatClampNeg = w 2 from hH.1 2 (by decide), nI_clamp (show p < 2 ^ 31 by omega), show sn_I σ (27 + 10) p = _ from (yc_S hD hp).1, show sn_I σ (27 + 4) p = _ from (yc_S hD hp).2]
  exact yp_gd (fun _ => yp_gd (fun _ => yp_gd (fun _ => yp_bd _ (yc_claim hW hH hq (yl_Sb hW p)) (fun t ht => yp_some ht))))
theorem yc_gain (hW : jW w) (hH : yH 1 σ w) (hD : yD σ w) {p : Nat} (hq : q < sp_n w 8) (hp : p < sp_n w 5) : yp (fX8_gainBy σ (nI p) (nI q)) (fun v => v = yl_g w (w 2) p q) := by
  obtain ⟨-, -, -, -, -, -, ⟨y1, y2⟩⟩ := yl_p hW hq
  unfold fX8_gainBy
  refine yp_bd _ (yc_asIf hW hH hD hq hp) (fun t ht => yp_bd _ (yc_of hW hH hq 4 (by decide) rfl) (fun t2 ht2 => yp_some ?_))
  show t - t2 = _
  rw [ht, ht2, show w (49 + 4 + 5 * q) = nI (sp_n w (53 + 5 * q)) from y1]
  rfl
/-- the reference's: pays x of policy k in place of its own -/
def yl_f2 (u z : sn_S) : Prop := (∀ a, a ≠ 0 → a ≠ 16 → z.1 a = u.1 a) ∧ ∀ k, k ≠ 30 → k ≠ 31 → z.1 0 k = u.1 0 k
theorem yl_f2t {v : sn_S} (h : yl_f2 u z) (g : yl_f2 z v) : yl_f2 u v := ⟨fun a h0 h1 => (g.1 a h0 h1).trans (h.1 a h0 h1), fun k h0 h1 => (g.2 k h0 h1).trans (h.2 k h0 h1)⟩
theorem yX_f2 {S H : Nat → Int32} (h : yl_f2 u z) (g : yX u w l S H) : yX z w l S H :=
  ⟨(h.1 1 (by decide) (by decide)).trans g.1, fun p hp => ⟨(congrFun (h.1 10 (by decide) (by decide)) p).trans (g.2.1 p hp).1, (congrFun (h.1 8 (by decide) (by decide)) p).trans (g.2.1 p hp).2⟩, (h.2 18 (by decide) (by decide)).trans g.2.2.1, (h.2 20 (by decide) (by decide)).trans g.2.2.2.1, (h.2 22 (by decide) (by decide)).trans g.2.2.2.2⟩
theorem yl_fw (h : yl_fr u z) : yl_f2 u z := ⟨h.1, fun k h0 _ => h.2 k h0⟩
theorem ym_takesBy {f : Nat → Int32} {k x : Int32} {p : Nat} (hW : jW w) (hp : p < sp_n w 5) (hX : yX u w l (yS w) (yHh w)) (hf : ∀ q, q < sp_n w 8 → f q = nI (yl_v w l q (yS w p) (yHh w p)) - if nI q = k then x else nI (yl_y w q)) : yp (fX9_takesBy u (nI p) k x) (fun r => yl_f2 u r.2 ∧ r.1 = (yz_wo f (sp_n w 8)).1 ∧ r.2.1 0 31 = (yz_wo f (sp_n w 8)).2) := by
  have c8 := (yl_8 hW).2
  have k1 : ∀ k, yz_wo f (k + 1) = if f k ≤ (yz_wo f k).2 then yz_wo f k else (nI k, f k) := fun k => rfl
  unfold fX9_takesBy
  refine yp_lt (yp_bd (fun r => yl_f2 u r.1 ∧ r.2 = (yz_wo f (sp_n w 8)).1 ∧ r.1.1 0 31 = (yz_wo f (sp_n w 8)).2) (yp_for (sp_n w 8) (fun n s => s.2.2 = nI n ∧ s.2.1 = (yz_wo f n).1 ∧ s.1.1 0 31 = (yz_wo f n).2 ∧ yl_f2 u s.1) (fun n s hn hs => ?_) (fun s hs => ?_) ⟨nI_0.symm, rfl, pI_self, fun a h0 h1 => pI_ne h0, fun j h0 h1 => pI_slot h1⟩) (fun v hv => ?_))
  · obtain ⟨z, b, y⟩ := s
    obtain ⟨ey, eb, e31, hz⟩ := hs
    have ey : y = nI n := ey
    have eb : b = _ := eb
    have e31 : z.1 0 31 = _ := e31
    have hz : yl_f2 u z := hz
    subst ey
    subst eb
    have hZ := yX_f2 hz hX
    obtain ⟨-, -, -, -, -, -, ⟨y1, y2⟩⟩ := yl_p hW hn
    have k48 : ∀ (r : Int32 × sn_S) (t1 : Int32), yl_fr z r.2 → r.2.1 0 31 = z.1 0 31 → r.1 - t1 = f n → yp (BX9_takesBy_48 r.2 (nI p) k x (yz_wo f n).1 (nI n) r.1 t1) (yp_sum (fun s : sn_S × Int32 × Int32 => s.2.2 = nI (n + 1) ∧ s.2.1 = (yz_wo f (n + 1)).1 ∧ s.1.1 0 31 = (yz_wo f (n + 1)).2 ∧ yl_f2 u s.1) (fun _ => False)) := fun r t1 hf2 h31 e => by
      unfold BX9_takesBy_48 BX9_takesBy_73
      refine yp_lt ?_
      rw [e, show sn_I r.2 0 31 = _ from h31.trans e31]
      refine yp_ite (fun c => yp_lt (yp_lt (yp_some ⟨nI_1 n, ?_, ?_, yl_f2t (yl_f2t hz (yl_fw hf2)) ⟨fun a h0 h1 => pI_ne h0, fun j h0 h1 => pI_slot h1⟩⟩))) (fun c => yp_lt (yp_some ⟨nI_1 n, ?_, ?_, yl_f2t hz (yl_fw hf2)⟩))
      · rw [k1, if_neg (Int32.not_le.mpr c)]
      · refine pI_self.trans ?_
        rw [k1, if_neg (Int32.not_le.mpr c)]
      · rw [k1, if_pos (Int32.not_lt.mp c)]
      · rw [k1, if_pos (Int32.not_lt.mp c)]
        exact h31.trans e31
    show yp (BX9_takesBy_11 z (nI p) k x _ (nI n)) _
    unfold BX9_takesBy_11
    rw [ym_8 hW hZ.1, if_neg (nI_ge hn (by omega))]
    refine yp_gd (fun _ => yp_bd _ (ym_claim hW hn hp hZ (yl_Sb hW p)) (fun r hr => yp_ite (fun c => k48 r x hr.1 (hr.1.2 31 (by decide)) ?_) (fun c => yp_bd _ (ym_of hW (yX_fr hr.1 hZ).1 hn 4 (by decide) rfl) (fun t ht => ?_))))
    · rw [hf n hn, if_pos c, hr.2.2.1]
    · rw [ht, show w (49 + 4 + 5 * n) = nI (sp_n w (53 + 5 * n)) from y1]
      refine k48 r _ hr.1 (hr.1.2 31 (by decide)) ?_
      rw [hf n hn, if_neg c, hr.2.2.1]
      rfl
  · obtain ⟨z, b, y⟩ := s
    obtain ⟨ey, eb, e31, hz⟩ := hs
    have ey : y = nI (sp_n w 8) := ey
    have hz : yl_f2 u z := hz
    subst ey
    have hZ := yX_f2 hz hX
    show yp (BX9_takesBy_11 z (nI p) k x b (nI (sp_n w 8))) _
    unfold BX9_takesBy_11
    rw [ym_8 hW hZ.1, if_pos (nI_le (Nat.le_refl _) (by omega))]
    exact yp_gd (fun _ => yp_some ⟨hz, eb, e31⟩)
  · unfold BX9_takesBy_79
    exact yp_some hv
end
end
section
/-! the price at which nobody takes a policy -/
theorem yz_woI (f : Nat → Int32) : ∀ n, n < 100 → (∀ q, q < n → (f q).toInt ≤ (yz_wo f n).2.toInt) ∧ 0 ≤ (yz_wo f n).2.toInt ∧ (((yz_wo f n).1 = -1 ∧ (yz_wo f n).2 = 0) ∨ ∃ j, j < n ∧ (yz_wo f n).1 = nI j ∧ (yz_wo f n).2 = f j ∧ 0 < (f j).toInt ∧ ∀ q, q < j → (f q).toInt < (f j).toInt) := by
  intro n
  induction n with
  | zero => intro _; exact ⟨fun q hq => absurd hq (by omega), by show 0 ≤ (0 : Int32).toInt; decide, Or.inl ⟨rfl, rfl⟩⟩
  | succ n ih =>
    intro hn
    obtain ⟨h1, h2, h3⟩ := ih (by omega)
    have e : yz_wo f (n + 1) = if f n ≤ (yz_wo f n).2 then yz_wo f n else (nI n, f n) := rfl
    rw [e]
    by_cases c : f n ≤ (yz_wo f n).2
    · rw [if_pos c]
      have c := Int32.le_iff_toInt_le.mp c
      refine ⟨fun q hq => ?_, h2, ?_⟩
      · by_cases g : q = n
        · subst g; exact c
        · exact h1 q (by omega)
      · rcases h3 with h | ⟨j, hj, h⟩
        · exact Or.inl h
        · exact Or.inr ⟨j, by omega, h⟩
    · rw [if_neg c]
      have c : ¬ (f n).toInt ≤ (yz_wo f n).2.toInt := fun g => c (Int32.le_iff_toInt_le.mpr g)
      refine ⟨fun q hq => ?_, ?_, Or.inr ⟨n, by omega, rfl, rfl, by omega, fun q hq => ?_⟩⟩
      · show (f q).toInt ≤ (f n).toInt
        by_cases g : q = n
        · subst g; exact Int.le_refl _
        · have := h1 q (by omega); omega
      · show 0 ≤ (f n).toInt
        omega
      · have := h1 q hq; omega
theorem yz_woK {f : Nat → Int32} {n k : Nat} (hn : n < 100) (hk : k < n) : (yz_wo f n).1 = nI k ↔ 0 < (f k).toInt ∧ (∀ q, q < k → (f q).toInt < (f k).toInt) ∧ ∀ q, k < q → q < n → (f q).toInt ≤ (f k).toInt := by
  obtain ⟨h1, h2, h3⟩ := yz_woI f n hn
  constructor
  · intro e
    rcases h3 with ⟨h, -⟩ | ⟨j, hj, g1, g2, g3, g4⟩
    · exact absurd (e.symm.trans h) (yl_ne (by omega))
    · have : j = k := (nI_eq (by omega) (by omega)).mp (g1.symm.trans e)
      subst this
      exact ⟨g3, g4, fun q _ hq => by have := h1 q hq; rw [g2] at this; exact this⟩
  · rintro ⟨a1, a2, a3⟩
    rcases h3 with ⟨-, h⟩ | ⟨j, hj, g1, g2, g3, g4⟩
    · have := h1 k hk
      rw [h, show (0 : Int32).toInt = 0 by decide] at this
      omega
    · rw [g1]
      have b1 := h1 k hk
      rw [g2] at b1
      rcases Nat.lt_trichotomy j k with c | c | c
      · have := a2 j c; omega
      · rw [c]
      · have := g4 k c
        have := a3 j c hj
        omega
def yl_tb (G : Nat → Int) (k : Nat) : Nat → Int
  | 0 => 0
  | n + 1 => if n < k then (if yl_tb G k n < G n then G n else yl_tb G k n) else if n = k then yl_tb G k n else (if yl_tb G k n < G n - 1 then G n - 1 else yl_tb G k n)
theorem yl_tb1 (G : Nat → Int) (k : Nat) : ∀ n, (0 ≤ yl_tb G k n ∧ ∀ q, q < n → (q < k → G q ≤ yl_tb G k n) ∧ (k < q → G q - 1 ≤ yl_tb G k n)) ∧ (yl_tb G k n = 0 ∨ ∃ q, q < n ∧ ((q < k ∧ yl_tb G k n = G q) ∨ (k < q ∧ yl_tb G k n = G q - 1))) := by
  intro n
  induction n with
  | zero => exact ⟨⟨Int.le_refl _, fun q hq => absurd hq (by omega)⟩, Or.inl rfl⟩
  | succ n ih =>
    obtain ⟨⟨h1, h2⟩, h3⟩ := ih
    have e : yl_tb G k (n + 1) = if n < k then (if yl_tb G k n < G n then G n else yl_tb G k n) else if n = k then yl_tb G k n else (if yl_tb G k n < G n - 1 then G n - 1 else yl_tb G k n) := rfl
    have h3' : yl_tb G k n = 0 ∨ ∃ q, q < n + 1 ∧ ((q < k ∧ yl_tb G k n = G q) ∨ (k < q ∧ yl_tb G k n = G q - 1)) := by
      rcases h3 with h | ⟨q, hq, h⟩
      · exact Or.inl h
      · exact Or.inr ⟨q, by omega, h⟩
    rcases Nat.lt_trichotomy n k with c | c | c
    · rw [e, if_pos c]
      by_cases d : yl_tb G k n < G n
      · rw [if_pos d]
        refine ⟨⟨by omega, fun q hq => ?_⟩, Or.inr ⟨n, by omega, Or.inl ⟨c, rfl⟩⟩⟩
        by_cases g : q = n
        · subst g; exact ⟨fun _ => Int.le_refl _, fun h => absurd h (by omega)⟩
        · have := h2 q (by omega); exact ⟨fun h => by have := this.1 h; omega, fun h => by have := this.2 h; omega⟩
      · rw [if_neg d]
        refine ⟨⟨h1, fun q hq => ?_⟩, h3'⟩
        by_cases g : q = n
        · subst g; exact ⟨fun _ => by omega, fun h => absurd h (by omega)⟩
        · exact h2 q (by omega)
    · rw [e, if_neg (by omega), if_pos c]
      refine ⟨⟨h1, fun q hq => ?_⟩, h3'⟩
      by_cases g : q = n
      · subst g; exact ⟨fun h => absurd h (by omega), fun h => absurd h (by omega)⟩
      · exact h2 q (by omega)
    · rw [e, if_neg (by omega), if_neg (by omega)]
      by_cases d : yl_tb G k n < G n - 1
      · rw [if_pos d]
        refine ⟨⟨by omega, fun q hq => ?_⟩, Or.inr ⟨n, by omega, Or.inr ⟨c, rfl⟩⟩⟩
        by_cases g : q = n
        · subst g; exact ⟨fun h => absurd h (by omega), fun _ => Int.le_refl _⟩
        · have := h2 q (by omega); exact ⟨fun h => by have := this.1 h; omega, fun h => by have := this.2 h; omega⟩
      · rw [if_neg d]
        refine ⟨⟨h1, fun q hq => ?_⟩, h3'⟩
        by_cases g : q = n
        · subst g; exact ⟨fun h => absurd h (by omega), fun _ => by omega⟩
        · exact h2 q (by omega)
theorem yl_take {f : Nat → Int32} {G : Nat → Int} {k Q x : Nat} {C : Int} (hQ : Q < 100) (hk : k < Q) (fk : (f k).toInt = C - x) (fq : ∀ q, q < Q → q ≠ k → (f q).toInt = G q) : (yz_wo f Q).1 = nI k ↔ (x : Int) < C - yl_tb G k Q := by
  rw [yz_woK hQ hk, fk]
  obtain ⟨⟨h1, h2⟩, h3⟩ := yl_tb1 G k Q
  constructor
  · rintro ⟨a1, a2, a3⟩
    rcases h3 with h | ⟨q, hq, ⟨c, h⟩ | ⟨c, h⟩⟩
    · omega
    · have := a2 q c
      rw [fq q hq (by omega)] at this
      omega
    · have := a3 q c hq
      rw [fq q hq (by omega)] at this
      omega
  · intro h
    refine ⟨by omega, fun q hq => ?_, fun q hq hq2 => ?_⟩
    · rw [fq q (by omega) (by omega)]
      have := (h2 q (by omega)).1 hq
      omega
    · rw [fq q hq2 (by omega)]
      have := (h2 q hq2).2 hq
      omega
/-- the greatest over persons, 0 at least -/
def yl_pm (D : Nat → Int) : Nat → Int
  | 0 => 0
  | p + 1 => if yl_pm D p < (if 0 < D p then D p else 0) then (if 0 < D p then D p else 0) else yl_pm D p
theorem yl_pm1 (D : Nat → Int) (B : Int) (hB : 0 ≤ B) : ∀ n, (∀ p, p < n → D p ≤ B) → 0 ≤ yl_pm D n ∧ yl_pm D n ≤ B ∧ (∀ p, p < n → D p ≤ yl_pm D n) ∧ (yl_pm D n = 0 ∨ ∃ p, p < n ∧ yl_pm D n = D p) := by
  intro n
  induction n with
  | zero => intro _; exact ⟨Int.le_refl _, hB, fun p hp => absurd hp (by omega), Or.inl rfl⟩
  | succ n ih =>
    intro h
    obtain ⟨h1, h2, h3, h4⟩ := ih (fun p hp => h p (by omega))
    have hn := h n (by omega)
    have e : yl_pm D (n + 1) = if yl_pm D n < (if 0 < D n then D n else 0) then (if 0 < D n then D n else 0) else yl_pm D n := rfl
    rw [e]
    have h4' : yl_pm D n = 0 ∨ ∃ p, p < n + 1 ∧ yl_pm D n = D p := by
      rcases h4 with g | ⟨p, hp, g⟩
      · exact Or.inl g
      · exact Or.inr ⟨p, by omega, g⟩
    by_cases c : 0 < D n
    · rw [if_pos c]
      by_cases d : yl_pm D n < D n
      · rw [if_pos d]
        refine ⟨by omega, hn, fun p hp => ?_, Or.inr ⟨n, by omega, rfl⟩⟩
        by_cases g : p = n
        · subst g; exact Int.le_refl _
        · have := h3 p (by omega); omega
      · rw [if_neg d]
        refine ⟨h1, h2, fun p hp => ?_, h4'⟩
        by_cases g : p = n
        · subst g; omega
        · exact h3 p (by omega)
    · rw [if_neg c, if_neg (by omega)]
      refine ⟨h1, h2, fun p hp => ?_, h4'⟩
      by_cases g : p = n
      · subst g; omega
      · exact h3 p (by omega)
theorem yi_max {a b : Int32} : (if a < b then b else a).toInt = if a.toInt < b.toInt then b.toInt else a.toInt := by
  by_cases c : a < b
  · rw [if_pos c, if_pos (Int32.lt_iff_toInt_lt.mp c)]
  · rw [if_neg c, if_neg (fun h => c (Int32.lt_iff_toInt_lt.mpr h))]
theorem yi_subB {a b : Int32} {x y : Int} (ha : a.toInt = x) (hb : b.toInt = y) (hx : -1000000 ≤ x ∧ x ≤ 1000000) (hy : -1000000 ≤ y ∧ y ≤ 1000000) : (a - b).toInt = x - y := by
  rw [Int32.toInt_sub, ha, hb, Int.bmod_eq_of_le (by omega) (by omega)]
section
variable {σ τ u z : sn_S} {w : Nat → Int32} {q : Nat} {l : Int32}
def yl_G (w : Nat → Int32) (l : Int32) (p q : Nat) : Int := (yl_v w l q (yS w p) (yHh w p) : Int) - yl_y w q
def yl_D (w : Nat → Int32) (l : Int32) (k p : Nat) : Int := (yl_v w l k (yS w p) (yHh w p) : Int) - yl_tb (yl_G w l p) k (sp_n w 8)
theorem yl_yb (hW : jW w) (hq : q < sp_n w 8) : yl_y w q ≤ 99 := (yl_p hW hq).2.2.2.2.2.2.2
theorem yl_gI (hW : jW w) {p : Nat} (hq : q < sp_n w 8) : (yl_g w l p q).toInt = yl_G w l p q := by
  have h1 : yl_v w l q (yS w p) (yHh w p) ≤ 297 := yl_vle hW hq
  have h2 := yl_yb hW hq
  exact yi_subI (by omega) (by omega)
theorem yl_tbB (hW : jW w) {p k : Nat} : 0 ≤ yl_tb (yl_G w l p) k (sp_n w 8) ∧ ∀ n, n ≤ sp_n w 8 → 0 ≤ yl_tb (yl_G w l p) k n ∧ yl_tb (yl_G w l p) k n ≤ 297 := by
  refine ⟨(yl_tb1 _ _ _).1.1, fun n hn => ⟨(yl_tb1 _ _ _).1.1, ?_⟩⟩
  rcases (yl_tb1 (yl_G w l p) k n).2 with h | ⟨q, hq, ⟨-, h⟩ | ⟨-, h⟩⟩
  · omega
  · have h1 : yl_v w l q (yS w p) (yHh w p) ≤ 297 := yl_vle hW (by omega)
    rw [h]; unfold yl_G; omega
  · have h1 : yl_v w l q (yS w p) (yHh w p) ≤ 297 := yl_vle hW (by omega)
    rw [h]; unfold yl_G; omega
theorem yc_priceFor (hW : jW w) (hH : yH 1 σ w) (hD : yD σ w) {p k : Nat} (hk : k < sp_n w 8) (hp : p < sp_n w 5) : yp (fX8_priceFor σ (nI p) (nI k)) (fun v => v.toInt = if 0 < yl_D w (w 2) k p then yl_D w (w 2) k p else 0) := by
  have c8 := (yl_8 hW).2
  obtain ⟨b0, b1⟩ := yl_tbB (l := w 2) (p := p) (k := k) hW
  unfold fX8_priceFor
  refine yp_bd (fun v => v.toInt = yl_tb (yl_G w (w 2) p) k (sp_n w 8)) (yp_for (sp_n w 8) (fun n s => s.2 = nI n ∧ s.1.toInt = yl_tb (yl_G w (w 2) p) k n) (fun n s hn hs => ?_) (fun s hs => ?_) ⟨nI_0.symm, by show (0 : Int32).toInt = 0; decide⟩) (fun v hv => ?_)
  · obtain ⟨v, x⟩ := s
    obtain ⟨ex, ev⟩ := hs
    have ex : x = nI n := ex
    have ev : v.toInt = _ := ev
    subst ex
    have e : yl_tb (yl_G w (w 2) p) k (n + 1) = if n < k then (if yl_tb (yl_G w (w 2) p) k n < yl_G w (w 2) p n then yl_G w (w 2) p n else yl_tb (yl_G w (w 2) p) k n) else if n = k then yl_tb (yl_G w (w 2) p) k n else (if yl_tb (yl_G w (w 2) p) k n < yl_G w (w 2) p n - 1 then yl_G w (w 2) p n - 1 else yl_tb (yl_G w (w 2) p) k n) := rfl
    have e2 : ¬ n < k → ¬ n = k → yl_tb (yl_G w (w 2) p) k (n + 1) = (if yl_tb (yl_G w (w 2) p) k n < yl_G w (w 2) p n - 1 then yl_G w (w 2) p n - 1 else yl_tb (yl_G w (w 2) p) k n) := fun h1 h2 => by rw [e, if_neg h1, if_neg h2]
    have e1 : n < k → yl_tb (yl_G w (w 2) p) k (n + 1) = (if yl_tb (yl_G w (w 2) p) k n < yl_G w (w 2) p n then yl_G w (w 2) p n else yl_tb (yl_G w (w 2) p) k n) := fun h1 => by rw [e, if_pos h1]
    have e0 : n = k → yl_tb (yl_G w (w 2) p) k (n + 1) = yl_tb (yl_G w (w 2) p) k n := fun h1 => by rw [e, if_neg (by omega), if_pos h1]
    have hg : (yl_g w (w 2) p n).toInt = yl_G w (w 2) p n := yl_gI hW hn
    have g1 : yl_v w (w 2) n (yS w p) (yHh w p) ≤ 297 := yl_vle hW hn
    have g2 := yl_yb hW hn
    show yp (BX8_priceFor_5 σ (nI p) (nI k) v (nI n)) _
    unfold BX8_priceFor_5 BX8_priceFor_60
    rw [yc_8 hW hH, if_neg (nI_ge hn (by omega))]
    refine yp_gd (fun _ => yp_bd _ (yc_gain hW hH hD hn hp) (fun t ht => ?_))
    rw [ht]
    refine yp_ite (fun c => yp_ite (fun c2 => yp_lt (yp_some ⟨nI_1 n, ?_⟩)) (fun c2 => yp_lt (yp_lt (yp_some ⟨nI_1 n, ?_⟩)))) (fun c => yp_lt (yp_lt (yp_some ⟨nI_1 n, ?_⟩)))
    · have c := (nI_leI (by omega) (by omega)).mp c
      have c2 := (nI_leI (by omega) (by omega)).mp c2
      rw [e0 (by omega)]
      exact ev
    · have c := (nI_leI (by omega) (by omega)).mp c
      have c2 : ¬ n ≤ k := fun h => c2 ((nI_leI (by omega) (by omega)).mpr h)
      rw [e2 (by omega) (by omega)]
      have h1 : (yl_g w (w 2) p n - 1).toInt = yl_G w (w 2) p n - 1 := yi_subB hg (by decide) (by unfold yl_G; omega) (by omega)
      show (if v < yl_g w (w 2) p n - 1 then yl_g w (w 2) p n - 1 else v).toInt = _
      rw [yi_max, h1, ev]
    · have c : ¬ k ≤ n := fun h => c ((nI_leI (by omega) (by omega)).mpr h)
      rw [e1 (by omega)]
      show (if v < yl_g w (w 2) p n then yl_g w (w 2) p n else v).toInt = _
      rw [yi_max, hg, ev]
  · obtain ⟨v, x⟩ := s
    obtain ⟨ex, ev⟩ := hs
    have ex : x = nI (sp_n w 8) := ex
    subst ex
    show yp (BX8_priceFor_5 σ (nI p) (nI k) v (nI (sp_n w 8))) _
    unfold BX8_priceFor_5
    rw [yc_8 hW hH, if_pos (nI_le (Nat.le_refl _) (by omega))]
    exact yp_gd (fun _ => yp_some ev)
  · have g1 : yl_v w (w 2) k (yS w p) (yHh w p) ≤ 297 := yl_vle hW hk
    have b2 := (b1 (sp_n w 8) (Nat.le_refl _)).2
    unfold BX8_priceFor_66
    refine yp_bd _ (yc_asIf hW hH hD hk hp) (fun t ht => yp_lt (yp_some ?_))
    have h1 : (t - v).toInt = yl_D w (w 2) k p := yi_subB (by rw [ht]; exact nI_toInt (by omega)) hv (by omega) (by omega)
    rw [yi_max, h1, show (0 : Int32).toInt = 0 by decide]
theorem yc_price (hW : jW w) (hH : yH 1 σ w) (hD : yD σ w) {k : Nat} (hk : k < sp_n w 8) : yp ((sn_it (LX8_price_15 σ (nI k)) 5000 ((0 : Int32), (0 : Int32))).bind fun t_4 => BX8_price_43 σ t_4) (fun v => v.toInt = yl_pm (yl_D w (w 2) k) (sp_n w 5)) := by
  have c5 := (yl_5 hW).2
  have e1 : σ.1 27 1 = nI (sp_n w 5) := hD.2.1.1
  refine yp_bd (fun v => v.toInt = yl_pm (yl_D w (w 2) k) (sp_n w 5)) (yp_for (sp_n w 5) (fun n s => s.2 = nI n ∧ s.1.toInt = yl_pm (yl_D w (w 2) k) n) (fun n s hn hs => ?_) (fun s hs => ?_) ⟨nI_0.symm, by show (0 : Int32).toInt = 0; decide⟩) (fun v hv => ?_)
  · obtain ⟨v, x⟩ := s
    obtain ⟨ex, ev⟩ := hs
    have ex : x = nI n := ex
    have ev : v.toInt = _ := ev
    subst ex
    show yp (BX8_price_15 σ (nI k) v (nI n)) _
    unfold BX8_price_15
    rw [show sn_I σ 27 1 = _ from e1, if_neg (nI_ge hn (by omega))]
    refine yp_bd _ (yc_priceFor hW hH hD hk hn) (fun t ht => yp_lt (yp_lt (yp_some ⟨nI_1 n, ?_⟩)))
    show (if v < t then t else v).toInt = _
    rw [yi_max, ht, ev]
    rfl
  · obtain ⟨v, x⟩ := s
    obtain ⟨ex, ev⟩ := hs
    have ex : x = nI (sp_n w 5) := ex
    subst ex
    show yp (BX8_price_15 σ (nI k) v (nI (sp_n w 5))) _
    unfold BX8_price_15
    rw [show sn_I σ 27 1 = _ from e1, if_pos (nI_le (Nat.le_refl _) (by omega))]
    exact yp_some ev
  · unfold BX8_price_43
    exact yp_some hv
theorem ym_taken {k x : Nat} (hW : jW w) (hk : k < sp_n w 8) (hx : x ≤ 1000) (hX : yX u w l (yS w) (yHh w)) : yp (fX9_isTaken u (nI k) (nI x)) (fun r => yl_f2 u r.2 ∧ ((r.1 = 0 ∧ ∀ p, p < sp_n w 5 → ¬ (x : Int) < yl_D w l k p) ∨ (r.1 ≠ 0 ∧ ∃ p, p < sp_n w 5 ∧ (x : Int) < yl_D w l k p))) := by
  have c5 := (yl_5 hW).2
  have c8 := (yl_8 hW).2
  unfold fX9_isTaken
  refine yp_bd (fun t => (∃ z, t = Sum.inl z ∧ yl_f2 u z ∧ ∀ p, p < sp_n w 5 → ¬ (x : Int) < yl_D w l k p) ∨ ∃ z, t = Sum.inr (1, z) ∧ yl_f2 u z ∧ ∃ p, p < sp_n w 5 ∧ (x : Int) < yl_D w l k p) (yp_it (fun s : sn_S × Int32 => ∃ n, n ≤ sp_n w 5 ∧ s.2 = nI n ∧ yl_f2 u s.1 ∧ ∀ p, p < n → ¬ (x : Int) < yl_D w l k p) (fun s hs => ?_) _ _ ⟨0, Nat.zero_le _, nI_0.symm, yl_fw yl_fr0, fun p hp => absurd hp (by omega)⟩) (fun t ht => ?_)
  · obtain ⟨z, y⟩ := s
    obtain ⟨n, hn, ey, hz, hno⟩ := hs
    have ey : y = nI n := ey
    have hz : yl_f2 u z := hz
    subst ey
    have hZ := yX_f2 hz hX
    show yp (BX9_isTaken_2 z (nI k) (nI x) (nI n)) _
    unfold BX9_isTaken_2
    rw [show sn_I z 1 (5 : Int32).toNatClampNeg = nI (sp_n w 5) from (congrFun hZ.1 5).trans (yl_5 hW).1]
    refine yp_gd (fun _ => yp_ite (fun c => yp_some (Or.inl ⟨z, rfl, hz, ?_⟩)) (fun c => ?_))
    · have c := (nI_leI (by omega) (by omega)).mp c
      exact fun p hp => hno p (by omega)
    · have c : n < sp_n w 5 := by
        rcases Nat.lt_or_ge n (sp_n w 5) with g | g
        · exact g
        · exact absurd ((nI_leI (by omega) (by omega)).mpr g) c
      obtain ⟨f, hf⟩ : ∃ f : Nat → Int32, ∀ q, f q = nI (yl_v w l q (yS w n) (yHh w n)) - if nI q = nI k then nI x else nI (yl_y w q) := ⟨_, fun _ => rfl⟩
      have g1 : ∀ q, q < sp_n w 8 → yl_v w l q (yS w n) (yHh w n) ≤ 297 := fun q hq => yl_vle hW hq
      have tk : (yz_wo f (sp_n w 8)).1 = nI k ↔ (x : Int) < yl_D w l k n := yl_take (G := yl_G w l n) (C := (yl_v w l k (yS w n) (yHh w n) : Int)) (by omega) hk (by
        rw [hf k, if_pos rfl]
        have := g1 k hk
        exact yi_subI (by omega) (by omega)) (fun q hq hne => by
        rw [hf q, if_neg (fun h => hne ((nI_eq (by omega) (by omega)).mp h))]
        exact yl_gI hW hq)
      refine yp_bd _ (ym_takesBy hW c hZ (fun q _ => hf q)) (fun r hr => ?_)
      rw [hr.2.1]
      refine yp_ite (fun d => yp_gd (fun _ => yp_some (Or.inr ⟨r.2, rfl, yl_f2t hz hr.1, n, c, tk.mp d⟩))) (fun d => yp_lt (yp_some ⟨n + 1, c, nI_1 n, yl_f2t hz hr.1, fun p hp => ?_⟩))
      by_cases e : p = n
      · subst e; exact fun h => d (tk.mpr h)
      · exact hno p (by omega)
  · rcases ht with ⟨z, e, hz, h⟩ | ⟨z, e, hz, h⟩
    · subst e
      show yp (BX9_isTaken_31 z) _
      unfold BX9_isTaken_31
      exact yp_gd (fun _ => yp_some ⟨hz, Or.inl ⟨rfl, h⟩⟩)
    · subst e
      exact yp_some ⟨hz, Or.inr ⟨by show (1 : Int32) ≠ 0; decide, h⟩⟩
theorem yz_42 {a : Int32} (hK : zK σ τ) : yr (fX8_price σ a) (fX9_price τ a) (fun r s => r = s.1) := by
  have hW := hK.2.1.1
  have c8 := (yl_8 hW).2
  unfold fX8_price fX9_price
  refine yz_pol hK (fun k v u hk ea hM => ?_)
  subst ea
  obtain ⟨m1, m2, m3, m4⟩ := yl_pm1 (yl_D (τ.1 1) (τ.1 1 2) k) 297 (by omega) (sp_n (τ.1 1) 5) (fun p hp => by
    have h1 : yl_v (τ.1 1) (τ.1 1 2) k (yS (τ.1 1) p) (yHh (τ.1 1) p) ≤ 297 := yl_vle hW hk
    have h2 := (yl_tbB (l := τ.1 1 2) (p := p) (k := k) hW).1
    unfold yl_D
    omega)
  obtain ⟨N, hN⟩ : ∃ N : Nat, (N : Int) = yl_pm (yl_D (τ.1 1) (τ.1 1 2) k) (sp_n (τ.1 1) 5) := ⟨_, Int.toNat_of_nonneg m1⟩
  rw [← hN] at m2 m3 m4
  refine yr_eq (nI N) ?_ ?_
  · refine yp_w (yc_price hW hK.2.1.2 hK.2.2.2 hk) (fun r hr => ?_)
    apply Int32.toInt_inj.mp
    rw [hr, ← hN, nI_toInt (by omega)]
  · refine yp_bd (fun r => r.2 = nI N) (yp_it (fun s : sn_S × Int32 => ∃ x : Nat, x ≤ N ∧ s.2 = nI x ∧ yl_f2 u s.1) (fun s hs => ?_) _ _ ⟨0, Nat.zero_le _, nI_0.symm, yl_fw yl_fr0⟩) (fun r hr => ?_)
    · obtain ⟨z, y⟩ := s
      obtain ⟨x, hx, ey, hz⟩ := hs
      have ey : y = nI x := ey
      have hz : yl_f2 u z := hz
      subst ey
      show yp (BX9_price_13 z (nI k) (nI x)) _
      unfold BX9_price_13
      refine yp_bd _ (ym_taken hW hk (by omega) (yX_f2 hz (ym_X hW hM))) (fun r hr => ?_)
      rcases hr.2 with ⟨e, h⟩ | ⟨e, p, hp, h⟩
      · rw [if_pos e]
        refine yp_some ?_
        show nI x = nI N
        have : x = N := by
          rcases m4 with g | ⟨p, hp, g⟩
          · omega
          · have := h p hp; omega
        rw [this]
      · rw [if_neg e]
        have := m3 p hp
        exact yp_lt (yp_some ⟨x + 1, by omega, nI_1 x, yl_f2t hz hr.1⟩)
    · unfold BX9_price_28
      exact yp_some hr
end
end
section
/-! every call keeps what the two have in common, the houses too -/
theorem zz_0 : st_0 zK zK := by
  intro σ τ a0 a1 a2 a3 a4 hJ
  obtain ⟨r, σ1, τ1, e1, e2, h⟩ := zK_0 σ τ a0 a1 a2 a3 a4 hJ
  exact ⟨r, r, σ1, τ1, e1, e2, h⟩
theorem zz_1 : st_1 zK zK := by
  intro σ τ a0 hJ
  obtain ⟨r, σ1, τ1, e1, e2, h⟩ := zK_1 σ τ a0 hJ
  exact ⟨r, r, σ1, τ1, e1, e2, h⟩
theorem zz_2 : st_2 zK zK := by
  intro σ τ hJ
  obtain ⟨r, σ1, τ1, e1, e2, h⟩ := zK_2 σ τ hJ
  exact ⟨r, r, σ1, τ1, e1, e2, h⟩
theorem zz_3 : st_3 zK zK := by
  intro σ τ a0 hJ
  obtain ⟨r, e1, e2⟩ := zJ_3 σ τ a0 hJ.1
  exact ⟨r, r, e1, e2, hJ⟩
theorem zz_4 : st_4 zK zK := by
  intro σ τ a0 a1 hJ
  obtain ⟨r, e1, e2⟩ := zJ_4 σ τ a0 a1 hJ.1
  exact ⟨r, r, e1, e2, hJ⟩
theorem zz_5 : st_5 zK zK := by
  intro σ τ a0 a1 hJ
  obtain ⟨r, e1, e2⟩ := zJ_5 σ τ a0 a1 hJ.1
  exact ⟨r, r, e1, e2, hJ⟩
theorem zz_6 : st_6 zK zK := by
  intro σ τ a0 hJ
  obtain ⟨r, e1, h1⟩ := zc_20 (zs_rf (key := zs_kC) (kl := zs_lC) hJ.1.1.1) (x1 := a0)
  obtain ⟨r2, e2, h2⟩ := zc_43 (zs_rf (key := zs_kM) (kl := zs_lM) hJ.1.1.2.1) (x1 := a0)
  exact ⟨r, r2.1, r2.2, e1, e2, zK_keep (zs_rf hJ.1.1.1) (h2.1.2) hJ⟩
theorem zz_7 : st_7 zK zK := by
  intro σ τ a0 hJ
  obtain ⟨r, e1, h1⟩ := zc_45 (zs_rf (key := zs_kC) (kl := zs_lC) hJ.1.1.1) (x1 := a0)
  obtain ⟨r2, e2, h2⟩ := zc_96 (zs_rf (key := zs_kM) (kl := zs_lM) hJ.1.1.2.1) (x1 := a0)
  exact ⟨r, r2.1, r2.2, e1, e2, zK_keep (zs_rf hJ.1.1.1) (h2.1.2) hJ⟩
theorem zz_8 : st_8 zK zK := by
  intro σ τ a0 hJ
  obtain ⟨r, e1, h1⟩ := zc_97 (zs_rf (key := zs_kC) (kl := zs_lC) hJ.1.1.1) (x1 := a0)
  obtain ⟨r2, e2, h2⟩ := zc_99 (zs_rf (key := zs_kM) (kl := zs_lM) hJ.1.1.2.1) (x1 := a0)
  exact ⟨r, r2.1, r2.2, e1, e2, zK_keep (zs_rf hJ.1.1.1) (h2.1.2) hJ⟩
theorem zz_9 : st_9 zK zK := by
  intro σ τ a0 hJ
  obtain ⟨r, e1, h1⟩ := zc_100 (zs_rf (key := zs_kC) (kl := zs_lC) hJ.1.1.1) (x1 := a0)
  obtain ⟨r2, e2, h2⟩ := zc_101 (zs_rf (key := zs_kM) (kl := zs_lM) hJ.1.1.2.1) (x1 := a0)
  exact ⟨r, r2.1, r2.2, e1, e2, zK_keep (zs_rf hJ.1.1.1) (h2.1.2) hJ⟩
theorem zz_10 : st_10 zK zK := by
  intro σ τ hJ
  obtain ⟨r, e1, h1⟩ := zc_106 (zs_rf (key := zs_kC) (kl := zs_lC) hJ.1.1.1) 
  obtain ⟨r2, e2, h2⟩ := zc_113 (zs_rf (key := zs_kM) (kl := zs_lM) hJ.1.1.2.1) 
  exact ⟨r, r2.1, r2.2, e1, e2, zK_keep (zs_rf hJ.1.1.1) (h2.2) hJ⟩
theorem zz_11 : st_11 zK zK := by
  intro σ τ a0 hJ
  obtain ⟨r, e1, h1⟩ := zc_114 (zs_rf (key := zs_kC) (kl := zs_lC) hJ.1.1.1) (x1 := a0)
  obtain ⟨r2, e2, h2⟩ := zc_115 (zs_rf (key := zs_kM) (kl := zs_lM) hJ.1.1.2.1) (x1 := a0)
  exact ⟨r, r2.1, r2.2, e1, e2, zK_keep (zs_rf hJ.1.1.1) (h2.1.2) hJ⟩
theorem zz_12 : st_12 zK zK := by
  intro σ τ a0 a1 hJ
  obtain ⟨r, e1, h1⟩ := zc_117 (zs_rf (key := zs_kC) (kl := zs_lC) hJ.1.1.1) (x1 := a0) (x2 := a1)
  obtain ⟨r2, e2, h2⟩ := zc_118 (zs_rf (key := zs_kM) (kl := zs_lM) hJ.1.1.2.1) (x1 := a0) (x2 := a1)
  exact ⟨r, r2.1, r2.2, e1, e2, zK_keep (zs_rf hJ.1.1.1) (h2.1.2) hJ⟩
theorem zz_13 : st_13 zK zK := by
  intro σ τ a0 hJ
  obtain ⟨r, e1, h1⟩ := zc_121 (zs_rf (key := zs_kC) (kl := zs_lC) hJ.1.1.1) (x1 := a0)
  obtain ⟨r2, e2, h2⟩ := zc_124 (zs_rf (key := zs_kM) (kl := zs_lM) hJ.1.1.2.1) (x1 := a0)
  exact ⟨r, r2.1, r2.2, e1, e2, zK_keep (zs_rf hJ.1.1.1) (h2.1.2) hJ⟩
theorem zz_14 : st_14 zK zK := by
  intro σ τ a0 hJ
  obtain ⟨r, e1, h1⟩ := zc_128 (zs_rf (key := zs_kC) (kl := zs_lC) hJ.1.1.1) (x1 := a0)
  obtain ⟨r2, e2, h2⟩ := zc_129 (zs_rf (key := zs_kM) (kl := zs_lM) hJ.1.1.2.1) (x1 := a0)
  exact ⟨r, r2.1, r2.2, e1, e2, zK_keep (zs_rf hJ.1.1.1) (h2.1.2) hJ⟩
theorem zz_15 : st_15 zK zK := by
  intro σ τ a0 hJ
  obtain ⟨r, e1, h1⟩ := zc_130 (zs_rf (key := zs_kC) (kl := zs_lC) hJ.1.1.1) (x1 := a0)
  obtain ⟨r2, e2, h2⟩ := zc_136 (zs_rf (key := zs_kM) (kl := zs_lM) hJ.1.1.2.1) (x1 := a0)
  exact ⟨r, r2.1, r2.2, e1, e2, zK_keep (zs_rf hJ.1.1.1) (h2.1.2) hJ⟩
theorem zz_16 : st_16 zK zK := by
  intro σ τ hJ
  obtain ⟨r, e1, h1⟩ := zc_141 (zs_rf (key := zs_kC) (kl := zs_lC) hJ.1.1.1) 
  obtain ⟨r2, e2, h2⟩ := zc_146 (zs_rf (key := zs_kM) (kl := zs_lM) hJ.1.1.2.1) 
  exact ⟨r, r2.1, r2.2, e1, e2, zK_keep (zs_rf hJ.1.1.1) (h2.2) hJ⟩
theorem zz_17 : st_17 zK zK := by
  intro σ τ hJ
  obtain ⟨r, e1, h1⟩ := zc_149 (zs_rf (key := zs_kC) (kl := zs_lC) hJ.1.1.1) 
  obtain ⟨r2, e2, h2⟩ := zc_154 (zs_rf (key := zs_kM) (kl := zs_lM) hJ.1.1.2.1) 
  exact ⟨r, r2.1, r2.2, e1, e2, zK_keep (zs_rf hJ.1.1.1) (h2.2) hJ⟩
theorem zz_18 : st_18 zK zK := by
  intro σ τ hJ
  obtain ⟨r, e1, h1⟩ := zc_159 (zs_rf (key := zs_kC) (kl := zs_lC) hJ.1.1.1) 
  obtain ⟨r2, e2, h2⟩ := zc_164 (zs_rf (key := zs_kM) (kl := zs_lM) hJ.1.1.2.1) 
  exact ⟨r, r2.1, r2.2, e1, e2, zK_keep (zs_rf hJ.1.1.1) (h2.2) hJ⟩
theorem zz_19 : st_19 zK zK := by
  intro σ τ a0 hJ
  obtain ⟨r, e1, h1⟩ := zc_176 (zs_rf (key := zs_kC) (kl := zs_lC) hJ.1.1.1) (x1 := a0)
  obtain ⟨r2, e2, h2⟩ := zc_186 (zs_rf (key := zs_kM) (kl := zs_lM) hJ.1.1.2.1) (x1 := a0)
  exact ⟨r, r2.1, r2.2, e1, e2, zK_keep (zs_rf hJ.1.1.1) (h2.1.2) hJ⟩
theorem zz_20 : st_20 zK zK := by
  intro σ τ a0 a1 hJ
  obtain ⟨r, e1, h1⟩ := zc_188 (zs_rf (key := zs_kC) (kl := zs_lC) hJ.1.1.1) (x1 := a0) (x2 := a1)
  obtain ⟨r2, e2, h2⟩ := zc_191 (zs_rf (key := zs_kM) (kl := zs_lM) hJ.1.1.2.1) (x1 := a0) (x2 := a1)
  exact ⟨r, r2.1, r2.2, e1, e2, zK_keep (zs_rf hJ.1.1.1) (h2.1.2) hJ⟩
theorem zz_21 : st_21 zK zK := by
  intro σ τ a0 hJ
  obtain ⟨r, e1, h1⟩ := zc_199 (zs_rf (key := zs_kC) (kl := zs_lC) hJ.1.1.1) (x1 := a0)
  obtain ⟨r2, e2, h2⟩ := zc_211 (zs_rf (key := zs_kM) (kl := zs_lM) hJ.1.1.2.1) (x1 := a0)
  exact ⟨r, r2.1, r2.2, e1, e2, zK_keep (zs_rf hJ.1.1.1) (h2.1.2) hJ⟩
theorem zz_22 : st_22 zK zK := by
  intro σ τ hJ
  obtain ⟨r, e1, h1⟩ := zc_215 (zs_rf (key := zs_kC) (kl := zs_lC) hJ.1.1.1) 
  obtain ⟨r2, e2, h2⟩ := zc_220 (zs_rf (key := zs_kM) (kl := zs_lM) hJ.1.1.2.1) 
  exact ⟨r, r2.1, r2.2, e1, e2, zK_keep (zs_rf hJ.1.1.1) (h2.2) hJ⟩
theorem zz_23 : st_23 zK zK := by
  intro σ τ a0 hJ
  obtain ⟨r, e1, h1⟩ := zc_225 (zs_rf (key := zs_kC) (kl := zs_lC) hJ.1.1.1) (x1 := a0)
  obtain ⟨r2, e2, h2⟩ := zc_228 (zs_rf (key := zs_kM) (kl := zs_lM) hJ.1.1.2.1) (x1 := a0)
  exact ⟨r, r2.1, r2.2, e1, e2, zK_keep (zs_rf hJ.1.1.1) (h2.1.2) hJ⟩
theorem zz_24 : st_24 zK zK := by
  intro σ τ a0 hJ
  obtain ⟨r, e1, h1⟩ := zc_238 (zs_rf (key := zs_kC) (kl := zs_lC) hJ.1.1.1) (x1 := a0)
  obtain ⟨r2, e2, h2⟩ := zc_263 (zs_rf (key := zs_kM) (kl := zs_lM) hJ.1.1.2.1) (x1 := a0)
  exact ⟨r.1, r2.1, r.2, r2.2, e1, e2, zK_keep (h1.2) (h2.2) hJ⟩
theorem zz_25 : st_25 zK zK := by
  intro σ τ hJ
  obtain ⟨r, e1, h1⟩ := zc_276 (zs_rf (key := zs_kC) (kl := zs_lC) hJ.1.1.1) 
  obtain ⟨r2, e2, h2⟩ := zc_313 (zs_rf (key := zs_kM) (kl := zs_lM) hJ.1.1.2.1) 
  exact ⟨r.1, r2.1, r.2, r2.2, e1, e2, zK_keep (h1.2) (h2.2) hJ⟩
theorem zz_26 : st_26 zK zK := by
  intro σ τ a0 hJ
  obtain ⟨r, e1, h1⟩ := zc_353 (zs_rf (key := zs_kC) (kl := zs_lC) hJ.1.1.1) (x1 := a0)
  obtain ⟨r2, e2, h2⟩ := zA_70 (zs_rf (key := zs_kM0) (kl := zs_lM) hJ.1.1.2.1) (x1 := a0)
  exact ⟨r.1, r2.1, r.2, r2.2, e1, e2, zK_keep0 (h1.1.2) (h2.1.2) (qb_dull hJ.1.1.2.1 e2) hJ⟩
theorem zz_27 : st_27 zK zK := by
  intro σ τ a0 hJ
  obtain ⟨r, e1, h1⟩ := zc_358 (zs_rf (key := zs_kC) (kl := zs_lC) hJ.1.1.1) (x1 := a0)
  obtain ⟨r2, e2, h2⟩ := zA_79 (zs_rf (key := zs_kM0) (kl := zs_lM) hJ.1.1.2.1) (x1 := a0)
  exact ⟨r.1, r2.1, r.2, r2.2, e1, e2, zK_keep0 (h1.1.2) (h2.1.2) (qb_bears hJ.1.1.2.1 e2) hJ⟩
theorem zz_28 : st_28 zK zK := by
  intro σ τ hJ
  obtain ⟨r, e1, h1⟩ := zc_366 (zs_rf (key := zs_kC) (kl := zs_lC) hJ.1.1.1) 
  obtain ⟨r2, e2, h2⟩ := zA_94 (zs_rf (key := zs_kM0) (kl := zs_lM) hJ.1.1.2.1) 
  exact ⟨r.1, r2.1, r.2, r2.2, e1, e2, zK_keep0 (h1.2) (h2.2) (qb_clean hJ.1.1.2.1 e2) hJ⟩
theorem zz_29 : st_29 zK zK := by
  intro σ τ a0 hJ
  obtain ⟨r, e1, h1⟩ := zc_370 (zs_rf (key := zs_kC) (kl := zs_lC) hJ.1.1.1) (x1 := a0)
  obtain ⟨r2, e2, h2⟩ := zc_378 (zs_rf (key := zs_kM) (kl := zs_lM) hJ.1.1.2.1) (x1 := a0)
  exact ⟨r.1, r2.1, r.2, r2.2, e1, e2, zK_keep (h1.1.2) (h2.1.2) hJ⟩
theorem zz_30 : st_30 zK zK := by
  intro σ τ a0 hJ
  obtain ⟨r, e1, h1⟩ := zc_384 (zs_rf (key := zs_kC) (kl := zs_lC) hJ.1.1.1) (x1 := a0)
  obtain ⟨r2, e2, h2⟩ := zc_397 (zs_rf (key := zs_kM) (kl := zs_lM) hJ.1.1.2.1) (x1 := a0)
  exact ⟨r, r2.1, r2.2, e1, e2, zK_keep (zs_rf hJ.1.1.1) (h2.1.2) hJ⟩
theorem zz_31 : st_31 zK zK := by
  intro σ τ a0 hJ
  obtain ⟨r, e1, h1⟩ := zc_398 (zs_rf (key := zs_kC) (kl := zs_lC) hJ.1.1.1) (x1 := a0)
  obtain ⟨r2, e2, h2⟩ := zc_399 (zs_rf (key := zs_kM) (kl := zs_lM) hJ.1.1.2.1) (x1 := a0)
  exact ⟨r.1, r2.1, r.2, r2.2, e1, e2, zK_keep (h1.1.2) (h2.1.2) hJ⟩
theorem zz_32 : st_32 zK zK := by
  intro σ τ a0 hJ
  obtain ⟨r, e1, h1⟩ := zc_400 (zs_rf (key := zs_kC) (kl := zs_lC) hJ.1.1.1) (x1 := a0)
  obtain ⟨r2, e2, h2⟩ := zc_401 (zs_rf (key := zs_kM) (kl := zs_lM) hJ.1.1.2.1) (x1 := a0)
  exact ⟨r.1, r2.1, r.2, r2.2, e1, e2, zK_keep (h1.1.2) (h2.1.2) hJ⟩
theorem zz_33 : st_33 zK zK := by
  intro σ τ hJ
  obtain ⟨r, e1, h1⟩ := zc_405 (zs_rf (key := zs_kC) (kl := zs_lC) hJ.1.1.1) 
  obtain ⟨r2, e2, h2⟩ := zc_410 (zs_rf (key := zs_kM) (kl := zs_lM) hJ.1.1.2.1) 
  exact ⟨r.1, r2.1, r.2, r2.2, e1, e2, zK_keep (h1.2) (h2.2) hJ⟩
theorem zz_34 : st_34 zK zK := by
  intro σ τ a0 hJ
  obtain ⟨r, e1, h1⟩ := zc_411 (zs_rf (key := zs_kC) (kl := zs_lC) hJ.1.1.1) (x1 := a0)
  obtain ⟨r2, e2, h2⟩ := zc_412 (zs_rf (key := zs_kM) (kl := zs_lM) hJ.1.1.2.1) (x1 := a0)
  exact ⟨r.1, r2.1, r.2, r2.2, e1, e2, zK_keep (h1.2) (h2.2) hJ⟩
theorem zz_35 : st_35 zK zK := by
  intro σ τ hJ
  obtain ⟨r, e1, h1⟩ := zc_416 (zs_rf (key := zs_kC) (kl := zs_lC) hJ.1.1.1) 
  obtain ⟨r2, e2, h2⟩ := zc_420 (zs_rf (key := zs_kM) (kl := zs_lM) hJ.1.1.2.1) 
  exact ⟨r.1, r2.1, r.2, r2.2, e1, e2, zK_keep (h1.2) (h2.2) hJ⟩
theorem zz_36 : st_36 zK zK := by
  intro σ τ hJ
  obtain ⟨r, e1, h1⟩ := zc_425 (zs_rf (key := zs_kC) (kl := zs_lC) hJ.1.1.1) 
  obtain ⟨r2, e2, h2⟩ := zc_430 (zs_rf (key := zs_kM) (kl := zs_lM) hJ.1.1.2.1) 
  exact ⟨r.1, r2.1, r.2, r2.2, e1, e2, zK_keep (h1.2) (h2.2) hJ⟩
theorem zz_37 : st_37 zK zK := by
  intro σ τ hJ
  obtain ⟨r, e1, h1⟩ := zc_434 (zs_rf (key := zs_kC) (kl := zs_lC) hJ.1.1.1) 
  obtain ⟨r2, e2, h2⟩ := zh_reserve (zs_rf (key := zs_kM) (kl := zs_lM) hJ.1.1.2.1)
  exact ⟨r.1, r2.1, r.2, r2.2, e1, e2, zK_keep (h1.2) (h2) hJ⟩
theorem zz_38 : st_38 zK zK := by
  intro σ τ a0 hJ
  obtain ⟨r, e1, h1⟩ := zc_437 (zs_rf (key := zs_kC) (kl := zs_lC) hJ.1.1.1) (x1 := a0)
  obtain ⟨r2, e2, h2⟩ := zc_446 (zs_rf (key := zs_kM) (kl := zs_lM) hJ.1.1.2.1) (x1 := a0)
  exact ⟨r.1, r2.1, r.2, r2.2, e1, e2, zK_keep (h1.2) (h2.2) hJ⟩
theorem zz_39 : st_39 zK zK := by
  intro σ τ hJ
  obtain ⟨r, e1, h1⟩ := zc_457 (zs_rf (key := zs_kC) (kl := zs_lC) hJ.1.1.1) 
  obtain ⟨r2, e2, h2⟩ := zc_463 (zs_rf (key := zs_kM) (kl := zs_lM) hJ.1.1.2.1) 
  exact ⟨r.1, r2.1, r.2, r2.2, e1, e2, zK_keep (h1.2) (h2.2) hJ⟩
theorem zz_40 : st_40 zK zK := by
  intro σ τ a0 hJ
  obtain ⟨r, e1, h1⟩ := zc_471 (zs_rf (key := zs_kC) (kl := zs_lC) hJ.1.1.1) (x1 := a0)
  obtain ⟨r2, e2, h2⟩ := zc_478 (zs_rf (key := zs_kM) (kl := zs_lM) hJ.1.1.2.1) (x1 := a0)
  exact ⟨r, r2.1, r2.2, e1, e2, zK_keep (zs_rf hJ.1.1.1) (h2.1.2) hJ⟩
theorem zz_41 : st_41 zK zK := by
  intro σ τ a0 hJ
  obtain ⟨r, e1, h1⟩ := zc_479 (zs_rf (key := zs_kC) (kl := zs_lC) hJ.1.1.1) (x1 := a0)
  obtain ⟨r2, e2, h2⟩ := zc_480 (zs_rf (key := zs_kM) (kl := zs_lM) hJ.1.1.2.1) (x1 := a0)
  exact ⟨r, r2.1, r2.2, e1, e2, zK_keep (zs_rf hJ.1.1.1) (h2.1.2) hJ⟩
theorem zz_42 : st_42 zK zK := by
  intro σ τ a0 hJ
  obtain ⟨r, e1, h1⟩ := zc_489 (zs_rf (key := zs_kC) (kl := zs_lC) hJ.1.1.1) (x1 := a0)
  obtain ⟨r2, e2, h2⟩ := zr_price hJ.1.1.2.1 a0
  have q : r = r2.1 := yz_42 hJ _ _ e1 e2
  exact ⟨r, r2.2, e1, (e2.trans (show some r2 = some (r, r2.2) by rw [q])), zK_keep (zs_rf hJ.1.1.1) (h2) hJ⟩
theorem zz_43 : st_43 zK zK := by
  intro σ τ a0 hJ
  obtain ⟨r, e1, h1⟩ := zc_511 (zs_rf (key := zs_kC) (kl := zs_lC) hJ.1.1.1) (x1 := a0)
  obtain ⟨r2, e2, h2⟩ := zc_527 (zs_rf (key := zs_kM) (kl := zs_lM) hJ.1.1.2.1) (x1 := a0)
  exact ⟨r.1, r2.1, r.2, r2.2, e1, e2, zK_keep (h1.1.2) (h2.1.2) hJ⟩
theorem zz_44 : st_44 zK zK := by
  intro σ τ a0 hJ
  obtain ⟨r, e1, h1⟩ := zc_529 (zs_rf (key := zs_kC) (kl := zs_lC) hJ.1.1.1) (x1 := a0)
  obtain ⟨r2, e2, h2⟩ := zc_530 (zs_rf (key := zs_kM) (kl := zs_lM) hJ.1.1.2.1) (x1 := a0)
  exact ⟨r.1, r2.1, r.2, r2.2, e1, e2, zK_keep (h1.1.2) (h2.1.2) hJ⟩
theorem zz_45 : st_45 zK zK := by
  intro σ τ a0 hJ
  obtain ⟨r, e1, h1⟩ := zc_543 (zs_rf (key := zs_kC) (kl := zs_lC) hJ.1.1.1) (x1 := a0)
  obtain ⟨r2, e2, h2⟩ := zc_549 (zs_rf (key := zs_kM) (kl := zs_lM) hJ.1.1.2.1) (x1 := a0)
  exact ⟨r.1, r2.1, r.2, r2.2, e1, e2, zK_keep (h1.1.2) (h2.1.2) hJ⟩
theorem zz_46 : st_46 zK zK := by
  intro σ τ a0 hJ
  obtain ⟨r, e1, h1⟩ := zc_550 (zs_rf (key := zs_kC) (kl := zs_lC) hJ.1.1.1) (x1 := a0)
  obtain ⟨r2, e2, h2⟩ := zc_551 (zs_rf (key := zs_kM) (kl := zs_lM) hJ.1.1.2.1) (x1 := a0)
  exact ⟨r.1, r2.1, r.2, r2.2, e1, e2, zK_keep (h1.1.2) (h2.1.2) hJ⟩
theorem zz_47 : st_47 zK zK := by
  intro σ τ a0 hJ
  obtain ⟨r, e1, h1⟩ := zc_579 (zs_rf (key := zs_kC) (kl := zs_lC) hJ.1.1.1) (x1 := a0)
  obtain ⟨r2, e2, h2⟩ := zc_1500 (zs_rf (key := zs_kM) (kl := zs_lM) hJ.1.1.2.1) (x1 := a0)
  exact ⟨r.1, r2.1, r.2, r2.2, e1, e2, zK_keep (h1.1.2) (h2.2) hJ⟩
theorem zz_48 : st_48 zK zK := by
  intro σ τ a0 hJ
  obtain ⟨r, e1, h1⟩ := zc_580 (zs_rf (key := zs_kC) (kl := zs_lC) hJ.1.1.1) (x1 := a0)
  obtain ⟨r2, e2, h2⟩ := zc_1503 (zs_rf (key := zs_kM) (kl := zs_lM) hJ.1.1.2.1) (x1 := a0)
  exact ⟨r.1, r2.1, r.2, r2.2, e1, e2, zK_keep (h1.1.2) (h2.2) hJ⟩
theorem zz_49 : st_49 zK zK := by
  intro σ τ a0 hJ
  obtain ⟨r, e1, h1⟩ := zc_581 (zs_rf (key := zs_kC) (kl := zs_lC) hJ.1.1.1) (x1 := a0)
  obtain ⟨r2, e2, h2⟩ := zc_1504 (zs_rf (key := zs_kM) (kl := zs_lM) hJ.1.1.2.1) (x1 := a0)
  exact ⟨r.1, r2.1, r.2, r2.2, e1, e2, zK_keep (h1.1.2) (h2.2) hJ⟩
theorem zz_50 : st_50 zK zK := by
  intro σ τ a0 hJ
  obtain ⟨r, e1, h1⟩ := zc_590 (zs_rf (key := zs_kC) (kl := zs_lC) hJ.1.1.1) (x1 := a0)
  obtain ⟨r2, e2, h2⟩ := zc_1516 (zs_rf (key := zs_kM) (kl := zs_lM) hJ.1.1.2.1) (x1 := a0)
  exact ⟨r.1, r2.1, r.2, r2.2, e1, e2, zK_keep (h1.1.2) (h2.2) hJ⟩
theorem zz_51 : st_51 zK zK := by
  intro σ τ a0 hJ
  obtain ⟨r, e1, h1⟩ := zc_591 (zs_rf (key := zs_kC) (kl := zs_lC) hJ.1.1.1) (x1 := a0)
  obtain ⟨r2, e2, h2⟩ := zc_1517 (zs_rf (key := zs_kM) (kl := zs_lM) hJ.1.1.2.1) (x1 := a0)
  exact ⟨r.1, r2.1, r.2, r2.2, e1, e2, zK_keep (h1.1.2) (h2.2) hJ⟩
theorem zz_52 : st_52 zK zK := by
  intro σ τ a0 a1 hJ
  obtain ⟨r, e1, h1⟩ := zc_606 (zs_rf (key := zs_kC) (kl := zs_lC) hJ.1.1.1) (x1 := a0) (x2 := a1)
  obtain ⟨r2, e2, h2⟩ := zc_642 (zs_rf (key := zs_kM) (kl := zs_lM) hJ.1.1.2.1) (x1 := a0) (x2 := a1)
  exact ⟨r.1, r2.1, r.2, r2.2, e1, e2, zK_keep (h1.1.2) (h2.1.2) hJ⟩
theorem zz_53 : st_53 zK zK := by
  intro σ τ a0 a1 a2 a3 hJ
  obtain ⟨r, e1, h1⟩ := zc_643 (zs_rf (key := zs_kC) (kl := zs_lC) hJ.1.1.1) (x1 := a0) (x2 := a1) (x3 := a2) (x4 := a3)
  obtain ⟨r2, e2, h2⟩ := zc_651 (zs_rf (key := zs_kM) (kl := zs_lM) hJ.1.1.2.1) (x1 := a0) (x2 := a1) (x3 := a2) (x4 := a3)
  exact ⟨r.1, r2.1, r.2, r2.2, e1, e2, zK_keep (h1.1.2) (h2.1.2) hJ⟩
theorem zz_54 : st_54 zK zK := by
  intro σ τ a0 hJ
  obtain ⟨r, e1, h1⟩ := zc_654 (zs_rf (key := zs_kC) (kl := zs_lC) hJ.1.1.1) (x1 := a0)
  obtain ⟨r2, e2, h2⟩ := zc_657 (zs_rf (key := zs_kM) (kl := zs_lM) hJ.1.1.2.1) (x1 := a0)
  exact ⟨r.1, r2.1, r.2, r2.2, e1, e2, zK_keep (h1.1.2) (h2.1.2) hJ⟩
theorem zz_55 : st_55 zK zK := by
  intro σ τ hJ
  obtain ⟨r, e1, h1⟩ := zc_662 (zs_rf (key := zs_kC) (kl := zs_lC) hJ.1.1.1) 
  obtain ⟨r2, e2, h2⟩ := zc_667 (zs_rf (key := zs_kM) (kl := zs_lM) hJ.1.1.2.1) 
  exact ⟨r.1, r2.1, r.2, r2.2, e1, e2, zK_keep (h1.2) (h2.2) hJ⟩
theorem zz_56 : st_56 zK zK := by
  intro σ τ a0 a1 a2 hJ
  obtain ⟨r, e1, h1⟩ := zc_1112 (zs_rf (key := zs_kC) (kl := zs_lC) hJ.1.1.1) (x1 := a0) (x2 := a1) (x3 := a2)
  obtain ⟨r2, e2, h2⟩ := zq_chance hJ.1.1.2.1 a0 a1 a2
  exact ⟨r.1, r2.1, r.2, r2.2, e1, e2, zK_keep (h1.1.2) (h2) hJ⟩
theorem zz_57 : st_57 zK zK := by
  intro σ τ a0 a1 a2 hJ
  obtain ⟨r, e1, h1⟩ := zc_1235 (zs_rf (key := zs_kC) (kl := zs_lC) hJ.1.1.1) (x1 := a0) (x2 := a1) (x3 := a2)
  obtain ⟨r2, e2, h2⟩ := zq_fair hJ.1.1.2.1 a0 a1 a2
  exact ⟨r.1, r2.1, r.2, r2.2, e1, e2, zK_keep (h1.1.2) (h2) hJ⟩
theorem zz_58 : st_58 zK zK := by
  intro σ τ a0 a1 hJ
  obtain ⟨r, e1, h1⟩ := zc_1445 (zs_rf (key := zs_kC) (kl := zs_lC) hJ.1.1.1) (x1 := a0) (x2 := a1)
  obtain ⟨r2, e2, h2⟩ := zq_risk hJ.1.1.2.1 a0 a1
  exact ⟨r.1, r2.1, r.2, r2.2, e1, e2, zK_keep (h1.1.2) (h2) hJ⟩
theorem zz_59 : st_59 zK zK := by
  intro σ τ a0 a1 hJ
  obtain ⟨r, σ1, τ1, e1, e2, h⟩ := zK_59 σ τ a0 a1 hJ
  exact ⟨r, r, σ1, τ1, e1, e2, h⟩
theorem zz_60 : st_60 zK zK := by
  intro σ τ a0 a1 hJ
  obtain ⟨r, σ1, τ1, e1, e2, h⟩ := zK_60 σ τ a0 a1 hJ
  exact ⟨r, r, σ1, τ1, e1, e2, h⟩
theorem zz_61 : st_61 zK zK := by
  intro σ τ hJ
  obtain ⟨r, σ1, τ1, e1, e2, h⟩ := zK_61 σ τ hJ
  exact ⟨r, r, σ1, τ1, e1, e2, h⟩
theorem zz_62 : st_62 zK zK := by
  intro σ τ hJ
  obtain ⟨r, σ1, τ1, e1, e2, h⟩ := zK_62 σ τ hJ
  exact ⟨r, r, σ1, τ1, e1, e2, h⟩
theorem zz_63 : st_63 zK zK := by
  intro σ τ a0 a1 hJ
  obtain ⟨r, e1, h1⟩ := zc_1452 (zs_rf (key := zs_kC) (kl := zs_lC) hJ.1.1.1) (x1 := a0) (x2 := a1)
  obtain ⟨r2, e2, h2⟩ := zc_1460 (zs_rf (key := zs_kM) (kl := zs_lM) hJ.1.1.2.1) (x1 := a0) (x2 := a1)
  exact ⟨r.1, r2.1, r.2, r2.2, e1, e2, zK_keep (h1.1.2) (h2.1.2) hJ⟩
theorem zz_64 : st_64 zK zK := by
  intro σ τ a0 a1 a2 hJ
  obtain ⟨r, e1, h1⟩ := zc_1465 (zs_rf (key := zs_kC) (kl := zs_lC) hJ.1.1.1) (x1 := a0) (x2 := a1) (x3 := a2)
  obtain ⟨r2, e2, h2⟩ := zc_1472 (zs_rf (key := zs_kM) (kl := zs_lM) hJ.1.1.2.1) (x1 := a0) (x2 := a1) (x3 := a2)
  exact ⟨r.1, r2.1, r.2, r2.2, e1, e2, zK_keep (h1.1.2) (h2.1.2) hJ⟩
theorem zz_65 : st_65 zK zK := by
  intro σ τ a0 a1 hJ
  obtain ⟨r, σ1, τ1, e1, e2, h⟩ := zK_65 σ τ a0 a1 hJ
  exact ⟨r, r, σ1, τ1, e1, e2, h⟩
theorem zz_66 : st_66 zK zK := by
  intro σ τ a0 hJ
  obtain ⟨r, e1, e2⟩ := zJ_66 σ τ a0 hJ.1
  exact ⟨r, r, e1, e2, hJ⟩
theorem zz_67 : st_67 zK zK := by
  intro σ τ a0 hJ
  obtain ⟨r, σ1, τ1, e1, e2, h⟩ := zK_67 σ τ a0 hJ
  exact ⟨r, r, σ1, τ1, e1, e2, h⟩
theorem zz_68 : st_68 zK zK := by
  intro σ τ a0 hJ
  obtain ⟨r, σ1, τ1, e1, e2, h⟩ := zK_68 σ τ a0 hJ
  exact ⟨r, r, σ1, τ1, e1, e2, h⟩
theorem zz_69 : st_69 zK zK := by
  intro σ τ a0 a1 a2 hJ
  obtain ⟨r, σ1, τ1, e1, e2, h⟩ := zK_69 σ τ a0 a1 a2 hJ
  exact ⟨r, r, σ1, τ1, e1, e2, h⟩
theorem zz_70 : st_70 zK zK := by
  intro σ τ a0 a1 a2 hJ
  obtain ⟨r, σ1, τ1, e1, e2, h⟩ := zK_70 σ τ a0 a1 a2 hJ
  exact ⟨r, r, σ1, τ1, e1, e2, h⟩
theorem zz_71 : st_71 zK zK := by
  intro σ τ a0 a1 a2 a3 a4 hJ
  obtain ⟨r, σ1, τ1, e1, e2, h⟩ := zK_71 σ τ a0 a1 a2 a3 a4 hJ
  exact ⟨r, r, σ1, τ1, e1, e2, h⟩
theorem zJ_ini : zJ sn_iniX8 sn_iniX9 := by
  have z0 : (0 : Int32).toInt = 0 := by decide
  have H : ∀ (h : Nat) (w : Nat → Int32), (∀ k, sn_iniX8.1 (h + 1) k = 0) → (∀ k, k < 11 → w k = 0) → rr_H h sn_iniX8 w := by
    intro h w h1 hw
    unfold rr_H
    rw [h1 5, h1 6, h1 7, h1 8, h1 9, z0]
    exact ⟨fun k hk => by rw [h1 k, hw k hk], fun i hi => absurd hi (by omega), fun i hi => absurd hi (by omega), fun i hi => absurd hi (by omega), fun i hi => absurd hi (by omega), fun i hi => absurd hi (by omega)⟩
  refine ⟨zj_ini, H 1 _ (fun k => rfl) (fun k _ => rfl), fun j hj => H _ _ (fun k => ?_) (fun k _ => rfl)⟩
  match j, hj with
  | 0, _ => rfl
  | 1, _ => rfl
  | 2, _ => rfl
theorem zK_ini : zK sn_iniX8 sn_iniX9 := by
  refine ⟨zJ_ini, ⟨jW_0 (fun _ => rfl), yH_0 (fun _ => rfl) (fun k => rfl)⟩, fun j hj => ⟨jW_0 (fun _ => rfl), yH_0 (fun _ => rfl) (fun k => ?_)⟩, yD_0 (fun _ => rfl) rfl rfl rfl rfl (fun m => rfl)⟩
  match j, hj with
  | 0, _ => rfl
  | 1, _ => rfl
  | 2, _ => rfl
theorem sn_pure : ∃ J : Nat → sn_S → sn_S → Prop, J 0 sn_iniX8 sn_iniX9 ∧ (∀ k, k + 6 ≤ 3072 → st_all (J k) (J (k + 6))) ∧ ∀ k, k + 6 ≤ 3072 → ∀ σ τ, J k σ τ → J (k + 6) σ τ := by
  refine ⟨fun _ => zK, zK_ini, fun _ _ => ⟨zz_0, zz_1, zz_2, zz_3, zz_4, zz_5, zz_6, zz_7, zz_8, zz_9, zz_10, zz_11, zz_12, zz_13, zz_14, zz_15, zz_16, zz_17, zz_18, zz_19, zz_20, zz_21, zz_22, zz_23, zz_24, zz_25, zz_26, zz_27, zz_28, zz_29, zz_30, zz_31, zz_32, zz_33, zz_34, zz_35, zz_36, zz_37, zz_38, zz_39, zz_40, zz_41, zz_42, zz_43, zz_44, zz_45, zz_46, zz_47, zz_48, zz_49, zz_50, zz_51, zz_52, zz_53, zz_54, zz_55, zz_56, zz_57, zz_58, zz_59, zz_60, zz_61, zz_62, zz_63, zz_64, zz_65, zz_66, zz_67, zz_68, zz_69, zz_70, zz_71⟩, fun _ _ _ _ h => h⟩
end
