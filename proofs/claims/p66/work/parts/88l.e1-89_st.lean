section
/-! answers: greatest, longest, together -/
section
variable {σ τ : sn_S}
theorem yb_xor1 (x : Int32) {j : Nat} (hj : j < 32) : sp_bit (x ^^^ (-1 : Int32)) j = !sp_bit x j := by
  have e : (x ^^^ (-1 : Int32)).toBitVec = x.toBitVec ^^^ (-1 : Int32).toBitVec := rfl
  have e1 : (-1 : Int32).toBitVec = BitVec.allOnes 32 := by decide
  rw [yb_tb _ hj, yb_tb _ hj, e, e1, BitVec.getLsbD_xor, BitVec.getLsbD_allOnes]
  simp [hj]
end
end
section
/-! windows of policies, both sides -/
theorem yb_V {x : Int32} {f : Nat → Bool} (h : ∀ k, k < 32 → sp_bit x k = f k) : x = dy_set f 32 := yb_ext (fun k hk => by rw [yb_set 32 (Nat.le_refl _) k hk, h k hk, decide_eq_true hk, Bool.true_and])
theorem yb_Vb {f : Nat → Bool} {k : Nat} (hk : k < 32) : sp_bit (dy_set f 32) k = f k := by rw [yb_set 32 (Nat.le_refl _) k hk, decide_eq_true hk, Bool.true_and]
theorem yb_win : ∀ a, a < 30 → ∀ b, b < 30 → a ≤ b → ((2 : Int32) <<< (nI b &&& 31)) - ((1 : Int32) <<< (nI a &&& 31)) = (((1 : Int32) <<< (nI (b + 1) &&& 31)) - 1) &&& ((((1 : Int32) <<< (nI a &&& 31)) - 1) ^^^ (-1 : Int32)) := by decide +kernel
theorem yb_wb {a b k : Nat} (ha : a < 30) (hb : b < 30) (h : a ≤ b) (hk : k < 32) : sp_bit (((2 : Int32) <<< (nI b &&& 31)) - ((1 : Int32) <<< (nI a &&& 31))) k = decide (a ≤ k ∧ k ≤ b) := by
  rw [yb_win a ha b hb h, yb_and _ _ hk, yb_low (b + 1) (by omega) k hk, yb_xor1 _ hk, yb_low a (by omega) k hk, Bool.eq_iff_iff]
  simp only [Bool.and_eq_true, Bool.not_eq_true', decide_eq_true_eq, decide_eq_false_iff_not]
  omega
def yl_w (w : Nat → Int32) (q k : Nat) : Bool := decide (sp_n w (50 + 5 * q) ≤ k ∧ k ≤ sp_n w (51 + 5 * q))
def yl_m (w : Nat → Int32) (q k : Nat) : Bool := yl_w w q k && decide (k < sp_n w 0)
section
variable {σ τ u : sn_S} {w : Nat → Int32} {q : Nat}
theorem yl_p (hW : jW w) (hq : q < sp_n w 8) : (w (49 + 5 * q) = nI (sp_n w (49 + 5 * q)) ∧ sp_n w (49 + 5 * q) < sp_n w 5) ∧ yh_n w (50 + 5 * q) 29 ∧ yh_n w (51 + 5 * q) 29 ∧ sp_n w (50 + 5 * q) ≤ sp_n w (51 + 5 * q) ∧ yh_n w (52 + 5 * q) 99 ∧ 1 ≤ sp_n w (52 + 5 * q) ∧ yh_n w (53 + 5 * q) 99 := hW.2.2.2.2.2.2.1 q hq
theorem yl_8 (hW : jW w) : w 8 = nI (sp_n w 8) ∧ sp_n w 8 ≤ 6 := hW.1.2.2.2.2.2.2.2.2.1
theorem yl_5 (hW : jW w) : w 5 = nI (sp_n w 5) ∧ sp_n w 5 ≤ 6 := hW.1.2.2.2.2.2.1
theorem yl_0 (hW : jW w) : w 0 = nI (sp_n w 0) ∧ sp_n w 0 ≤ 30 := hW.1.1
theorem yc_of (hW : jW w) (hH : yH 1 σ w) (hq : q < sp_n w 8) (x : Nat) (hx : x < 5) {y : Int32} (ey : y = nI x) : yp (fX2_ofPolicy σ 1 (nI q) y) (fun v => v = w (49 + x + 5 * q)) := by
  have c8 := (yl_8 hW).2
  subst ey
  unfold fX2_ofPolicy
  rw [yi_5, nI_add, nI_clamp (by omega)]
  exact yp_gd (fun _ => yp_some ((hH.2.2.2.2.1 (5 * q + x) (by omega)).trans (congrArg w (by omega))))
theorem ym_of (hW : jW w) (hu : u.1 1 = w) (hq : q < sp_n w 8) (x : Nat) (hx : x < 5) {y : Int32} (ey : y = nI x) : yp (fX9_of u (nI q) y) (fun v => v = w (49 + x + 5 * q)) := by
  have c8 := (yl_8 hW).2
  subst ey
  unfold fX9_of
  rw [yi_5, show (49 : Int32) + nI (5 * q) = nI (49 + 5 * q) from nI_add 49 _, nI_add, nI_clamp (by omega)]
  exact yp_gd (fun _ => yp_some ((congrFun hu _).trans (congrArg w (by omega))))
theorem yc_8 (hW : jW w) (hH : yH 1 σ w) : sn_I σ (1 + 1) (8 : Int32).toNatClampNeg = nI (sp_n w 8) := (hH.1 8 (by decide)).trans (yl_8 hW).1
theorem yc_win (hW : jW w) (hH : yH 1 σ w) (hq : q < sp_n w 8) : yp (fX2_window σ 1 (nI q)) (fun v => v = dy_set (yl_w w q) 32) := by
  obtain ⟨-, ⟨a1, a2⟩, ⟨b1, b2⟩, hab, -⟩ := yl_p hW hq
  have c8 := (yl_8 hW).2
  have e1 : sn_I σ (1 + 5) (nI (5 * q) + (1 : Int32)).toNatClampNeg = nI (sp_n w (50 + 5 * q)) := by
    rw [nI_1, nI_clamp (by omega)]
    exact (hH.2.2.2.2.1 (5 * q + 1) (by omega)).trans ((congrArg w (by omega)).trans a1)
  have e2 : sn_I σ (1 + 5) (nI (5 * q) + (2 : Int32)).toNatClampNeg = nI (sp_n w (51 + 5 * q)) := by
    rw [show nI (5 * q) + (2 : Int32) = nI (5 * q + 2) from nI_add _ 2, nI_clamp (by omega)]
    exact (hH.2.2.2.2.1 (5 * q + 2) (by omega)).trans ((congrArg w (by omega)).trans b1)
  unfold fX2_window
  rw [yi_5]
  refine yp_lt (yp_gd (fun _ => yp_gd (fun _ => yp_some ?_)))
  rw [e1, e2]
  exact yb_V (fun k hk => yb_wb (by omega) (by omega) hab hk)
theorem ym_win (hW : jW w) (hu : u.1 1 = w) (h22 : u.1 0 22 = nI (sp_n w 0) - 1) (hq : q < sp_n w 8) : yp (fX9_windowOf u (nI q)) (fun v => v = dy_set (yl_m w q) 32) := by
  obtain ⟨-, ⟨a1, a2⟩, ⟨b1, b2⟩, hab, -⟩ := yl_p hW hq
  have c0 := (yl_0 hW).2
  unfold fX9_windowOf
  refine yp_bd _ (ym_of hW hu hq 1 (by decide) rfl) (fun t ht => ?_)
  rw [ht, show w (49 + 1 + 5 * q) = nI (sp_n w (50 + 5 * q)) from a1]
  refine yp_bd (fun v => v = dy_set (yl_m w q) 32) (yp_it (fun s : Int32 × Int32 => ∃ m, sp_n w (50 + 5 * q) ≤ m ∧ m ≤ sp_n w (51 + 5 * q) + 1 ∧ (m ≤ sp_n w 0 ∨ m = sp_n w (50 + 5 * q)) ∧ s.2 = nI m ∧ ∀ k, k < 32 → sp_bit s.1 k = decide (sp_n w (50 + 5 * q) ≤ k ∧ k < m)) (fun s hs => ?_) _ _ ⟨sp_n w (50 + 5 * q), Nat.le_refl _, by omega, Or.inr rfl, rfl, fun k hk => ?_⟩) (fun v hv => ?_)
  · obtain ⟨v, x⟩ := s
    obtain ⟨m, h1, h2, h3, ex, hb⟩ := hs
    have ex : x = nI m := ex
    subst ex
    have hb : ∀ k, k < 32 → sp_bit v k = decide (sp_n w (50 + 5 * q) ≤ k ∧ k < m) := hb
    show yp (BX9_windowOf_9 u (nI q) v (nI m)) _
    unfold BX9_windowOf_9
    refine yp_bd _ (ym_of hW hu hq 2 (by decide) rfl) (fun t ht => ?_)
    rw [ht, show w (49 + 2 + 5 * q) = nI (sp_n w (51 + 5 * q)) from b1, show sn_I u 0 22 = _ from h22]
    refine yp_ite (fun c => yp_some (yb_V fun k hk => ?_)) (fun c => yp_ite (fun c2 => yp_some (yb_V fun k hk => ?_)) (fun c2 => ?_))
    · have c := (nI_ltI (by omega) (by omega)).mp c
      rw [hb k hk]
      unfold yl_m yl_w
      rw [Bool.eq_iff_iff]
      simp only [Bool.and_eq_true, decide_eq_true_eq]
      omega
    · have c2 := (yi_last c0 (by omega)).mp c2
      rw [hb k hk]
      unfold yl_m yl_w
      rw [Bool.eq_iff_iff]
      simp only [Bool.and_eq_true, decide_eq_true_eq]
      have c := fun h => c ((nI_ltI (by omega) (by omega)).mpr h)
      omega
    · have c : ¬ sp_n w (51 + 5 * q) < m := fun h => c ((nI_ltI (by omega) (by omega)).mpr h)
      have c2 : ¬ sp_n w 0 ≤ m := fun h => c2 ((yi_last c0 (by omega)).mpr h)
      refine yp_lt (yp_lt (yp_some ⟨m + 1, by omega, by omega, Or.inl (by omega), nI_1 m, fun k hk => ?_⟩))
      show sp_bit (v ||| ((1 : Int32) <<< (nI m &&& 31))) k = _
      rw [yb_or1 _ (by omega) hk, hb k hk, Bool.eq_iff_iff]
      simp only [Bool.or_eq_true, decide_eq_true_eq]
      omega
  · show sp_bit 0 k = _
    rw [yb_z k hk, decide_eq_false (by omega)]
  · unfold BX9_windowOf_39
    exact yp_some hv
end
end
section
/-! claims, both sides -/
def yn_sum (f : Nat → Nat) : Nat → Nat
  | 0 => 0
  | n + 1 => yn_sum f n + f n
theorem yn_up {f g : Nat → Nat} {m a : Nat} (hm : g m = f m + a) (ho : ∀ k, k ≠ m → g k = f k) : ∀ n, yn_sum g n = yn_sum f n + if m < n then a else 0 := by
  intro n
  induction n with
  | zero => rfl
  | succ n ih =>
    show yn_sum g n + g n = yn_sum f n + f n + _
    rw [ih]
    by_cases e : m = n
    · subst e
      rw [hm, if_neg (by omega), if_pos (by omega)]
      omega
    · rw [ho n (by omega)]
      by_cases c : m < n
      · rw [if_pos c, if_pos (by omega)]; omega
      · rw [if_neg c, if_neg (by omega)]; omega
def yl_fst (x : Int32) : Nat → Int32
  | 0 => -1
  | n + 1 => if yl_fst x n = -1 ∧ sp_bit x n = true then nI n else yl_fst x n
theorem yl_ne {k : Nat} (h : k < 100) : nI k ≠ -1 := by
  intro e
  have h1 := nI_toInt (show k < 2 ^ 31 by omega)
  rw [e, show (-1 : Int32).toInt = -1 by decide] at h1
  omega
theorem yl_F0 (x : Int32) : ∀ n, n ≤ 32 → (yl_fst x n = -1 ∧ ∀ k, k < n → sp_bit x k = false) ∨ ∃ k, k < n ∧ sp_bit x k = true ∧ (∀ j, j < k → sp_bit x j = false) ∧ yl_fst x n = nI k := by
  intro n
  induction n with
  | zero => intro _; exact Or.inl ⟨rfl, fun k hk => absurd hk (by omega)⟩
  | succ n ih =>
    intro hn
    have e : yl_fst x (n + 1) = if yl_fst x n = -1 ∧ sp_bit x n = true then nI n else yl_fst x n := rfl
    rcases ih (by omega) with ⟨h1, h2⟩ | ⟨k, h1, h2, h3, h4⟩
    · cases c : sp_bit x n with
      | true => exact Or.inr ⟨n, by omega, c, h2, by rw [e, if_pos ⟨h1, c⟩]⟩
      | false =>
        refine Or.inl ⟨?_, fun k hk => ?_⟩
        · rw [e, if_neg (fun h => by rw [c] at h; exact absurd h.2 (by decide))]
          exact h1
        · by_cases g : k = n
          · rw [g]; exact c
          · exact h2 k (by omega)
    · refine Or.inr ⟨k, by omega, h2, h3, ?_⟩
      rw [e, if_neg (fun h => yl_ne (by omega) (h4.symm.trans h.1))]
      exact h4
theorem yl_F (x : Int32) : yb_F x 0 (yl_fst x 30) := by
  rcases yl_F0 x 30 (by decide) with ⟨h1, h2⟩ | ⟨k, h1, h2, h3, h4⟩
  · exact Or.inl ⟨h1, fun k _ hk => h2 k hk⟩
  · exact Or.inr ⟨k, Nat.zero_le _, h1, h2, fun j _ hj => h3 j hj, h4⟩
/-- one bit fewer -/
theorem yb_pop1 {x y : Int32} {m : Nat} (hm : sp_bit x m = true) (h : ∀ k, k < 32 → sp_bit y k = (sp_bit x k && !decide (k = m))) : ∀ n, n ≤ 32 → yb_pop y n + (if m < n then 1 else 0) = yb_pop x n := by
  intro n
  induction n with
  | zero => intro _; rfl
  | succ n ih =>
    intro hn
    have e := ih (by omega)
    show yb_pop y n + (if sp_bit y n = true then 1 else 0) + _ = yb_pop x n + (if sp_bit x n = true then 1 else 0)
    rw [h n (by omega), ← e]
    by_cases c : n = m
    · subst c
      rw [decide_eq_true rfl, hm, if_neg (by decide), if_pos (by omega), if_neg (by omega), if_pos rfl]
    · rw [decide_eq_false c, Bool.not_false, Bool.and_true]
      by_cases g : m < n
      · rw [if_pos g, if_pos (show m < n + 1 by omega)]; omega
      · rw [if_neg g, if_neg (show ¬ m < n + 1 by omega), Nat.add_zero, Nat.add_zero]
theorem yb_popge {x : Int32} {k : Nat} (h : sp_bit x k = true) : ∀ n, k < n → 1 ≤ yb_pop x n := by
  intro n
  induction n with
  | zero => intro g; exact absurd g (by omega)
  | succ n ih =>
    intro g
    show 1 ≤ yb_pop x n + (if sp_bit x n = true then 1 else 0)
    by_cases e : k = n
    · subst e
      rw [if_pos h]
      omega
    · have := ih (by omega)
      omega
def yl_A (r : Int32) : Int32 := ((1 : Int32) <<< (r &&& 31)) - 1
/-- the sneezes by which a policy pays, of those in s -/
def yl_C (w : Nat → Int32) (l : Int32) (q : Nat) (s : Int32) : Int32 := dy_set (fun k => sp_bit s k && yl_w w q k && (!decide (l = 1) || !sp_bit (hs_gust w (sp_n w 6)) k)) 32
/-- what one sneeze brings -/
def yl_a (w : Nat → Int32) (l : Int32) (q : Nat) (s h : Int32) : Nat := if l = 3 ∧ ¬ h &&& (yl_A (yl_fst (yl_C w l q s) 30) &&& dy_set (yl_w w q) 32) = 0 then sp_n w (52 + 5 * q) / 2 else sp_n w (52 + 5 * q)
def yl_v (w : Nat → Int32) (l : Int32) (q : Nat) (s h : Int32) : Nat := min (if l = 2 then 3 else 1) (yb_pop (yl_C w l q s) 30) * yl_a w l q s h
section
variable {σ τ u z : sn_S} {w : Nat → Int32} {q : Nat} {l s h : Int32}
theorem yl_Cb {k : Nat} (hk : k < 32) : sp_bit (yl_C w l q s) k = (sp_bit s k && yl_w w q k && (!decide (l = 1) || !sp_bit (hs_gust w (sp_n w 6)) k)) := yb_Vb hk
theorem yl_Cs {k M : Nat} (hs : ∀ k, M ≤ k → k < 32 → sp_bit s k = false) (h1 : M ≤ k) (hk : k < 32) : sp_bit (yl_C w l q s) k = false := by
  rw [yl_Cb hk, hs k h1 hk]
  rfl
theorem yc_gust (hW : jW w) (hH : yH 1 σ w) : yp (fX2_gustMinutes σ 1) (fun v => v = hs_gust w (sp_n w 6)) := by
  obtain ⟨g1, g2⟩ : yh_n w 6 5 := hW.1.2.2.2.2.2.2.1
  have e6 : sn_I σ (1 + 1) (6 : Int32).toNatClampNeg = nI (sp_n w 6) := (hH.1 6 (by decide)).trans g1
  unfold fX2_gustMinutes
  refine yp_bd (fun v => v = hs_gust w (sp_n w 6)) (yp_for (sp_n w 6) (fun n s => s.2 = nI n ∧ s.1 = hs_gust w n) (fun n s hn hs => ?_) (fun s hs => ?_) ⟨nI_0.symm, rfl⟩) (fun v hv => ?_)
  · obtain ⟨v, x⟩ := s
    obtain ⟨ex, ev⟩ := hs
    have ex : x = nI n := ex
    have ev : v = _ := ev
    subst ex
    subst ev
    have e1 : sn_I σ (1 + 3) ((2 : Int32) * nI n + (1 : Int32)).toNatClampNeg = nI (sp_n w (24 + 2 * n)) := by
      rw [yi_2, nI_1, nI_clamp (by omega)]
      exact (hH.2.2.1 (2 * n + 1) (by omega)).trans ((congrArg w (by omega)).trans (hW.2.2.2.2.1 n hn).2.1)
    show yp (BX2_gustMinutes_4 σ 1 _ (nI n)) _
    unfold BX2_gustMinutes_4
    rw [e6, if_neg (nI_ge hn (by omega)), e1]
    exact yp_gd (fun _ => yp_gd (fun _ => yp_lt (yp_lt (yp_some ⟨nI_1 n, rfl⟩))))
  · obtain ⟨v, x⟩ := s
    obtain ⟨ex, ev⟩ := hs
    have ex : x = nI (sp_n w 6) := ex
    subst ex
    show yp (BX2_gustMinutes_4 σ 1 v (nI (sp_n w 6))) _
    unfold BX2_gustMinutes_4
    rw [e6, if_pos (nI_le (Nat.le_refl _) (by omega))]
    exact yp_gd (fun _ => yp_some ev)
  · unfold BX2_gustMinutes_36
    exact yp_some hv
theorem yc_count (hW : jW w) (hH : yH 1 σ w) (hq : q < sp_n w 8) : yp (fX3_counting σ 1 l (nI q) s) (fun v => v = yl_C w l q s) := by
  unfold fX3_counting
  refine yp_bd _ (yc_win hW hH hq) (fun t ht => yp_lt ?_)
  rw [ht]
  refine yp_ite (fun c => yp_bd _ (yc_gust hW hH) (fun t2 ht2 => yp_some ?_)) (fun c => yp_some ?_)
  · rw [ht2]
    refine yb_V (fun k hk => ?_)
    rw [yb_and _ _ hk, yb_and _ _ hk, yb_Vb hk, yb_xor1 _ hk, decide_eq_true c]
    rfl
  · refine yb_V (fun k hk => ?_)
    rw [yb_and _ _ hk, yb_Vb hk, decide_eq_false c]
    exact (Bool.and_true _).symm
theorem yc_claim (hW : jW w) (hH : yH 1 σ w) (hq : q < sp_n w 8) (hs : ∀ k, sp_n w 0 ≤ k → k < 32 → sp_bit s k = false) : yp (fX3_claimBy σ 1 l (nI q) s h) (fun v => v = nI (yl_v w l q s h)) := by
  have c0 := (yl_0 hW).2
  obtain ⟨-, -, -, -, ⟨s1, s2⟩, -⟩ := yl_p hW hq
  have C30 : ∀ k, 30 ≤ k → k < 32 → sp_bit (yl_C w l q s) k = false := fun k h1 h2 => yl_Cs hs (by omega) h2
  unfold fX3_claimBy
  refine yp_bd _ (yc_count hW hH hq) (fun t1 h1 => yp_bd _ (yc_of hW hH hq 3 (by decide) rfl) (fun t3 h3 => ?_))
  rw [h1, h3, show w (49 + 3 + 5 * q) = nI (sp_n w (52 + 5 * q)) from s1]
  refine yp_ite (fun c => yp_some ?_) (fun c => ?_)
  · have : yb_pop (yl_C w l q s) 30 = 0 := by
      rw [c]
      exact yb_popz 30 (fun k hk => yb_z k (by omega))
    unfold yl_v
    rw [this, Nat.min_zero, Nat.zero_mul]
    exact nI_0.symm
  obtain ⟨k, k1, k2, k3⟩ := yb_ex c
  have k30 : k < 30 := by
    rcases Nat.lt_or_ge k 30 with g | g
    · exact g
    · rw [C30 k g k1] at k2; cases k2
  have pop1 := yb_popge k2 30 k30
  refine yp_ite (fun c2 => ?_) (fun c2 => ?_)
  · have ea : yl_a w l q s h = sp_n w (52 + 5 * q) := by
      unfold yl_a
      rw [if_neg (fun g => absurd (c2.symm.trans g.1) (by decide))]
    rw [yb_count, yb_pop30 C30]
    refine yp_bs rfl (yp_lt (yp_some ?_))
    unfold yl_v
    rw [ea, if_pos c2]
    have hp := yb_pople (yl_C w l q s) 30
    by_cases g : yb_pop (yl_C w l q s) 30 < 3
    · rw [if_pos (show nI (yb_pop (yl_C w l q s) 30) < (3 : Int32) from nI_lt (b := 3) g (by decide)), nI_mul, Nat.min_eq_right (by omega), Nat.mul_comm]
    · rw [if_neg (show ¬ nI (yb_pop (yl_C w l q s) 30) < (3 : Int32) from nI_nlt (b := 3) (by omega) (by omega)), show nI (sp_n w (52 + 5 * q)) * (3 : Int32) = nI (sp_n w (52 + 5 * q) * 3) from nI_mul _ 3, Nat.min_eq_left (by omega), Nat.mul_comm]
  · refine yp_bd _ (yb_lowest C30) (fun t7 h7 => ?_)
    have e7 : t7 = yl_fst (yl_C w l q s) 30 := yb_F1 h7 (yl_F _)
    unfold fX8_firstMinutes
    refine yp_bs rfl (yp_bd _ (yc_win hW hH hq) (fun t11 h11 => yp_lt ?_))
    rw [h11, e7]
    have ev : yl_v w l q s h = yl_a w l q s h := by
      unfold yl_v
      rw [if_neg c2, Nat.min_eq_left pop1, Nat.one_mul]
    rw [ev]
    refine yp_ite (fun c3 => yp_ite (fun c4 => yp_some ?_) (fun c4 => yp_some ?_)) (fun c3 => yp_some ?_)
    · unfold yl_a
      rw [if_neg (fun g => g.2 c4)]
    · unfold yl_a
      rw [if_pos ⟨c3, c4⟩]
      exact yi_d2 (by omega)
    · unfold yl_a
      rw [if_neg (fun g => c3 g.1)]
/-! the reference's claim -/
def yl_fr (u z : sn_S) : Prop := (∀ a, a ≠ 0 → a ≠ 16 → z.1 a = u.1 a) ∧ ∀ k, k ≠ 30 → z.1 0 k = u.1 0 k
theorem yl_frt {v : sn_S} (h : yl_fr u z) (g : yl_fr z v) : yl_fr u v := ⟨fun a h0 h1 => (g.1 a h0 h1).trans (h.1 a h0 h1), fun k h0 => (g.2 k h0).trans (h.2 k h0)⟩
def yX (u : sn_S) (w : Nat → Int32) (l : Int32) (S H : Nat → Int32) : Prop := u.1 1 = w ∧ (∀ p, p < sp_n w 5 → u.1 10 p = S p ∧ u.1 8 p = H p) ∧ u.1 0 18 = hs_gust w (sp_n w 6) ∧ u.1 0 20 = l ∧ u.1 0 22 = nI (sp_n w 0) - 1
theorem yX_fr {S H : Nat → Int32} (h : yl_fr u z) (g : yX u w l S H) : yX z w l S H :=
  ⟨(h.1 1 (by decide) (by decide)).trans g.1, fun p hp => ⟨(congrFun (h.1 10 (by decide) (by decide)) p).trans (g.2.1 p hp).1, (congrFun (h.1 8 (by decide) (by decide)) p).trans (g.2.1 p hp).2⟩, (h.2 18 (by decide)).trans g.2.2.1, (h.2 20 (by decide)).trans g.2.2.2.1, (h.2 22 (by decide)).trans g.2.2.2.2⟩
/-- what is paid by minutes: v more in the first M minutes -/
def yl_pd (M : Nat) (x : Int32) (u z : sn_S) (v : Nat) : Prop := x ≠ 0 → ∀ c : Nat → Nat, (∀ m, m < 30 → u.1 16 m = nI (c m)) → ∃ c' : Nat → Nat, (∀ m, m < 30 → z.1 16 m = nI (c' m)) ∧ yn_sum c' M = yn_sum c M + v
theorem yl_half {M m : Nat} (hw : ∀ k, k < 32 → yl_m w q k = (yl_w w q k && decide (k < M))) (hm : m < M) (hM : M ≤ 30) : (h &&& dy_set (yl_m w q) 32) &&& yl_A (nI m) = h &&& (yl_A (nI m) &&& dy_set (yl_w w q) 32) := by
  refine yb_ext (fun k hk => ?_)
  have e : sp_bit (yl_A (nI m)) k = decide (k < m) := yb_low m (by omega) k hk
  rw [yb_and _ _ hk, yb_and _ _ hk, yb_and _ _ hk, yb_and _ _ hk, yb_Vb hk, yb_Vb hk, e, hw k hk]
  by_cases g : k < m
  · rw [decide_eq_true g, decide_eq_true (show k < M by omega), Bool.and_true, Bool.and_true, Bool.true_and]
  · rw [decide_eq_false g, Bool.and_false, Bool.false_and, Bool.and_false]
def yl_I (w : Nat → Int32) (l : Int32) (q : Nat) (s h x : Int32) (u : sn_S) (t : sn_S × Int32 × Int32 × Int32) : Prop := ∃ n, n ≤ (if l = 2 then 3 else 1) ∧ t.2.2.2 = nI n ∧ yl_fr u t.1 ∧ t.1.1 0 30 = yl_fst (yl_C w l q s) 30 ∧ t.2.2.1 = nI (n * yl_a w l q s h) ∧ (∀ k, k < 32 → sp_bit t.2.1 k = true → sp_bit (yl_C w l q s) k = true) ∧ (n = 0 → t.2.1 = yl_C w l q s) ∧ yb_pop t.2.1 30 + n = yb_pop (yl_C w l q s) 30 ∧ yl_pd (sp_n w 0) x u t.1 (n * yl_a w l q s h)
theorem ym_claimI {S H : Nat → Int32} {x : Int32} {p : Nat} (hW : jW w) (hq : q < sp_n w 8) (hp : p < sp_n w 5) (hX : yX u w l S H) (hs : ∀ k, sp_n w 0 ≤ k → k < 32 → sp_bit (S p) k = false) (t : sn_S × Int32 × Int32 × Int32) (ht : yl_I w l q (S p) (H p) x u t) : yp (LX9_claimOf_63 (nI q) (nI p) x (nI (if l = 2 then 3 else 1)) t) (yp_sum (yl_I w l q (S p) (H p) x u) (fun r => yl_fr u r.1 ∧ r.1.1 0 30 = yl_fst (yl_C w l q (S p)) 30 ∧ r.2 = nI (yl_v w l q (S p) (H p)) ∧ yl_pd (sp_n w 0) x u r.1 (yl_v w l q (S p) (H p)))) := by
  have c0 := (yl_0 hW).2
  have c5 := (yl_5 hW).2
  obtain ⟨-, -, -, -, ⟨s1, s2⟩, -⟩ := yl_p hW hq
  obtain ⟨z, st, sm, x7⟩ := t
  obtain ⟨n, hn, ex, hf, h30, em, hb, h0, hpop, hpd⟩ := ht
  have ex : x7 = nI n := ex
  subst ex
  have em : sm = nI (n * yl_a w l q (S p) (H p)) := em
  have hf : yl_fr u z := hf
  have h30 : z.1 0 30 = yl_fst (yl_C w l q (S p)) 30 := h30
  have hb : ∀ k, k < 32 → sp_bit st k = true → sp_bit (yl_C w l q (S p)) k = true := hb
  have h0 : n = 0 → st = yl_C w l q (S p) := h0
  have hpop : yb_pop st 30 + n = yb_pop (yl_C w l q (S p)) 30 := hpop
  have hpd : yl_pd (sp_n w 0) x u z (n * yl_a w l q (S p) (H p)) := hpd
  have hZ := yX_fr hf hX
  have m3 : (if l = 2 then 3 else 1) ≤ 3 := by by_cases c : l = 2 <;> simp [c]
  have stM : ∀ k, sp_n w 0 ≤ k → k < 32 → sp_bit st k = false := fun k h1 h2 => by
    cases g : sp_bit st k with
    | false => rfl
    | true =>
      have := hb k h2 g
      rw [yl_Cs hs h1 h2] at this
      cases this
  show yp (BX9_claimOf_63 z (nI q) (nI p) x st sm (nI (if l = 2 then 3 else 1)) (nI n)) _
  unfold BX9_claimOf_63
  have ends : n = min (if l = 2 then 3 else 1) (yb_pop (yl_C w l q (S p)) 30) → yp (some (Sum.inr (z, sm)) : Option ((sn_S × Int32 × Int32 × Int32) ⊕ (sn_S × Int32))) (yp_sum (yl_I w l q (S p) (H p) x u) (fun r => yl_fr u r.1 ∧ r.1.1 0 30 = yl_fst (yl_C w l q (S p)) 30 ∧ r.2 = nI (yl_v w l q (S p) (H p)) ∧ yl_pd (sp_n w 0) x u r.1 (yl_v w l q (S p) (H p)))) := fun e => by
    have ev : yl_v w l q (S p) (H p) = n * yl_a w l q (S p) (H p) := by
      unfold yl_v
      rw [← e]
    refine yp_some ⟨hf, h30, ?_, ?_⟩
    · rw [ev]; exact em
    · rw [ev]; exact hpd
  refine yp_ite (fun c => ?_) (fun c => yp_ite (fun c2 => ?_) (fun c2 => ?_))
  · have c := (nI_leI (by omega) (by omega)).mp c
    exact ends (by rw [Nat.min_eq_left (by omega)]; omega)
  · have e : yb_pop st 30 = 0 := by
      rw [c2]
      exact yb_popz 30 (fun k hk => yb_z k (by omega))
    exact ends (by rw [Nat.min_eq_right (by omega)]; omega)
  have c : ¬ (if l = 2 then 3 else 1) ≤ n := fun g => c ((nI_leI (by omega) (by omega)).mpr g)
  refine yp_bd _ (yb_firstOf st) (fun r hr => ?_)
  have hm : ∃ m, m < sp_n w 0 ∧ sp_bit st m = true ∧ r = nI m := by
    rcases hr with ⟨-, g⟩ | ⟨m, -, m1, m2, -, m4⟩
    · obtain ⟨k, k1, k2, -⟩ := yb_ex c2
      rcases Nat.lt_or_ge k 30 with g2 | g2
      · rw [g k (Nat.zero_le _) g2] at k2; cases k2
      · rw [stM k (by omega) k1] at k2; cases k2
    · refine ⟨m, ?_, m2, m4⟩
      rcases Nat.lt_or_ge m (sp_n w 0) with g | g
      · exact g
      · rw [stM m g (by omega)] at m2; cases m2
  obtain ⟨m, m1, m2, m4⟩ := hm
  have hr0 : n = 0 → nI m = yl_fst (yl_C w l q (S p)) 30 := fun e => by
    rw [← m4]
    rw [h0 e] at hr
    exact yb_F1 hr (yl_F _)
  rw [m4]
  refine yp_lt ?_
  generalize hy : st &&& (((1 : Int32) <<< (nI m &&& 31)) ^^^ (-1 : Int32)) = y
  have yb : ∀ k, k < 32 → sp_bit y k = (sp_bit st k && !decide (k = m)) := fun k hk => by
    rw [← hy, yb_and _ _ hk, yb_xor1 _ hk, yb_1k (by omega) hk]
  have ypop := yb_pop1 m2 yb 30 (by decide)
  rw [if_pos (show m < 30 by omega)] at ypop
  have k152 : yp (BX9_claimOf_152 z (nI q) (nI p) x y sm (nI (if l = 2 then 3 else 1)) (nI n) (nI m) (nI (yl_a w l q (S p) (H p)))) (yp_sum (yl_I w l q (S p) (H p) x u) (fun r => yl_fr u r.1 ∧ r.1.1 0 30 = yl_fst (yl_C w l q (S p)) 30 ∧ r.2 = nI (yl_v w l q (S p) (H p)) ∧ yl_pd (sp_n w 0) x u r.1 (yl_v w l q (S p) (H p)))) := by
    have es : sm + nI (yl_a w l q (S p) (H p)) = nI ((n + 1) * yl_a w l q (S p) (H p)) := by
      rw [em, nI_add, Nat.succ_mul]
    have hb2 : ∀ k, k < 32 → sp_bit y k = true → sp_bit (yl_C w l q (S p)) k = true := fun k hk g => by
      rw [yb k hk] at g
      exact hb k hk (Bool.and_eq_true _ _ ▸ g).1
    unfold BX9_claimOf_152 BX9_claimOf_177
    refine yp_lt (yp_ite (fun g => yp_lt (yp_some ⟨n + 1, by omega, nI_1 n, hf, h30, es, hb2, fun e => absurd e (by omega), ?_, fun g2 => absurd g g2⟩)) (fun g => yp_gd (fun _ => yp_gd (fun _ => yp_lt (yp_lt (yp_some ⟨n + 1, by omega, nI_1 n, ?_, ?_, es, hb2, fun e => absurd e (by omega), ?_, ?_⟩))))))
    · show yb_pop y 30 + (n + 1) = _
      omega
    · exact yl_frt hf ⟨fun a h1 h2 => pI_ne h2, fun k _ => congrFun (pI_ne (by decide)) k⟩
    · exact (congrFun (pI_ne (by decide)) 30).trans h30
    · show yb_pop y 30 + (n + 1) = _
      omega
    · intro g2 cc hcc
      obtain ⟨c', hc1, hc2⟩ := hpd g2 cc hcc
      refine ⟨fun k => if k = m then c' k + yl_a w l q (S p) (H p) else c' k, fun k hk => ?_, ?_⟩
      · rw [nI_clamp (show m < 2 ^ 31 by omega)]
        by_cases e : k = m
        · subst e
          show (sn_pI z 16 k (sn_I z 16 k + nI (yl_a w l q (S p) (H p)))).1 16 k = nI (if k = k then c' k + yl_a w l q (S p) (H p) else c' k)
          rw [if_pos rfl, pI_self, show sn_I z 16 k = _ from hc1 k hk]
          exact nI_add _ _
        · show (sn_pI z 16 m (sn_I z 16 m + nI (yl_a w l q (S p) (H p)))).1 16 k = nI (if k = m then c' k + yl_a w l q (S p) (H p) else c' k)
          rw [if_neg e, pI_slot e]
          exact hc1 k hk
      · rw [yn_up (f := c') (m := m) (a := yl_a w l q (S p) (H p)) (by rw [if_pos rfl]) (fun k hk => by rw [if_neg hk]), if_pos m1, hc2, Nat.succ_mul]
        omega
  have k127 : yl_a w l q (S p) (H p) = sp_n w (52 + 5 * q) → yp (BX9_claimOf_127 z (nI q) (nI p) x y sm (nI (if l = 2 then 3 else 1)) (nI n) (nI m)) (yp_sum (yl_I w l q (S p) (H p) x u) (fun r => yl_fr u r.1 ∧ r.1.1 0 30 = yl_fst (yl_C w l q (S p)) 30 ∧ r.2 = nI (yl_v w l q (S p) (H p)) ∧ yl_pd (sp_n w 0) x u r.1 (yl_v w l q (S p) (H p)))) := fun e => by
    unfold BX9_claimOf_127 BX9_claimOf_128
    rw [if_pos rfl]
    refine yp_bd _ (ym_of hW hZ.1 hq 3 (by decide) rfl) (fun t ht => ?_)
    rw [ht, show w (49 + 3 + 5 * q) = nI (sp_n w (52 + 5 * q)) from s1, ← e]
    exact k152
  rw [show sn_I z 0 20 = _ from hZ.2.2.2.1]
  refine yp_ite (fun c3 => yp_gd (fun _ => yp_bd _ (ym_win hW hZ.1 hZ.2.2.2.2 hq) (fun t9 h9 => ?_))) (fun c3 => k127 (by unfold yl_a; rw [if_neg (fun g => c3 g.1)]))
  have c1 : (if l = 2 then 3 else 1) = 1 := by rw [if_neg (fun g => absurd (c3.symm.trans g) (by decide))]
  have n0 : n = 0 := by omega
  have eh : (H p &&& dy_set (yl_m w q) 32) &&& yl_A (nI m) = H p &&& (yl_A (yl_fst (yl_C w l q (S p)) 30) &&& dy_set (yl_w w q) 32) := by
    rw [← hr0 n0]
    exact yl_half (M := sp_n w 0) (fun k _ => rfl) m1 c0
  unfold fX9_ahead
  refine yp_bs rfl ?_
  rw [h9, nI_clamp (show p < 2 ^ 31 by omega), show sn_I z 8 p = _ from (hZ.2.1 p hp).2, show ((1 : Int32) <<< (nI m &&& 31)) - (1 : Int32) = yl_A (nI m) from rfl, eh]
  refine yp_ite (fun c4 => k127 (by unfold yl_a; rw [if_neg (fun g => g.2 c4)])) (fun c4 => ?_)
  unfold BX9_claimOf_128
  rw [if_neg (by decide)]
  refine yp_bd _ (ym_of hW hZ.1 hq 3 (by decide) rfl) (fun t ht => ?_)
  have e : yl_a w l q (S p) (H p) = sp_n w (52 + 5 * q) / 2 := by
    unfold yl_a
    rw [if_pos ⟨c3, c4⟩]
  rw [ht, show w (49 + 3 + 5 * q) = nI (sp_n w (52 + 5 * q)) from s1, yi_d2 (by omega), ← e]
  exact k152
theorem ym_claim {S H : Nat → Int32} {x : Int32} {p : Nat} (hW : jW w) (hq : q < sp_n w 8) (hp : p < sp_n w 5) (hX : yX u w l S H) (hs : ∀ k, sp_n w 0 ≤ k → k < 32 → sp_bit (S p) k = false) : yp (fX9_claimOf u (nI q) (nI p) x) (fun r => yl_fr u r.2 ∧ r.2.1 0 30 = yl_fst (yl_C w l q (S p)) 30 ∧ r.1 = nI (yl_v w l q (S p) (H p)) ∧ yl_pd (sp_n w 0) x u r.2 (yl_v w l q (S p) (H p))) := by
  have c0 := (yl_0 hW).2
  have c5 := (yl_5 hW).2
  have k58 : ∀ (z : sn_S), yl_fr u z → z.1 16 = u.1 16 → z.1 0 30 = yl_fst (yl_C w l q (S p)) 30 → yp (BX9_claimOf_58 z (nI q) (nI p) x (yl_C w l q (S p)) (0 : Int32) (nI (if l = 2 then 3 else 1))) (fun r => yl_fr u r.2 ∧ r.2.1 0 30 = yl_fst (yl_C w l q (S p)) 30 ∧ r.1 = nI (yl_v w l q (S p) (H p)) ∧ yl_pd (sp_n w 0) x u r.2 (yl_v w l q (S p) (H p))) := fun z hf h16 h30 => by
    unfold BX9_claimOf_58
    refine yp_bd _ (yp_it (yl_I w l q (S p) (H p) x u) (ym_claimI hW hq hp hX hs) _ _ ⟨0, Nat.zero_le _, nI_0.symm, hf, h30, ?_, fun _ _ g => g, fun _ => rfl, rfl, fun _ cc hcc => ⟨cc, fun m hm => ?_, ?_⟩⟩) (fun r hr => ?_)
    · rw [Nat.zero_mul]; exact nI_0.symm
    · rw [show (z, yl_C w l q (S p), (0 : Int32), (0 : Int32)).1 = z from rfl, h16]
      exact hcc m hm
    · rw [Nat.zero_mul]; rfl
    · unfold BX9_claimOf_183
      exact yp_some hr
  have k33 : yp (BX9_claimOf_33 u (nI q) (nI p) x (yl_C w l q (S p))) (fun r => yl_fr u r.2 ∧ r.2.1 0 30 = yl_fst (yl_C w l q (S p)) 30 ∧ r.1 = nI (yl_v w l q (S p) (H p)) ∧ yl_pd (sp_n w 0) x u r.2 (yl_v w l q (S p) (H p))) := by
    unfold BX9_claimOf_33
    refine yp_bd _ (yb_firstOf _) (fun r hr => yp_lt ?_)
    have er : r = yl_fst (yl_C w l q (S p)) 30 := yb_F1 hr (yl_F _)
    have g := k58 (sn_pI u 0 30 r) ⟨fun a h0 h1 => pI_ne h0, fun k h0 => pI_slot h0⟩ (pI_ne (by decide)) (pI_self.trans er)
    rw [show sn_I (sn_pI u 0 30 r) 0 20 = l from (pI_slot (by decide)).trans hX.2.2.2.1]
    refine yp_ite (fun c => ?_) (fun c => ?_)
    · rw [if_pos c] at g; exact g
    · rw [if_neg c] at g; exact g
  unfold fX9_claimOf
  refine yp_gd (fun _ => yp_bd _ (ym_win hW hX.1 hX.2.2.2.2 hq) (fun t ht => yp_lt ?_))
  rw [ht, nI_clamp (show p < 2 ^ 31 by omega), show sn_I u 10 p = _ from (hX.2.1 p hp).1, show sn_I u 0 20 = _ from hX.2.2.2.1, show sn_I u 0 18 = _ from hX.2.2.1]
  have em : ∀ k, k < 32 → (sp_bit (S p) k && yl_m w q k) = (sp_bit (S p) k && yl_w w q k) := fun k hk => by
    unfold yl_m
    by_cases g : k < sp_n w 0
    · rw [decide_eq_true g, Bool.and_true]
    · rw [hs k (by omega) hk]; rfl
  refine yp_ite (fun c => yp_lt ?_) (fun c => ?_)
  · have e : (S p &&& dy_set (yl_m w q) 32) &&& (hs_gust w (sp_n w 6) ^^^ (-1 : Int32)) = yl_C w l q (S p) := yb_V (fun k hk => by
      rw [yb_and _ _ hk, yb_and _ _ hk, yb_Vb hk, yb_xor1 _ hk, em k hk, decide_eq_true c]
      rfl)
    rw [e]
    exact k33
  · have e : S p &&& dy_set (yl_m w q) 32 = yl_C w l q (S p) := yb_V (fun k hk => by
      rw [yb_and _ _ hk, yb_Vb hk, em k hk, decide_eq_false c]
      exact (Bool.and_true _).symm)
    rw [e]
    exact k33
end
end
section
/-! the ledger, both sides -/
def yHh (w : Nat → Int32) : Nat → Int32 := fun p => hs_acts w 0 p (sp_n w 9)
def yl_y (w : Nat → Int32) (q : Nat) : Nat := sp_n w (53 + 5 * q)
section
variable {σ τ u z : sn_S} {w : Nat → Int32} {q : Nat} {l : Int32}
/-! calls that change the ledger -/
theorem yr_eq2 {X Y : Option (Int32 × sn_S)} (v : Int32) (hx : yp X (fun r => r.1 = v)) (hy : yp Y (fun s => s.1 = v)) : yr X Y (fun r s => r.1 = s.1) := yr_of hx hy (fun _ _ a b => a.trans b.symm)
end
end
section
/-! a day that is not: copied, changed, lived -/
theorem yp_le {α β : Type} {P : α → Prop} {v : β} {g : β → Option α} (h : ∀ y, y = v → yp (g y) P) : yp (sn_lt v g) P := h v rfl
theorem yc_dcopy {σ : sn_S} {a b : Nat} (hd : b + 10 < a) : yp (fX0_copyFrom σ a b) (fun z => (∀ q, (q < a ∨ a + 10 < q) → z.1 q = σ.1 q) ∧ (∀ k, k < 4 → z.1 a k = σ.1 b k) ∧ (∀ k, k < 30 → z.1 (a + 1) k = σ.1 (b + 1) k) ∧ (∀ k, k < 6 → z.1 (a + 2) k = σ.1 (b + 2) k) ∧ (∀ k, k < 6 → z.1 (a + 3) k = σ.1 (b + 3) k) ∧ (∀ k, k < 6 → z.1 (a + 4) k = σ.1 (b + 4) k) ∧ (∀ k, k < 6 → z.1 (a + 5) k = σ.1 (b + 5) k) ∧ (∀ k, k < 16 → z.1 (a + 6) k = σ.1 (b + 6) k) ∧ (∀ k, k < 180 → z.1 (a + 7) k = σ.1 (b + 7) k) ∧ (∀ k, k < 180 → z.1 (a + 8) k = σ.1 (b + 8) k) ∧ (∀ k, k < 30 → z.1 (a + 9) k = σ.1 (b + 9) k) ∧ (∀ k, k < 6 → z.1 (a + 10) k = σ.1 (b + 10) k)) := by
  unfold fX0_copyFrom
  refine yp_le (fun y1 e1 => yp_le (fun y2 e2 => yp_le (fun y3 e3 => yp_le (fun z0 e4 => ?_))))
  have hb : b ≠ a := by omega
  have r1 : ∀ q, q ≠ a → y1.1 q = σ.1 q := fun q hq => by rw [e1, pI_ne hq]
  have r2 : ∀ q, q ≠ a → y2.1 q = σ.1 q := fun q hq => by rw [e2, pI_ne hq, r1 q hq]
  have r3 : ∀ q, q ≠ a → y3.1 q = σ.1 q := fun q hq => by rw [e3, pI_ne hq, r2 q hq]
  have r0 : ∀ q, q ≠ a → z0.1 q = σ.1 q := fun q hq => by rw [e4, pI_ne hq, r3 q hq]
  have c0 : ∀ k, k < 4 → z0.1 a k = σ.1 b k := fun k hk => by
    match k, hk with
    | 0, _ => rw [e4, pI_slot (by decide), e3, pI_slot (by decide), e2, pI_slot (by decide), e1, pI_self]; rfl
    | 1, _ => rw [e4, pI_slot (by decide), e3, pI_slot (by decide), e2, pI_self]; exact congrFun (r1 b hb) 1
    | 2, _ => rw [e4, pI_slot (by decide), e3, pI_self]; exact congrFun (r2 b hb) 2
    | 3, _ => rw [e4, pI_self]; exact congrFun (r3 b hb) 3
  refine yp_gd (fun _ => yp_le (fun z1 h1 => ?_))
  obtain ⟨p1, q1⟩ := yc_cpy (z := z0) (a := a + 1) (b := b + 1) (L := 30) (by decide)
  rw [← h1] at p1 q1
  refine yp_gd (fun _ => yp_le (fun z2 h2 => ?_))
  obtain ⟨p2, q2⟩ := yc_cpy (z := z1) (a := a + 2) (b := b + 2) (L := 6) (by decide)
  rw [← h2] at p2 q2
  refine yp_gd (fun _ => yp_le (fun z3 h3 => ?_))
  obtain ⟨p3, q3⟩ := yc_cpy (z := z2) (a := a + 3) (b := b + 3) (L := 6) (by decide)
  rw [← h3] at p3 q3
  refine yp_gd (fun _ => yp_le (fun z4 h4 => ?_))
  obtain ⟨p4, q4⟩ := yc_cpy (z := z3) (a := a + 4) (b := b + 4) (L := 6) (by decide)
  rw [← h4] at p4 q4
  refine yp_gd (fun _ => yp_le (fun z5 h5 => ?_))
  obtain ⟨p5, q5⟩ := yc_cpy (z := z4) (a := a + 5) (b := b + 5) (L := 6) (by decide)
  rw [← h5] at p5 q5
  refine yp_gd (fun _ => yp_le (fun z6 h6 => ?_))
  obtain ⟨p6, q6⟩ := yc_cpy (z := z5) (a := a + 6) (b := b + 6) (L := 16) (by decide)
  rw [← h6] at p6 q6
  refine yp_gd (fun _ => yp_le (fun z7 h7 => ?_))
  obtain ⟨p7, q7⟩ := yc_cpy (z := z6) (a := a + 7) (b := b + 7) (L := 180) (by decide)
  rw [← h7] at p7 q7
  refine yp_gd (fun _ => yp_le (fun z8 h8 => ?_))
  obtain ⟨p8, q8⟩ := yc_cpy (z := z7) (a := a + 8) (b := b + 8) (L := 180) (by decide)
  rw [← h8] at p8 q8
  refine yp_gd (fun _ => yp_le (fun z9 h9 => ?_))
  obtain ⟨p9, q9⟩ := yc_cpy (z := z8) (a := a + 9) (b := b + 9) (L := 30) (by decide)
  rw [← h9] at p9 q9
  refine yp_gd (fun _ => yp_le (fun z10 h10 => ?_))
  obtain ⟨p10, q10⟩ := yc_cpy (z := z9) (a := a + 10) (b := b + 10) (L := 6) (by decide)
  rw [← h10] at p10 q10
  refine yp_some ⟨fun q hq => ?_, fun k hk => ?_, fun k hk => ?_, fun k hk => ?_, fun k hk => ?_, fun k hk => ?_, fun k hk => ?_, fun k hk => ?_, fun k hk => ?_, fun k hk => ?_, fun k hk => ?_, fun k hk => ?_⟩
  · rw [p10 q (by omega), p9 q (by omega), p8 q (by omega), p7 q (by omega), p6 q (by omega), p5 q (by omega), p4 q (by omega), p3 q (by omega), p2 q (by omega), p1 q (by omega), r0 q (by omega)]
  · rw [p10 a (by omega), p9 a (by omega), p8 a (by omega), p7 a (by omega), p6 a (by omega), p5 a (by omega), p4 a (by omega), p3 a (by omega), p2 a (by omega), p1 a (by omega), c0 k hk]
  · rw [p10 (a + 1) (by omega), p9 (a + 1) (by omega), p8 (a + 1) (by omega), p7 (a + 1) (by omega), p6 (a + 1) (by omega), p5 (a + 1) (by omega), p4 (a + 1) (by omega), p3 (a + 1) (by omega), p2 (a + 1) (by omega), q1 k, if_pos hk, r0 (b + 1) (by omega)]
  · rw [p10 (a + 2) (by omega), p9 (a + 2) (by omega), p8 (a + 2) (by omega), p7 (a + 2) (by omega), p6 (a + 2) (by omega), p5 (a + 2) (by omega), p4 (a + 2) (by omega), p3 (a + 2) (by omega), q2 k, if_pos hk, p1 (b + 2) (by omega), r0 (b + 2) (by omega)]
  · rw [p10 (a + 3) (by omega), p9 (a + 3) (by omega), p8 (a + 3) (by omega), p7 (a + 3) (by omega), p6 (a + 3) (by omega), p5 (a + 3) (by omega), p4 (a + 3) (by omega), q3 k, if_pos hk, p2 (b + 3) (by omega), p1 (b + 3) (by omega), r0 (b + 3) (by omega)]
  · rw [p10 (a + 4) (by omega), p9 (a + 4) (by omega), p8 (a + 4) (by omega), p7 (a + 4) (by omega), p6 (a + 4) (by omega), p5 (a + 4) (by omega), q4 k, if_pos hk, p3 (b + 4) (by omega), p2 (b + 4) (by omega), p1 (b + 4) (by omega), r0 (b + 4) (by omega)]
  · rw [p10 (a + 5) (by omega), p9 (a + 5) (by omega), p8 (a + 5) (by omega), p7 (a + 5) (by omega), p6 (a + 5) (by omega), q5 k, if_pos hk, p4 (b + 5) (by omega), p3 (b + 5) (by omega), p2 (b + 5) (by omega), p1 (b + 5) (by omega), r0 (b + 5) (by omega)]
  · rw [p10 (a + 6) (by omega), p9 (a + 6) (by omega), p8 (a + 6) (by omega), p7 (a + 6) (by omega), q6 k, if_pos hk, p5 (b + 6) (by omega), p4 (b + 6) (by omega), p3 (b + 6) (by omega), p2 (b + 6) (by omega), p1 (b + 6) (by omega), r0 (b + 6) (by omega)]
  · rw [p10 (a + 7) (by omega), p9 (a + 7) (by omega), p8 (a + 7) (by omega), q7 k, if_pos hk, p6 (b + 7) (by omega), p5 (b + 7) (by omega), p4 (b + 7) (by omega), p3 (b + 7) (by omega), p2 (b + 7) (by omega), p1 (b + 7) (by omega), r0 (b + 7) (by omega)]
  · rw [p10 (a + 8) (by omega), p9 (a + 8) (by omega), q8 k, if_pos hk, p7 (b + 8) (by omega), p6 (b + 8) (by omega), p5 (b + 8) (by omega), p4 (b + 8) (by omega), p3 (b + 8) (by omega), p2 (b + 8) (by omega), p1 (b + 8) (by omega), r0 (b + 8) (by omega)]
  · rw [p10 (a + 9) (by omega), q9 k, if_pos hk, p8 (b + 9) (by omega), p7 (b + 9) (by omega), p6 (b + 9) (by omega), p5 (b + 9) (by omega), p4 (b + 9) (by omega), p3 (b + 9) (by omega), p2 (b + 9) (by omega), p1 (b + 9) (by omega), r0 (b + 9) (by omega)]
  · rw [q10 k, if_pos hk, p9 (b + 10) (by omega), p8 (b + 10) (by omega), p7 (b + 10) (by omega), p6 (b + 10) (by omega), p5 (b + 10) (by omega), p4 (b + 10) (by omega), p3 (b + 10) (by omega), p2 (b + 10) (by omega), p1 (b + 10) (by omega), r0 (b + 10) (by omega)]
def dy_dustSet (i : dy_I) (f : Nat → Int32) : dy_I := (dy_P i, dy_keen i, dy_lim i, dy_held i, dy_snuf i, f, dy_na i, dy_nb i, dy_nN i, dy_no i)
section
variable {σ τ u z : sn_S} {w : Nat → Int32}
/-- the trial is told what the day was, and lived as it was -/
theorem yc_trial {a : Nat} (hW : jW w) (hD : yD σ w) (ha : 37 < a) : yp (fX0_copyFrom σ a 27) (fun z => (∀ q, (q < a ∨ a + 10 < q) → z.1 q = σ.1 q) ∧ z.1 a 0 = nI (sp_n w 0) ∧ yd_T a z (hs_day w) ∧ yd_L a z (hs_day w) (sp_n w 0)) := by
  have c5 := (yl_5 hW).2
  have c0 := (yl_0 hW).2
  have c7 := hW.1.2.2.2.2.2.2.2.1.2
  obtain ⟨d0, ⟨t1, t2, t3, t4, t5, t6⟩, l1, l2⟩ := hD
  refine yp_w (yc_dcopy (by omega)) (fun z hz => ?_)
  obtain ⟨hr, h0, h1, h2, h3, h4, h5, h6, h7, h8, h9, h10⟩ := hz
  refine ⟨hr, (h0 0 (by decide)).trans d0, ⟨(h0 1 (by decide)).trans t1, (h0 2 (by decide)).trans t2, (h0 3 (by decide)).trans t3, fun m hm => (h1 m hm).trans (t4 m hm), fun p hp => ?_, fun k hk => ?_⟩, fun m hm => ⟨(h9 m (by omega)).trans (l1 m hm).1, fun p hp => ?_⟩, fun p hp => ?_⟩
  · have g := t5 p hp
    have hp : p < sp_n w 5 := hp
    exact ⟨(h2 p (by omega)).trans g.1, (h3 p (by omega)).trans g.2.1, (h4 p (by omega)).trans g.2.2.1, (h5 p (by omega)).trans g.2.2.2⟩
  · have g := t6 k hk
    have hk : k < sp_n w 7 := hk
    exact ⟨(h6 _ (by omega)).trans g.1, (h6 _ (by omega)).trans g.2⟩
  · have g := (l1 m hm).2 p hp
    have hp : p < sp_n w 5 := hp
    exact ⟨(h7 _ (by omega)).trans g.1, (h8 _ (by omega)).trans g.2⟩
  · have g := l2 p hp
    have hp : p < sp_n w 5 := hp
    exact (h10 p (by omega)).trans g
/-! nets cut -/
end
end
section
/-! days alike in their first n minutes -/
section
variable {n : Nat} {i j : dy_I}
end
/-! snuff by which a claim grows -/
section
variable {σ τ u z : sn_S} {w : Nat → Int32} {q : Nat} {l : Int32}
def yf_who (w : Nat → Int32) (q : Nat) : Nat := sp_n w (49 + 5 * q)
/-! the reference's -/
theorem ym_claimS {S H : Nat → Int32} (hW : jW w) (hq : q < sp_n w 8) (hX : yX u w l S H) (hs : ∀ k, sp_n w 0 ≤ k → k < 32 → sp_bit (S (yf_who w q)) k = false) : yp (fX9_claimOf_ u (nI q)) (fun r => yl_fr u r.2 ∧ r.1 = nI (yl_v w l q (S (yf_who w q)) (H (yf_who w q)))) := by
  obtain ⟨⟨q1, q2⟩, -⟩ := yl_p hW hq
  unfold fX9_claimOf_
  refine yp_bd _ (ym_of hW hX.1 hq 0 (by decide) nI_0.symm) (fun t ht => ?_)
  rw [ht, show w (49 + 0 + 5 * q) = nI (yf_who w q) from q1]
  exact yp_bd _ (ym_claim hW hq q2 hX hs) (fun r hr => yp_some ⟨hr.1, hr.2.2.1⟩)
end
end
section
/-! days drawn: luck -/
def lx_s (v : Int64) : Int64 := (((1103515245 : Int64) * v) + (12345 : Int64)) - (((1103515245 : Int64) * v) + (12345 : Int64)) / (2147483648 : Int64) * (2147483648 : Int64)
def lx (s : Int64) : Nat → Int64
  | 0 => s
  | n + 1 => lx_s (lx s n)
def lx_c (o : Int32) (y : Int64) : Int32 := lg_cmp ((y / (65536 : Int64)) - (y / (65536 : Int64)) / (10 : Int64) * (10 : Int64)) o.toInt64
def lx_p (o : Int32) (s : Int64) (m : Nat) : Bool := decide (lx_c o (lx s (m + 1)) < 0)
def lx_D (w : Nat → Int32) (s : Int64) (n m : Nat) : Int32 := if m < n ∧ lx_p (w 4) s m = true then hs_dust w m (sp_n w 6) + 3 else hs_dust w m (sp_n w 6)
def lx_j (w : Nat → Int32) (s : Int64) : dy_I := dy_dustSet (hs_day w) (lx_D w s (sp_n w 0))
theorem lx_D0 {w : Nat → Int32} {s : Int64} {n m : Nat} (h : ¬ m < n) : lx_D w s n m = hs_dust w m (sp_n w 6) := if_neg (fun g => h g.1)
theorem lx_Dn {w : Nat → Int32} {s : Int64} {n m : Nat} (h : m ≠ n) : lx_D w s (n + 1) m = lx_D w s n m := by
  unfold lx_D
  by_cases c : m < n ∧ lx_p (w 4) s m = true
  · rw [if_pos c, if_pos ⟨by omega, c.2⟩]
  · rw [if_neg c, if_neg (fun g => c ⟨by omega, g.2⟩)]
section
variable {σ τ u z : sn_S} {w : Nat → Int32} {q : Nat} {l : Int32}
theorem yc_drawn {s : Int32} (hW : jW w) (hH : yH 1 σ w) (hD : yD σ w) : yp (fX8_liveDrawn σ s) (fun r => (∀ a, (a < 38 ∨ 48 < a) → r.2.1 a = σ.1 a) ∧ yd_T 38 r.2 (lx_j w s.toInt64) ∧ yd_L 38 r.2 (lx_j w s.toInt64) (sp_n w 0)) := by
  have c0 := (yl_0 hW).2
  unfold fX8_liveDrawn
  refine yp_bd _ (yc_trial hW hD (by decide)) (fun z0 hz0 => ?_)
  obtain ⟨hr0, h00, ⟨t1, t2, t3, t4, t5, t6⟩, -⟩ := hz0
  have k0 : ∀ (y : sn_S), (∀ a, (a < 38 ∨ 48 < a) → y.1 a = σ.1 a) → (∀ a, a ≠ 39 → y.1 a = z0.1 a) → sn_I y 27 0 = nI (sp_n w 0) ∧ sn_I y (1 + 1) (4 : Int32).toNatClampNeg = w 4 := fun y h _ => ⟨(congrFun (h 27 (by omega)) 0).trans hD.1, (congrFun (h (1 + 1) (by omega)) 4).trans (hH.1 4 (by decide))⟩
  refine yp_bd (fun r => (∀ a, a ≠ 39 → r.1.1 a = z0.1 a) ∧ ∀ m, m < 30 → r.1.1 39 m = lx_D w s.toInt64 (sp_n w 0) m) (yp_for (sp_n w 0) (fun k t => t.2.2.2 = nI k ∧ t.2.2.1 = lx s.toInt64 k ∧ (∀ a, a ≠ 39 → t.1.1 a = z0.1 a) ∧ ∀ m, m < 30 → t.1.1 39 m = lx_D w s.toInt64 k m) (fun k t hk ht => ?_) (fun t ht => ?_) ⟨nI_0.symm, rfl, fun _ _ => rfl, fun m hm => by rw [lx_D0 (by omega)]; exact t4 m hm⟩) (fun r hr => ?_)
  · obtain ⟨y, x2, x3, x5⟩ := t
    obtain ⟨ex, e3, hy, hd⟩ := ht
    have ex : x5 = nI k := ex
    have e3 : x3 = _ := e3
    have hy : ∀ a, a ≠ 39 → y.1 a = z0.1 a := hy
    have hd : ∀ m, m < 30 → y.1 39 m = lx_D w s.toInt64 k m := hd
    subst ex
    subst e3
    obtain ⟨k1, k2⟩ := k0 y (fun a ha => (hy a (by omega)).trans (hr0 a ha)) hy
    show yp (BX8_liveDrawn_19 y x2 _ (nI k)) _
    unfold BX8_liveDrawn_19 BX8_liveDrawn_89
    rw [k1, if_neg (nI_ge hk (by omega)), k2, nI_clamp (show k < 2 ^ 31 by omega)]
    refine yp_lt (yp_gd (fun _ => yp_ite (fun c => yp_lt (yp_some ⟨nI_1 k, rfl, hy, fun m hm => ?_⟩)) (fun c => yp_lt (yp_gd (fun _ => yp_gd (fun _ => yp_lt (yp_lt (yp_some ⟨nI_1 k, rfl, fun a ha => (pI_ne ha).trans (hy a ha), fun m hm => ?_⟩))))))))
    · have c : ¬ lx_p (w 4) s.toInt64 k = true := fun h => absurd (of_decide_eq_true h) (Int32.not_lt.mpr c)
      by_cases e : m = k
      · subst e
        refine (hd m hm).trans ?_
        rw [lx_D0 (by omega)]
        exact (if_neg (fun g => c g.2)).symm
      · rw [lx_Dn e]
        exact hd m hm
    · have c : lx_p (w 4) s.toInt64 k = true := decide_eq_true (Int32.not_le.mp c)
      by_cases e : m = k
      · subst e
        refine pI_self.trans ?_
        rw [show sn_I y (38 + 1) m = _ from hd m hm, lx_D0 (by omega)]
        exact (if_pos ⟨by omega, c⟩).symm
      · rw [lx_Dn e]
        exact (pI_slot e).trans (hd m hm)
  · obtain ⟨y, x2, x3, x5⟩ := t
    obtain ⟨ex, e3, hy, hd⟩ := ht
    have ex : x5 = nI (sp_n w 0) := ex
    have hy : ∀ a, a ≠ 39 → y.1 a = z0.1 a := hy
    subst ex
    obtain ⟨k1, k2⟩ := k0 y (fun a ha => (hy a (by omega)).trans (hr0 a ha)) hy
    show yp (BX8_liveDrawn_19 y x2 x3 (nI (sp_n w 0))) _
    unfold BX8_liveDrawn_19
    rw [k1, if_pos (nI_le (Nat.le_refl _) (by omega))]
    exact yp_some ⟨hy, hd⟩
  · obtain ⟨hy, hd⟩ := hr
    have hT : yd_T 38 r.1 (lx_j w s.toInt64) := by
      refine ⟨(congrFun (hy 38 (by decide)) 1).trans t1, (congrFun (hy 38 (by decide)) 2).trans t2, (congrFun (hy 38 (by decide)) 3).trans t3, hd, fun p hp => ?_, fun k hk => ?_⟩
      · rw [hy (38 + 2) (by decide), hy (38 + 3) (by decide), hy (38 + 4) (by decide), hy (38 + 5) (by decide)]
        exact t5 p hp
      · rw [hy (38 + 6) (by decide)]
        exact t6 k hk
    unfold BX8_liveDrawn_95
    refine yp_bd _ (yc_whole ((congrFun (hy 38 (by decide)) 0).trans h00) c0 hT (hs_ok hW)) (fun v hv => yp_some ⟨fun a ha => ?_, yd_Tc (fun a a1 a2 => hv.1.1 a (by omega)) hT, hv.2⟩)
    exact (hv.1.1 a (by omega)).trans ((hy a (by omega)).trans (hr0 a ha))
theorem ym_drawn {s : Int64} (hW : jW w) (hu : u.1 1 = w) : yp (fX9_goDrawn u s) (fun r => yX r.2 w (w 2) (fun p => dy_sn (lx_j w s) (sp_n w 0) p) (yHh w)) := by
  have c0 := (yl_0 hW).2
  have c5 := (yl_5 hW).2
  unfold fX9_goDrawn
  refine yp_bd _ (ym_asItIs hu hW) (fun z0 hz0 => ?_)
  have z1 : z0.1 1 = w := (hz0.1.1 1 (by decide) (by decide) (by decide) (by decide)).trans hu
  obtain ⟨t1, t2, t3, t4, t5, t6⟩ := ya_day hu hW hz0
  obtain ⟨-, h18, h19, h20, h21, h22, h7, h89⟩ := hz0
  refine yp_bd (fun r => (∀ a, a ≠ 7 → r.1.1 a = z0.1 a) ∧ ∀ m, m < 30 → r.1.1 7 m = lx_D w s (sp_n w 0) m) (yp_for (sp_n w 0) (fun k t => t.2.2.2 = nI k ∧ t.2.1 = lx s k ∧ (∀ a, a ≠ 7 → t.1.1 a = z0.1 a) ∧ ∀ m, m < 30 → t.1.1 7 m = lx_D w s k m) (fun k t hk ht => ?_) (fun t ht => ?_) ⟨nI_0.symm, rfl, fun _ _ => rfl, fun m hm => by rw [lx_D0 (by omega)]; exact t4 m hm⟩) (fun r hr => ?_)
  · obtain ⟨y, x3, x5, x6⟩ := t
    obtain ⟨ex, e3, hy, hd⟩ := ht
    have ex : x6 = nI k := ex
    have e3 : x3 = _ := e3
    have hy : ∀ a, a ≠ 7 → y.1 a = z0.1 a := hy
    have hd : ∀ m, m < 30 → y.1 7 m = lx_D w s k m := hd
    subst ex
    subst e3
    have y1 : y.1 1 = w := (hy 1 (by decide)).trans z1
    show yp (BX9_goDrawn_12 y _ x5 (nI k)) _
    unfold BX9_goDrawn_12 BX9_goDrawn_78 fX9_minutes
    refine yp_bd (fun t => t = nI (sp_n w 0)) (yp_gd (fun _ => yp_some ((congrFun y1 0).trans (yl_0 hW).1))) (fun t ht => ?_)
    rw [ht, if_neg (nI_ge hk (by omega)), show sn_I y 1 (4 : Int32).toNatClampNeg = w 4 from congrFun y1 4, nI_clamp (show k < 2 ^ 31 by omega)]
    refine yp_lt (yp_gd (fun _ => yp_ite (fun c => yp_gd (fun _ => yp_gd (fun _ => yp_lt (yp_lt (yp_lt (yp_some ⟨nI_1 k, rfl, fun a ha => (pI_ne ha).trans (hy a ha), fun m hm => ?_⟩)))))) (fun c => yp_lt (yp_some ⟨nI_1 k, rfl, hy, fun m hm => ?_⟩))))
    · have c : lx_p (w 4) s k = true := decide_eq_true c
      by_cases e : m = k
      · subst e
        refine pI_self.trans ?_
        rw [show sn_I y 7 m = _ from hd m hm, lx_D0 (by omega)]
        exact (if_pos ⟨by omega, c⟩).symm
      · rw [lx_Dn e]
        exact (pI_slot e).trans (hd m hm)
    · have c : ¬ lx_p (w 4) s k = true := fun h => absurd (of_decide_eq_true h) c
      by_cases e : m = k
      · subst e
        refine (hd m hm).trans ?_
        rw [lx_D0 (by omega)]
        exact (if_neg (fun g => c g.2)).symm
      · rw [lx_Dn e]
        exact hd m hm
  · obtain ⟨y, x3, x5, x6⟩ := t
    obtain ⟨ex, e3, hy, hd⟩ := ht
    have ex : x6 = nI (sp_n w 0) := ex
    have hy : ∀ a, a ≠ 7 → y.1 a = z0.1 a := hy
    subst ex
    have y1 : y.1 1 = w := (hy 1 (by decide)).trans z1
    show yp (BX9_goDrawn_12 y x3 x5 (nI (sp_n w 0))) _
    unfold BX9_goDrawn_12 fX9_minutes
    refine yp_bd (fun t => t = nI (sp_n w 0)) (yp_gd (fun _ => yp_some ((congrFun y1 0).trans (yl_0 hW).1))) (fun t ht => ?_)
    rw [ht, if_pos (nI_le (Nat.le_refl _) (by omega))]
    exact yp_some ⟨hy, hd⟩
  · obtain ⟨hy, hd⟩ := hr
    have r1 : r.1.1 1 = w := (hy 1 (by decide)).trans z1
    have hT : ym_T r.1 (lx_j w s) := by
      refine ⟨(congrFun (hy 1 (by decide)) 5).trans t1, (congrFun (hy 1 (by decide)) 7).trans t2, (congrFun (hy 0 (by decide)) 19).trans t3, hd, fun p hp => ?_, fun k hk => ?_⟩
      · rw [hy 1 (by decide), hy 8 (by decide), hy 9 (by decide)]
        exact t5 p hp
      · rw [hy 1 (by decide)]
        exact t6 k hk
    unfold BX9_goDrawn_84
    refine yp_bd _ (ym_goAll c0 ((congrFun (hy 0 (by decide)) 22).trans h22) hT (hs_ok hW)) (fun v hv => yp_some ?_)
    obtain ⟨⟨f1, f2⟩, hL⟩ := hv
    have e0 : v.1 0 = z0.1 0 := (f1 0 (by omega)).trans (hy 0 (by decide))
    refine ⟨(f1 1 (by omega)).trans r1, fun p hp => ⟨?_, (congrFun ((f1 8 (by omega)).trans (hy 8 (by decide))) p).trans (h89 p (by omega)).1⟩, (congrFun e0 18).trans h18, (congrFun e0 20).trans h20, (congrFun e0 22).trans h22⟩
    have g := (hL.2 p (by omega)).1
    rw [if_pos (show p < dy_P (lx_j w s) from hp)] at g
    exact g
end
end
section
section
variable {σ τ u z : sn_S} {w : Nat → Int32} {q : Nat} {l : Int32}
/-- the ledger of any day -/
def yl_LS (σ z : sn_S) (w : Nat → Int32) (l : Int32) (S H : Nat → Int32) (n : Nat) : Prop := (∀ a, a < 49 ∨ 51 < a → z.1 a = σ.1 a) ∧ z.1 49 2 = nI (sp_n w 8) ∧ z.1 49 3 = nI (sp_n w 3 + yn_sum (yl_y w) n) ∧ ∀ q, q < n → z.1 50 q = nI (yl_v w l q (S (sp_n w (49 + 5 * q))) (H (sp_n w (49 + 5 * q)))) ∧ z.1 51 q = yl_fst (yl_C w l q (S (sp_n w (49 + 5 * q)))) 30
theorem yc_reckonS {d : Nat} {S H : Nat → Int32} (hd : d + 10 < 49) (hW : jW w) (hH : yH 1 σ w) (hS : ∀ p, p < sp_n w 5 → σ.1 (d + 10) p = S p ∧ σ.1 (d + 4) p = H p) (hb : ∀ p k, sp_n w 0 ≤ k → k < 32 → sp_bit (S p) k = false) (l : Int32) : yp (fX3_reckon σ 49 1 d l) (fun z => yl_LS σ z w l S H (sp_n w 8)) := by
  have c8 := (yl_8 hW).2
  have c5 := (yl_5 hW).2
  have c0 := (yl_0 hW).2
  obtain ⟨n3, -⟩ : yh_n w 3 999 := hW.1.2.2.2.1
  unfold fX3_reckon
  refine yp_gd (fun _ => yp_lt (yp_gd (fun _ => yp_lt ?_)))
  refine yp_bd (fun z => yl_LS σ z w l S H (sp_n w 8)) (yp_for (sp_n w 8) (fun n s => s.2 = nI n ∧ yl_LS σ s.1 w l S H n) (fun n s hn hs => ?_) (fun s hs => ?_) ⟨nI_0.symm, fun a ha => ?_, ?_, ?_, fun q hq => absurd hq (by omega)⟩) (fun v hv => ?_)
  · obtain ⟨z, x⟩ := s
    obtain ⟨ex, z0, z2, z3, zq⟩ := hs
    have ex : x = nI n := ex
    subst ex
    have z0 : ∀ a, a < 49 ∨ 51 < a → z.1 a = σ.1 a := z0
    have z2 : z.1 49 2 = nI (sp_n w 8) := z2
    have z3 : z.1 49 3 = nI (sp_n w 3 + yn_sum (yl_y w) n) := z3
    have zq : ∀ q, q < n → z.1 50 q = nI (yl_v w l q (S (sp_n w (49 + 5 * q))) (H (sp_n w (49 + 5 * q)))) ∧ z.1 51 q = yl_fst (yl_C w l q (S (sp_n w (49 + 5 * q)))) 30 := zq
    obtain ⟨⟨q1, q2⟩, -, -, -, -, -, ⟨y1, y2⟩⟩ := yl_p hW hn
    have zH : yH 1 z w := yH_c (fun a a1 a2 => z0 a (by omega)) hH
    have zS := hS _ q2
    show yp (BX3_reckon_24 z 49 1 d l (nI n)) _
    unfold BX3_reckon_24
    rw [show sn_I z 49 2 = _ from z2, if_neg (nI_ge hn (by omega)), nI_clamp (show n < 2 ^ 31 by omega)]
    refine yp_bd _ (yc_of hW zH hn 0 (by decide) nI_0.symm) (fun t2 h2 => ?_)
    rw [h2, show w (49 + 0 + 5 * n) = nI (sp_n w (49 + 5 * n)) from q1, nI_clamp (show sp_n w (49 + 5 * n) < 2 ^ 31 by omega), show sn_I z (d + 10) (sp_n w (49 + 5 * n)) = _ from (congrFun (z0 (d + 10) (by omega)) _).trans zS.1]
    refine yp_gd (fun _ => yp_lt (yp_bd _ (yc_of hW zH hn 4 (by decide) rfl) (fun t7 h7 => yp_lt (yp_gd (fun _ => ?_)))))
    obtain ⟨z9, e9⟩ : ∃ z9, z9 = sn_pI z 49 3 (sn_I z 49 3 + t7) := ⟨_, rfl⟩
    rw [← e9]
    have z9r : ∀ a, a ≠ 49 → z9.1 a = z.1 a := fun a ha => by rw [e9]; exact pI_ne ha
    have z9H : yH 1 z9 w := yH_c (fun a a1 a2 => (z9r a (by omega)).trans (z0 a (by omega))) hH
    rw [show sn_I z9 (d + 4) (sp_n w (49 + 5 * n)) = _ from (congrFun ((z9r (d + 4) (by omega)).trans (z0 (d + 4) (by omega))) _).trans zS.2]
    refine yp_bd _ (yc_claim hW z9H hn (hb _)) (fun t12 h12 => yp_gd (fun _ => yp_lt ?_))
    obtain ⟨zF, eF⟩ : ∃ zF, zF = sn_pI z9 (49 + 1) n t12 := ⟨_, rfl⟩
    rw [← eF]
    have zFr : ∀ a, a ≠ 50 → zF.1 a = z9.1 a := fun a ha => by rw [eF]; exact pI_ne ha
    have zFH : yH 1 zF w := yH_c (fun a a1 a2 => (zFr a (by omega)).trans ((z9r a (by omega)).trans (z0 a (by omega)))) hH
    refine yp_bd _ (yc_count hW zFH hn) (fun t17 h17 => ?_)
    rw [h17]
    refine yp_bd _ (yb_lowest (fun k h1 h2 => yl_Cs (hb _) (by omega) h2)) (fun t19 h19 => yp_gd (fun _ => yp_lt (yp_lt (yp_some ⟨nI_1 n, ?_⟩))))
    have e19 := yb_F1 h19 (yl_F _)
    refine ⟨fun a ha => (pI_ne (by omega)).trans ((zFr a (by omega)).trans ((z9r a (by omega)).trans (z0 a ha))), ?_, ?_, fun q hq => ?_⟩
    · refine (congrFun (pI_ne (by decide)) 2).trans ?_
      rw [zFr 49 (by decide), e9]
      exact (pI_slot (by decide)).trans z2
    · refine (congrFun (pI_ne (by decide)) 3).trans ?_
      rw [zFr 49 (by decide), e9]
      refine pI_self.trans ?_
      rw [show sn_I z 49 3 = _ from z3, h7, show w (49 + 4 + 5 * n) = nI (sp_n w (53 + 5 * n)) from y1, nI_add, Nat.add_assoc]
      rfl
    · by_cases e : q = n
      · subst e
        refine ⟨(congrFun (pI_ne (by decide)) q).trans ?_, pI_self.trans e19⟩
        rw [eF]
        exact pI_self.trans h12
      · refine ⟨(congrFun (pI_ne (by decide)) q).trans ?_, (pI_slot e).trans ?_⟩
        · rw [eF]
          refine (pI_slot e).trans ?_
          rw [z9r (49 + 1) (by decide)]
          exact (zq q (by omega)).1
        · rw [zFr (49 + 2) (by decide), z9r (49 + 2) (by decide)]
          exact (zq q (by omega)).2
  · obtain ⟨z, x⟩ := s
    obtain ⟨ex, hL⟩ := hs
    have ex : x = nI (sp_n w 8) := ex
    subst ex
    have hL : yl_LS σ z w l S H (sp_n w 8) := hL
    show yp (BX3_reckon_24 z 49 1 d l (nI (sp_n w 8))) _
    unfold BX3_reckon_24
    rw [show sn_I z 49 2 = _ from hL.2.1, if_pos (nI_le (Nat.le_refl _) (by omega))]
    exact yp_some hL
  · exact (pI_ne (by omega)).trans (pI_ne (by omega))
  · exact (pI_slot (by decide)).trans (pI_self.trans (yc_8 hW hH))
  · refine pI_self.trans ((congrFun (pI_ne (by decide)) _).trans ((hH.1 3 (by decide)).trans n3))
  · unfold BX3_reckon_115
    exact yp_some hv
def lx_g (w : Nat → Int32) (q : Nat) (s : Int64) : Bool := !decide (nI (yl_v w (w 2) q (dy_sn (lx_j w s) (sp_n w 0) (sp_n w (49 + 5 * q))) (yHh w (sp_n w (49 + 5 * q)))) ≤ 0)
def lx_n (w : Nat → Int32) (q : Nat) (a : Int32) : Nat → Nat
  | 0 => 0
  | n + 1 => lx_n w q a n + if lx_g w q (a.toInt64 + (nI n).toInt64) = true then 1 else 0
theorem lx_add {a : Int32} {n : Nat} (h : ¬ a < 0) (h2 : a ≤ 2000000000) (hn : n < 20) : (a + nI n).toInt64 = a.toInt64 + (nI n).toInt64 := by
  apply Int64.toInt_inj.mp
  have h1 : 0 ≤ a.toInt := by
    have := Int32.le_iff_toInt_le.mp (Int32.not_lt.mp h)
    simpa using this
  have h3 : a.toInt ≤ 2000000000 := by
    have := Int32.le_iff_toInt_le.mp h2
    rw [show (2000000000 : Int32).toInt = 2000000000 by decide] at this
    exact this
  have h4 := nI_toInt (show n < 2 ^ 31 by omega)
  rw [Int32.toInt_toInt64, Int32.toInt_add, Int64.toInt_add, Int32.toInt_toInt64, Int32.toInt_toInt64, h4, Int.bmod_eq_of_le (by omega) (by omega), Int.bmod_eq_of_le (by omega) (by omega)]
theorem yc_luck {a : Int32} {n : Nat} (hW : jW w) (hH : yH 1 σ w) (hD : yD σ w) (hq : q < sp_n w 8) (h0 : ¬ a < 0) (h1 : a ≤ 2000000000) (hn : n ≤ 20) : yp ((sn_it (LX8_luck_35 a (nI n) (nI q)) 5000 (σ, (0 : Int32), (0 : Int32))).bind fun t_9 => BX8_luck_95 t_9.1 t_9.2) (fun r => r.1 = nI (lx_n w q a n)) := by
  have c8 := (yl_8 hW).2
  have c0 := (yl_0 hW).2
  refine yp_bd (fun r => r.2 = nI (lx_n w q a n)) (yp_for n (fun k s => s.2.2 = nI k ∧ s.2.1 = nI (lx_n w q a k) ∧ ∀ b, (b < 38 ∨ 51 < b) → s.1.1 b = σ.1 b) (fun k s hk hs => ?_) (fun s hs => ?_) ⟨nI_0.symm, nI_0.symm, fun _ _ => rfl⟩) (fun r hr => ?_)
  · obtain ⟨z, x4, x5⟩ := s
    obtain ⟨ex, e4, hz⟩ := hs
    have ex : x5 = nI k := ex
    have e4 : x4 = _ := e4
    have hz : ∀ b, (b < 38 ∨ 51 < b) → z.1 b = σ.1 b := hz
    subst ex
    subst e4
    have zH : yH 1 z w := yH_c (fun b b1 b2 => hz b (by omega)) hH
    have zD : yD z w := yD_c (fun b b1 b2 => hz b (by omega)) hD
    show yp (BX8_luck_35 z a (nI n) (nI q) _ (nI k)) _
    unfold BX8_luck_35 BX8_luck_89
    rw [if_neg (nI_ge hk (by omega)), nI_clamp (show q < 2 ^ 31 by omega)]
    refine yp_bd _ (yc_drawn hW zH zD) (fun t ht => ?_)
    obtain ⟨tr, tT, tL⟩ := ht
    rw [lx_add h0 h1 (by omega)] at tT tL
    have tH : yH 1 t.2 w := yH_c (fun b b1 b2 => tr b (by omega)) zH
    rw [show sn_I t.2 (1 + 1) (2 : Int32).toNatClampNeg = w 2 from tH.1 2 (by decide)]
    refine yp_gd (fun _ => yp_bd _ (yc_reckonS (d := 38) (S := fun p => dy_sn (lx_j w (a.toInt64 + (nI k).toInt64)) (sp_n w 0) p) (H := yHh w) (by decide) hW tH (fun p hp => ⟨tL.2 p hp, (tT.2.2.2.2.1 p hp).2.2.1⟩) (fun p => yz_sbits c0) (w 2)) (fun v hv => yp_gd (fun _ => ?_)))
    have vr : ∀ b, (b < 38 ∨ 51 < b) → v.1 b = σ.1 b := fun b hb => (hv.1 b (by omega)).trans ((tr b (by omega)).trans (hz b hb))
    rw [show sn_I v (49 + 1) q = _ from (hv.2.2.2 q hq).1]
    have st : lx_n w q a (k + 1) = lx_n w q a k + if lx_g w q (a.toInt64 + (nI k).toInt64) = true then 1 else 0 := rfl
    refine yp_ite (fun c => yp_lt (yp_some ⟨nI_1 k, ?_, vr⟩)) (fun c => yp_lt (yp_lt (yp_some ⟨nI_1 k, ?_, vr⟩)))
    · have g : lx_g w q (a.toInt64 + (nI k).toInt64) = false := by unfold lx_g; rw [decide_eq_true c]; rfl
      rw [st, g, if_neg (by decide)]
      rfl
    · have g : lx_g w q (a.toInt64 + (nI k).toInt64) = true := by unfold lx_g; rw [decide_eq_false c]; rfl
      rw [st, g, if_pos rfl]
      exact nI_1 _
  · obtain ⟨z, x4, x5⟩ := s
    obtain ⟨ex, e4, hz⟩ := hs
    have ex : x5 = nI n := ex
    subst ex
    show yp (BX8_luck_35 z a (nI n) (nI q) x4 (nI n)) _
    unfold BX8_luck_35
    rw [if_pos (nI_le (Nat.le_refl _) (by omega))]
    exact yp_some e4
  · unfold BX8_luck_95
    exact yp_some hr
theorem ym_luck {a : Int32} {n : Nat} (hW : jW w) (hu : u.1 1 = w) (hq : q < sp_n w 8) (hn : n ≤ 20) : yp ((sn_it (LX9_luck_36 a (nI n) (nI q)) 5000 (u, (0 : Int32), (0 : Int32))).bind fun t_10 => BX9_luck_77 t_10.1 t_10.2) (fun r => r.1 = nI (lx_n w q a n)) := by
  have c0 := (yl_0 hW).2
  refine yp_bd (fun r => r.2 = nI (lx_n w q a n)) (yp_for n (fun k s => s.2.2 = nI k ∧ s.2.1 = nI (lx_n w q a k) ∧ s.1.1 1 = w) (fun k s hk hs => ?_) (fun s hs => ?_) ⟨nI_0.symm, nI_0.symm, hu⟩) (fun r hr => ?_)
  · obtain ⟨z, x4, x5⟩ := s
    obtain ⟨ex, e4, hz⟩ := hs
    have ex : x5 = nI k := ex
    have e4 : x4 = _ := e4
    have hz : z.1 1 = w := hz
    subst ex
    subst e4
    show yp (BX9_luck_36 z a (nI n) (nI q) _ (nI k)) _
    unfold BX9_luck_36 BX9_luck_68
    rw [if_neg (nI_ge hk (by omega))]
    refine yp_bd _ (ym_drawn hW hz) (fun t ht => yp_bd _ (ym_claimS hW hq ht (yz_sbits c0)) (fun r hr => ?_))
    have r1 : r.2.1 1 = w := (yX_fr hr.1 ht).1
    rw [hr.2]
    have st : lx_n w q a (k + 1) = lx_n w q a k + if lx_g w q (a.toInt64 + (nI k).toInt64) = true then 1 else 0 := rfl
    refine yp_ite (fun c => yp_lt (yp_lt (yp_some ⟨nI_1 k, ?_, r1⟩))) (fun c => yp_lt (yp_lt (yp_some ⟨nI_1 k, ?_, r1⟩)))
    · have c : nI (yl_v w (w 2) q (dy_sn (lx_j w (a.toInt64 + (nI k).toInt64)) (sp_n w 0) (sp_n w (49 + 5 * q))) (yHh w (sp_n w (49 + 5 * q)))) ≤ 0 := c
      have g : lx_g w q (a.toInt64 + (nI k).toInt64) = false := by unfold lx_g; rw [decide_eq_true c]; rfl
      show nI (lx_n w q a k) + (0 : Int32) = _
      rw [st, g, if_neg (by decide), Int32.add_zero]
      rfl
    · have c : ¬ nI (yl_v w (w 2) q (dy_sn (lx_j w (a.toInt64 + (nI k).toInt64)) (sp_n w 0) (sp_n w (49 + 5 * q))) (yHh w (sp_n w (49 + 5 * q)))) ≤ 0 := c
      have g : lx_g w q (a.toInt64 + (nI k).toInt64) = true := by unfold lx_g; rw [decide_eq_false c]; rfl
      show nI (lx_n w q a k) + (1 : Int32) = _
      rw [st, g, if_pos rfl]
      exact nI_1 _
  · obtain ⟨z, x4, x5⟩ := s
    obtain ⟨ex, e4, hz⟩ := hs
    have ex : x5 = nI n := ex
    subst ex
    show yp (BX9_luck_36 z a (nI n) (nI q) x4 (nI n)) _
    unfold BX9_luck_36
    rw [if_pos (nI_le (Nat.le_refl _) (by omega))]
    exact yp_some e4
  · unfold BX9_luck_77
    exact yp_some hr
theorem yz_64 {a n q : Int32} (hK : zK σ τ) : yr (fX8_luck σ a n q) (fX9_luck τ a n q) (fun r s => r.1 = s.1) := by
  have hW := hK.2.1.1
  have b8 := yl_8 hW
  have e8 : σ.1 2 8 = τ.1 1 8 := hK.2.1.2.1 8 (by decide)
  have cs : fX8_isSeed a = some (if (0 : Int32) ≤ a ∧ a ≤ 2000000000 then 1 else 0) := by
    unfold fX8_isSeed
    by_cases g1 : a < 0
    · rw [if_pos g1, if_neg (fun h => absurd g1 (Int32.not_lt.mpr h.1))]; rfl
    · by_cases g2 : (2000000000 : Int32) < a
      · rw [if_neg g1, if_pos g2, if_neg (fun h => absurd g2 (Int32.not_lt.mpr h.2))]; rfl
      · rw [if_neg g1, if_neg g2, if_pos ⟨Int32.not_lt.mp g1, Int32.not_lt.mp g2⟩]; rfl
  have ms : fX9_isSeed a = some (if (0 : Int32) ≤ a ∧ a ≤ 2000000000 then 1 else 0) := by
    unfold fX9_isSeed
    rw [show fX9_in a.toInt64 (0 : Int64) (2000000000 : Int64) = _ from in_eq32 a 0 2000000000]
    by_cases g : (0 : Int32) ≤ a ∧ a ≤ 2000000000
    · rw [if_pos g]; rfl
    · rw [if_neg g]; rfl
  have n1 : n < 1 ↔ ¬ (1 : Int32) ≤ n := by rw [Int32.not_le]
  unfold fX8_luck fX9_luck
  rw [c_isPolicy, e8, m_isPolicy (by rw [b8.1]; exact nI_pos' (by omega)), cs, ms, show fX9_in n.toInt64 (1 : Int64) (20 : Int64) = _ from in_eq32 n 1 20]
  by_cases c1 : 0 ≤ q ∧ q < τ.1 1 8
  · by_cases c2 : (0 : Int32) ≤ a ∧ a ≤ 2000000000
    · by_cases c3 : (1 : Int32) ≤ n ∧ n ≤ 20
      · rw [if_pos c1, if_pos c2, if_pos c3, if_neg (fun h => n1.mp h c3.1), if_pos c3.2]
        obtain ⟨k, hk, ek⟩ := yK_p (by omega) b8.1 c1
        obtain ⟨m, hm, em⟩ : ∃ m, m < 21 ∧ n = nI m := nI_idx (n := 21) (by decide) (Int32.le_trans (by decide) c3.1) (by
          have h := Int32.le_iff_toInt_le.mp c3.2
          rw [show (20 : Int32).toInt = 20 by decide] at h
          rw [Int32.lt_iff_toInt_lt, nI_toInt (by decide)]
          omega)
        subst ek
        subst em
        refine yr_eq2 (nI (lx_n (τ.1 1) k a m)) ?_ ?_
        · exact yp_bs rfl (yp_ite (fun h => absurd (show (1 : Int32) = 0 from h) (by decide)) (fun _ => yp_bs rfl (yp_ite (fun h => absurd (show (1 : Int32) = 0 from h) (by decide)) (fun _ => yc_luck hW hK.2.1.2 hK.2.2.2 hk (Int32.not_lt.mpr c2.1) c2.2 (by omega)))))
        · exact yp_bs rfl (yp_ite (fun h => absurd (show (1 : Int32) = 0 from h) (by decide)) (fun _ => yp_bs rfl (yp_ite (fun h => absurd (show (1 : Int32) = 0 from h) (by decide)) (fun _ => yp_bs rfl (yp_ite (fun h => absurd (show (1 : Int32) = 0 from h) (by decide)) (fun _ => ym_luck hW rfl hk (by omega)))))))
      · rw [if_pos c1, if_pos c2, if_neg c3]
        refine yr_eq2 (-2 : Int32) ?_ (yp_some rfl)
        refine yp_bs rfl (yp_ite (fun h => absurd (show (1 : Int32) = 0 from h) (by decide)) (fun _ => yp_bs rfl (yp_ite (fun h => absurd (show (1 : Int32) = 0 from h) (by decide)) (fun _ => yp_ite (fun _ => yp_some rfl) (fun d1 => yp_ite (fun d2 => ?_) (fun _ => yp_some rfl))))))
        exact absurd ⟨Int32.not_lt.mp d1, d2⟩ c3
    · rw [if_pos c1, if_neg c2]
      exact yr_eq2 (-2 : Int32) (yp_some rfl) (yp_some rfl)
  · rw [if_neg c1]
    refine yr_eq2 (-2 : Int32) (yp_some rfl) ?_
    by_cases c2 : (0 : Int32) ≤ a ∧ a ≤ 2000000000
    · by_cases c3 : (1 : Int32) ≤ n ∧ n ≤ 20
      · rw [if_pos c2, if_pos c3]
        exact yp_some rfl
      · rw [if_pos c2, if_neg c3]
        exact yp_some rfl
    · rw [if_neg c2]
      exact yp_some rfl
end
end
section
/-! every call keeps what the two have in common, the houses too -/
theorem zz_0 : st_0 zK zK := by
  intro σ τ a0 a1 a2 a3 a4 hJ
  obtain ⟨r, σ1, τ1, e1, e2, h⟩ := zK_0 σ τ a0 a1 a2 a3 a4 hJ
  exact ⟨r, r, σ1, τ1, e1, e2, h⟩
theorem zz_1 : st_1 zK zK := by
  intro σ τ a0 hJ
  obtain ⟨r, σ1, τ1, e1, e2, h⟩ := zK_1 σ τ a0 hJ
  exact ⟨r, r, σ1, τ1, e1, e2, h⟩
theorem zz_2 : st_2 zK zK := by
  intro σ τ hJ
  obtain ⟨r, σ1, τ1, e1, e2, h⟩ := zK_2 σ τ hJ
  exact ⟨r, r, σ1, τ1, e1, e2, h⟩
theorem zz_3 : st_3 zK zK := by
  intro σ τ a0 hJ
  obtain ⟨r, e1, e2⟩ := zJ_3 σ τ a0 hJ.1
  exact ⟨r, r, e1, e2, hJ⟩
theorem zz_4 : st_4 zK zK := by
  intro σ τ a0 a1 hJ
  obtain ⟨r, e1, e2⟩ := zJ_4 σ τ a0 a1 hJ.1
  exact ⟨r, r, e1, e2, hJ⟩
theorem zz_5 : st_5 zK zK := by
  intro σ τ a0 a1 hJ
  obtain ⟨r, e1, e2⟩ := zJ_5 σ τ a0 a1 hJ.1
  exact ⟨r, r, e1, e2, hJ⟩
theorem zz_6 : st_6 zK zK := by
  intro σ τ a0 hJ
  obtain ⟨r, e1, h1⟩ := zc_20 (zs_rf (key := zs_kC) (kl := zs_lC) hJ.1.1.1) (x1 := a0)
  obtain ⟨r2, e2, h2⟩ := zc_43 (zs_rf (key := zs_kM) (kl := zs_lM) hJ.1.1.2.1) (x1 := a0)
  exact ⟨r, r2.1, r2.2, e1, e2, zK_keep (zs_rf hJ.1.1.1) (h2.1.2) hJ⟩
theorem zz_7 : st_7 zK zK := by
  intro σ τ a0 hJ
  obtain ⟨r, e1, h1⟩ := zc_45 (zs_rf (key := zs_kC) (kl := zs_lC) hJ.1.1.1) (x1 := a0)
  obtain ⟨r2, e2, h2⟩ := zc_96 (zs_rf (key := zs_kM) (kl := zs_lM) hJ.1.1.2.1) (x1 := a0)
  exact ⟨r, r2.1, r2.2, e1, e2, zK_keep (zs_rf hJ.1.1.1) (h2.1.2) hJ⟩
theorem zz_8 : st_8 zK zK := by
  intro σ τ a0 hJ
  obtain ⟨r, e1, h1⟩ := zc_97 (zs_rf (key := zs_kC) (kl := zs_lC) hJ.1.1.1) (x1 := a0)
  obtain ⟨r2, e2, h2⟩ := zc_99 (zs_rf (key := zs_kM) (kl := zs_lM) hJ.1.1.2.1) (x1 := a0)
  exact ⟨r, r2.1, r2.2, e1, e2, zK_keep (zs_rf hJ.1.1.1) (h2.1.2) hJ⟩
theorem zz_9 : st_9 zK zK := by
  intro σ τ a0 hJ
  obtain ⟨r, e1, h1⟩ := zc_100 (zs_rf (key := zs_kC) (kl := zs_lC) hJ.1.1.1) (x1 := a0)
  obtain ⟨r2, e2, h2⟩ := zc_101 (zs_rf (key := zs_kM) (kl := zs_lM) hJ.1.1.2.1) (x1 := a0)
  exact ⟨r, r2.1, r2.2, e1, e2, zK_keep (zs_rf hJ.1.1.1) (h2.1.2) hJ⟩
theorem zz_10 : st_10 zK zK := by
  intro σ τ hJ
  obtain ⟨r, e1, h1⟩ := zc_106 (zs_rf (key := zs_kC) (kl := zs_lC) hJ.1.1.1) 
  obtain ⟨r2, e2, h2⟩ := zc_113 (zs_rf (key := zs_kM) (kl := zs_lM) hJ.1.1.2.1) 
  exact ⟨r, r2.1, r2.2, e1, e2, zK_keep (zs_rf hJ.1.1.1) (h2.2) hJ⟩
theorem zz_11 : st_11 zK zK := by
  intro σ τ a0 hJ
  obtain ⟨r, e1, h1⟩ := zc_114 (zs_rf (key := zs_kC) (kl := zs_lC) hJ.1.1.1) (x1 := a0)
  obtain ⟨r2, e2, h2⟩ := zc_115 (zs_rf (key := zs_kM) (kl := zs_lM) hJ.1.1.2.1) (x1 := a0)
  exact ⟨r, r2.1, r2.2, e1, e2, zK_keep (zs_rf hJ.1.1.1) (h2.1.2) hJ⟩
theorem zz_12 : st_12 zK zK := by
  intro σ τ a0 a1 hJ
  obtain ⟨r, e1, h1⟩ := zc_117 (zs_rf (key := zs_kC) (kl := zs_lC) hJ.1.1.1) (x1 := a0) (x2 := a1)
  obtain ⟨r2, e2, h2⟩ := zc_118 (zs_rf (key := zs_kM) (kl := zs_lM) hJ.1.1.2.1) (x1 := a0) (x2 := a1)
  exact ⟨r, r2.1, r2.2, e1, e2, zK_keep (zs_rf hJ.1.1.1) (h2.1.2) hJ⟩
theorem zz_13 : st_13 zK zK := by
  intro σ τ a0 hJ
  obtain ⟨r, e1, h1⟩ := zc_121 (zs_rf (key := zs_kC) (kl := zs_lC) hJ.1.1.1) (x1 := a0)
  obtain ⟨r2, e2, h2⟩ := zc_124 (zs_rf (key := zs_kM) (kl := zs_lM) hJ.1.1.2.1) (x1 := a0)
  exact ⟨r, r2.1, r2.2, e1, e2, zK_keep (zs_rf hJ.1.1.1) (h2.1.2) hJ⟩
theorem zz_14 : st_14 zK zK := by
  intro σ τ a0 hJ
  obtain ⟨r, e1, h1⟩ := zc_128 (zs_rf (key := zs_kC) (kl := zs_lC) hJ.1.1.1) (x1 := a0)
  obtain ⟨r2, e2, h2⟩ := zc_129 (zs_rf (key := zs_kM) (kl := zs_lM) hJ.1.1.2.1) (x1 := a0)
  exact ⟨r, r2.1, r2.2, e1, e2, zK_keep (zs_rf hJ.1.1.1) (h2.1.2) hJ⟩
theorem zz_15 : st_15 zK zK := by
  intro σ τ a0 hJ
  obtain ⟨r, e1, h1⟩ := zc_130 (zs_rf (key := zs_kC) (kl := zs_lC) hJ.1.1.1) (x1 := a0)
  obtain ⟨r2, e2, h2⟩ := zc_136 (zs_rf (key := zs_kM) (kl := zs_lM) hJ.1.1.2.1) (x1 := a0)
  exact ⟨r, r2.1, r2.2, e1, e2, zK_keep (zs_rf hJ.1.1.1) (h2.1.2) hJ⟩
theorem zz_16 : st_16 zK zK := by
  intro σ τ hJ
  obtain ⟨r, e1, h1⟩ := zc_141 (zs_rf (key := zs_kC) (kl := zs_lC) hJ.1.1.1) 
  obtain ⟨r2, e2, h2⟩ := zc_146 (zs_rf (key := zs_kM) (kl := zs_lM) hJ.1.1.2.1) 
  exact ⟨r, r2.1, r2.2, e1, e2, zK_keep (zs_rf hJ.1.1.1) (h2.2) hJ⟩
theorem zz_17 : st_17 zK zK := by
  intro σ τ hJ
  obtain ⟨r, e1, h1⟩ := zc_149 (zs_rf (key := zs_kC) (kl := zs_lC) hJ.1.1.1) 
  obtain ⟨r2, e2, h2⟩ := zc_154 (zs_rf (key := zs_kM) (kl := zs_lM) hJ.1.1.2.1) 
  exact ⟨r, r2.1, r2.2, e1, e2, zK_keep (zs_rf hJ.1.1.1) (h2.2) hJ⟩
theorem zz_18 : st_18 zK zK := by
  intro σ τ hJ
  obtain ⟨r, e1, h1⟩ := zc_159 (zs_rf (key := zs_kC) (kl := zs_lC) hJ.1.1.1) 
  obtain ⟨r2, e2, h2⟩ := zc_164 (zs_rf (key := zs_kM) (kl := zs_lM) hJ.1.1.2.1) 
  exact ⟨r, r2.1, r2.2, e1, e2, zK_keep (zs_rf hJ.1.1.1) (h2.2) hJ⟩
theorem zz_19 : st_19 zK zK := by
  intro σ τ a0 hJ
  obtain ⟨r, e1, h1⟩ := zc_176 (zs_rf (key := zs_kC) (kl := zs_lC) hJ.1.1.1) (x1 := a0)
  obtain ⟨r2, e2, h2⟩ := zc_186 (zs_rf (key := zs_kM) (kl := zs_lM) hJ.1.1.2.1) (x1 := a0)
  exact ⟨r, r2.1, r2.2, e1, e2, zK_keep (zs_rf hJ.1.1.1) (h2.1.2) hJ⟩
theorem zz_20 : st_20 zK zK := by
  intro σ τ a0 a1 hJ
  obtain ⟨r, e1, h1⟩ := zc_188 (zs_rf (key := zs_kC) (kl := zs_lC) hJ.1.1.1) (x1 := a0) (x2 := a1)
  obtain ⟨r2, e2, h2⟩ := zc_191 (zs_rf (key := zs_kM) (kl := zs_lM) hJ.1.1.2.1) (x1 := a0) (x2 := a1)
  exact ⟨r, r2.1, r2.2, e1, e2, zK_keep (zs_rf hJ.1.1.1) (h2.1.2) hJ⟩
theorem zz_21 : st_21 zK zK := by
  intro σ τ a0 hJ
  obtain ⟨r, e1, h1⟩ := zc_199 (zs_rf (key := zs_kC) (kl := zs_lC) hJ.1.1.1) (x1 := a0)
  obtain ⟨r2, e2, h2⟩ := zc_211 (zs_rf (key := zs_kM) (kl := zs_lM) hJ.1.1.2.1) (x1 := a0)
  exact ⟨r, r2.1, r2.2, e1, e2, zK_keep (zs_rf hJ.1.1.1) (h2.1.2) hJ⟩
theorem zz_22 : st_22 zK zK := by
  intro σ τ hJ
  obtain ⟨r, e1, h1⟩ := zc_215 (zs_rf (key := zs_kC) (kl := zs_lC) hJ.1.1.1) 
  obtain ⟨r2, e2, h2⟩ := zc_220 (zs_rf (key := zs_kM) (kl := zs_lM) hJ.1.1.2.1) 
  exact ⟨r, r2.1, r2.2, e1, e2, zK_keep (zs_rf hJ.1.1.1) (h2.2) hJ⟩
theorem zz_23 : st_23 zK zK := by
  intro σ τ a0 hJ
  obtain ⟨r, e1, h1⟩ := zc_225 (zs_rf (key := zs_kC) (kl := zs_lC) hJ.1.1.1) (x1 := a0)
  obtain ⟨r2, e2, h2⟩ := zc_228 (zs_rf (key := zs_kM) (kl := zs_lM) hJ.1.1.2.1) (x1 := a0)
  exact ⟨r, r2.1, r2.2, e1, e2, zK_keep (zs_rf hJ.1.1.1) (h2.1.2) hJ⟩
theorem zz_24 : st_24 zK zK := by
  intro σ τ a0 hJ
  obtain ⟨r, e1, h1⟩ := zc_238 (zs_rf (key := zs_kC) (kl := zs_lC) hJ.1.1.1) (x1 := a0)
  obtain ⟨r2, e2, h2⟩ := zc_263 (zs_rf (key := zs_kM) (kl := zs_lM) hJ.1.1.2.1) (x1 := a0)
  exact ⟨r.1, r2.1, r.2, r2.2, e1, e2, zK_keep (h1.2) (h2.2) hJ⟩
theorem zz_25 : st_25 zK zK := by
  intro σ τ hJ
  obtain ⟨r, e1, h1⟩ := zc_276 (zs_rf (key := zs_kC) (kl := zs_lC) hJ.1.1.1) 
  obtain ⟨r2, e2, h2⟩ := zc_313 (zs_rf (key := zs_kM) (kl := zs_lM) hJ.1.1.2.1) 
  exact ⟨r.1, r2.1, r.2, r2.2, e1, e2, zK_keep (h1.2) (h2.2) hJ⟩
theorem zz_26 : st_26 zK zK := by
  intro σ τ a0 hJ
  obtain ⟨r, e1, h1⟩ := zc_353 (zs_rf (key := zs_kC) (kl := zs_lC) hJ.1.1.1) (x1 := a0)
  obtain ⟨r2, e2, h2⟩ := zA_70 (zs_rf (key := zs_kM0) (kl := zs_lM) hJ.1.1.2.1) (x1 := a0)
  exact ⟨r.1, r2.1, r.2, r2.2, e1, e2, zK_keep0 (h1.1.2) (h2.1.2) (qb_dull hJ.1.1.2.1 e2) hJ⟩
theorem zz_27 : st_27 zK zK := by
  intro σ τ a0 hJ
  obtain ⟨r, e1, h1⟩ := zc_358 (zs_rf (key := zs_kC) (kl := zs_lC) hJ.1.1.1) (x1 := a0)
  obtain ⟨r2, e2, h2⟩ := zA_79 (zs_rf (key := zs_kM0) (kl := zs_lM) hJ.1.1.2.1) (x1 := a0)
  exact ⟨r.1, r2.1, r.2, r2.2, e1, e2, zK_keep0 (h1.1.2) (h2.1.2) (qb_bears hJ.1.1.2.1 e2) hJ⟩
theorem zz_28 : st_28 zK zK := by
  intro σ τ hJ
  obtain ⟨r, e1, h1⟩ := zc_366 (zs_rf (key := zs_kC) (kl := zs_lC) hJ.1.1.1) 
  obtain ⟨r2, e2, h2⟩ := zA_94 (zs_rf (key := zs_kM0) (kl := zs_lM) hJ.1.1.2.1) 
  exact ⟨r.1, r2.1, r.2, r2.2, e1, e2, zK_keep0 (h1.2) (h2.2) (qb_clean hJ.1.1.2.1 e2) hJ⟩
theorem zz_29 : st_29 zK zK := by
  intro σ τ a0 hJ
  obtain ⟨r, e1, h1⟩ := zc_370 (zs_rf (key := zs_kC) (kl := zs_lC) hJ.1.1.1) (x1 := a0)
  obtain ⟨r2, e2, h2⟩ := zc_378 (zs_rf (key := zs_kM) (kl := zs_lM) hJ.1.1.2.1) (x1 := a0)
  exact ⟨r.1, r2.1, r.2, r2.2, e1, e2, zK_keep (h1.1.2) (h2.1.2) hJ⟩
theorem zz_30 : st_30 zK zK := by
  intro σ τ a0 hJ
  obtain ⟨r, e1, h1⟩ := zc_384 (zs_rf (key := zs_kC) (kl := zs_lC) hJ.1.1.1) (x1 := a0)
  obtain ⟨r2, e2, h2⟩ := zc_397 (zs_rf (key := zs_kM) (kl := zs_lM) hJ.1.1.2.1) (x1 := a0)
  exact ⟨r, r2.1, r2.2, e1, e2, zK_keep (zs_rf hJ.1.1.1) (h2.1.2) hJ⟩
theorem zz_31 : st_31 zK zK := by
  intro σ τ a0 hJ
  obtain ⟨r, e1, h1⟩ := zc_398 (zs_rf (key := zs_kC) (kl := zs_lC) hJ.1.1.1) (x1 := a0)
  obtain ⟨r2, e2, h2⟩ := zc_399 (zs_rf (key := zs_kM) (kl := zs_lM) hJ.1.1.2.1) (x1 := a0)
  exact ⟨r.1, r2.1, r.2, r2.2, e1, e2, zK_keep (h1.1.2) (h2.1.2) hJ⟩
theorem zz_32 : st_32 zK zK := by
  intro σ τ a0 hJ
  obtain ⟨r, e1, h1⟩ := zc_400 (zs_rf (key := zs_kC) (kl := zs_lC) hJ.1.1.1) (x1 := a0)
  obtain ⟨r2, e2, h2⟩ := zc_401 (zs_rf (key := zs_kM) (kl := zs_lM) hJ.1.1.2.1) (x1 := a0)
  exact ⟨r.1, r2.1, r.2, r2.2, e1, e2, zK_keep (h1.1.2) (h2.1.2) hJ⟩
theorem zz_33 : st_33 zK zK := by
  intro σ τ hJ
  obtain ⟨r, e1, h1⟩ := zc_405 (zs_rf (key := zs_kC) (kl := zs_lC) hJ.1.1.1) 
  obtain ⟨r2, e2, h2⟩ := zc_410 (zs_rf (key := zs_kM) (kl := zs_lM) hJ.1.1.2.1) 
  exact ⟨r.1, r2.1, r.2, r2.2, e1, e2, zK_keep (h1.2) (h2.2) hJ⟩
theorem zz_34 : st_34 zK zK := by
  intro σ τ a0 hJ
  obtain ⟨r, e1, h1⟩ := zc_411 (zs_rf (key := zs_kC) (kl := zs_lC) hJ.1.1.1) (x1 := a0)
  obtain ⟨r2, e2, h2⟩ := zc_412 (zs_rf (key := zs_kM) (kl := zs_lM) hJ.1.1.2.1) (x1 := a0)
  exact ⟨r.1, r2.1, r.2, r2.2, e1, e2, zK_keep (h1.2) (h2.2) hJ⟩
theorem zz_35 : st_35 zK zK := by
  intro σ τ hJ
  obtain ⟨r, e1, h1⟩ := zc_416 (zs_rf (key := zs_kC) (kl := zs_lC) hJ.1.1.1) 
  obtain ⟨r2, e2, h2⟩ := zc_420 (zs_rf (key := zs_kM) (kl := zs_lM) hJ.1.1.2.1) 
  exact ⟨r.1, r2.1, r.2, r2.2, e1, e2, zK_keep (h1.2) (h2.2) hJ⟩
theorem zz_36 : st_36 zK zK := by
  intro σ τ hJ
  obtain ⟨r, e1, h1⟩ := zc_425 (zs_rf (key := zs_kC) (kl := zs_lC) hJ.1.1.1) 
  obtain ⟨r2, e2, h2⟩ := zc_430 (zs_rf (key := zs_kM) (kl := zs_lM) hJ.1.1.2.1) 
  exact ⟨r.1, r2.1, r.2, r2.2, e1, e2, zK_keep (h1.2) (h2.2) hJ⟩
theorem zz_37 : st_37 zK zK := by
  intro σ τ hJ
  obtain ⟨r, e1, h1⟩ := zc_434 (zs_rf (key := zs_kC) (kl := zs_lC) hJ.1.1.1) 
  obtain ⟨r2, e2, h2⟩ := zh_reserve (zs_rf (key := zs_kM) (kl := zs_lM) hJ.1.1.2.1)
  exact ⟨r.1, r2.1, r.2, r2.2, e1, e2, zK_keep (h1.2) (h2) hJ⟩
theorem zz_38 : st_38 zK zK := by
  intro σ τ a0 hJ
  obtain ⟨r, e1, h1⟩ := zc_437 (zs_rf (key := zs_kC) (kl := zs_lC) hJ.1.1.1) (x1 := a0)
  obtain ⟨r2, e2, h2⟩ := zc_446 (zs_rf (key := zs_kM) (kl := zs_lM) hJ.1.1.2.1) (x1 := a0)
  exact ⟨r.1, r2.1, r.2, r2.2, e1, e2, zK_keep (h1.2) (h2.2) hJ⟩
theorem zz_39 : st_39 zK zK := by
  intro σ τ hJ
  obtain ⟨r, e1, h1⟩ := zc_457 (zs_rf (key := zs_kC) (kl := zs_lC) hJ.1.1.1) 
  obtain ⟨r2, e2, h2⟩ := zc_463 (zs_rf (key := zs_kM) (kl := zs_lM) hJ.1.1.2.1) 
  exact ⟨r.1, r2.1, r.2, r2.2, e1, e2, zK_keep (h1.2) (h2.2) hJ⟩
theorem zz_40 : st_40 zK zK := by
  intro σ τ a0 hJ
  obtain ⟨r, e1, h1⟩ := zc_471 (zs_rf (key := zs_kC) (kl := zs_lC) hJ.1.1.1) (x1 := a0)
  obtain ⟨r2, e2, h2⟩ := zc_478 (zs_rf (key := zs_kM) (kl := zs_lM) hJ.1.1.2.1) (x1 := a0)
  exact ⟨r, r2.1, r2.2, e1, e2, zK_keep (zs_rf hJ.1.1.1) (h2.1.2) hJ⟩
theorem zz_41 : st_41 zK zK := by
  intro σ τ a0 hJ
  obtain ⟨r, e1, h1⟩ := zc_479 (zs_rf (key := zs_kC) (kl := zs_lC) hJ.1.1.1) (x1 := a0)
  obtain ⟨r2, e2, h2⟩ := zc_480 (zs_rf (key := zs_kM) (kl := zs_lM) hJ.1.1.2.1) (x1 := a0)
  exact ⟨r, r2.1, r2.2, e1, e2, zK_keep (zs_rf hJ.1.1.1) (h2.1.2) hJ⟩
theorem zz_42 : st_42 zK zK := by
  intro σ τ a0 hJ
  obtain ⟨r, e1, h1⟩ := zc_489 (zs_rf (key := zs_kC) (kl := zs_lC) hJ.1.1.1) (x1 := a0)
  obtain ⟨r2, e2, h2⟩ := zr_price hJ.1.1.2.1 a0
  exact ⟨r, r2.1, r2.2, e1, e2, zK_keep (zs_rf hJ.1.1.1) (h2) hJ⟩
theorem zz_43 : st_43 zK zK := by
  intro σ τ a0 hJ
  obtain ⟨r, e1, h1⟩ := zc_511 (zs_rf (key := zs_kC) (kl := zs_lC) hJ.1.1.1) (x1 := a0)
  obtain ⟨r2, e2, h2⟩ := zc_527 (zs_rf (key := zs_kM) (kl := zs_lM) hJ.1.1.2.1) (x1 := a0)
  exact ⟨r.1, r2.1, r.2, r2.2, e1, e2, zK_keep (h1.1.2) (h2.1.2) hJ⟩
theorem zz_44 : st_44 zK zK := by
  intro σ τ a0 hJ
  obtain ⟨r, e1, h1⟩ := zc_529 (zs_rf (key := zs_kC) (kl := zs_lC) hJ.1.1.1) (x1 := a0)
  obtain ⟨r2, e2, h2⟩ := zc_530 (zs_rf (key := zs_kM) (kl := zs_lM) hJ.1.1.2.1) (x1 := a0)
  exact ⟨r.1, r2.1, r.2, r2.2, e1, e2, zK_keep (h1.1.2) (h2.1.2) hJ⟩
theorem zz_45 : st_45 zK zK := by
  intro σ τ a0 hJ
  obtain ⟨r, e1, h1⟩ := zc_543 (zs_rf (key := zs_kC) (kl := zs_lC) hJ.1.1.1) (x1 := a0)
  obtain ⟨r2, e2, h2⟩ := zc_549 (zs_rf (key := zs_kM) (kl := zs_lM) hJ.1.1.2.1) (x1 := a0)
  exact ⟨r.1, r2.1, r.2, r2.2, e1, e2, zK_keep (h1.1.2) (h2.1.2) hJ⟩
theorem zz_46 : st_46 zK zK := by
  intro σ τ a0 hJ
  obtain ⟨r, e1, h1⟩ := zc_550 (zs_rf (key := zs_kC) (kl := zs_lC) hJ.1.1.1) (x1 := a0)
  obtain ⟨r2, e2, h2⟩ := zc_551 (zs_rf (key := zs_kM) (kl := zs_lM) hJ.1.1.2.1) (x1 := a0)
  exact ⟨r.1, r2.1, r.2, r2.2, e1, e2, zK_keep (h1.1.2) (h2.1.2) hJ⟩
theorem zz_47 : st_47 zK zK := by
  intro σ τ a0 hJ
  obtain ⟨r, e1, h1⟩ := zc_579 (zs_rf (key := zs_kC) (kl := zs_lC) hJ.1.1.1) (x1 := a0)
  obtain ⟨r2, e2, h2⟩ := zc_1500 (zs_rf (key := zs_kM) (kl := zs_lM) hJ.1.1.2.1) (x1 := a0)
  exact ⟨r.1, r2.1, r.2, r2.2, e1, e2, zK_keep (h1.1.2) (h2.2) hJ⟩
theorem zz_48 : st_48 zK zK := by
  intro σ τ a0 hJ
  obtain ⟨r, e1, h1⟩ := zc_580 (zs_rf (key := zs_kC) (kl := zs_lC) hJ.1.1.1) (x1 := a0)
  obtain ⟨r2, e2, h2⟩ := zc_1503 (zs_rf (key := zs_kM) (kl := zs_lM) hJ.1.1.2.1) (x1 := a0)
  exact ⟨r.1, r2.1, r.2, r2.2, e1, e2, zK_keep (h1.1.2) (h2.2) hJ⟩
theorem zz_49 : st_49 zK zK := by
  intro σ τ a0 hJ
  obtain ⟨r, e1, h1⟩ := zc_581 (zs_rf (key := zs_kC) (kl := zs_lC) hJ.1.1.1) (x1 := a0)
  obtain ⟨r2, e2, h2⟩ := zc_1504 (zs_rf (key := zs_kM) (kl := zs_lM) hJ.1.1.2.1) (x1 := a0)
  exact ⟨r.1, r2.1, r.2, r2.2, e1, e2, zK_keep (h1.1.2) (h2.2) hJ⟩
theorem zz_50 : st_50 zK zK := by
  intro σ τ a0 hJ
  obtain ⟨r, e1, h1⟩ := zc_590 (zs_rf (key := zs_kC) (kl := zs_lC) hJ.1.1.1) (x1 := a0)
  obtain ⟨r2, e2, h2⟩ := zc_1516 (zs_rf (key := zs_kM) (kl := zs_lM) hJ.1.1.2.1) (x1 := a0)
  exact ⟨r.1, r2.1, r.2, r2.2, e1, e2, zK_keep (h1.1.2) (h2.2) hJ⟩
theorem zz_51 : st_51 zK zK := by
  intro σ τ a0 hJ
  obtain ⟨r, e1, h1⟩ := zc_591 (zs_rf (key := zs_kC) (kl := zs_lC) hJ.1.1.1) (x1 := a0)
  obtain ⟨r2, e2, h2⟩ := zc_1517 (zs_rf (key := zs_kM) (kl := zs_lM) hJ.1.1.2.1) (x1 := a0)
  exact ⟨r.1, r2.1, r.2, r2.2, e1, e2, zK_keep (h1.1.2) (h2.2) hJ⟩
theorem zz_52 : st_52 zK zK := by
  intro σ τ a0 a1 hJ
  obtain ⟨r, e1, h1⟩ := zc_606 (zs_rf (key := zs_kC) (kl := zs_lC) hJ.1.1.1) (x1 := a0) (x2 := a1)
  obtain ⟨r2, e2, h2⟩ := zc_642 (zs_rf (key := zs_kM) (kl := zs_lM) hJ.1.1.2.1) (x1 := a0) (x2 := a1)
  exact ⟨r.1, r2.1, r.2, r2.2, e1, e2, zK_keep (h1.1.2) (h2.1.2) hJ⟩
theorem zz_53 : st_53 zK zK := by
  intro σ τ a0 a1 a2 a3 hJ
  obtain ⟨r, e1, h1⟩ := zc_643 (zs_rf (key := zs_kC) (kl := zs_lC) hJ.1.1.1) (x1 := a0) (x2 := a1) (x3 := a2) (x4 := a3)
  obtain ⟨r2, e2, h2⟩ := zc_651 (zs_rf (key := zs_kM) (kl := zs_lM) hJ.1.1.2.1) (x1 := a0) (x2 := a1) (x3 := a2) (x4 := a3)
  exact ⟨r.1, r2.1, r.2, r2.2, e1, e2, zK_keep (h1.1.2) (h2.1.2) hJ⟩
theorem zz_54 : st_54 zK zK := by
  intro σ τ a0 hJ
  obtain ⟨r, e1, h1⟩ := zc_654 (zs_rf (key := zs_kC) (kl := zs_lC) hJ.1.1.1) (x1 := a0)
  obtain ⟨r2, e2, h2⟩ := zc_657 (zs_rf (key := zs_kM) (kl := zs_lM) hJ.1.1.2.1) (x1 := a0)
  exact ⟨r.1, r2.1, r.2, r2.2, e1, e2, zK_keep (h1.1.2) (h2.1.2) hJ⟩
theorem zz_55 : st_55 zK zK := by
  intro σ τ hJ
  obtain ⟨r, e1, h1⟩ := zc_662 (zs_rf (key := zs_kC) (kl := zs_lC) hJ.1.1.1) 
  obtain ⟨r2, e2, h2⟩ := zc_667 (zs_rf (key := zs_kM) (kl := zs_lM) hJ.1.1.2.1) 
  exact ⟨r.1, r2.1, r.2, r2.2, e1, e2, zK_keep (h1.2) (h2.2) hJ⟩
theorem zz_56 : st_56 zK zK := by
  intro σ τ a0 a1 a2 hJ
  obtain ⟨r, e1, h1⟩ := zc_1112 (zs_rf (key := zs_kC) (kl := zs_lC) hJ.1.1.1) (x1 := a0) (x2 := a1) (x3 := a2)
  obtain ⟨r2, e2, h2⟩ := zq_chance hJ.1.1.2.1 a0 a1 a2
  exact ⟨r.1, r2.1, r.2, r2.2, e1, e2, zK_keep (h1.1.2) (h2) hJ⟩
theorem zz_57 : st_57 zK zK := by
  intro σ τ a0 a1 a2 hJ
  obtain ⟨r, e1, h1⟩ := zc_1235 (zs_rf (key := zs_kC) (kl := zs_lC) hJ.1.1.1) (x1 := a0) (x2 := a1) (x3 := a2)
  obtain ⟨r2, e2, h2⟩ := zq_fair hJ.1.1.2.1 a0 a1 a2
  exact ⟨r.1, r2.1, r.2, r2.2, e1, e2, zK_keep (h1.1.2) (h2) hJ⟩
theorem zz_58 : st_58 zK zK := by
  intro σ τ a0 a1 hJ
  obtain ⟨r, e1, h1⟩ := zc_1445 (zs_rf (key := zs_kC) (kl := zs_lC) hJ.1.1.1) (x1 := a0) (x2 := a1)
  obtain ⟨r2, e2, h2⟩ := zq_risk hJ.1.1.2.1 a0 a1
  exact ⟨r.1, r2.1, r.2, r2.2, e1, e2, zK_keep (h1.1.2) (h2) hJ⟩
theorem zz_59 : st_59 zK zK := by
  intro σ τ a0 a1 hJ
  obtain ⟨r, σ1, τ1, e1, e2, h⟩ := zK_59 σ τ a0 a1 hJ
  exact ⟨r, r, σ1, τ1, e1, e2, h⟩
theorem zz_60 : st_60 zK zK := by
  intro σ τ a0 a1 hJ
  obtain ⟨r, σ1, τ1, e1, e2, h⟩ := zK_60 σ τ a0 a1 hJ
  exact ⟨r, r, σ1, τ1, e1, e2, h⟩
theorem zz_61 : st_61 zK zK := by
  intro σ τ hJ
  obtain ⟨r, σ1, τ1, e1, e2, h⟩ := zK_61 σ τ hJ
  exact ⟨r, r, σ1, τ1, e1, e2, h⟩
theorem zz_62 : st_62 zK zK := by
  intro σ τ hJ
  obtain ⟨r, σ1, τ1, e1, e2, h⟩ := zK_62 σ τ hJ
  exact ⟨r, r, σ1, τ1, e1, e2, h⟩
theorem zz_63 : st_63 zK zK := by
  intro σ τ a0 a1 hJ
  obtain ⟨r, e1, h1⟩ := zc_1452 (zs_rf (key := zs_kC) (kl := zs_lC) hJ.1.1.1) (x1 := a0) (x2 := a1)
  obtain ⟨r2, e2, h2⟩ := zc_1460 (zs_rf (key := zs_kM) (kl := zs_lM) hJ.1.1.2.1) (x1 := a0) (x2 := a1)
  exact ⟨r.1, r2.1, r.2, r2.2, e1, e2, zK_keep (h1.1.2) (h2.1.2) hJ⟩
theorem zz_64 : st_64 zK zK := by
  intro σ τ a0 a1 a2 hJ
  obtain ⟨r, e1, h1⟩ := zc_1465 (zs_rf (key := zs_kC) (kl := zs_lC) hJ.1.1.1) (x1 := a0) (x2 := a1) (x3 := a2)
  obtain ⟨r2, e2, h2⟩ := zc_1472 (zs_rf (key := zs_kM) (kl := zs_lM) hJ.1.1.2.1) (x1 := a0) (x2 := a1) (x3 := a2)
  have q : r.1 = r2.1 := yz_64 hJ _ _ e1 e2
  exact ⟨r.1, r.2, r2.2, e1, (e2.trans (show some r2 = some (r.1, r2.2) by rw [q])), zK_keep (h1.1.2) (h2.1.2) hJ⟩
theorem zz_65 : st_65 zK zK := by
  intro σ τ a0 a1 hJ
  obtain ⟨r, σ1, τ1, e1, e2, h⟩ := zK_65 σ τ a0 a1 hJ
  exact ⟨r, r, σ1, τ1, e1, e2, h⟩
theorem zz_66 : st_66 zK zK := by
  intro σ τ a0 hJ
  obtain ⟨r, e1, e2⟩ := zJ_66 σ τ a0 hJ.1
  exact ⟨r, r, e1, e2, hJ⟩
theorem zz_67 : st_67 zK zK := by
  intro σ τ a0 hJ
  obtain ⟨r, σ1, τ1, e1, e2, h⟩ := zK_67 σ τ a0 hJ
  exact ⟨r, r, σ1, τ1, e1, e2, h⟩
theorem zz_68 : st_68 zK zK := by
  intro σ τ a0 hJ
  obtain ⟨r, σ1, τ1, e1, e2, h⟩ := zK_68 σ τ a0 hJ
  exact ⟨r, r, σ1, τ1, e1, e2, h⟩
theorem zz_69 : st_69 zK zK := by
  intro σ τ a0 a1 a2 hJ
  obtain ⟨r, σ1, τ1, e1, e2, h⟩ := zK_69 σ τ a0 a1 a2 hJ
  exact ⟨r, r, σ1, τ1, e1, e2, h⟩
theorem zz_70 : st_70 zK zK := by
  intro σ τ a0 a1 a2 hJ
  obtain ⟨r, σ1, τ1, e1, e2, h⟩ := zK_70 σ τ a0 a1 a2 hJ
  exact ⟨r, r, σ1, τ1, e1, e2, h⟩
theorem zz_71 : st_71 zK zK := by
  intro σ τ a0 a1 a2 a3 a4 hJ
  obtain ⟨r, σ1, τ1, e1, e2, h⟩ := zK_71 σ τ a0 a1 a2 a3 a4 hJ
  exact ⟨r, r, σ1, τ1, e1, e2, h⟩
theorem zJ_ini : zJ sn_iniX8 sn_iniX9 := by
  have z0 : (0 : Int32).toInt = 0 := by decide
  have H : ∀ (h : Nat) (w : Nat → Int32), (∀ k, sn_iniX8.1 (h + 1) k = 0) → (∀ k, k < 11 → w k = 0) → rr_H h sn_iniX8 w := by
    intro h w h1 hw
    unfold rr_H
    rw [h1 5, h1 6, h1 7, h1 8, h1 9, z0]
    exact ⟨fun k hk => by rw [h1 k, hw k hk], fun i hi => absurd hi (by omega), fun i hi => absurd hi (by omega), fun i hi => absurd hi (by omega), fun i hi => absurd hi (by omega), fun i hi => absurd hi (by omega)⟩
  refine ⟨zj_ini, H 1 _ (fun k => rfl) (fun k _ => rfl), fun j hj => H _ _ (fun k => ?_) (fun k _ => rfl)⟩
  match j, hj with
  | 0, _ => rfl
  | 1, _ => rfl
  | 2, _ => rfl
theorem zK_ini : zK sn_iniX8 sn_iniX9 := by
  refine ⟨zJ_ini, ⟨jW_0 (fun _ => rfl), yH_0 (fun _ => rfl) (fun k => rfl)⟩, fun j hj => ⟨jW_0 (fun _ => rfl), yH_0 (fun _ => rfl) (fun k => ?_)⟩, yD_0 (fun _ => rfl) rfl rfl rfl rfl (fun m => rfl)⟩
  match j, hj with
  | 0, _ => rfl
  | 1, _ => rfl
  | 2, _ => rfl
theorem sn_pure : ∃ J : Nat → sn_S → sn_S → Prop, J 0 sn_iniX8 sn_iniX9 ∧ (∀ k, k + 6 ≤ 3072 → st_all (J k) (J (k + 6))) ∧ ∀ k, k + 6 ≤ 3072 → ∀ σ τ, J k σ τ → J (k + 6) σ τ := by
  refine ⟨fun _ => zK, zK_ini, fun _ _ => ⟨zz_0, zz_1, zz_2, zz_3, zz_4, zz_5, zz_6, zz_7, zz_8, zz_9, zz_10, zz_11, zz_12, zz_13, zz_14, zz_15, zz_16, zz_17, zz_18, zz_19, zz_20, zz_21, zz_22, zz_23, zz_24, zz_25, zz_26, zz_27, zz_28, zz_29, zz_30, zz_31, zz_32, zz_33, zz_34, zz_35, zz_36, zz_37, zz_38, zz_39, zz_40, zz_41, zz_42, zz_43, zz_44, zz_45, zz_46, zz_47, zz_48, zz_49, zz_50, zz_51, zz_52, zz_53, zz_54, zz_55, zz_56, zz_57, zz_58, zz_59, zz_60, zz_61, zz_62, zz_63, zz_64, zz_65, zz_66, zz_67, zz_68, zz_69, zz_70, zz_71⟩, fun _ _ _ _ h => h⟩
end
