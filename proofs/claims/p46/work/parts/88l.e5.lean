/-! claims, both sides -/
def yn_sum (f : Nat → Nat) : Nat → Nat
  | 0 => 0
  | n + 1 => yn_sum f n + f n
theorem yn_up {f g : Nat → Nat} {m a : Nat} (hm : g m = f m + a) (ho : ∀ k, k ≠ m → g k = f k) : ∀ n, yn_sum g n = yn_sum f n + if m < n then a else 0 := by
  intro n
  induction n with
  | zero => rfl
  | succ n ih =>
    show yn_sum g n + g n = yn_sum f n + f n + _
    rw [ih]
    by_cases e : m = n
    · subst e
      rw [hm, if_neg (by omega), if_pos (by omega)]
      omega
    · rw [ho n (by omega)]
      by_cases c : m < n
      · rw [if_pos c, if_pos (by omega)]; omega
      · rw [if_neg c, if_neg (by omega)]; omega
theorem yn_sumle {f : Nat → Nat} {b : Nat} : ∀ n, (∀ k, k < n → f k ≤ b) → yn_sum f n ≤ n * b := by
  intro n
  induction n with
  | zero => intro _; exact Nat.zero_le _
  | succ n ih =>
    intro h
    have h1 := ih (fun k hk => h k (by omega))
    have h2 := h n (by omega)
    show yn_sum f n + f n ≤ _
    rw [Nat.succ_mul]
    omega
def yl_fst (x : Int32) : Nat → Int32
  | 0 => -1
  | n + 1 => if yl_fst x n = -1 ∧ sp_bit x n = true then nI n else yl_fst x n
theorem yl_ne {k : Nat} (h : k < 100) : nI k ≠ -1 := by
  intro e
  have h1 := nI_toInt (show k < 2 ^ 31 by omega)
  rw [e, show (-1 : Int32).toInt = -1 by decide] at h1
  omega
theorem yl_F0 (x : Int32) : ∀ n, n ≤ 32 → (yl_fst x n = -1 ∧ ∀ k, k < n → sp_bit x k = false) ∨ ∃ k, k < n ∧ sp_bit x k = true ∧ (∀ j, j < k → sp_bit x j = false) ∧ yl_fst x n = nI k := by
  intro n
  induction n with
  | zero => intro _; exact Or.inl ⟨rfl, fun k hk => absurd hk (by omega)⟩
  | succ n ih =>
    intro hn
    have e : yl_fst x (n + 1) = if yl_fst x n = -1 ∧ sp_bit x n = true then nI n else yl_fst x n := rfl
    rcases ih (by omega) with ⟨h1, h2⟩ | ⟨k, h1, h2, h3, h4⟩
    · cases c : sp_bit x n with
      | true => exact Or.inr ⟨n, by omega, c, h2, by rw [e, if_pos ⟨h1, c⟩]⟩
      | false =>
        refine Or.inl ⟨?_, fun k hk => ?_⟩
        · rw [e, if_neg (fun h => by rw [c] at h; exact absurd h.2 (by decide))]
          exact h1
        · by_cases g : k = n
          · rw [g]; exact c
          · exact h2 k (by omega)
    · refine Or.inr ⟨k, by omega, h2, h3, ?_⟩
      rw [e, if_neg (fun h => yl_ne (by omega) (h4.symm.trans h.1))]
      exact h4
theorem yl_F (x : Int32) : yb_F x 0 (yl_fst x 30) := by
  rcases yl_F0 x 30 (by decide) with ⟨h1, h2⟩ | ⟨k, h1, h2, h3, h4⟩
  · exact Or.inl ⟨h1, fun k _ hk => h2 k hk⟩
  · exact Or.inr ⟨k, Nat.zero_le _, h1, h2, fun j _ hj => h3 j hj, h4⟩
/-- one bit fewer -/
theorem yb_pop1 {x y : Int32} {m : Nat} (hm : sp_bit x m = true) (h : ∀ k, k < 32 → sp_bit y k = (sp_bit x k && !decide (k = m))) : ∀ n, n ≤ 32 → yb_pop y n + (if m < n then 1 else 0) = yb_pop x n := by
  intro n
  induction n with
  | zero => intro _; rfl
  | succ n ih =>
    intro hn
    have e := ih (by omega)
    show yb_pop y n + (if sp_bit y n = true then 1 else 0) + _ = yb_pop x n + (if sp_bit x n = true then 1 else 0)
    rw [h n (by omega), ← e]
    by_cases c : n = m
    · subst c
      rw [decide_eq_true rfl, hm, if_neg (by decide), if_pos (by omega), if_neg (by omega), if_pos rfl]
    · rw [decide_eq_false c, Bool.not_false, Bool.and_true]
      by_cases g : m < n
      · rw [if_pos g, if_pos (show m < n + 1 by omega)]; omega
      · rw [if_neg g, if_neg (show ¬ m < n + 1 by omega), Nat.add_zero, Nat.add_zero]
theorem yb_popge {x : Int32} {k : Nat} (h : sp_bit x k = true) : ∀ n, k < n → 1 ≤ yb_pop x n := by
  intro n
  induction n with
  | zero => intro g; exact absurd g (by omega)
  | succ n ih =>
    intro g
    show 1 ≤ yb_pop x n + (if sp_bit x n = true then 1 else 0)
    by_cases e : k = n
    · subst e
      rw [if_pos h]
      omega
    · have := ih (by omega)
      omega
theorem yb_pop0 {n : Nat} : yb_pop 0 n ≤ 0 ∨ 32 ≤ n := by
  rcases Nat.lt_or_ge n 32 with c | c
  · exact Or.inl (Nat.le_of_eq (yb_popz n (fun k hk => yb_z k (by omega))))
  · exact Or.inr c
def yl_A (r : Int32) : Int32 := ((1 : Int32) <<< (r &&& 31)) - 1
/-- the sneezes by which a policy pays, of those in s -/
def yl_C (w : Nat → Int32) (l : Int32) (q : Nat) (s : Int32) : Int32 := dy_set (fun k => sp_bit s k && yl_w w q k && (!decide (l = 1) || !sp_bit (hs_gust w (sp_n w 6)) k)) 32
/-- what one sneeze brings -/
def yl_a (w : Nat → Int32) (l : Int32) (q : Nat) (s h : Int32) : Nat := if l = 3 ∧ ¬ h &&& (yl_A (yl_fst (yl_C w l q s) 30) &&& dy_set (yl_w w q) 32) = 0 then sp_n w (52 + 5 * q) / 2 else sp_n w (52 + 5 * q)
def yl_v (w : Nat → Int32) (l : Int32) (q : Nat) (s h : Int32) : Nat := min (if l = 2 then 3 else 1) (yb_pop (yl_C w l q s) 30) * yl_a w l q s h
section
variable {σ τ u z : sn_S} {w : Nat → Int32} {q : Nat} {l s h : Int32}
theorem yl_Cb {k : Nat} (hk : k < 32) : sp_bit (yl_C w l q s) k = (sp_bit s k && yl_w w q k && (!decide (l = 1) || !sp_bit (hs_gust w (sp_n w 6)) k)) := yb_Vb hk
theorem yl_Cs {k M : Nat} (hs : ∀ k, M ≤ k → k < 32 → sp_bit s k = false) (h1 : M ≤ k) (hk : k < 32) : sp_bit (yl_C w l q s) k = false := by
  rw [yl_Cb hk, hs k h1 hk]
  rfl
theorem yl_ale : yl_a w l q s h ≤ sp_n w (52 + 5 * q) := by
  unfold yl_a
  by_cases c : l = 3 ∧ ¬ h &&& (yl_A (yl_fst (yl_C w l q s) 30) &&& dy_set (yl_w w q) 32) = 0
  · rw [if_pos c]; omega
  · rw [if_neg c]; omega
theorem yl_vle (hW : jW w) (hq : q < sp_n w 8) : yl_v w l q s h ≤ 297 := by
  have h1 := (yl_p hW hq).2.2.2.2.1.2
  have h2 : yl_a w l q s h ≤ sp_n w (52 + 5 * q) := yl_ale
  have h3 : min (if l = 2 then 3 else 1) (yb_pop (yl_C w l q s) 30) ≤ 3 := Nat.le_trans (Nat.min_le_left _ _) (by by_cases c : l = 2 <;> simp [c])
  exact Nat.le_trans (Nat.mul_le_mul h3 (Nat.le_trans h2 h1)) (by decide)
theorem yc_gust (hW : jW w) (hH : yH 1 σ w) : yp (fX2_gustMinutes σ 1) (fun v => v = hs_gust w (sp_n w 6)) := by
  obtain ⟨g1, g2⟩ : yh_n w 6 5 := hW.1.2.2.2.2.2.2.1
  have e6 : sn_I σ (1 + 1) (6 : Int32).toNatClampNeg = nI (sp_n w 6) := (hH.1 6 (by decide)).trans g1
  unfold fX2_gustMinutes
  refine yp_bd (fun v => v = hs_gust w (sp_n w 6)) (yp_for (sp_n w 6) (fun n s => s.2 = nI n ∧ s.1 = hs_gust w n) (fun n s hn hs => ?_) (fun s hs => ?_) ⟨nI_0.symm, rfl⟩) (fun v hv => ?_)
  · obtain ⟨v, x⟩ := s
    obtain ⟨ex, ev⟩ := hs
    have ex : x = nI n := ex
    have ev : v = _ := ev
    subst ex
    subst ev
    have e1 : sn_I σ (1 + 3) ((2 : Int32) * nI n + (1 : Int32)).toNatClampNeg = nI (sp_n w (24 + 2 * n)) := by
      rw [yi_2, nI_1, nI_clamp (by omega)]
      exact (hH.2.2.1 (2 * n + 1) (by omega)).trans ((congrArg w (by omega)).trans (hW.2.2.2.2.1 n hn).2.1)
    show yp (BX2_gustMinutes_4 σ 1 _ (nI n)) _
    unfold BX2_gustMinutes_4
    rw [e6, if_neg (nI_ge hn (by omega)), e1]
    exact yp_gd (fun _ => yp_gd (fun _ => yp_lt (yp_lt (yp_some ⟨nI_1 n, rfl⟩))))
  · obtain ⟨v, x⟩ := s
    obtain ⟨ex, ev⟩ := hs
    have ex : x = nI (sp_n w 6) := ex
    subst ex
    show yp (BX2_gustMinutes_4 σ 1 v (nI (sp_n w 6))) _
    unfold BX2_gustMinutes_4
    rw [e6, if_pos (nI_le (Nat.le_refl _) (by omega))]
    exact yp_gd (fun _ => yp_some ev)
  · unfold BX2_gustMinutes_36
    exact yp_some hv
theorem yc_count (hW : jW w) (hH : yH 1 σ w) (hq : q < sp_n w 8) : yp (fX3_counting σ 1 l (nI q) s) (fun v => v = yl_C w l q s) := by
  unfold fX3_counting
  refine yp_bd _ (yc_win hW hH hq) (fun t ht => yp_lt ?_)
  rw [ht]
  refine yp_ite (fun c => yp_bd _ (yc_gust hW hH) (fun t2 ht2 => yp_some ?_)) (fun c => yp_some ?_)
  · rw [ht2]
    refine yb_V (fun k hk => ?_)
    rw [yb_and _ _ hk, yb_and _ _ hk, yb_Vb hk, yb_xor1 _ hk, decide_eq_true c]
    rfl
  · refine yb_V (fun k hk => ?_)
    rw [yb_and _ _ hk, yb_Vb hk, decide_eq_false c]
    exact (Bool.and_true _).symm
theorem yc_claim (hW : jW w) (hH : yH 1 σ w) (hq : q < sp_n w 8) (hs : ∀ k, sp_n w 0 ≤ k → k < 32 → sp_bit s k = false) : yp (fX3_claimBy σ 1 l (nI q) s h) (fun v => v = nI (yl_v w l q s h)) := by
  have c0 := (yl_0 hW).2
  obtain ⟨-, -, -, -, ⟨s1, s2⟩, -⟩ := yl_p hW hq
  have C30 : ∀ k, 30 ≤ k → k < 32 → sp_bit (yl_C w l q s) k = false := fun k h1 h2 => yl_Cs hs (by omega) h2
  unfold fX3_claimBy
  refine yp_bd _ (yc_count hW hH hq) (fun t1 h1 => yp_bd _ (yc_of hW hH hq 3 (by decide) rfl) (fun t3 h3 => ?_))
  rw [h1, h3, show w (49 + 3 + 5 * q) = nI (sp_n w (52 + 5 * q)) from s1]
  refine yp_ite (fun c => yp_some ?_) (fun c => ?_)
  · have : yb_pop (yl_C w l q s) 30 = 0 := by
      rw [c]
      exact yb_popz 30 (fun k hk => yb_z k (by omega))
    unfold yl_v
    rw [this, Nat.min_zero, Nat.zero_mul]
    exact nI_0.symm
  obtain ⟨k, k1, k2, k3⟩ := yb_ex c
  have k30 : k < 30 := by
    rcases Nat.lt_or_ge k 30 with g | g
    · exact g
    · rw [C30 k g k1] at k2; cases k2
  have pop1 := yb_popge k2 30 k30
  refine yp_ite (fun c2 => ?_) (fun c2 => ?_)
  · have ea : yl_a w l q s h = sp_n w (52 + 5 * q) := by
      unfold yl_a
      rw [if_neg (fun g => absurd (c2.symm.trans g.1) (by decide))]
    rw [yb_count, yb_pop30 C30]
    refine yp_bs rfl (yp_lt (yp_some ?_))
    unfold yl_v
    rw [ea, if_pos c2]
    have hp := yb_pople (yl_C w l q s) 30
    by_cases g : yb_pop (yl_C w l q s) 30 < 3
    · rw [if_pos (show nI (yb_pop (yl_C w l q s) 30) < (3 : Int32) from nI_lt (b := 3) g (by decide)), nI_mul, Nat.min_eq_right (by omega), Nat.mul_comm]
    · rw [if_neg (show ¬ nI (yb_pop (yl_C w l q s) 30) < (3 : Int32) from nI_nlt (b := 3) (by omega) (by omega)), show nI (sp_n w (52 + 5 * q)) * (3 : Int32) = nI (sp_n w (52 + 5 * q) * 3) from nI_mul _ 3, Nat.min_eq_left (by omega), Nat.mul_comm]
  · refine yp_bd _ (yb_lowest C30) (fun t7 h7 => ?_)
    have e7 : t7 = yl_fst (yl_C w l q s) 30 := yb_F1 h7 (yl_F _)
    unfold fX8_firstMinutes
    refine yp_bs rfl (yp_bd _ (yc_win hW hH hq) (fun t11 h11 => yp_lt ?_))
    rw [h11, e7]
    have ev : yl_v w l q s h = yl_a w l q s h := by
      unfold yl_v
      rw [if_neg c2, Nat.min_eq_left pop1, Nat.one_mul]
    rw [ev]
    refine yp_ite (fun c3 => yp_ite (fun c4 => yp_some ?_) (fun c4 => yp_some ?_)) (fun c3 => yp_some ?_)
    · unfold yl_a
      rw [if_neg (fun g => g.2 c4)]
    · unfold yl_a
      rw [if_pos ⟨c3, c4⟩]
      exact yi_d2 (by omega)
    · unfold yl_a
      rw [if_neg (fun g => c3 g.1)]
/-! the reference's claim -/
def yl_fr (u z : sn_S) : Prop := (∀ a, a ≠ 0 → a ≠ 16 → z.1 a = u.1 a) ∧ ∀ k, k ≠ 30 → z.1 0 k = u.1 0 k
theorem yl_fr0 : yl_fr u u := ⟨fun _ _ _ => rfl, fun _ _ => rfl⟩
theorem yl_frt {v : sn_S} (h : yl_fr u z) (g : yl_fr z v) : yl_fr u v := ⟨fun a h0 h1 => (g.1 a h0 h1).trans (h.1 a h0 h1), fun k h0 => (g.2 k h0).trans (h.2 k h0)⟩
def yX (u : sn_S) (w : Nat → Int32) (l : Int32) (S H : Nat → Int32) : Prop := u.1 1 = w ∧ (∀ p, p < sp_n w 5 → u.1 10 p = S p ∧ u.1 8 p = H p) ∧ u.1 0 18 = hs_gust w (sp_n w 6) ∧ u.1 0 20 = l ∧ u.1 0 22 = nI (sp_n w 0) - 1
theorem yX_fr {S H : Nat → Int32} (h : yl_fr u z) (g : yX u w l S H) : yX z w l S H :=
  ⟨(h.1 1 (by decide) (by decide)).trans g.1, fun p hp => ⟨(congrFun (h.1 10 (by decide) (by decide)) p).trans (g.2.1 p hp).1, (congrFun (h.1 8 (by decide) (by decide)) p).trans (g.2.1 p hp).2⟩, (h.2 18 (by decide)).trans g.2.2.1, (h.2 20 (by decide)).trans g.2.2.2.1, (h.2 22 (by decide)).trans g.2.2.2.2⟩
/-- what is paid by minutes: v more in the first M minutes -/
def yl_pd (M : Nat) (x : Int32) (u z : sn_S) (v : Nat) : Prop := x ≠ 0 → ∀ c : Nat → Nat, (∀ m, m < 30 → u.1 16 m = nI (c m)) → ∃ c' : Nat → Nat, (∀ m, m < 30 → z.1 16 m = nI (c' m)) ∧ yn_sum c' M = yn_sum c M + v
theorem yl_half {M m : Nat} (hw : ∀ k, k < 32 → yl_m w q k = (yl_w w q k && decide (k < M))) (hm : m < M) (hM : M ≤ 30) : (h &&& dy_set (yl_m w q) 32) &&& yl_A (nI m) = h &&& (yl_A (nI m) &&& dy_set (yl_w w q) 32) := by
  refine yb_ext (fun k hk => ?_)
  have e : sp_bit (yl_A (nI m)) k = decide (k < m) := yb_low m (by omega) k hk
  rw [yb_and _ _ hk, yb_and _ _ hk, yb_and _ _ hk, yb_and _ _ hk, yb_Vb hk, yb_Vb hk, e, hw k hk]
  by_cases g : k < m
  · rw [decide_eq_true g, decide_eq_true (show k < M by omega), Bool.and_true, Bool.and_true, Bool.true_and]
  · rw [decide_eq_false g, Bool.and_false, Bool.false_and, Bool.and_false]
def yl_I (w : Nat → Int32) (l : Int32) (q : Nat) (s h x : Int32) (u : sn_S) (t : sn_S × Int32 × Int32 × Int32) : Prop := ∃ n, n ≤ (if l = 2 then 3 else 1) ∧ t.2.2.2 = nI n ∧ yl_fr u t.1 ∧ t.1.1 0 30 = yl_fst (yl_C w l q s) 30 ∧ t.2.2.1 = nI (n * yl_a w l q s h) ∧ (∀ k, k < 32 → sp_bit t.2.1 k = true → sp_bit (yl_C w l q s) k = true) ∧ (n = 0 → t.2.1 = yl_C w l q s) ∧ yb_pop t.2.1 30 + n = yb_pop (yl_C w l q s) 30 ∧ yl_pd (sp_n w 0) x u t.1 (n * yl_a w l q s h)
theorem ym_claimI {S H : Nat → Int32} {x : Int32} {p : Nat} (hW : jW w) (hq : q < sp_n w 8) (hp : p < sp_n w 5) (hX : yX u w l S H) (hs : ∀ k, sp_n w 0 ≤ k → k < 32 → sp_bit (S p) k = false) (t : sn_S × Int32 × Int32 × Int32) (ht : yl_I w l q (S p) (H p) x u t) : yp (LX9_claimOf_63 (nI q) (nI p) x (nI (if l = 2 then 3 else 1)) t) (yp_sum (yl_I w l q (S p) (H p) x u) (fun r => yl_fr u r.1 ∧ r.1.1 0 30 = yl_fst (yl_C w l q (S p)) 30 ∧ r.2 = nI (yl_v w l q (S p) (H p)) ∧ yl_pd (sp_n w 0) x u r.1 (yl_v w l q (S p) (H p)))) := by
  have c0 := (yl_0 hW).2
  have c5 := (yl_5 hW).2
  obtain ⟨-, -, -, -, ⟨s1, s2⟩, -⟩ := yl_p hW hq
  obtain ⟨z, st, sm, x7⟩ := t
  obtain ⟨n, hn, ex, hf, h30, em, hb, h0, hpop, hpd⟩ := ht
  have ex : x7 = nI n := ex
  subst ex
  have em : sm = nI (n * yl_a w l q (S p) (H p)) := em
  have hf : yl_fr u z := hf
  have h30 : z.1 0 30 = yl_fst (yl_C w l q (S p)) 30 := h30
  have hb : ∀ k, k < 32 → sp_bit st k = true → sp_bit (yl_C w l q (S p)) k = true := hb
  have h0 : n = 0 → st = yl_C w l q (S p) := h0
  have hpop : yb_pop st 30 + n = yb_pop (yl_C w l q (S p)) 30 := hpop
  have hpd : yl_pd (sp_n w 0) x u z (n * yl_a w l q (S p) (H p)) := hpd
  have hZ := yX_fr hf hX
  have m3 : (if l = 2 then 3 else 1) ≤ 3 := by by_cases c : l = 2 <;> simp [c]
  have stM : ∀ k, sp_n w 0 ≤ k → k < 32 → sp_bit st k = false := fun k h1 h2 => by
    cases g : sp_bit st k with
    | false => rfl
    | true =>
      have := hb k h2 g
      rw [yl_Cs hs h1 h2] at this
      cases this
  show yp (BX9_claimOf_63 z (nI q) (nI p) x st sm (nI (if l = 2 then 3 else 1)) (nI n)) _
  unfold BX9_claimOf_63
  have ends : n = min (if l = 2 then 3 else 1) (yb_pop (yl_C w l q (S p)) 30) → yp (some (Sum.inr (z, sm)) : Option ((sn_S × Int32 × Int32 × Int32) ⊕ (sn_S × Int32))) (yp_sum (yl_I w l q (S p) (H p) x u) (fun r => yl_fr u r.1 ∧ r.1.1 0 30 = yl_fst (yl_C w l q (S p)) 30 ∧ r.2 = nI (yl_v w l q (S p) (H p)) ∧ yl_pd (sp_n w 0) x u r.1 (yl_v w l q (S p) (H p)))) := fun e => by
    have ev : yl_v w l q (S p) (H p) = n * yl_a w l q (S p) (H p) := by
      unfold yl_v
      rw [← e]
    refine yp_some ⟨hf, h30, ?_, ?_⟩
    · rw [ev]; exact em
    · rw [ev]; exact hpd
  refine yp_ite (fun c => ?_) (fun c => yp_ite (fun c2 => ?_) (fun c2 => ?_))
  · have c := (nI_leI (by omega) (by omega)).mp c
    exact ends (by rw [Nat.min_eq_left (by omega)]; omega)
  · have e : yb_pop st 30 = 0 := by
      rw [c2]
      exact yb_popz 30 (fun k hk => yb_z k (by omega))
    exact ends (by rw [Nat.min_eq_right (by omega)]; omega)
  have c : ¬ (if l = 2 then 3 else 1) ≤ n := fun g => c ((nI_leI (by omega) (by omega)).mpr g)
  refine yp_bd _ (yb_firstOf st) (fun r hr => ?_)
  have hm : ∃ m, m < sp_n w 0 ∧ sp_bit st m = true ∧ r = nI m := by
    rcases hr with ⟨-, g⟩ | ⟨m, -, m1, m2, -, m4⟩
    · obtain ⟨k, k1, k2, -⟩ := yb_ex c2
      rcases Nat.lt_or_ge k 30 with g2 | g2
      · rw [g k (Nat.zero_le _) g2] at k2; cases k2
      · rw [stM k (by omega) k1] at k2; cases k2
    · refine ⟨m, ?_, m2, m4⟩
      rcases Nat.lt_or_ge m (sp_n w 0) with g | g
      · exact g
      · rw [stM m g (by omega)] at m2; cases m2
  obtain ⟨m, m1, m2, m4⟩ := hm
  have hr0 : n = 0 → nI m = yl_fst (yl_C w l q (S p)) 30 := fun e => by
    rw [← m4]
    rw [h0 e] at hr
    exact yb_F1 hr (yl_F _)
  rw [m4]
  refine yp_lt ?_
  generalize hy : st &&& (((1 : Int32) <<< (nI m &&& 31)) ^^^ (-1 : Int32)) = y
  have yb : ∀ k, k < 32 → sp_bit y k = (sp_bit st k && !decide (k = m)) := fun k hk => by
    rw [← hy, yb_and _ _ hk, yb_xor1 _ hk, yb_1k (by omega) hk]
  have ypop := yb_pop1 m2 yb 30 (by decide)
  rw [if_pos (show m < 30 by omega)] at ypop
  have k152 : yp (BX9_claimOf_152 z (nI q) (nI p) x y sm (nI (if l = 2 then 3 else 1)) (nI n) (nI m) (nI (yl_a w l q (S p) (H p)))) (yp_sum (yl_I w l q (S p) (H p) x u) (fun r => yl_fr u r.1 ∧ r.1.1 0 30 = yl_fst (yl_C w l q (S p)) 30 ∧ r.2 = nI (yl_v w l q (S p) (H p)) ∧ yl_pd (sp_n w 0) x u r.1 (yl_v w l q (S p) (H p)))) := by
    have es : sm + nI (yl_a w l q (S p) (H p)) = nI ((n + 1) * yl_a w l q (S p) (H p)) := by
      rw [em, nI_add, Nat.succ_mul]
    have hb2 : ∀ k, k < 32 → sp_bit y k = true → sp_bit (yl_C w l q (S p)) k = true := fun k hk g => by
      rw [yb k hk] at g
      exact hb k hk (Bool.and_eq_true _ _ ▸ g).1
    unfold BX9_claimOf_152 BX9_claimOf_177
    refine yp_lt (yp_ite (fun g => yp_lt (yp_some ⟨n + 1, by omega, nI_1 n, hf, h30, es, hb2, fun e => absurd e (by omega), ?_, fun g2 => absurd g g2⟩)) (fun g => yp_gd (fun _ => yp_gd (fun _ => yp_lt (yp_lt (yp_some ⟨n + 1, by omega, nI_1 n, ?_, ?_, es, hb2, fun e => absurd e (by omega), ?_, ?_⟩))))))
    · show yb_pop y 30 + (n + 1) = _
      omega
    · exact yl_frt hf ⟨fun a h1 h2 => pI_ne h2, fun k _ => congrFun (pI_ne (by decide)) k⟩
    · exact (congrFun (pI_ne (by decide)) 30).trans h30
    · show yb_pop y 30 + (n + 1) = _
      omega
    · intro g2 cc hcc
      obtain ⟨c', hc1, hc2⟩ := hpd g2 cc hcc
      refine ⟨fun k => if k = m then c' k + yl_a w l q (S p) (H p) else c' k, fun k hk => ?_, ?_⟩
      · rw [nI_clamp (show m < 2 ^ 31 by omega)]
        by_cases e : k = m
        · subst e
          show (sn_pI z 16 k (sn_I z 16 k + nI (yl_a w l q (S p) (H p)))).1 16 k = nI (if k = k then c' k + yl_a w l q (S p) (H p) else c' k)
          rw [if_pos rfl, pI_self, show sn_I z 16 k = _ from hc1 k hk]
          exact nI_add _ _
        · show (sn_pI z 16 m (sn_I z 16 m + nI (yl_a w l q (S p) (H p)))).1 16 k = nI (if k = m then c' k + yl_a w l q (S p) (H p) else c' k)
          rw [if_neg e, pI_slot e]
          exact hc1 k hk
      · rw [yn_up (f := c') (m := m) (a := yl_a w l q (S p) (H p)) (by rw [if_pos rfl]) (fun k hk => by rw [if_neg hk]), if_pos m1, hc2, Nat.succ_mul]
        omega
  have k127 : yl_a w l q (S p) (H p) = sp_n w (52 + 5 * q) → yp (BX9_claimOf_127 z (nI q) (nI p) x y sm (nI (if l = 2 then 3 else 1)) (nI n) (nI m)) (yp_sum (yl_I w l q (S p) (H p) x u) (fun r => yl_fr u r.1 ∧ r.1.1 0 30 = yl_fst (yl_C w l q (S p)) 30 ∧ r.2 = nI (yl_v w l q (S p) (H p)) ∧ yl_pd (sp_n w 0) x u r.1 (yl_v w l q (S p) (H p)))) := fun e => by
    unfold BX9_claimOf_127 BX9_claimOf_128
    rw [if_pos rfl]
    refine yp_bd _ (ym_of hW hZ.1 hq 3 (by decide) rfl) (fun t ht => ?_)
    rw [ht, show w (49 + 3 + 5 * q) = nI (sp_n w (52 + 5 * q)) from s1, ← e]
    exact k152
  rw [show sn_I z 0 20 = _ from hZ.2.2.2.1]
  refine yp_ite (fun c3 => yp_gd (fun _ => yp_bd _ (ym_win hW hZ.1 hZ.2.2.2.2 hq) (fun t9 h9 => ?_))) (fun c3 => k127 (by unfold yl_a; rw [if_neg (fun g => c3 g.1)]))
  have c1 : (if l = 2 then 3 else 1) = 1 := by rw [if_neg (fun g => absurd (c3.symm.trans g) (by decide))]
  have n0 : n = 0 := by omega
  have eh : (H p &&& dy_set (yl_m w q) 32) &&& yl_A (nI m) = H p &&& (yl_A (yl_fst (yl_C w l q (S p)) 30) &&& dy_set (yl_w w q) 32) := by
    rw [← hr0 n0]
    exact yl_half (M := sp_n w 0) (fun k _ => rfl) m1 c0
  unfold fX9_ahead
  refine yp_bs rfl ?_
  rw [h9, nI_clamp (show p < 2 ^ 31 by omega), show sn_I z 8 p = _ from (hZ.2.1 p hp).2, show ((1 : Int32) <<< (nI m &&& 31)) - (1 : Int32) = yl_A (nI m) from rfl, eh]
  refine yp_ite (fun c4 => k127 (by unfold yl_a; rw [if_neg (fun g => g.2 c4)])) (fun c4 => ?_)
  unfold BX9_claimOf_128
  rw [if_neg (by decide)]
  refine yp_bd _ (ym_of hW hZ.1 hq 3 (by decide) rfl) (fun t ht => ?_)
  have e : yl_a w l q (S p) (H p) = sp_n w (52 + 5 * q) / 2 := by
    unfold yl_a
    rw [if_pos ⟨c3, c4⟩]
  rw [ht, show w (49 + 3 + 5 * q) = nI (sp_n w (52 + 5 * q)) from s1, yi_d2 (by omega), ← e]
  exact k152
theorem ym_claim {S H : Nat → Int32} {x : Int32} {p : Nat} (hW : jW w) (hq : q < sp_n w 8) (hp : p < sp_n w 5) (hX : yX u w l S H) (hs : ∀ k, sp_n w 0 ≤ k → k < 32 → sp_bit (S p) k = false) : yp (fX9_claimOf u (nI q) (nI p) x) (fun r => yl_fr u r.2 ∧ r.2.1 0 30 = yl_fst (yl_C w l q (S p)) 30 ∧ r.1 = nI (yl_v w l q (S p) (H p)) ∧ yl_pd (sp_n w 0) x u r.2 (yl_v w l q (S p) (H p))) := by
  have c0 := (yl_0 hW).2
  have c5 := (yl_5 hW).2
  have k58 : ∀ (z : sn_S), yl_fr u z → z.1 16 = u.1 16 → z.1 0 30 = yl_fst (yl_C w l q (S p)) 30 → yp (BX9_claimOf_58 z (nI q) (nI p) x (yl_C w l q (S p)) (0 : Int32) (nI (if l = 2 then 3 else 1))) (fun r => yl_fr u r.2 ∧ r.2.1 0 30 = yl_fst (yl_C w l q (S p)) 30 ∧ r.1 = nI (yl_v w l q (S p) (H p)) ∧ yl_pd (sp_n w 0) x u r.2 (yl_v w l q (S p) (H p))) := fun z hf h16 h30 => by
    unfold BX9_claimOf_58
    refine yp_bd _ (yp_it (yl_I w l q (S p) (H p) x u) (ym_claimI hW hq hp hX hs) _ _ ⟨0, Nat.zero_le _, nI_0.symm, hf, h30, ?_, fun _ _ g => g, fun _ => rfl, rfl, fun _ cc hcc => ⟨cc, fun m hm => ?_, ?_⟩⟩) (fun r hr => ?_)
    · rw [Nat.zero_mul]; exact nI_0.symm
    · rw [show (z, yl_C w l q (S p), (0 : Int32), (0 : Int32)).1 = z from rfl, h16]
      exact hcc m hm
    · rw [Nat.zero_mul]; rfl
    · unfold BX9_claimOf_183
      exact yp_some hr
  have k33 : yp (BX9_claimOf_33 u (nI q) (nI p) x (yl_C w l q (S p))) (fun r => yl_fr u r.2 ∧ r.2.1 0 30 = yl_fst (yl_C w l q (S p)) 30 ∧ r.1 = nI (yl_v w l q (S p) (H p)) ∧ yl_pd (sp_n w 0) x u r.2 (yl_v w l q (S p) (H p))) := by
    unfold BX9_claimOf_33
    refine yp_bd _ (yb_firstOf _) (fun r hr => yp_lt ?_)
    have er : r = yl_fst (yl_C w l q (S p)) 30 := yb_F1 hr (yl_F _)
    have g := k58 (sn_pI u 0 30 r) ⟨fun a h0 h1 => pI_ne h0, fun k h0 => pI_slot h0⟩ (pI_ne (by decide)) (pI_self.trans er)
    rw [show sn_I (sn_pI u 0 30 r) 0 20 = l from (pI_slot (by decide)).trans hX.2.2.2.1]
    refine yp_ite (fun c => ?_) (fun c => ?_)
    · rw [if_pos c] at g; exact g
    · rw [if_neg c] at g; exact g
  unfold fX9_claimOf
  refine yp_gd (fun _ => yp_bd _ (ym_win hW hX.1 hX.2.2.2.2 hq) (fun t ht => yp_lt ?_))
  rw [ht, nI_clamp (show p < 2 ^ 31 by omega), show sn_I u 10 p = _ from (hX.2.1 p hp).1, show sn_I u 0 20 = _ from hX.2.2.2.1, show sn_I u 0 18 = _ from hX.2.2.1]
  have em : ∀ k, k < 32 → (sp_bit (S p) k && yl_m w q k) = (sp_bit (S p) k && yl_w w q k) := fun k hk => by
    unfold yl_m
    by_cases g : k < sp_n w 0
    · rw [decide_eq_true g, Bool.and_true]
    · rw [hs k (by omega) hk]; rfl
  refine yp_ite (fun c => yp_lt ?_) (fun c => ?_)
  · have e : (S p &&& dy_set (yl_m w q) 32) &&& (hs_gust w (sp_n w 6) ^^^ (-1 : Int32)) = yl_C w l q (S p) := yb_V (fun k hk => by
      rw [yb_and _ _ hk, yb_and _ _ hk, yb_Vb hk, yb_xor1 _ hk, em k hk, decide_eq_true c]
      rfl)
    rw [e]
    exact k33
  · have e : S p &&& dy_set (yl_m w q) 32 = yl_C w l q (S p) := yb_V (fun k hk => by
      rw [yb_and _ _ hk, yb_Vb hk, em k hk, decide_eq_false c]
      exact (Bool.and_true _).symm)
    rw [e]
    exact k33
end
