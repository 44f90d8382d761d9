section
/-! who is beside whom -/
def yn_nb (na nb : Nat → Nat) (p o : Nat) : Nat → Bool
  | 0 => false
  | k + 1 => yn_nb na nb p o k || (decide (na k = p ∧ nb k = o) || decide (nb k = p ∧ na k = o))
theorem yn_nb0 {na nb : Nat → Nat} {p o P : Nat} (ho : P ≤ o) : ∀ n, (∀ k, k < n → na k < P ∧ nb k < P) → yn_nb na nb p o n = false := by
  intro n
  induction n with
  | zero => intro _; rfl
  | succ n ih =>
    intro h
    show (yn_nb na nb p o n || (decide (na n = p ∧ nb n = o) || decide (nb n = p ∧ na n = o))) = false
    have g := h n (by omega)
    rw [ih (fun k hk => h k (by omega)), decide_eq_false (by omega), decide_eq_false (by omega)]
    rfl
section
variable {σ τ : sn_S}
theorem yc_neigh0 {na nb : Nat → Nat} {N p : Nat} (hp : p < 6) (hN : N ≤ 8) (e7 : sn_I σ (1 + 1) (7 : Int32).toNatClampNeg = nI N) (hab : ∀ k, k < N → sn_I σ (1 + 4) (2 * k) = nI (na k) ∧ sn_I σ (1 + 4) (2 * k + 1) = nI (nb k) ∧ na k < 6 ∧ nb k < 6) : yp (fX2_neighbours σ 1 (nI p)) (fun v => ∀ o, o < 32 → sp_bit v o = yn_nb na nb p o N) := by
  unfold fX2_neighbours
  refine yp_bd (fun v => ∀ o, o < 32 → sp_bit v o = yn_nb na nb p o N) (yp_for N (fun k s => s.2 = nI k ∧ ∀ o, o < 32 → sp_bit s.1 o = yn_nb na nb p o k) (fun k s hk hs => ?_) (fun s hs => ?_) ⟨nI_0.symm, fun o ho => by exact yb_z o ho⟩) (fun v hv => ?_)
  · obtain ⟨v, x⟩ := s
    obtain ⟨ex, hv⟩ := hs
    have ex : x = nI k := ex
    subst ex
    have hv : ∀ o, o < 32 → sp_bit v o = yn_nb na nb p o k := hv
    obtain ⟨ea, eb, la, lb⟩ := hab k hk
    have k1 : ∀ o, yn_nb na nb p o (k + 1) = (yn_nb na nb p o k || (decide (na k = p ∧ nb k = o) || decide (nb k = p ∧ na k = o))) := fun o => rfl
    have l69 : ∀ y : Int32, (∀ o, o < 32 → sp_bit y o = yn_nb na nb p o (k + 1)) → yp (BX2_neighbours_69 σ 1 (nI p) y (nI k)) (yp_sum (fun s : Int32 × Int32 => s.2 = nI (k + 1) ∧ ∀ o, o < 32 → sp_bit s.1 o = yn_nb na nb p o (k + 1)) (fun _ => False)) := fun y hy => by
      unfold BX2_neighbours_69
      exact yp_lt (yp_some ⟨nI_1 k, hy⟩)
    have l42 : ∀ y : Int32, (∀ o, o < 32 → sp_bit y o = (yn_nb na nb p o k || decide (na k = p ∧ nb k = o))) → yp (BX2_neighbours_42 σ 1 (nI p) y (nI k)) (yp_sum (fun s : Int32 × Int32 => s.2 = nI (k + 1) ∧ ∀ o, o < 32 → sp_bit s.1 o = yn_nb na nb p o (k + 1)) (fun _ => False)) := fun y hy => by
      unfold BX2_neighbours_42
      rw [yi_2, show nI (2 * k) + (1 : Int32) = nI (2 * k + 1) from nI_1 _, nI_clamp (show 2 * k < 2 ^ 31 by omega), nI_clamp (show 2 * k + 1 < 2 ^ 31 by omega), ea, eb]
      refine yp_gd (fun _ => yp_ite (fun c => yp_gd (fun _ => yp_lt (l69 _ (fun o ho => ?_)))) (fun c => l69 _ (fun o ho => ?_)))
      · have c := (nI_eq (by omega) (by omega)).mp c
        have d : decide (o = na k) = decide (nb k = p ∧ na k = o) := decide_eq_decide.mpr ⟨fun e => ⟨c, e.symm⟩, fun e => e.2.symm⟩
        rw [yb_or1 y (show na k < 32 by omega) ho, hy o ho, k1, Bool.or_assoc, d]
      · have d : decide (nb k = p ∧ na k = o) = false := decide_eq_false (fun e => c (congrArg nI e.1))
        rw [hy o ho, k1, d, Bool.or_false]
    show yp (BX2_neighbours_4 σ 1 (nI p) v (nI k)) _
    unfold BX2_neighbours_4
    rw [e7, if_neg (nI_ge hk (by omega)), yi_2, show nI (2 * k) + (1 : Int32) = nI (2 * k + 1) from nI_1 _, nI_clamp (show 2 * k < 2 ^ 31 by omega), nI_clamp (show 2 * k + 1 < 2 ^ 31 by omega), ea, eb]
    refine yp_gd (fun _ => yp_gd (fun _ => yp_ite (fun c => yp_gd (fun _ => yp_lt (l42 _ (fun o ho => ?_)))) (fun c => l42 _ (fun o ho => ?_))))
    · have c := (nI_eq (by omega) (by omega)).mp c
      have d : decide (o = nb k) = decide (na k = p ∧ nb k = o) := decide_eq_decide.mpr ⟨fun e => ⟨c, e.symm⟩, fun e => e.2.symm⟩
      rw [yb_or1 v (show nb k < 32 by omega) ho, hv o ho, d]
    · have d : decide (na k = p ∧ nb k = o) = false := decide_eq_false (fun e => c (congrArg nI e.1))
      rw [hv o ho, d, Bool.or_false]
  · obtain ⟨v, x⟩ := s
    obtain ⟨ex, hv⟩ := hs
    have ex : x = nI N := ex
    subst ex
    show yp (BX2_neighbours_4 σ 1 (nI p) v (nI N)) _
    unfold BX2_neighbours_4
    rw [e7, if_pos (nI_le (Nat.le_refl _) (by omega))]
    exact yp_gd (fun _ => yp_some hv)
  · unfold BX2_neighbours_75
    exact yp_some hv
theorem yc_neigh {w : Nat → Int32} (hW : jW w) (hH : yH 1 σ w) {p : Nat} (hp : p < 6) : yp (fX2_neighbours σ 1 (nI p)) (fun v => ∀ o, o < 32 → sp_bit v o = yn_nb (fun k => sp_n w (33 + 2 * k)) (fun k => sp_n w (34 + 2 * k)) p o (sp_n w 7)) := by
  obtain ⟨b7, l7⟩ := hW.1.2.2.2.2.2.2.2.1
  have l5 := hW.1.2.2.2.2.2.1.2
  refine yc_neigh0 hp l7 ((hH.1 7 (by decide)).trans b7) (fun k hk => ?_)
  obtain ⟨g1, g2, g3, g4, g5⟩ := hW.2.2.2.2.2.1 k hk
  refine ⟨(hH.2.2.2.1 (2 * k) (by omega)).trans g1, ?_, Nat.lt_of_lt_of_le g2 l5, Nat.lt_of_lt_of_le g4 l5⟩
  have h := hH.2.2.2.1 (2 * k + 1) (by omega)
  rw [show 33 + (2 * k + 1) = 34 + 2 * k by omega] at h
  exact h.trans g3
theorem yb_or0 (x : Int32) : x ||| (0 : Int32) = x := Int32.or_zero
end
end
section
/-! windows of policies, both sides -/
section
variable {σ τ u : sn_S} {w : Nat → Int32} {q : Nat}
theorem yl_5 (hW : jW w) : w 5 = nI (sp_n w 5) ∧ sp_n w 5 ≤ 6 := hW.1.2.2.2.2.2.1
end
end
section
/-! claims, both sides -/
theorem yl_ne {k : Nat} (h : k < 100) : nI k ≠ -1 := by
  intro e
  have h1 := nI_toInt (show k < 2 ^ 31 by omega)
  rw [e, show (-1 : Int32).toInt = -1 by decide] at h1
  omega
section
variable {σ τ u z : sn_S} {w : Nat → Int32} {q : Nat} {l s h : Int32}
/-! the reference's claim -/
end
end
section
/-! who is reached by nets -/
def yw_any (nb : Nat → Nat → Bool) (f : Nat → Bool) (k : Nat) : Nat → Bool
  | 0 => false
  | p + 1 => yw_any nb f k p || (f p && nb p k)
def yw_F (nb : Nat → Nat → Bool) (P : Nat) (f : Nat → Bool) (k : Nat) : Bool := f k || yw_any nb f k P
def yw_it (nb : Nat → Nat → Bool) (P : Nat) (f : Nat → Bool) : Nat → Nat → Bool
  | 0 => f
  | n + 1 => yw_F nb P (yw_it nb P f n)
def yw_n (f : Nat → Bool) : Nat → Nat
  | 0 => 0
  | n + 1 => yw_n f n + if f n = true then 1 else 0
theorem yw_anyE {nb : Nat → Nat → Bool} {f g : Nat → Bool} {k : Nat} : ∀ n, (∀ p, p < n → f p = g p) → yw_any nb f k n = yw_any nb g k n := by
  intro n
  induction n with
  | zero => intro _; rfl
  | succ n ih =>
    intro h
    show (yw_any nb f k n || (f n && nb n k)) = (yw_any nb g k n || (g n && nb n k))
    rw [ih (fun p hp => h p (by omega)), h n (by omega)]
theorem yw_cle (f : Nat → Bool) : ∀ n, yw_n f n ≤ n := by
  intro n
  induction n with
  | zero => exact Nat.le_refl _
  | succ n ih =>
    show yw_n f n + (if f n = true then 1 else 0) ≤ n + 1
    by_cases c : f n = true
    · rw [if_pos c]; omega
    · rw [if_neg c]; omega
theorem yw_cmono {f g : Nat → Bool} (h : ∀ k, f k = true → g k = true) : ∀ n, yw_n f n ≤ yw_n g n ∧ (yw_n f n = yw_n g n → ∀ k, k < n → g k = f k) := by
  intro n
  induction n with
  | zero => exact ⟨Nat.le_refl _, fun _ k hk => absurd hk (by omega)⟩
  | succ n ih =>
    have e1 : yw_n f (n + 1) = yw_n f n + if f n = true then 1 else 0 := rfl
    have e2 : yw_n g (n + 1) = yw_n g n + if g n = true then 1 else 0 := rfl
    rw [e1, e2]
    cases c : f n with
    | true =>
      have d := h n c
      rw [d]
      refine ⟨by rw [if_pos rfl]; omega, fun e k hk => ?_⟩
      by_cases g1 : k = n
      · subst g1; rw [c, d]
      · exact ih.2 (by rw [if_pos rfl] at e; omega) k (by omega)
    | false =>
      cases d : g n with
      | true => exact ⟨by rw [if_neg (by decide), if_pos rfl]; omega, fun e => by rw [if_neg (by decide), if_pos rfl] at e; omega⟩
      | false =>
        refine ⟨by rw [if_neg (by decide)]; omega, fun e k hk => ?_⟩
        by_cases g1 : k = n
        · subst g1; rw [c, d]
        · exact ih.2 (by rw [if_neg (by decide)] at e; omega) k (by omega)
theorem yw_inc (nb : Nat → Nat → Bool) (P : Nat) (f : Nat → Bool) (k : Nat) (h : f k = true) : yw_F nb P f k = true := by
  unfold yw_F
  rw [h]
  rfl
theorem yw_stop {nb : Nat → Nat → Bool} {P : Nat} {f : Nat → Bool} (hP : P ≤ 6) (hn : ∀ p k, P ≤ k → nb p k = false) (h0 : 1 ≤ yw_n f 6) : ∀ n, (∀ k, yw_it nb P f (n + 1) k = yw_it nb P f n k) ∨ n + 2 ≤ yw_n (yw_it nb P f (n + 1)) 6 := by
  have any0 : ∀ g k n, P ≤ k → yw_any nb g k n = false := by
    intro g k n hk
    induction n with
    | zero => rfl
    | succ n ih =>
      show (yw_any nb g k n || (g n && nb n k)) = false
      rw [ih, hn n k hk, Bool.and_false]
      rfl
  have eq : ∀ g : Nat → Bool, (∀ k, k < 6 → yw_F nb P g k = g k) → ∀ k, yw_F nb P g k = g k := by
    intro g h k
    rcases Nat.lt_or_ge k 6 with c | c
    · exact h k c
    · unfold yw_F
      rw [any0 g k P (by omega), Bool.or_false]
  intro n
  induction n with
  | zero =>
    have m := yw_cmono (fun k => yw_inc nb P f k) 6
    by_cases c : yw_n f 6 = yw_n (yw_F nb P f) 6
    · exact Or.inl (eq f (m.2 c))
    · exact Or.inr (by show 2 ≤ yw_n (yw_F nb P f) 6; omega)
  | succ n ih =>
    rcases ih with h | h
    · refine Or.inl (fun k => ?_)
      show yw_F nb P (yw_it nb P f (n + 1)) k = yw_F nb P (yw_it nb P f n) k
      unfold yw_F
      rw [h k, yw_anyE P (fun p _ => h p)]
    · have m : yw_n (yw_it nb P f (n + 1)) 6 ≤ yw_n (yw_F nb P (yw_it nb P f (n + 1))) 6 ∧ (yw_n (yw_it nb P f (n + 1)) 6 = yw_n (yw_F nb P (yw_it nb P f (n + 1))) 6 → ∀ k, k < 6 → yw_F nb P (yw_it nb P f (n + 1)) k = yw_it nb P f (n + 1) k) := yw_cmono (fun k => yw_inc nb P (yw_it nb P f (n + 1)) k) 6
      by_cases c : yw_n (yw_it nb P f (n + 1)) 6 = yw_n (yw_F nb P (yw_it nb P f (n + 1))) 6
      · exact Or.inl (eq _ (m.2 c))
      · exact Or.inr (by show n + 3 ≤ yw_n (yw_F nb P (yw_it nb P f (n + 1))) 6; omega)
theorem yw_cone {p : Nat} : ∀ n, p < n → 1 ≤ yw_n (fun k => decide (k = p)) n := by
  intro n
  induction n with
  | zero => intro h; exact absurd h (by omega)
  | succ n ih =>
    intro h
    show 1 ≤ yw_n (fun k => decide (k = p)) n + if decide (n = p) = true then 1 else 0
    by_cases c : n = p
    · rw [decide_eq_true c, if_pos rfl]; omega
    · have := ih (by omega); omega
/-- by nets, counted, or by persons -/
theorem yw_cnt {na nb : Nat → Nat} {f : Nat → Bool} {s : Int32} {P k : Nat} (hs : ∀ o, o < 32 → sp_bit s o = f o) : ∀ N, N ≤ 8 → (∀ n, n < N → na n < P ∧ nb n < P) → P ≤ 6 → (0 < dy_cnt na nb (-1) k s N ↔ yw_any (fun p o => yn_nb na nb p o N) f k P = true) := by
  have anyI : ∀ (g : Nat → Nat → Bool) n, yw_any g f k n = true ↔ ∃ p, p < n ∧ f p = true ∧ g p k = true := by
    intro g n
    induction n with
    | zero => exact ⟨fun h => absurd h (show ¬ false = true by decide), fun ⟨p, hp, _⟩ => absurd hp (by omega)⟩
    | succ n ih =>
      show (yw_any g f k n || (f n && g n k)) = true ↔ _
      rw [Bool.or_eq_true, Bool.and_eq_true, ih]
      constructor
      · rintro (⟨p, hp, h⟩ | h)
        · exact ⟨p, by omega, h⟩
        · exact ⟨n, by omega, h⟩
      · rintro ⟨p, hp, h⟩
        by_cases e : p = n
        · subst e; exact Or.inr h
        · exact Or.inl ⟨p, by omega, h⟩
  intro N
  induction N with
  | zero =>
    intro _ _ _
    rw [anyI]
    exact ⟨fun h => absurd h (show ¬ 0 < 0 by decide), fun ⟨p, _, _, h⟩ => absurd h (show ¬ false = true by decide)⟩
  | succ N ih =>
    intro hN h hP
    have g := h N (by omega)
    have i := ih (by omega) (fun n hn => h n (by omega)) hP
    rw [anyI] at i ⊢
    have ne : ¬ nI N = (-1 : Int32) := yl_ne (by omega)
    show (0 < dy_cnt na nb (-1) k s N + (if ¬ nI N = (-1 : Int32) ∧ ((na N = k ∧ sp_bit s (nb N) = true) ∨ (nb N = k ∧ sp_bit s (na N) = true)) then 1 else 0)) ↔ _
    rw [hs (nb N) (by omega), hs (na N) (by omega)]
    have k1 : ∀ p, yn_nb na nb p k (N + 1) = true ↔ yn_nb na nb p k N = true ∨ (na N = p ∧ nb N = k) ∨ (nb N = p ∧ na N = k) := fun p => by
      show (yn_nb na nb p k N || (decide (na N = p ∧ nb N = k) || decide (nb N = p ∧ na N = k))) = true ↔ _
      rw [Bool.or_eq_true, Bool.or_eq_true, decide_eq_true_eq, decide_eq_true_eq]
    by_cases c : (na N = k ∧ f (nb N) = true) ∨ (nb N = k ∧ f (na N) = true)
    · rw [if_pos ⟨ne, c⟩]
      refine ⟨fun _ => ?_, fun _ => by omega⟩
      rcases c with ⟨c1, c2⟩ | ⟨c1, c2⟩
      · exact ⟨nb N, g.2, c2, (k1 _).mpr (Or.inr (Or.inr ⟨rfl, c1⟩))⟩
      · exact ⟨na N, g.1, c2, (k1 _).mpr (Or.inr (Or.inl ⟨rfl, c1⟩))⟩
    · rw [if_neg (fun z => c z.2), Nat.add_zero, i]
      constructor
      · rintro ⟨p, hp, h1, h2⟩
        exact ⟨p, hp, h1, (k1 p).mpr (Or.inl h2)⟩
      · rintro ⟨p, hp, h1, h2⟩
        rcases (k1 p).mp h2 with h3 | ⟨h3, h4⟩ | ⟨h3, h4⟩
        · exact ⟨p, hp, h1, h3⟩
        · exact absurd (Or.inr ⟨h4, by rw [h3]; exact h1⟩) c
        · exact absurd (Or.inl ⟨h4, by rw [h3]; exact h1⟩) c
section
variable {σ τ u z : sn_S} {w : Nat → Int32}
def yw_nb (w : Nat → Int32) (p o : Nat) : Bool := yn_nb (fun k => sp_n w (33 + 2 * k)) (fun k => sp_n w (34 + 2 * k)) p o (sp_n w 7)
theorem yc_sweep {x : Int32} {f : Nat → Bool} {y : Int32} (hW : jW w) (hH : yH 1 σ w) (h1 : σ.1 27 1 = nI (sp_n w 5)) (hx : ∀ k, k < 32 → sp_bit x k = f k) : yp ((sn_it (LX8_web_29 σ x y) 5000 (x, (0 : Int32))).bind fun t => BX8_web_70 σ x y t) (yp_sum (fun s : Int32 × Int32 => s.2 = y + 1 ∧ ∀ k, k < 32 → sp_bit s.1 k = yw_F (yw_nb w) (sp_n w 5) f k) (fun _ => False)) := by
  have c5 := (yl_5 hW).2
  refine yp_bd (fun v => ∀ k, k < 32 → sp_bit v k = yw_F (yw_nb w) (sp_n w 5) f k) (yp_for (sp_n w 5) (fun n s => s.2 = nI n ∧ ∀ k, k < 32 → sp_bit s.1 k = (f k || yw_any (yw_nb w) f k n)) (fun n s hn hs => ?_) (fun s hs => ?_) ⟨nI_0.symm, fun k hk => by exact (hx k hk).trans (Bool.or_false _).symm⟩) (fun v hv => ?_)
  · obtain ⟨v, t⟩ := s
    obtain ⟨et, hb⟩ := hs
    have et : t = nI n := et
    subst et
    have hb : ∀ k, k < 32 → sp_bit v k = (f k || yw_any (yw_nb w) f k n) := hb
    show yp (BX8_web_29 σ x y v (nI n)) _
    unfold BX8_web_29 BX8_web_64
    rw [show sn_I σ 27 1 = _ from h1, if_neg (nI_ge hn (by omega)), yb_c, hx n (by omega)]
    refine yp_bit (fun c => ?_) (fun c => ?_)
    · rw [if_neg (by decide)]
      refine yp_bd _ (yc_neigh hW hH (by omega)) (fun t ht => yp_lt (yp_lt (yp_some ⟨nI_1 n, fun k hk => ?_⟩)))
      show sp_bit (v ||| t) k = (f k || (yw_any (yw_nb w) f k n || (f n && yw_nb w n k)))
      rw [yb_or _ _ hk, hb k hk, ht k hk, c, Bool.true_and, Bool.or_assoc]
      rfl
    · rw [if_pos rfl]
      refine yp_lt (yp_some ⟨nI_1 n, fun k hk => ?_⟩)
      show sp_bit v k = (f k || (yw_any (yw_nb w) f k n || (f n && yw_nb w n k)))
      rw [hb k hk, c, Bool.false_and, Bool.or_false]
  · obtain ⟨v, t⟩ := s
    obtain ⟨et, hb⟩ := hs
    have et : t = nI (sp_n w 5) := et
    subst et
    show yp (BX8_web_29 σ x y v (nI (sp_n w 5))) _
    unfold BX8_web_29
    rw [show sn_I σ 27 1 = _ from h1, if_pos (nI_le (Nat.le_refl _) (by omega))]
    exact yp_some hb
  · unfold BX8_web_70
    exact yp_lt (yp_some ⟨rfl, hv⟩)
theorem ym_sweep {x : Int32} {f : Nat → Bool} {y : Int32} (hW : jW w) (hu : u.1 1 = w) (hT : ym_T u (hs_day w)) (hx : ∀ k, k < 32 → sp_bit x k = f k) : yp ((sn_it (LX9_web_34 u x y) 5000 (x, (0 : Int32))).bind fun t => BX9_web_74 u x y t) (yp_sum (fun s : Int32 × Int32 => s.2 = y + 1 ∧ ∀ k, k < 32 → sp_bit s.1 k = yw_F (yw_nb w) (sp_n w 5) f k) (fun _ => False)) := by
  have c5 := (yl_5 hW).2
  have c7 := hW.1.2.2.2.2.2.2.2.1.2
  have ok := hs_ok hW
  have hn : ∀ n, n < sp_n w 7 → sp_n w (33 + 2 * n) < sp_n w 5 ∧ sp_n w (34 + 2 * n) < sp_n w 5 := fun n h => ⟨(hW.2.2.2.2.2.1 n h).2.1, (hW.2.2.2.2.2.1 n h).2.2.2.1⟩
  have cnt := fun k => yw_cnt (na := fun k => sp_n w (33 + 2 * k)) (nb := fun k => sp_n w (34 + 2 * k)) (k := k) hx (sp_n w 7) c7 hn c5
  have any0 : ∀ k, sp_n w 5 ≤ k → yw_any (yw_nb w) f k (sp_n w 5) = false := fun k hk => by
    cases e : yw_any (yw_nb w) f k (sp_n w 5) with
    | false => rfl
    | true =>
      have := (cnt k).mpr e
      have z : ∀ n, n ≤ sp_n w 7 → dy_cnt (fun k => sp_n w (33 + 2 * k)) (fun k => sp_n w (34 + 2 * k)) (-1) k x n = 0 := by
        intro n
        induction n with
        | zero => intro _; rfl
        | succ n ih =>
          intro hn2
          show dy_cnt (fun k => sp_n w (33 + 2 * k)) (fun k => sp_n w (34 + 2 * k)) (-1) k x n + (if _ then 1 else 0) = 0
          rw [ih (by omega), if_neg]
          rintro ⟨-, ⟨h1, -⟩ | ⟨h1, -⟩⟩
          · have h1 : sp_n w (33 + 2 * n) = k := h1
            have := (hn n (by omega)).1; omega
          · have h1 : sp_n w (34 + 2 * n) = k := h1
            have := (hn n (by omega)).2; omega
      rw [z _ (Nat.le_refl _)] at this
      exact absurd this (by omega)
  have cle : ∀ k n, dy_cnt (fun k => sp_n w (33 + 2 * k)) (fun k => sp_n w (34 + 2 * k)) (-1) k x n ≤ n := by
    intro k n
    induction n with
    | zero => exact Nat.le_refl _
    | succ n ih =>
      show dy_cnt _ _ (-1) k x n + (if _ then 1 else 0) ≤ n + 1
      split <;> omega
  refine yp_bd (fun v => ∀ k, k < 32 → sp_bit v k = yw_F (yw_nb w) (sp_n w 5) f k) (yp_for (sp_n w 5) (fun n s => s.2 = nI n ∧ ∀ k, k < 32 → sp_bit s.1 k = (f k || (decide (k < n) && yw_any (yw_nb w) f k (sp_n w 5)))) (fun n s hn hs => ?_) (fun s hs => ?_) ⟨nI_0.symm, fun k hk => ?_⟩) (fun v hv => ?_)
  · obtain ⟨v, t⟩ := s
    obtain ⟨et, hb⟩ := hs
    have et : t = nI n := et
    subst et
    have hb : ∀ k, k < 32 → sp_bit v k = (f k || (decide (k < n) && yw_any (yw_nb w) f k (sp_n w 5))) := hb
    show yp (BX9_web_34 u x y v (nI n)) _
    unfold BX9_web_34 BX9_web_65
    rw [show sn_I u 1 (5 : Int32).toNatClampNeg = nI (sp_n w 5) from (congrFun hu 5).trans (yl_5 hW).1, if_neg (nI_ge hn (by omega))]
    refine yp_gd (fun _ => yp_bd _ (ym_nets hT ok (by omega) x) (fun t ht => ?_))
    have ht : t = nI (dy_cnt (fun k => sp_n w (33 + 2 * k)) (fun k => sp_n w (34 + 2 * k)) (-1) n x (sp_n w 7)) := ht
    have l := cle n (sp_n w 7)
    rw [ht]
    refine yp_ite (fun c => yp_lt (yp_lt (yp_some ⟨nI_1 n, fun k hk => ?_⟩))) (fun c => yp_lt (yp_lt (yp_some ⟨nI_1 n, fun k hk => ?_⟩)))
    · have e0 : yw_any (yw_nb w) f n (sp_n w 5) = false := by
        cases e : yw_any (yw_nb w) f n (sp_n w 5) with
        | false => rfl
        | true => exact absurd c (nI_nle ((cnt n).mpr e) (by omega))
      show sp_bit (v ||| (0 : Int32)) k = _
      rw [yb_or0, hb k hk]
      by_cases g : k = n
      · subst g
        rw [e0, Bool.and_false, Bool.and_false]
      · refine congrArg (f k || ·) (congrArg (· && yw_any (yw_nb w) f k (sp_n w 5)) ?_)
        exact decide_eq_decide.mpr (by omega)
    · have e1 : yw_any (yw_nb w) f n (sp_n w 5) = true := by
        refine (cnt n).mp ?_
        rcases Nat.eq_zero_or_pos (dy_cnt (fun k => sp_n w (33 + 2 * k)) (fun k => sp_n w (34 + 2 * k)) (-1) n x (sp_n w 7)) with g | g
        · rw [g] at c
          exact absurd (show nI 0 ≤ 0 by decide) c
        · exact g
      show sp_bit (v ||| ((1 : Int32) <<< (nI n &&& 31))) k = _
      rw [yb_or1 v (by omega) hk, hb k hk]
      by_cases g : k = n
      · subst g
        rw [decide_eq_true rfl, Bool.or_true, decide_eq_true (by omega), e1, Bool.true_and, Bool.or_true]
      · rw [decide_eq_false g, Bool.or_false]
        refine congrArg (f k || ·) (congrArg (· && yw_any (yw_nb w) f k (sp_n w 5)) ?_)
        exact decide_eq_decide.mpr (by omega)
  · obtain ⟨v, t⟩ := s
    obtain ⟨et, hb⟩ := hs
    have et : t = nI (sp_n w 5) := et
    have hb : ∀ k, k < 32 → sp_bit v k = (f k || (decide (k < sp_n w 5) && yw_any (yw_nb w) f k (sp_n w 5))) := hb
    subst et
    show yp (BX9_web_34 u x y v (nI (sp_n w 5))) _
    unfold BX9_web_34
    rw [show sn_I u 1 (5 : Int32).toNatClampNeg = nI (sp_n w 5) from (congrFun hu 5).trans (yl_5 hW).1, if_pos (nI_le (Nat.le_refl _) (by omega))]
    refine yp_gd (fun _ => yp_some (fun k hk => ?_))
    rw [hb k hk]
    unfold yw_F
    rcases Nat.lt_or_ge k (sp_n w 5) with g | g
    · rw [decide_eq_true g, Bool.true_and]
    · rw [any0 k g, Bool.and_false]
  · rw [decide_eq_false (by omega), Bool.false_and, Bool.or_false]
    exact hx k hk
  · unfold BX9_web_74
    exact yp_lt (yp_some ⟨rfl, hv⟩)
theorem yz_30 {a : Int32} (hK : zK σ τ) : yr (fX8_web σ a) (fX9_web τ a) (fun r s => r = s.1) := by
  obtain ⟨-, ⟨p1, p2, p3⟩, -⟩ := yK_n hK
  have hW := hK.2.1.1
  have hH := hK.2.1.2
  have hn : ∀ p k, sp_n (τ.1 1) 5 ≤ k → yw_nb (τ.1 1) p k = false := fun p k hk => yn_nb0 hk _ (fun n h => ⟨(hW.2.2.2.2.2.1 n h).2.1, (hW.2.2.2.2.2.1 n h).2.2.2.1⟩)
  unfold fX8_web fX9_web
  rw [c_isPerson, p1]
  by_cases cp : 0 ≤ a ∧ a < τ.1 1 5
  · obtain ⟨p, hp, ep⟩ := yK_p (by omega) p2 cp
    subst ep
    rw [if_pos cp]
    have b0 : ∀ k, k < 32 → sp_bit ((1 : Int32) <<< (nI p &&& 31)) k = decide (k = p) := fun k hk => yb_1k (by omega) hk
    obtain ⟨g, hg⟩ : ∃ g : Nat → Nat → Bool, g = yw_it (yw_nb (τ.1 1)) (sp_n (τ.1 1) 5) (fun k => decide (k = p)) := ⟨_, rfl⟩
    have g0 : ∀ k, g 0 k = decide (k = p) := fun k => by rw [hg]; rfl
    have gs : ∀ n k, g (n + 1) k = yw_F (yw_nb (τ.1 1)) (sp_n (τ.1 1) 5) (g n) k := fun n k => by rw [hg]; rfl
    have stop : ∀ k, g 6 k = g 5 k := by
      rw [hg]
      rcases yw_stop (f := fun k => decide (k = p)) p3 hn (yw_cone 6 (by omega)) 5 with h | h
      · exact h
      · have h : 7 ≤ yw_n (yw_it (yw_nb (τ.1 1)) (sp_n (τ.1 1) 5) (fun k => decide (k = p)) 6) 6 := h
        have := yw_cle (yw_it (yw_nb (τ.1 1)) (sp_n (τ.1 1) 5) (fun k => decide (k = p)) 6) 6
        omega
    refine yr_of (A := fun v => ∀ k, k < 32 → sp_bit v k = g 5 k) (B := fun s => ∀ k, k < 32 → sp_bit s.1 k = g 6 k) ?_ ?_ (fun v s hv hs => yb_ext (fun k hk => by rw [hv k hk, hs k hk, stop k]))
    · refine yp_bs rfl ?_
      rw [if_neg (by decide)]
      refine yp_lt (yp_bd (fun v => ∀ k, k < 32 → sp_bit v k = g 5 k) (yp_for0 1 6 (by decide) (fun n s => s.2 = nI n ∧ ∀ k, k < 32 → sp_bit s.1 k = g (n - 1) k) (fun n s hn1 hn2 hs => ?_) (fun s hs => ?_) ⟨by rfl, fun k hk => by exact (b0 k hk).trans (g0 k).symm⟩) (fun v hv => ?_))
      · obtain ⟨v, t⟩ := s
        obtain ⟨et, hb⟩ := hs
        have et : t = nI n := et
        subst et
        show yp (BX8_web_17 σ v (nI n)) _
        unfold BX8_web_17
        rw [if_neg (show ¬ (6 : Int32) ≤ nI n from nI_ge (b := 6) hn2 (by decide))]
        refine yp_w (yc_sweep hW hH hK.2.2.2.2.1.1 hb) (fun o ho => ?_)
        cases o with
        | inl s =>
          refine ⟨ho.1.trans (nI_1 n), fun k hk => (ho.2 k hk).trans ?_⟩
          rw [show n + 1 - 1 = (n - 1) + 1 by omega]
          exact (gs (n - 1) k).symm
        | inr t => exact ho
      · obtain ⟨v, t⟩ := s
        obtain ⟨et, hb⟩ := hs
        have et : t = nI 6 := et
        subst et
        show yp (BX8_web_17 σ v (nI 6)) _
        unfold BX8_web_17
        rw [if_pos (show (6 : Int32) ≤ nI 6 by decide)]
        exact yp_some hb
      · unfold BX8_web_79
        exact yp_some hv
    · refine yp_bd _ (ym_asItIs rfl hW) (fun u hu => ?_)
      have u1 : u.1 1 = τ.1 1 := hu.1.1 1 (by decide) (by decide) (by decide) (by decide)
      have hT := ya_day rfl hW hu
      have e5 : u.1 1 5 = nI (sp_n (τ.1 1) 5) := (congrFun u1 5).trans p2
      rw [m_isPerson (by rw [e5]; exact nI_pos' (by omega)), u1, if_pos cp]
      refine yp_bs rfl ?_
      rw [if_neg (by decide)]
      refine yp_lt (yp_bd (fun v => ∀ k, k < 32 → sp_bit v k = g 6 k) (yp_for 6 (fun n s => s.2 = nI n ∧ ∀ k, k < 32 → sp_bit s.1 k = g n k) (fun n s hn2 hs => ?_) (fun s hs => ?_) ⟨nI_0.symm, fun k hk => by exact (b0 k hk).trans (g0 k).symm⟩) (fun v hv => ?_))
      · obtain ⟨v, t⟩ := s
        obtain ⟨et, hb⟩ := hs
        have et : t = nI n := et
        subst et
        show yp (BX9_web_22 u v (nI n)) _
        unfold BX9_web_22
        rw [if_neg (show ¬ (6 : Int32) ≤ nI n from nI_ge (b := 6) hn2 (by decide))]
        refine yp_w (ym_sweep hW u1 hT hb) (fun o ho => ?_)
        cases o with
        | inl s => exact ⟨ho.1.trans (nI_1 n), fun k hk => (ho.2 k hk).trans (gs n k).symm⟩
        | inr t => exact ho
      · obtain ⟨v, t⟩ := s
        obtain ⟨et, hb⟩ := hs
        have et : t = nI 6 := et
        subst et
        show yp (BX9_web_22 u v (nI 6)) _
        unfold BX9_web_22
        rw [if_pos (show (6 : Int32) ≤ nI 6 by decide)]
        exact yp_some hb
      · unfold BX9_web_83
        exact yp_some hv
  · refine yr_eq (-2 : Int32) ?_ ?_
    · rw [if_neg cp]
      refine yp_bs rfl ?_
      rw [if_pos rfl]
      exact yp_some rfl
    · refine yp_bd _ (ym_asItIs rfl hW) (fun u hu => ?_)
      have u1 : u.1 1 = τ.1 1 := hu.1.1 1 (by decide) (by decide) (by decide) (by decide)
      have e5 : u.1 1 5 = nI (sp_n (τ.1 1) 5) := (congrFun u1 5).trans p2
      rw [m_isPerson (by rw [e5]; exact nI_pos' (by omega)), u1, if_neg cp]
      refine yp_bs rfl ?_
      rw [if_pos rfl]
      exact yp_some rfl
end
end
section
/-! every call keeps what the two have in common, the houses too -/
theorem zz_0 : st_0 zK zK := by
  intro σ τ a0 a1 a2 a3 a4 hJ
  obtain ⟨r, σ1, τ1, e1, e2, h⟩ := zK_0 σ τ a0 a1 a2 a3 a4 hJ
  exact ⟨r, r, σ1, τ1, e1, e2, h⟩
theorem zz_1 : st_1 zK zK := by
  intro σ τ a0 hJ
  obtain ⟨r, σ1, τ1, e1, e2, h⟩ := zK_1 σ τ a0 hJ
  exact ⟨r, r, σ1, τ1, e1, e2, h⟩
theorem zz_2 : st_2 zK zK := by
  intro σ τ hJ
  obtain ⟨r, σ1, τ1, e1, e2, h⟩ := zK_2 σ τ hJ
  exact ⟨r, r, σ1, τ1, e1, e2, h⟩
theorem zz_3 : st_3 zK zK := by
  intro σ τ a0 hJ
  obtain ⟨r, e1, e2⟩ := zJ_3 σ τ a0 hJ.1
  exact ⟨r, r, e1, e2, hJ⟩
theorem zz_4 : st_4 zK zK := by
  intro σ τ a0 a1 hJ
  obtain ⟨r, e1, e2⟩ := zJ_4 σ τ a0 a1 hJ.1
  exact ⟨r, r, e1, e2, hJ⟩
theorem zz_5 : st_5 zK zK := by
  intro σ τ a0 a1 hJ
  obtain ⟨r, e1, e2⟩ := zJ_5 σ τ a0 a1 hJ.1
  exact ⟨r, r, e1, e2, hJ⟩
theorem zz_6 : st_6 zK zK := by
  intro σ τ a0 hJ
  obtain ⟨r, e1, h1⟩ := zc_20 (zs_rf (key := zs_kC) (kl := zs_lC) hJ.1.1.1) (x1 := a0)
  obtain ⟨r2, e2, h2⟩ := zc_43 (zs_rf (key := zs_kM) (kl := zs_lM) hJ.1.1.2.1) (x1 := a0)
  exact ⟨r, r2.1, r2.2, e1, e2, zK_keep (zs_rf hJ.1.1.1) (h2.1.2) hJ⟩
theorem zz_7 : st_7 zK zK := by
  intro σ τ a0 hJ
  obtain ⟨r, e1, h1⟩ := zc_45 (zs_rf (key := zs_kC) (kl := zs_lC) hJ.1.1.1) (x1 := a0)
  obtain ⟨r2, e2, h2⟩ := zc_96 (zs_rf (key := zs_kM) (kl := zs_lM) hJ.1.1.2.1) (x1 := a0)
  exact ⟨r, r2.1, r2.2, e1, e2, zK_keep (zs_rf hJ.1.1.1) (h2.1.2) hJ⟩
theorem zz_8 : st_8 zK zK := by
  intro σ τ a0 hJ
  obtain ⟨r, e1, h1⟩ := zc_97 (zs_rf (key := zs_kC) (kl := zs_lC) hJ.1.1.1) (x1 := a0)
  obtain ⟨r2, e2, h2⟩ := zc_99 (zs_rf (key := zs_kM) (kl := zs_lM) hJ.1.1.2.1) (x1 := a0)
  exact ⟨r, r2.1, r2.2, e1, e2, zK_keep (zs_rf hJ.1.1.1) (h2.1.2) hJ⟩
theorem zz_9 : st_9 zK zK := by
  intro σ τ a0 hJ
  obtain ⟨r, e1, h1⟩ := zc_100 (zs_rf (key := zs_kC) (kl := zs_lC) hJ.1.1.1) (x1 := a0)
  obtain ⟨r2, e2, h2⟩ := zc_101 (zs_rf (key := zs_kM) (kl := zs_lM) hJ.1.1.2.1) (x1 := a0)
  exact ⟨r, r2.1, r2.2, e1, e2, zK_keep (zs_rf hJ.1.1.1) (h2.1.2) hJ⟩
theorem zz_10 : st_10 zK zK := by
  intro σ τ hJ
  obtain ⟨r, e1, h1⟩ := zc_106 (zs_rf (key := zs_kC) (kl := zs_lC) hJ.1.1.1) 
  obtain ⟨r2, e2, h2⟩ := zc_113 (zs_rf (key := zs_kM) (kl := zs_lM) hJ.1.1.2.1) 
  exact ⟨r, r2.1, r2.2, e1, e2, zK_keep (zs_rf hJ.1.1.1) (h2.2) hJ⟩
theorem zz_11 : st_11 zK zK := by
  intro σ τ a0 hJ
  obtain ⟨r, e1, h1⟩ := zc_114 (zs_rf (key := zs_kC) (kl := zs_lC) hJ.1.1.1) (x1 := a0)
  obtain ⟨r2, e2, h2⟩ := zc_115 (zs_rf (key := zs_kM) (kl := zs_lM) hJ.1.1.2.1) (x1 := a0)
  exact ⟨r, r2.1, r2.2, e1, e2, zK_keep (zs_rf hJ.1.1.1) (h2.1.2) hJ⟩
theorem zz_12 : st_12 zK zK := by
  intro σ τ a0 a1 hJ
  obtain ⟨r, e1, h1⟩ := zc_117 (zs_rf (key := zs_kC) (kl := zs_lC) hJ.1.1.1) (x1 := a0) (x2 := a1)
  obtain ⟨r2, e2, h2⟩ := zc_118 (zs_rf (key := zs_kM) (kl := zs_lM) hJ.1.1.2.1) (x1 := a0) (x2 := a1)
  exact ⟨r, r2.1, r2.2, e1, e2, zK_keep (zs_rf hJ.1.1.1) (h2.1.2) hJ⟩
theorem zz_13 : st_13 zK zK := by
  intro σ τ a0 hJ
  obtain ⟨r, e1, h1⟩ := zc_121 (zs_rf (key := zs_kC) (kl := zs_lC) hJ.1.1.1) (x1 := a0)
  obtain ⟨r2, e2, h2⟩ := zc_124 (zs_rf (key := zs_kM) (kl := zs_lM) hJ.1.1.2.1) (x1 := a0)
  exact ⟨r, r2.1, r2.2, e1, e2, zK_keep (zs_rf hJ.1.1.1) (h2.1.2) hJ⟩
theorem zz_14 : st_14 zK zK := by
  intro σ τ a0 hJ
  obtain ⟨r, e1, h1⟩ := zc_128 (zs_rf (key := zs_kC) (kl := zs_lC) hJ.1.1.1) (x1 := a0)
  obtain ⟨r2, e2, h2⟩ := zc_129 (zs_rf (key := zs_kM) (kl := zs_lM) hJ.1.1.2.1) (x1 := a0)
  exact ⟨r, r2.1, r2.2, e1, e2, zK_keep (zs_rf hJ.1.1.1) (h2.1.2) hJ⟩
theorem zz_15 : st_15 zK zK := by
  intro σ τ a0 hJ
  obtain ⟨r, e1, h1⟩ := zc_130 (zs_rf (key := zs_kC) (kl := zs_lC) hJ.1.1.1) (x1 := a0)
  obtain ⟨r2, e2, h2⟩ := zc_136 (zs_rf (key := zs_kM) (kl := zs_lM) hJ.1.1.2.1) (x1 := a0)
  exact ⟨r, r2.1, r2.2, e1, e2, zK_keep (zs_rf hJ.1.1.1) (h2.1.2) hJ⟩
theorem zz_16 : st_16 zK zK := by
  intro σ τ hJ
  obtain ⟨r, e1, h1⟩ := zc_141 (zs_rf (key := zs_kC) (kl := zs_lC) hJ.1.1.1) 
  obtain ⟨r2, e2, h2⟩ := zc_146 (zs_rf (key := zs_kM) (kl := zs_lM) hJ.1.1.2.1) 
  exact ⟨r, r2.1, r2.2, e1, e2, zK_keep (zs_rf hJ.1.1.1) (h2.2) hJ⟩
theorem zz_17 : st_17 zK zK := by
  intro σ τ hJ
  obtain ⟨r, e1, h1⟩ := zc_149 (zs_rf (key := zs_kC) (kl := zs_lC) hJ.1.1.1) 
  obtain ⟨r2, e2, h2⟩ := zc_154 (zs_rf (key := zs_kM) (kl := zs_lM) hJ.1.1.2.1) 
  exact ⟨r, r2.1, r2.2, e1, e2, zK_keep (zs_rf hJ.1.1.1) (h2.2) hJ⟩
theorem zz_18 : st_18 zK zK := by
  intro σ τ hJ
  obtain ⟨r, e1, h1⟩ := zc_159 (zs_rf (key := zs_kC) (kl := zs_lC) hJ.1.1.1) 
  obtain ⟨r2, e2, h2⟩ := zc_164 (zs_rf (key := zs_kM) (kl := zs_lM) hJ.1.1.2.1) 
  exact ⟨r, r2.1, r2.2, e1, e2, zK_keep (zs_rf hJ.1.1.1) (h2.2) hJ⟩
theorem zz_19 : st_19 zK zK := by
  intro σ τ a0 hJ
  obtain ⟨r, e1, h1⟩ := zc_176 (zs_rf (key := zs_kC) (kl := zs_lC) hJ.1.1.1) (x1 := a0)
  obtain ⟨r2, e2, h2⟩ := zc_186 (zs_rf (key := zs_kM) (kl := zs_lM) hJ.1.1.2.1) (x1 := a0)
  exact ⟨r, r2.1, r2.2, e1, e2, zK_keep (zs_rf hJ.1.1.1) (h2.1.2) hJ⟩
theorem zz_20 : st_20 zK zK := by
  intro σ τ a0 a1 hJ
  obtain ⟨r, e1, h1⟩ := zc_188 (zs_rf (key := zs_kC) (kl := zs_lC) hJ.1.1.1) (x1 := a0) (x2 := a1)
  obtain ⟨r2, e2, h2⟩ := zc_191 (zs_rf (key := zs_kM) (kl := zs_lM) hJ.1.1.2.1) (x1 := a0) (x2 := a1)
  exact ⟨r, r2.1, r2.2, e1, e2, zK_keep (zs_rf hJ.1.1.1) (h2.1.2) hJ⟩
theorem zz_21 : st_21 zK zK := by
  intro σ τ a0 hJ
  obtain ⟨r, e1, h1⟩ := zc_199 (zs_rf (key := zs_kC) (kl := zs_lC) hJ.1.1.1) (x1 := a0)
  obtain ⟨r2, e2, h2⟩ := zc_211 (zs_rf (key := zs_kM) (kl := zs_lM) hJ.1.1.2.1) (x1 := a0)
  exact ⟨r, r2.1, r2.2, e1, e2, zK_keep (zs_rf hJ.1.1.1) (h2.1.2) hJ⟩
theorem zz_22 : st_22 zK zK := by
  intro σ τ hJ
  obtain ⟨r, e1, h1⟩ := zc_215 (zs_rf (key := zs_kC) (kl := zs_lC) hJ.1.1.1) 
  obtain ⟨r2, e2, h2⟩ := zc_220 (zs_rf (key := zs_kM) (kl := zs_lM) hJ.1.1.2.1) 
  exact ⟨r, r2.1, r2.2, e1, e2, zK_keep (zs_rf hJ.1.1.1) (h2.2) hJ⟩
theorem zz_23 : st_23 zK zK := by
  intro σ τ a0 hJ
  obtain ⟨r, e1, h1⟩ := zc_225 (zs_rf (key := zs_kC) (kl := zs_lC) hJ.1.1.1) (x1 := a0)
  obtain ⟨r2, e2, h2⟩ := zc_228 (zs_rf (key := zs_kM) (kl := zs_lM) hJ.1.1.2.1) (x1 := a0)
  exact ⟨r, r2.1, r2.2, e1, e2, zK_keep (zs_rf hJ.1.1.1) (h2.1.2) hJ⟩
theorem zz_24 : st_24 zK zK := by
  intro σ τ a0 hJ
  obtain ⟨r, e1, h1⟩ := zc_238 (zs_rf (key := zs_kC) (kl := zs_lC) hJ.1.1.1) (x1 := a0)
  obtain ⟨r2, e2, h2⟩ := zc_263 (zs_rf (key := zs_kM) (kl := zs_lM) hJ.1.1.2.1) (x1 := a0)
  exact ⟨r.1, r2.1, r.2, r2.2, e1, e2, zK_keep (h1.2) (h2.2) hJ⟩
theorem zz_25 : st_25 zK zK := by
  intro σ τ hJ
  obtain ⟨r, e1, h1⟩ := zc_276 (zs_rf (key := zs_kC) (kl := zs_lC) hJ.1.1.1) 
  obtain ⟨r2, e2, h2⟩ := zc_313 (zs_rf (key := zs_kM) (kl := zs_lM) hJ.1.1.2.1) 
  exact ⟨r.1, r2.1, r.2, r2.2, e1, e2, zK_keep (h1.2) (h2.2) hJ⟩
theorem zz_26 : st_26 zK zK := by
  intro σ τ a0 hJ
  obtain ⟨r, e1, h1⟩ := zc_353 (zs_rf (key := zs_kC) (kl := zs_lC) hJ.1.1.1) (x1 := a0)
  obtain ⟨r2, e2, h2⟩ := zA_70 (zs_rf (key := zs_kM0) (kl := zs_lM) hJ.1.1.2.1) (x1 := a0)
  exact ⟨r.1, r2.1, r.2, r2.2, e1, e2, zK_keep0 (h1.1.2) (h2.1.2) (qb_dull hJ.1.1.2.1 e2) hJ⟩
theorem zz_27 : st_27 zK zK := by
  intro σ τ a0 hJ
  obtain ⟨r, e1, h1⟩ := zc_358 (zs_rf (key := zs_kC) (kl := zs_lC) hJ.1.1.1) (x1 := a0)
  obtain ⟨r2, e2, h2⟩ := zA_79 (zs_rf (key := zs_kM0) (kl := zs_lM) hJ.1.1.2.1) (x1 := a0)
  exact ⟨r.1, r2.1, r.2, r2.2, e1, e2, zK_keep0 (h1.1.2) (h2.1.2) (qb_bears hJ.1.1.2.1 e2) hJ⟩
theorem zz_28 : st_28 zK zK := by
  intro σ τ hJ
  obtain ⟨r, e1, h1⟩ := zc_366 (zs_rf (key := zs_kC) (kl := zs_lC) hJ.1.1.1) 
  obtain ⟨r2, e2, h2⟩ := zA_94 (zs_rf (key := zs_kM0) (kl := zs_lM) hJ.1.1.2.1) 
  exact ⟨r.1, r2.1, r.2, r2.2, e1, e2, zK_keep0 (h1.2) (h2.2) (qb_clean hJ.1.1.2.1 e2) hJ⟩
theorem zz_29 : st_29 zK zK := by
  intro σ τ a0 hJ
  obtain ⟨r, e1, h1⟩ := zc_370 (zs_rf (key := zs_kC) (kl := zs_lC) hJ.1.1.1) (x1 := a0)
  obtain ⟨r2, e2, h2⟩ := zc_378 (zs_rf (key := zs_kM) (kl := zs_lM) hJ.1.1.2.1) (x1 := a0)
  exact ⟨r.1, r2.1, r.2, r2.2, e1, e2, zK_keep (h1.1.2) (h2.1.2) hJ⟩
theorem zz_30 : st_30 zK zK := by
  intro σ τ a0 hJ
  obtain ⟨r, e1, h1⟩ := zc_384 (zs_rf (key := zs_kC) (kl := zs_lC) hJ.1.1.1) (x1 := a0)
  obtain ⟨r2, e2, h2⟩ := zc_397 (zs_rf (key := zs_kM) (kl := zs_lM) hJ.1.1.2.1) (x1 := a0)
  have q : r = r2.1 := yz_30 hJ _ _ e1 e2
  exact ⟨r, r2.2, e1, (e2.trans (show some r2 = some (r, r2.2) by rw [q])), zK_keep (zs_rf hJ.1.1.1) (h2.1.2) hJ⟩
theorem zz_31 : st_31 zK zK := by
  intro σ τ a0 hJ
  obtain ⟨r, e1, h1⟩ := zc_398 (zs_rf (key := zs_kC) (kl := zs_lC) hJ.1.1.1) (x1 := a0)
  obtain ⟨r2, e2, h2⟩ := zc_399 (zs_rf (key := zs_kM) (kl := zs_lM) hJ.1.1.2.1) (x1 := a0)
  exact ⟨r.1, r2.1, r.2, r2.2, e1, e2, zK_keep (h1.1.2) (h2.1.2) hJ⟩
theorem zz_32 : st_32 zK zK := by
  intro σ τ a0 hJ
  obtain ⟨r, e1, h1⟩ := zc_400 (zs_rf (key := zs_kC) (kl := zs_lC) hJ.1.1.1) (x1 := a0)
  obtain ⟨r2, e2, h2⟩ := zc_401 (zs_rf (key := zs_kM) (kl := zs_lM) hJ.1.1.2.1) (x1 := a0)
  exact ⟨r.1, r2.1, r.2, r2.2, e1, e2, zK_keep (h1.1.2) (h2.1.2) hJ⟩
theorem zz_33 : st_33 zK zK := by
  intro σ τ hJ
  obtain ⟨r, e1, h1⟩ := zc_405 (zs_rf (key := zs_kC) (kl := zs_lC) hJ.1.1.1) 
  obtain ⟨r2, e2, h2⟩ := zc_410 (zs_rf (key := zs_kM) (kl := zs_lM) hJ.1.1.2.1) 
  exact ⟨r.1, r2.1, r.2, r2.2, e1, e2, zK_keep (h1.2) (h2.2) hJ⟩
theorem zz_34 : st_34 zK zK := by
  intro σ τ a0 hJ
  obtain ⟨r, e1, h1⟩ := zc_411 (zs_rf (key := zs_kC) (kl := zs_lC) hJ.1.1.1) (x1 := a0)
  obtain ⟨r2, e2, h2⟩ := zc_412 (zs_rf (key := zs_kM) (kl := zs_lM) hJ.1.1.2.1) (x1 := a0)
  exact ⟨r.1, r2.1, r.2, r2.2, e1, e2, zK_keep (h1.2) (h2.2) hJ⟩
theorem zz_35 : st_35 zK zK := by
  intro σ τ hJ
  obtain ⟨r, e1, h1⟩ := zc_416 (zs_rf (key := zs_kC) (kl := zs_lC) hJ.1.1.1) 
  obtain ⟨r2, e2, h2⟩ := zc_420 (zs_rf (key := zs_kM) (kl := zs_lM) hJ.1.1.2.1) 
  exact ⟨r.1, r2.1, r.2, r2.2, e1, e2, zK_keep (h1.2) (h2.2) hJ⟩
theorem zz_36 : st_36 zK zK := by
  intro σ τ hJ
  obtain ⟨r, e1, h1⟩ := zc_425 (zs_rf (key := zs_kC) (kl := zs_lC) hJ.1.1.1) 
  obtain ⟨r2, e2, h2⟩ := zc_430 (zs_rf (key := zs_kM) (kl := zs_lM) hJ.1.1.2.1) 
  exact ⟨r.1, r2.1, r.2, r2.2, e1, e2, zK_keep (h1.2) (h2.2) hJ⟩
theorem zz_37 : st_37 zK zK := by
  intro σ τ hJ
  obtain ⟨r, e1, h1⟩ := zc_434 (zs_rf (key := zs_kC) (kl := zs_lC) hJ.1.1.1) 
  obtain ⟨r2, e2, h2⟩ := zh_reserve (zs_rf (key := zs_kM) (kl := zs_lM) hJ.1.1.2.1)
  exact ⟨r.1, r2.1, r.2, r2.2, e1, e2, zK_keep (h1.2) (h2) hJ⟩
theorem zz_38 : st_38 zK zK := by
  intro σ τ a0 hJ
  obtain ⟨r, e1, h1⟩ := zc_437 (zs_rf (key := zs_kC) (kl := zs_lC) hJ.1.1.1) (x1 := a0)
  obtain ⟨r2, e2, h2⟩ := zc_446 (zs_rf (key := zs_kM) (kl := zs_lM) hJ.1.1.2.1) (x1 := a0)
  exact ⟨r.1, r2.1, r.2, r2.2, e1, e2, zK_keep (h1.2) (h2.2) hJ⟩
theorem zz_39 : st_39 zK zK := by
  intro σ τ hJ
  obtain ⟨r, e1, h1⟩ := zc_457 (zs_rf (key := zs_kC) (kl := zs_lC) hJ.1.1.1) 
  obtain ⟨r2, e2, h2⟩ := zc_463 (zs_rf (key := zs_kM) (kl := zs_lM) hJ.1.1.2.1) 
  exact ⟨r.1, r2.1, r.2, r2.2, e1, e2, zK_keep (h1.2) (h2.2) hJ⟩
theorem zz_40 : st_40 zK zK := by
  intro σ τ a0 hJ
  obtain ⟨r, e1, h1⟩ := zc_471 (zs_rf (key := zs_kC) (kl := zs_lC) hJ.1.1.1) (x1 := a0)
  obtain ⟨r2, e2, h2⟩ := zc_478 (zs_rf (key := zs_kM) (kl := zs_lM) hJ.1.1.2.1) (x1 := a0)
  exact ⟨r, r2.1, r2.2, e1, e2, zK_keep (zs_rf hJ.1.1.1) (h2.1.2) hJ⟩
theorem zz_41 : st_41 zK zK := by
  intro σ τ a0 hJ
  obtain ⟨r, e1, h1⟩ := zc_479 (zs_rf (key := zs_kC) (kl := zs_lC) hJ.1.1.1) (x1 := a0)
  obtain ⟨r2, e2, h2⟩ := zc_480 (zs_rf (key := zs_kM) (kl := zs_lM) hJ.1.1.2.1) (x1 := a0)
  exact ⟨r, r2.1, r2.2, e1, e2, zK_keep (zs_rf hJ.1.1.1) (h2.1.2) hJ⟩
theorem zz_42 : st_42 zK zK := by
  intro σ τ a0 hJ
  obtain ⟨r, e1, h1⟩ := zc_489 (zs_rf (key := zs_kC) (kl := zs_lC) hJ.1.1.1) (x1 := a0)
  obtain ⟨r2, e2, h2⟩ := zr_price hJ.1.1.2.1 a0
  exact ⟨r, r2.1, r2.2, e1, e2, zK_keep (zs_rf hJ.1.1.1) (h2) hJ⟩
theorem zz_43 : st_43 zK zK := by
  intro σ τ a0 hJ
  obtain ⟨r, e1, h1⟩ := zc_511 (zs_rf (key := zs_kC) (kl := zs_lC) hJ.1.1.1) (x1 := a0)
  obtain ⟨r2, e2, h2⟩ := zc_527 (zs_rf (key := zs_kM) (kl := zs_lM) hJ.1.1.2.1) (x1 := a0)
  exact ⟨r.1, r2.1, r.2, r2.2, e1, e2, zK_keep (h1.1.2) (h2.1.2) hJ⟩
theorem zz_44 : st_44 zK zK := by
  intro σ τ a0 hJ
  obtain ⟨r, e1, h1⟩ := zc_529 (zs_rf (key := zs_kC) (kl := zs_lC) hJ.1.1.1) (x1 := a0)
  obtain ⟨r2, e2, h2⟩ := zc_530 (zs_rf (key := zs_kM) (kl := zs_lM) hJ.1.1.2.1) (x1 := a0)
  exact ⟨r.1, r2.1, r.2, r2.2, e1, e2, zK_keep (h1.1.2) (h2.1.2) hJ⟩
theorem zz_45 : st_45 zK zK := by
  intro σ τ a0 hJ
  obtain ⟨r, e1, h1⟩ := zc_543 (zs_rf (key := zs_kC) (kl := zs_lC) hJ.1.1.1) (x1 := a0)
  obtain ⟨r2, e2, h2⟩ := zc_549 (zs_rf (key := zs_kM) (kl := zs_lM) hJ.1.1.2.1) (x1 := a0)
  exact ⟨r.1, r2.1, r.2, r2.2, e1, e2, zK_keep (h1.1.2) (h2.1.2) hJ⟩
theorem zz_46 : st_46 zK zK := by
  intro σ τ a0 hJ
  obtain ⟨r, e1, h1⟩ := zc_550 (zs_rf (key := zs_kC) (kl := zs_lC) hJ.1.1.1) (x1 := a0)
  obtain ⟨r2, e2, h2⟩ := zc_551 (zs_rf (key := zs_kM) (kl := zs_lM) hJ.1.1.2.1) (x1 := a0)
  exact ⟨r.1, r2.1, r.2, r2.2, e1, e2, zK_keep (h1.1.2) (h2.1.2) hJ⟩
theorem zz_47 : st_47 zK zK := by
  intro σ τ a0 hJ
  obtain ⟨r, e1, h1⟩ := zc_579 (zs_rf (key := zs_kC) (kl := zs_lC) hJ.1.1.1) (x1 := a0)
  obtain ⟨r2, e2, h2⟩ := zc_1500 (zs_rf (key := zs_kM) (kl := zs_lM) hJ.1.1.2.1) (x1 := a0)
  exact ⟨r.1, r2.1, r.2, r2.2, e1, e2, zK_keep (h1.1.2) (h2.2) hJ⟩
theorem zz_48 : st_48 zK zK := by
  intro σ τ a0 hJ
  obtain ⟨r, e1, h1⟩ := zc_580 (zs_rf (key := zs_kC) (kl := zs_lC) hJ.1.1.1) (x1 := a0)
  obtain ⟨r2, e2, h2⟩ := zc_1503 (zs_rf (key := zs_kM) (kl := zs_lM) hJ.1.1.2.1) (x1 := a0)
  exact ⟨r.1, r2.1, r.2, r2.2, e1, e2, zK_keep (h1.1.2) (h2.2) hJ⟩
theorem zz_49 : st_49 zK zK := by
  intro σ τ a0 hJ
  obtain ⟨r, e1, h1⟩ := zc_581 (zs_rf (key := zs_kC) (kl := zs_lC) hJ.1.1.1) (x1 := a0)
  obtain ⟨r2, e2, h2⟩ := zc_1504 (zs_rf (key := zs_kM) (kl := zs_lM) hJ.1.1.2.1) (x1 := a0)
  exact ⟨r.1, r2.1, r.2, r2.2, e1, e2, zK_keep (h1.1.2) (h2.2) hJ⟩
theorem zz_50 : st_50 zK zK := by
  intro σ τ a0 hJ
  obtain ⟨r, e1, h1⟩ := zc_590 (zs_rf (key := zs_kC) (kl := zs_lC) hJ.1.1.1) (x1 := a0)
  obtain ⟨r2, e2, h2⟩ := zc_1516 (zs_rf (key := zs_kM) (kl := zs_lM) hJ.1.1.2.1) (x1 := a0)
  exact ⟨r.1, r2.1, r.2, r2.2, e1, e2, zK_keep (h1.1.2) (h2.2) hJ⟩
theorem zz_51 : st_51 zK zK := by
  intro σ τ a0 hJ
  obtain ⟨r, e1, h1⟩ := zc_591 (zs_rf (key := zs_kC) (kl := zs_lC) hJ.1.1.1) (x1 := a0)
  obtain ⟨r2, e2, h2⟩ := zc_1517 (zs_rf (key := zs_kM) (kl := zs_lM) hJ.1.1.2.1) (x1 := a0)
  exact ⟨r.1, r2.1, r.2, r2.2, e1, e2, zK_keep (h1.1.2) (h2.2) hJ⟩
theorem zz_52 : st_52 zK zK := by
  intro σ τ a0 a1 hJ
  obtain ⟨r, e1, h1⟩ := zc_606 (zs_rf (key := zs_kC) (kl := zs_lC) hJ.1.1.1) (x1 := a0) (x2 := a1)
  obtain ⟨r2, e2, h2⟩ := zc_642 (zs_rf (key := zs_kM) (kl := zs_lM) hJ.1.1.2.1) (x1 := a0) (x2 := a1)
  exact ⟨r.1, r2.1, r.2, r2.2, e1, e2, zK_keep (h1.1.2) (h2.1.2) hJ⟩
theorem zz_53 : st_53 zK zK := by
  intro σ τ a0 a1 a2 a3 hJ
  obtain ⟨r, e1, h1⟩ := zc_643 (zs_rf (key := zs_kC) (kl := zs_lC) hJ.1.1.1) (x1 := a0) (x2 := a1) (x3 := a2) (x4 := a3)
  obtain ⟨r2, e2, h2⟩ := zc_651 (zs_rf (key := zs_kM) (kl := zs_lM) hJ.1.1.2.1) (x1 := a0) (x2 := a1) (x3 := a2) (x4 := a3)
  exact ⟨r.1, r2.1, r.2, r2.2, e1, e2, zK_keep (h1.1.2) (h2.1.2) hJ⟩
theorem zz_54 : st_54 zK zK := by
  intro σ τ a0 hJ
  obtain ⟨r, e1, h1⟩ := zc_654 (zs_rf (key := zs_kC) (kl := zs_lC) hJ.1.1.1) (x1 := a0)
  obtain ⟨r2, e2, h2⟩ := zc_657 (zs_rf (key := zs_kM) (kl := zs_lM) hJ.1.1.2.1) (x1 := a0)
  exact ⟨r.1, r2.1, r.2, r2.2, e1, e2, zK_keep (h1.1.2) (h2.1.2) hJ⟩
theorem zz_55 : st_55 zK zK := by
  intro σ τ hJ
  obtain ⟨r, e1, h1⟩ := zc_662 (zs_rf (key := zs_kC) (kl := zs_lC) hJ.1.1.1) 
  obtain ⟨r2, e2, h2⟩ := zc_667 (zs_rf (key := zs_kM) (kl := zs_lM) hJ.1.1.2.1) 
  exact ⟨r.1, r2.1, r.2, r2.2, e1, e2, zK_keep (h1.2) (h2.2) hJ⟩
theorem zz_56 : st_56 zK zK := by
  intro σ τ a0 a1 a2 hJ
  obtain ⟨r, e1, h1⟩ := zc_1112 (zs_rf (key := zs_kC) (kl := zs_lC) hJ.1.1.1) (x1 := a0) (x2 := a1) (x3 := a2)
  obtain ⟨r2, e2, h2⟩ := zq_chance hJ.1.1.2.1 a0 a1 a2
  exact ⟨r.1, r2.1, r.2, r2.2, e1, e2, zK_keep (h1.1.2) (h2) hJ⟩
theorem zz_57 : st_57 zK zK := by
  intro σ τ a0 a1 a2 hJ
  obtain ⟨r, e1, h1⟩ := zc_1235 (zs_rf (key := zs_kC) (kl := zs_lC) hJ.1.1.1) (x1 := a0) (x2 := a1) (x3 := a2)
  obtain ⟨r2, e2, h2⟩ := zq_fair hJ.1.1.2.1 a0 a1 a2
  exact ⟨r.1, r2.1, r.2, r2.2, e1, e2, zK_keep (h1.1.2) (h2) hJ⟩
theorem zz_58 : st_58 zK zK := by
  intro σ τ a0 a1 hJ
  obtain ⟨r, e1, h1⟩ := zc_1445 (zs_rf (key := zs_kC) (kl := zs_lC) hJ.1.1.1) (x1 := a0) (x2 := a1)
  obtain ⟨r2, e2, h2⟩ := zq_risk hJ.1.1.2.1 a0 a1
  exact ⟨r.1, r2.1, r.2, r2.2, e1, e2, zK_keep (h1.1.2) (h2) hJ⟩
theorem zz_59 : st_59 zK zK := by
  intro σ τ a0 a1 hJ
  obtain ⟨r, σ1, τ1, e1, e2, h⟩ := zK_59 σ τ a0 a1 hJ
  exact ⟨r, r, σ1, τ1, e1, e2, h⟩
theorem zz_60 : st_60 zK zK := by
  intro σ τ a0 a1 hJ
  obtain ⟨r, σ1, τ1, e1, e2, h⟩ := zK_60 σ τ a0 a1 hJ
  exact ⟨r, r, σ1, τ1, e1, e2, h⟩
theorem zz_61 : st_61 zK zK := by
  intro σ τ hJ
  obtain ⟨r, σ1, τ1, e1, e2, h⟩ := zK_61 σ τ hJ
  exact ⟨r, r, σ1, τ1, e1, e2, h⟩
theorem zz_62 : st_62 zK zK := by
  intro σ τ hJ
  obtain ⟨r, σ1, τ1, e1, e2, h⟩ := zK_62 σ τ hJ
  exact ⟨r, r, σ1, τ1, e1, e2, h⟩
theorem zz_63 : st_63 zK zK := by
  intro σ τ a0 a1 hJ
  obtain ⟨r, e1, h1⟩ := zc_1452 (zs_rf (key := zs_kC) (kl := zs_lC) hJ.1.1.1) (x1 := a0) (x2 := a1)
  obtain ⟨r2, e2, h2⟩ := zc_1460 (zs_rf (key := zs_kM) (kl := zs_lM) hJ.1.1.2.1) (x1 := a0) (x2 := a1)
  exact ⟨r.1, r2.1, r.2, r2.2, e1, e2, zK_keep (h1.1.2) (h2.1.2) hJ⟩
theorem zz_64 : st_64 zK zK := by
  intro σ τ a0 a1 a2 hJ
  obtain ⟨r, e1, h1⟩ := zc_1465 (zs_rf (key := zs_kC) (kl := zs_lC) hJ.1.1.1) (x1 := a0) (x2 := a1) (x3 := a2)
  obtain ⟨r2, e2, h2⟩ := zc_1472 (zs_rf (key := zs_kM) (kl := zs_lM) hJ.1.1.2.1) (x1 := a0) (x2 := a1) (x3 := a2)
  exact ⟨r.1, r2.1, r.2, r2.2, e1, e2, zK_keep (h1.1.2) (h2.1.2) hJ⟩
theorem zz_65 : st_65 zK zK := by
  intro σ τ a0 a1 hJ
  obtain ⟨r, σ1, τ1, e1, e2, h⟩ := zK_65 σ τ a0 a1 hJ
  exact ⟨r, r, σ1, τ1, e1, e2, h⟩
theorem zz_66 : st_66 zK zK := by
  intro σ τ a0 hJ
  obtain ⟨r, e1, e2⟩ := zJ_66 σ τ a0 hJ.1
  exact ⟨r, r, e1, e2, hJ⟩
theorem zz_67 : st_67 zK zK := by
  intro σ τ a0 hJ
  obtain ⟨r, σ1, τ1, e1, e2, h⟩ := zK_67 σ τ a0 hJ
  exact ⟨r, r, σ1, τ1, e1, e2, h⟩
theorem zz_68 : st_68 zK zK := by
  intro σ τ a0 hJ
  obtain ⟨r, σ1, τ1, e1, e2, h⟩ := zK_68 σ τ a0 hJ
  exact ⟨r, r, σ1, τ1, e1, e2, h⟩
theorem zz_69 : st_69 zK zK := by
  intro σ τ a0 a1 a2 hJ
  obtain ⟨r, σ1, τ1, e1, e2, h⟩ := zK_69 σ τ a0 a1 a2 hJ
  exact ⟨r, r, σ1, τ1, e1, e2, h⟩
theorem zz_70 : st_70 zK zK := by
  intro σ τ a0 a1 a2 hJ
  obtain ⟨r, σ1, τ1, e1, e2, h⟩ := zK_70 σ τ a0 a1 a2 hJ
  exact ⟨r, r, σ1, τ1, e1, e2, h⟩
theorem zz_71 : st_71 zK zK := by
  intro σ τ a0 a1 a2 a3 a4 hJ
  obtain ⟨r, σ1, τ1, e1, e2, h⟩ := zK_71 σ τ a0 a1 a2 a3 a4 hJ
  exact ⟨r, r, σ1, τ1, e1, e2, h⟩
theorem zJ_ini : zJ sn_iniX8 sn_iniX9 := by
  have z0 : (0 : Int32).toInt = 0 := by decide
  have H : ∀ (h : Nat) (w : Nat → Int32), (∀ k, sn_iniX8.1 (h + 1) k = 0) → (∀ k, k < 11 → w k = 0) → rr_H h sn_iniX8 w := by
    intro h w h1 hw
    unfold rr_H
    rw [h1 5, h1 6, h1 7, h1 8, h1 9, z0]
    exact ⟨fun k hk => by rw [h1 k, hw k hk], fun i hi => absurd hi (by omega), fun i hi => absurd hi (by omega), fun i hi => absurd hi (by omega), fun i hi => absurd hi (by omega), fun i hi => absurd hi (by omega)⟩
  refine ⟨zj_ini, H 1 _ (fun k => rfl) (fun k _ => rfl), fun j hj => H _ _ (fun k => ?_) (fun k _ => rfl)⟩
  match j, hj with
  | 0, _ => rfl
  | 1, _ => rfl
  | 2, _ => rfl
theorem zK_ini : zK sn_iniX8 sn_iniX9 := by
  refine ⟨zJ_ini, ⟨jW_0 (fun _ => rfl), yH_0 (fun _ => rfl) (fun k => rfl)⟩, fun j hj => ⟨jW_0 (fun _ => rfl), yH_0 (fun _ => rfl) (fun k => ?_)⟩, yD_0 (fun _ => rfl) rfl rfl rfl rfl (fun m => rfl)⟩
  match j, hj with
  | 0, _ => rfl
  | 1, _ => rfl
  | 2, _ => rfl
theorem sn_pure : ∃ J : Nat → sn_S → sn_S → Prop, J 0 sn_iniX8 sn_iniX9 ∧ (∀ k, k + 6 ≤ 3072 → st_all (J k) (J (k + 6))) ∧ ∀ k, k + 6 ≤ 3072 → ∀ σ τ, J k σ τ → J (k + 6) σ τ := by
  refine ⟨fun _ => zK, zK_ini, fun _ _ => ⟨zz_0, zz_1, zz_2, zz_3, zz_4, zz_5, zz_6, zz_7, zz_8, zz_9, zz_10, zz_11, zz_12, zz_13, zz_14, zz_15, zz_16, zz_17, zz_18, zz_19, zz_20, zz_21, zz_22, zz_23, zz_24, zz_25, zz_26, zz_27, zz_28, zz_29, zz_30, zz_31, zz_32, zz_33, zz_34, zz_35, zz_36, zz_37, zz_38, zz_39, zz_40, zz_41, zz_42, zz_43, zz_44, zz_45, zz_46, zz_47, zz_48, zz_49, zz_50, zz_51, zz_52, zz_53, zz_54, zz_55, zz_56, zz_57, zz_58, zz_59, zz_60, zz_61, zz_62, zz_63, zz_64, zz_65, zz_66, zz_67, zz_68, zz_69, zz_70, zz_71⟩, fun _ _ _ _ h => h⟩
end
