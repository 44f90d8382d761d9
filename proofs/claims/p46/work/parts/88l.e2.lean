/-! who is beside whom -/
def yn_nb (na nb : Nat → Nat) (p o : Nat) : Nat → Bool
  | 0 => false
  | k + 1 => yn_nb na nb p o k || (decide (na k = p ∧ nb k = o) || decide (nb k = p ∧ na k = o))
theorem yn_nb0 {na nb : Nat → Nat} {p o P : Nat} (ho : P ≤ o) : ∀ n, (∀ k, k < n → na k < P ∧ nb k < P) → yn_nb na nb p o n = false := by
  intro n
  induction n with
  | zero => intro _; rfl
  | succ n ih =>
    intro h
    show (yn_nb na nb p o n || (decide (na n = p ∧ nb n = o) || decide (nb n = p ∧ na n = o))) = false
    have g := h n (by omega)
    rw [ih (fun k hk => h k (by omega)), decide_eq_false (by omega), decide_eq_false (by omega)]
    rfl
theorem yn_cntn {na nb : Nat → Nat} {p o : Nat} (ho : o < 32) : ∀ n, n ≤ 8 → (∀ k, k < n → na k < 6 ∧ nb k < 6) → ((0 < dy_cnt na nb (-1) p ((1 : Int32) <<< (nI o &&& 31)) n) ↔ yn_nb na nb p o n = true) := by
  intro n
  induction n with
  | zero =>
    intro _ _
    exact ⟨fun h => absurd h (show ¬ 0 < 0 by decide), fun h => absurd h (show ¬ false = true by decide)⟩
  | succ n ih =>
    intro hn h
    have g := h n (by omega)
    have i := ih (by omega) (fun k hk => h k (by omega))
    have ne : ¬ nI n = (-1 : Int32) := fun e => by
      have e2 := congrArg Int32.toInt e
      rw [nI_toInt (by omega), show (-1 : Int32).toInt = -1 by decide] at e2
      omega
    show (0 < dy_cnt na nb (-1) p ((1 : Int32) <<< (nI o &&& 31)) n + (if ¬ nI n = (-1 : Int32) ∧ ((na n = p ∧ sp_bit ((1 : Int32) <<< (nI o &&& 31)) (nb n) = true) ∨ (nb n = p ∧ sp_bit ((1 : Int32) <<< (nI o &&& 31)) (na n) = true)) then 1 else 0)) ↔ (yn_nb na nb p o n || (decide (na n = p ∧ nb n = o) || decide (nb n = p ∧ na n = o))) = true
    rw [yb_1k ho (show nb n < 32 by omega), yb_1k ho (show na n < 32 by omega)]
    have e : (¬ nI n = (-1 : Int32) ∧ ((na n = p ∧ decide (nb n = o) = true) ∨ (nb n = p ∧ decide (na n = o) = true))) ↔ ((na n = p ∧ nb n = o) ∨ (nb n = p ∧ na n = o)) := by
      constructor
      · rintro ⟨-, h⟩
        rcases h with ⟨a, b⟩ | ⟨a, b⟩
        · exact Or.inl ⟨a, of_decide_eq_true b⟩
        · exact Or.inr ⟨a, of_decide_eq_true b⟩
      · intro h
        refine ⟨ne, ?_⟩
        rcases h with ⟨a, b⟩ | ⟨a, b⟩
        · exact Or.inl ⟨a, decide_eq_true b⟩
        · exact Or.inr ⟨a, decide_eq_true b⟩
    have r : (yn_nb na nb p o n || (decide (na n = p ∧ nb n = o) || decide (nb n = p ∧ na n = o))) = true ↔ (yn_nb na nb p o n = true ∨ ((na n = p ∧ nb n = o) ∨ (nb n = p ∧ na n = o))) := by
      rw [Bool.or_eq_true, Bool.or_eq_true, decide_eq_true_eq, decide_eq_true_eq]
    rw [r, ← i]
    by_cases c : (na n = p ∧ nb n = o) ∨ (nb n = p ∧ na n = o)
    · rw [if_pos (e.mpr c)]
      exact ⟨fun _ => Or.inr c, fun _ => by omega⟩
    · rw [if_neg (fun z => c (e.mp z))]
      exact ⟨fun h => Or.inl (by omega), fun h => h.elim (fun h => by omega) (fun h => absurd h c)⟩
section
variable {σ τ : sn_S}
theorem yc_neigh0 {na nb : Nat → Nat} {N p : Nat} (hp : p < 6) (hN : N ≤ 8) (e7 : sn_I σ (1 + 1) (7 : Int32).toNatClampNeg = nI N) (hab : ∀ k, k < N → sn_I σ (1 + 4) (2 * k) = nI (na k) ∧ sn_I σ (1 + 4) (2 * k + 1) = nI (nb k) ∧ na k < 6 ∧ nb k < 6) : yp (fX2_neighbours σ 1 (nI p)) (fun v => ∀ o, o < 32 → sp_bit v o = yn_nb na nb p o N) := by
  unfold fX2_neighbours
  refine yp_bd (fun v => ∀ o, o < 32 → sp_bit v o = yn_nb na nb p o N) (yp_for N (fun k s => s.2 = nI k ∧ ∀ o, o < 32 → sp_bit s.1 o = yn_nb na nb p o k) (fun k s hk hs => ?_) (fun s hs => ?_) ⟨nI_0.symm, fun o ho => by exact yb_z o ho⟩) (fun v hv => ?_)
  · obtain ⟨v, x⟩ := s
    obtain ⟨ex, hv⟩ := hs
    have ex : x = nI k := ex
    subst ex
    have hv : ∀ o, o < 32 → sp_bit v o = yn_nb na nb p o k := hv
    obtain ⟨ea, eb, la, lb⟩ := hab k hk
    have k1 : ∀ o, yn_nb na nb p o (k + 1) = (yn_nb na nb p o k || (decide (na k = p ∧ nb k = o) || decide (nb k = p ∧ na k = o))) := fun o => rfl
    have l69 : ∀ y : Int32, (∀ o, o < 32 → sp_bit y o = yn_nb na nb p o (k + 1)) → yp (BX2_neighbours_69 σ 1 (nI p) y (nI k)) (yp_sum (fun s : Int32 × Int32 => s.2 = nI (k + 1) ∧ ∀ o, o < 32 → sp_bit s.1 o = yn_nb na nb p o (k + 1)) (fun _ => False)) := fun y hy => by
      unfold BX2_neighbours_69
      exact yp_lt (yp_some ⟨nI_1 k, hy⟩)
    have l42 : ∀ y : Int32, (∀ o, o < 32 → sp_bit y o = (yn_nb na nb p o k || decide (na k = p ∧ nb k = o))) → yp (BX2_neighbours_42 σ 1 (nI p) y (nI k)) (yp_sum (fun s : Int32 × Int32 => s.2 = nI (k + 1) ∧ ∀ o, o < 32 → sp_bit s.1 o = yn_nb na nb p o (k + 1)) (fun _ => False)) := fun y hy => by
      unfold BX2_neighbours_42
      rw [yi_2, show nI (2 * k) + (1 : Int32) = nI (2 * k + 1) from nI_1 _, nI_clamp (show 2 * k < 2 ^ 31 by omega), nI_clamp (show 2 * k + 1 < 2 ^ 31 by omega), ea, eb]
      refine yp_gd (fun _ => yp_ite (fun c => yp_gd (fun _ => yp_lt (l69 _ (fun o ho => ?_)))) (fun c => l69 _ (fun o ho => ?_)))
      · have c := (nI_eq (by omega) (by omega)).mp c
        have d : decide (o = na k) = decide (nb k = p ∧ na k = o) := decide_eq_decide.mpr ⟨fun e => ⟨c, e.symm⟩, fun e => e.2.symm⟩
        rw [yb_or1 y (show na k < 32 by omega) ho, hy o ho, k1, Bool.or_assoc, d]
      · have d : decide (nb k = p ∧ na k = o) = false := decide_eq_false (fun e => c (congrArg nI e.1))
        rw [hy o ho, k1, d, Bool.or_false]
    show yp (BX2_neighbours_4 σ 1 (nI p) v (nI k)) _
    unfold BX2_neighbours_4
    rw [e7, if_neg (nI_ge hk (by omega)), yi_2, show nI (2 * k) + (1 : Int32) = nI (2 * k + 1) from nI_1 _, nI_clamp (show 2 * k < 2 ^ 31 by omega), nI_clamp (show 2 * k + 1 < 2 ^ 31 by omega), ea, eb]
    refine yp_gd (fun _ => yp_gd (fun _ => yp_ite (fun c => yp_gd (fun _ => yp_lt (l42 _ (fun o ho => ?_)))) (fun c => l42 _ (fun o ho => ?_))))
    · have c := (nI_eq (by omega) (by omega)).mp c
      have d : decide (o = nb k) = decide (na k = p ∧ nb k = o) := decide_eq_decide.mpr ⟨fun e => ⟨c, e.symm⟩, fun e => e.2.symm⟩
      rw [yb_or1 v (show nb k < 32 by omega) ho, hv o ho, d]
    · have d : decide (na k = p ∧ nb k = o) = false := decide_eq_false (fun e => c (congrArg nI e.1))
      rw [hv o ho, d, Bool.or_false]
  · obtain ⟨v, x⟩ := s
    obtain ⟨ex, hv⟩ := hs
    have ex : x = nI N := ex
    subst ex
    show yp (BX2_neighbours_4 σ 1 (nI p) v (nI N)) _
    unfold BX2_neighbours_4
    rw [e7, if_pos (nI_le (Nat.le_refl _) (by omega))]
    exact yp_gd (fun _ => yp_some hv)
  · unfold BX2_neighbours_75
    exact yp_some hv
theorem yc_neigh {w : Nat → Int32} (hW : jW w) (hH : yH 1 σ w) {p : Nat} (hp : p < 6) : yp (fX2_neighbours σ 1 (nI p)) (fun v => ∀ o, o < 32 → sp_bit v o = yn_nb (fun k => sp_n w (33 + 2 * k)) (fun k => sp_n w (34 + 2 * k)) p o (sp_n w 7)) := by
  obtain ⟨b7, l7⟩ := hW.1.2.2.2.2.2.2.2.1
  have l5 := hW.1.2.2.2.2.2.1.2
  refine yc_neigh0 hp l7 ((hH.1 7 (by decide)).trans b7) (fun k hk => ?_)
  obtain ⟨g1, g2, g3, g4, g5⟩ := hW.2.2.2.2.2.1 k hk
  refine ⟨(hH.2.2.2.1 (2 * k) (by omega)).trans g1, ?_, Nat.lt_of_lt_of_le g2 l5, Nat.lt_of_lt_of_le g4 l5⟩
  have h := hH.2.2.2.1 (2 * k + 1) (by omega)
  rw [show 33 + (2 * k + 1) = 34 + 2 * k by omega] at h
  exact h.trans g3
/-- whom a net joins to p: the reference's way -/
theorem ym_nb {u : sn_S} {w : Nat → Int32} (hW : jW w) (hT : ym_T u (hs_day w)) {p o : Nat} (hp : p < 6) (ho : o < 32) : yp (fX9_netsTo u (nI p) ((1 : Int32) <<< (nI o &&& 31))) (fun v => (v ≤ 0 ↔ yn_nb (fun k => sp_n w (33 + 2 * k)) (fun k => sp_n w (34 + 2 * k)) p o (sp_n w 7) = false)) := by
  have l7 := hW.1.2.2.2.2.2.2.2.1.2
  have ok := hs_ok hW
  refine yp_w (ym_nets hT ok hp _) (fun v hv => ?_)
  have key := yn_cntn (na := fun k => sp_n w (33 + 2 * k)) (nb := fun k => sp_n w (34 + 2 * k)) (p := p) ho (sp_n w 7) l7 (fun k hk => ⟨(ok.2.2 k hk).1, (ok.2.2 k hk).2.1⟩)
  have hv : v = nI (dy_cnt (fun k => sp_n w (33 + 2 * k)) (fun k => sp_n w (34 + 2 * k)) (-1) p ((1 : Int32) <<< (nI o &&& 31)) (sp_n w 7)) := hv
  have le : ∀ n, dy_cnt (fun k => sp_n w (33 + 2 * k)) (fun k => sp_n w (34 + 2 * k)) (-1) p ((1 : Int32) <<< (nI o &&& 31)) n ≤ n := by
    intro n
    induction n with
    | zero => exact Nat.le_refl _
    | succ n ih =>
      show dy_cnt _ _ (-1) p ((1 : Int32) <<< (nI o &&& 31)) n + (if _ then 1 else 0) ≤ n + 1
      split <;> omega
  have l := le (sp_n w 7)
  rw [hv]
  generalize dy_cnt (fun k => sp_n w (33 + 2 * k)) (fun k => sp_n w (34 + 2 * k)) (-1) p ((1 : Int32) <<< (nI o &&& 31)) (sp_n w 7) = n at key l ⊢
  by_cases c : 0 < n
  · have y := key.mp c
    exact ⟨fun h => absurd h (nI_nle c (by omega)), fun h => by rw [h] at y; cases y⟩
  · have z : n = 0 := by omega
    subst z
    refine ⟨fun _ => ?_, fun _ => by decide⟩
    cases e : yn_nb (fun k => sp_n w (33 + 2 * k)) (fun k => sp_n w (34 + 2 * k)) p o (sp_n w 7) with
    | false => rfl
    | true => exact absurd (key.mpr e) (by omega)
theorem yb_or0 (x : Int32) : x ||| (0 : Int32) = x := Int32.or_zero
theorem yz_6 {a : Int32} (hK : zK σ τ) : yr (fX8_beside σ a) (fX9_beside τ a) (fun r s => r = s.1) := by
  obtain ⟨-, ⟨p1, p2, p3⟩, -⟩ := yK_n hK
  have hW := hK.2.1.1
  unfold fX8_beside fX9_beside
  rw [c_isPerson, p1]
  by_cases cp : 0 ≤ a ∧ a < τ.1 1 5
  · obtain ⟨p, hp, ep⟩ := yK_p (by omega) p2 cp
    subst ep
    rw [if_pos cp]
    refine yr_of (A := fun v => ∀ o, o < 32 → sp_bit v o = yn_nb (fun k => sp_n (τ.1 1) (33 + 2 * k)) (fun k => sp_n (τ.1 1) (34 + 2 * k)) p o (sp_n (τ.1 1) 7)) (B := fun s => s.1 = dy_set (fun o => yn_nb (fun k => sp_n (τ.1 1) (33 + 2 * k)) (fun k => sp_n (τ.1 1) (34 + 2 * k)) p o (sp_n (τ.1 1) 7)) (sp_n (τ.1 1) 5)) ?_ ?_ (fun v s hv hs => ?_)
    · refine yp_bs rfl (yp_ite (fun x => absurd (show (1 : Int32) = 0 from x) (by decide)) (fun _ => ?_))
      exact yp_bd _ (yc_neigh hW hK.2.1.2 (show p < 6 by omega)) (fun v hv => yp_some hv)
    · refine yp_bd _ (ym_asItIs rfl hW) (fun z hz => ?_)
      have hT := ya_day rfl hW hz
      have z1 : z.1 1 = τ.1 1 := hz.1.1 1 (by decide) (by decide) (by decide) (by decide)
      have e5 : z.1 1 5 = nI (sp_n (τ.1 1) 5) := (congrFun z1 5).trans p2
      rw [m_isPerson (by rw [e5]; exact nI_pos' (by omega)), z1, if_pos cp]
      refine yp_bs rfl (yp_ite (fun x => absurd (show (1 : Int32) = 0 from x) (by decide)) (fun _ => ?_))
      obtain ⟨f, hf⟩ : ∃ f : Nat → Bool, f = fun o => yn_nb (fun k => sp_n (τ.1 1) (33 + 2 * k)) (fun k => sp_n (τ.1 1) (34 + 2 * k)) p o (sp_n (τ.1 1) 7) := ⟨_, rfl⟩
      rw [← hf]
      refine yp_bd (fun v => v = dy_set f (sp_n (τ.1 1) 5)) (yp_for (sp_n (τ.1 1) 5) (fun k s => s.2 = nI k ∧ s.1 = dy_set f k) (fun k s hk hs => ?_) (fun s hs => ?_) ⟨nI_0.symm, rfl⟩) (fun v hv => ?_)
      · obtain ⟨v, x⟩ := s
        obtain ⟨ex, ev⟩ := hs
        have ex : x = nI k := ex
        have ev : v = dy_set f k := ev
        subst ex
        subst ev
        have k1 : dy_set f (k + 1) = if f k = true then dy_set f k ||| ((1 : Int32) <<< (nI k &&& 31)) else dy_set f k := rfl
        show yp (BX9_beside_20 z (nI p) _ (nI k)) _
        unfold BX9_beside_20 BX9_beside_49
        rw [show sn_I z 1 (5 : Int32).toNatClampNeg = _ from e5, if_neg (nI_ge hk (by omega))]
        refine yp_gd (fun _ => yp_bd _ (ym_nb hW hT (show p < 6 by omega) (show k < 32 by omega)) (fun t ht => ?_))
        rw [show yn_nb (fun k => sp_n (τ.1 1) (33 + 2 * k)) (fun k => sp_n (τ.1 1) (34 + 2 * k)) p k (sp_n (τ.1 1) 7) = f k by rw [hf]] at ht
        refine yp_ite (fun c => yp_lt (yp_lt (yp_some ⟨nI_1 k, ?_⟩))) (fun c => yp_lt (yp_lt (yp_some ⟨nI_1 k, ?_⟩)))
        · rw [k1, ht.mp c, if_neg (by decide)]
          exact yb_or0 _
        · rw [k1, if_pos]
          cases e : f k with
          | true => rfl
          | false => exact absurd (ht.mpr e) c
      · obtain ⟨v, x⟩ := s
        obtain ⟨ex, ev⟩ := hs
        have ex : x = nI (sp_n (τ.1 1) 5) := ex
        subst ex
        show yp (BX9_beside_20 z (nI p) v (nI (sp_n (τ.1 1) 5))) _
        unfold BX9_beside_20
        rw [show sn_I z 1 (5 : Int32).toNatClampNeg = _ from e5, if_pos (nI_le (Nat.le_refl _) (by omega))]
        exact yp_gd (fun _ => yp_some ev)
      · unfold BX9_beside_57
        exact yp_some hv
    · rw [hs]
      refine yb_ext (fun o ho => ?_)
      rw [hv o ho, yb_set _ (by omega) o ho]
      by_cases c : o < sp_n (τ.1 1) 5
      · rw [decide_eq_true c, Bool.true_and]
      · rw [decide_eq_false c, Bool.false_and]
        exact yn_nb0 (P := sp_n (τ.1 1) 5) (by omega) _ (fun k hk => ⟨(hW.2.2.2.2.2.1 k hk).2.1, (hW.2.2.2.2.2.1 k hk).2.2.2.1⟩)
  · rw [if_neg cp]
    refine yr_eq (-2) (yp_bs rfl (yp_ite (fun _ => yp_some rfl) (fun x => absurd (show (0 : Int32) = 0 from rfl) x))) ?_
    refine yp_bd _ (ym_asItIs rfl hW) (fun z hz => ?_)
    have z1 : z.1 1 = τ.1 1 := hz.1.1 1 (by decide) (by decide) (by decide) (by decide)
    have e5 : z.1 1 5 = nI (sp_n (τ.1 1) 5) := (congrFun z1 5).trans p2
    rw [m_isPerson (by rw [e5]; exact nI_pos' (by omega)), z1, if_neg cp]
    exact yp_bs rfl (yp_ite (fun _ => yp_some rfl) (fun x => absurd (show (0 : Int32) = 0 from rfl) x))
theorem yz_15 {a : Int32} (hK : zK σ τ) : yr (fX8_gave σ a) (fX9_gave τ a) (fun r s => r = s.1) := by
  unfold fX8_gave fX9_gave
  refine yz_pers hK (fun p v u hp ea hM => ?_)
  subst ea
  obtain ⟨-, ⟨p1, p2, p3⟩, ⟨m1, m2, m3⟩⟩ := yK_n hK
  have hW := hK.2.1.1
  obtain ⟨x, hx⟩ : ∃ x, x = dy_sn (hs_day (τ.1 1)) (sp_n (τ.1 1) 0) p := ⟨_, rfl⟩
  obtain ⟨nbf, hnb⟩ : ∃ nbf : Nat → Bool, nbf = fun o => yn_nb (fun k => sp_n (τ.1 1) (33 + 2 * k)) (fun k => sp_n (τ.1 1) (34 + 2 * k)) p o (sp_n (τ.1 1) 7) := ⟨_, rfl⟩
  have xb : ∀ k, sp_n (τ.1 1) 0 ≤ k → k < 32 → sp_bit x k = false := by
    rw [hx]
    exact yz_sbits m3
  have u5 : u.1 1 5 = nI (sp_n (τ.1 1) 5) := (congrFun hM.1 5).trans p2
  rw [nI_clamp (show p < 2 ^ 31 by omega)]
  refine yr_of (A := fun r => ∃ t, yb_F x 0 t ∧ ((1 ≤ t ∧ ∃ m, m + 1 < sp_n (τ.1 1) 0 ∧ t = nI (m + 1) ∧ ∀ o, o < 32 → sp_bit r o = (sp_bit (dy_who (hs_day (τ.1 1)) m) o && nbf o)) ∨ (¬ 1 ≤ t ∧ r = 0))) (B := fun s => ∃ t, yb_F x 0 t ∧ ((1 ≤ t ∧ ∃ m, m + 1 < sp_n (τ.1 1) 0 ∧ t = nI (m + 1) ∧ s.1 = dy_set (fun o => sp_bit (dy_who (hs_day (τ.1 1)) m) o && nbf o) (sp_n (τ.1 1) 5)) ∨ (¬ 1 ≤ t ∧ s.1 = 0))) ?_ ?_ ?_
  · refine yp_gd (fun _ => ?_)
    rw [show sn_I σ (27 + 10) p = x from (yz_sn hK hp).trans hx.symm]
    refine yp_bd _ (yb_lowest (fun k h1 h2 => xb k (by omega) h2)) (fun t ht => yp_ite (fun c => yp_gd (fun _ => ?_)) (fun c => yp_some ⟨t, ht, Or.inr ⟨c, rfl⟩⟩))
    refine yp_bd _ (yc_neigh hW hK.2.1.2 (show p < 6 by omega)) (fun n hn => yp_some ⟨t, ht, Or.inl ⟨c, ?_⟩⟩)
    obtain ⟨k, k1, k2, et⟩ : ∃ k, k < 30 ∧ sp_bit x k = true ∧ t = nI k := by
      rcases ht with ⟨e, _⟩ | ⟨k, _, k1, k2, _, e⟩
      · rw [e] at c
        exact absurd c (by decide)
      · exact ⟨k, k1, k2, e⟩
    have kM : k < sp_n (τ.1 1) 0 := by
      rcases Nat.lt_or_ge k (sp_n (τ.1 1) 0) with g | g
      · exact g
      · rw [xb k g (by omega)] at k2
        cases k2
    have k0 : 1 ≤ k := by
      rw [et] at c
      exact (nI_leI (a := 1) (by decide) (by omega)).mp c
    refine ⟨k - 1, by omega, by rw [et]; exact congrArg nI (by omega), fun o ho => ?_⟩
    rw [et, yi_s1 k0, nI_clamp (show k - 1 < 2 ^ 31 by omega), show sn_I σ (27 + 9) (k - 1) = _ from yz_who hK (show k - 1 < sp_n (τ.1 1) 0 by omega), yb_and _ _ ho, hn o ho, hnb]
  · refine yp_gd (fun _ => ?_)
    show yp ((fX9_firstOf (sn_I u 10 p)).bind _) _
    rw [show sn_I u 10 p = x from (yz_msn hW hM hp).trans hx.symm]
    refine yp_bd _ (yb_firstOf x) (fun t ht => ?_)
    by_cases c : 1 ≤ t
    · obtain ⟨k, k1, k2, et⟩ : ∃ k, k < 30 ∧ sp_bit x k = true ∧ t = nI k := by
        rcases ht with ⟨e, _⟩ | ⟨k, _, k1, k2, _, e⟩
        · rw [e] at c
          exact absurd c (by decide)
        · exact ⟨k, k1, k2, e⟩
      have kM : k < sp_n (τ.1 1) 0 := by
        rcases Nat.lt_or_ge k (sp_n (τ.1 1) 0) with g | g
        · exact g
        · rw [xb k g (by omega)] at k2
          cases k2
      have k0 : 1 ≤ k := by
        rw [et] at c
        exact (nI_leI (a := 1) (by decide) (by omega)).mp c
      obtain ⟨f, hf⟩ : ∃ f : Nat → Bool, f = fun o => sp_bit (dy_who (hs_day (τ.1 1)) (k - 1)) o && nbf o := ⟨_, rfl⟩
      refine yp_bd (fun v => v = dy_set f (sp_n (τ.1 1) 5)) (yp_for (sp_n (τ.1 1) 5) (fun j s => s.2 = nI j ∧ s.1 = dy_set f j) (fun j s hj hs => ?_) (fun s hs => ?_) ⟨nI_0.symm, rfl⟩) (fun v hv => ?_)
      · obtain ⟨v, y⟩ := s
        obtain ⟨ey, ev⟩ := hs
        have ey : y = nI j := ey
        have ev : v = dy_set f j := ev
        subst ey
        subst ev
        have j1 : dy_set f (j + 1) = if f j = true then dy_set f j ||| ((1 : Int32) <<< (nI j &&& 31)) else dy_set f j := rfl
        have fj : f j = (sp_bit (dy_who (hs_day (τ.1 1)) (k - 1)) j && nbf j) := by rw [hf]
        show yp (BX9_gave_26 u (nI p) t _ (nI j)) _
        unfold BX9_gave_26 BX9_gave_78 BX9_gave_79
        rw [show sn_I u 1 (5 : Int32).toNatClampNeg = _ from u5, if_neg (nI_ge hj (by omega)), et, if_neg (nI_nle (show 0 < k by omega) (by omega)), yi_s1 k0, nI_clamp (show k - 1 < 2 ^ 31 by omega), show sn_I u 11 (k - 1) = _ from yz_mwho hM (show k - 1 < sp_n (τ.1 1) 0 by omega), yb_m]
        refine yp_gd (fun _ => yp_gd (fun _ => yp_bit (fun b => ?_) (fun b => ?_)))
        · rw [if_pos rfl]
          refine yp_bd _ (ym_nb hW hM.2.2.2.2.2.2.2.2.2.1 (show p < 6 by omega) (show j < 32 by omega)) (fun n hn => ?_)
          rw [show yn_nb (fun k => sp_n (τ.1 1) (33 + 2 * k)) (fun k => sp_n (τ.1 1) (34 + 2 * k)) p j (sp_n (τ.1 1) 7) = nbf j by rw [hnb]] at hn
          refine yp_ite (fun c2 => yp_lt (yp_lt (yp_some ⟨nI_1 j, ?_⟩))) (fun c2 => yp_lt (yp_lt (yp_some ⟨nI_1 j, ?_⟩)))
          · rw [j1, fj, hn.mp c2, Bool.and_false, if_neg (by decide)]
            exact yb_or0 _
          · have e : nbf j = true := by
              cases e : nbf j with
              | true => rfl
              | false => exact absurd (hn.mpr e) c2
            rw [j1, fj, b, e]
            rfl
        · rw [if_neg (by decide)]
          refine yp_lt (yp_lt (yp_some ⟨nI_1 j, ?_⟩))
          rw [j1, fj, b, Bool.false_and, if_neg (by decide)]
          exact yb_or0 _
      · obtain ⟨v, y⟩ := s
        obtain ⟨ey, ev⟩ := hs
        have ey : y = nI (sp_n (τ.1 1) 5) := ey
        subst ey
        show yp (BX9_gave_26 u (nI p) t v (nI (sp_n (τ.1 1) 5))) _
        unfold BX9_gave_26
        rw [show sn_I u 1 (5 : Int32).toNatClampNeg = _ from u5, if_pos (nI_le (Nat.le_refl _) (by omega))]
        exact yp_gd (fun _ => yp_some ev)
      · unfold BX9_gave_87
        exact yp_some ⟨t, ht, Or.inl ⟨c, k - 1, by omega, by rw [et]; exact congrArg nI (by omega), by rw [← hf]; exact hv⟩⟩
    · have c0 : t ≤ 0 := by
        rcases ht with ⟨e, _⟩ | ⟨k, _, k1, k2, _, e⟩
        · rw [e]
          decide
        · have k0 : k = 0 := by
            rcases Nat.lt_or_ge 0 k with g | g
            · exact absurd (by rw [e]; exact nI_le (a := 1) g (by omega)) c
            · omega
          rw [e, k0]
          decide
      refine yp_bd (fun v => v = 0) (yp_it (fun s : Int32 × Int32 => s.1 = 0 ∧ s.2 = 0) (fun s hs => ?_) _ _ ⟨rfl, rfl⟩) (fun v hv => ?_)
      · obtain ⟨v, y⟩ := s
        obtain ⟨ev, ey⟩ := hs
        show yp (BX9_gave_26 u (nI p) t v y) _
        unfold BX9_gave_26
        exact yp_gd (fun _ => yp_ite (fun _ => yp_some ev) (fun _ => yp_ite (fun _ => yp_some ev) (fun z => absurd c0 z)))
      · unfold BX9_gave_87
        exact yp_some ⟨t, ht, Or.inr ⟨c, hv⟩⟩
  · rintro r s ⟨t, ht, h1⟩ ⟨t', ht', h2⟩
    have et := yb_F1 ht ht'
    subst et
    rcases h1 with ⟨c, m, hm, em, h1⟩ | ⟨c, h1⟩
    · rcases h2 with ⟨_, m', hm', em', h2⟩ | ⟨c2, _⟩
      · have e : m = m' := by
          have := (nI_eq (by omega) (by omega)).mp (em.symm.trans em')
          omega
        subst e
        rw [h2]
        refine yb_ext (fun o ho => ?_)
        rw [h1 o ho, yb_set _ (by omega) o ho]
        by_cases g : o < sp_n (τ.1 1) 5
        · rw [decide_eq_true g, Bool.true_and]
        · rw [decide_eq_false g, Bool.false_and, yz_wbits (i := hs_day (τ.1 1)) p3 o (by show sp_n (τ.1 1) 5 ≤ o; omega) ho, Bool.false_and]
      · exact absurd c c2
    · rcases h2 with ⟨c2, _⟩ | ⟨_, h2⟩
      · exact absurd c2 c
      · rw [h1, h2]
end
