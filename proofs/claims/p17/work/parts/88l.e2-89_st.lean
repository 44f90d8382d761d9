section
/-! who is beside whom -/
def yn_nb (na nb : Nat → Nat) (p o : Nat) : Nat → Bool
  | 0 => false
  | k + 1 => yn_nb na nb p o k || (decide (na k = p ∧ nb k = o) || decide (nb k = p ∧ na k = o))
theorem yn_cntn {na nb : Nat → Nat} {p o : Nat} (ho : o < 32) : ∀ n, n ≤ 8 → (∀ k, k < n → na k < 6 ∧ nb k < 6) → ((0 < dy_cnt na nb (-1) p ((1 : Int32) <<< (nI o &&& 31)) n) ↔ yn_nb na nb p o n = true) := by
  intro n
  induction n with
  | zero =>
    intro _ _
    exact ⟨fun h => absurd h (show ¬ 0 < 0 by decide), fun h => absurd h (show ¬ false = true by decide)⟩
  | succ n ih =>
    intro hn h
    have g := h n (by omega)
    have i := ih (by omega) (fun k hk => h k (by omega))
    have ne : ¬ nI n = (-1 : Int32) := fun e => by
      have e2 := congrArg Int32.toInt e
      rw [nI_toInt (by omega), show (-1 : Int32).toInt = -1 by decide] at e2
      omega
    show (0 < dy_cnt na nb (-1) p ((1 : Int32) <<< (nI o &&& 31)) n + (if ¬ nI n = (-1 : Int32) ∧ ((na n = p ∧ sp_bit ((1 : Int32) <<< (nI o &&& 31)) (nb n) = true) ∨ (nb n = p ∧ sp_bit ((1 : Int32) <<< (nI o &&& 31)) (na n) = true)) then 1 else 0)) ↔ (yn_nb na nb p o n || (decide (na n = p ∧ nb n = o) || decide (nb n = p ∧ na n = o))) = true
    rw [yb_1k ho (show nb n < 32 by omega), yb_1k ho (show na n < 32 by omega)]
    have e : (¬ nI n = (-1 : Int32) ∧ ((na n = p ∧ decide (nb n = o) = true) ∨ (nb n = p ∧ decide (na n = o) = true))) ↔ ((na n = p ∧ nb n = o) ∨ (nb n = p ∧ na n = o)) := by
      constructor
      · rintro ⟨-, h⟩
        rcases h with ⟨a, b⟩ | ⟨a, b⟩
        · exact Or.inl ⟨a, of_decide_eq_true b⟩
        · exact Or.inr ⟨a, of_decide_eq_true b⟩
      · intro h
        refine ⟨ne, ?_⟩
        rcases h with ⟨a, b⟩ | ⟨a, b⟩
        · exact Or.inl ⟨a, decide_eq_true b⟩
        · exact Or.inr ⟨a, decide_eq_true b⟩
    have r : (yn_nb na nb p o n || (decide (na n = p ∧ nb n = o) || decide (nb n = p ∧ na n = o))) = true ↔ (yn_nb na nb p o n = true ∨ ((na n = p ∧ nb n = o) ∨ (nb n = p ∧ na n = o))) := by
      rw [Bool.or_eq_true, Bool.or_eq_true, decide_eq_true_eq, decide_eq_true_eq]
    rw [r, ← i]
    by_cases c : (na n = p ∧ nb n = o) ∨ (nb n = p ∧ na n = o)
    · rw [if_pos (e.mpr c)]
      exact ⟨fun _ => Or.inr c, fun _ => by omega⟩
    · rw [if_neg (fun z => c (e.mp z))]
      exact ⟨fun h => Or.inl (by omega), fun h => h.elim (fun h => by omega) (fun h => absurd h c)⟩
section
variable {σ τ : sn_S}
theorem yc_neigh0 {na nb : Nat → Nat} {N p : Nat} (hp : p < 6) (hN : N ≤ 8) (e7 : sn_I σ (1 + 1) (7 : Int32).toNatClampNeg = nI N) (hab : ∀ k, k < N → sn_I σ (1 + 4) (2 * k) = nI (na k) ∧ sn_I σ (1 + 4) (2 * k + 1) = nI (nb k) ∧ na k < 6 ∧ nb k < 6) : yp (fX2_neighbours σ 1 (nI p)) (fun v => ∀ o, o < 32 → sp_bit v o = yn_nb na nb p o N) := by
  unfold fX2_neighbours
  refine yp_bd (fun v => ∀ o, o < 32 → sp_bit v o = yn_nb na nb p o N) (yp_for N (fun k s => s.2 = nI k ∧ ∀ o, o < 32 → sp_bit s.1 o = yn_nb na nb p o k) (fun k s hk hs => ?_) (fun s hs => ?_) ⟨nI_0.symm, fun o ho => by exact yb_z o ho⟩) (fun v hv => ?_)
  · obtain ⟨v, x⟩ := s
    obtain ⟨ex, hv⟩ := hs
    have ex : x = nI k := ex
    subst ex
    have hv : ∀ o, o < 32 → sp_bit v o = yn_nb na nb p o k := hv
    obtain ⟨ea, eb, la, lb⟩ := hab k hk
    have k1 : ∀ o, yn_nb na nb p o (k + 1) = (yn_nb na nb p o k || (decide (na k = p ∧ nb k = o) || decide (nb k = p ∧ na k = o))) := fun o => rfl
    have l69 : ∀ y : Int32, (∀ o, o < 32 → sp_bit y o = yn_nb na nb p o (k + 1)) → yp (BX2_neighbours_69 σ 1 (nI p) y (nI k)) (yp_sum (fun s : Int32 × Int32 => s.2 = nI (k + 1) ∧ ∀ o, o < 32 → sp_bit s.1 o = yn_nb na nb p o (k + 1)) (fun _ => False)) := fun y hy => by
      unfold BX2_neighbours_69
      exact yp_lt (yp_some ⟨nI_1 k, hy⟩)
    have l42 : ∀ y : Int32, (∀ o, o < 32 → sp_bit y o = (yn_nb na nb p o k || decide (na k = p ∧ nb k = o))) → yp (BX2_neighbours_42 σ 1 (nI p) y (nI k)) (yp_sum (fun s : Int32 × Int32 => s.2 = nI (k + 1) ∧ ∀ o, o < 32 → sp_bit s.1 o = yn_nb na nb p o (k + 1)) (fun _ => False)) := fun y hy => by
      unfold BX2_neighbours_42
      rw [yi_2, show nI (2 * k) + (1 : Int32) = nI (2 * k + 1) from nI_1 _, nI_clamp (show 2 * k < 2 ^ 31 by omega), nI_clamp (show 2 * k + 1 < 2 ^ 31 by omega), ea, eb]
      refine yp_gd (fun _ => yp_ite (fun c => yp_gd (fun _ => yp_lt (l69 _ (fun o ho => ?_)))) (fun c => l69 _ (fun o ho => ?_)))
      · have c := (nI_eq (by omega) (by omega)).mp c
        have d : decide (o = na k) = decide (nb k = p ∧ na k = o) := decide_eq_decide.mpr ⟨fun e => ⟨c, e.symm⟩, fun e => e.2.symm⟩
        rw [yb_or1 y (show na k < 32 by omega) ho, hy o ho, k1, Bool.or_assoc, d]
      · have d : decide (nb k = p ∧ na k = o) = false := decide_eq_false (fun e => c (congrArg nI e.1))
        rw [hy o ho, k1, d, Bool.or_false]
    show yp (BX2_neighbours_4 σ 1 (nI p) v (nI k)) _
    unfold BX2_neighbours_4
    rw [e7, if_neg (nI_ge hk (by omega)), yi_2, show nI (2 * k) + (1 : Int32) = nI (2 * k + 1) from nI_1 _, nI_clamp (show 2 * k < 2 ^ 31 by omega), nI_clamp (show 2 * k + 1 < 2 ^ 31 by omega), ea, eb]
    refine yp_gd (fun _ => yp_gd (fun _ => yp_ite (fun c => yp_gd (fun _ => yp_lt (l42 _ (fun o ho => ?_)))) (fun c => l42 _ (fun o ho => ?_))))
    · have c := (nI_eq (by omega) (by omega)).mp c
      have d : decide (o = nb k) = decide (na k = p ∧ nb k = o) := decide_eq_decide.mpr ⟨fun e => ⟨c, e.symm⟩, fun e => e.2.symm⟩
      rw [yb_or1 v (show nb k < 32 by omega) ho, hv o ho, d]
    · have d : decide (na k = p ∧ nb k = o) = false := decide_eq_false (fun e => c (congrArg nI e.1))
      rw [hv o ho, d, Bool.or_false]
  · obtain ⟨v, x⟩ := s
    obtain ⟨ex, hv⟩ := hs
    have ex : x = nI N := ex
    subst ex
    show yp (BX2_neighbours_4 σ 1 (nI p) v (nI N)) _
    unfold BX2_neighbours_4
    rw [e7, if_pos (nI_le (Nat.le_refl _) (by omega))]
    exact yp_gd (fun _ => yp_some hv)
  · unfold BX2_neighbours_75
    exact yp_some hv
theorem yc_neigh {w : Nat → Int32} (hW : jW w) (hH : yH 1 σ w) {p : Nat} (hp : p < 6) : yp (fX2_neighbours σ 1 (nI p)) (fun v => ∀ o, o < 32 → sp_bit v o = yn_nb (fun k => sp_n w (33 + 2 * k)) (fun k => sp_n w (34 + 2 * k)) p o (sp_n w 7)) := by
  obtain ⟨b7, l7⟩ := hW.1.2.2.2.2.2.2.2.1
  have l5 := hW.1.2.2.2.2.2.1.2
  refine yc_neigh0 hp l7 ((hH.1 7 (by decide)).trans b7) (fun k hk => ?_)
  obtain ⟨g1, g2, g3, g4, g5⟩ := hW.2.2.2.2.2.1 k hk
  refine ⟨(hH.2.2.2.1 (2 * k) (by omega)).trans g1, ?_, Nat.lt_of_lt_of_le g2 l5, Nat.lt_of_lt_of_le g4 l5⟩
  have h := hH.2.2.2.1 (2 * k + 1) (by omega)
  rw [show 33 + (2 * k + 1) = 34 + 2 * k by omega] at h
  exact h.trans g3
/-- whom a net joins to p: the reference's way -/
theorem ym_nb {u : sn_S} {w : Nat → Int32} (hW : jW w) (hT : ym_T u (hs_day w)) {p o : Nat} (hp : p < 6) (ho : o < 32) : yp (fX9_netsTo u (nI p) ((1 : Int32) <<< (nI o &&& 31))) (fun v => (v ≤ 0 ↔ yn_nb (fun k => sp_n w (33 + 2 * k)) (fun k => sp_n w (34 + 2 * k)) p o (sp_n w 7) = false)) := by
  have l7 := hW.1.2.2.2.2.2.2.2.1.2
  have ok := hs_ok hW
  refine yp_w (ym_nets hT ok hp _) (fun v hv => ?_)
  have key := yn_cntn (na := fun k => sp_n w (33 + 2 * k)) (nb := fun k => sp_n w (34 + 2 * k)) (p := p) ho (sp_n w 7) l7 (fun k hk => ⟨(ok.2.2 k hk).1, (ok.2.2 k hk).2.1⟩)
  have hv : v = nI (dy_cnt (fun k => sp_n w (33 + 2 * k)) (fun k => sp_n w (34 + 2 * k)) (-1) p ((1 : Int32) <<< (nI o &&& 31)) (sp_n w 7)) := hv
  have le : ∀ n, dy_cnt (fun k => sp_n w (33 + 2 * k)) (fun k => sp_n w (34 + 2 * k)) (-1) p ((1 : Int32) <<< (nI o &&& 31)) n ≤ n := by
    intro n
    induction n with
    | zero => exact Nat.le_refl _
    | succ n ih =>
      show dy_cnt _ _ (-1) p ((1 : Int32) <<< (nI o &&& 31)) n + (if _ then 1 else 0) ≤ n + 1
      split <;> omega
  have l := le (sp_n w 7)
  rw [hv]
  generalize dy_cnt (fun k => sp_n w (33 + 2 * k)) (fun k => sp_n w (34 + 2 * k)) (-1) p ((1 : Int32) <<< (nI o &&& 31)) (sp_n w 7) = n at key l ⊢
  by_cases c : 0 < n
  · have y := key.mp c
    exact ⟨fun h => absurd h (nI_nle c (by omega)), fun h => by rw [h] at y; cases y⟩
  · have z : n = 0 := by omega
    subst z
    refine ⟨fun _ => ?_, fun _ => by decide⟩
    cases e : yn_nb (fun k => sp_n w (33 + 2 * k)) (fun k => sp_n w (34 + 2 * k)) p o (sp_n w 7) with
    | false => rfl
    | true => exact absurd (key.mpr e) (by omega)
theorem yb_or0 (x : Int32) : x ||| (0 : Int32) = x := Int32.or_zero
theorem yz_15 {a : Int32} (hK : zK σ τ) : yr (fX8_gave σ a) (fX9_gave τ a) (fun r s => r = s.1) := by
  unfold fX8_gave fX9_gave
  refine yz_pers hK (fun p v u hp ea hM => ?_)
  subst ea
  obtain ⟨-, ⟨p1, p2, p3⟩, ⟨m1, m2, m3⟩⟩ := yK_n hK
  have hW := hK.2.1.1
  obtain ⟨x, hx⟩ : ∃ x, x = dy_sn (hs_day (τ.1 1)) (sp_n (τ.1 1) 0) p := ⟨_, rfl⟩
  obtain ⟨nbf, hnb⟩ : ∃ nbf : Nat → Bool, nbf = fun o => yn_nb (fun k => sp_n (τ.1 1) (33 + 2 * k)) (fun k => sp_n (τ.1 1) (34 + 2 * k)) p o (sp_n (τ.1 1) 7) := ⟨_, rfl⟩
  have xb : ∀ k, sp_n (τ.1 1) 0 ≤ k → k < 32 → sp_bit x k = false := by
    rw [hx]
    exact yz_sbits m3
  have u5 : u.1 1 5 = nI (sp_n (τ.1 1) 5) := (congrFun hM.1 5).trans p2
  rw [nI_clamp (show p < 2 ^ 31 by omega)]
  refine yr_of (A := fun r => ∃ t, yb_F x 0 t ∧ ((1 ≤ t ∧ ∃ m, m + 1 < sp_n (τ.1 1) 0 ∧ t = nI (m + 1) ∧ ∀ o, o < 32 → sp_bit r o = (sp_bit (dy_who (hs_day (τ.1 1)) m) o && nbf o)) ∨ (¬ 1 ≤ t ∧ r = 0))) (B := fun s => ∃ t, yb_F x 0 t ∧ ((1 ≤ t ∧ ∃ m, m + 1 < sp_n (τ.1 1) 0 ∧ t = nI (m + 1) ∧ s.1 = dy_set (fun o => sp_bit (dy_who (hs_day (τ.1 1)) m) o && nbf o) (sp_n (τ.1 1) 5)) ∨ (¬ 1 ≤ t ∧ s.1 = 0))) ?_ ?_ ?_
  · refine yp_gd (fun _ => ?_)
    rw [show sn_I σ (27 + 10) p = x from (yz_sn hK hp).trans hx.symm]
    refine yp_bd _ (yb_lowest (fun k h1 h2 => xb k (by omega) h2)) (fun t ht => yp_ite (fun c => yp_gd (fun _ => ?_)) (fun c => yp_some ⟨t, ht, Or.inr ⟨c, rfl⟩⟩))
    refine yp_bd _ (yc_neigh hW hK.2.1.2 (show p < 6 by omega)) (fun n hn => yp_some ⟨t, ht, Or.inl ⟨c, ?_⟩⟩)
    obtain ⟨k, k1, k2, et⟩ : ∃ k, k < 30 ∧ sp_bit x k = true ∧ t = nI k := by
      rcases ht with ⟨e, _⟩ | ⟨k, _, k1, k2, _, e⟩
      · rw [e] at c
        exact absurd c (by decide)
      · exact ⟨k, k1, k2, e⟩
    have kM : k < sp_n (τ.1 1) 0 := by
      rcases Nat.lt_or_ge k (sp_n (τ.1 1) 0) with g | g
      · exact g
      · rw [xb k g (by omega)] at k2
        cases k2
    have k0 : 1 ≤ k := by
      rw [et] at c
      exact (nI_leI (a := 1) (by decide) (by omega)).mp c
    refine ⟨k - 1, by omega, by rw [et]; exact congrArg nI (by omega), fun o ho => ?_⟩
    rw [et, yi_s1 k0, nI_clamp (show k - 1 < 2 ^ 31 by omega), show sn_I σ (27 + 9) (k - 1) = _ from yz_who hK (show k - 1 < sp_n (τ.1 1) 0 by omega), yb_and _ _ ho, hn o ho, hnb]
  · refine yp_gd (fun _ => ?_)
    show yp ((fX9_firstOf (sn_I u 10 p)).bind _) _
    rw [show sn_I u 10 p = x from (yz_msn hW hM hp).trans hx.symm]
    refine yp_bd _ (yb_firstOf x) (fun t ht => ?_)
    by_cases c : 1 ≤ t
    · obtain ⟨k, k1, k2, et⟩ : ∃ k, k < 30 ∧ sp_bit x k = true ∧ t = nI k := by
        rcases ht with ⟨e, _⟩ | ⟨k, _, k1, k2, _, e⟩
        · rw [e] at c
          exact absurd c (by decide)
        · exact ⟨k, k1, k2, e⟩
      have kM : k < sp_n (τ.1 1) 0 := by
        rcases Nat.lt_or_ge k (sp_n (τ.1 1) 0) with g | g
        · exact g
        · rw [xb k g (by omega)] at k2
          cases k2
      have k0 : 1 ≤ k := by
        rw [et] at c
        exact (nI_leI (a := 1) (by decide) (by omega)).mp c
      obtain ⟨f, hf⟩ : ∃ f : Nat → Bool, f = fun o => sp_bit (dy_who (hs_day (τ.1 1)) (k - 1)) o && nbf o := ⟨_, rfl⟩
      refine yp_bd (fun v => v = dy_set f (sp_n (τ.1 1) 5)) (yp_for (sp_n (τ.1 1) 5) (fun j s => s.2 = nI j ∧ s.1 = dy_set f j) (fun j s hj hs => ?_) (fun s hs => ?_) ⟨nI_0.symm, rfl⟩) (fun v hv => ?_)
      · obtain ⟨v, y⟩ := s
        obtain ⟨ey, ev⟩ := hs
        have ey : y = nI j := ey
        have ev : v = dy_set f j := ev
        subst ey
        subst ev
        have j1 : dy_set f (j + 1) = if f j = true then dy_set f j ||| ((1 : Int32) <<< (nI j &&& 31)) else dy_set f j := rfl
        have fj : f j = (sp_bit (dy_who (hs_day (τ.1 1)) (k - 1)) j && nbf j) := by rw [hf]
        show yp (BX9_gave_26 u (nI p) t _ (nI j)) _
        unfold BX9_gave_26 BX9_gave_78 BX9_gave_79
        rw [show sn_I u 1 (5 : Int32).toNatClampNeg = _ from u5, if_neg (nI_ge hj (by omega)), et, if_neg (nI_nle (show 0 < k by omega) (by omega)), yi_s1 k0, nI_clamp (show k - 1 < 2 ^ 31 by omega), show sn_I u 11 (k - 1) = _ from yz_mwho hM (show k - 1 < sp_n (τ.1 1) 0 by omega), yb_m]
        refine yp_gd (fun _ => yp_gd (fun _ => yp_bit (fun b => ?_) (fun b => ?_)))
        · rw [if_pos rfl]
          refine yp_bd _ (ym_nb hW hM.2.2.2.2.2.2.2.2.2.1 (show p < 6 by omega) (show j < 32 by omega)) (fun n hn => ?_)
          rw [show yn_nb (fun k => sp_n (τ.1 1) (33 + 2 * k)) (fun k => sp_n (τ.1 1) (34 + 2 * k)) p j (sp_n (τ.1 1) 7) = nbf j by rw [hnb]] at hn
          refine yp_ite (fun c2 => yp_lt (yp_lt (yp_some ⟨nI_1 j, ?_⟩))) (fun c2 => yp_lt (yp_lt (yp_some ⟨nI_1 j, ?_⟩)))
          · rw [j1, fj, hn.mp c2, Bool.and_false, if_neg (by decide)]
            exact yb_or0 _
          · have e : nbf j = true := by
              cases e : nbf j with
              | true => rfl
              | false => exact absurd (hn.mpr e) c2
            rw [j1, fj, b, e]
            rfl
        · rw [if_neg (by decide)]
          refine yp_lt (yp_lt (yp_some ⟨nI_1 j, ?_⟩))
          rw [j1, fj, b, Bool.false_and, if_neg (by decide)]
          exact yb_or0 _
      · obtain ⟨v, y⟩ := s
        obtain ⟨ey, ev⟩ := hs
        have ey : y = nI (sp_n (τ.1 1) 5) := ey
        subst ey
        show yp (BX9_gave_26 u (nI p) t v (nI (sp_n (τ.1 1) 5))) _
        unfold BX9_gave_26
        rw [show sn_I u 1 (5 : Int32).toNatClampNeg = _ from u5, if_pos (nI_le (Nat.le_refl _) (by omega))]
        exact yp_gd (fun _ => yp_some ev)
      · unfold BX9_gave_87
        exact yp_some ⟨t, ht, Or.inl ⟨c, k - 1, by omega, by rw [et]; exact congrArg nI (by omega), by rw [← hf]; exact hv⟩⟩
    · have c0 : t ≤ 0 := by
        rcases ht with ⟨e, _⟩ | ⟨k, _, k1, k2, _, e⟩
        · rw [e]
          decide
        · have k0 : k = 0 := by
            rcases Nat.lt_or_ge 0 k with g | g
            · exact absurd (by rw [e]; exact nI_le (a := 1) g (by omega)) c
            · omega
          rw [e, k0]
          decide
      refine yp_bd (fun v => v = 0) (yp_it (fun s : Int32 × Int32 => s.1 = 0 ∧ s.2 = 0) (fun s hs => ?_) _ _ ⟨rfl, rfl⟩) (fun v hv => ?_)
      · obtain ⟨v, y⟩ := s
        obtain ⟨ev, ey⟩ := hs
        show yp (BX9_gave_26 u (nI p) t v y) _
        unfold BX9_gave_26
        exact yp_gd (fun _ => yp_ite (fun _ => yp_some ev) (fun _ => yp_ite (fun _ => yp_some ev) (fun z => absurd c0 z)))
      · unfold BX9_gave_87
        exact yp_some ⟨t, ht, Or.inr ⟨c, hv⟩⟩
  · rintro r s ⟨t, ht, h1⟩ ⟨t', ht', h2⟩
    have et := yb_F1 ht ht'
    subst et
    rcases h1 with ⟨c, m, hm, em, h1⟩ | ⟨c, h1⟩
    · rcases h2 with ⟨_, m', hm', em', h2⟩ | ⟨c2, _⟩
      · have e : m = m' := by
          have := (nI_eq (by omega) (by omega)).mp (em.symm.trans em')
          omega
        subst e
        rw [h2]
        refine yb_ext (fun o ho => ?_)
        rw [h1 o ho, yb_set _ (by omega) o ho]
        by_cases g : o < sp_n (τ.1 1) 5
        · rw [decide_eq_true g, Bool.true_and]
        · rw [decide_eq_false g, Bool.false_and, yz_wbits (i := hs_day (τ.1 1)) p3 o (by show sp_n (τ.1 1) 5 ≤ o; omega) ho, Bool.false_and]
      · exact absurd c c2
    · rcases h2 with ⟨c2, _⟩ | ⟨_, h2⟩
      · exact absurd c2 c
      · rw [h1, h2]
end
end
section
/-! every call keeps what the two have in common, the houses too -/
theorem zz_0 : st_0 zK zK := by
  intro σ τ a0 a1 a2 a3 a4 hJ
  obtain ⟨r, σ1, τ1, e1, e2, h⟩ := zK_0 σ τ a0 a1 a2 a3 a4 hJ
  exact ⟨r, r, σ1, τ1, e1, e2, h⟩
theorem zz_1 : st_1 zK zK := by
  intro σ τ a0 hJ
  obtain ⟨r, σ1, τ1, e1, e2, h⟩ := zK_1 σ τ a0 hJ
  exact ⟨r, r, σ1, τ1, e1, e2, h⟩
theorem zz_2 : st_2 zK zK := by
  intro σ τ hJ
  obtain ⟨r, σ1, τ1, e1, e2, h⟩ := zK_2 σ τ hJ
  exact ⟨r, r, σ1, τ1, e1, e2, h⟩
theorem zz_3 : st_3 zK zK := by
  intro σ τ a0 hJ
  obtain ⟨r, e1, e2⟩ := zJ_3 σ τ a0 hJ.1
  exact ⟨r, r, e1, e2, hJ⟩
theorem zz_4 : st_4 zK zK := by
  intro σ τ a0 a1 hJ
  obtain ⟨r, e1, e2⟩ := zJ_4 σ τ a0 a1 hJ.1
  exact ⟨r, r, e1, e2, hJ⟩
theorem zz_5 : st_5 zK zK := by
  intro σ τ a0 a1 hJ
  obtain ⟨r, e1, e2⟩ := zJ_5 σ τ a0 a1 hJ.1
  exact ⟨r, r, e1, e2, hJ⟩
theorem zz_6 : st_6 zK zK := by
  intro σ τ a0 hJ
  obtain ⟨r, e1, h1⟩ := zc_20 (zs_rf (key := zs_kC) (kl := zs_lC) hJ.1.1.1) (x1 := a0)
  obtain ⟨r2, e2, h2⟩ := zc_43 (zs_rf (key := zs_kM) (kl := zs_lM) hJ.1.1.2.1) (x1 := a0)
  exact ⟨r, r2.1, r2.2, e1, e2, zK_keep (zs_rf hJ.1.1.1) (h2.1.2) hJ⟩
theorem zz_7 : st_7 zK zK := by
  intro σ τ a0 hJ
  obtain ⟨r, e1, h1⟩ := zc_45 (zs_rf (key := zs_kC) (kl := zs_lC) hJ.1.1.1) (x1 := a0)
  obtain ⟨r2, e2, h2⟩ := zc_96 (zs_rf (key := zs_kM) (kl := zs_lM) hJ.1.1.2.1) (x1 := a0)
  exact ⟨r, r2.1, r2.2, e1, e2, zK_keep (zs_rf hJ.1.1.1) (h2.1.2) hJ⟩
theorem zz_8 : st_8 zK zK := by
  intro σ τ a0 hJ
  obtain ⟨r, e1, h1⟩ := zc_97 (zs_rf (key := zs_kC) (kl := zs_lC) hJ.1.1.1) (x1 := a0)
  obtain ⟨r2, e2, h2⟩ := zc_99 (zs_rf (key := zs_kM) (kl := zs_lM) hJ.1.1.2.1) (x1 := a0)
  exact ⟨r, r2.1, r2.2, e1, e2, zK_keep (zs_rf hJ.1.1.1) (h2.1.2) hJ⟩
theorem zz_9 : st_9 zK zK := by
  intro σ τ a0 hJ
  obtain ⟨r, e1, h1⟩ := zc_100 (zs_rf (key := zs_kC) (kl := zs_lC) hJ.1.1.1) (x1 := a0)
  obtain ⟨r2, e2, h2⟩ := zc_101 (zs_rf (key := zs_kM) (kl := zs_lM) hJ.1.1.2.1) (x1 := a0)
  exact ⟨r, r2.1, r2.2, e1, e2, zK_keep (zs_rf hJ.1.1.1) (h2.1.2) hJ⟩
theorem zz_10 : st_10 zK zK := by
  intro σ τ hJ
  obtain ⟨r, e1, h1⟩ := zc_106 (zs_rf (key := zs_kC) (kl := zs_lC) hJ.1.1.1) 
  obtain ⟨r2, e2, h2⟩ := zc_113 (zs_rf (key := zs_kM) (kl := zs_lM) hJ.1.1.2.1) 
  exact ⟨r, r2.1, r2.2, e1, e2, zK_keep (zs_rf hJ.1.1.1) (h2.2) hJ⟩
theorem zz_11 : st_11 zK zK := by
  intro σ τ a0 hJ
  obtain ⟨r, e1, h1⟩ := zc_114 (zs_rf (key := zs_kC) (kl := zs_lC) hJ.1.1.1) (x1 := a0)
  obtain ⟨r2, e2, h2⟩ := zc_115 (zs_rf (key := zs_kM) (kl := zs_lM) hJ.1.1.2.1) (x1 := a0)
  exact ⟨r, r2.1, r2.2, e1, e2, zK_keep (zs_rf hJ.1.1.1) (h2.1.2) hJ⟩
theorem zz_12 : st_12 zK zK := by
  intro σ τ a0 a1 hJ
  obtain ⟨r, e1, h1⟩ := zc_117 (zs_rf (key := zs_kC) (kl := zs_lC) hJ.1.1.1) (x1 := a0) (x2 := a1)
  obtain ⟨r2, e2, h2⟩ := zc_118 (zs_rf (key := zs_kM) (kl := zs_lM) hJ.1.1.2.1) (x1 := a0) (x2 := a1)
  exact ⟨r, r2.1, r2.2, e1, e2, zK_keep (zs_rf hJ.1.1.1) (h2.1.2) hJ⟩
theorem zz_13 : st_13 zK zK := by
  intro σ τ a0 hJ
  obtain ⟨r, e1, h1⟩ := zc_121 (zs_rf (key := zs_kC) (kl := zs_lC) hJ.1.1.1) (x1 := a0)
  obtain ⟨r2, e2, h2⟩ := zc_124 (zs_rf (key := zs_kM) (kl := zs_lM) hJ.1.1.2.1) (x1 := a0)
  exact ⟨r, r2.1, r2.2, e1, e2, zK_keep (zs_rf hJ.1.1.1) (h2.1.2) hJ⟩
theorem zz_14 : st_14 zK zK := by
  intro σ τ a0 hJ
  obtain ⟨r, e1, h1⟩ := zc_128 (zs_rf (key := zs_kC) (kl := zs_lC) hJ.1.1.1) (x1 := a0)
  obtain ⟨r2, e2, h2⟩ := zc_129 (zs_rf (key := zs_kM) (kl := zs_lM) hJ.1.1.2.1) (x1 := a0)
  exact ⟨r, r2.1, r2.2, e1, e2, zK_keep (zs_rf hJ.1.1.1) (h2.1.2) hJ⟩
theorem zz_15 : st_15 zK zK := by
  intro σ τ a0 hJ
  obtain ⟨r, e1, h1⟩ := zc_130 (zs_rf (key := zs_kC) (kl := zs_lC) hJ.1.1.1) (x1 := a0)
  obtain ⟨r2, e2, h2⟩ := zc_136 (zs_rf (key := zs_kM) (kl := zs_lM) hJ.1.1.2.1) (x1 := a0)
  have q : r = r2.1 := yz_15 hJ _ _ e1 e2
  exact ⟨r, r2.2, e1, (e2.trans (show some r2 = some (r, r2.2) by rw [q])), zK_keep (zs_rf hJ.1.1.1) (h2.1.2) hJ⟩
theorem zz_16 : st_16 zK zK := by
  intro σ τ hJ
  obtain ⟨r, e1, h1⟩ := zc_141 (zs_rf (key := zs_kC) (kl := zs_lC) hJ.1.1.1) 
  obtain ⟨r2, e2, h2⟩ := zc_146 (zs_rf (key := zs_kM) (kl := zs_lM) hJ.1.1.2.1) 
  exact ⟨r, r2.1, r2.2, e1, e2, zK_keep (zs_rf hJ.1.1.1) (h2.2) hJ⟩
theorem zz_17 : st_17 zK zK := by
  intro σ τ hJ
  obtain ⟨r, e1, h1⟩ := zc_149 (zs_rf (key := zs_kC) (kl := zs_lC) hJ.1.1.1) 
  obtain ⟨r2, e2, h2⟩ := zc_154 (zs_rf (key := zs_kM) (kl := zs_lM) hJ.1.1.2.1) 
  exact ⟨r, r2.1, r2.2, e1, e2, zK_keep (zs_rf hJ.1.1.1) (h2.2) hJ⟩
theorem zz_18 : st_18 zK zK := by
  intro σ τ hJ
  obtain ⟨r, e1, h1⟩ := zc_159 (zs_rf (key := zs_kC) (kl := zs_lC) hJ.1.1.1) 
  obtain ⟨r2, e2, h2⟩ := zc_164 (zs_rf (key := zs_kM) (kl := zs_lM) hJ.1.1.2.1) 
  exact ⟨r, r2.1, r2.2, e1, e2, zK_keep (zs_rf hJ.1.1.1) (h2.2) hJ⟩
theorem zz_19 : st_19 zK zK := by
  intro σ τ a0 hJ
  obtain ⟨r, e1, h1⟩ := zc_176 (zs_rf (key := zs_kC) (kl := zs_lC) hJ.1.1.1) (x1 := a0)
  obtain ⟨r2, e2, h2⟩ := zc_186 (zs_rf (key := zs_kM) (kl := zs_lM) hJ.1.1.2.1) (x1 := a0)
  exact ⟨r, r2.1, r2.2, e1, e2, zK_keep (zs_rf hJ.1.1.1) (h2.1.2) hJ⟩
theorem zz_20 : st_20 zK zK := by
  intro σ τ a0 a1 hJ
  obtain ⟨r, e1, h1⟩ := zc_188 (zs_rf (key := zs_kC) (kl := zs_lC) hJ.1.1.1) (x1 := a0) (x2 := a1)
  obtain ⟨r2, e2, h2⟩ := zc_191 (zs_rf (key := zs_kM) (kl := zs_lM) hJ.1.1.2.1) (x1 := a0) (x2 := a1)
  exact ⟨r, r2.1, r2.2, e1, e2, zK_keep (zs_rf hJ.1.1.1) (h2.1.2) hJ⟩
theorem zz_21 : st_21 zK zK := by
  intro σ τ a0 hJ
  obtain ⟨r, e1, h1⟩ := zc_199 (zs_rf (key := zs_kC) (kl := zs_lC) hJ.1.1.1) (x1 := a0)
  obtain ⟨r2, e2, h2⟩ := zc_211 (zs_rf (key := zs_kM) (kl := zs_lM) hJ.1.1.2.1) (x1 := a0)
  exact ⟨r, r2.1, r2.2, e1, e2, zK_keep (zs_rf hJ.1.1.1) (h2.1.2) hJ⟩
theorem zz_22 : st_22 zK zK := by
  intro σ τ hJ
  obtain ⟨r, e1, h1⟩ := zc_215 (zs_rf (key := zs_kC) (kl := zs_lC) hJ.1.1.1) 
  obtain ⟨r2, e2, h2⟩ := zc_220 (zs_rf (key := zs_kM) (kl := zs_lM) hJ.1.1.2.1) 
  exact ⟨r, r2.1, r2.2, e1, e2, zK_keep (zs_rf hJ.1.1.1) (h2.2) hJ⟩
theorem zz_23 : st_23 zK zK := by
  intro σ τ a0 hJ
  obtain ⟨r, e1, h1⟩ := zc_225 (zs_rf (key := zs_kC) (kl := zs_lC) hJ.1.1.1) (x1 := a0)
  obtain ⟨r2, e2, h2⟩ := zc_228 (zs_rf (key := zs_kM) (kl := zs_lM) hJ.1.1.2.1) (x1 := a0)
  exact ⟨r, r2.1, r2.2, e1, e2, zK_keep (zs_rf hJ.1.1.1) (h2.1.2) hJ⟩
theorem zz_24 : st_24 zK zK := by
  intro σ τ a0 hJ
  obtain ⟨r, e1, h1⟩ := zc_238 (zs_rf (key := zs_kC) (kl := zs_lC) hJ.1.1.1) (x1 := a0)
  obtain ⟨r2, e2, h2⟩ := zc_263 (zs_rf (key := zs_kM) (kl := zs_lM) hJ.1.1.2.1) (x1 := a0)
  exact ⟨r.1, r2.1, r.2, r2.2, e1, e2, zK_keep (h1.2) (h2.2) hJ⟩
theorem zz_25 : st_25 zK zK := by
  intro σ τ hJ
  obtain ⟨r, e1, h1⟩ := zc_276 (zs_rf (key := zs_kC) (kl := zs_lC) hJ.1.1.1) 
  obtain ⟨r2, e2, h2⟩ := zc_313 (zs_rf (key := zs_kM) (kl := zs_lM) hJ.1.1.2.1) 
  exact ⟨r.1, r2.1, r.2, r2.2, e1, e2, zK_keep (h1.2) (h2.2) hJ⟩
theorem zz_26 : st_26 zK zK := by
  intro σ τ a0 hJ
  obtain ⟨r, e1, h1⟩ := zc_353 (zs_rf (key := zs_kC) (kl := zs_lC) hJ.1.1.1) (x1 := a0)
  obtain ⟨r2, e2, h2⟩ := zA_70 (zs_rf (key := zs_kM0) (kl := zs_lM) hJ.1.1.2.1) (x1 := a0)
  exact ⟨r.1, r2.1, r.2, r2.2, e1, e2, zK_keep0 (h1.1.2) (h2.1.2) (qb_dull hJ.1.1.2.1 e2) hJ⟩
theorem zz_27 : st_27 zK zK := by
  intro σ τ a0 hJ
  obtain ⟨r, e1, h1⟩ := zc_358 (zs_rf (key := zs_kC) (kl := zs_lC) hJ.1.1.1) (x1 := a0)
  obtain ⟨r2, e2, h2⟩ := zA_79 (zs_rf (key := zs_kM0) (kl := zs_lM) hJ.1.1.2.1) (x1 := a0)
  exact ⟨r.1, r2.1, r.2, r2.2, e1, e2, zK_keep0 (h1.1.2) (h2.1.2) (qb_bears hJ.1.1.2.1 e2) hJ⟩
theorem zz_28 : st_28 zK zK := by
  intro σ τ hJ
  obtain ⟨r, e1, h1⟩ := zc_366 (zs_rf (key := zs_kC) (kl := zs_lC) hJ.1.1.1) 
  obtain ⟨r2, e2, h2⟩ := zA_94 (zs_rf (key := zs_kM0) (kl := zs_lM) hJ.1.1.2.1) 
  exact ⟨r.1, r2.1, r.2, r2.2, e1, e2, zK_keep0 (h1.2) (h2.2) (qb_clean hJ.1.1.2.1 e2) hJ⟩
theorem zz_29 : st_29 zK zK := by
  intro σ τ a0 hJ
  obtain ⟨r, e1, h1⟩ := zc_370 (zs_rf (key := zs_kC) (kl := zs_lC) hJ.1.1.1) (x1 := a0)
  obtain ⟨r2, e2, h2⟩ := zc_378 (zs_rf (key := zs_kM) (kl := zs_lM) hJ.1.1.2.1) (x1 := a0)
  exact ⟨r.1, r2.1, r.2, r2.2, e1, e2, zK_keep (h1.1.2) (h2.1.2) hJ⟩
theorem zz_30 : st_30 zK zK := by
  intro σ τ a0 hJ
  obtain ⟨r, e1, h1⟩ := zc_384 (zs_rf (key := zs_kC) (kl := zs_lC) hJ.1.1.1) (x1 := a0)
  obtain ⟨r2, e2, h2⟩ := zc_397 (zs_rf (key := zs_kM) (kl := zs_lM) hJ.1.1.2.1) (x1 := a0)
  exact ⟨r, r2.1, r2.2, e1, e2, zK_keep (zs_rf hJ.1.1.1) (h2.1.2) hJ⟩
theorem zz_31 : st_31 zK zK := by
  intro σ τ a0 hJ
  obtain ⟨r, e1, h1⟩ := zc_398 (zs_rf (key := zs_kC) (kl := zs_lC) hJ.1.1.1) (x1 := a0)
  obtain ⟨r2, e2, h2⟩ := zc_399 (zs_rf (key := zs_kM) (kl := zs_lM) hJ.1.1.2.1) (x1 := a0)
  exact ⟨r.1, r2.1, r.2, r2.2, e1, e2, zK_keep (h1.1.2) (h2.1.2) hJ⟩
theorem zz_32 : st_32 zK zK := by
  intro σ τ a0 hJ
  obtain ⟨r, e1, h1⟩ := zc_400 (zs_rf (key := zs_kC) (kl := zs_lC) hJ.1.1.1) (x1 := a0)
  obtain ⟨r2, e2, h2⟩ := zc_401 (zs_rf (key := zs_kM) (kl := zs_lM) hJ.1.1.2.1) (x1 := a0)
  exact ⟨r.1, r2.1, r.2, r2.2, e1, e2, zK_keep (h1.1.2) (h2.1.2) hJ⟩
theorem zz_33 : st_33 zK zK := by
  intro σ τ hJ
  obtain ⟨r, e1, h1⟩ := zc_405 (zs_rf (key := zs_kC) (kl := zs_lC) hJ.1.1.1) 
  obtain ⟨r2, e2, h2⟩ := zc_410 (zs_rf (key := zs_kM) (kl := zs_lM) hJ.1.1.2.1) 
  exact ⟨r.1, r2.1, r.2, r2.2, e1, e2, zK_keep (h1.2) (h2.2) hJ⟩
theorem zz_34 : st_34 zK zK := by
  intro σ τ a0 hJ
  obtain ⟨r, e1, h1⟩ := zc_411 (zs_rf (key := zs_kC) (kl := zs_lC) hJ.1.1.1) (x1 := a0)
  obtain ⟨r2, e2, h2⟩ := zc_412 (zs_rf (key := zs_kM) (kl := zs_lM) hJ.1.1.2.1) (x1 := a0)
  exact ⟨r.1, r2.1, r.2, r2.2, e1, e2, zK_keep (h1.2) (h2.2) hJ⟩
theorem zz_35 : st_35 zK zK := by
  intro σ τ hJ
  obtain ⟨r, e1, h1⟩ := zc_416 (zs_rf (key := zs_kC) (kl := zs_lC) hJ.1.1.1) 
  obtain ⟨r2, e2, h2⟩ := zc_420 (zs_rf (key := zs_kM) (kl := zs_lM) hJ.1.1.2.1) 
  exact ⟨r.1, r2.1, r.2, r2.2, e1, e2, zK_keep (h1.2) (h2.2) hJ⟩
theorem zz_36 : st_36 zK zK := by
  intro σ τ hJ
  obtain ⟨r, e1, h1⟩ := zc_425 (zs_rf (key := zs_kC) (kl := zs_lC) hJ.1.1.1) 
  obtain ⟨r2, e2, h2⟩ := zc_430 (zs_rf (key := zs_kM) (kl := zs_lM) hJ.1.1.2.1) 
  exact ⟨r.1, r2.1, r.2, r2.2, e1, e2, zK_keep (h1.2) (h2.2) hJ⟩
theorem zz_37 : st_37 zK zK := by
  intro σ τ hJ
  obtain ⟨r, e1, h1⟩ := zc_434 (zs_rf (key := zs_kC) (kl := zs_lC) hJ.1.1.1) 
  obtain ⟨r2, e2, h2⟩ := zh_reserve (zs_rf (key := zs_kM) (kl := zs_lM) hJ.1.1.2.1)
  exact ⟨r.1, r2.1, r.2, r2.2, e1, e2, zK_keep (h1.2) (h2) hJ⟩
theorem zz_38 : st_38 zK zK := by
  intro σ τ a0 hJ
  obtain ⟨r, e1, h1⟩ := zc_437 (zs_rf (key := zs_kC) (kl := zs_lC) hJ.1.1.1) (x1 := a0)
  obtain ⟨r2, e2, h2⟩ := zc_446 (zs_rf (key := zs_kM) (kl := zs_lM) hJ.1.1.2.1) (x1 := a0)
  exact ⟨r.1, r2.1, r.2, r2.2, e1, e2, zK_keep (h1.2) (h2.2) hJ⟩
theorem zz_39 : st_39 zK zK := by
  intro σ τ hJ
  obtain ⟨r, e1, h1⟩ := zc_457 (zs_rf (key := zs_kC) (kl := zs_lC) hJ.1.1.1) 
  obtain ⟨r2, e2, h2⟩ := zc_463 (zs_rf (key := zs_kM) (kl := zs_lM) hJ.1.1.2.1) 
  exact ⟨r.1, r2.1, r.2, r2.2, e1, e2, zK_keep (h1.2) (h2.2) hJ⟩
theorem zz_40 : st_40 zK zK := by
  intro σ τ a0 hJ
  obtain ⟨r, e1, h1⟩ := zc_471 (zs_rf (key := zs_kC) (kl := zs_lC) hJ.1.1.1) (x1 := a0)
  obtain ⟨r2, e2, h2⟩ := zc_478 (zs_rf (key := zs_kM) (kl := zs_lM) hJ.1.1.2.1) (x1 := a0)
  exact ⟨r, r2.1, r2.2, e1, e2, zK_keep (zs_rf hJ.1.1.1) (h2.1.2) hJ⟩
theorem zz_41 : st_41 zK zK := by
  intro σ τ a0 hJ
  obtain ⟨r, e1, h1⟩ := zc_479 (zs_rf (key := zs_kC) (kl := zs_lC) hJ.1.1.1) (x1 := a0)
  obtain ⟨r2, e2, h2⟩ := zc_480 (zs_rf (key := zs_kM) (kl := zs_lM) hJ.1.1.2.1) (x1 := a0)
  exact ⟨r, r2.1, r2.2, e1, e2, zK_keep (zs_rf hJ.1.1.1) (h2.1.2) hJ⟩
theorem zz_42 : st_42 zK zK := by
  intro σ τ a0 hJ
  obtain ⟨r, e1, h1⟩ := zc_489 (zs_rf (key := zs_kC) (kl := zs_lC) hJ.1.1.1) (x1 := a0)
  obtain ⟨r2, e2, h2⟩ := zr_price hJ.1.1.2.1 a0
  exact ⟨r, r2.1, r2.2, e1, e2, zK_keep (zs_rf hJ.1.1.1) (h2) hJ⟩
theorem zz_43 : st_43 zK zK := by
  intro σ τ a0 hJ
  obtain ⟨r, e1, h1⟩ := zc_511 (zs_rf (key := zs_kC) (kl := zs_lC) hJ.1.1.1) (x1 := a0)
  obtain ⟨r2, e2, h2⟩ := zc_527 (zs_rf (key := zs_kM) (kl := zs_lM) hJ.1.1.2.1) (x1 := a0)
  exact ⟨r.1, r2.1, r.2, r2.2, e1, e2, zK_keep (h1.1.2) (h2.1.2) hJ⟩
theorem zz_44 : st_44 zK zK := by
  intro σ τ a0 hJ
  obtain ⟨r, e1, h1⟩ := zc_529 (zs_rf (key := zs_kC) (kl := zs_lC) hJ.1.1.1) (x1 := a0)
  obtain ⟨r2, e2, h2⟩ := zc_530 (zs_rf (key := zs_kM) (kl := zs_lM) hJ.1.1.2.1) (x1 := a0)
  exact ⟨r.1, r2.1, r.2, r2.2, e1, e2, zK_keep (h1.1.2) (h2.1.2) hJ⟩
theorem zz_45 : st_45 zK zK := by
  intro σ τ a0 hJ
  obtain ⟨r, e1, h1⟩ := zc_543 (zs_rf (key := zs_kC) (kl := zs_lC) hJ.1.1.1) (x1 := a0)
  obtain ⟨r2, e2, h2⟩ := zc_549 (zs_rf (key := zs_kM) (kl := zs_lM) hJ.1.1.2.1) (x1 := a0)
  exact ⟨r.1, r2.1, r.2, r2.2, e1, e2, zK_keep (h1.1.2) (h2.1.2) hJ⟩
theorem zz_46 : st_46 zK zK := by
  intro σ τ a0 hJ
  obtain ⟨r, e1, h1⟩ := zc_550 (zs_rf (key := zs_kC) (kl := zs_lC) hJ.1.1.1) (x1 := a0)
  obtain ⟨r2, e2, h2⟩ := zc_551 (zs_rf (key := zs_kM) (kl := zs_lM) hJ.1.1.2.1) (x1 := a0)
  exact ⟨r.1, r2.1, r.2, r2.2, e1, e2, zK_keep (h1.1.2) (h2.1.2) hJ⟩
theorem zz_47 : st_47 zK zK := by
  intro σ τ a0 hJ
  obtain ⟨r, e1, h1⟩ := zc_579 (zs_rf (key := zs_kC) (kl := zs_lC) hJ.1.1.1) (x1 := a0)
  obtain ⟨r2, e2, h2⟩ := zc_1500 (zs_rf (key := zs_kM) (kl := zs_lM) hJ.1.1.2.1) (x1 := a0)
  exact ⟨r.1, r2.1, r.2, r2.2, e1, e2, zK_keep (h1.1.2) (h2.2) hJ⟩
theorem zz_48 : st_48 zK zK := by
  intro σ τ a0 hJ
  obtain ⟨r, e1, h1⟩ := zc_580 (zs_rf (key := zs_kC) (kl := zs_lC) hJ.1.1.1) (x1 := a0)
  obtain ⟨r2, e2, h2⟩ := zc_1503 (zs_rf (key := zs_kM) (kl := zs_lM) hJ.1.1.2.1) (x1 := a0)
  exact ⟨r.1, r2.1, r.2, r2.2, e1, e2, zK_keep (h1.1.2) (h2.2) hJ⟩
theorem zz_49 : st_49 zK zK := by
  intro σ τ a0 hJ
  obtain ⟨r, e1, h1⟩ := zc_581 (zs_rf (key := zs_kC) (kl := zs_lC) hJ.1.1.1) (x1 := a0)
  obtain ⟨r2, e2, h2⟩ := zc_1504 (zs_rf (key := zs_kM) (kl := zs_lM) hJ.1.1.2.1) (x1 := a0)
  exact ⟨r.1, r2.1, r.2, r2.2, e1, e2, zK_keep (h1.1.2) (h2.2) hJ⟩
theorem zz_50 : st_50 zK zK := by
  intro σ τ a0 hJ
  obtain ⟨r, e1, h1⟩ := zc_590 (zs_rf (key := zs_kC) (kl := zs_lC) hJ.1.1.1) (x1 := a0)
  obtain ⟨r2, e2, h2⟩ := zc_1516 (zs_rf (key := zs_kM) (kl := zs_lM) hJ.1.1.2.1) (x1 := a0)
  exact ⟨r.1, r2.1, r.2, r2.2, e1, e2, zK_keep (h1.1.2) (h2.2) hJ⟩
theorem zz_51 : st_51 zK zK := by
  intro σ τ a0 hJ
  obtain ⟨r, e1, h1⟩ := zc_591 (zs_rf (key := zs_kC) (kl := zs_lC) hJ.1.1.1) (x1 := a0)
  obtain ⟨r2, e2, h2⟩ := zc_1517 (zs_rf (key := zs_kM) (kl := zs_lM) hJ.1.1.2.1) (x1 := a0)
  exact ⟨r.1, r2.1, r.2, r2.2, e1, e2, zK_keep (h1.1.2) (h2.2) hJ⟩
theorem zz_52 : st_52 zK zK := by
  intro σ τ a0 a1 hJ
  obtain ⟨r, e1, h1⟩ := zc_606 (zs_rf (key := zs_kC) (kl := zs_lC) hJ.1.1.1) (x1 := a0) (x2 := a1)
  obtain ⟨r2, e2, h2⟩ := zc_642 (zs_rf (key := zs_kM) (kl := zs_lM) hJ.1.1.2.1) (x1 := a0) (x2 := a1)
  exact ⟨r.1, r2.1, r.2, r2.2, e1, e2, zK_keep (h1.1.2) (h2.1.2) hJ⟩
theorem zz_53 : st_53 zK zK := by
  intro σ τ a0 a1 a2 a3 hJ
  obtain ⟨r, e1, h1⟩ := zc_643 (zs_rf (key := zs_kC) (kl := zs_lC) hJ.1.1.1) (x1 := a0) (x2 := a1) (x3 := a2) (x4 := a3)
  obtain ⟨r2, e2, h2⟩ := zc_651 (zs_rf (key := zs_kM) (kl := zs_lM) hJ.1.1.2.1) (x1 := a0) (x2 := a1) (x3 := a2) (x4 := a3)
  exact ⟨r.1, r2.1, r.2, r2.2, e1, e2, zK_keep (h1.1.2) (h2.1.2) hJ⟩
theorem zz_54 : st_54 zK zK := by
  intro σ τ a0 hJ
  obtain ⟨r, e1, h1⟩ := zc_654 (zs_rf (key := zs_kC) (kl := zs_lC) hJ.1.1.1) (x1 := a0)
  obtain ⟨r2, e2, h2⟩ := zc_657 (zs_rf (key := zs_kM) (kl := zs_lM) hJ.1.1.2.1) (x1 := a0)
  exact ⟨r.1, r2.1, r.2, r2.2, e1, e2, zK_keep (h1.1.2) (h2.1.2) hJ⟩
theorem zz_55 : st_55 zK zK := by
  intro σ τ hJ
  obtain ⟨r, e1, h1⟩ := zc_662 (zs_rf (key := zs_kC) (kl := zs_lC) hJ.1.1.1) 
  obtain ⟨r2, e2, h2⟩ := zc_667 (zs_rf (key := zs_kM) (kl := zs_lM) hJ.1.1.2.1) 
  exact ⟨r.1, r2.1, r.2, r2.2, e1, e2, zK_keep (h1.2) (h2.2) hJ⟩
theorem zz_56 : st_56 zK zK := by
  intro σ τ a0 a1 a2 hJ
  obtain ⟨r, e1, h1⟩ := zc_1112 (zs_rf (key := zs_kC) (kl := zs_lC) hJ.1.1.1) (x1 := a0) (x2 := a1) (x3 := a2)
  obtain ⟨r2, e2, h2⟩ := zq_chance hJ.1.1.2.1 a0 a1 a2
  exact ⟨r.1, r2.1, r.2, r2.2, e1, e2, zK_keep (h1.1.2) (h2) hJ⟩
theorem zz_57 : st_57 zK zK := by
  intro σ τ a0 a1 a2 hJ
  obtain ⟨r, e1, h1⟩ := zc_1235 (zs_rf (key := zs_kC) (kl := zs_lC) hJ.1.1.1) (x1 := a0) (x2 := a1) (x3 := a2)
  obtain ⟨r2, e2, h2⟩ := zq_fair hJ.1.1.2.1 a0 a1 a2
  exact ⟨r.1, r2.1, r.2, r2.2, e1, e2, zK_keep (h1.1.2) (h2) hJ⟩
theorem zz_58 : st_58 zK zK := by
  intro σ τ a0 a1 hJ
  obtain ⟨r, e1, h1⟩ := zc_1445 (zs_rf (key := zs_kC) (kl := zs_lC) hJ.1.1.1) (x1 := a0) (x2 := a1)
  obtain ⟨r2, e2, h2⟩ := zq_risk hJ.1.1.2.1 a0 a1
  exact ⟨r.1, r2.1, r.2, r2.2, e1, e2, zK_keep (h1.1.2) (h2) hJ⟩
theorem zz_59 : st_59 zK zK := by
  intro σ τ a0 a1 hJ
  obtain ⟨r, σ1, τ1, e1, e2, h⟩ := zK_59 σ τ a0 a1 hJ
  exact ⟨r, r, σ1, τ1, e1, e2, h⟩
theorem zz_60 : st_60 zK zK := by
  intro σ τ a0 a1 hJ
  obtain ⟨r, σ1, τ1, e1, e2, h⟩ := zK_60 σ τ a0 a1 hJ
  exact ⟨r, r, σ1, τ1, e1, e2, h⟩
theorem zz_61 : st_61 zK zK := by
  intro σ τ hJ
  obtain ⟨r, σ1, τ1, e1, e2, h⟩ := zK_61 σ τ hJ
  exact ⟨r, r, σ1, τ1, e1, e2, h⟩
theorem zz_62 : st_62 zK zK := by
  intro σ τ hJ
  obtain ⟨r, σ1, τ1, e1, e2, h⟩ := zK_62 σ τ hJ
  exact ⟨r, r, σ1, τ1, e1, e2, h⟩
theorem zz_63 : st_63 zK zK := by
  intro σ τ a0 a1 hJ
  obtain ⟨r, e1, h1⟩ := zc_1452 (zs_rf (key := zs_kC) (kl := zs_lC) hJ.1.1.1) (x1 := a0) (x2 := a1)
  obtain ⟨r2, e2, h2⟩ := zc_1460 (zs_rf (key := zs_kM) (kl := zs_lM) hJ.1.1.2.1) (x1 := a0) (x2 := a1)
  exact ⟨r.1, r2.1, r.2, r2.2, e1, e2, zK_keep (h1.1.2) (h2.1.2) hJ⟩
theorem zz_64 : st_64 zK zK := by
  intro σ τ a0 a1 a2 hJ
  obtain ⟨r, e1, h1⟩ := zc_1465 (zs_rf (key := zs_kC) (kl := zs_lC) hJ.1.1.1) (x1 := a0) (x2 := a1) (x3 := a2)
  obtain ⟨r2, e2, h2⟩ := zc_1472 (zs_rf (key := zs_kM) (kl := zs_lM) hJ.1.1.2.1) (x1 := a0) (x2 := a1) (x3 := a2)
  exact ⟨r.1, r2.1, r.2, r2.2, e1, e2, zK_keep (h1.1.2) (h2.1.2) hJ⟩
theorem zz_65 : st_65 zK zK := by
  intro σ τ a0 a1 hJ
  obtain ⟨r, σ1, τ1, e1, e2, h⟩ := zK_65 σ τ a0 a1 hJ
  exact ⟨r, r, σ1, τ1, e1, e2, h⟩
theorem zz_66 : st_66 zK zK := by
  intro σ τ a0 hJ
  obtain ⟨r, e1, e2⟩ := zJ_66 σ τ a0 hJ.1
  exact ⟨r, r, e1, e2, hJ⟩
theorem zz_67 : st_67 zK zK := by
  intro σ τ a0 hJ
  obtain ⟨r, σ1, τ1, e1, e2, h⟩ := zK_67 σ τ a0 hJ
  exact ⟨r, r, σ1, τ1, e1, e2, h⟩
theorem zz_68 : st_68 zK zK := by
  intro σ τ a0 hJ
  obtain ⟨r, σ1, τ1, e1, e2, h⟩ := zK_68 σ τ a0 hJ
  exact ⟨r, r, σ1, τ1, e1, e2, h⟩
theorem zz_69 : st_69 zK zK := by
  intro σ τ a0 a1 a2 hJ
  obtain ⟨r, σ1, τ1, e1, e2, h⟩ := zK_69 σ τ a0 a1 a2 hJ
  exact ⟨r, r, σ1, τ1, e1, e2, h⟩
theorem zz_70 : st_70 zK zK := by
  intro σ τ a0 a1 a2 hJ
  obtain ⟨r, σ1, τ1, e1, e2, h⟩ := zK_70 σ τ a0 a1 a2 hJ
  exact ⟨r, r, σ1, τ1, e1, e2, h⟩
theorem zz_71 : st_71 zK zK := by
  intro σ τ a0 a1 a2 a3 a4 hJ
  obtain ⟨r, σ1, τ1, e1, e2, h⟩ := zK_71 σ τ a0 a1 a2 a3 a4 hJ
  exact ⟨r, r, σ1, τ1, e1, e2, h⟩
theorem zJ_ini : zJ sn_iniX8 sn_iniX9 := by
  have z0 : (0 : Int32).toInt = 0 := by decide
  have H : ∀ (h : Nat) (w : Nat → Int32), (∀ k, sn_iniX8.1 (h + 1) k = 0) → (∀ k, k < 11 → w k = 0) → rr_H h sn_iniX8 w := by
    intro h w h1 hw
    unfold rr_H
    rw [h1 5, h1 6, h1 7, h1 8, h1 9, z0]
    exact ⟨fun k hk => by rw [h1 k, hw k hk], fun i hi => absurd hi (by omega), fun i hi => absurd hi (by omega), fun i hi => absurd hi (by omega), fun i hi => absurd hi (by omega), fun i hi => absurd hi (by omega)⟩
  refine ⟨zj_ini, H 1 _ (fun k => rfl) (fun k _ => rfl), fun j hj => H _ _ (fun k => ?_) (fun k _ => rfl)⟩
  match j, hj with
  | 0, _ => rfl
  | 1, _ => rfl
  | 2, _ => rfl
theorem zK_ini : zK sn_iniX8 sn_iniX9 := by
  refine ⟨zJ_ini, ⟨jW_0 (fun _ => rfl), yH_0 (fun _ => rfl) (fun k => rfl)⟩, fun j hj => ⟨jW_0 (fun _ => rfl), yH_0 (fun _ => rfl) (fun k => ?_)⟩, yD_0 (fun _ => rfl) rfl rfl rfl rfl (fun m => rfl)⟩
  match j, hj with
  | 0, _ => rfl
  | 1, _ => rfl
  | 2, _ => rfl
theorem sn_pure : ∃ J : Nat → sn_S → sn_S → Prop, J 0 sn_iniX8 sn_iniX9 ∧ (∀ k, k + 6 ≤ 3072 → st_all (J k) (J (k + 6))) ∧ ∀ k, k + 6 ≤ 3072 → ∀ σ τ, J k σ τ → J (k + 6) σ τ := by
  refine ⟨fun _ => zK, zK_ini, fun _ _ => ⟨zz_0, zz_1, zz_2, zz_3, zz_4, zz_5, zz_6, zz_7, zz_8, zz_9, zz_10, zz_11, zz_12, zz_13, zz_14, zz_15, zz_16, zz_17, zz_18, zz_19, zz_20, zz_21, zz_22, zz_23, zz_24, zz_25, zz_26, zz_27, zz_28, zz_29, zz_30, zz_31, zz_32, zz_33, zz_34, zz_35, zz_36, zz_37, zz_38, zz_39, zz_40, zz_41, zz_42, zz_43, zz_44, zz_45, zz_46, zz_47, zz_48, zz_49, zz_50, zz_51, zz_52, zz_53, zz_54, zz_55, zz_56, zz_57, zz_58, zz_59, zz_60, zz_61, zz_62, zz_63, zz_64, zz_65, zz_66, zz_67, zz_68, zz_69, zz_70, zz_71⟩, fun _ _ _ _ h => h⟩
end
