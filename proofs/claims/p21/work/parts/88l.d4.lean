/-! a house as the reference's row of numbers w -/
def yh_n (w : Nat → Int32) (k : Nat) (b : Nat) : Prop := w k = nI (sp_n w k) ∧ sp_n w k ≤ b
/-- a row of numbers that is a house, or none (no lines: nothing else either) -/
def jW (w : Nat → Int32) : Prop :=
  (yh_n w 0 30 ∧ yh_n w 1 9 ∧ yh_n w 2 3 ∧ yh_n w 3 999 ∧ yh_n w 4 10 ∧ yh_n w 5 6 ∧ yh_n w 6 5 ∧ yh_n w 7 8 ∧ yh_n w 8 6 ∧ yh_n w 9 40 ∧ yh_n w 10 900) ∧
  (sp_n w 10 = 0 → sp_n w 0 = 0 ∧ sp_n w 5 = 0 ∧ sp_n w 7 = 0 ∧ sp_n w 8 = 0) ∧ (0 < sp_n w 10 → 0 < sp_n w 0) ∧
  (∀ p, p < sp_n w 5 → yh_n w (11 + 2 * p) 9 ∧ yh_n w (12 + 2 * p) 99 ∧ 1 ≤ sp_n w (12 + 2 * p)) ∧
  (∀ g, g < sp_n w 6 → yh_n w (23 + 2 * g) 9 ∧ yh_n w (24 + 2 * g) 29) ∧
  (∀ k, k < sp_n w 7 → w (33 + 2 * k) = nI (sp_n w (33 + 2 * k)) ∧ sp_n w (33 + 2 * k) < sp_n w 5 ∧ w (34 + 2 * k) = nI (sp_n w (34 + 2 * k)) ∧ sp_n w (34 + 2 * k) < sp_n w 5 ∧ sp_n w (33 + 2 * k) ≠ sp_n w (34 + 2 * k)) ∧
  (∀ k, k < sp_n w 8 → (w (49 + 5 * k) = nI (sp_n w (49 + 5 * k)) ∧ sp_n w (49 + 5 * k) < sp_n w 5) ∧ yh_n w (50 + 5 * k) 29 ∧ yh_n w (51 + 5 * k) 29 ∧ sp_n w (50 + 5 * k) ≤ sp_n w (51 + 5 * k) ∧ yh_n w (52 + 5 * k) 99 ∧ 1 ≤ sp_n w (52 + 5 * k) ∧ yh_n w (53 + 5 * k) 99) ∧
  (∀ i, i < sp_n w 9 → w (79 + i) = nI (sp_n w (79 + i)) ∧ sp_n w (79 + i) / 200 < sp_n w 5 ∧ sp_n w (79 + i) % 200 / 2 < sp_n w 0)
/-- a house of the class (its rows from h on) is that row of numbers -/
def yH (h : Nat) (σ : sn_S) (w : Nat → Int32) : Prop :=
  (∀ k, k < 11 → σ.1 (h + 1) k = w k) ∧ (∀ i, i < 2 * sp_n w 5 → σ.1 (h + 2) i = w (11 + i)) ∧ (∀ i, i < 2 * sp_n w 6 → σ.1 (h + 3) i = w (23 + i)) ∧ (∀ i, i < 2 * sp_n w 7 → σ.1 (h + 4) i = w (33 + i)) ∧ (∀ i, i < 5 * sp_n w 8 → σ.1 (h + 5) i = w (49 + i)) ∧
  ∀ i, i < sp_n w 9 → σ.1 (h + 6) (3 * i) = nI (sp_n w (79 + i) % 2) ∧ σ.1 (h + 6) (3 * i + 1) = nI (sp_n w (79 + i) / 200) ∧ σ.1 (h + 6) (3 * i + 2) = nI (sp_n w (79 + i) % 200 / 2)
/-- dust of a house by minute, what is held back and snuffed by its acts, minutes of its gusts -/
def hs_dust (w : Nat → Int32) (m : Nat) : Nat → Int32
  | 0 => w 1
  | g + 1 => if sp_n w (24 + 2 * g) = m then hs_dust w m g + w (23 + 2 * g) else hs_dust w m g
def hs_acts (w : Nat → Int32) (kind p : Nat) : Nat → Int32
  | 0 => 0
  | n + 1 => if sp_n w (79 + n) % 2 = kind ∧ sp_n w (79 + n) / 200 = p then hs_acts w kind p n ||| ((1 : Int32) <<< (nI (sp_n w (79 + n) % 200 / 2) &&& 31)) else hs_acts w kind p n
def hs_gust (w : Nat → Int32) : Nat → Int32
  | 0 => 0
  | g + 1 => hs_gust w g ||| ((1 : Int32) <<< (nI (sp_n w (24 + 2 * g)) &&& 31))
def hs_day (w : Nat → Int32) : dy_I :=
  (sp_n w 5, (fun p => w (11 + 2 * p)), (fun p => w (12 + 2 * p)), (fun p => hs_acts w 0 p (sp_n w 9)), (fun p => hs_acts w 1 p (sp_n w 9)), (fun m => hs_dust w m (sp_n w 6)), (fun k => sp_n w (33 + 2 * k)), (fun k => sp_n w (34 + 2 * k)), sp_n w 7, -1)
theorem hs_ok {w : Nat → Int32} (h : jW w) : dy_ok (hs_day w) := by
  obtain ⟨b, -, -, -, -, hn, -, -⟩ := h
  have b5 : sp_n w 5 ≤ 6 := b.2.2.2.2.2.1.2
  have b7 : sp_n w 7 ≤ 8 := b.2.2.2.2.2.2.2.1.2
  refine ⟨b5, b7, fun k hk => ?_⟩
  have g := hn k hk
  exact ⟨Nat.lt_of_lt_of_le g.2.1 b5, Nat.lt_of_lt_of_le g.2.2.2.1 b5, g.2.2.2.2⟩
theorem yi_d2 {a : Nat} (h : a < 2 ^ 31) : nI a / (2 : Int32) = nI (a / 2) := by
  apply Int32.toInt_inj.mp
  rw [Int32.toInt_div, nI_toInt h, nI_toInt (show a / 2 < 2 ^ 31 by omega), show (2 : Int32).toInt = 2 by decide, Int.tdiv_eq_ediv_of_nonneg (by omega), Int.bmod_eq_of_le (by omega) (by omega)]
  omega
theorem yi_d100 {a : Nat} (h : a < 2 ^ 31) : nI a / (100 : Int32) = nI (a / 100) := by
  apply Int32.toInt_inj.mp
  rw [Int32.toInt_div, nI_toInt h, nI_toInt (show a / 100 < 2 ^ 31 by omega), show (100 : Int32).toInt = 100 by decide, Int.tdiv_eq_ediv_of_nonneg (by omega), Int.bmod_eq_of_le (by omega) (by omega)]
  omega
theorem yi_d200 {a : Nat} (h : a < 2 ^ 31) : nI a / (200 : Int32) = nI (a / 200) := by
  apply Int32.toInt_inj.mp
  rw [Int32.toInt_div, nI_toInt h, nI_toInt (show a / 200 < 2 ^ 31 by omega), show (200 : Int32).toInt = 200 by decide, Int.tdiv_eq_ediv_of_nonneg (by omega), Int.bmod_eq_of_le (by omega) (by omega)]
  omega
theorem yi_m2 {a : Nat} (h : a < 2 ^ 31) : nI a - nI a / (2 : Int32) * (2 : Int32) = nI (a % 2) := by
  rw [yi_d2 h, show nI (a / 2) * (2 : Int32) = nI (a / 2 * 2) from nI_mul _ 2, yi_sub (by omega)]
  exact congrArg nI (by omega)
theorem yi_m100 {a : Nat} (h : a < 2 ^ 31) : nI a - nI a / (100 : Int32) * (100 : Int32) = nI (a % 100) := by
  rw [yi_d100 h, show nI (a / 100) * (100 : Int32) = nI (a / 100 * 100) from nI_mul _ 100, yi_sub (by omega)]
  exact congrArg nI (by omega)
theorem yi_23 (k : Nat) : (23 : Int32) + (2 : Int32) * nI k = nI (23 + 2 * k) := by rw [yi_2]; exact nI_add 23 _
theorem yi_24 (k : Nat) : ((23 : Int32) + (2 : Int32) * nI k) + 1 = nI (24 + 2 * k) := by
  rw [yi_23, nI_1]
  exact congrArg nI (by omega)
/-! the class is told of a house -/
theorem yc_fill (σ : sn_S) (q n : Nat) (v : Int32) (hn : n < 5000) : yp (fJ7_fill_53178 σ q n v) (fun z => (∀ a, a ≠ q → z.1 a = σ.1 a) ∧ z.2 = σ.2 ∧ ∀ k, k < n → z.1 q k = v) := by
  unfold fJ7_fill_53178
  refine yp_lt (yp_bd (fun z : sn_S => (∀ a, a ≠ q → z.1 a = σ.1 a) ∧ z.2 = σ.2 ∧ ∀ k, k < n → z.1 q k = v) (yp_for n (fun k s => s.2 = nI k ∧ (∀ a, a ≠ q → s.1.1 a = σ.1 a) ∧ s.1.2 = σ.2 ∧ ∀ j, j < k → s.1.1 q j = v) (fun k s hk hs => ?_) (fun s hs => ?_) ⟨nI_0.symm, fun _ _ => rfl, rfl, fun j hj => absurd hj (by omega)⟩) (fun u hu => ?_))
  · obtain ⟨z, x⟩ := s
    obtain ⟨ex, h1, h2, h3⟩ := hs
    have ex : x = nI k := ex
    subst ex
    show yp (BJ7_fill_53178_5 z q n v (nI k) (Int32.ofNat n)) _
    unfold BJ7_fill_53178_5
    rw [if_neg (show ¬ Int32.ofNat n ≤ nI k from nI_ge hk (by omega)), nI_clamp (show k < 2 ^ 31 by omega)]
    refine yp_gd (fun _ => yp_lt (yp_lt (yp_some ⟨nI_1 k, fun a ha => (pI_ne ha).trans (h1 a ha), h2, fun j hj => ?_⟩)))
    show (sn_pI z q k v).1 q j = v
    by_cases c : j = k
    · subst c
      exact pI_self
    · rw [pI_slot c]
      exact h3 j (by omega)
  · obtain ⟨z, x⟩ := s
    obtain ⟨ex, h1, h2, h3⟩ := hs
    have ex : x = nI n := ex
    subst ex
    show yp (BJ7_fill_53178_5 z q n v (nI n) (Int32.ofNat n)) _
    unfold BJ7_fill_53178_5
    rw [if_pos (show Int32.ofNat n ≤ nI n from Int32.le_refl _)]
    exact yp_some ⟨h1, h2, h3⟩
  · unfold BJ7_fill_53178_20
    exact yp_some hu
theorem yc_cpy {z : sn_S} {a b L : Nat} (hL : L < 2 ^ 31) : (∀ q, q ≠ a → (sn_wI z a (va_cpy (sn_I z b) (sn_I z a) (0 : Int32).toNatClampNeg (0 : Int32).toNatClampNeg (Int32.ofNat L).toNatClampNeg)).1 q = z.1 q) ∧ (∀ k, (sn_wI z a (va_cpy (sn_I z b) (sn_I z a) (0 : Int32).toNatClampNeg (0 : Int32).toNatClampNeg (Int32.ofNat L).toNatClampNeg)).1 a k = if k < L then z.1 b k else z.1 a k) := by
  refine ⟨fun q hq => if_neg hq, fun k => ?_⟩
  have e : (sn_wI z a (va_cpy (sn_I z b) (sn_I z a) (0 : Int32).toNatClampNeg (0 : Int32).toNatClampNeg (Int32.ofNat L).toNatClampNeg)).1 a = va_cpy (sn_I z b) (sn_I z a) (0 : Int32).toNatClampNeg (0 : Int32).toNatClampNeg (Int32.ofNat L).toNatClampNeg := if_pos rfl
  rw [e]
  have e1 : (Int32.ofNat L).toNatClampNeg = L := nI_clamp hL
  have e0 : (0 : Int32).toNatClampNeg = 0 := rfl
  rw [e1, e0]
  unfold va_cpy
  rw [Nat.zero_add, Nat.zero_add, Nat.sub_zero]
  by_cases c : k < L
  · rw [if_pos ⟨Nat.zero_le _, c⟩, if_pos c]
    rfl
  · rw [if_neg (fun h => c h.2), if_neg c]
    rfl
theorem yc_acts {h : Nat} {σ : sn_S} {w : Nat → Int32} (hW : jW w) (hH : yH h σ w) {kind p : Nat} (hk : kind < 2) (hp : p < 6) : yp (fX2_minutesOfActs σ h (nI kind) (nI p)) (fun v => v = hs_acts w kind p (sp_n w 9)) := by
  obtain ⟨b9, h9⟩ : yh_n w 9 40 := hW.1.2.2.2.2.2.2.2.2.2.1
  have e9 : sn_I σ (h + 1) (9 : Int32).toNatClampNeg = nI (sp_n w 9) := (hH.1 9 (by decide)).trans b9
  unfold fX2_minutesOfActs
  refine yp_bd (fun v => v = hs_acts w kind p (sp_n w 9)) (yp_for (sp_n w 9) (fun k s => s.2 = nI k ∧ s.1 = hs_acts w kind p k) (fun k s hk2 hs => ?_) (fun s hs => ?_) ⟨nI_0.symm, rfl⟩) (fun v hv => ?_)
  · obtain ⟨v, x⟩ := s
    obtain ⟨ex, ev⟩ := hs
    have ex : x = nI k := ex
    have ev : v = hs_acts w kind p k := ev
    subst ex
    subst ev
    obtain ⟨a0, a1, a2⟩ := hH.2.2.2.2.2 k hk2
    obtain ⟨c0, c1, c2⟩ := hW.2.2.2.2.2.2.2 k hk2
    have c5 : sp_n w 5 ≤ 6 := hW.1.2.2.2.2.2.1.2
    have c3 : sp_n w 0 ≤ 30 := hW.1.1.2
    have f0 : sn_I σ (h + 6) (3 * k) = nI (sp_n w (79 + k) % 2) := a0
    have f1 : sn_I σ (h + 6) (3 * k + 1) = nI (sp_n w (79 + k) / 200) := a1
    have f2 : sn_I σ (h + 6) (3 * k + 2) = nI (sp_n w (79 + k) % 200 / 2) := a2
    have k1 : hs_acts w kind p (k + 1) = if sp_n w (79 + k) % 2 = kind ∧ sp_n w (79 + k) / 200 = p then hs_acts w kind p k ||| ((1 : Int32) <<< (nI (sp_n w (79 + k) % 200 / 2) &&& 31)) else hs_acts w kind p k := rfl
    have l61 : ∀ v : Int32, v = hs_acts w kind p (k + 1) → yp (BX2_minutesOfActs_61 σ h (nI kind) (nI p) v (nI k)) (yp_sum (fun s' => s'.2 = nI (k + 1) ∧ s'.1 = hs_acts w kind p (k + 1)) (fun _ => False)) := fun v hv => by
      unfold BX2_minutesOfActs_61
      exact yp_lt (yp_some ⟨nI_1 k, hv⟩)
    show yp (BX2_minutesOfActs_5 σ h (nI kind) (nI p) _ (nI k)) _
    unfold BX2_minutesOfActs_5
    rw [e9, if_neg (nI_ge hk2 (by omega)), yi_3, show nI (3 * k) + (1 : Int32) = nI (3 * k + 1) from nI_1 _, show nI (3 * k) + (2 : Int32) = nI (3 * k + 2) from nI_add _ 2, nI_clamp (show 3 * k < 2 ^ 31 by omega), nI_clamp (show 3 * k + 1 < 2 ^ 31 by omega), nI_clamp (show 3 * k + 2 < 2 ^ 31 by omega), f0, f1, f2]
    refine yp_gd (fun _ => yp_gd (fun _ => yp_ite (fun c => ?_) (fun c => ?_)))
    · have c := (nI_eq (by omega) (by omega)).mp c
      refine yp_gd (fun _ => yp_ite (fun d => ?_) (fun d => ?_))
      · have d := (nI_eq (by omega) (by omega)).mp d
        refine yp_gd (fun _ => yp_lt (l61 _ ?_))
        rw [k1, if_pos ⟨c, d⟩]
      · exact l61 _ (by rw [k1, if_neg (fun g => d (congrArg nI g.2))])
    · exact l61 _ (by rw [k1, if_neg (fun g => c (congrArg nI g.1))])
  · obtain ⟨v, x⟩ := s
    obtain ⟨ex, ev⟩ := hs
    have ex : x = nI (sp_n w 9) := ex
    subst ex
    show yp (BX2_minutesOfActs_5 σ h (nI kind) (nI p) v (nI (sp_n w 9))) _
    unfold BX2_minutesOfActs_5
    rw [e9, if_pos (nI_le (Nat.le_refl _) (by omega))]
    exact yp_gd (fun _ => yp_some ev)
  · unfold BX2_minutesOfActs_67
    exact yp_some hv
theorem yH_c {h : Nat} {σ z : sn_S} {w : Nat → Int32} (e : ∀ a, h + 1 ≤ a → a ≤ h + 6 → z.1 a = σ.1 a) (hH : yH h σ w) : yH h z w := by
  unfold yH
  rw [e (h + 1) (by omega) (by omega), e (h + 2) (by omega) (by omega), e (h + 3) (by omega) (by omega), e (h + 4) (by omega) (by omega), e (h + 5) (by omega) (by omega), e (h + 6) (by omega) (by omega)]
  exact hH
def yt_P (w : Nat → Int32) (k : Nat) (z : sn_S) : Prop := ∀ p, p < k → z.1 29 p = w (11 + 2 * p) ∧ z.1 30 p = w (12 + 2 * p) ∧ z.1 31 p = hs_acts w 0 p (sp_n w 9) ∧ z.1 32 p = hs_acts w 1 p (sp_n w 9)
theorem yc_persons {σ : sn_S} {w : Nat → Int32} (hW : jW w) (hH : yH 1 σ w) {z0 : sn_S} (g0 : ∀ a, a < 27 → z0.1 a = σ.1 a) (h1 : z0.1 27 1 = nI (sp_n w 5)) : yp (sn_it (LX0_tellFrom_56 27 1) 5000 (z0, (0 : Int32))) (fun z => (∀ a, a < 29 ∨ 32 < a → z.1 a = z0.1 a) ∧ z.2 = z0.2 ∧ yt_P w (sp_n w 5) z) := by
  have c5 : sp_n w 5 ≤ 6 := hW.1.2.2.2.2.2.1.2
  refine yp_for (sp_n w 5) (fun k s => s.2 = nI k ∧ (∀ a, a < 29 ∨ 32 < a → s.1.1 a = z0.1 a) ∧ s.1.2 = z0.2 ∧ yt_P w k s.1) (fun k s hk hs => ?_) (fun s hs => ?_) ⟨nI_0.symm, fun _ _ => rfl, rfl, fun p hp => absurd hp (by omega)⟩
  · obtain ⟨z, x⟩ := s
    obtain ⟨ex, f1, f2, f3⟩ := hs
    have ex : x = nI k := ex
    subst ex
    have f1 : ∀ a, a < 29 ∨ 32 < a → z.1 a = z0.1 a := f1
    have f2 : z.2 = z0.2 := f2
    have f3 : yt_P w k z := f3
    have e1 : sn_I z 27 1 = nI (sp_n w 5) := (congrFun (f1 27 (by omega)) 1).trans h1
    have n0 : w (11 + 2 * k) = σ.1 3 (2 * k) := (hH.2.1 (2 * k) (by omega)).symm
    have n1 : w (12 + 2 * k) = σ.1 3 (2 * k + 1) := by
      have := hH.2.1 (2 * k + 1) (by omega)
      rw [show 11 + (2 * k + 1) = 12 + 2 * k by omega] at this
      exact this.symm
    have hz : ∀ u : sn_S, (∀ a, a < 29 → u.1 a = z.1 a) → yH 1 u w := fun u hu => yH_c (fun a a1 a2 => (hu a (by omega)).trans ((f1 a (by omega)).trans (g0 a (by omega)))) hH
    show yp (BX0_tellFrom_56 z 27 1 (nI k)) _
    unfold BX0_tellFrom_56
    rw [e1, if_neg (nI_ge hk (by omega)), yi_2, show nI (2 * k) + (1 : Int32) = nI (2 * k + 1) from nI_1 _, nI_clamp (show k < 2 ^ 31 by omega), nI_clamp (show 2 * k < 2 ^ 31 by omega), nI_clamp (show 2 * k + 1 < 2 ^ 31 by omega)]
    refine yp_gd (fun _ => yp_gd (fun _ => yp_lt (yp_gd (fun _ => yp_gd (fun _ => yp_lt ?_)))))
    have e30 : sn_I (sn_pI z (27 + 2) k (sn_I z (1 + 2) (2 * k))) (1 + 2) (2 * k + 1) = w (12 + 2 * k) := by
      show (sn_pI z (27 + 2) k (sn_I z (1 + 2) (2 * k))).1 3 (2 * k + 1) = _
      rw [pI_ne (by decide), f1 3 (by omega), g0 3 (by omega), n1]
    have e29 : sn_I z (1 + 2) (2 * k) = w (11 + 2 * k) := by
      show z.1 3 (2 * k) = _
      rw [f1 3 (by omega), g0 3 (by omega), n0]
    rw [e30, e29]
    refine yp_bd _ (yc_acts hW (hz _ (fun a ha => (pI_ne (by omega)).trans (pI_ne (by omega)))) (kind := 0) (by decide) (show k < 6 by omega)) (fun v hv => ?_)
    subst hv
    refine yp_gd (fun _ => yp_lt ?_)
    refine yp_bd _ (yc_acts hW (hz _ (fun a ha => (pI_ne (by omega)).trans ((pI_ne (by omega)).trans (pI_ne (by omega))))) (kind := 1) (by decide) (show k < 6 by omega)) (fun v hv => ?_)
    subst hv
    refine yp_gd (fun _ => yp_lt (yp_lt (yp_some ⟨nI_1 k, fun a ha => ?_, f2, fun p hp => ?_⟩)))
    · exact (pI_ne (by omega)).trans ((pI_ne (by omega)).trans ((pI_ne (by omega)).trans ((pI_ne (by omega)).trans (f1 a ha))))
    · show (sn_pI (sn_pI (sn_pI (sn_pI z 29 k (w (11 + 2 * k))) 30 k (w (12 + 2 * k))) 31 k (hs_acts w 0 k (sp_n w 9))) 32 k (hs_acts w 1 k (sp_n w 9))).1 29 p = _ ∧ (sn_pI (sn_pI (sn_pI (sn_pI z 29 k (w (11 + 2 * k))) 30 k (w (12 + 2 * k))) 31 k (hs_acts w 0 k (sp_n w 9))) 32 k (hs_acts w 1 k (sp_n w 9))).1 30 p = _ ∧ (sn_pI (sn_pI (sn_pI (sn_pI z 29 k (w (11 + 2 * k))) 30 k (w (12 + 2 * k))) 31 k (hs_acts w 0 k (sp_n w 9))) 32 k (hs_acts w 1 k (sp_n w 9))).1 31 p = _ ∧ (sn_pI (sn_pI (sn_pI (sn_pI z 29 k (w (11 + 2 * k))) 30 k (w (12 + 2 * k))) 31 k (hs_acts w 0 k (sp_n w 9))) 32 k (hs_acts w 1 k (sp_n w 9))).1 32 p = _
      rw [pI_ne (show 29 ≠ 32 by decide), pI_ne (show 29 ≠ 31 by decide), pI_ne (show 29 ≠ 30 by decide), pI_ne (show 30 ≠ 32 by decide), pI_ne (show 30 ≠ 31 by decide), pI_ne (show 31 ≠ 32 by decide)]
      by_cases c : p = k
      · subst c
        rw [pI_self, pI_self, pI_self, pI_self]
        exact ⟨rfl, rfl, rfl, rfl⟩
      · rw [pI_slot c, pI_slot c, pI_slot c, pI_slot c, pI_ne (show 30 ≠ 29 by decide), pI_ne (show 31 ≠ 30 by decide), pI_ne (show 31 ≠ 29 by decide), pI_ne (show 32 ≠ 31 by decide), pI_ne (show 32 ≠ 30 by decide), pI_ne (show 32 ≠ 29 by decide)]
        exact f3 p (by omega)
  · obtain ⟨z, x⟩ := s
    obtain ⟨ex, f1, f2, f3⟩ := hs
    have ex : x = nI (sp_n w 5) := ex
    subst ex
    have f1 : ∀ a, a < 29 ∨ 32 < a → z.1 a = z0.1 a := f1
    have e1 : sn_I z 27 1 = nI (sp_n w 5) := (congrFun (f1 27 (by omega)) 1).trans h1
    show yp (BX0_tellFrom_56 z 27 1 (nI (sp_n w 5))) _
    unfold BX0_tellFrom_56
    rw [e1, if_pos (nI_le (Nat.le_refl _) (by omega))]
    exact yp_some ⟨f1, f2, f3⟩
theorem yc_gusts {σ : sn_S} {w : Nat → Int32} (hW : jW w) (hH : yH 1 σ w) {z0 : sn_S} (g0 : ∀ a, a < 27 → z0.1 a = σ.1 a) (h1 : ∀ m, m < 30 → z0.1 28 m = w 1) : yp (sn_it (LX0_tellFrom_139 27 1) 5000 (z0, (0 : Int32))) (fun z => (∀ a, a ≠ 28 → z.1 a = z0.1 a) ∧ z.2 = z0.2 ∧ ∀ m, m < 30 → z.1 28 m = hs_dust w m (sp_n w 6)) := by
  obtain ⟨b6, c6⟩ : yh_n w 6 5 := hW.1.2.2.2.2.2.2.1
  refine yp_for (sp_n w 6) (fun k s => s.2 = nI k ∧ (∀ a, a ≠ 28 → s.1.1 a = z0.1 a) ∧ s.1.2 = z0.2 ∧ ∀ m, m < 30 → s.1.1 28 m = hs_dust w m k) (fun k s hk hs => ?_) (fun s hs => ?_) ⟨nI_0.symm, fun _ _ => rfl, rfl, h1⟩
  · obtain ⟨z, x⟩ := s
    obtain ⟨ex, f1, f2, f3⟩ := hs
    have ex : x = nI k := ex
    subst ex
    have f1 : ∀ a, a ≠ 28 → z.1 a = z0.1 a := f1
    have f3 : ∀ m, m < 30 → z.1 28 m = hs_dust w m k := f3
    have e6 : sn_I z (1 + 1) (6 : Int32).toNatClampNeg = nI (sp_n w 6) := ((congrFun ((f1 2 (by decide)).trans (g0 2 (by omega))) 6).trans (hH.1 6 (by decide))).trans b6
    obtain ⟨⟨-, -⟩, ⟨w1, w2⟩⟩ := hW.2.2.2.2.1 k hk
    have a1 : sn_I z (1 + 3) (2 * k + 1) = nI (sp_n w (24 + 2 * k)) := by
      have := hH.2.2.1 (2 * k + 1) (by omega)
      rw [show 23 + (2 * k + 1) = 24 + 2 * k by omega] at this
      exact ((congrFun ((f1 4 (by decide)).trans (g0 4 (by omega))) (2 * k + 1)).trans this).trans w1
    have a0 : sn_I z (1 + 3) (2 * k) = w (23 + 2 * k) := (congrFun ((f1 4 (by decide)).trans (g0 4 (by omega))) (2 * k)).trans (hH.2.2.1 (2 * k) (by omega))
    show yp (BX0_tellFrom_139 z 27 1 (nI k)) _
    unfold BX0_tellFrom_139
    rw [e6, if_neg (nI_ge hk (by omega)), yi_2, show nI (2 * k) + (1 : Int32) = nI (2 * k + 1) from nI_1 _, nI_clamp (show 2 * k < 2 ^ 31 by omega), nI_clamp (show 2 * k + 1 < 2 ^ 31 by omega), a1, a0, nI_clamp (show sp_n w (24 + 2 * k) < 2 ^ 31 by omega)]
    refine yp_gd (fun _ => yp_gd (fun _ => yp_gd (fun _ => yp_gd (fun _ => yp_gd (fun _ => yp_lt (yp_lt (yp_some ⟨nI_1 k, fun a ha => (pI_ne ha).trans (f1 a ha), f2, fun m hm => ?_⟩)))))))
    show (sn_pI z 28 (sp_n w (24 + 2 * k)) (z.1 28 (sp_n w (24 + 2 * k)) + w (23 + 2 * k))).1 28 m = if sp_n w (24 + 2 * k) = m then hs_dust w m k + w (23 + 2 * k) else hs_dust w m k
    by_cases c : sp_n w (24 + 2 * k) = m
    · subst c
      rw [pI_self, if_pos rfl, f3 _ hm]
    · rw [pI_slot (fun e => c e.symm), if_neg c]
      exact f3 m hm
  · obtain ⟨z, x⟩ := s
    obtain ⟨ex, f1, f2, f3⟩ := hs
    have ex : x = nI (sp_n w 6) := ex
    subst ex
    have f1 : ∀ a, a ≠ 28 → z.1 a = z0.1 a := f1
    have e6 : sn_I z (1 + 1) (6 : Int32).toNatClampNeg = nI (sp_n w 6) := ((congrFun ((f1 2 (by decide)).trans (g0 2 (by omega))) 6).trans (hH.1 6 (by decide))).trans b6
    show yp (BX0_tellFrom_139 z 27 1 (nI (sp_n w 6))) _
    unfold BX0_tellFrom_139
    rw [e6, if_pos (nI_le (Nat.le_refl _) (by omega))]
    exact yp_gd (fun _ => yp_some ⟨f1, f2, f3⟩)
theorem yc_tell {σ : sn_S} {w : Nat → Int32} (hW : jW w) (hH : yH 1 σ w) : yp (fX0_tellFrom σ 27 1) (fun z => (∀ a, a < 27 ∨ 33 < a → z.1 a = σ.1 a) ∧ z.2 = σ.2 ∧ z.1 27 0 = nI (sp_n w 0) ∧ yd_T 27 z (hs_day w)) := by
  have c0 : σ.1 2 0 = nI (sp_n w 0) := (hH.1 0 (by decide)).trans hW.1.1.1
  have c5 : σ.1 2 5 = nI (sp_n w 5) := (hH.1 5 (by decide)).trans hW.1.2.2.2.2.2.1.1
  have c7 : σ.1 2 7 = nI (sp_n w 7) := (hH.1 7 (by decide)).trans hW.1.2.2.2.2.2.2.2.1.1
  have b5 : sp_n w 5 ≤ 6 := hW.1.2.2.2.2.2.1.2
  have b7 : sp_n w 7 ≤ 8 := hW.1.2.2.2.2.2.2.2.1.2
  unfold fX0_tellFrom
  refine yp_gd (fun _ => yp_lt (yp_gd (fun _ => yp_lt (yp_gd (fun _ => yp_lt (yp_lt (yp_gd (fun _ => yp_lt ?_))))))))
  obtain ⟨u, hu⟩ : ∃ u : sn_S, u = sn_pI (sn_pI (sn_pI (sn_pI σ 27 0 (sn_I σ (1 + 1) (0 : Int32).toNatClampNeg)) 27 1 (sn_I (sn_pI σ 27 0 (sn_I σ (1 + 1) (0 : Int32).toNatClampNeg)) (1 + 1) (5 : Int32).toNatClampNeg)) 27 2 (sn_I (sn_pI (sn_pI σ 27 0 (sn_I σ (1 + 1) (0 : Int32).toNatClampNeg)) 27 1 (sn_I (sn_pI σ 27 0 (sn_I σ (1 + 1) (0 : Int32).toNatClampNeg)) (1 + 1) (5 : Int32).toNatClampNeg)) (1 + 1) (7 : Int32).toNatClampNeg)) 27 3 (-1) := ⟨_, rfl⟩
  rw [← hu]
  have u0 : ∀ a, a ≠ 27 → u.1 a = σ.1 a := fun a ha => by rw [hu, pI_ne ha, pI_ne ha, pI_ne ha, pI_ne ha]
  have u2 : u.2 = σ.2 := by rw [hu]; rfl
  have v0 : u.1 27 0 = nI (sp_n w 0) := by
    rw [hu, pI_slot (by decide), pI_slot (by decide), pI_slot (by decide), pI_self]
    exact c0
  have v1 : u.1 27 1 = nI (sp_n w 5) := by
    rw [hu, pI_slot (by decide), pI_slot (by decide), pI_self]
    exact (congrFun (pI_ne (show 2 ≠ 27 by decide)) 5).trans c5
  have v2 : u.1 27 2 = nI (sp_n w 7) := by
    rw [hu, pI_slot (by decide), pI_self]
    exact (congrFun ((pI_ne (show 2 ≠ 27 by decide)).trans (pI_ne (show 2 ≠ 27 by decide))) 7).trans c7
  have v3 : u.1 27 3 = -1 := by rw [hu, pI_self]
  clear hu
  obtain ⟨y1, y2⟩ := yc_cpy (z := u) (a := 27 + 6) (b := 1 + 4) (L := 16) (by decide)
  refine yp_bd _ (yc_persons hW hH (fun a ha => (y1 a (by omega)).trans (u0 a (by omega))) ((congrFun (y1 27 (by decide)) 1).trans v1)) (fun z hz => ?_)
  obtain ⟨z1, z2, z3⟩ := hz
  unfold BX0_tellFrom_124
  refine yp_gd (fun _ => yp_bd _ (yc_fill _ _ _ _ (by decide)) (fun v hv => ?_))
  obtain ⟨w1, w2, w3⟩ := hv
  have e1 : sn_I z (1 + 1) (1 : Int32).toNatClampNeg = w 1 := (congrFun ((z1 2 (by omega)).trans ((y1 2 (by decide)).trans (u0 2 (by decide)))) 1).trans (hH.1 1 (by decide))
  rw [e1] at w3
  refine yp_bd _ (yc_gusts hW hH (fun a ha => (w1 a (by omega)).trans ((z1 a (by omega)).trans ((y1 a (by omega)).trans (u0 a (by omega))))) w3) (fun t ht => ?_)
  obtain ⟨t1, t2, t3⟩ := ht
  unfold BX0_tellFrom_182
  have f27 : t.1 27 = u.1 27 := (t1 27 (by decide)).trans ((w1 27 (by decide)).trans ((z1 27 (by omega)).trans (y1 27 (by decide))))
  have fp : ∀ a, 29 ≤ a → a ≤ 32 → t.1 a = z.1 a := fun a a1 a2 => (t1 a (by omega)).trans (w1 a (by omega))
  have f33 : ∀ k, k < 16 → t.1 33 k = σ.1 5 k := fun k hk => by
    rw [t1 33 (by decide), w1 33 (by decide), z1 33 (by omega), show (33 : Nat) = 27 + 6 from rfl, y2 k, if_pos hk]
    exact congrFun (u0 5 (by decide)) k
  refine yp_some ⟨fun a ha => (t1 a (by omega)).trans ((w1 a (by omega)).trans ((z1 a (by omega)).trans ((y1 a (by omega)).trans (u0 a (by omega))))), t2.trans (w2.trans (z2.trans u2)), (congrFun f27 0).trans v0, (congrFun f27 1).trans v1, (congrFun f27 2).trans v2, (congrFun f27 3).trans v3, t3, fun p hp => ?_, fun k hk => ?_⟩
  · have hp : p < sp_n w 5 := hp
    show t.1 29 p = _ ∧ t.1 30 p = _ ∧ t.1 31 p = _ ∧ t.1 32 p = _
    rw [fp 29 (by decide) (by decide), fp 30 (by decide) (by decide), fp 31 (by decide) (by decide), fp 32 (by decide) (by decide)]
    exact z3 p hp
  · have hk : k < sp_n w 7 := hk
    have g := hW.2.2.2.2.2.1 k hk
    have h0 := hH.2.2.2.1 (2 * k) (by omega)
    have h1 := hH.2.2.2.1 (2 * k + 1) (by omega)
    rw [show 33 + (2 * k + 1) = 34 + 2 * k by omega] at h1
    exact ⟨(f33 (2 * k) (by omega)).trans (h0.trans g.1), (f33 (2 * k + 1) (by omega)).trans (h1.trans g.2.2.1)⟩
/-- the day of the class is the one of its house -/
def yD (σ : sn_S) (w : Nat → Int32) : Prop := σ.1 27 0 = nI (sp_n w 0) ∧ yd_T 27 σ (hs_day w) ∧ yd_L 27 σ (hs_day w) (sp_n w 0)
theorem yc_anew {σ : sn_S} {w : Nat → Int32} (hW : jW w) (hH : yH 1 σ w) : yp (fX8_liveAnew σ) (fun z => (∀ a, a < 27 ∨ 37 < a → z.1 a = σ.1 a) ∧ z.2 = σ.2 ∧ yD z w) := by
  unfold fX8_liveAnew
  refine yp_bd _ (yc_tell hW hH) (fun z hz => ?_)
  obtain ⟨z1, z2, z3, z4⟩ := hz
  refine yp_bd _ (yc_whole z3 hW.1.1.2 z4 (hs_ok hW)) (fun u hu => yp_some ⟨fun a ha => (hu.1.1 a (by omega)).trans (z1 a (by omega)), hu.1.2.trans z2, ?_, ?_, hu.2⟩)
  · exact (congrFun (hu.1.1 27 (by omega)) 0).trans z3
  · exact yd_Tc (fun a _ ha => hu.1.1 a (by omega)) z4
/-! the reference goes through a house as it is -/
def ya_0 (τ z : sn_S) : Prop := (∀ a, a ≠ 0 → a ≠ 7 → a ≠ 8 → a ≠ 9 → z.1 a = τ.1 a) ∧ z.2 = τ.2 ∧ ∀ k, k < 18 ∨ 22 < k → z.1 0 k = τ.1 0 k
theorem ym_dusts {τ z0 : sn_S} : yp (sn_it (LX9_asItIs_42) 5000 (z0, (0 : Int32))) (fun z => (∀ a, a ≠ 7 → z.1 a = z0.1 a) ∧ z.2 = z0.2 ∧ ∀ m, m < 30 → z.1 7 m = z0.1 1 1) := by
  refine yp_for 30 (fun k s => s.2 = nI k ∧ (∀ a, a ≠ 7 → s.1.1 a = z0.1 a) ∧ s.1.2 = z0.2 ∧ ∀ m, m < k → s.1.1 7 m = z0.1 1 1) (fun k s hk hs => ?_) (fun s hs => ?_) ⟨nI_0.symm, fun _ _ => rfl, rfl, fun m hm => absurd hm (by omega)⟩
  · obtain ⟨z, x⟩ := s
    obtain ⟨ex, f1, f2, f3⟩ := hs
    have ex : x = nI k := ex
    subst ex
    have f1 : ∀ a, a ≠ 7 → z.1 a = z0.1 a := f1
    show yp (BX9_asItIs_42 z (nI k)) _
    unfold BX9_asItIs_42
    rw [if_neg (show ¬ (30 : Int32) ≤ nI k from nI_ge (b := 30) hk (by decide)), nI_clamp (show k < 2 ^ 31 by omega)]
    refine yp_gd (fun _ => yp_gd (fun _ => yp_lt (yp_lt (yp_some ⟨nI_1 k, fun a ha => (pI_ne ha).trans (f1 a ha), f2, fun m hm => ?_⟩))))
    show (sn_pI z 7 k (z.1 1 1)).1 7 m = _
    by_cases c : m = k
    · subst c
      rw [pI_self, f1 1 (by decide)]
    · rw [pI_slot c]
      exact f3 m (by omega)
  · obtain ⟨z, x⟩ := s
    obtain ⟨ex, f1, f2, f3⟩ := hs
    have ex : x = nI 30 := ex
    subst ex
    show yp (BX9_asItIs_42 z (nI 30)) _
    unfold BX9_asItIs_42
    rw [if_pos (show (30 : Int32) ≤ nI 30 by decide)]
    exact yp_some ⟨f1, f2, f3⟩
theorem ym_gusts {w : Nat → Int32} (hW : jW w) {z0 : sn_S} (h1 : z0.1 1 = w) (h7 : ∀ m, m < 30 → z0.1 7 m = w 1) (h18 : z0.1 0 18 = 0) : yp (sn_it (LX9_asItIs_68) 5000 (z0, (0 : Int32))) (fun z => (∀ a, a ≠ 0 → a ≠ 7 → z.1 a = z0.1 a) ∧ z.2 = z0.2 ∧ (∀ k, k ≠ 18 → z.1 0 k = z0.1 0 k) ∧ (∀ m, m < 30 → z.1 7 m = hs_dust w m (sp_n w 6)) ∧ z.1 0 18 = hs_gust w (sp_n w 6)) := by
  obtain ⟨b6, c6⟩ : yh_n w 6 5 := hW.1.2.2.2.2.2.2.1
  refine yp_for (sp_n w 6) (fun k s => s.2 = nI k ∧ (∀ a, a ≠ 0 → a ≠ 7 → s.1.1 a = z0.1 a) ∧ s.1.2 = z0.2 ∧ (∀ k, k ≠ 18 → s.1.1 0 k = z0.1 0 k) ∧ (∀ m, m < 30 → s.1.1 7 m = hs_dust w m k) ∧ s.1.1 0 18 = hs_gust w k) (fun k s hk hs => ?_) (fun s hs => ?_) ⟨nI_0.symm, fun _ _ _ => rfl, rfl, fun _ _ => rfl, h7, h18⟩
  · obtain ⟨z, x⟩ := s
    obtain ⟨ex, f1, f2, f3, f4, f5⟩ := hs
    have ex : x = nI k := ex
    subst ex
    have f1 : ∀ a, a ≠ 0 → a ≠ 7 → z.1 a = z0.1 a := f1
    have f3 : ∀ k, k ≠ 18 → z.1 0 k = z0.1 0 k := f3
    have f4 : ∀ m, m < 30 → z.1 7 m = hs_dust w m k := f4
    have f5 : z.1 0 18 = hs_gust w k := f5
    have ew : z.1 1 = w := (f1 1 (by decide) (by decide)).trans h1
    have e6 : sn_I z 1 (6 : Int32).toNatClampNeg = nI (sp_n w 6) := (congrFun ew 6).trans b6
    obtain ⟨⟨-, -⟩, ⟨w1, w2⟩⟩ := hW.2.2.2.2.1 k hk
    have a1 : sn_I z 1 (24 + 2 * k) = nI (sp_n w (24 + 2 * k)) := (congrFun ew _).trans w1
    have a0 : sn_I z 1 (23 + 2 * k) = w (23 + 2 * k) := congrFun ew _
    show yp (BX9_asItIs_68 z (nI k)) _
    unfold BX9_asItIs_68
    rw [e6, if_neg (nI_ge hk (by omega)), yi_24, yi_23, nI_clamp (show 24 + 2 * k < 2 ^ 31 by omega), nI_clamp (show 23 + 2 * k < 2 ^ 31 by omega), a1, a0]
    refine yp_gd (fun _ => yp_gd (fun _ => yp_lt (yp_gd (fun _ => yp_gd (fun _ => yp_gd (fun _ => ?_))))))
    rw [nI_clamp (show sp_n w (24 + 2 * k) < 2 ^ 31 by omega)]
    refine yp_lt (yp_lt (yp_lt (yp_some ⟨nI_1 k, fun a a1 a2 => (pI_ne a1).trans ((pI_ne a2).trans (f1 a a1 a2)), f2, fun j hj => ?_, fun m hm => ?_, ?_⟩)))
    · show (sn_pI (sn_pI z 7 _ _) 0 18 _).1 0 j = _
      rw [pI_slot hj, pI_ne (by decide)]
      exact f3 j hj
    · show (sn_pI (sn_pI z 7 (sp_n w (24 + 2 * k)) (z.1 7 (sp_n w (24 + 2 * k)) + w (23 + 2 * k))) 0 18 _).1 7 m = if sp_n w (24 + 2 * k) = m then hs_dust w m k + w (23 + 2 * k) else hs_dust w m k
      rw [pI_ne (by decide)]
      by_cases c : sp_n w (24 + 2 * k) = m
      · subst c
        rw [pI_self, if_pos rfl, f4 _ hm]
      · rw [pI_slot (fun e => c e.symm), if_neg c]
        exact f4 m hm
    · show (sn_pI (sn_pI z 7 _ _) 0 18 ((sn_pI z 7 _ _).1 0 18 ||| ((1 : Int32) <<< (nI (sp_n w (24 + 2 * k)) &&& 31)))).1 0 18 = hs_gust w k ||| ((1 : Int32) <<< (nI (sp_n w (24 + 2 * k)) &&& 31))
      rw [pI_self, pI_ne (by decide), f5]
  · obtain ⟨z, x⟩ := s
    obtain ⟨ex, f1, f2, f3, f4, f5⟩ := hs
    have ex : x = nI (sp_n w 6) := ex
    subst ex
    have f1 : ∀ a, a ≠ 0 → a ≠ 7 → z.1 a = z0.1 a := f1
    have ew : z.1 1 = w := (f1 1 (by decide) (by decide)).trans h1
    have e6 : sn_I z 1 (6 : Int32).toNatClampNeg = nI (sp_n w 6) := (congrFun ew 6).trans b6
    show yp (BX9_asItIs_68 z (nI (sp_n w 6))) _
    unfold BX9_asItIs_68
    rw [e6, if_pos (nI_le (Nat.le_refl _) (by omega))]
    exact yp_gd (fun _ => yp_some ⟨f1, f2, f3, f4, f5⟩)
theorem ym_clear {z0 : sn_S} : yp (sn_it (LX9_asItIs_133) 5000 (z0, (0 : Int32))) (fun z => (∀ a, a ≠ 8 → a ≠ 9 → z.1 a = z0.1 a) ∧ z.2 = z0.2 ∧ ∀ p, p < 6 → z.1 8 p = 0 ∧ z.1 9 p = 0) := by
  refine yp_for 6 (fun k s => s.2 = nI k ∧ (∀ a, a ≠ 8 → a ≠ 9 → s.1.1 a = z0.1 a) ∧ s.1.2 = z0.2 ∧ ∀ p, p < k → s.1.1 8 p = 0 ∧ s.1.1 9 p = 0) (fun k s hk hs => ?_) (fun s hs => ?_) ⟨nI_0.symm, fun _ _ _ => rfl, rfl, fun m hm => absurd hm (by omega)⟩
  · obtain ⟨z, x⟩ := s
    obtain ⟨ex, f1, f2, f3⟩ := hs
    have ex : x = nI k := ex
    subst ex
    show yp (BX9_asItIs_133 z (nI k)) _
    unfold BX9_asItIs_133
    rw [if_neg (show ¬ (6 : Int32) ≤ nI k from nI_ge (b := 6) hk (by decide)), nI_clamp (show k < 2 ^ 31 by omega)]
    refine yp_gd (fun _ => yp_lt (yp_gd (fun _ => yp_lt (yp_lt (yp_some ⟨nI_1 k, fun a a1 a2 => (pI_ne a2).trans ((pI_ne a1).trans (f1 a a1 a2)), f2, fun p hp => ?_⟩)))))
    show (sn_pI (sn_pI z 8 k 0) 9 k 0).1 8 p = 0 ∧ (sn_pI (sn_pI z 8 k 0) 9 k 0).1 9 p = 0
    rw [pI_ne (show 8 ≠ 9 by decide)]
    by_cases c : p = k
    · subst c
      exact ⟨pI_self, pI_self⟩
    · rw [pI_slot c, pI_slot c, pI_ne (show 9 ≠ 8 by decide)]
      exact f3 p (by omega)
  · obtain ⟨z, x⟩ := s
    obtain ⟨ex, f1, f2, f3⟩ := hs
    have ex : x = nI 6 := ex
    subst ex
    show yp (BX9_asItIs_133 z (nI 6)) _
    unfold BX9_asItIs_133
    rw [if_pos (show (6 : Int32) ≤ nI 6 by decide)]
    exact yp_some ⟨f1, f2, f3⟩
theorem ym_acts {w : Nat → Int32} (hW : jW w) {z0 : sn_S} (h1 : z0.1 1 = w) (h89 : ∀ p, p < 6 → z0.1 8 p = 0 ∧ z0.1 9 p = 0) : yp (sn_it (LX9_asItIs_161) 5000 (z0, (0 : Int32))) (fun z => (∀ a, a ≠ 8 → a ≠ 9 → z.1 a = z0.1 a) ∧ z.2 = z0.2 ∧ ∀ p, p < 6 → z.1 8 p = hs_acts w 0 p (sp_n w 9) ∧ z.1 9 p = hs_acts w 1 p (sp_n w 9)) := by
  obtain ⟨b9, c9⟩ : yh_n w 9 40 := hW.1.2.2.2.2.2.2.2.2.2.1
  have c5 : sp_n w 5 ≤ 6 := hW.1.2.2.2.2.2.1.2
  refine yp_for (sp_n w 9) (fun k s => s.2 = nI k ∧ (∀ a, a ≠ 8 → a ≠ 9 → s.1.1 a = z0.1 a) ∧ s.1.2 = z0.2 ∧ ∀ p, p < 6 → s.1.1 8 p = hs_acts w 0 p k ∧ s.1.1 9 p = hs_acts w 1 p k) (fun k s hk hs => ?_) (fun s hs => ?_) ⟨nI_0.symm, fun _ _ _ => rfl, rfl, h89⟩
  · obtain ⟨z, x⟩ := s
    obtain ⟨ex, f1, f2, f3⟩ := hs
    have ex : x = nI k := ex
    subst ex
    have f1 : ∀ a, a ≠ 8 → a ≠ 9 → z.1 a = z0.1 a := f1
    have f2 : z.2 = z0.2 := f2
    have f3 : ∀ p, p < 6 → z.1 8 p = hs_acts w 0 p k ∧ z.1 9 p = hs_acts w 1 p k := f3
    have ew : z.1 1 = w := (f1 1 (by decide) (by decide)).trans h1
    have e9 : sn_I z 1 (9 : Int32).toNatClampNeg = nI (sp_n w 9) := (congrFun ew 9).trans b9
    obtain ⟨d0, d1, d2⟩ := hW.2.2.2.2.2.2.2 k hk
    have c0 : sp_n w 0 ≤ 30 := hW.1.1.2
    have ea : sn_I z 1 (79 + k) = nI (sp_n w (79 + k)) := (congrFun ew _).trans d0
    obtain ⟨a, ha⟩ : ∃ a, a = sp_n w (79 + k) := ⟨_, rfl⟩
    rw [← ha] at d1 d2 ea
    have ab : a < 1200 := by omega
    have k1 : ∀ kind p, hs_acts w kind p (k + 1) = if a % 2 = kind ∧ a / 200 = p then hs_acts w kind p k ||| ((1 : Int32) <<< (nI (a % 200 / 2) &&& 31)) else hs_acts w kind p k := fun kind p => by
      rw [ha]
      rfl
    have l232 : ∀ u : sn_S, (∀ b, b ≠ 8 → b ≠ 9 → u.1 b = z.1 b) → u.2 = z.2 → (∀ p, p < 6 → u.1 8 p = hs_acts w 0 p (k + 1) ∧ u.1 9 p = hs_acts w 1 p (k + 1)) → yp (BX9_asItIs_232 u (nI k)) (yp_sum (fun s : sn_S × Int32 => s.2 = nI (k + 1) ∧ (∀ a, a ≠ 8 → a ≠ 9 → s.1.1 a = z0.1 a) ∧ s.1.2 = z0.2 ∧ ∀ p, p < 6 → s.1.1 8 p = hs_acts w 0 p (k + 1) ∧ s.1.1 9 p = hs_acts w 1 p (k + 1)) (fun _ => False)) := fun u u1 u2 u3 => by
      unfold BX9_asItIs_232
      exact yp_lt (yp_some ⟨nI_1 k, fun b b1 b2 => (u1 b b1 b2).trans (f1 b b1 b2), u2.trans f2, u3⟩)
    show yp (BX9_asItIs_161 z (nI k)) _
    unfold BX9_asItIs_161
    rw [e9, if_neg (nI_ge hk (by omega)), show (79 : Int32) + nI k = nI (79 + k) from nI_add 79 k, nI_clamp (show 79 + k < 2 ^ 31 by omega), ea]
    refine yp_gd (fun _ => yp_gd (fun _ => yp_lt ?_))
    rw [yi_d200 (by omega), yi_m2 (by omega), yi_d2 (by omega), yi_m100 (show a / 2 < 2 ^ 31 by omega), show a / 2 % 100 = a % 200 / 2 by omega]
    refine yp_lt (yp_lt ?_)
    rw [nI_clamp (show a / 200 < 2 ^ 31 by omega)]
    refine yp_ite (fun c => ?_) (fun c => ?_)
    · have c : a % 2 = 1 := (nI_eq (b := 1) (by omega) (by decide)).mp c
      refine yp_gd (fun _ => yp_gd (fun _ => yp_lt (l232 _ (fun b _ b2 => pI_ne b2) rfl (fun p hp => ⟨?_, ?_⟩))))
      · rw [pI_ne (by decide), k1 0 p, if_neg (fun h => by omega)]
        exact (f3 p hp).1
      · show (sn_pI z 9 (a / 200) (z.1 9 (a / 200) ||| _)).1 9 p = _
        rw [k1 1 p]
        by_cases e : p = a / 200
        · subst e
          rw [pI_self, if_pos ⟨c, rfl⟩, (f3 _ hp).2]
        · rw [pI_slot e, if_neg (fun h => e h.2.symm)]
          exact (f3 p hp).2
    · have c : a % 2 = 0 := by
        have : a % 2 ≠ 1 := fun h => c (by rw [h]; rfl)
        omega
      refine yp_gd (fun _ => yp_gd (fun _ => yp_lt (l232 _ (fun b b1 _ => pI_ne b1) rfl (fun p hp => ⟨?_, ?_⟩))))
      · show (sn_pI z 8 (a / 200) (z.1 8 (a / 200) ||| _)).1 8 p = _
        rw [k1 0 p]
        by_cases e : p = a / 200
        · subst e
          rw [pI_self, if_pos ⟨c, rfl⟩, (f3 _ hp).1]
        · rw [pI_slot e, if_neg (fun h => e h.2.symm)]
          exact (f3 p hp).1
      · rw [pI_ne (by decide), k1 1 p, if_neg (fun h => by omega)]
        exact (f3 p hp).2
  · obtain ⟨z, x⟩ := s
    obtain ⟨ex, f1, f2, f3⟩ := hs
    have ex : x = nI (sp_n w 9) := ex
    subst ex
    have f1 : ∀ a, a ≠ 8 → a ≠ 9 → z.1 a = z0.1 a := f1
    have ew : z.1 1 = w := (f1 1 (by decide) (by decide)).trans h1
    have e9 : sn_I z 1 (9 : Int32).toNatClampNeg = nI (sp_n w 9) := (congrFun ew 9).trans b9
    show yp (BX9_asItIs_161 z (nI (sp_n w 9))) _
    unfold BX9_asItIs_161
    rw [e9, if_pos (nI_le (Nat.le_refl _) (by omega))]
    exact yp_gd (fun _ => yp_some ⟨f1, f2, f3⟩)
/-- as it is -/
def ya_T (τ z : sn_S) (w : Nat → Int32) : Prop := ya_0 τ z ∧ z.1 0 18 = hs_gust w (sp_n w 6) ∧ z.1 0 19 = -1 ∧ z.1 0 20 = w 2 ∧ z.1 0 21 = w 3 ∧ z.1 0 22 = nI (sp_n w 0) - 1 ∧ (∀ m, m < 30 → z.1 7 m = hs_dust w m (sp_n w 6)) ∧ ∀ p, p < 6 → z.1 8 p = hs_acts w 0 p (sp_n w 9) ∧ z.1 9 p = hs_acts w 1 p (sp_n w 9)
theorem ym_asItIs {τ : sn_S} {w : Nat → Int32} (hw : τ.1 1 = w) (hW : jW w) : yp (fX9_asItIs τ) (fun z => ya_T τ z w) := by
  have b0 : w 0 = nI (sp_n w 0) := hW.1.1.1
  unfold fX9_asItIs fX9_minutes
  refine yp_lt (yp_lt (yp_gd (fun _ => yp_lt (yp_gd (fun _ => yp_lt (yp_bd _ (yp_gd (fun _ => yp_eq rfl)) (fun v hv => yp_lt ?_)))))))
  obtain ⟨u, hu⟩ : ∃ u : sn_S, u = sn_pI (sn_pI (sn_pI (sn_pI (sn_pI τ 0 18 0) 0 19 (-1)) 0 20 (sn_I (sn_pI (sn_pI τ 0 18 0) 0 19 (-1)) 1 (2 : Int32).toNatClampNeg)) 0 21 (sn_I (sn_pI (sn_pI (sn_pI τ 0 18 0) 0 19 (-1)) 0 20 (sn_I (sn_pI (sn_pI τ 0 18 0) 0 19 (-1)) 1 (2 : Int32).toNatClampNeg)) 1 (3 : Int32).toNatClampNeg)) 0 22 (v - 1) := ⟨_, rfl⟩
  rw [← hu]
  have u0 : ∀ a, a ≠ 0 → u.1 a = τ.1 a := fun a ha => by rw [hu, pI_ne ha, pI_ne ha, pI_ne ha, pI_ne ha, pI_ne ha]
  have u2 : u.2 = τ.2 := by rw [hu]; rfl
  have uk : ∀ k, k < 18 ∨ 22 < k → u.1 0 k = τ.1 0 k := fun k hk => by rw [hu, pI_slot (by omega), pI_slot (by omega), pI_slot (by omega), pI_slot (by omega), pI_slot (by omega)]
  have v18 : u.1 0 18 = 0 := by rw [hu, pI_slot (by decide), pI_slot (by decide), pI_slot (by decide), pI_slot (by decide), pI_self]
  have v19 : u.1 0 19 = -1 := by rw [hu, pI_slot (by decide), pI_slot (by decide), pI_slot (by decide), pI_self]
  have v20 : u.1 0 20 = w 2 := by
    rw [hu, pI_slot (by decide), pI_slot (by decide), pI_self]
    exact (congrFun ((pI_ne (show 1 ≠ 0 by decide)).trans (pI_ne (show 1 ≠ 0 by decide))) 2).trans (congrFun hw 2)
  have v21 : u.1 0 21 = w 3 := by
    rw [hu, pI_slot (by decide), pI_self]
    exact (congrFun ((pI_ne (show 1 ≠ 0 by decide)).trans ((pI_ne (show 1 ≠ 0 by decide)).trans (pI_ne (show 1 ≠ 0 by decide)))) 3).trans (congrFun hw 3)
  have ev : v = nI (sp_n w 0) := hv.trans ((congrFun ((pI_ne (show 1 ≠ 0 by decide)).trans ((pI_ne (show 1 ≠ 0 by decide)).trans ((pI_ne (show 1 ≠ 0 by decide)).trans (pI_ne (show 1 ≠ 0 by decide))))) 0).trans ((congrFun hw 0).trans b0))
  have v22 : u.1 0 22 = nI (sp_n w 0) - 1 := by rw [hu, pI_self, ev]
  clear hu
  have uw : u.1 1 = w := (u0 1 (by decide)).trans hw
  refine yp_bd _ (ym_dusts (τ := τ)) (fun a ha => ?_)
  obtain ⟨a1, a2, a3⟩ := ha
  have aw : a.1 1 = w := (a1 1 (by decide)).trans uw
  rw [uw] at a3
  unfold BX9_asItIs_66
  refine yp_bd _ (ym_gusts hW aw a3 ((congrFun (a1 0 (by decide)) 18).trans v18)) (fun b hb => ?_)
  obtain ⟨b1, b2, b3, b4, b5⟩ := hb
  unfold BX9_asItIs_131
  refine yp_bd _ ym_clear (fun c hc => ?_)
  obtain ⟨c1, c2, c3⟩ := hc
  have cw : c.1 1 = w := (c1 1 (by decide) (by decide)).trans ((b1 1 (by decide) (by decide)).trans aw)
  unfold BX9_asItIs_159
  refine yp_bd _ (ym_acts hW cw c3) (fun d hd => ?_)
  obtain ⟨d1, d2, d3⟩ := hd
  unfold BX9_asItIs_238
  have d0 : d.1 0 = b.1 0 := (d1 0 (by decide) (by decide)).trans (c1 0 (by decide) (by decide))
  have d7 : d.1 7 = b.1 7 := (d1 7 (by decide) (by decide)).trans (c1 7 (by decide) (by decide))
  have z0 : ∀ k, k ≠ 18 → d.1 0 k = u.1 0 k := fun k hk => by rw [d0, b3 k hk, a1 0 (by decide)]
  refine yp_some ⟨⟨fun k k0 k7 k8 k9 => ?_, d2.trans (c2.trans (b2.trans (a2.trans u2))), fun k hk => ?_⟩, ?_, (z0 19 (by decide)).trans v19, (z0 20 (by decide)).trans v20, (z0 21 (by decide)).trans v21, (z0 22 (by decide)).trans v22, fun m hm => ?_, d3⟩
  · rw [d1 k k8 k9, c1 k k8 k9, b1 k k0 k7, a1 k k7, u0 k k0]
  · rw [z0 k (by omega)]
    exact uk k hk
  · rw [d0]
    exact b5
  · rw [d7]
    exact b4 m hm
theorem ya_day {τ z : sn_S} {w : Nat → Int32} (hw : τ.1 1 = w) (hW : jW w) (h : ya_T τ z w) : ym_T z (hs_day w) := by
  obtain ⟨h0, h18, h19, h20, h21, h22, h7, h89⟩ := h
  have ew : z.1 1 = w := (h0.1 1 (by decide) (by decide) (by decide) (by decide)).trans hw
  have c5 : sp_n w 5 ≤ 6 := hW.1.2.2.2.2.2.1.2
  refine ⟨(congrFun ew 5).trans hW.1.2.2.2.2.2.1.1, (congrFun ew 7).trans hW.1.2.2.2.2.2.2.2.1.1, h19, h7, fun p hp => ?_, fun k hk => ?_⟩
  · have hp : p < sp_n w 5 := hp
    exact ⟨congrFun ew _, congrFun ew _, (h89 p (by omega)).1, (h89 p (by omega)).2⟩
  · have g := hW.2.2.2.2.2.1 k hk
    exact ⟨(congrFun ew _).trans g.1, (congrFun ew _).trans g.2.2.1⟩
/-- the reference behind asksHouse: as it is, and gone through -/
def yM (τ z : sn_S) (w : Nat → Int32) : Prop := z.1 1 = w ∧ ym_L z (hs_day w) (sp_n w 0) ∧ z.1 0 18 = hs_gust w (sp_n w 6) ∧ z.1 0 19 = -1 ∧ z.1 0 20 = w 2 ∧ z.1 0 21 = w 3 ∧ z.1 0 22 = nI (sp_n w 0) - 1 ∧ (∀ m, m < 30 → z.1 7 m = hs_dust w m (sp_n w 6)) ∧ (∀ p, p < 6 → z.1 8 p = hs_acts w 0 p (sp_n w 9) ∧ z.1 9 p = hs_acts w 1 p (sp_n w 9)) ∧ ym_T z (hs_day w) ∧ (∀ a, a ≠ 0 → (a < 7 ∨ 14 < a) → z.1 a = τ.1 a) ∧ z.2 = τ.2 ∧ ∀ k, k < 18 ∨ 22 < k → z.1 0 k = τ.1 0 k
theorem ym_goes {τ z : sn_S} {w : Nat → Int32} (hw : τ.1 1 = w) (hW : jW w) (h : ya_T τ z w) : yp (fX9_goAll z) (fun u => yM τ u w) := by
  refine yp_w (ym_goAll hW.1.1.2 h.2.2.2.2.2.1 (ya_day hw hW h) (hs_ok hW)) (fun u hu => ?_)
  obtain ⟨⟨f1, f2⟩, f3⟩ := hu
  obtain ⟨h0, h18, h19, h20, h21, h22, h7, h89⟩ := h
  have e0 : u.1 0 = z.1 0 := f1 0 (by omega)
  refine ⟨(f1 1 (by omega)).trans ((h0.1 1 (by decide) (by decide) (by decide) (by decide)).trans hw), f3, ?_, ?_, ?_, ?_, ?_, ?_, ?_, ym_Tc (fun a ha => f1 a (Or.inl ha)) (ya_day hw hW ⟨h0, h18, h19, h20, h21, h22, h7, h89⟩), fun a a0 ha => (f1 a (by omega)).trans (h0.1 a a0 (by omega) (by omega) (by omega)), f2.trans h0.2.1, fun k hk => ?_⟩
  · rw [e0]; exact h18
  · rw [e0]; exact h19
  · rw [e0]; exact h20
  · rw [e0]; exact h21
  · rw [e0]; exact h22
  · rw [f1 7 (by omega)]; exact h7
  · rw [f1 8 (by omega), f1 9 (by omega)]; exact h89
  · rw [e0]; exact h0.2.2 k hk
theorem ym_asks {τ : sn_S} {w : Nat → Int32} (hw : τ.1 1 = w) (hW : jW w) : yp (fX9_asksHouse τ) (fun r => r.1 = (if 0 < sp_n w 10 then 1 else 0) ∧ yM τ r.2 w) := by
  obtain ⟨b, c⟩ : yh_n w 10 900 := hW.1.2.2.2.2.2.2.2.2.2.2
  unfold fX9_asksHouse
  refine yp_bd _ (ym_asItIs hw hW) (fun z hz => yp_bd _ (ym_goes hw hW hz) (fun u hu => ?_))
  have e : sn_I u 1 (10 : Int32).toNatClampNeg = nI (sp_n w 10) := (congrFun hu.1 10).trans b
  refine yp_bd (fun v => v = (if 0 < sp_n w 10 then 1 else 0)) ?_ (fun v hv => yp_gd (fun _ => yp_some ⟨hv, hu⟩))
  unfold fX9_isHouse
  rw [e]
  refine yp_gd (fun _ => yp_ite (fun h => yp_gd (fun _ => yp_some ?_)) (fun h => yp_gd (fun _ => yp_some ?_)))
  · rw [if_neg]
    intro g
    exact absurd h (nI_nle g (by omega))
  · rw [if_pos]
    by_cases g : 0 < sp_n w 10
    · exact g
    · have : sp_n w 10 = 0 := by omega
      rw [this] at h
      exact absurd (show nI 0 ≤ 0 by decide) h
