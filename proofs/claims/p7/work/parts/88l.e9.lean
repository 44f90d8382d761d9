/-! the price at which nobody takes a policy -/
theorem yz_woI (f : Nat → Int32) : ∀ n, n < 100 → (∀ q, q < n → (f q).toInt ≤ (yz_wo f n).2.toInt) ∧ 0 ≤ (yz_wo f n).2.toInt ∧ (((yz_wo f n).1 = -1 ∧ (yz_wo f n).2 = 0) ∨ ∃ j, j < n ∧ (yz_wo f n).1 = nI j ∧ (yz_wo f n).2 = f j ∧ 0 < (f j).toInt ∧ ∀ q, q < j → (f q).toInt < (f j).toInt) := by
  intro n
  induction n with
  | zero => intro _; exact ⟨fun q hq => absurd hq (by omega), by show 0 ≤ (0 : Int32).toInt; decide, Or.inl ⟨rfl, rfl⟩⟩
  | succ n ih =>
    intro hn
    obtain ⟨h1, h2, h3⟩ := ih (by omega)
    have e : yz_wo f (n + 1) = if f n ≤ (yz_wo f n).2 then yz_wo f n else (nI n, f n) := rfl
    rw [e]
    by_cases c : f n ≤ (yz_wo f n).2
    · rw [if_pos c]
      have c := Int32.le_iff_toInt_le.mp c
      refine ⟨fun q hq => ?_, h2, ?_⟩
      · by_cases g : q = n
        · subst g; exact c
        · exact h1 q (by omega)
      · rcases h3 with h | ⟨j, hj, h⟩
        · exact Or.inl h
        · exact Or.inr ⟨j, by omega, h⟩
    · rw [if_neg c]
      have c : ¬ (f n).toInt ≤ (yz_wo f n).2.toInt := fun g => c (Int32.le_iff_toInt_le.mpr g)
      refine ⟨fun q hq => ?_, ?_, Or.inr ⟨n, by omega, rfl, rfl, by omega, fun q hq => ?_⟩⟩
      · show (f q).toInt ≤ (f n).toInt
        by_cases g : q = n
        · subst g; exact Int.le_refl _
        · have := h1 q (by omega); omega
      · show 0 ≤ (f n).toInt
        omega
      · have := h1 q hq; omega
theorem yz_woK {f : Nat → Int32} {n k : Nat} (hn : n < 100) (hk : k < n) : (yz_wo f n).1 = nI k ↔ 0 < (f k).toInt ∧ (∀ q, q < k → (f q).toInt < (f k).toInt) ∧ ∀ q, k < q → q < n → (f q).toInt ≤ (f k).toInt := by
  obtain ⟨h1, h2, h3⟩ := yz_woI f n hn
  constructor
  · intro e
    rcases h3 with ⟨h, -⟩ | ⟨j, hj, g1, g2, g3, g4⟩
    · exact absurd (e.symm.trans h) (yl_ne (by omega))
    · have : j = k := (nI_eq (by omega) (by omega)).mp (g1.symm.trans e)
      subst this
      exact ⟨g3, g4, fun q _ hq => by have := h1 q hq; rw [g2] at this; exact this⟩
  · rintro ⟨a1, a2, a3⟩
    rcases h3 with ⟨-, h⟩ | ⟨j, hj, g1, g2, g3, g4⟩
    · have := h1 k hk
      rw [h, show (0 : Int32).toInt = 0 by decide] at this
      omega
    · rw [g1]
      have b1 := h1 k hk
      rw [g2] at b1
      rcases Nat.lt_trichotomy j k with c | c | c
      · have := a2 j c; omega
      · rw [c]
      · have := g4 k c
        have := a3 j c hj
        omega
def yl_tb (G : Nat → Int) (k : Nat) : Nat → Int
  | 0 => 0
  | n + 1 => if n < k then (if yl_tb G k n < G n then G n else yl_tb G k n) else if n = k then yl_tb G k n else (if yl_tb G k n < G n - 1 then G n - 1 else yl_tb G k n)
theorem yl_tb1 (G : Nat → Int) (k : Nat) : ∀ n, (0 ≤ yl_tb G k n ∧ ∀ q, q < n → (q < k → G q ≤ yl_tb G k n) ∧ (k < q → G q - 1 ≤ yl_tb G k n)) ∧ (yl_tb G k n = 0 ∨ ∃ q, q < n ∧ ((q < k ∧ yl_tb G k n = G q) ∨ (k < q ∧ yl_tb G k n = G q - 1))) := by
  intro n
  induction n with
  | zero => exact ⟨⟨Int.le_refl _, fun q hq => absurd hq (by omega)⟩, Or.inl rfl⟩
  | succ n ih =>
    obtain ⟨⟨h1, h2⟩, h3⟩ := ih
    have e : yl_tb G k (n + 1) = if n < k then (if yl_tb G k n < G n then G n else yl_tb G k n) else if n = k then yl_tb G k n else (if yl_tb G k n < G n - 1 then G n - 1 else yl_tb G k n) := rfl
    have h3' : yl_tb G k n = 0 ∨ ∃ q, q < n + 1 ∧ ((q < k ∧ yl_tb G k n = G q) ∨ (k < q ∧ yl_tb G k n = G q - 1)) := by
      rcases h3 with h | ⟨q, hq, h⟩
      · exact Or.inl h
      · exact Or.inr ⟨q, by omega, h⟩
    rcases Nat.lt_trichotomy n k with c | c | c
    · rw [e, if_pos c]
      by_cases d : yl_tb G k n < G n
      · rw [if_pos d]
        refine ⟨⟨by omega, fun q hq => ?_⟩, Or.inr ⟨n, by omega, Or.inl ⟨c, rfl⟩⟩⟩
        by_cases g : q = n
        · subst g; exact ⟨fun _ => Int.le_refl _, fun h => absurd h (by omega)⟩
        · have := h2 q (by omega); exact ⟨fun h => by have := this.1 h; omega, fun h => by have := this.2 h; omega⟩
      · rw [if_neg d]
        refine ⟨⟨h1, fun q hq => ?_⟩, h3'⟩
        by_cases g : q = n
        · subst g; exact ⟨fun _ => by omega, fun h => absurd h (by omega)⟩
        · exact h2 q (by omega)
    · rw [e, if_neg (by omega), if_pos c]
      refine ⟨⟨h1, fun q hq => ?_⟩, h3'⟩
      by_cases g : q = n
      · subst g; exact ⟨fun h => absurd h (by omega), fun h => absurd h (by omega)⟩
      · exact h2 q (by omega)
    · rw [e, if_neg (by omega), if_neg (by omega)]
      by_cases d : yl_tb G k n < G n - 1
      · rw [if_pos d]
        refine ⟨⟨by omega, fun q hq => ?_⟩, Or.inr ⟨n, by omega, Or.inr ⟨c, rfl⟩⟩⟩
        by_cases g : q = n
        · subst g; exact ⟨fun h => absurd h (by omega), fun _ => Int.le_refl _⟩
        · have := h2 q (by omega); exact ⟨fun h => by have := this.1 h; omega, fun h => by have := this.2 h; omega⟩
      · rw [if_neg d]
        refine ⟨⟨h1, fun q hq => ?_⟩, h3'⟩
        by_cases g : q = n
        · subst g; exact ⟨fun h => absurd h (by omega), fun _ => by omega⟩
        · exact h2 q (by omega)
theorem yl_take {f : Nat → Int32} {G : Nat → Int} {k Q x : Nat} {C : Int} (hQ : Q < 100) (hk : k < Q) (fk : (f k).toInt = C - x) (fq : ∀ q, q < Q → q ≠ k → (f q).toInt = G q) : (yz_wo f Q).1 = nI k ↔ (x : Int) < C - yl_tb G k Q := by
  rw [yz_woK hQ hk, fk]
  obtain ⟨⟨h1, h2⟩, h3⟩ := yl_tb1 G k Q
  constructor
  · rintro ⟨a1, a2, a3⟩
    rcases h3 with h | ⟨q, hq, ⟨c, h⟩ | ⟨c, h⟩⟩
    · omega
    · have := a2 q c
      rw [fq q hq (by omega)] at this
      omega
    · have := a3 q c hq
      rw [fq q hq (by omega)] at this
      omega
  · intro h
    refine ⟨by omega, fun q hq => ?_, fun q hq hq2 => ?_⟩
    · rw [fq q (by omega) (by omega)]
      have := (h2 q (by omega)).1 hq
      omega
    · rw [fq q hq2 (by omega)]
      have := (h2 q hq2).2 hq
      omega
/-- the greatest over persons, 0 at least -/
def yl_pm (D : Nat → Int) : Nat → Int
  | 0 => 0
  | p + 1 => if yl_pm D p < (if 0 < D p then D p else 0) then (if 0 < D p then D p else 0) else yl_pm D p
theorem yl_pm1 (D : Nat → Int) (B : Int) (hB : 0 ≤ B) : ∀ n, (∀ p, p < n → D p ≤ B) → 0 ≤ yl_pm D n ∧ yl_pm D n ≤ B ∧ (∀ p, p < n → D p ≤ yl_pm D n) ∧ (yl_pm D n = 0 ∨ ∃ p, p < n ∧ yl_pm D n = D p) := by
  intro n
  induction n with
  | zero => intro _; exact ⟨Int.le_refl _, hB, fun p hp => absurd hp (by omega), Or.inl rfl⟩
  | succ n ih =>
    intro h
    obtain ⟨h1, h2, h3, h4⟩ := ih (fun p hp => h p (by omega))
    have hn := h n (by omega)
    have e : yl_pm D (n + 1) = if yl_pm D n < (if 0 < D n then D n else 0) then (if 0 < D n then D n else 0) else yl_pm D n := rfl
    rw [e]
    have h4' : yl_pm D n = 0 ∨ ∃ p, p < n + 1 ∧ yl_pm D n = D p := by
      rcases h4 with g | ⟨p, hp, g⟩
      · exact Or.inl g
      · exact Or.inr ⟨p, by omega, g⟩
    by_cases c : 0 < D n
    · rw [if_pos c]
      by_cases d : yl_pm D n < D n
      · rw [if_pos d]
        refine ⟨by omega, hn, fun p hp => ?_, Or.inr ⟨n, by omega, rfl⟩⟩
        by_cases g : p = n
        · subst g; exact Int.le_refl _
        · have := h3 p (by omega); omega
      · rw [if_neg d]
        refine ⟨h1, h2, fun p hp => ?_, h4'⟩
        by_cases g : p = n
        · subst g; omega
        · exact h3 p (by omega)
    · rw [if_neg c, if_neg (by omega)]
      refine ⟨h1, h2, fun p hp => ?_, h4'⟩
      by_cases g : p = n
      · subst g; omega
      · exact h3 p (by omega)
theorem yi_max {a b : Int32} : (if a < b then b else a).toInt = if a.toInt < b.toInt then b.toInt else a.toInt := by
  by_cases c : a < b
  · rw [if_pos c, if_pos (Int32.lt_iff_toInt_lt.mp c)]
  · rw [if_neg c, if_neg (fun h => c (Int32.lt_iff_toInt_lt.mpr h))]
theorem yi_subB {a b : Int32} {x y : Int} (ha : a.toInt = x) (hb : b.toInt = y) (hx : -1000000 ≤ x ∧ x ≤ 1000000) (hy : -1000000 ≤ y ∧ y ≤ 1000000) : (a - b).toInt = x - y := by
  rw [Int32.toInt_sub, ha, hb, Int.bmod_eq_of_le (by omega) (by omega)]
section
variable {σ τ u z : sn_S} {w : Nat → Int32} {q : Nat} {l : Int32}
def yl_G (w : Nat → Int32) (l : Int32) (p q : Nat) : Int := (yl_v w l q (yS w p) (yHh w p) : Int) - yl_y w q
def yl_D (w : Nat → Int32) (l : Int32) (k p : Nat) : Int := (yl_v w l k (yS w p) (yHh w p) : Int) - yl_tb (yl_G w l p) k (sp_n w 8)
theorem yl_yb (hW : jW w) (hq : q < sp_n w 8) : yl_y w q ≤ 99 := (yl_p hW hq).2.2.2.2.2.2.2
theorem yl_gI (hW : jW w) {p : Nat} (hq : q < sp_n w 8) : (yl_g w l p q).toInt = yl_G w l p q := by
  have h1 : yl_v w l q (yS w p) (yHh w p) ≤ 297 := yl_vle hW hq
  have h2 := yl_yb hW hq
  exact yi_subI (by omega) (by omega)
theorem yl_tbB (hW : jW w) {p k : Nat} : 0 ≤ yl_tb (yl_G w l p) k (sp_n w 8) ∧ ∀ n, n ≤ sp_n w 8 → 0 ≤ yl_tb (yl_G w l p) k n ∧ yl_tb (yl_G w l p) k n ≤ 297 := by
  refine ⟨(yl_tb1 _ _ _).1.1, fun n hn => ⟨(yl_tb1 _ _ _).1.1, ?_⟩⟩
  rcases (yl_tb1 (yl_G w l p) k n).2 with h | ⟨q, hq, ⟨-, h⟩ | ⟨-, h⟩⟩
  · omega
  · have h1 : yl_v w l q (yS w p) (yHh w p) ≤ 297 := yl_vle hW (by omega)
    rw [h]; unfold yl_G; omega
  · have h1 : yl_v w l q (yS w p) (yHh w p) ≤ 297 := yl_vle hW (by omega)
    rw [h]; unfold yl_G; omega
theorem yc_priceFor (hW : jW w) (hH : yH 1 σ w) (hD : yD σ w) {p k : Nat} (hk : k < sp_n w 8) (hp : p < sp_n w 5) : yp (fX8_priceFor σ (nI p) (nI k)) (fun v => v.toInt = if 0 < yl_D w (w 2) k p then yl_D w (w 2) k p else 0) := by
  have c8 := (yl_8 hW).2
  obtain ⟨b0, b1⟩ := yl_tbB (l := w 2) (p := p) (k := k) hW
  unfold fX8_priceFor
  refine yp_bd (fun v => v.toInt = yl_tb (yl_G w (w 2) p) k (sp_n w 8)) (yp_for (sp_n w 8) (fun n s => s.2 = nI n ∧ s.1.toInt = yl_tb (yl_G w (w 2) p) k n) (fun n s hn hs => ?_) (fun s hs => ?_) ⟨nI_0.symm, by show (0 : Int32).toInt = 0; decide⟩) (fun v hv => ?_)
  · obtain ⟨v, x⟩ := s
    obtain ⟨ex, ev⟩ := hs
    have ex : x = nI n := ex
    have ev : v.toInt = _ := ev
    subst ex
    have e : yl_tb (yl_G w (w 2) p) k (n + 1) = if n < k then (if yl_tb (yl_G w (w 2) p) k n < yl_G w (w 2) p n then yl_G w (w 2) p n else yl_tb (yl_G w (w 2) p) k n) else if n = k then yl_tb (yl_G w (w 2) p) k n else (if yl_tb (yl_G w (w 2) p) k n < yl_G w (w 2) p n - 1 then yl_G w (w 2) p n - 1 else yl_tb (yl_G w (w 2) p) k n) := rfl
    have e2 : ¬ n < k → ¬ n = k → yl_tb (yl_G w (w 2) p) k (n + 1) = (if yl_tb (yl_G w (w 2) p) k n < yl_G w (w 2) p n - 1 then yl_G w (w 2) p n - 1 else yl_tb (yl_G w (w 2) p) k n) := fun h1 h2 => by rw [e, if_neg h1, if_neg h2]
    have e1 : n < k → yl_tb (yl_G w (w 2) p) k (n + 1) = (if yl_tb (yl_G w (w 2) p) k n < yl_G w (w 2) p n then yl_G w (w 2) p n else yl_tb (yl_G w (w 2) p) k n) := fun h1 => by rw [e, if_pos h1]
    have e0 : n = k → yl_tb (yl_G w (w 2) p) k (n + 1) = yl_tb (yl_G w (w 2) p) k n := fun h1 => by rw [e, if_neg (by omega), if_pos h1]
    have hg : (yl_g w (w 2) p n).toInt = yl_G w (w 2) p n := yl_gI hW hn
    have g1 : yl_v w (w 2) n (yS w p) (yHh w p) ≤ 297 := yl_vle hW hn
    have g2 := yl_yb hW hn
    show yp (BX8_priceFor_5 σ (nI p) (nI k) v (nI n)) _
    unfold BX8_priceFor_5 BX8_priceFor_60
    rw [yc_8 hW hH, if_neg (nI_ge hn (by omega))]
    refine yp_gd (fun _ => yp_bd _ (yc_gain hW hH hD hn hp) (fun t ht => ?_))
    rw [ht]
    refine yp_ite (fun c => yp_ite (fun c2 => yp_lt (yp_some ⟨nI_1 n, ?_⟩)) (fun c2 => yp_lt (yp_lt (yp_some ⟨nI_1 n, ?_⟩)))) (fun c => yp_lt (yp_lt (yp_some ⟨nI_1 n, ?_⟩)))
    · have c := (nI_leI (by omega) (by omega)).mp c
      have c2 := (nI_leI (by omega) (by omega)).mp c2
      rw [e0 (by omega)]
      exact ev
    · have c := (nI_leI (by omega) (by omega)).mp c
      have c2 : ¬ n ≤ k := fun h => c2 ((nI_leI (by omega) (by omega)).mpr h)
      rw [e2 (by omega) (by omega)]
      have h1 : (yl_g w (w 2) p n - 1).toInt = yl_G w (w 2) p n - 1 := yi_subB hg (by decide) (by unfold yl_G; omega) (by omega)
      show (if v < yl_g w (w 2) p n - 1 then yl_g w (w 2) p n - 1 else v).toInt = _
      rw [yi_max, h1, ev]
    · have c : ¬ k ≤ n := fun h => c ((nI_leI (by omega) (by omega)).mpr h)
      rw [e1 (by omega)]
      show (if v < yl_g w (w 2) p n then yl_g w (w 2) p n else v).toInt = _
      rw [yi_max, hg, ev]
  · obtain ⟨v, x⟩ := s
    obtain ⟨ex, ev⟩ := hs
    have ex : x = nI (sp_n w 8) := ex
    subst ex
    show yp (BX8_priceFor_5 σ (nI p) (nI k) v (nI (sp_n w 8))) _
    unfold BX8_priceFor_5
    rw [yc_8 hW hH, if_pos (nI_le (Nat.le_refl _) (by omega))]
    exact yp_gd (fun _ => yp_some ev)
  · have g1 : yl_v w (w 2) k (yS w p) (yHh w p) ≤ 297 := yl_vle hW hk
    have b2 := (b1 (sp_n w 8) (Nat.le_refl _)).2
    unfold BX8_priceFor_66
    refine yp_bd _ (yc_asIf hW hH hD hk hp) (fun t ht => yp_lt (yp_some ?_))
    have h1 : (t - v).toInt = yl_D w (w 2) k p := yi_subB (by rw [ht]; exact nI_toInt (by omega)) hv (by omega) (by omega)
    rw [yi_max, h1, show (0 : Int32).toInt = 0 by decide]
theorem yc_price (hW : jW w) (hH : yH 1 σ w) (hD : yD σ w) {k : Nat} (hk : k < sp_n w 8) : yp ((sn_it (LX8_price_15 σ (nI k)) 5000 ((0 : Int32), (0 : Int32))).bind fun t_4 => BX8_price_43 σ t_4) (fun v => v.toInt = yl_pm (yl_D w (w 2) k) (sp_n w 5)) := by
  have c5 := (yl_5 hW).2
  have e1 : σ.1 27 1 = nI (sp_n w 5) := hD.2.1.1
  refine yp_bd (fun v => v.toInt = yl_pm (yl_D w (w 2) k) (sp_n w 5)) (yp_for (sp_n w 5) (fun n s => s.2 = nI n ∧ s.1.toInt = yl_pm (yl_D w (w 2) k) n) (fun n s hn hs => ?_) (fun s hs => ?_) ⟨nI_0.symm, by show (0 : Int32).toInt = 0; decide⟩) (fun v hv => ?_)
  · obtain ⟨v, x⟩ := s
    obtain ⟨ex, ev⟩ := hs
    have ex : x = nI n := ex
    have ev : v.toInt = _ := ev
    subst ex
    show yp (BX8_price_15 σ (nI k) v (nI n)) _
    unfold BX8_price_15
    rw [show sn_I σ 27 1 = _ from e1, if_neg (nI_ge hn (by omega))]
    refine yp_bd _ (yc_priceFor hW hH hD hk hn) (fun t ht => yp_lt (yp_lt (yp_some ⟨nI_1 n, ?_⟩)))
    show (if v < t then t else v).toInt = _
    rw [yi_max, ht, ev]
    rfl
  · obtain ⟨v, x⟩ := s
    obtain ⟨ex, ev⟩ := hs
    have ex : x = nI (sp_n w 5) := ex
    subst ex
    show yp (BX8_price_15 σ (nI k) v (nI (sp_n w 5))) _
    unfold BX8_price_15
    rw [show sn_I σ 27 1 = _ from e1, if_pos (nI_le (Nat.le_refl _) (by omega))]
    exact yp_some ev
  · unfold BX8_price_43
    exact yp_some hv
theorem ym_taken {k x : Nat} (hW : jW w) (hk : k < sp_n w 8) (hx : x ≤ 1000) (hX : yX u w l (yS w) (yHh w)) : yp (fX9_isTaken u (nI k) (nI x)) (fun r => yl_f2 u r.2 ∧ ((r.1 = 0 ∧ ∀ p, p < sp_n w 5 → ¬ (x : Int) < yl_D w l k p) ∨ (r.1 ≠ 0 ∧ ∃ p, p < sp_n w 5 ∧ (x : Int) < yl_D w l k p))) := by
  have c5 := (yl_5 hW).2
  have c8 := (yl_8 hW).2
  unfold fX9_isTaken
  refine yp_bd (fun t => (∃ z, t = Sum.inl z ∧ yl_f2 u z ∧ ∀ p, p < sp_n w 5 → ¬ (x : Int) < yl_D w l k p) ∨ ∃ z, t = Sum.inr (1, z) ∧ yl_f2 u z ∧ ∃ p, p < sp_n w 5 ∧ (x : Int) < yl_D w l k p) (yp_it (fun s : sn_S × Int32 => ∃ n, n ≤ sp_n w 5 ∧ s.2 = nI n ∧ yl_f2 u s.1 ∧ ∀ p, p < n → ¬ (x : Int) < yl_D w l k p) (fun s hs => ?_) _ _ ⟨0, Nat.zero_le _, nI_0.symm, yl_fw yl_fr0, fun p hp => absurd hp (by omega)⟩) (fun t ht => ?_)
  · obtain ⟨z, y⟩ := s
    obtain ⟨n, hn, ey, hz, hno⟩ := hs
    have ey : y = nI n := ey
    have hz : yl_f2 u z := hz
    subst ey
    have hZ := yX_f2 hz hX
    show yp (BX9_isTaken_2 z (nI k) (nI x) (nI n)) _
    unfold BX9_isTaken_2
    rw [show sn_I z 1 (5 : Int32).toNatClampNeg = nI (sp_n w 5) from (congrFun hZ.1 5).trans (yl_5 hW).1]
    refine yp_gd (fun _ => yp_ite (fun c => yp_some (Or.inl ⟨z, rfl, hz, ?_⟩)) (fun c => ?_))
    · have c := (nI_leI (by omega) (by omega)).mp c
      exact fun p hp => hno p (by omega)
    · have c : n < sp_n w 5 := by
        rcases Nat.lt_or_ge n (sp_n w 5) with g | g
        · exact g
        · exact absurd ((nI_leI (by omega) (by omega)).mpr g) c
      obtain ⟨f, hf⟩ : ∃ f : Nat → Int32, ∀ q, f q = nI (yl_v w l q (yS w n) (yHh w n)) - if nI q = nI k then nI x else nI (yl_y w q) := ⟨_, fun _ => rfl⟩
      have g1 : ∀ q, q < sp_n w 8 → yl_v w l q (yS w n) (yHh w n) ≤ 297 := fun q hq => yl_vle hW hq
      have tk : (yz_wo f (sp_n w 8)).1 = nI k ↔ (x : Int) < yl_D w l k n := yl_take (G := yl_G w l n) (C := (yl_v w l k (yS w n) (yHh w n) : Int)) (by omega) hk (by
        rw [hf k, if_pos rfl]
        have := g1 k hk
        exact yi_subI (by omega) (by omega)) (fun q hq hne => by
        rw [hf q, if_neg (fun h => hne ((nI_eq (by omega) (by omega)).mp h))]
        exact yl_gI hW hq)
      refine yp_bd _ (ym_takesBy hW c hZ (fun q _ => hf q)) (fun r hr => ?_)
      rw [hr.2.1]
      refine yp_ite (fun d => yp_gd (fun _ => yp_some (Or.inr ⟨r.2, rfl, yl_f2t hz hr.1, n, c, tk.mp d⟩))) (fun d => yp_lt (yp_some ⟨n + 1, c, nI_1 n, yl_f2t hz hr.1, fun p hp => ?_⟩))
      by_cases e : p = n
      · subst e; exact fun h => d (tk.mpr h)
      · exact hno p (by omega)
  · rcases ht with ⟨z, e, hz, h⟩ | ⟨z, e, hz, h⟩
    · subst e
      show yp (BX9_isTaken_31 z) _
      unfold BX9_isTaken_31
      exact yp_gd (fun _ => yp_some ⟨hz, Or.inl ⟨rfl, h⟩⟩)
    · subst e
      exact yp_some ⟨hz, Or.inr ⟨by show (1 : Int32) ≠ 0; decide, h⟩⟩
theorem yz_42 {a : Int32} (hK : zK σ τ) : yr (fX8_price σ a) (fX9_price τ a) (fun r s => r = s.1) := by
  have hW := hK.2.1.1
  have c8 := (yl_8 hW).2
  unfold fX8_price fX9_price
  refine yz_pol hK (fun k v u hk ea hM => ?_)
  subst ea
  obtain ⟨m1, m2, m3, m4⟩ := yl_pm1 (yl_D (τ.1 1) (τ.1 1 2) k) 297 (by omega) (sp_n (τ.1 1) 5) (fun p hp => by
    have h1 : yl_v (τ.1 1) (τ.1 1 2) k (yS (τ.1 1) p) (yHh (τ.1 1) p) ≤ 297 := yl_vle hW hk
    have h2 := (yl_tbB (l := τ.1 1 2) (p := p) (k := k) hW).1
    unfold yl_D
    omega)
  obtain ⟨N, hN⟩ : ∃ N : Nat, (N : Int) = yl_pm (yl_D (τ.1 1) (τ.1 1 2) k) (sp_n (τ.1 1) 5) := ⟨_, Int.toNat_of_nonneg m1⟩
  rw [← hN] at m2 m3 m4
  refine yr_eq (nI N) ?_ ?_
  · refine yp_w (yc_price hW hK.2.1.2 hK.2.2.2 hk) (fun r hr => ?_)
    apply Int32.toInt_inj.mp
    rw [hr, ← hN, nI_toInt (by omega)]
  · refine yp_bd (fun r => r.2 = nI N) (yp_it (fun s : sn_S × Int32 => ∃ x : Nat, x ≤ N ∧ s.2 = nI x ∧ yl_f2 u s.1) (fun s hs => ?_) _ _ ⟨0, Nat.zero_le _, nI_0.symm, yl_fw yl_fr0⟩) (fun r hr => ?_)
    · obtain ⟨z, y⟩ := s
      obtain ⟨x, hx, ey, hz⟩ := hs
      have ey : y = nI x := ey
      have hz : yl_f2 u z := hz
      subst ey
      show yp (BX9_price_13 z (nI k) (nI x)) _
      unfold BX9_price_13
      refine yp_bd _ (ym_taken hW hk (by omega) (yX_f2 hz (ym_X hW hM))) (fun r hr => ?_)
      rcases hr.2 with ⟨e, h⟩ | ⟨e, p, hp, h⟩
      · rw [if_pos e]
        refine yp_some ?_
        show nI x = nI N
        have : x = N := by
          rcases m4 with g | ⟨p, hp, g⟩
          · omega
          · have := h p hp; omega
        rw [this]
      · rw [if_neg e]
        have := m3 p hp
        exact yp_lt (yp_some ⟨x + 1, by omega, nI_1 x, yl_f2t hz hr.1⟩)
    · unfold BX9_price_28
      exact yp_some hr
end
