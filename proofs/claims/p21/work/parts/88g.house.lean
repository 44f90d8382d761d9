/-! house, both sides -/
theorem zk_house {σ : sn_S} (h : zs_SB zs_tC σ) : ∃ r z, fX8_house σ = some (r, z) ∧ zs_SB zs_tC z ∧ z.1 17 1 = 0 ∧ (∀ q, q = 16 ∨ q = 25 ∨ q = 26 → z.1 q = σ.1 q) ∧ ∀ q, zs_lC q = true → z.2.1 q = σ.2.1 q := by
  have key : zs_ok (fX8_house σ) (fun r => zs_SB zs_tC r.2 ∧ r.2.1 17 1 = 0 ∧ (∀ q, q = 16 ∨ q = 25 ∨ q = 26 → r.2.1 q = σ.1 q) ∧ ∀ q, zs_lC q = true → r.2.2.1 q = σ.2.1 q) := by
    unfold fX8_house
    refine zs_bd_ (zk_read h) (fun t ht => ?_)
    have kq : ∀ q, q = 16 ∨ q = 25 ∨ q = 26 → t.1 q = σ.1 q := fun q hq => funext fun k => ht.1.2.1 q k (by rcases hq with e | e | e <;> subst e <;> rfl)
    have kl : ∀ q, zs_lC q = true → t.2.1 q = σ.2.1 q := ht.1.2.2
    refine zs_lt (Q := fun z => z = sn_pI t 17 1 (0 : Int32)) rfl (fun s hs => ?_)
    have sSB : zs_SB zs_tC s := by
      rw [hs]
      exact zs_sbw ht.1.1 (by rw [show zs_tC 17 1 = (0, 900) from rfl]; decide)
    have s17 : s.1 17 1 = 0 := by rw [hs, pI_self]
    have so : ∀ q, q ≠ 17 → s.1 q = t.1 q := fun q hq => by rw [hs, pI_ne hq]
    have sl : s.2 = t.2 := by rw [hs]; rfl
    refine zs_ite (fun c => ?_) (fun _ => zs_some ⟨sSB, s17, fun q hq => (so q (by omega)).trans (kq q hq), fun q hq => by rw [sl]; exact kl q hq⟩)
    have c2 : t.1 17 2 = 0 := by
      have c3 : s.1 17 2 = 0 := c
      rw [hs, pI_slot (by decide)] at c3
      exact c3
    have d := ht.2.2.2 c2
    have dH : zs_H 8 s := zs_H_c (by rw [so _ (by decide)]) (by rw [so _ (by decide)]) (by rw [so _ (by decide)]) (fun k => by rw [so _ (by decide)]) (fun k => by rw [so _ (by decide)]) (fun j => by rw [so _ (by decide)]) d.2
    obtain ⟨z, e, hm, c1, c3, c4, c5⟩ := zh_hcp s 1 8 (by decide)
    have zSB : zs_SB zs_tC z := zh_hSB (Or.inl rfl) sSB (fun k hk => by rw [so _ (by decide)]; exact d.1 k hk) (fun k => by
      have := sSB.1 14 k
      rw [show zs_tC 14 k = (0, 29) from rfl] at this
      exact this) dH hm c1 c3 c4 c5
    refine zs_bd_ (Q := fun u => u = z) ⟨z, e, rfl⟩ (fun u hu => ?_)
    subst hu
    refine zs_bd_ (zP_54 (zs_rf zSB)) (fun w hw => zs_gd (by decide) (zs_some ⟨hw.1, ?_, fun q hq => ?_, fun q hq => ?_⟩))
    · show w.1 17 1 = 0
      rw [hw.2.1 17 1 rfl, hm.2.1 17 (by omega)]
      exact s17
    · show w.1 q = σ.1 q
      have e1 : w.1 q = u.1 q := funext fun k => hw.2.1 q k (by rcases hq with e | e | e <;> subst e <;> rfl)
      rw [e1, hm.2.1 q (by omega), so q (by omega)]
      exact kq q hq
    · show w.2.1 q = σ.2.1 q
      rw [hw.2.2 q hq, hm.1, sl]
      exact kl q hq
  obtain ⟨⟨r, z⟩, e, h1⟩ := key
  exact ⟨r, z, e, h1⟩
theorem zj_2 : ∀ (σ τ : sn_S), zj_J σ τ → ∃ r σ1 τ1, fX8_house σ = some (r, σ1) ∧ fX9_house τ = some (r, τ1) ∧ zj_J σ1 τ1 := by
  intro σ τ h
  obtain ⟨n, hn, e0⟩ := zh_n (t := zs_tC) (q := 17) (k := 1) h.1 rfl
  obtain ⟨r, z, e1, b1, c1, c2, c3⟩ := zk_house h.1
  obtain ⟨r2, w, e2, b2, d1, d2, d3, d4, d5, _⟩ := zm_house h.2.1
  obtain ⟨r3, z3, w3, f1, f2, f3, f4, _⟩ := rr_house h.1 h.2.1 e0 (by rw [← h.2.2.1.1]; exact e0) hn (fun k hk => h.2.2.1.2.2.2 k (by rw [e0, nI_toInt (by omega)]; omega))
  rw [e1] at f1
  cases f1
  rw [e2] at f2
  cases f2
  refine ⟨r, z, w, e1, e2, b1, b2, ⟨by rw [c1, d1], f3, f4, fun k hk => ?_⟩, fun k hk => by rw [c2 16 (Or.inl rfl), d2]; exact h.2.2.2.1 k hk, ?_⟩
  · rw [c1, show (0 : Int32).toInt = 0 by decide] at hk
    exact absurd hk (by omega)
  · rw [c2 25 (Or.inr (Or.inl rfl)), c2 26 (Or.inr (Or.inr rfl)), c3 21 rfl, c3 22 rfl, c3 23 rfl, c3 24 rfl, d3, d4, d5]
    exact h.2.2.2.2
theorem zj_3 : ∀ (σ τ : sn_S) (a : Int32), zj_J σ τ → ∃ r, fX8_fault σ a = some r ∧ fX9_fault τ a = some r := by
  intro σ τ a h
  unfold fX8_fault fX9_fault
  by_cases h0 : a = 0
  · rw [if_pos h0, if_pos h0]
    exact ⟨σ.1 17 2, rfl, by show some (τ.1 0 12) = _; rw [h.2.2.1.2.1]⟩
  · rw [if_neg h0, if_neg h0]
    by_cases h1 : a = 1
    · rw [if_pos h1, if_pos h1]
      exact ⟨σ.1 17 3, rfl, by show some (τ.1 0 13) = _; rw [h.2.2.1.2.2.1]⟩
    · rw [if_neg h1, if_neg h1]
      exact ⟨-1, rfl, rfl⟩
/-! the beginning -/
theorem zi_cnt (k : Nat) : (zs_cnt k).1 ≤ 0 ∧ 0 ≤ (zs_cnt k).2 := by
  unfold zs_cnt
  repeat' first | exact zs_bif (P := fun p : Int × Int => p.1 ≤ 0 ∧ 0 ≤ p.2) (by decide) (by decide) | refine zs_bif (P := fun p : Int × Int => p.1 ≤ 0 ∧ 0 ≤ p.2) (by decide) ?_
theorem zi_tC (q k : Nat) : (zs_tC q k).1 ≤ 0 ∧ 0 ≤ (zs_tC q k).2 := by
  unfold zs_tC
  repeat' first | exact zi_cnt k | decide | refine zs_bif (P := fun p : Int × Int => p.1 ≤ 0 ∧ 0 ≤ p.2) ?_ ?_
theorem zi_row (k : Nat) : (zs_row k).1 ≤ 0 ∧ 0 ≤ (zs_row k).2 := zm_zero k
theorem zi_tM (q k : Nat) : (zs_tM q k).1 ≤ 0 ∧ 0 ≤ (zs_tM q k).2 := by
  unfold zs_tM
  repeat' first | exact zi_row _ | decide | refine zs_bif (P := fun p : Int × Int => p.1 ≤ 0 ∧ 0 ≤ p.2) ?_ ?_
theorem zi_0 : (0 : Int32).toInt = 0 := by decide
theorem zi_zC : zs_C sn_z sn_z := ⟨⟨fun q k => by
  show (zs_tC q k).1 ≤ (0 : Int32).toInt ∧ (0 : Int32).toInt ≤ (zs_tC q k).2
  rw [zi_0]
  exact zi_tC q k, fun _ => by
  have n : ∀ (cq ck rq s o m : Nat) (hi : Int), zs_Ru cq ck rq s o m hi sn_z := fun cq ck rq s o m hi j _ hj => by
    have hj : (j : Int) < (0 : Int32).toInt := hj
    rw [zi_0] at hj
    exact absurd hj (by omega)
  exact ⟨⟨⟨n _ _ _ _ _ _ _, n _ _ _ _ _ _ _, n _ _ _ _ _ _ _, n _ _ _ _ _ _ _⟩, ⟨n _ _ _ _ _ _ _, n _ _ _ _ _ _ _, n _ _ _ _ _ _ _, n _ _ _ _ _ _ _⟩, ⟨n _ _ _ _ _ _ _, n _ _ _ _ _ _ _, n _ _ _ _ _ _ _, n _ _ _ _ _ _ _⟩, ⟨n _ _ _ _ _ _ _, n _ _ _ _ _ _ _, n _ _ _ _ _ _ _, n _ _ _ _ _ _ _⟩⟩, ⟨n _ _ _ _ _ _ _, n _ _ _ _ _ _ _⟩, ⟨n _ _ _ _ _ _ _, n _ _ _ _ _ _ _⟩, ⟨n _ _ _ _ _ _ _, n _ _ _ _ _ _ _⟩⟩⟩, fun _ _ _ => rfl, fun _ _ => rfl⟩
theorem zi_zM : zs_M sn_z sn_z := ⟨⟨fun q k => by
  show (zs_tM q k).1 ≤ (0 : Int32).toInt ∧ (0 : Int32).toInt ≤ (zs_tM q k).2
  rw [zi_0]
  exact zi_tM q k, fun h => by cases h⟩, fun _ _ _ => rfl, fun _ _ => rfl⟩
theorem zi_pR {t : zs_T} {σ : sn_S} {q k : Nat} {x : Option Nat} (h : zs_SB t σ) : zs_SB t (sn_pR σ q k x) := (zs_wrR (zs_rf (key := fun _ _ => false) (kl := fun _ => false) h)).1
theorem zi_fl {σ : sn_S} {q : Nat} (h : zs_SB zs_tC σ) (hq : q = 26) : zs_SB zs_tC (sn_fl σ q) := by
  subst hq
  unfold sn_fl
  exact zs_sbw (zs_sbw (zs_sbw (zs_sbw h (by decide)) (by decide)) (by decide)) (by decide)
theorem zi_C : zs_SB zs_tC sn_iniX8 := by
  unfold sn_iniX8 sn_iniX2 sn_iniX5 sn_iniX6 sn_iniX7 sn_iniX4 sn_iniX3 sn_iniX1 sn_iniX0 sn_rw4
  repeat' first | with_reducible exact zi_zC.1 | with_reducible refine zi_pR ?_ | with_reducible refine zi_fl ?_ ?_ | with_reducible refine zs_sbw ?_ ?_ ?_ | decide | rfl
theorem zi_M : zs_SB zs_tM sn_iniX9 := by
  unfold sn_iniX9
  repeat' first | with_reducible exact zi_zM.1 | with_reducible refine zi_pR ?_ | with_reducible refine zs_sbw ?_ ?_ ?_ | decide | rfl
theorem zj_ini : zj_J sn_iniX8 sn_iniX9 := by
  refine ⟨zi_C, zi_M, ⟨rfl, rfl, rfl, fun k hk => ?_⟩, fun k hk => ?_, fun s hs => ?_, fun i _ => ⟨rfl, rfl, rfl, rfl⟩⟩
  · have hk : (k : Int) < (0 : Int32).toInt := hk
    rw [zi_0] at hk
    exact absurd hk (by omega)
  · have : k = 0 ∨ k = 1 ∨ k = 2 := by omega
    rcases this with e | e | e <;> subst e <;> rfl
  · have : s = 0 ∨ s = 1 ∨ s = 2 ∨ s = 3 := by omega
    rcases this with e | e | e | e <;> subst e <;> exact ⟨rfl, rfl, by decide, by decide⟩
