/-! the reference lives a day -/
def ym_T (τ : sn_S) (i : dy_I) : Prop := τ.1 1 5 = nI (dy_P i) ∧ τ.1 1 7 = nI (dy_nN i) ∧ τ.1 0 19 = dy_no i ∧ (∀ m, m < 30 → τ.1 7 m = dy_dust i m) ∧ (∀ p, p < dy_P i → τ.1 1 (11 + 2 * p) = dy_keen i p ∧ τ.1 1 (12 + 2 * p) = dy_lim i p ∧ τ.1 8 p = dy_held i p ∧ τ.1 9 p = dy_snuf i p) ∧ ∀ k, k < dy_nN i → τ.1 1 (33 + 2 * k) = nI (dy_na i k) ∧ τ.1 1 (34 + 2 * k) = nI (dy_nb i k)
theorem ym_Tc {τ z : sn_S} {i : dy_I} (h : ∀ a, a < 10 → z.1 a = τ.1 a) (hT : ym_T τ i) : ym_T z i := by
  unfold ym_T
  rw [h 1 (by omega), h 0 (by omega), h 7 (by omega), h 8 (by omega), h 9 (by omega)]
  exact hT
theorem yi_11 (k : Nat) : (11 : Int32) + (2 : Int32) * nI k = nI (11 + 2 * k) := by rw [yi_2]; exact nI_add 11 _
theorem yi_12 (k : Nat) : ((11 : Int32) + (2 : Int32) * nI k) + 1 = nI (12 + 2 * k) := by
  rw [yi_11, nI_1]
  exact congrArg nI (by omega)
theorem yi_33 (k : Nat) : (33 : Int32) + (2 : Int32) * nI k = nI (33 + 2 * k) := by rw [yi_2]; exact nI_add 33 _
theorem yi_34 (k : Nat) : ((33 : Int32) + (2 : Int32) * nI k) + 1 = nI (34 + 2 * k) := by
  rw [yi_33, nI_1]
  exact congrArg nI (by omega)
section
variable {τ : sn_S} {i : dy_I} {m : Nat}
theorem ym_nets (hT : ym_T τ i) (ok : dy_ok i) {p : Nat} (hp : p < 6) (A : Int32) : yp (fX9_netsTo τ (nI p) A) (fun v => v = nI (dy_cnt (dy_na i) (dy_nb i) (dy_no i) p A (dy_nN i))) := by
  have hN := ok.2.1
  unfold fX9_netsTo
  refine yp_bd (fun v => v = nI (dy_cnt (dy_na i) (dy_nb i) (dy_no i) p A (dy_nN i))) (yp_for (dy_nN i) (fun k s => s.2 = nI k ∧ s.1 = nI (dy_cnt (dy_na i) (dy_nb i) (dy_no i) p A k)) (fun k s hk hs => ?_) (fun s hs => ?_) ⟨nI_0.symm, nI_0.symm⟩) (fun v hv => ?_)
  · obtain ⟨c, x⟩ := s
    obtain ⟨ex, ec⟩ := hs
    have ex : x = nI k := ex
    have ec : c = nI (dy_cnt (dy_na i) (dy_nb i) (dy_no i) p A k) := ec
    subst ex
    subst ec
    obtain ⟨ha, hb, hab⟩ := ok.2.2 k hk
    obtain ⟨ea, eb⟩ := hT.2.2.2.2.2 k hk
    have e7 : sn_I τ 1 (7 : Int32).toNatClampNeg = nI (dy_nN i) := hT.2.1
    have e19 : sn_I τ 0 19 = dy_no i := hT.2.2.1
    have fa : sn_I τ 1 (33 + 2 * k) = nI (dy_na i k) := ea
    have fb : sn_I τ 1 (34 + 2 * k) = nI (dy_nb i k) := eb
    have l91 : ∀ c : Int32, yp (BX9_netsTo_91 τ (nI p) A c (nI k)) (yp_sum (fun s' => s'.2 = nI (k + 1) ∧ s'.1 = c) (fun _ => False)) := fun c => by
      unfold BX9_netsTo_91
      exact yp_lt (yp_some ⟨nI_1 k, rfl⟩)
    have k1 : ∀ b : Bool, (b = true ↔ ¬ nI k = dy_no i ∧ ((dy_na i k = p ∧ sp_bit A (dy_nb i k) = true) ∨ (dy_nb i k = p ∧ sp_bit A (dy_na i k) = true))) → dy_cnt (dy_na i) (dy_nb i) (dy_no i) p A (k + 1) = dy_cnt (dy_na i) (dy_nb i) (dy_no i) p A k + (if b = true then 1 else 0) := fun b hb => by
      show dy_cnt (dy_na i) (dy_nb i) (dy_no i) p A k + (if _ then 1 else 0) = _
      by_cases c : b = true
      · rw [if_pos c, if_pos (hb.mp c)]
      · rw [if_neg c, if_neg (fun x => c (hb.mpr x))]
    have no : (¬ (¬ nI k = dy_no i ∧ ((dy_na i k = p ∧ sp_bit A (dy_nb i k) = true) ∨ (dy_nb i k = p ∧ sp_bit A (dy_na i k) = true)))) → yp (BX9_netsTo_91 τ (nI p) A (nI (dy_cnt (dy_na i) (dy_nb i) (dy_no i) p A k)) (nI k)) (yp_sum (fun s' => s'.2 = nI (k + 1) ∧ s'.1 = nI (dy_cnt (dy_na i) (dy_nb i) (dy_no i) p A (k + 1))) (fun _ => False)) := fun hc => by
      have e := k1 false ⟨fun x => absurd x (by decide), fun x => absurd x hc⟩
      rw [if_neg (by decide)] at e
      rw [e]
      exact l91 _
    have yes : (¬ nI k = dy_no i ∧ ((dy_na i k = p ∧ sp_bit A (dy_nb i k) = true) ∨ (dy_nb i k = p ∧ sp_bit A (dy_na i k) = true))) → yp (BX9_netsTo_88 τ (nI p) A (nI (dy_cnt (dy_na i) (dy_nb i) (dy_no i) p A k)) (nI k)) (yp_sum (fun s' => s'.2 = nI (k + 1) ∧ s'.1 = nI (dy_cnt (dy_na i) (dy_nb i) (dy_no i) p A (k + 1))) (fun _ => False)) := fun hc => by
      have e := k1 true ⟨fun _ => hc, fun _ => rfl⟩
      rw [if_pos rfl] at e
      rw [e]
      unfold BX9_netsTo_88
      refine yp_lt ?_
      rw [nI_1]
      exact l91 _
    show yp (BX9_netsTo_5 τ (nI p) A _ (nI k)) _
    unfold BX9_netsTo_5
    rw [e7, if_neg (nI_ge hk (by omega)), yi_34, yi_33, nI_clamp (show 33 + 2 * k < 2 ^ 31 by omega), nI_clamp (show 34 + 2 * k < 2 ^ 31 by omega), fa, fb, e19]
    refine yp_gd (fun _ => yp_gd (fun _ => yp_lt (yp_gd (fun _ => yp_lt (yp_ite (fun c => ?_) (fun c => ?_))))))
    · exact no (fun h => h.1 c)
    · have l72 : ¬ (dy_na i k = p ∧ sp_bit A (dy_nb i k) = true) → yp (BX9_netsTo_72 τ (nI p) A (nI (dy_cnt (dy_na i) (dy_nb i) (dy_no i) p A k)) (nI k) (nI (dy_na i k)) (nI (dy_nb i k))) (yp_sum (fun s' => s'.2 = nI (k + 1) ∧ s'.1 = nI (dy_cnt (dy_na i) (dy_nb i) (dy_no i) p A (k + 1))) (fun _ => False)) := fun h1 => by
        unfold BX9_netsTo_72
        refine yp_ite (fun c2 => ?_) (fun c2 => no (fun h => h.2.elim h1 (fun g => c2 (by rw [g.1]))))
        have c2 := (nI_eq (by omega) (by omega)).mp c2
        rw [yb_m]
        refine yp_bit (fun x => ?_) (fun x => ?_)
        · rw [if_pos rfl]
          exact yes ⟨c, Or.inr ⟨c2, x⟩⟩
        · rw [if_neg (by decide)]
          exact no (fun h => h.2.elim h1 (fun g => by rw [x] at g; exact absurd g.2 (by decide)))
      refine yp_ite (fun c2 => ?_) (fun c2 => l72 (fun h => c2 (by rw [h.1])))
      have c2 := (nI_eq (by omega) (by omega)).mp c2
      rw [yb_m]
      refine yp_bit (fun x => ?_) (fun x => ?_)
      · rw [if_pos rfl]
        exact yes ⟨c, Or.inl ⟨c2, x⟩⟩
      · rw [if_neg (by decide)]
        exact l72 (fun h => by rw [x] at h; exact absurd h.2 (by decide))
  · obtain ⟨c, x⟩ := s
    obtain ⟨ex, ec⟩ := hs
    have ex : x = nI (dy_nN i) := ex
    subst ex
    have e7 : sn_I τ 1 (7 : Int32).toNatClampNeg = nI (dy_nN i) := hT.2.1
    show yp (BX9_netsTo_5 τ (nI p) A c (nI (dy_nN i))) _
    unfold BX9_netsTo_5
    rw [e7, if_pos (nI_le (Nat.le_refl _) (by omega))]
    exact yp_gd (fun _ => yp_some ec)
  · unfold BX9_netsTo_97
    exact yp_some hv
/-- what a minute leaves as it was -/
def ym_m (m : Nat) (τ z : sn_S) : Prop := (∀ a, a < 10 ∨ 14 < a → z.1 a = τ.1 a) ∧ z.2 = τ.2 ∧ (∀ k, k < 6 * m → z.1 12 k = τ.1 12 k ∧ z.1 13 k = τ.1 13 k) ∧ ∀ k, k ≠ m → z.1 11 k = τ.1 11 k
def ym_I (i : dy_I) (m k : Nat) (A : Int32) (t : Nat → Int32) (τ z : sn_S) : Prop := ym_m m τ z ∧ (∀ p, p < k → z.1 12 (6 * m + p) = (if dy_does i (t p) A m p = true then 0 else t p + dy_more i A m p) ∧ z.1 13 (6 * m + p) = dy_more i A m p) ∧ z.1 11 m = dy_set (fun p => dy_does i (t p) A m p) k ∧ (∀ p, z.1 10 p = if p < k ∧ dy_does i (t p) A m p = true then τ.1 10 p ||| ((1 : Int32) <<< (nI m &&& 31)) else τ.1 10 p) ∧ ∀ p, z.1 14 p = if p < k then τ.1 14 p + dy_by i A p else τ.1 14 p
theorem ym_end {k : Nat} {A : Int32} {t : Nat → Int32} {z u : sn_S} {w : Int32} (hm : m < 30) (hk : k < 6) (hI : ym_I i m k A t τ z) (hu : u = sn_pI (sn_pI z 14 k (z.1 14 k + dy_by i A k)) 13 (6 * m + k) (dy_more i A m k)) {x1 x2 x7 : Int32} (h7 : x7 = if dy_does i (t k) A m k = true then 1 else 0) (hw : w = if dy_does i (t k) A m k = true then 0 else t k + dy_more i A m k) : yp (BX9_goMinute_192 u (nI m) x2 (nI k) x7 (nI (6 * m + k)) w) (yp_sum (fun s' => s'.2 = nI (k + 1) ∧ ym_I i m (k + 1) A t τ s'.1) (fun _ => False)) := by
  obtain ⟨hn, hp, hg, h10, h14⟩ := hI
  have k1 : dy_set (fun p => dy_does i (t p) A m p) (k + 1) = if dy_does i (t k) A m k = true then dy_set (fun p => dy_does i (t p) A m p) k ||| ((1 : Int32) <<< (nI k &&& 31)) else dy_set (fun p => dy_does i (t p) A m p) k := rfl
  have base : ∀ v : sn_S, (∀ a, a ≠ 10 → a ≠ 11 → v.1 a = (sn_pI u 12 (6 * m + k) w).1 a) → v.2 = u.2 → (∀ j, j ≠ m → v.1 11 j = z.1 11 j) → v.1 11 m = dy_set (fun p => dy_does i (t p) A m p) (k + 1) → (∀ p, v.1 10 p = if p < k + 1 ∧ dy_does i (t p) A m p = true then τ.1 10 p ||| ((1 : Int32) <<< (nI m &&& 31)) else τ.1 10 p) → ym_I i m (k + 1) A t τ v := fun v v1 v2 v3 v4 v5 => by
    refine ⟨⟨fun a ha => ?_, ?_, fun j hj => ⟨?_, ?_⟩, fun j hj => (v3 j hj).trans (hn.2.2.2 j hj)⟩, fun p hp2 => ?_, v4, v5, fun p => ?_⟩
    · rw [v1 a (by omega) (by omega), pI_ne (by omega), hu, pI_ne (by omega), pI_ne (by omega)]
      exact hn.1 a ha
    · rw [v2, hu]
      exact hn.2.1
    · rw [v1 12 (by decide) (by decide), pI_slot (by omega), hu, pI_ne (by decide), pI_ne (by decide)]
      exact (hn.2.2.1 j hj).1
    · rw [v1 13 (by decide) (by decide), pI_ne (by decide), hu, pI_slot (by omega), pI_ne (by decide)]
      exact (hn.2.2.1 j hj).2
    · by_cases c : p = k
      · subst c
        refine ⟨?_, ?_⟩
        · rw [v1 12 (by decide) (by decide), pI_self]
          exact hw
        · rw [v1 13 (by decide) (by decide), pI_ne (by decide), hu, pI_self]
      · have g := hp p (by omega)
        refine ⟨?_, ?_⟩
        · rw [v1 12 (by decide) (by decide), pI_slot (by omega), hu, pI_ne (by decide), pI_ne (by decide)]
          exact g.1
        · rw [v1 13 (by decide) (by decide), pI_ne (by decide), hu, pI_slot (by omega), pI_ne (by decide)]
          exact g.2
    · rw [v1 14 (by decide) (by decide), pI_ne (by decide), hu, pI_ne (by decide)]
      by_cases c : p = k
      · subst c
        rw [pI_self, if_pos (by omega), h14 p, if_neg (by omega)]
      · rw [pI_slot c, h14 p]
        by_cases c2 : p < k
        · rw [if_pos c2, if_pos (by omega)]
        · rw [if_neg c2, if_neg (by omega)]
  have u11 : u.1 11 = z.1 11 := by rw [hu, pI_ne (by decide), pI_ne (by decide)]
  have u10 : u.1 10 = z.1 10 := by rw [hu, pI_ne (by decide), pI_ne (by decide)]
  unfold BX9_goMinute_192
  rw [nI_clamp (show 6 * m + k < 2 ^ 31 by omega), nI_clamp (show m < 2 ^ 31 by omega), nI_clamp (show k < 2 ^ 31 by omega)]
  refine yp_gd (fun _ => yp_lt ?_)
  by_cases c : dy_does i (t k) A m k = true
  · rw [if_pos c] at h7
    rw [h7, if_neg (by decide)]
    refine yp_gd (fun _ => yp_gd (fun _ => yp_lt (yp_gd (fun _ => yp_gd (fun _ => yp_lt ?_)))))
    unfold BX9_goMinute_225
    refine yp_lt (yp_some ⟨nI_1 k, base _ (fun a a1 a2 => (pI_ne a1).trans (pI_ne a2)) rfl (fun j hj => ?_) ?_ (fun p => ?_)⟩)
    · rw [pI_ne (by decide), pI_slot hj, pI_ne (by decide), u11]
    · rw [pI_ne (by decide), pI_self, k1, if_pos c]
      show (sn_pI u 12 (6 * m + k) w).1 11 m ||| _ = _
      rw [pI_ne (by decide), u11, hg]
    · show (sn_pI (sn_pI (sn_pI u 12 (6 * m + k) w) 11 m _) 10 k ((sn_pI (sn_pI u 12 (6 * m + k) w) 11 m _).1 10 k ||| _)).1 10 p = _
      by_cases e : p = k
      · subst e
        rw [pI_self, pI_ne (by decide), pI_ne (by decide), u10, h10 p, if_neg (fun h => absurd h.1 (by omega)), if_pos ⟨by omega, c⟩]
      · rw [pI_slot e, pI_ne (by decide), pI_ne (by decide), u10, h10 p]
        by_cases c2 : p < k
        · by_cases c3 : dy_does i (t p) A m p = true
          · rw [if_pos ⟨c2, c3⟩, if_pos ⟨by omega, c3⟩]
          · rw [if_neg (fun h => c3 h.2), if_neg (fun h => c3 h.2)]
        · rw [if_neg (fun h => c2 h.1), if_neg (fun h => by have := h.1; omega)]
  · rw [if_neg c] at h7
    rw [h7, if_pos rfl]
    unfold BX9_goMinute_225
    refine yp_lt (yp_some ⟨nI_1 k, base _ (fun a _ _ => rfl) rfl (fun j hj => ?_) ?_ (fun p => ?_)⟩)
    · rw [pI_ne (by decide), u11]
    · rw [pI_ne (by decide), u11, k1, if_neg c, hg]
    · rw [pI_ne (by decide), u10, h10 p]
      by_cases e : p = k
      · subst e
        rw [if_neg (fun h => absurd h.1 (by omega)), if_neg (fun h => c h.2)]
      · by_cases c2 : p < k
        · by_cases c3 : dy_does i (t p) A m p = true
          · rw [if_pos ⟨c2, c3⟩, if_pos ⟨by omega, c3⟩]
          · rw [if_neg (fun h => c3 h.2), if_neg (fun h => c3 h.2)]
        · rw [if_neg (fun h => c2 h.1), if_neg (fun h => by have := h.1; omega)]
theorem ym_person {k : Nat} {A : Int32} {t : Nat → Int32} {z : sn_S} (hm : m < 30) (hk : k < dy_P i) (hT : ym_T τ i) (ok : dy_ok i) (ht : (if m = 0 then 0 else τ.1 12 (6 * (m - 1) + k)) = t k) (hI : ym_I i m k A t τ z) : yp (BX9_goMinute_26 z (nI m) A (nI k)) (yp_sum (fun s' => s'.2 = nI (k + 1) ∧ ym_I i m (k + 1) A t τ s'.1) (fun _ => False)) := by
  have hP := ok.1
  have hn := hI.1
  have hTz : ym_T z i := ym_Tc (fun a ha => hn.1 a (Or.inl ha)) hT
  obtain ⟨d1, d2, d3, d4⟩ := hTz.2.2.2.2.1 k hk
  have e5 : sn_I z 1 (5 : Int32).toNatClampNeg = nI (dy_P i) := hTz.1
  have f1 : sn_I z 1 (11 + 2 * k) = dy_keen i k := d1
  have f7 : sn_I z 7 m = dy_dust i m := hTz.2.2.2.1 m hm
  have f9 : sn_I z 9 k = dy_snuf i k := d4
  unfold BX9_goMinute_26
  rw [e5, if_neg (nI_ge hk (by omega)), yi_11, nI_clamp (show 11 + 2 * k < 2 ^ 31 by omega), nI_clamp (show m < 2 ^ 31 by omega), nI_clamp (show k < 2 ^ 31 by omega), f1, f7, f9]
  refine yp_gd (fun _ => yp_bd _ (ym_nets hTz ok (show k < 6 by omega) A) (fun v hv => yp_lt ?_))
  rw [hv, show (5 : Int32) * nI (dy_cnt (dy_na i) (dy_nb i) (dy_no i) k A (dy_nN i)) = dy_by i A k from rfl, yb_m]
  refine yp_gd (fun _ => yp_gd (fun _ => yp_gd (fun _ => ?_)))
  refine yp_bs rfl (yp_lt ?_)
  have em : dy_keen i k * dy_dust i m + dy_by i A k + (40 : Int32) * (if sp_bit (dy_snuf i k) m = true then 1 else 0) = dy_more i A m k := by
    unfold dy_more
    by_cases c : sp_bit (dy_snuf i k) m = true
    · rw [if_pos c, if_pos c]
      rfl
    · rw [if_neg c, if_neg c]
      rfl
  rw [em]
  have key : yp (BX9_goMinute_104 z (nI m) A (nI k) (dy_by i A k) (dy_more i A m k) (t k)) (yp_sum (fun s' => s'.2 = nI (k + 1) ∧ ym_I i m (k + 1) A t τ s'.1) (fun _ => False)) := by
    have l145 : ∀ x0 : Int32, (x0 = if dy_does i (t k) A m k = true then 1 else 0) → yp (BX9_goMinute_145 z (nI m) A (nI k) (dy_by i A k) (dy_more i A m k) (t k + dy_more i A m k) x0) (yp_sum (fun s' => s'.2 = nI (k + 1) ∧ ym_I i m (k + 1) A t τ s'.1) (fun _ => False)) := fun x0 hx => by
      unfold BX9_goMinute_145
      rw [yi_6, nI_add, nI_clamp (show 6 * m + k < 2 ^ 31 by omega), nI_clamp (show k < 2 ^ 31 by omega)]
      refine yp_gd (fun _ => yp_gd (fun _ => yp_lt (yp_gd (fun _ => yp_lt (yp_ite (fun c => ?_) (fun c => ?_))))))
      · have hd : ¬ dy_does i (t k) A m k = true := fun h => by
          rw [if_pos h] at hx
          rw [hx] at c
          exact absurd c (by decide)
        exact ym_end (τ := τ) hm (by omega) hI rfl (x1 := 0) hx (by rw [if_neg hd])
      · have hd : dy_does i (t k) A m k = true := by
          by_cases h : dy_does i (t k) A m k = true
          · exact h
          · rw [if_neg h] at hx
            exact absurd hx c
        exact ym_end (τ := τ) hm (by omega) hI rfl (x1 := 0) hx (by rw [if_pos hd])
    have f12 : sn_I z 1 (12 + 2 * k) = dy_lim i k := d2
    have f8 : sn_I z 8 k = dy_held i k := d3
    unfold BX9_goMinute_104 BX9_goMinute_144
    rw [yi_12, nI_clamp (show 12 + 2 * k < 2 ^ 31 by omega), nI_clamp (show k < 2 ^ 31 by omega), f12, f8, yb_m]
    refine yp_lt (yp_gd (fun _ => yp_ite (fun c => ?_) (fun c => yp_gd (fun _ => ?_))))
    · refine l145 0 ?_
      rw [if_neg]
      unfold dy_does
      rw [decide_eq_false (Int32.not_le.mpr c)]
      exact Bool.false_ne_true
    · have c1 : dy_lim i k ≤ t k + dy_more i A m k := Int32.not_lt.mp c
      refine yp_bit (fun x => ?_) (fun x => ?_)
      · rw [if_neg (by decide)]
        refine l145 0 ?_
        rw [if_neg]
        unfold dy_does
        rw [x, Bool.not_true, Bool.and_false]
        decide
      · rw [if_pos rfl]
        refine l145 1 ?_
        rw [if_pos]
        unfold dy_does
        rw [x, decide_eq_true c1]
        rfl
  by_cases c : m = 0
  · rw [if_pos c] at ht
    rw [if_pos ((yi_0 (by omega)).mpr c), ht]
    exact key
  · rw [if_neg c] at ht
    rw [if_neg (fun z => c ((yi_0 (by omega)).mp z)), yi_s1 (by omega), yi_6, nI_add, nI_clamp (show 6 * (m - 1) + k < 2 ^ 31 by omega)]
    refine yp_gd (fun _ => ?_)
    rw [show sn_I z 12 (6 * (m - 1) + k) = t k from ((hn.2.2.1 _ (by omega)).1).trans ht]
    exact key
theorem ym_min (hm : m < 30) (hT : ym_T τ i) (ok : dy_ok i) {A : Int32} {t : Nat → Int32} (hA : (if m = 0 then 0 else τ.1 11 (m - 1)) = A) (ht : ∀ p, p < dy_P i → (if m = 0 then 0 else τ.1 12 (6 * (m - 1) + p)) = t p) : yp (fX9_goMinute τ (nI m)) (fun z => ym_I i m (dy_P i) A t τ z) := by
  have hP := ok.1
  have key : ∀ B, B = A → yp (BX9_goMinute_23 (sn_pI τ 11 m 0) (nI m) B) (fun z => ym_I i m (dy_P i) A t τ z) := fun B hB => by
    subst hB
    unfold BX9_goMinute_23
    refine yp_bd (fun z => ym_I i m (dy_P i) B t τ z) (yp_for (dy_P i) (fun k s => s.2 = nI k ∧ ym_I i m k B t τ s.1) (fun k s hk hs => ?_) (fun s hs => ?_) ⟨nI_0.symm, ⟨⟨fun a ha => pI_ne (by omega), rfl, fun _ _ => ⟨rfl, rfl⟩, fun k hk => pI_slot hk⟩, fun p hp => absurd hp (by omega), pI_self, fun p => by rw [if_neg (fun h => absurd h.1 (by omega)), pI_ne (by decide)], fun p => by rw [if_neg (by omega), pI_ne (by decide)]⟩⟩) (fun z hz => ?_)
    · obtain ⟨z, x⟩ := s
      obtain ⟨ex, hI⟩ := hs
      have ex : x = nI k := ex
      subst ex
      exact ym_person hm hk hT ok (ht k hk) hI
    · obtain ⟨z, x⟩ := s
      obtain ⟨ex, hI⟩ := hs
      have ex : x = nI (dy_P i) := ex
      subst ex
      have e5 : sn_I z 1 (5 : Int32).toNatClampNeg = nI (dy_P i) := (congrFun (hI.1.1 1 (by omega)) 5).trans hT.1
      show yp (BX9_goMinute_26 z (nI m) B (nI (dy_P i))) _
      unfold BX9_goMinute_26
      rw [e5, if_pos (nI_le (Nat.le_refl _) (by omega))]
      exact yp_gd (fun _ => yp_some hI)
    · unfold BX9_goMinute_231
      exact yp_some hz
  unfold fX9_goMinute
  rw [nI_clamp (show m < 2 ^ 31 by omega)]
  refine yp_gd (fun _ => yp_lt ?_)
  by_cases c : m = 0
  · rw [if_pos c] at hA
    rw [if_pos ((yi_0 (by omega)).mpr c)]
    exact key 0 hA
  · rw [if_neg c] at hA
    rw [if_neg (fun z => c ((yi_0 (by omega)).mp z)), yi_s1 (by omega), nI_clamp (show m - 1 < 2 ^ 31 by omega)]
    refine yp_gd (fun _ => key _ ?_)
    rw [← hA]
    exact pI_slot (by omega)
end
/-- lived, M minutes -/
def ym_L (τ : sn_S) (i : dy_I) (M : Nat) : Prop := (∀ m, m < M → τ.1 11 m = dy_who i m ∧ ∀ p, p < dy_P i → τ.1 12 (6 * m + p) = dy_tick i m p ∧ τ.1 13 (6 * m + p) = dy_more i (dy_st i m).2 m p) ∧ ∀ p, p < 6 → τ.1 10 p = (if p < dy_P i then dy_sn i M p else 0) ∧ τ.1 14 p = (if p < dy_P i then dy_all i p M else 0)
theorem yi_last {M k : Nat} (hM : M ≤ 30) (hk : k ≤ 30) : (nI M - (1 : Int32) < nI k) ↔ M ≤ k := by
  rw [Int32.lt_iff_toInt_lt, i32_sub1 (nI_pos' (by omega)), nI_toInt (by omega), nI_toInt (by omega)]
  omega
def ym_fr (τ z : sn_S) : Prop := (∀ a, a < 10 ∨ 14 < a → z.1 a = τ.1 a) ∧ z.2 = τ.2
theorem ym_goAll {τ : sn_S} {i : dy_I} {M : Nat} (hM : M ≤ 30) (h22 : τ.1 0 22 = nI M - 1) (hT : ym_T τ i) (ok : dy_ok i) : yp (fX9_goAll τ) (fun z => ym_fr τ z ∧ ym_L z i M) := by
  have hP := ok.1
  unfold fX9_goAll
  refine yp_bd (fun z => (∀ a, a ≠ 10 → a ≠ 14 → z.1 a = τ.1 a) ∧ z.2 = τ.2 ∧ ∀ p, p < 6 → z.1 10 p = 0 ∧ z.1 14 p = 0) (yp_for 6 (fun k s => s.2 = nI k ∧ (∀ a, a ≠ 10 → a ≠ 14 → s.1.1 a = τ.1 a) ∧ s.1.2 = τ.2 ∧ ∀ p, p < k → s.1.1 10 p = 0 ∧ s.1.1 14 p = 0) (fun k s hk hs => ?_) (fun s hs => ?_) ⟨nI_0.symm, fun _ _ _ => rfl, rfl, fun p hp => absurd hp (by omega)⟩) (fun z hz => ?_)
  · obtain ⟨z, x⟩ := s
    obtain ⟨ex, h1, h2, h3⟩ := hs
    have ex : x = nI k := ex
    subst ex
    show yp (BX9_goAll_2 z (nI k)) _
    unfold BX9_goAll_2
    rw [if_neg (show ¬ (6 : Int32) ≤ nI k from nI_ge (b := 6) hk (by decide)), nI_clamp (show k < 2 ^ 31 by omega)]
    refine yp_gd (fun _ => yp_lt (yp_gd (fun _ => yp_lt (yp_lt (yp_some ⟨nI_1 k, fun a a1 a2 => (pI_ne a2).trans ((pI_ne a1).trans (h1 a a1 a2)), h2, fun p hp => ?_⟩)))))
    show (sn_pI (sn_pI z 10 k 0) 14 k 0).1 10 p = 0 ∧ (sn_pI (sn_pI z 10 k 0) 14 k 0).1 14 p = 0
    rw [pI_ne (by decide)]
    by_cases c : p = k
    · subst c
      exact ⟨pI_self, pI_self⟩
    · rw [pI_slot c, pI_slot c, pI_ne (by decide)]
      exact h3 p (by omega)
  · obtain ⟨z, x⟩ := s
    obtain ⟨ex, h1, h2, h3⟩ := hs
    have ex : x = nI 6 := ex
    subst ex
    show yp (BX9_goAll_2 z (nI 6)) _
    unfold BX9_goAll_2
    rw [if_pos (show (6 : Int32) ≤ nI 6 by decide)]
    exact yp_some ⟨h1, h2, h3⟩
  · obtain ⟨h1, h2, h3⟩ := hz
    unfold BX9_goAll_28
    refine yp_bd (fun z => ym_fr τ z ∧ ym_L z i M) (yp_for M (fun k s => s.2 = nI k ∧ ym_fr τ s.1 ∧ ym_L s.1 i k) (fun k s hk hs => ?_) (fun s hs => ?_) ⟨nI_0.symm, ⟨fun a ha => h1 a (by omega) (by omega), h2⟩, fun m hm => absurd hm (by omega), fun p hp => ?_⟩) (fun u hu => ?_)
    · obtain ⟨u, x⟩ := s
      obtain ⟨ex, hf, hl⟩ := hs
      have ex : x = nI k := ex
      subst ex
      have hf : ym_fr τ u := hf
      have hl : ym_L u i k := hl
      have e0 : sn_I u 0 22 = nI M - 1 := (congrFun (hf.1 0 (by omega)) 22).trans h22
      have hTu : ym_T u i := ym_Tc (fun a ha => hf.1 a (Or.inl ha)) hT
      show yp (BX9_goAll_30 u (nI k)) _
      unfold BX9_goAll_30
      rw [e0, if_neg (fun c => absurd ((yi_last hM (by omega)).mp c) (by omega))]
      have eA : (if k = 0 then 0 else u.1 11 (k - 1)) = (dy_st i k).2 := by
        rw [dy_ahead]
        by_cases c : k = 0
        · rw [if_pos c, if_pos c]
        · rw [if_neg c, if_neg c]
          exact (hl.1 (k - 1) (by omega)).1
      have ht : ∀ p, p < dy_P i → (if k = 0 then 0 else u.1 12 (6 * (k - 1) + p)) = (dy_st i k).1 p := fun p hp => by
        rw [dy_prev]
        by_cases c : k = 0
        · rw [if_pos c, if_pos c]
        · rw [if_neg c, if_neg c]
          exact ((hl.1 (k - 1) (by omega)).2 p hp).1
      refine yp_bd _ (ym_min (show k < 30 by omega) hTu ok eA ht) (fun w hw => ?_)
      obtain ⟨w1, w2, w3, w4, w5⟩ := hw
      refine yp_lt (yp_some ⟨nI_1 k, ⟨fun a ha => (w1.1 a ha).trans (hf.1 a ha), w1.2.1.trans hf.2⟩, fun m hm => ?_, fun p hp => ?_⟩)
      · by_cases c : m = k
        · subst c
          exact ⟨w3, fun p hp => w2 p hp⟩
        · have g := hl.1 m (by omega)
          refine ⟨?_, fun p hp => ⟨?_, ?_⟩⟩
          · show w.1 11 m = _
            rw [w1.2.2.2 m c]
            exact g.1
          · show w.1 12 (6 * m + p) = _
            rw [(w1.2.2.1 _ (by omega)).1]
            exact (g.2 p hp).1
          · show w.1 13 (6 * m + p) = _
            rw [(w1.2.2.1 _ (by omega)).2]
            exact (g.2 p hp).2
      · have g := hl.2 p hp
        show w.1 10 p = _ ∧ w.1 14 p = _
        rw [w4 p, w5 p, g.1, g.2]
        by_cases c : p < dy_P i
        · rw [if_pos c, if_pos c, if_pos c, if_pos c, if_pos c]
          refine ⟨?_, rfl⟩
          show (if _ then dy_sn i k p ||| ((1 : Int32) <<< (nI k &&& 31)) else dy_sn i k p) = if dy_does i ((dy_st i k).1 p) (dy_st i k).2 k p = true then dy_sn i k p ||| ((1 : Int32) <<< (nI k &&& 31)) else dy_sn i k p
          by_cases d : dy_does i ((dy_st i k).1 p) (dy_st i k).2 k p = true
          · rw [if_pos ⟨c, d⟩, if_pos d]
          · rw [if_neg (fun h => d h.2), if_neg d]
        · rw [if_neg c, if_neg c, if_neg c, if_neg c, if_neg c, if_neg (fun h => c h.1)]
          exact ⟨rfl, rfl⟩
    · obtain ⟨u, x⟩ := s
      obtain ⟨ex, hf, hl⟩ := hs
      have ex : x = nI M := ex
      subst ex
      have hf : ym_fr τ u := hf
      have e0 : sn_I u 0 22 = nI M - 1 := (congrFun (hf.1 0 (by omega)) 22).trans h22
      show yp (BX9_goAll_30 u (nI M)) _
      unfold BX9_goAll_30
      rw [e0, if_pos ((yi_last hM hM).mpr (Nat.le_refl _))]
      exact yp_some ⟨hf, hl⟩
    · have g := h3 p hp
      show z.1 10 p = _ ∧ z.1 14 p = _
      rw [g.1, g.2]
      by_cases c : p < dy_P i
      · rw [if_pos c, if_pos c]
        exact ⟨rfl, rfl⟩
      · rw [if_neg c, if_neg c]
        exact ⟨rfl, rfl⟩
    · unfold BX9_goAll_49
      exact yp_some hu
