/-! images, both sides -/
theorem rm_image (σ : sn_S) {j : Nat} (hj : j < 3) : ∃ t, sn_it (LX9_image_17 (nI j)) 5000 (σ, (0 : Int32)) = some t ∧ (∀ q, q ≠ 2 → t.1 q = σ.1 q) ∧ (∀ k, k < 119 → t.1 2 (119 * j + k) = σ.1 1 k) ∧ (∀ i, i < 119 * j ∨ 119 * j + 119 ≤ i → t.1 2 i = σ.1 2 i) ∧ t.2 = σ.2 := by
  obtain ⟨t, e1, e2⟩ := sn_for (f := LX9_image_17 (nI j)) 119 (fun k s => s.2 = nI k ∧ (∀ q, q ≠ 2 → s.1.1 q = σ.1 q) ∧ (∀ i, i < k → s.1.1 2 (119 * j + i) = σ.1 1 i) ∧ (∀ i, i < 119 * j ∨ 119 * j + 119 ≤ i → s.1.1 2 i = σ.1 2 i) ∧ s.1.2 = σ.2) (fun t => (∀ q, q ≠ 2 → t.1 q = σ.1 q) ∧ (∀ k, k < 119 → t.1 2 (119 * j + k) = σ.1 1 k) ∧ (∀ i, i < 119 * j ∨ 119 * j + 119 ≤ i → t.1 2 i = σ.1 2 i) ∧ t.2 = σ.2)
    (fun k s hk hs => by
      obtain ⟨s1, s2⟩ := s
      obtain ⟨h2, h3, h4, h5, h6⟩ := hs
      have h2 : s2 = nI k := h2
      subst h2
      have h3 : ∀ q, q ≠ 2 → s1.1 q = σ.1 q := h3
      have ei : (119 : Int32) * nI j + nI k = nI (119 * j + k) := by
        rw [show (119 : Int32) * nI j = nI (119 * j) from nI_mul 119 j, nI_add]
      refine ⟨(sn_pI s1 2 (119 * j + k) (s1.1 1 k), nI (k + 1)), ?_, rfl, fun q hq => ?_, fun i hi => ?_, fun i hi => ?_, h6⟩
      · unfold LX9_image_17 BX9_image_17
        show (if (119 : Int32) ≤ nI k then _ else _) = _
        rw [if_neg (show ¬ (119 : Int32) ≤ nI k from nI_ge (b := 119) hk (by decide)), ei, sn_in_nI hk (by decide), gd_T, sn_in_nI (by omega) (by decide), gd_T, nI_clamp (show 119 * j + k < 2 ^ 31 by omega), nI_clamp (show k < 2 ^ 31 by omega), ← nI_1]
        rfl
      · show (sn_pI s1 2 (119 * j + k) (s1.1 1 k)).1 q = _
        rw [pI_ne hq]
        exact h3 q hq
      · show (sn_pI s1 2 (119 * j + k) (s1.1 1 k)).1 2 (119 * j + i) = _
        by_cases e : i = k
        · subst e
          rw [pI_self, h3 1 (by decide)]
        · rw [pI_slot (by omega)]
          exact h4 i (by omega)
      · show (sn_pI s1 2 (119 * j + k) (s1.1 1 k)).1 2 i = _
        rw [pI_slot (by omega)]
        exact h5 i hi)
    (fun s hs => by
      obtain ⟨s1, s2⟩ := s
      obtain ⟨h2, h3, h4, h5, h6⟩ := hs
      have h2 : s2 = nI 119 := h2
      subst h2
      refine ⟨s1, ?_, h3, h4, h5, h6⟩
      unfold LX9_image_17 BX9_image_17
      exact if_pos (show (119 : Int32) ≤ nI 119 from Int32.le_refl _))
    (n := 5000) (by decide) (s := (σ, (0 : Int32))) ⟨nI_0.symm, fun _ _ => rfl, fun i hi => absurd hi (by omega), fun _ _ => rfl, rfl⟩
  exact ⟨t, e1, e2⟩
theorem rm_back (σ : sn_S) {j : Nat} (hj : j < 3) : ∃ t, sn_it (LX9_back_29 (nI j)) 5000 (σ, (0 : Int32)) = some t ∧ (∀ q, q ≠ 1 → t.1 q = σ.1 q) ∧ (∀ k, k < 119 → t.1 1 k = σ.1 2 (119 * j + k)) ∧ t.2 = σ.2 := by
  obtain ⟨t, e1, e2⟩ := sn_for (f := LX9_back_29 (nI j)) 119 (fun k s => s.2 = nI k ∧ (∀ q, q ≠ 1 → s.1.1 q = σ.1 q) ∧ (∀ i, i < k → s.1.1 1 i = σ.1 2 (119 * j + i)) ∧ s.1.2 = σ.2) (fun t => (∀ q, q ≠ 1 → t.1 q = σ.1 q) ∧ (∀ k, k < 119 → t.1 1 k = σ.1 2 (119 * j + k)) ∧ t.2 = σ.2)
    (fun k s hk hs => by
      obtain ⟨s1, s2⟩ := s
      obtain ⟨h2, h3, h4, h6⟩ := hs
      have h2 : s2 = nI k := h2
      subst h2
      have h3 : ∀ q, q ≠ 1 → s1.1 q = σ.1 q := h3
      have ei : (119 : Int32) * nI j + nI k = nI (119 * j + k) := by
        rw [show (119 : Int32) * nI j = nI (119 * j) from nI_mul 119 j, nI_add]
      refine ⟨(sn_pI s1 1 k (s1.1 2 (119 * j + k)), nI (k + 1)), ?_, rfl, fun q hq => ?_, fun i hi => ?_, h6⟩
      · unfold LX9_back_29 BX9_back_29
        show (if (119 : Int32) ≤ nI k then _ else _) = _
        rw [if_neg (show ¬ (119 : Int32) ≤ nI k from nI_ge (b := 119) hk (by decide)), ei, sn_in_nI (show 119 * j + k < 357 by omega) (by decide), gd_T, sn_in_nI hk (by decide), gd_T, nI_clamp (show 119 * j + k < 2 ^ 31 by omega), nI_clamp (show k < 2 ^ 31 by omega), ← nI_1]
        rfl
      · show (sn_pI s1 1 k (s1.1 2 (119 * j + k))).1 q = _
        rw [pI_ne hq]
        exact h3 q hq
      · show (sn_pI s1 1 k (s1.1 2 (119 * j + k))).1 1 i = _
        by_cases e : i = k
        · subst e
          rw [pI_self, h3 2 (by decide)]
        · rw [pI_slot e]
          exact h4 i (by omega))
    (fun s hs => by
      obtain ⟨s1, s2⟩ := s
      obtain ⟨h2, h3, h4, h6⟩ := hs
      have h2 : s2 = nI 119 := h2
      subst h2
      refine ⟨s1, ?_, h3, h4, h6⟩
      unfold LX9_back_29 BX9_back_29
      exact if_pos (show (119 : Int32) ≤ nI 119 from Int32.le_refl _))
    (n := 5000) (by decide) (s := (σ, (0 : Int32))) ⟨nI_0.symm, fun _ _ => rfl, fun i hi => absurd hi (by omega), rfl⟩
  exact ⟨t, e1, e2⟩
theorem rc_noses {s z : sn_S} {a b : Nat} (hd : b + 6 < a ∨ a + 6 < b) (ez : fX2_copyFrom s a b = some z) (k : Nat) (hk : k < 12) : z.1 (a + 2) k = s.1 (b + 2) k := by
  have key : zs_ok (fX2_copyFrom s a b) (fun z => z.1 (a + 2) k = s.1 (b + 2) k) := by
    unfold fX2_copyFrom
    refine zs_gd (by decide) (zs_lt (Q := fun z => z.1 (b + 2) = s.1 (b + 2)) (zh_cp_ne (a := a + 1) (by omega)) (fun z1 m1 => ?_))
    refine zs_gd (by decide) (zs_lt (Q := fun z => z.1 (a + 2) k = s.1 (b + 2) k) ?_ (fun z2 m2 => ?_))
    · show (zh_cp z1 (a + 2) (b + 2) 12).1 (a + 2) k = _
      rw [zh_cp_eq (by decide), if_pos hk, m1]
    refine zs_gd (by decide) (zs_lt (Q := fun z => z.1 (a + 2) k = s.1 (b + 2) k) ((congrFun (zh_cp_ne (z := z2) (a := a + 3) (b := b + 3) (L := 10) (by omega)) k).trans m2) (fun z3 m3 => ?_))
    refine zs_gd (by decide) (zs_lt (Q := fun z => z.1 (a + 2) k = s.1 (b + 2) k) ((congrFun (zh_cp_ne (z := z3) (a := a + 4) (b := b + 4) (L := 16) (by omega)) k).trans m3) (fun z4 m4 => ?_))
    refine zs_gd (by decide) (zs_lt (Q := fun z => z.1 (a + 2) k = s.1 (b + 2) k) ((congrFun (zh_cp_ne (z := z4) (a := a + 5) (b := b + 5) (L := 30) (by omega)) k).trans m4) (fun z5 m5 => ?_))
    exact zs_gd (by decide) (zs_lt (Q := fun z => z.1 (a + 2) k = s.1 (b + 2) k) ((congrFun (zh_cp_ne (z := z5) (a := a + 6) (b := b + 6) (L := 120) (by omega)) k).trans m5) (fun z6 m6 => zs_some m6))
  obtain ⟨z', e, h⟩ := key
  rw [ez] at e
  cases e
  exact h
theorem rc_acts {s z : sn_S} {a b : Nat} (hd : b + 6 < a ∨ a + 6 < b) (ez : fX2_copyFrom s a b = some z) (k : Nat) (hk : k < 120) : z.1 (a + 6) k = s.1 (b + 6) k := by
  have key : zs_ok (fX2_copyFrom s a b) (fun z => z.1 (a + 6) k = s.1 (b + 6) k) := by
    unfold fX2_copyFrom
    refine zs_gd (by decide) (zs_lt (Q := fun z => z.1 (b + 6) = s.1 (b + 6)) (zh_cp_ne (a := a + 1) (by omega)) (fun z1 m1 => ?_))
    refine zs_gd (by decide) (zs_lt (Q := fun z => z.1 (b + 6) = s.1 (b + 6)) ((zh_cp_ne (z := z1) (a := a + 2) (b := b + 2) (L := 12) (by omega)).trans m1) (fun z2 m2 => ?_))
    refine zs_gd (by decide) (zs_lt (Q := fun z => z.1 (b + 6) = s.1 (b + 6)) ((zh_cp_ne (z := z2) (a := a + 3) (b := b + 3) (L := 10) (by omega)).trans m2) (fun z3 m3 => ?_))
    refine zs_gd (by decide) (zs_lt (Q := fun z => z.1 (b + 6) = s.1 (b + 6)) ((zh_cp_ne (z := z3) (a := a + 4) (b := b + 4) (L := 16) (by omega)).trans m3) (fun z4 m4 => ?_))
    refine zs_gd (by decide) (zs_lt (Q := fun z => z.1 (b + 6) = s.1 (b + 6)) ((zh_cp_ne (z := z4) (a := a + 5) (b := b + 5) (L := 30) (by omega)).trans m4) (fun z5 m5 => ?_))
    refine zs_gd (by decide) (zs_lt (Q := fun z => z.1 (a + 6) k = s.1 (b + 6) k) ?_ (fun z6 m6 => zs_some m6))
    show (zh_cp z5 (a + 6) (b + 6) 120).1 (a + 6) k = _
    rw [zh_cp_eq (by decide), if_pos hk, m5]
  obtain ⟨z', e, h⟩ := key
  rw [ez] at e
  cases e
  exact h
/-- a house laid over another is the same house -/
theorem rc_copyH {σ z : sn_S} {a b : Nat} {w : Nat → Int32} (hd : b + 6 < a ∨ a + 6 < b) (hb : zh_cb b σ) (ez : fX2_copyFrom σ a b = some z) (H : rr_H b σ w) : rr_H a z w := by
  obtain ⟨z', e, hm, c1, c3, c4, c5⟩ := zh_hcp σ a b hd
  rw [ez] at e
  cases e
  obtain ⟨b5, b6, b7, b8, b9⟩ := hb
  obtain ⟨h0, h1, h2, h3, h4, h5⟩ := H
  have cc : ∀ k, k < 11 → z.1 (a + 1) k = σ.1 (b + 1) k := fun k hk => by
    have := c1 k
    rw [if_pos hk] at this
    exact this
  unfold rr_H
  rw [cc 5 (by decide), cc 6 (by decide), cc 7 (by decide), cc 8 (by decide), cc 9 (by decide)]
  exact ⟨fun k hk => (cc k hk).trans (h0 k hk), fun i hi => (rc_noses hd ez i (by omega)).trans (h1 i hi), fun i hi => (c3 i (by omega)).trans (h2 i hi), fun i hi => (c4 i (by omega)).trans (h3 i hi), fun i hi => (c5 i (by omega)).trans (h4 i hi), fun i hi => by rw [rc_acts hd ez _ (by omega), rc_acts hd ez _ (by omega), rc_acts hd ez _ (by omega)]; exact h5 i hi⟩
