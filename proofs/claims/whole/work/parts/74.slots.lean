/-! the rows of numbers -/
theorem c_isSlot (a : Int32) : fX6_isSlot a = some (if 0 ≤ a ∧ a < 4 then 1 else 0) := by
  unfold fX6_isSlot
  by_cases h0 : a < 0
  · rw [if_pos h0, if_neg (fun h => absurd h0 (Int32.not_lt.mpr h.1))]
    rfl
  · rw [if_neg h0]
    by_cases h1 : (4 : Int32) ≤ a
    · rw [if_pos h1, if_neg (fun h => absurd h.2 (Int32.not_lt.mpr h1))]
      rfl
    · rw [if_neg h1, if_pos ⟨Int32.not_lt.mp h0, Int32.not_le.mp h1⟩]
      rfl
theorem m_isSlot (a : Int32) : fX9_isSlot a = some (if 0 ≤ a ∧ a < 4 then 1 else 0) := by
  unfold fX9_isSlot
  show (fX9_in a.toInt64 (0 : Int32).toInt64 ((4 : Int32) - 1).toInt64).bind _ = _
  rw [in_eq32]
  simp only [i32_le_sub1 (show (0 : Int32) ≤ 4 by decide)]
  split <;> rfl
theorem fillL (σ : sn_S) (q n : Nat) (v : Int64) (hn : n < 5000) : fJ7_fill_d0a16 σ q n v = some (σ.1, (fun a b => if a = q ∧ b < n then v else σ.2.1 a b), σ.2.2) := by
  unfold fJ7_fill_d0a16
  show ((sn_it (LJ7_fill_d0a16_6 q n v (Int32.ofNat n)) 5000 (σ, (0 : Int32))).bind _) = _
  obtain ⟨t, e1, e2⟩ := sn_for (f := LJ7_fill_d0a16_6 q n v (Int32.ofNat n)) n (fun k s => s = ((σ.1, (fun a b => if a = q ∧ b < k then v else σ.2.1 a b), σ.2.2), nI k)) (fun t => t = (σ.1, (fun a b => if a = q ∧ b < n then v else σ.2.1 a b), σ.2.2))
    (fun k s hk hs => by
      subst hs
      refine ⟨_, ?_, rfl⟩
      unfold LJ7_fill_d0a16_6 BJ7_fill_d0a16_6
      rw [if_neg (show ¬ Int32.ofNat n ≤ nI k from nI_ge hk (by omega))]
      show sn_gd (sn_in (nI k) n) (some (Sum.inl (sn_pL _ q (nI k).toNatClampNeg v, nI k + 1))) = _
      rw [sn_in_nI hk (by omega), gd_T, nI_clamp (by omega), nI_1]
      refine congrArg (fun z => some (Sum.inl ((σ.1, z, σ.2.2), nI (k + 1)))) ?_
      funext a b
      show (if a = q ∧ b = k then v else if a = q ∧ b < k then v else σ.2.1 a b) = _
      by_cases ha : a = q
      · by_cases hb : b = k
        · rw [if_pos ⟨ha, hb⟩, if_pos ⟨ha, by omega⟩]
        · rw [if_neg (fun h => hb h.2)]
          by_cases hb2 : b < k
          · rw [if_pos ⟨ha, hb2⟩, if_pos ⟨ha, by omega⟩]
          · rw [if_neg (fun h => hb2 h.2), if_neg (fun h => hb2 (by have := h.2; omega))]
      · rw [if_neg (fun h => ha h.1), if_neg (fun h => ha h.1), if_neg (fun h => ha h.1)])
    (fun s hs => by
      subst hs
      refine ⟨_, ?_, rfl⟩
      unfold LJ7_fill_d0a16_6 BJ7_fill_d0a16_6
      rw [if_pos (show Int32.ofNat n ≤ nI n from Int32.le_refl _)])
    hn (s := (σ, (0 : Int32))) (by
      show (σ, (0 : Int32)) = _
      rw [nI_0]
      simp)
  rw [e1, e2]
  rfl
theorem m_rowzero (τ : sn_S) (s : Nat) (hs : s < 4) : sn_it (LX9_row_52 (nI s)) 5000 (τ, (0 : Int32)) = some (τ.1, (fun a b => if a = 23 ∧ 60 * s ≤ b ∧ b < 60 * s + 60 then 0 else τ.2.1 a b), τ.2.2) := by
  obtain ⟨t, e1, e2⟩ := sn_for (f := LX9_row_52 (nI s)) 60 (fun k z => z = ((τ.1, (fun a b => if a = 23 ∧ 60 * s ≤ b ∧ b < 60 * s + k then 0 else τ.2.1 a b), τ.2.2), nI k)) (fun t => t = (τ.1, (fun a b => if a = 23 ∧ 60 * s ≤ b ∧ b < 60 * s + 60 then 0 else τ.2.1 a b), τ.2.2))
    (fun k z hk hz => by
      subst hz
      refine ⟨_, ?_, rfl⟩
      unfold LX9_row_52 BX9_row_52
      rw [if_neg (show ¬ (60 : Int32) ≤ nI k from nI_ge (b := 60) hk (by decide))]
      have ei : (60 : Int32) * nI s + nI k = nI (60 * s + k) := by
        rw [← nI_add, ← nI_mul]
        rfl
      show sn_gd (sn_in ((60 : Int32) * nI s + nI k) 240) (some (Sum.inl (sn_pL _ 23 ((60 : Int32) * nI s + nI k).toNatClampNeg 0, nI k + 1))) = _
      rw [ei, sn_in_nI (by omega) (by decide), gd_T, nI_clamp (by omega), nI_1]
      refine congrArg (fun z => some (Sum.inl ((τ.1, z, τ.2.2), nI (k + 1)))) ?_
      funext a b
      show (if a = 23 ∧ b = 60 * s + k then (0 : Int64) else if a = 23 ∧ 60 * s ≤ b ∧ b < 60 * s + k then 0 else τ.2.1 a b) = _
      by_cases ha : a = 23
      · by_cases hb : b = 60 * s + k
        · rw [if_pos ⟨ha, hb⟩, if_pos ⟨ha, by omega⟩]
        · rw [if_neg (fun h => hb h.2)]
          by_cases hb2 : 60 * s ≤ b ∧ b < 60 * s + k
          · rw [if_pos ⟨ha, hb2⟩, if_pos ⟨ha, by omega⟩]
          · rw [if_neg (fun h => hb2 h.2), if_neg (fun h => hb2 (by have := h.2; omega))]
      · rw [if_neg (fun h => ha h.1), if_neg (fun h => ha h.1), if_neg (fun h => ha h.1)])
    (fun z hz => by
      subst hz
      refine ⟨_, ?_, rfl⟩
      unfold LX9_row_52 BX9_row_52
      rw [if_pos (show (60 : Int32) ≤ nI 60 by decide)])
    (n := 5000) (by decide) (s := (τ, (0 : Int32))) (by
      show (τ, (0 : Int32)) = _
      rw [nI_0]
      refine congrArg (fun z => ((τ.1, z, τ.2.2), (0 : Int32))) ?_
      funext a b
      rw [if_neg (by omega)])
  rw [e1, e2]
