/-! is there such a policy, minute, net, is there a house: class and reference -/
theorem c_isPolicy (σ : sn_S) (a : Int32) : fX8_isPolicy σ a = some (if 0 ≤ a ∧ a < σ.1 2 8 then 1 else 0) := by
  unfold fX8_isPolicy
  by_cases h0 : a < 0
  · rw [if_pos h0, if_neg (fun h => absurd h0 (Int32.not_lt.mpr h.1))]
    rfl
  · rw [if_neg h0]
    show (if σ.1 2 8 ≤ a then _ else _) = _
    by_cases h1 : σ.1 2 8 ≤ a
    · rw [if_pos h1, if_neg (fun h => absurd h.2 (Int32.not_lt.mpr h1))]
      rfl
    · rw [if_neg h1, if_pos ⟨Int32.not_lt.mp h0, Int32.not_le.mp h1⟩]
      rfl
theorem c_isMinute (σ : sn_S) (a : Int32) : fX8_isMinute σ a = some (if 0 ≤ a ∧ a < σ.1 2 0 then 1 else 0) := by
  unfold fX8_isMinute
  by_cases h0 : a < 0
  · rw [if_pos h0, if_neg (fun h => absurd h0 (Int32.not_lt.mpr h.1))]
    rfl
  · rw [if_neg h0]
    show (if σ.1 2 0 ≤ a then _ else _) = _
    by_cases h1 : σ.1 2 0 ≤ a
    · rw [if_pos h1, if_neg (fun h => absurd h.2 (Int32.not_lt.mpr h1))]
      rfl
    · rw [if_neg h1, if_pos ⟨Int32.not_lt.mp h0, Int32.not_le.mp h1⟩]
      rfl
theorem m_isPolicy {τ : sn_S} (h8 : 0 ≤ τ.1 1 8) (a : Int32) : fX9_isPolicy τ a = some (if 0 ≤ a ∧ a < τ.1 1 8 then 1 else 0) := by
  unfold fX9_isPolicy
  show (fX9_in a.toInt64 (0 : Int32).toInt64 ((τ.1 1 8 - 1).toInt64)).bind _ = _
  rw [in_eq32]
  simp only [i32_le_sub1 h8]
  split <;> rfl
theorem m_isMinute {τ : sn_S} (h0 : 0 ≤ τ.1 1 0) (a : Int32) : fX9_isMinute τ a.toInt64 = some (if 0 ≤ a ∧ a < τ.1 1 0 then 1 else 0) := by
  unfold fX9_isMinute
  show (fX9_in a.toInt64 (0 : Int32).toInt64 ((τ.1 1 0 - 1).toInt64)).bind _ = _
  rw [in_eq32]
  simp only [i32_le_sub1 h0]
  split <;> rfl
theorem st5 : st_5 J := by
  intro σ τ a b hJ
  obtain ⟨-, -, -, hW, hH, -⟩ := id hJ
  have h8 : 0 ≤ τ.1 1 8 := jW_cnt hW (by decide)
  have e8 : σ.1 2 8 = τ.1 1 8 := hH.1 8 (by decide)
  have cp := c_isPolicy σ a
  have mp := m_isPolicy h8 a
  rw [e8] at cp
  by_cases hp : 0 ≤ a ∧ a < τ.1 1 8
  · rw [if_pos hp] at cp mp
    have e2 : fX9_in b.toInt64 (0 : Int64) (4 : Int64) = some (if 0 ≤ b ∧ b ≤ 4 then 1 else 0) := in_eq32 b 0 4
    have hb5 : b < 5 ↔ b ≤ 4 := (i32_le_sub1 (a := b) (v := 5) (by decide)).symm
    by_cases hb : 0 ≤ b ∧ b ≤ 4
    · rw [if_pos hb] at e2
      have hn8 : sp_n (τ.1 1) 8 ≤ 6 := hW.2.1.2.2.2.2.2.2.2.2.1
      obtain ⟨p, hp1, hp2⟩ := nI_idx (n := sp_n (τ.1 1) 8) (by omega) hp.1 (by rw [← hW.1 8 (by decide)]; exact hp.2)
      obtain ⟨q, hq1, hq2⟩ := nI_idx (n := 5) (by decide) hb.1 (hb5.mpr hb.2)
      have ei : (5 : Int32) * a + b = nI (5 * p + q) := by
        rw [hp2, hq2, ← nI_add, ← nI_mul]
        rfl
      have ej : (49 : Int32) + (5 : Int32) * a + b = nI (49 + (5 * p + q)) := by
        rw [hp2, hq2, ← nI_add, ← nI_add, ← nI_mul, Int32.add_assoc]
        rfl
      refine ⟨τ.1 1 (49 + (5 * p + q)), ?_, ?_, hJ⟩
      · unfold fX8_policy
        rw [cp]
        show (if b < 0 then _ else if b < 5 then _ else _) = _
        rw [if_neg (Int32.not_lt.mpr hb.1), if_pos (hb5.mpr hb.2)]
        unfold fX2_ofPolicy
        rw [ei, sn_in_nI (by omega) (by omega), gd_T, nI_clamp (by omega)]
        exact congrArg some (hH.2.2.2.2.1 (5 * p + q) (by omega))
      · unfold fX9_policy
        rw [mp]
        show (fX9_in b.toInt64 (0 : Int64) (4 : Int64)).bind _ = _
        rw [e2]
        show (fX9_of τ a b).bind _ = _
        unfold fX9_of
        rw [ej, sn_in_nI (by omega) (by omega), gd_T, nI_clamp (by omega)]
        rfl
    · rw [if_neg hb] at e2
      refine ⟨-2, ?_, ?_, hJ⟩
      · unfold fX8_policy
        rw [cp]
        show (if b < 0 then _ else if b < 5 then _ else _) = _
        by_cases h0 : b < 0
        · rw [if_pos h0]
        · rw [if_neg h0, if_neg (fun h => hb ⟨Int32.not_lt.mp h0, hb5.mp h⟩)]
      · unfold fX9_policy
        rw [mp]
        show (fX9_in b.toInt64 (0 : Int64) (4 : Int64)).bind _ = _
        rw [e2]
        rfl
  · rw [if_neg hp] at cp mp
    refine ⟨-2, ?_, ?_, hJ⟩
    · unfold fX8_policy
      rw [cp]
      rfl
    · unfold fX9_policy
      rw [mp]
      rfl
/-! how many rows there are -/
theorem c_howMany (σ : sn_S) : fX6_howMany σ = some ((if σ.1 26 0 = -1 then 0 else 1) + (if σ.1 26 1 = -1 then 0 else 1) + (if σ.1 26 2 = -1 then 0 else 1) + (if σ.1 26 3 = -1 then 0 else 1)) := by
  have step : ∀ (s : Nat) (x : Int32), s < 4 → LX6_howMany_4 σ (x, nI s) = some (.inl (x + (if σ.1 26 s = -1 then 0 else 1), nI (s + 1))) := fun s x hs => by
    unfold LX6_howMany_4 BX6_howMany_4
    rw [if_neg (show ¬ (4 : Int32) ≤ nI s from nI_ge (b := 4) hs (by decide))]
    show (fX6_has σ (nI s)).bind _ = _
    rw [c_has σ hs, ← nI_1]
    by_cases h : σ.1 26 s = -1
    · rw [if_pos h]
      rfl
    · rw [if_neg h]
      rfl
  have last : ∀ x : Int32, LX6_howMany_4 σ (x, nI 4) = some (.inr x) := fun x => by
    unfold LX6_howMany_4 BX6_howMany_4
    rw [if_pos (show (4 : Int32) ≤ nI 4 by decide)]
  unfold fX6_howMany
  have e : sn_it (LX6_howMany_4 σ) 5000 ((0 : Int32), (0 : Int32)) = some ((if σ.1 26 0 = -1 then 0 else 1) + (if σ.1 26 1 = -1 then 0 else 1) + (if σ.1 26 2 = -1 then 0 else 1) + (if σ.1 26 3 = -1 then 0 else 1)) := by
    show sn_it (LX6_howMany_4 σ) (4995 + 5) ((0 : Int32), nI 0) = _
    unfold sn_it
    rw [step 0 _ (by decide)]
    dsimp only
    unfold sn_it
    rw [step 1 _ (by decide)]
    dsimp only
    unfold sn_it
    rw [step 2 _ (by decide)]
    dsimp only
    unfold sn_it
    rw [step 3 _ (by decide)]
    dsimp only
    unfold sn_it
    rw [last]
    dsimp only
    rw [Int32.zero_add]
  rw [e]
  rfl
