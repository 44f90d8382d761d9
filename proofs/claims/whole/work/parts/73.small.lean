/-! numbers of 32 bits that are small -/
theorem i32_sub1 {v : Int32} (h : 0 ≤ v) : (v - 1).toInt = v.toInt - 1 := by
  have h1 : 0 ≤ v.toInt := by have := Int32.le_iff_toInt_le.mp h; simpa using this
  have h2 : v.toInt < 2 ^ 31 := Int32.toInt_lt v
  rw [Int32.toInt_sub]
  show (v.toInt - 1).bmod (2 ^ 32) = _
  exact Int.bmod_eq_of_le (by omega) (by omega)
theorem i32_le_sub1 {a v : Int32} (h : 0 ≤ v) : a ≤ v - 1 ↔ a < v := by
  rw [Int32.le_iff_toInt_le, Int32.lt_iff_toInt_lt, i32_sub1 h]
  omega
theorem nI_ofc {a : Int32} (h : 0 ≤ a) : a = nI a.toNatClampNeg := by
  have h1 : 0 ≤ a.toInt := by have := Int32.le_iff_toInt_le.mp h; simpa using this
  have h2 : a.toInt < 2 ^ 31 := Int32.toInt_lt a
  apply Int32.toInt_inj.mp
  have h3 : a.toNatClampNeg = a.toInt.toNat := rfl
  rw [nI_toInt (by omega), h3]
  omega
theorem nI_mul (a b : Nat) : nI a * nI b = nI (a * b) := (Int32.ofNat_mul a b).symm
/-- a number that names one of n things, n small -/
theorem nI_idx {a : Int32} {n : Nat} (hn : n < 2 ^ 31) (h0 : 0 ≤ a) (h1 : a < nI n) : ∃ k, k < n ∧ a = nI k := by
  refine ⟨a.toNatClampNeg, ?_, nI_ofc h0⟩
  have h2 := Int32.lt_iff_toInt_lt.mp h1
  have h3 : 0 ≤ a.toInt := by have := Int32.le_iff_toInt_le.mp h0; simpa using this
  rw [nI_toInt hn] at h2
  have h4 : a.toNatClampNeg = a.toInt.toNat := rfl
  omega
theorem gd_T {α : Type} {k : Option α} : sn_gd true k = k := rfl
/-! who and what there is -/
theorem c_isPerson (σ : sn_S) (a : Int32) : fX8_isPerson σ a = some (if 0 ≤ a ∧ a < σ.1 2 5 then 1 else 0) := by
  unfold fX8_isPerson
  by_cases h0 : a < 0
  · rw [if_pos h0, if_neg (fun h => absurd h0 (Int32.not_lt.mpr h.1))]
    rfl
  · rw [if_neg h0]
    show (if σ.1 2 5 ≤ a then _ else _) = _
    by_cases h1 : σ.1 2 5 ≤ a
    · rw [if_pos h1, if_neg (fun h => absurd h.2 (Int32.not_lt.mpr h1))]
      rfl
    · rw [if_neg h1, if_pos ⟨Int32.not_lt.mp h0, Int32.not_le.mp h1⟩]
      rfl
theorem m_isPerson {τ : sn_S} (h5 : 0 ≤ τ.1 1 5) (a : Int32) : fX9_isPerson τ a.toInt64 = some (if 0 ≤ a ∧ a < τ.1 1 5 then 1 else 0) := by
  unfold fX9_isPerson
  show (fX9_in a.toInt64 (0 : Int32).toInt64 ((τ.1 1 5 - 1).toInt64)).bind _ = _
  rw [in_eq32]
  simp only [i32_le_sub1 h5]
  split <;> rfl
theorem jW_cnt {w : Nat → Int32} (h : jW w) {k : Nat} (hk : k < 11) : 0 ≤ w k := by
  have h1 := h.1 k hk
  have h2 : sp_n w k ≤ 999 := by
    obtain ⟨-, b, -⟩ := h
    match k, hk with
    | 0, _ => omega
    | 1, _ => omega
    | 2, _ => omega
    | 3, _ => omega
    | 4, _ => omega
    | 5, _ => omega
    | 6, _ => omega
    | 7, _ => omega
    | 8, _ => omega
    | 9, _ => omega
    | 10, _ => omega
  rw [h1]
  exact nI_pos' (by omega)
theorem st4 : st_4 J := by
  intro σ τ a b hJ
  obtain ⟨-, -, -, hW, hH, -⟩ := id hJ
  have h5 : 0 ≤ τ.1 1 5 := jW_cnt hW (by decide)
  have e5 : σ.1 2 5 = τ.1 1 5 := hH.1 5 (by decide)
  have cp := c_isPerson σ a
  have mp := m_isPerson h5 a
  rw [e5] at cp
  by_cases hp : 0 ≤ a ∧ a < τ.1 1 5
  · rw [if_pos hp] at cp mp
    have e2 : fX9_in b.toInt64 (0 : Int64) (1 : Int64) = some (if 0 ≤ b ∧ b ≤ 1 then 1 else 0) := in_eq32 b 0 1
    by_cases hb : 0 ≤ b ∧ b ≤ 1
    · rw [if_pos hb] at e2
      have hn5 : sp_n (τ.1 1) 5 ≤ 6 := hW.2.1.2.2.2.2.2.1
      obtain ⟨p, hp1, hp2⟩ := nI_idx (n := sp_n (τ.1 1) 5) (by omega) hp.1 (by rw [← hW.1 5 (by decide)]; exact hp.2)
      obtain ⟨q, hq1, hq2⟩ := nI_idx (n := 2) (by decide) hb.1 (by
        have := hb.2
        rw [Int32.le_iff_toInt_le] at this
        rw [Int32.lt_iff_toInt_lt]
        exact Int.lt_of_le_of_lt this (by decide))
      have ei : (2 : Int32) * a + b = nI (2 * p + q) := by
        rw [hp2, hq2, ← nI_add, ← nI_mul]
        rfl
      have ej : (11 : Int32) + (2 : Int32) * a + b = nI (11 + (2 * p + q)) := by
        rw [hp2, hq2, ← nI_add, ← nI_add, ← nI_mul, Int32.add_assoc]
        rfl
      refine ⟨τ.1 1 (11 + (2 * p + q)), ?_, ?_, hJ⟩
      · unfold fX8_nose
        rw [cp]
        show (if b < 0 then _ else if b ≤ 1 then _ else _) = _
        rw [if_neg (Int32.not_lt.mpr hb.1), if_pos hb.2, ei, sn_in_nI (by omega) (by omega), gd_T, nI_clamp (by omega)]
        exact congrArg some (hH.2.1 (2 * p + q) (by omega))
      · unfold fX9_nose
        rw [mp]
        show (fX9_in b.toInt64 (0 : Int64) (1 : Int64)).bind _ = _
        rw [e2]
        show sn_gd (sn_in ((11 : Int32) + (2 : Int32) * a + b) 119) (some (sn_I τ 1 ((11 : Int32) + (2 : Int32) * a + b).toNatClampNeg)) = _
        rw [ej, sn_in_nI (by omega) (by omega), gd_T, nI_clamp (by omega)]
        rfl
    · rw [if_neg hb] at e2
      refine ⟨-2, ?_, ?_, hJ⟩
      · unfold fX8_nose
        rw [cp]
        show (if b < 0 then _ else if b ≤ 1 then _ else _) = _
        by_cases h0 : b < 0
        · rw [if_pos h0]
        · rw [if_neg h0, if_neg (fun h => hb ⟨Int32.not_lt.mp h0, h⟩)]
      · unfold fX9_nose
        rw [mp]
        show (fX9_in b.toInt64 (0 : Int64) (1 : Int64)).bind _ = _
        rw [e2]
        rfl
  · rw [if_neg hp] at cp mp
    refine ⟨-2, ?_, ?_, hJ⟩
    · unfold fX8_nose
      rw [cp]
      rfl
    · unfold fX9_nose
      rw [mp]
      rfl
