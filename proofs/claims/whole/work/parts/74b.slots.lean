theorem at20 {s : Nat} (h : s < 4) : sn_at sn_rs20 (nI s) = 21 + s := by
  match s, h with
  | 0, _ => rfl
  | 1, _ => rfl
  | 2, _ => rfl
  | 3, _ => rfl
theorem st69 : st_69 J := by
  intro σ τ a w n hJ
  have hS := hJ.2.2.1
  have cs := c_isSlot a
  have ms := m_isSlot a
  have mi : fX9_in w.toInt64 (0 : Int64) (3 : Int64) = some (if 0 ≤ w ∧ w ≤ 3 then 1 else 0) := in_eq32 w 0 3
  by_cases hs : 0 ≤ a ∧ a < 4
  · rw [if_pos hs] at cs ms
    by_cases hw : 0 ≤ w ∧ w ≤ 3
    · rw [if_pos hw] at mi
      by_cases hn : n ≤ 60
      · by_cases hn0 : 0 ≤ n
        · obtain ⟨s, hs4, ea⟩ := nI_idx (n := 4) (by decide) hs.1 hs.2
          subst ea
          have emake : fX6_make σ (nI s) w n = some ((sn_pI (sn_pI σ 25 s w) 26 s n).1, (fun a b => if a = 21 + s ∧ b < 60 then 0 else σ.2.1 a b), σ.2.2) := by
            unfold fX6_make
            simp only [sn_in_nI hs4 (by decide), gd_T, sn_lt, nI_clamp (show s < 2 ^ 31 by omega), at20 hs4]
            rw [fillL _ _ _ _ (by decide)]
            rfl
          refine ⟨0, ((sn_pI (sn_pI σ 25 s w) 26 s n).1, (fun a b => if a = 21 + s ∧ b < 60 then 0 else σ.2.1 a b), σ.2.2), ((sn_pI (sn_pI τ 21 s n) 22 s w).1, (fun a b => if a = 23 ∧ 60 * s ≤ b ∧ b < 60 * s + 60 then 0 else τ.2.1 a b), τ.2.2), ?_, ?_, ?_⟩
          · unfold fX8_row
            rw [cs]
            show (if w < 0 then _ else if 3 < w then _ else if n ≤ 60 then _ else _) = _
            rw [if_neg (Int32.not_lt.mpr hw.1), if_neg (Int32.not_lt.mpr hw.2), if_pos hn, if_pos hn0, emake]
            rfl
          · unfold fX9_row
            rw [ms]
            show (fX9_in w.toInt64 (0 : Int64) (3 : Int64)).bind _ = _
            rw [mi]
            show (if n ≤ 60 then (if 0 ≤ n then _ else _) else _) = _
            rw [if_pos hn, if_pos hn0]
            simp only [sn_in_nI hs4 (by decide), gd_T, sn_lt, nI_clamp (show s < 2 ^ 31 by omega)]
            rw [m_rowzero _ s hs4]
            rfl
          · refine J_rows ?_ (fun q q1 q2 => ?_) (fun q q1 q2 => ?_) hJ
            · refine ⟨fun t ht => ?_, fun i hi => ?_⟩
              · obtain ⟨b1, b2, b3, b4⟩ := hS.1 t ht
                show (if 26 = 26 ∧ t = s then n else if 26 = 25 ∧ t = s then w else σ.1 26 t) = (if 21 = 22 ∧ t = s then w else if 21 = 21 ∧ t = s then n else τ.1 21 t) ∧ (if 25 = 26 ∧ t = s then n else if 25 = 25 ∧ t = s then w else σ.1 25 t) = (if 22 = 22 ∧ t = s then w else if 22 = 21 ∧ t = s then n else τ.1 22 t) ∧ (-1 ≤ (if 26 = 26 ∧ t = s then n else if 26 = 25 ∧ t = s then w else σ.1 26 t) ∧ (if 26 = 26 ∧ t = s then n else if 26 = 25 ∧ t = s then w else σ.1 26 t) ≤ 60) ∧ (0 ≤ (if 25 = 26 ∧ t = s then n else if 25 = 25 ∧ t = s then w else σ.1 25 t) ∧ (if 25 = 26 ∧ t = s then n else if 25 = 25 ∧ t = s then w else σ.1 25 t) ≤ 3)
                by_cases hts : t = s
                · simp [hts, hn, hw.1, hw.2, Int32.le_trans (show (-1 : Int32) ≤ 0 by decide) hn0]
                · simp [hts, b1, b2, b3, b4]
                  rw [← b1, ← b2]
                  exact ⟨b3, b4⟩
              · obtain ⟨b1, b2, b3, b4⟩ := hS.2 i hi
                show (if 21 = 21 + s ∧ i < 60 then (0 : Int64) else σ.2.1 21 i) = (if 23 = 23 ∧ 60 * s ≤ i ∧ i < 60 * s + 60 then 0 else τ.2.1 23 i) ∧ (if 22 = 21 + s ∧ i < 60 then (0 : Int64) else σ.2.1 22 i) = (if 23 = 23 ∧ 60 * s ≤ 60 + i ∧ 60 + i < 60 * s + 60 then 0 else τ.2.1 23 (60 + i)) ∧ (if 23 = 21 + s ∧ i < 60 then (0 : Int64) else σ.2.1 23 i) = (if 23 = 23 ∧ 60 * s ≤ 120 + i ∧ 120 + i < 60 * s + 60 then 0 else τ.2.1 23 (120 + i)) ∧ (if 24 = 21 + s ∧ i < 60 then (0 : Int64) else σ.2.1 24 i) = (if 23 = 23 ∧ 60 * s ≤ 180 + i ∧ 180 + i < 60 * s + 60 then 0 else τ.2.1 23 (180 + i))
                rw [← b1, ← b2, ← b3, ← b4]
                have key : ∀ (A B : Prop) [Decidable A] [Decidable B] (x : Int64), (A ↔ B) → (if A then (0 : Int64) else x) = (if B then 0 else x) := fun A B _ _ x h => by
                  by_cases hA : A
                  · rw [if_pos hA, if_pos (h.mp hA)]
                  · rw [if_neg hA, if_neg (fun z => hA (h.mpr z))]
                exact ⟨key _ _ _ (by omega), key _ _ _ (by omega), key _ _ _ (by omega), key _ _ _ (by omega)⟩
            · show (sn_pI (sn_pI σ 25 s w) 26 s n).1 q = σ.1 q
              rw [pI_ne q2, pI_ne q1]
            · show (sn_pI (sn_pI τ 21 s n) 22 s w).1 q = τ.1 q
              rw [pI_ne q2, pI_ne q1]
        · refine ⟨-3, σ, τ, ?_, ?_, hJ⟩
          · unfold fX8_row
            rw [cs]
            show (if w < 0 then _ else if 3 < w then _ else if n ≤ 60 then _ else _) = _
            rw [if_neg (Int32.not_lt.mpr hw.1), if_neg (Int32.not_lt.mpr hw.2), if_pos hn, if_neg hn0]
          · unfold fX9_row
            rw [ms]
            show (fX9_in w.toInt64 (0 : Int64) (3 : Int64)).bind _ = _
            rw [mi]
            show (if n ≤ 60 then (if 0 ≤ n then _ else _) else _) = _
            rw [if_pos hn, if_neg hn0]
      · refine ⟨-2, σ, τ, ?_, ?_, hJ⟩
        · unfold fX8_row
          rw [cs]
          show (if w < 0 then _ else if 3 < w then _ else if n ≤ 60 then _ else _) = _
          rw [if_neg (Int32.not_lt.mpr hw.1), if_neg (Int32.not_lt.mpr hw.2), if_neg hn]
        · unfold fX9_row
          rw [ms]
          show (fX9_in w.toInt64 (0 : Int64) (3 : Int64)).bind _ = _
          rw [mi]
          show (if n ≤ 60 then (if 0 ≤ n then _ else _) else _) = _
          rw [if_neg hn]
    · rw [if_neg hw] at mi
      refine ⟨-2, σ, τ, ?_, ?_, hJ⟩
      · unfold fX8_row
        rw [cs]
        show (if w < 0 then _ else if 3 < w then _ else _) = _
        by_cases h0 : w < 0
        · rw [if_pos h0]
        · rw [if_neg h0, if_pos (Int32.not_le.mp (fun h => hw ⟨Int32.not_lt.mp h0, h⟩))]
      · unfold fX9_row
        rw [ms]
        show (fX9_in w.toInt64 (0 : Int64) (3 : Int64)).bind _ = _
        rw [mi]
        rfl
  · rw [if_neg hs] at cs ms
    refine ⟨-2, σ, τ, ?_, ?_, hJ⟩
    · unfold fX8_row
      rw [cs]
      rfl
    · unfold fX9_row
      rw [ms]
      rfl
theorem cut8 (x : Int64) : (x <<< (56 : Int64)) >>> (56 : Int64) = x.toInt32.toInt8.toInt32.toInt64 := by
  apply Int64.toBitVec_inj.mp
  simp
  apply BitVec.eq_of_getLsbD_eq
  intro i hi
  simp [BitVec.getLsbD_sshiftRight, BitVec.getLsbD_signExtend]
  by_cases h8 : i < 8
  · have h1 : 56 + i < 64 := by omega
    have h2 : i < 64 := hi
    have h3 : ¬ 64 ≤ i := by omega
    have h4 : ¬ 56 + i < 56 := by omega
    have h5 : i < 32 := by omega
    simp [h8, h1, h2, h3, h4, h5]
  · have h1 : ¬ 56 + i < 64 := by omega
    have h2 : i < 64 := hi
    have h3 : ¬ 64 ≤ i := by omega
    simp [h8, h1, h2, h3, BitVec.msb_eq_getLsbD_last, BitVec.getLsbD_signExtend, BitVec.getMsbD_eq_getLsbD, BitVec.getElem_signExtend]
theorem cut16 (x : Int64) : (x <<< (48 : Int64)) >>> (48 : Int64) = x.toInt32.toInt16.toInt32.toInt64 := by
  apply Int64.toBitVec_inj.mp
  simp
  apply BitVec.eq_of_getLsbD_eq
  intro i hi
  simp [BitVec.getLsbD_sshiftRight, BitVec.getLsbD_signExtend]
  by_cases h8 : i < 16
  · have h1 : 48 + i < 64 := by omega
    have h2 : i < 64 := hi
    have h3 : ¬ 64 ≤ i := by omega
    have h4 : ¬ 48 + i < 48 := by omega
    have h5 : i < 32 := by omega
    simp [h8, h1, h2, h3, h4, h5]
  · have h1 : ¬ 48 + i < 64 := by omega
    have h2 : i < 64 := hi
    have h3 : ¬ 64 ≤ i := by omega
    simp [h8, h1, h2, h3, BitVec.msb_eq_getLsbD_last, BitVec.getLsbD_signExtend, BitVec.getMsbD_eq_getLsbD, BitVec.getElem_signExtend]
theorem cut32 (x : Int64) : (x <<< (32 : Int64)) >>> (32 : Int64) = x.toInt32.toInt64 := by
  apply Int64.toBitVec_inj.mp
  simp
  apply BitVec.eq_of_getLsbD_eq
  intro i hi
  simp [BitVec.getLsbD_sshiftRight, BitVec.getLsbD_signExtend]
  by_cases h8 : i < 32
  · have h1 : 32 + i < 64 := by omega
    have h2 : i < 64 := hi
    have h3 : ¬ 64 ≤ i := by omega
    have h4 : ¬ 32 + i < 32 := by omega
    have h5 : i < 32 := by omega
    simp [h8, h1, h2, h3, h4, h5]
  · have h1 : ¬ 32 + i < 64 := by omega
    have h2 : i < 64 := hi
    have h3 : ¬ 64 ≤ i := by omega
    simp [h8, h1, h2, h3, BitVec.msb_eq_getLsbD_last, BitVec.getLsbD_signExtend, BitVec.getMsbD_eq_getLsbD, BitVec.getElem_signExtend]
