theorem c_has (σ : sn_S) {s : Nat} (hs : s < 4) : fX6_has σ (nI s) = some (if σ.1 26 s = -1 then 0 else 1) := by
  unfold fX6_has
  rw [sn_in_nI hs (by decide), gd_T, nI_clamp (by omega)]
  show (if σ.1 26 s = -1 then _ else _) = _
  by_cases h : σ.1 26 s = -1
  · rw [if_pos h, if_pos h]
    rfl
  · rw [if_neg h, if_neg h]
    rfl
/-- what a width keeps of a number -/
def sp_keep (w : Int32) (v : Int64) : Int64 := if w = 0 then v.toInt32.toInt8.toInt32.toInt64 else if w = 1 then v.toInt32.toInt16.toInt32.toInt64 else if w = 2 then v.toInt32.toInt64 else v
theorem c_put (σ : sn_S) {s i : Nat} (hs : s < 4) (hi : i < 60) (v : Int64) : fX6_put σ (nI s) (nI i) v = some (sn_pL σ (21 + s) i (sp_keep (σ.1 25 s) v)) := by
  unfold fX6_put
  simp only [sn_in_nI hs (by decide), sn_in_nI hi (by decide), gd_T, sn_lt, nI_clamp (show s < 2 ^ 31 by omega), nI_clamp (show i < 2 ^ 31 by omega), at20 hs]
  show (if σ.1 25 s = 0 then _ else if σ.1 25 s = 1 then _ else if σ.1 25 s = 2 then _ else _) = _
  unfold sp_keep
  split
  · rfl
  · split
    · rfl
    · split <;> rfl
theorem m_cut {w : Int32} (h : 0 ≤ w ∧ w ≤ 3) (v : Int64) : fX9_cut_ v w = some (sp_keep w v) := by
  obtain ⟨k, hk, rfl⟩ := nI_idx (n := 4) (by decide) h.1 (by
    have := h.2
    rw [Int32.le_iff_toInt_le] at this
    rw [Int32.lt_iff_toInt_lt]
    exact Int.lt_of_le_of_lt this (by decide))
  unfold fX9_cut_ sn_lt
  match k, hk with
  | 0, _ => exact congrArg some ((cut8 v).trans (by simp [sp_keep, nI_0]))
  | 1, _ => exact congrArg some ((cut16 v).trans (by rw [sp_keep, if_neg (by decide), if_pos (by decide)]))
  | 2, _ => exact congrArg some ((cut32 v).trans (by rw [sp_keep, if_neg (by decide), if_neg (by decide), if_pos (by decide)]))
  | 3, _ =>
    refine congrArg some ?_
    rw [sp_keep, if_neg (by decide), if_neg (by decide), if_neg (by decide)]
    show (v <<< (0 : Int64)) >>> (0 : Int64) = v
    apply Int64.toBitVec_inj.mp
    simp
theorem st70 : st_70 J := by
  intro σ τ a i v hJ
  have hS := hJ.2.2.1
  have cs := c_isSlot a
  have ms := m_isSlot a
  by_cases hs : 0 ≤ a ∧ a < 4
  · rw [if_pos hs] at cs ms
    obtain ⟨s, hs4, ea⟩ := nI_idx (n := 4) (by decide) hs.1 hs.2
    subst ea
    obtain ⟨b1, b2, b3, b4⟩ := hS.1 s hs4
    have ch := c_has σ hs4
    by_cases hm : σ.1 26 s = -1
    · rw [if_pos hm] at ch
      refine ⟨-6, σ, τ, ?_, ?_, hJ⟩
      · unfold fX8_write
        rw [cs]
        show (fX6_has σ (nI s)).bind _ = _
        rw [ch]
        rfl
      · unfold fX9_write
        rw [ms]
        show sn_gd (sn_in (nI s) 4) (if τ.1 21 (nI s).toNatClampNeg = -1 then _ else _) = _
        rw [sn_in_nI hs4 (by decide), gd_T, nI_clamp (by omega), if_pos (by rw [← b1]; exact hm)]
    · rw [if_neg hm] at ch
      have hge : 0 ≤ σ.1 26 s := by
        have q1 := Int32.le_iff_toInt_le.mp b3.1
        have q2 : σ.1 26 s ≠ -1 := hm
        rw [Int32.le_iff_toInt_le]
        have q3 : (σ.1 26 s).toInt ≠ (-1 : Int32).toInt := fun z => q2 (Int32.toInt_inj.mp z)
        have e1 : (-1 : Int32).toInt = -1 := by decide
        have e0 : (0 : Int32).toInt = 0 := by decide
        omega
      have mi : fX9_in i.toInt64 (0 : Int64) ((sn_I τ 21 (nI s).toNatClampNeg - 1).toInt64) = some (if 0 ≤ i ∧ i < σ.1 26 s then 1 else 0) := by
        rw [nI_clamp (by omega)]
        show fX9_in i.toInt64 (0 : Int32).toInt64 ((τ.1 21 s - 1).toInt64) = _
        rw [in_eq32, ← b1]
        simp only [i32_le_sub1 hge]
      by_cases hi : 0 ≤ i ∧ i < σ.1 26 s
      · rw [if_pos hi] at mi
        obtain ⟨k, hk, ek⟩ := nI_idx (n := 60) (by decide) hi.1 (by
          have q1 := Int32.le_iff_toInt_le.mp b3.2
          have q2 := Int32.lt_iff_toInt_lt.mp hi.2
          rw [Int32.lt_iff_toInt_lt]
          exact Int.lt_of_lt_of_le q2 q1)
        subst ek
        refine ⟨0, sn_pL σ (21 + s) k (sp_keep (σ.1 25 s) v), sn_pL τ 23 (60 * s + k) (sp_keep (σ.1 25 s) v), ?_, ?_, ?_⟩
        · unfold fX8_write
          rw [cs]
          show (fX6_has σ (nI s)).bind _ = _
          rw [ch]
          show (if nI k < 0 then _ else sn_gd (sn_in (nI s) 4) (if nI k < σ.1 26 (nI s).toNatClampNeg then _ else _)) = _
          rw [if_neg (Int32.not_lt.mpr hi.1), sn_in_nI hs4 (by decide), gd_T, nI_clamp (show s < 2 ^ 31 by omega), if_pos hi.2, c_put σ hs4 hk v]
          rfl
        · have ei : (60 : Int32) * nI s + nI k = nI (60 * s + k) := by
            rw [← nI_add, ← nI_mul]
            rfl
          unfold fX9_write
          rw [ms]
          show sn_gd (sn_in (nI s) 4) (if τ.1 21 (nI s).toNatClampNeg = -1 then _ else sn_gd (sn_in (nI s) 4) ((fX9_in (nI k).toInt64 (0 : Int64) ((sn_I τ 21 (nI s).toNatClampNeg - 1).toInt64)).bind _)) = _
          rw [sn_in_nI hs4 (by decide), gd_T, gd_T, mi, nI_clamp (show s < 2 ^ 31 by omega), if_neg (by rw [← b1]; exact hm)]
          rw [Option.bind_some, if_neg (show ¬ (1 : Int32) = 0 by decide), gd_T]
          show (fX9_cut_ v (τ.1 22 s)).bind _ = _
          rw [← b2, m_cut b4 v]
          show sn_gd (sn_in ((60 : Int32) * nI s + nI k) 240) (some (0, sn_pL τ 23 ((60 : Int32) * nI s + nI k).toNatClampNeg (sp_keep (σ.1 25 s) v))) = _
          rw [ei, sn_in_nI (by omega) (by decide), gd_T, nI_clamp (by omega)]
        · refine J_rows (σ := σ) (τ := τ) (σ' := sn_pL σ (21 + s) k (sp_keep (σ.1 25 s) v)) (τ' := sn_pL τ 23 (60 * s + k) (sp_keep (σ.1 25 s) v)) ⟨hS.1, fun t ht => ?_⟩ (fun q q1 q2 => rfl) (fun q q1 q2 => rfl) hJ
          obtain ⟨d1, d2, d3, d4⟩ := hS.2 t ht
          have key : ∀ (A B : Prop) [Decidable A] [Decidable B] (x y z : Int64), (A ↔ B) → y = z → (if A then x else y) = (if B then x else z) := fun A B _ _ x y z h e => by
            by_cases hA : A
            · rw [if_pos hA, if_pos (h.mp hA)]
            · rw [if_neg hA, if_neg (fun z => hA (h.mpr z)), e]
          exact ⟨key _ _ _ _ _ (by omega) d1, key _ _ _ _ _ (by omega) d2, key _ _ _ _ _ (by omega) d3, key _ _ _ _ _ (by omega) d4⟩
      · rw [if_neg hi] at mi
        refine ⟨-7, σ, τ, ?_, ?_, hJ⟩
        · unfold fX8_write
          rw [cs]
          show (fX6_has σ (nI s)).bind _ = _
          rw [ch]
          show (if i < 0 then _ else sn_gd (sn_in (nI s) 4) (if i < σ.1 26 (nI s).toNatClampNeg then _ else _)) = _
          rw [sn_in_nI hs4 (by decide), gd_T, nI_clamp (show s < 2 ^ 31 by omega)]
          by_cases h0 : i < 0
          · rw [if_pos h0]
          · rw [if_neg h0, if_neg (fun h => hi ⟨Int32.not_lt.mp h0, h⟩)]
        · unfold fX9_write
          rw [ms]
          show sn_gd (sn_in (nI s) 4) (if τ.1 21 (nI s).toNatClampNeg = -1 then _ else sn_gd (sn_in (nI s) 4) ((fX9_in i.toInt64 (0 : Int64) ((sn_I τ 21 (nI s).toNatClampNeg - 1).toInt64)).bind _)) = _
          rw [sn_in_nI hs4 (by decide), gd_T, gd_T, mi, nI_clamp (show s < 2 ^ 31 by omega), if_neg (by rw [← b1]; exact hm)]
          rfl
  · rw [if_neg hs] at cs ms
    refine ⟨-2, σ, τ, ?_, ?_, hJ⟩
    · unfold fX8_write
      rw [cs]
      rfl
    · unfold fX9_write
      rw [ms]
      rfl
