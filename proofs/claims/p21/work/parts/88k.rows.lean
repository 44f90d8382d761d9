/-! the rows of numbers: the houses stay alike -/
theorem zJ_69 : ∀ (σ τ : sn_S) (a w n : Int32), zJ σ τ → ∃ r σ1 τ1, fX8_row σ a w n = some (r, σ1) ∧ fX9_row τ a w n = some (r, τ1) ∧ zJ σ1 τ1 := by
  intro σ τ a w n hJ
  have hS := hJ.1.2.2.2.2
  have cs := c_isSlot a
  have ms := m_isSlot a
  have mi : fX9_in w.toInt64 (0 : Int64) (3 : Int64) = some (if 0 ≤ w ∧ w ≤ 3 then 1 else 0) := in_eq32 w 0 3
  by_cases hs : 0 ≤ a ∧ a < 4
  · rw [if_pos hs] at cs ms
    by_cases hw : 0 ≤ w ∧ w ≤ 3
    · rw [if_pos hw] at mi
      by_cases hn : n ≤ 60
      · by_cases hn0 : 0 ≤ n
        · obtain ⟨s, hs4, ea⟩ := nI_idx (n := 4) (by decide) hs.1 hs.2
          subst ea
          have emake : fX6_make σ (nI s) w n = some ((sn_pI (sn_pI σ 25 s w) 26 s n).1, (fun a b => if a = 21 + s ∧ b < 60 then 0 else σ.2.1 a b), σ.2.2) := by
            unfold fX6_make
            simp only [sn_in_nI hs4 (by decide), gd_T, sn_lt, nI_clamp (show s < 2 ^ 31 by omega), at20 hs4]
            rw [fillL _ _ _ _ (by decide)]
            rfl
          refine ⟨0, ((sn_pI (sn_pI σ 25 s w) 26 s n).1, (fun a b => if a = 21 + s ∧ b < 60 then 0 else σ.2.1 a b), σ.2.2), ((sn_pI (sn_pI τ 21 s n) 22 s w).1, (fun a b => if a = 23 ∧ 60 * s ≤ b ∧ b < 60 * s + 60 then 0 else τ.2.1 a b), τ.2.2), ?_, ?_, ?_⟩
          · unfold fX8_row
            rw [cs]
            show (if w < 0 then _ else if 3 < w then _ else if n ≤ 60 then _ else _) = _
            rw [if_neg (Int32.not_lt.mpr hw.1), if_neg (Int32.not_lt.mpr hw.2), if_pos hn, if_pos hn0, emake]
            rfl
          · unfold fX9_row
            rw [ms]
            show (fX9_in w.toInt64 (0 : Int64) (3 : Int64)).bind _ = _
            rw [mi]
            show (if n ≤ 60 then (if 0 ≤ n then _ else _) else _) = _
            rw [if_pos hn, if_pos hn0]
            simp only [sn_in_nI hs4 (by decide), gd_T, sn_lt, nI_clamp (show s < 2 ^ 31 by omega)]
            rw [m_rowzero _ s hs4]
            rfl
          · have w1 := zs_I_le hw.1
            have w2 := zs_I_le hw.2
            have n1 := zs_I_le hn
            have n2 := zs_I_le hn0
            have e0 : (0 : Int32).toInt = 0 := by decide
            have e3 : (3 : Int32).toInt = 3 := by decide
            have e60 : (60 : Int32).toInt = 60 := by decide
            have bC : zs_SB zs_tC (sn_pI (sn_pI σ 25 s w) 26 s n) := zs_sbw (zs_sbw hJ.1.1 (by rw [show zs_tC 25 s = (0, 3) from rfl]; exact ⟨by omega, by omega⟩)) (by rw [show zs_tC 26 s = (-1, 60) from rfl]; exact ⟨by omega, by omega⟩)
            have bM : zs_SB zs_tM (sn_pI (sn_pI τ 21 s n) 22 s w) := zs_sbw (zs_sbw hJ.1.2.1 (by rw [show zs_tM 21 s = (-1, 60) from rfl]; exact ⟨by omega, by omega⟩)) (by rw [show zs_tM 22 s = (0, 3) from rfl]; exact ⟨by omega, by omega⟩)
            refine zJ_rows ?_ (fun q q1 q2 => ?_) (fun q q1 q2 => ?_) bC bM hJ
            · refine ⟨fun t ht => ?_, fun i hi => ?_⟩
              · obtain ⟨b1, b2, b3, b4⟩ := hS.1 t ht
                show (if 26 = 26 ∧ t = s then n else if 26 = 25 ∧ t = s then w else σ.1 26 t) = (if 21 = 22 ∧ t = s then w else if 21 = 21 ∧ t = s then n else τ.1 21 t) ∧ (if 25 = 26 ∧ t = s then n else if 25 = 25 ∧ t = s then w else σ.1 25 t) = (if 22 = 22 ∧ t = s then w else if 22 = 21 ∧ t = s then n else τ.1 22 t) ∧ (-1 ≤ (if 26 = 26 ∧ t = s then n else if 26 = 25 ∧ t = s then w else σ.1 26 t) ∧ (if 26 = 26 ∧ t = s then n else if 26 = 25 ∧ t = s then w else σ.1 26 t) ≤ 60) ∧ (0 ≤ (if 25 = 26 ∧ t = s then n else if 25 = 25 ∧ t = s then w else σ.1 25 t) ∧ (if 25 = 26 ∧ t = s then n else if 25 = 25 ∧ t = s then w else σ.1 25 t) ≤ 3)
                by_cases hts : t = s
                · simp [hts, hn, hw.1, hw.2, Int32.le_trans (show (-1 : Int32) ≤ 0 by decide) hn0]
                · simp [hts, b1, b2, b3, b4]
                  rw [← b1, ← b2]
                  exact ⟨b3, b4⟩
              · obtain ⟨b1, b2, b3, b4⟩ := hS.2 i hi
                show (if 21 = 21 + s ∧ i < 60 then (0 : Int64) else σ.2.1 21 i) = (if 23 = 23 ∧ 60 * s ≤ i ∧ i < 60 * s + 60 then 0 else τ.2.1 23 i) ∧ (if 22 = 21 + s ∧ i < 60 then (0 : Int64) else σ.2.1 22 i) = (if 23 = 23 ∧ 60 * s ≤ 60 + i ∧ 60 + i < 60 * s + 60 then 0 else τ.2.1 23 (60 + i)) ∧ (if 23 = 21 + s ∧ i < 60 then (0 : Int64) else σ.2.1 23 i) = (if 23 = 23 ∧ 60 * s ≤ 120 + i ∧ 120 + i < 60 * s + 60 then 0 else τ.2.1 23 (120 + i)) ∧ (if 24 = 21 + s ∧ i < 60 then (0 : Int64) else σ.2.1 24 i) = (if 23 = 23 ∧ 60 * s ≤ 180 + i ∧ 180 + i < 60 * s + 60 then 0 else τ.2.1 23 (180 + i))
                rw [← b1, ← b2, ← b3, ← b4]
                have key : ∀ (A B : Prop) [Decidable A] [Decidable B] (x : Int64), (A ↔ B) → (if A then (0 : Int64) else x) = (if B then 0 else x) := fun A B _ _ x h => by
                  by_cases hA : A
                  · rw [if_pos hA, if_pos (h.mp hA)]
                  · rw [if_neg hA, if_neg (fun z => hA (h.mpr z))]
                exact ⟨key _ _ _ (by omega), key _ _ _ (by omega), key _ _ _ (by omega), key _ _ _ (by omega)⟩
            · show (sn_pI (sn_pI σ 25 s w) 26 s n).1 q = σ.1 q
              rw [pI_ne q2, pI_ne q1]
            · show (sn_pI (sn_pI τ 21 s n) 22 s w).1 q = τ.1 q
              rw [pI_ne q2, pI_ne q1]
        · refine ⟨-3, σ, τ, ?_, ?_, hJ⟩
          · unfold fX8_row
            rw [cs]
            show (if w < 0 then _ else if 3 < w then _ else if n ≤ 60 then _ else _) = _
            rw [if_neg (Int32.not_lt.mpr hw.1), if_neg (Int32.not_lt.mpr hw.2), if_pos hn, if_neg hn0]
          · unfold fX9_row
            rw [ms]
            show (fX9_in w.toInt64 (0 : Int64) (3 : Int64)).bind _ = _
            rw [mi]
            show (if n ≤ 60 then (if 0 ≤ n then _ else _) else _) = _
            rw [if_pos hn, if_neg hn0]
      · refine ⟨-2, σ, τ, ?_, ?_, hJ⟩
        · unfold fX8_row
          rw [cs]
          show (if w < 0 then _ else if 3 < w then _ else if n ≤ 60 then _ else _) = _
          rw [if_neg (Int32.not_lt.mpr hw.1), if_neg (Int32.not_lt.mpr hw.2), if_neg hn]
        · unfold fX9_row
          rw [ms]
          show (fX9_in w.toInt64 (0 : Int64) (3 : Int64)).bind _ = _
          rw [mi]
          show (if n ≤ 60 then (if 0 ≤ n then _ else _) else _) = _
          rw [if_neg hn]
    · rw [if_neg hw] at mi
      refine ⟨-2, σ, τ, ?_, ?_, hJ⟩
      · unfold fX8_row
        rw [cs]
        show (if w < 0 then _ else if 3 < w then _ else _) = _
        by_cases h0 : w < 0
        · rw [if_pos h0]
        · rw [if_neg h0, if_pos (Int32.not_le.mp (fun h => hw ⟨Int32.not_lt.mp h0, h⟩))]
      · unfold fX9_row
        rw [ms]
        show (fX9_in w.toInt64 (0 : Int64) (3 : Int64)).bind _ = _
        rw [mi]
        rfl
  · rw [if_neg hs] at cs ms
    refine ⟨-2, σ, τ, ?_, ?_, hJ⟩
    · unfold fX8_row
      rw [cs]
      rfl
    · unfold fX9_row
      rw [ms]
      rfl
theorem zJ_70 : ∀ (σ τ : sn_S) (a i : Int32) (v : Int64), zJ σ τ → ∃ r σ1 τ1, fX8_write σ a i v = some (r, σ1) ∧ fX9_write τ a i v = some (r, τ1) ∧ zJ σ1 τ1 := by
  intro σ τ a i v hJ
  have hS := hJ.1.2.2.2.2
  have cs := c_isSlot a
  have ms := m_isSlot a
  by_cases hs : 0 ≤ a ∧ a < 4
  · rw [if_pos hs] at cs ms
    obtain ⟨s, hs4, ea⟩ := nI_idx (n := 4) (by decide) hs.1 hs.2
    subst ea
    obtain ⟨b1, b2, b3, b4⟩ := hS.1 s hs4
    have ch := c_has σ hs4
    by_cases hm : σ.1 26 s = -1
    · rw [if_pos hm] at ch
      refine ⟨-6, σ, τ, ?_, ?_, hJ⟩
      · unfold fX8_write
        rw [cs]
        show (fX6_has σ (nI s)).bind _ = _
        rw [ch]
        rfl
      · unfold fX9_write
        rw [ms]
        show sn_gd (sn_in (nI s) 4) (if τ.1 21 (nI s).toNatClampNeg = -1 then _ else _) = _
        rw [sn_in_nI hs4 (by decide), gd_T, nI_clamp (by omega), if_pos (by rw [← b1]; exact hm)]
    · rw [if_neg hm] at ch
      have hge : 0 ≤ σ.1 26 s := by
        have q1 := Int32.le_iff_toInt_le.mp b3.1
        have q2 : σ.1 26 s ≠ -1 := hm
        rw [Int32.le_iff_toInt_le]
        have q3 : (σ.1 26 s).toInt ≠ (-1 : Int32).toInt := fun z => q2 (Int32.toInt_inj.mp z)
        have e1 : (-1 : Int32).toInt = -1 := by decide
        have e0 : (0 : Int32).toInt = 0 := by decide
        omega
      have mi : fX9_in i.toInt64 (0 : Int64) ((sn_I τ 21 (nI s).toNatClampNeg - 1).toInt64) = some (if 0 ≤ i ∧ i < σ.1 26 s then 1 else 0) := by
        rw [nI_clamp (by omega)]
        show fX9_in i.toInt64 (0 : Int32).toInt64 ((τ.1 21 s - 1).toInt64) = _
        rw [in_eq32, ← b1]
        simp only [i32_le_sub1 hge]
      by_cases hi : 0 ≤ i ∧ i < σ.1 26 s
      · rw [if_pos hi] at mi
        obtain ⟨k, hk, ek⟩ := nI_idx (n := 60) (by decide) hi.1 (by
          have q1 := Int32.le_iff_toInt_le.mp b3.2
          have q2 := Int32.lt_iff_toInt_lt.mp hi.2
          rw [Int32.lt_iff_toInt_lt]
          exact Int.lt_of_lt_of_le q2 q1)
        subst ek
        refine ⟨0, sn_pL σ (21 + s) k (sp_keep (σ.1 25 s) v), sn_pL τ 23 (60 * s + k) (sp_keep (σ.1 25 s) v), ?_, ?_, ?_⟩
        · unfold fX8_write
          rw [cs]
          show (fX6_has σ (nI s)).bind _ = _
          rw [ch]
          show (if nI k < 0 then _ else sn_gd (sn_in (nI s) 4) (if nI k < σ.1 26 (nI s).toNatClampNeg then _ else _)) = _
          rw [if_neg (Int32.not_lt.mpr hi.1), sn_in_nI hs4 (by decide), gd_T, nI_clamp (show s < 2 ^ 31 by omega), if_pos hi.2, c_put σ hs4 hk v]
          rfl
        · have ei : (60 : Int32) * nI s + nI k = nI (60 * s + k) := by
            rw [← nI_add, ← nI_mul]
            rfl
          unfold fX9_write
          rw [ms]
          show sn_gd (sn_in (nI s) 4) (if τ.1 21 (nI s).toNatClampNeg = -1 then _ else sn_gd (sn_in (nI s) 4) ((fX9_in (nI k).toInt64 (0 : Int64) ((sn_I τ 21 (nI s).toNatClampNeg - 1).toInt64)).bind _)) = _
          rw [sn_in_nI hs4 (by decide), gd_T, gd_T, mi, nI_clamp (show s < 2 ^ 31 by omega), if_neg (by rw [← b1]; exact hm)]
          rw [Option.bind_some, if_neg (show ¬ (1 : Int32) = 0 by decide), gd_T]
          show (fX9_cut_ v (τ.1 22 s)).bind _ = _
          rw [← b2, m_cut b4 v]
          show sn_gd (sn_in ((60 : Int32) * nI s + nI k) 240) (some (0, sn_pL τ 23 ((60 : Int32) * nI s + nI k).toNatClampNeg (sp_keep (σ.1 25 s) v))) = _
          rw [ei, sn_in_nI (by omega) (by decide), gd_T, nI_clamp (by omega)]
        · refine zJ_rows (σ := σ) (τ := τ) (σ' := sn_pL σ (21 + s) k (sp_keep (σ.1 25 s) v)) (τ' := sn_pL τ 23 (60 * s + k) (sp_keep (σ.1 25 s) v)) ⟨hS.1, fun t ht => ?_⟩ (fun q q1 q2 => rfl) (fun q q1 q2 => rfl) hJ.1.1 hJ.1.2.1 hJ
          obtain ⟨d1, d2, d3, d4⟩ := hS.2 t ht
          have key : ∀ (A B : Prop) [Decidable A] [Decidable B] (x y z : Int64), (A ↔ B) → y = z → (if A then x else y) = (if B then x else z) := fun A B _ _ x y z h e => by
            by_cases hA : A
            · rw [if_pos hA, if_pos (h.mp hA)]
            · rw [if_neg hA, if_neg (fun z => hA (h.mpr z)), e]
          exact ⟨key _ _ _ _ _ (by omega) d1, key _ _ _ _ _ (by omega) d2, key _ _ _ _ _ (by omega) d3, key _ _ _ _ _ (by omega) d4⟩
      · rw [if_neg hi] at mi
        refine ⟨-7, σ, τ, ?_, ?_, hJ⟩
        · unfold fX8_write
          rw [cs]
          show (fX6_has σ (nI s)).bind _ = _
          rw [ch]
          show (if i < 0 then _ else sn_gd (sn_in (nI s) 4) (if i < σ.1 26 (nI s).toNatClampNeg then _ else _)) = _
          rw [sn_in_nI hs4 (by decide), gd_T, nI_clamp (show s < 2 ^ 31 by omega)]
          by_cases h0 : i < 0
          · rw [if_pos h0]
          · rw [if_neg h0, if_neg (fun h => hi ⟨Int32.not_lt.mp h0, h⟩)]
        · unfold fX9_write
          rw [ms]
          show sn_gd (sn_in (nI s) 4) (if τ.1 21 (nI s).toNatClampNeg = -1 then _ else sn_gd (sn_in (nI s) 4) ((fX9_in i.toInt64 (0 : Int64) ((sn_I τ 21 (nI s).toNatClampNeg - 1).toInt64)).bind _)) = _
          rw [sn_in_nI hs4 (by decide), gd_T, gd_T, mi, nI_clamp (show s < 2 ^ 31 by omega), if_neg (by rw [← b1]; exact hm)]
          rfl
  · rw [if_neg hs] at cs ms
    refine ⟨-2, σ, τ, ?_, ?_, hJ⟩
    · unfold fX8_write
      rw [cs]
      rfl
    · unfold fX9_write
      rw [ms]
      rfl
theorem zJ_71 : ∀ (σ τ : sn_S) (a i b k n : Int32), zJ σ τ → ∃ r σ1 τ1, fX8_paste σ a i b k n = some (r, σ1) ∧ fX9_paste τ a i b k n = some (r, τ1) ∧ zJ σ1 τ1 := by
  intro σ τ a i b k n hJ
  have hS := hJ.1.2.2.2.2
  have cs := c_isSlot a
  have ms := m_isSlot a
  have ct := c_isSlot b
  have mt := m_isSlot b
  by_cases hs : 0 ≤ a ∧ a < 4
  · rw [if_pos hs] at cs ms
    by_cases ht : 0 ≤ b ∧ b < 4
    · rw [if_pos ht] at ct mt
      obtain ⟨s, hs4, ea⟩ := nI_idx (n := 4) (by decide) hs.1 hs.2
      obtain ⟨t, ht4, eb⟩ := nI_idx (n := 4) (by decide) ht.1 ht.2
      subst ea
      subst eb
      obtain ⟨b1, b2, b3, b4⟩ := hS.1 s hs4
      obtain ⟨d1, d2, d3, d4⟩ := hS.1 t ht4
      have chs := c_has σ hs4
      have cht := c_has σ ht4
      by_cases hm : σ.1 26 s = -1
      · rw [if_pos hm] at chs
        refine ⟨-6, σ, τ, ?_, ?_, hJ⟩
        · unfold fX8_paste
          rw [cs]
          show (fX6_isSlot (nI t)).bind _ = _
          rw [ct]
          show (fX6_has σ (nI s)).bind _ = _
          rw [chs]
          rfl
        · unfold fX9_paste
          rw [ms]
          show (fX9_isSlot (nI t)).bind _ = _
          rw [mt]
          show sn_gd (sn_in (nI s) 4) (if τ.1 21 (nI s).toNatClampNeg = -1 then _ else _) = _
          rw [sn_in_nI hs4 (by decide), gd_T, nI_clamp (by omega), if_pos (by rw [← b1]; exact hm)]
      · rw [if_neg hm] at chs
        by_cases hm2 : σ.1 26 t = -1
        · rw [if_pos hm2] at cht
          refine ⟨-6, σ, τ, ?_, ?_, hJ⟩
          · unfold fX8_paste
            rw [cs]
            show (fX6_isSlot (nI t)).bind _ = _
            rw [ct]
            show (fX6_has σ (nI s)).bind _ = _
            rw [chs]
            show (fX6_has σ (nI t)).bind _ = _
            rw [cht]
            rfl
          · unfold fX9_paste
            rw [ms]
            show (fX9_isSlot (nI t)).bind _ = _
            rw [mt]
            show sn_gd (sn_in (nI s) 4) (if τ.1 21 (nI s).toNatClampNeg = -1 then _ else sn_gd (sn_in (nI t) 4) (if τ.1 21 (nI t).toNatClampNeg = -1 then _ else _)) = _
            rw [sn_in_nI hs4 (by decide), gd_T, nI_clamp (show s < 2 ^ 31 by omega), if_neg (by rw [← b1]; exact hm), sn_in_nI ht4 (by decide), gd_T, nI_clamp (show t < 2 ^ 31 by omega), if_pos (by rw [← d1]; exact hm2)]
        · rw [if_neg hm2] at cht
          have hL := zp_neg1 b3.1 hm
          have hL2 := zp_neg1 d3.1 hm2
          by_cases hw : σ.1 25 s = σ.1 25 t
          · have pm := zp_mask (τ := τ) hs4 ht4 (by rw [← b1]; exact hm) (by rw [← d1]; exact hm2) (by rw [← b2, ← d2]; exact hw) i k n
            rw [← b1, ← d1] at pm
            have sp1 := zp_spans (σ := σ) hs4 hL i n
            have sp2 := zp_spans (σ := σ) ht4 hL2 k n
            have head : fX8_paste σ (nI s) i (nI t) k n = ((fX6_spans σ (nI s) i n).bind fun t_16 => (if t_16 = 0 then (some ((-7 : Int32), σ)) else ((fX6_spans σ (nI t) k n).bind fun t_19 => (if t_19 = 0 then (some ((-7 : Int32), σ)) else (sn_gd (sn_cpok i k n 60 60) (some ((0 : Int32), (sn_wL σ (21 + t) (va_cpy (sn_L σ (21 + s)) (sn_L σ (21 + t)) i.toNatClampNeg k.toNatClampNeg n.toNatClampNeg))))))))) := by
              unfold fX8_paste
              rw [cs]
              show (fX6_isSlot (nI t)).bind _ = _
              rw [ct]
              show (fX6_has σ (nI s)).bind _ = _
              rw [chs]
              show (fX6_has σ (nI t)).bind _ = _
              rw [cht]
              show sn_gd (sn_in (nI s) 4) _ = _
              simp only [sn_in_nI hs4 (show 4 < 2 ^ 31 by decide), sn_in_nI ht4 (show 4 < 2 ^ 31 by decide), gd_T, nI_clamp (show s < 2 ^ 31 by omega), nI_clamp (show t < 2 ^ 31 by omega), at20 hs4, at20 ht4, sn_lt]
              rw [if_pos (show sn_I σ 25 s = sn_I σ 25 t from hw)]
            by_cases q1 : 0 ≤ i.toInt ∧ 0 ≤ n.toInt ∧ i.toInt + n.toInt ≤ (σ.1 26 s).toInt
            · rw [if_pos q1] at sp1
              by_cases q2 : 0 ≤ k.toInt ∧ 0 ≤ n.toInt ∧ k.toInt + n.toInt ≤ (σ.1 26 t).toInt
              · rw [if_pos q2] at sp2
                rw [if_pos ⟨q1, q2⟩] at pm
                have u1 := zs_I_le b3.2
                have u2 := zs_I_le d3.2
                have e60 : (60 : Int32).toInt = 60 := by decide
                obtain ⟨i', hi1, ei⟩ := zs_val (x := i) (a := 0) (b := 60) ⟨by omega, by omega⟩ (by decide)
                obtain ⟨k', hk1, ek⟩ := zs_val (x := k) (a := 0) (b := 60) ⟨by omega, by omega⟩ (by decide)
                obtain ⟨n', hn1, en⟩ := zs_val (x := n) (a := 0) (b := 60) ⟨by omega, by omega⟩ (by decide)
                have hi2 : i' < 61 := by omega
                have hk2 : k' < 61 := by omega
                have hn2 : n' < 61 := by omega
                subst ei
                subst ek
                subst en
                rw [nI_toInt (by omega), nI_toInt (by omega)] at q1 q2
                have hin : i' + n' ≤ 60 := by omega
                have hkn : k' + n' ≤ 60 := by omega
                rw [zp_take τ (nI t) (nI k') hs4 hin] at pm
                have pm2 : fX9_paste τ (nI s) (nI i') (nI t) (nI k') (nI n') = some (0, (τ.1, (fun q b => if q = 23 ∧ 60 * t + k' ≤ b ∧ b < 60 * t + k' + n' then (if 24 = 24 ∧ b - (60 * t + k') < n' then τ.2.1 23 (60 * s + i' + (b - (60 * t + k'))) else τ.2.1 24 (b - (60 * t + k'))) else (if q = 24 ∧ b < n' then τ.2.1 23 (60 * s + i' + b) else τ.2.1 q b)), τ.2.2)) := by
                  rw [pm]
                  show BX9_paste_147 _ (nI t) (nI k') (nI n') = _
                  unfold BX9_paste_147
                  rw [zp_put _ ht4 hkn]
                  rfl
                refine ⟨0, sn_wL σ (21 + t) (va_cpy (sn_L σ (21 + s)) (sn_L σ (21 + t)) i' k' n'), _, ?_, pm2, ?_⟩
                · have ok : sn_cpok (nI i') (nI k') (nI n') 60 60 = true := by
                    unfold sn_cpok
                    simp [nI_clamp (show i' < 2 ^ 31 by omega), nI_clamp (show k' < 2 ^ 31 by omega), nI_clamp (show n' < 2 ^ 31 by omega), nI_pos' (show i' < 2 ^ 31 by omega), nI_pos' (show k' < 2 ^ 31 by omega), nI_pos' (show n' < 2 ^ 31 by omega), hin, hkn]
                  rw [head, sp1]
                  show (fX6_spans σ (nI t) (nI k') (nI n')).bind _ = _
                  rw [sp2]
                  show sn_gd (sn_cpok (nI i') (nI k') (nI n') 60 60) _ = _
                  rw [ok, gd_T, nI_clamp (show i' < 2 ^ 31 by omega), nI_clamp (show k' < 2 ^ 31 by omega), nI_clamp (show n' < 2 ^ 31 by omega)]
                · have hrow : ∀ u, u < 4 → ∀ j, j < 60 → σ.2.1 (21 + u) j = τ.2.1 23 (60 * u + j) := by
                    intro u hu j hj
                    obtain ⟨f0, f1, f2, f3⟩ := hS.2 j hj
                    match u, hu with
                    | 0, _ => rw [Nat.mul_zero, Nat.zero_add]; exact f0
                    | 1, _ => exact f1
                    | 2, _ => exact f2
                    | 3, _ => exact f3
                  have hnew : ∀ u, u < 4 → ∀ j, j < 60 → (if 21 + u = 21 + t then va_cpy (σ.2.1 (21 + s)) (σ.2.1 (21 + t)) i' k' n' else σ.2.1 (21 + u)) j = (if 23 = 23 ∧ 60 * t + k' ≤ 60 * u + j ∧ 60 * u + j < 60 * t + k' + n' then (if 24 = 24 ∧ 60 * u + j - (60 * t + k') < n' then τ.2.1 23 (60 * s + i' + (60 * u + j - (60 * t + k'))) else τ.2.1 24 (60 * u + j - (60 * t + k'))) else (if 23 = 24 ∧ 60 * u + j < n' then τ.2.1 23 (60 * s + i' + (60 * u + j)) else τ.2.1 23 (60 * u + j))) := by
                    intro u hu j hj
                    rw [if_neg (show ¬ (23 = 24 ∧ 60 * u + j < n') by omega)]
                    by_cases hut : u = t
                    · rw [hut, if_pos rfl]
                      unfold va_cpy
                      by_cases hin2 : k' ≤ j ∧ j < k' + n'
                      · rw [if_pos hin2, if_pos ⟨rfl, by omega, by omega⟩, if_pos ⟨rfl, by omega⟩, hrow s hs4 _ (by omega)]
                        exact congrArg (τ.2.1 23) (by omega)
                      · rw [if_neg hin2, if_neg (by omega), hrow t ht4 j hj]
                    · rw [if_neg (by omega), if_neg (by omega), hrow u hu j hj]
                  refine zJ_rows (σ := σ) (τ := τ) ⟨hS.1, fun j hj => ⟨?_, hnew 1 (by decide) j hj, hnew 2 (by decide) j hj, hnew 3 (by decide) j hj⟩⟩ (fun _ _ _ => rfl) (fun _ _ _ => rfl) hJ.1.1 hJ.1.2.1 hJ
                  have := hnew 0 (by decide) j hj
                  rw [Nat.mul_zero, Nat.zero_add] at this
                  exact this
              · rw [if_neg q2] at sp2
                rw [if_neg (fun z => q2 z.2)] at pm
                refine ⟨-7, σ, τ, ?_, pm, hJ⟩
                rw [head, sp1]
                show (fX6_spans σ (nI t) k n).bind _ = _
                rw [sp2]
                rfl
            · rw [if_neg q1] at sp1
              rw [if_neg (fun z => q1 z.1)] at pm
              refine ⟨-7, σ, τ, ?_, pm, hJ⟩
              rw [head, sp1]
              rfl
          · refine ⟨-8, σ, τ, ?_, ?_, hJ⟩
            · unfold fX8_paste
              rw [cs]
              show (fX6_isSlot (nI t)).bind _ = _
              rw [ct]
              show (fX6_has σ (nI s)).bind _ = _
              rw [chs]
              show (fX6_has σ (nI t)).bind _ = _
              rw [cht]
              show sn_gd (sn_in (nI s) 4) (sn_gd (sn_in (nI t) 4) (if σ.1 25 (nI s).toNatClampNeg = σ.1 25 (nI t).toNatClampNeg then _ else _)) = _
              rw [sn_in_nI hs4 (by decide), gd_T, sn_in_nI ht4 (by decide), gd_T, nI_clamp (show s < 2 ^ 31 by omega), nI_clamp (show t < 2 ^ 31 by omega), if_neg hw]
            · unfold fX9_paste
              rw [ms]
              show (fX9_isSlot (nI t)).bind _ = _
              rw [mt]
              show sn_gd (sn_in (nI s) 4) _ = _
              simp only [sn_in_nI hs4 (show 4 < 2 ^ 31 by decide), sn_in_nI ht4 (show 4 < 2 ^ 31 by decide), gd_T, nI_clamp (show s < 2 ^ 31 by omega), nI_clamp (show t < 2 ^ 31 by omega)]
              rw [if_neg (show ¬ sn_I τ 21 s = -1 by show ¬ τ.1 21 s = -1; rw [← b1]; exact hm), if_neg (show ¬ sn_I τ 21 t = -1 by show ¬ τ.1 21 t = -1; rw [← d1]; exact hm2), if_neg (show ¬ sn_I τ 22 s = sn_I τ 22 t by show ¬ τ.1 22 s = τ.1 22 t; rw [← b2, ← d2]; exact hw)]
    · rw [if_neg ht] at ct mt
      refine ⟨-2, σ, τ, ?_, ?_, hJ⟩
      · unfold fX8_paste
        rw [cs]
        show (fX6_isSlot b).bind _ = _
        rw [ct]
        rfl
      · unfold fX9_paste
        rw [ms]
        show (fX9_isSlot b).bind _ = _
        rw [mt]
        rfl
  · rw [if_neg hs] at cs ms
    refine ⟨-2, σ, τ, ?_, ?_, hJ⟩
    · unfold fX8_paste
      rw [cs]
      rfl
    · unfold fX9_paste
      rw [ms]
      rfl
