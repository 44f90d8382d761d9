/-! what the two have in common for the parts: bounds on both sides, the tape's length, the kept images, the rows of numbers -/
def jS (le wi : Nat → Int32) (r0 r1 r2 r3 : Nat → Int64) (many width : Nat → Int32) (num : Nat → Int64) : Prop :=
  (∀ s, s < 4 → le s = many s ∧ wi s = width s ∧ (-1 ≤ le s ∧ le s ≤ 60) ∧ (0 ≤ wi s ∧ wi s ≤ 3)) ∧ ∀ i, i < 60 → r0 i = num i ∧ r1 i = num (60 + i) ∧ r2 i = num (120 + i) ∧ r3 i = num (180 + i)
/-- the tape and what was found wrong with it -/
def zt_J (σ τ : sn_S) : Prop := σ.1 17 1 = τ.1 0 5 ∧ σ.1 17 2 = τ.1 0 12 ∧ σ.1 17 3 = τ.1 0 13 ∧ ∀ k : Nat, (k : Int) < (σ.1 17 1).toInt → (σ.1 18 k).toInt = (τ.1 4 k &&& (255 : Int32)).toInt ∧ -128 ≤ (τ.1 4 k).toInt ∧ (τ.1 4 k).toInt ≤ 127
theorem zt_c {σ σ' τ τ' : sn_S} (c1 : σ'.1 17 1 = σ.1 17 1) (c2 : σ'.1 17 2 = σ.1 17 2) (c3 : σ'.1 17 3 = σ.1 17 3) (c4 : ∀ k, σ'.1 18 k = σ.1 18 k) (m1 : τ'.1 0 5 = τ.1 0 5) (m2 : τ'.1 0 12 = τ.1 0 12) (m3 : τ'.1 0 13 = τ.1 0 13) (m4 : ∀ k, τ'.1 4 k = τ.1 4 k) (h : zt_J σ τ) : zt_J σ' τ' := by
  unfold zt_J
  rw [c1, c2, c3, m1, m2, m3]
  exact ⟨h.1, h.2.1, h.2.2.1, fun k hk => by rw [c4 k, m4 k]; exact h.2.2.2 k hk⟩
def zj_J (σ τ : sn_S) : Prop := zs_SB zs_tC σ ∧ zs_SB zs_tM τ ∧ zt_J σ τ ∧ (∀ k, k < 3 → σ.1 16 k = τ.1 3 k) ∧ jS (σ.1 26) (σ.1 25) (σ.2.1 21) (σ.2.1 22) (σ.2.1 23) (σ.2.1 24) (τ.1 21) (τ.1 22) (τ.2.1 23)
theorem zj_keep {σ σ' τ τ' : sn_S} (hC : zs_C0 σ σ') (hM : zs_M0 τ τ') (h : zj_J σ τ) : zj_J σ' τ' := by
  obtain ⟨-, -, e1, e2, e3⟩ := h
  have c26 : σ'.1 26 = σ.1 26 := funext fun k => hC.2.1 26 k rfl
  have c25 : σ'.1 25 = σ.1 25 := funext fun k => hC.2.1 25 k rfl
  have m21 : τ'.1 21 = τ.1 21 := funext fun k => hM.2.1 21 k rfl
  have m22 : τ'.1 22 = τ.1 22 := funext fun k => hM.2.1 22 k rfl
  refine ⟨hC.1, hM.1, zt_c (hC.2.1 17 1 rfl) (hC.2.1 17 2 rfl) (hC.2.1 17 3 rfl) (fun k => hC.2.1 18 k rfl) (hM.2.1 0 5 rfl) (hM.2.1 0 12 rfl) (hM.2.1 0 13 rfl) (fun k => hM.2.1 4 k rfl) e1, fun k hk => ?_, ?_⟩
  · rw [hC.2.1 16 k rfl, hM.2.1 3 k rfl]
    exact e2 k hk
  · rw [c26, c25, m21, m22, hC.2.2 21 rfl, hC.2.2 22 rfl, hC.2.2 23 rfl, hC.2.2 24 rfl, hM.2.2 23 rfl]
    exact e3
theorem zj_rows {σ σ' τ τ' : sn_S} (hS : jS (σ'.1 26) (σ'.1 25) (σ'.2.1 21) (σ'.2.1 22) (σ'.2.1 23) (σ'.2.1 24) (τ'.1 21) (τ'.1 22) (τ'.2.1 23)) (c1 : ∀ q, q ≠ 25 → q ≠ 26 → σ'.1 q = σ.1 q) (m1 : ∀ q, q ≠ 21 → q ≠ 22 → τ'.1 q = τ.1 q) (bC : zs_SB zs_tC σ') (bM : zs_SB zs_tM τ') (h : zj_J σ τ) : zj_J σ' τ' := by
  obtain ⟨-, -, e1, e2, -⟩ := h
  refine ⟨bC, bM, zt_c (by rw [c1 17 (by decide) (by decide)]) (by rw [c1 17 (by decide) (by decide)]) (by rw [c1 17 (by decide) (by decide)]) (fun k => by rw [c1 18 (by decide) (by decide)]) (by rw [m1 0 (by decide) (by decide)]) (by rw [m1 0 (by decide) (by decide)]) (by rw [m1 0 (by decide) (by decide)]) (fun k => by rw [m1 4 (by decide) (by decide)]) e1, fun k hk => ?_, hS⟩
  · rw [c1 16 (by decide) (by decide), m1 3 (by decide) (by decide)]
    exact e2 k hk
theorem zj_0 : ∀ (σ τ : sn_S) (a b c d e : Int32), zj_J σ τ → ∃ r σ1 τ1, fX8_feed σ a b c d e = some (r, σ1) ∧ fX9_feed τ a b c d e = some (r, τ1) ∧ zj_J σ1 τ1 := by
  intro σ τ a b c d e h
  obtain ⟨n, hn, e1⟩ := zh_n (t := zs_tC) (q := 17) (k := 1) h.1 rfl
  have e2 : τ.1 0 5 = nI n := by rw [← h.2.2.1.1]; exact e1
  rcases zh_cfeed h.1 e1 hn a b c d e with ⟨g1, g2⟩ | ⟨g1, s1, g2, g3, g4, g5, g6⟩
  · rcases zh_mfeed h.2.1 e2 hn a b c d e with ⟨k1, k2⟩ | ⟨k1, t1, k2, k3, k4, k5, k6⟩
    · exact ⟨-1, σ, τ, g2, k2, h⟩
    · exact absurd g1 (by omega)
  · rcases zh_mfeed h.2.1 e2 hn a b c d e with ⟨k1, k2⟩ | ⟨k1, t1, k2, k3, k4, k5, k6⟩
    · exact absurd k1 (by omega)
    · obtain ⟨r1, s1', x1, x2, x3⟩ := zt_cfeed e1 g1 a b c d e
      rw [g2] at x1
      cases x1
      obtain ⟨r2, t1', y1, y2, y3⟩ := zt_mfeed e2 g1 a b c d e
      rw [k2] at y1
      cases y1
      refine ⟨nI (n + 20), s1, t1, g2, k2, g3, k3, ⟨g4.trans k4.symm, ?_, ?_, fun k hk => ?_⟩, fun k hk => ?_, ?_⟩
      · rw [g5 17 2 (by decide) (by simp), k5 0 12 (by decide) (by decide) (by simp)]
        exact h.2.2.1.2.1
      · rw [g5 17 3 (by decide) (by simp), k5 0 13 (by decide) (by decide) (by simp)]
        exact h.2.2.1.2.2.1
      · rw [g4, nI_toInt (by omega)] at hk
        by_cases z : k < n
        · rw [x2 k z, y2 k z]
          exact h.2.2.1.2.2.2 k (by rw [e1, nI_toInt (by omega)]; omega)
        · have ek : n + (k - n) = k := by omega
          have a1 := x3 (k - n) (by omega)
          have a2 := y3 (k - n) (by omega)
          rw [ek] at a1 a2
          rw [a1]
          exact ⟨a2.1.symm, a2.2⟩
      · rw [g5 16 k (by decide) (by simp), k5 3 k (by decide) (by decide) (by simp)]
        exact h.2.2.2.1 k hk
      · have c26 : s1.1 26 = σ.1 26 := funext fun k => g5 26 k (by decide) (by simp)
        have c25 : s1.1 25 = σ.1 25 := funext fun k => g5 25 k (by decide) (by simp)
        have m21 : t1.1 21 = τ.1 21 := funext fun k => k5 21 k (by decide) (by decide) (by simp)
        have m22 : t1.1 22 = τ.1 22 := funext fun k => k5 22 k (by decide) (by decide) (by simp)
        rw [c26, c25, m21, m22, g6, k6]
        exact h.2.2.2.2
theorem zj_1 : ∀ (σ τ : sn_S) (a : Int32), zj_J σ τ → ∃ r σ1 τ1, fX8_end σ a = some (r, σ1) ∧ fX9_end τ a = some (r, τ1) ∧ zj_J σ1 τ1 := by
  intro σ τ a h
  rw [zh_cend, zh_mend, h.2.2.1.1]
  by_cases c : 0 ≤ a ∧ a ≤ τ.1 0 5
  · rw [if_pos c, if_pos c]
    have hb := h.2.1.1 0 5
    rw [show zs_tM 0 5 = (0, 900) from rfl] at hb
    have c1 := zs_I_le c.1
    have c2 := zs_I_le c.2
    have e0 : (0 : Int32).toInt = 0 := by decide
    have hb2 : (τ.1 0 5).toInt ≤ 900 := hb.2
    refine ⟨a, _, _, rfl, rfl, zs_sbw h.1 (by rw [show zs_tC 17 1 = (0, 900) from rfl]; exact ⟨by omega, by omega⟩), zs_sbw h.2.1 (by rw [show zs_tM 0 5 = (0, 900) from rfl]; exact ⟨by omega, by omega⟩), ⟨by rw [pI_self, pI_self], by rw [pI_slot (by decide), pI_slot (by decide)]; exact h.2.2.1.2.1, by rw [pI_slot (by decide), pI_slot (by decide)]; exact h.2.2.1.2.2.1, fun k hk => ?_⟩, fun k hk => ?_, ?_⟩
    · rw [pI_self] at hk
      rw [pI_ne (by decide), pI_ne (by decide)]
      exact h.2.2.1.2.2.2 k (by rw [h.2.2.1.1]; omega)
    · rw [pI_ne (by decide), pI_ne (by decide)]
      exact h.2.2.2.1 k hk
    · rw [pI_ne (by decide), pI_ne (by decide), pI_ne (by decide), pI_ne (by decide)]
      exact h.2.2.2.2
  · rw [if_neg c, if_neg c]
    exact ⟨-1, σ, τ, rfl, rfl, h⟩
theorem zj_67 : ∀ (σ τ : sn_S) (a : Int32), zj_J σ τ → ∃ r σ1 τ1, fX8_image σ a = some (r, σ1) ∧ fX9_image τ a = some (r, τ1) ∧ zj_J σ1 τ1 := by
  intro σ τ a h
  rcases zh_k3 a with ⟨j, hj, rfl⟩ | ⟨g1, g2⟩
  · obtain ⟨s, hs, e1⟩ := zh_cimage h.1 hj
    obtain ⟨t, ht, e2⟩ := zh_mimage h.2.1 hj
    obtain ⟨k1, k2, k3, k4, k5⟩ := zj_keep hs ht h
    have ev : (vp_nar FieldType.boolean 1) = 1 := by decide
    rw [ev] at e1 e2
    refine ⟨0, _, _, e1, e2, zs_sbw k1 (by rw [show zs_tC 16 j = (0, 1) from rfl]; decide), zs_sbw k2 (by rw [show zs_tM 3 j = (0, 1) from rfl]; decide), ?_, fun k hk => ?_, ?_⟩
    · exact zt_c (by rw [pI_ne (by decide)]) (by rw [pI_ne (by decide)]) (by rw [pI_ne (by decide)]) (fun k => by rw [pI_ne (by decide)]) (by rw [pI_ne (by decide)]) (by rw [pI_ne (by decide)]) (by rw [pI_ne (by decide)]) (fun k => by rw [pI_ne (by decide)]) k3
    · show (if 16 = 16 ∧ k = j then (1 : Int32) else s.1 16 k) = (if 3 = 3 ∧ k = j then (1 : Int32) else t.1 3 k)
      by_cases e : k = j
      · rw [if_pos ⟨rfl, e⟩, if_pos ⟨rfl, e⟩]
      · rw [if_neg (fun z => e z.2), if_neg (fun z => e z.2)]
        exact k4 k hk
    · rw [pI_ne (by decide), pI_ne (by decide), pI_ne (by decide), pI_ne (by decide)]
      exact k5
  · exact ⟨-2, σ, τ, zh_cimage0 g2, zh_mimage0 g1, h⟩
theorem zj_68 : ∀ (σ τ : sn_S) (a : Int32), zj_J σ τ → ∃ r σ1 τ1, fX8_back σ a = some (r, σ1) ∧ fX9_back τ a = some (r, τ1) ∧ zj_J σ1 τ1 := by
  intro σ τ a h
  rcases zh_k3 a with ⟨j, hj, rfl⟩ | ⟨g1, g2⟩
  · obtain ⟨r, s, hs, e1, q1⟩ := zh_cback h.1 hj
    obtain ⟨r2, t, ht, e2, q2⟩ := zh_mback h.2.1 hj
    have hk : sn_I σ 16 j = sn_I τ 3 j := h.2.2.2.1 j hj
    have er : r = r2 := by rw [q1, q2, hk]
    rw [← er] at e2
    exact ⟨r, s, t, e1, e2, zj_keep hs ht h⟩
  · exact ⟨-2, σ, τ, zh_cback0 g2, zh_mback0 g1, h⟩
theorem zj_69 : ∀ (σ τ : sn_S) (a w n : Int32), zj_J σ τ → ∃ r σ1 τ1, fX8_row σ a w n = some (r, σ1) ∧ fX9_row τ a w n = some (r, τ1) ∧ zj_J σ1 τ1 := by
  intro σ τ a w n hJ
  have hS := hJ.2.2.2.2
  have cs := c_isSlot a
  have ms := m_isSlot a
  have mi : fX9_in w.toInt64 (0 : Int64) (3 : Int64) = some (if 0 ≤ w ∧ w ≤ 3 then 1 else 0) := in_eq32 w 0 3
  by_cases hs : 0 ≤ a ∧ a < 4
  · rw [if_pos hs] at cs ms
    by_cases hw : 0 ≤ w ∧ w ≤ 3
    · rw [if_pos hw] at mi
      by_cases hn : n ≤ 60
      · by_cases hn0 : 0 ≤ n
        · obtain ⟨s, hs4, ea⟩ := nI_idx (n := 4) (by decide) hs.1 hs.2
          subst ea
          have emake : fX6_make σ (nI s) w n = some ((sn_pI (sn_pI σ 25 s w) 26 s n).1, (fun a b => if a = 21 + s ∧ b < 60 then 0 else σ.2.1 a b), σ.2.2) := by
            unfold fX6_make
            simp only [sn_in_nI hs4 (by decide), gd_T, sn_lt, nI_clamp (show s < 2 ^ 31 by omega), at20 hs4]
            rw [fillL _ _ _ _ (by decide)]
            rfl
          refine ⟨0, ((sn_pI (sn_pI σ 25 s w) 26 s n).1, (fun a b => if a = 21 + s ∧ b < 60 then 0 else σ.2.1 a b), σ.2.2), ((sn_pI (sn_pI τ 21 s n) 22 s w).1, (fun a b => if a = 23 ∧ 60 * s ≤ b ∧ b < 60 * s + 60 then 0 else τ.2.1 a b), τ.2.2), ?_, ?_, ?_⟩
          · unfold fX8_row
            rw [cs]
            show (if w < 0 then _ else if 3 < w then _ else if n ≤ 60 then _ else _) = _
            rw [if_neg (Int32.not_lt.mpr hw.1), if_neg (Int32.not_lt.mpr hw.2), if_pos hn, if_pos hn0, emake]
            rfl
          · unfold fX9_row
            rw [ms]
            show (fX9_in w.toInt64 (0 : Int64) (3 : Int64)).bind _ = _
            rw [mi]
            show (if n ≤ 60 then (if 0 ≤ n then _ else _) else _) = _
            rw [if_pos hn, if_pos hn0]
            simp only [sn_in_nI hs4 (by decide), gd_T, sn_lt, nI_clamp (show s < 2 ^ 31 by omega)]
            rw [m_rowzero _ s hs4]
            rfl
          · have w1 := zs_I_le hw.1
            have w2 := zs_I_le hw.2
            have n1 := zs_I_le hn
            have n2 := zs_I_le hn0
            have e0 : (0 : Int32).toInt = 0 := by decide
            have e3 : (3 : Int32).toInt = 3 := by decide
            have e60 : (60 : Int32).toInt = 60 := by decide
            have bC : zs_SB zs_tC (sn_pI (sn_pI σ 25 s w) 26 s n) := zs_sbw (zs_sbw hJ.1 (by rw [show zs_tC 25 s = (0, 3) from rfl]; exact ⟨by omega, by omega⟩)) (by rw [show zs_tC 26 s = (-1, 60) from rfl]; exact ⟨by omega, by omega⟩)
            have bM : zs_SB zs_tM (sn_pI (sn_pI τ 21 s n) 22 s w) := zs_sbw (zs_sbw hJ.2.1 (by rw [show zs_tM 21 s = (-1, 60) from rfl]; exact ⟨by omega, by omega⟩)) (by rw [show zs_tM 22 s = (0, 3) from rfl]; exact ⟨by omega, by omega⟩)
            refine zj_rows ?_ (fun q q1 q2 => ?_) (fun q q1 q2 => ?_) bC bM hJ
            · refine ⟨fun t ht => ?_, fun i hi => ?_⟩
              · obtain ⟨b1, b2, b3, b4⟩ := hS.1 t ht
                show (if 26 = 26 ∧ t = s then n else if 26 = 25 ∧ t = s then w else σ.1 26 t) = (if 21 = 22 ∧ t = s then w else if 21 = 21 ∧ t = s then n else τ.1 21 t) ∧ (if 25 = 26 ∧ t = s then n else if 25 = 25 ∧ t = s then w else σ.1 25 t) = (if 22 = 22 ∧ t = s then w else if 22 = 21 ∧ t = s then n else τ.1 22 t) ∧ (-1 ≤ (if 26 = 26 ∧ t = s then n else if 26 = 25 ∧ t = s then w else σ.1 26 t) ∧ (if 26 = 26 ∧ t = s then n else if 26 = 25 ∧ t = s then w else σ.1 26 t) ≤ 60) ∧ (0 ≤ (if 25 = 26 ∧ t = s then n else if 25 = 25 ∧ t = s then w else σ.1 25 t) ∧ (if 25 = 26 ∧ t = s then n else if 25 = 25 ∧ t = s then w else σ.1 25 t) ≤ 3)
                by_cases hts : t = s
                · simp [hts, hn, hw.1, hw.2, Int32.le_trans (show (-1 : Int32) ≤ 0 by decide) hn0]
                · simp [hts, b1, b2, b3, b4]
                  rw [← b1, ← b2]
                  exact ⟨b3, b4⟩
              · obtain ⟨b1, b2, b3, b4⟩ := hS.2 i hi
                show (if 21 = 21 + s ∧ i < 60 then (0 : Int64) else σ.2.1 21 i) = (if 23 = 23 ∧ 60 * s ≤ i ∧ i < 60 * s + 60 then 0 else τ.2.1 23 i) ∧ (if 22 = 21 + s ∧ i < 60 then (0 : Int64) else σ.2.1 22 i) = (if 23 = 23 ∧ 60 * s ≤ 60 + i ∧ 60 + i < 60 * s + 60 then 0 else τ.2.1 23 (60 + i)) ∧ (if 23 = 21 + s ∧ i < 60 then (0 : Int64) else σ.2.1 23 i) = (if 23 = 23 ∧ 60 * s ≤ 120 + i ∧ 120 + i < 60 * s + 60 then 0 else τ.2.1 23 (120 + i)) ∧ (if 24 = 21 + s ∧ i < 60 then (0 : Int64) else σ.2.1 24 i) = (if 23 = 23 ∧ 60 * s ≤ 180 + i ∧ 180 + i < 60 * s + 60 then 0 else τ.2.1 23 (180 + i))
                rw [← b1, ← b2, ← b3, ← b4]
                have key : ∀ (A B : Prop) [Decidable A] [Decidable B] (x : Int64), (A ↔ B) → (if A then (0 : Int64) else x) = (if B then 0 else x) := fun A B _ _ x h => by
                  by_cases hA : A
                  · rw [if_pos hA, if_pos (h.mp hA)]
                  · rw [if_neg hA, if_neg (fun z => hA (h.mpr z))]
                exact ⟨key _ _ _ (by omega), key _ _ _ (by omega), key _ _ _ (by omega), key _ _ _ (by omega)⟩
            · show (sn_pI (sn_pI σ 25 s w) 26 s n).1 q = σ.1 q
              rw [pI_ne q2, pI_ne q1]
            · show (sn_pI (sn_pI τ 21 s n) 22 s w).1 q = τ.1 q
              rw [pI_ne q2, pI_ne q1]
        · refine ⟨-3, σ, τ, ?_, ?_, hJ⟩
          · unfold fX8_row
            rw [cs]
            show (if w < 0 then _ else if 3 < w then _ else if n ≤ 60 then _ else _) = _
            rw [if_neg (Int32.not_lt.mpr hw.1), if_neg (Int32.not_lt.mpr hw.2), if_pos hn, if_neg hn0]
          · unfold fX9_row
            rw [ms]
            show (fX9_in w.toInt64 (0 : Int64) (3 : Int64)).bind _ = _
            rw [mi]
            show (if n ≤ 60 then (if 0 ≤ n then _ else _) else _) = _
            rw [if_pos hn, if_neg hn0]
      · refine ⟨-2, σ, τ, ?_, ?_, hJ⟩
        · unfold fX8_row
          rw [cs]
          show (if w < 0 then _ else if 3 < w then _ else if n ≤ 60 then _ else _) = _
          rw [if_neg (Int32.not_lt.mpr hw.1), if_neg (Int32.not_lt.mpr hw.2), if_neg hn]
        · unfold fX9_row
          rw [ms]
          show (fX9_in w.toInt64 (0 : Int64) (3 : Int64)).bind _ = _
          rw [mi]
          show (if n ≤ 60 then (if 0 ≤ n then _ else _) else _) = _
          rw [if_neg hn]
    · rw [if_neg hw] at mi
      refine ⟨-2, σ, τ, ?_, ?_, hJ⟩
      · unfold fX8_row
        rw [cs]
        show (if w < 0 then _ else if 3 < w then _ else _) = _
        by_cases h0 : w < 0
        · rw [if_pos h0]
        · rw [if_neg h0, if_pos (Int32.not_le.mp (fun h => hw ⟨Int32.not_lt.mp h0, h⟩))]
      · unfold fX9_row
        rw [ms]
        show (fX9_in w.toInt64 (0 : Int64) (3 : Int64)).bind _ = _
        rw [mi]
        rfl
  · rw [if_neg hs] at cs ms
    refine ⟨-2, σ, τ, ?_, ?_, hJ⟩
    · unfold fX8_row
      rw [cs]
      rfl
    · unfold fX9_row
      rw [ms]
      rfl
theorem cut8 (x : Int64) : (x <<< (56 : Int64)) >>> (56 : Int64) = x.toInt32.toInt8.toInt32.toInt64 := by
  apply Int64.toBitVec_inj.mp
  simp
  apply BitVec.eq_of_getLsbD_eq
  intro i hi
  simp [BitVec.getLsbD_sshiftRight, BitVec.getLsbD_signExtend]
  by_cases h8 : i < 8
  · have h1 : 56 + i < 64 := by omega
    have h2 : i < 64 := hi
    have h3 : ¬ 64 ≤ i := by omega
    have h4 : ¬ 56 + i < 56 := by omega
    have h5 : i < 32 := by omega
    simp [h8, h1, h2, h3, h4, h5]
  · have h1 : ¬ 56 + i < 64 := by omega
    have h2 : i < 64 := hi
    have h3 : ¬ 64 ≤ i := by omega
    simp [h8, h1, h2, h3, BitVec.msb_eq_getLsbD_last, BitVec.getLsbD_signExtend, BitVec.getMsbD_eq_getLsbD, BitVec.getElem_signExtend]
theorem cut16 (x : Int64) : (x <<< (48 : Int64)) >>> (48 : Int64) = x.toInt32.toInt16.toInt32.toInt64 := by
  apply Int64.toBitVec_inj.mp
  simp
  apply BitVec.eq_of_getLsbD_eq
  intro i hi
  simp [BitVec.getLsbD_sshiftRight, BitVec.getLsbD_signExtend]
  by_cases h8 : i < 16
  · have h1 : 48 + i < 64 := by omega
    have h2 : i < 64 := hi
    have h3 : ¬ 64 ≤ i := by omega
    have h4 : ¬ 48 + i < 48 := by omega
    have h5 : i < 32 := by omega
    simp [h8, h1, h2, h3, h4, h5]
  · have h1 : ¬ 48 + i < 64 := by omega
    have h2 : i < 64 := hi
    have h3 : ¬ 64 ≤ i := by omega
    simp [h8, h1, h2, h3, BitVec.msb_eq_getLsbD_last, BitVec.getLsbD_signExtend, BitVec.getMsbD_eq_getLsbD, BitVec.getElem_signExtend]
theorem cut32 (x : Int64) : (x <<< (32 : Int64)) >>> (32 : Int64) = x.toInt32.toInt64 := by
  apply Int64.toBitVec_inj.mp
  simp
  apply BitVec.eq_of_getLsbD_eq
  intro i hi
  simp [BitVec.getLsbD_sshiftRight, BitVec.getLsbD_signExtend]
  by_cases h8 : i < 32
  · have h1 : 32 + i < 64 := by omega
    have h2 : i < 64 := hi
    have h3 : ¬ 64 ≤ i := by omega
    have h4 : ¬ 32 + i < 32 := by omega
    have h5 : i < 32 := by omega
    simp [h8, h1, h2, h3, h4, h5]
  · have h1 : ¬ 32 + i < 64 := by omega
    have h2 : i < 64 := hi
    have h3 : ¬ 64 ≤ i := by omega
    simp [h8, h1, h2, h3, BitVec.msb_eq_getLsbD_last, BitVec.getLsbD_signExtend, BitVec.getMsbD_eq_getLsbD, BitVec.getElem_signExtend]
theorem c_has (σ : sn_S) {s : Nat} (hs : s < 4) : fX6_has σ (nI s) = some (if σ.1 26 s = -1 then 0 else 1) := by
  unfold fX6_has
  rw [sn_in_nI hs (by decide), gd_T, nI_clamp (by omega)]
  show (if σ.1 26 s = -1 then _ else _) = _
  by_cases h : σ.1 26 s = -1
  · rw [if_pos h, if_pos h]
    rfl
  · rw [if_neg h, if_neg h]
    rfl
/-- what a width keeps of a number -/
def sp_keep (w : Int32) (v : Int64) : Int64 := if w = 0 then v.toInt32.toInt8.toInt32.toInt64 else if w = 1 then v.toInt32.toInt16.toInt32.toInt64 else if w = 2 then v.toInt32.toInt64 else v
theorem c_put (σ : sn_S) {s i : Nat} (hs : s < 4) (hi : i < 60) (v : Int64) : fX6_put σ (nI s) (nI i) v = some (sn_pL σ (21 + s) i (sp_keep (σ.1 25 s) v)) := by
  unfold fX6_put
  simp only [sn_in_nI hs (by decide), sn_in_nI hi (by decide), gd_T, sn_lt, nI_clamp (show s < 2 ^ 31 by omega), nI_clamp (show i < 2 ^ 31 by omega), at20 hs]
  show (if σ.1 25 s = 0 then _ else if σ.1 25 s = 1 then _ else if σ.1 25 s = 2 then _ else _) = _
  unfold sp_keep
  split
  · rfl
  · split
    · rfl
    · split <;> rfl
theorem m_cut {w : Int32} (h : 0 ≤ w ∧ w ≤ 3) (v : Int64) : fX9_cut_ v w = some (sp_keep w v) := by
  obtain ⟨k, hk, rfl⟩ := nI_idx (n := 4) (by decide) h.1 (by
    have := h.2
    rw [Int32.le_iff_toInt_le] at this
    rw [Int32.lt_iff_toInt_lt]
    exact Int.lt_of_le_of_lt this (by decide))
  unfold fX9_cut_ sn_lt
  match k, hk with
  | 0, _ => exact congrArg some ((cut8 v).trans (by simp [sp_keep, nI_0]))
  | 1, _ => exact congrArg some ((cut16 v).trans (by rw [sp_keep, if_neg (by decide), if_pos (by decide)]))
  | 2, _ => exact congrArg some ((cut32 v).trans (by rw [sp_keep, if_neg (by decide), if_neg (by decide), if_pos (by decide)]))
  | 3, _ =>
    refine congrArg some ?_
    rw [sp_keep, if_neg (by decide), if_neg (by decide), if_neg (by decide)]
    show (v <<< (0 : Int64)) >>> (0 : Int64) = v
    apply Int64.toBitVec_inj.mp
    simp
theorem zj_70 : ∀ (σ τ : sn_S) (a i : Int32) (v : Int64), zj_J σ τ → ∃ r σ1 τ1, fX8_write σ a i v = some (r, σ1) ∧ fX9_write τ a i v = some (r, τ1) ∧ zj_J σ1 τ1 := by
  intro σ τ a i v hJ
  have hS := hJ.2.2.2.2
  have cs := c_isSlot a
  have ms := m_isSlot a
  by_cases hs : 0 ≤ a ∧ a < 4
  · rw [if_pos hs] at cs ms
    obtain ⟨s, hs4, ea⟩ := nI_idx (n := 4) (by decide) hs.1 hs.2
    subst ea
    obtain ⟨b1, b2, b3, b4⟩ := hS.1 s hs4
    have ch := c_has σ hs4
    by_cases hm : σ.1 26 s = -1
    · rw [if_pos hm] at ch
      refine ⟨-6, σ, τ, ?_, ?_, hJ⟩
      · unfold fX8_write
        rw [cs]
        show (fX6_has σ (nI s)).bind _ = _
        rw [ch]
        rfl
      · unfold fX9_write
        rw [ms]
        show sn_gd (sn_in (nI s) 4) (if τ.1 21 (nI s).toNatClampNeg = -1 then _ else _) = _
        rw [sn_in_nI hs4 (by decide), gd_T, nI_clamp (by omega), if_pos (by rw [← b1]; exact hm)]
    · rw [if_neg hm] at ch
      have hge : 0 ≤ σ.1 26 s := by
        have q1 := Int32.le_iff_toInt_le.mp b3.1
        have q2 : σ.1 26 s ≠ -1 := hm
        rw [Int32.le_iff_toInt_le]
        have q3 : (σ.1 26 s).toInt ≠ (-1 : Int32).toInt := fun z => q2 (Int32.toInt_inj.mp z)
        have e1 : (-1 : Int32).toInt = -1 := by decide
        have e0 : (0 : Int32).toInt = 0 := by decide
        omega
      have mi : fX9_in i.toInt64 (0 : Int64) ((sn_I τ 21 (nI s).toNatClampNeg - 1).toInt64) = some (if 0 ≤ i ∧ i < σ.1 26 s then 1 else 0) := by
        rw [nI_clamp (by omega)]
        show fX9_in i.toInt64 (0 : Int32).toInt64 ((τ.1 21 s - 1).toInt64) = _
        rw [in_eq32, ← b1]
        simp only [i32_le_sub1 hge]
      by_cases hi : 0 ≤ i ∧ i < σ.1 26 s
      · rw [if_pos hi] at mi
        obtain ⟨k, hk, ek⟩ := nI_idx (n := 60) (by decide) hi.1 (by
          have q1 := Int32.le_iff_toInt_le.mp b3.2
          have q2 := Int32.lt_iff_toInt_lt.mp hi.2
          rw [Int32.lt_iff_toInt_lt]
          exact Int.lt_of_lt_of_le q2 q1)
        subst ek
        refine ⟨0, sn_pL σ (21 + s) k (sp_keep (σ.1 25 s) v), sn_pL τ 23 (60 * s + k) (sp_keep (σ.1 25 s) v), ?_, ?_, ?_⟩
        · unfold fX8_write
          rw [cs]
          show (fX6_has σ (nI s)).bind _ = _
          rw [ch]
          show (if nI k < 0 then _ else sn_gd (sn_in (nI s) 4) (if nI k < σ.1 26 (nI s).toNatClampNeg then _ else _)) = _
          rw [if_neg (Int32.not_lt.mpr hi.1), sn_in_nI hs4 (by decide), gd_T, nI_clamp (show s < 2 ^ 31 by omega), if_pos hi.2, c_put σ hs4 hk v]
          rfl
        · have ei : (60 : Int32) * nI s + nI k = nI (60 * s + k) := by
            rw [← nI_add, ← nI_mul]
            rfl
          unfold fX9_write
          rw [ms]
          show sn_gd (sn_in (nI s) 4) (if τ.1 21 (nI s).toNatClampNeg = -1 then _ else sn_gd (sn_in (nI s) 4) ((fX9_in (nI k).toInt64 (0 : Int64) ((sn_I τ 21 (nI s).toNatClampNeg - 1).toInt64)).bind _)) = _
          rw [sn_in_nI hs4 (by decide), gd_T, gd_T, mi, nI_clamp (show s < 2 ^ 31 by omega), if_neg (by rw [← b1]; exact hm)]
          rw [Option.bind_some, if_neg (show ¬ (1 : Int32) = 0 by decide), gd_T]
          show (fX9_cut_ v (τ.1 22 s)).bind _ = _
          rw [← b2, m_cut b4 v]
          show sn_gd (sn_in ((60 : Int32) * nI s + nI k) 240) (some (0, sn_pL τ 23 ((60 : Int32) * nI s + nI k).toNatClampNeg (sp_keep (σ.1 25 s) v))) = _
          rw [ei, sn_in_nI (by omega) (by decide), gd_T, nI_clamp (by omega)]
        · refine zj_rows (σ := σ) (τ := τ) (σ' := sn_pL σ (21 + s) k (sp_keep (σ.1 25 s) v)) (τ' := sn_pL τ 23 (60 * s + k) (sp_keep (σ.1 25 s) v)) ⟨hS.1, fun t ht => ?_⟩ (fun q q1 q2 => rfl) (fun q q1 q2 => rfl) hJ.1 hJ.2.1 hJ
          obtain ⟨d1, d2, d3, d4⟩ := hS.2 t ht
          have key : ∀ (A B : Prop) [Decidable A] [Decidable B] (x y z : Int64), (A ↔ B) → y = z → (if A then x else y) = (if B then x else z) := fun A B _ _ x y z h e => by
            by_cases hA : A
            · rw [if_pos hA, if_pos (h.mp hA)]
            · rw [if_neg hA, if_neg (fun z => hA (h.mpr z)), e]
          exact ⟨key _ _ _ _ _ (by omega) d1, key _ _ _ _ _ (by omega) d2, key _ _ _ _ _ (by omega) d3, key _ _ _ _ _ (by omega) d4⟩
      · rw [if_neg hi] at mi
        refine ⟨-7, σ, τ, ?_, ?_, hJ⟩
        · unfold fX8_write
          rw [cs]
          show (fX6_has σ (nI s)).bind _ = _
          rw [ch]
          show (if i < 0 then _ else sn_gd (sn_in (nI s) 4) (if i < σ.1 26 (nI s).toNatClampNeg then _ else _)) = _
          rw [sn_in_nI hs4 (by decide), gd_T, nI_clamp (show s < 2 ^ 31 by omega)]
          by_cases h0 : i < 0
          · rw [if_pos h0]
          · rw [if_neg h0, if_neg (fun h => hi ⟨Int32.not_lt.mp h0, h⟩)]
        · unfold fX9_write
          rw [ms]
          show sn_gd (sn_in (nI s) 4) (if τ.1 21 (nI s).toNatClampNeg = -1 then _ else sn_gd (sn_in (nI s) 4) ((fX9_in i.toInt64 (0 : Int64) ((sn_I τ 21 (nI s).toNatClampNeg - 1).toInt64)).bind _)) = _
          rw [sn_in_nI hs4 (by decide), gd_T, gd_T, mi, nI_clamp (show s < 2 ^ 31 by omega), if_neg (by rw [← b1]; exact hm)]
          rfl
  · rw [if_neg hs] at cs ms
    refine ⟨-2, σ, τ, ?_, ?_, hJ⟩
    · unfold fX8_write
      rw [cs]
      rfl
    · unfold fX9_write
      rw [ms]
      rfl
/-! paste -/
theorem zp_spans {σ : sn_S} {s : Nat} (hs : s < 4) (h0 : 0 ≤ (σ.1 26 s).toInt) (a n : Int32) : fX6_spans σ (nI s) a n = some (if 0 ≤ a.toInt ∧ 0 ≤ n.toInt ∧ a.toInt + n.toInt ≤ (σ.1 26 s).toInt then 1 else 0) := by
  have e0 : (0 : Int32).toInt = 0 := by decide
  unfold fX6_spans
  by_cases c1 : a < 0
  · have := zs_I_lt c1
    rw [if_pos c1, if_neg (by omega)]
    rfl
  · have d1 := zs_I_ltn c1
    rw [if_neg c1]
    by_cases c2 : n < 0
    · have := zs_I_lt c2
      rw [if_pos c2, if_neg (by omega)]
      rfl
    · have d2 := zs_I_ltn c2
      rw [if_neg c2, sn_in_nI hs (by decide), gd_T, nI_clamp (show s < 2 ^ 31 by omega)]
      show (if σ.1 26 s < a then _ else _) = _
      by_cases c3 : σ.1 26 s < a
      · have := zs_I_lt c3
        rw [if_pos c3, if_neg (by omega)]
        rfl
      · have d3 := zs_I_ltn c3
        have e4 : (σ.1 26 s - a).toInt = (σ.1 26 s).toInt - a.toInt := by
          have := zs_topI (σ.1 26 s)
          rw [Int32.toInt_sub, zs_bm ⟨by omega, by omega⟩]
        rw [if_neg c3, gd_T]
        show (if σ.1 26 s - a < n then _ else _) = _
        by_cases c4 : σ.1 26 s - a < n
        · have := zs_I_lt c4
          rw [if_pos c4, if_neg (by omega)]
          rfl
        · have := zs_I_ltn c4
          rw [if_neg c4, if_pos (by omega)]
          rfl
theorem zp_take (τ : sn_S) {s i n : Nat} (x3 x4 : Int32) (hs : s < 4) (hn : i + n ≤ 60) : sn_it (LX9_paste_113 (nI s) (nI i) x3 x4 (nI n)) 5000 (τ, (0 : Int32)) = some (τ.1, (fun q b => if q = 24 ∧ b < n then τ.2.1 23 (60 * s + i + b) else τ.2.1 q b), τ.2.2) := by
  obtain ⟨t, e1, e2⟩ := sn_for (f := LX9_paste_113 (nI s) (nI i) x3 x4 (nI n)) n (fun k z => z = ((τ.1, (fun q b => if q = 24 ∧ b < k then τ.2.1 23 (60 * s + i + b) else τ.2.1 q b), τ.2.2), nI k)) (fun t => t = (τ.1, (fun q b => if q = 24 ∧ b < n then τ.2.1 23 (60 * s + i + b) else τ.2.1 q b), τ.2.2))
    (fun k z hk hz => by
      subst hz
      refine ⟨_, ?_, rfl⟩
      unfold LX9_paste_113 BX9_paste_113
      rw [if_neg (show ¬ nI n ≤ nI k from nI_ge hk (by omega))]
      have ei : (60 : Int32) * nI s + nI i + nI k = nI (60 * s + i + k) := by
        rw [← nI_add, ← nI_add, ← nI_mul]
        rfl
      show sn_gd (sn_in ((60 : Int32) * nI s + nI i + nI k) 240) (sn_gd (sn_in (nI k) 60) (some (Sum.inl (sn_pL _ 24 (nI k).toNatClampNeg (sn_L _ 23 ((60 : Int32) * nI s + nI i + nI k).toNatClampNeg), nI k + 1)))) = _
      rw [ei, sn_in_nI (by omega) (by decide), gd_T, sn_in_nI (by omega) (by decide), gd_T, nI_clamp (by omega), nI_clamp (by omega), nI_1]
      refine congrArg (fun z => some (Sum.inl ((τ.1, z, τ.2.2), nI (k + 1)))) ?_
      funext q b
      show (if q = 24 ∧ b = k then (if 23 = 24 ∧ 60 * s + i + k < k then τ.2.1 23 (60 * s + i + (60 * s + i + k)) else τ.2.1 23 (60 * s + i + k)) else if q = 24 ∧ b < k then τ.2.1 23 (60 * s + i + b) else τ.2.1 q b) = _
      rw [if_neg (show ¬ (23 = 24 ∧ 60 * s + i + k < k) by omega)]
      by_cases ha : q = 24
      · by_cases hb : b = k
        · rw [if_pos ⟨ha, hb⟩, if_pos ⟨ha, by omega⟩, hb]
        · rw [if_neg (fun h => hb h.2)]
          by_cases hb2 : b < k
          · rw [if_pos ⟨ha, hb2⟩, if_pos ⟨ha, by omega⟩]
          · rw [if_neg (fun h => hb2 h.2), if_neg (fun h => hb2 (by have := h.2; omega))]
      · rw [if_neg (fun h => ha h.1), if_neg (fun h => ha h.1), if_neg (fun h => ha h.1)])
    (fun z hz => by
      subst hz
      refine ⟨_, ?_, rfl⟩
      unfold LX9_paste_113 BX9_paste_113
      rw [if_pos (show nI n ≤ nI n from Int32.le_refl _)])
    (n := 5000) (by omega) (s := (τ, (0 : Int32))) (by
      show (τ, (0 : Int32)) = _
      rw [nI_0]
      refine congrArg (fun z => ((τ.1, z, τ.2.2), (0 : Int32))) ?_
      funext a b
      rw [if_neg (by omega)])
  rw [e1, e2]
theorem zp_put (τ : sn_S) {s i n : Nat} (hs : s < 4) (hn : i + n ≤ 60) : sn_it (LX9_paste_150 (nI s) (nI i) (nI n)) 5000 (τ, (0 : Int32)) = some (τ.1, (fun q b => if q = 23 ∧ 60 * s + i ≤ b ∧ b < 60 * s + i + n then τ.2.1 24 (b - (60 * s + i)) else τ.2.1 q b), τ.2.2) := by
  obtain ⟨t, e1, e2⟩ := sn_for (f := LX9_paste_150 (nI s) (nI i) (nI n)) n (fun k z => z = ((τ.1, (fun q b => if q = 23 ∧ 60 * s + i ≤ b ∧ b < 60 * s + i + k then τ.2.1 24 (b - (60 * s + i)) else τ.2.1 q b), τ.2.2), nI k)) (fun t => t = (τ.1, (fun q b => if q = 23 ∧ 60 * s + i ≤ b ∧ b < 60 * s + i + n then τ.2.1 24 (b - (60 * s + i)) else τ.2.1 q b), τ.2.2))
    (fun k z hk hz => by
      subst hz
      refine ⟨_, ?_, rfl⟩
      unfold LX9_paste_150 BX9_paste_150
      rw [if_neg (show ¬ nI n ≤ nI k from nI_ge hk (by omega))]
      have ei : (60 : Int32) * nI s + nI i + nI k = nI (60 * s + i + k) := by
        rw [← nI_add, ← nI_add, ← nI_mul]
        rfl
      show sn_gd (sn_in (nI k) 60) (sn_gd (sn_in ((60 : Int32) * nI s + nI i + nI k) 240) (some (Sum.inl (sn_pL _ 23 ((60 : Int32) * nI s + nI i + nI k).toNatClampNeg (sn_L _ 24 (nI k).toNatClampNeg), nI k + 1)))) = _
      rw [ei, sn_in_nI (by omega) (by decide), gd_T, sn_in_nI (by omega) (by decide), gd_T, nI_clamp (by omega), nI_clamp (by omega), nI_1]
      refine congrArg (fun z => some (Sum.inl ((τ.1, z, τ.2.2), nI (k + 1)))) ?_
      funext q b
      show (if q = 23 ∧ b = 60 * s + i + k then (if 24 = 23 ∧ 60 * s + i ≤ k ∧ k < 60 * s + i + k then τ.2.1 24 (k - (60 * s + i)) else τ.2.1 24 k) else if q = 23 ∧ 60 * s + i ≤ b ∧ b < 60 * s + i + k then τ.2.1 24 (b - (60 * s + i)) else τ.2.1 q b) = _
      rw [if_neg (show ¬ (24 = 23 ∧ 60 * s + i ≤ k ∧ k < 60 * s + i + k) by omega)]
      by_cases ha : q = 23
      · by_cases hb : b = 60 * s + i + k
        · rw [if_pos ⟨ha, hb⟩, if_pos ⟨ha, by omega⟩, hb, show 60 * s + i + k - (60 * s + i) = k by omega]
        · rw [if_neg (fun h => hb h.2)]
          by_cases hb2 : 60 * s + i ≤ b ∧ b < 60 * s + i + k
          · rw [if_pos ⟨ha, hb2⟩, if_pos ⟨ha, by omega⟩]
          · rw [if_neg (fun h => hb2 h.2), if_neg (fun h => hb2 (by have := h.2; omega))]
      · rw [if_neg (fun h => ha h.1), if_neg (fun h => ha h.1), if_neg (fun h => ha h.1)])
    (fun z hz => by
      subst hz
      refine ⟨_, ?_, rfl⟩
      unfold LX9_paste_150 BX9_paste_150
      rw [if_pos (show nI n ≤ nI n from Int32.le_refl _)])
    (n := 5000) (by omega) (s := (τ, (0 : Int32))) (by
      show (τ, (0 : Int32)) = _
      rw [nI_0]
      refine congrArg (fun z => ((τ.1, z, τ.2.2), (0 : Int32))) ?_
      funext a b
      rw [if_neg (by omega)])
  rw [e1, e2]
theorem zp_lt0 {x : Int32} : (x < 0 ↔ x.toInt < 0) := by
  rw [Int32.lt_iff_toInt_lt]
  rfl
theorem zp_add {x y : Int32} : (x.toInt64 + y.toInt64).toInt = x.toInt + y.toInt := by
  have h1 := zs_topI x
  have h2 := zs_topI y
  rw [Int64.toInt_add, Int32.toInt_toInt64, Int32.toInt_toInt64, zs_bmL ⟨by omega, by omega⟩]
/-- the reference's questions ahead of a paste, once the rows are of one width -/
theorem zp_mask {τ : sn_S} {s t : Nat} (hs : s < 4) (ht : t < 4) (hm : ¬ τ.1 21 s = -1) (hm2 : ¬ τ.1 21 t = -1) (hw : τ.1 22 s = τ.1 22 t) (i k n : Int32) : fX9_paste τ (nI s) i (nI t) k n = if (0 ≤ i.toInt ∧ 0 ≤ n.toInt ∧ i.toInt + n.toInt ≤ (τ.1 21 s).toInt) ∧ (0 ≤ k.toInt ∧ 0 ≤ n.toInt ∧ k.toInt + n.toInt ≤ (τ.1 21 t).toInt) then ((sn_it (LX9_paste_113 (nI s) i (nI t) k n) 5000 (τ, (0 : Int32))).bind fun t_21 => (BX9_paste_147 t_21 (nI t) k n)) else some (-7, τ) := by
  have ms := m_isSlot (nI s)
  have mt := m_isSlot (nI t)
  have p4 : ∀ s, s < 4 → (0 ≤ nI s ∧ nI s < 4) := by decide
  rw [if_pos (p4 s hs)] at ms
  rw [if_pos (p4 t ht)] at mt
  unfold fX9_paste
  rw [ms]
  show (fX9_isSlot (nI t)).bind _ = _
  rw [mt]
  show sn_gd (sn_in (nI s) 4) _ = _
  simp only [sn_in_nI hs (show 4 < 2 ^ 31 by decide), sn_in_nI ht (show 4 < 2 ^ 31 by decide), gd_T, nI_clamp (show s < 2 ^ 31 by omega), nI_clamp (show t < 2 ^ 31 by omega)]
  have hm' : ¬ sn_I τ 21 s = -1 := hm
  have hm2' : ¬ sn_I τ 21 t = -1 := hm2
  have hw' : sn_I τ 22 s = sn_I τ 22 t := hw
  rw [if_neg hm', if_neg hm2', if_pos hw']
  by_cases c1 : i < 0
  · rw [if_pos c1, if_neg (fun z => by have := zp_lt0.mp c1; omega)]
  · rw [if_neg c1]
    have d1 : ¬ i.toInt < 0 := fun z => c1 (zp_lt0.mpr z)
    by_cases c2 : k < 0
    · rw [if_pos c2, if_neg (fun z => by have := zp_lt0.mp c2; omega)]
    · rw [if_neg c2]
      have d2 : ¬ k.toInt < 0 := fun z => c2 (zp_lt0.mpr z)
      by_cases c3 : n < 0
      · rw [if_pos c3, if_neg (fun z => by have := zp_lt0.mp c3; omega)]
      · rw [if_neg c3]
        have d3 : ¬ n.toInt < 0 := fun z => c3 (zp_lt0.mpr z)
        have q1 : (τ.1 21 s).toInt64.toInt = (τ.1 21 s).toInt := Int32.toInt_toInt64 _
        have q2 : (τ.1 21 t).toInt64.toInt = (τ.1 21 t).toInt := Int32.toInt_toInt64 _
        by_cases c4 : 0 < lg_cmp (i.toInt64 + n.toInt64) (sn_I τ 21 s).toInt64
        · have c4' := zs_lg_ltf c4
          rw [zp_add] at c4'
          have c5 : (τ.1 21 s).toInt64.toInt < i.toInt + n.toInt := c4'
          rw [if_pos c4, if_neg (fun z => by omega)]
        · have c4' := zs_lg_ltfn c4
          rw [zp_add] at c4'
          have c5 : i.toInt + n.toInt ≤ (τ.1 21 s).toInt64.toInt := c4'
          rw [if_neg c4]
          by_cases c6 : lg_cmp (k.toInt64 + n.toInt64) (sn_I τ 21 t).toInt64 ≤ 0
          · have c6' := zs_lg_le c6
            rw [zp_add] at c6'
            have c7 : k.toInt + n.toInt ≤ (τ.1 21 t).toInt64.toInt := c6'
            rw [if_pos c6, if_pos ⟨⟨by omega, by omega, by omega⟩, by omega, by omega, by omega⟩]
          · have c6' := zs_lg_len c6
            rw [zp_add] at c6'
            have c7 : (τ.1 21 t).toInt64.toInt < k.toInt + n.toInt := c6'
            rw [if_neg c6, if_neg (fun z => by omega)]
theorem zp_neg1 {x : Int32} (h1 : -1 ≤ x) (h2 : ¬ x = -1) : 0 ≤ x.toInt := by
  have a1 := zs_I_le h1
  have a2 := zs_I_eqn h2
  have e : (-1 : Int32).toInt = -1 := by decide
  omega
theorem zj_71 : ∀ (σ τ : sn_S) (a i b k n : Int32), zj_J σ τ → ∃ r σ1 τ1, fX8_paste σ a i b k n = some (r, σ1) ∧ fX9_paste τ a i b k n = some (r, τ1) ∧ zj_J σ1 τ1 := by
  intro σ τ a i b k n hJ
  have hS := hJ.2.2.2.2
  have cs := c_isSlot a
  have ms := m_isSlot a
  have ct := c_isSlot b
  have mt := m_isSlot b
  by_cases hs : 0 ≤ a ∧ a < 4
  · rw [if_pos hs] at cs ms
    by_cases ht : 0 ≤ b ∧ b < 4
    · rw [if_pos ht] at ct mt
      obtain ⟨s, hs4, ea⟩ := nI_idx (n := 4) (by decide) hs.1 hs.2
      obtain ⟨t, ht4, eb⟩ := nI_idx (n := 4) (by decide) ht.1 ht.2
      subst ea
      subst eb
      obtain ⟨b1, b2, b3, b4⟩ := hS.1 s hs4
      obtain ⟨d1, d2, d3, d4⟩ := hS.1 t ht4
      have chs := c_has σ hs4
      have cht := c_has σ ht4
      by_cases hm : σ.1 26 s = -1
      · rw [if_pos hm] at chs
        refine ⟨-6, σ, τ, ?_, ?_, hJ⟩
        · unfold fX8_paste
          rw [cs]
          show (fX6_isSlot (nI t)).bind _ = _
          rw [ct]
          show (fX6_has σ (nI s)).bind _ = _
          rw [chs]
          rfl
        · unfold fX9_paste
          rw [ms]
          show (fX9_isSlot (nI t)).bind _ = _
          rw [mt]
          show sn_gd (sn_in (nI s) 4) (if τ.1 21 (nI s).toNatClampNeg = -1 then _ else _) = _
          rw [sn_in_nI hs4 (by decide), gd_T, nI_clamp (by omega), if_pos (by rw [← b1]; exact hm)]
      · rw [if_neg hm] at chs
        by_cases hm2 : σ.1 26 t = -1
        · rw [if_pos hm2] at cht
          refine ⟨-6, σ, τ, ?_, ?_, hJ⟩
          · unfold fX8_paste
            rw [cs]
            show (fX6_isSlot (nI t)).bind _ = _
            rw [ct]
            show (fX6_has σ (nI s)).bind _ = _
            rw [chs]
            show (fX6_has σ (nI t)).bind _ = _
            rw [cht]
            rfl
          · unfold fX9_paste
            rw [ms]
            show (fX9_isSlot (nI t)).bind _ = _
            rw [mt]
            show sn_gd (sn_in (nI s) 4) (if τ.1 21 (nI s).toNatClampNeg = -1 then _ else sn_gd (sn_in (nI t) 4) (if τ.1 21 (nI t).toNatClampNeg = -1 then _ else _)) = _
            rw [sn_in_nI hs4 (by decide), gd_T, nI_clamp (show s < 2 ^ 31 by omega), if_neg (by rw [← b1]; exact hm), sn_in_nI ht4 (by decide), gd_T, nI_clamp (show t < 2 ^ 31 by omega), if_pos (by rw [← d1]; exact hm2)]
        · rw [if_neg hm2] at cht
          have hL := zp_neg1 b3.1 hm
          have hL2 := zp_neg1 d3.1 hm2
          by_cases hw : σ.1 25 s = σ.1 25 t
          · have pm := zp_mask (τ := τ) hs4 ht4 (by rw [← b1]; exact hm) (by rw [← d1]; exact hm2) (by rw [← b2, ← d2]; exact hw) i k n
            rw [← b1, ← d1] at pm
            have sp1 := zp_spans (σ := σ) hs4 hL i n
            have sp2 := zp_spans (σ := σ) ht4 hL2 k n
            have head : fX8_paste σ (nI s) i (nI t) k n = ((fX6_spans σ (nI s) i n).bind fun t_16 => (if t_16 = 0 then (some ((-7 : Int32), σ)) else ((fX6_spans σ (nI t) k n).bind fun t_19 => (if t_19 = 0 then (some ((-7 : Int32), σ)) else (sn_gd (sn_cpok i k n 60 60) (some ((0 : Int32), (sn_wL σ (21 + t) (va_cpy (sn_L σ (21 + s)) (sn_L σ (21 + t)) i.toNatClampNeg k.toNatClampNeg n.toNatClampNeg))))))))) := by
              unfold fX8_paste
              rw [cs]
              show (fX6_isSlot (nI t)).bind _ = _
              rw [ct]
              show (fX6_has σ (nI s)).bind _ = _
              rw [chs]
              show (fX6_has σ (nI t)).bind _ = _
              rw [cht]
              show sn_gd (sn_in (nI s) 4) _ = _
              simp only [sn_in_nI hs4 (show 4 < 2 ^ 31 by decide), sn_in_nI ht4 (show 4 < 2 ^ 31 by decide), gd_T, nI_clamp (show s < 2 ^ 31 by omega), nI_clamp (show t < 2 ^ 31 by omega), at20 hs4, at20 ht4, sn_lt]
              rw [if_pos (show sn_I σ 25 s = sn_I σ 25 t from hw)]
            by_cases q1 : 0 ≤ i.toInt ∧ 0 ≤ n.toInt ∧ i.toInt + n.toInt ≤ (σ.1 26 s).toInt
            · rw [if_pos q1] at sp1
              by_cases q2 : 0 ≤ k.toInt ∧ 0 ≤ n.toInt ∧ k.toInt + n.toInt ≤ (σ.1 26 t).toInt
              · rw [if_pos q2] at sp2
                rw [if_pos ⟨q1, q2⟩] at pm
                have u1 := zs_I_le b3.2
                have u2 := zs_I_le d3.2
                have e60 : (60 : Int32).toInt = 60 := by decide
                obtain ⟨i', hi1, ei⟩ := zs_val (x := i) (a := 0) (b := 60) ⟨by omega, by omega⟩ (by decide)
                obtain ⟨k', hk1, ek⟩ := zs_val (x := k) (a := 0) (b := 60) ⟨by omega, by omega⟩ (by decide)
                obtain ⟨n', hn1, en⟩ := zs_val (x := n) (a := 0) (b := 60) ⟨by omega, by omega⟩ (by decide)
                have hi2 : i' < 61 := by omega
                have hk2 : k' < 61 := by omega
                have hn2 : n' < 61 := by omega
                subst ei
                subst ek
                subst en
                rw [nI_toInt (by omega), nI_toInt (by omega)] at q1 q2
                have hin : i' + n' ≤ 60 := by omega
                have hkn : k' + n' ≤ 60 := by omega
                rw [zp_take τ (nI t) (nI k') hs4 hin] at pm
                have pm2 : fX9_paste τ (nI s) (nI i') (nI t) (nI k') (nI n') = some (0, (τ.1, (fun q b => if q = 23 ∧ 60 * t + k' ≤ b ∧ b < 60 * t + k' + n' then (if 24 = 24 ∧ b - (60 * t + k') < n' then τ.2.1 23 (60 * s + i' + (b - (60 * t + k'))) else τ.2.1 24 (b - (60 * t + k'))) else (if q = 24 ∧ b < n' then τ.2.1 23 (60 * s + i' + b) else τ.2.1 q b)), τ.2.2)) := by
                  rw [pm]
                  show BX9_paste_147 _ (nI t) (nI k') (nI n') = _
                  unfold BX9_paste_147
                  rw [zp_put _ ht4 hkn]
                  rfl
                refine ⟨0, sn_wL σ (21 + t) (va_cpy (sn_L σ (21 + s)) (sn_L σ (21 + t)) i' k' n'), _, ?_, pm2, ?_⟩
                · have ok : sn_cpok (nI i') (nI k') (nI n') 60 60 = true := by
                    unfold sn_cpok
                    simp [nI_clamp (show i' < 2 ^ 31 by omega), nI_clamp (show k' < 2 ^ 31 by omega), nI_clamp (show n' < 2 ^ 31 by omega), nI_pos' (show i' < 2 ^ 31 by omega), nI_pos' (show k' < 2 ^ 31 by omega), nI_pos' (show n' < 2 ^ 31 by omega), hin, hkn]
                  rw [head, sp1]
                  show (fX6_spans σ (nI t) (nI k') (nI n')).bind _ = _
                  rw [sp2]
                  show sn_gd (sn_cpok (nI i') (nI k') (nI n') 60 60) _ = _
                  rw [ok, gd_T, nI_clamp (show i' < 2 ^ 31 by omega), nI_clamp (show k' < 2 ^ 31 by omega), nI_clamp (show n' < 2 ^ 31 by omega)]
                · have hrow : ∀ u, u < 4 → ∀ j, j < 60 → σ.2.1 (21 + u) j = τ.2.1 23 (60 * u + j) := by
                    intro u hu j hj
                    obtain ⟨f0, f1, f2, f3⟩ := hS.2 j hj
                    match u, hu with
                    | 0, _ => rw [Nat.mul_zero, Nat.zero_add]; exact f0
                    | 1, _ => exact f1
                    | 2, _ => exact f2
                    | 3, _ => exact f3
                  have hnew : ∀ u, u < 4 → ∀ j, j < 60 → (if 21 + u = 21 + t then va_cpy (σ.2.1 (21 + s)) (σ.2.1 (21 + t)) i' k' n' else σ.2.1 (21 + u)) j = (if 23 = 23 ∧ 60 * t + k' ≤ 60 * u + j ∧ 60 * u + j < 60 * t + k' + n' then (if 24 = 24 ∧ 60 * u + j - (60 * t + k') < n' then τ.2.1 23 (60 * s + i' + (60 * u + j - (60 * t + k'))) else τ.2.1 24 (60 * u + j - (60 * t + k'))) else (if 23 = 24 ∧ 60 * u + j < n' then τ.2.1 23 (60 * s + i' + (60 * u + j)) else τ.2.1 23 (60 * u + j))) := by
                    intro u hu j hj
                    rw [if_neg (show ¬ (23 = 24 ∧ 60 * u + j < n') by omega)]
                    by_cases hut : u = t
                    · rw [hut, if_pos rfl]
                      unfold va_cpy
                      by_cases hin2 : k' ≤ j ∧ j < k' + n'
                      · rw [if_pos hin2, if_pos ⟨rfl, by omega, by omega⟩, if_pos ⟨rfl, by omega⟩, hrow s hs4 _ (by omega)]
                        exact congrArg (τ.2.1 23) (by omega)
                      · rw [if_neg hin2, if_neg (by omega), hrow t ht4 j hj]
                    · rw [if_neg (by omega), if_neg (by omega), hrow u hu j hj]
                  refine zj_rows (σ := σ) (τ := τ) ⟨hS.1, fun j hj => ⟨?_, hnew 1 (by decide) j hj, hnew 2 (by decide) j hj, hnew 3 (by decide) j hj⟩⟩ (fun _ _ _ => rfl) (fun _ _ _ => rfl) hJ.1 hJ.2.1 hJ
                  have := hnew 0 (by decide) j hj
                  rw [Nat.mul_zero, Nat.zero_add] at this
                  exact this
              · rw [if_neg q2] at sp2
                rw [if_neg (fun z => q2 z.2)] at pm
                refine ⟨-7, σ, τ, ?_, pm, hJ⟩
                rw [head, sp1]
                show (fX6_spans σ (nI t) k n).bind _ = _
                rw [sp2]
                rfl
            · rw [if_neg q1] at sp1
              rw [if_neg (fun z => q1 z.1)] at pm
              refine ⟨-7, σ, τ, ?_, pm, hJ⟩
              rw [head, sp1]
              rfl
          · refine ⟨-8, σ, τ, ?_, ?_, hJ⟩
            · unfold fX8_paste
              rw [cs]
              show (fX6_isSlot (nI t)).bind _ = _
              rw [ct]
              show (fX6_has σ (nI s)).bind _ = _
              rw [chs]
              show (fX6_has σ (nI t)).bind _ = _
              rw [cht]
              show sn_gd (sn_in (nI s) 4) (sn_gd (sn_in (nI t) 4) (if σ.1 25 (nI s).toNatClampNeg = σ.1 25 (nI t).toNatClampNeg then _ else _)) = _
              rw [sn_in_nI hs4 (by decide), gd_T, sn_in_nI ht4 (by decide), gd_T, nI_clamp (show s < 2 ^ 31 by omega), nI_clamp (show t < 2 ^ 31 by omega), if_neg hw]
            · unfold fX9_paste
              rw [ms]
              show (fX9_isSlot (nI t)).bind _ = _
              rw [mt]
              show sn_gd (sn_in (nI s) 4) _ = _
              simp only [sn_in_nI hs4 (show 4 < 2 ^ 31 by decide), sn_in_nI ht4 (show 4 < 2 ^ 31 by decide), gd_T, nI_clamp (show s < 2 ^ 31 by omega), nI_clamp (show t < 2 ^ 31 by omega)]
              rw [if_neg (show ¬ sn_I τ 21 s = -1 by show ¬ τ.1 21 s = -1; rw [← b1]; exact hm), if_neg (show ¬ sn_I τ 21 t = -1 by show ¬ τ.1 21 t = -1; rw [← d1]; exact hm2), if_neg (show ¬ sn_I τ 22 s = sn_I τ 22 t by show ¬ τ.1 22 s = τ.1 22 t; rw [← b2, ← d2]; exact hw)]
    · rw [if_neg ht] at ct mt
      refine ⟨-2, σ, τ, ?_, ?_, hJ⟩
      · unfold fX8_paste
        rw [cs]
        show (fX6_isSlot b).bind _ = _
        rw [ct]
        rfl
      · unfold fX9_paste
        rw [ms]
        show (fX9_isSlot b).bind _ = _
        rw [mt]
        rfl
  · rw [if_neg hs] at cs ms
    refine ⟨-2, σ, τ, ?_, ?_, hJ⟩
    · unfold fX8_paste
      rw [cs]
      rfl
    · unfold fX9_paste
      rw [ms]
      rfl
