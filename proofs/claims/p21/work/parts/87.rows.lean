/-! what the two have in common for the parts: bounds on both sides, the tape's length, the kept images, the rows of numbers -/
def jS (le wi : Nat → Int32) (r0 r1 r2 r3 : Nat → Int64) (many width : Nat → Int32) (num : Nat → Int64) : Prop :=
  (∀ s, s < 4 → le s = many s ∧ wi s = width s ∧ (-1 ≤ le s ∧ le s ≤ 60) ∧ (0 ≤ wi s ∧ wi s ≤ 3)) ∧ ∀ i, i < 60 → r0 i = num i ∧ r1 i = num (60 + i) ∧ r2 i = num (120 + i) ∧ r3 i = num (180 + i)
/-- the tape and what was found wrong with it -/
def zt_J (σ τ : sn_S) : Prop := σ.1 17 1 = τ.1 0 5 ∧ σ.1 17 2 = τ.1 0 12 ∧ σ.1 17 3 = τ.1 0 13 ∧ ∀ k : Nat, (k : Int) < (σ.1 17 1).toInt → (σ.1 18 k).toInt = (τ.1 4 k &&& (255 : Int32)).toInt ∧ -128 ≤ (τ.1 4 k).toInt ∧ (τ.1 4 k).toInt ≤ 127
theorem zt_c {σ σ' τ τ' : sn_S} (c1 : σ'.1 17 1 = σ.1 17 1) (c2 : σ'.1 17 2 = σ.1 17 2) (c3 : σ'.1 17 3 = σ.1 17 3) (c4 : ∀ k, σ'.1 18 k = σ.1 18 k) (m1 : τ'.1 0 5 = τ.1 0 5) (m2 : τ'.1 0 12 = τ.1 0 12) (m3 : τ'.1 0 13 = τ.1 0 13) (m4 : ∀ k, τ'.1 4 k = τ.1 4 k) (h : zt_J σ τ) : zt_J σ' τ' := by
  unfold zt_J
  rw [c1, c2, c3, m1, m2, m3]
  exact ⟨h.1, h.2.1, h.2.2.1, fun k hk => by rw [c4 k, m4 k]; exact h.2.2.2 k hk⟩
def zj_J (σ τ : sn_S) : Prop := zs_SB zs_tC σ ∧ zs_SB zs_tM τ ∧ zt_J σ τ ∧ (∀ k, k < 3 → σ.1 16 k = τ.1 3 k) ∧ jS (σ.1 26) (σ.1 25) (σ.2.1 21) (σ.2.1 22) (σ.2.1 23) (σ.2.1 24) (τ.1 21) (τ.1 22) (τ.2.1 23)
theorem zj_keep {σ σ' τ τ' : sn_S} (hC : zs_C0 σ σ') (hM : zs_M0 τ τ') (h : zj_J σ τ) : zj_J σ' τ' := by
  obtain ⟨-, -, e1, e2, e3⟩ := h
  have c26 : σ'.1 26 = σ.1 26 := funext fun k => hC.2.1 26 k rfl
  have c25 : σ'.1 25 = σ.1 25 := funext fun k => hC.2.1 25 k rfl
  have m21 : τ'.1 21 = τ.1 21 := funext fun k => hM.2.1 21 k rfl
  have m22 : τ'.1 22 = τ.1 22 := funext fun k => hM.2.1 22 k rfl
  refine ⟨hC.1, hM.1, zt_c (hC.2.1 17 1 rfl) (hC.2.1 17 2 rfl) (hC.2.1 17 3 rfl) (fun k => hC.2.1 18 k rfl) (hM.2.1 0 5 rfl) (hM.2.1 0 12 rfl) (hM.2.1 0 13 rfl) (fun k => hM.2.1 4 k rfl) e1, fun k hk => ?_, ?_⟩
  · rw [hC.2.1 16 k rfl, hM.2.1 3 k rfl]
    exact e2 k hk
  · rw [c26, c25, m21, m22, hC.2.2 21 rfl, hC.2.2 22 rfl, hC.2.2 23 rfl, hC.2.2 24 rfl, hM.2.2 23 rfl]
    exact e3
theorem zj_rows {σ σ' τ τ' : sn_S} (hS : jS (σ'.1 26) (σ'.1 25) (σ'.2.1 21) (σ'.2.1 22) (σ'.2.1 23) (σ'.2.1 24) (τ'.1 21) (τ'.1 22) (τ'.2.1 23)) (c1 : ∀ q, q ≠ 25 → q ≠ 26 → σ'.1 q = σ.1 q) (m1 : ∀ q, q ≠ 21 → q ≠ 22 → τ'.1 q = τ.1 q) (bC : zs_SB zs_tC σ') (bM : zs_SB zs_tM τ') (h : zj_J σ τ) : zj_J σ' τ' := by
  obtain ⟨-, -, e1, e2, -⟩ := h
  refine ⟨bC, bM, zt_c (by rw [c1 17 (by decide) (by decide)]) (by rw [c1 17 (by decide) (by decide)]) (by rw [c1 17 (by decide) (by decide)]) (fun k => by rw [c1 18 (by decide) (by decide)]) (by rw [m1 0 (by decide) (by decide)]) (by rw [m1 0 (by decide) (by decide)]) (by rw [m1 0 (by decide) (by decide)]) (fun k => by rw [m1 4 (by decide) (by decide)]) e1, fun k hk => ?_, hS⟩
  · rw [c1 16 (by decide) (by decide), m1 3 (by decide) (by decide)]
    exact e2 k hk
theorem zj_0 : ∀ (σ τ : sn_S) (a b c d e : Int32), zj_J σ τ → ∃ r σ1 τ1, fX8_feed σ a b c d e = some (r, σ1) ∧ fX9_feed τ a b c d e = some (r, τ1) ∧ zj_J σ1 τ1 := by
  intro σ τ a b c d e h
  obtain ⟨n, hn, e1⟩ := zh_n (t := zs_tC) (q := 17) (k := 1) h.1 rfl
  have e2 : τ.1 0 5 = nI n := by rw [← h.2.2.1.1]; exact e1
  rcases zh_cfeed h.1 e1 hn a b c d e with ⟨g1, g2⟩ | ⟨g1, s1, g2, g3, g4, g5, g6⟩
  · rcases zh_mfeed h.2.1 e2 hn a b c d e with ⟨k1, k2⟩ | ⟨k1, t1, k2, k3, k4, k5, k6⟩
    · exact ⟨-1, σ, τ, g2, k2, h⟩
    · exact absurd g1 (by omega)
  · rcases zh_mfeed h.2.1 e2 hn a b c d e with ⟨k1, k2⟩ | ⟨k1, t1, k2, k3, k4, k5, k6⟩
    · exact absurd k1 (by omega)
    · obtain ⟨r1, s1', x1, x2, x3⟩ := zt_cfeed e1 g1 a b c d e
      rw [g2] at x1
      cases x1
      obtain ⟨r2, t1', y1, y2, y3⟩ := zt_mfeed e2 g1 a b c d e
      rw [k2] at y1
      cases y1
      refine ⟨nI (n + 20), s1, t1, g2, k2, g3, k3, ⟨g4.trans k4.symm, ?_, ?_, fun k hk => ?_⟩, fun k hk => ?_, ?_⟩
      · rw [g5 17 2 (by decide) (by simp), k5 0 12 (by decide) (by decide) (by simp)]
        exact h.2.2.1.2.1
      · rw [g5 17 3 (by decide) (by simp), k5 0 13 (by decide) (by decide) (by simp)]
        exact h.2.2.1.2.2.1
      · rw [g4, nI_toInt (by omega)] at hk
        by_cases z : k < n
        · rw [x2 k z, y2 k z]
          exact h.2.2.1.2.2.2 k (by rw [e1, nI_toInt (by omega)]; omega)
        · have ek : n + (k - n) = k := by omega
          have a1 := x3 (k - n) (by omega)
          have a2 := y3 (k - n) (by omega)
          rw [ek] at a1 a2
          rw [a1]
          exact ⟨a2.1.symm, a2.2⟩
      · rw [g5 16 k (by decide) (by simp), k5 3 k (by decide) (by decide) (by simp)]
        exact h.2.2.2.1 k hk
      · have c26 : s1.1 26 = σ.1 26 := funext fun k => g5 26 k (by decide) (by simp)
        have c25 : s1.1 25 = σ.1 25 := funext fun k => g5 25 k (by decide) (by simp)
        have m21 : t1.1 21 = τ.1 21 := funext fun k => k5 21 k (by decide) (by decide) (by simp)
        have m22 : t1.1 22 = τ.1 22 := funext fun k => k5 22 k (by decide) (by decide) (by simp)
        rw [c26, c25, m21, m22, g6, k6]
        exact h.2.2.2.2
theorem zj_1 : ∀ (σ τ : sn_S) (a : Int32), zj_J σ τ → ∃ r σ1 τ1, fX8_end σ a = some (r, σ1) ∧ fX9_end τ a = some (r, τ1) ∧ zj_J σ1 τ1 := by
  intro σ τ a h
  rw [zh_cend, zh_mend, h.2.2.1.1]
  by_cases c : 0 ≤ a ∧ a ≤ τ.1 0 5
  · rw [if_pos c, if_pos c]
    have hb := h.2.1.1 0 5
    rw [show zs_tM 0 5 = (0, 900) from rfl] at hb
    have c1 := zs_I_le c.1
    have c2 := zs_I_le c.2
    have e0 : (0 : Int32).toInt = 0 := by decide
    have hb2 : (τ.1 0 5).toInt ≤ 900 := hb.2
    refine ⟨a, _, _, rfl, rfl, zs_sbw h.1 (by rw [show zs_tC 17 1 = (0, 900) from rfl]; exact ⟨by omega, by omega⟩), zs_sbw h.2.1 (by rw [show zs_tM 0 5 = (0, 900) from rfl]; exact ⟨by omega, by omega⟩), ⟨by rw [pI_self, pI_self], by rw [pI_slot (by decide), pI_slot (by decide)]; exact h.2.2.1.2.1, by rw [pI_slot (by decide), pI_slot (by decide)]; exact h.2.2.1.2.2.1, fun k hk => ?_⟩, fun k hk => ?_, ?_⟩
    · rw [pI_self] at hk
      rw [pI_ne (by decide), pI_ne (by decide)]
      exact h.2.2.1.2.2.2 k (by rw [h.2.2.1.1]; omega)
    · rw [pI_ne (by decide), pI_ne (by decide)]
      exact h.2.2.2.1 k hk
    · rw [pI_ne (by decide), pI_ne (by decide), pI_ne (by decide), pI_ne (by decide)]
      exact h.2.2.2.2
  · rw [if_neg c, if_neg c]
    exact ⟨-1, σ, τ, rfl, rfl, h⟩
theorem zj_67 : ∀ (σ τ : sn_S) (a : Int32), zj_J σ τ → ∃ r σ1 τ1, fX8_image σ a = some (r, σ1) ∧ fX9_image τ a = some (r, τ1) ∧ zj_J σ1 τ1 := by
  intro σ τ a h
  rcases zh_k3 a with ⟨j, hj, rfl⟩ | ⟨g1, g2⟩
  · obtain ⟨s, hs, e1⟩ := zh_cimage h.1 hj
    obtain ⟨t, ht, e2⟩ := zh_mimage h.2.1 hj
    obtain ⟨k1, k2, k3, k4, k5⟩ := zj_keep hs ht h
    have ev : (vp_nar FieldType.boolean 1) = 1 := by decide
    rw [ev] at e1 e2
    refine ⟨0, _, _, e1, e2, zs_sbw k1 (by rw [show zs_tC 16 j = (0, 1) from rfl]; decide), zs_sbw k2 (by rw [show zs_tM 3 j = (0, 1) from rfl]; decide), ?_, fun k hk => ?_, ?_⟩
    · exact zt_c (by rw [pI_ne (by decide)]) (by rw [pI_ne (by decide)]) (by rw [pI_ne (by decide)]) (fun k => by rw [pI_ne (by decide)]) (by rw [pI_ne (by decide)]) (by rw [pI_ne (by decide)]) (by rw [pI_ne (by decide)]) (fun k => by rw [pI_ne (by decide)]) k3
    · show (if 16 = 16 ∧ k = j then (1 : Int32) else s.1 16 k) = (if 3 = 3 ∧ k = j then (1 : Int32) else t.1 3 k)
      by_cases e : k = j
      · rw [if_pos ⟨rfl, e⟩, if_pos ⟨rfl, e⟩]
      · rw [if_neg (fun z => e z.2), if_neg (fun z => e z.2)]
        exact k4 k hk
    · rw [pI_ne (by decide), pI_ne (by decide), pI_ne (by decide), pI_ne (by decide)]
      exact k5
  · exact ⟨-2, σ, τ, zh_cimage0 g2, zh_mimage0 g1, h⟩
theorem zj_68 : ∀ (σ τ : sn_S) (a : Int32), zj_J σ τ → ∃ r σ1 τ1, fX8_back σ a = some (r, σ1) ∧ fX9_back τ a = some (r, τ1) ∧ zj_J σ1 τ1 := by
  intro σ τ a h
  rcases zh_k3 a with ⟨j, hj, rfl⟩ | ⟨g1, g2⟩
  · obtain ⟨r, s, hs, e1, q1⟩ := zh_cback h.1 hj
    obtain ⟨r2, t, ht, e2, q2⟩ := zh_mback h.2.1 hj
    have hk : sn_I σ 16 j = sn_I τ 3 j := h.2.2.2.1 j hj
    have er : r = r2 := by rw [q1, q2, hk]
    rw [← er] at e2
    exact ⟨r, s, t, e1, e2, zj_keep hs ht h⟩
  · exact ⟨-2, σ, τ, zh_cback0 g2, zh_mback0 g1, h⟩
theorem cut8 (x : Int64) : (x <<< (56 : Int64)) >>> (56 : Int64) = x.toInt32.toInt8.toInt32.toInt64 := by
  apply Int64.toBitVec_inj.mp
  simp
  apply BitVec.eq_of_getLsbD_eq
  intro i hi
  simp [BitVec.getLsbD_sshiftRight, BitVec.getLsbD_signExtend]
  by_cases h8 : i < 8
  · have h1 : 56 + i < 64 := by omega
    have h2 : i < 64 := hi
    have h3 : ¬ 64 ≤ i := by omega
    have h4 : ¬ 56 + i < 56 := by omega
    have h5 : i < 32 := by omega
    simp [h8, h1, h2, h3, h4, h5]
  · have h1 : ¬ 56 + i < 64 := by omega
    have h2 : i < 64 := hi
    have h3 : ¬ 64 ≤ i := by omega
    simp [h8, h1, h2, h3, BitVec.msb_eq_getLsbD_last, BitVec.getLsbD_signExtend, BitVec.getMsbD_eq_getLsbD, BitVec.getElem_signExtend]
theorem cut16 (x : Int64) : (x <<< (48 : Int64)) >>> (48 : Int64) = x.toInt32.toInt16.toInt32.toInt64 := by
  apply Int64.toBitVec_inj.mp
  simp
  apply BitVec.eq_of_getLsbD_eq
  intro i hi
  simp [BitVec.getLsbD_sshiftRight, BitVec.getLsbD_signExtend]
  by_cases h8 : i < 16
  · have h1 : 48 + i < 64 := by omega
    have h2 : i < 64 := hi
    have h3 : ¬ 64 ≤ i := by omega
    have h4 : ¬ 48 + i < 48 := by omega
    have h5 : i < 32 := by omega
    simp [h8, h1, h2, h3, h4, h5]
  · have h1 : ¬ 48 + i < 64 := by omega
    have h2 : i < 64 := hi
    have h3 : ¬ 64 ≤ i := by omega
    simp [h8, h1, h2, h3, BitVec.msb_eq_getLsbD_last, BitVec.getLsbD_signExtend, BitVec.getMsbD_eq_getLsbD, BitVec.getElem_signExtend]
theorem cut32 (x : Int64) : (x <<< (32 : Int64)) >>> (32 : Int64) = x.toInt32.toInt64 := by
  apply Int64.toBitVec_inj.mp
  simp
  apply BitVec.eq_of_getLsbD_eq
  intro i hi
  simp [BitVec.getLsbD_sshiftRight, BitVec.getLsbD_signExtend]
  by_cases h8 : i < 32
  · have h1 : 32 + i < 64 := by omega
    have h2 : i < 64 := hi
    have h3 : ¬ 64 ≤ i := by omega
    have h4 : ¬ 32 + i < 32 := by omega
    have h5 : i < 32 := by omega
    simp [h8, h1, h2, h3, h4, h5]
  · have h1 : ¬ 32 + i < 64 := by omega
    have h2 : i < 64 := hi
    have h3 : ¬ 64 ≤ i := by omega
    simp [h8, h1, h2, h3, BitVec.msb_eq_getLsbD_last, BitVec.getLsbD_signExtend, BitVec.getMsbD_eq_getLsbD, BitVec.getElem_signExtend]
theorem c_has (σ : sn_S) {s : Nat} (hs : s < 4) : fX6_has σ (nI s) = some (if σ.1 26 s = -1 then 0 else 1) := by
  unfold fX6_has
  rw [sn_in_nI hs (by decide), gd_T, nI_clamp (by omega)]
  show (if σ.1 26 s = -1 then _ else _) = _
  by_cases h : σ.1 26 s = -1
  · rw [if_pos h, if_pos h]
    rfl
  · rw [if_neg h, if_neg h]
    rfl
/-- what a width keeps of a number -/
def sp_keep (w : Int32) (v : Int64) : Int64 := if w = 0 then v.toInt32.toInt8.toInt32.toInt64 else if w = 1 then v.toInt32.toInt16.toInt32.toInt64 else if w = 2 then v.toInt32.toInt64 else v
theorem c_put (σ : sn_S) {s i : Nat} (hs : s < 4) (hi : i < 60) (v : Int64) : fX6_put σ (nI s) (nI i) v = some (sn_pL σ (21 + s) i (sp_keep (σ.1 25 s) v)) := by
  unfold fX6_put
  simp only [sn_in_nI hs (by decide), sn_in_nI hi (by decide), gd_T, sn_lt, nI_clamp (show s < 2 ^ 31 by omega), nI_clamp (show i < 2 ^ 31 by omega), at20 hs]
  show (if σ.1 25 s = 0 then _ else if σ.1 25 s = 1 then _ else if σ.1 25 s = 2 then _ else _) = _
  unfold sp_keep
  split
  · rfl
  · split
    · rfl
    · split <;> rfl
theorem m_cut {w : Int32} (h : 0 ≤ w ∧ w ≤ 3) (v : Int64) : fX9_cut_ v w = some (sp_keep w v) := by
  obtain ⟨k, hk, rfl⟩ := nI_idx (n := 4) (by decide) h.1 (by
    have := h.2
    rw [Int32.le_iff_toInt_le] at this
    rw [Int32.lt_iff_toInt_lt]
    exact Int.lt_of_le_of_lt this (by decide))
  unfold fX9_cut_ sn_lt
  match k, hk with
  | 0, _ => exact congrArg some ((cut8 v).trans (by simp [sp_keep, nI_0]))
  | 1, _ => exact congrArg some ((cut16 v).trans (by rw [sp_keep, if_neg (by decide), if_pos (by decide)]))
  | 2, _ => exact congrArg some ((cut32 v).trans (by rw [sp_keep, if_neg (by decide), if_neg (by decide), if_pos (by decide)]))
  | 3, _ =>
    refine congrArg some ?_
    rw [sp_keep, if_neg (by decide), if_neg (by decide), if_neg (by decide)]
    show (v <<< (0 : Int64)) >>> (0 : Int64) = v
    apply Int64.toBitVec_inj.mp
    simp
/-! paste -/
theorem zp_spans {σ : sn_S} {s : Nat} (hs : s < 4) (h0 : 0 ≤ (σ.1 26 s).toInt) (a n : Int32) : fX6_spans σ (nI s) a n = some (if 0 ≤ a.toInt ∧ 0 ≤ n.toInt ∧ a.toInt + n.toInt ≤ (σ.1 26 s).toInt then 1 else 0) := by
  have e0 : (0 : Int32).toInt = 0 := by decide
  unfold fX6_spans
  by_cases c1 : a < 0
  · have := zs_I_lt c1
    rw [if_pos c1, if_neg (by omega)]
    rfl
  · have d1 := zs_I_ltn c1
    rw [if_neg c1]
    by_cases c2 : n < 0
    · have := zs_I_lt c2
      rw [if_pos c2, if_neg (by omega)]
      rfl
    · have d2 := zs_I_ltn c2
      rw [if_neg c2, sn_in_nI hs (by decide), gd_T, nI_clamp (show s < 2 ^ 31 by omega)]
      show (if σ.1 26 s < a then _ else _) = _
      by_cases c3 : σ.1 26 s < a
      · have := zs_I_lt c3
        rw [if_pos c3, if_neg (by omega)]
        rfl
      · have d3 := zs_I_ltn c3
        have e4 : (σ.1 26 s - a).toInt = (σ.1 26 s).toInt - a.toInt := by
          have := zs_topI (σ.1 26 s)
          rw [Int32.toInt_sub, zs_bm ⟨by omega, by omega⟩]
        rw [if_neg c3, gd_T]
        show (if σ.1 26 s - a < n then _ else _) = _
        by_cases c4 : σ.1 26 s - a < n
        · have := zs_I_lt c4
          rw [if_pos c4, if_neg (by omega)]
          rfl
        · have := zs_I_ltn c4
          rw [if_neg c4, if_pos (by omega)]
          rfl
theorem zp_take (τ : sn_S) {s i n : Nat} (x3 x4 : Int32) (hs : s < 4) (hn : i + n ≤ 60) : sn_it (LX9_paste_113 (nI s) (nI i) x3 x4 (nI n)) 5000 (τ, (0 : Int32)) = some (τ.1, (fun q b => if q = 24 ∧ b < n then τ.2.1 23 (60 * s + i + b) else τ.2.1 q b), τ.2.2) := by
  obtain ⟨t, e1, e2⟩ := sn_for (f := LX9_paste_113 (nI s) (nI i) x3 x4 (nI n)) n (fun k z => z = ((τ.1, (fun q b => if q = 24 ∧ b < k then τ.2.1 23 (60 * s + i + b) else τ.2.1 q b), τ.2.2), nI k)) (fun t => t = (τ.1, (fun q b => if q = 24 ∧ b < n then τ.2.1 23 (60 * s + i + b) else τ.2.1 q b), τ.2.2))
    (fun k z hk hz => by
      subst hz
      refine ⟨_, ?_, rfl⟩
      unfold LX9_paste_113 BX9_paste_113
      rw [if_neg (show ¬ nI n ≤ nI k from nI_ge hk (by omega))]
      have ei : (60 : Int32) * nI s + nI i + nI k = nI (60 * s + i + k) := by
        rw [← nI_add, ← nI_add, ← nI_mul]
        rfl
      show sn_gd (sn_in ((60 : Int32) * nI s + nI i + nI k) 240) (sn_gd (sn_in (nI k) 60) (some (Sum.inl (sn_pL _ 24 (nI k).toNatClampNeg (sn_L _ 23 ((60 : Int32) * nI s + nI i + nI k).toNatClampNeg), nI k + 1)))) = _
      rw [ei, sn_in_nI (by omega) (by decide), gd_T, sn_in_nI (by omega) (by decide), gd_T, nI_clamp (by omega), nI_clamp (by omega), nI_1]
      refine congrArg (fun z => some (Sum.inl ((τ.1, z, τ.2.2), nI (k + 1)))) ?_
      funext q b
      show (if q = 24 ∧ b = k then (if 23 = 24 ∧ 60 * s + i + k < k then τ.2.1 23 (60 * s + i + (60 * s + i + k)) else τ.2.1 23 (60 * s + i + k)) else if q = 24 ∧ b < k then τ.2.1 23 (60 * s + i + b) else τ.2.1 q b) = _
      rw [if_neg (show ¬ (23 = 24 ∧ 60 * s + i + k < k) by omega)]
      by_cases ha : q = 24
      · by_cases hb : b = k
        · rw [if_pos ⟨ha, hb⟩, if_pos ⟨ha, by omega⟩, hb]
        · rw [if_neg (fun h => hb h.2)]
          by_cases hb2 : b < k
          · rw [if_pos ⟨ha, hb2⟩, if_pos ⟨ha, by omega⟩]
          · rw [if_neg (fun h => hb2 h.2), if_neg (fun h => hb2 (by have := h.2; omega))]
      · rw [if_neg (fun h => ha h.1), if_neg (fun h => ha h.1), if_neg (fun h => ha h.1)])
    (fun z hz => by
      subst hz
      refine ⟨_, ?_, rfl⟩
      unfold LX9_paste_113 BX9_paste_113
      rw [if_pos (show nI n ≤ nI n from Int32.le_refl _)])
    (n := 5000) (by omega) (s := (τ, (0 : Int32))) (by
      show (τ, (0 : Int32)) = _
      rw [nI_0]
      refine congrArg (fun z => ((τ.1, z, τ.2.2), (0 : Int32))) ?_
      funext a b
      rw [if_neg (by omega)])
  rw [e1, e2]
theorem zp_put (τ : sn_S) {s i n : Nat} (hs : s < 4) (hn : i + n ≤ 60) : sn_it (LX9_paste_150 (nI s) (nI i) (nI n)) 5000 (τ, (0 : Int32)) = some (τ.1, (fun q b => if q = 23 ∧ 60 * s + i ≤ b ∧ b < 60 * s + i + n then τ.2.1 24 (b - (60 * s + i)) else τ.2.1 q b), τ.2.2) := by
  obtain ⟨t, e1, e2⟩ := sn_for (f := LX9_paste_150 (nI s) (nI i) (nI n)) n (fun k z => z = ((τ.1, (fun q b => if q = 23 ∧ 60 * s + i ≤ b ∧ b < 60 * s + i + k then τ.2.1 24 (b - (60 * s + i)) else τ.2.1 q b), τ.2.2), nI k)) (fun t => t = (τ.1, (fun q b => if q = 23 ∧ 60 * s + i ≤ b ∧ b < 60 * s + i + n then τ.2.1 24 (b - (60 * s + i)) else τ.2.1 q b), τ.2.2))
    (fun k z hk hz => by
      subst hz
      refine ⟨_, ?_, rfl⟩
      unfold LX9_paste_150 BX9_paste_150
      rw [if_neg (show ¬ nI n ≤ nI k from nI_ge hk (by omega))]
      have ei : (60 : Int32) * nI s + nI i + nI k = nI (60 * s + i + k) := by
        rw [← nI_add, ← nI_add, ← nI_mul]
        rfl
      show sn_gd (sn_in (nI k) 60) (sn_gd (sn_in ((60 : Int32) * nI s + nI i + nI k) 240) (some (Sum.inl (sn_pL _ 23 ((60 : Int32) * nI s + nI i + nI k).toNatClampNeg (sn_L _ 24 (nI k).toNatClampNeg), nI k + 1)))) = _
      rw [ei, sn_in_nI (by omega) (by decide), gd_T, sn_in_nI (by omega) (by decide), gd_T, nI_clamp (by omega), nI_clamp (by omega), nI_1]
      refine congrArg (fun z => some (Sum.inl ((τ.1, z, τ.2.2), nI (k + 1)))) ?_
      funext q b
      show (if q = 23 ∧ b = 60 * s + i + k then (if 24 = 23 ∧ 60 * s + i ≤ k ∧ k < 60 * s + i + k then τ.2.1 24 (k - (60 * s + i)) else τ.2.1 24 k) else if q = 23 ∧ 60 * s + i ≤ b ∧ b < 60 * s + i + k then τ.2.1 24 (b - (60 * s + i)) else τ.2.1 q b) = _
      rw [if_neg (show ¬ (24 = 23 ∧ 60 * s + i ≤ k ∧ k < 60 * s + i + k) by omega)]
      by_cases ha : q = 23
      · by_cases hb : b = 60 * s + i + k
        · rw [if_pos ⟨ha, hb⟩, if_pos ⟨ha, by omega⟩, hb, show 60 * s + i + k - (60 * s + i) = k by omega]
        · rw [if_neg (fun h => hb h.2)]
          by_cases hb2 : 60 * s + i ≤ b ∧ b < 60 * s + i + k
          · rw [if_pos ⟨ha, hb2⟩, if_pos ⟨ha, by omega⟩]
          · rw [if_neg (fun h => hb2 h.2), if_neg (fun h => hb2 (by have := h.2; omega))]
      · rw [if_neg (fun h => ha h.1), if_neg (fun h => ha h.1), if_neg (fun h => ha h.1)])
    (fun z hz => by
      subst hz
      refine ⟨_, ?_, rfl⟩
      unfold LX9_paste_150 BX9_paste_150
      rw [if_pos (show nI n ≤ nI n from Int32.le_refl _)])
    (n := 5000) (by omega) (s := (τ, (0 : Int32))) (by
      show (τ, (0 : Int32)) = _
      rw [nI_0]
      refine congrArg (fun z => ((τ.1, z, τ.2.2), (0 : Int32))) ?_
      funext a b
      rw [if_neg (by omega)])
  rw [e1, e2]
theorem zp_lt0 {x : Int32} : (x < 0 ↔ x.toInt < 0) := by
  rw [Int32.lt_iff_toInt_lt]
  rfl
theorem zp_add {x y : Int32} : (x.toInt64 + y.toInt64).toInt = x.toInt + y.toInt := by
  have h1 := zs_topI x
  have h2 := zs_topI y
  rw [Int64.toInt_add, Int32.toInt_toInt64, Int32.toInt_toInt64, zs_bmL ⟨by omega, by omega⟩]
/-- the reference's questions ahead of a paste, once the rows are of one width -/
theorem zp_mask {τ : sn_S} {s t : Nat} (hs : s < 4) (ht : t < 4) (hm : ¬ τ.1 21 s = -1) (hm2 : ¬ τ.1 21 t = -1) (hw : τ.1 22 s = τ.1 22 t) (i k n : Int32) : fX9_paste τ (nI s) i (nI t) k n = if (0 ≤ i.toInt ∧ 0 ≤ n.toInt ∧ i.toInt + n.toInt ≤ (τ.1 21 s).toInt) ∧ (0 ≤ k.toInt ∧ 0 ≤ n.toInt ∧ k.toInt + n.toInt ≤ (τ.1 21 t).toInt) then ((sn_it (LX9_paste_113 (nI s) i (nI t) k n) 5000 (τ, (0 : Int32))).bind fun t_21 => (BX9_paste_147 t_21 (nI t) k n)) else some (-7, τ) := by
  have ms := m_isSlot (nI s)
  have mt := m_isSlot (nI t)
  have p4 : ∀ s, s < 4 → (0 ≤ nI s ∧ nI s < 4) := by decide
  rw [if_pos (p4 s hs)] at ms
  rw [if_pos (p4 t ht)] at mt
  unfold fX9_paste
  rw [ms]
  show (fX9_isSlot (nI t)).bind _ = _
  rw [mt]
  show sn_gd (sn_in (nI s) 4) _ = _
  simp only [sn_in_nI hs (show 4 < 2 ^ 31 by decide), sn_in_nI ht (show 4 < 2 ^ 31 by decide), gd_T, nI_clamp (show s < 2 ^ 31 by omega), nI_clamp (show t < 2 ^ 31 by omega)]
  have hm' : ¬ sn_I τ 21 s = -1 := hm
  have hm2' : ¬ sn_I τ 21 t = -1 := hm2
  have hw' : sn_I τ 22 s = sn_I τ 22 t := hw
  rw [if_neg hm', if_neg hm2', if_pos hw']
  by_cases c1 : i < 0
  · rw [if_pos c1, if_neg (fun z => by have := zp_lt0.mp c1; omega)]
  · rw [if_neg c1]
    have d1 : ¬ i.toInt < 0 := fun z => c1 (zp_lt0.mpr z)
    by_cases c2 : k < 0
    · rw [if_pos c2, if_neg (fun z => by have := zp_lt0.mp c2; omega)]
    · rw [if_neg c2]
      have d2 : ¬ k.toInt < 0 := fun z => c2 (zp_lt0.mpr z)
      by_cases c3 : n < 0
      · rw [if_pos c3, if_neg (fun z => by have := zp_lt0.mp c3; omega)]
      · rw [if_neg c3]
        have d3 : ¬ n.toInt < 0 := fun z => c3 (zp_lt0.mpr z)
        have q1 : (τ.1 21 s).toInt64.toInt = (τ.1 21 s).toInt := Int32.toInt_toInt64 _
        have q2 : (τ.1 21 t).toInt64.toInt = (τ.1 21 t).toInt := Int32.toInt_toInt64 _
        by_cases c4 : 0 < lg_cmp (i.toInt64 + n.toInt64) (sn_I τ 21 s).toInt64
        · have c4' := zs_lg_ltf c4
          rw [zp_add] at c4'
          have c5 : (τ.1 21 s).toInt64.toInt < i.toInt + n.toInt := c4'
          rw [if_pos c4, if_neg (fun z => by omega)]
        · have c4' := zs_lg_ltfn c4
          rw [zp_add] at c4'
          have c5 : i.toInt + n.toInt ≤ (τ.1 21 s).toInt64.toInt := c4'
          rw [if_neg c4]
          by_cases c6 : lg_cmp (k.toInt64 + n.toInt64) (sn_I τ 21 t).toInt64 ≤ 0
          · have c6' := zs_lg_le c6
            rw [zp_add] at c6'
            have c7 : k.toInt + n.toInt ≤ (τ.1 21 t).toInt64.toInt := c6'
            rw [if_pos c6, if_pos ⟨⟨by omega, by omega, by omega⟩, by omega, by omega, by omega⟩]
          · have c6' := zs_lg_len c6
            rw [zp_add] at c6'
            have c7 : (τ.1 21 t).toInt64.toInt < k.toInt + n.toInt := c6'
            rw [if_neg c6, if_neg (fun z => by omega)]
theorem zp_neg1 {x : Int32} (h1 : -1 ≤ x) (h2 : ¬ x = -1) : 0 ≤ x.toInt := by
  have a1 := zs_I_le h1
  have a2 := zs_I_eqn h2
  have e : (-1 : Int32).toInt = -1 := by decide
  omega
