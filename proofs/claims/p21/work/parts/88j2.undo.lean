/-! taken back: undo, anew; rate -/
theorem zJ_cnt {σ τ : sn_S} {n k : Nat} (h : zJ σ τ) (hn : σ.1 2 9 = nI n) (hn40 : n ≤ 40) (hk : k ≤ n) : zJ (sn_pI σ 2 9 (nI k)) (sn_pI τ 1 9 (nI k)) := by
  have hb : 0 ≤ (nI k).toInt ∧ (nI k).toInt ≤ 40 := by
    rw [nI_toInt (by omega)]
    exact ⟨by omega, by omega⟩
  have sC : zs_SB zs_tC (sn_pI σ 2 9 (nI k)) := zs_sbw h.1.1 hb
  have sM : zs_SB zs_tM (sn_pI τ 1 9 (nI k)) := zs_sbw h.1.2.1 hb
  have c2 : ∀ i, i ≠ 9 → (sn_pI σ 2 9 (nI k)).1 2 i = σ.1 2 i := fun i hi => pI_slot hi
  have cq : ∀ q, q ≠ 2 → (sn_pI σ 2 9 (nI k)).1 q = σ.1 q := fun q hq => pI_ne hq
  have m1 : ∀ i, i ≠ 9 → (sn_pI τ 1 9 (nI k)).1 1 i = τ.1 1 i := fun i hi => pI_slot hi
  have m2 : (sn_pI τ 1 9 (nI k)).1 2 = τ.1 2 := pI_ne (by decide)
  have kC : zs_C0 σ (sn_pI σ 2 9 (nI k)) := ⟨sC, fun q i hi => by
    have q2 : q ≠ 2 := fun e => by
      subst e
      exact absurd (show false = true from hi) (by decide)
    rw [cq q q2], fun _ _ => rfl⟩
  have kM : zs_M0 τ (sn_pI τ 1 9 (nI k)) := ⟨sM, fun q i hi => by
    have q1 : q ≠ 1 := fun e => by
      subst e
      exact absurd (show false = true from hi) (by decide)
    rw [pI_ne q1], fun _ _ => rfl⟩
  obtain ⟨b5, b6, b7, b8, b9⟩ := zh_cbS h.1.1 (h := 1) (Or.inl rfl)
  obtain ⟨h0, h1, h2, h3, h4, h5⟩ := h.2.1
  refine ⟨zj_keep kC kM h.1, ⟨fun i hi => ?_, fun i hi => ?_, fun i hi => ?_, fun i hi => ?_, fun i hi => ?_, fun i hi => ?_⟩, fun j hj => rr_Hc (zh_cbS h.1.1 (zh_3 hj)) (fun q g1 g2 => cq q (by omega)) (fun i _ => by rw [m2]) (h.2.2 j hj)⟩
  · show (sn_pI σ 2 9 (nI k)).1 2 i = _
    by_cases e : i = 9
    · subst e
      rw [pI_self, pI_self]
    · rw [c2 i e, m1 i e]
      exact h0 i hi
  · rw [show (sn_pI σ 2 9 (nI k)).1 (1 + 1) 5 = σ.1 (1 + 1) 5 from c2 5 (by decide)] at hi
    rw [cq _ (by decide), m1 _ (by omega)]
    exact h1 i hi
  · rw [show (sn_pI σ 2 9 (nI k)).1 (1 + 1) 6 = σ.1 (1 + 1) 6 from c2 6 (by decide)] at hi
    rw [cq _ (by decide), m1 _ (by omega)]
    exact h2 i hi
  · rw [show (sn_pI σ 2 9 (nI k)).1 (1 + 1) 7 = σ.1 (1 + 1) 7 from c2 7 (by decide)] at hi
    rw [cq _ (by decide), m1 _ (by omega)]
    exact h3 i hi
  · rw [show (sn_pI σ 2 9 (nI k)).1 (1 + 1) 8 = σ.1 (1 + 1) 8 from c2 8 (by decide)] at hi
    rw [cq _ (by decide), m1 _ (by omega)]
    exact h4 i hi
  · rw [show (sn_pI σ 2 9 (nI k)).1 (1 + 1) 9 = nI k from pI_self, nI_toInt (by omega)] at hi
    rw [cq _ (by decide), m1 _ (by omega)]
    exact h5 i (by
      show (i : Int) < (σ.1 2 9).toInt
      rw [hn, nI_toInt (by omega)]
      omega)
theorem zJ_61 : ∀ (σ τ : sn_S), zJ σ τ → ∃ r σ1 τ1, fX8_undo σ = some (r, σ1) ∧ fX9_undo τ = some (r, τ1) ∧ zJ σ1 τ1 := by
  intro σ τ h
  obtain ⟨v, e1, e2⟩ := zq_house h
  obtain ⟨n, hn40, hn, hn2⟩ := zq_acts h
  have c9 : sn_I σ (1 + 1) (9 : Int32).toNatClampNeg = nI n := hn
  have m9 : sn_I τ 1 (9 : Int32).toNatClampNeg = nI n := hn2
  have g9 : sn_in (9 : Int32) 11 = true := rfl
  have k9 : sn_in (9 : Int32) 119 = true := rfl
  by_cases c : v = 0
  · refine ⟨-2, σ, τ, ?_, ?_, h⟩
    · unfold fX8_undo
      rw [e1, rr_bs, if_pos c]
    · unfold fX9_undo
      rw [e2, rr_bs, if_pos c]
  by_cases z : n = 0
  · subst z
    refine ⟨-5, σ, τ, ?_, ?_, h⟩
    · unfold fX8_undo
      rw [e1, rr_bs, if_neg c, g9, gd_T, c9, if_neg (show ¬ (1 : Int32) ≤ nI 0 by decide)]
    · unfold fX9_undo
      rw [e2, rr_bs, if_neg c, k9, gd_T, m9, if_pos (show nI 0 = 0 from rfl)]
  · have es : nI n - (1 : Int32) = nI (n - 1) := by
      have e3 : nI n = nI (n - 1) + (1 : Int32) := by rw [nI_1, show n - 1 + 1 = n by omega]
      rw [e3, Int32.add_sub_cancel]
    have J1 := zJ_cnt h hn hn40 (k := n - 1) (by omega)
    obtain ⟨u, eu, hu⟩ := zP_54 (zs_rf (key := zs_kB) (kl := zs_lC) J1.1.1)
    have u9 : sn_I u (1 + 1) (9 : Int32).toNatClampNeg = nI (n - 1) := (hu.2.1 2 9 rfl).trans pI_self
    refine ⟨nI (n - 1), u, sn_pI τ 1 9 (nI (n - 1)), ?_, ?_, zJ_keep hu (zs_rf J1.1.2.1) J1⟩
    · unfold fX8_undo
      rw [e1, rr_bs, if_neg c, g9, gd_T, c9, if_pos (show (1 : Int32) ≤ nI n from nI_le (a := 1) (by omega) (by omega)), gd_T, gd_T, rr_lt, es, show sn_pI σ (1 + 1) (9 : Int32).toNatClampNeg (nI (n - 1)) = sn_pI σ 2 9 (nI (n - 1)) from rfl, eu, rr_bs, gd_T, u9]
    · unfold fX9_undo
      rw [e2, rr_bs, if_neg c, k9, gd_T, m9, if_neg (show ¬ nI n = 0 from fun x => z ((nI_eq (b := 0) (by omega) (by decide)).mp x)), gd_T, gd_T, rr_lt, gd_T, es]
      show some ((sn_pI τ 1 9 (nI (n - 1))).1 1 9, sn_pI τ 1 9 (nI (n - 1))) = _
      rw [pI_self]
theorem zJ_62 : ∀ (σ τ : sn_S), zJ σ τ → ∃ r σ1 τ1, fX8_anew σ = some (r, σ1) ∧ fX9_anew τ = some (r, τ1) ∧ zJ σ1 τ1 := by
  intro σ τ h
  obtain ⟨v, e1, e2⟩ := zq_house h
  obtain ⟨n, hn40, hn, hn2⟩ := zq_acts h
  have c9 : sn_I σ (1 + 1) (9 : Int32).toNatClampNeg = nI n := hn
  have m9 : sn_I τ 1 (9 : Int32).toNatClampNeg = nI n := hn2
  have g9 : sn_in (9 : Int32) 11 = true := rfl
  have k9 : sn_in (9 : Int32) 119 = true := rfl
  by_cases c : v = 0
  · refine ⟨-2, σ, τ, ?_, ?_, h⟩
    · unfold fX8_anew
      rw [e1, rr_bs, if_pos c]
    · unfold fX9_anew
      rw [e2, rr_bs, if_pos c]
  · have J1 := zJ_cnt h hn hn40 (k := 0) (by omega)
    obtain ⟨u, eu, hu⟩ := zP_54 (zs_rf (key := zs_kB) (kl := zs_lC) J1.1.1)
    refine ⟨nI n, u, sn_pI τ 1 9 (nI 0), ?_, ?_, zJ_keep hu (zs_rf J1.1.2.1) J1⟩
    · unfold fX8_anew
      rw [e1, rr_bs, if_neg c, g9, gd_T, c9, rr_lt, gd_T, rr_lt, show sn_pI σ (1 + 1) (9 : Int32).toNatClampNeg (0 : Int32) = sn_pI σ 2 9 (nI 0) from rfl, eu, rr_bs]
    · unfold fX9_anew
      rw [e2, rr_bs, if_neg c, k9, gd_T, m9, rr_lt, gd_T, rr_lt]
      all_goals rfl
theorem zJ_rate {σ τ : sn_S} {p : Nat} {v : Int32} (h : zJ σ τ) (hp : p < 6) (hC : zs_C0 σ (sn_pI σ 6 (5 * p + 4) v)) (hM : zs_M0 τ (sn_pI τ 1 (49 + (5 * p + 4)) v)) : zJ (sn_pI σ 6 (5 * p + 4) v) (sn_pI τ 1 (49 + (5 * p + 4)) v) := by
  have cq : ∀ q, q ≠ 6 → (sn_pI σ 6 (5 * p + 4) v).1 q = σ.1 q := fun q hq => pI_ne hq
  have m1 : ∀ i, i ≠ 49 + (5 * p + 4) → (sn_pI τ 1 (49 + (5 * p + 4)) v).1 1 i = τ.1 1 i := fun i hi => pI_slot hi
  have m2 : (sn_pI τ 1 (49 + (5 * p + 4)) v).1 2 = τ.1 2 := pI_ne (by decide)
  obtain ⟨b5, b6, b7, b8, b9⟩ := zh_cbS h.1.1 (h := 1) (Or.inl rfl)
  obtain ⟨h0, h1, h2, h3, h4, h5⟩ := h.2.1
  refine ⟨zj_keep hC hM h.1, ?_, fun j hj => rr_Hc (zh_cbS h.1.1 (zh_3 hj)) (fun q g1 g2 => cq q (by omega)) (fun i _ => by rw [m2]) (h.2.2 j hj)⟩
  unfold rr_H
  rw [cq (1 + 1) (by decide), cq (1 + 2) (by decide), cq (1 + 3) (by decide), cq (1 + 4) (by decide), cq (1 + 6) (by decide)]
  refine ⟨fun i hi => ?_, fun i hi => ?_, fun i hi => ?_, fun i hi => ?_, fun i hi => ?_, fun i hi => ?_⟩
  · rw [m1 _ (by omega)]
    exact h0 i hi
  · rw [m1 _ (by omega)]
    exact h1 i hi
  · rw [m1 _ (by omega)]
    exact h2 i hi
  · rw [m1 _ (by omega)]
    exact h3 i hi
  · show (sn_pI σ 6 (5 * p + 4) v).1 6 i = _
    by_cases e : i = 5 * p + 4
    · subst e
      rw [pI_self, pI_self]
    · rw [pI_slot e, m1 _ (by omega)]
      exact h4 i hi
  · rw [m1 _ (by omega)]
    exact h5 i hi
theorem zq_5i (p t : Nat) : ((5 : Int32) * nI p) + nI t = nI (5 * p + t) ∧ ((49 : Int32) + ((5 : Int32) * nI p)) + nI t = nI (49 + (5 * p + t)) := by
  refine ⟨by rw [zk_5n, nI_add], ?_⟩
  rw [zk_5n, show (49 : Int32) + nI (5 * p) = nI (49 + 5 * p) from nI_add 49 (5 * p), nI_add, Nat.add_assoc]
theorem zJ_65 : ∀ (σ τ : sn_S) (a b : Int32), zJ σ τ → ∃ r σ1 τ1, fX8_rate σ a b = some (r, σ1) ∧ fX9_rate τ a b = some (r, τ1) ∧ zJ σ1 τ1 := by
  intro σ τ a b h
  obtain ⟨v, e1, e2, hv⟩ := zq_policy h a
  obtain ⟨n, hn40, hn, hn2⟩ := zq_acts h
  obtain ⟨x, ex, hA⟩ := zA_168 (zs_rf (key := zs_kA) (kl := zs_lC) h.1.1) (x1 := a) (x2 := b)
  obtain ⟨y, ey, hB⟩ := zA_172 (zs_rf (key := zs_kM0) (kl := zs_lM) h.1.2.1) (x1 := a) (x2 := b)
  have e9 : fX9_in b.toInt64 (0 : Int64) (99 : Int64) = some (if (0 : Int32) ≤ b ∧ b ≤ (99 : Int32) then 1 else 0) := in_eq32 b 0 99
  have c9 : sn_I σ (1 + 1) (9 : Int32).toNatClampNeg = nI n := hn
  have m9 : sn_I τ 1 (9 : Int32).toNatClampNeg = nI n := hn2
  have g9 : sn_in (9 : Int32) 11 = true := rfl
  have k9 : sn_in (9 : Int32) 119 = true := rfl
  by_cases c : v = 0
  · refine ⟨-2, σ, τ, ?_, ?_, h⟩
    · unfold fX8_rate
      rw [e1, rr_bs, if_pos c]
    · unfold fX9_rate
      rw [e2, rr_bs, if_pos c]
  obtain ⟨p, ep, hp⟩ := hv c
  have bp : p < 6 := by
    have : 0 ≤ (σ.1 2 8).toInt ∧ (σ.1 2 8).toInt ≤ 6 := zh_key h.1.1 8
    omega
  subst ep
  by_cases c0 : b < 0
  · refine ⟨-2, σ, τ, ?_, ?_, h⟩
    · unfold fX8_rate
      rw [e1, rr_bs, if_neg c, if_pos c0]
    · unfold fX9_rate
      rw [e2, rr_bs, if_neg c, e9, if_neg (show ¬ ((0 : Int32) ≤ b ∧ b ≤ 99) from fun x => absurd c0 (Int32.not_lt.mpr x.1)), bd_t0]
  by_cases c1 : b ≤ (99 : Int32)
  · by_cases z : n = 0
    · subst z
      obtain ⟨i1, i2⟩ := zq_5i p 4
      have i1 : ((5 : Int32) * nI p) + (4 : Int32) = nI (5 * p + 4) := i1
      have i2 : ((49 : Int32) + ((5 : Int32) * nI p)) + (4 : Int32) = nI (49 + (5 * p + 4)) := i2
      have w1 : fX2_ofPolicy σ 1 (nI p) (4 : Int32) = some (σ.1 6 (5 * p + 4)) := by
        unfold fX2_ofPolicy
        rw [i1, sn_in_nI (by omega) (by decide), gd_T, nI_clamp (by omega)]
        rfl
      have w2 : fX9_of τ (nI p) (4 : Int32) = some (τ.1 1 (49 + (5 * p + 4))) := by
        unfold fX9_of
        rw [i2, sn_in_nI (by omega) (by decide), gd_T, nI_clamp (by omega)]
        rfl
      have f1 : fX8_rate σ (nI p) b = some (σ.1 6 (5 * p + 4), sn_pI σ 6 (5 * p + 4) b) := by
        unfold fX8_rate
        rw [e1, rr_bs, if_neg c, if_neg c0, if_pos c1, g9, gd_T, c9, if_pos (show nI 0 ≤ (0 : Int32) from Int32.le_refl _), w1, rr_bs, i1, sn_in_nI (by omega) (by decide), gd_T, rr_lt, nI_clamp (by omega)]
        all_goals rfl
      have f2 : fX9_rate τ (nI p) b = some (τ.1 1 (49 + (5 * p + 4)), sn_pI τ 1 (49 + (5 * p + 4)) b) := by
        unfold fX9_rate
        rw [e2, rr_bs, if_neg c, e9, if_pos (show (0 : Int32) ≤ b ∧ b ≤ 99 from ⟨Int32.not_lt.mp c0, c1⟩), bd_t1, k9, gd_T, m9, if_pos (show nI 0 ≤ (0 : Int32) from Int32.le_refl _), w2, rr_bs, i2, sn_in_nI (by omega) (by decide), gd_T, rr_lt, nI_clamp (by omega)]
      rw [f1] at ex
      cases ex
      rw [f2] at ey
      cases ey
      refine ⟨σ.1 6 (5 * p + 4), _, _, f1, ?_, zJ_rate h bp (zs_a0 hA.1.2) hB.1.2⟩
      rw [f2, ← h.2.1.2.2.2.2.1 (5 * p + 4) (by show ((5 * p + 4 : Nat) : Int) < 5 * (σ.1 2 8).toInt; omega)]
      all_goals rfl
    · have cn : ¬ nI n ≤ (0 : Int32) := fun x => by
        have := zs_I_le x
        rw [nI_toInt (by omega), show (0 : Int32).toInt = 0 by decide] at this
        omega
      refine ⟨-5, σ, τ, ?_, ?_, h⟩
      · unfold fX8_rate
        rw [e1, rr_bs, if_neg c, if_neg c0, if_pos c1, g9, gd_T, c9, if_neg cn]
      · unfold fX9_rate
        rw [e2, rr_bs, if_neg c, e9, if_pos (show (0 : Int32) ≤ b ∧ b ≤ 99 from ⟨Int32.not_lt.mp c0, c1⟩), bd_t1, k9, gd_T, m9, if_neg cn]
  · refine ⟨-2, σ, τ, ?_, ?_, h⟩
    · unfold fX8_rate
      rw [e1, rr_bs, if_neg c, if_neg c0, if_neg c1]
    · unfold fX9_rate
      rw [e2, rr_bs, if_neg c, e9, if_neg (show ¬ ((0 : Int32) ≤ b ∧ b ≤ 99) from fun x => c1 x.2), bd_t0]
