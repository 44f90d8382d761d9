/-! fresh objects: what class and reference answer at the first call -/
theorem q1_cz : ∀ k, k < 11 → sn_iniX8.1 2 k = 0 := by decide +kernel
theorem q1_mz : ∀ k, k < 11 → sn_iniX9.1 1 k = 0 := by decide +kernel
theorem q1_no {a v : Int32} (h : v = 0) : ¬ (0 ≤ a ∧ a < v) := fun z => by
  rw [h] at z
  exact absurd z.2 (Int32.not_lt.mpr z.1)
theorem q1_cP (a : Int32) : fX8_isPerson sn_iniX8 a = some 0 := by rw [c_isPerson, if_neg (q1_no (q1_cz 5 (by decide)))]
theorem q1_cM (a : Int32) : fX8_isMinute sn_iniX8 a = some 0 := by rw [c_isMinute, if_neg (q1_no (q1_cz 0 (by decide)))]
theorem q1_cK (a : Int32) : fX8_isPolicy sn_iniX8 a = some 0 := by rw [c_isPolicy, if_neg (q1_no (q1_cz 8 (by decide)))]
theorem c_isNet (σ : sn_S) (a : Int32) : fX8_isNet σ a = some (if 0 ≤ a ∧ a < σ.1 2 7 then 1 else 0) := by
  unfold fX8_isNet
  by_cases h0 : a < 0
  · rw [if_pos h0, if_neg (fun h => absurd h0 (Int32.not_lt.mpr h.1))]
    rfl
  · rw [if_neg h0]
    show (if σ.1 2 7 ≤ a then _ else _) = _
    by_cases h1 : σ.1 2 7 ≤ a
    · rw [if_pos h1, if_neg (fun h => absurd h.2 (Int32.not_lt.mpr h1))]
      rfl
    · rw [if_neg h1, if_pos ⟨Int32.not_lt.mp h0, Int32.not_le.mp h1⟩]
      rfl
theorem q1_cN (a : Int32) : fX8_isNet sn_iniX8 a = some 0 := by rw [c_isNet, if_neg (q1_no (q1_cz 7 (by decide)))]
theorem q1_cH : fX8_isHouse sn_iniX8 = some 0 := by decide +kernel
theorem q1_cPM (a : Int32) : fX8_isPuffMinute sn_iniX8 a = some 0 := by
  unfold fX8_isPuffMinute
  rw [q1_cM]
  rfl
theorem q1_mP {τ : sn_S} (h : τ.1 1 5 = 0) (a : Int32) : fX9_isPerson τ a.toInt64 = some 0 := by rw [m_isPerson (by rw [h]; decide), if_neg (q1_no h)]
theorem q1_mM {τ : sn_S} (h : τ.1 1 0 = 0) (a : Int32) : fX9_isMinute τ a.toInt64 = some 0 := by rw [m_isMinute (by rw [h]; decide), if_neg (q1_no h)]
theorem q1_mK {τ : sn_S} (h : τ.1 1 8 = 0) (a : Int32) : fX9_isPolicy τ a = some 0 := by rw [m_isPolicy (by rw [h]; decide), if_neg (q1_no h)]
theorem q1_mH : fX9_isHouse sn_iniX9 = some 0 := by decide +kernel
def q1_t (τ : sn_S) : Bool := decide (τ.1 1 0 = 0 ∧ τ.1 1 5 = 0 ∧ τ.1 1 7 = 0 ∧ τ.1 1 8 = 0)
theorem q1_ask : ∃ τ, fX9_asksHouse sn_iniX9 = some (0, τ) ∧ (τ.1 1 0 = 0 ∧ τ.1 1 5 = 0 ∧ τ.1 1 7 = 0 ∧ τ.1 1 8 = 0) := by
  have h : (match fX9_asksHouse sn_iniX9 with | some (r, τ) => decide (r = 0) && q1_t τ | none => false) = true := by decide +kernel
  cases e : fX9_asksHouse sn_iniX9 with
  | none => rw [e] at h; exact absurd h (by decide)
  | some z =>
    obtain ⟨r, τ⟩ := z
    rw [e] at h
    have h : (decide (r = 0) && q1_t τ) = true := h
    simp only [Bool.and_eq_true, q1_t, decide_eq_true_eq] at h
    obtain ⟨h1, h2⟩ := h
    subst h1
    exact ⟨τ, rfl, h2⟩
theorem q1_as : ∃ τ, fX9_asItIs sn_iniX9 = some τ ∧ (τ.1 1 0 = 0 ∧ τ.1 1 5 = 0 ∧ τ.1 1 7 = 0 ∧ τ.1 1 8 = 0) := by
  have h : (match fX9_asItIs sn_iniX9 with | some τ => q1_t τ | none => false) = true := by decide +kernel
  cases e : fX9_asItIs sn_iniX9 with
  | none => rw [e] at h; exact absurd h (by decide)
  | some τ =>
    rw [e] at h
    have h : (q1_t τ) = true := h
    simp only [q1_t, decide_eq_true_eq] at h
    exact ⟨τ, rfl, h⟩
theorem q1_askP (a : Int32) : ∃ τ, fX9_asksPerson sn_iniX9 a = some (0, τ) ∧ (τ.1 1 0 = 0 ∧ τ.1 1 5 = 0 ∧ τ.1 1 7 = 0 ∧ τ.1 1 8 = 0) := by
  obtain ⟨τ, e, h⟩ := q1_ask
  refine ⟨τ, ?_, h⟩
  unfold fX9_asksPerson
  rw [e]
  show (fX9_isPerson τ a.toInt64).bind _ = _
  rw [q1_mP h.2.1]
  rfl
theorem q1_askM (a : Int32) : ∃ τ, fX9_asksMinute sn_iniX9 a = some (0, τ) ∧ (τ.1 1 0 = 0 ∧ τ.1 1 5 = 0 ∧ τ.1 1 7 = 0 ∧ τ.1 1 8 = 0) := by
  obtain ⟨τ, e, h⟩ := q1_ask
  refine ⟨τ, ?_, h⟩
  unfold fX9_asksMinute
  rw [e]
  show (fX9_isMinute τ a.toInt64).bind _ = _
  rw [q1_mM h.1]
  rfl
theorem q1_askK (a : Int32) : ∃ τ, fX9_asksPolicy sn_iniX9 a = some (0, τ) ∧ (τ.1 1 0 = 0 ∧ τ.1 1 5 = 0 ∧ τ.1 1 7 = 0 ∧ τ.1 1 8 = 0) := by
  obtain ⟨τ, e, h⟩ := q1_ask
  refine ⟨τ, ?_, h⟩
  unfold fX9_asksPolicy
  rw [e]
  show (fX9_isPolicy τ a).bind _ = _
  rw [q1_mK h.2.2.2]
  rfl
theorem q1_lH (a : Int32) : ∃ τ, fX9_layHolds sn_iniX9 a = some (0, τ) := by
  obtain ⟨τ, e, h⟩ := q1_askK a
  refine ⟨τ, ?_⟩
  unfold fX9_layHolds
  rw [e]
  rfl
theorem q1_lP (a : Int32) : fX9_layPairs sn_iniX9 a = some (-2, sn_iniX9) := by
  unfold fX9_layPairs
  rw [m_isSlot]
  by_cases h : 0 ≤ a ∧ a < 4
  · rw [if_pos h, q1_mH]
    rfl
  · rw [if_neg h]
    rfl
theorem q1_sk (a : Int32) : fX8_seek sn_iniX8 a = some (-2, sn_iniX8) := by
  unfold fX8_seek
  rw [c_isSlot]
  by_cases h : 0 ≤ a ∧ a < 4
  · rw [if_pos h, q1_cH]
    rfl
  · rw [if_neg h]
    rfl
theorem q1_mPM (a b : Int32) : fX9_isPuffs sn_iniX9 a b = some 0 := by
  unfold fX9_isPuffs
  rw [q1_mM (q1_mz 0 (by decide))]
  rfl
theorem q1_two (a b : Int32) : fX9_areTwo sn_iniX9 a b = some 0 := by
  unfold fX9_areTwo
  rw [q1_mP (q1_mz 5 (by decide))]
  rfl
theorem q1_fst {α β : Type} [DecidableEq α] {o : Option (α × β)} {r : α} (h : o.map Prod.fst = some r) : ∃ s, o = some (r, s) := by
  cases o with
  | none => cases h
  | some z =>
    obtain ⟨a, b⟩ := z
    cases h
    exact ⟨b, rfl⟩
def q1_J (k : Nat) (σ τ : sn_S) : Prop := k = 0 → σ = sn_iniX8 ∧ τ = sn_iniX9
theorem q1_J6 {σ τ : sn_S} : q1_J 6 σ τ := fun h => absurd h (by decide)
theorem q1_put (σ : sn_S) (k : Nat) (hk : k + 4 ≤ 900) (h : σ.1 17 1 = nI k) (x : Int32) : ∃ τ, fX5_put σ x = some τ ∧ τ.1 17 1 = nI (k + 4) := by
  unfold fX5_put
  have one : ∀ (j : Nat) (σ : sn_S) (y : Int32), j < 900 → σ.1 17 1 = nI j → ¬ y < 0 → ∃ τ, LX5_put_3 x (σ, y) = some (.inl (τ, y + (-8))) ∧ τ.1 17 1 = nI (j + 1) := by
    intro j σ y hj h hy
    refine ⟨sn_pI (sn_pI σ 18 j ((x >>> (y &&& 31)) &&& (255 : Int32))) 17 1 (nI j + 1), ?_, ?_⟩
    · unfold LX5_put_3 BX5_put_3
      rw [if_neg hy]
      have e1 : sn_I σ 17 1 = nI j := h
      show (if (900 : Int32) ≤ sn_I σ 17 1 then _ else _) = _
      rw [e1, if_neg (show ¬ (900 : Int32) ≤ nI j from nI_ge (b := 900) hj (by decide)), sn_in_nI hj (by decide), gd_T, nI_clamp (by omega)]
      show some (Sum.inl (sn_pI (sn_pI σ 18 j _) 17 1 ((sn_pI σ 18 j _).1 17 1 + 1), y + (-8))) = _
      rw [pI_ne (by decide), h]
    · rw [pI_self, nI_1]
  obtain ⟨τ1, e1, h1⟩ := one k σ 24 (by omega) h (by decide)
  obtain ⟨τ2, e2, h2⟩ := one (k + 1) τ1 16 (by omega) h1 (by decide)
  obtain ⟨τ3, e3, h3⟩ := one (k + 2) τ2 8 (by omega) h2 (by decide)
  obtain ⟨τ4, e4, h4⟩ := one (k + 3) τ3 0 (by omega) h3 (by decide)
  refine ⟨τ4, ?_, h4⟩
  have e : sn_it (LX5_put_3 x) (4995 + 5) (σ, (24 : Int32)) = some τ4 := by
    unfold sn_it
    rw [e1]
    show sn_it (LX5_put_3 x) (4995 + 4) (τ1, (16 : Int32)) = some τ4
    unfold sn_it
    rw [e2]
    show sn_it (LX5_put_3 x) (4995 + 3) (τ2, (8 : Int32)) = some τ4
    unfold sn_it
    rw [e3]
    show sn_it (LX5_put_3 x) (4995 + 2) (τ3, (0 : Int32)) = some τ4
    unfold sn_it
    rw [e4]
    show sn_it (LX5_put_3 x) (4995 + 1) (τ4, (-8 : Int32)) = some τ4
    unfold sn_it LX5_put_3 BX5_put_3
    rfl
  show (sn_it (LX5_put_3 x) (4995 + 5) (σ, (24 : Int32))).bind _ = _
  rw [e]
  rfl
theorem q1_mfeed (τ : sn_S) (h : τ.1 0 5 = 0) : ∃ τ1, sn_it LX9_feed_55 5000 (τ, (0 : Int32)) = some τ1 ∧ τ1.1 0 5 = 0 := by
  obtain ⟨t, e1, e2⟩ := sn_for (f := LX9_feed_55) 20 (fun k z => z.2 = nI k ∧ z.1.1 0 5 = 0) (fun t => t.1 0 5 = 0)
    (fun k z hk hz => by
      obtain ⟨z1, z2⟩ := z
      obtain ⟨rfl, h1⟩ := hz
      have h1 : sn_I z1 0 5 = 0 := h1
      have hd : nI k / 4 = nI (k / 4) := by
        have : ∀ k, k < 20 → nI k / 4 = nI (k / 4) := by decide +kernel
        exact this k hk
      have hv : ∃ v, LX9_feed_55 (z1, nI k) = some (.inl (sn_pI z1 4 k v, nI (k + 1))) := by
        unfold LX9_feed_55 BX9_feed_55
        show ∃ v, (if (20 : Int32) ≤ nI k then _ else _) = _
        rw [if_neg (show ¬ (20 : Int32) ≤ nI k from nI_ge (b := 20) hk (by decide)), h1, Int32.zero_add, hd, sn_in_nI (by omega) (by decide), gd_T, sn_in_nI (by omega) (by decide), gd_T, nI_clamp (show k < 2 ^ 31 by omega), ← nI_1]
        exact ⟨_, rfl⟩
      obtain ⟨v, hv⟩ := hv
      refine ⟨_, hv, rfl, ?_⟩
      show (sn_pI z1 4 k v).1 0 5 = 0
      rw [pI_ne (by decide)]
      exact h1)
    (fun z hz => by
      obtain ⟨z1, z2⟩ := z
      obtain ⟨rfl, h1⟩ := hz
      refine ⟨z1, ?_, h1⟩
      unfold LX9_feed_55 BX9_feed_55
      rw [if_pos (show (20 : Int32) ≤ nI 20 by decide)])
    (n := 5000) (by decide) (s := (τ, (0 : Int32))) ⟨nI_0.symm, h⟩
  exact ⟨t, e1, e2⟩
theorem q1_s0 : st_0 (q1_J 0) (q1_J 6) := by
  intro σ τ a0 a1 a2 a3 a4 hJ
  obtain ⟨rfl, rfl⟩ := hJ rfl
  have hc0 : sn_iniX8.1 17 1 = nI 0 := by decide +kernel
  have hm0 : sn_iniX9.1 0 5 = 0 := by decide +kernel
  obtain ⟨s1, e1, h1⟩ := q1_put sn_iniX8 0 (by decide) hc0 a0
  obtain ⟨s2, e2, h2⟩ := q1_put s1 4 (by decide) h1 a1
  obtain ⟨s3, e3, h3⟩ := q1_put s2 8 (by decide) h2 a2
  obtain ⟨s4, e4, h4⟩ := q1_put s3 12 (by decide) h3 a3
  obtain ⟨s5, e5, h5⟩ := q1_put s4 16 (by decide) h4 a4
  generalize hz : sn_pI (sn_pI (sn_pI (sn_pI (sn_pI sn_iniX9 5 0 a0) 5 1 a1) 5 2 a2) 5 3 a3) 5 4 a4 = t0
  have hz5 : t0.1 0 5 = 0 := by
    rw [← hz, pI_ne (by decide), pI_ne (by decide), pI_ne (by decide), pI_ne (by decide), pI_ne (by decide)]
    exact hm0
  obtain ⟨t1, f1, g1⟩ := q1_mfeed t0 hz5
  refine ⟨20, s5, sn_pI t1 0 5 20, ?_, ?_, q1_J6⟩
  · unfold fX8_feed
    rw [show sn_I sn_iniX8 17 1 = 0 from hc0, if_pos (by decide), e1]
    show (fX5_put s1 a1).bind _ = _
    rw [e2]
    show (fX5_put s2 a2).bind _ = _
    rw [e3]
    show (fX5_put s3 a3).bind _ = _
    rw [e4]
    show (fX5_put s4 a4).bind _ = _
    rw [e5]
    show some (s5.1 17 1, s5) = _
    rw [h5]
    rfl
  · unfold fX9_feed
    rw [show sn_I sn_iniX9 0 5 = 0 from hm0, if_pos (by decide)]
    show (sn_it LX9_feed_55 5000 (sn_pI (sn_pI (sn_pI (sn_pI (sn_pI sn_iniX9 5 0 a0) 5 1 a1) 5 2 a2) 5 3 a3) 5 4 a4, (0 : Int32))).bind _ = _
    rw [hz, f1]
    show some (sn_I (sn_pI t1 0 5 (t1.1 0 5 + 20)) 0 5, sn_pI t1 0 5 (t1.1 0 5 + 20)) = _
    rw [g1]
    show some ((sn_pI t1 0 5 20).1 0 5, _) = _
    rw [pI_self]
    rfl
theorem q1_ctape : sn_I sn_iniX8 17 1 = 0 := by decide +kernel
theorem q1_mtape : sn_I sn_iniX9 0 5 = 0 := by decide +kernel
theorem q1_s1 : st_1 (q1_J 0) (q1_J 6) := by
  intro σ τ a0 hJ
  obtain ⟨rfl, rfl⟩ := hJ rfl
  have e9 : fX9_in a0.toInt64 (0 : Int64) ((sn_I sn_iniX9 0 5).toInt64) = some (if (0 : Int32) ≤ a0 ∧ a0 ≤ 0 then 1 else 0) := by
    rw [q1_mtape]
    exact in_eq32 a0 0 0
  by_cases h1 : a0 < 0
  · refine ⟨-1, sn_iniX8, sn_iniX9, ?_, ?_, q1_J6⟩
    · unfold fX8_end
      rw [if_pos h1]
    · unfold fX9_end
      rw [e9, if_neg (fun h => absurd h1 (Int32.not_lt.mpr h.1))]
      rfl
  · by_cases h2 : a0 ≤ 0
    · refine ⟨a0, sn_pI sn_iniX8 17 1 a0, sn_pI sn_iniX9 0 5 a0, ?_, ?_, q1_J6⟩
      · unfold fX8_end
        rw [if_neg h1, q1_ctape, if_pos h2]
        rfl
      · unfold fX9_end
        rw [e9, if_pos ⟨Int32.not_lt.mp h1, h2⟩]
        rfl
    · refine ⟨-1, sn_iniX8, sn_iniX9, ?_, ?_, q1_J6⟩
      · unfold fX8_end
        rw [if_neg h1, q1_ctape, if_neg h2]
      · unfold fX9_end
        rw [e9, if_neg (fun h => h2 h.2)]
        rfl
theorem q1_s2 : st_2 (q1_J 0) (q1_J 6) := by
  intro σ τ hJ
  obtain ⟨rfl, rfl⟩ := hJ rfl
  obtain ⟨s, h1⟩ := q1_fst (o := fX8_house sn_iniX8) (r := 0) (by decide +kernel)
  obtain ⟨t, h2⟩ := q1_fst (o := fX9_house sn_iniX9) (r := 0) (by decide +kernel)
  exact ⟨0, s, t, h1, h2, q1_J6⟩
theorem q1_s3 : st_3 (q1_J 0) (q1_J 6) := by
  intro σ τ a0 hJ
  obtain ⟨rfl, rfl⟩ := hJ rfl
  have c2 : sn_I sn_iniX8 17 2 = 0 := by decide +kernel
  have c3 : sn_I sn_iniX8 17 3 = -1 := by decide +kernel
  have m2 : sn_I sn_iniX9 0 12 = 0 := by decide +kernel
  have m3 : sn_I sn_iniX9 0 13 = -1 := by decide +kernel
  refine ⟨if a0 = 0 then 0 else if a0 = 1 then -1 else -1, ?_, ?_, q1_J6⟩
  · unfold fX8_fault
    rw [c2, c3]
    split
    · rfl
    · split <;> rfl
  · unfold fX9_fault
    rw [m2, m3]
    split
    · rfl
    · split <;> rfl
theorem q1_s4 : st_4 (q1_J 0) (q1_J 6) := by
  intro σ τ a0 a1 hJ
  obtain ⟨rfl, rfl⟩ := hJ rfl
  exact ⟨-2, by unfold fX8_nose; rw [q1_cP]; rfl, by unfold fX9_nose; rw [q1_mP (q1_mz 5 (by decide))]; rfl, q1_J6⟩
theorem q1_s5 : st_5 (q1_J 0) (q1_J 6) := by
  intro σ τ a0 a1 hJ
  obtain ⟨rfl, rfl⟩ := hJ rfl
  exact ⟨-2, by unfold fX8_policy; rw [q1_cK]; rfl, by unfold fX9_policy; rw [q1_mK (q1_mz 8 (by decide))]; rfl, q1_J6⟩
theorem q1_s6 : st_6 (q1_J 0) (q1_J 6) := by
  intro σ τ a0 hJ
  obtain ⟨rfl, rfl⟩ := hJ rfl
  obtain ⟨t, e, h⟩ := q1_as
  exact ⟨-2, t, by unfold fX8_beside; rw [q1_cP]; rfl, by unfold fX9_beside; rw [e]; show (fX9_isPerson t a0.toInt64).bind _ = _; rw [q1_mP h.2.1]; rfl, q1_J6⟩
theorem q1_s7 : st_7 (q1_J 0) (q1_J 6) := by
  intro σ τ a0 hJ
  obtain ⟨rfl, rfl⟩ := hJ rfl
  obtain ⟨t, e, h⟩ := q1_askM a0
  exact ⟨-2, t, by unfold fX8_dust; rw [q1_cM]; rfl, by unfold fX9_dust; rw [e]; rfl, q1_J6⟩
theorem q1_s8 : st_8 (q1_J 0) (q1_J 6) := by
  intro σ τ a0 hJ
  obtain ⟨rfl, rfl⟩ := hJ rfl
  obtain ⟨t, e, h⟩ := q1_askP a0
  exact ⟨-2, t, by unfold fX8_sneezes; rw [q1_cP]; rfl, by unfold fX9_sneezes; rw [e]; rfl, q1_J6⟩
theorem q1_s9 : st_9 (q1_J 0) (q1_J 6) := by
  intro σ τ a0 hJ
  obtain ⟨rfl, rfl⟩ := hJ rfl
  obtain ⟨t, e, h⟩ := q1_askP a0
  exact ⟨-2, t, by unfold fX8_first; rw [q1_cP]; rfl, by unfold fX9_first; rw [e]; rfl, q1_J6⟩
theorem q1_s10 : st_10 (q1_J 0) (q1_J 6) := by
  intro σ τ hJ
  obtain ⟨rfl, rfl⟩ := hJ rfl
  have h1 : fX8_all sn_iniX8 = some (-2) := by decide +kernel
  obtain ⟨t, h2⟩ := q1_fst (o := fX9_all sn_iniX9) (r := -2) (by decide +kernel)
  exact ⟨-2, t, h1, h2, q1_J6⟩
theorem q1_s11 : st_11 (q1_J 0) (q1_J 6) := by
  intro σ τ a0 hJ
  obtain ⟨rfl, rfl⟩ := hJ rfl
  obtain ⟨t, e, h⟩ := q1_askM a0
  exact ⟨-2, t, by unfold fX8_who; rw [q1_cM]; rfl, by unfold fX9_who; rw [e]; rfl, q1_J6⟩
theorem q1_s12 : st_12 (q1_J 0) (q1_J 6) := by
  intro σ τ a0 a1 hJ
  obtain ⟨rfl, rfl⟩ := hJ rfl
  obtain ⟨t, e, h⟩ := q1_askM a1
  exact ⟨-2, t, by unfold fX8_tickle; rw [q1_cP]; rfl, by unfold fX9_tickle; rw [e]; rfl, q1_J6⟩
theorem q1_s13 : st_13 (q1_J 0) (q1_J 6) := by
  intro σ τ a0 hJ
  obtain ⟨rfl, rfl⟩ := hJ rfl
  obtain ⟨t, e, h⟩ := q1_askP a0
  exact ⟨-2, t, by unfold fX8_itch; rw [q1_cP]; rfl, by unfold fX9_itch; rw [e]; rfl, q1_J6⟩
theorem q1_s14 : st_14 (q1_J 0) (q1_J 6) := by
  intro σ τ a0 hJ
  obtain ⟨rfl, rfl⟩ := hJ rfl
  obtain ⟨t, e, h⟩ := q1_askP a0
  exact ⟨-2, t, by unfold fX8_caught; rw [q1_cP]; rfl, by unfold fX9_caught; rw [e]; rfl, q1_J6⟩
theorem q1_s15 : st_15 (q1_J 0) (q1_J 6) := by
  intro σ τ a0 hJ
  obtain ⟨rfl, rfl⟩ := hJ rfl
  obtain ⟨t, e, h⟩ := q1_askP a0
  exact ⟨-2, t, by unfold fX8_gave; rw [q1_cP]; rfl, by unfold fX9_gave; rw [e]; rfl, q1_J6⟩
theorem q1_s16 : st_16 (q1_J 0) (q1_J 6) := by
  intro σ τ hJ
  obtain ⟨rfl, rfl⟩ := hJ rfl
  have h1 : fX8_worst sn_iniX8 = some (-2) := by decide +kernel
  obtain ⟨t, h2⟩ := q1_fst (o := fX9_worst sn_iniX9) (r := -2) (by decide +kernel)
  exact ⟨-2, t, h1, h2, q1_J6⟩
theorem q1_s17 : st_17 (q1_J 0) (q1_J 6) := by
  intro σ τ hJ
  obtain ⟨rfl, rfl⟩ := hJ rfl
  have h1 : fX8_chorus sn_iniX8 = some (-2) := by decide +kernel
  obtain ⟨t, h2⟩ := q1_fst (o := fX9_chorus sn_iniX9) (r := -2) (by decide +kernel)
  exact ⟨-2, t, h1, h2, q1_J6⟩
theorem q1_s18 : st_18 (q1_J 0) (q1_J 6) := by
  intro σ τ hJ
  obtain ⟨rfl, rfl⟩ := hJ rfl
  have h1 : fX8_calm sn_iniX8 = some (-2) := by decide +kernel
  obtain ⟨t, h2⟩ := q1_fst (o := fX9_calm sn_iniX9) (r := -2) (by decide +kernel)
  exact ⟨-2, t, h1, h2, q1_J6⟩
theorem q1_s19 : st_19 (q1_J 0) (q1_J 6) := by
  intro σ τ a0 hJ
  obtain ⟨rfl, rfl⟩ := hJ rfl
  obtain ⟨t, e, h⟩ := q1_askP a0
  exact ⟨-2, t, by unfold fX8_pause; rw [q1_cP]; rfl, by unfold fX9_pause; rw [e]; rfl, q1_J6⟩
theorem q1_s20 : st_20 (q1_J 0) (q1_J 6) := by
  intro σ τ a0 a1 hJ
  obtain ⟨rfl, rfl⟩ := hJ rfl
  obtain ⟨t, e, h⟩ := q1_askM a1
  exact ⟨-2, t, by unfold fX8_later; rw [q1_cP]; rfl, by unfold fX9_later; rw [e]; rfl, q1_J6⟩
theorem q1_s21 : st_21 (q1_J 0) (q1_J 6) := by
  intro σ τ a0 hJ
  obtain ⟨rfl, rfl⟩ := hJ rfl
  obtain ⟨t, e, h⟩ := q1_askP a0
  exact ⟨-2, t, by unfold fX8_covered; rw [q1_cP]; rfl, by unfold fX9_covered; rw [e]; rfl, q1_J6⟩
theorem q1_s22 : st_22 (q1_J 0) (q1_J 6) := by
  intro σ τ hJ
  obtain ⟨rfl, rfl⟩ := hJ rfl
  have h1 : fX8_naked sn_iniX8 = some (-2) := by decide +kernel
  obtain ⟨t, h2⟩ := q1_fst (o := fX9_naked sn_iniX9) (r := -2) (by decide +kernel)
  exact ⟨-2, t, h1, h2, q1_J6⟩
theorem q1_s23 : st_23 (q1_J 0) (q1_J 6) := by
  intro σ τ a0 hJ
  obtain ⟨rfl, rfl⟩ := hJ rfl
  obtain ⟨t, e, h⟩ := q1_askM a0
  exact ⟨-2, t, by unfold fX8_covers; rw [q1_cM]; rfl, by unfold fX9_covers; rw [e]; rfl, q1_J6⟩
theorem q1_s24 : st_24 (q1_J 0) (q1_J 6) := by
  intro σ τ a0 hJ
  obtain ⟨rfl, rfl⟩ := hJ rfl
  obtain ⟨t, e, h⟩ := q1_askK a0
  exact ⟨-100000, sn_iniX8, t, by unfold fX8_profit; rw [q1_cK]; rfl, by unfold fX9_profit; rw [e]; rfl, q1_J6⟩
theorem q1_s25 : st_25 (q1_J 0) (q1_J 6) := by
  intro σ τ hJ
  obtain ⟨rfl, rfl⟩ := hJ rfl
  obtain ⟨s, h1⟩ := q1_fst (o := fX8_lowest sn_iniX8) (r := -2) (by decide +kernel)
  obtain ⟨t, h2⟩ := q1_fst (o := fX9_lowest sn_iniX9) (r := -2) (by decide +kernel)
  exact ⟨-2, s, t, h1, h2, q1_J6⟩
theorem q1_s26 : st_26 (q1_J 0) (q1_J 6) := by
  intro σ τ a0 hJ
  obtain ⟨rfl, rfl⟩ := hJ rfl
  exact ⟨-2, sn_iniX8, sn_iniX9, by unfold fX8_dull; rw [q1_cP]; rfl, by unfold fX9_dull; rw [q1_mP (q1_mz 5 (by decide))]; rfl, q1_J6⟩
theorem q1_s27 : st_27 (q1_J 0) (q1_J 6) := by
  intro σ τ a0 hJ
  obtain ⟨rfl, rfl⟩ := hJ rfl
  exact ⟨-2, sn_iniX8, sn_iniX9, by unfold fX8_bears; rw [q1_cP]; rfl, by unfold fX9_bears; rw [q1_mP (q1_mz 5 (by decide))]; rfl, q1_J6⟩
theorem q1_s28 : st_28 (q1_J 0) (q1_J 6) := by
  intro σ τ hJ
  obtain ⟨rfl, rfl⟩ := hJ rfl
  obtain ⟨s, h1⟩ := q1_fst (o := fX8_clean sn_iniX8) (r := -2) (by decide +kernel)
  obtain ⟨t, h2⟩ := q1_fst (o := fX9_clean sn_iniX9) (r := -2) (by decide +kernel)
  exact ⟨-2, s, t, h1, h2, q1_J6⟩
theorem q1_s29 : st_29 (q1_J 0) (q1_J 6) := by
  intro σ τ a0 hJ
  obtain ⟨rfl, rfl⟩ := hJ rfl
  obtain ⟨t, e, h⟩ := q1_askP a0
  exact ⟨-2, sn_iniX8, t, by unfold fX8_spreads; rw [q1_cP]; rfl, by unfold fX9_spreads; rw [e]; rfl, q1_J6⟩
theorem q1_s30 : st_30 (q1_J 0) (q1_J 6) := by
  intro σ τ a0 hJ
  obtain ⟨rfl, rfl⟩ := hJ rfl
  obtain ⟨t, e, h⟩ := q1_as
  exact ⟨-2, t, by unfold fX8_web; rw [q1_cP]; rfl, by unfold fX9_web; rw [e]; show (fX9_isPerson t a0.toInt64).bind _ = _; rw [q1_mP h.2.1]; rfl, q1_J6⟩
theorem q1_s31 : st_31 (q1_J 0) (q1_J 6) := by
  intro σ τ a0 hJ
  obtain ⟨rfl, rfl⟩ := hJ rfl
  obtain ⟨t, e, h⟩ := q1_askK a0
  exact ⟨-2, sn_iniX8, t, by unfold fX8_claim; rw [q1_cK]; rfl, by unfold fX9_claim; rw [e]; rfl, q1_J6⟩
theorem q1_s32 : st_32 (q1_J 0) (q1_J 6) := by
  intro σ τ a0 hJ
  obtain ⟨rfl, rfl⟩ := hJ rfl
  obtain ⟨t, e, h⟩ := q1_askK a0
  exact ⟨-2, sn_iniX8, t, by unfold fX8_paid; rw [q1_cK]; rfl, by unfold fX9_paid; rw [e]; rfl, q1_J6⟩
theorem q1_s33 : st_33 (q1_J 0) (q1_J 6) := by
  intro σ τ hJ
  obtain ⟨rfl, rfl⟩ := hJ rfl
  obtain ⟨s, h1⟩ := q1_fst (o := fX8_claims sn_iniX8) (r := -2) (by decide +kernel)
  obtain ⟨t, h2⟩ := q1_fst (o := fX9_claims sn_iniX9) (r := -2) (by decide +kernel)
  exact ⟨-2, s, t, h1, h2, q1_J6⟩
theorem q1_s34 : st_34 (q1_J 0) (q1_J 6) := by
  intro σ τ a0 hJ
  obtain ⟨rfl, rfl⟩ := hJ rfl
  obtain ⟨t, e, h⟩ := q1_askM a0
  exact ⟨-100000, sn_iniX8, t, by unfold fX8_money; rw [q1_cM]; rfl, by unfold fX9_money; rw [e]; rfl, q1_J6⟩
theorem q1_s35 : st_35 (q1_J 0) (q1_J 6) := by
  intro σ τ hJ
  obtain ⟨rfl, rfl⟩ := hJ rfl
  obtain ⟨s, h1⟩ := q1_fst (o := fX8_ruin sn_iniX8) (r := -2) (by decide +kernel)
  obtain ⟨t, h2⟩ := q1_fst (o := fX9_ruin sn_iniX9) (r := -2) (by decide +kernel)
  exact ⟨-2, s, t, h1, h2, q1_J6⟩
theorem q1_s36 : st_36 (q1_J 0) (q1_J 6) := by
  intro σ τ hJ
  obtain ⟨rfl, rfl⟩ := hJ rfl
  obtain ⟨s, h1⟩ := q1_fst (o := fX8_dear sn_iniX8) (r := -2) (by decide +kernel)
  obtain ⟨t, h2⟩ := q1_fst (o := fX9_dear sn_iniX9) (r := -2) (by decide +kernel)
  exact ⟨-2, s, t, h1, h2, q1_J6⟩
theorem q1_s37 : st_37 (q1_J 0) (q1_J 6) := by
  intro σ τ hJ
  obtain ⟨rfl, rfl⟩ := hJ rfl
  obtain ⟨s, h1⟩ := q1_fst (o := fX8_reserve sn_iniX8) (r := -2) (by decide +kernel)
  obtain ⟨t, h2⟩ := q1_fst (o := fX9_reserve sn_iniX9) (r := -2) (by decide +kernel)
  exact ⟨-2, s, t, h1, h2, q1_J6⟩
theorem q1_s38 : st_38 (q1_J 0) (q1_J 6) := by
  intro σ τ a0 hJ
  obtain ⟨rfl, rfl⟩ := hJ rfl
  obtain ⟨t, e, h⟩ := q1_ask
  exact ⟨-100000, sn_iniX8, t, by unfold fX8_by; rw [q1_cH]; rfl, by unfold fX9_by; rw [e]; rfl, q1_J6⟩
theorem q1_s39 : st_39 (q1_J 0) (q1_J 6) := by
  intro σ τ hJ
  obtain ⟨rfl, rfl⟩ := hJ rfl
  obtain ⟨s, h1⟩ := q1_fst (o := fX8_law sn_iniX8) (r := -2) (by decide +kernel)
  obtain ⟨t, h2⟩ := q1_fst (o := fX9_law sn_iniX9) (r := -2) (by decide +kernel)
  exact ⟨-2, s, t, h1, h2, q1_J6⟩
theorem q1_s40 : st_40 (q1_J 0) (q1_J 6) := by
  intro σ τ a0 hJ
  obtain ⟨rfl, rfl⟩ := hJ rfl
  obtain ⟨t, e, h⟩ := q1_askP a0
  exact ⟨-2, t, by unfold fX8_takes; rw [q1_cP]; rfl, by unfold fX9_takes_; rw [e]; rfl, q1_J6⟩
theorem q1_s41 : st_41 (q1_J 0) (q1_J 6) := by
  intro σ τ a0 hJ
  obtain ⟨rfl, rfl⟩ := hJ rfl
  obtain ⟨t, e, h⟩ := q1_askP a0
  exact ⟨-2, t, by unfold fX8_gains; rw [q1_cP]; rfl, by unfold fX9_gains; rw [e]; rfl, q1_J6⟩
theorem q1_s42 : st_42 (q1_J 0) (q1_J 6) := by
  intro σ τ a0 hJ
  obtain ⟨rfl, rfl⟩ := hJ rfl
  obtain ⟨t, e, h⟩ := q1_askK a0
  exact ⟨-2, t, by unfold fX8_price; rw [q1_cK]; rfl, by unfold fX9_price; rw [e]; rfl, q1_J6⟩
theorem q1_s43 : st_43 (q1_J 0) (q1_J 6) := by
  intro σ τ a0 hJ
  obtain ⟨rfl, rfl⟩ := hJ rfl
  obtain ⟨t, e⟩ := q1_lH a0
  exact ⟨-2, sn_iniX8, t, by unfold fX8_hold; rw [q1_cK]; rfl, by unfold fX9_hold; rw [e]; rfl, q1_J6⟩
theorem q1_s44 : st_44 (q1_J 0) (q1_J 6) := by
  intro σ τ a0 hJ
  obtain ⟨rfl, rfl⟩ := hJ rfl
  obtain ⟨t, e⟩ := q1_lH a0
  exact ⟨-2, sn_iniX8, t, by unfold fX8_holds; rw [q1_cK]; rfl, by unfold fX9_holds; rw [e]; rfl, q1_J6⟩
theorem q1_s45 : st_45 (q1_J 0) (q1_J 6) := by
  intro σ τ a0 hJ
  obtain ⟨rfl, rfl⟩ := hJ rfl
  obtain ⟨t, e, h⟩ := q1_askK a0
  exact ⟨-2, sn_iniX8, t, by unfold fX8_snuff; rw [q1_cK]; rfl, by unfold fX9_snuff; rw [e]; rfl, q1_J6⟩
theorem q1_s46 : st_46 (q1_J 0) (q1_J 6) := by
  intro σ τ a0 hJ
  obtain ⟨rfl, rfl⟩ := hJ rfl
  obtain ⟨t, e, h⟩ := q1_askK a0
  exact ⟨-2, sn_iniX8, t, by unfold fX8_frauds; rw [q1_cK]; rfl, by unfold fX9_frauds; rw [e]; rfl, q1_J6⟩
theorem q1_s47 : st_47 (q1_J 0) (q1_J 6) := by
  intro σ τ a0 hJ
  obtain ⟨rfl, rfl⟩ := hJ rfl
  exact ⟨-2, sn_iniX8, sn_iniX9, by unfold fX8_which; rw [q1_sk]; rfl, by unfold fX9_which; rw [q1_lP]; rfl, q1_J6⟩
theorem q1_s48 : st_48 (q1_J 0) (q1_J 6) := by
  intro σ τ a0 hJ
  obtain ⟨rfl, rfl⟩ := hJ rfl
  exact ⟨-2, sn_iniX8, sn_iniX9, by unfold fX8_when; rw [q1_sk]; rfl, by unfold fX9_when; rw [q1_lP]; rfl, q1_J6⟩
theorem q1_s49 : st_49 (q1_J 0) (q1_J 6) := by
  intro σ τ a0 hJ
  obtain ⟨rfl, rfl⟩ := hJ rfl
  exact ⟨-2, sn_iniX8, sn_iniX9, by unfold fX8_gust; rw [q1_sk]; rfl, by unfold fX9_gust; rw [q1_lP]; rfl, q1_J6⟩
theorem q1_s50 : st_50 (q1_J 0) (q1_J 6) := by
  intro σ τ a0 hJ
  obtain ⟨rfl, rfl⟩ := hJ rfl
  exact ⟨-2, sn_iniX8, sn_iniX9, by unfold fX8_ask; rw [q1_sk]; rfl, by unfold fX9_ask; rw [q1_lP]; rfl, q1_J6⟩
theorem q1_s51 : st_51 (q1_J 0) (q1_J 6) := by
  intro σ τ a0 hJ
  obtain ⟨rfl, rfl⟩ := hJ rfl
  exact ⟨-2, sn_iniX8, sn_iniX9, by unfold fX8_leaves; rw [q1_sk]; rfl, by unfold fX9_leaves; rw [q1_lP]; rfl, q1_J6⟩
theorem q1_s52 : st_52 (q1_J 0) (q1_J 6) := by
  intro σ τ a0 a1 hJ
  obtain ⟨rfl, rfl⟩ := hJ rfl
  exact ⟨-2, sn_iniX8, sn_iniX9, by unfold fX8_rests; rw [q1_cP]; rfl, by unfold fX9_rests; rw [q1_two]; rfl, q1_J6⟩
theorem q1_s53 : st_53 (q1_J 0) (q1_J 6) := by
  intro σ τ a0 a1 a2 a3 hJ
  obtain ⟨rfl, rfl⟩ := hJ rfl
  exact ⟨-2, sn_iniX8, sn_iniX9, by unfold fX8_loses; rw [q1_cP]; rfl, by unfold fX9_loses; rw [q1_two]; rfl, q1_J6⟩
theorem q1_s54 : st_54 (q1_J 0) (q1_J 6) := by
  intro σ τ a0 hJ
  obtain ⟨rfl, rfl⟩ := hJ rfl
  obtain ⟨t, e, h⟩ := q1_as
  have e2 : fX9_in a0.toInt64 (0 : Int64) (((sn_I t 1 (7 : Int32).toNatClampNeg) - (1 : Int32)).toInt64) = some 0 := by
    show fX9_in a0.toInt64 (0 : Int32).toInt64 ((t.1 1 7 - 1).toInt64) = _
    rw [in_eq32, h.2.2.1, if_neg]
    exact fun z => absurd (Int32.le_trans z.1 z.2) (by decide)
  refine ⟨-2, sn_iniX8, t, by unfold fX8_cut; rw [q1_cN]; rfl, ?_, q1_J6⟩
  unfold fX9_cut
  rw [e]
  show (fX9_in a0.toInt64 (0 : Int64) (((sn_I t 1 (7 : Int32).toNatClampNeg) - (1 : Int32)).toInt64)).bind _ = _
  rw [e2]
  rfl
theorem q1_s55 : st_55 (q1_J 0) (q1_J 6) := by
  intro σ τ hJ
  obtain ⟨rfl, rfl⟩ := hJ rfl
  obtain ⟨s, h1⟩ := q1_fst (o := fX8_cuts sn_iniX8) (r := -2) (by decide +kernel)
  obtain ⟨t, h2⟩ := q1_fst (o := fX9_cuts sn_iniX9) (r := -2) (by decide +kernel)
  exact ⟨-2, s, t, h1, h2, q1_J6⟩
theorem q1_s56 : st_56 (q1_J 0) (q1_J 6) := by
  intro σ τ a0 a1 a2 hJ
  obtain ⟨rfl, rfl⟩ := hJ rfl
  exact ⟨-2, sn_iniX8, sn_iniX9, by unfold fX8_chance; rw [q1_cP]; rfl, by unfold fX9_chance; rw [q1_mP (q1_mz 5 (by decide))]; rfl, q1_J6⟩
theorem q1_s57 : st_57 (q1_J 0) (q1_J 6) := by
  intro σ τ a0 a1 a2 hJ
  obtain ⟨rfl, rfl⟩ := hJ rfl
  exact ⟨-2, sn_iniX8, sn_iniX9, by unfold fX8_fair; rw [q1_cK]; rfl, by unfold fX9_fair; rw [q1_mK (q1_mz 8 (by decide))]; rfl, q1_J6⟩
theorem q1_s58 : st_58 (q1_J 0) (q1_J 6) := by
  intro σ τ a0 a1 hJ
  obtain ⟨rfl, rfl⟩ := hJ rfl
  exact ⟨-2, sn_iniX8, sn_iniX9, by unfold fX8_risk; rw [q1_cPM]; rfl, by unfold fX9_risk; rw [q1_mPM]; rfl, q1_J6⟩
theorem q1_s59 : st_59 (q1_J 0) (q1_J 6) := by
  intro σ τ a0 a1 hJ
  obtain ⟨rfl, rfl⟩ := hJ rfl
  exact ⟨-2, sn_iniX8, sn_iniX9, by unfold fX8_stifle; rw [q1_cP]; rfl, by unfold fX9_stifle; rw [q1_mP (q1_mz 5 (by decide))]; rfl, q1_J6⟩
theorem q1_s60 : st_60 (q1_J 0) (q1_J 6) := by
  intro σ τ a0 a1 hJ
  obtain ⟨rfl, rfl⟩ := hJ rfl
  exact ⟨-2, sn_iniX8, sn_iniX9, by unfold fX8_sniff; rw [q1_cP]; rfl, by unfold fX9_sniff; rw [q1_mP (q1_mz 5 (by decide))]; rfl, q1_J6⟩
theorem q1_s61 : st_61 (q1_J 0) (q1_J 6) := by
  intro σ τ hJ
  obtain ⟨rfl, rfl⟩ := hJ rfl
  obtain ⟨s, h1⟩ := q1_fst (o := fX8_undo sn_iniX8) (r := -2) (by decide +kernel)
  obtain ⟨t, h2⟩ := q1_fst (o := fX9_undo sn_iniX9) (r := -2) (by decide +kernel)
  exact ⟨-2, s, t, h1, h2, q1_J6⟩
theorem q1_s62 : st_62 (q1_J 0) (q1_J 6) := by
  intro σ τ hJ
  obtain ⟨rfl, rfl⟩ := hJ rfl
  obtain ⟨s, h1⟩ := q1_fst (o := fX8_anew sn_iniX8) (r := -2) (by decide +kernel)
  obtain ⟨t, h2⟩ := q1_fst (o := fX9_anew sn_iniX9) (r := -2) (by decide +kernel)
  exact ⟨-2, s, t, h1, h2, q1_J6⟩
theorem q1_s63 : st_63 (q1_J 0) (q1_J 6) := by
  intro σ τ a0 a1 hJ
  obtain ⟨rfl, rfl⟩ := hJ rfl
  exact ⟨-2, sn_iniX8, sn_iniX9, by unfold fX8_drawn; rw [q1_cH]; rfl, by unfold fX9_drawn; rw [q1_mH]; rfl, q1_J6⟩
theorem q1_s64 : st_64 (q1_J 0) (q1_J 6) := by
  intro σ τ a0 a1 a2 hJ
  obtain ⟨rfl, rfl⟩ := hJ rfl
  refine ⟨-2, sn_iniX8, sn_iniX9, by unfold fX8_luck; rw [q1_cK]; rfl, ?_, q1_J6⟩
  unfold fX9_luck fX9_isSeed
  have e1 : fX9_in a0.toInt64 (0 : Int64) (2000000000 : Int64) = some (if 0 ≤ a0 ∧ a0 ≤ 2000000000 then 1 else 0) := in_eq32 a0 0 2000000000
  have e2 : fX9_in a1.toInt64 (1 : Int64) (20 : Int64) = some (if 1 ≤ a1 ∧ a1 ≤ 20 then 1 else 0) := in_eq32 a1 1 20
  rw [e1]
  by_cases h1 : 0 ≤ a0 ∧ a0 ≤ 2000000000
  · rw [if_pos h1]
    show (fX9_in a1.toInt64 (1 : Int64) (20 : Int64)).bind _ = _
    rw [e2]
    by_cases h2 : 1 ≤ a1 ∧ a1 ≤ 20
    · rw [if_pos h2]
      show (fX9_isPolicy sn_iniX9 a2).bind _ = _
      rw [q1_mK (q1_mz 8 (by decide))]
      rfl
    · rw [if_neg h2]
      rfl
  · rw [if_neg h1]
    rfl
theorem q1_s65 : st_65 (q1_J 0) (q1_J 6) := by
  intro σ τ a0 a1 hJ
  obtain ⟨rfl, rfl⟩ := hJ rfl
  exact ⟨-2, sn_iniX8, sn_iniX9, by unfold fX8_rate; rw [q1_cK]; rfl, by unfold fX9_rate; rw [q1_mK (q1_mz 8 (by decide))]; rfl, q1_J6⟩
theorem q1_s66 : st_66 (q1_J 0) (q1_J 6) := by
  intro σ τ a0 hJ
  obtain ⟨rfl, rfl⟩ := hJ rfl
  have e9 : fX9_in a0.toInt64 (0 : Int64) (10 : Int64) = some (if 0 ≤ a0 ∧ a0 ≤ 10 then 1 else 0) := in_eq32 a0 0 10
  have c0 : ∀ k, k < 13 → fX8_count sn_iniX8 (nI k) = some 0 := by decide +kernel
  have m0 : ∀ k, k < 13 → fX9_count sn_iniX9 (nI k) = some 0 := by decide +kernel
  by_cases h : 0 ≤ a0 ∧ a0 < 13
  · obtain ⟨k, hk, rfl⟩ := nI_idx (n := 13) (by decide) h.1 h.2
    exact ⟨0, c0 k hk, m0 k hk, q1_J6⟩
  · have n11 : ¬ a0 = 11 := fun z => h (by rw [z]; decide)
    have n12 : ¬ a0 = 12 := fun z => h (by rw [z]; decide)
    have nle : ¬ (0 ≤ a0 ∧ a0 ≤ 10) := fun z => h ⟨z.1, Int32.lt_of_le_of_lt z.2 (by decide)⟩
    refine ⟨-1, ?_, ?_, q1_J6⟩
    · unfold fX8_count
      rw [if_neg n11, if_neg n12]
      by_cases h0 : a0 < 0
      · rw [if_pos h0]
      · rw [if_neg h0, if_neg (fun z => h ⟨Int32.not_lt.mp h0, Int32.lt_trans z (by decide)⟩)]
    · unfold fX9_count
      rw [e9, if_neg nle]
      show (if a0 = 11 then _ else if a0 = 12 then _ else _) = _
      rw [if_neg n11, if_neg n12]
theorem q1_s67 : st_67 (q1_J 0) (q1_J 6) := by
  intro σ τ a0 hJ
  obtain ⟨rfl, rfl⟩ := hJ rfl
  have e9 : fX9_in a0.toInt64 (0 : Int64) (2 : Int64) = some (if 0 ≤ a0 ∧ a0 ≤ 2 then 1 else 0) := in_eq32 a0 0 2
  have c0 : ∀ k, k < 3 → (fX8_image sn_iniX8 (nI k)).map Prod.fst = some (0) := by decide +kernel
  have m0 : ∀ k, k < 3 → (fX9_image sn_iniX9 (nI k)).map Prod.fst = some (0) := by decide +kernel
  by_cases h : 0 ≤ a0 ∧ a0 < 3
  · obtain ⟨k, hk, rfl⟩ := nI_idx (n := 3) (by decide) h.1 h.2
    obtain ⟨s, h1⟩ := q1_fst (c0 k hk)
    obtain ⟨t, h2⟩ := q1_fst (m0 k hk)
    exact ⟨0, s, t, h1, h2, q1_J6⟩
  · have nle : ¬ (0 ≤ a0 ∧ a0 ≤ 2) := fun z => h ⟨z.1, Int32.lt_of_le_of_lt z.2 (by decide)⟩
    refine ⟨-2, sn_iniX8, sn_iniX9, ?_, ?_, q1_J6⟩
    · unfold fX8_image
      by_cases h0 : a0 < 0
      · rw [if_pos h0]
      · rw [if_neg h0, if_neg (fun z => h ⟨Int32.not_lt.mp h0, z⟩)]
    · unfold fX9_image
      rw [e9, if_neg nle]
      rfl
theorem q1_s68 : st_68 (q1_J 0) (q1_J 6) := by
  intro σ τ a0 hJ
  obtain ⟨rfl, rfl⟩ := hJ rfl
  have e9 : fX9_in a0.toInt64 (0 : Int64) (2 : Int64) = some (if 0 ≤ a0 ∧ a0 ≤ 2 then 1 else 0) := in_eq32 a0 0 2
  have c0 : ∀ k, k < 3 → (fX8_back sn_iniX8 (nI k)).map Prod.fst = some (-6) := by decide +kernel
  have m0 : ∀ k, k < 3 → (fX9_back sn_iniX9 (nI k)).map Prod.fst = some (-6) := by decide +kernel
  by_cases h : 0 ≤ a0 ∧ a0 < 3
  · obtain ⟨k, hk, rfl⟩ := nI_idx (n := 3) (by decide) h.1 h.2
    obtain ⟨s, h1⟩ := q1_fst (c0 k hk)
    obtain ⟨t, h2⟩ := q1_fst (m0 k hk)
    exact ⟨-6, s, t, h1, h2, q1_J6⟩
  · have nle : ¬ (0 ≤ a0 ∧ a0 ≤ 2) := fun z => h ⟨z.1, Int32.lt_of_le_of_lt z.2 (by decide)⟩
    refine ⟨-2, sn_iniX8, sn_iniX9, ?_, ?_, q1_J6⟩
    · unfold fX8_back
      by_cases h0 : a0 < 0
      · rw [if_pos h0]
      · rw [if_neg h0, if_neg (fun z => h ⟨Int32.not_lt.mp h0, z⟩)]
    · unfold fX9_back
      rw [e9, if_neg nle]
      rfl
theorem q1_s69 : st_69 (q1_J 0) (q1_J 6) := by
  intro σ τ a w n hJ
  have cs := c_isSlot a
  have ms := m_isSlot a
  have mi : fX9_in w.toInt64 (0 : Int64) (3 : Int64) = some (if 0 ≤ w ∧ w ≤ 3 then 1 else 0) := in_eq32 w 0 3
  by_cases hs : 0 ≤ a ∧ a < 4
  · rw [if_pos hs] at cs ms
    by_cases hw : 0 ≤ w ∧ w ≤ 3
    · rw [if_pos hw] at mi
      by_cases hn : n ≤ 60
      · by_cases hn0 : 0 ≤ n
        · obtain ⟨s, hs4, ea⟩ := nI_idx (n := 4) (by decide) hs.1 hs.2
          subst ea
          have emake : fX6_make σ (nI s) w n = some ((sn_pI (sn_pI σ 25 s w) 26 s n).1, (fun a b => if a = 21 + s ∧ b < 60 then 0 else σ.2.1 a b), σ.2.2) := by
            unfold fX6_make
            simp only [sn_in_nI hs4 (by decide), gd_T, sn_lt, nI_clamp (show s < 2 ^ 31 by omega), at20 hs4]
            rw [fillL _ _ _ _ (by decide)]
            rfl
          refine ⟨0, ((sn_pI (sn_pI σ 25 s w) 26 s n).1, (fun a b => if a = 21 + s ∧ b < 60 then 0 else σ.2.1 a b), σ.2.2), ((sn_pI (sn_pI τ 21 s n) 22 s w).1, (fun a b => if a = 23 ∧ 60 * s ≤ b ∧ b < 60 * s + 60 then 0 else τ.2.1 a b), τ.2.2), ?_, ?_, ?_⟩
          · unfold fX8_row
            rw [cs]
            show (if w < 0 then _ else if 3 < w then _ else if n ≤ 60 then _ else _) = _
            rw [if_neg (Int32.not_lt.mpr hw.1), if_neg (Int32.not_lt.mpr hw.2), if_pos hn, if_pos hn0, emake]
            rfl
          · unfold fX9_row
            rw [ms]
            show (fX9_in w.toInt64 (0 : Int64) (3 : Int64)).bind _ = _
            rw [mi]
            show (if n ≤ 60 then (if 0 ≤ n then _ else _) else _) = _
            rw [if_pos hn, if_pos hn0]
            simp only [sn_in_nI hs4 (by decide), gd_T, sn_lt, nI_clamp (show s < 2 ^ 31 by omega)]
            rw [m_rowzero _ s hs4]
            rfl
          · exact q1_J6
        · refine ⟨-3, σ, τ, ?_, ?_, q1_J6⟩
          · unfold fX8_row
            rw [cs]
            show (if w < 0 then _ else if 3 < w then _ else if n ≤ 60 then _ else _) = _
            rw [if_neg (Int32.not_lt.mpr hw.1), if_neg (Int32.not_lt.mpr hw.2), if_pos hn, if_neg hn0]
          · unfold fX9_row
            rw [ms]
            show (fX9_in w.toInt64 (0 : Int64) (3 : Int64)).bind _ = _
            rw [mi]
            show (if n ≤ 60 then (if 0 ≤ n then _ else _) else _) = _
            rw [if_pos hn, if_neg hn0]
      · refine ⟨-2, σ, τ, ?_, ?_, q1_J6⟩
        · unfold fX8_row
          rw [cs]
          show (if w < 0 then _ else if 3 < w then _ else if n ≤ 60 then _ else _) = _
          rw [if_neg (Int32.not_lt.mpr hw.1), if_neg (Int32.not_lt.mpr hw.2), if_neg hn]
        · unfold fX9_row
          rw [ms]
          show (fX9_in w.toInt64 (0 : Int64) (3 : Int64)).bind _ = _
          rw [mi]
          show (if n ≤ 60 then (if 0 ≤ n then _ else _) else _) = _
          rw [if_neg hn]
    · rw [if_neg hw] at mi
      refine ⟨-2, σ, τ, ?_, ?_, q1_J6⟩
      · unfold fX8_row
        rw [cs]
        show (if w < 0 then _ else if 3 < w then _ else _) = _
        by_cases h0 : w < 0
        · rw [if_pos h0]
        · rw [if_neg h0, if_pos (Int32.not_le.mp (fun h => hw ⟨Int32.not_lt.mp h0, h⟩))]
      · unfold fX9_row
        rw [ms]
        show (fX9_in w.toInt64 (0 : Int64) (3 : Int64)).bind _ = _
        rw [mi]
        rfl
  · rw [if_neg hs] at cs ms
    refine ⟨-2, σ, τ, ?_, ?_, q1_J6⟩
    · unfold fX8_row
      rw [cs]
      rfl
    · unfold fX9_row
      rw [ms]
      rfl
theorem q1_s70 : st_70 (q1_J 0) (q1_J 6) := by
  intro σ τ a0 a1 a2 hJ
  obtain ⟨rfl, rfl⟩ := hJ rfl
  have c0 : ∀ k, k < 4 → fX6_has sn_iniX8 (nI k) = some 0 := by decide +kernel
  have m0 : ∀ k, k < 4 → sn_in (nI k) 4 = true ∧ sn_I sn_iniX9 21 (nI k).toNatClampNeg = -1 := by decide +kernel
  have cs := c_isSlot a0
  have ms := m_isSlot a0
  by_cases h : 0 ≤ a0 ∧ a0 < 4
  · rw [if_pos h] at cs ms
    obtain ⟨k, hk, rfl⟩ := nI_idx (n := 4) (by decide) h.1 h.2
    refine ⟨-6, sn_iniX8, sn_iniX9, ?_, ?_, q1_J6⟩
    · unfold fX8_write
      rw [cs]
      show (fX6_has sn_iniX8 (nI k)).bind _ = _
      rw [c0 k hk]
      rfl
    · unfold fX9_write
      rw [ms]
      show sn_gd (sn_in (nI k) 4) (if sn_I sn_iniX9 21 (nI k).toNatClampNeg = -1 then _ else _) = _
      rw [(m0 k hk).1, gd_T, if_pos (m0 k hk).2]
  · rw [if_neg h] at cs ms
    refine ⟨-2, sn_iniX8, sn_iniX9, ?_, ?_, q1_J6⟩
    · unfold fX8_write
      rw [cs]
      rfl
    · unfold fX9_write
      rw [ms]
      rfl
theorem q1_s71 : st_71 (q1_J 0) (q1_J 6) := by
  intro σ τ a0 a1 a2 a3 a4 hJ
  obtain ⟨rfl, rfl⟩ := hJ rfl
  have c0 : ∀ k, k < 4 → fX6_has sn_iniX8 (nI k) = some 0 := by decide +kernel
  have m0 : ∀ k, k < 4 → sn_in (nI k) 4 = true ∧ sn_I sn_iniX9 21 (nI k).toNatClampNeg = -1 := by decide +kernel
  have cs := c_isSlot a0
  have ms := m_isSlot a0
  have cs2 := c_isSlot a2
  have ms2 := m_isSlot a2
  by_cases h : 0 ≤ a0 ∧ a0 < 4
  · rw [if_pos h] at cs ms
    by_cases h2 : 0 ≤ a2 ∧ a2 < 4
    · rw [if_pos h2] at cs2 ms2
      obtain ⟨k, hk, rfl⟩ := nI_idx (n := 4) (by decide) h.1 h.2
      refine ⟨-6, sn_iniX8, sn_iniX9, ?_, ?_, q1_J6⟩
      · unfold fX8_paste
        rw [cs]
        show (fX6_isSlot a2).bind _ = _
        rw [cs2]
        show (fX6_has sn_iniX8 (nI k)).bind _ = _
        rw [c0 k hk]
        rfl
      · unfold fX9_paste
        rw [ms]
        show (fX9_isSlot a2).bind _ = _
        rw [ms2]
        show sn_gd (sn_in (nI k) 4) (if sn_I sn_iniX9 21 (nI k).toNatClampNeg = -1 then _ else _) = _
        rw [(m0 k hk).1, gd_T, if_pos (m0 k hk).2]
    · rw [if_neg h2] at cs2 ms2
      refine ⟨-2, sn_iniX8, sn_iniX9, ?_, ?_, q1_J6⟩
      · unfold fX8_paste
        rw [cs]
        show (fX6_isSlot a2).bind _ = _
        rw [cs2]
        rfl
      · unfold fX9_paste
        rw [ms]
        show (fX9_isSlot a2).bind _ = _
        rw [ms2]
        rfl
  · rw [if_neg h] at cs ms
    refine ⟨-2, sn_iniX8, sn_iniX9, ?_, ?_, q1_J6⟩
    · unfold fX8_paste
      rw [cs]
      rfl
    · unfold fX9_paste
      rw [ms]
      rfl
theorem sn_pure : ∃ J : Nat → sn_S → sn_S → Prop, J 0 sn_iniX8 sn_iniX9 ∧ (∀ k, k + 6 ≤ 6 → st_all (J k) (J (k + 6))) ∧ ∀ k, k + 6 ≤ 6 → ∀ σ τ, J k σ τ → J (k + 6) σ τ := by
  refine ⟨q1_J, fun _ => ⟨rfl, rfl⟩, fun k hk => ?_, fun k hk σ τ _ h => absurd h (by omega)⟩
  have h0 : k = 0 := by omega
  subst h0
  exact ⟨q1_s0, q1_s1, q1_s2, q1_s3, q1_s4, q1_s5, q1_s6, q1_s7, q1_s8, q1_s9, q1_s10, q1_s11, q1_s12, q1_s13, q1_s14, q1_s15, q1_s16, q1_s17, q1_s18, q1_s19, q1_s20, q1_s21, q1_s22, q1_s23, q1_s24, q1_s25, q1_s26, q1_s27, q1_s28, q1_s29, q1_s30, q1_s31, q1_s32, q1_s33, q1_s34, q1_s35, q1_s36, q1_s37, q1_s38, q1_s39, q1_s40, q1_s41, q1_s42, q1_s43, q1_s44, q1_s45, q1_s46, q1_s47, q1_s48, q1_s49, q1_s50, q1_s51, q1_s52, q1_s53, q1_s54, q1_s55, q1_s56, q1_s57, q1_s58, q1_s59, q1_s60, q1_s61, q1_s62, q1_s63, q1_s64, q1_s65, q1_s66, q1_s67, q1_s68, q1_s69, q1_s70, q1_s71⟩
