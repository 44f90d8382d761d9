/-! the tape fed, byte for byte -/
theorem by_and (z : Int32) : (z &&& (255 : Int32)).toInt = z.toInt % 256 := by
  have e3 : (z &&& (255 : Int32)).toBitVec.toNat = z.toBitVec.toNat &&& 255 := by
    rw [Int32.toBitVec_and, BitVec.toNat_and]
    rfl
  have e4 : z.toBitVec.toNat &&& 255 = z.toBitVec.toNat % 256 := Nat.and_two_pow_sub_one_eq_mod _ 8
  have h1 : z.toInt = z.toBitVec.toInt := rfl
  have h2 := z.toBitVec.isLt
  rw [zs_ofnat (by omega), e3, e4, h1, BitVec.toInt_eq_toNat_cond]
  split
  · omega
  · omega
theorem by_8 (z : Int32) : (z.toInt8.toInt32 &&& (255 : Int32)).toInt = (z &&& (255 : Int32)).toInt ∧ -128 ≤ z.toInt8.toInt32.toInt ∧ z.toInt8.toInt32.toInt ≤ 127 := by
  have e : z.toInt8.toInt32.toInt = z.toInt.bmod 256 := by
    rw [Int8.toInt_toInt32, Int32.toInt_toInt8]
  have e5 : z.toInt.bmod 256 = if z.toInt % 256 < (256 + 1) / 2 then z.toInt % 256 else z.toInt % 256 - 256 := rfl
  rw [by_and, by_and, e, e5]
  have h0 := Int.emod_nonneg z.toInt (show (256 : Int) ≠ 0 by decide)
  have h1 := Int.emod_lt_of_pos z.toInt (show (0 : Int) < 256 by decide)
  split
  · omega
  · omega
def by_c (x : Int32) (i : Nat) : Int32 := (x >>> (nI (24 - 8 * i) &&& 31)) &&& (255 : Int32)
theorem zt_put {σ : sn_S} {n : Nat} (hn : n + 4 ≤ 900) (h1 : σ.1 17 1 = nI n) (x : Int32) : ∃ τ, fX5_put σ x = some τ ∧ τ.1 17 1 = nI (n + 4) ∧ (∀ j, j < n → τ.1 18 j = σ.1 18 j) ∧ ∀ i, i < 4 → τ.1 18 (n + i) = by_c x i := by
  have one : ∀ (j : Nat) (ρ : sn_S) (y : Int32), j < 900 → ρ.1 17 1 = nI j → ¬ y < 0 → ∃ τ, LX5_put_3 x (ρ, y) = some (.inl (τ, y + (-8))) ∧ τ.1 17 1 = nI (j + 1) ∧ τ.1 18 j = (x >>> (y &&& 31)) &&& (255 : Int32) ∧ ∀ i, i ≠ j → τ.1 18 i = ρ.1 18 i := by
    intro j ρ y hj h hy
    refine ⟨sn_pI (sn_pI ρ 18 j ((x >>> (y &&& 31)) &&& (255 : Int32))) 17 1 (nI j + 1), ?_, ?_, ?_, fun i hi => ?_⟩
    · unfold LX5_put_3 BX5_put_3
      rw [if_neg hy]
      have e1 : sn_I ρ 17 1 = nI j := h
      show (if (900 : Int32) ≤ sn_I ρ 17 1 then _ else _) = _
      rw [e1, if_neg (show ¬ (900 : Int32) ≤ nI j from nI_ge (b := 900) hj (by decide)), sn_in_nI hj (by decide), gd_T, nI_clamp (by omega)]
      show some (Sum.inl (sn_pI (sn_pI ρ 18 j _) 17 1 ((sn_pI ρ 18 j _).1 17 1 + 1), y + (-8))) = _
      rw [pI_ne (by decide), h]
    · rw [pI_self, nI_1]
    · rw [pI_ne (by decide), pI_self]
    · rw [pI_ne (by decide), pI_slot hi]
  obtain ⟨τ1, e1, h1, k1, l1⟩ := one n σ 24 (by omega) h1 (by decide)
  obtain ⟨τ2, e2, h2, k2, l2⟩ := one (n + 1) τ1 16 (by omega) h1 (by decide)
  obtain ⟨τ3, e3, h3, k3, l3⟩ := one (n + 2) τ2 8 (by omega) h2 (by decide)
  obtain ⟨τ4, e4, h4, k4, l4⟩ := one (n + 3) τ3 0 (by omega) h3 (by decide)
  refine ⟨τ4, ?_, h4, fun j hj => by rw [l4 j (by omega), l3 j (by omega), l2 j (by omega), l1 j (by omega)], fun i hi => ?_⟩
  · have e : sn_it (LX5_put_3 x) (4995 + 5) (σ, (24 : Int32)) = some τ4 := by
      unfold sn_it
      rw [e1]
      show sn_it (LX5_put_3 x) (4995 + 4) (τ1, (16 : Int32)) = some τ4
      unfold sn_it
      rw [e2]
      show sn_it (LX5_put_3 x) (4995 + 3) (τ2, (8 : Int32)) = some τ4
      unfold sn_it
      rw [e3]
      show sn_it (LX5_put_3 x) (4995 + 2) (τ3, (0 : Int32)) = some τ4
      unfold sn_it
      rw [e4]
      show sn_it (LX5_put_3 x) (4995 + 1) (τ4, (-8 : Int32)) = some τ4
      unfold sn_it LX5_put_3 BX5_put_3
      rfl
    unfold fX5_put
    show (sn_it (LX5_put_3 x) (4995 + 5) (σ, (24 : Int32))).bind _ = _
    rw [e]
    rfl
  · have : i = 0 ∨ i = 1 ∨ i = 2 ∨ i = 3 := by omega
    rcases this with e | e | e | e <;> subst e
    · rw [l4 (n + 0) (by omega), l3 (n + 0) (by omega), l2 (n + 0) (by omega)]
      exact k1
    · rw [l4 (n + 1) (by omega), l3 (n + 1) (by omega)]
      exact k2
    · rw [l4 (n + 2) (by omega)]
      exact k3
    · exact k4
def by_x (a b c d e : Int32) (j : Nat) : Int32 := if j = 0 then a else if j = 1 then b else if j = 2 then c else if j = 3 then d else e
theorem zt_cfeed {σ : sn_S} {n : Nat} (h1 : σ.1 17 1 = nI n) (hn : n + 20 ≤ 900) (a b c d e : Int32) : ∃ r τ, fX8_feed σ a b c d e = some (r, τ) ∧ (∀ j, j < n → τ.1 18 j = σ.1 18 j) ∧ ∀ i, i < 20 → τ.1 18 (n + i) = by_c (by_x a b c d e (i / 4)) (i % 4) := by
  have e0 : sn_I σ 17 1 + (20 : Int32) = nI (n + 20) := by
    show σ.1 17 1 + nI 20 = _
    rw [h1, nI_add]
  obtain ⟨s1, e1, h1, k1, l1⟩ := zt_put (by omega) h1 a
  obtain ⟨s2, e2, h2, k2, l2⟩ := zt_put (by omega) h1 b
  obtain ⟨s3, e3, h3, k3, l3⟩ := zt_put (by omega) h2 c
  obtain ⟨s4, e4, h4, k4, l4⟩ := zt_put (by omega) h3 d
  obtain ⟨s5, e5, h5, k5, l5⟩ := zt_put (by omega) h4 e
  refine ⟨s5.1 17 1, s5, ?_, fun j hj => by rw [k5 j (by omega), k4 j (by omega), k3 j (by omega), k2 j (by omega), k1 j (by omega)], fun i hi => ?_⟩
  · unfold fX8_feed
    rw [e0, if_pos (show nI (n + 20) ≤ (900 : Int32) from nI_le (b := 900) hn (by decide)), e1]
    show (fX5_put s1 b).bind _ = _
    rw [e2]
    show (fX5_put s2 c).bind _ = _
    rw [e3]
    show (fX5_put s3 d).bind _ = _
    rw [e4]
    show (fX5_put s4 e).bind _ = _
    rw [e5]
    rfl
  · have hd : i / 4 = 0 ∨ i / 4 = 1 ∨ i / 4 = 2 ∨ i / 4 = 3 ∨ i / 4 = 4 := by omega
    rcases hd with g | g | g | g | g <;> rw [g]
    · rw [k5 _ (by omega), k4 _ (by omega), k3 _ (by omega), k2 _ (by omega), show n + i = n + i % 4 by omega]
      exact l1 _ (by omega)
    · rw [k5 _ (by omega), k4 _ (by omega), k3 _ (by omega), show n + i = n + 4 + i % 4 by omega]
      exact l2 _ (by omega)
    · rw [k5 _ (by omega), k4 _ (by omega), show n + i = n + 4 + 4 + i % 4 by omega]
      exact l3 _ (by omega)
    · rw [k5 _ (by omega), show n + i = n + 4 + 4 + 4 + i % 4 by omega]
      exact l4 _ (by omega)
    · rw [show n + i = n + 4 + 4 + 4 + 4 + i % 4 by omega]
      exact l5 _ (by omega)
theorem zt_mfeed {τ : sn_S} {n : Nat} (h5 : τ.1 0 5 = nI n) (hn : n + 20 ≤ 900) (a b c d e : Int32) : ∃ r t, fX9_feed τ a b c d e = some (r, t) ∧ (∀ j, j < n → t.1 4 j = τ.1 4 j) ∧ ∀ i, i < 20 → (t.1 4 (n + i) &&& (255 : Int32)).toInt = (by_c (by_x a b c d e (i / 4)) (i % 4)).toInt ∧ -128 ≤ (t.1 4 (n + i)).toInt ∧ (t.1 4 (n + i)).toInt ≤ 127 := by
  have e0 : sn_I τ 0 5 + (20 : Int32) = nI (n + 20) := by
    show τ.1 0 5 + nI 20 = _
    rw [h5, nI_add]
  obtain ⟨t0, hz⟩ : ∃ t0, t0 = sn_pI (sn_pI (sn_pI (sn_pI (sn_pI τ 5 0 a) 5 1 b) 5 2 c) 5 3 d) 5 4 e := ⟨_, rfl⟩
  have r5 : ∀ j, j < 5 → t0.1 5 j = by_x a b c d e j := fun j hj => by
    have : j = 0 ∨ j = 1 ∨ j = 2 ∨ j = 3 ∨ j = 4 := by omega
    rcases this with g | g | g | g | g <;> subst g <;> rw [hz]
    · rw [pI_slot (by decide), pI_slot (by decide), pI_slot (by decide), pI_slot (by decide), pI_self]
      rfl
    · rw [pI_slot (by decide), pI_slot (by decide), pI_slot (by decide), pI_self]
      rfl
    · rw [pI_slot (by decide), pI_slot (by decide), pI_self]
      rfl
    · rw [pI_slot (by decide), pI_self]
      rfl
    · rw [pI_self]
      rfl
  have ro : ∀ q, q ≠ 5 → t0.1 q = τ.1 q := fun q hq => by rw [hz, pI_ne hq, pI_ne hq, pI_ne hq, pI_ne hq, pI_ne hq]
  obtain ⟨t, e1, e2, e3, e4⟩ := sn_for (f := LX9_feed_55) 20 (fun k z => z.2 = nI k ∧ (∀ q, q ≠ 4 → z.1.1 q = t0.1 q) ∧ (∀ j, j < n → z.1.1 4 j = τ.1 4 j) ∧ ∀ i, i < k → (z.1.1 4 (n + i) &&& (255 : Int32)).toInt = (by_c (by_x a b c d e (i / 4)) (i % 4)).toInt ∧ -128 ≤ (z.1.1 4 (n + i)).toInt ∧ (z.1.1 4 (n + i)).toInt ≤ 127) (fun t => (∀ q, q ≠ 4 → t.1 q = t0.1 q) ∧ (∀ j, j < n → t.1 4 j = τ.1 4 j) ∧ ∀ i, i < 20 → (t.1 4 (n + i) &&& (255 : Int32)).toInt = (by_c (by_x a b c d e (i / 4)) (i % 4)).toInt ∧ -128 ≤ (t.1 4 (n + i)).toInt ∧ (t.1 4 (n + i)).toInt ≤ 127)
    (fun k z hk hz2 => by
      obtain ⟨z1, z2⟩ := z
      obtain ⟨g1, g2, g3, g4⟩ := hz2
      have g1 : z2 = nI k := g1
      subst g1
      have g2 : ∀ q, q ≠ 4 → z1.1 q = t0.1 q := g2
      have h0 : sn_I z1 0 5 = nI n := (congrFun (g2 0 (by decide)) 5).trans ((congrFun (ro 0 (by decide)) 5).trans h5)
      have hd : nI k / 4 = nI (k / 4) := by
        have : ∀ k, k < 20 → nI k / 4 = nI (k / 4) := by decide +kernel
        exact this k hk
      have hs : ((24 : Int32) - ((8 : Int32) * (nI k - nI (k / 4) * (4 : Int32)))) = nI (24 - 8 * (k % 4)) := by
        have : ∀ k, k < 20 → ((24 : Int32) - ((8 : Int32) * (nI k - nI (k / 4) * (4 : Int32)))) = nI (24 - 8 * (k % 4)) := by decide +kernel
        exact this k hk
      refine ⟨(sn_pI z1 4 (n + k) ((by_x a b c d e (k / 4)) >>> (nI (24 - 8 * (k % 4)) &&& 31)).toInt8.toInt32, nI (k + 1)), ?_, rfl, fun q hq => ?_, fun j hj => ?_, fun i hi => ?_⟩
      · unfold LX9_feed_55 BX9_feed_55
        show (if (20 : Int32) ≤ nI k then _ else _) = _
        rw [if_neg (show ¬ (20 : Int32) ≤ nI k from nI_ge (b := 20) hk (by decide)), h0, nI_add, hd, sn_in_nI (by omega) (by decide), gd_T, sn_in_nI (by omega) (by decide), gd_T, nI_clamp (show n + k < 2 ^ 31 by omega), nI_clamp (show k / 4 < 2 ^ 31 by omega), hs]
        show some (Sum.inl (sn_pI z1 4 (n + k) (vp_nar .byte ((z1.1 5 (k / 4)) >>> (nI (24 - 8 * (k % 4)) &&& 31)).toInt8.toInt32), nI k + 1)) = _
        rw [pk_vb, nI_1, congrFun (g2 5 (by decide)) (k / 4), r5 _ (by omega)]
      · show (sn_pI z1 4 (n + k) _).1 q = _
        rw [pI_ne hq]
        exact g2 q hq
      · show (sn_pI z1 4 (n + k) _).1 4 j = _
        rw [pI_slot (by omega)]
        exact g3 j hj
      · show ((sn_pI z1 4 (n + k) _).1 4 (n + i) &&& (255 : Int32)).toInt = _ ∧ _
        by_cases x : i = k
        · subst x
          rw [pI_self]
          exact by_8 _
        · rw [pI_slot (by omega)]
          exact g4 i (by omega))
    (fun z hz2 => by
      obtain ⟨z1, z2⟩ := z
      obtain ⟨g1, g2, g3, g4⟩ := hz2
      have g1 : z2 = nI 20 := g1
      subst g1
      refine ⟨z1, ?_, g2, g3, g4⟩
      unfold LX9_feed_55 BX9_feed_55
      exact if_pos (show (20 : Int32) ≤ nI 20 by decide))
    (n := 5000) (by decide) (s := (t0, (0 : Int32))) ⟨nI_0.symm, fun _ _ => rfl, fun j _ => by show t0.1 4 j = _; rw [ro 4 (by decide)], fun i hi => absurd hi (by omega)⟩
  refine ⟨(sn_pI t 0 5 (sn_I t 0 5 + (20 : Int32))).1 0 5, sn_pI t 0 5 (sn_I t 0 5 + (20 : Int32)), ?_, fun j hj => ?_, fun i hi => ?_⟩
  · unfold fX9_feed
    rw [e0, if_pos (show nI (n + 20) ≤ (900 : Int32) from nI_le (b := 900) hn (by decide))]
    show (sn_it LX9_feed_55 5000 (sn_pI (sn_pI (sn_pI (sn_pI (sn_pI τ 5 0 a) 5 1 b) 5 2 c) 5 3 d) 5 4 e, (0 : Int32))).bind _ = _
    rw [← hz, e1]
    rfl
  · rw [pI_ne (by decide)]
    exact e3 j hj
  · rw [pI_ne (by decide)]
    exact e4 i hi
