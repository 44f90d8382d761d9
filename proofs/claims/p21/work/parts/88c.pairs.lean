/-! the pairs of a minute and a gust -/
/-- the numbers of a row that are told as persons are such -/
def zt_good (σ : sn_S) (s L : Nat) : Prop := ∀ j, 2 * j < L → zs_in (sn_L σ 23 (60 * s + 2 * j)).toInt 0 5
theorem zt_num (σ : sn_S) {s i : Nat} (hs : s < 4) (hi : i < 60) : fX9_numberAt σ (nI s) (nI i) = some (sn_L σ 23 (60 * s + i)) := by
  have ei : (60 : Int32) * nI s + nI i = nI (60 * s + i) := by
    rw [← nI_add, ← nI_mul]
    rfl
  unfold fX9_numberAt
  rw [ei, sn_in_nI (by omega) (by decide), gd_T, nI_clamp (by omega)]
theorem zt_first {σ : sn_S} (h : zs_SB zs_tM σ) {s L : Nat} (hs : s < 4) (hL : sn_I σ 21 s = nI L) (hL60 : L ≤ 60) (he : L % 2 = 0) : ∃ t, sn_it (LX9_layPairs_46 σ (nI s)) 5000 (0 : Int32) = some t ∧ (t = .inr (-2, σ) ∨ (t = .inl () ∧ zt_good σ s L)) := by
  obtain ⟨t, e, ht⟩ := sn_it_rule (f := LX9_layPairs_46 σ (nI s)) (fun z => ∃ k, z = nI (2 * k) ∧ 2 * k ≤ L ∧ ∀ j, j < k → zs_in (sn_L σ 23 (60 * s + 2 * j)).toInt 0 5) (fun z => 100 - z.toInt.toNat) (fun t => t = .inr (-2, σ) ∨ (t = .inl () ∧ zt_good σ s L))
    (fun z hz => by
      obtain ⟨k, rfl, hk, hg⟩ := hz
      unfold LX9_layPairs_46 BX9_layPairs_46
      rw [sn_in_nI hs (by decide), gd_T, nI_clamp (show s < 2 ^ 31 by omega), hL]
      by_cases c : nI L ≤ nI (2 * k)
      · right
        rw [if_pos c]
        have : ¬ 2 * k < L := fun z => nI_ge z (by omega) c
        exact ⟨.inl (), rfl, Or.inr ⟨rfl, fun j hj => hg j (by omega)⟩⟩
      · rw [if_neg c, zt_num σ hs (show 2 * k < 60 by
          rcases Nat.lt_or_ge (2 * k) L with h1 | h1
          · omega
          · exact absurd (nI_le h1 (by omega)) c)]
        have hlt : 2 * k < L := by
          rcases Nat.lt_or_ge (2 * k) L with h1 | h1
          · exact h1
          · exact absurd (nI_le h1 (by omega)) c
        obtain ⟨t5, e5, h5⟩ := zc_1497 (zs_rf (key := zs_kM) (kl := zs_lM) h) (x1 := sn_L σ 23 (60 * s + 2 * k))
        rw [Option.bind_some, e5, Option.bind_some]
        by_cases c5 : t5 = 0
        · right
          rw [if_pos c5]
          exact ⟨.inr (-2, σ), rfl, Or.inl rfl⟩
        · have g5 := zs_or3 h5.2 (zs_I_eqn c5) (show zs_in (0 : Int32).toInt 0 0 by decide) (by decide)
          rw [if_neg c5, show nI (2 * k) + (1 : Int32) = nI (2 * k + 1) from nI_1 _, zt_num σ hs (show 2 * k + 1 < 60 by omega)]
          obtain ⟨t10, e10, h10⟩ := zc_1499 (zs_rf (key := zs_kM) (kl := zs_lM) h) (x1 := sn_L σ 23 (60 * s + (2 * k + 1)))
          rw [Option.bind_some, e10, Option.bind_some]
          by_cases c10 : t10 = 0
          · right
            rw [if_pos c10]
            exact ⟨.inr (-2, σ), rfl, Or.inl rfl⟩
          · left
            rw [if_neg c10]
            refine ⟨nI (2 * (k + 1)), ?_, ⟨k + 1, rfl, by omega, fun j hj => ?_⟩, ?_⟩
            · show some (Sum.inl (nI (2 * k) + nI 2)) = _
              rw [nI_add]
              rfl
            · by_cases ej : j = k
              · rw [ej]; exact g5
              · exact hg j (by omega)
            · rw [nI_toInt (by omega), nI_toInt (by omega)]
              omega) 5000 0 ⟨0, nI_0.symm, by omega, fun j hj => by omega⟩ (by decide)
  exact ⟨t, e, ht⟩
/-- whether a row's sneezes are all there: it answers -/
theorem zt_150 {σ ρ : sn_S} (hρ : zs_M σ ρ) {s L : Nat} (hs : s < 4) (hL : sn_I σ 21 s = nI L) (hL60 : L ≤ 60) (he : L % 2 = 0) (hg : zt_good σ s L) (x2 x3 : Int32) : ∃ t, sn_it (LX9_layPairs_150 ρ (nI s) x2 x3) 5000 ((1 : Int32), (0 : Int32)) = some t := by
  have hL' : sn_I ρ 21 s = nI L := (hρ.2.1 21 s rfl).trans hL
  have hn : ∀ i, sn_L ρ 23 i = sn_L σ 23 i := fun i => congrFun (hρ.2.2 23 rfl) i
  obtain ⟨t, e, -⟩ := sn_it_rule (f := LX9_layPairs_150 ρ (nI s) x2 x3) (fun z => ∃ k, z.2 = nI (2 * k) ∧ 2 * k ≤ L) (fun z => 100 - z.2.toInt.toNat) (fun _ => True)
    (fun z hz => by
      obtain ⟨b, i⟩ := z
      obtain ⟨k, hk0, hk⟩ := hz
      have hk0 : i = nI (2 * k) := hk0
      subst hk0
      unfold LX9_layPairs_150 BX9_layPairs_150
      dsimp only
      rw [sn_in_nI hs (by decide), gd_T, nI_clamp (show s < 2 ^ 31 by omega), hL']
      by_cases c : nI L ≤ nI (2 * k)
      · right
        rw [if_pos c]
        exact ⟨_, rfl, trivial⟩
      · left
        have hlt : 2 * k < L := by
          rcases Nat.lt_or_ge (2 * k) L with h1 | h1
          · exact h1
          · exact absurd (nI_le h1 (by omega)) c
        have next : ∀ d : Int32, (some (Sum.inl (d, nI (2 * k) + 2)) : Option ((Int32 × Int32) ⊕ Int32)) = some (Sum.inl (d, nI (2 * (k + 1)))) := fun d => by
          rw [show nI (2 * k) + (2 : Int32) = nI (2 * (k + 1)) from nI_add (2 * k) 2]
        have dec : 100 - (nI (2 * (k + 1))).toInt.toNat < 100 - (nI (2 * k)).toInt.toNat := by
          rw [nI_toInt (by omega), nI_toInt (by omega)]
          omega
        have inv : ∃ j, nI (2 * (k + 1)) = nI (2 * j) ∧ 2 * j ≤ L := ⟨k + 1, rfl, by omega⟩
        rw [if_neg c]
        by_cases cb : b = 0
        · rw [if_pos cb]
          exact ⟨(0, nI (2 * (k + 1))), next 0, inv, dec⟩
        · have g := hg k hlt
          rw [← hn] at g
          rw [if_neg cb, zt_num ρ hs (show 2 * k < 60 by omega), Option.bind_some, zs_gin (zs_32 g (by decide)) (by decide), gd_T, show nI (2 * k) + (1 : Int32) = nI (2 * k + 1) from nI_1 _, zt_num ρ hs (show 2 * k + 1 < 60 by omega), Option.bind_some]
          unfold fX9_bit
          rw [Option.bind_some]
          split
          · exact ⟨(1, nI (2 * (k + 1))), next 1, inv, dec⟩
          · exact ⟨(0, nI (2 * (k + 1))), next 0, inv, dec⟩) 5000 ((1 : Int32), (0 : Int32)) ⟨0, nI_0.symm, by omega⟩ (by decide)
  exact ⟨t, e⟩
/-- how often each sneezes, laid beside a pair -/
theorem zt_235 {σ ρ : sn_S} (hρ : zs_M σ ρ) {A : Nat} (hA : sn_I ρ 0 36 = nI A) (hA2 : A < 270) (x1 x2 x3 : Int32) : ∃ t, sn_it (LX9_layPairs_235 x1 x2 x3) 5000 (ρ, (0 : Int32)) = some t ∧ (zs_M σ t ∧ sn_I t 0 36 = nI A) := by
  refine sn_for (f := LX9_layPairs_235 x1 x2 x3) 6 (fun k z => z.2 = nI k ∧ zs_M σ z.1 ∧ sn_I z.1 0 36 = nI A) (fun t => zs_M σ t ∧ sn_I t 0 36 = nI A) (fun k z hk hz => ?_) (fun z hz => ?_) (n := 5000) (by decide) (s := (ρ, (0 : Int32))) ⟨nI_0.symm, hρ, hA⟩
  · obtain ⟨u, i⟩ := z
    obtain ⟨hi, hM, h36⟩ := hz
    have hi : i = nI k := hi
    have h36 : sn_I u 0 36 = nI A := h36
    subst hi
    obtain ⟨b, eb, -⟩ := zc_151 (x0 := sn_I u 10 k)
    have ei : (6 : Int32) * nI A + nI k = nI (6 * A + k) := by
      rw [← nI_add, ← nI_mul]
      rfl
    refine ⟨(sn_pI u 20 (6 * A + k) b, nI (k + 1)), ?_, rfl, zs_wrt hM (fun _ => rfl) (fun _ => rfl), ?_⟩
    · unfold LX9_layPairs_235 BX9_layPairs_235
      dsimp only
      rw [if_neg (show ¬ (6 : Int32) ≤ nI k from nI_ge (b := 6) hk (by decide)), sn_in_nI (by omega) (by decide), gd_T, nI_clamp (by omega), eb, Option.bind_some, h36, ei, sn_in_nI (by omega) (by decide), gd_T, nI_clamp (by omega), ← nI_1]
      rfl
    · show (sn_pI u 20 (6 * A + k) b).1 0 36 = nI A
      rw [pI_ne (by decide)]
      exact h36
  · obtain ⟨u, i⟩ := z
    obtain ⟨hi, hM, h36⟩ := hz
    have hi : i = nI 6 := hi
    subst hi
    refine ⟨u, ?_, hM, h36⟩
    unfold LX9_layPairs_235 BX9_layPairs_235
    dsimp only
    rw [if_pos (show (6 : Int32) ≤ nI 6 by decide)]
/-- a minute's nine gusts -/
theorem zt_114 {σ ρ : sn_S} (hρ : zs_M σ ρ) {s L m : Nat} (hs : s < 4) (hL : sn_I σ 21 s = nI L) (hL60 : L ≤ 60) (he : L % 2 = 0) (hg : zt_good σ s L) (hm : m < 30) (hA : ∃ A, A ≤ 9 * m ∧ sn_I ρ 0 36 = nI A) : ∃ t, sn_it (LX9_layPairs_114 (nI s) (nI m)) 5000 (ρ, (1 : Int32)) = some t ∧ (zs_M σ t ∧ ∃ A, A ≤ 9 * (m + 1) ∧ sn_I t 0 36 = nI A) := by
  refine sn_for (f := LX9_layPairs_114 (nI s) (nI m)) 9 (fun k z => z.2 = nI (k + 1) ∧ zs_M σ z.1 ∧ ∃ A, A ≤ 9 * m + k ∧ sn_I z.1 0 36 = nI A) (fun t => zs_M σ t ∧ ∃ A, A ≤ 9 * (m + 1) ∧ sn_I t 0 36 = nI A) (fun k z hk hz => ?_) (fun z hz => ?_) (n := 5000) (by decide) (s := (ρ, (1 : Int32))) ⟨rfl, hρ, hA⟩
  · obtain ⟨u, i⟩ := z
    obtain ⟨hi, hM, A, hA1, hA2⟩ := hz
    have hi : i = nI (k + 1) := hi
    have hA2 : sn_I u 0 36 = nI A := hA2
    subst hi
    have i30 : sn_in (nI m) 30 = true := sn_in_nI hm (by decide)
    have w1 : zs_M σ (sn_pI u 7 m (sn_I u 7 m + nI (k + 1))) := zs_wrt hM (fun _ => rfl) (fun _ => rfl)
    obtain ⟨v, ev, hv⟩ := zb_87 (zs_rf (key := zs_kN) (kl := zs_lN) w1.1)
    have hvM := zh_MN w1 hv
    have v36 : sn_I v 0 36 = nI A := (hv.2.1 0 36 rfl).trans (by show (sn_pI u 7 m _).1 0 36 = nI A; rw [pI_ne (by decide)]; exact hA2)
    have w2 : zs_M σ (sn_pI v 7 m (sn_I v 7 m - nI (k + 1))) := zs_wrt hvM (fun _ => rfl) (fun _ => rfl)
    have w36 : sn_I (sn_pI v 7 m (sn_I v 7 m - nI (k + 1))) 0 36 = nI A := by
      show (sn_pI v 7 m _).1 0 36 = nI A
      rw [pI_ne (by decide)]
      exact v36
    generalize hw : sn_pI v 7 m (sn_I v 7 m - nI (k + 1)) = w at w2 w36
    obtain ⟨is, eis⟩ := zt_150 w2 hs hL hL60 he hg (nI m) (nI (k + 1))
    have head : LX9_layPairs_114 (nI s) (nI m) (u, nI (k + 1)) = BX9_layPairs_209 w (nI s) (nI m) (nI (k + 1)) is := by
      unfold LX9_layPairs_114 BX9_layPairs_114 sn_lt
      dsimp only
      rw [if_neg (show ¬ (9 : Int32) < nI (k + 1) from nI_nlt (a := 9) (by omega) (by omega)), i30, gd_T, gd_T, nI_clamp (show m < 2 ^ 31 by omega), ev, Option.bind_some, gd_T, gd_T, hw, eis, Option.bind_some]
    by_cases ci : is = 0
    · refine ⟨(w, nI (k + 1) + 1), ?_, nI_1 _, w2, A, by omega, w36⟩
      rw [head]
      unfold BX9_layPairs_209
      rw [if_pos ci]
      rfl
    · have hi19 : zs_in ((10 : Int32) * nI m + nI (k + 1)).toInt 0 299 := zs_addI 0 299 (zs_mulI 0 290 (show zs_in (10 : Int32).toInt 10 10 by decide) (show zs_in (nI m).toInt 0 29 by rw [nI_toInt (by omega)]; exact ⟨by omega, by omega⟩) (by decide)) (show zs_in (nI (k + 1)).toInt 0 9 by rw [nI_toInt (by omega)]; exact ⟨by omega, by omega⟩) (by decide)
      have w3 : zs_M σ (sn_pI w 19 A ((10 : Int32) * nI m + nI (k + 1))) := zs_wru (z := (0, 299)) w2 (fun _ => rfl) hi19 (by decide) (fun _ => rfl)
      have w336 : sn_I (sn_pI w 19 A ((10 : Int32) * nI m + nI (k + 1))) 0 36 = nI A := by
        show (sn_pI w 19 A _).1 0 36 = nI A
        rw [pI_ne (by decide)]
        exact w36
      obtain ⟨x, ex, hx, hx36⟩ := zt_235 w3 w336 (by omega) (nI s) (nI m) (nI (k + 1))
      have w4 : zs_M σ (sn_pI x 0 36 (nI (A + 1))) := zs_wrk (z := (0, 270)) hx rfl (show zs_in (nI (A + 1)).toInt 0 270 by rw [nI_toInt (by omega)]; exact ⟨by omega, by omega⟩) (by decide) rfl
      refine ⟨(sn_pI x 0 36 (nI (A + 1)), nI (k + 1) + 1), ?_, nI_1 _, w4, A + 1, by omega, pI_self⟩
      rw [head]
      unfold BX9_layPairs_209 sn_lt
      dsimp only
      rw [if_neg ci, w36, sn_in_nI (by omega) (by decide), gd_T, nI_clamp (by omega), ex, Option.bind_some]
      unfold BX9_layPairs_273 sn_lt
      dsimp only
      rw [hx36, nI_1]
      rfl
  · obtain ⟨u, i⟩ := z
    obtain ⟨hi, hM, A, hA1, hA2⟩ := hz
    have hi : i = nI 10 := hi
    subst hi
    refine ⟨u, ?_, hM, A, by omega, hA2⟩
    unfold LX9_layPairs_114 BX9_layPairs_114
    dsimp only
    rw [if_pos (show (9 : Int32) < nI 10 by decide)]
theorem zt_93 {σ : sn_S} (h : zs_SB zs_tM σ) {s L : Nat} (hs : s < 4) (hL : sn_I σ 21 s = nI L) (hL60 : L ≤ 60) (he : L % 2 = 0) (hg : zt_good σ s L) : ∃ t, BX9_layPairs_93 σ (nI s) = some (0, t) ∧ zs_M σ t := by
  obtain ⟨u, eu, hu⟩ := zc_31 (zs_rf (key := zs_kM) (kl := zs_lM) h)
  have w0 : zs_M σ (sn_pI u 0 36 0) := zs_wrk (z := (0, 270)) hu rfl (show zs_in (0 : Int32).toInt 0 0 by decide) (by decide) rfl
  obtain ⟨t, et, ht⟩ := sn_it_rule (f := LX9_layPairs_104 (nI s)) (fun z => ∃ m, m ≤ 30 ∧ z.2 = nI m ∧ zs_M σ z.1 ∧ ∃ A, A ≤ 9 * m ∧ sn_I z.1 0 36 = nI A) (fun z => 31 - z.2.toInt.toNat) (fun t => zs_M σ t)
    (fun z hz => by
      obtain ⟨x, i⟩ := z
      obtain ⟨m, hm, hi, hM, hA⟩ := hz
      have hi : i = nI m := hi
      subst hi
      obtain ⟨q, eq, hq⟩ := zc_21 hM
      have q30 : zs_in q.toInt 0 30 := hq
      unfold LX9_layPairs_104 BX9_layPairs_104
      dsimp only
      rw [eq, Option.bind_some]
      by_cases c : q ≤ nI m
      · right
        rw [if_pos c]
        exact ⟨x, rfl, hM⟩
      · left
        have c1 := zs_I_len c
        rw [nI_toInt (by omega)] at c1
        obtain ⟨y, ey, hy, hyA⟩ := zt_114 hM hs hL hL60 he hg (show m < 30 by omega) hA
        rw [if_neg c, ey, Option.bind_some]
        refine ⟨(y, nI (m + 1)), ?_, ⟨m + 1, by omega, rfl, hy, hyA⟩, ?_⟩
        · unfold BX9_layPairs_289 sn_lt
          dsimp only
          rw [nI_1]
        · show 31 - (nI (m + 1)).toInt.toNat < 31 - (nI m).toInt.toNat
          rw [nI_toInt (by omega), nI_toInt (by omega)]
          omega) 5000 (sn_pI u 0 36 0, (0 : Int32)) ⟨0, by omega, nI_0.symm, w0, 0, by omega, by show (sn_pI u 0 36 0).1 0 36 = nI 0; rw [pI_self, nI_0]⟩ (by show 31 - (0 : Int32).toInt.toNat < 5000; decide)
  refine ⟨t, ?_, ht⟩
  unfold BX9_layPairs_93 sn_lt
  rw [eu, Option.bind_some]
  dsimp only
  rw [et, Option.bind_some]
  rfl
theorem zo_layPairs {σ0 σ : sn_S} (h_σ : zs_M σ0 σ) {x1 : Int32} : zs_ok (fX9_layPairs σ x1) (fun r => (zs_in (r.1).toInt (-6) 0 ∧ zs_M σ0 r.2)) := by
  have tr : ∀ {t : sn_S}, zs_M σ t → zs_M σ0 t := fun {t} ht => ⟨ht.1, fun q k hk => (ht.2.1 q k hk).trans (h_σ.2.1 q k hk), fun q hq => (ht.2.2 q hq).trans (h_σ.2.2 q hq)⟩
  have m2 : zs_in (-2 : Int32).toInt (-6) 0 := by decide
  unfold fX9_layPairs
  rw [m_isSlot]
  by_cases hs : 0 ≤ x1 ∧ x1 < 4
  · rw [if_pos hs, Option.bind_some, if_neg (show ¬ (1 : Int32) = 0 by decide)]
    obtain ⟨s, hs4, rfl⟩ := nI_idx (n := 4) (by decide) hs.1 hs.2
    refine zs_bd_ (zc_91 h_σ) (fun t4 _ => ?_)
    refine zs_ite (fun _ => zs_some ⟨m2, h_σ⟩) (fun _ => ?_)
    rw [sn_in_nI hs4 (by decide), gd_T, gd_T, nI_clamp (show s < 2 ^ 31 by omega)]
    refine zs_ite (fun _ => zs_some ⟨(by decide : zs_in (-6 : Int32).toInt (-6) 0), h_σ⟩) (fun c1 => ?_)
    have b21 : zs_in (sn_I σ 21 s).toInt (-1) 60 := zs_rdu (q := 21) (z := (-1, 60)) h_σ.1 (fun _ => rfl)
    have c1' := zs_I_eqn c1
    have e1 : (-1 : Int32).toInt = -1 := by decide
    obtain ⟨L, hL, eL⟩ := zs_val (x := sn_I σ 21 s) (a := 0) (b := 60) ⟨by omega, by omega⟩ (by decide)
    have hL60 : L ≤ 60 := by omega
    rw [eL]
    refine zs_ite (fun c2 => ?_) (fun _ => zs_some ⟨m2, h_σ⟩)
    have he : L % 2 = 0 := by
      have : ∀ L, L < 61 → (nI L - nI L / 2 * 2 = 0) → L % 2 = 0 := by decide +kernel
      exact this L (by omega) c2
    obtain ⟨t, et, ht⟩ := zt_first h_σ.1 hs4 eL hL60 he
    rw [et, Option.bind_some]
    rcases ht with rfl | ⟨rfl, hg⟩
    · exact zs_some ⟨m2, h_σ⟩
    · obtain ⟨u, eu, hu⟩ := zt_93 h_σ.1 hs4 eL hL60 he hg
      rw [Sum.elim_inl, eu]
      exact zs_some ⟨(by decide : zs_in (0 : Int32).toInt (-6) 0), tr hu⟩
  · rw [if_neg hs]
    exact zs_some ⟨m2, h_σ⟩
