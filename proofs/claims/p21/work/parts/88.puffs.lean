/-! chances of the reference: the sum of all weights is above 0 -/
theorem zq_WM {σ0 σ τ : sn_S} (h : zs_M σ0 σ) (h2 : zs_W σ τ) : zs_M σ0 τ := ⟨h2.1, fun q k hk => (h2.2.1 q k (by unfold zs_kW; rw [hk]; rfl)).trans (h.2.1 q k hk), fun q hq => (h2.2.2 q rfl).trans (h.2.2 q hq)⟩
theorem zq_w1 {σ τ : sn_S} (h : zs_W σ τ) (k : Nat) : τ.1 1 k = σ.1 1 k := h.2.1 1 k (by unfold zs_kW; rw [show Nat.beq 1 1 = true from rfl, Bool.or_true])
theorem zq_wL {σ τ : sn_S} (h : zs_W σ τ) (q : Nat) : τ.2.1 q = σ.2.1 q := h.2.2 q rfl
/-- what stays between two states in a weight's turn -/
def zq_K (σ0 σ τ : sn_S) : Prop := zs_M σ0 τ ∧ (∀ k, τ.1 1 k = σ.1 1 k) ∧ sn_L τ 0 38 = sn_L σ 0 38
theorem zq_KW {σ0 σ τ υ : sn_S} (h : zq_K σ0 σ τ) (h2 : zs_W τ υ) : zq_K σ0 σ υ := ⟨zq_WM h.1 h2, fun k => (zq_w1 h2 k).trans (h.2.1 k), by
  have := congrFun (zq_wL h2 0) 38
  exact this.trans h.2.2⟩
theorem zq_KL {σ0 σ τ : sn_S} (h : zq_K σ0 σ τ) {k : Nat} (hk : 38 ≠ k) (v : Int64) : zq_K σ0 σ (sn_pL τ 0 k v) := ⟨zs_wrL h.1 rfl, h.2.1, by
  show (if 0 = 0 ∧ 38 = k then v else sn_L τ 0 38) = _
  rw [if_neg (fun z => hk z.2)]
  exact h.2.2⟩
theorem zq_213 {σ0 σ τ : sn_S} (h : zq_K σ0 σ τ) {x1 x2 x3 x4 : Int32} {t1 t2 : Int64} : ∃ υ, BX9_layPuffs_213 τ x1 x2 x3 x4 t1 t2 = some (.inl (υ, x4 + 1)) ∧ zq_K σ0 σ υ := ⟨_, rfl, zq_KL h (by decide) _⟩
theorem zq_190 {σ0 σ τ : sn_S} (h : zq_K σ0 σ τ) {x1 x2 x3 x4 : Int32} {x5 t1 t2 : Int64} : ∃ υ, BX9_layPuffs_190 τ x1 x2 x3 x4 x5 t1 t2 = some (.inl (υ, x4 + 1)) ∧ zq_K σ0 σ υ := by
  have h1 : zq_K σ0 σ (sn_pL τ 0 40 (t1 + t2)) := zq_KL h (by decide) _
  obtain ⟨r, e, hr⟩ := zw_117 (zs_rf h1.1.1)
  have h2 := zq_KW h1 hr.2
  have e' : BX9_layPuffs_190 τ x1 x2 x3 x4 x5 t1 t2 = (if r.1 = (-1 : Int32) then (BX9_layPuffs_213 r.2 x1 x2 x3 x4 (sn_L (sn_pL τ 0 40 (t1 + t2)) 0 41) (0 : Int64)) else (BX9_layPuffs_213 r.2 x1 x2 x3 x4 (sn_L (sn_pL τ 0 40 (t1 + t2)) 0 41) x5)) := by
    unfold BX9_layPuffs_190 sn_lt
    dsimp only
    rw [e]
    rfl
  rw [e']
  by_cases c : r.1 = -1
  · rw [if_pos c]
    exact zq_213 h2
  · rw [if_neg c]
    exact zq_213 h2
theorem zq_158 {σ0 σ τ : sn_S} (h : zq_K σ0 σ τ) {x1 x2 x3 x4 : Int32} {x5 t1 t2 : Int64} (h3 : zs_in x3.toInt 0 5) : ∃ υ, BX9_layPuffs_158 τ x1 x2 x3 x4 x5 t1 t2 = some (.inl (υ, x4 + 1)) ∧ zq_K σ0 σ υ := by
  have h1 : zq_K σ0 σ (sn_pL τ 0 39 (t1 + t2)) := zq_KL h (by decide) _
  obtain ⟨r, e, hr⟩ := zw_85 (zs_rf h1.1.1) h3
  have h2 := zq_KW h1 hr.2
  have e' : BX9_layPuffs_158 τ x1 x2 x3 x4 x5 t1 t2 = (if (sn_I (sn_pL τ 0 39 (t1 + t2)) 1 (8 : Int32).toNatClampNeg) ≤ 0 then (BX9_layPuffs_190 (sn_pL τ 0 39 (t1 + t2)) x1 x2 x3 x4 x5 (sn_L (sn_pL τ 0 39 (t1 + t2)) 0 40) (0 : Int64)) else (BX9_layPuffs_190 r.2 x1 x2 x3 x4 x5 (sn_L (sn_pL τ 0 39 (t1 + t2)) 0 40) (x5 * r.1.toInt64))) := by
    unfold BX9_layPuffs_158 sn_lt
    dsimp only
    rw [e, show sn_in (8 : Int32) 119 = true by decide, gd_T, Option.bind_some]
  rw [e']
  by_cases c : (sn_I (sn_pL τ 0 39 (t1 + t2)) 1 (8 : Int32).toNatClampNeg) ≤ 0
  · rw [if_pos c]
    exact zq_190 h1
  · rw [if_neg c]
    exact zq_190 h2
theorem zq_113 {σ0 σ : sn_S} (h : zs_M σ0 σ) {x1 x2 x3 x4 : Int32} {v : Int64} (h2 : zs_in x2.toInt 0 5) (h3 : zs_in x3.toInt 0 5) (hv : v.toInt ≠ 0) : ∃ υ, BX9_layPuffs_113 σ x1 x2 x3 x4 v = some (.inl (υ, x4 + 1)) ∧ zs_M σ0 υ ∧ (∀ k, υ.1 1 k = σ.1 1 k) ∧ sn_L υ 0 38 = sn_L σ 0 38 + v := by
  have c0 : ¬ lg_cmp v 0 = 0 := fun z => hv (by have := zs_lg_eq z; rw [this]; decide)
  obtain ⟨t, e, ht⟩ := zw_57 (zs_rf (key := zs_kW) (kl := zs_lN) h.1)
  have eL : sn_L t 0 38 = sn_L σ 0 38 := congrFun (zq_wL ht 0) 38
  have hM := zq_WM h ht
  have hb : zs_M σ0 (sn_pL t 0 38 (sn_L t 0 38 + v)) := zs_wrL hM rfl
  have hK : zq_K σ0 (sn_pL t 0 38 (sn_L t 0 38 + v)) (sn_pL t 0 38 (sn_L t 0 38 + v)) := ⟨hb, fun _ => rfl, rfl⟩
  have fin : ∀ {υ : sn_S}, zq_K σ0 (sn_pL t 0 38 (sn_L t 0 38 + v)) υ → zs_M σ0 υ ∧ (∀ k, υ.1 1 k = σ.1 1 k) ∧ sn_L υ 0 38 = sn_L σ 0 38 + v := fun {υ} hu => ⟨hu.1, fun k => (hu.2.1 k).trans (zq_w1 ht k), by
    rw [hu.2.2, ← eL]
    show (if 0 = 0 ∧ 38 = 38 then sn_L t 0 38 + v else sn_L t 0 38) = _
    rw [if_pos ⟨rfl, rfl⟩]⟩
  unfold BX9_layPuffs_113
  rw [if_neg c0, e]
  show ∃ υ, sn_gd (sn_in x2 6) (if (sn_I (sn_pL t 0 38 (sn_L t 0 38 + v)) 10 x2.toNatClampNeg) = 0 then _ else _) = _ ∧ _
  rw [zs_gin h2 (by decide), gd_T]
  by_cases c : (sn_I (sn_pL t 0 38 (sn_L t 0 38 + v)) 10 x2.toNatClampNeg) = 0
  · rw [if_pos c]
    obtain ⟨υ, e1, hu⟩ := zq_158 hK (x1 := x1) (x2 := x2) (x4 := x4) (x5 := v) (t1 := sn_L (sn_pL t 0 38 (sn_L t 0 38 + v)) 0 39) (t2 := 0) h3
    exact ⟨υ, e1, fin hu⟩
  · rw [if_neg c]
    obtain ⟨υ, e1, hu⟩ := zq_158 hK (x1 := x1) (x2 := x2) (x4 := x4) (x5 := v) (t1 := sn_L (sn_pL t 0 38 (sn_L t 0 38 + v)) 0 39) (t2 := v) h3
    exact ⟨υ, e1, fin hu⟩
/-- the weight of a set of puffs -/
theorem zq_46 {σ0 σ : sn_S} (h : zs_M σ0 σ) {x : Nat} (hx : x < 8) {x2 x3 x4 : Int32} {o : Int} (ho : (sn_I σ 1 4).toInt = o) (G : Prop) (hG : G → ∀ k, k ≤ x → ((x4 >>> (nI k &&& 31)) &&& (1 : Int32) = 1 → 1 ≤ o) ∧ (¬ (x4 >>> (nI k &&& 31)) &&& (1 : Int32) = 1 → o ≤ 9)) :
    ∃ t, sn_it (LX9_layPuffs_46 (nI x) x2 x3 x4) 5000 (σ, (1 : Int64), (0 : Int32)) = some t ∧ (zs_M σ0 t.1 ∧ (∀ k, t.1.1 1 k = σ.1 1 k) ∧ (sn_L t.1 0 38 = sn_L σ 0 38) ∧ 0 ≤ t.2.toInt ∧ t.2.toInt ≤ 10 ^ (x + 1) ∧ (G → 1 ≤ t.2.toInt)) := by
  have hb := h.1.1 1 4
  rw [show zs_tM 1 4 = (0, 10) from rfl] at hb
  have hb1 : 0 ≤ o := by rw [← ho]; exact hb.1
  have hb2 : o ≤ 10 := by rw [← ho]; exact hb.2
  refine sn_for (f := LX9_layPuffs_46 (nI x) x2 x3 x4) (x + 1) (fun k z => z.2.2 = nI k ∧ zs_M σ0 z.1 ∧ (∀ k, z.1.1 1 k = σ.1 1 k) ∧ sn_L z.1 0 38 = sn_L σ 0 38 ∧ 0 ≤ z.2.1.toInt ∧ z.2.1.toInt ≤ 10 ^ k ∧ (G → 1 ≤ z.2.1.toInt)) _
    (fun k z hk hz => ?_) (fun z hz => ?_) (n := 5000) (by omega) (s := (σ, (1 : Int64), (0 : Int32))) ⟨nI_0.symm, h, fun _ => rfl, rfl, (show 0 ≤ (1 : Int64).toInt by decide), (show (1 : Int64).toInt ≤ 10 ^ 0 by decide), fun _ => (show 1 ≤ (1 : Int64).toInt by decide)⟩
  · obtain ⟨ρ, v, i⟩ := z
    obtain ⟨rfl, hM, h1, hL, v0, v1, vG⟩ := hz
    have v0 : 0 ≤ v.toInt := v0
    have v1 : v.toInt ≤ 10 ^ k := v1
    have hp : (10 : Int) ^ k ≤ 10 ^ 8 := by
      have : ∀ k, k < 9 → (10 : Int) ^ k ≤ 10 ^ 8 := by decide
      exact this k (by omega)
    have hp2 : (10 : Int) ^ (k + 1) = 10 ^ k * 10 := Int.pow_succ 10 k
    have ik : sn_in (nI k) 30 = true := sn_in_nI (by omega) (by decide)
    generalize hbit : (x4 >>> (nI k &&& 31)) &&& (1 : Int32) = b
    have ebit : fX9_bit x4 (nI k) = some b := by rw [← hbit]; rfl
    have hρ : zs_M σ0 (sn_pI ρ 7 k ((sn_I ρ 7 k) + ((3 : Int32) * b))) := zs_wrt hM (fun _ => rfl) (fun _ => rfl)
    have hρ1 : ∀ j, (sn_pI ρ 7 k ((sn_I ρ 7 k) + ((3 : Int32) * b))).1 1 j = σ.1 1 j := fun j => by
      rw [pI_ne (by decide)]
      exact h1 j
    have eo : sn_I (sn_pI ρ 7 k ((sn_I ρ 7 k) + ((3 : Int32) * b))) 1 4 = sn_I σ 1 4 := hρ1 4
    have step : ∀ w : Int64, 0 ≤ w.toInt → w.toInt ≤ 10 → (G → 1 ≤ w.toInt) → 0 ≤ (v * w).toInt ∧ (v * w).toInt ≤ 10 ^ (k + 1) ∧ (G → 1 ≤ (v * w).toInt) := by
      intro w w0 w1 wG
      have m1 : 0 ≤ v.toInt * w.toInt := Int.mul_nonneg v0 w0
      have m2 : v.toInt * w.toInt ≤ 10 ^ k * 10 := Int.mul_le_mul v1 w1 w0 (by omega)
      have e : (v * w).toInt = v.toInt * w.toInt := by
        rw [Int64.toInt_mul, zs_bmL ⟨by omega, by omega⟩]
      rw [e, hp2]
      refine ⟨m1, m2, fun g => ?_⟩
      have g1 := vG g
      have g2 := wG g
      have g1 : 1 ≤ v.toInt := g1
      have := Int.mul_le_mul g1 g2 (by omega) (by omega)
      omega
    by_cases cb : b = 1
    · obtain ⟨s1, s2, s3⟩ := step (sn_I σ 1 4).toInt64 (by rw [Int32.toInt_toInt64]; omega) (by rw [Int32.toInt_toInt64]; omega) (fun g => by rw [Int32.toInt_toInt64, ho]; exact (hG g k (by omega)).1 (by rw [hbit]; exact cb))
      refine ⟨(sn_pI ρ 7 k ((sn_I ρ 7 k) + ((3 : Int32) * b)), v * (sn_I σ 1 4).toInt64, nI (k + 1)), ?_, rfl, hρ, hρ1, hL, s1, s2, s3⟩
      unfold LX9_layPuffs_46 BX9_layPuffs_46
      show (if nI x < nI k then _ else _) = _
      rw [if_neg (nI_nlt (by omega) (by omega)), ik, gd_T, ebit]
      show sn_gd true _ = _
      rw [gd_T, nI_clamp (by omega)]
      show (if b = 1 then _ else _) = _
      rw [if_pos cb]
      show BX9_layPuffs_104 (sn_pI ρ 7 k ((sn_I ρ 7 k) + ((3 : Int32) * b))) (nI x) x2 x3 x4 v (nI k) v (sn_I (sn_pI ρ 7 k ((sn_I ρ 7 k) + ((3 : Int32) * b))) 1 4).toInt64 = _
      rw [eo, ← nI_1]
      rfl
    · have e10 : ((10 : Int32) - sn_I σ 1 4).toInt = 10 - o := by
        rw [Int32.toInt_sub, ho, show (10 : Int32).toInt = 10 by decide, zs_bm ⟨by omega, by omega⟩]
      obtain ⟨s1, s2, s3⟩ := step ((10 : Int32) - sn_I σ 1 4).toInt64 (by rw [Int32.toInt_toInt64]; omega) (by rw [Int32.toInt_toInt64]; omega) (fun g => by rw [Int32.toInt_toInt64, e10]; have := (hG g k (by omega)).2 (by rw [hbit]; exact cb); omega)
      refine ⟨(sn_pI ρ 7 k ((sn_I ρ 7 k) + ((3 : Int32) * b)), v * ((10 : Int32) - sn_I σ 1 4).toInt64, nI (k + 1)), ?_, rfl, hρ, hρ1, hL, s1, s2, s3⟩
      unfold LX9_layPuffs_46 BX9_layPuffs_46
      show (if nI x < nI k then _ else _) = _
      rw [if_neg (nI_nlt (by omega) (by omega)), ik, gd_T, ebit]
      show sn_gd true _ = _
      rw [gd_T, nI_clamp (by omega)]
      show (if b = 1 then _ else _) = _
      rw [if_neg cb]
      show BX9_layPuffs_104 (sn_pI ρ 7 k ((sn_I ρ 7 k) + ((3 : Int32) * b))) (nI x) x2 x3 x4 v (nI k) v ((10 : Int32) - sn_I (sn_pI ρ 7 k ((sn_I ρ 7 k) + ((3 : Int32) * b))) 1 4).toInt64 = _
      rw [eo, ← nI_1]
      rfl
  · obtain ⟨ρ, v, i⟩ := z
    obtain ⟨rfl, hM, h1, hL, v0, v1, vG⟩ := hz
    refine ⟨(ρ, v), ?_, hM, h1, hL, v0, v1, vG⟩
    unfold LX9_layPuffs_46 BX9_layPuffs_46
    rw [if_pos (nI_lt (by omega) (by omega))]

theorem zq_bit0 : ∀ k, k < 8 → ¬ (((0 : Int32) >>> (nI k &&& 31)) &&& (1 : Int32) = 1) := by decide +kernel
theorem zq_bit1 : ∀ x, x < 8 → ∀ k, k < x + 1 → ((nI (2 ^ (x + 1) - 1)) >>> (nI k &&& 31)) &&& (1 : Int32) = 1 := by decide +kernel
theorem zq_two : ∀ x, x < 8 → (2 : Int32) <<< (nI x &&& 31) = nI (2 ^ (x + 1)) := by decide +kernel
theorem zq_lay {σ0 σ : sn_S} (h : zs_M σ0 σ) {x : Nat} (hx : x < 8) {x2 x3 : Int32} (h2 : zs_in x2.toInt 0 5) (h3 : zs_in x3.toInt 0 5) : ∃ t, fX9_layPuffs σ (nI x) x2 x3 = some t ∧ (zs_M σ0 t ∧ (sn_L t 0 38).toInt ≠ 0) := by
  obtain ⟨o, ho⟩ : ∃ o, o = (sn_I σ 1 4).toInt := ⟨_, rfl⟩
  have hb := h.1.1 1 4
  rw [show zs_tM 1 4 = (0, 10) from rfl] at hb
  have hb1 : 0 ≤ o := by rw [ho]; exact hb.1
  have hb2 : o ≤ 10 := by rw [ho]; exact hb.2
  have hp : (10 : Int) ^ (x + 1) ≤ 100000000 ∧ 2 ^ (x + 1) ≤ 256 ∧ 2 ≤ 2 ^ (x + 1) := by
    have : ∀ x, x < 8 → (10 : Int) ^ (x + 1) ≤ 100000000 ∧ 2 ^ (x + 1) ≤ 256 ∧ 2 ≤ 2 ^ (x + 1) := by decide
    exact this x hx
  obtain ⟨hp1, hp2, hp3⟩ := hp
  have h7 : zs_M σ0 (sn_pL (sn_pL (sn_pL (sn_pL σ 0 38 0) 0 39 0) 0 40 0) 0 41 0) := zs_wrL (zs_wrL (zs_wrL (zs_wrL h rfl) rfl) rfl) rfl
  generalize hs7 : sn_pL (sn_pL (sn_pL (sn_pL σ 0 38 0) 0 39 0) 0 40 0) 0 41 0 = σ7 at h7
  have h7w : ∀ k, σ7.1 1 k = σ.1 1 k := fun k => by rw [← hs7]; rfl
  have h7L : sn_L σ7 0 38 = 0 := by rw [← hs7]; rfl
  generalize hN : 2 ^ (x + 1) = N at hp2 hp3
  obtain ⟨t, e, ht⟩ := sn_for (f := LX9_layPuffs_23 (nI x) x2 x3) N (fun j z => z.2 = nI j ∧ zs_M σ0 z.1 ∧ (∀ k, z.1.1 1 k = σ.1 1 k) ∧ (0 ≤ (sn_L z.1 0 38).toInt ∧ (sn_L z.1 0 38).toInt ≤ 100000000 * (j : Int)) ∧ (o ≤ 9 → 1 ≤ j → 1 ≤ (sn_L z.1 0 38).toInt) ∧ (o = 10 → j = N → 1 ≤ (sn_L z.1 0 38).toInt)) (fun t => zs_M σ0 t ∧ (sn_L t 0 38).toInt ≠ 0)
    (fun j z hj hz => by
      obtain ⟨ρ, i⟩ := z
      obtain ⟨rfl, hM, hw, hA, hA1, hA2⟩ := hz
      have hA : 0 ≤ (sn_L ρ 0 38).toInt ∧ (sn_L ρ 0 38).toInt ≤ 100000000 * (j : Int) := hA
      obtain ⟨u, e1, hu⟩ := zw_11 (zs_rf (key := zs_kW) (kl := zs_lN) hM.1)
      have huM := zq_WM hM hu
      have hi : zs_in (nI x).toInt 0 7 := by rw [nI_toInt (by omega)]; exact ⟨by omega, by omega⟩
      have h22 : zs_M σ0 (sn_pI u 0 22 (nI x)) := zs_wrk (z := (-1, 29)) huM rfl hi (by decide) rfl
      have hw2 : ∀ k, (sn_pI u 0 22 (nI x)).1 1 k = σ.1 1 k := fun k => by
        rw [pI_ne (by decide), zq_w1 hu k]
        exact hw k
      have hL2 : sn_L (sn_pI u 0 22 (nI x)) 0 38 = sn_L ρ 0 38 := congrFun (zq_wL hu 0) 38
      obtain ⟨w, e2, g1, g2, g3, g4, g5, g6⟩ := zq_46 h22 hx (x2 := x2) (x3 := x3) (x4 := nI j) (o := o) (by rw [show sn_I (sn_pI u 0 22 (nI x)) 1 4 = sn_I σ 1 4 from hw2 4]; exact ho.symm) ((o ≤ 9 ∧ j = 0) ∨ (o = 10 ∧ j = N - 1)) (fun g k hk => by
        rcases g with ⟨o9, j0⟩ | ⟨o10, jN⟩
        · refine ⟨fun z => absurd z ?_, fun _ => o9⟩
          rw [j0, nI_0]
          exact zq_bit0 k (by omega)
        · refine ⟨fun _ => by omega, fun z => absurd ?_ z⟩
          rw [jN, ← hN]
          exact zq_bit1 x hx k (by omega))
      have head : LX9_layPuffs_23 (nI x) x2 x3 (ρ, nI j) = BX9_layPuffs_113 w.1 (nI x) x2 x3 (nI j) w.2 := by
        unfold LX9_layPuffs_23 BX9_layPuffs_23
        show (if (2 : Int32) <<< (nI x &&& 31) ≤ nI j then _ else _) = _
        rw [zq_two x hx, hN, if_neg (nI_ge hj (by omega))]
        show (fX9_asItIs ρ).bind _ = _
        rw [e1]
        show ((sn_it (LX9_layPuffs_46 (nI x) x2 x3 (nI j)) 5000 (sn_pI u 0 22 (nI x), (1 : Int64), (0 : Int32))).bind _) = _
        rw [e2, Option.bind_some]
      by_cases hv : w.2.toInt = 0
      · refine ⟨(w.1, nI j + 1), ?_, nI_1 j, g1, fun k => (g2 k).trans (hw2 k), ?_, fun a b => ?_, fun a b => ?_⟩
        · rw [head]
          unfold BX9_layPuffs_113
          have c0 : lg_cmp w.2 0 = 0 := by
            have : w.2 = 0 := Int64.toInt_inj.mp (by rw [hv]; decide)
            rw [this]
            decide
          rw [if_pos c0]
          rfl
        · show 0 ≤ (sn_L w.1 0 38).toInt ∧ (sn_L w.1 0 38).toInt ≤ 100000000 * ((j + 1 : Nat) : Int)
          rw [g3, hL2]
          exact ⟨hA.1, by omega⟩
        · show 1 ≤ (sn_L w.1 0 38).toInt
          rw [g3, hL2]
          by_cases j0 : j = 0
          · have := g6 (Or.inl ⟨a, j0⟩)
            omega
          · exact hA1 a (by omega)
        · exfalso
          have := g6 (Or.inr ⟨a, by omega⟩)
          omega
      · obtain ⟨υ, e3, k1, k2, k3⟩ := zq_113 g1 (x1 := nI x) (x2 := x2) (x3 := x3) (x4 := nI j) h2 h3 hv
        have eL : (sn_L υ 0 38).toInt = (sn_L ρ 0 38).toInt + w.2.toInt := by
          rw [k3, g3, hL2, Int64.toInt_add, zs_bmL ⟨by omega, by omega⟩]
        refine ⟨(υ, nI j + 1), head.trans e3, nI_1 j, k1, fun k => (k2 k).trans ((g2 k).trans (hw2 k)), ?_, fun a b => ?_, fun a b => ?_⟩
        · show 0 ≤ (sn_L υ 0 38).toInt ∧ (sn_L υ 0 38).toInt ≤ 100000000 * ((j + 1 : Nat) : Int)
          rw [eL]
          exact ⟨by omega, by omega⟩
        · show 1 ≤ (sn_L υ 0 38).toInt
          rw [eL]
          omega
        · show 1 ≤ (sn_L υ 0 38).toInt
          rw [eL]
          omega)
    (fun z hz => by
      obtain ⟨ρ, i⟩ := z
      obtain ⟨rfl, hM, hw, hA, hA1, hA2⟩ := hz
      refine ⟨ρ, ?_, hM, ?_⟩
      · unfold LX9_layPuffs_23 BX9_layPuffs_23
        show (if (2 : Int32) <<< (nI x &&& 31) ≤ nI N then _ else _) = _
        rw [zq_two x hx, hN, if_pos (Int32.le_refl _)]
      · by_cases o9 : o ≤ 9
        · have := hA1 o9 (by omega)
          intro z
          have z : (sn_L ρ 0 38).toInt = 0 := z
          have this : 1 ≤ (sn_L ρ 0 38).toInt := this
          omega
        · have := hA2 (by omega) rfl
          intro z
          have z : (sn_L ρ 0 38).toInt = 0 := z
          have this : 1 ≤ (sn_L ρ 0 38).toInt := this
          omega)
    (n := 5000) (by omega) (s := (σ7, (0 : Int32))) ⟨nI_0.symm, h7, h7w, by show 0 ≤ (sn_L σ7 0 38).toInt ∧ (sn_L σ7 0 38).toInt ≤ _; rw [h7L]; decide, fun _ b => absurd b (by omega), fun _ b => absurd b (by omega)⟩
  refine ⟨t, ?_, ht⟩
  show ((sn_it (LX9_layPuffs_23 (nI x) x2 x3) 5000 (sn_pL (sn_pL (sn_pL (sn_pL σ 0 38 0) 0 39 0) 0 40 0) 0 41 0, (0 : Int32))).bind _) = _
  rw [hs7, e]
  rfl
theorem zq_rem (x y : Int64) (hy : y.toInt ≠ 0) : (x - x / y * y).toInt = x.toInt.tmod y.toInt := by
  have h1 := zs_topL y
  have h2 : (x.toInt.tmod y.toInt).natAbs < y.toInt.natAbs := by
    rw [Int.natAbs_tmod]
    exact Nat.mod_lt _ (by omega)
  rw [Int64.toInt_sub, Int64.toInt_mul, Int64.toInt_div, Int.bmod_mul_bmod]
  rw [Int.sub_bmod_bmod, show x.toInt - x.toInt.tdiv y.toInt * y.toInt = x.toInt.tmod y.toInt by rw [Int.tmod_def, Int.mul_comm]]
  exact zs_bmL ⟨by omega, by omega⟩
theorem zq_gcd : ∀ (k n : Nat) (x y : Int64), x.toInt.natAbs + y.toInt.natAbs < 2 ^ k → y.toInt.natAbs < x.toInt.natAbs → 2 * k + 2 ≤ n → ∃ t, sn_it LX9_divisor_6 n (x, y) = some t ∧ t.toInt ≠ 0 := by
  have stop : ∀ (n : Nat) (x y : Int64), y.toInt.natAbs < x.toInt.natAbs → y.toInt = 0 → ∃ t, sn_it LX9_divisor_6 (n + 1) (x, y) = some t ∧ t.toInt ≠ 0 := by
    intro n x y h0 hy
    refine ⟨x, ?_, by omega⟩
    have e : y = 0 := Int64.toInt_inj.mp (by rw [hy]; decide)
    unfold sn_it LX9_divisor_6 BX9_divisor_6
    rw [if_pos (show lg_cmp (x, y).2 0 = 0 by show lg_cmp y 0 = 0; rw [e]; decide)]
  have go : ∀ (n : Nat) (x y : Int64), y.toInt ≠ 0 → sn_it LX9_divisor_6 (n + 1) (x, y) = sn_it LX9_divisor_6 n (y, x - x / y * y) := by
    intro n x y hy
    have c0 : ¬ lg_cmp y 0 = 0 := fun z => hy (by have := zs_lg_eq z; rw [this]; decide)
    have nz : (y != 0) = true := zs_nzqL (by rw [show (0 : Int64).toInt = 0 by decide]; exact hy)
    have e : LX9_divisor_6 (x, y) = some (.inl (y, x - x / y * y)) := by
      unfold LX9_divisor_6 BX9_divisor_6
      show (if lg_cmp y 0 = 0 then _ else sn_gd (y != 0) _) = _
      rw [if_neg c0, nz, gd_T]
      rfl
    rw [sn_it, e]
  intro k
  induction k with
  | zero => intro n x y h0 h1 _; omega
  | succ k ih =>
    intro n x y h0 h1 hn
    obtain ⟨n, rfl⟩ : ∃ m, n = m + 2 := ⟨n - 2, by omega⟩
    by_cases hy : y.toInt = 0
    · exact stop (n + 1) x y h1 hy
    · rw [go (n + 1) x y hy]
      have r1 := zq_rem x y hy
      generalize x - x / y * y = r at r1 ⊢
      have a1 : r.toInt.natAbs = x.toInt.natAbs % y.toInt.natAbs := by rw [r1, Int.natAbs_tmod]
      have a2 : r.toInt.natAbs < y.toInt.natAbs := by rw [a1]; exact Nat.mod_lt _ (by omega)
      have a3 : y.toInt.natAbs + r.toInt.natAbs ≤ x.toInt.natAbs := by
        have q1 := Nat.div_add_mod x.toInt.natAbs y.toInt.natAbs
        have q2 : 1 ≤ x.toInt.natAbs / y.toInt.natAbs := (Nat.le_div_iff_mul_le (by omega)).mpr (by omega)
        have q3 := Nat.mul_le_mul_left y.toInt.natAbs q2
        rw [← a1] at q1
        omega
      by_cases hr : r.toInt = 0
      · exact stop n y r a2 hr
      · rw [go n y r hr]
        have r2 := zq_rem y r hr
        generalize y - y / r * r = u at r2 ⊢
        have b1 : u.toInt.natAbs = y.toInt.natAbs % r.toInt.natAbs := by rw [r2, Int.natAbs_tmod]
        have b2 : u.toInt.natAbs < r.toInt.natAbs := by rw [b1]; exact Nat.mod_lt _ (by omega)
        have b3 : r.toInt.natAbs + u.toInt.natAbs ≤ y.toInt.natAbs := by
          have q1 := Nat.div_add_mod y.toInt.natAbs r.toInt.natAbs
          have q2 : 1 ≤ y.toInt.natAbs / r.toInt.natAbs := (Nat.le_div_iff_mul_le (by omega)).mpr (by omega)
          have q3 := Nat.mul_le_mul_left r.toInt.natAbs q2
          rw [← b1] at q1
          omega
        have hp : 2 ^ (k + 1) = 2 * 2 ^ k := by rw [Nat.pow_succ, Nat.mul_comm]
        exact ih n r u (by omega) b2 (by omega)
theorem zq_div {a b : Int64} (hb : b.toInt ≠ 0) : ∃ t, fX9_divisor a b = some t ∧ t.toInt ≠ 0 := by
  have key : ∃ t, sn_it LX9_divisor_6 5000 (a, b) = some t ∧ t.toInt ≠ 0 := by
    have c0 : ¬ lg_cmp b 0 = 0 := fun z => hb (by have := zs_lg_eq z; rw [this]; decide)
    have nz : (b != 0) = true := zs_nzqL (by rw [show (0 : Int64).toInt = 0 by decide]; exact hb)
    have e : LX9_divisor_6 (a, b) = some (.inl (b, a - a / b * b)) := by
      unfold LX9_divisor_6 BX9_divisor_6
      show (if lg_cmp b 0 = 0 then _ else sn_gd (b != 0) _) = _
      rw [if_neg c0, nz, gd_T]
      rfl
    have r1 := zq_rem a b hb
    have hbb := zs_topL b
    have e2 : sn_it LX9_divisor_6 (4999 + 1) (a, b) = sn_it LX9_divisor_6 4999 (b, a - a / b * b) := by rw [sn_it, e]
    show ∃ t, sn_it LX9_divisor_6 (4999 + 1) (a, b) = some t ∧ _
    rw [e2]
    generalize a - a / b * b = r at r1 ⊢
    have a2 : r.toInt.natAbs < b.toInt.natAbs := by rw [r1, Int.natAbs_tmod]; exact Nat.mod_lt _ (by omega)
    exact zq_gcd 65 4999 b r (by omega) a2 (by omega)
  obtain ⟨t, e, ht⟩ := key
  refine ⟨t, ?_, ht⟩
  unfold fX9_divisor
  rw [e]
  rfl
theorem zq_part {a b : Int64} (hb : b.toInt ≠ 0) (w : Int32) : ∃ t, fX9_part a b w = some t := by
  obtain ⟨t, e, ht⟩ := zq_div (a := a) hb
  have nz : (t != 0) = true := zs_nzqL (by rw [show (0 : Int64).toInt = 0 by decide]; exact ht)
  unfold fX9_part BX9_part_10
  rw [e]
  by_cases c : w = 0
  · rw [if_pos c]
    exact ⟨_, by show sn_gd (t != 0) _ = _; rw [nz, gd_T]⟩
  · rw [if_neg c]
    exact ⟨_, by show sn_gd (t != 0) _ = _; rw [nz, gd_T]⟩
theorem zq_chance {σ : sn_S} (h : zs_SB zs_tM σ) (a b c : Int32) : zs_ok (fX9_chance σ a b c) (fun r => zs_M σ r.2) := by
  unfold fX9_chance
  refine zs_bd_ (zc_6 (zs_rf (key := zs_kM) (kl := zs_lM) h) (zs_64 (zs_topI a))) (fun t ht => ?_)
  refine zs_ite (fun _ => zs_some (zs_rf h)) (fun c1 => ?_)
  have f1 := zs_or3 ht.2 (zs_I_eqn c1) (show zs_in (0 : Int32).toInt 0 0 by decide) (by decide)
  refine zs_bd_ (zc_1486 (zs_rf (key := zs_kM) (kl := zs_lM) h)) (fun u hu => ?_)
  refine zs_ite (fun _ => zs_some (zs_rf h)) (fun c2 => ?_)
  have f2 := zs_or3 hu.2 (zs_I_eqn c2) (show zs_in (0 : Int32).toInt 0 0 by decide) (by decide)
  obtain ⟨x, hx, ex⟩ := zs_val f2.1 (by decide)
  have hx : x < 8 := hx
  subst ex
  refine zs_bd_ (zq_lay (zs_rf h) hx (zs_64r f1) (show zs_in (0 : Int32).toInt 0 5 by decide)) (fun v hv => ?_)
  obtain ⟨w, ew⟩ := zq_part (a := sn_L v 0 39) hv.2 c
  rw [ew]
  exact zs_some hv.1
theorem zq_fair {σ : sn_S} (h : zs_SB zs_tM σ) (a b c : Int32) : zs_ok (fX9_fair σ a b c) (fun r => zs_M σ r.2) := by
  unfold fX9_fair
  refine zs_bd_ (zc_11 (zs_rf (key := zs_kM) (kl := zs_lM) h)) (fun t ht => ?_)
  refine zs_ite (fun _ => zs_some (zs_rf h)) (fun c1 => ?_)
  have f1 := zs_or3 ht.2 (zs_I_eqn c1) (show zs_in (0 : Int32).toInt 0 0 by decide) (by decide)
  refine zs_bd_ (zc_1486 (zs_rf (key := zs_kM) (kl := zs_lM) h)) (fun u hu => ?_)
  refine zs_ite (fun _ => zs_some (zs_rf h)) (fun c2 => ?_)
  have f2 := zs_or3 hu.2 (zs_I_eqn c2) (show zs_in (0 : Int32).toInt 0 0 by decide) (by decide)
  obtain ⟨x, hx, ex⟩ := zs_val f2.1 (by decide)
  have hx : x < 8 := hx
  subst ex
  refine zs_bd_ (zq_lay (zs_rf h) hx (show zs_in (0 : Int32).toInt 0 5 by decide) f1) (fun v hv => ?_)
  obtain ⟨w, ew⟩ := zq_part (a := sn_L v 0 40) hv.2 c
  rw [ew]
  exact zs_some hv.1
theorem zq_risk {σ : sn_S} (h : zs_SB zs_tM σ) (b c : Int32) : zs_ok (fX9_risk σ b c) (fun r => zs_M σ r.2) := by
  unfold fX9_risk
  refine zs_bd_ (zc_1486 (zs_rf (key := zs_kM) (kl := zs_lM) h)) (fun u hu => ?_)
  refine zs_ite (fun _ => zs_some (zs_rf h)) (fun c2 => ?_)
  have f2 := zs_or3 hu.2 (zs_I_eqn c2) (show zs_in (0 : Int32).toInt 0 0 by decide) (by decide)
  obtain ⟨x, hx, ex⟩ := zs_val f2.1 (by decide)
  have hx : x < 8 := hx
  subst ex
  refine zs_bd_ (zq_lay (zs_rf h) hx (show zs_in (0 : Int32).toInt 0 5 by decide) (show zs_in (0 : Int32).toInt 0 5 by decide)) (fun v hv => ?_)
  obtain ⟨w, ew⟩ := zq_part (a := sn_L v 0 41) hv.2 c
  rw [ew]
  exact zs_some hv.1
