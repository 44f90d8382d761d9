/-! the houses alike -/
def zh_J (σ τ : sn_S) : Prop := rr_H 1 σ (τ.1 1) ∧ ∀ j, j < 3 → rr_H (73 + 7 * j) σ (fun k => τ.1 2 (119 * j + k))
def zJ (σ τ : sn_S) : Prop := zj_J σ τ ∧ zh_J σ τ
def zh_cb (h : Nat) (σ : sn_S) : Prop := (0 ≤ (σ.1 (h + 1) 5).toInt ∧ (σ.1 (h + 1) 5).toInt ≤ 6) ∧ (0 ≤ (σ.1 (h + 1) 6).toInt ∧ (σ.1 (h + 1) 6).toInt ≤ 5) ∧ (0 ≤ (σ.1 (h + 1) 7).toInt ∧ (σ.1 (h + 1) 7).toInt ≤ 8) ∧ (0 ≤ (σ.1 (h + 1) 8).toInt ∧ (σ.1 (h + 1) 8).toInt ≤ 6) ∧ 0 ≤ (σ.1 (h + 1) 9).toInt ∧ (σ.1 (h + 1) 9).toInt ≤ 40
theorem zh_cbS {σ : sn_S} (hS : zs_SB zs_tC σ) {h : Nat} (hh : h = 1 ∨ h = 73 ∨ h = 80 ∨ h = 87) : zh_cb h σ := by
  have key : ∀ k, (zs_cnt k).1 ≤ (σ.1 (h + 1) k).toInt ∧ (σ.1 (h + 1) k).toInt ≤ (zs_cnt k).2 := fun k => by
    have := hS.1 (h + 1) k
    rw [(zh_tab hh k).2.1] at this
    exact this
  exact ⟨key 5, key 6, key 7, key 8, key 9⟩
theorem rr_Hc {h : Nat} {σ σ' : sn_S} {w w' : Nat → Int32} (hb : zh_cb h σ) (hs : ∀ q, h + 1 ≤ q → q ≤ h + 6 → σ'.1 q = σ.1 q) (hw : ∀ k, k < 119 → w' k = w k) (H : rr_H h σ w) : rr_H h σ' w' := by
  obtain ⟨b5, b6, b7, b8, b9⟩ := hb
  obtain ⟨h0, h1, h2, h3, h4, h5⟩ := H
  unfold rr_H
  rw [hs (h + 1) (by omega) (by omega), hs (h + 2) (by omega) (by omega), hs (h + 3) (by omega) (by omega), hs (h + 4) (by omega) (by omega), hs (h + 5) (by omega) (by omega), hs (h + 6) (by omega) (by omega)]
  exact ⟨fun k hk => by rw [hw k (by omega)]; exact h0 k hk, fun i hi => by rw [hw _ (by omega)]; exact h1 i hi, fun i hi => by rw [hw _ (by omega)]; exact h2 i hi, fun i hi => by rw [hw _ (by omega)]; exact h3 i hi, fun i hi => by rw [hw _ (by omega)]; exact h4 i hi, fun i hi => by rw [hw _ (by omega)]; exact h5 i hi⟩
theorem zh_3 {j : Nat} (hj : j < 3) : 73 + 7 * j = 1 ∨ 73 + 7 * j = 73 ∨ 73 + 7 * j = 80 ∨ 73 + 7 * j = 87 := by omega
theorem zh_Jc {σ σ' τ τ' : sn_S} (hS : zs_SB zs_tC σ) (hC : ∀ q, (2 ≤ q ∧ q ≤ 7) ∨ (73 ≤ q ∧ q ≤ 93) → σ'.1 q = σ.1 q) (m1 : τ'.1 1 = τ.1 1) (m2 : τ'.1 2 = τ.1 2) (h : zh_J σ τ) : zh_J σ' τ' :=
  ⟨rr_Hc (zh_cbS hS (Or.inl rfl)) (fun q h1 h2 => hC q (Or.inl ⟨h1, h2⟩)) (fun k _ => by rw [m1]) h.1, fun j hj => rr_Hc (zh_cbS hS (zh_3 hj)) (fun q h1 h2 => hC q (Or.inr ⟨by omega, by omega⟩)) (fun k _ => by rw [m2]) (h.2 j hj)⟩
theorem zs_kCh {q k : Nat} (h : (2 ≤ q ∧ q ≤ 7) ∨ (73 ≤ q ∧ q ≤ 93)) : zs_kB q k = true := by
  have : q = 2 ∨ q = 3 ∨ q = 4 ∨ q = 5 ∨ q = 6 ∨ q = 7 ∨ (73 ≤ q ∧ q ≤ 93) := by omega
  rcases this with e | e | e | e | e | e | e
  · subst e; rfl
  · subst e; rfl
  · subst e; rfl
  · subst e; rfl
  · subst e; rfl
  · subst e; rfl
  · have : ∀ q, q < 94 → 73 ≤ q → (zs_kB q 0 = true ∧ ∀ k, zs_kB q k = zs_kB q 0) := by
      intro q h1 h2
      have : q = 73 ∨ q = 74 ∨ q = 75 ∨ q = 76 ∨ q = 77 ∨ q = 78 ∨ q = 79 ∨ q = 80 ∨ q = 81 ∨ q = 82 ∨ q = 83 ∨ q = 84 ∨ q = 85 ∨ q = 86 ∨ q = 87 ∨ q = 88 ∨ q = 89 ∨ q = 90 ∨ q = 91 ∨ q = 92 ∨ q = 93 := by omega
      rcases this with e | e | e | e | e | e | e | e | e | e | e | e | e | e | e | e | e | e | e | e | e <;> subst e <;> exact ⟨rfl, fun _ => rfl⟩
    have x := this q (by omega) e.1
    rw [x.2 k]
    exact x.1
theorem zJ_keep {σ σ' τ τ' : sn_S} (hC : zs_B σ σ') (hM : zs_M τ τ') (h : zJ σ τ) : zJ σ' τ' := ⟨zj_keep (zs_b0 hC) (zs_m0 hM) h.1, zh_Jc h.1.1 (fun q hq => funext fun k => hC.2.1 q k (zs_kCh hq)) (funext fun k => hM.2.1 1 k rfl) (funext fun k => hM.2.1 2 k rfl) h.2⟩
/-! who, which, how many -/
theorem zq_guard {c d a : Int32} {m : Nat} (e : c = d) (hc : 0 ≤ c.toInt ∧ c.toInt ≤ (m : Int)) (hm : m < 1000) {f g : Option Int32} (ef : f = some (if 0 ≤ a ∧ a < c then 1 else 0)) (eg : 0 ≤ d → g = some (if 0 ≤ a ∧ a < d then 1 else 0)) : ∃ v : Int32, f = some v ∧ g = some v ∧ (v ≠ 0 → ∃ p : Nat, a = nI p ∧ (p : Int) < c.toInt) := by
  subst e
  have h0 : (0 : Int32) ≤ c := Int32.le_iff_toInt_le.mpr (by rw [show (0 : Int32).toInt = 0 by decide]; exact hc.1)
  refine ⟨_, ef, eg h0, fun hv => ?_⟩
  by_cases x : 0 ≤ a ∧ a < c
  · have c1 := zs_I_le x.1
    have c2 := zs_I_lt x.2
    rw [show (0 : Int32).toInt = 0 by decide] at c1
    obtain ⟨p, hp, ep⟩ := zs_val (x := a) (a := 0) (b := (m : Int)) ⟨by omega, by omega⟩ ⟨by decide, by omega⟩
    refine ⟨p, ep, ?_⟩
    rw [ep, nI_toInt (by omega)] at c2
    exact c2
  · rw [if_neg x] at hv
    exact absurd rfl hv
theorem zq_person {σ τ : sn_S} (h : zJ σ τ) (a : Int32) : ∃ v : Int32, fX8_isPerson σ a = some v ∧ fX9_isPerson τ a.toInt64 = some v ∧ (v ≠ 0 → ∃ p : Nat, a = nI p ∧ (p : Int) < (σ.1 2 5).toInt) := zq_guard (m := 6) (h.2.1.1 5 (by decide)) (zh_cbS h.1.1 (Or.inl rfl)).1 (by decide) (c_isPerson σ a) (fun h5 => m_isPerson h5 a)
theorem zq_policy {σ τ : sn_S} (h : zJ σ τ) (a : Int32) : ∃ v : Int32, fX8_isPolicy σ a = some v ∧ fX9_isPolicy τ a = some v ∧ (v ≠ 0 → ∃ p : Nat, a = nI p ∧ (p : Int) < (σ.1 2 8).toInt) := zq_guard (m := 6) (h.2.1.1 8 (by decide)) (zh_cbS h.1.1 (Or.inl rfl)).2.2.2.1 (by decide) (c_isPolicy σ a) (fun h5 => m_isPolicy h5 a)
theorem zq_go {v : Int32} {r0 : Int32} {X Y : Option Int32} (hX : v ≠ 0 → ∃ r, X = some r ∧ Y = some r) : ∃ r, ((some v).bind fun t => if t = 0 then some r0 else X) = some r ∧ ((some v).bind fun t => if t = 0 then some r0 else Y) = some r := by
  by_cases c : v = 0
  · subst c
    exact ⟨r0, rfl, rfl⟩
  · obtain ⟨r, x, y⟩ := hX c
    refine ⟨r, ?_, ?_⟩
    · show (if v = 0 then some r0 else X) = _
      rw [if_neg c, x]
    · show (if v = 0 then some r0 else Y) = _
      rw [if_neg c, y]
theorem zJ_4 : ∀ (σ τ : sn_S) (a b : Int32), zJ σ τ → ∃ r, fX8_nose σ a b = some r ∧ fX9_nose τ a b = some r := by
  intro σ τ a b h
  obtain ⟨v, e1, e2, hv⟩ := zq_person h a
  have bb := (zh_cbS h.1.1 (Or.inl rfl)).1
  have bb : 0 ≤ (σ.1 2 5).toInt ∧ (σ.1 2 5).toInt ≤ 6 := bb
  unfold fX8_nose fX9_nose
  rw [e1, e2]
  have e9 : fX9_in b.toInt64 (0 : Int64) (1 : Int64) = some (if (0 : Int32) ≤ b ∧ b ≤ (1 : Int32) then 1 else 0) := in_eq32 b 0 1
  refine zq_go (fun c => ?_)
  obtain ⟨p, ep, hp⟩ := hv c
  subst ep
  rw [e9]
  by_cases c0 : b < 0
  · rw [if_pos c0, if_neg (show ¬ ((0 : Int32) ≤ b ∧ b ≤ 1) from fun x => absurd c0 (Int32.not_lt.mpr x.1)), bd_t0]
    exact ⟨-2, rfl, rfl⟩
  · rw [if_neg c0]
    by_cases c1 : b ≤ 1
    · rw [if_pos c1, if_pos (show (0 : Int32) ≤ b ∧ b ≤ 1 from ⟨Int32.not_lt.mp c0, c1⟩), bd_t1]
      have d0 := zs_I_ltn c0
      have d1 := zs_I_le c1
      rw [show (0 : Int32).toInt = 0 by decide] at d0
      rw [show (1 : Int32).toInt = 1 by decide] at d1
      obtain ⟨t, ht, et⟩ := zs_val (x := b) (a := 0) (b := 1) ⟨d0, d1⟩ (by decide)
      subst et
      have ht : t < 2 := ht
      have i1 : ((2 : Int32) * nI p) + nI t = nI (2 * p + t) := by rw [zk_2n, nI_add]
      have i2 : ((11 : Int32) + ((2 : Int32) * nI p)) + nI t = nI (11 + (2 * p + t)) := by
        rw [zk_2n, show (11 : Int32) + nI (2 * p) = nI (11 + 2 * p) from nI_add 11 (2 * p), nI_add, Nat.add_assoc]
      rw [i1, i2, sn_in_nI (by omega) (by decide), gd_T, sn_in_nI (by omega) (by decide), gd_T, nI_clamp (by omega), nI_clamp (by omega)]
      refine ⟨_, rfl, ?_⟩
      have := h.2.1.2.1 (2 * p + t) (by show ((2 * p + t : Nat) : Int) < 2 * (σ.1 2 5).toInt; omega)
      show some (τ.1 1 (11 + (2 * p + t))) = some (σ.1 3 (2 * p + t))
      rw [← this]
    · rw [if_neg c1, if_neg (show ¬ ((0 : Int32) ≤ b ∧ b ≤ 1) from fun x => c1 x.2), bd_t0]
      exact ⟨-2, rfl, rfl⟩
theorem zJ_5 : ∀ (σ τ : sn_S) (a b : Int32), zJ σ τ → ∃ r, fX8_policy σ a b = some r ∧ fX9_policy τ a b = some r := by
  intro σ τ a b h
  obtain ⟨v, e1, e2, hv⟩ := zq_policy h a
  have bb := (zh_cbS h.1.1 (Or.inl rfl)).2.2.2.1
  have bb : 0 ≤ (σ.1 2 8).toInt ∧ (σ.1 2 8).toInt ≤ 6 := bb
  unfold fX8_policy fX9_policy
  rw [e1, e2]
  have e9 : fX9_in b.toInt64 (0 : Int64) (4 : Int64) = some (if (0 : Int32) ≤ b ∧ b ≤ (4 : Int32) then 1 else 0) := in_eq32 b 0 4
  refine zq_go (fun c => ?_)
  obtain ⟨p, ep, hp⟩ := hv c
  subst ep
  rw [e9]
  by_cases c0 : b < 0
  · rw [if_pos c0, if_neg (show ¬ ((0 : Int32) ≤ b ∧ b ≤ 4) from fun x => absurd c0 (Int32.not_lt.mpr x.1)), bd_t0]
    exact ⟨-2, rfl, rfl⟩
  · rw [if_neg c0]
    have d0 := zs_I_ltn c0
    rw [show (0 : Int32).toInt = 0 by decide] at d0
    by_cases c1 : b < 5
    · have d1 := zs_I_lt c1
      rw [show (5 : Int32).toInt = 5 by decide] at d1
      rw [if_pos c1, if_pos (show (0 : Int32) ≤ b ∧ b ≤ 4 from ⟨Int32.not_lt.mp c0, Int32.le_iff_toInt_le.mpr (by rw [show (4 : Int32).toInt = 4 by decide]; omega)⟩), bd_t1]
      obtain ⟨t, ht, et⟩ := zs_val (x := b) (a := 0) (b := 4) ⟨d0, by omega⟩ (by decide)
      subst et
      have ht : t < 5 := ht
      have i1 : ((5 : Int32) * nI p) + nI t = nI (5 * p + t) := by rw [zk_5n, nI_add]
      have i2 : ((49 : Int32) + ((5 : Int32) * nI p)) + nI t = nI (49 + (5 * p + t)) := by
        rw [zk_5n, show (49 : Int32) + nI (5 * p) = nI (49 + 5 * p) from nI_add 49 (5 * p), nI_add, Nat.add_assoc]
      unfold fX2_ofPolicy fX9_of
      rw [i1, i2, sn_in_nI (by omega) (by decide), gd_T, sn_in_nI (by omega) (by decide), gd_T, nI_clamp (by omega), nI_clamp (by omega)]
      refine ⟨_, rfl, ?_⟩
      have := h.2.1.2.2.2.2.1 (5 * p + t) (by show ((5 * p + t : Nat) : Int) < 5 * (σ.1 2 8).toInt; omega)
      show some (τ.1 1 (49 + (5 * p + t))) = some (σ.1 6 (5 * p + t))
      rw [← this]
    · have d1 := zs_I_ltn c1
      rw [show (5 : Int32).toInt = 5 by decide] at d1
      rw [if_neg c1, if_neg (show ¬ ((0 : Int32) ≤ b ∧ b ≤ 4) from fun x => by have := zs_I_le x.2; rw [show (4 : Int32).toInt = 4 by decide] at this; omega), bd_t0]
      exact ⟨-2, rfl, rfl⟩
