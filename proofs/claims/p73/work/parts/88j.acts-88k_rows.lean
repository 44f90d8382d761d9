section
/-! acts, both sides -/
theorem zh_key {σ : sn_S} (hS : zs_SB zs_tC σ) (k : Nat) : (zs_cnt k).1 ≤ (σ.1 2 k).toInt ∧ (σ.1 2 k).toInt ≤ (zs_cnt k).2 := by
  have := hS.1 2 k
  rw [show zs_tC 2 k = zs_cnt k from (zh_tab (a := 1) (Or.inl rfl) k).2.1] at this
  exact this
theorem zq_minute {σ τ : sn_S} (h : zJ σ τ) (a : Int32) : ∃ v : Int32, fX8_isMinute σ a = some v ∧ fX9_isMinute τ a.toInt64 = some v ∧ (v ≠ 0 → ∃ p : Nat, a = nI p ∧ (p : Int) < (σ.1 2 0).toInt) := zq_guard (m := 30) (h.2.1.1 0 (by decide)) (zh_key h.1.1 0) (by decide) (c_isMinute σ a) (fun h5 => m_isMinute h5 a)
theorem zq_house {σ τ : sn_S} (h : zJ σ τ) : ∃ v : Int32, fX8_isHouse σ = some v ∧ fX9_isHouse τ = some v := by
  have e : sn_I τ 1 (10 : Int32).toNatClampNeg = sn_I σ (1 + 1) (10 : Int32).toNatClampNeg := (h.2.1.1 10 (by decide)).symm
  unfold fX8_isHouse fX9_isHouse
  rw [e]
  by_cases c : sn_I σ (1 + 1) (10 : Int32).toNatClampNeg ≤ 0
  · rw [if_pos c]
    exact ⟨0, rfl, rfl⟩
  · rw [if_neg c]
    exact ⟨1, rfl, rfl⟩
theorem zq_acts {σ τ : sn_S} (h : zJ σ τ) : ∃ n : Nat, n ≤ 40 ∧ σ.1 2 9 = nI n ∧ τ.1 1 9 = nI n := by
  obtain ⟨n, h1, h2⟩ := zs_val (x := σ.1 2 9) (a := 0) (b := 40) (zh_key h.1.1 9) (by decide)
  have h1 : n < 41 := h1
  exact ⟨n, by omega, h2, (h.2.1.1 9 (by decide)).symm.trans h2⟩
theorem ac_gd {α : Type} {g : Bool} {x y : α} (h : sn_gd g (some x) = some y) : y = x := by
  exact (Option.some.inj (sn_gdE h).2).symm
theorem ac_pair {x : Option Int32} {u : sn_S} {y : Int32 × sn_S} (h : (x.bind fun t => some (t, u)) = some y) : y.2 = u := by
  cases x with
  | none => cases h
  | some r => cases h; rfl
theorem ac_pairG {g : Bool} {x : Option Int32} {u : sn_S} {y : Int32 × sn_S} (h : sn_gd g (x.bind fun t => some (t, u)) = some y) : y.2 = u := by
  exact ac_pair (sn_gdE h).2
theorem ac_ite {g : Bool} {x : Option Int32} {u : sn_S} {a b : Int32} {y : Int32 × sn_S} (h : sn_gd g (x.bind fun t => if t = 0 then some (a, u) else some (b, u)) = some y) : y.2 = u := by
  obtain ⟨r, _, h2⟩ := sn_bd (sn_gdE h).2
  by_cases c : r = 0
  · rw [if_pos c] at h2
    cases h2
    rfl
  · rw [if_neg c] at h2
    cases h2
    rfl
def ac_w (σ : sn_S) (n : Nat) (kind p m : Int32) : sn_S := sn_pI (sn_pI (sn_pI (sn_pI σ 7 (3 * n) kind) 7 (3 * n + 1) p) 7 (3 * n + 2) m) 2 9 (nI (n + 1))
def am_w (τ : sn_S) (n : Nat) (x : Int32) : sn_S := sn_pI (sn_pI τ 1 (79 + n) x) 1 9 (nI (n + 1))
theorem ac_40 {n : Nat} (h : n < 40) : nI n < (40 : Int32) := Int32.lt_iff_toInt_lt.mpr (by
  rw [nI_toInt (by omega), show (40 : Int32).toInt = 40 by decide]
  omega)
theorem rc_act {σ : sn_S} {n : Nat} (hn : σ.1 2 9 = nI n) (h : n < 40) (x1 x2 x3 : Int32) : fX2_act σ 1 x1 x2 x3 = some (1, ac_w σ n x1 x2 x3) := by
  have e9 : sn_I σ (1 + 1) (9 : Int32).toNatClampNeg = nI n := hn
  have i0 : (3 : Int32) * nI n = nI (3 * n) := nI_mul 3 n
  have i1 : nI (3 * n) + (1 : Int32) = nI (3 * n + 1) := nI_1 _
  have i2 : nI (3 * n) + (2 : Int32) = nI (3 * n + 2) := nI_add _ 2
  have i3 : nI n + (1 : Int32) = nI (n + 1) := nI_1 _
  have g9 : sn_in (9 : Int32) 11 = true := rfl
  have g0 : sn_in (nI (3 * n)) 120 = true := sn_in_nI (by omega) (by decide)
  have g1 : sn_in (nI (3 * n + 1)) 120 = true := sn_in_nI (by omega) (by decide)
  have g2 : sn_in (nI (3 * n + 2)) 120 = true := sn_in_nI (by omega) (by decide)
  unfold fX2_act
  rw [g9, gd_T, rr_lt, e9, if_pos (ac_40 h), i0, i1, i2, i3, g0, gd_T, rr_lt, g1, gd_T, rr_lt, g2, gd_T, rr_lt, gd_T, rr_lt, nI_clamp (show 3 * n < 2 ^ 31 by omega), nI_clamp (show 3 * n + 1 < 2 ^ 31 by omega), nI_clamp (show 3 * n + 2 < 2 ^ 31 by omega)]
  rfl
theorem rc_act0 {σ : sn_S} {n : Nat} (hn : σ.1 2 9 = nI n) (h : ¬ n < 40) (h2 : n ≤ 40) (x1 x2 x3 : Int32) : fX2_act σ 1 x1 x2 x3 = some (0, σ) := by
  have e9 : sn_I σ (1 + 1) (9 : Int32).toNatClampNeg = nI n := hn
  have g9 : sn_in (9 : Int32) 11 = true := rfl
  have en : n = 40 := by omega
  subst en
  unfold fX2_act
  rw [g9, gd_T, rr_lt, e9, if_neg (show ¬ nI 40 < (40 : Int32) by decide)]
  rfl
theorem rm_act {τ : sn_S} {n : Nat} (hn : τ.1 1 9 = nI n) (h : n < 40) (x : Int32) : fX9_keepAct τ x = (fX9_asksHouse (am_w τ n x)).bind fun t => some (0, t.2) := by
  have e9 : sn_I τ 1 (9 : Int32).toNatClampNeg = nI n := hn
  have i0 : (79 : Int32) + nI n = nI (79 + n) := nI_add 79 n
  have g9 : sn_in (9 : Int32) 119 = true := rfl
  have g0 : sn_in (nI (79 + n)) 119 = true := sn_in_nI (by omega) (by decide)
  have e1 : sn_I (sn_pI τ 1 (79 + n) x) 1 (9 : Int32).toNatClampNeg + (1 : Int32) = nI (n + 1) := by
    show (sn_pI τ 1 (79 + n) x).1 1 9 + (1 : Int32) = _
    rw [pI_slot (by omega), hn, nI_1]
  have c : ¬ nI n = (40 : Int32) := fun z => by
    have := (nI_eq (a := n) (b := 40) (by omega) (by decide)).mp z
    omega
  unfold fX9_keepAct
  rw [g9, gd_T, e9, if_neg c, gd_T, i0, g0, gd_T, rr_lt, gd_T, gd_T, rr_lt, nI_clamp (show 79 + n < 2 ^ 31 by omega), e1]
  rfl
theorem rm_act0 {τ : sn_S} {n : Nat} (hn : τ.1 1 9 = nI n) (h : ¬ n < 40) (h2 : n ≤ 40) (x : Int32) : fX9_keepAct τ x = some (-5, τ) := by
  have e9 : sn_I τ 1 (9 : Int32).toNatClampNeg = nI n := hn
  have g9 : sn_in (9 : Int32) 119 = true := rfl
  have en : n = 40 := by omega
  subst en
  unfold fX9_keepAct
  rw [g9, gd_T, e9, if_pos (show nI 40 = (40 : Int32) by decide)]
theorem am_row {n : Nat} (h : n < 40) : zs_tM 1 (79 + n) = (0, 1199) := by
  have : ∀ n, n < 40 → zs_tM 1 (79 + n) = (0, 1199) := by decide +kernel
  exact this n h
theorem am_M {τ : sn_S} {n : Nat} {x : Int32} (hM : zs_SB zs_tM τ) (h : n < 40) (hx : 0 ≤ x.toInt ∧ x.toInt ≤ 1199) : zs_M0 τ (am_w τ n x) := by
  refine ⟨?_, fun q k hk => ?_, fun q _ => rfl⟩
  · unfold am_w
    refine zs_sbw (zs_sbw hM ?_) ?_
    · rw [am_row h]
      exact hx
    · rw [show zs_tM 1 9 = (0, 40) from rfl, nI_toInt (by omega)]
      exact ⟨by omega, by omega⟩
  · have q1 : q ≠ 1 := fun e => by
      subst e
      exact absurd (show false = true from hk) (by decide)
    unfold am_w
    rw [pI_ne q1, pI_ne q1]
theorem zJ_act {σ τ : sn_S} {n : Nat} (h : zJ σ τ) (hn : σ.1 2 9 = nI n) (hlt : n < 40) {kind p m x : Int32} (hC : zs_C0 σ (ac_w σ n kind p m)) (hM : zs_M0 τ (am_w τ n x)) (hx : x = ((200 : Int32) * p + (2 : Int32) * m) + kind) : zJ (ac_w σ n kind p m) (am_w τ n x) := by
  have c2 : ∀ k, k ≠ 9 → (ac_w σ n kind p m).1 2 k = σ.1 2 k := fun k hk => by
    unfold ac_w
    rw [pI_slot hk, pI_ne (by decide), pI_ne (by decide), pI_ne (by decide)]
  have c9 : (ac_w σ n kind p m).1 2 9 = nI (n + 1) := by
    unfold ac_w
    rw [pI_self]
  have cq : ∀ q, q ≠ 2 → q ≠ 7 → (ac_w σ n kind p m).1 q = σ.1 q := fun q h2 h7 => by
    unfold ac_w
    rw [pI_ne h2, pI_ne h7, pI_ne h7, pI_ne h7]
  have c7 : ∀ i, i < 3 * n → (ac_w σ n kind p m).1 7 i = σ.1 7 i := fun i hi => by
    unfold ac_w
    rw [pI_ne (by decide), pI_slot (by omega), pI_slot (by omega), pI_slot (by omega)]
  have d0 : (ac_w σ n kind p m).1 7 (3 * n) = kind := by
    unfold ac_w
    rw [pI_ne (by decide), pI_slot (by omega), pI_slot (by omega), pI_self]
  have d1 : (ac_w σ n kind p m).1 7 (3 * n + 1) = p := by
    unfold ac_w
    rw [pI_ne (by decide), pI_slot (by omega), pI_self]
  have d2 : (ac_w σ n kind p m).1 7 (3 * n + 2) = m := by
    unfold ac_w
    rw [pI_ne (by decide), pI_self]
  have m1 : ∀ k, k ≠ 9 → k ≠ 79 + n → (am_w τ n x).1 1 k = τ.1 1 k := fun k h1 h2 => by
    unfold am_w
    rw [pI_slot h1, pI_slot h2]
  have m9 : (am_w τ n x).1 1 9 = nI (n + 1) := by
    unfold am_w
    rw [pI_self]
  have mn : (am_w τ n x).1 1 (79 + n) = x := by
    unfold am_w
    rw [pI_slot (by omega), pI_self]
  have m2 : (am_w τ n x).1 2 = τ.1 2 := by
    unfold am_w
    rw [pI_ne (by decide), pI_ne (by decide)]
  obtain ⟨b5, b6, b7, b8, b9⟩ := zh_cbS h.1.1 (h := 1) (Or.inl rfl)
  obtain ⟨h0, h1, h2, h3, h4, h5⟩ := h.2.1
  refine ⟨zj_keep hC hM h.1, ⟨fun k hk => ?_, fun i hi => ?_, fun i hi => ?_, fun i hi => ?_, fun i hi => ?_, fun i hi => ?_⟩, fun j hj => rr_Hc (zh_cbS h.1.1 (zh_3 hj)) (fun q g1 g2 => cq q (by omega) (by omega)) (fun k _ => by rw [m2]) (h.2.2 j hj)⟩
  · show (ac_w σ n kind p m).1 2 k = _
    by_cases e : k = 9
    · subst e
      rw [c9, m9]
    · rw [c2 k e, m1 k e (by omega)]
      exact h0 k hk
  · rw [show (ac_w σ n kind p m).1 (1 + 1) 5 = σ.1 (1 + 1) 5 from c2 5 (by decide)] at hi
    rw [cq _ (by decide) (by decide), m1 _ (by omega) (by omega)]
    exact h1 i hi
  · rw [show (ac_w σ n kind p m).1 (1 + 1) 6 = σ.1 (1 + 1) 6 from c2 6 (by decide)] at hi
    rw [cq _ (by decide) (by decide), m1 _ (by omega) (by omega)]
    exact h2 i hi
  · rw [show (ac_w σ n kind p m).1 (1 + 1) 7 = σ.1 (1 + 1) 7 from c2 7 (by decide)] at hi
    rw [cq _ (by decide) (by decide), m1 _ (by omega) (by omega)]
    exact h3 i hi
  · rw [show (ac_w σ n kind p m).1 (1 + 1) 8 = σ.1 (1 + 1) 8 from c2 8 (by decide)] at hi
    rw [cq _ (by decide) (by decide), m1 _ (by omega) (by omega)]
    exact h4 i hi
  · rw [show (ac_w σ n kind p m).1 (1 + 1) 9 = nI (n + 1) from c9, nI_toInt (by omega)] at hi
    show (am_w τ n x).1 1 (79 + i) = ((200 : Int32) * (ac_w σ n kind p m).1 7 (3 * i + 1) + (2 : Int32) * (ac_w σ n kind p m).1 7 (3 * i + 2)) + (ac_w σ n kind p m).1 7 (3 * i)
    by_cases e : i = n
    · subst e
      rw [mn, d0, d1, d2]
      exact hx
    · rw [m1 _ (by omega) (by omega), c7 (3 * i + 1) (by omega), c7 (3 * i + 2) (by omega), c7 (3 * i) (by omega)]
      exact h5 i (by
        show (i : Int) < (σ.1 2 9).toInt
        rw [hn, nI_toInt (by omega)]
        omega)
theorem ac_x {p m k : Nat} : ((200 : Int32) * nI p + (2 : Int32) * nI m) + nI k = nI (200 * p + 2 * m + k) := by
  rw [show (200 : Int32) * nI p = nI (200 * p) from nI_mul 200 p, zk_2n, nI_add, nI_add]
/-- one act more, on both sides, and the day lived anew -/
theorem zJ_more {σ τ : sn_S} (h : zJ σ τ) {p m n k : Nat} (hp : p < 6) (hm : m < 30) (hk : k < 2) (hn : σ.1 2 9 = nI n) (hn2 : τ.1 1 9 = nI n) (hlt : n < 40) (hA : ∃ r, fX2_act σ 1 (nI k) (nI p) (nI m) = some r ∧ zs_A σ r.2) : ∃ u t, fX2_act σ 1 (nI k) (nI p) (nI m) = some (1, ac_w σ n (nI k) (nI p) (nI m)) ∧ fX8_liveAnew (ac_w σ n (nI k) (nI p) (nI m)) = some u ∧ fX9_keepAct τ (((200 : Int32) * nI p + (2 : Int32) * nI m) + nI k) = some (0, t) ∧ zJ u t ∧ u.1 2 9 = nI (n + 1) ∧ t.1 1 9 = nI (n + 1) := by
  have ea := rc_act hn hlt (nI k) (nI p) (nI m)
  obtain ⟨r, er, hA⟩ := hA
  rw [ea] at er
  cases er
  have J1 := zJ_act h hn hlt (kind := nI k) (p := nI p) (m := nI m) (zs_a0 hA) (am_M (x := ((200 : Int32) * nI p + (2 : Int32) * nI m) + nI k) h.1.2.1 hlt (by rw [ac_x, nI_toInt (by omega)]; exact ⟨by omega, by omega⟩)) rfl
  obtain ⟨u, eu, hu⟩ := zc_1529 (zs_rf (key := zs_kC) (kl := zs_lC) J1.1.1)
  obtain ⟨t, et, ht⟩ := zc_92 (zs_rf (key := zs_kM) (kl := zs_lM) J1.1.2.1)
  have m9 : (am_w τ n (((200 : Int32) * nI p + (2 : Int32) * nI m) + nI k)).1 1 9 = nI (n + 1) := by
    unfold am_w
    rw [pI_self]
  have c9 : (ac_w σ n (nI k) (nI p) (nI m)).1 2 9 = nI (n + 1) := by
    unfold ac_w
    rw [pI_self]
  refine ⟨u, t.2, ea, eu, ?_, zJ_keep hu ht.2 J1, (hu.2.1 2 9 rfl).trans c9, (ht.2.2.1 1 9 rfl).trans m9⟩
  rw [rm_act hn2 hlt, et]
  rfl
theorem zJ_59 : ∀ (σ τ : sn_S) (a b : Int32), zJ σ τ → ∃ r r2 σ1 τ1, fX8_stifle σ a b = some (r, σ1) ∧ fX9_stifle τ a b = some (r2, τ1) ∧ zJ σ1 τ1 := by
  intro σ τ a b h
  obtain ⟨v, e1, e2, hv⟩ := zq_person h a
  obtain ⟨v2, e3, e4, hv2⟩ := zq_minute h b
  obtain ⟨x, ex, _⟩ := zA_153 (zs_rf (key := zs_kA) (kl := zs_lC) h.1.1) (x1 := a) (x2 := b)
  obtain ⟨y, ey, _⟩ := zA_156 (zs_rf (key := zs_kM0) (kl := zs_lM) h.1.2.1) (x1 := a) (x2 := b)
  by_cases c : v = 0
  · refine ⟨-2, -2, σ, τ, ?_, ?_, h⟩
    · unfold fX8_stifle
      rw [e1, rr_bs, if_pos c]
    · unfold fX9_stifle
      rw [e2, rr_bs, if_pos c]
  by_cases c2 : v2 = 0
  · refine ⟨-2, -2, σ, τ, ?_, ?_, h⟩
    · unfold fX8_stifle
      rw [e1, rr_bs, if_neg c, e3, rr_bs, if_pos c2]
    · unfold fX9_stifle
      rw [e2, rr_bs, if_neg c, e4, rr_bs, if_pos c2]
  obtain ⟨p, ep, hp⟩ := hv c
  obtain ⟨m, em, hm⟩ := hv2 c2
  obtain ⟨n, hn40, hn, hn2⟩ := zq_acts h
  have bp : p < 6 := by
    have : 0 ≤ (σ.1 2 5).toInt ∧ (σ.1 2 5).toInt ≤ 6 := zh_key h.1.1 5
    omega
  have bm : m < 30 := by
    have : 0 ≤ (σ.1 2 0).toInt ∧ (σ.1 2 0).toInt ≤ 30 := zh_key h.1.1 0
    omega
  subst ep
  subst em
  have ek : ((200 : Int32) * nI p + (2 : Int32) * nI m) = ((200 : Int32) * nI p + (2 : Int32) * nI m) + nI 0 := (Int32.add_zero _).symm
  by_cases hlt : n < 40
  · obtain ⟨u, t, f1, f2, f3, J2, _⟩ := zJ_more h (k := 0) bp bm (by decide) hn hn2 hlt (by
      obtain ⟨r, er, hr⟩ := zA_97 (zs_rf (key := zs_kA) (kl := zs_lC) h.1.1) (x1 := nI 0) ⟨by decide, by decide⟩ (x2 := nI p) ⟨by rw [nI_toInt (by omega)]; omega, by rw [nI_toInt (by omega)]; omega⟩ (x3 := nI m) ⟨by rw [nI_toInt (by omega)]; omega, by rw [nI_toInt (by omega)]; omega⟩
      exact ⟨r, er, hr.2⟩)
    have g1 : fX8_stifle σ (nI p) (nI m) = (fX0_tickleAt u 27 (nI p) (nI m)).bind fun t_12 => some (t_12, u) := by
      unfold fX8_stifle
      rw [e1, rr_bs, if_neg c, e3, rr_bs, if_neg c2, show fX2_act σ 1 (0 : Int32) (nI p) (nI m) = some (1, ac_w σ n (nI 0) (nI p) (nI m)) from f1, rr_bs, if_neg (show ¬ ((1 : Int32), ac_w σ n (nI 0) (nI p) (nI m)).1 = 0 from fun z => absurd (show (1 : Int32) = 0 from z) (by decide)), f2, rr_bs]
    rw [← ek] at f3
    have g2 : fX9_stifle τ (nI p) (nI m) = sn_gd (sn_in (((6 : Int32) * nI m) + nI p) 180) (some ((sn_I t 12 (((6 : Int32) * nI m) + nI p).toNatClampNeg), t)) := by
      unfold fX9_stifle
      rw [e2, rr_bs, if_neg c, e4, rr_bs, if_neg c2, f3, rr_bs, if_pos (show (0 : Int32) ≤ ((0 : Int32), t).1 from Int32.le_refl _)]
    have x2 : x.2 = u := ac_pair (g1.symm.trans ex)
    have y2 : y.2 = t := by rw [ac_gd (g2.symm.trans ey)]
    exact ⟨x.1, y.1, u, t, by rw [← x2]; exact ex, by rw [← y2]; exact ey, J2⟩
  · refine ⟨-5, -5, σ, τ, ?_, ?_, h⟩
    · unfold fX8_stifle
      rw [e1, rr_bs, if_neg c, e3, rr_bs, if_neg c2, rc_act0 hn hlt hn40, rr_bs, if_pos (show ((0 : Int32), σ).1 = 0 from rfl)]
    · unfold fX9_stifle
      rw [e2, rr_bs, if_neg c, e4, rr_bs, if_neg c2, rm_act0 hn2 hlt hn40, rr_bs, if_neg (show ¬ (0 : Int32) ≤ ((-5 : Int32), τ).1 from fun z => absurd (show (0 : Int32) ≤ -5 from z) (by decide))]
theorem zJ_60 : ∀ (σ τ : sn_S) (a b : Int32), zJ σ τ → ∃ r r2 σ1 τ1, fX8_sniff σ a b = some (r, σ1) ∧ fX9_sniff τ a b = some (r2, τ1) ∧ zJ σ1 τ1 := by
  intro σ τ a b h
  obtain ⟨v, e1, e2, hv⟩ := zq_person h a
  obtain ⟨v2, e3, e4, hv2⟩ := zq_minute h b
  obtain ⟨x, ex, _⟩ := zA_159 (zs_rf (key := zs_kA) (kl := zs_lC) h.1.1) (x1 := a) (x2 := b)
  obtain ⟨y, ey, _⟩ := zA_161 (zs_rf (key := zs_kM0) (kl := zs_lM) h.1.2.1) (x1 := a) (x2 := b)
  by_cases c : v = 0
  · refine ⟨-2, -2, σ, τ, ?_, ?_, h⟩
    · unfold fX8_sniff
      rw [e1, rr_bs, if_pos c]
    · unfold fX9_sniff
      rw [e2, rr_bs, if_pos c]
  by_cases c2 : v2 = 0
  · refine ⟨-2, -2, σ, τ, ?_, ?_, h⟩
    · unfold fX8_sniff
      rw [e1, rr_bs, if_neg c, e3, rr_bs, if_pos c2]
    · unfold fX9_sniff
      rw [e2, rr_bs, if_neg c, e4, rr_bs, if_pos c2]
  obtain ⟨p, ep, hp⟩ := hv c
  obtain ⟨m, em, hm⟩ := hv2 c2
  obtain ⟨n, hn40, hn, hn2⟩ := zq_acts h
  have bp : p < 6 := by
    have : 0 ≤ (σ.1 2 5).toInt ∧ (σ.1 2 5).toInt ≤ 6 := zh_key h.1.1 5
    omega
  have bm : m < 30 := by
    have : 0 ≤ (σ.1 2 0).toInt ∧ (σ.1 2 0).toInt ≤ 30 := zh_key h.1.1 0
    omega
  subst ep
  subst em
  by_cases hlt : n < 40
  · obtain ⟨u, t, f1, f2, f3, J2, _⟩ := zJ_more h (k := 1) bp bm (by decide) hn hn2 hlt (by
      obtain ⟨r, er, hr⟩ := zA_157 (zs_rf (key := zs_kA) (kl := zs_lC) h.1.1) (x1 := nI 1) ⟨by decide, by decide⟩ (x2 := nI p) ⟨by rw [nI_toInt (by omega)]; omega, by rw [nI_toInt (by omega)]; omega⟩ (x3 := nI m) ⟨by rw [nI_toInt (by omega)]; omega, by rw [nI_toInt (by omega)]; omega⟩
      exact ⟨r, er, hr.2⟩)
    have g1 : fX8_sniff σ (nI p) (nI m) = sn_gd (sn_in (nI p) 6) ((fX8_hasBit (sn_I u (27 + 10) (nI p).toNatClampNeg) (nI m)).bind fun t_13 => (if t_13 = 0 then some ((0 : Int32), u) else some ((1 : Int32), u))) := by
      unfold fX8_sniff
      rw [e1, rr_bs, if_neg c, e3, rr_bs, if_neg c2, show fX2_act σ 1 (1 : Int32) (nI p) (nI m) = some (1, ac_w σ n (nI 1) (nI p) (nI m)) from f1, rr_bs, if_neg (show ¬ ((1 : Int32), ac_w σ n (nI 1) (nI p) (nI m)).1 = 0 from fun z => absurd (show (1 : Int32) = 0 from z) (by decide)), f2, rr_bs]
    have g2 : fX9_sniff τ (nI p) (nI m) = sn_gd (sn_in (nI p) 6) ((fX9_bit (sn_I t 10 (nI p).toNatClampNeg) (nI m)).bind fun t_11 => (some (t_11, t))) := by
      unfold fX9_sniff
      rw [e2, rr_bs, if_neg c, e4, rr_bs, if_neg c2, show fX9_keepAct τ ((((200 : Int32) * nI p) + ((2 : Int32) * nI m)) + (1 : Int32)) = some (0, t) from f3, rr_bs, if_pos (show (0 : Int32) ≤ ((0 : Int32), t).1 from Int32.le_refl _)]
    have x2 : x.2 = u := ac_ite (g1.symm.trans ex)
    have y2 : y.2 = t := ac_pairG (g2.symm.trans ey)
    exact ⟨x.1, y.1, u, t, by rw [← x2]; exact ex, by rw [← y2]; exact ey, J2⟩
  · refine ⟨-5, -5, σ, τ, ?_, ?_, h⟩
    · unfold fX8_sniff
      rw [e1, rr_bs, if_neg c, e3, rr_bs, if_neg c2, rc_act0 hn hlt hn40, rr_bs, if_pos (show ((0 : Int32), σ).1 = 0 from rfl)]
    · unfold fX9_sniff
      rw [e2, rr_bs, if_neg c, e4, rr_bs, if_neg c2, rm_act0 hn2 hlt hn40, rr_bs, if_neg (show ¬ (0 : Int32) ≤ ((-5 : Int32), τ).1 from fun z => absurd (show (0 : Int32) ≤ -5 from z) (by decide))]
end
section
/-! taken back: undo, anew; rate -/
theorem zJ_cnt {σ τ : sn_S} {n k : Nat} (h : zJ σ τ) (hn : σ.1 2 9 = nI n) (hn40 : n ≤ 40) (hk : k ≤ n) : zJ (sn_pI σ 2 9 (nI k)) (sn_pI τ 1 9 (nI k)) := by
  have hb : 0 ≤ (nI k).toInt ∧ (nI k).toInt ≤ 40 := by
    rw [nI_toInt (by omega)]
    exact ⟨by omega, by omega⟩
  have sC : zs_SB zs_tC (sn_pI σ 2 9 (nI k)) := zs_sbw h.1.1 hb
  have sM : zs_SB zs_tM (sn_pI τ 1 9 (nI k)) := zs_sbw h.1.2.1 hb
  have c2 : ∀ i, i ≠ 9 → (sn_pI σ 2 9 (nI k)).1 2 i = σ.1 2 i := fun i hi => pI_slot hi
  have cq : ∀ q, q ≠ 2 → (sn_pI σ 2 9 (nI k)).1 q = σ.1 q := fun q hq => pI_ne hq
  have m1 : ∀ i, i ≠ 9 → (sn_pI τ 1 9 (nI k)).1 1 i = τ.1 1 i := fun i hi => pI_slot hi
  have m2 : (sn_pI τ 1 9 (nI k)).1 2 = τ.1 2 := pI_ne (by decide)
  have kC : zs_C0 σ (sn_pI σ 2 9 (nI k)) := ⟨sC, fun q i hi => by
    have q2 : q ≠ 2 := fun e => by
      subst e
      exact absurd (show false = true from hi) (by decide)
    rw [cq q q2], fun _ _ => rfl⟩
  have kM : zs_M0 τ (sn_pI τ 1 9 (nI k)) := ⟨sM, fun q i hi => by
    have q1 : q ≠ 1 := fun e => by
      subst e
      exact absurd (show false = true from hi) (by decide)
    rw [pI_ne q1], fun _ _ => rfl⟩
  obtain ⟨b5, b6, b7, b8, b9⟩ := zh_cbS h.1.1 (h := 1) (Or.inl rfl)
  obtain ⟨h0, h1, h2, h3, h4, h5⟩ := h.2.1
  refine ⟨zj_keep kC kM h.1, ⟨fun i hi => ?_, fun i hi => ?_, fun i hi => ?_, fun i hi => ?_, fun i hi => ?_, fun i hi => ?_⟩, fun j hj => rr_Hc (zh_cbS h.1.1 (zh_3 hj)) (fun q g1 g2 => cq q (by omega)) (fun i _ => by rw [m2]) (h.2.2 j hj)⟩
  · show (sn_pI σ 2 9 (nI k)).1 2 i = _
    by_cases e : i = 9
    · subst e
      rw [pI_self, pI_self]
    · rw [c2 i e, m1 i e]
      exact h0 i hi
  · rw [show (sn_pI σ 2 9 (nI k)).1 (1 + 1) 5 = σ.1 (1 + 1) 5 from c2 5 (by decide)] at hi
    rw [cq _ (by decide), m1 _ (by omega)]
    exact h1 i hi
  · rw [show (sn_pI σ 2 9 (nI k)).1 (1 + 1) 6 = σ.1 (1 + 1) 6 from c2 6 (by decide)] at hi
    rw [cq _ (by decide), m1 _ (by omega)]
    exact h2 i hi
  · rw [show (sn_pI σ 2 9 (nI k)).1 (1 + 1) 7 = σ.1 (1 + 1) 7 from c2 7 (by decide)] at hi
    rw [cq _ (by decide), m1 _ (by omega)]
    exact h3 i hi
  · rw [show (sn_pI σ 2 9 (nI k)).1 (1 + 1) 8 = σ.1 (1 + 1) 8 from c2 8 (by decide)] at hi
    rw [cq _ (by decide), m1 _ (by omega)]
    exact h4 i hi
  · rw [show (sn_pI σ 2 9 (nI k)).1 (1 + 1) 9 = nI k from pI_self, nI_toInt (by omega)] at hi
    rw [cq _ (by decide), m1 _ (by omega)]
    exact h5 i (by
      show (i : Int) < (σ.1 2 9).toInt
      rw [hn, nI_toInt (by omega)]
      omega)
theorem zJ_61 : ∀ (σ τ : sn_S), zJ σ τ → ∃ r σ1 τ1, fX8_undo σ = some (r, σ1) ∧ fX9_undo τ = some (r, τ1) ∧ zJ σ1 τ1 := by
  intro σ τ h
  obtain ⟨v, e1, e2⟩ := zq_house h
  obtain ⟨n, hn40, hn, hn2⟩ := zq_acts h
  have c9 : sn_I σ (1 + 1) (9 : Int32).toNatClampNeg = nI n := hn
  have m9 : sn_I τ 1 (9 : Int32).toNatClampNeg = nI n := hn2
  have g9 : sn_in (9 : Int32) 11 = true := rfl
  have k9 : sn_in (9 : Int32) 119 = true := rfl
  by_cases c : v = 0
  · refine ⟨-2, σ, τ, ?_, ?_, h⟩
    · unfold fX8_undo
      rw [e1, rr_bs, if_pos c]
    · unfold fX9_undo
      rw [e2, rr_bs, if_pos c]
  by_cases z : n = 0
  · subst z
    refine ⟨-5, σ, τ, ?_, ?_, h⟩
    · unfold fX8_undo
      rw [e1, rr_bs, if_neg c, g9, gd_T, c9, if_neg (show ¬ (1 : Int32) ≤ nI 0 by decide)]
    · unfold fX9_undo
      rw [e2, rr_bs, if_neg c, k9, gd_T, m9, if_pos (show nI 0 = 0 from rfl)]
  · have es : nI n - (1 : Int32) = nI (n - 1) := by
      have e3 : nI n = nI (n - 1) + (1 : Int32) := by rw [nI_1, show n - 1 + 1 = n by omega]
      rw [e3, Int32.add_sub_cancel]
    have J1 := zJ_cnt h hn hn40 (k := n - 1) (by omega)
    obtain ⟨u, eu, hu⟩ := zc_1529 (zs_rf (key := zs_kC) (kl := zs_lC) J1.1.1)
    have u9 : sn_I u (1 + 1) (9 : Int32).toNatClampNeg = nI (n - 1) := (hu.2.1 2 9 rfl).trans pI_self
    refine ⟨nI (n - 1), u, sn_pI τ 1 9 (nI (n - 1)), ?_, ?_, zJ_keep hu (zs_rf J1.1.2.1) J1⟩
    · unfold fX8_undo
      rw [e1, rr_bs, if_neg c, g9, gd_T, c9, if_pos (show (1 : Int32) ≤ nI n from nI_le (a := 1) (by omega) (by omega)), gd_T, gd_T, rr_lt, es, show sn_pI σ (1 + 1) (9 : Int32).toNatClampNeg (nI (n - 1)) = sn_pI σ 2 9 (nI (n - 1)) from rfl, eu, rr_bs, gd_T, u9]
    · unfold fX9_undo
      rw [e2, rr_bs, if_neg c, k9, gd_T, m9, if_neg (show ¬ nI n = 0 from fun x => z ((nI_eq (b := 0) (by omega) (by decide)).mp x)), gd_T, gd_T, rr_lt, gd_T, es]
      show some ((sn_pI τ 1 9 (nI (n - 1))).1 1 9, sn_pI τ 1 9 (nI (n - 1))) = _
      rw [pI_self]
theorem zJ_62 : ∀ (σ τ : sn_S), zJ σ τ → ∃ r σ1 τ1, fX8_anew σ = some (r, σ1) ∧ fX9_anew τ = some (r, τ1) ∧ zJ σ1 τ1 := by
  intro σ τ h
  obtain ⟨v, e1, e2⟩ := zq_house h
  obtain ⟨n, hn40, hn, hn2⟩ := zq_acts h
  have c9 : sn_I σ (1 + 1) (9 : Int32).toNatClampNeg = nI n := hn
  have m9 : sn_I τ 1 (9 : Int32).toNatClampNeg = nI n := hn2
  have g9 : sn_in (9 : Int32) 11 = true := rfl
  have k9 : sn_in (9 : Int32) 119 = true := rfl
  by_cases c : v = 0
  · refine ⟨-2, σ, τ, ?_, ?_, h⟩
    · unfold fX8_anew
      rw [e1, rr_bs, if_pos c]
    · unfold fX9_anew
      rw [e2, rr_bs, if_pos c]
  · have J1 := zJ_cnt h hn hn40 (k := 0) (by omega)
    obtain ⟨u, eu, hu⟩ := zc_1529 (zs_rf (key := zs_kC) (kl := zs_lC) J1.1.1)
    refine ⟨nI n, u, sn_pI τ 1 9 (nI 0), ?_, ?_, zJ_keep hu (zs_rf J1.1.2.1) J1⟩
    · unfold fX8_anew
      rw [e1, rr_bs, if_neg c, g9, gd_T, c9, rr_lt, gd_T, rr_lt, show sn_pI σ (1 + 1) (9 : Int32).toNatClampNeg (0 : Int32) = sn_pI σ 2 9 (nI 0) from rfl, eu, rr_bs]
    · unfold fX9_anew
      rw [e2, rr_bs, if_neg c, k9, gd_T, m9, rr_lt, gd_T, rr_lt]
      all_goals rfl
theorem zJ_rate {σ τ : sn_S} {p : Nat} {v : Int32} (h : zJ σ τ) (hp : p < 6) (hC : zs_C0 σ (sn_pI σ 6 (5 * p + 4) v)) (hM : zs_M0 τ (sn_pI τ 1 (49 + (5 * p + 4)) v)) : zJ (sn_pI σ 6 (5 * p + 4) v) (sn_pI τ 1 (49 + (5 * p + 4)) v) := by
  have cq : ∀ q, q ≠ 6 → (sn_pI σ 6 (5 * p + 4) v).1 q = σ.1 q := fun q hq => pI_ne hq
  have m1 : ∀ i, i ≠ 49 + (5 * p + 4) → (sn_pI τ 1 (49 + (5 * p + 4)) v).1 1 i = τ.1 1 i := fun i hi => pI_slot hi
  have m2 : (sn_pI τ 1 (49 + (5 * p + 4)) v).1 2 = τ.1 2 := pI_ne (by decide)
  obtain ⟨b5, b6, b7, b8, b9⟩ := zh_cbS h.1.1 (h := 1) (Or.inl rfl)
  obtain ⟨h0, h1, h2, h3, h4, h5⟩ := h.2.1
  refine ⟨zj_keep hC hM h.1, ?_, fun j hj => rr_Hc (zh_cbS h.1.1 (zh_3 hj)) (fun q g1 g2 => cq q (by omega)) (fun i _ => by rw [m2]) (h.2.2 j hj)⟩
  unfold rr_H
  rw [cq (1 + 1) (by decide), cq (1 + 2) (by decide), cq (1 + 3) (by decide), cq (1 + 4) (by decide), cq (1 + 6) (by decide)]
  refine ⟨fun i hi => ?_, fun i hi => ?_, fun i hi => ?_, fun i hi => ?_, fun i hi => ?_, fun i hi => ?_⟩
  · rw [m1 _ (by omega)]
    exact h0 i hi
  · rw [m1 _ (by omega)]
    exact h1 i hi
  · rw [m1 _ (by omega)]
    exact h2 i hi
  · rw [m1 _ (by omega)]
    exact h3 i hi
  · show (sn_pI σ 6 (5 * p + 4) v).1 6 i = _
    by_cases e : i = 5 * p + 4
    · subst e
      rw [pI_self, pI_self]
    · rw [pI_slot e, m1 _ (by omega)]
      exact h4 i hi
  · rw [m1 _ (by omega)]
    exact h5 i hi
theorem zq_5i (p t : Nat) : ((5 : Int32) * nI p) + nI t = nI (5 * p + t) ∧ ((49 : Int32) + ((5 : Int32) * nI p)) + nI t = nI (49 + (5 * p + t)) := by
  refine ⟨by rw [zk_5n, nI_add], ?_⟩
  rw [zk_5n, show (49 : Int32) + nI (5 * p) = nI (49 + 5 * p) from nI_add 49 (5 * p), nI_add, Nat.add_assoc]
theorem zJ_65 : ∀ (σ τ : sn_S) (a b : Int32), zJ σ τ → ∃ r σ1 τ1, fX8_rate σ a b = some (r, σ1) ∧ fX9_rate τ a b = some (r, τ1) ∧ zJ σ1 τ1 := by
  intro σ τ a b h
  obtain ⟨v, e1, e2, hv⟩ := zq_policy h a
  obtain ⟨n, hn40, hn, hn2⟩ := zq_acts h
  obtain ⟨x, ex, hA⟩ := zA_168 (zs_rf (key := zs_kA) (kl := zs_lC) h.1.1) (x1 := a) (x2 := b)
  obtain ⟨y, ey, hB⟩ := zA_172 (zs_rf (key := zs_kM0) (kl := zs_lM) h.1.2.1) (x1 := a) (x2 := b)
  have e9 : fX9_in b.toInt64 (0 : Int64) (99 : Int64) = some (if (0 : Int32) ≤ b ∧ b ≤ (99 : Int32) then 1 else 0) := in_eq32 b 0 99
  have c9 : sn_I σ (1 + 1) (9 : Int32).toNatClampNeg = nI n := hn
  have m9 : sn_I τ 1 (9 : Int32).toNatClampNeg = nI n := hn2
  have g9 : sn_in (9 : Int32) 11 = true := rfl
  have k9 : sn_in (9 : Int32) 119 = true := rfl
  by_cases c : v = 0
  · refine ⟨-2, σ, τ, ?_, ?_, h⟩
    · unfold fX8_rate
      rw [e1, rr_bs, if_pos c]
    · unfold fX9_rate
      rw [e2, rr_bs, if_pos c]
  obtain ⟨p, ep, hp⟩ := hv c
  have bp : p < 6 := by
    have : 0 ≤ (σ.1 2 8).toInt ∧ (σ.1 2 8).toInt ≤ 6 := zh_key h.1.1 8
    omega
  subst ep
  by_cases c0 : b < 0
  · refine ⟨-2, σ, τ, ?_, ?_, h⟩
    · unfold fX8_rate
      rw [e1, rr_bs, if_neg c, if_pos c0]
    · unfold fX9_rate
      rw [e2, rr_bs, if_neg c, e9, if_neg (show ¬ ((0 : Int32) ≤ b ∧ b ≤ 99) from fun x => absurd c0 (Int32.not_lt.mpr x.1)), bd_t0]
  by_cases c1 : b ≤ (99 : Int32)
  · by_cases z : n = 0
    · subst z
      obtain ⟨i1, i2⟩ := zq_5i p 4
      have i1 : ((5 : Int32) * nI p) + (4 : Int32) = nI (5 * p + 4) := i1
      have i2 : ((49 : Int32) + ((5 : Int32) * nI p)) + (4 : Int32) = nI (49 + (5 * p + 4)) := i2
      have w1 : fX2_ofPolicy σ 1 (nI p) (4 : Int32) = some (σ.1 6 (5 * p + 4)) := by
        unfold fX2_ofPolicy
        rw [i1, sn_in_nI (by omega) (by decide), gd_T, nI_clamp (by omega)]
        rfl
      have w2 : fX9_of τ (nI p) (4 : Int32) = some (τ.1 1 (49 + (5 * p + 4))) := by
        unfold fX9_of
        rw [i2, sn_in_nI (by omega) (by decide), gd_T, nI_clamp (by omega)]
        rfl
      have f1 : fX8_rate σ (nI p) b = some (σ.1 6 (5 * p + 4), sn_pI σ 6 (5 * p + 4) b) := by
        unfold fX8_rate
        rw [e1, rr_bs, if_neg c, if_neg c0, if_pos c1, g9, gd_T, c9, if_pos (show nI 0 ≤ (0 : Int32) from Int32.le_refl _), w1, rr_bs, i1, sn_in_nI (by omega) (by decide), gd_T, rr_lt, nI_clamp (by omega)]
        all_goals rfl
      have f2 : fX9_rate τ (nI p) b = some (τ.1 1 (49 + (5 * p + 4)), sn_pI τ 1 (49 + (5 * p + 4)) b) := by
        unfold fX9_rate
        rw [e2, rr_bs, if_neg c, e9, if_pos (show (0 : Int32) ≤ b ∧ b ≤ 99 from ⟨Int32.not_lt.mp c0, c1⟩), bd_t1, k9, gd_T, m9, if_pos (show nI 0 ≤ (0 : Int32) from Int32.le_refl _), w2, rr_bs, i2, sn_in_nI (by omega) (by decide), gd_T, rr_lt, nI_clamp (by omega)]
      rw [f1] at ex
      cases ex
      rw [f2] at ey
      cases ey
      refine ⟨σ.1 6 (5 * p + 4), _, _, f1, ?_, zJ_rate h bp (zs_a0 hA.1.2) hB.1.2⟩
      rw [f2, ← h.2.1.2.2.2.2.1 (5 * p + 4) (by show ((5 * p + 4 : Nat) : Int) < 5 * (σ.1 2 8).toInt; omega)]
      all_goals rfl
    · have cn : ¬ nI n ≤ (0 : Int32) := fun x => by
        have := zs_I_le x
        rw [nI_toInt (by omega), show (0 : Int32).toInt = 0 by decide] at this
        omega
      refine ⟨-5, σ, τ, ?_, ?_, h⟩
      · unfold fX8_rate
        rw [e1, rr_bs, if_neg c, if_neg c0, if_pos c1, g9, gd_T, c9, if_neg cn]
      · unfold fX9_rate
        rw [e2, rr_bs, if_neg c, e9, if_pos (show (0 : Int32) ≤ b ∧ b ≤ 99 from ⟨Int32.not_lt.mp c0, c1⟩), bd_t1, k9, gd_T, m9, if_neg cn]
  · refine ⟨-2, σ, τ, ?_, ?_, h⟩
    · unfold fX8_rate
      rw [e1, rr_bs, if_neg c, if_neg c0, if_neg c1]
    · unfold fX9_rate
      rw [e2, rr_bs, if_neg c, e9, if_neg (show ¬ ((0 : Int32) ≤ b ∧ b ≤ 99) from fun x => c1 x.2), bd_t0]
end
section
/-! every call by hand: the houses stay alike -/
theorem zJ_0 : ∀ (σ τ : sn_S) (a b c d e : Int32), zJ σ τ → ∃ r σ1 τ1, fX8_feed σ a b c d e = some (r, σ1) ∧ fX9_feed τ a b c d e = some (r, τ1) ∧ zJ σ1 τ1 := by
  intro σ τ a b c d e h
  obtain ⟨r, σ1, τ1, e1, e2, hJ⟩ := zj_0 σ τ a b c d e h.1
  obtain ⟨n, hn, n1⟩ := zh_n (t := zs_tC) (q := 17) (k := 1) h.1.1 rfl
  have n2 : τ.1 0 5 = nI n := by rw [← h.1.2.2.1.1]; exact n1
  have C : ∀ q, (2 ≤ q ∧ q ≤ 7) ∨ (73 ≤ q ∧ q ≤ 93) → σ1.1 q = σ.1 q := by
    intro q hq
    rcases zh_cfeed h.1.1 n1 hn a b c d e with ⟨g1, g2⟩ | ⟨g1, s1, g2, g3, g4, g5, g6⟩
    · rw [g2] at e1
      cases e1
      rfl
    · rw [g2] at e1
      cases e1
      exact funext fun k => g5 q k (by omega) (fun x => by omega)
  have M : ∀ q, q = 1 ∨ q = 2 → τ1.1 q = τ.1 q := by
    intro q hq
    rcases zh_mfeed h.1.2.1 n2 hn a b c d e with ⟨g1, g2⟩ | ⟨g1, s1, g2, g3, g4, g5, g6⟩
    · rw [g2] at e2
      cases e2
      rfl
    · rw [g2] at e2
      cases e2
      exact funext fun k => g5 q k (by omega) (by omega) (fun x => by omega)
  exact ⟨r, σ1, τ1, e1, e2, hJ, zh_Jc h.1.1 C (M 1 (Or.inl rfl)) (M 2 (Or.inr rfl)) h.2⟩
theorem zJ_1 : ∀ (σ τ : sn_S) (a : Int32), zJ σ τ → ∃ r σ1 τ1, fX8_end σ a = some (r, σ1) ∧ fX9_end τ a = some (r, τ1) ∧ zJ σ1 τ1 := by
  intro σ τ a h
  obtain ⟨r, σ1, τ1, e1, e2, hJ⟩ := zj_1 σ τ a h.1
  have C : ∀ q, (2 ≤ q ∧ q ≤ 7) ∨ (73 ≤ q ∧ q ≤ 93) → σ1.1 q = σ.1 q := by
    intro q hq
    rw [zh_cend] at e1
    by_cases c : 0 ≤ a ∧ a ≤ σ.1 17 1
    · rw [if_pos c] at e1
      cases e1
      exact pI_ne (by omega)
    · rw [if_neg c] at e1
      cases e1
      rfl
  have M : ∀ q, q = 1 ∨ q = 2 → τ1.1 q = τ.1 q := by
    intro q hq
    rw [zh_mend] at e2
    by_cases c : 0 ≤ a ∧ a ≤ τ.1 0 5
    · rw [if_pos c] at e2
      cases e2
      exact pI_ne (by omega)
    · rw [if_neg c] at e2
      cases e2
      rfl
  exact ⟨r, σ1, τ1, e1, e2, hJ, zh_Jc h.1.1 C (M 1 (Or.inl rfl)) (M 2 (Or.inr rfl)) h.2⟩
theorem zJ_at {j : Nat} (hj : j < 3) : sn_at sn_rs15 (nI j) = 73 + 7 * j := by
  match j, hj with
  | 0, _ => rfl
  | 1, _ => rfl
  | 2, _ => rfl
theorem zJ_cp {σ : sn_S} (h : zs_SB zs_tC σ) {j : Nat} (hj : j < 3) : (∃ t, zs_C0 σ t ∧ fX2_copyFrom σ (73 + 7 * j) 1 = some t) ∧ ∃ t, zs_C0 σ t ∧ fX2_copyFrom σ 1 (73 + 7 * j) = some t := by
  have key : ∀ a, (a = 73 ∨ a = 80 ∨ a = 87) → (∃ t, zs_C0 σ t ∧ fX2_copyFrom σ a 1 = some t) ∧ ∃ t, zs_C0 σ t ∧ fX2_copyFrom σ 1 a = some t := by
    intro a ha
    rcases ha with e | e | e <;> subst e
    · exact ⟨zh_hC h (a := 73) (b := 1) (by decide) (by decide) (by decide), zh_hC h (a := 1) (b := 73) (by decide) (by decide) (by decide)⟩
    · exact ⟨zh_hC h (a := 80) (b := 1) (by decide) (by decide) (by decide), zh_hC h (a := 1) (b := 80) (by decide) (by decide) (by decide)⟩
    · exact ⟨zh_hC h (a := 87) (b := 1) (by decide) (by decide) (by decide), zh_hC h (a := 1) (b := 87) (by decide) (by decide) (by decide)⟩
  exact key (73 + 7 * j) (by omega)
theorem zJ_67 : ∀ (σ τ : sn_S) (a : Int32), zJ σ τ → ∃ r σ1 τ1, fX8_image σ a = some (r, σ1) ∧ fX9_image τ a = some (r, τ1) ∧ zJ σ1 τ1 := by
  intro σ τ a h
  obtain ⟨r, σ1, τ1, e1, e2, hJ⟩ := zj_67 σ τ a h.1
  refine ⟨r, σ1, τ1, e1, e2, hJ, ?_⟩
  rcases zh_k3 a with ⟨j, hj, rfl⟩ | ⟨g1, g2⟩
  · obtain ⟨h1, h2, h3, h4, h5, h6⟩ := zh_j3 hj
    obtain ⟨z, ez, hm, c1, c3, c4, c5⟩ := zh_hcp σ (73 + 7 * j) 1 (by omega)
    obtain ⟨key, -⟩ := zJ_cp h.1.1 hj
    obtain ⟨z', hz, ez'⟩ := key
    rw [ez] at ez'
    cases ez'
    have f1 : fX8_image σ (nI j) = some (0, sn_pI z 16 j (vp_nar .boolean 1)) := by
      unfold fX8_image
      rw [if_neg h5, if_pos h6, h3, gd_T, zJ_at hj, ez, rr_bs, gd_T, rr_lt, h4]
    obtain ⟨t, et, t2, t3, t4, _⟩ := rm_image τ hj
    have f2 : fX9_image τ (nI j) = some (0, sn_pI t 3 j (vp_nar .boolean 1)) := by
      unfold fX9_image
      rw [zh_in02, if_pos h2, bd_t1, et, rr_bs]
      unfold BX9_image_46
      rw [h3, gd_T, rr_lt, h4]
    rw [f1] at e1
    cases e1
    rw [f2] at e2
    cases e2
    refine ⟨rr_Hc (zh_cbS h.1.1 (Or.inl rfl)) (fun q g1 g2 => (pI_ne (by omega)).trans (hm.2.1 q (by omega))) (fun k hk => by rw [pI_ne (by decide), t2 1 (by decide)]) h.2.1, fun i hi => ?_⟩
    by_cases e : j = i
    · subst e
      exact rr_Hc (zh_cbS hz.1 (zh_3 hj)) (fun q g1 g2 => pI_ne (by omega)) (fun k hk => by
        show (sn_pI t 3 j _).1 2 (119 * j + k) = τ.1 1 k
        rw [pI_ne (by decide)]
        exact t3 k hk) (rc_copyH (by omega) (zh_cbS h.1.1 (Or.inl rfl)) ez h.2.1)
    · exact rr_Hc (zh_cbS h.1.1 (zh_3 hi)) (fun q g1 g2 => (pI_ne (by omega)).trans (hm.2.1 q (by omega))) (fun k hk => by
        show (sn_pI t 3 j _).1 2 (119 * i + k) = τ.1 2 (119 * i + k)
        rw [pI_ne (by decide)]
        exact t4 _ (by omega)) (h.2.2 i hi)
  · rw [zh_cimage0 g2] at e1
    cases e1
    rw [zh_mimage0 g1] at e2
    cases e2
    exact h.2
theorem zJ_68 : ∀ (σ τ : sn_S) (a : Int32), zJ σ τ → ∃ r σ1 τ1, fX8_back σ a = some (r, σ1) ∧ fX9_back τ a = some (r, τ1) ∧ zJ σ1 τ1 := by
  intro σ τ a h
  obtain ⟨r, σ1, τ1, e1, e2, hJ⟩ := zj_68 σ τ a h.1
  refine ⟨r, σ1, τ1, e1, e2, hJ, ?_⟩
  rcases zh_k3 a with ⟨j, hj, rfl⟩ | ⟨g1, g2⟩
  · obtain ⟨h1, h2, h3, h4, h5, h6⟩ := zh_j3 hj
    have hk : sn_I σ 16 j = sn_I τ 3 j := h.1.2.2.2.1 j hj
    by_cases c : sn_I σ 16 j = 0
    · have f1 : fX8_back σ (nI j) = some (-6, σ) := by
        unfold fX8_back
        rw [if_neg h5, if_pos h6, h3, gd_T, h4, if_pos c]
      have f2 : fX9_back τ (nI j) = some (-6, τ) := by
        unfold fX9_back
        rw [zh_in02, if_pos h2, bd_t1, h3, gd_T, h4, if_pos (hk.symm.trans c)]
      rw [f1] at e1
      cases e1
      rw [f2] at e2
      cases e2
      exact h.2
    · obtain ⟨z, ez, hm, c1, c3, c4, c5⟩ := zh_hcp σ 1 (73 + 7 * j) (by omega)
      obtain ⟨-, key⟩ := zJ_cp h.1.1 hj
      obtain ⟨z', hz, ez'⟩ := key
      rw [ez] at ez'
      cases ez'
      obtain ⟨u, eu, hu⟩ := zc_1529 (zs_rf (key := zs_kC) (kl := zs_lC) hz.1)
      have f1 : fX8_back σ (nI j) = some (0, u) := by
        unfold fX8_back
        rw [if_neg h5, if_pos h6, h3, gd_T, h4, if_neg c, gd_T, zJ_at hj, ez, rr_bs, eu, rr_bs]
      obtain ⟨t, et, t2, t3, _⟩ := rm_back τ hj
      have f2 : fX9_back τ (nI j) = some (0, t) := by
        unfold fX9_back
        rw [zh_in02, if_pos h2, bd_t1, h3, gd_T, h4, if_neg (fun x => c (hk.trans x)), et, rr_bs]
        rfl
      have Hz : zh_J z t := ⟨rr_Hc (zh_cbS hz.1 (Or.inl rfl)) (fun _ _ _ => rfl) (fun k hk => t3 k hk) (rc_copyH (a := 1) (by omega) (zh_cbS h.1.1 (zh_3 hj)) ez (h.2.2 j hj)), fun i hi => rr_Hc (zh_cbS h.1.1 (zh_3 hi)) (fun q g1 g2 => hm.2.1 q (by omega)) (fun k _ => by
        show t.1 2 _ = τ.1 2 _
        rw [t2 2 (by decide)]) (h.2.2 i hi)⟩
      have fin : zh_J u t := zh_Jc hz.1 (fun q hq => funext fun k => hu.2.1 q k (zs_kCh hq)) rfl rfl Hz
      rw [f1] at e1
      cases e1
      rw [f2] at e2
      cases e2
      exact fin
  · rw [zh_cback0 g2] at e1
    cases e1
    rw [zh_mback0 g1] at e2
    cases e2
    exact h.2
theorem zJ_rows {σ σ' τ τ' : sn_S} (hS : jS (σ'.1 26) (σ'.1 25) (σ'.2.1 21) (σ'.2.1 22) (σ'.2.1 23) (σ'.2.1 24) (τ'.1 21) (τ'.1 22) (τ'.2.1 23)) (c1 : ∀ q, q ≠ 25 → q ≠ 26 → σ'.1 q = σ.1 q) (m1 : ∀ q, q ≠ 21 → q ≠ 22 → τ'.1 q = τ.1 q) (bC : zs_SB zs_tC σ') (bM : zs_SB zs_tM τ') (h : zJ σ τ) : zJ σ' τ' :=
  ⟨zj_rows hS c1 m1 bC bM h.1, zh_Jc h.1.1 (fun q hq => c1 q (by omega) (by omega)) (m1 1 (by decide) (by decide)) (m1 2 (by decide) (by decide)) h.2⟩
theorem zJ_3 : ∀ (σ τ : sn_S) (a : Int32), zJ σ τ → ∃ r, fX8_fault σ a = some r ∧ fX9_fault τ a = some r := fun σ τ a h => zj_3 σ τ a h.1
theorem zk_kh {q k : Nat} (h1 : 73 ≤ q) (h2 : q ≤ 93) : zk_k q k = true := by
  unfold zk_k
  cases x : Nat.beq q 17 with
  | true => exact absurd (Nat.eq_of_beq_eq_true x) (by omega)
  | false => exact zs_kCh (Or.inr ⟨h1, h2⟩)
theorem zk_houseH {σ z : sn_S} {r : Int32} (h : zs_SB zs_tC σ) (e : fX8_house σ = some (r, z)) : ∀ q, 73 ≤ q → q ≤ 93 → z.1 q = σ.1 q := by
  have key : zs_ok (fX8_house σ) (fun r => ∀ q, 73 ≤ q → q ≤ 93 → r.2.1 q = σ.1 q) := by
    unfold fX8_house
    refine zs_bd_ (zk_read h) (fun t ht => ?_)
    have kq : ∀ q, 73 ≤ q → q ≤ 93 → t.1 q = σ.1 q := fun q a b => funext fun k => ht.1.2.1 q k (zk_kh a b)
    refine zs_lt (Q := fun z => z = sn_pI t 17 1 (0 : Int32)) rfl (fun s hs => ?_)
    have sSB : zs_SB zs_tC s := by
      rw [hs]
      exact zs_sbw ht.1.1 (by rw [show zs_tC 17 1 = (0, 900) from rfl]; decide)
    have so : ∀ q, q ≠ 17 → s.1 q = t.1 q := fun q hq => by rw [hs, pI_ne hq]
    refine zs_ite (fun c => ?_) (fun _ => zs_some (fun q a b => (so q (by omega)).trans (kq q a b)))
    have c2 : t.1 17 2 = 0 := by
      have c3 : s.1 17 2 = 0 := c
      rw [hs, pI_slot (by decide)] at c3
      exact c3
    have d := ht.2.2.2 c2
    have dH : zs_H 8 s := zs_H_c (by rw [so _ (by decide)]) (by rw [so _ (by decide)]) (by rw [so _ (by decide)]) (fun k => by rw [so _ (by decide)]) (fun k => by rw [so _ (by decide)]) (fun j => by rw [so _ (by decide)]) d.2
    obtain ⟨z, e, hm, c1, c3, c4, c5⟩ := zh_hcp s 1 8 (by decide)
    have zSB : zs_SB zs_tC z := zh_hSB (Or.inl rfl) sSB (fun k hk => by rw [so _ (by decide)]; exact d.1 k hk) (fun k => by
      have := sSB.1 14 k
      rw [show zs_tC 14 k = (0, 29) from rfl] at this
      exact this) dH hm c1 c3 c4 c5
    refine zs_bd_ (Q := fun u => u = z) ⟨z, e, rfl⟩ (fun u hu => ?_)
    subst hu
    refine zs_bd_ (zc_1529 (zs_rf zSB)) (fun w hw => zs_gd (by decide) (zs_some (fun q a b => ?_)))
    show w.1 q = σ.1 q
    rw [show w.1 q = u.1 q from funext fun k => hw.2.1 q k (zs_kCh (Or.inr ⟨a, b⟩)), hm.2.1 q (by omega), so q (by omega)]
    exact kq q a b
  obtain ⟨r', e2, hr⟩ := key
  rw [e] at e2
  cases e2
  exact hr
theorem zJ_2 : ∀ (σ τ : sn_S), zJ σ τ → ∃ r σ1 τ1, fX8_house σ = some (r, σ1) ∧ fX9_house τ = some (r, τ1) ∧ zJ σ1 τ1 := by
  intro σ τ h
  obtain ⟨r, σ1, τ1, e1, e2, hJ⟩ := zj_2 σ τ h.1
  obtain ⟨n, hn, e0⟩ := zh_n (t := zs_tC) (q := 17) (k := 1) h.1.1 rfl
  obtain ⟨r3, z3, w3, f1, f2, f3, f4, f5, f6⟩ := rr_house h.1.1 h.1.2.1 e0 (by rw [← h.1.2.2.1.1]; exact e0) hn (fun k hk => h.1.2.2.1.2.2.2 k (by rw [e0, nI_toInt (by omega)]; omega))
  rw [e1] at f1
  cases f1
  rw [e2] at f2
  cases f2
  obtain ⟨r2, w, g1, b2, d1, d2, d3, d4, d5, d6⟩ := zm_house h.1.2.1
  rw [e2] at g1
  cases g1
  refine ⟨r, σ1, τ1, e1, e2, hJ, ?_, fun j hj => rr_Hc (zh_cbS h.1.1 (zh_3 hj)) (fun q a b => zk_houseH h.1.1 e1 q (by omega) (by omega)) (fun k _ => by rw [d6]) (h.2.2 j hj)⟩
  by_cases c : σ1.1 17 2 = 0
  · exact f5 c
  · exact rr_Hc (zh_cbS h.1.1 (Or.inl rfl)) (fun q a b => (f6 c).1 q (by omega) (by omega)) (fun k _ => by rw [(f6 c).2]) h.2.1
end
section
/-! dull, bears, clean of the reference: the house told is left as it was -/
theorem qb_it {S T : Type} {f : S → Option (S ⊕ T)} {I : S → Prop} {E : T → Prop} (step : ∀ s o, I s → f s = some o → (∀ s', o = .inl s' → I s') ∧ ∀ t, o = .inr t → E t) : ∀ (n : Nat) (s : S) (t : T), I s → sn_it f n s = some t → E t := by
  intro n
  induction n with
  | zero =>
    intro s t _ e
    unfold sn_it at e
    cases e
  | succ n ih =>
    intro s t hI e
    unfold sn_it at e
    cases x : f s with
    | none =>
      rw [x] at e
      cases e
    | some o =>
      rw [x] at e
      have h := step s o hI x
      cases o with
      | inl s' => exact ih s' t (h.1 s' rfl) e
      | inr t' =>
        have q := h.2 t' rfl
        cases e
        exact q
theorem qb_90 {σ : sn_S} {x1 x3 x4 x5 x6 x7 x8 t0 : Int32} {o : (sn_S × Int32 × Int32) ⊕ (sn_S × Int32)} (h : BX9_quietBy_90 σ x1 x3 x4 x5 x6 x7 x8 t0 = some o) : ∃ q, o = .inl (σ, q, x8 + x7) := by
  unfold BX9_quietBy_90 BX9_quietBy_103 at h
  by_cases c : t0 = 0
  · rw [if_pos c, rr_lt] at h
    cases h
    exact ⟨_, rfl⟩
  · rw [if_neg c, rr_lt] at h
    cases h
    exact ⟨_, rfl⟩
def qb_I (τ : sn_S) (x1 : Int32) (R : Int32 → Prop) (s : sn_S × Int32 × Int32) : Prop := zs_SB zs_tM s.1 ∧ (∀ k, k ≠ x1.toNatClampNeg → s.1.1 1 k = τ.1 1 k) ∧ s.1.1 2 = τ.1 2 ∧ R s.2.2
theorem qb_loop {τ : sn_S} {x1 x3 x4 x5 x7 : Int32} {R : Int32 → Prop} (hR : ∀ x8, R x8 → ¬ x8 = x3 + x7 → ((zs_tM 1 x1.toNatClampNeg).1 ≤ x8.toInt ∧ x8.toInt ≤ (zs_tM 1 x1.toNatClampNeg).2) ∧ R (x8 + x7)) {s : sn_S × Int32 × Int32} {t : sn_S × Int32} (h : qb_I τ x1 R s) (e : sn_it (LX9_quietBy_26 x1 x3 x4 x5 x7) 5000 s = some t) : (∀ k, k ≠ x1.toNatClampNeg → t.1.1 1 k = τ.1 1 k) ∧ t.1.1 2 = τ.1 2 := by
  refine qb_it (I := qb_I τ x1 R) (E := fun t => (∀ k, k ≠ x1.toNatClampNeg → t.1.1 1 k = τ.1 1 k) ∧ t.1.1 2 = τ.1 2) (fun s o hI e => ?_) 5000 s t h e
  obtain ⟨σ, x6, x8⟩ := s
  obtain ⟨hS, h1, h2, h8⟩ := hI
  have hS : zs_SB zs_tM σ := hS
  have h1 : ∀ k, k ≠ x1.toNatClampNeg → σ.1 1 k = τ.1 1 k := h1
  have h2 : σ.1 2 = τ.1 2 := h2
  have h8 : R x8 := h8
  have e : BX9_quietBy_26 σ x1 x3 x4 x5 x6 x7 x8 = some o := e
  unfold BX9_quietBy_26 at e
  by_cases c : x8 = x3 + x7
  · rw [if_pos c] at e
    cases e
    exact ⟨fun s' x => (by cases x), fun t x => (by cases x; exact ⟨h1, h2⟩)⟩
  rw [if_neg c] at e
  by_cases c2 : x6 = -1
  · rw [if_pos c2] at e
    obtain ⟨r8, R8⟩ := hR x8 h8 c
    obtain ⟨_, e⟩ := sn_gdE e
    rw [rr_lt] at e
    obtain ⟨t6, e6, e⟩ := sn_bd e
    have S4 : zs_SB zs_tM (sn_pI σ 1 x1.toNatClampNeg x8) := zs_sbw hS r8
    obtain ⟨z, ez, hz⟩ := zc_92 (zs_rf (key := zs_kM) (kl := zs_lM) S4)
    rw [e6] at ez
    cases ez
    have fin : ∀ q, o = .inl (t6.2, q, x8 + x7) → (∀ s', o = .inl s' → qb_I τ x1 R s') ∧ ∀ t : sn_S × Int32, o = .inr t → ((∀ k, k ≠ x1.toNatClampNeg → t.1.1 1 k = τ.1 1 k) ∧ t.1.1 2 = τ.1 2) := by
      intro q x
      subst x
      refine ⟨fun s' y => ?_, fun t y => by cases y⟩
      cases y
      refine ⟨hz.2.1, fun k hk => ?_, ?_, R8⟩
      · show t6.2.1 1 k = _
        rw [hz.2.2.1 1 k rfl, pI_slot hk]
        exact h1 k hk
      · show t6.2.1 2 = _
        rw [show t6.2.1 2 = (sn_pI σ 1 x1.toNatClampNeg x8).1 2 from funext fun k => hz.2.2.1 2 k rfl, pI_ne (by decide)]
        exact h2
    by_cases c4 : x4 = -1
    · rw [if_pos c4] at e
      obtain ⟨t11, _, e⟩ := sn_bd e
      by_cases c5 : t11 = 0
      · rw [if_pos c5] at e
        obtain ⟨q, hq⟩ := qb_90 e
        exact fin q hq
      · rw [if_neg c5] at e
        obtain ⟨q, hq⟩ := qb_90 e
        exact fin q hq
    · rw [if_neg c4] at e
      obtain ⟨_, e⟩ := sn_gdE e
      by_cases c5 : sn_I t6.2 10 x4.toNatClampNeg = 0
      · rw [if_pos c5] at e
        obtain ⟨q, hq⟩ := qb_90 e
        exact fin q hq
      · rw [if_neg c5] at e
        obtain ⟨q, hq⟩ := qb_90 e
        exact fin q hq
  · rw [if_neg c2] at e
    cases e
    exact ⟨fun s' x => (by cases x), fun t x => (by cases x; exact ⟨h1, h2⟩)⟩
theorem qb_21 {τ : sn_S} {x1 x2 x3 x4 x6 t0 : Int32} {R : Int32 → Prop} (hM : zs_SB zs_tM τ) (hR : ∀ x8, R x8 → ¬ x8 = x3 + t0 → ((zs_tM 1 x1.toNatClampNeg).1 ≤ x8.toInt ∧ x8.toInt ≤ (zs_tM 1 x1.toNatClampNeg).2) ∧ R (x8 + t0)) (h2 : R x2) {r : Int32 × sn_S} (e : BX9_quietBy_21 τ x1 x2 x3 x4 (sn_I τ 1 x1.toNatClampNeg) x6 t0 = some r) : r.2.1 1 = τ.1 1 ∧ r.2.1 2 = τ.1 2 := by
  unfold BX9_quietBy_21 at e
  obtain ⟨t, et, e⟩ := sn_bd e
  obtain ⟨g1, g2⟩ := qb_loop (τ := τ) hR (s := (τ, x6, x2)) ⟨hM, fun _ _ => rfl, rfl, h2⟩ et
  unfold BX9_quietBy_115 at e
  obtain ⟨_, e⟩ := sn_gdE e
  rw [rr_lt] at e
  cases e
  refine ⟨funext fun k => ?_, ?_⟩
  · show (sn_pI t.1 1 x1.toNatClampNeg (τ.1 1 x1.toNatClampNeg)).1 1 k = _
    by_cases c : k = x1.toNatClampNeg
    · subst c
      rw [pI_self]
    · rw [pI_slot c]
      exact g1 k c
  · show (sn_pI t.1 1 x1.toNatClampNeg (τ.1 1 x1.toNatClampNeg)).1 2 = _
    rw [pI_ne (by decide)]
    exact g2
theorem qb_m1 {x8 : Int32} : ¬ x8 = (0 : Int32) + (-1 : Int32) → x8.toInt ≠ -1 := fun h e => h (Int32.toInt_inj.mp (e.trans (by decide)))
theorem qb_down {a b : Int} (ha : a ≤ 0) (hb : 9 ≤ b) (x8 : Int32) (h : -1 ≤ x8.toInt ∧ x8.toInt ≤ 9) (c : ¬ x8 = (0 : Int32) + (-1 : Int32)) : (a ≤ x8.toInt ∧ x8.toInt ≤ b) ∧ -1 ≤ (x8 + (-1 : Int32)).toInt ∧ (x8 + (-1 : Int32)).toInt ≤ 9 := by
  have c1 := qb_m1 c
  have e : (x8 + (-1 : Int32)).toInt = x8.toInt + -1 := by
    rw [Int32.toInt_add, show (-1 : Int32).toInt = -1 by decide, zs_bm ⟨by omega, by omega⟩]
  rw [e]
  exact ⟨⟨by omega, by omega⟩, by omega, by omega⟩
theorem qb_100 {x8 : Int32} : ¬ x8 = (99 : Int32) + (1 : Int32) → x8.toInt ≠ 100 := fun h e => h (Int32.toInt_inj.mp (e.trans (by decide)))
theorem qb_up (x8 : Int32) (h : 1 ≤ x8.toInt ∧ x8.toInt ≤ 100) (c : ¬ x8 = (99 : Int32) + (1 : Int32)) : (0 ≤ x8.toInt ∧ x8.toInt ≤ 99) ∧ 1 ≤ (x8 + (1 : Int32)).toInt ∧ (x8 + (1 : Int32)).toInt ≤ 100 := by
  have c1 := qb_100 c
  have e : (x8 + (1 : Int32)).toInt = x8.toInt + 1 := by
    rw [Int32.toInt_add, show (1 : Int32).toInt = 1 by decide, zs_bm ⟨by omega, by omega⟩]
  rw [e]
  exact ⟨⟨by omega, by omega⟩, by omega, by omega⟩
theorem qb_who {τ : sn_S} (hM : zs_SB zs_tM τ) {a v : Int32} (e : fX9_isPerson τ a.toInt64 = some v) (c : ¬ v = 0) : ∃ p : Nat, p < 6 ∧ a = nI p := by
  have b : 0 ≤ (τ.1 1 5).toInt ∧ (τ.1 1 5).toInt ≤ 6 := hM.1 1 5
  have h0 : (0 : Int32) ≤ τ.1 1 5 := Int32.le_iff_toInt_le.mpr (by rw [show (0 : Int32).toInt = 0 by decide]; exact b.1)
  rw [m_isPerson h0 a] at e
  by_cases x : 0 ≤ a ∧ a < τ.1 1 5
  · have c1 := zs_I_le x.1
    have c2 := zs_I_lt x.2
    rw [show (0 : Int32).toInt = 0 by decide] at c1
    obtain ⟨p, hp, ep⟩ := zs_val (x := a) (a := 0) (b := 5) ⟨c1, by omega⟩ (by decide)
    have hp : p < 6 := hp
    exact ⟨p, hp, ep⟩
  · rw [if_neg x] at e
    cases e
    exact absurd rfl c
theorem qb_t (p : Nat) (hp : p < 6) : zs_tM 1 (11 + 2 * p) = (0, 99) ∧ zs_tM 1 (12 + 2 * p) = (0, 99) := by
  have : ∀ p, p < 6 → zs_tM 1 (11 + 2 * p) = (0, 99) ∧ zs_tM 1 (12 + 2 * p) = (0, 99) := by decide
  exact this p hp
theorem qb_dull {τ : sn_S} {a : Int32} {r : Int32 × sn_S} (hM : zs_SB zs_tM τ) (e : fX9_dull τ a = some r) : r.2.1 1 = τ.1 1 ∧ r.2.1 2 = τ.1 2 := by
  unfold fX9_dull at e
  obtain ⟨v, ev, e⟩ := sn_bd e
  by_cases c : v = 0
  · rw [if_pos c] at e
    cases e
    exact ⟨rfl, rfl⟩
  rw [if_neg c] at e
  obtain ⟨p, hp, ep⟩ := qb_who hM ev c
  subst ep
  obtain ⟨y, ey, e⟩ := sn_bd e
  cases e
  have i : (11 : Int32) + ((2 : Int32) * nI p) = nI (11 + 2 * p) := by rw [zk_2n]; exact nI_add 11 (2 * p)
  rw [i] at ey
  unfold fX9_quietBy at ey
  obtain ⟨_, ey⟩ := sn_gdE ey
  rw [rr_lt, if_neg (show ¬ (9 : Int32) ≤ 0 by decide)] at ey
  exact qb_21 (R := fun x => -1 ≤ x.toInt ∧ x.toInt ≤ 9) hM (fun x8 h c => by
    rw [nI_clamp (by omega), (qb_t p hp).1]
    exact qb_down (by decide) (by decide) x8 h c) (show (-1 : Int) ≤ (9 : Int32).toInt ∧ (9 : Int32).toInt ≤ 9 by decide) ey
theorem qb_bears {τ : sn_S} {a : Int32} {r : Int32 × sn_S} (hM : zs_SB zs_tM τ) (e : fX9_bears τ a = some r) : r.2.1 1 = τ.1 1 ∧ r.2.1 2 = τ.1 2 := by
  unfold fX9_bears at e
  obtain ⟨v, ev, e⟩ := sn_bd e
  by_cases c : v = 0
  · rw [if_pos c] at e
    cases e
    exact ⟨rfl, rfl⟩
  rw [if_neg c] at e
  obtain ⟨p, hp, ep⟩ := qb_who hM ev c
  subst ep
  obtain ⟨y, ey, e⟩ := sn_bd e
  cases e
  have i : ((11 : Int32) + ((2 : Int32) * nI p)) + (1 : Int32) = nI (12 + 2 * p) := by
    rw [zk_2n, show (11 : Int32) + nI (2 * p) = nI (11 + 2 * p) from nI_add 11 (2 * p), nI_1, show 11 + 2 * p + 1 = 12 + 2 * p by omega]
  rw [i] at ey
  unfold fX9_quietBy at ey
  obtain ⟨_, ey⟩ := sn_gdE ey
  rw [rr_lt, if_pos (show (1 : Int32) ≤ 99 by decide)] at ey
  exact qb_21 (R := fun x => 1 ≤ x.toInt ∧ x.toInt ≤ 100) hM (fun x8 h c => by
    rw [nI_clamp (by omega), (qb_t p hp).2]
    exact qb_up x8 h c) (show (1 : Int) ≤ (1 : Int32).toInt ∧ (1 : Int32).toInt ≤ 100 by decide) ey
theorem qb_clean {τ : sn_S} {r : Int32 × sn_S} (hM : zs_SB zs_tM τ) (e : fX9_clean τ = some r) : r.2.1 1 = τ.1 1 ∧ r.2.1 2 = τ.1 2 := by
  unfold fX9_clean at e
  obtain ⟨v, ev, e⟩ := sn_bd e
  by_cases c : v = 0
  · rw [if_pos c] at e
    cases e
    exact ⟨rfl, rfl⟩
  rw [if_neg c] at e
  obtain ⟨y, ey, e⟩ := sn_bd e
  cases e
  unfold fX9_quietBy at ey
  obtain ⟨_, ey⟩ := sn_gdE ey
  rw [rr_lt, if_neg (show ¬ (9 : Int32) ≤ 0 by decide)] at ey
  exact qb_21 (R := fun x => -1 ≤ x.toInt ∧ x.toInt ≤ 9) hM (fun x8 h c => by
    rw [show zs_tM 1 (1 : Int32).toNatClampNeg = (0, 9) from rfl]
    exact qb_down (by decide) (by decide) x8 h c) (show (-1 : Int) ≤ (9 : Int32).toInt ∧ (9 : Int32).toInt ≤ 9 by decide) ey
theorem zJ_keep0 {σ σ' τ τ' : sn_S} (hC : zs_C σ σ') (hM : zs_M0 τ τ') (m : τ'.1 1 = τ.1 1 ∧ τ'.1 2 = τ.1 2) (h : zJ σ τ) : zJ σ' τ' := ⟨zj_keep (zs_c0 hC) hM h.1, zh_Jc h.1.1 (fun q hq => funext fun k => hC.2.1 q k (zs_kCh hq)) m.1 m.2 h.2⟩
end
section
/-! how many -/
theorem zq_rows {σ τ : sn_S} (h : zJ σ τ) : rr_ok (fX6_howMany σ) ((sn_it (LX9_count_42 τ) 5000 ((0 : Int32), (0 : Int32))).bind fun t_6 => BX9_count_71 τ t_6) (fun x y => x = y) := by
  unfold fX6_howMany
  refine rr_bd (Q := fun x y => x = y) (rr_it (E := fun x y => x = y) (J := fun (s s' : Int32 × Int32) => s = s' ∧ ∃ k : Nat, k ≤ 4 ∧ s.2 = nI k) (m := fun s => 4 - s.2.toInt) (fun s s' hs => ?_) (fun s s' hs => ?_) ⟨rfl, 0, by decide, rfl⟩) (fun a b e => ?_)
  · obtain ⟨_, k, hk, e⟩ := hs
    rw [e, nI_toInt (by omega)]
    exact ⟨by omega, by omega⟩
  · obtain ⟨e, k, hk, ek⟩ := hs
    subst e
    obtain ⟨x, i⟩ := s
    have ek : i = nI k := ek
    subst ek
    unfold LX6_howMany_4 BX6_howMany_4 LX9_count_42 BX9_count_42
    by_cases k4 : k = 4
    · subst k4
      rw [if_pos (show (4 : Int32) ≤ ((x, nI 4) : Int32 × Int32).2 from Int32.le_refl _), if_pos (show (4 : Int32) ≤ ((x, nI 4) : Int32 × Int32).2 from Int32.le_refl _)]
      exact rr_some (Or.inr ⟨_, _, rfl, rfl, rfl⟩)
    · have kl : k < 4 := by omega
      have n4 : ¬ (4 : Int32) ≤ ((x, nI k) : Int32 × Int32).2 := nI_ge (b := 4) kl (by decide)
      have es : σ.1 26 k = τ.1 21 k := (h.1.2.2.2.2.1 k kl).1
      have go : ∀ d : Int32, rr_ok (BX6_howMany_23 σ x (nI k) x d) (BX9_count_63 τ x (nI k) x d) (fun o o' => (∃ a a', o = .inl a ∧ o' = .inl a' ∧ (a = a' ∧ ∃ k : Nat, k ≤ 4 ∧ a.2 = nI k) ∧ 4 - a.2.toInt < 4 - (nI k).toInt) ∨ ∃ b b', o = .inr b ∧ o' = .inr b' ∧ b = b') := fun d => by
        unfold BX6_howMany_23 BX9_count_63
        rw [rr_lt, rr_lt]
        refine rr_some (Or.inl ⟨_, _, rfl, rfl, ⟨rfl, k + 1, by omega, nI_1 k⟩, ?_⟩)
        show 4 - (nI k + 1).toInt < 4 - (nI k).toInt
        rw [nI_1, nI_toInt (by omega), nI_toInt (by omega)]
        omega
      rw [if_neg n4, if_neg n4]
      show rr_ok ((fX6_has σ (nI k)).bind fun t_2 => if t_2 = 0 then BX6_howMany_23 σ x (nI k) x 0 else BX6_howMany_23 σ x (nI k) x 1) (sn_gd (sn_in (nI k) 4) (if sn_I τ 21 (nI k).toNatClampNeg = (-1 : Int32) then BX9_count_63 τ x (nI k) x 0 else BX9_count_63 τ x (nI k) x 1)) _
      rw [c_has σ kl, sn_in_nI kl (by decide), gd_T, nI_clamp (by omega), es]
      by_cases c : τ.1 21 k = -1
      · rw [if_pos c, bd_t0, if_pos (show sn_I τ 21 k = -1 from c)]
        exact go 0
      · rw [if_neg c, bd_t1, if_neg (show ¬ sn_I τ 21 k = -1 from c)]
        exact go 1
  · exact rr_some e
theorem zJ_66 : ∀ (σ τ : sn_S) (a : Int32), zJ σ τ → ∃ r, fX8_count σ a = some r ∧ fX9_count τ a = some r := by
  intro σ τ a h
  have e9 : fX9_in a.toInt64 (0 : Int64) (10 : Int64) = some (if (0 : Int32) ≤ a ∧ a ≤ (10 : Int32) then 1 else 0) := in_eq32 a 0 10
  unfold fX8_count fX9_count
  rw [e9]
  by_cases c11 : a = 11
  · subst c11
    rw [if_pos rfl, if_neg (show ¬ ((0 : Int32) ≤ 11 ∧ (11 : Int32) ≤ 10) by decide), bd_t0, if_pos rfl]
    exact ⟨σ.1 17 1, rfl, by show some (τ.1 0 5) = _; rw [h.1.2.2.1.1]⟩
  by_cases c12 : a = 12
  · subst c12
    rw [if_neg (show ¬ (12 : Int32) = 11 by decide), if_pos rfl, if_neg (show ¬ ((0 : Int32) ≤ 12 ∧ (12 : Int32) ≤ 10) by decide), bd_t0, if_neg (show ¬ (12 : Int32) = 11 by decide), if_pos rfl]
    obtain ⟨x, y, e1, e2, e3⟩ := zq_rows h
    exact ⟨x, by rw [e1]; rfl, by rw [e2, ← e3]⟩
  rw [if_neg c11, if_neg c12]
  by_cases c0 : a < 0
  · rw [if_pos c0, if_neg (show ¬ ((0 : Int32) ≤ a ∧ a ≤ 10) from fun x => absurd c0 (Int32.not_lt.mpr x.1)), bd_t0, if_neg c11, if_neg c12]
    exact ⟨-1, rfl, rfl⟩
  rw [if_neg c0]
  by_cases c1 : a < 11
  · obtain ⟨j, hj, ej⟩ := nI_idx (n := 11) (by decide) (Int32.not_lt.mp c0) c1
    subst ej
    rw [if_pos c1, if_pos (show (0 : Int32) ≤ nI j ∧ nI j ≤ 10 from ⟨Int32.not_lt.mp c0, nI_le (b := 10) (by omega) (by decide)⟩), bd_t1, sn_in_nI hj (by decide), gd_T, sn_in_nI (by omega) (by decide), gd_T, nI_clamp (by omega)]
    exact ⟨σ.1 2 j, rfl, by show some (τ.1 1 j) = some (σ.1 2 j); rw [← h.2.1.1 j hj]⟩
  · rw [if_neg c1, if_neg (show ¬ ((0 : Int32) ≤ a ∧ a ≤ 10) from fun x => c1 (Int32.lt_of_le_of_lt x.2 (by decide))), bd_t0, if_neg c11, if_neg c12]
    exact ⟨-1, rfl, rfl⟩
end
section
/-! the rows of numbers: the houses stay alike -/
theorem zJ_69 : ∀ (σ τ : sn_S) (a w n : Int32), zJ σ τ → ∃ r σ1 τ1, fX8_row σ a w n = some (r, σ1) ∧ fX9_row τ a w n = some (r, τ1) ∧ zJ σ1 τ1 := by
  intro σ τ a w n hJ
  have hS := hJ.1.2.2.2.2
  have cs := c_isSlot a
  have ms := m_isSlot a
  have mi : fX9_in w.toInt64 (0 : Int64) (3 : Int64) = some (if 0 ≤ w ∧ w ≤ 3 then 1 else 0) := in_eq32 w 0 3
  by_cases hs : 0 ≤ a ∧ a < 4
  · rw [if_pos hs] at cs ms
    by_cases hw : 0 ≤ w ∧ w ≤ 3
    · rw [if_pos hw] at mi
      by_cases hn : n ≤ 60
      · by_cases hn0 : 0 ≤ n
        · obtain ⟨s, hs4, ea⟩ := nI_idx (n := 4) (by decide) hs.1 hs.2
          subst ea
          have emake : fX6_make σ (nI s) w n = some ((sn_pI (sn_pI σ 25 s w) 26 s n).1, (fun a b => if a = 21 + s ∧ b < 60 then 0 else σ.2.1 a b), σ.2.2) := by
            unfold fX6_make
            simp only [sn_in_nI hs4 (by decide), gd_T, sn_lt, nI_clamp (show s < 2 ^ 31 by omega), at20 hs4]
            rw [fillL _ _ _ _ (by decide)]
            rfl
          refine ⟨0, ((sn_pI (sn_pI σ 25 s w) 26 s n).1, (fun a b => if a = 21 + s ∧ b < 60 then 0 else σ.2.1 a b), σ.2.2), ((sn_pI (sn_pI τ 21 s n) 22 s w).1, (fun a b => if a = 23 ∧ 60 * s ≤ b ∧ b < 60 * s + 60 then 0 else τ.2.1 a b), τ.2.2), ?_, ?_, ?_⟩
          · unfold fX8_row
            rw [cs]
            show (if w < 0 then _ else if 3 < w then _ else if n ≤ 60 then _ else _) = _
            rw [if_neg (Int32.not_lt.mpr hw.1), if_neg (Int32.not_lt.mpr hw.2), if_pos hn, if_pos hn0, emake]
            rfl
          · unfold fX9_row
            rw [ms]
            show (fX9_in w.toInt64 (0 : Int64) (3 : Int64)).bind _ = _
            rw [mi]
            show (if n ≤ 60 then (if 0 ≤ n then _ else _) else _) = _
            rw [if_pos hn, if_pos hn0]
            simp only [sn_in_nI hs4 (by decide), gd_T, sn_lt, nI_clamp (show s < 2 ^ 31 by omega)]
            rw [m_rowzero _ s hs4]
            rfl
          · have w1 := zs_I_le hw.1
            have w2 := zs_I_le hw.2
            have n1 := zs_I_le hn
            have n2 := zs_I_le hn0
            have e0 : (0 : Int32).toInt = 0 := by decide
            have e3 : (3 : Int32).toInt = 3 := by decide
            have e60 : (60 : Int32).toInt = 60 := by decide
            have bC : zs_SB zs_tC (sn_pI (sn_pI σ 25 s w) 26 s n) := zs_sbw (zs_sbw hJ.1.1 (by rw [show zs_tC 25 s = (0, 3) from rfl]; exact ⟨by omega, by omega⟩)) (by rw [show zs_tC 26 s = (-1, 60) from rfl]; exact ⟨by omega, by omega⟩)
            have bM : zs_SB zs_tM (sn_pI (sn_pI τ 21 s n) 22 s w) := zs_sbw (zs_sbw hJ.1.2.1 (by rw [show zs_tM 21 s = (-1, 60) from rfl]; exact ⟨by omega, by omega⟩)) (by rw [show zs_tM 22 s = (0, 3) from rfl]; exact ⟨by omega, by omega⟩)
            refine zJ_rows ?_ (fun q q1 q2 => ?_) (fun q q1 q2 => ?_) bC bM hJ
            · refine ⟨fun t ht => ?_, fun i hi => ?_⟩
              · obtain ⟨b1, b2, b3, b4⟩ := hS.1 t ht
                show (if 26 = 26 ∧ t = s then n else if 26 = 25 ∧ t = s then w else σ.1 26 t) = (if 21 = 22 ∧ t = s then w else if 21 = 21 ∧ t = s then n else τ.1 21 t) ∧ (if 25 = 26 ∧ t = s then n else if 25 = 25 ∧ t = s then w else σ.1 25 t) = (if 22 = 22 ∧ t = s then w else if 22 = 21 ∧ t = s then n else τ.1 22 t) ∧ (-1 ≤ (if 26 = 26 ∧ t = s then n else if 26 = 25 ∧ t = s then w else σ.1 26 t) ∧ (if 26 = 26 ∧ t = s then n else if 26 = 25 ∧ t = s then w else σ.1 26 t) ≤ 60) ∧ (0 ≤ (if 25 = 26 ∧ t = s then n else if 25 = 25 ∧ t = s then w else σ.1 25 t) ∧ (if 25 = 26 ∧ t = s then n else if 25 = 25 ∧ t = s then w else σ.1 25 t) ≤ 3)
                by_cases hts : t = s
                · simp [hts, hn, hw.1, hw.2, Int32.le_trans (show (-1 : Int32) ≤ 0 by decide) hn0]
                · simp [hts, b1, b2, b3, b4]
                  rw [← b1, ← b2]
                  exact ⟨b3, b4⟩
              · obtain ⟨b1, b2, b3, b4⟩ := hS.2 i hi
                show (if 21 = 21 + s ∧ i < 60 then (0 : Int64) else σ.2.1 21 i) = (if 23 = 23 ∧ 60 * s ≤ i ∧ i < 60 * s + 60 then 0 else τ.2.1 23 i) ∧ (if 22 = 21 + s ∧ i < 60 then (0 : Int64) else σ.2.1 22 i) = (if 23 = 23 ∧ 60 * s ≤ 60 + i ∧ 60 + i < 60 * s + 60 then 0 else τ.2.1 23 (60 + i)) ∧ (if 23 = 21 + s ∧ i < 60 then (0 : Int64) else σ.2.1 23 i) = (if 23 = 23 ∧ 60 * s ≤ 120 + i ∧ 120 + i < 60 * s + 60 then 0 else τ.2.1 23 (120 + i)) ∧ (if 24 = 21 + s ∧ i < 60 then (0 : Int64) else σ.2.1 24 i) = (if 23 = 23 ∧ 60 * s ≤ 180 + i ∧ 180 + i < 60 * s + 60 then 0 else τ.2.1 23 (180 + i))
                rw [← b1, ← b2, ← b3, ← b4]
                have key : ∀ (A B : Prop) [Decidable A] [Decidable B] (x : Int64), (A ↔ B) → (if A then (0 : Int64) else x) = (if B then 0 else x) := fun A B _ _ x h => by
                  by_cases hA : A
                  · rw [if_pos hA, if_pos (h.mp hA)]
                  · rw [if_neg hA, if_neg (fun z => hA (h.mpr z))]
                exact ⟨key _ _ _ (by omega), key _ _ _ (by omega), key _ _ _ (by omega), key _ _ _ (by omega)⟩
            · show (sn_pI (sn_pI σ 25 s w) 26 s n).1 q = σ.1 q
              rw [pI_ne q2, pI_ne q1]
            · show (sn_pI (sn_pI τ 21 s n) 22 s w).1 q = τ.1 q
              rw [pI_ne q2, pI_ne q1]
        · refine ⟨-3, σ, τ, ?_, ?_, hJ⟩
          · unfold fX8_row
            rw [cs]
            show (if w < 0 then _ else if 3 < w then _ else if n ≤ 60 then _ else _) = _
            rw [if_neg (Int32.not_lt.mpr hw.1), if_neg (Int32.not_lt.mpr hw.2), if_pos hn, if_neg hn0]
          · unfold fX9_row
            rw [ms]
            show (fX9_in w.toInt64 (0 : Int64) (3 : Int64)).bind _ = _
            rw [mi]
            show (if n ≤ 60 then (if 0 ≤ n then _ else _) else _) = _
            rw [if_pos hn, if_neg hn0]
      · refine ⟨-2, σ, τ, ?_, ?_, hJ⟩
        · unfold fX8_row
          rw [cs]
          show (if w < 0 then _ else if 3 < w then _ else if n ≤ 60 then _ else _) = _
          rw [if_neg (Int32.not_lt.mpr hw.1), if_neg (Int32.not_lt.mpr hw.2), if_neg hn]
        · unfold fX9_row
          rw [ms]
          show (fX9_in w.toInt64 (0 : Int64) (3 : Int64)).bind _ = _
          rw [mi]
          show (if n ≤ 60 then (if 0 ≤ n then _ else _) else _) = _
          rw [if_neg hn]
    · rw [if_neg hw] at mi
      refine ⟨-2, σ, τ, ?_, ?_, hJ⟩
      · unfold fX8_row
        rw [cs]
        show (if w < 0 then _ else if 3 < w then _ else _) = _
        by_cases h0 : w < 0
        · rw [if_pos h0]
        · rw [if_neg h0, if_pos (Int32.not_le.mp (fun h => hw ⟨Int32.not_lt.mp h0, h⟩))]
      · unfold fX9_row
        rw [ms]
        show (fX9_in w.toInt64 (0 : Int64) (3 : Int64)).bind _ = _
        rw [mi]
        rfl
  · rw [if_neg hs] at cs ms
    refine ⟨-2, σ, τ, ?_, ?_, hJ⟩
    · unfold fX8_row
      rw [cs]
      rfl
    · unfold fX9_row
      rw [ms]
      rfl
theorem zJ_70 : ∀ (σ τ : sn_S) (a i : Int32) (v : Int64), zJ σ τ → ∃ r σ1 τ1, fX8_write σ a i v = some (r, σ1) ∧ fX9_write τ a i v = some (r, τ1) ∧ zJ σ1 τ1 := by
  intro σ τ a i v hJ
  have hS := hJ.1.2.2.2.2
  have cs := c_isSlot a
  have ms := m_isSlot a
  by_cases hs : 0 ≤ a ∧ a < 4
  · rw [if_pos hs] at cs ms
    obtain ⟨s, hs4, ea⟩ := nI_idx (n := 4) (by decide) hs.1 hs.2
    subst ea
    obtain ⟨b1, b2, b3, b4⟩ := hS.1 s hs4
    have ch := c_has σ hs4
    by_cases hm : σ.1 26 s = -1
    · rw [if_pos hm] at ch
      refine ⟨-6, σ, τ, ?_, ?_, hJ⟩
      · unfold fX8_write
        rw [cs]
        show (fX6_has σ (nI s)).bind _ = _
        rw [ch]
        rfl
      · unfold fX9_write
        rw [ms]
        show sn_gd (sn_in (nI s) 4) (if τ.1 21 (nI s).toNatClampNeg = -1 then _ else _) = _
        rw [sn_in_nI hs4 (by decide), gd_T, nI_clamp (by omega), if_pos (by rw [← b1]; exact hm)]
    · rw [if_neg hm] at ch
      have hge : 0 ≤ σ.1 26 s := by
        have q1 := Int32.le_iff_toInt_le.mp b3.1
        have q2 : σ.1 26 s ≠ -1 := hm
        rw [Int32.le_iff_toInt_le]
        have q3 : (σ.1 26 s).toInt ≠ (-1 : Int32).toInt := fun z => q2 (Int32.toInt_inj.mp z)
        have e1 : (-1 : Int32).toInt = -1 := by decide
        have e0 : (0 : Int32).toInt = 0 := by decide
        omega
      have mi : fX9_in i.toInt64 (0 : Int64) ((sn_I τ 21 (nI s).toNatClampNeg - 1).toInt64) = some (if 0 ≤ i ∧ i < σ.1 26 s then 1 else 0) := by
        rw [nI_clamp (by omega)]
        show fX9_in i.toInt64 (0 : Int32).toInt64 ((τ.1 21 s - 1).toInt64) = _
        rw [in_eq32, ← b1]
        simp only [i32_le_sub1 hge]
      by_cases hi : 0 ≤ i ∧ i < σ.1 26 s
      · rw [if_pos hi] at mi
        obtain ⟨k, hk, ek⟩ := nI_idx (n := 60) (by decide) hi.1 (by
          have q1 := Int32.le_iff_toInt_le.mp b3.2
          have q2 := Int32.lt_iff_toInt_lt.mp hi.2
          rw [Int32.lt_iff_toInt_lt]
          exact Int.lt_of_lt_of_le q2 q1)
        subst ek
        refine ⟨0, sn_pL σ (21 + s) k (sp_keep (σ.1 25 s) v), sn_pL τ 23 (60 * s + k) (sp_keep (σ.1 25 s) v), ?_, ?_, ?_⟩
        · unfold fX8_write
          rw [cs]
          show (fX6_has σ (nI s)).bind _ = _
          rw [ch]
          show (if nI k < 0 then _ else sn_gd (sn_in (nI s) 4) (if nI k < σ.1 26 (nI s).toNatClampNeg then _ else _)) = _
          rw [if_neg (Int32.not_lt.mpr hi.1), sn_in_nI hs4 (by decide), gd_T, nI_clamp (show s < 2 ^ 31 by omega), if_pos hi.2, c_put σ hs4 hk v]
          rfl
        · have ei : (60 : Int32) * nI s + nI k = nI (60 * s + k) := by
            rw [← nI_add, ← nI_mul]
            rfl
          unfold fX9_write
          rw [ms]
          show sn_gd (sn_in (nI s) 4) (if τ.1 21 (nI s).toNatClampNeg = -1 then _ else sn_gd (sn_in (nI s) 4) ((fX9_in (nI k).toInt64 (0 : Int64) ((sn_I τ 21 (nI s).toNatClampNeg - 1).toInt64)).bind _)) = _
          rw [sn_in_nI hs4 (by decide), gd_T, gd_T, mi, nI_clamp (show s < 2 ^ 31 by omega), if_neg (by rw [← b1]; exact hm)]
          rw [Option.bind_some, if_neg (show ¬ (1 : Int32) = 0 by decide), gd_T]
          show (fX9_cut_ v (τ.1 22 s)).bind _ = _
          rw [← b2, m_cut b4 v]
          show sn_gd (sn_in ((60 : Int32) * nI s + nI k) 240) (some (0, sn_pL τ 23 ((60 : Int32) * nI s + nI k).toNatClampNeg (sp_keep (σ.1 25 s) v))) = _
          rw [ei, sn_in_nI (by omega) (by decide), gd_T, nI_clamp (by omega)]
        · refine zJ_rows (σ := σ) (τ := τ) (σ' := sn_pL σ (21 + s) k (sp_keep (σ.1 25 s) v)) (τ' := sn_pL τ 23 (60 * s + k) (sp_keep (σ.1 25 s) v)) ⟨hS.1, fun t ht => ?_⟩ (fun q q1 q2 => rfl) (fun q q1 q2 => rfl) hJ.1.1 hJ.1.2.1 hJ
          obtain ⟨d1, d2, d3, d4⟩ := hS.2 t ht
          have key : ∀ (A B : Prop) [Decidable A] [Decidable B] (x y z : Int64), (A ↔ B) → y = z → (if A then x else y) = (if B then x else z) := fun A B _ _ x y z h e => by
            by_cases hA : A
            · rw [if_pos hA, if_pos (h.mp hA)]
            · rw [if_neg hA, if_neg (fun z => hA (h.mpr z)), e]
          exact ⟨key _ _ _ _ _ (by omega) d1, key _ _ _ _ _ (by omega) d2, key _ _ _ _ _ (by omega) d3, key _ _ _ _ _ (by omega) d4⟩
      · rw [if_neg hi] at mi
        refine ⟨-7, σ, τ, ?_, ?_, hJ⟩
        · unfold fX8_write
          rw [cs]
          show (fX6_has σ (nI s)).bind _ = _
          rw [ch]
          show (if i < 0 then _ else sn_gd (sn_in (nI s) 4) (if i < σ.1 26 (nI s).toNatClampNeg then _ else _)) = _
          rw [sn_in_nI hs4 (by decide), gd_T, nI_clamp (show s < 2 ^ 31 by omega)]
          by_cases h0 : i < 0
          · rw [if_pos h0]
          · rw [if_neg h0, if_neg (fun h => hi ⟨Int32.not_lt.mp h0, h⟩)]
        · unfold fX9_write
          rw [ms]
          show sn_gd (sn_in (nI s) 4) (if τ.1 21 (nI s).toNatClampNeg = -1 then _ else sn_gd (sn_in (nI s) 4) ((fX9_in i.toInt64 (0 : Int64) ((sn_I τ 21 (nI s).toNatClampNeg - 1).toInt64)).bind _)) = _
          rw [sn_in_nI hs4 (by decide), gd_T, gd_T, mi, nI_clamp (show s < 2 ^ 31 by omega), if_neg (by rw [← b1]; exact hm)]
          rfl
  · rw [if_neg hs] at cs ms
    refine ⟨-2, σ, τ, ?_, ?_, hJ⟩
    · unfold fX8_write
      rw [cs]
      rfl
    · unfold fX9_write
      rw [ms]
      rfl
theorem zJ_71 : ∀ (σ τ : sn_S) (a i b k n : Int32), zJ σ τ → ∃ r σ1 τ1, fX8_paste σ a i b k n = some (r, σ1) ∧ fX9_paste τ a i b k n = some (r, τ1) ∧ zJ σ1 τ1 := by
  intro σ τ a i b k n hJ
  have hS := hJ.1.2.2.2.2
  have cs := c_isSlot a
  have ms := m_isSlot a
  have ct := c_isSlot b
  have mt := m_isSlot b
  by_cases hs : 0 ≤ a ∧ a < 4
  · rw [if_pos hs] at cs ms
    by_cases ht : 0 ≤ b ∧ b < 4
    · rw [if_pos ht] at ct mt
      obtain ⟨s, hs4, ea⟩ := nI_idx (n := 4) (by decide) hs.1 hs.2
      obtain ⟨t, ht4, eb⟩ := nI_idx (n := 4) (by decide) ht.1 ht.2
      subst ea
      subst eb
      obtain ⟨b1, b2, b3, b4⟩ := hS.1 s hs4
      obtain ⟨d1, d2, d3, d4⟩ := hS.1 t ht4
      have chs := c_has σ hs4
      have cht := c_has σ ht4
      by_cases hm : σ.1 26 s = -1
      · rw [if_pos hm] at chs
        refine ⟨-6, σ, τ, ?_, ?_, hJ⟩
        · unfold fX8_paste
          rw [cs]
          show (fX6_isSlot (nI t)).bind _ = _
          rw [ct]
          show (fX6_has σ (nI s)).bind _ = _
          rw [chs]
          rfl
        · unfold fX9_paste
          rw [ms]
          show (fX9_isSlot (nI t)).bind _ = _
          rw [mt]
          show sn_gd (sn_in (nI s) 4) (if τ.1 21 (nI s).toNatClampNeg = -1 then _ else _) = _
          rw [sn_in_nI hs4 (by decide), gd_T, nI_clamp (by omega), if_pos (by rw [← b1]; exact hm)]
      · rw [if_neg hm] at chs
        by_cases hm2 : σ.1 26 t = -1
        · rw [if_pos hm2] at cht
          refine ⟨-6, σ, τ, ?_, ?_, hJ⟩
          · unfold fX8_paste
            rw [cs]
            show (fX6_isSlot (nI t)).bind _ = _
            rw [ct]
            show (fX6_has σ (nI s)).bind _ = _
            rw [chs]
            show (fX6_has σ (nI t)).bind _ = _
            rw [cht]
            rfl
          · unfold fX9_paste
            rw [ms]
            show (fX9_isSlot (nI t)).bind _ = _
            rw [mt]
            show sn_gd (sn_in (nI s) 4) (if τ.1 21 (nI s).toNatClampNeg = -1 then _ else sn_gd (sn_in (nI t) 4) (if τ.1 21 (nI t).toNatClampNeg = -1 then _ else _)) = _
            rw [sn_in_nI hs4 (by decide), gd_T, nI_clamp (show s < 2 ^ 31 by omega), if_neg (by rw [← b1]; exact hm), sn_in_nI ht4 (by decide), gd_T, nI_clamp (show t < 2 ^ 31 by omega), if_pos (by rw [← d1]; exact hm2)]
        · rw [if_neg hm2] at cht
          have hL := zp_neg1 b3.1 hm
          have hL2 := zp_neg1 d3.1 hm2
          by_cases hw : σ.1 25 s = σ.1 25 t
          · have pm := zp_mask (τ := τ) hs4 ht4 (by rw [← b1]; exact hm) (by rw [← d1]; exact hm2) (by rw [← b2, ← d2]; exact hw) i k n
            rw [← b1, ← d1] at pm
            have sp1 := zp_spans (σ := σ) hs4 hL i n
            have sp2 := zp_spans (σ := σ) ht4 hL2 k n
            have head : fX8_paste σ (nI s) i (nI t) k n = ((fX6_spans σ (nI s) i n).bind fun t_16 => (if t_16 = 0 then (some ((-7 : Int32), σ)) else ((fX6_spans σ (nI t) k n).bind fun t_19 => (if t_19 = 0 then (some ((-7 : Int32), σ)) else (sn_gd (sn_cpok i k n 60 60) (some ((0 : Int32), (sn_wL σ (21 + t) (va_cpy (sn_L σ (21 + s)) (sn_L σ (21 + t)) i.toNatClampNeg k.toNatClampNeg n.toNatClampNeg))))))))) := by
              unfold fX8_paste
              rw [cs]
              show (fX6_isSlot (nI t)).bind _ = _
              rw [ct]
              show (fX6_has σ (nI s)).bind _ = _
              rw [chs]
              show (fX6_has σ (nI t)).bind _ = _
              rw [cht]
              show sn_gd (sn_in (nI s) 4) _ = _
              simp only [sn_in_nI hs4 (show 4 < 2 ^ 31 by decide), sn_in_nI ht4 (show 4 < 2 ^ 31 by decide), gd_T, nI_clamp (show s < 2 ^ 31 by omega), nI_clamp (show t < 2 ^ 31 by omega), at20 hs4, at20 ht4, sn_lt]
              rw [if_pos (show sn_I σ 25 s = sn_I σ 25 t from hw)]
            by_cases q1 : 0 ≤ i.toInt ∧ 0 ≤ n.toInt ∧ i.toInt + n.toInt ≤ (σ.1 26 s).toInt
            · rw [if_pos q1] at sp1
              by_cases q2 : 0 ≤ k.toInt ∧ 0 ≤ n.toInt ∧ k.toInt + n.toInt ≤ (σ.1 26 t).toInt
              · rw [if_pos q2] at sp2
                rw [if_pos ⟨q1, q2⟩] at pm
                have u1 := zs_I_le b3.2
                have u2 := zs_I_le d3.2
                have e60 : (60 : Int32).toInt = 60 := by decide
                obtain ⟨i', hi1, ei⟩ := zs_val (x := i) (a := 0) (b := 60) ⟨by omega, by omega⟩ (by decide)
                obtain ⟨k', hk1, ek⟩ := zs_val (x := k) (a := 0) (b := 60) ⟨by omega, by omega⟩ (by decide)
                obtain ⟨n', hn1, en⟩ := zs_val (x := n) (a := 0) (b := 60) ⟨by omega, by omega⟩ (by decide)
                have hi2 : i' < 61 := by omega
                have hk2 : k' < 61 := by omega
                have hn2 : n' < 61 := by omega
                subst ei
                subst ek
                subst en
                rw [nI_toInt (by omega), nI_toInt (by omega)] at q1 q2
                have hin : i' + n' ≤ 60 := by omega
                have hkn : k' + n' ≤ 60 := by omega
                rw [zp_take τ (nI t) (nI k') hs4 hin] at pm
                have pm2 : fX9_paste τ (nI s) (nI i') (nI t) (nI k') (nI n') = some (0, (τ.1, (fun q b => if q = 23 ∧ 60 * t + k' ≤ b ∧ b < 60 * t + k' + n' then (if 24 = 24 ∧ b - (60 * t + k') < n' then τ.2.1 23 (60 * s + i' + (b - (60 * t + k'))) else τ.2.1 24 (b - (60 * t + k'))) else (if q = 24 ∧ b < n' then τ.2.1 23 (60 * s + i' + b) else τ.2.1 q b)), τ.2.2)) := by
                  rw [pm]
                  show BX9_paste_147 _ (nI t) (nI k') (nI n') = _
                  unfold BX9_paste_147
                  rw [zp_put _ ht4 hkn]
                  rfl
                refine ⟨0, sn_wL σ (21 + t) (va_cpy (sn_L σ (21 + s)) (sn_L σ (21 + t)) i' k' n'), _, ?_, pm2, ?_⟩
                · have ok : sn_cpok (nI i') (nI k') (nI n') 60 60 = true := by
                    unfold sn_cpok
                    simp [nI_clamp (show i' < 2 ^ 31 by omega), nI_clamp (show k' < 2 ^ 31 by omega), nI_clamp (show n' < 2 ^ 31 by omega), nI_pos' (show i' < 2 ^ 31 by omega), nI_pos' (show k' < 2 ^ 31 by omega), nI_pos' (show n' < 2 ^ 31 by omega), hin, hkn]
                  rw [head, sp1]
                  show (fX6_spans σ (nI t) (nI k') (nI n')).bind _ = _
                  rw [sp2]
                  show sn_gd (sn_cpok (nI i') (nI k') (nI n') 60 60) _ = _
                  rw [ok, gd_T, nI_clamp (show i' < 2 ^ 31 by omega), nI_clamp (show k' < 2 ^ 31 by omega), nI_clamp (show n' < 2 ^ 31 by omega)]
                · have hrow : ∀ u, u < 4 → ∀ j, j < 60 → σ.2.1 (21 + u) j = τ.2.1 23 (60 * u + j) := by
                    intro u hu j hj
                    obtain ⟨f0, f1, f2, f3⟩ := hS.2 j hj
                    match u, hu with
                    | 0, _ => rw [Nat.mul_zero, Nat.zero_add]; exact f0
                    | 1, _ => exact f1
                    | 2, _ => exact f2
                    | 3, _ => exact f3
                  have hnew : ∀ u, u < 4 → ∀ j, j < 60 → (if 21 + u = 21 + t then va_cpy (σ.2.1 (21 + s)) (σ.2.1 (21 + t)) i' k' n' else σ.2.1 (21 + u)) j = (if 23 = 23 ∧ 60 * t + k' ≤ 60 * u + j ∧ 60 * u + j < 60 * t + k' + n' then (if 24 = 24 ∧ 60 * u + j - (60 * t + k') < n' then τ.2.1 23 (60 * s + i' + (60 * u + j - (60 * t + k'))) else τ.2.1 24 (60 * u + j - (60 * t + k'))) else (if 23 = 24 ∧ 60 * u + j < n' then τ.2.1 23 (60 * s + i' + (60 * u + j)) else τ.2.1 23 (60 * u + j))) := by
                    intro u hu j hj
                    rw [if_neg (show ¬ (23 = 24 ∧ 60 * u + j < n') by omega)]
                    by_cases hut : u = t
                    · rw [hut, if_pos rfl]
                      unfold va_cpy
                      by_cases hin2 : k' ≤ j ∧ j < k' + n'
                      · rw [if_pos hin2, if_pos ⟨rfl, by omega, by omega⟩, if_pos ⟨rfl, by omega⟩, hrow s hs4 _ (by omega)]
                        exact congrArg (τ.2.1 23) (by omega)
                      · rw [if_neg hin2, if_neg (by omega), hrow t ht4 j hj]
                    · rw [if_neg (by omega), if_neg (by omega), hrow u hu j hj]
                  refine zJ_rows (σ := σ) (τ := τ) ⟨hS.1, fun j hj => ⟨?_, hnew 1 (by decide) j hj, hnew 2 (by decide) j hj, hnew 3 (by decide) j hj⟩⟩ (fun _ _ _ => rfl) (fun _ _ _ => rfl) hJ.1.1 hJ.1.2.1 hJ
                  have := hnew 0 (by decide) j hj
                  rw [Nat.mul_zero, Nat.zero_add] at this
                  exact this
              · rw [if_neg q2] at sp2
                rw [if_neg (fun z => q2 z.2)] at pm
                refine ⟨-7, σ, τ, ?_, pm, hJ⟩
                rw [head, sp1]
                show (fX6_spans σ (nI t) k n).bind _ = _
                rw [sp2]
                rfl
            · rw [if_neg q1] at sp1
              rw [if_neg (fun z => q1 z.1)] at pm
              refine ⟨-7, σ, τ, ?_, pm, hJ⟩
              rw [head, sp1]
              rfl
          · refine ⟨-8, σ, τ, ?_, ?_, hJ⟩
            · unfold fX8_paste
              rw [cs]
              show (fX6_isSlot (nI t)).bind _ = _
              rw [ct]
              show (fX6_has σ (nI s)).bind _ = _
              rw [chs]
              show (fX6_has σ (nI t)).bind _ = _
              rw [cht]
              show sn_gd (sn_in (nI s) 4) (sn_gd (sn_in (nI t) 4) (if σ.1 25 (nI s).toNatClampNeg = σ.1 25 (nI t).toNatClampNeg then _ else _)) = _
              rw [sn_in_nI hs4 (by decide), gd_T, sn_in_nI ht4 (by decide), gd_T, nI_clamp (show s < 2 ^ 31 by omega), nI_clamp (show t < 2 ^ 31 by omega), if_neg hw]
            · unfold fX9_paste
              rw [ms]
              show (fX9_isSlot (nI t)).bind _ = _
              rw [mt]
              show sn_gd (sn_in (nI s) 4) _ = _
              simp only [sn_in_nI hs4 (show 4 < 2 ^ 31 by decide), sn_in_nI ht4 (show 4 < 2 ^ 31 by decide), gd_T, nI_clamp (show s < 2 ^ 31 by omega), nI_clamp (show t < 2 ^ 31 by omega)]
              rw [if_neg (show ¬ sn_I τ 21 s = -1 by show ¬ τ.1 21 s = -1; rw [← b1]; exact hm), if_neg (show ¬ sn_I τ 21 t = -1 by show ¬ τ.1 21 t = -1; rw [← d1]; exact hm2), if_neg (show ¬ sn_I τ 22 s = sn_I τ 22 t by show ¬ τ.1 22 s = τ.1 22 t; rw [← b2, ← d2]; exact hw)]
    · rw [if_neg ht] at ct mt
      refine ⟨-2, σ, τ, ?_, ?_, hJ⟩
      · unfold fX8_paste
        rw [cs]
        show (fX6_isSlot b).bind _ = _
        rw [ct]
        rfl
      · unfold fX9_paste
        rw [ms]
        show (fX9_isSlot b).bind _ = _
        rw [mt]
        rfl
  · rw [if_neg hs] at cs ms
    refine ⟨-2, σ, τ, ?_, ?_, hJ⟩
    · unfold fX8_paste
      rw [cs]
      rfl
    · unfold fX9_paste
      rw [ms]
      rfl
end
