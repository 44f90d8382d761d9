/-! acts, both sides -/
theorem zh_key {σ : sn_S} (hS : zs_SB zs_tC σ) (k : Nat) : (zs_cnt k).1 ≤ (σ.1 2 k).toInt ∧ (σ.1 2 k).toInt ≤ (zs_cnt k).2 := by
  have := hS.1 2 k
  rw [show zs_tC 2 k = zs_cnt k from (zh_tab (a := 1) (Or.inl rfl) k).2.1] at this
  exact this
theorem zq_minute {σ τ : sn_S} (h : zJ σ τ) (a : Int32) : ∃ v : Int32, fX8_isMinute σ a = some v ∧ fX9_isMinute τ a.toInt64 = some v ∧ (v ≠ 0 → ∃ p : Nat, a = nI p ∧ (p : Int) < (σ.1 2 0).toInt) := zq_guard (m := 30) (h.2.1.1 0 (by decide)) (zh_key h.1.1 0) (by decide) (c_isMinute σ a) (fun h5 => m_isMinute h5 a)
theorem zq_house {σ τ : sn_S} (h : zJ σ τ) : ∃ v : Int32, fX8_isHouse σ = some v ∧ fX9_isHouse τ = some v := by
  have e : sn_I τ 1 (10 : Int32).toNatClampNeg = sn_I σ (1 + 1) (10 : Int32).toNatClampNeg := (h.2.1.1 10 (by decide)).symm
  unfold fX8_isHouse fX9_isHouse
  rw [e]
  by_cases c : sn_I σ (1 + 1) (10 : Int32).toNatClampNeg ≤ 0
  · rw [if_pos c]
    exact ⟨0, rfl, rfl⟩
  · rw [if_neg c]
    exact ⟨1, rfl, rfl⟩
theorem zq_acts {σ τ : sn_S} (h : zJ σ τ) : ∃ n : Nat, n ≤ 40 ∧ σ.1 2 9 = nI n ∧ τ.1 1 9 = nI n := by
  obtain ⟨n, h1, h2⟩ := zs_val (x := σ.1 2 9) (a := 0) (b := 40) (zh_key h.1.1 9) (by decide)
  have h1 : n < 41 := h1
  exact ⟨n, by omega, h2, (h.2.1.1 9 (by decide)).symm.trans h2⟩
theorem ac_gd {α : Type} {g : Bool} {x y : α} (h : sn_gd g (some x) = some y) : y = x := by
  exact (Option.some.inj (sn_gdE h).2).symm
theorem ac_pair {x : Option Int32} {u : sn_S} {y : Int32 × sn_S} (h : (x.bind fun t => some (t, u)) = some y) : y.2 = u := by
  cases x with
  | none => cases h
  | some r => cases h; rfl
theorem ac_pairG {g : Bool} {x : Option Int32} {u : sn_S} {y : Int32 × sn_S} (h : sn_gd g (x.bind fun t => some (t, u)) = some y) : y.2 = u := by
  exact ac_pair (sn_gdE h).2
theorem ac_ite {g : Bool} {x : Option Int32} {u : sn_S} {a b : Int32} {y : Int32 × sn_S} (h : sn_gd g (x.bind fun t => if t = 0 then some (a, u) else some (b, u)) = some y) : y.2 = u := by
  obtain ⟨r, _, h2⟩ := sn_bd (sn_gdE h).2
  by_cases c : r = 0
  · rw [if_pos c] at h2
    cases h2
    rfl
  · rw [if_neg c] at h2
    cases h2
    rfl
def ac_w (σ : sn_S) (n : Nat) (kind p m : Int32) : sn_S := sn_pI (sn_pI (sn_pI (sn_pI σ 7 (3 * n) kind) 7 (3 * n + 1) p) 7 (3 * n + 2) m) 2 9 (nI (n + 1))
def am_w (τ : sn_S) (n : Nat) (x : Int32) : sn_S := sn_pI (sn_pI τ 1 (79 + n) x) 1 9 (nI (n + 1))
theorem ac_40 {n : Nat} (h : n < 40) : nI n < (40 : Int32) := Int32.lt_iff_toInt_lt.mpr (by
  rw [nI_toInt (by omega), show (40 : Int32).toInt = 40 by decide]
  omega)
theorem rc_act {σ : sn_S} {n : Nat} (hn : σ.1 2 9 = nI n) (h : n < 40) (x1 x2 x3 : Int32) : fX2_act σ 1 x1 x2 x3 = some (1, ac_w σ n x1 x2 x3) := by
  have e9 : sn_I σ (1 + 1) (9 : Int32).toNatClampNeg = nI n := hn
  have i0 : (3 : Int32) * nI n = nI (3 * n) := nI_mul 3 n
  have i1 : nI (3 * n) + (1 : Int32) = nI (3 * n + 1) := nI_1 _
  have i2 : nI (3 * n) + (2 : Int32) = nI (3 * n + 2) := nI_add _ 2
  have i3 : nI n + (1 : Int32) = nI (n + 1) := nI_1 _
  have g9 : sn_in (9 : Int32) 11 = true := rfl
  have g0 : sn_in (nI (3 * n)) 120 = true := sn_in_nI (by omega) (by decide)
  have g1 : sn_in (nI (3 * n + 1)) 120 = true := sn_in_nI (by omega) (by decide)
  have g2 : sn_in (nI (3 * n + 2)) 120 = true := sn_in_nI (by omega) (by decide)
  unfold fX2_act
  rw [g9, gd_T, rr_lt, e9, if_pos (ac_40 h), i0, i1, i2, i3, g0, gd_T, rr_lt, g1, gd_T, rr_lt, g2, gd_T, rr_lt, gd_T, rr_lt, nI_clamp (show 3 * n < 2 ^ 31 by omega), nI_clamp (show 3 * n + 1 < 2 ^ 31 by omega), nI_clamp (show 3 * n + 2 < 2 ^ 31 by omega)]
  rfl
theorem rc_act0 {σ : sn_S} {n : Nat} (hn : σ.1 2 9 = nI n) (h : ¬ n < 40) (h2 : n ≤ 40) (x1 x2 x3 : Int32) : fX2_act σ 1 x1 x2 x3 = some (0, σ) := by
  have e9 : sn_I σ (1 + 1) (9 : Int32).toNatClampNeg = nI n := hn
  have g9 : sn_in (9 : Int32) 11 = true := rfl
  have en : n = 40 := by omega
  subst en
  unfold fX2_act
  rw [g9, gd_T, rr_lt, e9, if_neg (show ¬ nI 40 < (40 : Int32) by decide)]
  rfl
theorem rm_act {τ : sn_S} {n : Nat} (hn : τ.1 1 9 = nI n) (h : n < 40) (x : Int32) : fX9_keepAct τ x = (fX9_asksHouse (am_w τ n x)).bind fun t => some (0, t.2) := by
  have e9 : sn_I τ 1 (9 : Int32).toNatClampNeg = nI n := hn
  have i0 : (79 : Int32) + nI n = nI (79 + n) := nI_add 79 n
  have g9 : sn_in (9 : Int32) 119 = true := rfl
  have g0 : sn_in (nI (79 + n)) 119 = true := sn_in_nI (by omega) (by decide)
  have e1 : sn_I (sn_pI τ 1 (79 + n) x) 1 (9 : Int32).toNatClampNeg + (1 : Int32) = nI (n + 1) := by
    show (sn_pI τ 1 (79 + n) x).1 1 9 + (1 : Int32) = _
    rw [pI_slot (by omega), hn, nI_1]
  have c : ¬ nI n = (40 : Int32) := fun z => by
    have := (nI_eq (a := n) (b := 40) (by omega) (by decide)).mp z
    omega
  unfold fX9_keepAct
  rw [g9, gd_T, e9, if_neg c, gd_T, i0, g0, gd_T, rr_lt, gd_T, gd_T, rr_lt, nI_clamp (show 79 + n < 2 ^ 31 by omega), e1]
  rfl
theorem rm_act0 {τ : sn_S} {n : Nat} (hn : τ.1 1 9 = nI n) (h : ¬ n < 40) (h2 : n ≤ 40) (x : Int32) : fX9_keepAct τ x = some (-5, τ) := by
  have e9 : sn_I τ 1 (9 : Int32).toNatClampNeg = nI n := hn
  have g9 : sn_in (9 : Int32) 119 = true := rfl
  have en : n = 40 := by omega
  subst en
  unfold fX9_keepAct
  rw [g9, gd_T, e9, if_pos (show nI 40 = (40 : Int32) by decide)]
theorem am_row {n : Nat} (h : n < 40) : zs_tM 1 (79 + n) = (0, 1199) := by
  have : ∀ n, n < 40 → zs_tM 1 (79 + n) = (0, 1199) := by decide +kernel
  exact this n h
theorem am_M {τ : sn_S} {n : Nat} {x : Int32} (hM : zs_SB zs_tM τ) (h : n < 40) (hx : 0 ≤ x.toInt ∧ x.toInt ≤ 1199) : zs_M0 τ (am_w τ n x) := by
  refine ⟨?_, fun q k hk => ?_, fun q _ => rfl⟩
  · unfold am_w
    refine zs_sbw (zs_sbw hM ?_) ?_
    · rw [am_row h]
      exact hx
    · rw [show zs_tM 1 9 = (0, 40) from rfl, nI_toInt (by omega)]
      exact ⟨by omega, by omega⟩
  · have q1 : q ≠ 1 := fun e => by
      subst e
      exact absurd (show false = true from hk) (by decide)
    unfold am_w
    rw [pI_ne q1, pI_ne q1]
theorem zJ_act {σ τ : sn_S} {n : Nat} (h : zJ σ τ) (hn : σ.1 2 9 = nI n) (hlt : n < 40) {kind p m x : Int32} (hC : zs_C0 σ (ac_w σ n kind p m)) (hM : zs_M0 τ (am_w τ n x)) (hx : x = ((200 : Int32) * p + (2 : Int32) * m) + kind) : zJ (ac_w σ n kind p m) (am_w τ n x) := by
  have c2 : ∀ k, k ≠ 9 → (ac_w σ n kind p m).1 2 k = σ.1 2 k := fun k hk => by
    unfold ac_w
    rw [pI_slot hk, pI_ne (by decide), pI_ne (by decide), pI_ne (by decide)]
  have c9 : (ac_w σ n kind p m).1 2 9 = nI (n + 1) := by
    unfold ac_w
    rw [pI_self]
  have cq : ∀ q, q ≠ 2 → q ≠ 7 → (ac_w σ n kind p m).1 q = σ.1 q := fun q h2 h7 => by
    unfold ac_w
    rw [pI_ne h2, pI_ne h7, pI_ne h7, pI_ne h7]
  have c7 : ∀ i, i < 3 * n → (ac_w σ n kind p m).1 7 i = σ.1 7 i := fun i hi => by
    unfold ac_w
    rw [pI_ne (by decide), pI_slot (by omega), pI_slot (by omega), pI_slot (by omega)]
  have d0 : (ac_w σ n kind p m).1 7 (3 * n) = kind := by
    unfold ac_w
    rw [pI_ne (by decide), pI_slot (by omega), pI_slot (by omega), pI_self]
  have d1 : (ac_w σ n kind p m).1 7 (3 * n + 1) = p := by
    unfold ac_w
    rw [pI_ne (by decide), pI_slot (by omega), pI_self]
  have d2 : (ac_w σ n kind p m).1 7 (3 * n + 2) = m := by
    unfold ac_w
    rw [pI_ne (by decide), pI_self]
  have m1 : ∀ k, k ≠ 9 → k ≠ 79 + n → (am_w τ n x).1 1 k = τ.1 1 k := fun k h1 h2 => by
    unfold am_w
    rw [pI_slot h1, pI_slot h2]
  have m9 : (am_w τ n x).1 1 9 = nI (n + 1) := by
    unfold am_w
    rw [pI_self]
  have mn : (am_w τ n x).1 1 (79 + n) = x := by
    unfold am_w
    rw [pI_slot (by omega), pI_self]
  have m2 : (am_w τ n x).1 2 = τ.1 2 := by
    unfold am_w
    rw [pI_ne (by decide), pI_ne (by decide)]
  obtain ⟨b5, b6, b7, b8, b9⟩ := zh_cbS h.1.1 (h := 1) (Or.inl rfl)
  obtain ⟨h0, h1, h2, h3, h4, h5⟩ := h.2.1
  refine ⟨zj_keep hC hM h.1, ⟨fun k hk => ?_, fun i hi => ?_, fun i hi => ?_, fun i hi => ?_, fun i hi => ?_, fun i hi => ?_⟩, fun j hj => rr_Hc (zh_cbS h.1.1 (zh_3 hj)) (fun q g1 g2 => cq q (by omega) (by omega)) (fun k _ => by rw [m2]) (h.2.2 j hj)⟩
  · show (ac_w σ n kind p m).1 2 k = _
    by_cases e : k = 9
    · subst e
      rw [c9, m9]
    · rw [c2 k e, m1 k e (by omega)]
      exact h0 k hk
  · rw [show (ac_w σ n kind p m).1 (1 + 1) 5 = σ.1 (1 + 1) 5 from c2 5 (by decide)] at hi
    rw [cq _ (by decide) (by decide), m1 _ (by omega) (by omega)]
    exact h1 i hi
  · rw [show (ac_w σ n kind p m).1 (1 + 1) 6 = σ.1 (1 + 1) 6 from c2 6 (by decide)] at hi
    rw [cq _ (by decide) (by decide), m1 _ (by omega) (by omega)]
    exact h2 i hi
  · rw [show (ac_w σ n kind p m).1 (1 + 1) 7 = σ.1 (1 + 1) 7 from c2 7 (by decide)] at hi
    rw [cq _ (by decide) (by decide), m1 _ (by omega) (by omega)]
    exact h3 i hi
  · rw [show (ac_w σ n kind p m).1 (1 + 1) 8 = σ.1 (1 + 1) 8 from c2 8 (by decide)] at hi
    rw [cq _ (by decide) (by decide), m1 _ (by omega) (by omega)]
    exact h4 i hi
  · rw [show (ac_w σ n kind p m).1 (1 + 1) 9 = nI (n + 1) from c9, nI_toInt (by omega)] at hi
    show (am_w τ n x).1 1 (79 + i) = ((200 : Int32) * (ac_w σ n kind p m).1 7 (3 * i + 1) + (2 : Int32) * (ac_w σ n kind p m).1 7 (3 * i + 2)) + (ac_w σ n kind p m).1 7 (3 * i)
    by_cases e : i = n
    · subst e
      rw [mn, d0, d1, d2]
      exact hx
    · rw [m1 _ (by omega) (by omega), c7 (3 * i + 1) (by omega), c7 (3 * i + 2) (by omega), c7 (3 * i) (by omega)]
      exact h5 i (by
        show (i : Int) < (σ.1 2 9).toInt
        rw [hn, nI_toInt (by omega)]
        omega)
theorem ac_x {p m k : Nat} : ((200 : Int32) * nI p + (2 : Int32) * nI m) + nI k = nI (200 * p + 2 * m + k) := by
  rw [show (200 : Int32) * nI p = nI (200 * p) from nI_mul 200 p, zk_2n, nI_add, nI_add]
/-- one act more, on both sides, and the day lived anew -/
theorem zJ_more {σ τ : sn_S} (h : zJ σ τ) {p m n k : Nat} (hp : p < 6) (hm : m < 30) (hk : k < 2) (hn : σ.1 2 9 = nI n) (hn2 : τ.1 1 9 = nI n) (hlt : n < 40) (hA : ∃ r, fX2_act σ 1 (nI k) (nI p) (nI m) = some r ∧ zs_A σ r.2) : ∃ u t, fX2_act σ 1 (nI k) (nI p) (nI m) = some (1, ac_w σ n (nI k) (nI p) (nI m)) ∧ fX8_liveAnew (ac_w σ n (nI k) (nI p) (nI m)) = some u ∧ fX9_keepAct τ (((200 : Int32) * nI p + (2 : Int32) * nI m) + nI k) = some (0, t) ∧ zJ u t ∧ u.1 2 9 = nI (n + 1) ∧ t.1 1 9 = nI (n + 1) := by
  have ea := rc_act hn hlt (nI k) (nI p) (nI m)
  obtain ⟨r, er, hA⟩ := hA
  rw [ea] at er
  cases er
  have J1 := zJ_act h hn hlt (kind := nI k) (p := nI p) (m := nI m) (zs_a0 hA) (am_M (x := ((200 : Int32) * nI p + (2 : Int32) * nI m) + nI k) h.1.2.1 hlt (by rw [ac_x, nI_toInt (by omega)]; exact ⟨by omega, by omega⟩)) rfl
  obtain ⟨u, eu, hu⟩ := zP_54 (zs_rf (key := zs_kB) (kl := zs_lC) J1.1.1)
  obtain ⟨t, et, ht⟩ := zc_92 (zs_rf (key := zs_kM) (kl := zs_lM) J1.1.2.1)
  have m9 : (am_w τ n (((200 : Int32) * nI p + (2 : Int32) * nI m) + nI k)).1 1 9 = nI (n + 1) := by
    unfold am_w
    rw [pI_self]
  have c9 : (ac_w σ n (nI k) (nI p) (nI m)).1 2 9 = nI (n + 1) := by
    unfold ac_w
    rw [pI_self]
  refine ⟨u, t.2, ea, eu, ?_, zJ_keep hu ht.2 J1, (hu.2.1 2 9 rfl).trans c9, (ht.2.2.1 1 9 rfl).trans m9⟩
  rw [rm_act hn2 hlt, et]
  rfl
theorem zJ_59 : ∀ (σ τ : sn_S) (a b : Int32), zJ σ τ → ∃ r r2 σ1 τ1, fX8_stifle σ a b = some (r, σ1) ∧ fX9_stifle τ a b = some (r2, τ1) ∧ zJ σ1 τ1 := by
  intro σ τ a b h
  obtain ⟨v, e1, e2, hv⟩ := zq_person h a
  obtain ⟨v2, e3, e4, hv2⟩ := zq_minute h b
  obtain ⟨x, ex, _⟩ := zA_153 (zs_rf (key := zs_kA) (kl := zs_lC) h.1.1) (x1 := a) (x2 := b)
  obtain ⟨y, ey, _⟩ := zA_156 (zs_rf (key := zs_kM0) (kl := zs_lM) h.1.2.1) (x1 := a) (x2 := b)
  by_cases c : v = 0
  · refine ⟨-2, -2, σ, τ, ?_, ?_, h⟩
    · unfold fX8_stifle
      rw [e1, rr_bs, if_pos c]
    · unfold fX9_stifle
      rw [e2, rr_bs, if_pos c]
  by_cases c2 : v2 = 0
  · refine ⟨-2, -2, σ, τ, ?_, ?_, h⟩
    · unfold fX8_stifle
      rw [e1, rr_bs, if_neg c, e3, rr_bs, if_pos c2]
    · unfold fX9_stifle
      rw [e2, rr_bs, if_neg c, e4, rr_bs, if_pos c2]
  obtain ⟨p, ep, hp⟩ := hv c
  obtain ⟨m, em, hm⟩ := hv2 c2
  obtain ⟨n, hn40, hn, hn2⟩ := zq_acts h
  have bp : p < 6 := by
    have : 0 ≤ (σ.1 2 5).toInt ∧ (σ.1 2 5).toInt ≤ 6 := zh_key h.1.1 5
    omega
  have bm : m < 30 := by
    have : 0 ≤ (σ.1 2 0).toInt ∧ (σ.1 2 0).toInt ≤ 30 := zh_key h.1.1 0
    omega
  subst ep
  subst em
  have ek : ((200 : Int32) * nI p + (2 : Int32) * nI m) = ((200 : Int32) * nI p + (2 : Int32) * nI m) + nI 0 := (Int32.add_zero _).symm
  by_cases hlt : n < 40
  · obtain ⟨u, t, f1, f2, f3, J2, _⟩ := zJ_more h (k := 0) bp bm (by decide) hn hn2 hlt (by
      obtain ⟨r, er, hr⟩ := zA_97 (zs_rf (key := zs_kA) (kl := zs_lC) h.1.1) (x1 := nI 0) ⟨by decide, by decide⟩ (x2 := nI p) ⟨by rw [nI_toInt (by omega)]; omega, by rw [nI_toInt (by omega)]; omega⟩ (x3 := nI m) ⟨by rw [nI_toInt (by omega)]; omega, by rw [nI_toInt (by omega)]; omega⟩
      exact ⟨r, er, hr.2⟩)
    have g1 : fX8_stifle σ (nI p) (nI m) = (fX0_tickleAt u 27 (nI p) (nI m)).bind fun t_12 => some (t_12, u) := by
      unfold fX8_stifle
      rw [e1, rr_bs, if_neg c, e3, rr_bs, if_neg c2, show fX2_act σ 1 (0 : Int32) (nI p) (nI m) = some (1, ac_w σ n (nI 0) (nI p) (nI m)) from f1, rr_bs, if_neg (show ¬ ((1 : Int32), ac_w σ n (nI 0) (nI p) (nI m)).1 = 0 from fun z => absurd (show (1 : Int32) = 0 from z) (by decide)), f2, rr_bs]
    rw [← ek] at f3
    have g2 : fX9_stifle τ (nI p) (nI m) = sn_gd (sn_in (((6 : Int32) * nI m) + nI p) 180) (some ((sn_I t 12 (((6 : Int32) * nI m) + nI p).toNatClampNeg), t)) := by
      unfold fX9_stifle
      rw [e2, rr_bs, if_neg c, e4, rr_bs, if_neg c2, f3, rr_bs, if_pos (show (0 : Int32) ≤ ((0 : Int32), t).1 from Int32.le_refl _)]
    have x2 : x.2 = u := ac_pair (g1.symm.trans ex)
    have y2 : y.2 = t := by rw [ac_gd (g2.symm.trans ey)]
    exact ⟨x.1, y.1, u, t, by rw [← x2]; exact ex, by rw [← y2]; exact ey, J2⟩
  · refine ⟨-5, -5, σ, τ, ?_, ?_, h⟩
    · unfold fX8_stifle
      rw [e1, rr_bs, if_neg c, e3, rr_bs, if_neg c2, rc_act0 hn hlt hn40, rr_bs, if_pos (show ((0 : Int32), σ).1 = 0 from rfl)]
    · unfold fX9_stifle
      rw [e2, rr_bs, if_neg c, e4, rr_bs, if_neg c2, rm_act0 hn2 hlt hn40, rr_bs, if_neg (show ¬ (0 : Int32) ≤ ((-5 : Int32), τ).1 from fun z => absurd (show (0 : Int32) ≤ -5 from z) (by decide))]
theorem zJ_60 : ∀ (σ τ : sn_S) (a b : Int32), zJ σ τ → ∃ r r2 σ1 τ1, fX8_sniff σ a b = some (r, σ1) ∧ fX9_sniff τ a b = some (r2, τ1) ∧ zJ σ1 τ1 := by
  intro σ τ a b h
  obtain ⟨v, e1, e2, hv⟩ := zq_person h a
  obtain ⟨v2, e3, e4, hv2⟩ := zq_minute h b
  obtain ⟨x, ex, _⟩ := zA_159 (zs_rf (key := zs_kA) (kl := zs_lC) h.1.1) (x1 := a) (x2 := b)
  obtain ⟨y, ey, _⟩ := zA_161 (zs_rf (key := zs_kM0) (kl := zs_lM) h.1.2.1) (x1 := a) (x2 := b)
  by_cases c : v = 0
  · refine ⟨-2, -2, σ, τ, ?_, ?_, h⟩
    · unfold fX8_sniff
      rw [e1, rr_bs, if_pos c]
    · unfold fX9_sniff
      rw [e2, rr_bs, if_pos c]
  by_cases c2 : v2 = 0
  · refine ⟨-2, -2, σ, τ, ?_, ?_, h⟩
    · unfold fX8_sniff
      rw [e1, rr_bs, if_neg c, e3, rr_bs, if_pos c2]
    · unfold fX9_sniff
      rw [e2, rr_bs, if_neg c, e4, rr_bs, if_pos c2]
  obtain ⟨p, ep, hp⟩ := hv c
  obtain ⟨m, em, hm⟩ := hv2 c2
  obtain ⟨n, hn40, hn, hn2⟩ := zq_acts h
  have bp : p < 6 := by
    have : 0 ≤ (σ.1 2 5).toInt ∧ (σ.1 2 5).toInt ≤ 6 := zh_key h.1.1 5
    omega
  have bm : m < 30 := by
    have : 0 ≤ (σ.1 2 0).toInt ∧ (σ.1 2 0).toInt ≤ 30 := zh_key h.1.1 0
    omega
  subst ep
  subst em
  by_cases hlt : n < 40
  · obtain ⟨u, t, f1, f2, f3, J2, _⟩ := zJ_more h (k := 1) bp bm (by decide) hn hn2 hlt (by
      obtain ⟨r, er, hr⟩ := zA_157 (zs_rf (key := zs_kA) (kl := zs_lC) h.1.1) (x1 := nI 1) ⟨by decide, by decide⟩ (x2 := nI p) ⟨by rw [nI_toInt (by omega)]; omega, by rw [nI_toInt (by omega)]; omega⟩ (x3 := nI m) ⟨by rw [nI_toInt (by omega)]; omega, by rw [nI_toInt (by omega)]; omega⟩
      exact ⟨r, er, hr.2⟩)
    have g1 : fX8_sniff σ (nI p) (nI m) = sn_gd (sn_in (nI p) 6) ((fX8_hasBit (sn_I u (27 + 10) (nI p).toNatClampNeg) (nI m)).bind fun t_13 => (if t_13 = 0 then some ((0 : Int32), u) else some ((1 : Int32), u))) := by
      unfold fX8_sniff
      rw [e1, rr_bs, if_neg c, e3, rr_bs, if_neg c2, show fX2_act σ 1 (1 : Int32) (nI p) (nI m) = some (1, ac_w σ n (nI 1) (nI p) (nI m)) from f1, rr_bs, if_neg (show ¬ ((1 : Int32), ac_w σ n (nI 1) (nI p) (nI m)).1 = 0 from fun z => absurd (show (1 : Int32) = 0 from z) (by decide)), f2, rr_bs]
    have g2 : fX9_sniff τ (nI p) (nI m) = sn_gd (sn_in (nI p) 6) ((fX9_bit (sn_I t 10 (nI p).toNatClampNeg) (nI m)).bind fun t_11 => (some (t_11, t))) := by
      unfold fX9_sniff
      rw [e2, rr_bs, if_neg c, e4, rr_bs, if_neg c2, show fX9_keepAct τ ((((200 : Int32) * nI p) + ((2 : Int32) * nI m)) + (1 : Int32)) = some (0, t) from f3, rr_bs, if_pos (show (0 : Int32) ≤ ((0 : Int32), t).1 from Int32.le_refl _)]
    have x2 : x.2 = u := ac_ite (g1.symm.trans ex)
    have y2 : y.2 = t := ac_pairG (g2.symm.trans ey)
    exact ⟨x.1, y.1, u, t, by rw [← x2]; exact ex, by rw [← y2]; exact ey, J2⟩
  · refine ⟨-5, -5, σ, τ, ?_, ?_, h⟩
    · unfold fX8_sniff
      rw [e1, rr_bs, if_neg c, e3, rr_bs, if_neg c2, rc_act0 hn hlt hn40, rr_bs, if_pos (show ((0 : Int32), σ).1 = 0 from rfl)]
    · unfold fX9_sniff
      rw [e2, rr_bs, if_neg c, e4, rr_bs, if_neg c2, rm_act0 hn2 hlt hn40, rr_bs, if_neg (show ¬ (0 : Int32) ≤ ((-5 : Int32), τ).1 from fun z => absurd (show (0 : Int32) ≤ -5 from z) (by decide))]
