/-! dull, bears, clean of the reference: the house told is left as it was -/
theorem qb_it {S T : Type} {f : S → Option (S ⊕ T)} {I : S → Prop} {E : T → Prop} (step : ∀ s o, I s → f s = some o → (∀ s', o = .inl s' → I s') ∧ ∀ t, o = .inr t → E t) : ∀ (n : Nat) (s : S) (t : T), I s → sn_it f n s = some t → E t := by
  intro n
  induction n with
  | zero =>
    intro s t _ e
    unfold sn_it at e
    cases e
  | succ n ih =>
    intro s t hI e
    unfold sn_it at e
    cases x : f s with
    | none =>
      rw [x] at e
      cases e
    | some o =>
      rw [x] at e
      have h := step s o hI x
      cases o with
      | inl s' => exact ih s' t (h.1 s' rfl) e
      | inr t' =>
        have q := h.2 t' rfl
        cases e
        exact q
theorem qb_90 {σ : sn_S} {x1 x3 x4 x5 x6 x7 x8 t0 : Int32} {o : (sn_S × Int32 × Int32) ⊕ (sn_S × Int32)} (h : BX9_quietBy_90 σ x1 x3 x4 x5 x6 x7 x8 t0 = some o) : ∃ q, o = .inl (σ, q, x8 + x7) := by
  unfold BX9_quietBy_90 BX9_quietBy_103 at h
  by_cases c : t0 = 0
  · rw [if_pos c, rr_lt] at h
    cases h
    exact ⟨_, rfl⟩
  · rw [if_neg c, rr_lt] at h
    cases h
    exact ⟨_, rfl⟩
def qb_I (τ : sn_S) (x1 : Int32) (R : Int32 → Prop) (s : sn_S × Int32 × Int32) : Prop := zs_SB zs_tM s.1 ∧ (∀ k, k ≠ x1.toNatClampNeg → s.1.1 1 k = τ.1 1 k) ∧ s.1.1 2 = τ.1 2 ∧ R s.2.2
theorem qb_loop {τ : sn_S} {x1 x3 x4 x5 x7 : Int32} {R : Int32 → Prop} (hR : ∀ x8, R x8 → ¬ x8 = x3 + x7 → ((zs_tM 1 x1.toNatClampNeg).1 ≤ x8.toInt ∧ x8.toInt ≤ (zs_tM 1 x1.toNatClampNeg).2) ∧ R (x8 + x7)) {s : sn_S × Int32 × Int32} {t : sn_S × Int32} (h : qb_I τ x1 R s) (e : sn_it (LX9_quietBy_26 x1 x3 x4 x5 x7) 5000 s = some t) : (∀ k, k ≠ x1.toNatClampNeg → t.1.1 1 k = τ.1 1 k) ∧ t.1.1 2 = τ.1 2 := by
  refine qb_it (I := qb_I τ x1 R) (E := fun t => (∀ k, k ≠ x1.toNatClampNeg → t.1.1 1 k = τ.1 1 k) ∧ t.1.1 2 = τ.1 2) (fun s o hI e => ?_) 5000 s t h e
  obtain ⟨σ, x6, x8⟩ := s
  obtain ⟨hS, h1, h2, h8⟩ := hI
  have hS : zs_SB zs_tM σ := hS
  have h1 : ∀ k, k ≠ x1.toNatClampNeg → σ.1 1 k = τ.1 1 k := h1
  have h2 : σ.1 2 = τ.1 2 := h2
  have h8 : R x8 := h8
  have e : BX9_quietBy_26 σ x1 x3 x4 x5 x6 x7 x8 = some o := e
  unfold BX9_quietBy_26 at e
  by_cases c : x8 = x3 + x7
  · rw [if_pos c] at e
    cases e
    exact ⟨fun s' x => (by cases x), fun t x => (by cases x; exact ⟨h1, h2⟩)⟩
  rw [if_neg c] at e
  by_cases c2 : x6 = -1
  · rw [if_pos c2] at e
    obtain ⟨r8, R8⟩ := hR x8 h8 c
    obtain ⟨_, e⟩ := sn_gdE e
    rw [rr_lt] at e
    obtain ⟨t6, e6, e⟩ := sn_bd e
    have S4 : zs_SB zs_tM (sn_pI σ 1 x1.toNatClampNeg x8) := zs_sbw hS r8
    obtain ⟨z, ez, hz⟩ := zc_92 (zs_rf (key := zs_kM) (kl := zs_lM) S4)
    rw [e6] at ez
    cases ez
    have fin : ∀ q, o = .inl (t6.2, q, x8 + x7) → (∀ s', o = .inl s' → qb_I τ x1 R s') ∧ ∀ t : sn_S × Int32, o = .inr t → ((∀ k, k ≠ x1.toNatClampNeg → t.1.1 1 k = τ.1 1 k) ∧ t.1.1 2 = τ.1 2) := by
      intro q x
      subst x
      refine ⟨fun s' y => ?_, fun t y => by cases y⟩
      cases y
      refine ⟨hz.2.1, fun k hk => ?_, ?_, R8⟩
      · show t6.2.1 1 k = _
        rw [hz.2.2.1 1 k rfl, pI_slot hk]
        exact h1 k hk
      · show t6.2.1 2 = _
        rw [show t6.2.1 2 = (sn_pI σ 1 x1.toNatClampNeg x8).1 2 from funext fun k => hz.2.2.1 2 k rfl, pI_ne (by decide)]
        exact h2
    by_cases c4 : x4 = -1
    · rw [if_pos c4] at e
      obtain ⟨t11, _, e⟩ := sn_bd e
      by_cases c5 : t11 = 0
      · rw [if_pos c5] at e
        obtain ⟨q, hq⟩ := qb_90 e
        exact fin q hq
      · rw [if_neg c5] at e
        obtain ⟨q, hq⟩ := qb_90 e
        exact fin q hq
    · rw [if_neg c4] at e
      obtain ⟨_, e⟩ := sn_gdE e
      by_cases c5 : sn_I t6.2 10 x4.toNatClampNeg = 0
      · rw [if_pos c5] at e
        obtain ⟨q, hq⟩ := qb_90 e
        exact fin q hq
      · rw [if_neg c5] at e
        obtain ⟨q, hq⟩ := qb_90 e
        exact fin q hq
  · rw [if_neg c2] at e
    cases e
    exact ⟨fun s' x => (by cases x), fun t x => (by cases x; exact ⟨h1, h2⟩)⟩
theorem qb_21 {τ : sn_S} {x1 x2 x3 x4 x6 t0 : Int32} {R : Int32 → Prop} (hM : zs_SB zs_tM τ) (hR : ∀ x8, R x8 → ¬ x8 = x3 + t0 → ((zs_tM 1 x1.toNatClampNeg).1 ≤ x8.toInt ∧ x8.toInt ≤ (zs_tM 1 x1.toNatClampNeg).2) ∧ R (x8 + t0)) (h2 : R x2) {r : Int32 × sn_S} (e : BX9_quietBy_21 τ x1 x2 x3 x4 (sn_I τ 1 x1.toNatClampNeg) x6 t0 = some r) : r.2.1 1 = τ.1 1 ∧ r.2.1 2 = τ.1 2 := by
  unfold BX9_quietBy_21 at e
  obtain ⟨t, et, e⟩ := sn_bd e
  obtain ⟨g1, g2⟩ := qb_loop (τ := τ) hR (s := (τ, x6, x2)) ⟨hM, fun _ _ => rfl, rfl, h2⟩ et
  unfold BX9_quietBy_115 at e
  obtain ⟨_, e⟩ := sn_gdE e
  rw [rr_lt] at e
  cases e
  refine ⟨funext fun k => ?_, ?_⟩
  · show (sn_pI t.1 1 x1.toNatClampNeg (τ.1 1 x1.toNatClampNeg)).1 1 k = _
    by_cases c : k = x1.toNatClampNeg
    · subst c
      rw [pI_self]
    · rw [pI_slot c]
      exact g1 k c
  · show (sn_pI t.1 1 x1.toNatClampNeg (τ.1 1 x1.toNatClampNeg)).1 2 = _
    rw [pI_ne (by decide)]
    exact g2
theorem qb_m1 {x8 : Int32} : ¬ x8 = (0 : Int32) + (-1 : Int32) → x8.toInt ≠ -1 := fun h e => h (Int32.toInt_inj.mp (e.trans (by decide)))
theorem qb_down {a b : Int} (ha : a ≤ 0) (hb : 9 ≤ b) (x8 : Int32) (h : -1 ≤ x8.toInt ∧ x8.toInt ≤ 9) (c : ¬ x8 = (0 : Int32) + (-1 : Int32)) : (a ≤ x8.toInt ∧ x8.toInt ≤ b) ∧ -1 ≤ (x8 + (-1 : Int32)).toInt ∧ (x8 + (-1 : Int32)).toInt ≤ 9 := by
  have c1 := qb_m1 c
  have e : (x8 + (-1 : Int32)).toInt = x8.toInt + -1 := by
    rw [Int32.toInt_add, show (-1 : Int32).toInt = -1 by decide, zs_bm ⟨by omega, by omega⟩]
  rw [e]
  exact ⟨⟨by omega, by omega⟩, by omega, by omega⟩
theorem qb_100 {x8 : Int32} : ¬ x8 = (99 : Int32) + (1 : Int32) → x8.toInt ≠ 100 := fun h e => h (Int32.toInt_inj.mp (e.trans (by decide)))
theorem qb_up (x8 : Int32) (h : 1 ≤ x8.toInt ∧ x8.toInt ≤ 100) (c : ¬ x8 = (99 : Int32) + (1 : Int32)) : (0 ≤ x8.toInt ∧ x8.toInt ≤ 99) ∧ 1 ≤ (x8 + (1 : Int32)).toInt ∧ (x8 + (1 : Int32)).toInt ≤ 100 := by
  have c1 := qb_100 c
  have e : (x8 + (1 : Int32)).toInt = x8.toInt + 1 := by
    rw [Int32.toInt_add, show (1 : Int32).toInt = 1 by decide, zs_bm ⟨by omega, by omega⟩]
  rw [e]
  exact ⟨⟨by omega, by omega⟩, by omega, by omega⟩
theorem qb_who {τ : sn_S} (hM : zs_SB zs_tM τ) {a v : Int32} (e : fX9_isPerson τ a.toInt64 = some v) (c : ¬ v = 0) : ∃ p : Nat, p < 6 ∧ a = nI p := by
  have b : 0 ≤ (τ.1 1 5).toInt ∧ (τ.1 1 5).toInt ≤ 6 := hM.1 1 5
  have h0 : (0 : Int32) ≤ τ.1 1 5 := Int32.le_iff_toInt_le.mpr (by rw [show (0 : Int32).toInt = 0 by decide]; exact b.1)
  rw [m_isPerson h0 a] at e
  by_cases x : 0 ≤ a ∧ a < τ.1 1 5
  · have c1 := zs_I_le x.1
    have c2 := zs_I_lt x.2
    rw [show (0 : Int32).toInt = 0 by decide] at c1
    obtain ⟨p, hp, ep⟩ := zs_val (x := a) (a := 0) (b := 5) ⟨c1, by omega⟩ (by decide)
    have hp : p < 6 := hp
    exact ⟨p, hp, ep⟩
  · rw [if_neg x] at e
    cases e
    exact absurd rfl c
theorem qb_t (p : Nat) (hp : p < 6) : zs_tM 1 (11 + 2 * p) = (0, 99) ∧ zs_tM 1 (12 + 2 * p) = (0, 99) := by
  have : ∀ p, p < 6 → zs_tM 1 (11 + 2 * p) = (0, 99) ∧ zs_tM 1 (12 + 2 * p) = (0, 99) := by decide
  exact this p hp
theorem qb_dull {τ : sn_S} {a : Int32} {r : Int32 × sn_S} (hM : zs_SB zs_tM τ) (e : fX9_dull τ a = some r) : r.2.1 1 = τ.1 1 ∧ r.2.1 2 = τ.1 2 := by
  unfold fX9_dull at e
  obtain ⟨v, ev, e⟩ := sn_bd e
  by_cases c : v = 0
  · rw [if_pos c] at e
    cases e
    exact ⟨rfl, rfl⟩
  rw [if_neg c] at e
  obtain ⟨p, hp, ep⟩ := qb_who hM ev c
  subst ep
  obtain ⟨y, ey, e⟩ := sn_bd e
  cases e
  have i : (11 : Int32) + ((2 : Int32) * nI p) = nI (11 + 2 * p) := by rw [zk_2n]; exact nI_add 11 (2 * p)
  rw [i] at ey
  unfold fX9_quietBy at ey
  obtain ⟨_, ey⟩ := sn_gdE ey
  rw [rr_lt, if_neg (show ¬ (9 : Int32) ≤ 0 by decide)] at ey
  exact qb_21 (R := fun x => -1 ≤ x.toInt ∧ x.toInt ≤ 9) hM (fun x8 h c => by
    rw [nI_clamp (by omega), (qb_t p hp).1]
    exact qb_down (by decide) (by decide) x8 h c) (show (-1 : Int) ≤ (9 : Int32).toInt ∧ (9 : Int32).toInt ≤ 9 by decide) ey
theorem qb_bears {τ : sn_S} {a : Int32} {r : Int32 × sn_S} (hM : zs_SB zs_tM τ) (e : fX9_bears τ a = some r) : r.2.1 1 = τ.1 1 ∧ r.2.1 2 = τ.1 2 := by
  unfold fX9_bears at e
  obtain ⟨v, ev, e⟩ := sn_bd e
  by_cases c : v = 0
  · rw [if_pos c] at e
    cases e
    exact ⟨rfl, rfl⟩
  rw [if_neg c] at e
  obtain ⟨p, hp, ep⟩ := qb_who hM ev c
  subst ep
  obtain ⟨y, ey, e⟩ := sn_bd e
  cases e
  have i : ((11 : Int32) + ((2 : Int32) * nI p)) + (1 : Int32) = nI (12 + 2 * p) := by
    rw [zk_2n, show (11 : Int32) + nI (2 * p) = nI (11 + 2 * p) from nI_add 11 (2 * p), nI_1, show 11 + 2 * p + 1 = 12 + 2 * p by omega]
  rw [i] at ey
  unfold fX9_quietBy at ey
  obtain ⟨_, ey⟩ := sn_gdE ey
  rw [rr_lt, if_pos (show (1 : Int32) ≤ 99 by decide)] at ey
  exact qb_21 (R := fun x => 1 ≤ x.toInt ∧ x.toInt ≤ 100) hM (fun x8 h c => by
    rw [nI_clamp (by omega), (qb_t p hp).2]
    exact qb_up x8 h c) (show (1 : Int) ≤ (1 : Int32).toInt ∧ (1 : Int32).toInt ≤ 100 by decide) ey
theorem qb_clean {τ : sn_S} {r : Int32 × sn_S} (hM : zs_SB zs_tM τ) (e : fX9_clean τ = some r) : r.2.1 1 = τ.1 1 ∧ r.2.1 2 = τ.1 2 := by
  unfold fX9_clean at e
  obtain ⟨v, ev, e⟩ := sn_bd e
  by_cases c : v = 0
  · rw [if_pos c] at e
    cases e
    exact ⟨rfl, rfl⟩
  rw [if_neg c] at e
  obtain ⟨y, ey, e⟩ := sn_bd e
  cases e
  unfold fX9_quietBy at ey
  obtain ⟨_, ey⟩ := sn_gdE ey
  rw [rr_lt, if_neg (show ¬ (9 : Int32) ≤ 0 by decide)] at ey
  exact qb_21 (R := fun x => -1 ≤ x.toInt ∧ x.toInt ≤ 9) hM (fun x8 h c => by
    rw [show zs_tM 1 (1 : Int32).toNatClampNeg = (0, 9) from rfl]
    exact qb_down (by decide) (by decide) x8 h c) (show (-1 : Int) ≤ (9 : Int32).toInt ∧ (9 : Int32).toInt ≤ 9 by decide) ey
theorem zJ_keep0 {σ σ' τ τ' : sn_S} (hC : zs_B σ σ') (hM : zs_M0 τ τ') (m : τ'.1 1 = τ.1 1 ∧ τ'.1 2 = τ.1 2) (h : zJ σ τ) : zJ σ' τ' := ⟨zj_keep (zs_b0 hC) hM h.1, zh_Jc h.1.1 (fun q hq => funext fun k => hC.2.1 q k (zs_kCh hq)) m.1 m.2 h.2⟩
