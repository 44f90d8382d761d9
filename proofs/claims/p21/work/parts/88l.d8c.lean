/-! acts -/
theorem yA_W {τ : sn_S} {n p m k : Nat} (hW : jW (τ.1 1)) (hn : τ.1 1 9 = nI n) (hlt : n < 40) (hp : p < sp_n (τ.1 1) 5) (hm : m < sp_n (τ.1 1) 0) (hk : k < 2) {x : Int32} (hx : x = nI (200 * p + 2 * m + k)) : jW ((am_w τ n x).1 1) := by
  obtain ⟨⟨b0, b1, b2, b3, b4, b5, b6, b7, b8, b9, b10⟩, hz, hmm, hno, hg, ht, hp8, ha⟩ := hW
  have l0 := b0.2
  have l5 := b5.2
  have l6 := b6.2
  have l7 := b7.2
  have l8 := b8.2
  have sn : sp_n (τ.1 1) 9 = n := sp_nI hn (by omega)
  have e : ∀ j, j ≠ 9 → j ≠ 79 + n → (am_w τ n x).1 1 j = τ.1 1 j := fun j h1 h2 => by
    unfold am_w
    rw [pI_slot h1, pI_slot h2]
  have e9 : (am_w τ n x).1 1 9 = nI (n + 1) := by
    unfold am_w
    rw [pI_self]
  have ex : (am_w τ n x).1 1 (79 + n) = x := by
    unfold am_w
    rw [pI_slot (by omega), pI_self]
  generalize (am_w τ n x).1 1 = w at e e9 ex ⊢
  have y : ∀ k b, k ≠ 9 → k < 79 → yh_n (τ.1 1) k b → yh_n w k b := fun k b h1 h2 g => yh_mv (e k h1 (by omega)) g
  have s : ∀ k, k ≠ 9 → k < 79 → sp_n w k = sp_n (τ.1 1) k := fun k h1 h2 => sp_mv (e k h1 (by omega))
  have s9 : sp_n w 9 = n + 1 := sp_nI e9 (by omega)
  refine ⟨⟨y 0 _ (by decide) (by decide) b0, y 1 _ (by decide) (by decide) b1, y 2 _ (by decide) (by decide) b2, y 3 _ (by decide) (by decide) b3, y 4 _ (by decide) (by decide) b4, y 5 _ (by decide) (by decide) b5, y 6 _ (by decide) (by decide) b6, y 7 _ (by decide) (by decide) b7, y 8 _ (by decide) (by decide) b8, ⟨by rw [s9]; exact e9, by omega⟩, y 10 _ (by decide) (by decide) b10⟩, ?_, ?_, fun p hp2 => ?_, fun p hp2 => ?_, fun k hk => ?_, fun k hk => ?_, fun i hi => ?_⟩
  · rw [s 10 (by decide) (by decide), s 0 (by decide) (by decide), s 5 (by decide) (by decide), s 7 (by decide) (by decide), s 8 (by decide) (by decide)]
    exact hz
  · rw [s 10 (by decide) (by decide), s 0 (by decide) (by decide)]
    exact hmm
  · rw [s 5 (by decide) (by decide)] at hp2
    have g := hno p hp2
    exact ⟨y _ _ (by omega) (by omega) g.1, y _ _ (by omega) (by omega) g.2.1, by rw [s _ (by omega) (by omega)]; exact g.2.2⟩
  · rw [s 6 (by decide) (by decide)] at hp2
    have g := hg p hp2
    exact ⟨y _ _ (by omega) (by omega) g.1, y _ _ (by omega) (by omega) g.2⟩
  · rw [s 7 (by decide) (by decide)] at hk
    have g := ht k hk
    rw [s 5 (by decide) (by decide), s (33 + 2 * k) (by omega) (by omega), s (34 + 2 * k) (by omega) (by omega), e (33 + 2 * k) (by omega) (by omega), e (34 + 2 * k) (by omega) (by omega)]
    exact g
  · rw [s 8 (by decide) (by decide)] at hk
    obtain ⟨⟨g1, g2⟩, g3, g4, g5, g6, g7, g8⟩ := hp8 k hk
    exact ⟨⟨by rw [s _ (by omega) (by omega), e _ (by omega) (by omega)]; exact g1, by rw [s _ (by omega) (by omega), s 5 (by decide) (by decide)]; exact g2⟩, y _ _ (by omega) (by omega) g3, y _ _ (by omega) (by omega) g4, by rw [s _ (by omega) (by omega), s _ (by omega) (by omega)]; exact g5, y _ _ (by omega) (by omega) g6, by rw [s _ (by omega) (by omega)]; exact g7, y _ _ (by omega) (by omega) g8⟩
  · rw [s9] at hi
    rw [s 5 (by decide) (by decide), s 0 (by decide) (by decide)]
    by_cases c : i = n
    · subst c
      have sx : sp_n w (79 + i) = 200 * p + 2 * m + k := sp_nI (ex.trans hx) (by omega)
      rw [sx]
      exact ⟨ex.trans hx, by omega, by omega⟩
    · have g := ha i (by omega)
      rw [sp_mv (e (79 + i) (by omega) (by omega)), e (79 + i) (by omega) (by omega)]
      exact g
theorem yA_H {σ τ : sn_S} {n p m k : Nat} (hW : jW (τ.1 1)) (hH : yH 1 σ (τ.1 1)) (hn : τ.1 1 9 = nI n) (hlt : n < 40) (hp : p < sp_n (τ.1 1) 5) (hm : m < sp_n (τ.1 1) 0) (hk : k < 2) {x : Int32} (hx : x = nI (200 * p + 2 * m + k)) : yH 1 (ac_w σ n (nI k) (nI p) (nI m)) ((am_w τ n x).1 1) := by
  obtain ⟨⟨b0, b1, b2, b3, b4, b5, b6, b7, b8, b9, b10⟩, -⟩ := hW
  have l0 := b0.2
  have l5 := b5.2
  have l6 := b6.2
  have l7 := b7.2
  have l8 := b8.2
  obtain ⟨h1, h2, h3, h4, h5, h6⟩ := hH
  have sn : sp_n (τ.1 1) 9 = n := sp_nI hn (by omega)
  have e : ∀ j, j ≠ 9 → j ≠ 79 + n → (am_w τ n x).1 1 j = τ.1 1 j := fun j h1 h2 => by
    unfold am_w
    rw [pI_slot h1, pI_slot h2]
  have e9 : (am_w τ n x).1 1 9 = nI (n + 1) := by
    unfold am_w
    rw [pI_self]
  have ex : (am_w τ n x).1 1 (79 + n) = x := by
    unfold am_w
    rw [pI_slot (by omega), pI_self]
  generalize (am_w τ n x).1 1 = w at e e9 ex ⊢
  have s : ∀ k, k ≠ 9 → k < 79 → sp_n w k = sp_n (τ.1 1) k := fun k h1 h2 => sp_mv (e k h1 (by omega))
  have s9 : sp_n w 9 = n + 1 := sp_nI e9 (by omega)
  have c2 : ∀ j, j ≠ 9 → (ac_w σ n (nI k) (nI p) (nI m)).1 2 j = σ.1 2 j := fun j hj => by
    unfold ac_w
    rw [pI_slot hj, pI_ne (by decide), pI_ne (by decide), pI_ne (by decide)]
  have c9 : (ac_w σ n (nI k) (nI p) (nI m)).1 2 9 = nI (n + 1) := by
    unfold ac_w
    rw [pI_self]
  have cq : ∀ q, q ≠ 2 → q ≠ 7 → (ac_w σ n (nI k) (nI p) (nI m)).1 q = σ.1 q := fun q h2 h7 => by
    unfold ac_w
    rw [pI_ne h2, pI_ne h7, pI_ne h7, pI_ne h7]
  have c7 : ∀ i, i < 3 * n → (ac_w σ n (nI k) (nI p) (nI m)).1 7 i = σ.1 7 i := fun i hi => by
    unfold ac_w
    rw [pI_ne (by decide), pI_slot (by omega), pI_slot (by omega), pI_slot (by omega)]
  have d0 : (ac_w σ n (nI k) (nI p) (nI m)).1 7 (3 * n) = nI k := by
    unfold ac_w
    rw [pI_ne (by decide), pI_slot (by omega), pI_slot (by omega), pI_self]
  have d1 : (ac_w σ n (nI k) (nI p) (nI m)).1 7 (3 * n + 1) = nI p := by
    unfold ac_w
    rw [pI_ne (by decide), pI_slot (by omega), pI_self]
  have d2 : (ac_w σ n (nI k) (nI p) (nI m)).1 7 (3 * n + 2) = nI m := by
    unfold ac_w
    rw [pI_ne (by decide), pI_self]
  generalize ac_w σ n (nI k) (nI p) (nI m) = z at c2 c9 cq c7 d0 d1 d2 ⊢
  unfold yH
  rw [s 5 (by decide) (by decide), s 6 (by decide) (by decide), s 7 (by decide) (by decide), s 8 (by decide) (by decide), s9]
  refine ⟨fun j hj => ?_, fun i hi => ?_, fun i hi => ?_, fun i hi => ?_, fun i hi => ?_, fun i hi => ?_⟩
  · show z.1 2 j = _
    by_cases c : j = 9
    · rw [c, c9, e9]
    · rw [c2 j c, e j c (by omega)]
      exact h1 j hj
  · show z.1 3 i = _
    rw [cq 3 (by decide) (by decide), e _ (by omega) (by omega)]
    exact h2 i hi
  · show z.1 4 i = _
    rw [cq 4 (by decide) (by decide), e _ (by omega) (by omega)]
    exact h3 i hi
  · show z.1 5 i = _
    rw [cq 5 (by decide) (by decide), e _ (by omega) (by omega)]
    exact h4 i hi
  · show z.1 6 i = _
    rw [cq 6 (by decide) (by decide), e _ (by omega) (by omega)]
    exact h5 i hi
  · show z.1 7 (3 * i) = _ ∧ z.1 7 (3 * i + 1) = _ ∧ z.1 7 (3 * i + 2) = _
    by_cases c : i = n
    · subst c
      have sx : sp_n w (79 + i) = 200 * p + 2 * m + k := sp_nI (ex.trans hx) (by omega)
      rw [d0, d1, d2, sx]
      exact ⟨congrArg nI (by omega), congrArg nI (by omega), congrArg nI (by omega)⟩
    · have g := h6 i (by omega)
      rw [c7 _ (by omega), c7 _ (by omega), c7 _ (by omega), sp_mv (e (79 + i) (by omega) (by omega))]
      exact g
/-- fewer acts -/
theorem yA_less {τ : sn_S} {j : Nat} (hW : jW (τ.1 1)) (hj : j ≤ sp_n (τ.1 1) 9) : jW ((sn_pI τ 1 9 (nI j)).1 1) ∧ ∀ σ, yH 1 σ (τ.1 1) → yH 1 (sn_pI σ 2 9 (nI j)) ((sn_pI τ 1 9 (nI j)).1 1) := by
  obtain ⟨⟨b0, b1, b2, b3, b4, b5, b6, b7, b8, b9, b10⟩, hz, hmm, hno, hg, ht, hp8, ha⟩ := hW
  have l9 := b9.2
  have e : ∀ k, k ≠ 9 → (sn_pI τ 1 9 (nI j)).1 1 k = τ.1 1 k := fun k h1 => pI_slot h1
  have e9 : (sn_pI τ 1 9 (nI j)).1 1 9 = nI j := pI_self
  generalize (sn_pI τ 1 9 (nI j)).1 1 = w at e e9 ⊢
  have y : ∀ k b, k ≠ 9 → yh_n (τ.1 1) k b → yh_n w k b := fun k b h1 g => yh_mv (e k h1) g
  have s : ∀ k, k ≠ 9 → sp_n w k = sp_n (τ.1 1) k := fun k h1 => sp_mv (e k h1)
  have s9 : sp_n w 9 = j := sp_nI e9 (by omega)
  refine ⟨⟨⟨y 0 _ (by decide) b0, y 1 _ (by decide) b1, y 2 _ (by decide) b2, y 3 _ (by decide) b3, y 4 _ (by decide) b4, y 5 _ (by decide) b5, y 6 _ (by decide) b6, y 7 _ (by decide) b7, y 8 _ (by decide) b8, ⟨by rw [s9]; exact e9, by omega⟩, y 10 _ (by decide) b10⟩, ?_, ?_, fun p hp2 => ?_, fun p hp2 => ?_, fun k hk => ?_, fun k hk => ?_, fun i hi => ?_⟩, fun σ hH => ?_⟩
  · rw [s 10 (by decide), s 0 (by decide), s 5 (by decide), s 7 (by decide), s 8 (by decide)]
    exact hz
  · rw [s 10 (by decide), s 0 (by decide)]
    exact hmm
  · rw [s 5 (by decide)] at hp2
    have g := hno p hp2
    exact ⟨y _ _ (by omega) g.1, y _ _ (by omega) g.2.1, by rw [s _ (by omega)]; exact g.2.2⟩
  · rw [s 6 (by decide)] at hp2
    have g := hg p hp2
    exact ⟨y _ _ (by omega) g.1, y _ _ (by omega) g.2⟩
  · rw [s 7 (by decide)] at hk
    have g := ht k hk
    rw [s 5 (by decide), s (33 + 2 * k) (by omega), s (34 + 2 * k) (by omega), e (33 + 2 * k) (by omega), e (34 + 2 * k) (by omega)]
    exact g
  · rw [s 8 (by decide)] at hk
    obtain ⟨⟨g1, g2⟩, g3, g4, g5, g6, g7, g8⟩ := hp8 k hk
    exact ⟨⟨by rw [s _ (by omega), e _ (by omega)]; exact g1, by rw [s _ (by omega), s 5 (by decide)]; exact g2⟩, y _ _ (by omega) g3, y _ _ (by omega) g4, by rw [s _ (by omega), s _ (by omega)]; exact g5, y _ _ (by omega) g6, by rw [s _ (by omega)]; exact g7, y _ _ (by omega) g8⟩
  · rw [s9] at hi
    rw [s 5 (by decide), s 0 (by decide), s (79 + i) (by omega), e (79 + i) (by omega)]
    exact ha i (by omega)
  · obtain ⟨h1, h2, h3, h4, h5, h6⟩ := hH
    unfold yH
    rw [s 5 (by decide), s 6 (by decide), s 7 (by decide), s 8 (by decide), s9]
    refine ⟨fun k hk => ?_, fun i hi => ?_, fun i hi => ?_, fun i hi => ?_, fun i hi => ?_, fun i hi => ?_⟩
    · show (sn_pI σ 2 9 (nI j)).1 2 k = _
      by_cases c : k = 9
      · rw [c, pI_self, e9]
      · rw [pI_slot c, e k c]
        exact h1 k hk
    · rw [pI_ne (by decide), e _ (by omega)]
      exact h2 i hi
    · rw [pI_ne (by decide), e _ (by omega)]
      exact h3 i hi
    · rw [pI_ne (by decide), e _ (by omega)]
      exact h4 i hi
    · rw [pI_ne (by decide), e _ (by omega)]
      exact h5 i hi
    · rw [pI_ne (by decide), s (79 + i) (by omega)]
      exact h6 i (by omega)
/-! another pays -/
section
variable {w0 w : Nat → Int32} {q v : Nat}
theorem yA_rW (e : ∀ k, k ≠ 53 + 5 * q → w k = w0 k) (ex : w (53 + 5 * q) = nI v) (hW : jW w0) (hq : q < sp_n w0 8) (hv : v ≤ 99) : jW w := by
  obtain ⟨⟨b0, b1, b2, b3, b4, b5, b6, b7, b8, b9, b10⟩, hz, hmm, hno, hg, ht, hp8, ha⟩ := hW
  have l5 := b5.2
  have l6 := b6.2
  have l7 := b7.2
  have l8 := b8.2
  have l9 := b9.2
  have y : ∀ k b, k ≠ 53 + 5 * q → yh_n w0 k b → yh_n w k b := fun k b h1 g => yh_mv (e k h1) g
  have s : ∀ k, k ≠ 53 + 5 * q → sp_n w k = sp_n w0 k := fun k h1 => sp_mv (e k h1)
  have sx : sp_n w (53 + 5 * q) = v := sp_nI ex (by omega)
  refine ⟨⟨y 0 _ (by omega) b0, y 1 _ (by omega) b1, y 2 _ (by omega) b2, y 3 _ (by omega) b3, y 4 _ (by omega) b4, y 5 _ (by omega) b5, y 6 _ (by omega) b6, y 7 _ (by omega) b7, y 8 _ (by omega) b8, y 9 _ (by omega) b9, y 10 _ (by omega) b10⟩, ?_, ?_, fun p hp2 => ?_, fun p hp2 => ?_, fun k hk => ?_, fun k hk => ?_, fun i hi => ?_⟩
  · rw [s 10 (by omega), s 0 (by omega), s 5 (by omega), s 7 (by omega), s 8 (by omega)]
    exact hz
  · rw [s 10 (by omega), s 0 (by omega)]
    exact hmm
  · rw [s 5 (by omega)] at hp2
    have g := hno p hp2
    exact ⟨y _ _ (by omega) g.1, y _ _ (by omega) g.2.1, by rw [s _ (by omega)]; exact g.2.2⟩
  · rw [s 6 (by omega)] at hp2
    have g := hg p hp2
    exact ⟨y _ _ (by omega) g.1, y _ _ (by omega) g.2⟩
  · rw [s 7 (by omega)] at hk
    have g := ht k hk
    rw [s 5 (by omega), s (33 + 2 * k) (by omega), s (34 + 2 * k) (by omega), e (33 + 2 * k) (by omega), e (34 + 2 * k) (by omega)]
    exact g
  · rw [s 8 (by omega)] at hk
    obtain ⟨⟨g1, g2⟩, g3, g4, g5, g6, g7, g8⟩ := hp8 k hk
    refine ⟨⟨by rw [s _ (by omega), e _ (by omega)]; exact g1, by rw [s _ (by omega), s 5 (by omega)]; exact g2⟩, y _ _ (by omega) g3, y _ _ (by omega) g4, by rw [s _ (by omega), s _ (by omega)]; exact g5, y _ _ (by omega) g6, by rw [s _ (by omega)]; exact g7, ?_⟩
    by_cases c : k = q
    · subst c
      exact ⟨by rw [sx]; exact ex, by rw [sx]; exact hv⟩
    · exact y _ _ (by omega) g8
  · rw [s 9 (by omega)] at hi
    rw [s 5 (by omega), s 0 (by omega), s (79 + i) (by omega), e (79 + i) (by omega)]
    exact ha i hi
theorem yA_rH {σ : sn_S} (e : ∀ k, k ≠ 53 + 5 * q → w k = w0 k) (ex : w (53 + 5 * q) = nI v) (hW : jW w0) (hq : q < sp_n w0 8) (hH : yH 1 σ w0) : yH 1 (sn_pI σ 6 (5 * q + 4) (nI v)) w := by
  have l5 := hW.1.2.2.2.2.2.1.2
  have l6 := hW.1.2.2.2.2.2.2.1.2
  have l7 := hW.1.2.2.2.2.2.2.2.1.2
  have l8 := hW.1.2.2.2.2.2.2.2.2.1.2
  have l9 := hW.1.2.2.2.2.2.2.2.2.2.1.2
  have y : ∀ k b, k ≠ 53 + 5 * q → yh_n w0 k b → yh_n w k b := fun k b h1 g => yh_mv (e k h1) g
  have s : ∀ k, k ≠ 53 + 5 * q → sp_n w k = sp_n w0 k := fun k h1 => sp_mv (e k h1)
  obtain ⟨h1, h2, h3, h4, h5, h6⟩ := hH
  unfold yH
  rw [s 5 (by omega), s 6 (by omega), s 7 (by omega), s 8 (by omega), s 9 (by omega)]
  refine ⟨fun k hk => ?_, fun i hi => ?_, fun i hi => ?_, fun i hi => ?_, fun i hi => ?_, fun i hi => ?_⟩
  · rw [pI_ne (by decide), e _ (by omega)]
    exact h1 k hk
  · rw [pI_ne (by decide), e _ (by omega)]
    exact h2 i hi
  · rw [pI_ne (by decide), e _ (by omega)]
    exact h3 i hi
  · rw [pI_ne (by decide), e _ (by omega)]
    exact h4 i hi
  · show (sn_pI σ 6 (5 * q + 4) (nI v)).1 6 i = _
    by_cases c : i = 5 * q + 4
    · rw [c, pI_self, show 49 + (5 * q + 4) = 53 + 5 * q by omega]
      exact ex.symm
    · rw [pI_slot c, e _ (by omega)]
      exact h5 i hi
  · rw [pI_ne (by decide), s (79 + i) (by omega)]
    exact h6 i hi
theorem yA_r1 {m : Nat} (e : ∀ k, k ≠ 53 + 5 * q → w k = w0 k) : ∀ g, g ≤ 5 → hs_dust w m g = hs_dust w0 m g := by
  intro g
  induction g with
  | zero => intro _; exact e 1 (by omega)
  | succ g ih =>
    intro hg2
    show (if sp_n w (24 + 2 * g) = m then hs_dust w m g + w (23 + 2 * g) else hs_dust w m g) = if sp_n w0 (24 + 2 * g) = m then hs_dust w0 m g + w0 (23 + 2 * g) else hs_dust w0 m g
    have h1 : sp_n w (24 + 2 * g) = sp_n w0 (24 + 2 * g) := sp_mv (e _ (by omega))
    have h2 : w (23 + 2 * g) = w0 (23 + 2 * g) := e _ (by omega)
    rw [ih (by omega), h1, h2]
theorem yA_r2 {kind p : Nat} (hq : q < 6) (e : ∀ k, k ≠ 53 + 5 * q → w k = w0 k) : ∀ g, g ≤ 40 → hs_acts w kind p g = hs_acts w0 kind p g := by
  intro g
  induction g with
  | zero => intro _; rfl
  | succ g ih =>
    intro hg2
    have h1 : sp_n w (79 + g) = sp_n w0 (79 + g) := sp_mv (e _ (by omega))
    show (if sp_n w (79 + g) % 2 = kind ∧ sp_n w (79 + g) / 200 = p then hs_acts w kind p g ||| ((1 : Int32) <<< (nI (sp_n w (79 + g) % 200 / 2) &&& 31)) else hs_acts w kind p g) = (if sp_n w0 (79 + g) % 2 = kind ∧ sp_n w0 (79 + g) / 200 = p then hs_acts w0 kind p g ||| ((1 : Int32) <<< (nI (sp_n w0 (79 + g) % 200 / 2) &&& 31)) else hs_acts w0 kind p g)
    rw [ih (by omega), h1]
theorem yA_rE (e : ∀ k, k ≠ 53 + 5 * q → w k = w0 k) (hW : jW w0) (hq : q < sp_n w0 8) : dy_E (sp_n w0 0) (hs_day w0) (hs_day w) := by
  have l5 := hW.1.2.2.2.2.2.1.2
  have l6 := hW.1.2.2.2.2.2.2.1.2
  have l7 := hW.1.2.2.2.2.2.2.2.1.2
  have l8 := hW.1.2.2.2.2.2.2.2.2.1.2
  have l9 := hW.1.2.2.2.2.2.2.2.2.2.1.2
  have s : ∀ k, k ≠ 53 + 5 * q → sp_n w k = sp_n w0 k := fun k h1 => sp_mv (e k h1)
  have s5 := s 5 (by omega)
  have s6 := s 6 (by omega)
  have s7 := s 7 (by omega)
  have s9 := s 9 (by omega)
  refine ⟨s5.symm, s7.symm, show (-1 : Int32) = -1 from rfl, fun p hp => ?_, fun m => ?_, fun k hk => ?_⟩
  · have hp : p < sp_n w0 5 := hp
    refine ⟨?_, ?_, ?_, ?_⟩
    · show w0 (11 + 2 * p) = w (11 + 2 * p)
      exact (e _ (by omega)).symm
    · show w0 (12 + 2 * p) = w (12 + 2 * p)
      exact (e _ (by omega)).symm
    · show hs_acts w0 0 p (sp_n w0 9) = hs_acts w 0 p (sp_n w 9)
      rw [s9, yA_r2 (by omega) e _ l9]
    · show hs_acts w0 1 p (sp_n w0 9) = hs_acts w 1 p (sp_n w 9)
      rw [s9, yA_r2 (by omega) e _ l9]
  · show hs_dust w0 m (sp_n w0 6) = hs_dust w m (sp_n w 6)
    rw [s6, yA_r1 e _ l6]
  · have hk : k < sp_n w0 7 := hk
    exact ⟨(s (33 + 2 * k) (by omega)).symm, (s (34 + 2 * k) (by omega)).symm⟩
theorem yA_rD {σ : sn_S} (e : ∀ k, k ≠ 53 + 5 * q → w k = w0 k) (hW : jW w0) (hq : q < sp_n w0 8) (hD : yD σ w0) : yD σ w := by
  have s0 : sp_n w 0 = sp_n w0 0 := sp_mv (e 0 (by omega))
  have ed := yA_rE e hW hq
  obtain ⟨q1, q2, q3⟩ := hD
  refine ⟨by rw [s0]; exact q1, yd_TE ed q2, ?_⟩
  rw [s0]
  exact yd_LE ed q3
end
theorem yA_rate {τ : sn_S} {q v : Nat} (hW : jW (τ.1 1)) (hq : q < sp_n (τ.1 1) 8) (hv : v ≤ 99) : jW ((sn_pI τ 1 (53 + 5 * q) (nI v)).1 1) ∧ (∀ σ, yH 1 σ (τ.1 1) → yH 1 (sn_pI σ 6 (5 * q + 4) (nI v)) ((sn_pI τ 1 (53 + 5 * q) (nI v)).1 1)) ∧ ∀ σ, yD σ (τ.1 1) → yD σ ((sn_pI τ 1 (53 + 5 * q) (nI v)).1 1) := by
  have e : ∀ k, k ≠ 53 + 5 * q → (sn_pI τ 1 (53 + 5 * q) (nI v)).1 1 k = τ.1 1 k := fun k h1 => pI_slot h1
  have ex : (sn_pI τ 1 (53 + 5 * q) (nI v)).1 1 (53 + 5 * q) = nI v := pI_self
  exact ⟨yA_rW e ex hW hq hv, fun σ hH => yA_rH e ex hW hq hH, fun σ hD => yA_rD e hW hq hD⟩
section
variable {σ τ : sn_S} {a b : Int32} {n : Nat}
theorem yk_stifle (hn : σ.1 2 9 = nI n) (h40 : n ≤ 40) : yp (fX8_stifle σ a b) (fun r => (¬ ((0 ≤ a ∧ a < σ.1 2 5) ∧ (0 ≤ b ∧ b < σ.1 2 0) ∧ n < 40) ∧ r.2 = σ ∧ r.1 = (if (0 ≤ a ∧ a < σ.1 2 5) ∧ (0 ≤ b ∧ b < σ.1 2 0) then -5 else -2)) ∨ (((0 ≤ a ∧ a < σ.1 2 5) ∧ (0 ≤ b ∧ b < σ.1 2 0) ∧ n < 40) ∧ fX8_liveAnew (ac_w σ n 0 a b) = some r.2 ∧ fX0_tickleAt r.2 27 a b = some r.1)) := by
  unfold fX8_stifle
  rw [c_isPerson, c_isMinute]
  refine yp_bs rfl (yp_ite (fun c => ?_) (fun c => yp_bs rfl (yp_ite (fun c2 => ?_) (fun c2 => ?_))))
  · by_cases cp : 0 ≤ a ∧ a < σ.1 2 5
    · rw [if_pos cp] at c
      exact absurd c (by decide)
    · exact yp_some (Or.inl ⟨fun h => cp h.1, rfl, by rw [if_neg (fun h => cp h.1)]⟩)
  · by_cases cm : 0 ≤ b ∧ b < σ.1 2 0
    · rw [if_pos cm] at c2
      exact absurd c2 (by decide)
    · exact yp_some (Or.inl ⟨fun h => cm h.2.1, rfl, by rw [if_neg (fun h => cm h.2)]⟩)
  · have cp : 0 ≤ a ∧ a < σ.1 2 5 := by
      by_cases cp : 0 ≤ a ∧ a < σ.1 2 5
      · exact cp
      · rw [if_neg cp] at c
        exact absurd rfl c
    have cm : 0 ≤ b ∧ b < σ.1 2 0 := by
      by_cases cm : 0 ≤ b ∧ b < σ.1 2 0
      · exact cm
      · rw [if_neg cm] at c2
        exact absurd rfl c2
    by_cases cn : n < 40
    · rw [rc_act hn cn]
      refine yp_bs rfl (yp_ite (fun x => absurd (show (1 : Int32) = 0 from x) (by decide)) (fun _ => ?_))
      exact yp_bd (fun u => fX8_liveAnew (ac_w σ n 0 a b) = some u) (fun u hu => hu) (fun u hu => yp_bd (fun t => fX0_tickleAt u 27 a b = some t) (fun t ht => ht) (fun t ht => yp_some (Or.inr ⟨⟨cp, cm, cn⟩, hu, ht⟩)))
    · rw [rc_act0 hn cn h40]
      exact yp_bs rfl (yp_ite (fun _ => yp_some (Or.inl ⟨fun h => cn h.2.2, rfl, by rw [if_pos ⟨cp, cm⟩]⟩)) (fun x => absurd (show (0 : Int32) = 0 from rfl) x))
theorem yk_sniff (hn : σ.1 2 9 = nI n) (h40 : n ≤ 40) : yp (fX8_sniff σ a b) (fun r => (¬ ((0 ≤ a ∧ a < σ.1 2 5) ∧ (0 ≤ b ∧ b < σ.1 2 0) ∧ n < 40) ∧ r.2 = σ ∧ r.1 = (if (0 ≤ a ∧ a < σ.1 2 5) ∧ (0 ≤ b ∧ b < σ.1 2 0) then -5 else -2)) ∨ (((0 ≤ a ∧ a < σ.1 2 5) ∧ (0 ≤ b ∧ b < σ.1 2 0) ∧ n < 40) ∧ fX8_liveAnew (ac_w σ n 1 a b) = some r.2 ∧ ∃ t, fX8_hasBit (sn_I r.2 (27 + 10) a.toNatClampNeg) b = some t ∧ r.1 = (if t = 0 then 0 else 1))) := by
  unfold fX8_sniff
  rw [c_isPerson, c_isMinute]
  refine yp_bs rfl (yp_ite (fun c => ?_) (fun c => yp_bs rfl (yp_ite (fun c2 => ?_) (fun c2 => ?_))))
  · by_cases cp : 0 ≤ a ∧ a < σ.1 2 5
    · rw [if_pos cp] at c
      exact absurd c (by decide)
    · exact yp_some (Or.inl ⟨fun h => cp h.1, rfl, by rw [if_neg (fun h => cp h.1)]⟩)
  · by_cases cm : 0 ≤ b ∧ b < σ.1 2 0
    · rw [if_pos cm] at c2
      exact absurd c2 (by decide)
    · exact yp_some (Or.inl ⟨fun h => cm h.2.1, rfl, by rw [if_neg (fun h => cm h.2)]⟩)
  · have cp : 0 ≤ a ∧ a < σ.1 2 5 := by
      by_cases cp : 0 ≤ a ∧ a < σ.1 2 5
      · exact cp
      · rw [if_neg cp] at c
        exact absurd rfl c
    have cm : 0 ≤ b ∧ b < σ.1 2 0 := by
      by_cases cm : 0 ≤ b ∧ b < σ.1 2 0
      · exact cm
      · rw [if_neg cm] at c2
        exact absurd rfl c2
    by_cases cn : n < 40
    · rw [rc_act hn cn]
      refine yp_bs rfl (yp_ite (fun x => absurd (show (1 : Int32) = 0 from x) (by decide)) (fun _ => ?_))
      refine yp_bd (fun u => fX8_liveAnew (ac_w σ n 1 a b) = some u) (fun u hu => hu) (fun u hu => yp_gd (fun _ => yp_bd (fun t => fX8_hasBit (sn_I u (27 + 10) a.toNatClampNeg) b = some t) (fun t ht => ht) (fun t ht => yp_ite (fun z => yp_some (Or.inr ⟨⟨cp, cm, cn⟩, hu, t, ht, ?_⟩)) (fun z => yp_some (Or.inr ⟨⟨cp, cm, cn⟩, hu, t, ht, ?_⟩)))))
      · rw [if_pos z]
      · rw [if_neg z]
    · rw [rc_act0 hn cn h40]
      exact yp_bs rfl (yp_ite (fun _ => yp_some (Or.inl ⟨fun h => cn h.2.2, rfl, by rw [if_pos ⟨cp, cm⟩]⟩)) (fun x => absurd (show (0 : Int32) = 0 from rfl) x))
theorem yk_mstifle (hn : τ.1 1 9 = nI n) (h40 : n ≤ 40) (h5 : 0 ≤ τ.1 1 5) (h0 : 0 ≤ τ.1 1 0) : yp (fX9_stifle τ a b) (fun r => (¬ ((0 ≤ a ∧ a < τ.1 1 5) ∧ (0 ≤ b ∧ b < τ.1 1 0) ∧ n < 40) ∧ r.2 = τ ∧ r.1 = (if (0 ≤ a ∧ a < τ.1 1 5) ∧ (0 ≤ b ∧ b < τ.1 1 0) then -5 else -2)) ∨ (((0 ≤ a ∧ a < τ.1 1 5) ∧ (0 ≤ b ∧ b < τ.1 1 0) ∧ n < 40) ∧ (∃ t, fX9_asksHouse (am_w τ n ((200 : Int32) * a + (2 : Int32) * b)) = some (t, r.2)) ∧ r.1 = sn_I r.2 12 (((6 : Int32) * b) + a).toNatClampNeg)) := by
  unfold fX9_stifle
  rw [m_isPerson h5, m_isMinute h0]
  refine yp_bs rfl (yp_ite (fun c => ?_) (fun c => yp_bs rfl (yp_ite (fun c2 => ?_) (fun c2 => ?_))))
  · by_cases cp : 0 ≤ a ∧ a < τ.1 1 5
    · rw [if_pos cp] at c
      exact absurd c (by decide)
    · exact yp_some (Or.inl ⟨fun h => cp h.1, rfl, by rw [if_neg (fun h => cp h.1)]⟩)
  · by_cases cm : 0 ≤ b ∧ b < τ.1 1 0
    · rw [if_pos cm] at c2
      exact absurd c2 (by decide)
    · exact yp_some (Or.inl ⟨fun h => cm h.2.1, rfl, by rw [if_neg (fun h => cm h.2)]⟩)
  · have cp : 0 ≤ a ∧ a < τ.1 1 5 := by
      by_cases cp : 0 ≤ a ∧ a < τ.1 1 5
      · exact cp
      · rw [if_neg cp] at c
        exact absurd rfl c
    have cm : 0 ≤ b ∧ b < τ.1 1 0 := by
      by_cases cm : 0 ≤ b ∧ b < τ.1 1 0
      · exact cm
      · rw [if_neg cm] at c2
        exact absurd rfl c2
    by_cases cn : n < 40
    · rw [rm_act hn cn]
      refine yp_bd (fun r => r.1 = 0 ∧ ∃ t, fX9_asksHouse (am_w τ n ((200 : Int32) * a + (2 : Int32) * b)) = some (t, r.2)) (yp_bd (fun t => fX9_asksHouse (am_w τ n ((200 : Int32) * a + (2 : Int32) * b)) = some t) (fun t ht => ht) (fun t ht => yp_some ⟨rfl, t.1, ht⟩)) (fun r hr => ?_)
      rw [if_pos (show (0 : Int32) ≤ r.1 by rw [hr.1]; decide)]
      exact yp_gd (fun _ => yp_some (Or.inr ⟨⟨cp, cm, cn⟩, hr.2, rfl⟩))
    · rw [rm_act0 hn cn h40]
      exact yp_bs rfl (yp_ite (fun x => absurd (show (0 : Int32) ≤ -5 from x) (by decide)) (fun _ => yp_some (Or.inl ⟨fun h => cn h.2.2, rfl, by rw [if_pos ⟨cp, cm⟩]⟩)))
theorem yk_msniff (hn : τ.1 1 9 = nI n) (h40 : n ≤ 40) (h5 : 0 ≤ τ.1 1 5) (h0 : 0 ≤ τ.1 1 0) : yp (fX9_sniff τ a b) (fun r => (¬ ((0 ≤ a ∧ a < τ.1 1 5) ∧ (0 ≤ b ∧ b < τ.1 1 0) ∧ n < 40) ∧ r.2 = τ ∧ r.1 = (if (0 ≤ a ∧ a < τ.1 1 5) ∧ (0 ≤ b ∧ b < τ.1 1 0) then -5 else -2)) ∨ (((0 ≤ a ∧ a < τ.1 1 5) ∧ (0 ≤ b ∧ b < τ.1 1 0) ∧ n < 40) ∧ (∃ t, fX9_asksHouse (am_w τ n (((200 : Int32) * a + (2 : Int32) * b) + (1 : Int32))) = some (t, r.2)) ∧ fX9_bit (sn_I r.2 10 a.toNatClampNeg) b = some r.1)) := by
  unfold fX9_sniff
  rw [m_isPerson h5, m_isMinute h0]
  refine yp_bs rfl (yp_ite (fun c => ?_) (fun c => yp_bs rfl (yp_ite (fun c2 => ?_) (fun c2 => ?_))))
  · by_cases cp : 0 ≤ a ∧ a < τ.1 1 5
    · rw [if_pos cp] at c
      exact absurd c (by decide)
    · exact yp_some (Or.inl ⟨fun h => cp h.1, rfl, by rw [if_neg (fun h => cp h.1)]⟩)
  · by_cases cm : 0 ≤ b ∧ b < τ.1 1 0
    · rw [if_pos cm] at c2
      exact absurd c2 (by decide)
    · exact yp_some (Or.inl ⟨fun h => cm h.2.1, rfl, by rw [if_neg (fun h => cm h.2)]⟩)
  · have cp : 0 ≤ a ∧ a < τ.1 1 5 := by
      by_cases cp : 0 ≤ a ∧ a < τ.1 1 5
      · exact cp
      · rw [if_neg cp] at c
        exact absurd rfl c
    have cm : 0 ≤ b ∧ b < τ.1 1 0 := by
      by_cases cm : 0 ≤ b ∧ b < τ.1 1 0
      · exact cm
      · rw [if_neg cm] at c2
        exact absurd rfl c2
    by_cases cn : n < 40
    · rw [rm_act hn cn]
      refine yp_bd (fun r => r.1 = 0 ∧ ∃ t, fX9_asksHouse (am_w τ n (((200 : Int32) * a + (2 : Int32) * b) + (1 : Int32))) = some (t, r.2)) (yp_bd (fun t => fX9_asksHouse (am_w τ n (((200 : Int32) * a + (2 : Int32) * b) + (1 : Int32))) = some t) (fun t ht => ht) (fun t ht => yp_some ⟨rfl, t.1, ht⟩)) (fun r hr => ?_)
      rw [if_pos (show (0 : Int32) ≤ r.1 by rw [hr.1]; decide)]
      exact yp_gd (fun _ => yp_bd (fun v => fX9_bit (sn_I r.2 10 a.toNatClampNeg) b = some v) (fun v hv => hv) (fun v hv => yp_some (Or.inr ⟨⟨cp, cm, cn⟩, hr.2, hv⟩)))
    · rw [rm_act0 hn cn h40]
      exact yp_bs rfl (yp_ite (fun x => absurd (show (0 : Int32) ≤ -5 from x) (by decide)) (fun _ => yp_some (Or.inl ⟨fun h => cn h.2.2, rfl, by rw [if_pos ⟨cp, cm⟩]⟩)))
end
/-- one act more on both sides: what the two have in common then -/
theorem zK_more {σ τ u t : sn_S} {p m n k : Nat} (h : zK σ τ) (hJ : zJ u t) (hn : τ.1 1 9 = nI n) (hlt : n < 40) (hp : p < sp_n (τ.1 1) 5) (hm : m < sp_n (τ.1 1) 0) (hk : k < 2) {x v : Int32} (hx : x = nI (200 * p + 2 * m + k)) (hu : fX8_liveAnew (ac_w σ n (nI k) (nI p) (nI m)) = some u) (ht : fX9_asksHouse (am_w τ n x) = some (v, t)) : zK u t ∧ yM (am_w τ n x) t ((am_w τ n x).1 1) := by
  obtain ⟨_, ⟨w1, w2⟩, him, hD⟩ := h
  have hW := yA_W w1 hn hlt hp hm hk hx
  have hH := yA_H (σ := σ) w1 w2 hn hlt hp hm hk hx
  obtain ⟨u1, u2, u3⟩ := yc_anew hW hH _ hu
  have hM : yM (am_w τ n x) t ((am_w τ n x).1 1) := (ym_asks rfl hW _ ht).2
  have e1 : t.1 1 = (am_w τ n x).1 1 := hM.1
  have e2 : t.1 2 = τ.1 2 := by
    rw [hM.2.2.2.2.2.2.2.2.2.2.1 2 (by decide) (by decide)]
    unfold am_w
    rw [pI_ne (by decide), pI_ne (by decide)]
  refine ⟨⟨hJ, ⟨by rw [e1]; exact hW, by rw [e1]; exact yH_c (fun q a1 a2 => u1 q (by omega)) hH⟩, fun j hj => ?_, by rw [e1]; exact u3⟩, hM⟩
  rw [yw_c e2 j]
  refine ⟨(him j hj).1, yH_c (fun q a1 a2 => ?_) (him j hj).2⟩
  rw [u1 q (by omega)]
  unfold ac_w
  rw [pI_ne (by omega), pI_ne (by omega), pI_ne (by omega), pI_ne (by omega)]
/-- the two's numbers of persons, minutes, acts -/
theorem yK_n {σ τ : sn_S} (h : zK σ τ) : (σ.1 2 9 = nI (sp_n (τ.1 1) 9) ∧ τ.1 1 9 = nI (sp_n (τ.1 1) 9) ∧ sp_n (τ.1 1) 9 ≤ 40) ∧ (σ.1 2 5 = τ.1 1 5 ∧ τ.1 1 5 = nI (sp_n (τ.1 1) 5) ∧ sp_n (τ.1 1) 5 ≤ 6) ∧ (σ.1 2 0 = τ.1 1 0 ∧ τ.1 1 0 = nI (sp_n (τ.1 1) 0) ∧ sp_n (τ.1 1) 0 ≤ 30) := by
  obtain ⟨_, ⟨w1, w2⟩, _⟩ := h
  have b9 := w1.1.2.2.2.2.2.2.2.2.2.1
  have b5 := w1.1.2.2.2.2.2.1
  have b0 := w1.1.1
  exact ⟨⟨(w2.1 9 (by decide)).trans b9.1, b9.1, b9.2⟩, ⟨w2.1 5 (by decide), b5.1, b5.2⟩, w2.1 0 (by decide), b0.1, b0.2⟩
theorem yK_p {a : Int32} {n : Nat} (hn : n < 100) {c : Int32} (hc : c = nI n) (h : 0 ≤ a ∧ a < c) : ∃ p, p < n ∧ a = nI p := by
  subst hc
  exact nI_idx (by omega) h.1 h.2
theorem yA_x {p m : Nat} : (200 : Int32) * nI p + (2 : Int32) * nI m = nI (200 * p + 2 * m + 0) := by
  rw [show (200 : Int32) * nI p = nI (200 * p) from nI_mul 200 p, yi_2, nI_add]
  rfl
theorem yA_x1 {p m : Nat} : ((200 : Int32) * nI p + (2 : Int32) * nI m) + (1 : Int32) = nI (200 * p + 2 * m + 1) := by
  rw [yA_x]
  exact nI_1 _
/-- behind an act: the tickle, the sneeze in its minute -/
theorem zK_59 : ∀ (σ τ : sn_S) (a b : Int32), zK σ τ → ∃ r σ1 τ1, fX8_stifle σ a b = some (r, σ1) ∧ fX9_stifle τ a b = some (r, τ1) ∧ zK σ1 τ1 := by
  intro σ τ a b h
  obtain ⟨r, r2, σ1, τ1, e1, e2, hJ⟩ := zJ_59 σ τ a b h.1
  obtain ⟨⟨n1, n2, n3⟩, ⟨p1, p2, p3⟩, ⟨m1, m2, m3⟩⟩ := yK_n h
  have f := yk_stifle n1 n3 _ e1
  have g := yk_mstifle n2 n3 (by rw [p2]; exact nI_pos' (by omega)) (by rw [m2]; exact nI_pos' (by omega)) _ e2
  rw [p1, m1] at f
  rcases f with ⟨f1, f2, f3⟩ | ⟨f1, f2, f3⟩
  · rcases g with ⟨g1, g2, g3⟩ | ⟨g1, g2⟩
    · have f2 : σ1 = σ := f2
      have g2 : τ1 = τ := g2
      have er : r = r2 := f3.trans g3.symm
      subst er
      exact ⟨r, σ1, τ1, e1, e2, by rw [f2, show τ1 = τ from g2]; exact h⟩
    · exact absurd g1 f1
  · rcases g with ⟨g1, g2⟩ | ⟨g1, ⟨t, g2⟩, g3⟩
    · exact absurd f1 g1
    · obtain ⟨p, hp, ep⟩ := yK_p (by omega) p2 f1.1
      obtain ⟨m, hm, em⟩ := yK_p (by omega) m2 f1.2.1
      subst ep
      subst em
      have f2 : fX8_liveAnew (ac_w σ (sp_n (τ.1 1) 9) (nI 0) (nI p) (nI m)) = some σ1 := f2
      obtain ⟨k1, k2⟩ := zK_more h hJ n2 f1.2.2 hp hm (k := 0) (by decide) yA_x f2 g2
      have hW1 := k1.2.1.1
      have c5 : sp_n (τ1.1 1) 5 = sp_n (τ.1 1) 5 := by
        have : τ1.1 1 5 = τ.1 1 5 := by
          rw [k2.1]
          unfold am_w
          rw [pI_slot (by decide), pI_slot (by omega)]
        exact sp_mv this
      have c0 : sp_n (τ1.1 1) 0 = sp_n (τ.1 1) 0 := by
        have : τ1.1 1 0 = τ.1 1 0 := by
          rw [k2.1]
          unfold am_w
          rw [pI_slot (by decide), pI_slot (by omega)]
        exact sp_mv this
      have er : r = r2 := by
        unfold fX0_tickleAt at f3
        rw [yi_6, nI_add] at f3
        obtain ⟨_, f4⟩ := sn_gdE f3
        have f5 : r = sn_I σ1 (27 + 7) (nI (6 * m + p)).toNatClampNeg := (Option.some.inj f4).symm
        rw [yi_6, nI_add, nI_clamp (by omega)] at g3
        rw [nI_clamp (by omega)] at f5
        have d1 : σ1.1 (27 + 7) (6 * m + p) = dy_tick (hs_day (τ1.1 1)) m p := ((k1.2.2.2.2.2.1 m (by omega)).2 p (show p < sp_n (τ1.1 1) 5 by omega)).1
        have d2 : τ1.1 12 (6 * m + p) = dy_tick (hs_day (τ1.1 1)) m p := by
          have := ((k2.2.1.1 m (by rw [← k2.1]; omega)).2 p (by show p < sp_n ((am_w τ (sp_n (τ.1 1) 9) _).1 1) 5; rw [← k2.1]; omega)).1
          rw [← k2.1] at this
          exact this
        exact f5.trans (d1.trans (d2.symm.trans g3.symm))
      subst er
      exact ⟨r, σ1, τ1, e1, e2, k1⟩
theorem zK_60 : ∀ (σ τ : sn_S) (a b : Int32), zK σ τ → ∃ r σ1 τ1, fX8_sniff σ a b = some (r, σ1) ∧ fX9_sniff τ a b = some (r, τ1) ∧ zK σ1 τ1 := by
  intro σ τ a b h
  obtain ⟨r, r2, σ1, τ1, e1, e2, hJ⟩ := zJ_60 σ τ a b h.1
  obtain ⟨⟨n1, n2, n3⟩, ⟨p1, p2, p3⟩, ⟨m1, m2, m3⟩⟩ := yK_n h
  have f := yk_sniff n1 n3 _ e1
  have g := yk_msniff n2 n3 (by rw [p2]; exact nI_pos' (by omega)) (by rw [m2]; exact nI_pos' (by omega)) _ e2
  rw [p1, m1] at f
  rcases f with ⟨f1, f2, f3⟩ | ⟨f1, f2, t0, f3, f4⟩
  · rcases g with ⟨g1, g2, g3⟩ | ⟨g1, g2⟩
    · have f2 : σ1 = σ := f2
      have g2 : τ1 = τ := g2
      have er : r = r2 := f3.trans g3.symm
      subst er
      exact ⟨r, σ1, τ1, e1, e2, by rw [f2, show τ1 = τ from g2]; exact h⟩
    · exact absurd g1 f1
  · rcases g with ⟨g1, g2⟩ | ⟨g1, ⟨t, g2⟩, g3⟩
    · exact absurd f1 g1
    · obtain ⟨p, hp, ep⟩ := yK_p (by omega) p2 f1.1
      obtain ⟨m, hm, em⟩ := yK_p (by omega) m2 f1.2.1
      subst ep
      subst em
      have f2 : fX8_liveAnew (ac_w σ (sp_n (τ.1 1) 9) (nI 1) (nI p) (nI m)) = some σ1 := f2
      obtain ⟨k1, k2⟩ := zK_more h hJ n2 f1.2.2 hp hm (k := 1) (by decide) yA_x1 f2 g2
      have c5 : sp_n (τ1.1 1) 5 = sp_n (τ.1 1) 5 := by
        have : τ1.1 1 5 = τ.1 1 5 := by
          rw [k2.1]
          unfold am_w
          rw [pI_slot (by decide), pI_slot (by omega)]
        exact sp_mv this
      have er : r = r2 := by
        rw [nI_clamp (show p < 2 ^ 31 by omega)] at f3 g3
        have d1 : sn_I σ1 (27 + 10) p = dy_sn (hs_day (τ1.1 1)) (sp_n (τ1.1 1) 0) p := k1.2.2.2.2.2.2 p (show p < sp_n (τ1.1 1) 5 by omega)
        have d2 : sn_I τ1 10 p = dy_sn (hs_day (τ1.1 1)) (sp_n (τ1.1 1) 0) p := by
          have := (k2.2.1.2 p (by omega)).1
          rw [← k2.1, if_pos (show p < dy_P (hs_day (τ1.1 1)) from (show p < sp_n (τ1.1 1) 5 by omega))] at this
          exact this
        rw [d1, yb_c] at f3
        rw [d2, yb_m] at g3
        have f3 := Option.some.inj f3
        have g3 := Option.some.inj g3
        have f4 : r = if t0 = 0 then 0 else 1 := f4
        have g3 : _ = r2 := g3
        rw [f4, ← f3, ← g3]
        by_cases c : sp_bit (dy_sn (hs_day (τ1.1 1)) (sp_n (τ1.1 1) 0) p) m = true
        · rw [if_pos c, if_neg (by decide)]
        · rw [if_neg c, if_pos rfl]
      subst er
      exact ⟨r, σ1, τ1, e1, e2, k1⟩
section
variable {σ τ : sn_S} {a b : Int32}
theorem yk_isHouse : fX8_isHouse σ = some (if σ.1 2 10 ≤ 0 then 0 else 1) := by
  unfold fX8_isHouse
  show (if σ.1 2 10 ≤ 0 then _ else _) = _
  by_cases c : σ.1 2 10 ≤ 0
  · rw [if_pos c, if_pos c]
    rfl
  · rw [if_neg c, if_neg c]
    rfl
theorem yk_misHouse : fX9_isHouse τ = some (if τ.1 1 10 ≤ 0 then 0 else 1) := by
  unfold fX9_isHouse
  show (if τ.1 1 10 ≤ 0 then _ else _) = _
  by_cases c : τ.1 1 10 ≤ 0
  · rw [if_pos c, if_pos c]
    rfl
  · rw [if_neg c, if_neg c]
    rfl
theorem yk_undo : yp (fX8_undo σ) (fun r => (¬ (¬ σ.1 2 10 ≤ 0 ∧ 1 ≤ σ.1 2 9) ∧ r.2 = σ) ∨ ((¬ σ.1 2 10 ≤ 0 ∧ 1 ≤ σ.1 2 9) ∧ fX8_liveAnew (sn_pI σ 2 9 (σ.1 2 9 - 1)) = some r.2)) := by
  unfold fX8_undo
  rw [yk_isHouse]
  refine yp_bs rfl (yp_ite (fun c => yp_some (Or.inl ⟨fun h => ?_, rfl⟩)) (fun c => yp_gd (fun _ => yp_ite (fun d => ?_) (fun d => yp_some (Or.inl ⟨fun h => d h.2, rfl⟩)))))
  · rw [if_neg h.1] at c
    exact absurd c (by decide)
  · have c2 : ¬ σ.1 2 10 ≤ 0 := fun z => by
      rw [if_pos z] at c
      exact absurd rfl c
    exact yp_gd (fun _ => yp_gd (fun _ => yp_lt (yp_bd (fun u => fX8_liveAnew (sn_pI σ 2 9 (σ.1 2 9 - 1)) = some u) (fun u hu => hu) (fun u hu => yp_gd (fun _ => yp_some (Or.inr ⟨⟨c2, d⟩, hu⟩))))))
theorem yk_mundo : yp (fX9_undo τ) (fun r => (¬ (¬ τ.1 1 10 ≤ 0 ∧ ¬ τ.1 1 9 = 0) ∧ r.2 = τ) ∨ ((¬ τ.1 1 10 ≤ 0 ∧ ¬ τ.1 1 9 = 0) ∧ r.2 = sn_pI τ 1 9 (τ.1 1 9 - 1))) := by
  unfold fX9_undo
  rw [yk_misHouse]
  refine yp_bs rfl (yp_ite (fun c => yp_some (Or.inl ⟨fun h => ?_, rfl⟩)) (fun c => yp_gd (fun _ => yp_ite (fun d => yp_some (Or.inl ⟨fun h => h.2 d, rfl⟩)) (fun d => ?_))))
  · rw [if_neg h.1] at c
    exact absurd c (by decide)
  · have c2 : ¬ τ.1 1 10 ≤ 0 := fun z => by
      rw [if_pos z] at c
      exact absurd rfl c
    exact yp_gd (fun _ => yp_gd (fun _ => yp_lt (yp_gd (fun _ => yp_some (Or.inr ⟨⟨c2, d⟩, rfl⟩)))))
theorem yk_anew : yp (fX8_anew σ) (fun r => (σ.1 2 10 ≤ 0 ∧ r.2 = σ) ∨ (¬ σ.1 2 10 ≤ 0 ∧ fX8_liveAnew (sn_pI σ 2 9 0) = some r.2)) := by
  unfold fX8_anew
  rw [yk_isHouse]
  refine yp_bs rfl (yp_ite (fun c => yp_some (Or.inl ⟨?_, rfl⟩)) (fun c => yp_gd (fun _ => yp_lt (yp_gd (fun _ => yp_lt (yp_bd (fun u => fX8_liveAnew (sn_pI σ 2 9 0) = some u) (fun u hu => hu) (fun u hu => yp_some (Or.inr ⟨?_, hu⟩))))))))
  · by_cases z : σ.1 2 10 ≤ 0
    · exact z
    · rw [if_neg z] at c
      exact absurd c (by decide)
  · intro z
    rw [if_pos z] at c
    exact absurd rfl c
theorem yk_manew : yp (fX9_anew τ) (fun r => (τ.1 1 10 ≤ 0 ∧ r.2 = τ) ∨ (¬ τ.1 1 10 ≤ 0 ∧ r.2 = sn_pI τ 1 9 0)) := by
  unfold fX9_anew
  rw [yk_misHouse]
  refine yp_bs rfl (yp_ite (fun c => yp_some (Or.inl ⟨?_, rfl⟩)) (fun c => yp_gd (fun _ => yp_lt (yp_gd (fun _ => yp_lt (yp_some (Or.inr ⟨?_, rfl⟩)))))))
  · by_cases z : τ.1 1 10 ≤ 0
    · exact z
    · rw [if_neg z] at c
      exact absurd c (by decide)
  · intro z
    rw [if_pos z] at c
    exact absurd rfl c
theorem yk_rate : yp (fX8_rate σ a b) (fun r => (¬ ((0 ≤ a ∧ a < σ.1 2 8) ∧ (0 ≤ b ∧ b ≤ 99) ∧ σ.1 2 9 ≤ 0) ∧ r.2 = σ) ∨ (((0 ≤ a ∧ a < σ.1 2 8) ∧ (0 ≤ b ∧ b ≤ 99) ∧ σ.1 2 9 ≤ 0) ∧ r.2 = sn_pI σ 6 (((5 : Int32) * a) + (4 : Int32)).toNatClampNeg b)) := by
  unfold fX8_rate
  rw [c_isPolicy]
  refine yp_bs rfl (yp_ite (fun c => yp_some (Or.inl ⟨fun h => ?_, rfl⟩)) (fun c => yp_ite (fun d => yp_some (Or.inl ⟨fun h => absurd d (Int32.not_lt.mpr h.2.1.1), rfl⟩)) (fun d => yp_ite (fun e => yp_gd (fun _ => yp_ite (fun f => ?_) (fun f => yp_some (Or.inl ⟨fun h => f h.2.2, rfl⟩)))) (fun e => yp_some (Or.inl ⟨fun h => e h.2.1.2, rfl⟩)))))
  · rw [if_pos h.1] at c
    exact absurd c (by decide)
  · have c2 : 0 ≤ a ∧ a < σ.1 2 8 := by
      by_cases z : 0 ≤ a ∧ a < σ.1 2 8
      · exact z
      · rw [if_neg z] at c
        exact absurd rfl c
    exact yp_bd (fun _ => True) (fun _ _ => trivial) (fun t _ => yp_gd (fun _ => yp_lt (yp_some (Or.inr ⟨⟨c2, ⟨Int32.not_lt.mp d, e⟩, f⟩, rfl⟩))))
theorem yk_mrate (h8 : 0 ≤ τ.1 1 8) : yp (fX9_rate τ a b) (fun r => (¬ ((0 ≤ a ∧ a < τ.1 1 8) ∧ (0 ≤ b ∧ b ≤ 99) ∧ τ.1 1 9 ≤ 0) ∧ r.2 = τ) ∨ (((0 ≤ a ∧ a < τ.1 1 8) ∧ (0 ≤ b ∧ b ≤ 99) ∧ τ.1 1 9 ≤ 0) ∧ r.2 = sn_pI τ 1 (((49 : Int32) + ((5 : Int32) * a)) + (4 : Int32)).toNatClampNeg b)) := by
  unfold fX9_rate
  have e9 : fX9_in b.toInt64 (0 : Int64) (99 : Int64) = some (if (0 : Int32) ≤ b ∧ b ≤ (99 : Int32) then 1 else 0) := in_eq32 b 0 99
  rw [m_isPolicy h8, e9]
  refine yp_bs rfl (yp_ite (fun c => yp_some (Or.inl ⟨fun h => ?_, rfl⟩)) (fun c => yp_bs rfl (yp_ite (fun d => yp_some (Or.inl ⟨fun h => ?_, rfl⟩)) (fun d => yp_gd (fun _ => yp_ite (fun f => ?_) (fun f => yp_some (Or.inl ⟨fun h => f h.2.2, rfl⟩)))))))
  · rw [if_pos h.1] at c
    exact absurd c (by decide)
  · rw [if_pos h.2.1] at d
    exact absurd d (by decide)
  · have c2 : 0 ≤ a ∧ a < τ.1 1 8 := by
      by_cases z : 0 ≤ a ∧ a < τ.1 1 8
      · exact z
      · rw [if_neg z] at c
        exact absurd rfl c
    have d2 : (0 : Int32) ≤ b ∧ b ≤ 99 := by
      by_cases z : (0 : Int32) ≤ b ∧ b ≤ 99
      · exact z
      · rw [if_neg z] at d
        exact absurd rfl d
    exact yp_bd (fun _ => True) (fun _ _ => trivial) (fun t _ => yp_gd (fun _ => yp_lt (yp_some (Or.inr ⟨⟨c2, d2, f⟩, rfl⟩))))
end
/-- fewer acts on both sides -/
theorem zK_less {σ τ u : sn_S} {j : Nat} (h : zK σ τ) (hJ : zJ u (sn_pI τ 1 9 (nI j))) (hj : j ≤ sp_n (τ.1 1) 9) (hu : fX8_liveAnew (sn_pI σ 2 9 (nI j)) = some u) : zK u (sn_pI τ 1 9 (nI j)) := by
  obtain ⟨_, ⟨w1, w2⟩, him, hD⟩ := h
  obtain ⟨hW, hH⟩ := yA_less w1 hj
  obtain ⟨u1, u2, u3⟩ := yc_anew hW (hH σ w2) _ hu
  refine ⟨hJ, ⟨hW, yH_c (fun q a1 a2 => u1 q (by omega)) (hH σ w2)⟩, fun i hi => ?_, u3⟩
  rw [yw_c (show (sn_pI τ 1 9 (nI j)).1 2 = τ.1 2 from pI_ne (by decide)) i]
  exact ⟨(him i hi).1, yH_c (fun q a1 a2 => (u1 q (by omega)).trans (pI_ne (by omega))) (him i hi).2⟩
theorem zK_61 : ∀ (σ τ : sn_S), zK σ τ → ∃ r σ1 τ1, fX8_undo σ = some (r, σ1) ∧ fX9_undo τ = some (r, τ1) ∧ zK σ1 τ1 := by
  intro σ τ h
  obtain ⟨r, σ1, τ1, e1, e2, hJ⟩ := zJ_61 σ τ h.1
  refine ⟨r, σ1, τ1, e1, e2, ?_⟩
  obtain ⟨⟨n1, n2, n3⟩, -⟩ := yK_n h
  have f := yk_undo _ e1
  have g := yk_mundo _ e2
  have e10 : σ.1 2 10 = τ.1 1 10 := h.2.1.2.1 10 (by decide)
  rw [e10, n1] at f
  rw [n2] at g
  have z0 : (1 ≤ nI (sp_n (τ.1 1) 9)) ↔ ¬ nI (sp_n (τ.1 1) 9) = 0 := by
    rw [yi_0 (by omega), show (1 : Int32) = nI 1 from rfl, nI_leI (by decide) (by omega)]
    omega
  rcases f with ⟨f1, f2⟩ | ⟨f1, f2⟩
  · rcases g with ⟨g1, g2⟩ | ⟨g1, g2⟩
    · have f2 : σ1 = σ := f2
      have g2 : τ1 = τ := g2
      rw [f2, g2]
      exact h
    · exact absurd ⟨g1.1, z0.mpr g1.2⟩ f1
  · rcases g with ⟨g1, g2⟩ | ⟨g1, g2⟩
    · exact absurd ⟨f1.1, z0.mp f1.2⟩ g1
    · have g2 : τ1 = _ := g2
      subst g2
      have l1 : 1 ≤ sp_n (τ.1 1) 9 := by
        have := f1.2
        rw [show (1 : Int32) = nI 1 from rfl, nI_leI (by decide) (by omega)] at this
        exact this
      rw [yi_s1 l1] at f2 hJ ⊢
      exact zK_less h hJ (by omega) f2
theorem zK_62 : ∀ (σ τ : sn_S), zK σ τ → ∃ r σ1 τ1, fX8_anew σ = some (r, σ1) ∧ fX9_anew τ = some (r, τ1) ∧ zK σ1 τ1 := by
  intro σ τ h
  obtain ⟨r, σ1, τ1, e1, e2, hJ⟩ := zJ_62 σ τ h.1
  refine ⟨r, σ1, τ1, e1, e2, ?_⟩
  have f := yk_anew _ e1
  have g := yk_manew _ e2
  have e10 : σ.1 2 10 = τ.1 1 10 := h.2.1.2.1 10 (by decide)
  rw [e10] at f
  rcases f with ⟨f1, f2⟩ | ⟨f1, f2⟩
  · rcases g with ⟨g1, g2⟩ | ⟨g1, g2⟩
    · have f2 : σ1 = σ := f2
      have g2 : τ1 = τ := g2
      rw [f2, g2]
      exact h
    · exact absurd f1 g1
  · rcases g with ⟨g1, g2⟩ | ⟨g1, g2⟩
    · exact absurd g1 f1
    · have g2 : τ1 = _ := g2
      subst g2
      rw [← nI_0] at f2 hJ ⊢
      exact zK_less h hJ (Nat.zero_le _) f2
theorem zK_65 : ∀ (σ τ : sn_S) (a b : Int32), zK σ τ → ∃ r σ1 τ1, fX8_rate σ a b = some (r, σ1) ∧ fX9_rate τ a b = some (r, τ1) ∧ zK σ1 τ1 := by
  intro σ τ a b h
  obtain ⟨r, σ1, τ1, e1, e2, hJ⟩ := zJ_65 σ τ a b h.1
  refine ⟨r, σ1, τ1, e1, e2, ?_⟩
  obtain ⟨⟨n1, n2, n3⟩, -⟩ := yK_n h
  have b8 := h.2.1.1.1.2.2.2.2.2.2.2.2.1
  have l8 := b8.2
  have f := yk_rate _ e1
  have g := yk_mrate (by rw [b8.1]; exact nI_pos' (by omega)) _ e2
  have e8 : σ.1 2 8 = τ.1 1 8 := h.2.1.2.1 8 (by decide)
  rw [e8, n1] at f
  rw [n2] at g
  rcases f with ⟨f1, f2⟩ | ⟨f1, f2⟩
  · rcases g with ⟨g1, g2⟩ | ⟨g1, g2⟩
    · have f2 : σ1 = σ := f2
      have g2 : τ1 = τ := g2
      rw [f2, g2]
      exact h
    · exact absurd g1 f1
  · rcases g with ⟨g1, g2⟩ | ⟨g1, g2⟩
    · exact absurd f1 g1
    · obtain ⟨q, hq, eq⟩ := yK_p (by omega) b8.1 f1.1
      obtain ⟨ev, lv⟩ := yv (b := 99) f1.2.1.1 f1.2.1.2 (by decide)
      generalize b.toNatClampNeg = v at ev lv
      subst eq
      subst ev
      have f2 : σ1 = _ := f2
      have g2 : τ1 = _ := g2
      rw [yi_5, show nI (5 * q) + (4 : Int32) = nI (5 * q + 4) from nI_add _ 4, nI_clamp (by omega)] at f2
      rw [yi_5, show (49 : Int32) + nI (5 * q) = nI (49 + 5 * q) from nI_add 49 _, show nI (49 + 5 * q) + (4 : Int32) = nI (49 + 5 * q + 4) from nI_add _ 4, nI_clamp (by omega), show 49 + 5 * q + 4 = 53 + 5 * q by omega] at g2
      subst f2
      subst g2
      obtain ⟨_, ⟨w1, w2⟩, him, hD⟩ := h
      obtain ⟨hW, hH, hD2⟩ := yA_rate (q := q) (v := v) w1 hq lv
      refine ⟨hJ, ⟨hW, hH σ w2⟩, fun i hi => ?_, yD_c (fun c a1 a2 => pI_ne (by omega)) (hD2 σ hD)⟩
      rw [yw_c (show (sn_pI τ 1 (53 + 5 * q) (nI v)).1 2 = τ.1 2 from pI_ne (by decide)) i]
      exact ⟨(him i hi).1, yH_c (fun c a1 a2 => pI_ne (by omega)) (him i hi).2⟩
