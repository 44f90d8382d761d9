/-! reading behind writing; loops; numbers -/
theorem sn_I_pI {σ : sn_S} {q k a b : Nat} {v : Int32} : sn_I (sn_pI σ q k v) a b = if a = q ∧ b = k then v else sn_I σ a b := rfl
theorem sn_I_pL {σ : sn_S} {q k a b : Nat} {v : Int64} : sn_I (sn_pL σ q k v) a b = sn_I σ a b := rfl
theorem sn_I_pR {σ : sn_S} {q k a b : Nat} {v : Option Nat} : sn_I (sn_pR σ q k v) a b = sn_I σ a b := rfl
theorem sn_I_wI {σ : sn_S} {q a b : Nat} {f : Nat → Int32} : sn_I (sn_wI σ q f) a b = if a = q then f b else sn_I σ a b := by
  show (if a = q then f else σ.1 a) b = _
  split <;> rfl
theorem sn_I_wL {σ : sn_S} {q a b : Nat} {f : Nat → Int64} : sn_I (sn_wL σ q f) a b = sn_I σ a b := rfl
theorem sn_L_pI {σ : sn_S} {q k a b : Nat} {v : Int32} : sn_L (sn_pI σ q k v) a b = sn_L σ a b := rfl
theorem sn_L_pL {σ : sn_S} {q k a b : Nat} {v : Int64} : sn_L (sn_pL σ q k v) a b = if a = q ∧ b = k then v else sn_L σ a b := rfl
theorem sn_L_pR {σ : sn_S} {q k a b : Nat} {v : Option Nat} : sn_L (sn_pR σ q k v) a b = sn_L σ a b := rfl
theorem sn_L_wI {σ : sn_S} {q a b : Nat} {f : Nat → Int32} : sn_L (sn_wI σ q f) a b = sn_L σ a b := rfl
theorem sn_L_wL {σ : sn_S} {q a b : Nat} {f : Nat → Int64} : sn_L (sn_wL σ q f) a b = if a = q then f b else sn_L σ a b := by
  show (if a = q then f else σ.2.1 a) b = _
  split <;> rfl
theorem sn_R_pI {σ : sn_S} {q k a b : Nat} {v : Int32} : sn_R (sn_pI σ q k v) a b = sn_R σ a b := rfl
theorem sn_R_pL {σ : sn_S} {q k a b : Nat} {v : Int64} : sn_R (sn_pL σ q k v) a b = sn_R σ a b := rfl
theorem sn_R_pR {σ : sn_S} {q k a b : Nat} {v : Option Nat} : sn_R (sn_pR σ q k v) a b = if a = q ∧ b = k then v else sn_R σ a b := rfl
theorem sn_R_wI {σ : sn_S} {q a b : Nat} {f : Nat → Int32} : sn_R (sn_wI σ q f) a b = sn_R σ a b := rfl
theorem sn_R_wL {σ : sn_S} {q a b : Nat} {f : Nat → Int64} : sn_R (sn_wL σ q f) a b = sn_R σ a b := rfl
/-- a loop that ends, by an invariant and a measure -/
theorem sn_it_rule {S T : Type} {f : S → Option (S ⊕ T)} (P : S → Prop) (μ : S → Nat) (post : T → Prop)
    (h : ∀ s, P s → (∃ s', f s = some (.inl s') ∧ P s' ∧ μ s' < μ s) ∨ (∃ t, f s = some (.inr t) ∧ post t)) : ∀ (n : Nat) (s : S), P s → μ s < n → ∃ t, sn_it f n s = some t ∧ post t := by
  intro n
  induction n with
  | zero => intro s _ h0; exact absurd h0 (by omega)
  | succ n ih =>
    intro s hP hm
    rcases h s hP with ⟨s', e1, e2, e3⟩ | ⟨t, e1, e2⟩
    · obtain ⟨t, e4, e5⟩ := ih s' e2 (by omega)
      exact ⟨t, by unfold sn_it; rw [e1]; exact e4, e5⟩
    · exact ⟨t, by unfold sn_it; rw [e1], e2⟩
/-- a loop over 0 .. N - 1, told by its invariant at each index -/
theorem sn_for {S T : Type} {f : S → Option (S ⊕ T)} (N : Nat) (P : Nat → S → Prop) (post : T → Prop) (step : ∀ k s, k < N → P k s → ∃ s', f s = some (.inl s') ∧ P (k + 1) s') (last : ∀ s, P N s → ∃ t, f s = some (.inr t) ∧ post t) {n : Nat} (hn : N < n) {s : S} (h0 : P 0 s) : ∃ t, sn_it f n s = some t ∧ post t := by
  have key : ∀ (d k n : Nat) (s : S), N - k = d → k ≤ N → d < n → P k s → ∃ t, sn_it f n s = some t ∧ post t := by
    intro d
    induction d with
    | zero =>
      intro k n s hd hk hn hP
      have : k = N := by omega
      subst this
      obtain ⟨t, e1, e2⟩ := last s hP
      match n, hn with
      | n + 1, _ => exact ⟨t, by unfold sn_it; rw [e1], e2⟩
    | succ d ih =>
      intro k n s hd hk hn hP
      obtain ⟨s', e1, e2⟩ := step k s (by omega) hP
      match n, hn with
      | n + 1, hn =>
        obtain ⟨t, e3, e4⟩ := ih (k + 1) n s' (by omega) (by omega) (by omega) e2
        exact ⟨t, by unfold sn_it; rw [e1]; exact e3, e4⟩
  exact key N 0 n s (by omega) (by omega) hn h0
theorem sn_in_nI {k n : Nat} (h : k < n) (hn : n < 2 ^ 31) : sn_in (nI k) n = true := by
  unfold sn_in
  rw [nI_clamp (by omega)]
  simp [h, nI_pos' (show k < 2 ^ 31 by omega)]
theorem lg_lt (x y : Int64) : lg_cmp x y < 0 ↔ x < y := by
  unfold lg_cmp
  by_cases h1 : x > y
  · rw [if_pos h1]
    constructor
    · intro h; exact absurd h (by decide)
    · intro h; exact absurd (Int64.lt_trans h h1) (Int64.lt_irrefl)
  · rw [if_neg h1]
    by_cases h2 : x = y
    · rw [if_pos h2]
      subst h2
      constructor
      · intro h; exact absurd h (by decide)
      · intro h; exact absurd h Int64.lt_irrefl
    · rw [if_neg h2]
      constructor
      · intro _
        rcases Int64.lt_or_le x y with h | h
        · exact h
        · rcases Int64.le_iff_lt_or_eq.mp h with h3 | h3
          · exact absurd h3 h1
          · exact absurd h3.symm h2
      · intro _; decide
