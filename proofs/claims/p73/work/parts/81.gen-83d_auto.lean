section
/-! reading behind writing; loops; numbers -/
theorem sn_I_pI {σ : sn_S} {q k a b : Nat} {v : Int32} : sn_I (sn_pI σ q k v) a b = if a = q ∧ b = k then v else sn_I σ a b := rfl
theorem sn_I_pL {σ : sn_S} {q k a b : Nat} {v : Int64} : sn_I (sn_pL σ q k v) a b = sn_I σ a b := rfl
theorem sn_I_pR {σ : sn_S} {q k a b : Nat} {v : Option Nat} : sn_I (sn_pR σ q k v) a b = sn_I σ a b := rfl
theorem sn_I_wI {σ : sn_S} {q a b : Nat} {f : Nat → Int32} : sn_I (sn_wI σ q f) a b = if a = q then f b else sn_I σ a b := by
  show (if a = q then f else σ.1 a) b = _
  split <;> rfl
theorem sn_I_wL {σ : sn_S} {q a b : Nat} {f : Nat → Int64} : sn_I (sn_wL σ q f) a b = sn_I σ a b := rfl
theorem sn_L_pI {σ : sn_S} {q k a b : Nat} {v : Int32} : sn_L (sn_pI σ q k v) a b = sn_L σ a b := rfl
theorem sn_L_pL {σ : sn_S} {q k a b : Nat} {v : Int64} : sn_L (sn_pL σ q k v) a b = if a = q ∧ b = k then v else sn_L σ a b := rfl
theorem sn_L_pR {σ : sn_S} {q k a b : Nat} {v : Option Nat} : sn_L (sn_pR σ q k v) a b = sn_L σ a b := rfl
theorem sn_L_wI {σ : sn_S} {q a b : Nat} {f : Nat → Int32} : sn_L (sn_wI σ q f) a b = sn_L σ a b := rfl
theorem sn_L_wL {σ : sn_S} {q a b : Nat} {f : Nat → Int64} : sn_L (sn_wL σ q f) a b = if a = q then f b else sn_L σ a b := by
  show (if a = q then f else σ.2.1 a) b = _
  split <;> rfl
theorem sn_R_pI {σ : sn_S} {q k a b : Nat} {v : Int32} : sn_R (sn_pI σ q k v) a b = sn_R σ a b := rfl
theorem sn_R_pL {σ : sn_S} {q k a b : Nat} {v : Int64} : sn_R (sn_pL σ q k v) a b = sn_R σ a b := rfl
theorem sn_R_pR {σ : sn_S} {q k a b : Nat} {v : Option Nat} : sn_R (sn_pR σ q k v) a b = if a = q ∧ b = k then v else sn_R σ a b := rfl
theorem sn_R_wI {σ : sn_S} {q a b : Nat} {f : Nat → Int32} : sn_R (sn_wI σ q f) a b = sn_R σ a b := rfl
theorem sn_R_wL {σ : sn_S} {q a b : Nat} {f : Nat → Int64} : sn_R (sn_wL σ q f) a b = sn_R σ a b := rfl
/-- a loop that ends, by an invariant and a measure -/
theorem sn_it_rule {S T : Type} {f : S → Option (S ⊕ T)} (P : S → Prop) (μ : S → Nat) (post : T → Prop)
    (h : ∀ s, P s → (∃ s', f s = some (.inl s') ∧ P s' ∧ μ s' < μ s) ∨ (∃ t, f s = some (.inr t) ∧ post t)) : ∀ (n : Nat) (s : S), P s → μ s < n → ∃ t, sn_it f n s = some t ∧ post t := by
  intro n
  induction n with
  | zero => intro s _ h0; exact absurd h0 (by omega)
  | succ n ih =>
    intro s hP hm
    rcases h s hP with ⟨s', e1, e2, e3⟩ | ⟨t, e1, e2⟩
    · obtain ⟨t, e4, e5⟩ := ih s' e2 (by omega)
      exact ⟨t, by unfold sn_it; rw [e1]; exact e4, e5⟩
    · exact ⟨t, by unfold sn_it; rw [e1], e2⟩
/-- a loop over 0 .. N - 1, told by its invariant at each index -/
theorem sn_for {S T : Type} {f : S → Option (S ⊕ T)} (N : Nat) (P : Nat → S → Prop) (post : T → Prop) (step : ∀ k s, k < N → P k s → ∃ s', f s = some (.inl s') ∧ P (k + 1) s') (last : ∀ s, P N s → ∃ t, f s = some (.inr t) ∧ post t) {n : Nat} (hn : N < n) {s : S} (h0 : P 0 s) : ∃ t, sn_it f n s = some t ∧ post t := by
  have key : ∀ (d k n : Nat) (s : S), N - k = d → k ≤ N → d < n → P k s → ∃ t, sn_it f n s = some t ∧ post t := by
    intro d
    induction d with
    | zero =>
      intro k n s hd hk hn hP
      have : k = N := by omega
      subst this
      obtain ⟨t, e1, e2⟩ := last s hP
      match n, hn with
      | n + 1, _ => exact ⟨t, by unfold sn_it; rw [e1], e2⟩
    | succ d ih =>
      intro k n s hd hk hn hP
      obtain ⟨s', e1, e2⟩ := step k s (by omega) hP
      match n, hn with
      | n + 1, hn =>
        obtain ⟨t, e3, e4⟩ := ih (k + 1) n s' (by omega) (by omega) (by omega) e2
        exact ⟨t, by unfold sn_it; rw [e1]; exact e3, e4⟩
  exact key N 0 n s (by omega) (by omega) hn h0
theorem sn_in_nI {k n : Nat} (h : k < n) (hn : n < 2 ^ 31) : sn_in (nI k) n = true := by
  unfold sn_in
  rw [nI_clamp (by omega)]
  simp [h, nI_pos' (show k < 2 ^ 31 by omega)]
theorem lg_lt (x y : Int64) : lg_cmp x y < 0 ↔ x < y := by
  unfold lg_cmp
  by_cases h1 : x > y
  · rw [if_pos h1]
    constructor
    · intro h; exact absurd h (by decide)
    · intro h; exact absurd (Int64.lt_trans h h1) (Int64.lt_irrefl)
  · rw [if_neg h1]
    by_cases h2 : x = y
    · rw [if_pos h2]
      subst h2
      constructor
      · intro h; exact absurd h (by decide)
      · intro h; exact absurd h Int64.lt_irrefl
    · rw [if_neg h2]
      constructor
      · intro _
        rcases Int64.lt_or_le x y with h | h
        · exact h
        · rcases Int64.le_iff_lt_or_eq.mp h with h3 | h3
          · exact absurd h3 h1
          · exact absurd h3.symm h2
      · intro _; decide
/-! the reference's small methods -/
theorem in_eq (x a b : Int64) : fX9_in x a b = some (if a ≤ x ∧ x ≤ b then 1 else 0) := by
  unfold fX9_in
  by_cases h1 : x < a
  · rw [if_pos ((lg_lt x a).mpr h1), if_neg (fun h => absurd h1 (Int64.not_lt.mpr h.1))]
    rfl
  · rw [if_neg (fun h => h1 ((lg_lt x a).mp h))]
    have hs : (0 < lg_cmp x b) ↔ b < x := by
      unfold lg_cmp
      by_cases g1 : x > b
      · rw [if_pos g1]; exact ⟨fun _ => g1, fun _ => by decide⟩
      · rw [if_neg g1]
        by_cases g2 : x = b
        · rw [if_pos g2]; exact ⟨fun h => absurd h (by decide), fun h => absurd h g1⟩
        · rw [if_neg g2]; exact ⟨fun h => absurd h (by decide), fun h => absurd h g1⟩
    by_cases h2 : b < x
    · rw [if_pos (hs.mpr h2), if_neg (fun h => absurd h2 (Int64.not_lt.mpr h.2))]
      rfl
    · rw [if_neg (fun h => h2 (hs.mp h)), if_pos ⟨Int64.not_lt.mp h1, Int64.not_lt.mp h2⟩]
      rfl
theorem in_eq32 (x a b : Int32) : fX9_in x.toInt64 a.toInt64 b.toInt64 = some (if a ≤ x ∧ x ≤ b then 1 else 0) := by
  rw [in_eq]
  have h : ∀ u v : Int32, u.toInt64 ≤ v.toInt64 ↔ u ≤ v := fun u v => by
    rw [Int64.le_iff_toInt_le, Int32.toInt_toInt64, Int32.toInt_toInt64, Int32.le_iff_toInt_le]
  simp only [h]
/-! numbers of 32 bits that are small -/
theorem i32_sub1 {v : Int32} (h : 0 ≤ v) : (v - 1).toInt = v.toInt - 1 := by
  have h1 : 0 ≤ v.toInt := by have := Int32.le_iff_toInt_le.mp h; simpa using this
  have h2 : v.toInt < 2 ^ 31 := Int32.toInt_lt v
  rw [Int32.toInt_sub]
  show (v.toInt - 1).bmod (2 ^ 32) = _
  exact Int.bmod_eq_of_le (by omega) (by omega)
theorem i32_le_sub1 {a v : Int32} (h : 0 ≤ v) : a ≤ v - 1 ↔ a < v := by
  rw [Int32.le_iff_toInt_le, Int32.lt_iff_toInt_lt, i32_sub1 h]
  omega
theorem nI_ofc {a : Int32} (h : 0 ≤ a) : a = nI a.toNatClampNeg := by
  have h1 : 0 ≤ a.toInt := by have := Int32.le_iff_toInt_le.mp h; simpa using this
  have h2 : a.toInt < 2 ^ 31 := Int32.toInt_lt a
  apply Int32.toInt_inj.mp
  have h3 : a.toNatClampNeg = a.toInt.toNat := rfl
  rw [nI_toInt (by omega), h3]
  omega
theorem nI_mul (a b : Nat) : nI a * nI b = nI (a * b) := (Int32.ofNat_mul a b).symm
/-- a number that names one of n things, n small -/
theorem nI_idx {a : Int32} {n : Nat} (hn : n < 2 ^ 31) (h0 : 0 ≤ a) (h1 : a < nI n) : ∃ k, k < n ∧ a = nI k := by
  refine ⟨a.toNatClampNeg, ?_, nI_ofc h0⟩
  have h2 := Int32.lt_iff_toInt_lt.mp h1
  have h3 : 0 ≤ a.toInt := by have := Int32.le_iff_toInt_le.mp h0; simpa using this
  rw [nI_toInt hn] at h2
  have h4 : a.toNatClampNeg = a.toInt.toNat := rfl
  omega
theorem gd_T {α : Type} {k : Option α} : sn_gd true k = k := rfl
/-! who and what there is -/
theorem c_isPerson (σ : sn_S) (a : Int32) : fX8_isPerson σ a = some (if 0 ≤ a ∧ a < σ.1 2 5 then 1 else 0) := by
  unfold fX8_isPerson
  by_cases h0 : a < 0
  · rw [if_pos h0, if_neg (fun h => absurd h0 (Int32.not_lt.mpr h.1))]
    rfl
  · rw [if_neg h0]
    show (if σ.1 2 5 ≤ a then _ else _) = _
    by_cases h1 : σ.1 2 5 ≤ a
    · rw [if_pos h1, if_neg (fun h => absurd h.2 (Int32.not_lt.mpr h1))]
      rfl
    · rw [if_neg h1, if_pos ⟨Int32.not_lt.mp h0, Int32.not_le.mp h1⟩]
      rfl
theorem m_isPerson {τ : sn_S} (h5 : 0 ≤ τ.1 1 5) (a : Int32) : fX9_isPerson τ a.toInt64 = some (if 0 ≤ a ∧ a < τ.1 1 5 then 1 else 0) := by
  unfold fX9_isPerson
  show (fX9_in a.toInt64 (0 : Int32).toInt64 ((τ.1 1 5 - 1).toInt64)).bind _ = _
  rw [in_eq32]
  simp only [i32_le_sub1 h5]
  split <;> rfl
/-! the rows of numbers -/
theorem c_isSlot (a : Int32) : fX6_isSlot a = some (if 0 ≤ a ∧ a < 4 then 1 else 0) := by
  unfold fX6_isSlot
  by_cases h0 : a < 0
  · rw [if_pos h0, if_neg (fun h => absurd h0 (Int32.not_lt.mpr h.1))]
    rfl
  · rw [if_neg h0]
    by_cases h1 : (4 : Int32) ≤ a
    · rw [if_pos h1, if_neg (fun h => absurd h.2 (Int32.not_lt.mpr h1))]
      rfl
    · rw [if_neg h1, if_pos ⟨Int32.not_lt.mp h0, Int32.not_le.mp h1⟩]
      rfl
theorem m_isSlot (a : Int32) : fX9_isSlot a = some (if 0 ≤ a ∧ a < 4 then 1 else 0) := by
  unfold fX9_isSlot
  show (fX9_in a.toInt64 (0 : Int32).toInt64 ((4 : Int32) - 1).toInt64).bind _ = _
  rw [in_eq32]
  simp only [i32_le_sub1 (show (0 : Int32) ≤ 4 by decide)]
  split <;> rfl
theorem fillL (σ : sn_S) (q n : Nat) (v : Int64) (hn : n < 5000) : fJ7_fill_d0a16 σ q n v = some (σ.1, (fun a b => if a = q ∧ b < n then v else σ.2.1 a b), σ.2.2) := by
  unfold fJ7_fill_d0a16
  show ((sn_it (LJ7_fill_d0a16_6 q n v (Int32.ofNat n)) 5000 (σ, (0 : Int32))).bind _) = _
  obtain ⟨t, e1, e2⟩ := sn_for (f := LJ7_fill_d0a16_6 q n v (Int32.ofNat n)) n (fun k s => s = ((σ.1, (fun a b => if a = q ∧ b < k then v else σ.2.1 a b), σ.2.2), nI k)) (fun t => t = (σ.1, (fun a b => if a = q ∧ b < n then v else σ.2.1 a b), σ.2.2))
    (fun k s hk hs => by
      subst hs
      refine ⟨_, ?_, rfl⟩
      unfold LJ7_fill_d0a16_6 BJ7_fill_d0a16_6
      rw [if_neg (show ¬ Int32.ofNat n ≤ nI k from nI_ge hk (by omega))]
      show sn_gd (sn_in (nI k) n) (some (Sum.inl (sn_pL _ q (nI k).toNatClampNeg v, nI k + 1))) = _
      rw [sn_in_nI hk (by omega), gd_T, nI_clamp (by omega), nI_1]
      refine congrArg (fun z => some (Sum.inl ((σ.1, z, σ.2.2), nI (k + 1)))) ?_
      funext a b
      show (if a = q ∧ b = k then v else if a = q ∧ b < k then v else σ.2.1 a b) = _
      by_cases ha : a = q
      · by_cases hb : b = k
        · rw [if_pos ⟨ha, hb⟩, if_pos ⟨ha, by omega⟩]
        · rw [if_neg (fun h => hb h.2)]
          by_cases hb2 : b < k
          · rw [if_pos ⟨ha, hb2⟩, if_pos ⟨ha, by omega⟩]
          · rw [if_neg (fun h => hb2 h.2), if_neg (fun h => hb2 (by have := h.2; omega))]
      · rw [if_neg (fun h => ha h.1), if_neg (fun h => ha h.1), if_neg (fun h => ha h.1)])
    (fun s hs => by
      subst hs
      refine ⟨_, ?_, rfl⟩
      unfold LJ7_fill_d0a16_6 BJ7_fill_d0a16_6
      rw [if_pos (show Int32.ofNat n ≤ nI n from Int32.le_refl _)])
    hn (s := (σ, (0 : Int32))) (by
      show (σ, (0 : Int32)) = _
      rw [nI_0]
      simp)
  rw [e1, e2]
  rfl
theorem m_rowzero (τ : sn_S) (s : Nat) (hs : s < 4) : sn_it (LX9_row_52 (nI s)) 5000 (τ, (0 : Int32)) = some (τ.1, (fun a b => if a = 23 ∧ 60 * s ≤ b ∧ b < 60 * s + 60 then 0 else τ.2.1 a b), τ.2.2) := by
  obtain ⟨t, e1, e2⟩ := sn_for (f := LX9_row_52 (nI s)) 60 (fun k z => z = ((τ.1, (fun a b => if a = 23 ∧ 60 * s ≤ b ∧ b < 60 * s + k then 0 else τ.2.1 a b), τ.2.2), nI k)) (fun t => t = (τ.1, (fun a b => if a = 23 ∧ 60 * s ≤ b ∧ b < 60 * s + 60 then 0 else τ.2.1 a b), τ.2.2))
    (fun k z hk hz => by
      subst hz
      refine ⟨_, ?_, rfl⟩
      unfold LX9_row_52 BX9_row_52
      rw [if_neg (show ¬ (60 : Int32) ≤ nI k from nI_ge (b := 60) hk (by decide))]
      have ei : (60 : Int32) * nI s + nI k = nI (60 * s + k) := by
        rw [← nI_add, ← nI_mul]
        rfl
      show sn_gd (sn_in ((60 : Int32) * nI s + nI k) 240) (some (Sum.inl (sn_pL _ 23 ((60 : Int32) * nI s + nI k).toNatClampNeg 0, nI k + 1))) = _
      rw [ei, sn_in_nI (by omega) (by decide), gd_T, nI_clamp (by omega), nI_1]
      refine congrArg (fun z => some (Sum.inl ((τ.1, z, τ.2.2), nI (k + 1)))) ?_
      funext a b
      show (if a = 23 ∧ b = 60 * s + k then (0 : Int64) else if a = 23 ∧ 60 * s ≤ b ∧ b < 60 * s + k then 0 else τ.2.1 a b) = _
      by_cases ha : a = 23
      · by_cases hb : b = 60 * s + k
        · rw [if_pos ⟨ha, hb⟩, if_pos ⟨ha, by omega⟩]
        · rw [if_neg (fun h => hb h.2)]
          by_cases hb2 : 60 * s ≤ b ∧ b < 60 * s + k
          · rw [if_pos ⟨ha, hb2⟩, if_pos ⟨ha, by omega⟩]
          · rw [if_neg (fun h => hb2 h.2), if_neg (fun h => hb2 (by have := h.2; omega))]
      · rw [if_neg (fun h => ha h.1), if_neg (fun h => ha h.1), if_neg (fun h => ha h.1)])
    (fun z hz => by
      subst hz
      refine ⟨_, ?_, rfl⟩
      unfold LX9_row_52 BX9_row_52
      rw [if_pos (show (60 : Int32) ≤ nI 60 by decide)])
    (n := 5000) (by decide) (s := (τ, (0 : Int32))) (by
      show (τ, (0 : Int32)) = _
      rw [nI_0]
      refine congrArg (fun z => ((τ.1, z, τ.2.2), (0 : Int32))) ?_
      funext a b
      rw [if_neg (by omega)])
  rw [e1, e2]
theorem at20 {s : Nat} (h : s < 4) : sn_at sn_rs20 (nI s) = 21 + s := by
  match s, h with
  | 0, _ => rfl
  | 1, _ => rfl
  | 2, _ => rfl
  | 3, _ => rfl
/-! is there such a policy, minute, net, is there a house: class and reference -/
theorem c_isPolicy (σ : sn_S) (a : Int32) : fX8_isPolicy σ a = some (if 0 ≤ a ∧ a < σ.1 2 8 then 1 else 0) := by
  unfold fX8_isPolicy
  by_cases h0 : a < 0
  · rw [if_pos h0, if_neg (fun h => absurd h0 (Int32.not_lt.mpr h.1))]
    rfl
  · rw [if_neg h0]
    show (if σ.1 2 8 ≤ a then _ else _) = _
    by_cases h1 : σ.1 2 8 ≤ a
    · rw [if_pos h1, if_neg (fun h => absurd h.2 (Int32.not_lt.mpr h1))]
      rfl
    · rw [if_neg h1, if_pos ⟨Int32.not_lt.mp h0, Int32.not_le.mp h1⟩]
      rfl
theorem c_isMinute (σ : sn_S) (a : Int32) : fX8_isMinute σ a = some (if 0 ≤ a ∧ a < σ.1 2 0 then 1 else 0) := by
  unfold fX8_isMinute
  by_cases h0 : a < 0
  · rw [if_pos h0, if_neg (fun h => absurd h0 (Int32.not_lt.mpr h.1))]
    rfl
  · rw [if_neg h0]
    show (if σ.1 2 0 ≤ a then _ else _) = _
    by_cases h1 : σ.1 2 0 ≤ a
    · rw [if_pos h1, if_neg (fun h => absurd h.2 (Int32.not_lt.mpr h1))]
      rfl
    · rw [if_neg h1, if_pos ⟨Int32.not_lt.mp h0, Int32.not_le.mp h1⟩]
      rfl
theorem m_isPolicy {τ : sn_S} (h8 : 0 ≤ τ.1 1 8) (a : Int32) : fX9_isPolicy τ a = some (if 0 ≤ a ∧ a < τ.1 1 8 then 1 else 0) := by
  unfold fX9_isPolicy
  show (fX9_in a.toInt64 (0 : Int32).toInt64 ((τ.1 1 8 - 1).toInt64)).bind _ = _
  rw [in_eq32]
  simp only [i32_le_sub1 h8]
  split <;> rfl
theorem m_isMinute {τ : sn_S} (h0 : 0 ≤ τ.1 1 0) (a : Int32) : fX9_isMinute τ a.toInt64 = some (if 0 ≤ a ∧ a < τ.1 1 0 then 1 else 0) := by
  unfold fX9_isMinute
  show (fX9_in a.toInt64 (0 : Int32).toInt64 ((τ.1 1 0 - 1).toInt64)).bind _ = _
  rw [in_eq32]
  simp only [i32_le_sub1 h0]
  split <;> rfl
theorem pI_ne {σ : sn_S} {q k a : Nat} {v : Int32} (h : a ≠ q) : (sn_pI σ q k v).1 a = σ.1 a := by
  funext b
  show (if a = q ∧ b = k then v else σ.1 a b) = _
  rw [if_neg (fun z => h z.1)]
theorem pI_slot {σ : sn_S} {q k b : Nat} {v : Int32} (h : b ≠ k) : (sn_pI σ q k v).1 q b = σ.1 q b := by
  show (if q = q ∧ b = k then v else σ.1 q b) = _
  rw [if_neg (fun z => h z.2)]
theorem pI_self {σ : sn_S} {q k : Nat} {v : Int32} : (sn_pI σ q k v).1 q k = v := by
  show (if q = q ∧ k = k then v else σ.1 q k) = _
  rw [if_pos ⟨rfl, rfl⟩]
end
section
/-! what a pure function answers lies within bounds, and it answers: rules of an interval analysis whose run is a proof -/
abbrev zs_in (X a b : Int) : Prop := a ≤ X ∧ X ≤ b
def zs_ok {α : Type} (o : Option α) (P : α → Prop) : Prop := ∃ a, o = some a ∧ P a
def zs_sum {α β : Type} (A : α → Prop) (B : β → Prop) : α ⊕ β → Prop
  | .inl a => A a
  | .inr b => B b
section
variable {α β : Type} {P : α → Prop}
theorem zs_some {a : α} (h : P a) : zs_ok (some a) P := ⟨a, rfl, h⟩
theorem zs_inl {A : α → Prop} {B : β → Prop} {a : α} (h : A a) : zs_sum A B (.inl a) := h
theorem zs_inr {A : α → Prop} {B : β → Prop} {b : β} (h : B b) : zs_sum A B (.inr b) := h
theorem zs_sumw {A A2 : α → Prop} {B B2 : β → Prop} {x : α ⊕ β} (h : zs_sum A B x) (l : ∀ v, A v → A2 v) (r : ∀ v, B v → B2 v) : zs_sum A2 B2 x := by
  cases x with
  | inl a => exact l a h
  | inr b => exact r b h
theorem zs_gd {g : Bool} {x : Option α} (hg : g = true) (h : zs_ok x P) : zs_ok (sn_gd g x) P := by
  subst hg
  exact h
theorem zs_lt {τ : Type} {e : τ} {f : τ → Option α} {Q : τ → Prop} (he : Q e) (h : ∀ y, Q y → zs_ok (f y) P) : zs_ok (sn_lt e f) P := h e he
theorem zs_ite {c : Prop} [Decidable c] {x y : Option α} (ht : c → zs_ok x P) (he : ¬ c → zs_ok y P) : zs_ok (if c then x else y) P := by
  by_cases h : c
  · rw [if_pos h]; exact ht h
  · rw [if_neg h]; exact he h
theorem zs_bd_ {τ : Type} {x : Option τ} {f : τ → Option α} {Q : τ → Prop} (hx : zs_ok x Q) (h : ∀ a, Q a → zs_ok (f a) P) : zs_ok (x.bind f) P := by
  obtain ⟨a, e, q⟩ := hx
  subst e
  exact h a q
theorem zs_elim {τ υ : Type} {A : τ → Prop} {B : υ → Prop} {x : τ ⊕ υ} {f : τ → Option α} {g : υ → Option α} (hx : zs_sum A B x) (hf : ∀ v, A v → zs_ok (f v) P) (hg : ∀ v, B v → zs_ok (g v) P) : zs_ok (Sum.elim f g x) P := by
  cases x with
  | inl a => exact hf a hx
  | inr b => exact hg b hx
theorem zs_it {S T : Type} {f : S → Option (S ⊕ T)} {E : T → Prop} (I : S → Prop) (m : S → Int) (hb : ∀ s, I s → 0 ≤ m s ∧ m s < 4999) (step : ∀ s, I s → zs_ok (f s) (zs_sum (fun s' => I s' ∧ m s' < m s) E)) {s0 : S} (h0 : I s0) : zs_ok (sn_it f 5000 s0) E := by
  have key : ∀ (n : Nat) (s : S), I s → (m s).toNat < n → ∃ t, sn_it f n s = some t ∧ E t := by
    intro n
    induction n with
    | zero => intro s _ h; exact absurd h (by omega)
    | succ n ih =>
      intro s hI hm
      obtain ⟨o, e, ho⟩ := step s hI
      unfold sn_it
      rw [e]
      cases o with
      | inl s' =>
        obtain ⟨h1, h2⟩ : I s' ∧ m s' < m s := ho
        have := hb s hI
        have := hb s' h1
        exact ih s' h1 (by omega)
      | inr t => exact ⟨t, rfl, ho⟩
  exact key 5000 s0 h0 (by have := hb s0 h0; omega)
end
/-! whole numbers -/
section
variable {X Y a b c d lo hi v : Int}
theorem zs_w {a' b' : Int} (p : zs_in X a b) (h : a' ≤ a ∧ b ≤ b') : zs_in X a' b' := ⟨by omega, by omega⟩
theorem zs_pt (h : X = v) : zs_in X v v := ⟨by omega, by omega⟩
theorem zs_ptr (h : zs_in X v v) : X = v := by omega
theorem zs_or2 {F : Prop} (pc : X = v ∨ F) (p : zs_in X a b) (h : v < a ∨ b < v) : F := by
  rcases pc with e | f
  · exact absurd e (by omega)
  · exact f
theorem zs_or3 {F : Prop} (pc : X = v ∨ F) (ne : X ≠ Y) (q : zs_in Y c d) (h : c = d ∧ c = v) : F := by
  rcases pc with e | f
  · exact absurd e (by omega)
  · exact f
theorem zs_botne (pf : X ≠ Y) (p : zs_in X a b) (q : zs_in Y c d) (h : a = b ∧ b = c ∧ c = d) : False := by omega
theorem zs_nel (lo hi : Int) (pf : X ≠ Y) (p : zs_in X a b) (q : zs_in Y c d) (h : c = d ∧ a = c ∧ lo ≤ a + 1 ∧ b ≤ hi) : zs_in X lo hi := ⟨by omega, by omega⟩
theorem zs_neh (lo hi : Int) (pf : X ≠ Y) (p : zs_in X a b) (q : zs_in Y c d) (h : c = d ∧ b = c ∧ lo ≤ a ∧ b - 1 ≤ hi) : zs_in X lo hi := ⟨by omega, by omega⟩
theorem zs_ltl (lo hi : Int) (pf : X < Y) (p : zs_in X a b) (q : zs_in Y c d) (h : lo ≤ a ∧ (b ≤ hi ∨ d - 1 ≤ hi)) : zs_in X lo hi := ⟨by omega, by omega⟩
theorem zs_ltr (lo hi : Int) (pf : X < Y) (p : zs_in X a b) (q : zs_in Y c d) (h : (lo ≤ c ∨ lo ≤ a + 1) ∧ d ≤ hi) : zs_in Y lo hi := ⟨by omega, by omega⟩
theorem zs_lel (lo hi : Int) (pf : X ≤ Y) (p : zs_in X a b) (q : zs_in Y c d) (h : lo ≤ a ∧ (b ≤ hi ∨ d ≤ hi)) : zs_in X lo hi := ⟨by omega, by omega⟩
theorem zs_ler (lo hi : Int) (pf : X ≤ Y) (p : zs_in X a b) (q : zs_in Y c d) (h : (lo ≤ c ∨ lo ≤ a) ∧ d ≤ hi) : zs_in Y lo hi := ⟨by omega, by omega⟩
theorem zs_eql (lo hi : Int) (pf : X = Y) (p : zs_in X a b) (q : zs_in Y c d) (h : (lo ≤ a ∨ lo ≤ c) ∧ (b ≤ hi ∨ d ≤ hi)) : zs_in X lo hi := ⟨by omega, by omega⟩
theorem zs_eqr (lo hi : Int) (pf : X = Y) (p : zs_in X a b) (q : zs_in Y c d) (h : (lo ≤ a ∨ lo ≤ c) ∧ (b ≤ hi ∨ d ≤ hi)) : zs_in Y lo hi := ⟨by omega, by omega⟩
theorem zs_botlt (pf : X < Y) (p : zs_in X a b) (q : zs_in Y c d) (h : d ≤ a) : False := by omega
theorem zs_botle (pf : X ≤ Y) (p : zs_in X a b) (q : zs_in Y c d) (h : d < a) : False := by omega
theorem zs_botr (pf : X = Y) (p : zs_in X a b) (q : zs_in Y c d) (h : b < c ∨ d < a) : False := by omega
theorem zs_mono (a c d Y : Int) (h1 : c ≤ Y) (h2 : Y ≤ d) : (a * c ≤ a * Y ∧ a * Y ≤ a * d) ∨ (a * d ≤ a * Y ∧ a * Y ≤ a * c) := by
  rcases Int.le_total 0 a with h | h
  · exact Or.inl ⟨Int.mul_le_mul_of_nonneg_left h1 h, Int.mul_le_mul_of_nonneg_left h2 h⟩
  · exact Or.inr ⟨Int.mul_le_mul_of_nonpos_left h h2, Int.mul_le_mul_of_nonpos_left h h1⟩
theorem zs_prod (lo hi : Int) (p : zs_in X a b) (q : zs_in Y c d) (h : (lo ≤ a * c ∧ lo ≤ a * d ∧ lo ≤ b * c ∧ lo ≤ b * d) ∧ (a * c ≤ hi ∧ a * d ≤ hi ∧ b * c ≤ hi ∧ b * d ≤ hi)) : zs_in (X * Y) lo hi := by
  have h1 := zs_mono a c d Y q.1 q.2
  have h2 := zs_mono b c d Y q.1 q.2
  have h3 := zs_mono Y a b X p.1 p.2
  rw [Int.mul_comm Y a, Int.mul_comm Y b, Int.mul_comm Y X] at h3
  generalize X * Y = z at h3 ⊢
  generalize a * Y = z1 at h1 h3
  generalize b * Y = z2 at h2 h3
  generalize a * c = w1 at h h1
  generalize a * d = w2 at h h1
  generalize b * c = w3 at h h2
  generalize b * d = w4 at h h2
  exact ⟨by omega, by omega⟩
end
/-! numbers of 32 and 64 bits -/
theorem zs_topI (x : Int32) : zs_in x.toInt (-2147483648) 2147483647 := by
  have h1 := Int32.le_toInt x
  have h2 := Int32.toInt_lt x
  exact ⟨by omega, by omega⟩
theorem zs_topL (x : Int64) : zs_in x.toInt (-9223372036854775808) 9223372036854775807 := by
  have h1 := Int64.le_toInt x
  have h2 := Int64.toInt_lt x
  exact ⟨by omega, by omega⟩
section
variable {x y z : Int32} {u w : Int64} {a b c d lo hi : Int}
theorem zs_bm {X : Int} (h : zs_in X (-2147483648) 2147483647) : X.bmod (2 ^ 32) = X := Int.bmod_eq_of_le (by omega) (by omega)
theorem zs_bmL {X : Int} (h : zs_in X (-9223372036854775808) 9223372036854775807) : X.bmod (2 ^ 64) = X := Int.bmod_eq_of_le (by omega) (by omega)
theorem zs_addI (lo hi : Int) (p : zs_in x.toInt a b) (q : zs_in y.toInt c d) (h : (lo ≤ a + c ∧ b + d ≤ hi) ∧ -2147483648 ≤ a + c ∧ b + d ≤ 2147483647) : zs_in (x + y).toInt lo hi := by
  rw [Int32.toInt_add, zs_bm ⟨by omega, by omega⟩]
  exact ⟨by omega, by omega⟩
theorem zs_subI (lo hi : Int) (p : zs_in x.toInt a b) (q : zs_in y.toInt c d) (h : (lo ≤ a - d ∧ b - c ≤ hi) ∧ -2147483648 ≤ a - d ∧ b - c ≤ 2147483647) : zs_in (x - y).toInt lo hi := by
  rw [Int32.toInt_sub, zs_bm ⟨by omega, by omega⟩]
  exact ⟨by omega, by omega⟩
theorem zs_mulI (lo hi : Int) (p : zs_in x.toInt a b) (q : zs_in y.toInt c d) (h : ((lo ≤ a * c ∧ lo ≤ a * d ∧ lo ≤ b * c ∧ lo ≤ b * d) ∧ (a * c ≤ hi ∧ a * d ≤ hi ∧ b * c ≤ hi ∧ b * d ≤ hi)) ∧ -2147483648 ≤ lo ∧ hi ≤ 2147483647) : zs_in (x * y).toInt lo hi := by
  have h1 := zs_prod lo hi p q h.1
  rw [Int32.toInt_mul, zs_bm ⟨by omega, by omega⟩]
  exact h1
theorem zs_addL (lo hi : Int) (p : zs_in u.toInt a b) (q : zs_in w.toInt c d) (h : (lo ≤ a + c ∧ b + d ≤ hi) ∧ -9223372036854775808 ≤ a + c ∧ b + d ≤ 9223372036854775807) : zs_in (u + w).toInt lo hi := by
  rw [Int64.toInt_add, zs_bmL ⟨by omega, by omega⟩]
  exact ⟨by omega, by omega⟩
theorem zs_addlI (lo hi : Int) {l h' : Int} (p : zs_in x.toInt a b) (q : zs_in y.toInt c d) (r : zs_in (x + y).toInt l h') (h : (-2147483648 ≤ a + c ∧ b + d ≤ 2147483647) ∧ lo ≤ l - d ∧ h' - c ≤ hi) : zs_in x.toInt lo hi := by
  rw [Int32.toInt_add, zs_bm ⟨by omega, by omega⟩] at r
  exact ⟨by omega, by omega⟩
theorem zs_sublI (lo hi : Int) {l h' : Int} (p : zs_in x.toInt a b) (q : zs_in y.toInt c d) (r : zs_in (x - y).toInt l h') (h : (-2147483648 ≤ a - d ∧ b - c ≤ 2147483647) ∧ lo ≤ l + c ∧ h' + d ≤ hi) : zs_in x.toInt lo hi := by
  rw [Int32.toInt_sub, zs_bm ⟨by omega, by omega⟩] at r
  exact ⟨by omega, by omega⟩
theorem zs_quot {X : Int} (p : zs_in X a b) (h : 0 ≤ a ∧ 0 < c) : zs_in (X.tdiv c) (a / c) (b / c) := by
  rw [Int.tdiv_eq_ediv_of_nonneg (by omega)]
  exact ⟨Int.ediv_le_ediv h.2 p.1, Int.ediv_le_ediv h.2 p.2⟩
theorem zs_divI (lo hi : Int) (p : zs_in x.toInt a b) (q : zs_in y.toInt c c) (h : (0 ≤ a ∧ 0 < c) ∧ (lo ≤ a / c ∧ b / c ≤ hi) ∧ -2147483648 ≤ lo ∧ hi ≤ 2147483647) : zs_in (x / y).toInt lo hi := by
  have h1 := zs_quot p h.1
  rw [Int32.toInt_div, zs_ptr q, zs_bm ⟨by omega, by omega⟩]
  exact ⟨by omega, by omega⟩
theorem zs_mod (hi : Int) (p : zs_in x.toInt a b) (q : zs_in y.toInt c c) (h : 0 ≤ a ∧ 0 < c ∧ c - 1 ≤ hi) : zs_in (x - x / y * y).toInt 0 hi := by
  have hx := zs_topI x
  have hy := zs_topI y
  have e := zs_ptr q
  have h1 := zs_quot (a := 0) (b := x.toInt) (c := c) ⟨by omega, Int.le_refl _⟩ ⟨Int.le_refl 0, h.2.1⟩
  have h2 : x.toInt.tdiv c = x.toInt / c := Int.tdiv_eq_ediv_of_nonneg (by omega)
  have h3 := Int.emod_nonneg x.toInt (show c ≠ 0 by omega)
  have h4 := Int.emod_lt_of_pos x.toInt h.2.1
  have h5 := Int.mul_ediv_add_emod x.toInt c
  have h6 : 0 ≤ x.toInt / c := Int.ediv_nonneg (by omega) (by omega)
  have h7 : x.toInt / c ≤ x.toInt := Int.ediv_le_self _ (by omega)
  have h8 : x.toInt / c * c = c * (x.toInt / c) := Int.mul_comm _ _
  rw [Int32.toInt_sub, Int32.toInt_mul, Int32.toInt_div, e, h2, zs_bm (X := x.toInt / c) ⟨by omega, by omega⟩, h8]
  generalize c * (x.toInt / c) = k at h5 ⊢
  rw [zs_bm (X := k) ⟨by omega, by omega⟩, zs_bm (X := x.toInt - k) ⟨by omega, by omega⟩]
  exact ⟨by omega, by omega⟩
theorem zs_64 (p : zs_in x.toInt a b) : zs_in x.toInt64.toInt a b := by
  rw [Int32.toInt_toInt64]
  exact p
theorem zs_64r (p : zs_in x.toInt64.toInt a b) : zs_in x.toInt a b := by
  rw [Int32.toInt_toInt64] at p
  exact p
theorem zs_32 (p : zs_in u.toInt a b) (h : -2147483648 ≤ a ∧ b ≤ 2147483647) : zs_in u.toInt32.toInt a b := by
  rw [Int64.toInt_toInt32, zs_bm ⟨by omega, by omega⟩]
  exact p
theorem zs_max (lo hi : Int) (p : zs_in x.toInt a b) (q : zs_in y.toInt c d) (h : (lo ≤ a ∨ lo ≤ c) ∧ b ≤ hi ∧ d ≤ hi) : zs_in (if x < y then y else x).toInt lo hi := by
  by_cases e : x < y
  · rw [if_pos e]
    have := Int32.lt_iff_toInt_lt.mp e
    exact ⟨by omega, by omega⟩
  · rw [if_neg e]
    have : ¬ x.toInt < y.toInt := fun z => e (Int32.lt_iff_toInt_lt.mpr z)
    exact ⟨by omega, by omega⟩
theorem zs_min (lo hi : Int) (p : zs_in x.toInt a b) (q : zs_in y.toInt c d) (h : lo ≤ a ∧ lo ≤ c ∧ (b ≤ hi ∨ d ≤ hi)) : zs_in (if x < y then x else y).toInt lo hi := by
  by_cases e : x < y
  · rw [if_pos e]
    have := Int32.lt_iff_toInt_lt.mp e
    exact ⟨by omega, by omega⟩
  · rw [if_neg e]
    have : ¬ x.toInt < y.toInt := fun z => e (Int32.lt_iff_toInt_lt.mpr z)
    exact ⟨by omega, by omega⟩
theorem zs_nat {x : Int32} (h : 0 ≤ x.toInt) : x.toInt = (x.toBitVec.toNat : Int) ∧ x.toBitVec.toNat < 2147483648 := by
  have h1 : x.toInt = x.toBitVec.toInt := rfl
  have h2 := x.toBitVec.isLt
  rw [h1, BitVec.toInt_eq_toNat_cond] at h ⊢
  by_cases e : 2 * x.toBitVec.toNat < 2 ^ 32
  · rw [if_pos e]
    exact ⟨rfl, by omega⟩
  · rw [if_neg e] at h
    exact absurd h (by omega)
theorem zs_ofnat {x : Int32} (h : x.toBitVec.toNat < 2147483648) : x.toInt = (x.toBitVec.toNat : Int) := by
  have h1 : x.toInt = x.toBitVec.toInt := rfl
  rw [h1, BitVec.toInt_eq_toNat_cond, if_pos (by omega)]
theorem zs_and (q : zs_in y.toInt c d) (h : 0 ≤ c) : zs_in (x &&& y).toInt 0 d := by
  obtain ⟨e1, e2⟩ := zs_nat (x := y) (by omega)
  have e3 : (x &&& y).toBitVec.toNat = x.toBitVec.toNat &&& y.toBitVec.toNat := by rw [Int32.toBitVec_and, BitVec.toNat_and]
  have e4 : x.toBitVec.toNat &&& y.toBitVec.toNat ≤ y.toBitVec.toNat := Nat.and_le_right
  rw [zs_ofnat (by omega)]
  exact ⟨by omega, by omega⟩
theorem zs_and2 (p : zs_in x.toInt a b) (h : 0 ≤ a) : zs_in (x &&& y).toInt 0 b := by
  obtain ⟨e1, e2⟩ := zs_nat (x := x) (by omega)
  have e3 : (x &&& y).toBitVec.toNat = x.toBitVec.toNat &&& y.toBitVec.toNat := by rw [Int32.toBitVec_and, BitVec.toNat_and]
  have e4 : x.toBitVec.toNat &&& y.toBitVec.toNat ≤ x.toBitVec.toNat := Nat.and_le_left
  rw [zs_ofnat (by omega)]
  exact ⟨by omega, by omega⟩
theorem zs_or (n : Nat) (hi : Int) (p : zs_in x.toInt a b) (q : zs_in y.toInt c d) (h : 0 ≤ a ∧ 0 ≤ c ∧ b < 2 ^ n ∧ d < 2 ^ n ∧ hi = 2 ^ n - 1 ∧ n ≤ 30) : zs_in (x ||| y).toInt 0 hi := by
  obtain ⟨e1, e2⟩ := zs_nat (x := x) (by omega)
  obtain ⟨f1, f2⟩ := zs_nat (x := y) (by omega)
  have hn : ((2 ^ n : Nat) : Int) = 2 ^ n := by simp
  have e3 : (x ||| y).toBitVec.toNat = x.toBitVec.toNat ||| y.toBitVec.toNat := by rw [Int32.toBitVec_or, BitVec.toNat_or]
  have e4 : x.toBitVec.toNat ||| y.toBitVec.toNat < 2 ^ n := Nat.or_lt_two_pow (by omega) (by omega)
  have e5 : (2 : Nat) ^ n ≤ 2 ^ 30 := Nat.pow_le_pow_right (by decide) h.2.2.2.2.2
  rw [zs_ofnat (by omega)]
  exact ⟨by omega, by omega⟩
theorem zs_cases (p : zs_in x.toInt a b) (P : Int32 → Prop) (h : 0 ≤ a ∧ b < 2147483648 ∧ ∀ j : Nat, j < (b + 1).toNat → a ≤ (j : Int) → P (nI j)) : P x := by
  have e : x = nI x.toInt.toNat := by
    apply Int32.toInt_inj.mp
    rw [nI_toInt (by omega)]
    omega
  rw [e]
  exact h.2.2 _ (by omega) (by omega)
theorem zs_range (p : zs_in x.toInt a b) (P : Nat → Prop) (h : 0 ≤ a ∧ ∀ k : Nat, k < (b + 1).toNat → a ≤ (k : Int) → P k) : P x.toNatClampNeg := by
  have e : x.toNatClampNeg = x.toInt.toNat := rfl
  rw [e]
  exact h.2 _ (by omega) (by omega)
theorem zs_val (p : zs_in x.toInt a b) (h : 0 ≤ a ∧ b < 2147483648) : ∃ j : Nat, j < (b + 1).toNat ∧ x = nI j := by
  refine ⟨x.toInt.toNat, by omega, ?_⟩
  apply Int32.toInt_inj.mp
  rw [nI_toInt (by omega)]
  omega
theorem zs_I_lt (h : x < y) : x.toInt < y.toInt := Int32.lt_iff_toInt_lt.mp h
theorem zs_I_ltn (h : ¬ x < y) : y.toInt ≤ x.toInt := Int.not_lt.mp (fun z => h (Int32.lt_iff_toInt_lt.mpr z))
theorem zs_I_le (h : x ≤ y) : x.toInt ≤ y.toInt := Int32.le_iff_toInt_le.mp h
theorem zs_I_len (h : ¬ x ≤ y) : y.toInt < x.toInt := Int.not_le.mp (fun z => h (Int32.le_iff_toInt_le.mpr z))
theorem zs_I_eq (h : x = y) : x.toInt = y.toInt := congrArg _ h
theorem zs_I_eqn (h : ¬ x = y) : x.toInt ≠ y.toInt := fun z => h (Int32.toInt_inj.mp z)
theorem zs_lgc : (lg_cmp u w < 0 ↔ u.toInt < w.toInt) ∧ (0 < lg_cmp u w ↔ w.toInt < u.toInt) ∧ (lg_cmp u w = 0 ↔ u.toInt = w.toInt) ∧ (lg_cmp u w ≤ 0 ↔ u.toInt ≤ w.toInt) ∧ (0 ≤ lg_cmp u w ↔ w.toInt ≤ u.toInt) := by
  unfold lg_cmp
  by_cases h1 : u > w
  · have h2 : w.toInt < u.toInt := Int64.lt_iff_toInt_lt.mp h1
    rw [if_pos h1]
    refine ⟨⟨fun h => absurd h (by decide), fun h => by omega⟩, ⟨fun _ => h2, fun _ => by decide⟩, ⟨fun h => absurd h (by decide), fun h => by omega⟩, ⟨fun h => absurd h (by decide), fun h => by omega⟩, ⟨fun _ => by omega, fun _ => by decide⟩⟩
  · have h2 : ¬ w.toInt < u.toInt := fun z => h1 (Int64.lt_iff_toInt_lt.mpr z)
    rw [if_neg h1]
    by_cases h3 : u = w
    · have h4 : u.toInt = w.toInt := congrArg _ h3
      rw [if_pos h3]
      refine ⟨⟨fun h => absurd h (by decide), fun h => by omega⟩, ⟨fun h => absurd h (by decide), fun h => by omega⟩, ⟨fun _ => h4, fun _ => by decide⟩, ⟨fun _ => by omega, fun _ => by decide⟩, ⟨fun _ => by omega, fun _ => by decide⟩⟩
    · have h4 : u.toInt ≠ w.toInt := fun z => h3 (Int64.toInt_inj.mp z)
      rw [if_neg h3]
      refine ⟨⟨fun _ => by omega, fun _ => by decide⟩, ⟨fun h => absurd h (by decide), fun h => by omega⟩, ⟨fun h => absurd h (by decide), fun h => by omega⟩, ⟨fun _ => by omega, fun _ => by decide⟩, ⟨fun h => absurd h (by decide), fun h => by omega⟩⟩
theorem zs_lg_lt (h : lg_cmp u w < 0) : u.toInt < w.toInt := zs_lgc.1.mp h
theorem zs_lg_ltn (h : ¬ lg_cmp u w < 0) : w.toInt ≤ u.toInt := Int.not_lt.mp (fun z => h (zs_lgc.1.mpr z))
theorem zs_lg_le (h : lg_cmp u w ≤ 0) : u.toInt ≤ w.toInt := zs_lgc.2.2.2.1.mp h
theorem zs_lg_len (h : ¬ lg_cmp u w ≤ 0) : w.toInt < u.toInt := Int.not_le.mp (fun z => h (zs_lgc.2.2.2.1.mpr z))
theorem zs_lg_eq (h : lg_cmp u w = 0) : u.toInt = w.toInt := zs_lgc.2.2.1.mp h
theorem zs_lg_eqn (h : ¬ lg_cmp u w = 0) : u.toInt ≠ w.toInt := fun z => h (zs_lgc.2.2.1.mpr z)
theorem zs_lg_ltf (h : 0 < lg_cmp u w) : w.toInt < u.toInt := zs_lgc.2.1.mp h
theorem zs_lg_ltfn (h : ¬ 0 < lg_cmp u w) : u.toInt ≤ w.toInt := Int.not_lt.mp (fun z => h (zs_lgc.2.1.mpr z))
theorem zs_lg_lef (h : 0 ≤ lg_cmp u w) : w.toInt ≤ u.toInt := zs_lgc.2.2.2.2.mp h
theorem zs_lg_lefn (h : ¬ 0 ≤ lg_cmp u w) : u.toInt < w.toInt := Int.not_le.mp (fun z => h (zs_lgc.2.2.2.2.mpr z))
theorem zs_gin {n : Nat} (p : zs_in x.toInt a b) (h : 0 ≤ a ∧ b < (n : Int)) : sn_in x n = true := by
  unfold sn_in
  have e : x.toNatClampNeg = x.toInt.toNat := rfl
  have h0 : 0 ≤ x := Int32.le_iff_toInt_le.mpr (by
    show (0 : Int32).toInt ≤ x.toInt
    have : (0 : Int32).toInt = 0 := by decide
    omega)
  simp only [Bool.and_eq_true, decide_eq_true_eq]
  exact ⟨h0, by omega⟩
theorem zs_b01 (p : zs_in x.toInt a b) (h : 0 ≤ a ∧ b ≤ 1) : sn_b01 x = true := by
  have : x.toInt = 0 ∨ x.toInt = 1 := by omega
  rcases this with e | e
  · have : x = 0 := Int32.toInt_inj.mp (by rw [e]; decide)
    subst this
    decide
  · have : x = 1 := Int32.toInt_inj.mp (by rw [e]; decide)
    subst this
    decide
theorem zs_nzL (p : zs_in u.toInt a b) (h : 0 < a ∨ b < 0) : (u != 0) = true := by
  have : u ≠ 0 := fun z => by
    subst z
    have : (0 : Int64).toInt = 0 := by decide
    omega
  simpa using this
theorem zs_nzqL (h : u.toInt ≠ w.toInt) : (u != w) = true := by
  have : u ≠ w := fun z => h (congrArg _ z)
  simpa using this
theorem zs_eqv {v : Int32} (h : zs_in x.toInt a b) (h2 : v.toInt = a ∧ a = b) : x = v := Int32.toInt_inj.mp (by omega)
theorem zs_syI {k o c : Int} (off : Int) (hc : x.toInt = c + o) (p : zs_in x.toInt a b) (q : zs_in y.toInt k k) (h1 : -2147483648 ≤ a + k ∧ b + k ≤ 2147483647) (h2 : o + k = off) : (x + y).toInt = c + off := by
  rw [Int32.toInt_add, zs_bm ⟨by omega, by omega⟩]
  omega
theorem zs_linx {k : Int} (q : zs_in y.toInt k k) (p : zs_in x.toInt a b) (h : k = 6 ∧ -2147483648 ≤ 6 * a ∧ 6 * b ≤ 2147483647) : (y * x).toInt = 6 * x.toInt := by
  rw [Int32.toInt_mul, zs_ptr q, h.1, zs_bm ⟨by omega, by omega⟩]
theorem zs_linv {k : Int} (e : z = y * x) (q : zs_in y.toInt k k) (p : zs_in x.toInt a b) (h : k = 6 ∧ -2147483648 ≤ 6 * a ∧ 6 * b ≤ 2147483647) : z.toInt = 6 * x.toInt := by
  rw [e]
  exact zs_linx q p h
theorem zs_lin (lo hi : Int) {X Y : Int} (hl : Y = 6 * X) (p : zs_in X a b) (h : lo ≤ 6 * a ∧ 6 * b ≤ hi) : zs_in Y lo hi := ⟨by omega, by omega⟩
end
/-! what a house and a day tell of themselves: the places in use -/
def zs_Ru (cq ck rq s o m : Nat) (hi : Int) (σ : sn_S) : Prop := ∀ j : Nat, j < m → (j : Int) < (σ.1 cq ck).toInt → 0 ≤ (σ.1 rq (s * j + o)).toInt ∧ (σ.1 rq (s * j + o)).toInt ≤ hi
def zs_H (h : Nat) (σ : sn_S) : Prop := zs_Ru (h + 1) 6 (h + 3) 2 1 5 29 σ ∧ zs_Ru (h + 1) 7 (h + 4) 2 0 8 5 σ ∧ zs_Ru (h + 1) 7 (h + 4) 2 1 8 5 σ ∧ zs_Ru (h + 1) 8 (h + 5) 5 0 6 5 σ
def zs_D (d : Nat) (σ : sn_S) : Prop := zs_Ru d 2 (d + 6) 2 0 8 5 σ ∧ zs_Ru d 2 (d + 6) 2 1 8 5 σ
def zs_RC (σ : sn_S) : Prop := (zs_H 1 σ ∧ zs_H 73 σ ∧ zs_H 80 σ ∧ zs_H 87 σ) ∧ zs_D 27 σ ∧ zs_D 38 σ ∧ zs_D 59 σ
def zs_kX (q k : Nat) : Bool := bif (Nat.beq q 2 || Nat.beq q 74 || Nat.beq q 81 || Nat.beq q 88) then (Nat.beq k 6 || Nat.beq k 7 || Nat.beq k 8) else (bif (Nat.beq q 4 || Nat.beq q 5 || Nat.beq q 76 || Nat.beq q 77 || Nat.beq q 83 || Nat.beq q 84 || Nat.beq q 90 || Nat.beq q 91 || Nat.beq q 33 || Nat.beq q 44 || Nat.beq q 65) then true else (bif (Nat.beq q 6 || Nat.beq q 78 || Nat.beq q 85 || Nat.beq q 92) then (Nat.beq (k % 5) 0) else (bif (Nat.beq q 27 || Nat.beq q 38 || Nat.beq q 59) then (Nat.beq k 2) else false)))
section
variable {σ τ : sn_S} {cq ck rq s o m : Nat} {hi : Int}
theorem zs_Ru_c (h1 : τ.1 cq ck = σ.1 cq ck) (h2 : ∀ j, j < m → τ.1 rq (s * j + o) = σ.1 rq (s * j + o)) (h : zs_Ru cq ck rq s o m hi σ) : zs_Ru cq ck rq s o m hi τ := fun j hj hc => by
  rw [h2 j hj]
  exact h j hj (by rw [← h1]; exact hc)
theorem zs_m5 (j : Nat) : Nat.beq ((5 * j + 0) % 5) 0 = true := by
  have : (5 * j + 0) % 5 = 0 := by omega
  rw [this]
  rfl
theorem zs_H_c {a : Nat} (h6 : τ.1 (a + 1) 6 = σ.1 (a + 1) 6) (h7 : τ.1 (a + 1) 7 = σ.1 (a + 1) 7) (h8 : τ.1 (a + 1) 8 = σ.1 (a + 1) 8) (h3 : ∀ k, τ.1 (a + 3) k = σ.1 (a + 3) k) (h4 : ∀ k, τ.1 (a + 4) k = σ.1 (a + 4) k) (h5 : ∀ j, τ.1 (a + 5) (5 * j + 0) = σ.1 (a + 5) (5 * j + 0)) (h : zs_H a σ) : zs_H a τ :=
  ⟨zs_Ru_c h6 (fun _ _ => h3 _) h.1, zs_Ru_c h7 (fun _ _ => h4 _) h.2.1, zs_Ru_c h7 (fun _ _ => h4 _) h.2.2.1, zs_Ru_c h8 (fun _ _ => h5 _) h.2.2.2⟩
theorem zs_D_c {a : Nat} (h2 : τ.1 a 2 = σ.1 a 2) (h6 : ∀ k, τ.1 (a + 6) k = σ.1 (a + 6) k) (h : zs_D a σ) : zs_D a τ := ⟨zs_Ru_c h2 (fun _ _ => h6 _) h.1, zs_Ru_c h2 (fun _ _ => h6 _) h.2⟩
theorem zs_RC_c (e : ∀ q k, zs_kX q k = true → τ.1 q k = σ.1 q k) (h : zs_RC σ) : zs_RC τ := by
  obtain ⟨⟨h1, h2, h3, h4⟩, d1, d2, d3⟩ := h
  exact ⟨⟨zs_H_c (e 2 6 rfl) (e 2 7 rfl) (e 2 8 rfl) (fun k => e 4 k rfl) (fun k => e 5 k rfl) (fun j => e 6 _ (zs_m5 j)) h1,
    zs_H_c (e 74 6 rfl) (e 74 7 rfl) (e 74 8 rfl) (fun k => e 76 k rfl) (fun k => e 77 k rfl) (fun j => e 78 _ (zs_m5 j)) h2,
    zs_H_c (e 81 6 rfl) (e 81 7 rfl) (e 81 8 rfl) (fun k => e 83 k rfl) (fun k => e 84 k rfl) (fun j => e 85 _ (zs_m5 j)) h3,
    zs_H_c (e 88 6 rfl) (e 88 7 rfl) (e 88 8 rfl) (fun k => e 90 k rfl) (fun k => e 91 k rfl) (fun j => e 92 _ (zs_m5 j)) h4⟩,
    zs_D_c (e 27 2 rfl) (fun k => e 33 k rfl) d1, zs_D_c (e 38 2 rfl) (fun k => e 44 k rfl) d2, zs_D_c (e 59 2 rfl) (fun k => e 65 k rfl) d3⟩
end
/-! states within a table of bounds, some cells of which are kept -/
abbrev zs_T : Type := Nat → Nat → Int × Int
/-- a table whose cell (1000, 0) is 0 asks for the places in use besides -/
def zs_isC (t : zs_T) : Bool := (t 1000 0).2 == 0
def zs_fr (t : zs_T) (key : Nat → Nat → Bool) (q k : Nat) : Bool := key q k || (zs_isC t && zs_kX q k)
def zs_SB (t : zs_T) (σ : sn_S) : Prop := (∀ q k, (t q k).1 ≤ (σ.1 q k).toInt ∧ (σ.1 q k).toInt ≤ (t q k).2) ∧ (zs_isC t = true → zs_RC σ)
def zs_KE (key : Nat → Nat → Bool) (kl : Nat → Bool) (σ0 σ : sn_S) : Prop := (∀ q k, key q k = true → σ.1 q k = σ0.1 q k) ∧ ∀ q, kl q = true → σ.2.1 q = σ0.2.1 q
abbrev zs_G (t : zs_T) (key : Nat → Nat → Bool) (kl : Nat → Bool) (σ0 σ : sn_S) : Prop := zs_SB t σ ∧ zs_KE key kl σ0 σ
abbrev zs_bd (p : Int × Int) (lo hi : Int) : Prop := lo ≤ p.1 ∧ p.2 ≤ hi
abbrev zs_wb (p : Int × Int) (a b : Int) : Prop := p.1 ≤ a ∧ b ≤ p.2
section
variable {t : zs_T} {key : Nat → Nat → Bool} {kl : Nat → Bool} {σ0 σ : sn_S} {q k : Nat} {z : Int × Int} {v : Int32} {a b : Int}
theorem zs_fr1 (h : zs_fr t key q k = false) : key q k = false := by
  unfold zs_fr at h
  cases e : key q k with
  | false => rfl
  | true => rw [e, Bool.true_or] at h; cases h
theorem zs_fr2 (h : zs_fr t key q k = false) (hC : zs_isC t = true) : zs_kX q k = false := by
  unfold zs_fr at h
  rw [hC, Bool.true_and] at h
  cases e : zs_kX q k with
  | false => rfl
  | true => rw [e, Bool.or_true] at h; cases h
theorem zs_rf (h : zs_SB t σ) : zs_G t key kl σ σ := ⟨h, fun _ _ _ => rfl, fun _ _ => rfl⟩
theorem zs_rdu (h : zs_SB t σ) (hq : ∀ k, t q k = z) : zs_in (sn_I σ q k).toInt z.1 z.2 := by
  have := h.1 q k
  rw [hq k] at this
  exact this
theorem zs_rdk (h : zs_SB t σ) (hq : t q k = z) : zs_in (sn_I σ q k).toInt z.1 z.2 := by
  have := h.1 q k
  rw [hq] at this
  exact this
theorem zs_rdb {lo hi : Int} (h : zs_SB t σ) (hb : zs_bd (t q k) lo hi) : zs_in (sn_I σ q k).toInt lo hi := by
  have := h.1 q k
  show lo ≤ (σ.1 q k).toInt ∧ (σ.1 q k).toInt ≤ hi
  exact ⟨by omega, by omega⟩
theorem zs_wr (h : zs_G t key kl σ0 σ) (hv : (t q k).1 ≤ v.toInt ∧ v.toInt ≤ (t q k).2) (hf : zs_fr t key q k = false) : zs_G t key kl σ0 (sn_pI σ q k v) := by
  have hk := zs_fr1 hf
  refine ⟨⟨fun q1 k1 => ?_, fun hC => zs_RC_c (fun q1 k1 h1 => ?_) (h.1.2 hC)⟩, fun q1 k1 h1 => ?_, h.2.2⟩
  · show (t q1 k1).1 ≤ (if q1 = q ∧ k1 = k then v else σ.1 q1 k1).toInt ∧ (if q1 = q ∧ k1 = k then v else σ.1 q1 k1).toInt ≤ (t q1 k1).2
    by_cases e : q1 = q ∧ k1 = k
    · rw [if_pos e, e.1, e.2]
      exact hv
    · rw [if_neg e]
      exact h.1.1 q1 k1
  · show (if q1 = q ∧ k1 = k then v else σ.1 q1 k1) = _
    by_cases e : q1 = q ∧ k1 = k
    · rw [e.1, e.2, zs_fr2 hf hC] at h1
      cases h1
    · rw [if_neg e]
  · show (if q1 = q ∧ k1 = k then v else σ.1 q1 k1) = _
    by_cases e : q1 = q ∧ k1 = k
    · rw [e.1, e.2, hk] at h1
      cases h1
    · rw [if_neg e]
      exact h.2.1 q1 k1 h1
theorem zs_wru (h : zs_G t key kl σ0 σ) (hq : ∀ k, t q k = z) (p : zs_in v.toInt a b) (hz : z.1 ≤ a ∧ b ≤ z.2) (hk : ∀ k, zs_fr t key q k = false) : zs_G t key kl σ0 (sn_pI σ q k v) := zs_wr h (by rw [hq]; omega) (hk k)
theorem zs_wrt (h : zs_G t key kl σ0 σ) (hq : ∀ k, t q k = (-2147483648, 2147483647)) (hk : ∀ k, zs_fr t key q k = false) : zs_G t key kl σ0 (sn_pI σ q k v) := zs_wr h (by rw [hq]; exact zs_topI v) (hk k)
theorem zs_wrk (h : zs_G t key kl σ0 σ) (hq : t q k = z) (p : zs_in v.toInt a b) (hz : z.1 ≤ a ∧ b ≤ z.2) (hk : zs_fr t key q k = false) : zs_G t key kl σ0 (sn_pI σ q k v) := zs_wr h (by rw [hq]; omega) hk
theorem zs_wrkt (h : zs_G t key kl σ0 σ) (hq : t q k = (-2147483648, 2147483647)) (hk : zs_fr t key q k = false) : zs_G t key kl σ0 (sn_pI σ q k v) := zs_wr h (by rw [hq]; exact zs_topI v) hk
theorem zs_wrb (h : zs_G t key kl σ0 σ) (p : zs_in v.toInt a b) (hb : zs_wb (t q k) a b ∧ zs_fr t key q k = false) : zs_G t key kl σ0 (sn_pI σ q k v) := zs_wr h (by omega) hb.2
theorem zs_wrL {x : Int64} (h : zs_G t key kl σ0 σ) (hk : kl q = false) : zs_G t key kl σ0 (sn_pL σ q k x) := by
  refine ⟨⟨h.1.1, fun hC => zs_RC_c (fun _ _ _ => rfl) (h.1.2 hC)⟩, h.2.1, fun q1 h1 => ?_⟩
  funext k1
  show (if q1 = q ∧ k1 = k then x else σ.2.1 q1 k1) = _
  rw [if_neg (fun e => by rw [e.1, hk] at h1; cases h1), h.2.2 q1 h1]
theorem zs_wrR {x : Option Nat} (h : zs_G t key kl σ0 σ) : zs_G t key kl σ0 (sn_pR σ q k x) := ⟨⟨h.1.1, fun hC => zs_RC_c (fun _ _ _ => rfl) (h.1.2 hC)⟩, h.2.1, h.2.2⟩
theorem zs_wrcp {q2 : Nat} (h : zs_G t key kl σ0 σ) (hq : ∀ k, t q2 k = t q k) (hk : ∀ k, zs_fr t key q k = false) : zs_G t key kl σ0 (sn_pI σ q k (sn_I σ q2 k)) := zs_wr h (by rw [← hq]; exact h.1.1 q2 k) (hk k)
theorem zs_sbw (h : zs_SB t σ) (hv : (t q k).1 ≤ v.toInt ∧ v.toInt ≤ (t q k).2) (hf : (zs_isC t && zs_kX q k) = false := by rfl) : zs_SB t (sn_pI σ q k v) := (zs_wr (key := fun _ _ => false) (kl := fun _ => false) (σ0 := σ) ⟨h, fun _ _ _ => rfl, fun _ _ => rfl⟩ hv hf).1
theorem zs_bif {α : Type} {P : α → Prop} {c : Bool} {a b : α} (ha : P a) (hb : P b) : P (bif c then a else b) := by
  cases c
  · exact hb
  · exact ha
/-- a place in use, read -/
theorem zs_use {cq ck rq s o m : Nat} {hi : Int} {x i : Int32} (R : zs_Ru cq ck rq s o m hi σ) (hx : zs_in x.toInt a b) (hm : 0 ≤ a ∧ b < (m : Int)) (hlt : x.toInt < (sn_I σ cq ck).toInt) (hi' : i.toInt = (s : Int) * x.toInt + (o : Int)) : zs_in (sn_I σ rq i.toNatClampNeg).toInt 0 hi := by
  have e1 : i.toNatClampNeg = i.toInt.toNat := rfl
  have e3 : (s : Int) * x.toInt = ((s * x.toInt.toNat : Nat) : Int) := by
    rw [Int.natCast_mul]
    congr 1
    omega
  have e2 : i.toNatClampNeg = s * x.toInt.toNat + o := by
    rw [e1, hi', e3]
    omega
  have := R x.toInt.toNat (by omega) (by show ((x.toInt.toNat : Nat) : Int) < (σ.1 cq ck).toInt; have : (sn_I σ cq ck).toInt = (σ.1 cq ck).toInt := rfl; omega)
  rw [e2]
  exact this
theorem zs_i20 {x : Int32} (hx : zs_in x.toInt a b) (h : 0 ≤ a ∧ b ≤ 1000) : ((2 : Int32) * x).toInt = ((2 : Nat) : Int) * x.toInt + ((0 : Nat) : Int) := by
  rw [Int32.toInt_mul, show (2 : Int32).toInt = 2 by decide, zs_bm ⟨by omega, by omega⟩]
  omega
theorem zs_i21 {x : Int32} (hx : zs_in x.toInt a b) (h : 0 ≤ a ∧ b ≤ 1000) : ((2 : Int32) * x + (1 : Int32)).toInt = ((2 : Nat) : Int) * x.toInt + ((1 : Nat) : Int) := by
  rw [Int32.toInt_add, Int32.toInt_mul, show (2 : Int32).toInt = 2 by decide, show (1 : Int32).toInt = 1 by decide, zs_bm (X := 2 * x.toInt) ⟨by omega, by omega⟩, zs_bm ⟨by omega, by omega⟩]
  omega
theorem zs_i50 {x : Int32} (hx : zs_in x.toInt a b) (h : 0 ≤ a ∧ b ≤ 1000) : ((5 : Int32) * x + (0 : Int32)).toInt = ((5 : Nat) : Int) * x.toInt + ((0 : Nat) : Int) := by
  rw [Int32.toInt_add, Int32.toInt_mul, show (5 : Int32).toInt = 5 by decide, show (0 : Int32).toInt = 0 by decide, zs_bm (X := 5 * x.toInt) ⟨by omega, by omega⟩, zs_bm ⟨by omega, by omega⟩]
  omega
end
/-! the tables -/
def zs_cnt (k : Nat) : Int × Int := bif Nat.beq k 0 then (0, 30) else (bif Nat.beq k 1 then (0, 9) else (bif Nat.beq k 2 then (0, 3) else (bif Nat.beq k 3 then (0, 999) else (bif Nat.beq k 4 then (0, 10) else (bif Nat.beq k 5 then (0, 6) else (bif Nat.beq k 6 then (0, 5) else (bif Nat.beq k 7 then (0, 8) else (bif Nat.beq k 8 then (0, 6) else (bif Nat.beq k 9 then (0, 40) else (bif Nat.beq k 10 then (0, 900) else (0, 999)))))))))))
def zs_pol (k : Nat) : Int × Int := bif Nat.beq (k % 5) 0 then (0, 5) else (bif Nat.ble (k % 5) 2 then (0, 29) else (0, 99))
def zs_row (k : Nat) : Int × Int := bif Nat.ble k 10 then (zs_cnt k) else (bif Nat.ble k 22 then (0, 99) else (bif Nat.ble k 32 then (0, 29) else (bif Nat.ble k 48 then (0, 5) else (bif Nat.ble k 78 then (zs_pol (k - 49)) else (0, 1199)))))
def zs_tC (q k : Nat) : Int × Int := bif (Nat.beq q 2 || Nat.beq q 74 || Nat.beq q 81 || Nat.beq q 88) then (zs_cnt k) else (bif (Nat.beq q 7 || Nat.beq q 14 || Nat.beq q 79 || Nat.beq q 86 || Nat.beq q 93) then (0, 29) else (bif Nat.beq q 9 then (bif Nat.beq k 5 then (0, 6) else (bif Nat.beq k 6 then (0, 5) else (bif Nat.beq k 7 then (0, 8) else (bif Nat.beq k 8 then (0, 6) else ((-2147483648), 2147483647))))) else (bif Nat.beq q 16 then (0, 1) else (bif Nat.beq q 17 then (bif Nat.beq k 1 then (0, 900) else ((-2147483648), 2147483647)) else (bif Nat.beq q 25 then (0, 3) else (bif Nat.beq q 26 then ((-1), 60) else (bif (Nat.beq q 27 || Nat.beq q 38 || Nat.beq q 59) then (bif Nat.beq k 0 then (0, 30) else (bif Nat.beq k 1 then (0, 6) else (bif Nat.beq k 2 then (0, 8) else ((-2147483648), 2147483647)))) else (bif (Nat.beq q 37 || Nat.beq q 48 || Nat.beq q 69) then (0, 1073741823) else (bif (Nat.beq q 49 || Nat.beq q 70) then (bif Nat.beq k 2 then (0, 6) else ((-2147483648), 2147483647)) else (bif (Nat.beq q 51 || Nat.beq q 72) then ((-1), 63) else (bif Nat.beq q 1000 then (0, 0) else ((-2147483648), 2147483647))))))))))))
def zs_tM (q k : Nat) : Int × Int := bif Nat.beq q 0 then (bif Nat.beq k 5 then (0, 900) else (bif Nat.beq k 7 then (0, 900) else (bif Nat.beq k 8 then (0, 900) else (bif Nat.beq k 9 then (0, 900) else (bif Nat.beq k 12 then (0, 3) else (bif Nat.beq k 21 then (0, 1000) else (bif Nat.beq k 22 then ((-1), 29) else (bif Nat.beq k 36 then (0, 270) else ((-2147483648), 2147483647))))))))) else (bif (Nat.beq q 1 || Nat.beq q 6) then (zs_row k) else (bif Nat.beq q 2 then (zs_row (k % 119)) else (bif Nat.beq q 3 then (0, 1) else (bif Nat.beq q 10 then (0, 1073741823) else (bif Nat.beq q 19 then (0, 299) else (bif Nat.beq q 21 then ((-1), 60) else (bif Nat.beq q 22 then (0, 3) else ((-2147483648), 2147483647))))))))
def zs_kC0 (q k : Nat) : Bool := bif (Nat.beq q 16 || Nat.beq q 18 || Nat.beq q 25 || Nat.beq q 26) then true else (bif Nat.beq q 17 then (Nat.beq k 1 || Nat.beq k 2 || Nat.beq k 3) else false)
def zs_lC (q : Nat) : Bool := Nat.beq q 21 || Nat.beq q 22 || Nat.beq q 23 || Nat.beq q 24
def zs_kA (q k : Nat) : Bool := bif Nat.beq q 2 then (bif Nat.beq k 9 then false else true) else (bif (Nat.beq q 3 || Nat.beq q 4 || Nat.beq q 5) then true else (bif Nat.beq q 6 then (bif Nat.beq (k % 5) 4 then false else true) else (bif (Nat.ble 73 q && Nat.ble q 93) then true else (zs_kC0 q k))))
def zs_kC (q k : Nat) : Bool := bif (Nat.beq q 2 || Nat.beq q 6 || Nat.beq q 7) then true else (zs_kA q k)
def zs_kM0 (q k : Nat) : Bool := bif (Nat.beq q 3 || Nat.beq q 4 || Nat.beq q 21 || Nat.beq q 22) then true else (bif Nat.beq q 0 then (Nat.beq k 5 || Nat.beq k 12 || Nat.beq k 13) else false)
def zs_lM (q : Nat) : Bool := Nat.beq q 23
def zs_kM (q k : Nat) : Bool := bif (Nat.beq q 1 || Nat.beq q 2) then true else (zs_kM0 q k)
abbrev zs_C := zs_G zs_tC zs_kC zs_lC
abbrev zs_C0 := zs_G zs_tC zs_kC0 zs_lC
abbrev zs_A := zs_G zs_tC zs_kA zs_lC
abbrev zs_M0 := zs_G zs_tM zs_kM0 zs_lM
abbrev zs_M := zs_G zs_tM zs_kM zs_lM
theorem zs_im {x1 x2 : Int32} (h1 : zs_in x1.toInt 0 2) (h2 : zs_in x2.toInt 0 118) : zs_tM 2 ((119 : Int32) * x1 + x2).toNatClampNeg = zs_tM 1 x2.toNatClampNeg := by
  have e : ((119 : Int32) * x1 + x2).toInt = 119 * x1.toInt + x2.toInt := by
    rw [Int32.toInt_add, Int32.toInt_mul, show (119 : Int32).toInt = 119 from by decide, zs_bm (X := 119 * x1.toInt) ⟨by omega, by omega⟩, zs_bm ⟨by omega, by omega⟩]
  have e1 : ((119 : Int32) * x1 + x2).toNatClampNeg = ((119 : Int32) * x1 + x2).toInt.toNat := rfl
  have e2 : x2.toNatClampNeg = x2.toInt.toNat := rfl
  have e3 : ((119 : Int32) * x1 + x2).toNatClampNeg % 119 = x2.toNatClampNeg := by rw [e1, e2, e]; omega
  show zs_row (((119 : Int32) * x1 + x2).toNatClampNeg % 119) = zs_row x2.toNatClampNeg
  rw [e3]
theorem zs_wrim2 {σ0 σ : sn_S} {x1 x2 : Int32} (h : zs_M0 σ0 σ) (h1 : zs_in x1.toInt 0 2) (h2 : zs_in x2.toInt 0 118) : zs_M0 σ0 (sn_pI σ 2 ((119 : Int32) * x1 + x2).toNatClampNeg (sn_I σ 1 x2.toNatClampNeg)) := zs_wr h (by rw [zs_im h1 h2]; exact h.1.1 1 _) rfl
theorem zs_wrim1 {σ0 σ : sn_S} {x1 x2 : Int32} (h : zs_M0 σ0 σ) (h1 : zs_in x1.toInt 0 2) (h2 : zs_in x2.toInt 0 118) : zs_M0 σ0 (sn_pI σ 1 x2.toNatClampNeg (sn_I σ 2 ((119 : Int32) * x1 + x2).toNatClampNeg)) := zs_wr h (by rw [← zs_im h1 h2]; exact h.1.1 2 _) rfl
theorem zlI_m100000 : zs_in (-100000 : Int32).toInt (-100000) (-100000) := by decide
theorem zlI_m6 : zs_in (-6 : Int32).toInt (-6) (-6) := by decide
theorem zlI_m5 : zs_in (-5 : Int32).toInt (-5) (-5) := by decide
theorem zlI_m2 : zs_in (-2 : Int32).toInt (-2) (-2) := by decide
theorem zlI_m1 : zs_in (-1 : Int32).toInt (-1) (-1) := by decide
theorem zlI_0 : zs_in (0 : Int32).toInt 0 0 := by decide
theorem zlL_0 : zs_in (0 : Int64).toInt 0 0 := by decide
theorem zlI_1 : zs_in (1 : Int32).toInt 1 1 := by decide
theorem zlL_1 : zs_in (1 : Int64).toInt 1 1 := by decide
theorem zlI_2 : zs_in (2 : Int32).toInt 2 2 := by decide
theorem zlL_2 : zs_in (2 : Int64).toInt 2 2 := by decide
theorem zlI_3 : zs_in (3 : Int32).toInt 3 3 := by decide
theorem zlL_3 : zs_in (3 : Int64).toInt 3 3 := by decide
theorem zlI_4 : zs_in (4 : Int32).toInt 4 4 := by decide
theorem zlI_5 : zs_in (5 : Int32).toInt 5 5 := by decide
theorem zlI_6 : zs_in (6 : Int32).toInt 6 6 := by decide
theorem zlI_7 : zs_in (7 : Int32).toInt 7 7 := by decide
theorem zlI_8 : zs_in (8 : Int32).toInt 8 8 := by decide
theorem zlI_9 : zs_in (9 : Int32).toInt 9 9 := by decide
theorem zlI_10 : zs_in (10 : Int32).toInt 10 10 := by decide
theorem zlI_11 : zs_in (11 : Int32).toInt 11 11 := by decide
theorem zlI_20 : zs_in (20 : Int32).toInt 20 20 := by decide
theorem zlL_20 : zs_in (20 : Int64).toInt 20 20 := by decide
theorem zlI_23 : zs_in (23 : Int32).toInt 23 23 := by decide
theorem zlI_30 : zs_in (30 : Int32).toInt 30 30 := by decide
theorem zlI_31 : zs_in (31 : Int32).toInt 31 31 := by decide
theorem zlI_33 : zs_in (33 : Int32).toInt 33 33 := by decide
theorem zlI_40 : zs_in (40 : Int32).toInt 40 40 := by decide
theorem zlI_49 : zs_in (49 : Int32).toInt 49 49 := by decide
theorem zlI_79 : zs_in (79 : Int32).toInt 79 79 := by decide
theorem zlI_99 : zs_in (99 : Int32).toInt 99 99 := by decide
theorem zlL_99 : zs_in (99 : Int64).toInt 99 99 := by decide
theorem zlI_100 : zs_in (100 : Int32).toInt 100 100 := by decide
theorem zlI_186 : zs_in (186 : Int32).toInt 186 186 := by decide
theorem zlI_200 : zs_in (200 : Int32).toInt 200 200 := by decide
theorem zlI_999 : zs_in (999 : Int32).toInt 999 999 := by decide
theorem zlI_1000000000 : zs_in (1000000000 : Int32).toInt 1000000000 1000000000 := by decide
theorem zlI_2000000000 : zs_in (2000000000 : Int32).toInt 2000000000 2000000000 := by decide
theorem zlL_2000000000 : zs_in (2000000000 : Int64).toInt 2000000000 2000000000 := by decide
theorem zlL_4611686018427387904 : zs_in (4611686018427387904 : Int64).toInt 4611686018427387904 4611686018427387904 := by decide
end
section
/-! words of bits: how many, the lowest -/
def zo_bcv (x : Int32) (n : Nat) : Bool := match fJ6_bitCount_0f7a4 x with
  | some r => decide (0 ≤ r.toInt ∧ r.toInt ≤ (n : Int))
  | none => false
theorem zo_bcs {x : Int32} {n : Nat} (h : zo_bcv x n = true) : zs_ok (fJ6_bitCount_0f7a4 x) (fun r => zs_in r.toInt 0 n) := by
  unfold zo_bcv at h
  cases e : fJ6_bitCount_0f7a4 x with
  | none => rw [e] at h; cases h
  | some r =>
    rw [e] at h
    exact ⟨r, rfl, by simpa using h⟩
theorem zo_bc8 : ∀ n, n < 9 → ∀ j, j < 2 ^ n → zo_bcv (nI j) n = true := by decide +kernel
theorem zo_bct {x0 : Int32} : zs_ok (fJ6_bitCount_0f7a4 x0) (fun r => zs_in r.toInt 0 63) := by
  unfold fJ6_bitCount_0f7a4
  exact ⟨_, rfl, zs_and (d := 63) (c := 63) (by decide) (by decide)⟩
/-- the first bit that is set -/
theorem zo_first (P : Nat → Prop) (n : Nat) (h : ∃ k, k < n ∧ P k) : ∃ k, k < n ∧ P k ∧ ∀ j, j < k → ¬ P j := by
  induction n with
  | zero => obtain ⟨k, h1, _⟩ := h; omega
  | succ n ih =>
    by_cases h2 : ∃ k, k < n ∧ P k
    · obtain ⟨k, a, b, c⟩ := ih h2
      exact ⟨k, by omega, b, c⟩
    · obtain ⟨k, h1, h3⟩ := h
      refine ⟨k, h1, h3, fun j hj hp => h2 ⟨j, by omega, hp⟩⟩
theorem zo_twoPow (x : BitVec 32) (n : Nat) (hn : n ≤ 32) (h0 : x ≠ 0) (h1 : x.toNat < 2 ^ n) : ∃ k, k < n ∧ x &&& -x = BitVec.twoPow 32 k := by
  have hex : ∃ k, k < n ∧ x.getLsbD k = true := by
    apply Classical.byContradiction
    intro hne
    apply h0
    apply BitVec.eq_of_getLsbD_eq
    intro i hi
    have hz : BitVec.getLsbD (0 : BitVec 32) i = false := by simp
    rw [hz]
    by_cases h : i < n
    · cases e : x.getLsbD i with
      | false => rfl
      | true => exact absurd ⟨i, h, e⟩ hne
    · have : x.toNat < 2 ^ i := Nat.lt_of_lt_of_le h1 (Nat.pow_le_pow_right (by decide) (by omega))
      exact Nat.testBit_lt_two_pow this
  obtain ⟨k, k1, k2, k3⟩ := zo_first (fun k => x.getLsbD k = true) n hex
  refine ⟨k, k1, ?_⟩
  apply BitVec.eq_of_getLsbD_eq
  intro i hi
  rw [BitVec.getLsbD_and, BitVec.getLsbD_neg, BitVec.getLsbD_twoPow]
  have e1 : decide (i < 32) = true := by simpa using hi
  by_cases hik : i = k
  · subst hik
    have e2 : decide (∃ j, j < i ∧ x.getLsbD j = true) = false := by
      rw [decide_eq_false_iff_not]
      rintro ⟨j, j1, j2⟩
      exact k3 j j1 j2
    simp [k2, e1, e2]
  · by_cases hlt : i < k
    · have e3 : x.getLsbD i = false := by simpa using k3 i hlt
      simp [e3]
      omega
    · have e4 : ∃ j, j < i ∧ x.getLsbD j = true := ⟨k, by omega, k2⟩
      simp [e1, e4]
      omega
theorem zo_pow8 : ∀ k, k < 31 → zo_bcv (nI (2 ^ k) - 1) k = true ∧ zo_bcv (nI (2 ^ k) - 1) k = true := by decide +kernel
theorem zo_lowv {x : Int32} (n : Nat) (hn : n ≤ 31) (h0 : x ≠ 0) (h1 : x.toBitVec.toNat < 2 ^ n) : zs_ok (fX8_lowestBit x) (fun r => zs_in r.toInt 0 (n - 1)) := by
  obtain ⟨k, k1, k2⟩ := zo_twoPow x.toBitVec n (by omega) (fun z => h0 (by
    have : x = Int32.ofBitVec x.toBitVec := rfl
    rw [this, z]
    rfl)) h1
  have e : x &&& -x = nI (2 ^ k) := by
    have : (x &&& -x).toBitVec = (nI (2 ^ k)).toBitVec := by
      rw [Int32.toBitVec_and, Int32.toBitVec_neg, k2]
      apply BitVec.eq_of_toNat_eq
      rw [BitVec.toNat_twoPow]
      show 2 ^ k % 2 ^ 32 = 2 ^ k % 2 ^ 32
      rfl
    exact Int32.toBitVec_inj.mp this
  unfold fX8_lowestBit
  rw [if_neg h0, e]
  obtain ⟨r, e1, e2⟩ := zo_bcs (zo_pow8 k (by omega)).1
  rw [e1]
  exact ⟨r, rfl, ⟨by omega, by omega⟩⟩
theorem zo_low (n : Nat) (m : Int) {lo hi : Int} (hd : 0 ≤ lo ∧ hi < 2 ^ n ∧ n ≤ 31 ∧ ((n : Int) - 1 = m)) {x0 : Int32} (h : zs_in x0.toInt lo hi) : zs_ok (fX8_lowestBit x0) (fun r => zs_in r.toInt (-1) m) := by
  by_cases e : x0 = 0
  · unfold fX8_lowestBit
    rw [if_pos e]
    have e2 : (-1 : Int32).toInt = -1 := by decide
    exact ⟨-1, rfl, by show zs_in (-1 : Int32).toInt (-1) m; rw [e2]; exact ⟨by omega, by omega⟩⟩
  · obtain ⟨e1, e2⟩ := zs_nat (x := x0) (by omega)
    have hp : ((2 ^ n : Nat) : Int) = 2 ^ n := by simp
    obtain ⟨r, f1, f2⟩ := zo_lowv n hd.2.2.1 e (by omega)
    exact ⟨r, f1, ⟨by omega, by omega⟩⟩
theorem zo_low1 (n : Nat) (m : Int) {lo hi : Int} (hd : 0 < lo ∧ hi < 2 ^ n ∧ n ≤ 31 ∧ ((n : Int) - 1 = m)) {x0 : Int32} (h : zs_in x0.toInt lo hi) : zs_ok (fX8_lowestBit x0) (fun r => zs_in r.toInt 0 m) := by
  have e : x0 ≠ 0 := fun z => by
    have : x0.toInt = 0 := by rw [z]; decide
    omega
  obtain ⟨e1, e2⟩ := zs_nat (x := x0) (by omega)
  have hp : ((2 ^ n : Nat) : Int) = 2 ^ n := by simp
  obtain ⟨r, f1, f2⟩ := zo_lowv n hd.2.2.1 e (by omega)
  exact ⟨r, f1, ⟨by omega, by omega⟩⟩
theorem zo_lowt {x0 : Int32} : zs_ok (fX8_lowestBit x0) (fun r => zs_in r.toInt (-1) 63) := by
  unfold fX8_lowestBit
  refine zs_ite (fun _ => zs_some (by decide)) (fun _ => ?_)
  exact zs_bd_ zo_bct (fun t ht => zs_some (zs_w ht (by decide)))
/-! the reference's first bit -/
theorem zo_bitv {n : Nat} (h : n < 2 ^ 31) {j : Nat} (hj : j < 31) : fX9_bit (nI n) (nI j) = some (nI (n / 2 ^ j % 2)) := by
  unfold fX9_bit
  have hs : ∀ j, j < 31 → (((nI j &&& 31 : Int32)).toBitVec.smod 32).toNat = j := by decide +kernel
  rw [pk_shrN h (nI j &&& 31) j (hs j hj)]
  have hlt : n / 2 ^ j < 2 ^ 32 := Nat.lt_of_le_of_lt (Nat.div_le_self _ _) (by omega)
  have := pk_andN hlt (m := 1) 1 (by decide)
  rw [this]
theorem zo_fol {n : Nat} (h : n < 2 ^ 31) : zs_ok (fX9_firstOf (nI n)) (fun r => zs_in r.toInt (-1) 29 ∧ (r.toInt = -1 → ∀ j, j < 30 → n / 2 ^ j % 2 = 0)) := by
  unfold fX9_firstOf
  obtain ⟨t, e1, e2⟩ := sn_it_rule (f := LX9_firstOf_2 (nI n)) (fun s => ∃ k, k ≤ 30 ∧ s = nI k ∧ ∀ j, j < k → n / 2 ^ j % 2 = 0) (fun s => 31 - s.toInt.toNat) (fun t => match t with | .inl _ => ∀ j, j < 30 → n / 2 ^ j % 2 = 0 | .inr r => zs_in r.toInt 0 29)
    (fun s hs => by
      obtain ⟨k, k1, rfl, k2⟩ := hs
      unfold LX9_firstOf_2 BX9_firstOf_2
      by_cases h30 : (30 : Int32) ≤ nI k
      · right
        rw [if_pos h30]
        refine ⟨_, rfl, ?_⟩
        have : k = 30 := by
          have h2 := Int32.le_iff_toInt_le.mp h30
          rw [nI_toInt (by omega)] at h2
          have h3 : (30 : Int32).toInt = 30 := by decide
          omega
        subst this
        exact k2
      · rw [if_neg h30]
        have hk : k < 30 := by
          have h2 : ¬ (30 : Int32).toInt ≤ (nI k).toInt := fun z => h30 (Int32.le_iff_toInt_le.mpr z)
          rw [nI_toInt (by omega)] at h2
          have h3 : (30 : Int32).toInt = 30 := by decide
          omega
        rw [zo_bitv h (by omega)]
        by_cases hb : n / 2 ^ k % 2 = 1
        · right
          refine ⟨.inr (nI k), ?_, ?_⟩
          · show (if nI (n / 2 ^ k % 2) = 1 then _ else _) = _
            rw [hb]
            rfl
          · show zs_in (nI k).toInt 0 29
            rw [nI_toInt (by omega)]
            exact ⟨by omega, by omega⟩
        · left
          have hb0 : n / 2 ^ k % 2 = 0 := by omega
          refine ⟨nI (k + 1), ?_, ⟨k + 1, by omega, rfl, fun j hj => ?_⟩, ?_⟩
          · show (if nI (n / 2 ^ k % 2) = 1 then _ else some (Sum.inl (nI k + 1))) = _
            rw [hb0, nI_1]
            rfl
          · by_cases e : j = k
            · rw [e]; exact hb0
            · exact k2 j (by omega)
          · rw [nI_toInt (by omega), nI_toInt (by omega)]
            omega) 5000 0 ⟨0, by omega, nI_0.symm, fun j hj => by omega⟩ (by decide)
  rw [show ((0 : Int32)) = 0 from rfl] at e1
  rw [e1]
  cases t with
  | inl u => exact ⟨-1, rfl, by decide, fun _ => e2⟩
  | inr r => exact ⟨r, rfl, zs_w e2 (by decide), fun z => absurd z (by have : zs_in r.toInt 0 29 := e2; omega)⟩
theorem zo_fo1 {lo hi : Int} (hd : 0 < lo ∧ hi < 2 ^ 30) {x0 : Int32} (h : zs_in x0.toInt lo hi) : zs_ok (fX9_firstOf x0) (fun r => zs_in r.toInt 0 29) := by
  obtain ⟨j, j1, rfl⟩ := zs_val h ⟨by omega, by omega⟩
  have hj : j < 2 ^ 30 := by omega
  rw [nI_toInt (by omega)] at h
  obtain ⟨r, e, f1, f2⟩ := zo_fol (n := j) (by omega)
  refine ⟨r, e, ?_⟩
  by_cases z : r.toInt = -1
  · exfalso
    have h0 : j = 0 := by
      apply Nat.eq_of_testBit_eq
      intro i
      rw [Nat.zero_testBit, Nat.testBit_eq_decide_div_mod_eq]
      by_cases hi30 : i < 30
      · rw [f2 z i hi30]; rfl
      · have : j / 2 ^ i = 0 := Nat.div_eq_of_lt (Nat.lt_of_lt_of_le hj (Nat.pow_le_pow_right (by decide) (by omega)))
        rw [this]; rfl
    omega
  · exact ⟨by omega, f1.2⟩
/-! how many bits: at most as many as there are places -/
theorem zo_and8 (u m : Nat) : u &&& m = (u % 256 &&& m % 256) + 256 * (u / 256 &&& m / 256) := by
  have h1 := Nat.div_add_mod (u &&& m) 256
  have h2 : (u &&& m) % 2 ^ 8 = (u % 2 ^ 8) &&& (m % 2 ^ 8) := Nat.and_mod_two_pow
  have h3 : (u &&& m) / 2 ^ 8 = (u / 2 ^ 8) &&& (m / 2 ^ 8) := Nat.and_div_two_pow
  have h2' : (u &&& m) % 256 = (u % 256) &&& (m % 256) := h2
  have h3' : (u &&& m) / 256 = (u / 256) &&& (m / 256) := h3
  rw [← h2', ← h3']
  omega
theorem zo_andM {u u0 u1 u2 u3 b M : Nat} (hu : u = u0 + 256 * u1 + 65536 * u2 + 16777216 * u3) (h0 : u0 < 256) (h1 : u1 < 256) (h2 : u2 < 256) (h3 : u3 < 256) (hM : M = b + 256 * b + 65536 * b + 16777216 * b) (hb : b < 256) :
    u &&& M = (u0 &&& b) + 256 * (u1 &&& b) + 65536 * (u2 &&& b) + 16777216 * (u3 &&& b) := by
  rw [zo_and8 u M, show u % 256 = u0 by omega, show M % 256 = b by omega, show u / 256 = u1 + 256 * u2 + 65536 * u3 by omega, show M / 256 = b + 256 * b + 65536 * b by omega]
  rw [zo_and8 (u1 + 256 * u2 + 65536 * u3) (b + 256 * b + 65536 * b), show (u1 + 256 * u2 + 65536 * u3) % 256 = u1 by omega, show (b + 256 * b + 65536 * b) % 256 = b by omega, show (u1 + 256 * u2 + 65536 * u3) / 256 = u2 + 256 * u3 by omega, show (b + 256 * b + 65536 * b) / 256 = b + 256 * b by omega]
  rw [zo_and8 (u2 + 256 * u3) (b + 256 * b), show (u2 + 256 * u3) % 256 = u2 by omega, show (b + 256 * b) % 256 = b by omega, show (u2 + 256 * u3) / 256 = u3 by omega, show (b + 256 * b) / 256 = b by omega]
  generalize u0 &&& b = w0
  generalize u1 &&& b = w1
  generalize u2 &&& b = w2
  generalize u3 &&& b = w3
  omega
def zo_p (a : Nat) : Nat := a - (a / 2 &&& 85)
def zo_q (a : Nat) : Nat := (zo_p a &&& 51) + (zo_p a / 4 &&& 51)
def zo_c (a : Nat) : Nat := (zo_q a + zo_q a / 16) &&& 15
theorem zo_d1 : ∀ a, a < 256 → ∀ t, t < 2 → (a / 2 + 128 * t) &&& 85 = a / 2 &&& 85 := by decide +kernel
theorem zo_d2 : ∀ a, a < 256 → (a / 2 &&& 85) ≤ a ∧ zo_p a < 256 := by decide +kernel
theorem zo_d3 : ∀ a, a < 256 → ∀ t, t < 4 → (a / 4 + 64 * t) &&& 51 = a / 4 &&& 51 := by decide +kernel
theorem zo_d4 : ∀ a, a < 256 → zo_q a ≤ 68 ∧ zo_q a % 16 ≤ 4 ∧ zo_c a ≤ 8 ∧ (a < 64 → zo_c a ≤ 6) := by decide +kernel
theorem zo_d5 : ∀ q, q < 69 → ∀ t, t < 5 → (q + q / 16 + 16 * t) &&& 15 = (q + q / 16) &&& 15 := by decide +kernel
theorem zo_nand {n m : Nat} (hn : n < 2 ^ 32) (hm : m < 2 ^ 32) : nI n &&& nI m = nI (n &&& m) := by
  apply Int32.toBitVec_inj.mp
  rw [Int32.toBitVec_and]
  apply BitVec.eq_of_toNat_eq
  have h1 : n &&& m < 2 ^ 32 := Nat.lt_of_le_of_lt Nat.and_le_left hn
  rw [BitVec.toNat_and, pk_tn hn, pk_tn hm, pk_tn h1]
theorem zo_ush {n : Nat} (hn : n < 2 ^ 32) : ((nI n).toUInt32 >>> ((1 : Int32).toUInt32 &&& Int32.toUInt32 31)).toInt32 = nI (n / 2) ∧ ((nI n).toUInt32 >>> ((2 : Int32).toUInt32 &&& Int32.toUInt32 31)).toInt32 = nI (n / 4) ∧ ((nI n).toUInt32 >>> ((4 : Int32).toUInt32 &&& Int32.toUInt32 31)).toInt32 = nI (n / 16) ∧ ((nI n).toUInt32 >>> ((8 : Int32).toUInt32 &&& Int32.toUInt32 31)).toInt32 = nI (n / 256) ∧ ((nI n).toUInt32 >>> ((16 : Int32).toUInt32 &&& Int32.toUInt32 31)).toInt32 = nI (n / 65536) :=
  ⟨pk_ushrN hn 1 1 (by decide), pk_ushrN hn 2 2 (by decide), pk_ushrN hn 4 4 (by decide), pk_ushrN hn 8 8 (by decide), pk_ushrN hn 16 16 (by decide)⟩
theorem zo_sum {v c0 c1 c2 c3 : Nat} (h : v = c0 + 256 * c1 + 65536 * c2 + 16777216 * c3) (h0 : c0 ≤ 8) (h1 : c1 ≤ 8) (h2 : c2 ≤ 8) (h3 : c3 ≤ 6) : (v + v / 256 + (v + v / 256) / 65536) % 64 = c0 + c1 + c2 + c3 := by
  have e1 : v / 256 = c1 + 256 * c2 + 65536 * c3 := by omega
  rw [e1]
  have e2 : (v + (c1 + 256 * c2 + 65536 * c3)) / 65536 = (c2 + c3) + 256 * c3 := by omega
  rw [e2]
  omega
theorem zo_bc30 {n : Nat} (hn : n < 2 ^ 30) : ∃ k, k ≤ 30 ∧ fJ6_bitCount_0f7a4 (nI n) = some (nI k) := by
  obtain ⟨a, b, c, d, hu, ha, hb, hc, hd⟩ : ∃ a b c d, n = a + 256 * b + 65536 * c + 16777216 * d ∧ a < 256 ∧ b < 256 ∧ c < 256 ∧ d < 64 := ⟨n % 256, n / 256 % 256, n / 65536 % 256, n / 16777216, by omega, by omega, by omega, by omega, by omega⟩
  have hd' : d < 256 := by omega
  have pa := zo_d2 a ha
  have pb := zo_d2 b hb
  have pc := zo_d2 c hc
  have pd := zo_d2 d hd'
  -- first step
  have e1 : n / 2 &&& 1431655765 = (a / 2 &&& 85) + 256 * (b / 2 &&& 85) + 65536 * (c / 2 &&& 85) + 16777216 * (d / 2 &&& 85) := by
    rw [zo_andM (u := n / 2) (u0 := a / 2 + 128 * (b % 2)) (u1 := b / 2 + 128 * (c % 2)) (u2 := c / 2 + 128 * (d % 2)) (u3 := d / 2) (b := 85) (by omega) (by omega) (by omega) (by omega) (by omega) rfl (by decide), zo_d1 a ha _ (by omega), zo_d1 b hb _ (by omega), zo_d1 c hc _ (by omega)]
  have y1 : n - (n / 2 &&& 1431655765) = zo_p a + 256 * zo_p b + 65536 * zo_p c + 16777216 * zo_p d := by
    rw [e1]
    unfold zo_p
    omega
  have s1 : (n / 2 &&& 1431655765) ≤ n := by rw [e1]; omega
  generalize hy1 : n - (n / 2 &&& 1431655765) = v1 at y1
  have b1 : v1 < 2 ^ 32 := by omega
  -- second step
  have e2 : v1 &&& 858993459 = (zo_p a &&& 51) + 256 * (zo_p b &&& 51) + 65536 * (zo_p c &&& 51) + 16777216 * (zo_p d &&& 51) := zo_andM y1 pa.2 pb.2 pc.2 pd.2 rfl (by decide)
  have e3 : v1 / 4 &&& 858993459 = (zo_p a / 4 &&& 51) + 256 * (zo_p b / 4 &&& 51) + 65536 * (zo_p c / 4 &&& 51) + 16777216 * (zo_p d / 4 &&& 51) := by
    rw [zo_andM (u := v1 / 4) (u0 := zo_p a / 4 + 64 * (zo_p b % 4)) (u1 := zo_p b / 4 + 64 * (zo_p c % 4)) (u2 := zo_p c / 4 + 64 * (zo_p d % 4)) (u3 := zo_p d / 4) (b := 51) (by omega) (by omega) (by omega) (by omega) (by omega) rfl (by decide), zo_d3 _ pa.2 _ (by omega), zo_d3 _ pb.2 _ (by omega), zo_d3 _ pc.2 _ (by omega)]
  have qa := zo_d4 a ha
  have qb := zo_d4 b hb
  have qc := zo_d4 c hc
  have qd := zo_d4 d hd'
  have y3 : (v1 &&& 858993459) + (v1 / 4 &&& 858993459) = zo_q a + 256 * zo_q b + 65536 * zo_q c + 16777216 * zo_q d := by
    rw [e2, e3]
    unfold zo_q
    omega
  generalize hy3 : (v1 &&& 858993459) + (v1 / 4 &&& 858993459) = v3 at y3
  have b3 : v3 < 2 ^ 32 := by omega
  -- third step
  have y5 : (v3 + v3 / 16) &&& 252645135 = zo_c a + 256 * zo_c b + 65536 * zo_c c + 16777216 * zo_c d := by
    rw [zo_andM (u := v3 + v3 / 16) (u0 := zo_q a + zo_q a / 16 + 16 * (zo_q b % 16)) (u1 := zo_q b + zo_q b / 16 + 16 * (zo_q c % 16)) (u2 := zo_q c + zo_q c / 16 + 16 * (zo_q d % 16)) (u3 := zo_q d + zo_q d / 16) (b := 15) (by omega) (by omega) (by omega) (by omega) (by omega) rfl (by decide), zo_d5 _ (by omega) _ (by omega), zo_d5 _ (by omega) _ (by omega), zo_d5 _ (by omega) _ (by omega)]
    rfl
  have b4 : v3 + v3 / 16 < 2 ^ 32 := by omega
  generalize hy5 : (v3 + v3 / 16) &&& 252645135 = v5 at y5
  have b5 : v5 < 2 ^ 28 := by omega
  refine ⟨zo_c a + zo_c b + zo_c c + zo_c d, by have := qd.2.2.2 hd; omega, ?_⟩
  unfold fJ6_bitCount_0f7a4 sn_lt
  have k1 : (1431655765 : Int32) = nI 1431655765 := rfl
  have k2 : (858993459 : Int32) = nI 858993459 := rfl
  have k4 : (252645135 : Int32) = nI 252645135 := rfl
  have k6 : (63 : Int32) = nI 63 := rfl
  have hn2 : n < 2 ^ 32 := by omega
  dsimp only
  rw [(zo_ush hn2).1, k1, zo_nand (by omega) (by decide), pk_sub s1, hy1, (zo_ush b1).2.1, k2, zo_nand b1 (by decide), zo_nand (by omega) (by decide), nI_add, hy3, (zo_ush b3).2.2.1, nI_add, k4, zo_nand b4 (by decide), hy5, (zo_ush (show v5 < 2 ^ 32 by omega)).2.2.2.1, nI_add]
  have b7 : v5 + v5 / 256 < 2 ^ 32 := by omega
  rw [(zo_ush b7).2.2.2.2, nI_add, k6, zo_nand (by omega) (by decide)]
  have h63 : ∀ x : Nat, x &&& 63 = x % 64 := fun x => Nat.and_two_pow_sub_one_eq_mod x 6
  rw [h63]
  exact congrArg (fun z => some (nI z)) (zo_sum y5 qa.2.2.1 qb.2.2.1 qc.2.2.1 (qd.2.2.2 hd))
theorem zo_bc (n : Nat) (m : Int) {lo hi : Int} (hd : 0 ≤ lo ∧ hi < 2 ^ n ∧ (n < 9 ∨ n = 30) ∧ ((n : Int) = m)) {x0 : Int32} (h : zs_in x0.toInt lo hi) : zs_ok (fJ6_bitCount_0f7a4 x0) (fun r => zs_in r.toInt 0 m) := by
  have hp : ((2 ^ n : Nat) : Int) = 2 ^ n := by simp
  have hle : (2 : Nat) ^ n ≤ 2 ^ 30 := Nat.pow_le_pow_right (by decide) (by omega)
  have hx := zs_topI x0
  obtain ⟨j, j1, rfl⟩ := zs_val h ⟨by omega, by omega⟩
  have hj : j < 2 ^ n := by omega
  rcases hd.2.2.1 with h8 | h30
  · obtain ⟨r, e, q⟩ := zo_bcs (zo_bc8 n h8 j hj)
    exact ⟨r, e, ⟨by omega, by omega⟩⟩
  · subst h30
    obtain ⟨k, k1, e⟩ := zo_bc30 hj
    refine ⟨_, e, ?_⟩
    show zs_in (nI k).toInt 0 m
    rw [nI_toInt (by omega)]
    exact ⟨by omega, by omega⟩
theorem zo_fot {x0 : Int32} : zs_ok (fX9_firstOf x0) (fun r => zs_in r.toInt (-1) 29) := by
  unfold fX9_firstOf
  refine zs_bd_ (zs_it (E := fun t => zs_sum (fun _ : Unit => True) (fun r : Int32 => zs_in r.toInt 0 29) t) (I := fun s => zs_in s.toInt 0 30) (m := fun s => 30 - s.toInt) (fun s hs => ⟨by have := hs; omega, by have := hs; omega⟩) (fun s hs => ?_) (s0 := 0) (by decide)) (fun t ht => zs_elim ht (fun _ _ => zs_some (by decide)) (fun r hr => zs_some (zs_w hr (by decide))))
  unfold LX9_firstOf_2 BX9_firstOf_2
  refine zs_ite (fun _ => zs_some (zs_inr (zs_inl trivial))) (fun c => ?_)
  have h1 := zs_I_len c
  have h2 : zs_in s.toInt 0 29 := zs_ltl 0 29 h1 hs (show zs_in (30 : Int32).toInt 30 30 by decide) (by decide)
  unfold fX9_bit
  show zs_ok (if _ = (1 : Int32) then _ else _) _
  refine zs_ite (fun _ => zs_some (zs_inr (zs_inr h2))) (fun _ => ?_)
  have h3 : zs_in (s + 1).toInt 1 30 := zs_addI 1 30 h2 (show zs_in (1 : Int32).toInt 1 1 by decide) (by decide)
  have h4 : (s + 1).toInt = s.toInt + 1 := by
    rw [Int32.toInt_add, show (1 : Int32).toInt = 1 by decide, zs_bm ⟨by omega, by omega⟩]
  exact zs_some (zs_inl ⟨zs_w h3 (by decide), by show 30 - (s + 1).toInt < 30 - s.toInt; omega⟩)
theorem zo_fot2 {x0 : Int32} {a b : Int} (h : zs_in x0.toInt a b) : zs_ok (fX9_firstOf x0) (fun r => zs_in r.toInt (-1) 29) := zo_fot
/-! whose a policy is: of those there are -/
abbrev zs_Ws (σ0 : sn_S) (x : Int32) : Prop := Nonempty (PLift (x.toInt < (σ0.1 2 8).toInt))
theorem zs_Wlt {σ0 : sn_S} {x : Int32} (w : zs_Ws σ0 x) : x.toInt < (σ0.1 2 8).toInt := w.elim (fun p => p.down)
theorem zo_whose {σ0 σ : sn_S} {x1 : Int32} [w : zs_Ws σ0 x1] (h_σ : zs_C σ0 σ) (h_x1 : zs_in x1.toInt 0 5) : zs_ok (fX2_ofPolicy σ 1 x1 (0 : Int32)) (fun r => zs_in (r).toInt 0 5) := by
  unfold fX2_ofPolicy
  have e8 : σ.1 2 8 = σ0.1 2 8 := h_σ.2.1 2 8 rfl
  have hl : x1.toInt < (sn_I σ 2 8).toInt := by
    show x1.toInt < (σ.1 2 8).toInt
    rw [e8]
    exact zs_Wlt w
  refine zs_gd (zs_gin (zs_addI 0 25 (zs_mulI 0 25 (by decide : zs_in (5 : Int32).toInt 5 5) h_x1 (by decide)) (by decide : zs_in (0 : Int32).toInt 0 0) (by decide)) (by decide)) ?_
  exact zs_some (zs_use (h_σ.1.2 rfl).1.1.2.2.2 h_x1 (by decide) hl (zs_i50 h_x1 (by decide)))
theorem zo_isPolicyG {key : Nat → Nat → Bool} {kl : Nat → Bool} (hk : key 2 8 = true) {σ0 σ : sn_S} (h_σ : zs_G zs_tC key kl σ0 σ) {x1 : Int32} : zs_ok (fX8_isPolicy σ x1) (fun r => (zs_in (r).toInt 0 1) ∧ ((r).toInt = 0 ∨ zs_in (x1).toInt 0 5) ∧ ((r).toInt = 0 ∨ zs_Ws σ0 x1)) := by
  have e8 : σ.1 2 8 = σ0.1 2 8 := h_σ.2.1 2 8 hk
  have b8 := zs_rdk (q := 2) (k := (8 : Int32).toNatClampNeg) (z := (0, 6)) h_σ.1 rfl
  unfold fX8_isPolicy
  refine zs_ite (fun _ => zs_gd (by decide) (zs_some ⟨by decide, Or.inl (by decide), Or.inl (by decide)⟩)) (fun c => ?_)
  refine zs_gd (by decide) (zs_ite (fun _ => zs_gd (by decide) (zs_some ⟨by decide, Or.inl (by decide), Or.inl (by decide)⟩)) (fun c2 => zs_gd (by decide) (zs_some ⟨by decide, Or.inr ?_, Or.inr ?_⟩)))
  · have h1 := zs_I_ltn c
    have h2 : x1.toInt < (sn_I σ 2 (8 : Int32).toNatClampNeg).toInt := zs_I_len c2
    have h0 : (0 : Int32).toInt = 0 := by decide
    exact ⟨by omega, by omega⟩
  · have h2 : x1.toInt < (σ.1 2 8).toInt := zs_I_len c2
    exact ⟨⟨by rw [← e8]; exact h2⟩⟩
theorem zo_isPolicy {σ0 σ : sn_S} (h_σ : zs_C σ0 σ) {x1 : Int32} : zs_ok (fX8_isPolicy σ x1) (fun r => (zs_in (r).toInt 0 1) ∧ ((r).toInt = 0 ∨ zs_in (x1).toInt 0 5) ∧ ((r).toInt = 0 ∨ zs_Ws σ0 x1)) := zo_isPolicyG rfl h_σ
theorem zoA_isPolicy {σ0 σ : sn_S} (h_σ : zs_A σ0 σ) {x1 : Int32} : zs_ok (fX8_isPolicy σ x1) (fun r => (zs_in (r).toInt 0 1) ∧ ((r).toInt = 0 ∨ zs_in (x1).toInt 0 5) ∧ ((r).toInt = 0 ∨ zs_Ws σ0 x1)) := zo_isPolicyG rfl h_σ
/-! rows laid over rows -/
def zh_cp (z : sn_S) (a b L : Nat) : sn_S := sn_wI z a (va_cpy (sn_I z b) (sn_I z a) (0 : Int32).toNatClampNeg (0 : Int32).toNatClampNeg (Int32.ofNat L).toNatClampNeg)
theorem zh_cp_ne {z : sn_S} {a b L q : Nat} (h : q ≠ a) : (zh_cp z a b L).1 q = z.1 q := by
  show (if q = a then _ else z.1 q) = _
  rw [if_neg h]
theorem zh_cp_eq {z : sn_S} {a b L k : Nat} (hL : L < 2 ^ 31) : (zh_cp z a b L).1 a k = if k < L then z.1 b k else z.1 a k := by
  have e : (Int32.ofNat L).toNatClampNeg = L := nI_clamp hL
  show (if a = a then va_cpy (sn_I z b) (sn_I z a) 0 0 (Int32.ofNat L).toNatClampNeg else z.1 a) k = _
  rw [if_pos rfl, e]
  unfold va_cpy
  by_cases h : k < L
  · rw [if_pos h, if_pos ⟨Nat.zero_le _, by omega⟩]
    show z.1 b (0 + (k - 0)) = _
    rw [Nat.zero_add, Nat.sub_zero]
  · rw [if_neg h, if_neg (fun z => h (by omega))]
    rfl
/-- z: σ with the rows a .. a + n laid over by those of b in part -/
def zh_mix (σ : sn_S) (a b n : Nat) (z : sn_S) : Prop := z.2 = σ.2 ∧ (∀ q, q < a ∨ a + n < q → z.1 q = σ.1 q) ∧ ∀ i, i ≤ n → ∀ k, z.1 (a + i) k = σ.1 (a + i) k ∨ z.1 (a + i) k = σ.1 (b + i) k
theorem zh_mix0 {σ : sn_S} {a b n : Nat} : zh_mix σ a b n σ := ⟨rfl, fun _ _ => rfl, fun _ _ _ => Or.inl rfl⟩
theorem zh_mixp {σ z : sn_S} {a b n i k : Nat} (hd : b + n < a ∨ a + n < b) (hi : i ≤ n) (h : zh_mix σ a b n z) : zh_mix σ a b n (sn_pI z (a + i) k (sn_I z (b + i) k)) := by
  refine ⟨h.1, fun q hq => ?_, fun j hj l => ?_⟩
  · funext l
    show (if q = a + i ∧ l = k then _ else z.1 q l) = _
    rw [if_neg (fun e => by have := e.1; omega), h.2.1 q hq]
  · show (if a + j = a + i ∧ l = k then z.1 (b + i) k else z.1 (a + j) l) = _ ∨ (if a + j = a + i ∧ l = k then z.1 (b + i) k else z.1 (a + j) l) = _
    by_cases e : a + j = a + i ∧ l = k
    · rw [if_pos e]
      right
      have e1 : j = i := by omega
      rw [e1, e.2, h.2.1 (b + i) (by omega)]
    · rw [if_neg e]
      exact h.2.2 j hj l
theorem zh_mixc {σ z : sn_S} {a b n i L : Nat} (hd : b + n < a ∨ a + n < b) (hi : i ≤ n) (hL : L < 2 ^ 31) (h : zh_mix σ a b n z) : zh_mix σ a b n (zh_cp z (a + i) (b + i) L) := by
  refine ⟨h.1, fun q hq => ?_, fun j hj l => ?_⟩
  · rw [zh_cp_ne (by omega), h.2.1 q hq]
  · by_cases e : j = i
    · rw [e, zh_cp_eq hL]
      by_cases e2 : l < L
      · rw [if_pos e2]
        right
        rw [h.2.1 (b + i) (by omega)]
      · rw [if_neg e2]
        exact h.2.2 i hi l
    · rw [zh_cp_ne (by omega)]
      exact h.2.2 j hj l
theorem zh_mix_b {σ z : sn_S} {t : zs_T} {a b n : Nat} (h : zh_mix σ a b n z) (hb : ∀ q k, (t q k).1 ≤ (σ.1 q k).toInt ∧ (σ.1 q k).toInt ≤ (t q k).2) (ht : ∀ i, i ≤ n → ∀ k, (t (a + i) k).1 ≤ (σ.1 (b + i) k).toInt ∧ (σ.1 (b + i) k).toInt ≤ (t (a + i) k).2) (q k : Nat) : (t q k).1 ≤ (z.1 q k).toInt ∧ (z.1 q k).toInt ≤ (t q k).2 := by
  by_cases hq : q < a ∨ a + n < q
  · rw [h.2.1 q hq]
    exact hb q k
  · have e : q = a + (q - a) := by omega
    have := h.2.2 (q - a) (by omega) k
    rw [← e] at this
    rcases this with g | g
    · rw [g]
      exact hb q k
    · rw [g]
      have h1 := ht (q - a) (by omega) k
      rw [← e] at h1
      exact h1
theorem zh_Ru_mv {σ z : sn_S} {cq ck rq cq' rq' s o m : Nat} {hi : Int} (h1 : z.1 cq ck = σ.1 cq' ck) (h2 : ∀ j, j < m → z.1 rq (s * j + o) = σ.1 rq' (s * j + o)) (h : zs_Ru cq' ck rq' s o m hi σ) : zs_Ru cq ck rq s o m hi z := fun j hj hc => by
  rw [h2 j hj]
  exact h j hj (by rw [← h1]; exact hc)
theorem zh_Ru_mv' {σ z : sn_S} {cq ck rq cq' ck' rq' s o m : Nat} {hi : Int} (h1 : z.1 cq ck = σ.1 cq' ck') (h2 : ∀ j, j < m → z.1 rq (s * j + o) = σ.1 rq' (s * j + o)) (h : zs_Ru cq' ck' rq' s o m hi σ) : zs_Ru cq ck rq s o m hi z := fun j hj hc => by
  rw [h2 j hj]
  exact h j hj (by rw [← h1]; exact hc)
/-! a day copied, the nets told to it -/
theorem zh_dcp (σ : sn_S) (a b : Nat) (hd : b + 10 < a ∨ a + 10 < b) : ∃ z, fX0_copyFrom σ a b = some z ∧ zh_mix σ a b 10 z ∧ z.1 a 2 = σ.1 b 2 ∧ ∀ k, k < 16 → z.1 (a + 6) k = σ.1 (b + 6) k := by
  have key : zs_ok (fX0_copyFrom σ a b) (fun z => zh_mix σ a b 10 z ∧ z.1 a 2 = σ.1 b 2 ∧ ∀ k, k < 16 → z.1 (a + 6) k = σ.1 (b + 6) k) := by
    unfold fX0_copyFrom
    refine zs_lt (Q := fun z => zh_mix σ a b 10 z) (zh_mixp (i := 0) hd (by decide) zh_mix0) (fun z1 m1 => ?_)
    refine zs_lt (Q := fun z => zh_mix σ a b 10 z) (zh_mixp (i := 0) hd (by decide) m1) (fun z2 m2 => ?_)
    refine zs_lt (Q := fun z => zh_mix σ a b 10 z ∧ z.1 a 2 = σ.1 b 2) ⟨zh_mixp (i := 0) hd (by decide) m2, ?_⟩ (fun z3 m3 => ?_)
    · show (if a = a ∧ 2 = 2 then z2.1 b 2 else _) = _
      rw [if_pos ⟨rfl, rfl⟩, m2.2.1 b (by omega)]
    refine zs_lt (Q := fun z => zh_mix σ a b 10 z ∧ z.1 a 2 = σ.1 b 2) ⟨zh_mixp (i := 0) hd (by decide) m3.1, ?_⟩ (fun z4 m4 => ?_)
    · show (if a = a ∧ 2 = 3 then _ else z3.1 a 2) = _
      rw [if_neg (fun e => absurd e.2 (by decide))]
      exact m3.2
    have row : ∀ (i L : Nat) (z : sn_S), 1 ≤ i → i ≤ 10 → L < 2 ^ 31 → (zh_mix σ a b 10 z ∧ z.1 a 2 = σ.1 b 2) → (zh_mix σ a b 10 (zh_cp z (a + i) (b + i) L) ∧ (zh_cp z (a + i) (b + i) L).1 a 2 = σ.1 b 2) := by
      intro i L z h1 h10 hL hz
      exact ⟨zh_mixc hd h10 hL hz.1, by rw [zh_cp_ne (by omega)]; exact hz.2⟩
    refine zs_gd (by decide) (zs_lt (Q := fun z => zh_mix σ a b 10 z ∧ z.1 a 2 = σ.1 b 2) (row 1 30 z4 (by decide) (by decide) (by decide) m4) (fun z5 m5 => ?_))
    refine zs_gd (by decide) (zs_lt (Q := fun z => zh_mix σ a b 10 z ∧ z.1 a 2 = σ.1 b 2) (row 2 6 z5 (by decide) (by decide) (by decide) m5) (fun z6 m6 => ?_))
    refine zs_gd (by decide) (zs_lt (Q := fun z => zh_mix σ a b 10 z ∧ z.1 a 2 = σ.1 b 2) (row 3 6 z6 (by decide) (by decide) (by decide) m6) (fun z7 m7 => ?_))
    refine zs_gd (by decide) (zs_lt (Q := fun z => zh_mix σ a b 10 z ∧ z.1 a 2 = σ.1 b 2) (row 4 6 z7 (by decide) (by decide) (by decide) m7) (fun z8 m8 => ?_))
    refine zs_gd (by decide) (zs_lt (Q := fun z => zh_mix σ a b 10 z ∧ z.1 a 2 = σ.1 b 2) (row 5 6 z8 (by decide) (by decide) (by decide) m8) (fun z9 m9 => ?_))
    have row6 : ∀ (i L : Nat) (z : sn_S), 7 ≤ i → i ≤ 10 → L < 2 ^ 31 → (zh_mix σ a b 10 z ∧ z.1 a 2 = σ.1 b 2 ∧ ∀ k, k < 16 → z.1 (a + 6) k = σ.1 (b + 6) k) → (zh_mix σ a b 10 (zh_cp z (a + i) (b + i) L) ∧ (zh_cp z (a + i) (b + i) L).1 a 2 = σ.1 b 2 ∧ ∀ k, k < 16 → (zh_cp z (a + i) (b + i) L).1 (a + 6) k = σ.1 (b + 6) k) := by
      intro i L z h1 h10 hL hz
      exact ⟨zh_mixc hd h10 hL hz.1, by rw [zh_cp_ne (by omega)]; exact hz.2.1, fun k hk => by rw [zh_cp_ne (by omega)]; exact hz.2.2 k hk⟩
    refine zs_gd (by decide) (zs_lt (Q := fun z => zh_mix σ a b 10 z ∧ z.1 a 2 = σ.1 b 2 ∧ ∀ k, k < 16 → z.1 (a + 6) k = σ.1 (b + 6) k) ⟨(row 6 16 z9 (by decide) (by decide) (by decide) m9).1, (row 6 16 z9 (by decide) (by decide) (by decide) m9).2, fun k hk => ?_⟩ (fun z10 m10 => ?_))
    · show (zh_cp z9 (a + 6) (b + 6) 16).1 (a + 6) k = _
      rw [zh_cp_eq (by decide), if_pos hk, m9.1.2.1 (b + 6) (by omega)]
    refine zs_gd (by decide) (zs_lt (Q := fun z => zh_mix σ a b 10 z ∧ z.1 a 2 = σ.1 b 2 ∧ ∀ k, k < 16 → z.1 (a + 6) k = σ.1 (b + 6) k) (row6 7 180 z10 (by decide) (by decide) (by decide) m10) (fun z11 m11 => ?_))
    refine zs_gd (by decide) (zs_lt (Q := fun z => zh_mix σ a b 10 z ∧ z.1 a 2 = σ.1 b 2 ∧ ∀ k, k < 16 → z.1 (a + 6) k = σ.1 (b + 6) k) (row6 8 180 z11 (by decide) (by decide) (by decide) m11) (fun z12 m12 => ?_))
    refine zs_gd (by decide) (zs_lt (Q := fun z => zh_mix σ a b 10 z ∧ z.1 a 2 = σ.1 b 2 ∧ ∀ k, k < 16 → z.1 (a + 6) k = σ.1 (b + 6) k) (row6 9 30 z12 (by decide) (by decide) (by decide) m12) (fun z13 m13 => ?_))
    exact zs_gd (by decide) (zs_lt (Q := fun z => zh_mix σ a b 10 z ∧ z.1 a 2 = σ.1 b 2 ∧ ∀ k, k < 16 → z.1 (a + 6) k = σ.1 (b + 6) k) (row6 10 6 z13 (by decide) (by decide) (by decide) m13) (fun z14 m14 => zs_some m14))
  obtain ⟨z, e, h⟩ := key
  exact ⟨z, e, h⟩
theorem zh_dD {σ z : sn_S} {a b : Nat} (h2 : z.1 a 2 = σ.1 b 2) (h6 : ∀ k, k < 16 → z.1 (a + 6) k = σ.1 (b + 6) k) (h : zs_D b σ) : zs_D a z := ⟨zh_Ru_mv h2 (fun j hj => h6 _ (by omega)) h.1, zh_Ru_mv h2 (fun j hj => h6 _ (by omega)) h.2⟩
theorem zh_days (i : Nat) (hi : i ≤ 10) (k : Nat) : zs_tC (38 + i) k = zs_tC (27 + i) k ∧ zs_tC (59 + i) k = zs_tC (27 + i) k ∧ zs_kC (38 + i) k = false ∧ zs_kC (59 + i) k = false := by
  have : i = 0 ∨ i = 1 ∨ i = 2 ∨ i = 3 ∨ i = 4 ∨ i = 5 ∨ i = 6 ∨ i = 7 ∨ i = 8 ∨ i = 9 ∨ i = 10 := by omega
  rcases this with e | e | e | e | e | e | e | e | e | e | e <;> subst e <;> exact ⟨rfl, rfl, rfl, rfl⟩
theorem zo_dc {σ0 σ z : sn_S} {a : Nat} (h : zs_C σ0 σ) (ha : a = 38 ∨ a = 59) (hm : zh_mix σ a 27 10 z) (h2 : z.1 a 2 = σ.1 27 2) (h6 : ∀ k, k < 16 → z.1 (a + 6) k = σ.1 (27 + 6) k) : zs_C σ0 z := by
  have hD := zh_dD h2 h6 (h.1.2 rfl).2.1
  obtain ⟨⟨c1, c2, c3, c4⟩, d1, d2, d3⟩ := h.1.2 rfl
  have out : ∀ q, q < a ∨ a + 10 < q → z.1 q = σ.1 q := hm.2.1
  have o2 : ∀ q k, q < a ∨ a + 10 < q → z.1 q k = σ.1 q k := fun q k hq => by rw [out q hq]
  refine ⟨⟨zh_mix_b hm h.1.1 (fun i hi k => ?_), fun _ => ⟨⟨?_, ?_, ?_, ?_⟩, ?_, ?_, ?_⟩⟩, fun q k hk => ?_, fun q hq => ?_⟩
  · have e : zs_tC (a + i) k = zs_tC (27 + i) k := by
      rcases ha with e | e <;> subst e
      · exact (zh_days i hi k).1
      · exact (zh_days i hi k).2.1
    rw [e]
    exact h.1.1 _ _
  · exact zs_H_c (o2 _ _ (by omega)) (o2 _ _ (by omega)) (o2 _ _ (by omega)) (fun k => o2 _ _ (by omega)) (fun k => o2 _ _ (by omega)) (fun j => o2 _ _ (by omega)) c1
  · exact zs_H_c (o2 _ _ (by omega)) (o2 _ _ (by omega)) (o2 _ _ (by omega)) (fun k => o2 _ _ (by omega)) (fun k => o2 _ _ (by omega)) (fun j => o2 _ _ (by omega)) c2
  · exact zs_H_c (o2 _ _ (by omega)) (o2 _ _ (by omega)) (o2 _ _ (by omega)) (fun k => o2 _ _ (by omega)) (fun k => o2 _ _ (by omega)) (fun j => o2 _ _ (by omega)) c3
  · exact zs_H_c (o2 _ _ (by omega)) (o2 _ _ (by omega)) (o2 _ _ (by omega)) (fun k => o2 _ _ (by omega)) (fun k => o2 _ _ (by omega)) (fun j => o2 _ _ (by omega)) c4
  · exact zs_D_c (o2 _ _ (by omega)) (fun k => o2 _ _ (by omega)) d1
  · rcases ha with e | e <;> subst e
    · exact hD
    · exact zs_D_c (o2 _ _ (by omega)) (fun k => o2 _ _ (by omega)) d2
  · rcases ha with e | e <;> subst e
    · exact zs_D_c (o2 _ _ (by omega)) (fun k => o2 _ _ (by omega)) d3
    · exact hD
  · by_cases hq : q < a ∨ a + 10 < q
    · rw [out q hq]
      exact h.2.1 q k hk
    · exfalso
      have e : q = a + (q - a) := by omega
      rw [e] at hk
      rcases ha with e | e <;> subst e
      · rw [(zh_days _ (by omega) k).2.2.1] at hk
        cases hk
      · rw [(zh_days _ (by omega) k).2.2.2] at hk
        cases hk
  · rw [hm.1]
    exact h.2.2 q hq
theorem zo_dcopy {σ0 σ : sn_S} (h_σ : zs_C σ0 σ) {a : Nat} (ha : a = 38 ∨ a = 59 := by first | exact Or.inl rfl | exact Or.inr rfl) : zs_ok (fX0_copyFrom σ a 27) (fun r => zs_C σ0 r) := by
  obtain ⟨z, e, hm, h2, h6⟩ := zh_dcp σ a 27 (by omega)
  exact ⟨z, e, zo_dc h_σ ha hm h2 h6⟩
theorem zo_tellG {key : Nat → Nat → Bool} {kl : Nat → Bool} (h27 : ∀ k, key 27 k = false) (h33 : ∀ k, key 33 k = false) {σ0 σ : sn_S} (h : zs_G zs_tC key kl σ0 σ) : zs_G zs_tC key kl σ0 (sn_wI (sn_pI (sn_pI σ 27 2 (sn_I σ (1 + 1) (7 : Int32).toNatClampNeg)) 27 3 (-1 : Int32)) (27 + 6) (va_cpy (sn_I (sn_pI (sn_pI σ 27 2 (sn_I σ (1 + 1) (7 : Int32).toNatClampNeg)) 27 3 (-1 : Int32)) (1 + 4)) (sn_I (sn_pI (sn_pI σ 27 2 (sn_I σ (1 + 1) (7 : Int32).toNatClampNeg)) 27 3 (-1 : Int32)) (27 + 6)) (0 : Int32).toNatClampNeg (0 : Int32).toNatClampNeg (Int32.ofNat 16).toNatClampNeg)) := by
  generalize hz : sn_pI (sn_pI σ 27 2 (sn_I σ (1 + 1) (7 : Int32).toNatClampNeg)) 27 3 (-1 : Int32) = z
  show zs_G zs_tC key kl σ0 (zh_cp z 33 5 16)
  have z2 : z.1 27 2 = σ.1 2 7 := by rw [← hz]; rfl
  have z3 : z.1 27 3 = -1 := by rw [← hz]; rfl
  have zo : ∀ q k, ¬ (q = 27 ∧ (k = 2 ∨ k = 3)) → z.1 q k = σ.1 q k := fun q k hq => by
    rw [← hz]
    show (if q = 27 ∧ k = 3 then _ else if q = 27 ∧ k = 2 then _ else σ.1 q k) = _
    rw [if_neg (fun e => hq ⟨e.1, Or.inr e.2⟩), if_neg (fun e => hq ⟨e.1, Or.inl e.2⟩)]
  have zl : z.2 = σ.2 := by rw [← hz]; rfl
  have co : ∀ q k, q ≠ 33 → ¬ (q = 27 ∧ (k = 2 ∨ k = 3)) → (zh_cp z 33 5 16).1 q k = σ.1 q k := fun q k h1 h2 => by rw [zh_cp_ne h1, zo q k h2]
  have c33 : ∀ k, (zh_cp z 33 5 16).1 33 k = if k < 16 then σ.1 5 k else σ.1 33 k := fun k => by
    rw [zh_cp_eq (by decide), zo 5 k (fun e => absurd e.1 (by decide)), zo 33 k (fun e => absurd e.1 (by decide))]
  obtain ⟨⟨c1, c2, c3, c4⟩, d1, d2, d3⟩ := h.1.2 rfl
  have n27 : ∀ {q : Nat} (k : Nat), q ≠ 27 → ¬ (q = 27 ∧ (k = 2 ∨ k = 3)) := fun k hq e => hq e.1
  refine ⟨⟨fun q k => ?_, fun _ => ⟨⟨?_, ?_, ?_, ?_⟩, ?_, ?_, ?_⟩⟩, fun q k hk => ?_, fun q hq => ?_⟩
  · by_cases e33 : q = 33
    · subst e33
      rw [c33 k]
      by_cases hk : k < 16
      · rw [if_pos hk]
        exact h.1.1 5 k
      · rw [if_neg hk]
        exact h.1.1 33 k
    · by_cases e27 : q = 27 ∧ (k = 2 ∨ k = 3)
      · obtain ⟨e1, e2⟩ := e27
        subst e1
        rw [zh_cp_ne e33]
        rcases e2 with e2 | e2 <;> subst e2
        · rw [z2]
          exact h.1.1 2 7
        · rw [z3]
          exact ⟨by decide, by decide⟩
      · rw [co q k e33 e27]
        exact h.1.1 q k
  · exact zs_H_c (co _ _ (by decide) (n27 _ (by decide))) (co _ _ (by decide) (n27 _ (by decide))) (co _ _ (by decide) (n27 _ (by decide))) (fun k => co _ _ (by decide) (n27 _ (by decide))) (fun k => co _ _ (by decide) (n27 _ (by decide))) (fun j => co _ _ (by decide) (n27 _ (by decide))) c1
  · exact zs_H_c (co _ _ (by decide) (n27 _ (by decide))) (co _ _ (by decide) (n27 _ (by decide))) (co _ _ (by decide) (n27 _ (by decide))) (fun k => co _ _ (by decide) (n27 _ (by decide))) (fun k => co _ _ (by decide) (n27 _ (by decide))) (fun j => co _ _ (by decide) (n27 _ (by decide))) c2
  · exact zs_H_c (co _ _ (by decide) (n27 _ (by decide))) (co _ _ (by decide) (n27 _ (by decide))) (co _ _ (by decide) (n27 _ (by decide))) (fun k => co _ _ (by decide) (n27 _ (by decide))) (fun k => co _ _ (by decide) (n27 _ (by decide))) (fun j => co _ _ (by decide) (n27 _ (by decide))) c3
  · exact zs_H_c (co _ _ (by decide) (n27 _ (by decide))) (co _ _ (by decide) (n27 _ (by decide))) (co _ _ (by decide) (n27 _ (by decide))) (fun k => co _ _ (by decide) (n27 _ (by decide))) (fun k => co _ _ (by decide) (n27 _ (by decide))) (fun j => co _ _ (by decide) (n27 _ (by decide))) c4
  · have e2 : (zh_cp z 33 5 16).1 27 2 = σ.1 2 7 := by rw [zh_cp_ne (by decide)]; exact z2
    exact ⟨zh_Ru_mv' e2 (fun j hj => by rw [c33, if_pos (by omega)]) c1.2.1, zh_Ru_mv' e2 (fun j hj => by rw [c33, if_pos (by omega)]) c1.2.2.1⟩
  · exact zs_D_c (co _ _ (by decide) (n27 _ (by decide))) (fun k => co _ _ (by decide) (n27 _ (by decide))) d2
  · exact zs_D_c (co _ _ (by decide) (n27 _ (by decide))) (fun k => co _ _ (by decide) (n27 _ (by decide))) d3
  · by_cases e33 : q = 33
    · subst e33
      rw [h33] at hk
      cases hk
    · by_cases e27 : q = 27 ∧ (k = 2 ∨ k = 3)
      · rw [e27.1, h27] at hk
        cases hk
      · rw [co q k e33 e27]
        exact h.2.1 q k hk
  · show z.2.1 q = _
    rw [zl]
    exact h.2.2 q hq
theorem zo_tell {σ0 σ : sn_S} (h : zs_C σ0 σ) : zs_C σ0 (sn_wI (sn_pI (sn_pI σ 27 2 (sn_I σ (1 + 1) (7 : Int32).toNatClampNeg)) 27 3 (-1 : Int32)) (27 + 6) (va_cpy (sn_I (sn_pI (sn_pI σ 27 2 (sn_I σ (1 + 1) (7 : Int32).toNatClampNeg)) 27 3 (-1 : Int32)) (1 + 4)) (sn_I (sn_pI (sn_pI σ 27 2 (sn_I σ (1 + 1) (7 : Int32).toNatClampNeg)) 27 3 (-1 : Int32)) (27 + 6)) (0 : Int32).toNatClampNeg (0 : Int32).toNatClampNeg (Int32.ofNat 16).toNatClampNeg)) := zo_tellG (fun _ => rfl) (fun _ => rfl) h
theorem zoA_tell {σ0 σ : sn_S} (h : zs_A σ0 σ) : zs_A σ0 (sn_wI (sn_pI (sn_pI σ 27 2 (sn_I σ (1 + 1) (7 : Int32).toNatClampNeg)) 27 3 (-1 : Int32)) (27 + 6) (va_cpy (sn_I (sn_pI (sn_pI σ 27 2 (sn_I σ (1 + 1) (7 : Int32).toNatClampNeg)) 27 3 (-1 : Int32)) (1 + 4)) (sn_I (sn_pI (sn_pI σ 27 2 (sn_I σ (1 + 1) (7 : Int32).toNatClampNeg)) 27 3 (-1 : Int32)) (27 + 6)) (0 : Int32).toNatClampNeg (0 : Int32).toNatClampNeg (Int32.ofNat 16).toNatClampNeg)) := zo_tellG (fun _ => rfl) (fun _ => rfl) h
end
section
-- fX8_fault
theorem zc_3 {σ0 : sn_S} {σ : sn_S} (h_σ : zs_C σ0 σ) {x1 : Int32} : zs_ok (fX8_isPerson σ x1) (fun r => (zs_in (r).toInt 0 1) ∧ ((r).toInt = 0 ∨ (zs_in (x1).toInt 0 5))) := by
  unfold fX8_isPerson
  refine zs_ite (fun c1 => ?_) (fun c1 => ?_)
  · skip
    have r2 := (zs_I_lt c1)
    have g3 : zs_in (x1).toInt (-2147483648) (-1) := (zs_ltl (-2147483648) (-1) r2 (zs_topI _) zlI_0 (by decide))
    refine zs_gd (zs_b01 zlI_0 (by decide)) ?_
    exact zs_some ⟨(zs_w zlI_0 (by decide)), Or.inl (zs_ptr zlI_0)⟩
  · skip
    have r4 := (zs_I_ltn c1)
    have g5 : zs_in (x1).toInt 0 2147483647 := (zs_ler 0 2147483647 r4 zlI_0 (zs_topI _) (by decide))
    refine zs_gd (zs_gin zlI_5 (by decide)) ?_
    refine zs_ite (fun c6 => ?_) (fun c6 => ?_)
    · skip
      have r7 := (zs_I_le c6)
      refine zs_gd (zs_b01 zlI_0 (by decide)) ?_
      exact zs_some ⟨(zs_w zlI_0 (by decide)), Or.inl (zs_ptr zlI_0)⟩
    · skip
      have r8 := (zs_I_len c6)
      have g9 : zs_in (x1).toInt 0 5 := (zs_ltl 0 5 r8 g5 (zs_rdk (q := 2) (k := (5 : Int32).toNatClampNeg) (z := (0, 6)) h_σ.1 rfl) (by decide))
      have g10 : zs_in ((sn_I σ (1 + 1) (5 : Int32).toNatClampNeg)).toInt 1 6 := (zs_ltr 1 6 r8 g5 (zs_rdk (q := 2) (k := (5 : Int32).toNatClampNeg) (z := (0, 6)) h_σ.1 rfl) (by decide))
      refine zs_gd (zs_b01 zlI_1 (by decide)) ?_
      exact zs_some ⟨(zs_w zlI_1 (by decide)), Or.inr g9⟩
-- fX8_nose
theorem zc_5 {x0 : Int64} (h_x0 : zs_in x0.toInt (-2147483648) 2147483647) {x2 : Int64} (h_x2 : zs_in x2.toInt 0 0) {x4 : Int64} (h_x4 : zs_in x4.toInt (-1) 5) : zs_ok (fX9_in x0 x2 x4) (fun r => (zs_in (r).toInt 0 1) ∧ ((r).toInt = 0 ∨ (zs_in (x0).toInt 0 5 ∧ zs_in (x4).toInt 0 5))) := by
  unfold fX9_in
  refine zs_ite (fun c1 => ?_) (fun c1 => ?_)
  · skip
    have r2 := (zs_lg_lt c1)
    have g3 : zs_in (x0).toInt (-2147483648) (-1) := (zs_ltl (-2147483648) (-1) r2 h_x0 h_x2 (by decide))
    refine zs_gd (zs_b01 zlI_0 (by decide)) ?_
    exact zs_some ⟨(zs_w zlI_0 (by decide)), Or.inl (zs_ptr zlI_0)⟩
  · skip
    have r4 := (zs_lg_ltn c1)
    have g5 : zs_in (x0).toInt 0 2147483647 := (zs_ler 0 2147483647 r4 h_x2 h_x0 (by decide))
    refine zs_ite (fun c6 => ?_) (fun c6 => ?_)
    · skip
      have r7 := (zs_lg_ltf c6)
      refine zs_gd (zs_b01 zlI_0 (by decide)) ?_
      exact zs_some ⟨(zs_w zlI_0 (by decide)), Or.inl (zs_ptr zlI_0)⟩
    · skip
      have r8 := (zs_lg_ltfn c6)
      have g9 : zs_in (x0).toInt 0 5 := (zs_lel 0 5 r8 g5 h_x4 (by decide))
      have g10 : zs_in (x4).toInt 0 5 := (zs_ler 0 5 r8 g5 h_x4 (by decide))
      refine zs_gd (zs_b01 zlI_1 (by decide)) ?_
      exact zs_some ⟨(zs_w zlI_1 (by decide)), Or.inr ⟨g9, g10⟩⟩
-- fX9_isPerson
theorem zc_6 {σ0 : sn_S} {σ : sn_S} (h_σ : zs_M σ0 σ) {x1 : Int64} (h_x1 : zs_in x1.toInt (-2147483648) 2147483647) : zs_ok (fX9_isPerson σ x1) (fun r => (zs_in (r).toInt 0 1) ∧ ((r).toInt = 0 ∨ (zs_in (x1).toInt 0 5))) := by
  unfold fX9_isPerson
  refine zs_gd (zs_gin zlI_5 (by decide)) ?_
  refine zs_bd_ (zc_5 h_x1 zlL_0 (zs_64 (zs_subI (-1) 5 (zs_rdk (q := 1) (k := (5 : Int32).toNatClampNeg) (z := (0, 6)) h_σ.1 rfl) zlI_1 (by decide)))) (fun t_2 pt_2 => ?_)
  refine zs_gd (zs_b01 pt_2.1 (by decide)) ?_
  rcases pt_2.2 with z0 | z0
  · skip
    have g1 : zs_in (t_2).toInt 0 0 := (zs_pt z0)
    exact zs_some ⟨(zs_w g1 (by decide)), Or.inl (zs_ptr g1)⟩
  · skip
    have q2 := z0
    have g3 : zs_in (x1).toInt 0 5 := q2.1
    have g4 : zs_in (((sn_I σ 1 (5 : Int32).toNatClampNeg) - (1 : Int32)).toInt64).toInt 0 5 := q2.2
    have g5 : zs_in (((sn_I σ 1 (5 : Int32).toNatClampNeg) - (1 : Int32))).toInt 0 5 := (zs_64r g4)
    have g6 : zs_in ((sn_I σ 1 (5 : Int32).toNatClampNeg)).toInt 1 6 := (zs_sublI 1 6 (zs_rdk (q := 1) (k := (5 : Int32).toNatClampNeg) (z := (0, 6)) h_σ.1 rfl) zlI_1 g5 (by decide))
    exact zs_some ⟨pt_2.1, Or.inr g3⟩
-- fX9_in
theorem zc_7 {x0 : Int64} (h_x0 : zs_in x0.toInt (-2147483648) 2147483647) {x2 : Int64} (h_x2 : zs_in x2.toInt 0 0) {x4 : Int64} (h_x4 : zs_in x4.toInt 1 1) : zs_ok (fX9_in x0 x2 x4) (fun r => (zs_in (r).toInt 0 1) ∧ ((r).toInt = 0 ∨ (zs_in (x0).toInt 0 1))) := by
  unfold fX9_in
  refine zs_ite (fun c1 => ?_) (fun c1 => ?_)
  · skip
    have r2 := (zs_lg_lt c1)
    have g3 : zs_in (x0).toInt (-2147483648) (-1) := (zs_ltl (-2147483648) (-1) r2 h_x0 h_x2 (by decide))
    refine zs_gd (zs_b01 zlI_0 (by decide)) ?_
    exact zs_some ⟨(zs_w zlI_0 (by decide)), Or.inl (zs_ptr zlI_0)⟩
  · skip
    have r4 := (zs_lg_ltn c1)
    have g5 : zs_in (x0).toInt 0 2147483647 := (zs_ler 0 2147483647 r4 h_x2 h_x0 (by decide))
    refine zs_ite (fun c6 => ?_) (fun c6 => ?_)
    · skip
      have r7 := (zs_lg_ltf c6)
      have g8 : zs_in (x0).toInt 2 2147483647 := (zs_ltr 2 2147483647 r7 h_x4 g5 (by decide))
      refine zs_gd (zs_b01 zlI_0 (by decide)) ?_
      exact zs_some ⟨(zs_w zlI_0 (by decide)), Or.inl (zs_ptr zlI_0)⟩
    · skip
      have r9 := (zs_lg_ltfn c6)
      have g10 : zs_in (x0).toInt 0 1 := (zs_lel 0 1 r9 g5 h_x4 (by decide))
      refine zs_gd (zs_b01 zlI_1 (by decide)) ?_
      exact zs_some ⟨(zs_w zlI_1 (by decide)), Or.inr g10⟩
-- fX9_nose
theorem zc_11 {σ0 : sn_S} {σ : sn_S} (h_σ : zs_M σ0 σ) {x1 : Int32} : zs_ok (fX9_isPolicy σ x1) (fun r => (zs_in (r).toInt 0 1) ∧ ((r).toInt = 0 ∨ (zs_in (x1).toInt 0 5))) := by
  unfold fX9_isPolicy
  refine zs_gd (zs_gin zlI_8 (by decide)) ?_
  refine zs_bd_ (zc_5 (zs_64 (zs_topI _)) zlL_0 (zs_64 (zs_subI (-1) 5 (zs_rdk (q := 1) (k := (8 : Int32).toNatClampNeg) (z := (0, 6)) h_σ.1 rfl) zlI_1 (by decide)))) (fun t_2 pt_2 => ?_)
  refine zs_gd (zs_b01 pt_2.1 (by decide)) ?_
  rcases pt_2.2 with z0 | z0
  · skip
    have g1 : zs_in (t_2).toInt 0 0 := (zs_pt z0)
    exact zs_some ⟨(zs_w g1 (by decide)), Or.inl (zs_ptr g1)⟩
  · skip
    have q2 := z0
    have g3 : zs_in (x1.toInt64).toInt 0 5 := q2.1
    have g4 : zs_in (x1).toInt 0 5 := (zs_64r g3)
    have g5 : zs_in (((sn_I σ 1 (8 : Int32).toNatClampNeg) - (1 : Int32)).toInt64).toInt 0 5 := q2.2
    have g6 : zs_in (((sn_I σ 1 (8 : Int32).toNatClampNeg) - (1 : Int32))).toInt 0 5 := (zs_64r g5)
    have g7 : zs_in ((sn_I σ 1 (8 : Int32).toNatClampNeg)).toInt 1 6 := (zs_sublI 1 6 (zs_rdk (q := 1) (k := (8 : Int32).toNatClampNeg) (z := (0, 6)) h_σ.1 rfl) zlI_1 g6 (by decide))
    exact zs_some ⟨pt_2.1, Or.inr g4⟩
-- fX9_in
theorem zc_15 {σ0 : sn_S} {σ : sn_S} (h_σ : zs_C σ0 σ) {x1 : Int32} (h_x1 : zs_in x1.toInt 0 5) {x2 : Int32} {x3 : Int32} (h_x3 : zs_in x3.toInt 0 7) {c : Int} (hc : x3.toInt = c + 0) : zs_ok (BX2_neighbours_69 σ 1 x1 x2 x3) (fun r => zs_sum (fun v => ((True ∧ zs_in (v.2).toInt 1 8)) ∧ v.2.toInt = c + 1) (fun v => False) r) := by
  unfold BX2_neighbours_69
  refine zs_lt (Q := fun z => zs_in z.toInt 1 8 ∧ z.toInt = c + 1) ⟨(zs_addI 1 8 h_x3 zlI_1 (by decide)), (zs_syI 1 hc h_x3 zlI_1 (by decide) (by decide))⟩ (fun y_1 hy_1 => ?_)
  exact zs_some (zs_inl ⟨⟨trivial, hy_1.1⟩, hy_1.2⟩)
-- BX2_neighbours_42
theorem zc_16 {σ0 : sn_S} {σ : sn_S} (h_σ : zs_C σ0 σ) {x1 : Int32} (h_x1 : zs_in x1.toInt 0 5) {x2 : Int32} {x3 : Int32} (h_x3 : zs_in x3.toInt 0 7) {c : Int} (hc : x3.toInt = c + 0) : zs_ok (BX2_neighbours_42 σ 1 x1 x2 x3) (fun r => zs_sum (fun v => ((True ∧ zs_in (v.2).toInt 1 8)) ∧ v.2.toInt = c + 1) (fun v => False) r) := by
  unfold BX2_neighbours_42
  refine zs_gd (zs_gin (zs_addI 1 15 (zs_mulI 0 14 zlI_2 h_x3 (by decide)) zlI_1 (by decide)) (by decide)) ?_
  refine zs_ite (fun c1 => ?_) (fun c1 => ?_)
  · skip
    have r2 := (zs_I_eq c1)
    have g3 : zs_in ((sn_I σ (1 + 4) (((2 : Int32) * x3) + (1 : Int32)).toNatClampNeg)).toInt 0 5 := (zs_eql 0 5 r2 (zs_topI _) h_x1 (by decide))
    refine zs_gd (zs_gin (zs_mulI 0 14 zlI_2 h_x3 (by decide)) (by decide)) ?_
    refine zs_lt (Q := fun z => True) trivial (fun y_4 hy_4 => ?_)
    obtain ⟨ret, er, hr⟩ := zc_15 h_σ h_x1 h_x3 hc
    refine ⟨ret, er, ?_⟩
    exact (zs_sumw hr (fun v w => ⟨w.1, w.2⟩) (fun v w => w.elim))
  · skip
    have r4 := (zs_I_eqn c1)
    obtain ⟨ret, er, hr⟩ := zc_15 h_σ h_x1 h_x3 hc
    refine ⟨ret, er, ?_⟩
    exact (zs_sumw hr (fun v w => ⟨w.1, w.2⟩) (fun v w => w.elim))
-- BX2_neighbours_4
theorem zc_17 {σ0 : sn_S} {σ : sn_S} (h_σ : zs_C σ0 σ) {x1 : Int32} (h_x1 : zs_in x1.toInt 0 5) {x2 : Int32} {x3 : Int32} (h_x3 : zs_in x3.toInt 0 8) {c : Int} (hc : x3.toInt = c + 0) : zs_ok (BX2_neighbours_4 σ 1 x1 x2 x3) (fun r => zs_sum (fun v => ((True ∧ zs_in (v.2).toInt 1 8)) ∧ v.2.toInt = c + 1) (fun v => True) r) := by
  unfold BX2_neighbours_4
  refine zs_gd (zs_gin zlI_7 (by decide)) ?_
  refine zs_ite (fun c1 => ?_) (fun c1 => ?_)
  · skip
    have r2 := (zs_I_le c1)
    exact zs_some (zs_inr (trivial))
  · skip
    have r3 := (zs_I_len c1)
    have g4 : zs_in (x3).toInt 0 7 := (zs_ltl 0 7 r3 h_x3 (zs_rdk (q := 2) (k := (7 : Int32).toNatClampNeg) (z := (0, 8)) h_σ.1 rfl) (by decide))
    have g5 : zs_in ((sn_I σ (1 + 1) (7 : Int32).toNatClampNeg)).toInt 1 8 := (zs_ltr 1 8 r3 h_x3 (zs_rdk (q := 2) (k := (7 : Int32).toNatClampNeg) (z := (0, 8)) h_σ.1 rfl) (by decide))
    refine zs_gd (zs_gin (zs_mulI 0 14 zlI_2 g4 (by decide)) (by decide)) ?_
    refine zs_ite (fun c6 => ?_) (fun c6 => ?_)
    · skip
      have r7 := (zs_I_eq c6)
      have g8 : zs_in ((sn_I σ (1 + 4) ((2 : Int32) * x3).toNatClampNeg)).toInt 0 5 := (zs_eql 0 5 r7 (zs_topI _) h_x1 (by decide))
      refine zs_gd (zs_gin (zs_addI 1 15 (zs_mulI 0 14 zlI_2 g4 (by decide)) zlI_1 (by decide)) (by decide)) ?_
      refine zs_lt (Q := fun z => True) trivial (fun y_6 hy_6 => ?_)
      obtain ⟨ret, er, hr⟩ := zc_16 h_σ h_x1 g4 hc
      refine ⟨ret, er, ?_⟩
      exact (zs_sumw hr (fun v w => ⟨w.1, w.2⟩) (fun v w => w.elim))
    · skip
      have r9 := (zs_I_eqn c6)
      obtain ⟨ret, er, hr⟩ := zc_16 h_σ h_x1 g4 hc
      refine ⟨ret, er, ?_⟩
      exact (zs_sumw hr (fun v w => ⟨w.1, w.2⟩) (fun v w => w.elim))
theorem zd_1 {σ0 : sn_S} {σ : sn_S} (h_σ : zs_C σ0 σ) {x1 : Int32} (h_x1 : zs_in x1.toInt 0 5) {s0 : (Int32 × Int32)} (h0 : (True ∧ zs_in (s0.2).toInt 0 8)) : zs_ok (sn_it (LX2_neighbours_4 σ 1 x1) 5000 s0) (fun t => True) := by
  refine zs_it (I := fun s => (True ∧ zs_in (s.2).toInt 0 8)) (m := fun s => 8 - s.2.toInt) (fun s hs => ?_) (fun s hs => ?_) (by exact h0)
  · have h1 := hs.2; unfold zs_in at h1
    omega
  · obtain ⟨b, eb, hb⟩ := zc_17 h_σ h_x1 hs.2 (c := s.2.toInt) (Int.add_zero _).symm
    exact ⟨b, eb, zs_sumw hb (fun v w => ⟨⟨w.1.1, (zs_w w.1.2 (by decide))⟩, by have := w.2; omega⟩) (fun v w => w)⟩
-- BX2_neighbours_75
theorem zc_18 {σ0 : sn_S} {σ : sn_S} (h_σ : zs_C σ0 σ) {x2 : Int32} : zs_ok (BX2_neighbours_75 σ 1 x2) (fun r => True) := by
  unfold BX2_neighbours_75
  exact zs_some trivial
-- fX2_neighbours
theorem zc_19 {σ0 : sn_S} {σ : sn_S} (h_σ : zs_C σ0 σ) {x1 : Int32} (h_x1 : zs_in x1.toInt 0 5) : zs_ok (fX2_neighbours σ 1 x1) (fun r => True) := by
  unfold fX2_neighbours
  refine zs_bd_ (zd_1 h_σ h_x1 (s0 := ((0 : Int32), (0 : Int32))) ⟨trivial, (zs_w zlI_0 (by decide))⟩) (fun t_1 pt_1 => ?_)
  obtain ⟨ret, er, hr⟩ := zc_18 h_σ
  refine ⟨ret, er, ?_⟩
  exact hr
-- fX8_beside
theorem zc_20 {σ0 : sn_S} {σ : sn_S} (h_σ : zs_C σ0 σ) {x1 : Int32} : zs_ok (fX8_beside σ x1) (fun r => (True) ∧ ((r).toInt = (-2) ∨ (zs_in (x1).toInt 0 5))) := by
  unfold fX8_beside
  refine zs_bd_ (zc_3 h_σ) (fun t_1 pt_1 => ?_)
  refine zs_ite (fun c1 => ?_) (fun c1 => ?_)
  · skip
    have r2 := (zs_I_eq c1)
    have g3 : zs_in (t_1).toInt 0 0 := (zs_eql 0 0 r2 pt_1.1 zlI_0 (by decide))
    exact zs_some ⟨trivial, Or.inl (zs_ptr zlI_m2)⟩
  · skip
    have r4 := (zs_I_eqn c1)
    have g5 : zs_in (t_1).toInt 1 1 := (zs_nel 1 1 r4 pt_1.1 zlI_0 (by decide))
    have q6 := (zs_or2 pt_1.2 g5 (by decide))
    have g7 : zs_in (x1).toInt 0 5 := q6
    refine zs_bd_ (zc_19 h_σ g7) (fun t_4 pt_4 => ?_)
    exact zs_some ⟨trivial, Or.inr g7⟩
-- fX9_minutes
theorem zc_21 {σ0 : sn_S} {σ : sn_S} (h_σ : zs_M σ0 σ) : zs_ok (fX9_minutes σ) (fun r => zs_in (r).toInt 0 30) := by
  unfold fX9_minutes
  refine zs_gd (zs_gin zlI_0 (by decide)) ?_
  exact zs_some (zs_rdk (q := 1) (k := (0 : Int32).toNatClampNeg) (z := (0, 30)) h_σ.1 rfl)
-- BX9_asItIs_42
theorem zc_22 {σ0 : sn_S} {σ : sn_S} (h_σ : zs_M σ0 σ) {x1 : Int32} (h_x1 : zs_in x1.toInt 0 30) {c : Int} (hc : x1.toInt = c + 0) : zs_ok (BX9_asItIs_42 σ x1) (fun r => zs_sum (fun v => ((zs_M σ0 v.1 ∧ zs_in (v.2).toInt 1 30)) ∧ v.2.toInt = c + 1) (fun v => zs_M σ0 v) r) := by
  unfold BX9_asItIs_42
  refine zs_ite (fun c1 => ?_) (fun c1 => ?_)
  · skip
    have r2 := (zs_I_le c1)
    have g3 : zs_in (x1).toInt 30 30 := (zs_ler 30 30 r2 zlI_30 h_x1 (by decide))
    exact zs_some (zs_inr (h_σ))
  · skip
    have r4 := (zs_I_len c1)
    have g5 : zs_in (x1).toInt 0 29 := (zs_ltl 0 29 r4 h_x1 zlI_30 (by decide))
    refine zs_gd (zs_gin zlI_1 (by decide)) ?_
    refine zs_gd (zs_gin g5 (by decide)) ?_
    refine zs_lt (Q := fun z => zs_M σ0 z) (zs_wrt h_σ (fun _ => rfl) (fun _ => rfl)) (fun σ_4 hσ_4 => ?_)
    refine zs_lt (Q := fun z => zs_in z.toInt 1 30 ∧ z.toInt = c + 1) ⟨(zs_addI 1 30 g5 zlI_1 (by decide)), (zs_syI 1 hc g5 zlI_1 (by decide) (by decide))⟩ (fun y_6 hy_6 => ?_)
    exact zs_some (zs_inl ⟨⟨hσ_4, hy_6.1⟩, hy_6.2⟩)
theorem zd_2 {σ0 : sn_S}  {s0 : (sn_S × Int32)} (h0 : (zs_M σ0 s0.1 ∧ zs_in (s0.2).toInt 0 30)) : zs_ok (sn_it (LX9_asItIs_42) 5000 s0) (fun t => zs_M σ0 t) := by
  refine zs_it (I := fun s => (zs_M σ0 s.1 ∧ zs_in (s.2).toInt 0 30)) (m := fun s => 30 - s.2.toInt) (fun s hs => ?_) (fun s hs => ?_) (by exact h0)
  · have h1 := hs.2; unfold zs_in at h1
    omega
  · obtain ⟨b, eb, hb⟩ := zc_22 hs.1 hs.2 (c := s.2.toInt) (Int.add_zero _).symm
    exact ⟨b, eb, zs_sumw hb (fun v w => ⟨⟨w.1.1, (zs_w w.1.2 (by decide))⟩, by have := w.2; omega⟩) (fun v w => w)⟩
-- BX9_asItIs_68
theorem zc_23 {σ0 : sn_S} {σ : sn_S} (h_σ : zs_M σ0 σ) {x1 : Int32} (h_x1 : zs_in x1.toInt 0 5) {c : Int} (hc : x1.toInt = c + 0) : zs_ok (BX9_asItIs_68 σ x1) (fun r => zs_sum (fun v => ((zs_M σ0 v.1 ∧ zs_in (v.2).toInt 1 5)) ∧ v.2.toInt = c + 1) (fun v => zs_M σ0 v) r) := by
  unfold BX9_asItIs_68
  refine zs_gd (zs_gin zlI_6 (by decide)) ?_
  refine zs_ite (fun c1 => ?_) (fun c1 => ?_)
  · skip
    have r2 := (zs_I_le c1)
    exact zs_some (zs_inr (h_σ))
  · skip
    have r3 := (zs_I_len c1)
    have g4 : zs_in (x1).toInt 0 4 := (zs_ltl 0 4 r3 h_x1 (zs_rdk (q := 1) (k := (6 : Int32).toNatClampNeg) (z := (0, 5)) h_σ.1 rfl) (by decide))
    have g5 : zs_in ((sn_I σ 1 (6 : Int32).toNatClampNeg)).toInt 1 5 := (zs_ltr 1 5 r3 h_x1 (zs_rdk (q := 1) (k := (6 : Int32).toNatClampNeg) (z := (0, 5)) h_σ.1 rfl) (by decide))
    refine zs_gd (zs_gin (zs_addI 24 32 (zs_addI 23 31 zlI_23 (zs_mulI 0 8 zlI_2 g4 (by decide)) (by decide)) zlI_1 (by decide)) (by decide)) ?_
    refine zs_lt (Q := fun z => zs_in z.toInt 0 29) (zs_rdb (q := 1) (lo := 0) (hi := 29) h_σ.1 (zs_cases g4 (fun z => zs_bd (zs_tM 1 (((23 : Int32) + ((2 : Int32) * z)) + (1 : Int32)).toNatClampNeg) 0 29) (by decide +kernel))) (fun y_4 hy_4 => ?_)
    refine zs_gd (zs_gin hy_4 (by decide)) ?_
    refine zs_gd (zs_gin (zs_addI 23 31 zlI_23 (zs_mulI 0 8 zlI_2 g4 (by decide)) (by decide)) (by decide)) ?_
    refine zs_gd (zs_gin hy_4 (by decide)) ?_
    refine zs_lt (Q := fun z => zs_M σ0 z) (zs_wrt h_σ (fun _ => rfl) (fun _ => rfl)) (fun σ_9 hσ_9 => ?_)
    refine zs_lt (Q := fun z => zs_M σ0 z) (zs_wrkt hσ_9 rfl rfl) (fun σ_11 hσ_11 => ?_)
    refine zs_lt (Q := fun z => zs_in z.toInt 1 5 ∧ z.toInt = c + 1) ⟨(zs_addI 1 5 g4 zlI_1 (by decide)), (zs_syI 1 hc g4 zlI_1 (by decide) (by decide))⟩ (fun y_13 hy_13 => ?_)
    exact zs_some (zs_inl ⟨⟨hσ_11, hy_13.1⟩, hy_13.2⟩)
theorem zd_3 {σ0 : sn_S}  {s0 : (sn_S × Int32)} (h0 : (zs_M σ0 s0.1 ∧ zs_in (s0.2).toInt 0 5)) : zs_ok (sn_it (LX9_asItIs_68) 5000 s0) (fun t => zs_M σ0 t) := by
  refine zs_it (I := fun s => (zs_M σ0 s.1 ∧ zs_in (s.2).toInt 0 5)) (m := fun s => 5 - s.2.toInt) (fun s hs => ?_) (fun s hs => ?_) (by exact h0)
  · have h1 := hs.2; unfold zs_in at h1
    omega
  · obtain ⟨b, eb, hb⟩ := zc_23 hs.1 hs.2 (c := s.2.toInt) (Int.add_zero _).symm
    exact ⟨b, eb, zs_sumw hb (fun v w => ⟨⟨w.1.1, (zs_w w.1.2 (by decide))⟩, by have := w.2; omega⟩) (fun v w => w)⟩
-- BX9_asItIs_133
theorem zc_24 {σ0 : sn_S} {σ : sn_S} (h_σ : zs_M σ0 σ) {x1 : Int32} (h_x1 : zs_in x1.toInt 0 6) {c : Int} (hc : x1.toInt = c + 0) : zs_ok (BX9_asItIs_133 σ x1) (fun r => zs_sum (fun v => ((zs_M σ0 v.1 ∧ zs_in (v.2).toInt 1 6)) ∧ v.2.toInt = c + 1) (fun v => zs_M σ0 v) r) := by
  unfold BX9_asItIs_133
  refine zs_ite (fun c1 => ?_) (fun c1 => ?_)
  · skip
    have r2 := (zs_I_le c1)
    have g3 : zs_in (x1).toInt 6 6 := (zs_ler 6 6 r2 zlI_6 h_x1 (by decide))
    exact zs_some (zs_inr (h_σ))
  · skip
    have r4 := (zs_I_len c1)
    have g5 : zs_in (x1).toInt 0 5 := (zs_ltl 0 5 r4 h_x1 zlI_6 (by decide))
    refine zs_gd (zs_gin g5 (by decide)) ?_
    refine zs_lt (Q := fun z => zs_M σ0 z) (zs_wrt h_σ (fun _ => rfl) (fun _ => rfl)) (fun σ_3 hσ_3 => ?_)
    refine zs_gd (zs_gin g5 (by decide)) ?_
    refine zs_lt (Q := fun z => zs_M σ0 z) (zs_wrt hσ_3 (fun _ => rfl) (fun _ => rfl)) (fun σ_6 hσ_6 => ?_)
    refine zs_lt (Q := fun z => zs_in z.toInt 1 6 ∧ z.toInt = c + 1) ⟨(zs_addI 1 6 g5 zlI_1 (by decide)), (zs_syI 1 hc g5 zlI_1 (by decide) (by decide))⟩ (fun y_8 hy_8 => ?_)
    exact zs_some (zs_inl ⟨⟨hσ_6, hy_8.1⟩, hy_8.2⟩)
theorem zd_4 {σ0 : sn_S}  {s0 : (sn_S × Int32)} (h0 : (zs_M σ0 s0.1 ∧ zs_in (s0.2).toInt 0 6)) : zs_ok (sn_it (LX9_asItIs_133) 5000 s0) (fun t => zs_M σ0 t) := by
  refine zs_it (I := fun s => (zs_M σ0 s.1 ∧ zs_in (s.2).toInt 0 6)) (m := fun s => 6 - s.2.toInt) (fun s hs => ?_) (fun s hs => ?_) (by exact h0)
  · have h1 := hs.2; unfold zs_in at h1
    omega
  · obtain ⟨b, eb, hb⟩ := zc_24 hs.1 hs.2 (c := s.2.toInt) (Int.add_zero _).symm
    exact ⟨b, eb, zs_sumw hb (fun v w => ⟨⟨w.1.1, (zs_w w.1.2 (by decide))⟩, by have := w.2; omega⟩) (fun v w => w)⟩
-- BX9_asItIs_232
theorem zc_25 {σ0 : sn_S} {σ : sn_S} (h_σ : zs_M σ0 σ) {x1 : Int32} (h_x1 : zs_in x1.toInt 0 39) {c : Int} (hc : x1.toInt = c + 0) : zs_ok (BX9_asItIs_232 σ x1) (fun r => zs_sum (fun v => ((zs_M σ0 v.1 ∧ zs_in (v.2).toInt 1 40)) ∧ v.2.toInt = c + 1) (fun v => False) r) := by
  unfold BX9_asItIs_232
  refine zs_lt (Q := fun z => zs_in z.toInt 1 40 ∧ z.toInt = c + 1) ⟨(zs_addI 1 40 h_x1 zlI_1 (by decide)), (zs_syI 1 hc h_x1 zlI_1 (by decide) (by decide))⟩ (fun y_1 hy_1 => ?_)
  exact zs_some (zs_inl ⟨⟨h_σ, hy_1.1⟩, hy_1.2⟩)
-- BX9_asItIs_161
theorem zc_26 {σ0 : sn_S} {σ : sn_S} (h_σ : zs_M σ0 σ) {x1 : Int32} (h_x1 : zs_in x1.toInt 0 40) {c : Int} (hc : x1.toInt = c + 0) : zs_ok (BX9_asItIs_161 σ x1) (fun r => zs_sum (fun v => ((zs_M σ0 v.1 ∧ zs_in (v.2).toInt 1 40)) ∧ v.2.toInt = c + 1) (fun v => zs_M σ0 v) r) := by
  unfold BX9_asItIs_161
  refine zs_gd (zs_gin zlI_9 (by decide)) ?_
  refine zs_ite (fun c1 => ?_) (fun c1 => ?_)
  · skip
    have r2 := (zs_I_le c1)
    exact zs_some (zs_inr (h_σ))
  · skip
    have r3 := (zs_I_len c1)
    have g4 : zs_in (x1).toInt 0 39 := (zs_ltl 0 39 r3 h_x1 (zs_rdk (q := 1) (k := (9 : Int32).toNatClampNeg) (z := (0, 40)) h_σ.1 rfl) (by decide))
    have g5 : zs_in ((sn_I σ 1 (9 : Int32).toNatClampNeg)).toInt 1 40 := (zs_ltr 1 40 r3 h_x1 (zs_rdk (q := 1) (k := (9 : Int32).toNatClampNeg) (z := (0, 40)) h_σ.1 rfl) (by decide))
    refine zs_gd (zs_gin (zs_addI 79 118 zlI_79 g4 (by decide)) (by decide)) ?_
    refine zs_lt (Q := fun z => zs_in z.toInt 0 1199) (zs_rdb (q := 1) (lo := 0) (hi := 1199) h_σ.1 (zs_cases g4 (fun z => zs_bd (zs_tM 1 ((79 : Int32) + z).toNatClampNeg) 0 1199) (by decide +kernel))) (fun y_4 hy_4 => ?_)
    refine zs_lt (Q := fun z => zs_in z.toInt 0 5) (zs_divI 0 5 hy_4 zlI_200 (by decide)) (fun y_6 hy_6 => ?_)
    refine zs_lt (Q := fun z => zs_in z.toInt 0 99) (zs_mod 99 (zs_divI 0 599 hy_4 zlI_2 (by decide)) zlI_100 (by decide)) (fun y_8 hy_8 => ?_)
    refine zs_ite (fun c6 => ?_) (fun c6 => ?_)
    · skip
      have r7 := (zs_I_eq c6)
      have g8 : zs_in ((y_4 - ((y_4 / (2 : Int32)) * (2 : Int32)))).toInt 1 1 := (zs_eql 1 1 r7 (zs_mod 1 hy_4 zlI_2 (by decide)) zlI_1 (by decide))
      have g9 : zs_in (y_4).toInt 1 1199 := (zs_sublI 1 1199 hy_4 (zs_mulI 0 1198 (zs_divI 0 599 hy_4 zlI_2 (by decide)) zlI_2 (by decide)) g8 (by decide))
      refine zs_gd (zs_gin hy_6 (by decide)) ?_
      refine zs_gd (zs_gin hy_6 (by decide)) ?_
      refine zs_lt (Q := fun z => zs_M σ0 z) (zs_wrt h_σ (fun _ => rfl) (fun _ => rfl)) (fun σ_17 hσ_17 => ?_)
      obtain ⟨ret, er, hr⟩ := zc_25 hσ_17 g4 hc
      refine ⟨ret, er, ?_⟩
      exact (zs_sumw hr (fun v w => ⟨w.1, w.2⟩) (fun v w => w.elim))
    · skip
      have r10 := (zs_I_eqn c6)
      have g11 : zs_in ((y_4 - ((y_4 / (2 : Int32)) * (2 : Int32)))).toInt 0 0 := (zs_neh 0 0 r10 (zs_mod 1 hy_4 zlI_2 (by decide)) zlI_1 (by decide))
      have g12 : zs_in (y_4).toInt 0 1198 := (zs_sublI 0 1198 hy_4 (zs_mulI 0 1198 (zs_divI 0 599 hy_4 zlI_2 (by decide)) zlI_2 (by decide)) g11 (by decide))
      refine zs_gd (zs_gin hy_6 (by decide)) ?_
      refine zs_gd (zs_gin hy_6 (by decide)) ?_
      refine zs_lt (Q := fun z => zs_M σ0 z) (zs_wrt h_σ (fun _ => rfl) (fun _ => rfl)) (fun σ_13 hσ_13 => ?_)
      obtain ⟨ret, er, hr⟩ := zc_25 hσ_13 g4 hc
      refine ⟨ret, er, ?_⟩
      exact (zs_sumw hr (fun v w => ⟨w.1, w.2⟩) (fun v w => w.elim))
theorem zd_5 {σ0 : sn_S}  {s0 : (sn_S × Int32)} (h0 : (zs_M σ0 s0.1 ∧ zs_in (s0.2).toInt 0 40)) : zs_ok (sn_it (LX9_asItIs_161) 5000 s0) (fun t => zs_M σ0 t) := by
  refine zs_it (I := fun s => (zs_M σ0 s.1 ∧ zs_in (s.2).toInt 0 40)) (m := fun s => 40 - s.2.toInt) (fun s hs => ?_) (fun s hs => ?_) (by exact h0)
  · have h1 := hs.2; unfold zs_in at h1
    omega
  · obtain ⟨b, eb, hb⟩ := zc_26 hs.1 hs.2 (c := s.2.toInt) (Int.add_zero _).symm
    exact ⟨b, eb, zs_sumw hb (fun v w => ⟨⟨w.1.1, (zs_w w.1.2 (by decide))⟩, by have := w.2; omega⟩) (fun v w => w)⟩
-- BX9_asItIs_238
theorem zc_27 {σ0 : sn_S} {σ : sn_S} (h_σ : zs_M σ0 σ) : zs_ok (BX9_asItIs_238 σ) (fun r => zs_M σ0 r) := by
  unfold BX9_asItIs_238
  exact zs_some h_σ
-- BX9_asItIs_159
theorem zc_28 {σ0 : sn_S} {σ : sn_S} (h_σ : zs_M σ0 σ) : zs_ok (BX9_asItIs_159 σ) (fun r => zs_M σ0 r) := by
  unfold BX9_asItIs_159
  refine zs_bd_ (zd_5  (s0 := (σ, (0 : Int32))) ⟨h_σ, (zs_w zlI_0 (by decide))⟩) (fun t_1 pt_1 => ?_)
  obtain ⟨ret, er, hr⟩ := zc_27 pt_1
  refine ⟨ret, er, ?_⟩
  exact hr
-- BX9_asItIs_131
theorem zc_29 {σ0 : sn_S} {σ : sn_S} (h_σ : zs_M σ0 σ) : zs_ok (BX9_asItIs_131 σ) (fun r => zs_M σ0 r) := by
  unfold BX9_asItIs_131
  refine zs_bd_ (zd_4  (s0 := (σ, (0 : Int32))) ⟨h_σ, (zs_w zlI_0 (by decide))⟩) (fun t_1 pt_1 => ?_)
  obtain ⟨ret, er, hr⟩ := zc_28 pt_1
  refine ⟨ret, er, ?_⟩
  exact hr
-- BX9_asItIs_66
theorem zc_30 {σ0 : sn_S} {σ : sn_S} (h_σ : zs_M σ0 σ) : zs_ok (BX9_asItIs_66 σ) (fun r => zs_M σ0 r) := by
  unfold BX9_asItIs_66
  refine zs_bd_ (zd_3  (s0 := (σ, (0 : Int32))) ⟨h_σ, (zs_w zlI_0 (by decide))⟩) (fun t_1 pt_1 => ?_)
  obtain ⟨ret, er, hr⟩ := zc_29 pt_1
  refine ⟨ret, er, ?_⟩
  exact hr
-- fX9_asItIs
theorem zc_31 {σ0 : sn_S} {σ : sn_S} (h_σ : zs_M σ0 σ) : zs_ok (fX9_asItIs σ) (fun r => zs_M σ0 r) := by
  unfold fX9_asItIs
  refine zs_lt (Q := fun z => zs_M σ0 z) (zs_wrkt h_σ rfl rfl) (fun σ_1 hσ_1 => ?_)
  refine zs_lt (Q := fun z => zs_M σ0 z) (zs_wrkt hσ_1 rfl rfl) (fun σ_3 hσ_3 => ?_)
  refine zs_gd (zs_gin zlI_2 (by decide)) ?_
  refine zs_lt (Q := fun z => zs_M σ0 z) (zs_wrkt hσ_3 rfl rfl) (fun σ_6 hσ_6 => ?_)
  refine zs_gd (zs_gin zlI_3 (by decide)) ?_
  refine zs_lt (Q := fun z => zs_M σ0 z) (zs_wrk (z := (0, 1000)) hσ_6 rfl (zs_rdk (q := 1) (k := (3 : Int32).toNatClampNeg) (z := (0, 999)) hσ_6.1 rfl) (by decide) rfl) (fun σ_9 hσ_9 => ?_)
  refine zs_bd_ (zc_21 hσ_9) (fun t_11 pt_11 => ?_)
  refine zs_lt (Q := fun z => zs_M σ0 z) (zs_wrk (z := ((-1), 29)) hσ_9 rfl (zs_subI (-1) 29 pt_11 zlI_1 (by decide)) (by decide) rfl) (fun σ_13 hσ_13 => ?_)
  refine zs_bd_ (zd_2  (s0 := (σ_13, (0 : Int32))) ⟨hσ_13, (zs_w zlI_0 (by decide))⟩) (fun t_15 pt_15 => ?_)
  obtain ⟨ret, er, hr⟩ := zc_30 pt_15
  refine ⟨ret, er, ?_⟩
  exact hr
-- BX9_netsTo_91
theorem zc_32 {σ0 : sn_S} {σ : sn_S} (h_σ : zs_M σ0 σ) {x1 : Int32} (h_x1 : zs_in x1.toInt 0 5) {x2 : Int32} (h_x2 : zs_in x2.toInt 1 32) {x3 : Int32} {x4 : Int32} (h_x4 : zs_in x4.toInt 0 7) {c : Int} (hc : x4.toInt = c + 0) : zs_ok (BX9_netsTo_91 σ x1 x2 x3 x4) (fun r => zs_sum (fun v => ((True ∧ zs_in (v.2).toInt 1 8)) ∧ v.2.toInt = c + 1) (fun v => False) r) := by
  unfold BX9_netsTo_91
  refine zs_lt (Q := fun z => zs_in z.toInt 1 8 ∧ z.toInt = c + 1) ⟨(zs_addI 1 8 h_x4 zlI_1 (by decide)), (zs_syI 1 hc h_x4 zlI_1 (by decide) (by decide))⟩ (fun y_1 hy_1 => ?_)
  exact zs_some (zs_inl ⟨⟨trivial, hy_1.1⟩, hy_1.2⟩)
-- fX9_bit
theorem zc_33 {x0 : Int32} (h_x0 : zs_in x0.toInt 1 32) {x1 : Int32} (h_x1 : zs_in x1.toInt 0 5) : zs_ok (fX9_bit x0 x1) (fun r => zs_in (r).toInt 0 1) := by
  unfold fX9_bit
  exact zs_some (zs_and zlI_1 (by decide))
-- BX9_netsTo_88
theorem zc_34 {σ0 : sn_S} {σ : sn_S} (h_σ : zs_M σ0 σ) {x1 : Int32} (h_x1 : zs_in x1.toInt 0 5) {x2 : Int32} (h_x2 : zs_in x2.toInt 1 32) {x3 : Int32} {x4 : Int32} (h_x4 : zs_in x4.toInt 0 7) {c : Int} (hc : x4.toInt = c + 0) : zs_ok (BX9_netsTo_88 σ x1 x2 x3 x4) (fun r => zs_sum (fun v => ((True ∧ zs_in (v.2).toInt 1 8)) ∧ v.2.toInt = c + 1) (fun v => False) r) := by
  unfold BX9_netsTo_88
  refine zs_lt (Q := fun z => True) trivial (fun y_1 hy_1 => ?_)
  obtain ⟨ret, er, hr⟩ := zc_32 h_σ h_x1 h_x2 h_x4 hc
  refine ⟨ret, er, ?_⟩
  exact (zs_sumw hr (fun v w => ⟨w.1, w.2⟩) (fun v w => w.elim))
-- BX9_netsTo_72
theorem zc_35 {σ0 : sn_S} {σ : sn_S} (h_σ : zs_M σ0 σ) {x1 : Int32} (h_x1 : zs_in x1.toInt 0 5) {x2 : Int32} (h_x2 : zs_in x2.toInt 1 32) {x3 : Int32} {x4 : Int32} (h_x4 : zs_in x4.toInt 0 7) {x5 : Int32} (h_x5 : zs_in x5.toInt 0 5) {x6 : Int32} (h_x6 : zs_in x6.toInt 0 5) {c : Int} (hc : x4.toInt = c + 0) : zs_ok (BX9_netsTo_72 σ x1 x2 x3 x4 x5 x6) (fun r => zs_sum (fun v => ((True ∧ zs_in (v.2).toInt 1 8)) ∧ v.2.toInt = c + 1) (fun v => False) r) := by
  unfold BX9_netsTo_72
  refine zs_ite (fun c1 => ?_) (fun c1 => ?_)
  · skip
    have r2 := (zs_I_eq c1)
    refine zs_bd_ (zc_33 h_x2 h_x5) (fun t_2 pt_2 => ?_)
    refine zs_ite (fun c3 => ?_) (fun c3 => ?_)
    · skip
      have r4 := (zs_I_eq c3)
      have g5 : zs_in (t_2).toInt 1 1 := (zs_eql 1 1 r4 pt_2 zlI_1 (by decide))
      obtain ⟨ret, er, hr⟩ := zc_34 h_σ h_x1 h_x2 h_x4 hc
      refine ⟨ret, er, ?_⟩
      exact (zs_sumw hr (fun v w => ⟨w.1, w.2⟩) (fun v w => w.elim))
    · skip
      have r6 := (zs_I_eqn c3)
      have g7 : zs_in (t_2).toInt 0 0 := (zs_neh 0 0 r6 pt_2 zlI_1 (by decide))
      obtain ⟨ret, er, hr⟩ := zc_32 h_σ h_x1 h_x2 h_x4 hc
      refine ⟨ret, er, ?_⟩
      exact (zs_sumw hr (fun v w => ⟨w.1, w.2⟩) (fun v w => w.elim))
  · skip
    have r8 := (zs_I_eqn c1)
    obtain ⟨ret, er, hr⟩ := zc_32 h_σ h_x1 h_x2 h_x4 hc
    refine ⟨ret, er, ?_⟩
    exact (zs_sumw hr (fun v w => ⟨w.1, w.2⟩) (fun v w => w.elim))
-- BX9_netsTo_5
theorem zc_36 {σ0 : sn_S} {σ : sn_S} (h_σ : zs_M σ0 σ) {x1 : Int32} (h_x1 : zs_in x1.toInt 0 5) {x2 : Int32} (h_x2 : zs_in x2.toInt 1 32) {x3 : Int32} {x4 : Int32} (h_x4 : zs_in x4.toInt 0 8) {c : Int} (hc : x4.toInt = c + 0) : zs_ok (BX9_netsTo_5 σ x1 x2 x3 x4) (fun r => zs_sum (fun v => ((True ∧ zs_in (v.2).toInt 1 8)) ∧ v.2.toInt = c + 1) (fun v => True) r) := by
  unfold BX9_netsTo_5
  refine zs_gd (zs_gin zlI_7 (by decide)) ?_
  refine zs_ite (fun c1 => ?_) (fun c1 => ?_)
  · skip
    have r2 := (zs_I_le c1)
    exact zs_some (zs_inr (trivial))
  · skip
    have r3 := (zs_I_len c1)
    have g4 : zs_in (x4).toInt 0 7 := (zs_ltl 0 7 r3 h_x4 (zs_rdk (q := 1) (k := (7 : Int32).toNatClampNeg) (z := (0, 8)) h_σ.1 rfl) (by decide))
    have g5 : zs_in ((sn_I σ 1 (7 : Int32).toNatClampNeg)).toInt 1 8 := (zs_ltr 1 8 r3 h_x4 (zs_rdk (q := 1) (k := (7 : Int32).toNatClampNeg) (z := (0, 8)) h_σ.1 rfl) (by decide))
    refine zs_gd (zs_gin (zs_addI 33 47 zlI_33 (zs_mulI 0 14 zlI_2 g4 (by decide)) (by decide)) (by decide)) ?_
    refine zs_lt (Q := fun z => zs_in z.toInt 0 5) (zs_rdb (q := 1) (lo := 0) (hi := 5) h_σ.1 (zs_cases g4 (fun z => zs_bd (zs_tM 1 ((33 : Int32) + ((2 : Int32) * z)).toNatClampNeg) 0 5) (by decide +kernel))) (fun y_4 hy_4 => ?_)
    refine zs_gd (zs_gin (zs_addI 34 48 (zs_addI 33 47 zlI_33 (zs_mulI 0 14 zlI_2 g4 (by decide)) (by decide)) zlI_1 (by decide)) (by decide)) ?_
    refine zs_lt (Q := fun z => zs_in z.toInt 0 5) (zs_rdb (q := 1) (lo := 0) (hi := 5) h_σ.1 (zs_cases g4 (fun z => zs_bd (zs_tM 1 (((33 : Int32) + ((2 : Int32) * z)) + (1 : Int32)).toNatClampNeg) 0 5) (by decide +kernel))) (fun y_7 hy_7 => ?_)
    refine zs_ite (fun c6 => ?_) (fun c6 => ?_)
    · skip
      have r7 := (zs_I_eq c6)
      have g8 : zs_in ((sn_I σ 0 19)).toInt 0 7 := (zs_eqr 0 7 r7 g4 (zs_topI _) (by decide))
      obtain ⟨ret, er, hr⟩ := zc_32 h_σ h_x1 h_x2 g4 hc
      refine ⟨ret, er, ?_⟩
      exact (zs_sumw hr (fun v w => ⟨w.1, w.2⟩) (fun v w => w.elim))
    · skip
      have r9 := (zs_I_eqn c6)
      refine zs_ite (fun c10 => ?_) (fun c10 => ?_)
      · skip
        have r11 := (zs_I_eq c10)
        refine zs_bd_ (zc_33 h_x2 hy_7) (fun t_11 pt_11 => ?_)
        refine zs_ite (fun c12 => ?_) (fun c12 => ?_)
        · skip
          have r13 := (zs_I_eq c12)
          have g14 : zs_in (t_11).toInt 1 1 := (zs_eql 1 1 r13 pt_11 zlI_1 (by decide))
          obtain ⟨ret, er, hr⟩ := zc_34 h_σ h_x1 h_x2 g4 hc
          refine ⟨ret, er, ?_⟩
          exact (zs_sumw hr (fun v w => ⟨w.1, w.2⟩) (fun v w => w.elim))
        · skip
          have r15 := (zs_I_eqn c12)
          have g16 : zs_in (t_11).toInt 0 0 := (zs_neh 0 0 r15 pt_11 zlI_1 (by decide))
          obtain ⟨ret, er, hr⟩ := zc_35 h_σ h_x1 h_x2 g4 hy_4 hy_7 hc
          refine ⟨ret, er, ?_⟩
          exact (zs_sumw hr (fun v w => ⟨w.1, w.2⟩) (fun v w => w.elim))
      · skip
        have r17 := (zs_I_eqn c10)
        obtain ⟨ret, er, hr⟩ := zc_35 h_σ h_x1 h_x2 g4 hy_4 hy_7 hc
        refine ⟨ret, er, ?_⟩
        exact (zs_sumw hr (fun v w => ⟨w.1, w.2⟩) (fun v w => w.elim))
theorem zd_6 {σ0 : sn_S} {σ : sn_S} (h_σ : zs_M σ0 σ) {x1 : Int32} (h_x1 : zs_in x1.toInt 0 5) {x2 : Int32} (h_x2 : zs_in x2.toInt 1 32) {s0 : (Int32 × Int32)} (h0 : (True ∧ zs_in (s0.2).toInt 0 8)) : zs_ok (sn_it (LX9_netsTo_5 σ x1 x2) 5000 s0) (fun t => True) := by
  refine zs_it (I := fun s => (True ∧ zs_in (s.2).toInt 0 8)) (m := fun s => 8 - s.2.toInt) (fun s hs => ?_) (fun s hs => ?_) (by exact h0)
  · have h1 := hs.2; unfold zs_in at h1
    omega
  · obtain ⟨b, eb, hb⟩ := zc_36 h_σ h_x1 h_x2 hs.2 (c := s.2.toInt) (Int.add_zero _).symm
    exact ⟨b, eb, zs_sumw hb (fun v w => ⟨⟨w.1.1, (zs_w w.1.2 (by decide))⟩, by have := w.2; omega⟩) (fun v w => w)⟩
-- BX9_netsTo_97
theorem zc_37 {σ0 : sn_S} {σ : sn_S} (h_σ : zs_M σ0 σ) {x3 : Int32} : zs_ok (BX9_netsTo_97 σ x3) (fun r => True) := by
  unfold BX9_netsTo_97
  exact zs_some trivial
-- fX9_netsTo
theorem zc_38 {σ0 : sn_S} {σ : sn_S} (h_σ : zs_M σ0 σ) {x1 : Int32} (h_x1 : zs_in x1.toInt 0 5) {x2 : Int32} (h_x2 : zs_in x2.toInt 1 32) : zs_ok (fX9_netsTo σ x1 x2) (fun r => True) := by
  unfold fX9_netsTo
  refine zs_bd_ (zd_6 h_σ h_x1 h_x2 (s0 := ((0 : Int32), (0 : Int32))) ⟨trivial, (zs_w zlI_0 (by decide))⟩) (fun t_1 pt_1 => ?_)
  obtain ⟨ret, er, hr⟩ := zc_37 h_σ
  refine ⟨ret, er, ?_⟩
  exact hr
-- BX9_beside_49
theorem zc_39 {σ0 : sn_S} {σ : sn_S} (h_σ : zs_M σ0 σ) {x1 : Int32} (h_x1 : zs_in x1.toInt 0 5) {x2 : Int32} {x3 : Int32} (h_x3 : zs_in x3.toInt 0 5) {t0 : Int32} {t1 : Int32} (h_t1 : zs_in t1.toInt 0 0) {c : Int} (hc : x3.toInt = c + 0) : zs_ok (BX9_beside_49 σ x1 x2 x3 t0 t1) (fun r => zs_sum (fun v => ((True ∧ zs_in (v.2).toInt 1 6)) ∧ v.2.toInt = c + 1) (fun v => False) r) := by
  unfold BX9_beside_49
  obtain rfl : t1 = (0 : Int32) := zs_eqv h_t1 (by decide)
  refine zs_lt (Q := fun z => True) trivial (fun y_1 hy_1 => ?_)
  refine zs_lt (Q := fun z => zs_in z.toInt 1 6 ∧ z.toInt = c + 1) ⟨(zs_addI 1 6 h_x3 zlI_1 (by decide)), (zs_syI 1 hc h_x3 zlI_1 (by decide) (by decide))⟩ (fun y_3 hy_3 => ?_)
  exact zs_some (zs_inl ⟨⟨trivial, hy_3.1⟩, hy_3.2⟩)
-- BX9_beside_49
theorem zc_40 {σ0 : sn_S} {σ : sn_S} (h_σ : zs_M σ0 σ) {x1 : Int32} (h_x1 : zs_in x1.toInt 0 5) {x2 : Int32} {x3 : Int32} (h_x3 : zs_in x3.toInt 0 5) {t0 : Int32} {t1 : Int32} (h_t1 : zs_in t1.toInt 1 32) {c : Int} (hc : x3.toInt = c + 0) : zs_ok (BX9_beside_49 σ x1 x2 x3 t0 t1) (fun r => zs_sum (fun v => ((True ∧ zs_in (v.2).toInt 1 6)) ∧ v.2.toInt = c + 1) (fun v => False) r) := by
  unfold BX9_beside_49
  refine zs_lt (Q := fun z => True) trivial (fun y_1 hy_1 => ?_)
  refine zs_lt (Q := fun z => zs_in z.toInt 1 6 ∧ z.toInt = c + 1) ⟨(zs_addI 1 6 h_x3 zlI_1 (by decide)), (zs_syI 1 hc h_x3 zlI_1 (by decide) (by decide))⟩ (fun y_3 hy_3 => ?_)
  exact zs_some (zs_inl ⟨⟨trivial, hy_3.1⟩, hy_3.2⟩)
-- BX9_beside_20
theorem zc_41 {σ0 : sn_S} {σ : sn_S} (h_σ : zs_M σ0 σ) {x1 : Int32} (h_x1 : zs_in x1.toInt 0 5) {x2 : Int32} {x3 : Int32} (h_x3 : zs_in x3.toInt 0 6) {c : Int} (hc : x3.toInt = c + 0) : zs_ok (BX9_beside_20 σ x1 x2 x3) (fun r => zs_sum (fun v => ((True ∧ zs_in (v.2).toInt 1 6)) ∧ v.2.toInt = c + 1) (fun v => True) r) := by
  unfold BX9_beside_20
  refine zs_gd (zs_gin zlI_5 (by decide)) ?_
  refine zs_ite (fun c1 => ?_) (fun c1 => ?_)
  · skip
    have r2 := (zs_I_le c1)
    exact zs_some (zs_inr (trivial))
  · skip
    have r3 := (zs_I_len c1)
    have g4 : zs_in (x3).toInt 0 5 := (zs_ltl 0 5 r3 h_x3 (zs_rdk (q := 1) (k := (5 : Int32).toNatClampNeg) (z := (0, 6)) h_σ.1 rfl) (by decide))
    have g5 : zs_in ((sn_I σ 1 (5 : Int32).toNatClampNeg)).toInt 1 6 := (zs_ltr 1 6 r3 h_x3 (zs_rdk (q := 1) (k := (5 : Int32).toNatClampNeg) (z := (0, 6)) h_σ.1 rfl) (by decide))
    refine zs_bd_ (zc_38 h_σ h_x1 (zs_cases g4 (fun z => zs_in ((1 : Int32) <<< (z &&& 31)).toInt 1 32) (by decide +kernel))) (fun t_3 pt_3 => ?_)
    refine zs_ite (fun c6 => ?_) (fun c6 => ?_)
    · skip
      have r7 := (zs_I_le c6)
      have g8 : zs_in (t_3).toInt (-2147483648) 0 := (zs_lel (-2147483648) 0 r7 (zs_topI _) zlI_0 (by decide))
      obtain ⟨ret, er, hr⟩ := zc_39 h_σ h_x1 g4 zlI_0 hc
      refine ⟨ret, er, ?_⟩
      exact (zs_sumw hr (fun v w => ⟨w.1, w.2⟩) (fun v w => w.elim))
    · skip
      have r9 := (zs_I_len c6)
      have g10 : zs_in (t_3).toInt 1 2147483647 := (zs_ltr 1 2147483647 r9 zlI_0 (zs_topI _) (by decide))
      obtain ⟨ret, er, hr⟩ := zc_40 h_σ h_x1 g4 (zs_cases g4 (fun z => zs_in ((1 : Int32) <<< (z &&& 31)).toInt 1 32) (by decide +kernel)) hc
      refine ⟨ret, er, ?_⟩
      exact (zs_sumw hr (fun v w => ⟨w.1, w.2⟩) (fun v w => w.elim))
theorem zd_7 {σ0 : sn_S} {σ : sn_S} (h_σ : zs_M σ0 σ) {x1 : Int32} (h_x1 : zs_in x1.toInt 0 5) {s0 : (Int32 × Int32)} (h0 : (True ∧ zs_in (s0.2).toInt 0 6)) : zs_ok (sn_it (LX9_beside_20 σ x1) 5000 s0) (fun t => True) := by
  refine zs_it (I := fun s => (True ∧ zs_in (s.2).toInt 0 6)) (m := fun s => 6 - s.2.toInt) (fun s hs => ?_) (fun s hs => ?_) (by exact h0)
  · have h1 := hs.2; unfold zs_in at h1
    omega
  · obtain ⟨b, eb, hb⟩ := zc_41 h_σ h_x1 hs.2 (c := s.2.toInt) (Int.add_zero _).symm
    exact ⟨b, eb, zs_sumw hb (fun v w => ⟨⟨w.1.1, (zs_w w.1.2 (by decide))⟩, by have := w.2; omega⟩) (fun v w => w)⟩
-- BX9_beside_57
theorem zc_42 {σ0 : sn_S} {σ : sn_S} (h_σ : zs_M σ0 σ) {x2 : Int32} : zs_ok (BX9_beside_57 σ x2) (fun r => (True ∧ zs_M σ0 r.2)) := by
  unfold BX9_beside_57
  exact zs_some ⟨trivial, h_σ⟩
-- fX9_beside
theorem zc_43 {σ0 : sn_S} {σ : sn_S} (h_σ : zs_M σ0 σ) {x1 : Int32} : zs_ok (fX9_beside σ x1) (fun r => ((True ∧ zs_M σ0 r.2)) ∧ ((r.1).toInt = (-2) ∨ (zs_in (x1).toInt 0 5))) := by
  unfold fX9_beside
  refine zs_bd_ (zc_31 h_σ) (fun t_1 pt_1 => ?_)
  refine zs_bd_ (zc_6 pt_1 (zs_64 (zs_topI _))) (fun t_3 pt_3 => ?_)
  refine zs_ite (fun c1 => ?_) (fun c1 => ?_)
  · skip
    have r2 := (zs_I_eq c1)
    have g3 : zs_in (t_3).toInt 0 0 := (zs_eql 0 0 r2 pt_3.1 zlI_0 (by decide))
    exact zs_some ⟨⟨trivial, pt_1⟩, Or.inl (zs_ptr zlI_m2)⟩
  · skip
    have r4 := (zs_I_eqn c1)
    have g5 : zs_in (t_3).toInt 1 1 := (zs_nel 1 1 r4 pt_3.1 zlI_0 (by decide))
    have q6 := (zs_or2 pt_3.2 g5 (by decide))
    have g7 : zs_in (x1.toInt64).toInt 0 5 := q6
    have g8 : zs_in (x1).toInt 0 5 := (zs_64r g7)
    refine zs_bd_ (zd_7 pt_1 g8 (s0 := ((0 : Int32), (0 : Int32))) ⟨trivial, (zs_w zlI_0 (by decide))⟩) (fun t_6 pt_6 => ?_)
    obtain ⟨ret, er, hr⟩ := zc_42 pt_1
    refine ⟨ret, er, ?_⟩
    exact ⟨hr, Or.inr g8⟩
-- fX8_isMinute
theorem zc_44 {σ0 : sn_S} {σ : sn_S} (h_σ : zs_C σ0 σ) {x1 : Int32} : zs_ok (fX8_isMinute σ x1) (fun r => (zs_in (r).toInt 0 1) ∧ ((r).toInt = 0 ∨ (zs_in (x1).toInt 0 29))) := by
  unfold fX8_isMinute
  refine zs_ite (fun c1 => ?_) (fun c1 => ?_)
  · skip
    have r2 := (zs_I_lt c1)
    have g3 : zs_in (x1).toInt (-2147483648) (-1) := (zs_ltl (-2147483648) (-1) r2 (zs_topI _) zlI_0 (by decide))
    refine zs_gd (zs_b01 zlI_0 (by decide)) ?_
    exact zs_some ⟨(zs_w zlI_0 (by decide)), Or.inl (zs_ptr zlI_0)⟩
  · skip
    have r4 := (zs_I_ltn c1)
    have g5 : zs_in (x1).toInt 0 2147483647 := (zs_ler 0 2147483647 r4 zlI_0 (zs_topI _) (by decide))
    refine zs_gd (zs_gin zlI_0 (by decide)) ?_
    refine zs_ite (fun c6 => ?_) (fun c6 => ?_)
    · skip
      have r7 := (zs_I_le c6)
      refine zs_gd (zs_b01 zlI_0 (by decide)) ?_
      exact zs_some ⟨(zs_w zlI_0 (by decide)), Or.inl (zs_ptr zlI_0)⟩
    · skip
      have r8 := (zs_I_len c6)
      have g9 : zs_in (x1).toInt 0 29 := (zs_ltl 0 29 r8 g5 (zs_rdk (q := 2) (k := (0 : Int32).toNatClampNeg) (z := (0, 30)) h_σ.1 rfl) (by decide))
      have g10 : zs_in ((sn_I σ (1 + 1) (0 : Int32).toNatClampNeg)).toInt 1 30 := (zs_ltr 1 30 r8 g5 (zs_rdk (q := 2) (k := (0 : Int32).toNatClampNeg) (z := (0, 30)) h_σ.1 rfl) (by decide))
      refine zs_gd (zs_b01 zlI_1 (by decide)) ?_
      exact zs_some ⟨(zs_w zlI_1 (by decide)), Or.inr g9⟩
-- fX8_dust
theorem zc_45 {σ0 : sn_S} {σ : sn_S} (h_σ : zs_C σ0 σ) {x1 : Int32} : zs_ok (fX8_dust σ x1) (fun r => (True) ∧ ((r).toInt = (-2) ∨ (zs_in (x1).toInt 0 29))) := by
  unfold fX8_dust
  refine zs_bd_ (zc_44 h_σ) (fun t_1 pt_1 => ?_)
  refine zs_ite (fun c1 => ?_) (fun c1 => ?_)
  · skip
    have r2 := (zs_I_eq c1)
    have g3 : zs_in (t_1).toInt 0 0 := (zs_eql 0 0 r2 pt_1.1 zlI_0 (by decide))
    exact zs_some ⟨trivial, Or.inl (zs_ptr zlI_m2)⟩
  · skip
    have r4 := (zs_I_eqn c1)
    have g5 : zs_in (t_1).toInt 1 1 := (zs_nel 1 1 r4 pt_1.1 zlI_0 (by decide))
    have q6 := (zs_or2 pt_1.2 g5 (by decide))
    have g7 : zs_in (x1).toInt 0 29 := q6
    refine zs_gd (zs_gin g7 (by decide)) ?_
    exact zs_some ⟨trivial, Or.inr g7⟩
-- BX9_goAll_2
theorem zc_46 {σ0 : sn_S} {σ : sn_S} (h_σ : zs_M σ0 σ) {x1 : Int32} (h_x1 : zs_in x1.toInt 0 6) {c : Int} (hc : x1.toInt = c + 0) : zs_ok (BX9_goAll_2 σ x1) (fun r => zs_sum (fun v => ((zs_M σ0 v.1 ∧ zs_in (v.2).toInt 1 6)) ∧ v.2.toInt = c + 1) (fun v => zs_M σ0 v) r) := by
  unfold BX9_goAll_2
  refine zs_ite (fun c1 => ?_) (fun c1 => ?_)
  · skip
    have r2 := (zs_I_le c1)
    have g3 : zs_in (x1).toInt 6 6 := (zs_ler 6 6 r2 zlI_6 h_x1 (by decide))
    exact zs_some (zs_inr (h_σ))
  · skip
    have r4 := (zs_I_len c1)
    have g5 : zs_in (x1).toInt 0 5 := (zs_ltl 0 5 r4 h_x1 zlI_6 (by decide))
    refine zs_gd (zs_gin g5 (by decide)) ?_
    refine zs_lt (Q := fun z => zs_M σ0 z) (zs_wru (z := (0, 1073741823)) h_σ (fun _ => rfl) zlI_0 (by decide) (fun _ => rfl)) (fun σ_3 hσ_3 => ?_)
    refine zs_gd (zs_gin g5 (by decide)) ?_
    refine zs_lt (Q := fun z => zs_M σ0 z) (zs_wrt hσ_3 (fun _ => rfl) (fun _ => rfl)) (fun σ_6 hσ_6 => ?_)
    refine zs_lt (Q := fun z => zs_in z.toInt 1 6 ∧ z.toInt = c + 1) ⟨(zs_addI 1 6 g5 zlI_1 (by decide)), (zs_syI 1 hc g5 zlI_1 (by decide) (by decide))⟩ (fun y_8 hy_8 => ?_)
    exact zs_some (zs_inl ⟨⟨hσ_6, hy_8.1⟩, hy_8.2⟩)
theorem zd_8 {σ0 : sn_S}  {s0 : (sn_S × Int32)} (h0 : (zs_M σ0 s0.1 ∧ zs_in (s0.2).toInt 0 6)) : zs_ok (sn_it (LX9_goAll_2) 5000 s0) (fun t => zs_M σ0 t) := by
  refine zs_it (I := fun s => (zs_M σ0 s.1 ∧ zs_in (s.2).toInt 0 6)) (m := fun s => 6 - s.2.toInt) (fun s hs => ?_) (fun s hs => ?_) (by exact h0)
  · have h1 := hs.2; unfold zs_in at h1
    omega
  · obtain ⟨b, eb, hb⟩ := zc_46 hs.1 hs.2 (c := s.2.toInt) (Int.add_zero _).symm
    exact ⟨b, eb, zs_sumw hb (fun v w => ⟨⟨w.1.1, (zs_w w.1.2 (by decide))⟩, by have := w.2; omega⟩) (fun v w => w)⟩
-- BX9_netsTo_91
theorem zc_47 {σ0 : sn_S} {σ : sn_S} (h_σ : zs_M σ0 σ) {x1 : Int32} (h_x1 : zs_in x1.toInt 0 5) {x2 : Int32} (h_x2 : zs_in x2.toInt 0 0) {x3 : Int32} {x4 : Int32} (h_x4 : zs_in x4.toInt 0 7) {c : Int} (hc : x4.toInt = c + 0) : zs_ok (BX9_netsTo_91 σ x1 x2 x3 x4) (fun r => zs_sum (fun v => ((True ∧ zs_in (v.2).toInt 1 8)) ∧ v.2.toInt = c + 1) (fun v => False) r) := by
  unfold BX9_netsTo_91
  obtain rfl : x2 = (0 : Int32) := zs_eqv h_x2 (by decide)
  refine zs_lt (Q := fun z => zs_in z.toInt 1 8 ∧ z.toInt = c + 1) ⟨(zs_addI 1 8 h_x4 zlI_1 (by decide)), (zs_syI 1 hc h_x4 zlI_1 (by decide) (by decide))⟩ (fun y_1 hy_1 => ?_)
  exact zs_some (zs_inl ⟨⟨trivial, hy_1.1⟩, hy_1.2⟩)
-- fX9_bit
theorem zc_48 {x0 : Int32} (h_x0 : zs_in x0.toInt 0 0) {x1 : Int32} (h_x1 : zs_in x1.toInt 0 5) : zs_ok (fX9_bit x0 x1) (fun r => zs_in (r).toInt 0 1) := by
  unfold fX9_bit
  obtain rfl : x0 = (0 : Int32) := zs_eqv h_x0 (by decide)
  exact zs_some (zs_and zlI_1 (by decide))
-- BX9_netsTo_88
theorem zc_49 {σ0 : sn_S} {σ : sn_S} (h_σ : zs_M σ0 σ) {x1 : Int32} (h_x1 : zs_in x1.toInt 0 5) {x2 : Int32} (h_x2 : zs_in x2.toInt 0 0) {x3 : Int32} {x4 : Int32} (h_x4 : zs_in x4.toInt 0 7) {c : Int} (hc : x4.toInt = c + 0) : zs_ok (BX9_netsTo_88 σ x1 x2 x3 x4) (fun r => zs_sum (fun v => ((True ∧ zs_in (v.2).toInt 1 8)) ∧ v.2.toInt = c + 1) (fun v => False) r) := by
  unfold BX9_netsTo_88
  obtain rfl : x2 = (0 : Int32) := zs_eqv h_x2 (by decide)
  refine zs_lt (Q := fun z => True) trivial (fun y_1 hy_1 => ?_)
  obtain ⟨ret, er, hr⟩ := zc_47 h_σ h_x1 h_x2 h_x4 hc
  refine ⟨ret, er, ?_⟩
  exact (zs_sumw hr (fun v w => ⟨w.1, w.2⟩) (fun v w => w.elim))
-- BX9_netsTo_72
theorem zc_50 {σ0 : sn_S} {σ : sn_S} (h_σ : zs_M σ0 σ) {x1 : Int32} (h_x1 : zs_in x1.toInt 0 5) {x2 : Int32} (h_x2 : zs_in x2.toInt 0 0) {x3 : Int32} {x4 : Int32} (h_x4 : zs_in x4.toInt 0 7) {x5 : Int32} (h_x5 : zs_in x5.toInt 0 5) {x6 : Int32} (h_x6 : zs_in x6.toInt 0 5) {c : Int} (hc : x4.toInt = c + 0) : zs_ok (BX9_netsTo_72 σ x1 x2 x3 x4 x5 x6) (fun r => zs_sum (fun v => ((True ∧ zs_in (v.2).toInt 1 8)) ∧ v.2.toInt = c + 1) (fun v => False) r) := by
  unfold BX9_netsTo_72
  obtain rfl : x2 = (0 : Int32) := zs_eqv h_x2 (by decide)
  refine zs_ite (fun c1 => ?_) (fun c1 => ?_)
  · skip
    have r2 := (zs_I_eq c1)
    refine zs_bd_ (zc_48 h_x2 h_x5) (fun t_2 pt_2 => ?_)
    refine zs_ite (fun c3 => ?_) (fun c3 => ?_)
    · skip
      have r4 := (zs_I_eq c3)
      have g5 : zs_in (t_2).toInt 1 1 := (zs_eql 1 1 r4 pt_2 zlI_1 (by decide))
      obtain ⟨ret, er, hr⟩ := zc_49 h_σ h_x1 h_x2 h_x4 hc
      refine ⟨ret, er, ?_⟩
      exact (zs_sumw hr (fun v w => ⟨w.1, w.2⟩) (fun v w => w.elim))
    · skip
      have r6 := (zs_I_eqn c3)
      have g7 : zs_in (t_2).toInt 0 0 := (zs_neh 0 0 r6 pt_2 zlI_1 (by decide))
      obtain ⟨ret, er, hr⟩ := zc_47 h_σ h_x1 h_x2 h_x4 hc
      refine ⟨ret, er, ?_⟩
      exact (zs_sumw hr (fun v w => ⟨w.1, w.2⟩) (fun v w => w.elim))
  · skip
    have r8 := (zs_I_eqn c1)
    obtain ⟨ret, er, hr⟩ := zc_47 h_σ h_x1 h_x2 h_x4 hc
    refine ⟨ret, er, ?_⟩
    exact (zs_sumw hr (fun v w => ⟨w.1, w.2⟩) (fun v w => w.elim))
-- BX9_netsTo_5
theorem zc_51 {σ0 : sn_S} {σ : sn_S} (h_σ : zs_M σ0 σ) {x1 : Int32} (h_x1 : zs_in x1.toInt 0 5) {x2 : Int32} (h_x2 : zs_in x2.toInt 0 0) {x3 : Int32} {x4 : Int32} (h_x4 : zs_in x4.toInt 0 8) {c : Int} (hc : x4.toInt = c + 0) : zs_ok (BX9_netsTo_5 σ x1 x2 x3 x4) (fun r => zs_sum (fun v => ((True ∧ zs_in (v.2).toInt 1 8)) ∧ v.2.toInt = c + 1) (fun v => True) r) := by
  unfold BX9_netsTo_5
  obtain rfl : x2 = (0 : Int32) := zs_eqv h_x2 (by decide)
  refine zs_gd (zs_gin zlI_7 (by decide)) ?_
  refine zs_ite (fun c1 => ?_) (fun c1 => ?_)
  · skip
    have r2 := (zs_I_le c1)
    exact zs_some (zs_inr (trivial))
  · skip
    have r3 := (zs_I_len c1)
    have g4 : zs_in (x4).toInt 0 7 := (zs_ltl 0 7 r3 h_x4 (zs_rdk (q := 1) (k := (7 : Int32).toNatClampNeg) (z := (0, 8)) h_σ.1 rfl) (by decide))
    have g5 : zs_in ((sn_I σ 1 (7 : Int32).toNatClampNeg)).toInt 1 8 := (zs_ltr 1 8 r3 h_x4 (zs_rdk (q := 1) (k := (7 : Int32).toNatClampNeg) (z := (0, 8)) h_σ.1 rfl) (by decide))
    refine zs_gd (zs_gin (zs_addI 33 47 zlI_33 (zs_mulI 0 14 zlI_2 g4 (by decide)) (by decide)) (by decide)) ?_
    refine zs_lt (Q := fun z => zs_in z.toInt 0 5) (zs_rdb (q := 1) (lo := 0) (hi := 5) h_σ.1 (zs_cases g4 (fun z => zs_bd (zs_tM 1 ((33 : Int32) + ((2 : Int32) * z)).toNatClampNeg) 0 5) (by decide +kernel))) (fun y_4 hy_4 => ?_)
    refine zs_gd (zs_gin (zs_addI 34 48 (zs_addI 33 47 zlI_33 (zs_mulI 0 14 zlI_2 g4 (by decide)) (by decide)) zlI_1 (by decide)) (by decide)) ?_
    refine zs_lt (Q := fun z => zs_in z.toInt 0 5) (zs_rdb (q := 1) (lo := 0) (hi := 5) h_σ.1 (zs_cases g4 (fun z => zs_bd (zs_tM 1 (((33 : Int32) + ((2 : Int32) * z)) + (1 : Int32)).toNatClampNeg) 0 5) (by decide +kernel))) (fun y_7 hy_7 => ?_)
    refine zs_ite (fun c6 => ?_) (fun c6 => ?_)
    · skip
      have r7 := (zs_I_eq c6)
      have g8 : zs_in ((sn_I σ 0 19)).toInt 0 7 := (zs_eqr 0 7 r7 g4 (zs_topI _) (by decide))
      obtain ⟨ret, er, hr⟩ := zc_47 h_σ h_x1 h_x2 g4 hc
      refine ⟨ret, er, ?_⟩
      exact (zs_sumw hr (fun v w => ⟨w.1, w.2⟩) (fun v w => w.elim))
    · skip
      have r9 := (zs_I_eqn c6)
      refine zs_ite (fun c10 => ?_) (fun c10 => ?_)
      · skip
        have r11 := (zs_I_eq c10)
        refine zs_bd_ (zc_48 h_x2 hy_7) (fun t_11 pt_11 => ?_)
        refine zs_ite (fun c12 => ?_) (fun c12 => ?_)
        · skip
          have r13 := (zs_I_eq c12)
          have g14 : zs_in (t_11).toInt 1 1 := (zs_eql 1 1 r13 pt_11 zlI_1 (by decide))
          obtain ⟨ret, er, hr⟩ := zc_49 h_σ h_x1 h_x2 g4 hc
          refine ⟨ret, er, ?_⟩
          exact (zs_sumw hr (fun v w => ⟨w.1, w.2⟩) (fun v w => w.elim))
        · skip
          have r15 := (zs_I_eqn c12)
          have g16 : zs_in (t_11).toInt 0 0 := (zs_neh 0 0 r15 pt_11 zlI_1 (by decide))
          obtain ⟨ret, er, hr⟩ := zc_50 h_σ h_x1 h_x2 g4 hy_4 hy_7 hc
          refine ⟨ret, er, ?_⟩
          exact (zs_sumw hr (fun v w => ⟨w.1, w.2⟩) (fun v w => w.elim))
      · skip
        have r17 := (zs_I_eqn c10)
        obtain ⟨ret, er, hr⟩ := zc_50 h_σ h_x1 h_x2 g4 hy_4 hy_7 hc
        refine ⟨ret, er, ?_⟩
        exact (zs_sumw hr (fun v w => ⟨w.1, w.2⟩) (fun v w => w.elim))
theorem zd_9 {σ0 : sn_S} {σ : sn_S} (h_σ : zs_M σ0 σ) {x1 : Int32} (h_x1 : zs_in x1.toInt 0 5) {x2 : Int32} (h_x2 : zs_in x2.toInt 0 0) {s0 : (Int32 × Int32)} (h0 : (True ∧ zs_in (s0.2).toInt 0 8)) : zs_ok (sn_it (LX9_netsTo_5 σ x1 x2) 5000 s0) (fun t => True) := by
  refine zs_it (I := fun s => (True ∧ zs_in (s.2).toInt 0 8)) (m := fun s => 8 - s.2.toInt) (fun s hs => ?_) (fun s hs => ?_) (by exact h0)
  · have h1 := hs.2; unfold zs_in at h1
    omega
  · obtain ⟨b, eb, hb⟩ := zc_51 h_σ h_x1 h_x2 hs.2 (c := s.2.toInt) (Int.add_zero _).symm
    exact ⟨b, eb, zs_sumw hb (fun v w => ⟨⟨w.1.1, (zs_w w.1.2 (by decide))⟩, by have := w.2; omega⟩) (fun v w => w)⟩
-- fX9_netsTo
theorem zc_52 {σ0 : sn_S} {σ : sn_S} (h_σ : zs_M σ0 σ) {x1 : Int32} (h_x1 : zs_in x1.toInt 0 5) {x2 : Int32} (h_x2 : zs_in x2.toInt 0 0) : zs_ok (fX9_netsTo σ x1 x2) (fun r => True) := by
  unfold fX9_netsTo
  obtain rfl : x2 = (0 : Int32) := zs_eqv h_x2 (by decide)
  refine zs_bd_ (zd_9 h_σ h_x1 h_x2 (s0 := ((0 : Int32), (0 : Int32))) ⟨trivial, (zs_w zlI_0 (by decide))⟩) (fun t_1 pt_1 => ?_)
  obtain ⟨ret, er, hr⟩ := zc_37 h_σ
  refine ⟨ret, er, ?_⟩
  exact hr
-- fX9_bit
theorem zc_53 {x0 : Int32} {x1 : Int32} (h_x1 : zs_in x1.toInt 0 0) : zs_ok (fX9_bit x0 x1) (fun r => zs_in (r).toInt 0 1) := by
  unfold fX9_bit
  obtain rfl : x1 = (0 : Int32) := zs_eqv h_x1 (by decide)
  exact zs_some (zs_and zlI_1 (by decide))
-- BX9_goMinute_225
theorem zc_54 {σ0 : sn_S} {σ : sn_S} (h_σ : zs_M σ0 σ) {x1 : Int32} (h_x1 : zs_in x1.toInt 0 0) {x2 : Int32} (h_x2 : zs_in x2.toInt 0 0) {x3 : Int32} (h_x3 : zs_in x3.toInt 0 5) {c : Int} (hc : x3.toInt = c + 0) : zs_ok (BX9_goMinute_225 σ x1 x2 x3) (fun r => zs_sum (fun v => ((zs_M σ0 v.1 ∧ zs_in (v.2).toInt 1 6)) ∧ v.2.toInt = c + 1) (fun v => False) r) := by
  unfold BX9_goMinute_225
  obtain rfl : x1 = (0 : Int32) := zs_eqv h_x1 (by decide)
  obtain rfl : x2 = (0 : Int32) := zs_eqv h_x2 (by decide)
  refine zs_lt (Q := fun z => zs_in z.toInt 1 6 ∧ z.toInt = c + 1) ⟨(zs_addI 1 6 h_x3 zlI_1 (by decide)), (zs_syI 1 hc h_x3 zlI_1 (by decide) (by decide))⟩ (fun y_1 hy_1 => ?_)
  exact zs_some (zs_inl ⟨⟨h_σ, hy_1.1⟩, hy_1.2⟩)
-- BX9_goMinute_192
theorem zc_55 {σ0 : sn_S} {σ : sn_S} (h_σ : zs_M σ0 σ) {x1 : Int32} (h_x1 : zs_in x1.toInt 0 0) {x2 : Int32} (h_x2 : zs_in x2.toInt 0 0) {x3 : Int32} (h_x3 : zs_in x3.toInt 0 5) {x7 : Int32} (h_x7 : zs_in x7.toInt 0 0) {t1 : Int32} (h_t1 : zs_in t1.toInt 0 5) {t2 : Int32} (h_t2 : zs_in t2.toInt (-2147483648) 98) {c : Int} (hc : x3.toInt = c + 0) : zs_ok (BX9_goMinute_192 σ x1 x2 x3 x7 t1 t2) (fun r => zs_sum (fun v => ((zs_M σ0 v.1 ∧ zs_in (v.2).toInt 1 6)) ∧ v.2.toInt = c + 1) (fun v => False) r) := by
  unfold BX9_goMinute_192
  obtain rfl : x1 = (0 : Int32) := zs_eqv h_x1 (by decide)
  obtain rfl : x2 = (0 : Int32) := zs_eqv h_x2 (by decide)
  obtain rfl : x7 = (0 : Int32) := zs_eqv h_x7 (by decide)
  refine zs_gd (zs_gin h_t1 (by decide)) ?_
  refine zs_lt (Q := fun z => zs_M σ0 z) (zs_wrt h_σ (fun _ => rfl) (fun _ => rfl)) (fun σ_2 hσ_2 => ?_)
  refine zs_ite (fun c1 => ?_) (fun c1 => ?_)
  · skip
    have r2 := (zs_I_eq c1)
    obtain ⟨ret, er, hr⟩ := zc_54 hσ_2 h_x1 h_x2 h_x3 hc
    refine ⟨ret, er, ?_⟩
    exact (zs_sumw hr (fun v w => ⟨w.1, w.2⟩) (fun v w => w.elim))
  · skip
    have r3 := (zs_I_eqn c1)
    exact (zs_botne r3 h_x7 zlI_0 (by decide)).elim
-- BX9_goMinute_145
theorem zc_56 {σ0 : sn_S} {σ : sn_S} (h_σ : zs_M σ0 σ) {x1 : Int32} (h_x1 : zs_in x1.toInt 0 0) {x2 : Int32} (h_x2 : zs_in x2.toInt 0 0) {x3 : Int32} (h_x3 : zs_in x3.toInt 0 5) {x4 : Int32} {x5 : Int32} {x6 : Int32} (h_x6 : zs_in x6.toInt (-2147483648) 98) {t0 : Int32} (h_t0 : zs_in t0.toInt 0 0) {c : Int} (hc : x3.toInt = c + 0) : zs_ok (BX9_goMinute_145 σ x1 x2 x3 x4 x5 x6 t0) (fun r => zs_sum (fun v => ((zs_M σ0 v.1 ∧ zs_in (v.2).toInt 1 6)) ∧ v.2.toInt = c + 1) (fun v => False) r) := by
  unfold BX9_goMinute_145
  obtain rfl : x1 = (0 : Int32) := zs_eqv h_x1 (by decide)
  obtain rfl : x2 = (0 : Int32) := zs_eqv h_x2 (by decide)
  obtain rfl : t0 = (0 : Int32) := zs_eqv h_t0 (by decide)
  refine zs_gd (zs_gin h_x3 (by decide)) ?_
  refine zs_gd (zs_gin h_x3 (by decide)) ?_
  refine zs_lt (Q := fun z => zs_M σ0 z) (zs_wrt h_σ (fun _ => rfl) (fun _ => rfl)) (fun σ_3 hσ_3 => ?_)
  refine zs_gd (zs_gin (zs_addI 0 5 (zs_mulI 0 0 zlI_6 h_x1 (by decide)) h_x3 (by decide)) (by decide)) ?_
  refine zs_lt (Q := fun z => zs_M σ0 z) (zs_wrt hσ_3 (fun _ => rfl) (fun _ => rfl)) (fun σ_6 hσ_6 => ?_)
  refine zs_ite (fun c1 => ?_) (fun c1 => ?_)
  · skip
    have r2 := (zs_I_eq c1)
    obtain ⟨ret, er, hr⟩ := zc_55 hσ_6 h_x1 h_x2 h_x3 h_t0 (zs_addI 0 5 (zs_mulI 0 0 zlI_6 h_x1 (by decide)) h_x3 (by decide)) h_x6 hc
    refine ⟨ret, er, ?_⟩
    exact (zs_sumw hr (fun v w => ⟨w.1, w.2⟩) (fun v w => w.elim))
  · skip
    have r3 := (zs_I_eqn c1)
    exact (zs_botne r3 h_t0 zlI_0 (by decide)).elim
-- BX9_goMinute_144
theorem zc_57 {σ0 : sn_S} {σ : sn_S} (h_σ : zs_M σ0 σ) {x1 : Int32} (h_x1 : zs_in x1.toInt 0 0) {x2 : Int32} (h_x2 : zs_in x2.toInt 0 0) {x3 : Int32} (h_x3 : zs_in x3.toInt 0 5) {x4 : Int32} {x5 : Int32} {x6 : Int32} (h_x6 : zs_in x6.toInt (-2147483648) 98) {c : Int} (hc : x3.toInt = c + 0) : zs_ok (BX9_goMinute_144 σ x1 x2 x3 x4 x5 x6) (fun r => zs_sum (fun v => ((zs_M σ0 v.1 ∧ zs_in (v.2).toInt 1 6)) ∧ v.2.toInt = c + 1) (fun v => False) r) := by
  unfold BX9_goMinute_144
  obtain rfl : x1 = (0 : Int32) := zs_eqv h_x1 (by decide)
  obtain rfl : x2 = (0 : Int32) := zs_eqv h_x2 (by decide)
  obtain ⟨ret, er, hr⟩ := zc_56 h_σ h_x1 h_x2 h_x3 h_x6 zlI_0 hc
  refine ⟨ret, er, ?_⟩
  exact (zs_sumw hr (fun v w => ⟨w.1, w.2⟩) (fun v w => w.elim))
-- BX9_goMinute_192
theorem zc_58 {σ0 : sn_S} {σ : sn_S} (h_σ : zs_M σ0 σ) {x1 : Int32} (h_x1 : zs_in x1.toInt 0 0) {x2 : Int32} (h_x2 : zs_in x2.toInt 0 0) {x3 : Int32} (h_x3 : zs_in x3.toInt 0 5) {x7 : Int32} (h_x7 : zs_in x7.toInt 1 1) {t1 : Int32} (h_t1 : zs_in t1.toInt 0 5) {t2 : Int32} (h_t2 : zs_in t2.toInt 0 0) {c : Int} (hc : x3.toInt = c + 0) : zs_ok (BX9_goMinute_192 σ x1 x2 x3 x7 t1 t2) (fun r => zs_sum (fun v => ((zs_M σ0 v.1 ∧ zs_in (v.2).toInt 1 6)) ∧ v.2.toInt = c + 1) (fun v => False) r) := by
  unfold BX9_goMinute_192
  obtain rfl : x1 = (0 : Int32) := zs_eqv h_x1 (by decide)
  obtain rfl : x2 = (0 : Int32) := zs_eqv h_x2 (by decide)
  obtain rfl : x7 = (1 : Int32) := zs_eqv h_x7 (by decide)
  obtain rfl : t2 = (0 : Int32) := zs_eqv h_t2 (by decide)
  refine zs_gd (zs_gin h_t1 (by decide)) ?_
  refine zs_lt (Q := fun z => zs_M σ0 z) (zs_wrt h_σ (fun _ => rfl) (fun _ => rfl)) (fun σ_2 hσ_2 => ?_)
  refine zs_ite (fun c1 => ?_) (fun c1 => ?_)
  · skip
    have r2 := (zs_I_eq c1)
    exact (zs_botr r2 h_x7 zlI_0 (by decide)).elim
  · skip
    have r3 := (zs_I_eqn c1)
    refine zs_gd (zs_gin h_x1 (by decide)) ?_
    refine zs_gd (zs_gin h_x1 (by decide)) ?_
    refine zs_lt (Q := fun z => zs_M σ0 z) (zs_wrt hσ_2 (fun _ => rfl) (fun _ => rfl)) (fun σ_7 hσ_7 => ?_)
    refine zs_gd (zs_gin h_x3 (by decide)) ?_
    refine zs_gd (zs_gin h_x3 (by decide)) ?_
    refine zs_lt (Q := fun z => zs_M σ0 z) (zs_wru (z := (0, 1073741823)) hσ_7 (fun _ => rfl) (zs_or 30 1073741823 (zs_rdu (q := 10) (z := (0, 1073741823)) hσ_7.1 (fun _ => rfl)) (zs_cases h_x1 (fun z => zs_in ((1 : Int32) <<< (z &&& 31)).toInt 1 1) (by decide +kernel)) (by decide)) (by decide) (fun _ => rfl)) (fun σ_11 hσ_11 => ?_)
    obtain ⟨ret, er, hr⟩ := zc_54 hσ_11 h_x1 h_x2 h_x3 hc
    refine ⟨ret, er, ?_⟩
    exact (zs_sumw hr (fun v w => ⟨w.1, w.2⟩) (fun v w => w.elim))
-- BX9_goMinute_145
theorem zc_59 {σ0 : sn_S} {σ : sn_S} (h_σ : zs_M σ0 σ) {x1 : Int32} (h_x1 : zs_in x1.toInt 0 0) {x2 : Int32} (h_x2 : zs_in x2.toInt 0 0) {x3 : Int32} (h_x3 : zs_in x3.toInt 0 5) {x4 : Int32} {x5 : Int32} {x6 : Int32} (h_x6 : zs_in x6.toInt 0 2147483647) {t0 : Int32} (h_t0 : zs_in t0.toInt 1 1) {c : Int} (hc : x3.toInt = c + 0) : zs_ok (BX9_goMinute_145 σ x1 x2 x3 x4 x5 x6 t0) (fun r => zs_sum (fun v => ((zs_M σ0 v.1 ∧ zs_in (v.2).toInt 1 6)) ∧ v.2.toInt = c + 1) (fun v => False) r) := by
  unfold BX9_goMinute_145
  obtain rfl : x1 = (0 : Int32) := zs_eqv h_x1 (by decide)
  obtain rfl : x2 = (0 : Int32) := zs_eqv h_x2 (by decide)
  obtain rfl : t0 = (1 : Int32) := zs_eqv h_t0 (by decide)
  refine zs_gd (zs_gin h_x3 (by decide)) ?_
  refine zs_gd (zs_gin h_x3 (by decide)) ?_
  refine zs_lt (Q := fun z => zs_M σ0 z) (zs_wrt h_σ (fun _ => rfl) (fun _ => rfl)) (fun σ_3 hσ_3 => ?_)
  refine zs_gd (zs_gin (zs_addI 0 5 (zs_mulI 0 0 zlI_6 h_x1 (by decide)) h_x3 (by decide)) (by decide)) ?_
  refine zs_lt (Q := fun z => zs_M σ0 z) (zs_wrt hσ_3 (fun _ => rfl) (fun _ => rfl)) (fun σ_6 hσ_6 => ?_)
  refine zs_ite (fun c1 => ?_) (fun c1 => ?_)
  · skip
    have r2 := (zs_I_eq c1)
    exact (zs_botr r2 h_t0 zlI_0 (by decide)).elim
  · skip
    have r3 := (zs_I_eqn c1)
    obtain ⟨ret, er, hr⟩ := zc_58 hσ_6 h_x1 h_x2 h_x3 h_t0 (zs_addI 0 5 (zs_mulI 0 0 zlI_6 h_x1 (by decide)) h_x3 (by decide)) zlI_0 hc
    refine ⟨ret, er, ?_⟩
    exact (zs_sumw hr (fun v w => ⟨w.1, w.2⟩) (fun v w => w.elim))
-- BX9_goMinute_192
theorem zc_60 {σ0 : sn_S} {σ : sn_S} (h_σ : zs_M σ0 σ) {x1 : Int32} (h_x1 : zs_in x1.toInt 0 0) {x2 : Int32} (h_x2 : zs_in x2.toInt 0 0) {x3 : Int32} (h_x3 : zs_in x3.toInt 0 5) {x7 : Int32} (h_x7 : zs_in x7.toInt 0 0) {t1 : Int32} (h_t1 : zs_in t1.toInt 0 5) {t2 : Int32} (h_t2 : zs_in t2.toInt 0 2147483647) {c : Int} (hc : x3.toInt = c + 0) : zs_ok (BX9_goMinute_192 σ x1 x2 x3 x7 t1 t2) (fun r => zs_sum (fun v => ((zs_M σ0 v.1 ∧ zs_in (v.2).toInt 1 6)) ∧ v.2.toInt = c + 1) (fun v => False) r) := by
  unfold BX9_goMinute_192
  obtain rfl : x1 = (0 : Int32) := zs_eqv h_x1 (by decide)
  obtain rfl : x2 = (0 : Int32) := zs_eqv h_x2 (by decide)
  obtain rfl : x7 = (0 : Int32) := zs_eqv h_x7 (by decide)
  refine zs_gd (zs_gin h_t1 (by decide)) ?_
  refine zs_lt (Q := fun z => zs_M σ0 z) (zs_wrt h_σ (fun _ => rfl) (fun _ => rfl)) (fun σ_2 hσ_2 => ?_)
  refine zs_ite (fun c1 => ?_) (fun c1 => ?_)
  · skip
    have r2 := (zs_I_eq c1)
    obtain ⟨ret, er, hr⟩ := zc_54 hσ_2 h_x1 h_x2 h_x3 hc
    refine ⟨ret, er, ?_⟩
    exact (zs_sumw hr (fun v w => ⟨w.1, w.2⟩) (fun v w => w.elim))
  · skip
    have r3 := (zs_I_eqn c1)
    exact (zs_botne r3 h_x7 zlI_0 (by decide)).elim
-- BX9_goMinute_145
theorem zc_61 {σ0 : sn_S} {σ : sn_S} (h_σ : zs_M σ0 σ) {x1 : Int32} (h_x1 : zs_in x1.toInt 0 0) {x2 : Int32} (h_x2 : zs_in x2.toInt 0 0) {x3 : Int32} (h_x3 : zs_in x3.toInt 0 5) {x4 : Int32} {x5 : Int32} {x6 : Int32} (h_x6 : zs_in x6.toInt 0 2147483647) {t0 : Int32} (h_t0 : zs_in t0.toInt 0 0) {c : Int} (hc : x3.toInt = c + 0) : zs_ok (BX9_goMinute_145 σ x1 x2 x3 x4 x5 x6 t0) (fun r => zs_sum (fun v => ((zs_M σ0 v.1 ∧ zs_in (v.2).toInt 1 6)) ∧ v.2.toInt = c + 1) (fun v => False) r) := by
  unfold BX9_goMinute_145
  obtain rfl : x1 = (0 : Int32) := zs_eqv h_x1 (by decide)
  obtain rfl : x2 = (0 : Int32) := zs_eqv h_x2 (by decide)
  obtain rfl : t0 = (0 : Int32) := zs_eqv h_t0 (by decide)
  refine zs_gd (zs_gin h_x3 (by decide)) ?_
  refine zs_gd (zs_gin h_x3 (by decide)) ?_
  refine zs_lt (Q := fun z => zs_M σ0 z) (zs_wrt h_σ (fun _ => rfl) (fun _ => rfl)) (fun σ_3 hσ_3 => ?_)
  refine zs_gd (zs_gin (zs_addI 0 5 (zs_mulI 0 0 zlI_6 h_x1 (by decide)) h_x3 (by decide)) (by decide)) ?_
  refine zs_lt (Q := fun z => zs_M σ0 z) (zs_wrt hσ_3 (fun _ => rfl) (fun _ => rfl)) (fun σ_6 hσ_6 => ?_)
  refine zs_ite (fun c1 => ?_) (fun c1 => ?_)
  · skip
    have r2 := (zs_I_eq c1)
    obtain ⟨ret, er, hr⟩ := zc_60 hσ_6 h_x1 h_x2 h_x3 h_t0 (zs_addI 0 5 (zs_mulI 0 0 zlI_6 h_x1 (by decide)) h_x3 (by decide)) h_x6 hc
    refine ⟨ret, er, ?_⟩
    exact (zs_sumw hr (fun v w => ⟨w.1, w.2⟩) (fun v w => w.elim))
  · skip
    have r3 := (zs_I_eqn c1)
    exact (zs_botne r3 h_t0 zlI_0 (by decide)).elim
-- BX9_goMinute_144
theorem zc_62 {σ0 : sn_S} {σ : sn_S} (h_σ : zs_M σ0 σ) {x1 : Int32} (h_x1 : zs_in x1.toInt 0 0) {x2 : Int32} (h_x2 : zs_in x2.toInt 0 0) {x3 : Int32} (h_x3 : zs_in x3.toInt 0 5) {x4 : Int32} {x5 : Int32} {x6 : Int32} (h_x6 : zs_in x6.toInt 0 2147483647) {c : Int} (hc : x3.toInt = c + 0) : zs_ok (BX9_goMinute_144 σ x1 x2 x3 x4 x5 x6) (fun r => zs_sum (fun v => ((zs_M σ0 v.1 ∧ zs_in (v.2).toInt 1 6)) ∧ v.2.toInt = c + 1) (fun v => False) r) := by
  unfold BX9_goMinute_144
  obtain rfl : x1 = (0 : Int32) := zs_eqv h_x1 (by decide)
  obtain rfl : x2 = (0 : Int32) := zs_eqv h_x2 (by decide)
  obtain ⟨ret, er, hr⟩ := zc_61 h_σ h_x1 h_x2 h_x3 h_x6 zlI_0 hc
  refine ⟨ret, er, ?_⟩
  exact (zs_sumw hr (fun v w => ⟨w.1, w.2⟩) (fun v w => w.elim))
-- BX9_goMinute_104
theorem zc_63 {σ0 : sn_S} {σ : sn_S} (h_σ : zs_M σ0 σ) {x1 : Int32} (h_x1 : zs_in x1.toInt 0 0) {x2 : Int32} (h_x2 : zs_in x2.toInt 0 0) {x3 : Int32} (h_x3 : zs_in x3.toInt 0 5) {x4 : Int32} {x5 : Int32} {t0 : Int32} (h_t0 : zs_in t0.toInt 0 0) {c : Int} (hc : x3.toInt = c + 0) : zs_ok (BX9_goMinute_104 σ x1 x2 x3 x4 x5 t0) (fun r => zs_sum (fun v => ((zs_M σ0 v.1 ∧ zs_in (v.2).toInt 1 6)) ∧ v.2.toInt = c + 1) (fun v => False) r) := by
  unfold BX9_goMinute_104
  obtain rfl : x1 = (0 : Int32) := zs_eqv h_x1 (by decide)
  obtain rfl : x2 = (0 : Int32) := zs_eqv h_x2 (by decide)
  obtain rfl : t0 = (0 : Int32) := zs_eqv h_t0 (by decide)
  refine zs_lt (Q := fun z => True) trivial (fun y_1 hy_1 => ?_)
  refine zs_gd (zs_gin (zs_addI 12 22 (zs_addI 11 21 zlI_11 (zs_mulI 0 10 zlI_2 h_x3 (by decide)) (by decide)) zlI_1 (by decide)) (by decide)) ?_
  refine zs_ite (fun c1 => ?_) (fun c1 => ?_)
  · skip
    have r2 := (zs_I_lt c1)
    have g3 : zs_in (y_1).toInt (-2147483648) 98 := (zs_ltl (-2147483648) 98 r2 (zs_topI _) (zs_rdb (q := 1) (lo := 0) (hi := 99) h_σ.1 (zs_cases h_x3 (fun z => zs_bd (zs_tM 1 (((11 : Int32) + ((2 : Int32) * z)) + (1 : Int32)).toNatClampNeg) 0 99) (by decide +kernel))) (by decide))
    obtain ⟨ret, er, hr⟩ := zc_57 h_σ h_x1 h_x2 h_x3 g3 hc
    refine ⟨ret, er, ?_⟩
    exact (zs_sumw hr (fun v w => ⟨w.1, w.2⟩) (fun v w => w.elim))
  · skip
    have r4 := (zs_I_ltn c1)
    have g5 : zs_in (y_1).toInt 0 2147483647 := (zs_ler 0 2147483647 r4 (zs_rdb (q := 1) (lo := 0) (hi := 99) h_σ.1 (zs_cases h_x3 (fun z => zs_bd (zs_tM 1 (((11 : Int32) + ((2 : Int32) * z)) + (1 : Int32)).toNatClampNeg) 0 99) (by decide +kernel))) (zs_topI _) (by decide))
    refine zs_gd (zs_gin h_x3 (by decide)) ?_
    refine zs_bd_ (zc_53 h_x1) (fun t_6 pt_6 => ?_)
    refine zs_ite (fun c6 => ?_) (fun c6 => ?_)
    · skip
      have r7 := (zs_I_eq c6)
      have g8 : zs_in (t_6).toInt 0 0 := (zs_eql 0 0 r7 pt_6 zlI_0 (by decide))
      obtain ⟨ret, er, hr⟩ := zc_59 h_σ h_x1 h_x2 h_x3 g5 zlI_1 hc
      refine ⟨ret, er, ?_⟩
      exact (zs_sumw hr (fun v w => ⟨w.1, w.2⟩) (fun v w => w.elim))
    · skip
      have r9 := (zs_I_eqn c6)
      have g10 : zs_in (t_6).toInt 1 1 := (zs_nel 1 1 r9 pt_6 zlI_0 (by decide))
      obtain ⟨ret, er, hr⟩ := zc_62 h_σ h_x1 h_x2 h_x3 g5 hc
      refine ⟨ret, er, ?_⟩
      exact (zs_sumw hr (fun v w => ⟨w.1, w.2⟩) (fun v w => w.elim))
-- BX9_goMinute_26
theorem zc_64 {σ0 : sn_S} {σ : sn_S} (h_σ : zs_M σ0 σ) {x1 : Int32} (h_x1 : zs_in x1.toInt 0 0) {x2 : Int32} (h_x2 : zs_in x2.toInt 0 0) {x3 : Int32} (h_x3 : zs_in x3.toInt 0 6) {c : Int} (hc : x3.toInt = c + 0) : zs_ok (BX9_goMinute_26 σ x1 x2 x3) (fun r => zs_sum (fun v => ((zs_M σ0 v.1 ∧ zs_in (v.2).toInt 1 6)) ∧ v.2.toInt = c + 1) (fun v => zs_M σ0 v) r) := by
  unfold BX9_goMinute_26
  obtain rfl : x1 = (0 : Int32) := zs_eqv h_x1 (by decide)
  obtain rfl : x2 = (0 : Int32) := zs_eqv h_x2 (by decide)
  refine zs_gd (zs_gin zlI_5 (by decide)) ?_
  refine zs_ite (fun c1 => ?_) (fun c1 => ?_)
  · skip
    have r2 := (zs_I_le c1)
    exact zs_some (zs_inr (h_σ))
  · skip
    have r3 := (zs_I_len c1)
    have g4 : zs_in (x3).toInt 0 5 := (zs_ltl 0 5 r3 h_x3 (zs_rdk (q := 1) (k := (5 : Int32).toNatClampNeg) (z := (0, 6)) h_σ.1 rfl) (by decide))
    have g5 : zs_in ((sn_I σ 1 (5 : Int32).toNatClampNeg)).toInt 1 6 := (zs_ltr 1 6 r3 h_x3 (zs_rdk (q := 1) (k := (5 : Int32).toNatClampNeg) (z := (0, 6)) h_σ.1 rfl) (by decide))
    refine zs_bd_ (zc_52 h_σ g4 h_x2) (fun t_3 pt_3 => ?_)
    refine zs_lt (Q := fun z => True) trivial (fun y_5 hy_5 => ?_)
    refine zs_gd (zs_gin (zs_addI 11 21 zlI_11 (zs_mulI 0 10 zlI_2 g4 (by decide)) (by decide)) (by decide)) ?_
    refine zs_gd (zs_gin h_x1 (by decide)) ?_
    refine zs_gd (zs_gin g4 (by decide)) ?_
    refine zs_bd_ (zc_53 h_x1) (fun t_10 pt_10 => ?_)
    refine zs_lt (Q := fun z => True) trivial (fun y_12 hy_12 => ?_)
    refine zs_ite (fun c6 => ?_) (fun c6 => ?_)
    · skip
      have r7 := (zs_I_eq c6)
      obtain ⟨ret, er, hr⟩ := zc_63 h_σ h_x1 h_x2 g4 zlI_0 hc
      refine ⟨ret, er, ?_⟩
      exact (zs_sumw hr (fun v w => ⟨w.1, w.2⟩) (fun v w => w.elim))
    · skip
      have r8 := (zs_I_eqn c6)
      exact (zs_botne r8 h_x1 zlI_0 (by decide)).elim
theorem zd_10 {σ0 : sn_S} {x1 : Int32} (h_x1 : zs_in x1.toInt 0 0) {x2 : Int32} (h_x2 : zs_in x2.toInt 0 0) {s0 : (sn_S × Int32)} (h0 : (zs_M σ0 s0.1 ∧ zs_in (s0.2).toInt 0 6)) : zs_ok (sn_it (LX9_goMinute_26 x1 x2) 5000 s0) (fun t => zs_M σ0 t) := by
  refine zs_it (I := fun s => (zs_M σ0 s.1 ∧ zs_in (s.2).toInt 0 6)) (m := fun s => 6 - s.2.toInt) (fun s hs => ?_) (fun s hs => ?_) (by exact h0)
  · have h1 := hs.2; unfold zs_in at h1
    omega
  · obtain ⟨b, eb, hb⟩ := zc_64 hs.1 h_x1 h_x2 hs.2 (c := s.2.toInt) (Int.add_zero _).symm
    exact ⟨b, eb, zs_sumw hb (fun v w => ⟨⟨w.1.1, (zs_w w.1.2 (by decide))⟩, by have := w.2; omega⟩) (fun v w => w)⟩
-- BX9_goMinute_231
theorem zc_65 {σ0 : sn_S} {σ : sn_S} (h_σ : zs_M σ0 σ) : zs_ok (BX9_goMinute_231 σ) (fun r => zs_M σ0 r) := by
  unfold BX9_goMinute_231
  exact zs_some h_σ
-- BX9_goMinute_23
theorem zc_66 {σ0 : sn_S} {σ : sn_S} (h_σ : zs_M σ0 σ) {x1 : Int32} (h_x1 : zs_in x1.toInt 0 0) {t0 : Int32} (h_t0 : zs_in t0.toInt 0 0) : zs_ok (BX9_goMinute_23 σ x1 t0) (fun r => zs_M σ0 r) := by
  unfold BX9_goMinute_23
  obtain rfl : x1 = (0 : Int32) := zs_eqv h_x1 (by decide)
  obtain rfl : t0 = (0 : Int32) := zs_eqv h_t0 (by decide)
  refine zs_bd_ (zd_10 h_x1 h_t0 (s0 := (σ, (0 : Int32))) ⟨h_σ, (zs_w zlI_0 (by decide))⟩) (fun t_1 pt_1 => ?_)
  obtain ⟨ret, er, hr⟩ := zc_65 pt_1
  refine ⟨ret, er, ?_⟩
  exact hr
-- BX9_netsTo_91
theorem zc_67 {σ0 : sn_S} {σ : sn_S} (h_σ : zs_M σ0 σ) {x1 : Int32} (h_x1 : zs_in x1.toInt 0 5) {x2 : Int32} {x3 : Int32} {x4 : Int32} (h_x4 : zs_in x4.toInt 0 7) {c : Int} (hc : x4.toInt = c + 0) : zs_ok (BX9_netsTo_91 σ x1 x2 x3 x4) (fun r => zs_sum (fun v => ((True ∧ zs_in (v.2).toInt 1 8)) ∧ v.2.toInt = c + 1) (fun v => False) r) := by
  unfold BX9_netsTo_91
  refine zs_lt (Q := fun z => zs_in z.toInt 1 8 ∧ z.toInt = c + 1) ⟨(zs_addI 1 8 h_x4 zlI_1 (by decide)), (zs_syI 1 hc h_x4 zlI_1 (by decide) (by decide))⟩ (fun y_1 hy_1 => ?_)
  exact zs_some (zs_inl ⟨⟨trivial, hy_1.1⟩, hy_1.2⟩)
-- fX9_bit
theorem zc_68 {x0 : Int32} {x1 : Int32} (h_x1 : zs_in x1.toInt 0 5) : zs_ok (fX9_bit x0 x1) (fun r => zs_in (r).toInt 0 1) := by
  unfold fX9_bit
  exact zs_some (zs_and zlI_1 (by decide))
-- BX9_netsTo_88
theorem zc_69 {σ0 : sn_S} {σ : sn_S} (h_σ : zs_M σ0 σ) {x1 : Int32} (h_x1 : zs_in x1.toInt 0 5) {x2 : Int32} {x3 : Int32} {x4 : Int32} (h_x4 : zs_in x4.toInt 0 7) {c : Int} (hc : x4.toInt = c + 0) : zs_ok (BX9_netsTo_88 σ x1 x2 x3 x4) (fun r => zs_sum (fun v => ((True ∧ zs_in (v.2).toInt 1 8)) ∧ v.2.toInt = c + 1) (fun v => False) r) := by
  unfold BX9_netsTo_88
  refine zs_lt (Q := fun z => True) trivial (fun y_1 hy_1 => ?_)
  obtain ⟨ret, er, hr⟩ := zc_67 h_σ h_x1 h_x4 hc
  refine ⟨ret, er, ?_⟩
  exact (zs_sumw hr (fun v w => ⟨w.1, w.2⟩) (fun v w => w.elim))
-- BX9_netsTo_72
theorem zc_70 {σ0 : sn_S} {σ : sn_S} (h_σ : zs_M σ0 σ) {x1 : Int32} (h_x1 : zs_in x1.toInt 0 5) {x2 : Int32} {x3 : Int32} {x4 : Int32} (h_x4 : zs_in x4.toInt 0 7) {x5 : Int32} (h_x5 : zs_in x5.toInt 0 5) {x6 : Int32} (h_x6 : zs_in x6.toInt 0 5) {c : Int} (hc : x4.toInt = c + 0) : zs_ok (BX9_netsTo_72 σ x1 x2 x3 x4 x5 x6) (fun r => zs_sum (fun v => ((True ∧ zs_in (v.2).toInt 1 8)) ∧ v.2.toInt = c + 1) (fun v => False) r) := by
  unfold BX9_netsTo_72
  refine zs_ite (fun c1 => ?_) (fun c1 => ?_)
  · skip
    have r2 := (zs_I_eq c1)
    refine zs_bd_ (zc_68 h_x5) (fun t_2 pt_2 => ?_)
    refine zs_ite (fun c3 => ?_) (fun c3 => ?_)
    · skip
      have r4 := (zs_I_eq c3)
      have g5 : zs_in (t_2).toInt 1 1 := (zs_eql 1 1 r4 pt_2 zlI_1 (by decide))
      obtain ⟨ret, er, hr⟩ := zc_69 h_σ h_x1 h_x4 hc
      refine ⟨ret, er, ?_⟩
      exact (zs_sumw hr (fun v w => ⟨w.1, w.2⟩) (fun v w => w.elim))
    · skip
      have r6 := (zs_I_eqn c3)
      have g7 : zs_in (t_2).toInt 0 0 := (zs_neh 0 0 r6 pt_2 zlI_1 (by decide))
      obtain ⟨ret, er, hr⟩ := zc_67 h_σ h_x1 h_x4 hc
      refine ⟨ret, er, ?_⟩
      exact (zs_sumw hr (fun v w => ⟨w.1, w.2⟩) (fun v w => w.elim))
  · skip
    have r8 := (zs_I_eqn c1)
    obtain ⟨ret, er, hr⟩ := zc_67 h_σ h_x1 h_x4 hc
    refine ⟨ret, er, ?_⟩
    exact (zs_sumw hr (fun v w => ⟨w.1, w.2⟩) (fun v w => w.elim))
-- BX9_netsTo_5
theorem zc_71 {σ0 : sn_S} {σ : sn_S} (h_σ : zs_M σ0 σ) {x1 : Int32} (h_x1 : zs_in x1.toInt 0 5) {x2 : Int32} {x3 : Int32} {x4 : Int32} (h_x4 : zs_in x4.toInt 0 8) {c : Int} (hc : x4.toInt = c + 0) : zs_ok (BX9_netsTo_5 σ x1 x2 x3 x4) (fun r => zs_sum (fun v => ((True ∧ zs_in (v.2).toInt 1 8)) ∧ v.2.toInt = c + 1) (fun v => True) r) := by
  unfold BX9_netsTo_5
  refine zs_gd (zs_gin zlI_7 (by decide)) ?_
  refine zs_ite (fun c1 => ?_) (fun c1 => ?_)
  · skip
    have r2 := (zs_I_le c1)
    exact zs_some (zs_inr (trivial))
  · skip
    have r3 := (zs_I_len c1)
    have g4 : zs_in (x4).toInt 0 7 := (zs_ltl 0 7 r3 h_x4 (zs_rdk (q := 1) (k := (7 : Int32).toNatClampNeg) (z := (0, 8)) h_σ.1 rfl) (by decide))
    have g5 : zs_in ((sn_I σ 1 (7 : Int32).toNatClampNeg)).toInt 1 8 := (zs_ltr 1 8 r3 h_x4 (zs_rdk (q := 1) (k := (7 : Int32).toNatClampNeg) (z := (0, 8)) h_σ.1 rfl) (by decide))
    refine zs_gd (zs_gin (zs_addI 33 47 zlI_33 (zs_mulI 0 14 zlI_2 g4 (by decide)) (by decide)) (by decide)) ?_
    refine zs_lt (Q := fun z => zs_in z.toInt 0 5) (zs_rdb (q := 1) (lo := 0) (hi := 5) h_σ.1 (zs_cases g4 (fun z => zs_bd (zs_tM 1 ((33 : Int32) + ((2 : Int32) * z)).toNatClampNeg) 0 5) (by decide +kernel))) (fun y_4 hy_4 => ?_)
    refine zs_gd (zs_gin (zs_addI 34 48 (zs_addI 33 47 zlI_33 (zs_mulI 0 14 zlI_2 g4 (by decide)) (by decide)) zlI_1 (by decide)) (by decide)) ?_
    refine zs_lt (Q := fun z => zs_in z.toInt 0 5) (zs_rdb (q := 1) (lo := 0) (hi := 5) h_σ.1 (zs_cases g4 (fun z => zs_bd (zs_tM 1 (((33 : Int32) + ((2 : Int32) * z)) + (1 : Int32)).toNatClampNeg) 0 5) (by decide +kernel))) (fun y_7 hy_7 => ?_)
    refine zs_ite (fun c6 => ?_) (fun c6 => ?_)
    · skip
      have r7 := (zs_I_eq c6)
      have g8 : zs_in ((sn_I σ 0 19)).toInt 0 7 := (zs_eqr 0 7 r7 g4 (zs_topI _) (by decide))
      obtain ⟨ret, er, hr⟩ := zc_67 h_σ h_x1 g4 hc
      refine ⟨ret, er, ?_⟩
      exact (zs_sumw hr (fun v w => ⟨w.1, w.2⟩) (fun v w => w.elim))
    · skip
      have r9 := (zs_I_eqn c6)
      refine zs_ite (fun c10 => ?_) (fun c10 => ?_)
      · skip
        have r11 := (zs_I_eq c10)
        refine zs_bd_ (zc_68 hy_7) (fun t_11 pt_11 => ?_)
        refine zs_ite (fun c12 => ?_) (fun c12 => ?_)
        · skip
          have r13 := (zs_I_eq c12)
          have g14 : zs_in (t_11).toInt 1 1 := (zs_eql 1 1 r13 pt_11 zlI_1 (by decide))
          obtain ⟨ret, er, hr⟩ := zc_69 h_σ h_x1 g4 hc
          refine ⟨ret, er, ?_⟩
          exact (zs_sumw hr (fun v w => ⟨w.1, w.2⟩) (fun v w => w.elim))
        · skip
          have r15 := (zs_I_eqn c12)
          have g16 : zs_in (t_11).toInt 0 0 := (zs_neh 0 0 r15 pt_11 zlI_1 (by decide))
          obtain ⟨ret, er, hr⟩ := zc_70 h_σ h_x1 g4 hy_4 hy_7 hc
          refine ⟨ret, er, ?_⟩
          exact (zs_sumw hr (fun v w => ⟨w.1, w.2⟩) (fun v w => w.elim))
      · skip
        have r17 := (zs_I_eqn c10)
        obtain ⟨ret, er, hr⟩ := zc_70 h_σ h_x1 g4 hy_4 hy_7 hc
        refine ⟨ret, er, ?_⟩
        exact (zs_sumw hr (fun v w => ⟨w.1, w.2⟩) (fun v w => w.elim))
theorem zd_11 {σ0 : sn_S} {σ : sn_S} (h_σ : zs_M σ0 σ) {x1 : Int32} (h_x1 : zs_in x1.toInt 0 5) {x2 : Int32} {s0 : (Int32 × Int32)} (h0 : (True ∧ zs_in (s0.2).toInt 0 8)) : zs_ok (sn_it (LX9_netsTo_5 σ x1 x2) 5000 s0) (fun t => True) := by
  refine zs_it (I := fun s => (True ∧ zs_in (s.2).toInt 0 8)) (m := fun s => 8 - s.2.toInt) (fun s hs => ?_) (fun s hs => ?_) (by exact h0)
  · have h1 := hs.2; unfold zs_in at h1
    omega
  · obtain ⟨b, eb, hb⟩ := zc_71 h_σ h_x1 hs.2 (c := s.2.toInt) (Int.add_zero _).symm
    exact ⟨b, eb, zs_sumw hb (fun v w => ⟨⟨w.1.1, (zs_w w.1.2 (by decide))⟩, by have := w.2; omega⟩) (fun v w => w)⟩
-- fX9_netsTo
theorem zc_72 {σ0 : sn_S} {σ : sn_S} (h_σ : zs_M σ0 σ) {x1 : Int32} (h_x1 : zs_in x1.toInt 0 5) {x2 : Int32} : zs_ok (fX9_netsTo σ x1 x2) (fun r => True) := by
  unfold fX9_netsTo
  refine zs_bd_ (zd_11 h_σ h_x1 (s0 := ((0 : Int32), (0 : Int32))) ⟨trivial, (zs_w zlI_0 (by decide))⟩) (fun t_1 pt_1 => ?_)
  obtain ⟨ret, er, hr⟩ := zc_37 h_σ
  refine ⟨ret, er, ?_⟩
  exact hr
-- fX9_bit
theorem zc_73 {x0 : Int32} {x1 : Int32} (h_x1 : zs_in x1.toInt 1 29) : zs_ok (fX9_bit x0 x1) (fun r => zs_in (r).toInt 0 1) := by
  unfold fX9_bit
  exact zs_some (zs_and zlI_1 (by decide))
-- BX9_goMinute_225
theorem zc_74 {σ0 : sn_S} {σ : sn_S} (h_σ : zs_M σ0 σ) {x1 : Int32} (h_x1 : zs_in x1.toInt 1 29) {x2 : Int32} {x3 : Int32} (h_x3 : zs_in x3.toInt 0 5) {c : Int} (hc : x3.toInt = c + 0) : zs_ok (BX9_goMinute_225 σ x1 x2 x3) (fun r => zs_sum (fun v => ((zs_M σ0 v.1 ∧ zs_in (v.2).toInt 1 6)) ∧ v.2.toInt = c + 1) (fun v => False) r) := by
  unfold BX9_goMinute_225
  refine zs_lt (Q := fun z => zs_in z.toInt 1 6 ∧ z.toInt = c + 1) ⟨(zs_addI 1 6 h_x3 zlI_1 (by decide)), (zs_syI 1 hc h_x3 zlI_1 (by decide) (by decide))⟩ (fun y_1 hy_1 => ?_)
  exact zs_some (zs_inl ⟨⟨h_σ, hy_1.1⟩, hy_1.2⟩)
-- BX9_goMinute_192
theorem zc_75 {σ0 : sn_S} {σ : sn_S} (h_σ : zs_M σ0 σ) {x1 : Int32} (h_x1 : zs_in x1.toInt 1 29) {x2 : Int32} {x3 : Int32} (h_x3 : zs_in x3.toInt 0 5) {x7 : Int32} (h_x7 : zs_in x7.toInt 0 0) {t1 : Int32} (h_t1 : zs_in t1.toInt 6 179) {t2 : Int32} (h_t2 : zs_in t2.toInt (-2147483648) 98) {c : Int} (hc : x3.toInt = c + 0) : zs_ok (BX9_goMinute_192 σ x1 x2 x3 x7 t1 t2) (fun r => zs_sum (fun v => ((zs_M σ0 v.1 ∧ zs_in (v.2).toInt 1 6)) ∧ v.2.toInt = c + 1) (fun v => False) r) := by
  unfold BX9_goMinute_192
  obtain rfl : x7 = (0 : Int32) := zs_eqv h_x7 (by decide)
  refine zs_gd (zs_gin h_t1 (by decide)) ?_
  refine zs_lt (Q := fun z => zs_M σ0 z) (zs_wrt h_σ (fun _ => rfl) (fun _ => rfl)) (fun σ_2 hσ_2 => ?_)
  refine zs_ite (fun c1 => ?_) (fun c1 => ?_)
  · skip
    have r2 := (zs_I_eq c1)
    obtain ⟨ret, er, hr⟩ := zc_74 hσ_2 h_x1 h_x3 hc
    refine ⟨ret, er, ?_⟩
    exact (zs_sumw hr (fun v w => ⟨w.1, w.2⟩) (fun v w => w.elim))
  · skip
    have r3 := (zs_I_eqn c1)
    exact (zs_botne r3 h_x7 zlI_0 (by decide)).elim
-- BX9_goMinute_145
theorem zc_76 {σ0 : sn_S} {σ : sn_S} (h_σ : zs_M σ0 σ) {x1 : Int32} (h_x1 : zs_in x1.toInt 1 29) {x2 : Int32} {x3 : Int32} (h_x3 : zs_in x3.toInt 0 5) {x4 : Int32} {x5 : Int32} {x6 : Int32} (h_x6 : zs_in x6.toInt (-2147483648) 98) {t0 : Int32} (h_t0 : zs_in t0.toInt 0 0) {c : Int} (hc : x3.toInt = c + 0) : zs_ok (BX9_goMinute_145 σ x1 x2 x3 x4 x5 x6 t0) (fun r => zs_sum (fun v => ((zs_M σ0 v.1 ∧ zs_in (v.2).toInt 1 6)) ∧ v.2.toInt = c + 1) (fun v => False) r) := by
  unfold BX9_goMinute_145
  obtain rfl : t0 = (0 : Int32) := zs_eqv h_t0 (by decide)
  refine zs_gd (zs_gin h_x3 (by decide)) ?_
  refine zs_gd (zs_gin h_x3 (by decide)) ?_
  refine zs_lt (Q := fun z => zs_M σ0 z) (zs_wrt h_σ (fun _ => rfl) (fun _ => rfl)) (fun σ_3 hσ_3 => ?_)
  refine zs_gd (zs_gin (zs_addI 6 179 (zs_mulI 6 174 zlI_6 h_x1 (by decide)) h_x3 (by decide)) (by decide)) ?_
  refine zs_lt (Q := fun z => zs_M σ0 z) (zs_wrt hσ_3 (fun _ => rfl) (fun _ => rfl)) (fun σ_6 hσ_6 => ?_)
  refine zs_ite (fun c1 => ?_) (fun c1 => ?_)
  · skip
    have r2 := (zs_I_eq c1)
    obtain ⟨ret, er, hr⟩ := zc_75 hσ_6 h_x1 h_x3 h_t0 (zs_addI 6 179 (zs_mulI 6 174 zlI_6 h_x1 (by decide)) h_x3 (by decide)) h_x6 hc
    refine ⟨ret, er, ?_⟩
    exact (zs_sumw hr (fun v w => ⟨w.1, w.2⟩) (fun v w => w.elim))
  · skip
    have r3 := (zs_I_eqn c1)
    exact (zs_botne r3 h_t0 zlI_0 (by decide)).elim
-- BX9_goMinute_144
theorem zc_77 {σ0 : sn_S} {σ : sn_S} (h_σ : zs_M σ0 σ) {x1 : Int32} (h_x1 : zs_in x1.toInt 1 29) {x2 : Int32} {x3 : Int32} (h_x3 : zs_in x3.toInt 0 5) {x4 : Int32} {x5 : Int32} {x6 : Int32} (h_x6 : zs_in x6.toInt (-2147483648) 98) {c : Int} (hc : x3.toInt = c + 0) : zs_ok (BX9_goMinute_144 σ x1 x2 x3 x4 x5 x6) (fun r => zs_sum (fun v => ((zs_M σ0 v.1 ∧ zs_in (v.2).toInt 1 6)) ∧ v.2.toInt = c + 1) (fun v => False) r) := by
  unfold BX9_goMinute_144
  obtain ⟨ret, er, hr⟩ := zc_76 h_σ h_x1 h_x3 h_x6 zlI_0 hc
  refine ⟨ret, er, ?_⟩
  exact (zs_sumw hr (fun v w => ⟨w.1, w.2⟩) (fun v w => w.elim))
-- BX9_goMinute_192
theorem zc_78 {σ0 : sn_S} {σ : sn_S} (h_σ : zs_M σ0 σ) {x1 : Int32} (h_x1 : zs_in x1.toInt 1 29) {x2 : Int32} {x3 : Int32} (h_x3 : zs_in x3.toInt 0 5) {x7 : Int32} (h_x7 : zs_in x7.toInt 1 1) {t1 : Int32} (h_t1 : zs_in t1.toInt 6 179) {t2 : Int32} (h_t2 : zs_in t2.toInt 0 0) {c : Int} (hc : x3.toInt = c + 0) : zs_ok (BX9_goMinute_192 σ x1 x2 x3 x7 t1 t2) (fun r => zs_sum (fun v => ((zs_M σ0 v.1 ∧ zs_in (v.2).toInt 1 6)) ∧ v.2.toInt = c + 1) (fun v => False) r) := by
  unfold BX9_goMinute_192
  obtain rfl : x7 = (1 : Int32) := zs_eqv h_x7 (by decide)
  obtain rfl : t2 = (0 : Int32) := zs_eqv h_t2 (by decide)
  refine zs_gd (zs_gin h_t1 (by decide)) ?_
  refine zs_lt (Q := fun z => zs_M σ0 z) (zs_wrt h_σ (fun _ => rfl) (fun _ => rfl)) (fun σ_2 hσ_2 => ?_)
  refine zs_ite (fun c1 => ?_) (fun c1 => ?_)
  · skip
    have r2 := (zs_I_eq c1)
    exact (zs_botr r2 h_x7 zlI_0 (by decide)).elim
  · skip
    have r3 := (zs_I_eqn c1)
    refine zs_gd (zs_gin h_x1 (by decide)) ?_
    refine zs_gd (zs_gin h_x1 (by decide)) ?_
    refine zs_lt (Q := fun z => zs_M σ0 z) (zs_wrt hσ_2 (fun _ => rfl) (fun _ => rfl)) (fun σ_7 hσ_7 => ?_)
    refine zs_gd (zs_gin h_x3 (by decide)) ?_
    refine zs_gd (zs_gin h_x3 (by decide)) ?_
    refine zs_lt (Q := fun z => zs_M σ0 z) (zs_wru (z := (0, 1073741823)) hσ_7 (fun _ => rfl) (zs_or 30 1073741823 (zs_rdu (q := 10) (z := (0, 1073741823)) hσ_7.1 (fun _ => rfl)) (zs_cases h_x1 (fun z => zs_in ((1 : Int32) <<< (z &&& 31)).toInt 2 536870912) (by decide +kernel)) (by decide)) (by decide) (fun _ => rfl)) (fun σ_11 hσ_11 => ?_)
    obtain ⟨ret, er, hr⟩ := zc_74 hσ_11 h_x1 h_x3 hc
    refine ⟨ret, er, ?_⟩
    exact (zs_sumw hr (fun v w => ⟨w.1, w.2⟩) (fun v w => w.elim))
-- BX9_goMinute_145
theorem zc_79 {σ0 : sn_S} {σ : sn_S} (h_σ : zs_M σ0 σ) {x1 : Int32} (h_x1 : zs_in x1.toInt 1 29) {x2 : Int32} {x3 : Int32} (h_x3 : zs_in x3.toInt 0 5) {x4 : Int32} {x5 : Int32} {x6 : Int32} (h_x6 : zs_in x6.toInt 0 2147483647) {t0 : Int32} (h_t0 : zs_in t0.toInt 1 1) {c : Int} (hc : x3.toInt = c + 0) : zs_ok (BX9_goMinute_145 σ x1 x2 x3 x4 x5 x6 t0) (fun r => zs_sum (fun v => ((zs_M σ0 v.1 ∧ zs_in (v.2).toInt 1 6)) ∧ v.2.toInt = c + 1) (fun v => False) r) := by
  unfold BX9_goMinute_145
  obtain rfl : t0 = (1 : Int32) := zs_eqv h_t0 (by decide)
  refine zs_gd (zs_gin h_x3 (by decide)) ?_
  refine zs_gd (zs_gin h_x3 (by decide)) ?_
  refine zs_lt (Q := fun z => zs_M σ0 z) (zs_wrt h_σ (fun _ => rfl) (fun _ => rfl)) (fun σ_3 hσ_3 => ?_)
  refine zs_gd (zs_gin (zs_addI 6 179 (zs_mulI 6 174 zlI_6 h_x1 (by decide)) h_x3 (by decide)) (by decide)) ?_
  refine zs_lt (Q := fun z => zs_M σ0 z) (zs_wrt hσ_3 (fun _ => rfl) (fun _ => rfl)) (fun σ_6 hσ_6 => ?_)
  refine zs_ite (fun c1 => ?_) (fun c1 => ?_)
  · skip
    have r2 := (zs_I_eq c1)
    exact (zs_botr r2 h_t0 zlI_0 (by decide)).elim
  · skip
    have r3 := (zs_I_eqn c1)
    obtain ⟨ret, er, hr⟩ := zc_78 hσ_6 h_x1 h_x3 h_t0 (zs_addI 6 179 (zs_mulI 6 174 zlI_6 h_x1 (by decide)) h_x3 (by decide)) zlI_0 hc
    refine ⟨ret, er, ?_⟩
    exact (zs_sumw hr (fun v w => ⟨w.1, w.2⟩) (fun v w => w.elim))
-- BX9_goMinute_192
theorem zc_80 {σ0 : sn_S} {σ : sn_S} (h_σ : zs_M σ0 σ) {x1 : Int32} (h_x1 : zs_in x1.toInt 1 29) {x2 : Int32} {x3 : Int32} (h_x3 : zs_in x3.toInt 0 5) {x7 : Int32} (h_x7 : zs_in x7.toInt 0 0) {t1 : Int32} (h_t1 : zs_in t1.toInt 6 179) {t2 : Int32} (h_t2 : zs_in t2.toInt 0 2147483647) {c : Int} (hc : x3.toInt = c + 0) : zs_ok (BX9_goMinute_192 σ x1 x2 x3 x7 t1 t2) (fun r => zs_sum (fun v => ((zs_M σ0 v.1 ∧ zs_in (v.2).toInt 1 6)) ∧ v.2.toInt = c + 1) (fun v => False) r) := by
  unfold BX9_goMinute_192
  obtain rfl : x7 = (0 : Int32) := zs_eqv h_x7 (by decide)
  refine zs_gd (zs_gin h_t1 (by decide)) ?_
  refine zs_lt (Q := fun z => zs_M σ0 z) (zs_wrt h_σ (fun _ => rfl) (fun _ => rfl)) (fun σ_2 hσ_2 => ?_)
  refine zs_ite (fun c1 => ?_) (fun c1 => ?_)
  · skip
    have r2 := (zs_I_eq c1)
    obtain ⟨ret, er, hr⟩ := zc_74 hσ_2 h_x1 h_x3 hc
    refine ⟨ret, er, ?_⟩
    exact (zs_sumw hr (fun v w => ⟨w.1, w.2⟩) (fun v w => w.elim))
  · skip
    have r3 := (zs_I_eqn c1)
    exact (zs_botne r3 h_x7 zlI_0 (by decide)).elim
-- BX9_goMinute_145
theorem zc_81 {σ0 : sn_S} {σ : sn_S} (h_σ : zs_M σ0 σ) {x1 : Int32} (h_x1 : zs_in x1.toInt 1 29) {x2 : Int32} {x3 : Int32} (h_x3 : zs_in x3.toInt 0 5) {x4 : Int32} {x5 : Int32} {x6 : Int32} (h_x6 : zs_in x6.toInt 0 2147483647) {t0 : Int32} (h_t0 : zs_in t0.toInt 0 0) {c : Int} (hc : x3.toInt = c + 0) : zs_ok (BX9_goMinute_145 σ x1 x2 x3 x4 x5 x6 t0) (fun r => zs_sum (fun v => ((zs_M σ0 v.1 ∧ zs_in (v.2).toInt 1 6)) ∧ v.2.toInt = c + 1) (fun v => False) r) := by
  unfold BX9_goMinute_145
  obtain rfl : t0 = (0 : Int32) := zs_eqv h_t0 (by decide)
  refine zs_gd (zs_gin h_x3 (by decide)) ?_
  refine zs_gd (zs_gin h_x3 (by decide)) ?_
  refine zs_lt (Q := fun z => zs_M σ0 z) (zs_wrt h_σ (fun _ => rfl) (fun _ => rfl)) (fun σ_3 hσ_3 => ?_)
  refine zs_gd (zs_gin (zs_addI 6 179 (zs_mulI 6 174 zlI_6 h_x1 (by decide)) h_x3 (by decide)) (by decide)) ?_
  refine zs_lt (Q := fun z => zs_M σ0 z) (zs_wrt hσ_3 (fun _ => rfl) (fun _ => rfl)) (fun σ_6 hσ_6 => ?_)
  refine zs_ite (fun c1 => ?_) (fun c1 => ?_)
  · skip
    have r2 := (zs_I_eq c1)
    obtain ⟨ret, er, hr⟩ := zc_80 hσ_6 h_x1 h_x3 h_t0 (zs_addI 6 179 (zs_mulI 6 174 zlI_6 h_x1 (by decide)) h_x3 (by decide)) h_x6 hc
    refine ⟨ret, er, ?_⟩
    exact (zs_sumw hr (fun v w => ⟨w.1, w.2⟩) (fun v w => w.elim))
  · skip
    have r3 := (zs_I_eqn c1)
    exact (zs_botne r3 h_t0 zlI_0 (by decide)).elim
-- BX9_goMinute_144
theorem zc_82 {σ0 : sn_S} {σ : sn_S} (h_σ : zs_M σ0 σ) {x1 : Int32} (h_x1 : zs_in x1.toInt 1 29) {x2 : Int32} {x3 : Int32} (h_x3 : zs_in x3.toInt 0 5) {x4 : Int32} {x5 : Int32} {x6 : Int32} (h_x6 : zs_in x6.toInt 0 2147483647) {c : Int} (hc : x3.toInt = c + 0) : zs_ok (BX9_goMinute_144 σ x1 x2 x3 x4 x5 x6) (fun r => zs_sum (fun v => ((zs_M σ0 v.1 ∧ zs_in (v.2).toInt 1 6)) ∧ v.2.toInt = c + 1) (fun v => False) r) := by
  unfold BX9_goMinute_144
  obtain ⟨ret, er, hr⟩ := zc_81 h_σ h_x1 h_x3 h_x6 zlI_0 hc
  refine ⟨ret, er, ?_⟩
  exact (zs_sumw hr (fun v w => ⟨w.1, w.2⟩) (fun v w => w.elim))
-- BX9_goMinute_104
theorem zc_83 {σ0 : sn_S} {σ : sn_S} (h_σ : zs_M σ0 σ) {x1 : Int32} (h_x1 : zs_in x1.toInt 1 29) {x2 : Int32} {x3 : Int32} (h_x3 : zs_in x3.toInt 0 5) {x4 : Int32} {x5 : Int32} {t0 : Int32} {c : Int} (hc : x3.toInt = c + 0) : zs_ok (BX9_goMinute_104 σ x1 x2 x3 x4 x5 t0) (fun r => zs_sum (fun v => ((zs_M σ0 v.1 ∧ zs_in (v.2).toInt 1 6)) ∧ v.2.toInt = c + 1) (fun v => False) r) := by
  unfold BX9_goMinute_104
  refine zs_lt (Q := fun z => True) trivial (fun y_1 hy_1 => ?_)
  refine zs_gd (zs_gin (zs_addI 12 22 (zs_addI 11 21 zlI_11 (zs_mulI 0 10 zlI_2 h_x3 (by decide)) (by decide)) zlI_1 (by decide)) (by decide)) ?_
  refine zs_ite (fun c1 => ?_) (fun c1 => ?_)
  · skip
    have r2 := (zs_I_lt c1)
    have g3 : zs_in (y_1).toInt (-2147483648) 98 := (zs_ltl (-2147483648) 98 r2 (zs_topI _) (zs_rdb (q := 1) (lo := 0) (hi := 99) h_σ.1 (zs_cases h_x3 (fun z => zs_bd (zs_tM 1 (((11 : Int32) + ((2 : Int32) * z)) + (1 : Int32)).toNatClampNeg) 0 99) (by decide +kernel))) (by decide))
    obtain ⟨ret, er, hr⟩ := zc_77 h_σ h_x1 h_x3 g3 hc
    refine ⟨ret, er, ?_⟩
    exact (zs_sumw hr (fun v w => ⟨w.1, w.2⟩) (fun v w => w.elim))
  · skip
    have r4 := (zs_I_ltn c1)
    have g5 : zs_in (y_1).toInt 0 2147483647 := (zs_ler 0 2147483647 r4 (zs_rdb (q := 1) (lo := 0) (hi := 99) h_σ.1 (zs_cases h_x3 (fun z => zs_bd (zs_tM 1 (((11 : Int32) + ((2 : Int32) * z)) + (1 : Int32)).toNatClampNeg) 0 99) (by decide +kernel))) (zs_topI _) (by decide))
    refine zs_gd (zs_gin h_x3 (by decide)) ?_
    refine zs_bd_ (zc_73 h_x1) (fun t_6 pt_6 => ?_)
    refine zs_ite (fun c6 => ?_) (fun c6 => ?_)
    · skip
      have r7 := (zs_I_eq c6)
      have g8 : zs_in (t_6).toInt 0 0 := (zs_eql 0 0 r7 pt_6 zlI_0 (by decide))
      obtain ⟨ret, er, hr⟩ := zc_79 h_σ h_x1 h_x3 g5 zlI_1 hc
      refine ⟨ret, er, ?_⟩
      exact (zs_sumw hr (fun v w => ⟨w.1, w.2⟩) (fun v w => w.elim))
    · skip
      have r9 := (zs_I_eqn c6)
      have g10 : zs_in (t_6).toInt 1 1 := (zs_nel 1 1 r9 pt_6 zlI_0 (by decide))
      obtain ⟨ret, er, hr⟩ := zc_82 h_σ h_x1 h_x3 g5 hc
      refine ⟨ret, er, ?_⟩
      exact (zs_sumw hr (fun v w => ⟨w.1, w.2⟩) (fun v w => w.elim))
-- BX9_goMinute_26
theorem zc_84 {σ0 : sn_S} {σ : sn_S} (h_σ : zs_M σ0 σ) {x1 : Int32} (h_x1 : zs_in x1.toInt 1 29) {x2 : Int32} {x3 : Int32} (h_x3 : zs_in x3.toInt 0 6) {c : Int} (hc : x3.toInt = c + 0) : zs_ok (BX9_goMinute_26 σ x1 x2 x3) (fun r => zs_sum (fun v => ((zs_M σ0 v.1 ∧ zs_in (v.2).toInt 1 6)) ∧ v.2.toInt = c + 1) (fun v => zs_M σ0 v) r) := by
  unfold BX9_goMinute_26
  refine zs_gd (zs_gin zlI_5 (by decide)) ?_
  refine zs_ite (fun c1 => ?_) (fun c1 => ?_)
  · skip
    have r2 := (zs_I_le c1)
    exact zs_some (zs_inr (h_σ))
  · skip
    have r3 := (zs_I_len c1)
    have g4 : zs_in (x3).toInt 0 5 := (zs_ltl 0 5 r3 h_x3 (zs_rdk (q := 1) (k := (5 : Int32).toNatClampNeg) (z := (0, 6)) h_σ.1 rfl) (by decide))
    have g5 : zs_in ((sn_I σ 1 (5 : Int32).toNatClampNeg)).toInt 1 6 := (zs_ltr 1 6 r3 h_x3 (zs_rdk (q := 1) (k := (5 : Int32).toNatClampNeg) (z := (0, 6)) h_σ.1 rfl) (by decide))
    refine zs_bd_ (zc_72 h_σ g4) (fun t_3 pt_3 => ?_)
    refine zs_lt (Q := fun z => True) trivial (fun y_5 hy_5 => ?_)
    refine zs_gd (zs_gin (zs_addI 11 21 zlI_11 (zs_mulI 0 10 zlI_2 g4 (by decide)) (by decide)) (by decide)) ?_
    refine zs_gd (zs_gin h_x1 (by decide)) ?_
    refine zs_gd (zs_gin g4 (by decide)) ?_
    refine zs_bd_ (zc_73 h_x1) (fun t_10 pt_10 => ?_)
    refine zs_lt (Q := fun z => True) trivial (fun y_12 hy_12 => ?_)
    refine zs_ite (fun c6 => ?_) (fun c6 => ?_)
    · skip
      have r7 := (zs_I_eq c6)
      exact (zs_botr r7 h_x1 zlI_0 (by decide)).elim
    · skip
      have r8 := (zs_I_eqn c6)
      refine zs_gd (zs_gin (zs_addI 0 173 (zs_mulI 0 168 zlI_6 (zs_subI 0 28 h_x1 zlI_1 (by decide)) (by decide)) g4 (by decide)) (by decide)) ?_
      obtain ⟨ret, er, hr⟩ := zc_83 h_σ h_x1 g4 hc
      refine ⟨ret, er, ?_⟩
      exact (zs_sumw hr (fun v w => ⟨w.1, w.2⟩) (fun v w => w.elim))
theorem zd_12 {σ0 : sn_S} {x1 : Int32} (h_x1 : zs_in x1.toInt 1 29) {x2 : Int32} {s0 : (sn_S × Int32)} (h0 : (zs_M σ0 s0.1 ∧ zs_in (s0.2).toInt 0 6)) : zs_ok (sn_it (LX9_goMinute_26 x1 x2) 5000 s0) (fun t => zs_M σ0 t) := by
  refine zs_it (I := fun s => (zs_M σ0 s.1 ∧ zs_in (s.2).toInt 0 6)) (m := fun s => 6 - s.2.toInt) (fun s hs => ?_) (fun s hs => ?_) (by exact h0)
  · have h1 := hs.2; unfold zs_in at h1
    omega
  · obtain ⟨b, eb, hb⟩ := zc_84 hs.1 h_x1 hs.2 (c := s.2.toInt) (Int.add_zero _).symm
    exact ⟨b, eb, zs_sumw hb (fun v w => ⟨⟨w.1.1, (zs_w w.1.2 (by decide))⟩, by have := w.2; omega⟩) (fun v w => w)⟩
-- BX9_goMinute_23
theorem zc_85 {σ0 : sn_S} {σ : sn_S} (h_σ : zs_M σ0 σ) {x1 : Int32} (h_x1 : zs_in x1.toInt 1 29) {t0 : Int32} : zs_ok (BX9_goMinute_23 σ x1 t0) (fun r => zs_M σ0 r) := by
  unfold BX9_goMinute_23
  refine zs_bd_ (zd_12 h_x1 (s0 := (σ, (0 : Int32))) ⟨h_σ, (zs_w zlI_0 (by decide))⟩) (fun t_1 pt_1 => ?_)
  obtain ⟨ret, er, hr⟩ := zc_65 pt_1
  refine ⟨ret, er, ?_⟩
  exact hr
-- fX9_goMinute
theorem zc_86 {σ0 : sn_S} {σ : sn_S} (h_σ : zs_M σ0 σ) {x1 : Int32} (h_x1 : zs_in x1.toInt 0 29) : zs_ok (fX9_goMinute σ x1) (fun r => zs_M σ0 r) := by
  unfold fX9_goMinute
  refine zs_gd (zs_gin h_x1 (by decide)) ?_
  refine zs_lt (Q := fun z => zs_M σ0 z) (zs_wrt h_σ (fun _ => rfl) (fun _ => rfl)) (fun σ_2 hσ_2 => ?_)
  refine zs_ite (fun c1 => ?_) (fun c1 => ?_)
  · skip
    have r2 := (zs_I_eq c1)
    have g3 : zs_in (x1).toInt 0 0 := (zs_eql 0 0 r2 h_x1 zlI_0 (by decide))
    obtain ⟨ret, er, hr⟩ := zc_66 hσ_2 g3 zlI_0
    refine ⟨ret, er, ?_⟩
    exact hr
  · skip
    have r4 := (zs_I_eqn c1)
    have g5 : zs_in (x1).toInt 1 29 := (zs_nel 1 29 r4 h_x1 zlI_0 (by decide))
    refine zs_gd (zs_gin (zs_subI 0 28 g5 zlI_1 (by decide)) (by decide)) ?_
    obtain ⟨ret, er, hr⟩ := zc_85 hσ_2 g5
    refine ⟨ret, er, ?_⟩
    exact hr
-- BX9_goAll_30
theorem zc_87 {σ0 : sn_S} {σ : sn_S} (h_σ : zs_M σ0 σ) {x1 : Int32} (h_x1 : zs_in x1.toInt 0 30) {c : Int} (hc : x1.toInt = c + 0) : zs_ok (BX9_goAll_30 σ x1) (fun r => zs_sum (fun v => ((zs_M σ0 v.1 ∧ zs_in (v.2).toInt 1 30)) ∧ v.2.toInt = c + 1) (fun v => zs_M σ0 v) r) := by
  unfold BX9_goAll_30
  refine zs_ite (fun c1 => ?_) (fun c1 => ?_)
  · skip
    have r2 := (zs_I_lt c1)
    exact zs_some (zs_inr (h_σ))
  · skip
    have r3 := (zs_I_ltn c1)
    have g4 : zs_in (x1).toInt 0 29 := (zs_lel 0 29 r3 h_x1 (zs_rdk (q := 0) (k := 22) (z := ((-1), 29)) h_σ.1 rfl) (by decide))
    have g5 : zs_in ((sn_I σ 0 22)).toInt 0 29 := (zs_ler 0 29 r3 h_x1 (zs_rdk (q := 0) (k := 22) (z := ((-1), 29)) h_σ.1 rfl) (by decide))
    refine zs_bd_ (zc_86 h_σ g4) (fun t_2 pt_2 => ?_)
    refine zs_lt (Q := fun z => zs_in z.toInt 1 30 ∧ z.toInt = c + 1) ⟨(zs_addI 1 30 g4 zlI_1 (by decide)), (zs_syI 1 hc g4 zlI_1 (by decide) (by decide))⟩ (fun y_4 hy_4 => ?_)
    exact zs_some (zs_inl ⟨⟨pt_2, hy_4.1⟩, hy_4.2⟩)
theorem zd_13 {σ0 : sn_S}  {s0 : (sn_S × Int32)} (h0 : (zs_M σ0 s0.1 ∧ zs_in (s0.2).toInt 0 30)) : zs_ok (sn_it (LX9_goAll_30) 5000 s0) (fun t => zs_M σ0 t) := by
  refine zs_it (I := fun s => (zs_M σ0 s.1 ∧ zs_in (s.2).toInt 0 30)) (m := fun s => 30 - s.2.toInt) (fun s hs => ?_) (fun s hs => ?_) (by exact h0)
  · have h1 := hs.2; unfold zs_in at h1
    omega
  · obtain ⟨b, eb, hb⟩ := zc_87 hs.1 hs.2 (c := s.2.toInt) (Int.add_zero _).symm
    exact ⟨b, eb, zs_sumw hb (fun v w => ⟨⟨w.1.1, (zs_w w.1.2 (by decide))⟩, by have := w.2; omega⟩) (fun v w => w)⟩
-- BX9_goAll_49
theorem zc_88 {σ0 : sn_S} {σ : sn_S} (h_σ : zs_M σ0 σ) : zs_ok (BX9_goAll_49 σ) (fun r => zs_M σ0 r) := by
  unfold BX9_goAll_49
  exact zs_some h_σ
-- BX9_goAll_28
theorem zc_89 {σ0 : sn_S} {σ : sn_S} (h_σ : zs_M σ0 σ) : zs_ok (BX9_goAll_28 σ) (fun r => zs_M σ0 r) := by
  unfold BX9_goAll_28
  refine zs_bd_ (zd_13  (s0 := (σ, (0 : Int32))) ⟨h_σ, (zs_w zlI_0 (by decide))⟩) (fun t_1 pt_1 => ?_)
  obtain ⟨ret, er, hr⟩ := zc_88 pt_1
  refine ⟨ret, er, ?_⟩
  exact hr
-- fX9_goAll
theorem zc_90 {σ0 : sn_S} {σ : sn_S} (h_σ : zs_M σ0 σ) : zs_ok (fX9_goAll σ) (fun r => zs_M σ0 r) := by
  unfold fX9_goAll
  refine zs_bd_ (zd_8  (s0 := (σ, (0 : Int32))) ⟨h_σ, (zs_w zlI_0 (by decide))⟩) (fun t_1 pt_1 => ?_)
  obtain ⟨ret, er, hr⟩ := zc_89 pt_1
  refine ⟨ret, er, ?_⟩
  exact hr
-- fX9_isHouse
theorem zc_91 {σ0 : sn_S} {σ : sn_S} (h_σ : zs_M σ0 σ) : zs_ok (fX9_isHouse σ) (fun r => zs_in (r).toInt 0 1) := by
  unfold fX9_isHouse
  refine zs_gd (zs_gin zlI_10 (by decide)) ?_
  refine zs_ite (fun c1 => ?_) (fun c1 => ?_)
  · skip
    have r2 := (zs_I_le c1)
    have g3 : zs_in ((sn_I σ 1 (10 : Int32).toNatClampNeg)).toInt 0 0 := (zs_lel 0 0 r2 (zs_rdk (q := 1) (k := (10 : Int32).toNatClampNeg) (z := (0, 900)) h_σ.1 rfl) zlI_0 (by decide))
    refine zs_gd (zs_b01 zlI_0 (by decide)) ?_
    exact zs_some (zs_w zlI_0 (by decide))
  · skip
    have r4 := (zs_I_len c1)
    have g5 : zs_in ((sn_I σ 1 (10 : Int32).toNatClampNeg)).toInt 1 900 := (zs_ltr 1 900 r4 zlI_0 (zs_rdk (q := 1) (k := (10 : Int32).toNatClampNeg) (z := (0, 900)) h_σ.1 rfl) (by decide))
    refine zs_gd (zs_b01 zlI_1 (by decide)) ?_
    exact zs_some (zs_w zlI_1 (by decide))
-- fX9_asksHouse
theorem zc_92 {σ0 : sn_S} {σ : sn_S} (h_σ : zs_M σ0 σ) : zs_ok (fX9_asksHouse σ) (fun r => (zs_in (r.1).toInt 0 1 ∧ zs_M σ0 r.2)) := by
  unfold fX9_asksHouse
  refine zs_bd_ (zc_31 h_σ) (fun t_1 pt_1 => ?_)
  refine zs_bd_ (zc_90 pt_1) (fun t_3 pt_3 => ?_)
  refine zs_bd_ (zc_91 pt_3) (fun t_5 pt_5 => ?_)
  refine zs_gd (zs_b01 pt_5 (by decide)) ?_
  exact zs_some ⟨pt_5, pt_3⟩
-- fX9_in
theorem zc_93 {x0 : Int64} (h_x0 : zs_in x0.toInt (-2147483648) 2147483647) {x2 : Int64} (h_x2 : zs_in x2.toInt 0 0) {x4 : Int64} (h_x4 : zs_in x4.toInt (-1) 29) : zs_ok (fX9_in x0 x2 x4) (fun r => (zs_in (r).toInt 0 1) ∧ ((r).toInt = 0 ∨ (zs_in (x0).toInt 0 29 ∧ zs_in (x4).toInt 0 29))) := by
  unfold fX9_in
  refine zs_ite (fun c1 => ?_) (fun c1 => ?_)
  · skip
    have r2 := (zs_lg_lt c1)
    have g3 : zs_in (x0).toInt (-2147483648) (-1) := (zs_ltl (-2147483648) (-1) r2 h_x0 h_x2 (by decide))
    refine zs_gd (zs_b01 zlI_0 (by decide)) ?_
    exact zs_some ⟨(zs_w zlI_0 (by decide)), Or.inl (zs_ptr zlI_0)⟩
  · skip
    have r4 := (zs_lg_ltn c1)
    have g5 : zs_in (x0).toInt 0 2147483647 := (zs_ler 0 2147483647 r4 h_x2 h_x0 (by decide))
    refine zs_ite (fun c6 => ?_) (fun c6 => ?_)
    · skip
      have r7 := (zs_lg_ltf c6)
      refine zs_gd (zs_b01 zlI_0 (by decide)) ?_
      exact zs_some ⟨(zs_w zlI_0 (by decide)), Or.inl (zs_ptr zlI_0)⟩
    · skip
      have r8 := (zs_lg_ltfn c6)
      have g9 : zs_in (x0).toInt 0 29 := (zs_lel 0 29 r8 g5 h_x4 (by decide))
      have g10 : zs_in (x4).toInt 0 29 := (zs_ler 0 29 r8 g5 h_x4 (by decide))
      refine zs_gd (zs_b01 zlI_1 (by decide)) ?_
      exact zs_some ⟨(zs_w zlI_1 (by decide)), Or.inr ⟨g9, g10⟩⟩
-- fX9_isMinute
theorem zc_94 {σ0 : sn_S} {σ : sn_S} (h_σ : zs_M σ0 σ) {x1 : Int64} (h_x1 : zs_in x1.toInt (-2147483648) 2147483647) : zs_ok (fX9_isMinute σ x1) (fun r => (zs_in (r).toInt 0 1) ∧ ((r).toInt = 0 ∨ (zs_in (x1).toInt 0 29))) := by
  unfold fX9_isMinute
  refine zs_gd (zs_gin zlI_0 (by decide)) ?_
  refine zs_bd_ (zc_93 h_x1 zlL_0 (zs_64 (zs_subI (-1) 29 (zs_rdk (q := 1) (k := (0 : Int32).toNatClampNeg) (z := (0, 30)) h_σ.1 rfl) zlI_1 (by decide)))) (fun t_2 pt_2 => ?_)
  refine zs_gd (zs_b01 pt_2.1 (by decide)) ?_
  rcases pt_2.2 with z0 | z0
  · skip
    have g1 : zs_in (t_2).toInt 0 0 := (zs_pt z0)
    exact zs_some ⟨(zs_w g1 (by decide)), Or.inl (zs_ptr g1)⟩
  · skip
    have q2 := z0
    have g3 : zs_in (x1).toInt 0 29 := q2.1
    have g4 : zs_in (((sn_I σ 1 (0 : Int32).toNatClampNeg) - (1 : Int32)).toInt64).toInt 0 29 := q2.2
    have g5 : zs_in (((sn_I σ 1 (0 : Int32).toNatClampNeg) - (1 : Int32))).toInt 0 29 := (zs_64r g4)
    have g6 : zs_in ((sn_I σ 1 (0 : Int32).toNatClampNeg)).toInt 1 30 := (zs_sublI 1 30 (zs_rdk (q := 1) (k := (0 : Int32).toNatClampNeg) (z := (0, 30)) h_σ.1 rfl) zlI_1 g5 (by decide))
    exact zs_some ⟨pt_2.1, Or.inr g3⟩
-- fX9_asksMinute
theorem zc_95 {σ0 : sn_S} {σ : sn_S} (h_σ : zs_M σ0 σ) {x1 : Int32} : zs_ok (fX9_asksMinute σ x1) (fun r => ((zs_in (r.1).toInt 0 1 ∧ zs_M σ0 r.2)) ∧ ((r.1).toInt = 0 ∨ (zs_in (x1).toInt 0 29))) := by
  unfold fX9_asksMinute
  refine zs_bd_ (zc_92 h_σ) (fun t_1 pt_1 => ?_)
  refine zs_bd_ (zc_94 pt_1.2 (zs_64 (zs_topI _))) (fun t_3 pt_3 => ?_)
  refine zs_gd (zs_b01 pt_3.1 (by decide)) ?_
  rcases pt_3.2 with z0 | z0
  · skip
    have g1 : zs_in (t_3).toInt 0 0 := (zs_pt z0)
    exact zs_some ⟨⟨(zs_w g1 (by decide)), pt_1.2⟩, Or.inl (zs_ptr g1)⟩
  · skip
    have q2 := z0
    have g3 : zs_in (x1.toInt64).toInt 0 29 := q2
    have g4 : zs_in (x1).toInt 0 29 := (zs_64r g3)
    exact zs_some ⟨⟨pt_3.1, pt_1.2⟩, Or.inr g4⟩
-- fX9_dust
theorem zc_96 {σ0 : sn_S} {σ : sn_S} (h_σ : zs_M σ0 σ) {x1 : Int32} : zs_ok (fX9_dust σ x1) (fun r => ((True ∧ zs_M σ0 r.2)) ∧ ((r.1).toInt = (-2) ∨ (zs_in (x1).toInt 0 29))) := by
  unfold fX9_dust
  refine zs_bd_ (zc_95 h_σ) (fun t_1 pt_1 => ?_)
  refine zs_ite (fun c1 => ?_) (fun c1 => ?_)
  · skip
    have r2 := (zs_I_eq c1)
    have g3 : zs_in (t_1.1).toInt 0 0 := (zs_eql 0 0 r2 pt_1.1.1 zlI_0 (by decide))
    exact zs_some ⟨⟨trivial, pt_1.1.2⟩, Or.inl (zs_ptr zlI_m2)⟩
  · skip
    have r4 := (zs_I_eqn c1)
    have g5 : zs_in (t_1.1).toInt 1 1 := (zs_nel 1 1 r4 pt_1.1.1 zlI_0 (by decide))
    have q6 := (zs_or2 pt_1.2 g5 (by decide))
    have g7 : zs_in (x1).toInt 0 29 := q6
    refine zs_gd (zs_gin g7 (by decide)) ?_
    exact zs_some ⟨⟨trivial, pt_1.1.2⟩, Or.inr g7⟩
-- fX8_sneezes
theorem zc_97 {σ0 : sn_S} {σ : sn_S} (h_σ : zs_C σ0 σ) {x1 : Int32} : zs_ok (fX8_sneezes σ x1) (fun r => (zs_in (r).toInt (-2) 1073741823) ∧ ((r).toInt = (-2) ∨ (zs_in (x1).toInt 0 5))) := by
  unfold fX8_sneezes
  refine zs_bd_ (zc_3 h_σ) (fun t_1 pt_1 => ?_)
  refine zs_ite (fun c1 => ?_) (fun c1 => ?_)
  · skip
    have r2 := (zs_I_eq c1)
    have g3 : zs_in (t_1).toInt 0 0 := (zs_eql 0 0 r2 pt_1.1 zlI_0 (by decide))
    exact zs_some ⟨(zs_w zlI_m2 (by decide)), Or.inl (zs_ptr zlI_m2)⟩
  · skip
    have r4 := (zs_I_eqn c1)
    have g5 : zs_in (t_1).toInt 1 1 := (zs_nel 1 1 r4 pt_1.1 zlI_0 (by decide))
    have q6 := (zs_or2 pt_1.2 g5 (by decide))
    have g7 : zs_in (x1).toInt 0 5 := q6
    refine zs_gd (zs_gin g7 (by decide)) ?_
    exact zs_some ⟨(zs_w (zs_rdu (q := 37) (z := (0, 1073741823)) h_σ.1 (fun _ => rfl)) (by decide)), Or.inr g7⟩
-- fX9_asksPerson
theorem zc_98 {σ0 : sn_S} {σ : sn_S} (h_σ : zs_M σ0 σ) {x1 : Int32} : zs_ok (fX9_asksPerson σ x1) (fun r => ((zs_in (r.1).toInt 0 1 ∧ zs_M σ0 r.2)) ∧ ((r.1).toInt = 0 ∨ (zs_in (x1).toInt 0 5))) := by
  unfold fX9_asksPerson
  refine zs_bd_ (zc_92 h_σ) (fun t_1 pt_1 => ?_)
  refine zs_bd_ (zc_6 pt_1.2 (zs_64 (zs_topI _))) (fun t_3 pt_3 => ?_)
  refine zs_gd (zs_b01 pt_3.1 (by decide)) ?_
  rcases pt_3.2 with z0 | z0
  · skip
    have g1 : zs_in (t_3).toInt 0 0 := (zs_pt z0)
    exact zs_some ⟨⟨(zs_w g1 (by decide)), pt_1.2⟩, Or.inl (zs_ptr g1)⟩
  · skip
    have q2 := z0
    have g3 : zs_in (x1.toInt64).toInt 0 5 := q2
    have g4 : zs_in (x1).toInt 0 5 := (zs_64r g3)
    exact zs_some ⟨⟨pt_3.1, pt_1.2⟩, Or.inr g4⟩
-- fX9_sneezes
theorem zc_99 {σ0 : sn_S} {σ : sn_S} (h_σ : zs_M σ0 σ) {x1 : Int32} : zs_ok (fX9_sneezes σ x1) (fun r => ((zs_in (r.1).toInt (-2) 1073741823 ∧ zs_M σ0 r.2)) ∧ ((r.1).toInt = (-2) ∨ (zs_in (x1).toInt 0 5))) := by
  unfold fX9_sneezes
  refine zs_bd_ (zc_98 h_σ) (fun t_1 pt_1 => ?_)
  refine zs_ite (fun c1 => ?_) (fun c1 => ?_)
  · skip
    have r2 := (zs_I_eq c1)
    have g3 : zs_in (t_1.1).toInt 0 0 := (zs_eql 0 0 r2 pt_1.1.1 zlI_0 (by decide))
    exact zs_some ⟨⟨(zs_w zlI_m2 (by decide)), pt_1.1.2⟩, Or.inl (zs_ptr zlI_m2)⟩
  · skip
    have r4 := (zs_I_eqn c1)
    have g5 : zs_in (t_1.1).toInt 1 1 := (zs_nel 1 1 r4 pt_1.1.1 zlI_0 (by decide))
    have q6 := (zs_or2 pt_1.2 g5 (by decide))
    have g7 : zs_in (x1).toInt 0 5 := q6
    refine zs_gd (zs_gin g7 (by decide)) ?_
    exact zs_some ⟨⟨(zs_w (zs_rdu (q := 10) (z := (0, 1073741823)) pt_1.1.2.1 (fun _ => rfl)) (by decide)), pt_1.1.2⟩, Or.inr g7⟩
-- fX8_first
theorem zc_100 {σ0 : sn_S} {σ : sn_S} (h_σ : zs_C σ0 σ) {x1 : Int32} : zs_ok (fX8_first σ x1) (fun r => (zs_in (r).toInt (-2) 29) ∧ ((r).toInt = (-2) ∨ (zs_in (x1).toInt 0 5))) := by
  unfold fX8_first
  refine zs_bd_ (zc_3 h_σ) (fun t_1 pt_1 => ?_)
  refine zs_ite (fun c1 => ?_) (fun c1 => ?_)
  · skip
    have r2 := (zs_I_eq c1)
    have g3 : zs_in (t_1).toInt 0 0 := (zs_eql 0 0 r2 pt_1.1 zlI_0 (by decide))
    exact zs_some ⟨(zs_w zlI_m2 (by decide)), Or.inl (zs_ptr zlI_m2)⟩
  · skip
    have r4 := (zs_I_eqn c1)
    have g5 : zs_in (t_1).toInt 1 1 := (zs_nel 1 1 r4 pt_1.1 zlI_0 (by decide))
    have q6 := (zs_or2 pt_1.2 g5 (by decide))
    have g7 : zs_in (x1).toInt 0 5 := q6
    refine zs_gd (zs_gin g7 (by decide)) ?_
    refine zs_bd_ (zo_low 30 29 (by decide) (zs_rdu (q := 37) (z := (0, 1073741823)) h_σ.1 (fun _ => rfl))) (fun t_5 pt_5 => ?_)
    exact zs_some ⟨(zs_w pt_5 (by decide)), Or.inr g7⟩
-- fX9_first
theorem zc_101 {σ0 : sn_S} {σ : sn_S} (h_σ : zs_M σ0 σ) {x1 : Int32} : zs_ok (fX9_first σ x1) (fun r => ((zs_in (r.1).toInt (-2) 29 ∧ zs_M σ0 r.2)) ∧ ((r.1).toInt = (-2) ∨ (zs_in (x1).toInt 0 5))) := by
  unfold fX9_first
  refine zs_bd_ (zc_98 h_σ) (fun t_1 pt_1 => ?_)
  refine zs_ite (fun c1 => ?_) (fun c1 => ?_)
  · skip
    have r2 := (zs_I_eq c1)
    have g3 : zs_in (t_1.1).toInt 0 0 := (zs_eql 0 0 r2 pt_1.1.1 zlI_0 (by decide))
    exact zs_some ⟨⟨(zs_w zlI_m2 (by decide)), pt_1.1.2⟩, Or.inl (zs_ptr zlI_m2)⟩
  · skip
    have r4 := (zs_I_eqn c1)
    have g5 : zs_in (t_1.1).toInt 1 1 := (zs_nel 1 1 r4 pt_1.1.1 zlI_0 (by decide))
    have q6 := (zs_or2 pt_1.2 g5 (by decide))
    have g7 : zs_in (x1).toInt 0 5 := q6
    refine zs_gd (zs_gin g7 (by decide)) ?_
    refine zs_bd_ (zo_fot2 (zs_rdu (q := 10) (z := (0, 1073741823)) pt_1.1.2.1 (fun _ => rfl))) (fun t_5 pt_5 => ?_)
    exact zs_some ⟨⟨(zs_w pt_5 (by decide)), pt_1.1.2⟩, Or.inr g7⟩
-- fX8_isHouse
theorem zc_102 {σ0 : sn_S} {σ : sn_S} (h_σ : zs_C σ0 σ) : zs_ok (fX8_isHouse σ) (fun r => zs_in (r).toInt 0 1) := by
  unfold fX8_isHouse
  refine zs_gd (zs_gin zlI_10 (by decide)) ?_
  refine zs_ite (fun c1 => ?_) (fun c1 => ?_)
  · skip
    have r2 := (zs_I_le c1)
    have g3 : zs_in ((sn_I σ (1 + 1) (10 : Int32).toNatClampNeg)).toInt 0 0 := (zs_lel 0 0 r2 (zs_rdk (q := 2) (k := (10 : Int32).toNatClampNeg) (z := (0, 900)) h_σ.1 rfl) zlI_0 (by decide))
    refine zs_gd (zs_b01 zlI_0 (by decide)) ?_
    exact zs_some (zs_w zlI_0 (by decide))
  · skip
    have r4 := (zs_I_len c1)
    have g5 : zs_in ((sn_I σ (1 + 1) (10 : Int32).toNatClampNeg)).toInt 1 900 := (zs_ltr 1 900 r4 zlI_0 (zs_rdk (q := 2) (k := (10 : Int32).toNatClampNeg) (z := (0, 900)) h_σ.1 rfl) (by decide))
    refine zs_gd (zs_b01 zlI_1 (by decide)) ?_
    exact zs_some (zs_w zlI_1 (by decide))
end
section
-- BX0_total_4
theorem zc_103 {σ0 : sn_S} {σ : sn_S} (h_σ : zs_C σ0 σ) {x1 : Int32} {x2 : Int32} (h_x2 : zs_in x2.toInt 0 6) {c : Int} (hc : x2.toInt = c + 0) : zs_ok (BX0_total_4 σ 27 x1 x2) (fun r => zs_sum (fun v => ((True ∧ zs_in (v.2).toInt 1 6)) ∧ v.2.toInt = c + 1) (fun v => True) r) := by
  unfold BX0_total_4
  refine zs_ite (fun c1 => ?_) (fun c1 => ?_)
  · skip
    have r2 := (zs_I_le c1)
    exact zs_some (zs_inr (trivial))
  · skip
    have r3 := (zs_I_len c1)
    have g4 : zs_in (x2).toInt 0 5 := (zs_ltl 0 5 r3 h_x2 (zs_rdk (q := 27) (k := 1) (z := (0, 6)) h_σ.1 rfl) (by decide))
    have g5 : zs_in ((sn_I σ 27 1)).toInt 1 6 := (zs_ltr 1 6 r3 h_x2 (zs_rdk (q := 27) (k := 1) (z := (0, 6)) h_σ.1 rfl) (by decide))
    refine zs_gd (zs_gin g4 (by decide)) ?_
    refine zs_bd_ (zo_bc 30 30 (by decide) (zs_rdu (q := 37) (z := (0, 1073741823)) h_σ.1 (fun _ => rfl))) (fun t_3 pt_3 => ?_)
    refine zs_lt (Q := fun z => True) trivial (fun y_5 hy_5 => ?_)
    refine zs_lt (Q := fun z => zs_in z.toInt 1 6 ∧ z.toInt = c + 1) ⟨(zs_addI 1 6 g4 zlI_1 (by decide)), (zs_syI 1 hc g4 zlI_1 (by decide) (by decide))⟩ (fun y_7 hy_7 => ?_)
    exact zs_some (zs_inl ⟨⟨trivial, hy_7.1⟩, hy_7.2⟩)
theorem zd_14 {σ0 : sn_S} {σ : sn_S} (h_σ : zs_C σ0 σ) {s0 : (Int32 × Int32)} (h0 : (True ∧ zs_in (s0.2).toInt 0 6)) : zs_ok (sn_it (LX0_total_4 σ 27) 5000 s0) (fun t => True) := by
  refine zs_it (I := fun s => (True ∧ zs_in (s.2).toInt 0 6)) (m := fun s => 6 - s.2.toInt) (fun s hs => ?_) (fun s hs => ?_) (by exact h0)
  · have h1 := hs.2; unfold zs_in at h1
    omega
  · obtain ⟨b, eb, hb⟩ := zc_103 h_σ hs.2 (c := s.2.toInt) (Int.add_zero _).symm
    exact ⟨b, eb, zs_sumw hb (fun v w => ⟨⟨w.1.1, (zs_w w.1.2 (by decide))⟩, by have := w.2; omega⟩) (fun v w => w)⟩
-- BX0_total_30
theorem zc_104 {σ0 : sn_S} {σ : sn_S} (h_σ : zs_C σ0 σ) {x1 : Int32} : zs_ok (BX0_total_30 σ 27 x1) (fun r => True) := by
  unfold BX0_total_30
  exact zs_some trivial
-- fX0_total
theorem zc_105 {σ0 : sn_S} {σ : sn_S} (h_σ : zs_C σ0 σ) : zs_ok (fX0_total σ 27) (fun r => True) := by
  unfold fX0_total
  refine zs_bd_ (zd_14 h_σ (s0 := ((0 : Int32), (0 : Int32))) ⟨trivial, (zs_w zlI_0 (by decide))⟩) (fun t_1 pt_1 => ?_)
  obtain ⟨ret, er, hr⟩ := zc_104 h_σ
  refine ⟨ret, er, ?_⟩
  exact hr
-- fX8_all
theorem zc_106 {σ0 : sn_S} {σ : sn_S} (h_σ : zs_C σ0 σ) : zs_ok (fX8_all σ) (fun r => True) := by
  unfold fX8_all
  refine zs_bd_ (zc_102 h_σ) (fun t_1 pt_1 => ?_)
  refine zs_ite (fun c1 => ?_) (fun c1 => ?_)
  · skip
    have r2 := (zs_I_eq c1)
    have g3 : zs_in (t_1).toInt 0 0 := (zs_eql 0 0 r2 pt_1 zlI_0 (by decide))
    exact zs_some trivial
  · skip
    have r4 := (zs_I_eqn c1)
    have g5 : zs_in (t_1).toInt 1 1 := (zs_nel 1 1 r4 pt_1 zlI_0 (by decide))
    refine zs_bd_ (zc_105 h_σ) (fun t_4 pt_4 => ?_)
    exact zs_some trivial
-- BX9_bits_4
theorem zc_107 {x0 : Int32} (h_x0 : zs_in x0.toInt 0 1073741823) {x1 : Int32} {x2 : Int32} (h_x2 : zs_in x2.toInt 0 30) {c : Int} (hc : x2.toInt = c + 0) : zs_ok (BX9_bits_4 x0 x1 x2) (fun r => zs_sum (fun v => ((True ∧ zs_in (v.2).toInt 1 30)) ∧ v.2.toInt = c + 1) (fun v => True) r) := by
  unfold BX9_bits_4
  refine zs_ite (fun c1 => ?_) (fun c1 => ?_)
  · skip
    have r2 := (zs_I_le c1)
    have g3 : zs_in (x2).toInt 30 30 := (zs_ler 30 30 r2 zlI_30 h_x2 (by decide))
    exact zs_some (zs_inr (trivial))
  · skip
    have r4 := (zs_I_len c1)
    have g5 : zs_in (x2).toInt 0 29 := (zs_ltl 0 29 r4 h_x2 zlI_30 (by decide))
    refine zs_lt (Q := fun z => True) trivial (fun y_2 hy_2 => ?_)
    refine zs_lt (Q := fun z => zs_in z.toInt 1 30 ∧ z.toInt = c + 1) ⟨(zs_addI 1 30 g5 zlI_1 (by decide)), (zs_syI 1 hc g5 zlI_1 (by decide) (by decide))⟩ (fun y_4 hy_4 => ?_)
    exact zs_some (zs_inl ⟨⟨trivial, hy_4.1⟩, hy_4.2⟩)
theorem zd_15 {x0 : Int32} (h_x0 : zs_in x0.toInt 0 1073741823) {s0 : (Int32 × Int32)} (h0 : (True ∧ zs_in (s0.2).toInt 0 30)) : zs_ok (sn_it (LX9_bits_4 x0) 5000 s0) (fun t => True) := by
  refine zs_it (I := fun s => (True ∧ zs_in (s.2).toInt 0 30)) (m := fun s => 30 - s.2.toInt) (fun s hs => ?_) (fun s hs => ?_) (by exact h0)
  · have h1 := hs.2; unfold zs_in at h1
    omega
  · obtain ⟨b, eb, hb⟩ := zc_107 h_x0 hs.2 (c := s.2.toInt) (Int.add_zero _).symm
    exact ⟨b, eb, zs_sumw hb (fun v w => ⟨⟨w.1.1, (zs_w w.1.2 (by decide))⟩, by have := w.2; omega⟩) (fun v w => w)⟩
-- BX9_bits_24
theorem zc_108 {x1 : Int32} : zs_ok (BX9_bits_24 x1) (fun r => True) := by
  unfold BX9_bits_24
  exact zs_some trivial
-- fX9_bits
theorem zc_109 {x0 : Int32} (h_x0 : zs_in x0.toInt 0 1073741823) : zs_ok (fX9_bits x0) (fun r => True) := by
  unfold fX9_bits
  refine zs_bd_ (zd_15 h_x0 (s0 := ((0 : Int32), (0 : Int32))) ⟨trivial, (zs_w zlI_0 (by decide))⟩) (fun t_1 pt_1 => ?_)
  obtain ⟨ret, er, hr⟩ := zc_108
  refine ⟨ret, er, ?_⟩
  exact hr
-- BX9_allSneezes_4
theorem zc_110 {σ0 : sn_S} {σ : sn_S} (h_σ : zs_M σ0 σ) {x1 : Int32} {x2 : Int32} (h_x2 : zs_in x2.toInt 0 6) {c : Int} (hc : x2.toInt = c + 0) : zs_ok (BX9_allSneezes_4 σ x1 x2) (fun r => zs_sum (fun v => ((True ∧ zs_in (v.2).toInt 1 6)) ∧ v.2.toInt = c + 1) (fun v => True) r) := by
  unfold BX9_allSneezes_4
  refine zs_gd (zs_gin zlI_5 (by decide)) ?_
  refine zs_ite (fun c1 => ?_) (fun c1 => ?_)
  · skip
    have r2 := (zs_I_le c1)
    exact zs_some (zs_inr (trivial))
  · skip
    have r3 := (zs_I_len c1)
    have g4 : zs_in (x2).toInt 0 5 := (zs_ltl 0 5 r3 h_x2 (zs_rdk (q := 1) (k := (5 : Int32).toNatClampNeg) (z := (0, 6)) h_σ.1 rfl) (by decide))
    have g5 : zs_in ((sn_I σ 1 (5 : Int32).toNatClampNeg)).toInt 1 6 := (zs_ltr 1 6 r3 h_x2 (zs_rdk (q := 1) (k := (5 : Int32).toNatClampNeg) (z := (0, 6)) h_σ.1 rfl) (by decide))
    refine zs_gd (zs_gin g4 (by decide)) ?_
    refine zs_bd_ (zc_109 (zs_rdu (q := 10) (z := (0, 1073741823)) h_σ.1 (fun _ => rfl))) (fun t_4 pt_4 => ?_)
    refine zs_lt (Q := fun z => True) trivial (fun y_6 hy_6 => ?_)
    refine zs_lt (Q := fun z => zs_in z.toInt 1 6 ∧ z.toInt = c + 1) ⟨(zs_addI 1 6 g4 zlI_1 (by decide)), (zs_syI 1 hc g4 zlI_1 (by decide) (by decide))⟩ (fun y_8 hy_8 => ?_)
    exact zs_some (zs_inl ⟨⟨trivial, hy_8.1⟩, hy_8.2⟩)
theorem zd_16 {σ0 : sn_S} {σ : sn_S} (h_σ : zs_M σ0 σ) {s0 : (Int32 × Int32)} (h0 : (True ∧ zs_in (s0.2).toInt 0 6)) : zs_ok (sn_it (LX9_allSneezes_4 σ) 5000 s0) (fun t => True) := by
  refine zs_it (I := fun s => (True ∧ zs_in (s.2).toInt 0 6)) (m := fun s => 6 - s.2.toInt) (fun s hs => ?_) (fun s hs => ?_) (by exact h0)
  · have h1 := hs.2; unfold zs_in at h1
    omega
  · obtain ⟨b, eb, hb⟩ := zc_110 h_σ hs.2 (c := s.2.toInt) (Int.add_zero _).symm
    exact ⟨b, eb, zs_sumw hb (fun v w => ⟨⟨w.1.1, (zs_w w.1.2 (by decide))⟩, by have := w.2; omega⟩) (fun v w => w)⟩
-- BX9_allSneezes_32
theorem zc_111 {σ0 : sn_S} {σ : sn_S} (h_σ : zs_M σ0 σ) {x1 : Int32} : zs_ok (BX9_allSneezes_32 σ x1) (fun r => True) := by
  unfold BX9_allSneezes_32
  exact zs_some trivial
-- fX9_allSneezes
theorem zc_112 {σ0 : sn_S} {σ : sn_S} (h_σ : zs_M σ0 σ) : zs_ok (fX9_allSneezes σ) (fun r => True) := by
  unfold fX9_allSneezes
  refine zs_bd_ (zd_16 h_σ (s0 := ((0 : Int32), (0 : Int32))) ⟨trivial, (zs_w zlI_0 (by decide))⟩) (fun t_1 pt_1 => ?_)
  obtain ⟨ret, er, hr⟩ := zc_111 h_σ
  refine ⟨ret, er, ?_⟩
  exact hr
-- fX9_all
theorem zc_113 {σ0 : sn_S} {σ : sn_S} (h_σ : zs_M σ0 σ) : zs_ok (fX9_all σ) (fun r => (True ∧ zs_M σ0 r.2)) := by
  unfold fX9_all
  refine zs_bd_ (zc_92 h_σ) (fun t_1 pt_1 => ?_)
  refine zs_ite (fun c1 => ?_) (fun c1 => ?_)
  · skip
    have r2 := (zs_I_eq c1)
    have g3 : zs_in (t_1.1).toInt 0 0 := (zs_eql 0 0 r2 pt_1.1 zlI_0 (by decide))
    exact zs_some ⟨trivial, pt_1.2⟩
  · skip
    have r4 := (zs_I_eqn c1)
    have g5 : zs_in (t_1.1).toInt 1 1 := (zs_nel 1 1 r4 pt_1.1 zlI_0 (by decide))
    refine zs_bd_ (zc_112 pt_1.2) (fun t_4 pt_4 => ?_)
    exact zs_some ⟨trivial, pt_1.2⟩
-- fX8_who
theorem zc_114 {σ0 : sn_S} {σ : sn_S} (h_σ : zs_C σ0 σ) {x1 : Int32} : zs_ok (fX8_who σ x1) (fun r => (True) ∧ ((r).toInt = (-2) ∨ (zs_in (x1).toInt 0 29))) := by
  unfold fX8_who
  refine zs_bd_ (zc_44 h_σ) (fun t_1 pt_1 => ?_)
  refine zs_ite (fun c1 => ?_) (fun c1 => ?_)
  · skip
    have r2 := (zs_I_eq c1)
    have g3 : zs_in (t_1).toInt 0 0 := (zs_eql 0 0 r2 pt_1.1 zlI_0 (by decide))
    exact zs_some ⟨trivial, Or.inl (zs_ptr zlI_m2)⟩
  · skip
    have r4 := (zs_I_eqn c1)
    have g5 : zs_in (t_1).toInt 1 1 := (zs_nel 1 1 r4 pt_1.1 zlI_0 (by decide))
    have q6 := (zs_or2 pt_1.2 g5 (by decide))
    have g7 : zs_in (x1).toInt 0 29 := q6
    refine zs_gd (zs_gin g7 (by decide)) ?_
    exact zs_some ⟨trivial, Or.inr g7⟩
-- fX9_who
theorem zc_115 {σ0 : sn_S} {σ : sn_S} (h_σ : zs_M σ0 σ) {x1 : Int32} : zs_ok (fX9_who σ x1) (fun r => ((True ∧ zs_M σ0 r.2)) ∧ ((r.1).toInt = (-2) ∨ (zs_in (x1).toInt 0 29))) := by
  unfold fX9_who
  refine zs_bd_ (zc_95 h_σ) (fun t_1 pt_1 => ?_)
  refine zs_ite (fun c1 => ?_) (fun c1 => ?_)
  · skip
    have r2 := (zs_I_eq c1)
    have g3 : zs_in (t_1.1).toInt 0 0 := (zs_eql 0 0 r2 pt_1.1.1 zlI_0 (by decide))
    exact zs_some ⟨⟨trivial, pt_1.1.2⟩, Or.inl (zs_ptr zlI_m2)⟩
  · skip
    have r4 := (zs_I_eqn c1)
    have g5 : zs_in (t_1.1).toInt 1 1 := (zs_nel 1 1 r4 pt_1.1.1 zlI_0 (by decide))
    have q6 := (zs_or2 pt_1.2 g5 (by decide))
    have g7 : zs_in (x1).toInt 0 29 := q6
    refine zs_gd (zs_gin g7 (by decide)) ?_
    exact zs_some ⟨⟨trivial, pt_1.1.2⟩, Or.inr g7⟩
-- fX0_tickleAt
theorem zc_116 {σ0 : sn_S} {σ : sn_S} (h_σ : zs_C σ0 σ) {x1 : Int32} (h_x1 : zs_in x1.toInt 0 5) {x2 : Int32} (h_x2 : zs_in x2.toInt 0 29) : zs_ok (fX0_tickleAt σ 27 x1 x2) (fun r => True) := by
  unfold fX0_tickleAt
  refine zs_gd (zs_gin (zs_addI 0 179 (zs_mulI 0 174 zlI_6 h_x2 (by decide)) h_x1 (by decide)) (by decide)) ?_
  exact zs_some trivial
-- fX8_tickle
theorem zc_117 {σ0 : sn_S} {σ : sn_S} (h_σ : zs_C σ0 σ) {x1 : Int32} {x2 : Int32} : zs_ok (fX8_tickle σ x1 x2) (fun r => (True) ∧ ((r).toInt = (-2) ∨ (zs_in (x1).toInt 0 5 ∧ zs_in (x2).toInt 0 29))) := by
  unfold fX8_tickle
  refine zs_bd_ (zc_3 h_σ) (fun t_1 pt_1 => ?_)
  refine zs_ite (fun c1 => ?_) (fun c1 => ?_)
  · skip
    have r2 := (zs_I_eq c1)
    have g3 : zs_in (t_1).toInt 0 0 := (zs_eql 0 0 r2 pt_1.1 zlI_0 (by decide))
    exact zs_some ⟨trivial, Or.inl (zs_ptr zlI_m2)⟩
  · skip
    have r4 := (zs_I_eqn c1)
    have g5 : zs_in (t_1).toInt 1 1 := (zs_nel 1 1 r4 pt_1.1 zlI_0 (by decide))
    have q6 := (zs_or2 pt_1.2 g5 (by decide))
    have g7 : zs_in (x1).toInt 0 5 := q6
    refine zs_bd_ (zc_44 h_σ) (fun t_4 pt_4 => ?_)
    refine zs_ite (fun c8 => ?_) (fun c8 => ?_)
    · skip
      have r9 := (zs_I_eq c8)
      have g10 : zs_in (t_4).toInt 0 0 := (zs_eql 0 0 r9 pt_4.1 zlI_0 (by decide))
      exact zs_some ⟨trivial, Or.inl (zs_ptr zlI_m2)⟩
    · skip
      have r11 := (zs_I_eqn c8)
      have g12 : zs_in (t_4).toInt 1 1 := (zs_nel 1 1 r11 pt_4.1 zlI_0 (by decide))
      have q13 := (zs_or2 pt_4.2 g12 (by decide))
      have g14 : zs_in (x2).toInt 0 29 := q13
      refine zs_bd_ (zc_116 h_σ g7 g14) (fun t_7 pt_7 => ?_)
      exact zs_some ⟨trivial, Or.inr ⟨g7, g14⟩⟩
-- fX9_tickle
theorem zc_118 {σ0 : sn_S} {σ : sn_S} (h_σ : zs_M σ0 σ) {x1 : Int32} {x2 : Int32} : zs_ok (fX9_tickle σ x1 x2) (fun r => ((True ∧ zs_M σ0 r.2)) ∧ ((r.1).toInt = (-2) ∨ (zs_in (x1).toInt 0 5 ∧ zs_in (x2).toInt 0 29))) := by
  unfold fX9_tickle
  refine zs_bd_ (zc_95 h_σ) (fun t_1 pt_1 => ?_)
  refine zs_ite (fun c1 => ?_) (fun c1 => ?_)
  · skip
    have r2 := (zs_I_eq c1)
    have g3 : zs_in (t_1.1).toInt 0 0 := (zs_eql 0 0 r2 pt_1.1.1 zlI_0 (by decide))
    exact zs_some ⟨⟨trivial, pt_1.1.2⟩, Or.inl (zs_ptr zlI_m2)⟩
  · skip
    have r4 := (zs_I_eqn c1)
    have g5 : zs_in (t_1.1).toInt 1 1 := (zs_nel 1 1 r4 pt_1.1.1 zlI_0 (by decide))
    have q6 := (zs_or2 pt_1.2 g5 (by decide))
    have g7 : zs_in (x2).toInt 0 29 := q6
    refine zs_bd_ (zc_6 pt_1.1.2 (zs_64 (zs_topI _))) (fun t_4 pt_4 => ?_)
    refine zs_ite (fun c8 => ?_) (fun c8 => ?_)
    · skip
      have r9 := (zs_I_eq c8)
      have g10 : zs_in (t_4).toInt 0 0 := (zs_eql 0 0 r9 pt_4.1 zlI_0 (by decide))
      exact zs_some ⟨⟨trivial, pt_1.1.2⟩, Or.inl (zs_ptr zlI_m2)⟩
    · skip
      have r11 := (zs_I_eqn c8)
      have g12 : zs_in (t_4).toInt 1 1 := (zs_nel 1 1 r11 pt_4.1 zlI_0 (by decide))
      have q13 := (zs_or2 pt_4.2 g12 (by decide))
      have g14 : zs_in (x1.toInt64).toInt 0 5 := q13
      have g15 : zs_in (x1).toInt 0 5 := (zs_64r g14)
      refine zs_gd (zs_gin (zs_addI 0 179 (zs_mulI 0 174 zlI_6 g7 (by decide)) g15 (by decide)) (by decide)) ?_
      exact zs_some ⟨⟨trivial, pt_1.1.2⟩, Or.inr ⟨g15, g7⟩⟩
-- BX8_itch_15
theorem zc_119 {σ0 : sn_S} {σ : sn_S} (h_σ : zs_C σ0 σ) {x1 : Int32} (h_x1 : zs_in x1.toInt 0 5) {x2 : Int32} (h_x2 : zs_in x2.toInt 0 2147483647) {x3 : Int32} (h_x3 : zs_in x3.toInt 0 30) {c : Int} (hc : x3.toInt = c + 0) : zs_ok (BX8_itch_15 σ x1 x2 x3) (fun r => zs_sum (fun v => ((zs_in (v.1).toInt 0 2147483647 ∧ zs_in (v.2).toInt 1 30)) ∧ v.2.toInt = c + 1) (fun v => zs_in (v).toInt 0 2147483647) r) := by
  unfold BX8_itch_15
  refine zs_ite (fun c1 => ?_) (fun c1 => ?_)
  · skip
    have r2 := (zs_I_le c1)
    exact zs_some (zs_inr (h_x2))
  · skip
    have r3 := (zs_I_len c1)
    have g4 : zs_in (x3).toInt 0 29 := (zs_ltl 0 29 r3 h_x3 (zs_rdk (q := 27) (k := 0) (z := (0, 30)) h_σ.1 rfl) (by decide))
    have g5 : zs_in ((sn_I σ 27 0)).toInt 1 30 := (zs_ltr 1 30 r3 h_x3 (zs_rdk (q := 27) (k := 0) (z := (0, 30)) h_σ.1 rfl) (by decide))
    refine zs_bd_ (zc_116 h_σ h_x1 g4) (fun t_2 pt_2 => ?_)
    refine zs_lt (Q := fun z => zs_in z.toInt 0 2147483647) (zs_max 0 2147483647 h_x2 (zs_topI _) (by decide)) (fun y_4 hy_4 => ?_)
    refine zs_lt (Q := fun z => zs_in z.toInt 1 30 ∧ z.toInt = c + 1) ⟨(zs_addI 1 30 g4 zlI_1 (by decide)), (zs_syI 1 hc g4 zlI_1 (by decide) (by decide))⟩ (fun y_6 hy_6 => ?_)
    exact zs_some (zs_inl ⟨⟨hy_4, hy_6.1⟩, hy_6.2⟩)
theorem zd_17 {σ0 : sn_S} {σ : sn_S} (h_σ : zs_C σ0 σ) {x1 : Int32} (h_x1 : zs_in x1.toInt 0 5) {s0 : (Int32 × Int32)} (h0 : (zs_in (s0.1).toInt 0 2147483647 ∧ zs_in (s0.2).toInt 0 30)) : zs_ok (sn_it (LX8_itch_15 σ x1) 5000 s0) (fun t => zs_in (t).toInt 0 2147483647) := by
  refine zs_it (I := fun s => (zs_in (s.1).toInt 0 2147483647 ∧ zs_in (s.2).toInt 0 30)) (m := fun s => 30 - s.2.toInt) (fun s hs => ?_) (fun s hs => ?_) (by exact h0)
  · have h1 := hs.2; unfold zs_in at h1
    omega
  · obtain ⟨b, eb, hb⟩ := zc_119 h_σ h_x1 hs.1 hs.2 (c := s.2.toInt) (Int.add_zero _).symm
    exact ⟨b, eb, zs_sumw hb (fun v w => ⟨⟨w.1.1, (zs_w w.1.2 (by decide))⟩, by have := w.2; omega⟩) (fun v w => w)⟩
-- BX8_itch_46
theorem zc_120 {σ0 : sn_S} {σ : sn_S} (h_σ : zs_C σ0 σ) {x2 : Int32} (h_x2 : zs_in x2.toInt 0 2147483647) : zs_ok (BX8_itch_46 σ x2) (fun r => zs_in (r).toInt 0 2147483647) := by
  unfold BX8_itch_46
  exact zs_some h_x2
-- fX8_itch
theorem zc_121 {σ0 : sn_S} {σ : sn_S} (h_σ : zs_C σ0 σ) {x1 : Int32} : zs_ok (fX8_itch σ x1) (fun r => (zs_in (r).toInt (-2) 2147483647) ∧ ((r).toInt = (-2) ∨ (zs_in (x1).toInt 0 5))) := by
  unfold fX8_itch
  refine zs_bd_ (zc_3 h_σ) (fun t_1 pt_1 => ?_)
  refine zs_ite (fun c1 => ?_) (fun c1 => ?_)
  · skip
    have r2 := (zs_I_eq c1)
    have g3 : zs_in (t_1).toInt 0 0 := (zs_eql 0 0 r2 pt_1.1 zlI_0 (by decide))
    exact zs_some ⟨(zs_w zlI_m2 (by decide)), Or.inl (zs_ptr zlI_m2)⟩
  · skip
    have r4 := (zs_I_eqn c1)
    have g5 : zs_in (t_1).toInt 1 1 := (zs_nel 1 1 r4 pt_1.1 zlI_0 (by decide))
    have q6 := (zs_or2 pt_1.2 g5 (by decide))
    have g7 : zs_in (x1).toInt 0 5 := q6
    refine zs_bd_ (zd_17 h_σ g7 (s0 := ((0 : Int32), (0 : Int32))) ⟨(zs_w zlI_0 (by decide)), (zs_w zlI_0 (by decide))⟩) (fun t_4 pt_4 => ?_)
    obtain ⟨ret, er, hr⟩ := zc_120 h_σ pt_4
    refine ⟨ret, er, ?_⟩
    exact ⟨(zs_w hr (by decide)), Or.inr g7⟩
-- BX9_itch_15
theorem zc_122 {σ0 : sn_S} {σ : sn_S} (h_σ : zs_M σ0 σ) {x1 : Int32} (h_x1 : zs_in x1.toInt 0 5) {x2 : Int32} (h_x2 : zs_in x2.toInt 0 2147483647) {x3 : Int32} (h_x3 : zs_in x3.toInt 0 30) {c : Int} (hc : x3.toInt = c + 0) : zs_ok (BX9_itch_15 σ x1 x2 x3) (fun r => zs_sum (fun v => ((zs_in (v.1).toInt 0 2147483647 ∧ zs_in (v.2).toInt 1 30)) ∧ v.2.toInt = c + 1) (fun v => zs_in (v).toInt 0 2147483647) r) := by
  unfold BX9_itch_15
  refine zs_bd_ (zc_21 h_σ) (fun t_1 pt_1 => ?_)
  refine zs_ite (fun c1 => ?_) (fun c1 => ?_)
  · skip
    have r2 := (zs_I_le c1)
    exact zs_some (zs_inr (h_x2))
  · skip
    have r3 := (zs_I_len c1)
    have g4 : zs_in (x3).toInt 0 29 := (zs_ltl 0 29 r3 h_x3 pt_1 (by decide))
    have g5 : zs_in (t_1).toInt 1 30 := (zs_ltr 1 30 r3 h_x3 pt_1 (by decide))
    refine zs_gd (zs_gin (zs_addI 0 179 (zs_mulI 0 174 zlI_6 g4 (by decide)) h_x1 (by decide)) (by decide)) ?_
    refine zs_lt (Q := fun z => zs_in z.toInt 0 2147483647) (zs_max 0 2147483647 h_x2 (zs_topI _) (by decide)) (fun y_5 hy_5 => ?_)
    refine zs_lt (Q := fun z => zs_in z.toInt 1 30 ∧ z.toInt = c + 1) ⟨(zs_addI 1 30 g4 zlI_1 (by decide)), (zs_syI 1 hc g4 zlI_1 (by decide) (by decide))⟩ (fun y_7 hy_7 => ?_)
    exact zs_some (zs_inl ⟨⟨hy_5, hy_7.1⟩, hy_7.2⟩)
theorem zd_18 {σ0 : sn_S} {σ : sn_S} (h_σ : zs_M σ0 σ) {x1 : Int32} (h_x1 : zs_in x1.toInt 0 5) {s0 : (Int32 × Int32)} (h0 : (zs_in (s0.1).toInt 0 2147483647 ∧ zs_in (s0.2).toInt 0 30)) : zs_ok (sn_it (LX9_itch_15 σ x1) 5000 s0) (fun t => zs_in (t).toInt 0 2147483647) := by
  refine zs_it (I := fun s => (zs_in (s.1).toInt 0 2147483647 ∧ zs_in (s.2).toInt 0 30)) (m := fun s => 30 - s.2.toInt) (fun s hs => ?_) (fun s hs => ?_) (by exact h0)
  · have h1 := hs.2; unfold zs_in at h1
    omega
  · obtain ⟨b, eb, hb⟩ := zc_122 h_σ h_x1 hs.1 hs.2 (c := s.2.toInt) (Int.add_zero _).symm
    exact ⟨b, eb, zs_sumw hb (fun v w => ⟨⟨w.1.1, (zs_w w.1.2 (by decide))⟩, by have := w.2; omega⟩) (fun v w => w)⟩
-- BX9_itch_45
theorem zc_123 {σ0 : sn_S} {σ : sn_S} (h_σ : zs_M σ0 σ) {x2 : Int32} (h_x2 : zs_in x2.toInt 0 2147483647) : zs_ok (BX9_itch_45 σ x2) (fun r => (zs_in (r.1).toInt 0 2147483647 ∧ zs_M σ0 r.2)) := by
  unfold BX9_itch_45
  exact zs_some ⟨h_x2, h_σ⟩
-- fX9_itch
theorem zc_124 {σ0 : sn_S} {σ : sn_S} (h_σ : zs_M σ0 σ) {x1 : Int32} : zs_ok (fX9_itch σ x1) (fun r => ((zs_in (r.1).toInt (-2) 2147483647 ∧ zs_M σ0 r.2)) ∧ ((r.1).toInt = (-2) ∨ (zs_in (x1).toInt 0 5))) := by
  unfold fX9_itch
  refine zs_bd_ (zc_98 h_σ) (fun t_1 pt_1 => ?_)
  refine zs_ite (fun c1 => ?_) (fun c1 => ?_)
  · skip
    have r2 := (zs_I_eq c1)
    have g3 : zs_in (t_1.1).toInt 0 0 := (zs_eql 0 0 r2 pt_1.1.1 zlI_0 (by decide))
    exact zs_some ⟨⟨(zs_w zlI_m2 (by decide)), pt_1.1.2⟩, Or.inl (zs_ptr zlI_m2)⟩
  · skip
    have r4 := (zs_I_eqn c1)
    have g5 : zs_in (t_1.1).toInt 1 1 := (zs_nel 1 1 r4 pt_1.1.1 zlI_0 (by decide))
    have q6 := (zs_or2 pt_1.2 g5 (by decide))
    have g7 : zs_in (x1).toInt 0 5 := q6
    refine zs_bd_ (zd_18 pt_1.1.2 g7 (s0 := ((0 : Int32), (0 : Int32))) ⟨(zs_w zlI_0 (by decide)), (zs_w zlI_0 (by decide))⟩) (fun t_4 pt_4 => ?_)
    obtain ⟨ret, er, hr⟩ := zc_123 pt_1.1.2 pt_4
    refine ⟨ret, er, ?_⟩
    exact ⟨⟨(zs_w hr.1 (by decide)), hr.2⟩, Or.inr g7⟩
-- fX0_cameAt
theorem zc_125 {σ0 : sn_S} {σ : sn_S} (h_σ : zs_C σ0 σ) {x1 : Int32} (h_x1 : zs_in x1.toInt 0 5) {x2 : Int32} (h_x2 : zs_in x2.toInt 0 29) : zs_ok (fX0_cameAt σ 27 x1 x2) (fun r => True) := by
  unfold fX0_cameAt
  refine zs_gd (zs_gin (zs_addI 0 179 (zs_mulI 0 174 zlI_6 h_x2 (by decide)) h_x1 (by decide)) (by decide)) ?_
  exact zs_some trivial
-- BX8_caught_15
theorem zc_126 {σ0 : sn_S} {σ : sn_S} (h_σ : zs_C σ0 σ) {x1 : Int32} (h_x1 : zs_in x1.toInt 0 5) {x2 : Int32} {x3 : Int32} (h_x3 : zs_in x3.toInt 0 30) {c : Int} (hc : x3.toInt = c + 0) : zs_ok (BX8_caught_15 σ x1 x2 x3) (fun r => zs_sum (fun v => ((True ∧ zs_in (v.2).toInt 1 30)) ∧ v.2.toInt = c + 1) (fun v => True) r) := by
  unfold BX8_caught_15
  refine zs_ite (fun c1 => ?_) (fun c1 => ?_)
  · skip
    have r2 := (zs_I_le c1)
    exact zs_some (zs_inr (trivial))
  · skip
    have r3 := (zs_I_len c1)
    have g4 : zs_in (x3).toInt 0 29 := (zs_ltl 0 29 r3 h_x3 (zs_rdk (q := 27) (k := 0) (z := (0, 30)) h_σ.1 rfl) (by decide))
    have g5 : zs_in ((sn_I σ 27 0)).toInt 1 30 := (zs_ltr 1 30 r3 h_x3 (zs_rdk (q := 27) (k := 0) (z := (0, 30)) h_σ.1 rfl) (by decide))
    refine zs_bd_ (zc_125 h_σ h_x1 g4) (fun t_2 pt_2 => ?_)
    refine zs_lt (Q := fun z => True) trivial (fun y_4 hy_4 => ?_)
    refine zs_lt (Q := fun z => zs_in z.toInt 1 30 ∧ z.toInt = c + 1) ⟨(zs_addI 1 30 g4 zlI_1 (by decide)), (zs_syI 1 hc g4 zlI_1 (by decide) (by decide))⟩ (fun y_6 hy_6 => ?_)
    exact zs_some (zs_inl ⟨⟨trivial, hy_6.1⟩, hy_6.2⟩)
theorem zd_19 {σ0 : sn_S} {σ : sn_S} (h_σ : zs_C σ0 σ) {x1 : Int32} (h_x1 : zs_in x1.toInt 0 5) {s0 : (Int32 × Int32)} (h0 : (True ∧ zs_in (s0.2).toInt 0 30)) : zs_ok (sn_it (LX8_caught_15 σ x1) 5000 s0) (fun t => True) := by
  refine zs_it (I := fun s => (True ∧ zs_in (s.2).toInt 0 30)) (m := fun s => 30 - s.2.toInt) (fun s hs => ?_) (fun s hs => ?_) (by exact h0)
  · have h1 := hs.2; unfold zs_in at h1
    omega
  · obtain ⟨b, eb, hb⟩ := zc_126 h_σ h_x1 hs.2 (c := s.2.toInt) (Int.add_zero _).symm
    exact ⟨b, eb, zs_sumw hb (fun v w => ⟨⟨w.1.1, (zs_w w.1.2 (by decide))⟩, by have := w.2; omega⟩) (fun v w => w)⟩
-- BX8_caught_44
theorem zc_127 {σ0 : sn_S} {σ : sn_S} (h_σ : zs_C σ0 σ) {x2 : Int32} : zs_ok (BX8_caught_44 σ x2) (fun r => True) := by
  unfold BX8_caught_44
  exact zs_some trivial
-- fX8_caught
theorem zc_128 {σ0 : sn_S} {σ : sn_S} (h_σ : zs_C σ0 σ) {x1 : Int32} : zs_ok (fX8_caught σ x1) (fun r => (True) ∧ ((r).toInt = (-2) ∨ (zs_in (x1).toInt 0 5))) := by
  unfold fX8_caught
  refine zs_bd_ (zc_3 h_σ) (fun t_1 pt_1 => ?_)
  refine zs_ite (fun c1 => ?_) (fun c1 => ?_)
  · skip
    have r2 := (zs_I_eq c1)
    have g3 : zs_in (t_1).toInt 0 0 := (zs_eql 0 0 r2 pt_1.1 zlI_0 (by decide))
    exact zs_some ⟨trivial, Or.inl (zs_ptr zlI_m2)⟩
  · skip
    have r4 := (zs_I_eqn c1)
    have g5 : zs_in (t_1).toInt 1 1 := (zs_nel 1 1 r4 pt_1.1 zlI_0 (by decide))
    have q6 := (zs_or2 pt_1.2 g5 (by decide))
    have g7 : zs_in (x1).toInt 0 5 := q6
    refine zs_bd_ (zd_19 h_σ g7 (s0 := ((0 : Int32), (0 : Int32))) ⟨trivial, (zs_w zlI_0 (by decide))⟩) (fun t_4 pt_4 => ?_)
    obtain ⟨ret, er, hr⟩ := zc_127 h_σ
    refine ⟨ret, er, ?_⟩
    exact ⟨hr, Or.inr g7⟩
-- fX9_caught
theorem zc_129 {σ0 : sn_S} {σ : sn_S} (h_σ : zs_M σ0 σ) {x1 : Int32} : zs_ok (fX9_caught σ x1) (fun r => ((True ∧ zs_M σ0 r.2)) ∧ ((r.1).toInt = (-2) ∨ (zs_in (x1).toInt 0 5))) := by
  unfold fX9_caught
  refine zs_bd_ (zc_98 h_σ) (fun t_1 pt_1 => ?_)
  refine zs_ite (fun c1 => ?_) (fun c1 => ?_)
  · skip
    have r2 := (zs_I_eq c1)
    have g3 : zs_in (t_1.1).toInt 0 0 := (zs_eql 0 0 r2 pt_1.1.1 zlI_0 (by decide))
    exact zs_some ⟨⟨trivial, pt_1.1.2⟩, Or.inl (zs_ptr zlI_m2)⟩
  · skip
    have r4 := (zs_I_eqn c1)
    have g5 : zs_in (t_1.1).toInt 1 1 := (zs_nel 1 1 r4 pt_1.1.1 zlI_0 (by decide))
    have q6 := (zs_or2 pt_1.2 g5 (by decide))
    have g7 : zs_in (x1).toInt 0 5 := q6
    refine zs_gd (zs_gin g7 (by decide)) ?_
    exact zs_some ⟨⟨trivial, pt_1.1.2⟩, Or.inr g7⟩
-- fX8_gave
theorem zc_130 {σ0 : sn_S} {σ : sn_S} (h_σ : zs_C σ0 σ) {x1 : Int32} : zs_ok (fX8_gave σ x1) (fun r => (True) ∧ ((r).toInt = (-2) ∨ (zs_in (x1).toInt 0 5))) := by
  unfold fX8_gave
  refine zs_bd_ (zc_3 h_σ) (fun t_1 pt_1 => ?_)
  refine zs_ite (fun c1 => ?_) (fun c1 => ?_)
  · skip
    have r2 := (zs_I_eq c1)
    have g3 : zs_in (t_1).toInt 0 0 := (zs_eql 0 0 r2 pt_1.1 zlI_0 (by decide))
    exact zs_some ⟨trivial, Or.inl (zs_ptr zlI_m2)⟩
  · skip
    have r4 := (zs_I_eqn c1)
    have g5 : zs_in (t_1).toInt 1 1 := (zs_nel 1 1 r4 pt_1.1 zlI_0 (by decide))
    have q6 := (zs_or2 pt_1.2 g5 (by decide))
    have g7 : zs_in (x1).toInt 0 5 := q6
    refine zs_gd (zs_gin g7 (by decide)) ?_
    refine zs_bd_ (zo_low 30 29 (by decide) (zs_rdu (q := 37) (z := (0, 1073741823)) h_σ.1 (fun _ => rfl))) (fun t_5 pt_5 => ?_)
    refine zs_ite (fun c8 => ?_) (fun c8 => ?_)
    · skip
      have r9 := (zs_I_le c8)
      have g10 : zs_in (t_5).toInt 1 29 := (zs_ler 1 29 r9 zlI_1 pt_5 (by decide))
      refine zs_gd (zs_gin (zs_subI 0 28 g10 zlI_1 (by decide)) (by decide)) ?_
      refine zs_bd_ (zc_19 h_σ g7) (fun t_9 pt_9 => ?_)
      exact zs_some ⟨trivial, Or.inr g7⟩
    · skip
      have r11 := (zs_I_len c8)
      have g12 : zs_in (t_5).toInt (-1) 0 := (zs_ltl (-1) 0 r11 pt_5 zlI_1 (by decide))
      exact zs_some ⟨trivial, Or.inr g7⟩
-- BX9_gave_79
theorem zc_131 {σ0 : sn_S} {σ : sn_S} (h_σ : zs_M σ0 σ) {x1 : Int32} (h_x1 : zs_in x1.toInt 0 5) {x2 : Int32} (h_x2 : zs_in x2.toInt 1 29) {x3 : Int32} {x4 : Int32} (h_x4 : zs_in x4.toInt 0 5) {t0 : Int32} {t1 : Int32} (h_t1 : zs_in t1.toInt 0 0) {c : Int} (hc : x4.toInt = c + 0) : zs_ok (BX9_gave_79 σ x1 x2 x3 x4 t0 t1) (fun r => zs_sum (fun v => ((True ∧ zs_in (v.2).toInt 1 6)) ∧ v.2.toInt = c + 1) (fun v => False) r) := by
  unfold BX9_gave_79
  obtain rfl : t1 = (0 : Int32) := zs_eqv h_t1 (by decide)
  refine zs_lt (Q := fun z => True) trivial (fun y_1 hy_1 => ?_)
  refine zs_lt (Q := fun z => zs_in z.toInt 1 6 ∧ z.toInt = c + 1) ⟨(zs_addI 1 6 h_x4 zlI_1 (by decide)), (zs_syI 1 hc h_x4 zlI_1 (by decide) (by decide))⟩ (fun y_3 hy_3 => ?_)
  exact zs_some (zs_inl ⟨⟨trivial, hy_3.1⟩, hy_3.2⟩)
-- BX9_gave_78
theorem zc_132 {σ0 : sn_S} {σ : sn_S} (h_σ : zs_M σ0 σ) {x1 : Int32} (h_x1 : zs_in x1.toInt 0 5) {x2 : Int32} (h_x2 : zs_in x2.toInt 1 29) {x3 : Int32} {x4 : Int32} (h_x4 : zs_in x4.toInt 0 5) {t0 : Int32} {c : Int} (hc : x4.toInt = c + 0) : zs_ok (BX9_gave_78 σ x1 x2 x3 x4 t0) (fun r => zs_sum (fun v => ((True ∧ zs_in (v.2).toInt 1 6)) ∧ v.2.toInt = c + 1) (fun v => False) r) := by
  unfold BX9_gave_78
  obtain ⟨ret, er, hr⟩ := zc_131 h_σ h_x1 h_x2 h_x4 zlI_0 hc
  refine ⟨ret, er, ?_⟩
  exact (zs_sumw hr (fun v w => ⟨w.1, w.2⟩) (fun v w => w.elim))
-- BX9_gave_79
theorem zc_133 {σ0 : sn_S} {σ : sn_S} (h_σ : zs_M σ0 σ) {x1 : Int32} (h_x1 : zs_in x1.toInt 0 5) {x2 : Int32} (h_x2 : zs_in x2.toInt 1 29) {x3 : Int32} {x4 : Int32} (h_x4 : zs_in x4.toInt 0 5) {t0 : Int32} {t1 : Int32} (h_t1 : zs_in t1.toInt 1 32) {c : Int} (hc : x4.toInt = c + 0) : zs_ok (BX9_gave_79 σ x1 x2 x3 x4 t0 t1) (fun r => zs_sum (fun v => ((True ∧ zs_in (v.2).toInt 1 6)) ∧ v.2.toInt = c + 1) (fun v => False) r) := by
  unfold BX9_gave_79
  refine zs_lt (Q := fun z => True) trivial (fun y_1 hy_1 => ?_)
  refine zs_lt (Q := fun z => zs_in z.toInt 1 6 ∧ z.toInt = c + 1) ⟨(zs_addI 1 6 h_x4 zlI_1 (by decide)), (zs_syI 1 hc h_x4 zlI_1 (by decide) (by decide))⟩ (fun y_3 hy_3 => ?_)
  exact zs_some (zs_inl ⟨⟨trivial, hy_3.1⟩, hy_3.2⟩)
-- BX9_gave_26
theorem zc_134 {σ0 : sn_S} {σ : sn_S} (h_σ : zs_M σ0 σ) {x1 : Int32} (h_x1 : zs_in x1.toInt 0 5) {x2 : Int32} (h_x2 : zs_in x2.toInt (-1) 29) {x3 : Int32} {x4 : Int32} (h_x4 : zs_in x4.toInt 0 6) {c : Int} (hc : x4.toInt = c + 0) : zs_ok (BX9_gave_26 σ x1 x2 x3 x4) (fun r => zs_sum (fun v => ((True ∧ zs_in (v.2).toInt 1 6)) ∧ v.2.toInt = c + 1) (fun v => True) r) := by
  unfold BX9_gave_26
  refine zs_gd (zs_gin zlI_5 (by decide)) ?_
  refine zs_ite (fun c1 => ?_) (fun c1 => ?_)
  · skip
    have r2 := (zs_I_le c1)
    exact zs_some (zs_inr (trivial))
  · skip
    have r3 := (zs_I_len c1)
    have g4 : zs_in (x4).toInt 0 5 := (zs_ltl 0 5 r3 h_x4 (zs_rdk (q := 1) (k := (5 : Int32).toNatClampNeg) (z := (0, 6)) h_σ.1 rfl) (by decide))
    have g5 : zs_in ((sn_I σ 1 (5 : Int32).toNatClampNeg)).toInt 1 6 := (zs_ltr 1 6 r3 h_x4 (zs_rdk (q := 1) (k := (5 : Int32).toNatClampNeg) (z := (0, 6)) h_σ.1 rfl) (by decide))
    refine zs_ite (fun c6 => ?_) (fun c6 => ?_)
    · skip
      have r7 := (zs_I_le c6)
      have g8 : zs_in (x2).toInt (-1) 0 := (zs_lel (-1) 0 r7 h_x2 zlI_0 (by decide))
      exact zs_some (zs_inr (trivial))
    · skip
      have r9 := (zs_I_len c6)
      have g10 : zs_in (x2).toInt 1 29 := (zs_ltr 1 29 r9 zlI_0 h_x2 (by decide))
      refine zs_gd (zs_gin (zs_subI 0 28 g10 zlI_1 (by decide)) (by decide)) ?_
      refine zs_bd_ (zc_68 g4) (fun t_5 pt_5 => ?_)
      refine zs_ite (fun c11 => ?_) (fun c11 => ?_)
      · skip
        have r12 := (zs_I_eq c11)
        have g13 : zs_in (t_5).toInt 1 1 := (zs_eql 1 1 r12 pt_5 zlI_1 (by decide))
        refine zs_bd_ (zc_38 h_σ h_x1 (zs_cases g4 (fun z => zs_in ((1 : Int32) <<< (z &&& 31)).toInt 1 32) (by decide +kernel))) (fun t_8 pt_8 => ?_)
        refine zs_ite (fun c14 => ?_) (fun c14 => ?_)
        · skip
          have r15 := (zs_I_le c14)
          have g16 : zs_in (t_8).toInt (-2147483648) 0 := (zs_lel (-2147483648) 0 r15 (zs_topI _) zlI_0 (by decide))
          obtain ⟨ret, er, hr⟩ := zc_132 h_σ h_x1 g10 g4 hc
          refine ⟨ret, er, ?_⟩
          exact (zs_sumw hr (fun v w => ⟨w.1, w.2⟩) (fun v w => w.elim))
        · skip
          have r17 := (zs_I_len c14)
          have g18 : zs_in (t_8).toInt 1 2147483647 := (zs_ltr 1 2147483647 r17 zlI_0 (zs_topI _) (by decide))
          obtain ⟨ret, er, hr⟩ := zc_133 h_σ h_x1 g10 g4 (zs_cases g4 (fun z => zs_in ((1 : Int32) <<< (z &&& 31)).toInt 1 32) (by decide +kernel)) hc
          refine ⟨ret, er, ?_⟩
          exact (zs_sumw hr (fun v w => ⟨w.1, w.2⟩) (fun v w => w.elim))
      · skip
        have r19 := (zs_I_eqn c11)
        have g20 : zs_in (t_5).toInt 0 0 := (zs_neh 0 0 r19 pt_5 zlI_1 (by decide))
        obtain ⟨ret, er, hr⟩ := zc_132 h_σ h_x1 g10 g4 hc
        refine ⟨ret, er, ?_⟩
        exact (zs_sumw hr (fun v w => ⟨w.1, w.2⟩) (fun v w => w.elim))
theorem zd_20 {σ0 : sn_S} {σ : sn_S} (h_σ : zs_M σ0 σ) {x1 : Int32} (h_x1 : zs_in x1.toInt 0 5) {x2 : Int32} (h_x2 : zs_in x2.toInt (-1) 29) {s0 : (Int32 × Int32)} (h0 : (True ∧ zs_in (s0.2).toInt 0 6)) : zs_ok (sn_it (LX9_gave_26 σ x1 x2) 5000 s0) (fun t => True) := by
  refine zs_it (I := fun s => (True ∧ zs_in (s.2).toInt 0 6)) (m := fun s => 6 - s.2.toInt) (fun s hs => ?_) (fun s hs => ?_) (by exact h0)
  · have h1 := hs.2; unfold zs_in at h1
    omega
  · obtain ⟨b, eb, hb⟩ := zc_134 h_σ h_x1 h_x2 hs.2 (c := s.2.toInt) (Int.add_zero _).symm
    exact ⟨b, eb, zs_sumw hb (fun v w => ⟨⟨w.1.1, (zs_w w.1.2 (by decide))⟩, by have := w.2; omega⟩) (fun v w => w)⟩
-- BX9_gave_87
theorem zc_135 {σ0 : sn_S} {σ : sn_S} (h_σ : zs_M σ0 σ) {x3 : Int32} : zs_ok (BX9_gave_87 σ x3) (fun r => (True ∧ zs_M σ0 r.2)) := by
  unfold BX9_gave_87
  exact zs_some ⟨trivial, h_σ⟩
-- fX9_gave
theorem zc_136 {σ0 : sn_S} {σ : sn_S} (h_σ : zs_M σ0 σ) {x1 : Int32} : zs_ok (fX9_gave σ x1) (fun r => ((True ∧ zs_M σ0 r.2)) ∧ ((r.1).toInt = (-2) ∨ (zs_in (x1).toInt 0 5))) := by
  unfold fX9_gave
  refine zs_bd_ (zc_98 h_σ) (fun t_1 pt_1 => ?_)
  refine zs_ite (fun c1 => ?_) (fun c1 => ?_)
  · skip
    have r2 := (zs_I_eq c1)
    have g3 : zs_in (t_1.1).toInt 0 0 := (zs_eql 0 0 r2 pt_1.1.1 zlI_0 (by decide))
    exact zs_some ⟨⟨trivial, pt_1.1.2⟩, Or.inl (zs_ptr zlI_m2)⟩
  · skip
    have r4 := (zs_I_eqn c1)
    have g5 : zs_in (t_1.1).toInt 1 1 := (zs_nel 1 1 r4 pt_1.1.1 zlI_0 (by decide))
    have q6 := (zs_or2 pt_1.2 g5 (by decide))
    have g7 : zs_in (x1).toInt 0 5 := q6
    refine zs_gd (zs_gin g7 (by decide)) ?_
    refine zs_bd_ (zo_fot2 (zs_rdu (q := 10) (z := (0, 1073741823)) pt_1.1.2.1 (fun _ => rfl))) (fun t_5 pt_5 => ?_)
    refine zs_bd_ (zd_20 pt_1.1.2 g7 pt_5 (s0 := ((0 : Int32), (0 : Int32))) ⟨trivial, (zs_w zlI_0 (by decide))⟩) (fun t_7 pt_7 => ?_)
    obtain ⟨ret, er, hr⟩ := zc_135 pt_1.1.2
    refine ⟨ret, er, ?_⟩
    exact ⟨hr, Or.inr g7⟩
-- BX8_worst_52
theorem zc_137 {σ0 : sn_S} {σ : sn_S} (h_σ : zs_C σ0 σ) {x1 : Int32} (h_x1 : zs_in x1.toInt (-1) 5) {x2 : Int32} (h_x2 : zs_in x2.toInt 0 30) {x3 : Int32} (h_x3 : zs_in x3.toInt 0 5) {c : Int} (hc : x3.toInt = c + 0) : zs_ok (BX8_worst_52 σ x1 x2 x3) (fun r => zs_sum (fun v => ((zs_in (v.1).toInt (-1) 5 ∧ (zs_in (v.2.1).toInt 0 30 ∧ zs_in (v.2.2).toInt 1 6))) ∧ v.2.2.toInt = c + 1) (fun v => False) r) := by
  unfold BX8_worst_52
  refine zs_lt (Q := fun z => zs_in z.toInt 1 6 ∧ z.toInt = c + 1) ⟨(zs_addI 1 6 h_x3 zlI_1 (by decide)), (zs_syI 1 hc h_x3 zlI_1 (by decide) (by decide))⟩ (fun y_1 hy_1 => ?_)
  exact zs_some (zs_inl ⟨⟨h_x1, ⟨h_x2, hy_1.1⟩⟩, hy_1.2⟩)
-- BX8_worst_52
theorem zc_138 {σ0 : sn_S} {σ : sn_S} (h_σ : zs_C σ0 σ) {x1 : Int32} (h_x1 : zs_in x1.toInt 0 5) {x2 : Int32} (h_x2 : zs_in x2.toInt 1 30) {x3 : Int32} (h_x3 : zs_in x3.toInt 0 5) {c : Int} (hc : x3.toInt = c + 0) : zs_ok (BX8_worst_52 σ x1 x2 x3) (fun r => zs_sum (fun v => ((zs_in (v.1).toInt 0 5 ∧ (zs_in (v.2.1).toInt 1 30 ∧ zs_in (v.2.2).toInt 1 6))) ∧ v.2.2.toInt = c + 1) (fun v => False) r) := by
  unfold BX8_worst_52
  refine zs_lt (Q := fun z => zs_in z.toInt 1 6 ∧ z.toInt = c + 1) ⟨(zs_addI 1 6 h_x3 zlI_1 (by decide)), (zs_syI 1 hc h_x3 zlI_1 (by decide) (by decide))⟩ (fun y_1 hy_1 => ?_)
  exact zs_some (zs_inl ⟨⟨h_x1, ⟨h_x2, hy_1.1⟩⟩, hy_1.2⟩)
-- BX8_worst_16
theorem zc_139 {σ0 : sn_S} {σ : sn_S} (h_σ : zs_C σ0 σ) {x1 : Int32} (h_x1 : zs_in x1.toInt (-1) 5) {x2 : Int32} (h_x2 : zs_in x2.toInt 0 30) {x3 : Int32} (h_x3 : zs_in x3.toInt 0 6) {c : Int} (hc : x3.toInt = c + 0) : zs_ok (BX8_worst_16 σ x1 x2 x3) (fun r => zs_sum (fun v => ((zs_in (v.1).toInt (-1) 5 ∧ (zs_in (v.2.1).toInt 0 30 ∧ zs_in (v.2.2).toInt 1 6))) ∧ v.2.2.toInt = c + 1) (fun v => zs_in (v).toInt (-1) 5) r) := by
  unfold BX8_worst_16
  refine zs_ite (fun c1 => ?_) (fun c1 => ?_)
  · skip
    have r2 := (zs_I_le c1)
    exact zs_some (zs_inr (h_x1))
  · skip
    have r3 := (zs_I_len c1)
    have g4 : zs_in (x3).toInt 0 5 := (zs_ltl 0 5 r3 h_x3 (zs_rdk (q := 27) (k := 1) (z := (0, 6)) h_σ.1 rfl) (by decide))
    have g5 : zs_in ((sn_I σ 27 1)).toInt 1 6 := (zs_ltr 1 6 r3 h_x3 (zs_rdk (q := 27) (k := 1) (z := (0, 6)) h_σ.1 rfl) (by decide))
    refine zs_gd (zs_gin g4 (by decide)) ?_
    refine zs_bd_ (zo_bc 30 30 (by decide) (zs_rdu (q := 37) (z := (0, 1073741823)) h_σ.1 (fun _ => rfl))) (fun t_3 pt_3 => ?_)
    refine zs_ite (fun c6 => ?_) (fun c6 => ?_)
    · skip
      have r7 := (zs_I_le c6)
      obtain ⟨ret, er, hr⟩ := zc_137 h_σ h_x1 h_x2 g4 hc
      refine ⟨ret, er, ?_⟩
      exact (zs_sumw hr (fun v w => ⟨w.1, w.2⟩) (fun v w => w.elim))
    · skip
      have r8 := (zs_I_len c6)
      have g9 : zs_in (x2).toInt 0 29 := (zs_ltl 0 29 r8 h_x2 pt_3 (by decide))
      have g10 : zs_in (t_3).toInt 1 30 := (zs_ltr 1 30 r8 h_x2 pt_3 (by decide))
      obtain ⟨ret, er, hr⟩ := zc_138 h_σ g4 g10 g4 hc
      refine ⟨ret, er, ?_⟩
      exact (zs_sumw hr (fun v w => ⟨⟨(zs_w w.1.1 (by decide)), ⟨(zs_w w.1.2.1 (by decide)), w.1.2.2⟩⟩, w.2⟩) (fun v w => w.elim))
theorem zd_21 {σ0 : sn_S} {σ : sn_S} (h_σ : zs_C σ0 σ) {s0 : (Int32 × (Int32 × Int32))} (h0 : (zs_in (s0.1).toInt (-1) 5 ∧ (zs_in (s0.2.1).toInt 0 30 ∧ zs_in (s0.2.2).toInt 0 6))) : zs_ok (sn_it (LX8_worst_16 σ) 5000 s0) (fun t => zs_in (t).toInt (-1) 5) := by
  refine zs_it (I := fun s => (zs_in (s.1).toInt (-1) 5 ∧ (zs_in (s.2.1).toInt 0 30 ∧ zs_in (s.2.2).toInt 0 6))) (m := fun s => 6 - s.2.2.toInt) (fun s hs => ?_) (fun s hs => ?_) (by exact h0)
  · have h1 := hs.2.2; unfold zs_in at h1
    omega
  · obtain ⟨b, eb, hb⟩ := zc_139 h_σ hs.1 hs.2.1 hs.2.2 (c := s.2.2.toInt) (Int.add_zero _).symm
    exact ⟨b, eb, zs_sumw hb (fun v w => ⟨⟨w.1.1, ⟨w.1.2.1, (zs_w w.1.2.2 (by decide))⟩⟩, by have := w.2; omega⟩) (fun v w => w)⟩
-- BX8_worst_58
theorem zc_140 {σ0 : sn_S} {σ : sn_S} (h_σ : zs_C σ0 σ) {x1 : Int32} (h_x1 : zs_in x1.toInt (-1) 5) : zs_ok (BX8_worst_58 σ x1) (fun r => zs_in (r).toInt (-1) 5) := by
  unfold BX8_worst_58
  exact zs_some h_x1
-- fX8_worst
theorem zc_141 {σ0 : sn_S} {σ : sn_S} (h_σ : zs_C σ0 σ) : zs_ok (fX8_worst σ) (fun r => zs_in (r).toInt (-2) 5) := by
  unfold fX8_worst
  refine zs_bd_ (zc_102 h_σ) (fun t_1 pt_1 => ?_)
  refine zs_ite (fun c1 => ?_) (fun c1 => ?_)
  · skip
    have r2 := (zs_I_eq c1)
    have g3 : zs_in (t_1).toInt 0 0 := (zs_eql 0 0 r2 pt_1 zlI_0 (by decide))
    exact zs_some (zs_w zlI_m2 (by decide))
  · skip
    have r4 := (zs_I_eqn c1)
    have g5 : zs_in (t_1).toInt 1 1 := (zs_nel 1 1 r4 pt_1 zlI_0 (by decide))
    refine zs_bd_ (zd_21 h_σ (s0 := ((-1 : Int32), ((0 : Int32), (0 : Int32)))) ⟨(zs_w zlI_m1 (by decide)), ⟨(zs_w zlI_0 (by decide)), (zs_w zlI_0 (by decide))⟩⟩) (fun t_4 pt_4 => ?_)
    obtain ⟨ret, er, hr⟩ := zc_140 h_σ pt_4
    refine ⟨ret, er, ?_⟩
    exact (zs_w hr (by decide))
-- BX9_worst_54
theorem zc_142 {σ0 : sn_S} {σ : sn_S} (h_σ : zs_M σ0 σ) {x1 : Int32} (h_x1 : zs_in x1.toInt 0 5) {x2 : Int32} {x3 : Int32} (h_x3 : zs_in x3.toInt 0 5) {c : Int} (hc : x3.toInt = c + 0) : zs_ok (BX9_worst_54 σ x1 x2 x3) (fun r => zs_sum (fun v => ((zs_in (v.1).toInt 0 5 ∧ (True ∧ zs_in (v.2.2).toInt 1 6))) ∧ v.2.2.toInt = c + 1) (fun v => False) r) := by
  unfold BX9_worst_54
  refine zs_lt (Q := fun z => zs_in z.toInt 1 6 ∧ z.toInt = c + 1) ⟨(zs_addI 1 6 h_x3 zlI_1 (by decide)), (zs_syI 1 hc h_x3 zlI_1 (by decide) (by decide))⟩ (fun y_1 hy_1 => ?_)
  exact zs_some (zs_inl ⟨⟨h_x1, ⟨trivial, hy_1.1⟩⟩, hy_1.2⟩)
-- BX9_worst_54
theorem zc_143 {σ0 : sn_S} {σ : sn_S} (h_σ : zs_M σ0 σ) {x1 : Int32} (h_x1 : zs_in x1.toInt (-1) 5) {x2 : Int32} {x3 : Int32} (h_x3 : zs_in x3.toInt 0 5) {c : Int} (hc : x3.toInt = c + 0) : zs_ok (BX9_worst_54 σ x1 x2 x3) (fun r => zs_sum (fun v => ((zs_in (v.1).toInt (-1) 5 ∧ (True ∧ zs_in (v.2.2).toInt 1 6))) ∧ v.2.2.toInt = c + 1) (fun v => False) r) := by
  unfold BX9_worst_54
  refine zs_lt (Q := fun z => zs_in z.toInt 1 6 ∧ z.toInt = c + 1) ⟨(zs_addI 1 6 h_x3 zlI_1 (by decide)), (zs_syI 1 hc h_x3 zlI_1 (by decide) (by decide))⟩ (fun y_1 hy_1 => ?_)
  exact zs_some (zs_inl ⟨⟨h_x1, ⟨trivial, hy_1.1⟩⟩, hy_1.2⟩)
-- BX9_worst_16
theorem zc_144 {σ0 : sn_S} {σ : sn_S} (h_σ : zs_M σ0 σ) {x1 : Int32} (h_x1 : zs_in x1.toInt (-1) 5) {x2 : Int32} {x3 : Int32} (h_x3 : zs_in x3.toInt 0 6) {c : Int} (hc : x3.toInt = c + 0) : zs_ok (BX9_worst_16 σ x1 x2 x3) (fun r => zs_sum (fun v => ((zs_in (v.1).toInt (-1) 5 ∧ (True ∧ zs_in (v.2.2).toInt 1 6))) ∧ v.2.2.toInt = c + 1) (fun v => zs_in (v).toInt (-1) 5) r) := by
  unfold BX9_worst_16
  refine zs_gd (zs_gin zlI_5 (by decide)) ?_
  refine zs_ite (fun c1 => ?_) (fun c1 => ?_)
  · skip
    have r2 := (zs_I_le c1)
    exact zs_some (zs_inr (h_x1))
  · skip
    have r3 := (zs_I_len c1)
    have g4 : zs_in (x3).toInt 0 5 := (zs_ltl 0 5 r3 h_x3 (zs_rdk (q := 1) (k := (5 : Int32).toNatClampNeg) (z := (0, 6)) h_σ.1 rfl) (by decide))
    have g5 : zs_in ((sn_I σ 1 (5 : Int32).toNatClampNeg)).toInt 1 6 := (zs_ltr 1 6 r3 h_x3 (zs_rdk (q := 1) (k := (5 : Int32).toNatClampNeg) (z := (0, 6)) h_σ.1 rfl) (by decide))
    refine zs_gd (zs_gin g4 (by decide)) ?_
    refine zs_bd_ (zc_109 (zs_rdu (q := 10) (z := (0, 1073741823)) h_σ.1 (fun _ => rfl))) (fun t_4 pt_4 => ?_)
    refine zs_ite (fun c6 => ?_) (fun c6 => ?_)
    · skip
      have r7 := (zs_I_lt c6)
      have g8 : zs_in (x2).toInt (-2147483648) 2147483646 := (zs_ltl (-2147483648) 2147483646 r7 (zs_topI _) (zs_topI _) (by decide))
      have g9 : zs_in (t_4).toInt (-2147483647) 2147483647 := (zs_ltr (-2147483647) 2147483647 r7 (zs_topI _) (zs_topI _) (by decide))
      refine zs_gd (zs_gin g4 (by decide)) ?_
      refine zs_bd_ (zc_109 (zs_rdu (q := 10) (z := (0, 1073741823)) h_σ.1 (fun _ => rfl))) (fun t_8 pt_8 => ?_)
      obtain ⟨ret, er, hr⟩ := zc_142 h_σ g4 g4 hc
      refine ⟨ret, er, ?_⟩
      exact (zs_sumw hr (fun v w => ⟨⟨(zs_w w.1.1 (by decide)), w.1.2⟩, w.2⟩) (fun v w => w.elim))
    · skip
      have r10 := (zs_I_ltn c6)
      obtain ⟨ret, er, hr⟩ := zc_143 h_σ h_x1 g4 hc
      refine ⟨ret, er, ?_⟩
      exact (zs_sumw hr (fun v w => ⟨w.1, w.2⟩) (fun v w => w.elim))
theorem zd_22 {σ0 : sn_S} {σ : sn_S} (h_σ : zs_M σ0 σ) {s0 : (Int32 × (Int32 × Int32))} (h0 : (zs_in (s0.1).toInt (-1) 5 ∧ (True ∧ zs_in (s0.2.2).toInt 0 6))) : zs_ok (sn_it (LX9_worst_16 σ) 5000 s0) (fun t => zs_in (t).toInt (-1) 5) := by
  refine zs_it (I := fun s => (zs_in (s.1).toInt (-1) 5 ∧ (True ∧ zs_in (s.2.2).toInt 0 6))) (m := fun s => 6 - s.2.2.toInt) (fun s hs => ?_) (fun s hs => ?_) (by exact h0)
  · have h1 := hs.2.2; unfold zs_in at h1
    omega
  · obtain ⟨b, eb, hb⟩ := zc_144 h_σ hs.1 hs.2.2 (c := s.2.2.toInt) (Int.add_zero _).symm
    exact ⟨b, eb, zs_sumw hb (fun v w => ⟨⟨w.1.1, ⟨w.1.2.1, (zs_w w.1.2.2 (by decide))⟩⟩, by have := w.2; omega⟩) (fun v w => w)⟩
-- BX9_worst_60
theorem zc_145 {σ0 : sn_S} {σ : sn_S} (h_σ : zs_M σ0 σ) {x1 : Int32} (h_x1 : zs_in x1.toInt (-1) 5) : zs_ok (BX9_worst_60 σ x1) (fun r => (zs_in (r.1).toInt (-1) 5 ∧ zs_M σ0 r.2)) := by
  unfold BX9_worst_60
  exact zs_some ⟨h_x1, h_σ⟩
-- fX9_worst
theorem zc_146 {σ0 : sn_S} {σ : sn_S} (h_σ : zs_M σ0 σ) : zs_ok (fX9_worst σ) (fun r => (zs_in (r.1).toInt (-2) 5 ∧ zs_M σ0 r.2)) := by
  unfold fX9_worst
  refine zs_bd_ (zc_92 h_σ) (fun t_1 pt_1 => ?_)
  refine zs_ite (fun c1 => ?_) (fun c1 => ?_)
  · skip
    have r2 := (zs_I_eq c1)
    have g3 : zs_in (t_1.1).toInt 0 0 := (zs_eql 0 0 r2 pt_1.1 zlI_0 (by decide))
    exact zs_some ⟨(zs_w zlI_m2 (by decide)), pt_1.2⟩
  · skip
    have r4 := (zs_I_eqn c1)
    have g5 : zs_in (t_1.1).toInt 1 1 := (zs_nel 1 1 r4 pt_1.1 zlI_0 (by decide))
    refine zs_bd_ (zd_22 pt_1.2 (s0 := ((-1 : Int32), ((0 : Int32), (0 : Int32)))) ⟨(zs_w zlI_m1 (by decide)), ⟨trivial, (zs_w zlI_0 (by decide))⟩⟩) (fun t_4 pt_4 => ?_)
    obtain ⟨ret, er, hr⟩ := zc_145 pt_1.2 pt_4
    refine ⟨ret, er, ?_⟩
    exact ⟨(zs_w hr.1 (by decide)), hr.2⟩
-- BX8_chorus_14
theorem zc_147 {σ0 : sn_S} {σ : sn_S} (h_σ : zs_C σ0 σ) {x1 : Int32} (h_x1 : zs_in x1.toInt 0 63) {x2 : Int32} (h_x2 : zs_in x2.toInt 0 30) {c : Int} (hc : x2.toInt = c + 0) : zs_ok (BX8_chorus_14 σ x1 x2) (fun r => zs_sum (fun v => ((zs_in (v.1).toInt 0 63 ∧ zs_in (v.2).toInt 1 30)) ∧ v.2.toInt = c + 1) (fun v => zs_in (v).toInt 0 63) r) := by
  unfold BX8_chorus_14
  refine zs_ite (fun c1 => ?_) (fun c1 => ?_)
  · skip
    have r2 := (zs_I_le c1)
    exact zs_some (zs_inr (h_x1))
  · skip
    have r3 := (zs_I_len c1)
    have g4 : zs_in (x2).toInt 0 29 := (zs_ltl 0 29 r3 h_x2 (zs_rdk (q := 27) (k := 0) (z := (0, 30)) h_σ.1 rfl) (by decide))
    have g5 : zs_in ((sn_I σ 27 0)).toInt 1 30 := (zs_ltr 1 30 r3 h_x2 (zs_rdk (q := 27) (k := 0) (z := (0, 30)) h_σ.1 rfl) (by decide))
    refine zs_gd (zs_gin g4 (by decide)) ?_
    refine zs_bd_ (zo_bct) (fun t_3 pt_3 => ?_)
    refine zs_lt (Q := fun z => zs_in z.toInt 0 63) (zs_max 0 63 h_x1 pt_3 (by decide)) (fun y_5 hy_5 => ?_)
    refine zs_lt (Q := fun z => zs_in z.toInt 1 30 ∧ z.toInt = c + 1) ⟨(zs_addI 1 30 g4 zlI_1 (by decide)), (zs_syI 1 hc g4 zlI_1 (by decide) (by decide))⟩ (fun y_7 hy_7 => ?_)
    exact zs_some (zs_inl ⟨⟨hy_5, hy_7.1⟩, hy_7.2⟩)
theorem zd_23 {σ0 : sn_S} {σ : sn_S} (h_σ : zs_C σ0 σ) {s0 : (Int32 × Int32)} (h0 : (zs_in (s0.1).toInt 0 63 ∧ zs_in (s0.2).toInt 0 30)) : zs_ok (sn_it (LX8_chorus_14 σ) 5000 s0) (fun t => zs_in (t).toInt 0 63) := by
  refine zs_it (I := fun s => (zs_in (s.1).toInt 0 63 ∧ zs_in (s.2).toInt 0 30)) (m := fun s => 30 - s.2.toInt) (fun s hs => ?_) (fun s hs => ?_) (by exact h0)
  · have h1 := hs.2; unfold zs_in at h1
    omega
  · obtain ⟨b, eb, hb⟩ := zc_147 h_σ hs.1 hs.2 (c := s.2.toInt) (Int.add_zero _).symm
    exact ⟨b, eb, zs_sumw hb (fun v w => ⟨⟨w.1.1, (zs_w w.1.2 (by decide))⟩, by have := w.2; omega⟩) (fun v w => w)⟩
-- BX8_chorus_48
theorem zc_148 {σ0 : sn_S} {σ : sn_S} (h_σ : zs_C σ0 σ) {x1 : Int32} (h_x1 : zs_in x1.toInt 0 63) : zs_ok (BX8_chorus_48 σ x1) (fun r => zs_in (r).toInt 0 63) := by
  unfold BX8_chorus_48
  exact zs_some h_x1
-- fX8_chorus
theorem zc_149 {σ0 : sn_S} {σ : sn_S} (h_σ : zs_C σ0 σ) : zs_ok (fX8_chorus σ) (fun r => zs_in (r).toInt (-2) 63) := by
  unfold fX8_chorus
  refine zs_bd_ (zc_102 h_σ) (fun t_1 pt_1 => ?_)
  refine zs_ite (fun c1 => ?_) (fun c1 => ?_)
  · skip
    have r2 := (zs_I_eq c1)
    have g3 : zs_in (t_1).toInt 0 0 := (zs_eql 0 0 r2 pt_1 zlI_0 (by decide))
    exact zs_some (zs_w zlI_m2 (by decide))
  · skip
    have r4 := (zs_I_eqn c1)
    have g5 : zs_in (t_1).toInt 1 1 := (zs_nel 1 1 r4 pt_1 zlI_0 (by decide))
    refine zs_bd_ (zd_23 h_σ (s0 := ((0 : Int32), (0 : Int32))) ⟨(zs_w zlI_0 (by decide)), (zs_w zlI_0 (by decide))⟩) (fun t_4 pt_4 => ?_)
    obtain ⟨ret, er, hr⟩ := zc_148 h_σ pt_4
    refine ⟨ret, er, ?_⟩
    exact (zs_w hr (by decide))
-- BX9_bits_4
theorem zc_150 {x0 : Int32} {x1 : Int32} {x2 : Int32} (h_x2 : zs_in x2.toInt 0 30) {c : Int} (hc : x2.toInt = c + 0) : zs_ok (BX9_bits_4 x0 x1 x2) (fun r => zs_sum (fun v => ((True ∧ zs_in (v.2).toInt 1 30)) ∧ v.2.toInt = c + 1) (fun v => True) r) := by
  unfold BX9_bits_4
  refine zs_ite (fun c1 => ?_) (fun c1 => ?_)
  · skip
    have r2 := (zs_I_le c1)
    have g3 : zs_in (x2).toInt 30 30 := (zs_ler 30 30 r2 zlI_30 h_x2 (by decide))
    exact zs_some (zs_inr (trivial))
  · skip
    have r4 := (zs_I_len c1)
    have g5 : zs_in (x2).toInt 0 29 := (zs_ltl 0 29 r4 h_x2 zlI_30 (by decide))
    refine zs_lt (Q := fun z => True) trivial (fun y_2 hy_2 => ?_)
    refine zs_lt (Q := fun z => zs_in z.toInt 1 30 ∧ z.toInt = c + 1) ⟨(zs_addI 1 30 g5 zlI_1 (by decide)), (zs_syI 1 hc g5 zlI_1 (by decide) (by decide))⟩ (fun y_4 hy_4 => ?_)
    exact zs_some (zs_inl ⟨⟨trivial, hy_4.1⟩, hy_4.2⟩)
theorem zd_24 {x0 : Int32} {s0 : (Int32 × Int32)} (h0 : (True ∧ zs_in (s0.2).toInt 0 30)) : zs_ok (sn_it (LX9_bits_4 x0) 5000 s0) (fun t => True) := by
  refine zs_it (I := fun s => (True ∧ zs_in (s.2).toInt 0 30)) (m := fun s => 30 - s.2.toInt) (fun s hs => ?_) (fun s hs => ?_) (by exact h0)
  · have h1 := hs.2; unfold zs_in at h1
    omega
  · obtain ⟨b, eb, hb⟩ := zc_150 hs.2 (c := s.2.toInt) (Int.add_zero _).symm
    exact ⟨b, eb, zs_sumw hb (fun v w => ⟨⟨w.1.1, (zs_w w.1.2 (by decide))⟩, by have := w.2; omega⟩) (fun v w => w)⟩
-- fX9_bits
theorem zc_151 {x0 : Int32} : zs_ok (fX9_bits x0) (fun r => True) := by
  unfold fX9_bits
  refine zs_bd_ (zd_24  (s0 := ((0 : Int32), (0 : Int32))) ⟨trivial, (zs_w zlI_0 (by decide))⟩) (fun t_1 pt_1 => ?_)
  obtain ⟨ret, er, hr⟩ := zc_108
  refine ⟨ret, er, ?_⟩
  exact hr
-- BX9_chorus_14
theorem zc_152 {σ0 : sn_S} {σ : sn_S} (h_σ : zs_M σ0 σ) {x1 : Int32} (h_x1 : zs_in x1.toInt 0 2147483647) {x2 : Int32} (h_x2 : zs_in x2.toInt 0 30) {c : Int} (hc : x2.toInt = c + 0) : zs_ok (BX9_chorus_14 σ x1 x2) (fun r => zs_sum (fun v => ((zs_in (v.1).toInt 0 2147483647 ∧ zs_in (v.2).toInt 1 30)) ∧ v.2.toInt = c + 1) (fun v => zs_in (v).toInt 0 2147483647) r) := by
  unfold BX9_chorus_14
  refine zs_bd_ (zc_21 h_σ) (fun t_1 pt_1 => ?_)
  refine zs_ite (fun c1 => ?_) (fun c1 => ?_)
  · skip
    have r2 := (zs_I_le c1)
    exact zs_some (zs_inr (h_x1))
  · skip
    have r3 := (zs_I_len c1)
    have g4 : zs_in (x2).toInt 0 29 := (zs_ltl 0 29 r3 h_x2 pt_1 (by decide))
    have g5 : zs_in (t_1).toInt 1 30 := (zs_ltr 1 30 r3 h_x2 pt_1 (by decide))
    refine zs_gd (zs_gin g4 (by decide)) ?_
    refine zs_bd_ (zc_151) (fun t_5 pt_5 => ?_)
    refine zs_lt (Q := fun z => zs_in z.toInt 0 2147483647) (zs_max 0 2147483647 h_x1 (zs_topI _) (by decide)) (fun y_7 hy_7 => ?_)
    refine zs_lt (Q := fun z => zs_in z.toInt 1 30 ∧ z.toInt = c + 1) ⟨(zs_addI 1 30 g4 zlI_1 (by decide)), (zs_syI 1 hc g4 zlI_1 (by decide) (by decide))⟩ (fun y_9 hy_9 => ?_)
    exact zs_some (zs_inl ⟨⟨hy_7, hy_9.1⟩, hy_9.2⟩)
theorem zd_25 {σ0 : sn_S} {σ : sn_S} (h_σ : zs_M σ0 σ) {s0 : (Int32 × Int32)} (h0 : (zs_in (s0.1).toInt 0 2147483647 ∧ zs_in (s0.2).toInt 0 30)) : zs_ok (sn_it (LX9_chorus_14 σ) 5000 s0) (fun t => zs_in (t).toInt 0 2147483647) := by
  refine zs_it (I := fun s => (zs_in (s.1).toInt 0 2147483647 ∧ zs_in (s.2).toInt 0 30)) (m := fun s => 30 - s.2.toInt) (fun s hs => ?_) (fun s hs => ?_) (by exact h0)
  · have h1 := hs.2; unfold zs_in at h1
    omega
  · obtain ⟨b, eb, hb⟩ := zc_152 h_σ hs.1 hs.2 (c := s.2.toInt) (Int.add_zero _).symm
    exact ⟨b, eb, zs_sumw hb (fun v w => ⟨⟨w.1.1, (zs_w w.1.2 (by decide))⟩, by have := w.2; omega⟩) (fun v w => w)⟩
-- BX9_chorus_42
theorem zc_153 {σ0 : sn_S} {σ : sn_S} (h_σ : zs_M σ0 σ) {x1 : Int32} (h_x1 : zs_in x1.toInt 0 2147483647) : zs_ok (BX9_chorus_42 σ x1) (fun r => (zs_in (r.1).toInt 0 2147483647 ∧ zs_M σ0 r.2)) := by
  unfold BX9_chorus_42
  exact zs_some ⟨h_x1, h_σ⟩
-- fX9_chorus
theorem zc_154 {σ0 : sn_S} {σ : sn_S} (h_σ : zs_M σ0 σ) : zs_ok (fX9_chorus σ) (fun r => (zs_in (r.1).toInt (-2) 2147483647 ∧ zs_M σ0 r.2)) := by
  unfold fX9_chorus
  refine zs_bd_ (zc_92 h_σ) (fun t_1 pt_1 => ?_)
  refine zs_ite (fun c1 => ?_) (fun c1 => ?_)
  · skip
    have r2 := (zs_I_eq c1)
    have g3 : zs_in (t_1.1).toInt 0 0 := (zs_eql 0 0 r2 pt_1.1 zlI_0 (by decide))
    exact zs_some ⟨(zs_w zlI_m2 (by decide)), pt_1.2⟩
  · skip
    have r4 := (zs_I_eqn c1)
    have g5 : zs_in (t_1.1).toInt 1 1 := (zs_nel 1 1 r4 pt_1.1 zlI_0 (by decide))
    refine zs_bd_ (zd_25 pt_1.2 (s0 := ((0 : Int32), (0 : Int32))) ⟨(zs_w zlI_0 (by decide)), (zs_w zlI_0 (by decide))⟩) (fun t_4 pt_4 => ?_)
    obtain ⟨ret, er, hr⟩ := zc_153 pt_1.2 pt_4
    refine ⟨ret, er, ?_⟩
    exact ⟨(zs_w hr.1 (by decide)), hr.2⟩
-- BX8_calm_46
theorem zc_155 {σ0 : sn_S} {σ : sn_S} (h_σ : zs_C σ0 σ) {x1 : Int32} (h_x1 : zs_in x1.toInt 0 2147483647) {x2 : Int32} {x3 : Int32} (h_x3 : zs_in x3.toInt 0 29) {t0 : Int32} {c : Int} (hc : x3.toInt = c + 0) : zs_ok (BX8_calm_46 σ x1 x2 x3 t0) (fun r => zs_sum (fun v => ((zs_in (v.1).toInt 0 2147483647 ∧ (True ∧ zs_in (v.2.2).toInt 1 30))) ∧ v.2.2.toInt = c + 1) (fun v => False) r) := by
  unfold BX8_calm_46
  refine zs_lt (Q := fun z => zs_in z.toInt 0 2147483647) (zs_max 0 2147483647 h_x1 (zs_topI _) (by decide)) (fun y_1 hy_1 => ?_)
  refine zs_lt (Q := fun z => zs_in z.toInt 1 30 ∧ z.toInt = c + 1) ⟨(zs_addI 1 30 h_x3 zlI_1 (by decide)), (zs_syI 1 hc h_x3 zlI_1 (by decide) (by decide))⟩ (fun y_3 hy_3 => ?_)
  exact zs_some (zs_inl ⟨⟨hy_1, ⟨trivial, hy_3.1⟩⟩, hy_3.2⟩)
-- BX8_calm_46
theorem zc_156 {σ0 : sn_S} {σ : sn_S} (h_σ : zs_C σ0 σ) {x1 : Int32} (h_x1 : zs_in x1.toInt 0 2147483647) {x2 : Int32} {x3 : Int32} (h_x3 : zs_in x3.toInt 0 29) {t0 : Int32} (h_t0 : zs_in t0.toInt 0 0) {c : Int} (hc : x3.toInt = c + 0) : zs_ok (BX8_calm_46 σ x1 x2 x3 t0) (fun r => zs_sum (fun v => ((zs_in (v.1).toInt 0 2147483647 ∧ (zs_in (v.2.1).toInt 0 0 ∧ zs_in (v.2.2).toInt 1 30))) ∧ v.2.2.toInt = c + 1) (fun v => False) r) := by
  unfold BX8_calm_46
  obtain rfl : t0 = (0 : Int32) := zs_eqv h_t0 (by decide)
  refine zs_lt (Q := fun z => zs_in z.toInt 0 2147483647) (zs_max 0 2147483647 h_x1 h_t0 (by decide)) (fun y_1 hy_1 => ?_)
  refine zs_lt (Q := fun z => zs_in z.toInt 1 30 ∧ z.toInt = c + 1) ⟨(zs_addI 1 30 h_x3 zlI_1 (by decide)), (zs_syI 1 hc h_x3 zlI_1 (by decide) (by decide))⟩ (fun y_3 hy_3 => ?_)
  exact zs_some (zs_inl ⟨⟨hy_1, ⟨h_t0, hy_3.1⟩⟩, hy_3.2⟩)
-- BX8_calm_16
theorem zc_157 {σ0 : sn_S} {σ : sn_S} (h_σ : zs_C σ0 σ) {x1 : Int32} (h_x1 : zs_in x1.toInt 0 2147483647) {x2 : Int32} {x3 : Int32} (h_x3 : zs_in x3.toInt 0 30) {c : Int} (hc : x3.toInt = c + 0) : zs_ok (BX8_calm_16 σ x1 x2 x3) (fun r => zs_sum (fun v => ((zs_in (v.1).toInt 0 2147483647 ∧ (True ∧ zs_in (v.2.2).toInt 1 30))) ∧ v.2.2.toInt = c + 1) (fun v => zs_in (v).toInt 0 2147483647) r) := by
  unfold BX8_calm_16
  refine zs_ite (fun c1 => ?_) (fun c1 => ?_)
  · skip
    have r2 := (zs_I_le c1)
    exact zs_some (zs_inr (h_x1))
  · skip
    have r3 := (zs_I_len c1)
    have g4 : zs_in (x3).toInt 0 29 := (zs_ltl 0 29 r3 h_x3 (zs_rdk (q := 27) (k := 0) (z := (0, 30)) h_σ.1 rfl) (by decide))
    have g5 : zs_in ((sn_I σ 27 0)).toInt 1 30 := (zs_ltr 1 30 r3 h_x3 (zs_rdk (q := 27) (k := 0) (z := (0, 30)) h_σ.1 rfl) (by decide))
    refine zs_gd (zs_gin g4 (by decide)) ?_
    refine zs_ite (fun c6 => ?_) (fun c6 => ?_)
    · skip
      have r7 := (zs_I_eq c6)
      have g8 : zs_in ((sn_I σ (27 + 9) x3.toNatClampNeg)).toInt 0 0 := (zs_eql 0 0 r7 (zs_topI _) zlI_0 (by decide))
      obtain ⟨ret, er, hr⟩ := zc_155 h_σ h_x1 g4 hc
      refine ⟨ret, er, ?_⟩
      exact (zs_sumw hr (fun v w => ⟨w.1, w.2⟩) (fun v w => w.elim))
    · skip
      have r9 := (zs_I_eqn c6)
      obtain ⟨ret, er, hr⟩ := zc_156 h_σ h_x1 g4 zlI_0 hc
      refine ⟨ret, er, ?_⟩
      exact (zs_sumw hr (fun v w => ⟨⟨w.1.1, ⟨trivial, w.1.2.2⟩⟩, w.2⟩) (fun v w => w.elim))
theorem zd_26 {σ0 : sn_S} {σ : sn_S} (h_σ : zs_C σ0 σ) {s0 : (Int32 × (Int32 × Int32))} (h0 : (zs_in (s0.1).toInt 0 2147483647 ∧ (True ∧ zs_in (s0.2.2).toInt 0 30))) : zs_ok (sn_it (LX8_calm_16 σ) 5000 s0) (fun t => zs_in (t).toInt 0 2147483647) := by
  refine zs_it (I := fun s => (zs_in (s.1).toInt 0 2147483647 ∧ (True ∧ zs_in (s.2.2).toInt 0 30))) (m := fun s => 30 - s.2.2.toInt) (fun s hs => ?_) (fun s hs => ?_) (by exact h0)
  · have h1 := hs.2.2; unfold zs_in at h1
    omega
  · obtain ⟨b, eb, hb⟩ := zc_157 h_σ hs.1 hs.2.2 (c := s.2.2.toInt) (Int.add_zero _).symm
    exact ⟨b, eb, zs_sumw hb (fun v w => ⟨⟨w.1.1, ⟨w.1.2.1, (zs_w w.1.2.2 (by decide))⟩⟩, by have := w.2; omega⟩) (fun v w => w)⟩
-- BX8_calm_59
theorem zc_158 {σ0 : sn_S} {σ : sn_S} (h_σ : zs_C σ0 σ) {x1 : Int32} (h_x1 : zs_in x1.toInt 0 2147483647) : zs_ok (BX8_calm_59 σ x1) (fun r => zs_in (r).toInt 0 2147483647) := by
  unfold BX8_calm_59
  exact zs_some h_x1
-- fX8_calm
theorem zc_159 {σ0 : sn_S} {σ : sn_S} (h_σ : zs_C σ0 σ) : zs_ok (fX8_calm σ) (fun r => zs_in (r).toInt (-2) 2147483647) := by
  unfold fX8_calm
  refine zs_bd_ (zc_102 h_σ) (fun t_1 pt_1 => ?_)
  refine zs_ite (fun c1 => ?_) (fun c1 => ?_)
  · skip
    have r2 := (zs_I_eq c1)
    have g3 : zs_in (t_1).toInt 0 0 := (zs_eql 0 0 r2 pt_1 zlI_0 (by decide))
    exact zs_some (zs_w zlI_m2 (by decide))
  · skip
    have r4 := (zs_I_eqn c1)
    have g5 : zs_in (t_1).toInt 1 1 := (zs_nel 1 1 r4 pt_1 zlI_0 (by decide))
    refine zs_bd_ (zd_26 h_σ (s0 := ((0 : Int32), ((0 : Int32), (0 : Int32)))) ⟨(zs_w zlI_0 (by decide)), ⟨trivial, (zs_w zlI_0 (by decide))⟩⟩) (fun t_4 pt_4 => ?_)
    obtain ⟨ret, er, hr⟩ := zc_158 h_σ pt_4
    refine ⟨ret, er, ?_⟩
    exact (zs_w hr (by decide))
-- BX9_calm_40
theorem zc_160 {σ0 : sn_S} {σ : sn_S} (h_σ : zs_M σ0 σ) {x1 : Int32} (h_x1 : zs_in x1.toInt 0 2147483647) {x2 : Int32} {x3 : Int32} (h_x3 : zs_in x3.toInt 0 29) {t0 : Int32} {c : Int} (hc : x3.toInt = c + 0) : zs_ok (BX9_calm_40 σ x1 x2 x3 t0) (fun r => zs_sum (fun v => ((zs_in (v.1).toInt 0 2147483647 ∧ (True ∧ zs_in (v.2.2).toInt 1 30))) ∧ v.2.2.toInt = c + 1) (fun v => False) r) := by
  unfold BX9_calm_40
  refine zs_lt (Q := fun z => zs_in z.toInt 0 2147483647) (zs_max 0 2147483647 h_x1 (zs_topI _) (by decide)) (fun y_1 hy_1 => ?_)
  refine zs_lt (Q := fun z => zs_in z.toInt 1 30 ∧ z.toInt = c + 1) ⟨(zs_addI 1 30 h_x3 zlI_1 (by decide)), (zs_syI 1 hc h_x3 zlI_1 (by decide) (by decide))⟩ (fun y_3 hy_3 => ?_)
  exact zs_some (zs_inl ⟨⟨hy_1, ⟨trivial, hy_3.1⟩⟩, hy_3.2⟩)
-- BX9_calm_40
theorem zc_161 {σ0 : sn_S} {σ : sn_S} (h_σ : zs_M σ0 σ) {x1 : Int32} (h_x1 : zs_in x1.toInt 0 2147483647) {x2 : Int32} {x3 : Int32} (h_x3 : zs_in x3.toInt 0 29) {t0 : Int32} (h_t0 : zs_in t0.toInt 0 0) {c : Int} (hc : x3.toInt = c + 0) : zs_ok (BX9_calm_40 σ x1 x2 x3 t0) (fun r => zs_sum (fun v => ((zs_in (v.1).toInt 0 2147483647 ∧ (zs_in (v.2.1).toInt 0 0 ∧ zs_in (v.2.2).toInt 1 30))) ∧ v.2.2.toInt = c + 1) (fun v => False) r) := by
  unfold BX9_calm_40
  obtain rfl : t0 = (0 : Int32) := zs_eqv h_t0 (by decide)
  refine zs_lt (Q := fun z => zs_in z.toInt 0 2147483647) (zs_max 0 2147483647 h_x1 h_t0 (by decide)) (fun y_1 hy_1 => ?_)
  refine zs_lt (Q := fun z => zs_in z.toInt 1 30 ∧ z.toInt = c + 1) ⟨(zs_addI 1 30 h_x3 zlI_1 (by decide)), (zs_syI 1 hc h_x3 zlI_1 (by decide) (by decide))⟩ (fun y_3 hy_3 => ?_)
  exact zs_some (zs_inl ⟨⟨hy_1, ⟨h_t0, hy_3.1⟩⟩, hy_3.2⟩)
-- BX9_calm_16
theorem zc_162 {σ0 : sn_S} {σ : sn_S} (h_σ : zs_M σ0 σ) {x1 : Int32} (h_x1 : zs_in x1.toInt 0 2147483647) {x2 : Int32} {x3 : Int32} (h_x3 : zs_in x3.toInt 0 30) {c : Int} (hc : x3.toInt = c + 0) : zs_ok (BX9_calm_16 σ x1 x2 x3) (fun r => zs_sum (fun v => ((zs_in (v.1).toInt 0 2147483647 ∧ (True ∧ zs_in (v.2.2).toInt 1 30))) ∧ v.2.2.toInt = c + 1) (fun v => zs_in (v).toInt 0 2147483647) r) := by
  unfold BX9_calm_16
  refine zs_bd_ (zc_21 h_σ) (fun t_1 pt_1 => ?_)
  refine zs_ite (fun c1 => ?_) (fun c1 => ?_)
  · skip
    have r2 := (zs_I_le c1)
    exact zs_some (zs_inr (h_x1))
  · skip
    have r3 := (zs_I_len c1)
    have g4 : zs_in (x3).toInt 0 29 := (zs_ltl 0 29 r3 h_x3 pt_1 (by decide))
    have g5 : zs_in (t_1).toInt 1 30 := (zs_ltr 1 30 r3 h_x3 pt_1 (by decide))
    refine zs_gd (zs_gin g4 (by decide)) ?_
    refine zs_ite (fun c6 => ?_) (fun c6 => ?_)
    · skip
      have r7 := (zs_I_eq c6)
      have g8 : zs_in ((sn_I σ 11 x3.toNatClampNeg)).toInt 0 0 := (zs_eql 0 0 r7 (zs_topI _) zlI_0 (by decide))
      obtain ⟨ret, er, hr⟩ := zc_160 h_σ h_x1 g4 hc
      refine ⟨ret, er, ?_⟩
      exact (zs_sumw hr (fun v w => ⟨w.1, w.2⟩) (fun v w => w.elim))
    · skip
      have r9 := (zs_I_eqn c6)
      obtain ⟨ret, er, hr⟩ := zc_161 h_σ h_x1 g4 zlI_0 hc
      refine ⟨ret, er, ?_⟩
      exact (zs_sumw hr (fun v w => ⟨⟨w.1.1, ⟨trivial, w.1.2.2⟩⟩, w.2⟩) (fun v w => w.elim))
theorem zd_27 {σ0 : sn_S} {σ : sn_S} (h_σ : zs_M σ0 σ) {s0 : (Int32 × (Int32 × Int32))} (h0 : (zs_in (s0.1).toInt 0 2147483647 ∧ (True ∧ zs_in (s0.2.2).toInt 0 30))) : zs_ok (sn_it (LX9_calm_16 σ) 5000 s0) (fun t => zs_in (t).toInt 0 2147483647) := by
  refine zs_it (I := fun s => (zs_in (s.1).toInt 0 2147483647 ∧ (True ∧ zs_in (s.2.2).toInt 0 30))) (m := fun s => 30 - s.2.2.toInt) (fun s hs => ?_) (fun s hs => ?_) (by exact h0)
  · have h1 := hs.2.2; unfold zs_in at h1
    omega
  · obtain ⟨b, eb, hb⟩ := zc_162 h_σ hs.1 hs.2.2 (c := s.2.2.toInt) (Int.add_zero _).symm
    exact ⟨b, eb, zs_sumw hb (fun v w => ⟨⟨w.1.1, ⟨w.1.2.1, (zs_w w.1.2.2 (by decide))⟩⟩, by have := w.2; omega⟩) (fun v w => w)⟩
-- BX9_calm_53
theorem zc_163 {σ0 : sn_S} {σ : sn_S} (h_σ : zs_M σ0 σ) {x1 : Int32} (h_x1 : zs_in x1.toInt 0 2147483647) : zs_ok (BX9_calm_53 σ x1) (fun r => (zs_in (r.1).toInt 0 2147483647 ∧ zs_M σ0 r.2)) := by
  unfold BX9_calm_53
  exact zs_some ⟨h_x1, h_σ⟩
-- fX9_calm
theorem zc_164 {σ0 : sn_S} {σ : sn_S} (h_σ : zs_M σ0 σ) : zs_ok (fX9_calm σ) (fun r => (zs_in (r.1).toInt (-2) 2147483647 ∧ zs_M σ0 r.2)) := by
  unfold fX9_calm
  refine zs_bd_ (zc_92 h_σ) (fun t_1 pt_1 => ?_)
  refine zs_ite (fun c1 => ?_) (fun c1 => ?_)
  · skip
    have r2 := (zs_I_eq c1)
    have g3 : zs_in (t_1.1).toInt 0 0 := (zs_eql 0 0 r2 pt_1.1 zlI_0 (by decide))
    exact zs_some ⟨(zs_w zlI_m2 (by decide)), pt_1.2⟩
  · skip
    have r4 := (zs_I_eqn c1)
    have g5 : zs_in (t_1.1).toInt 1 1 := (zs_nel 1 1 r4 pt_1.1 zlI_0 (by decide))
    refine zs_bd_ (zd_27 pt_1.2 (s0 := ((0 : Int32), ((0 : Int32), (0 : Int32)))) ⟨(zs_w zlI_0 (by decide)), ⟨trivial, (zs_w zlI_0 (by decide))⟩⟩) (fun t_4 pt_4 => ?_)
    obtain ⟨ret, er, hr⟩ := zc_163 pt_1.2 pt_4
    refine ⟨ret, er, ?_⟩
    exact ⟨(zs_w hr.1 (by decide)), hr.2⟩
-- fX8_hasBit
theorem zc_165 {x0 : Int32} (h_x0 : zs_in x0.toInt 0 1073741823) {x1 : Int32} (h_x1 : zs_in x1.toInt 0 29) : zs_ok (fX8_hasBit x0 x1) (fun r => zs_in (r).toInt 0 1) := by
  unfold fX8_hasBit
  refine zs_ite (fun c1 => ?_) (fun c1 => ?_)
  · skip
    have r2 := (zs_I_eq c1)
    have g3 : zs_in (((x0 >>> (x1 &&& 31)) &&& (1 : Int32))).toInt 1 1 := (zs_eql 1 1 r2 (zs_and zlI_1 (by decide)) zlI_1 (by decide))
    refine zs_gd (zs_b01 zlI_1 (by decide)) ?_
    exact zs_some (zs_w zlI_1 (by decide))
  · skip
    have r4 := (zs_I_eqn c1)
    have g5 : zs_in (((x0 >>> (x1 &&& 31)) &&& (1 : Int32))).toInt 0 0 := (zs_neh 0 0 r4 (zs_and zlI_1 (by decide)) zlI_1 (by decide))
    refine zs_gd (zs_b01 zlI_0 (by decide)) ?_
    exact zs_some (zs_w zlI_0 (by decide))
-- BX8_pause_73
theorem zc_166 {σ0 : sn_S} {σ : sn_S} (h_σ : zs_C σ0 σ) {x1 : Int32} (h_x1 : zs_in x1.toInt 0 5) {x2 : Int32} (h_x2 : zs_in x2.toInt (-2147483648) 29) {x3 : Int32} (h_x3 : zs_in x3.toInt (-1) 29) {x4 : Int32} (h_x4 : zs_in x4.toInt 0 29) {c : Int} (hc : x4.toInt = c + 0) : zs_ok (BX8_pause_73 σ x1 x2 x3 x4) (fun r => zs_sum (fun v => ((zs_in (v.1).toInt (-2147483648) 29 ∧ (zs_in (v.2.1).toInt (-1) 29 ∧ zs_in (v.2.2).toInt 1 30))) ∧ v.2.2.toInt = c + 1) (fun v => False) r) := by
  unfold BX8_pause_73
  refine zs_lt (Q := fun z => zs_in z.toInt 1 30 ∧ z.toInt = c + 1) ⟨(zs_addI 1 30 h_x4 zlI_1 (by decide)), (zs_syI 1 hc h_x4 zlI_1 (by decide) (by decide))⟩ (fun y_1 hy_1 => ?_)
  exact zs_some (zs_inl ⟨⟨h_x2, ⟨h_x3, hy_1.1⟩⟩, hy_1.2⟩)
-- BX8_pause_73
theorem zc_167 {σ0 : sn_S} {σ : sn_S} (h_σ : zs_C σ0 σ) {x1 : Int32} (h_x1 : zs_in x1.toInt 0 5) {x2 : Int32} (h_x2 : zs_in x2.toInt (-2147483648) 29) {x3 : Int32} (h_x3 : zs_in x3.toInt 0 29) {x4 : Int32} (h_x4 : zs_in x4.toInt 0 29) {c : Int} (hc : x4.toInt = c + 0) : zs_ok (BX8_pause_73 σ x1 x2 x3 x4) (fun r => zs_sum (fun v => ((zs_in (v.1).toInt (-2147483648) 29 ∧ (zs_in (v.2.1).toInt 0 29 ∧ zs_in (v.2.2).toInt 1 30))) ∧ v.2.2.toInt = c + 1) (fun v => False) r) := by
  unfold BX8_pause_73
  refine zs_lt (Q := fun z => zs_in z.toInt 1 30 ∧ z.toInt = c + 1) ⟨(zs_addI 1 30 h_x4 zlI_1 (by decide)), (zs_syI 1 hc h_x4 zlI_1 (by decide) (by decide))⟩ (fun y_1 hy_1 => ?_)
  exact zs_some (zs_inl ⟨⟨h_x2, ⟨h_x3, hy_1.1⟩⟩, hy_1.2⟩)
-- BX8_pause_70
theorem zc_168 {σ0 : sn_S} {σ : sn_S} (h_σ : zs_C σ0 σ) {x1 : Int32} (h_x1 : zs_in x1.toInt 0 5) {x2 : Int32} (h_x2 : zs_in x2.toInt (-2147483648) 29) {x3 : Int32} (h_x3 : zs_in x3.toInt (-1) (-1)) {x4 : Int32} (h_x4 : zs_in x4.toInt 0 29) {c : Int} (hc : x4.toInt = c + 0) : zs_ok (BX8_pause_70 σ x1 x2 x3 x4) (fun r => zs_sum (fun v => ((zs_in (v.1).toInt (-2147483648) 29 ∧ (zs_in (v.2.1).toInt 0 29 ∧ zs_in (v.2.2).toInt 1 30))) ∧ v.2.2.toInt = c + 1) (fun v => False) r) := by
  unfold BX8_pause_70
  obtain rfl : x3 = (-1 : Int32) := zs_eqv h_x3 (by decide)
  obtain ⟨ret, er, hr⟩ := zc_167 h_σ h_x1 h_x2 h_x4 h_x4 hc
  refine ⟨ret, er, ?_⟩
  exact (zs_sumw hr (fun v w => ⟨w.1, w.2⟩) (fun v w => w.elim))
-- BX8_pause_73
theorem zc_169 {σ0 : sn_S} {σ : sn_S} (h_σ : zs_C σ0 σ) {x1 : Int32} (h_x1 : zs_in x1.toInt 0 5) {x2 : Int32} (h_x2 : zs_in x2.toInt (-29) 29) {x3 : Int32} (h_x3 : zs_in x3.toInt 0 29) {x4 : Int32} (h_x4 : zs_in x4.toInt 0 29) {c : Int} (hc : x4.toInt = c + 0) : zs_ok (BX8_pause_73 σ x1 x2 x3 x4) (fun r => zs_sum (fun v => ((zs_in (v.1).toInt (-29) 29 ∧ (zs_in (v.2.1).toInt 0 29 ∧ zs_in (v.2.2).toInt 1 30))) ∧ v.2.2.toInt = c + 1) (fun v => False) r) := by
  unfold BX8_pause_73
  refine zs_lt (Q := fun z => zs_in z.toInt 1 30 ∧ z.toInt = c + 1) ⟨(zs_addI 1 30 h_x4 zlI_1 (by decide)), (zs_syI 1 hc h_x4 zlI_1 (by decide) (by decide))⟩ (fun y_1 hy_1 => ?_)
  exact zs_some (zs_inl ⟨⟨h_x2, ⟨h_x3, hy_1.1⟩⟩, hy_1.2⟩)
-- BX8_pause_70
theorem zc_170 {σ0 : sn_S} {σ : sn_S} (h_σ : zs_C σ0 σ) {x1 : Int32} (h_x1 : zs_in x1.toInt 0 5) {x2 : Int32} (h_x2 : zs_in x2.toInt (-29) 29) {x3 : Int32} (h_x3 : zs_in x3.toInt 0 29) {x4 : Int32} (h_x4 : zs_in x4.toInt 0 29) {c : Int} (hc : x4.toInt = c + 0) : zs_ok (BX8_pause_70 σ x1 x2 x3 x4) (fun r => zs_sum (fun v => ((zs_in (v.1).toInt (-29) 29 ∧ (zs_in (v.2.1).toInt 0 29 ∧ zs_in (v.2.2).toInt 1 30))) ∧ v.2.2.toInt = c + 1) (fun v => False) r) := by
  unfold BX8_pause_70
  obtain ⟨ret, er, hr⟩ := zc_169 h_σ h_x1 h_x2 h_x4 h_x4 hc
  refine ⟨ret, er, ?_⟩
  exact (zs_sumw hr (fun v w => ⟨w.1, w.2⟩) (fun v w => w.elim))
-- BX8_pause_65
theorem zc_171 {σ0 : sn_S} {σ : sn_S} (h_σ : zs_C σ0 σ) {x1 : Int32} (h_x1 : zs_in x1.toInt 0 5) {x2 : Int32} (h_x2 : zs_in x2.toInt (-1) (-1)) {x3 : Int32} (h_x3 : zs_in x3.toInt 0 29) {x4 : Int32} (h_x4 : zs_in x4.toInt 0 29) {c : Int} (hc : x4.toInt = c + 0) : zs_ok (BX8_pause_65 σ x1 x2 x3 x4) (fun r => zs_sum (fun v => ((zs_in (v.1).toInt (-29) 29 ∧ (zs_in (v.2.1).toInt 0 29 ∧ zs_in (v.2.2).toInt 1 30))) ∧ v.2.2.toInt = c + 1) (fun v => False) r) := by
  unfold BX8_pause_65
  obtain rfl : x2 = (-1 : Int32) := zs_eqv h_x2 (by decide)
  refine zs_lt (Q := fun z => zs_in z.toInt (-29) 29) (zs_subI (-29) 29 h_x4 h_x3 (by decide)) (fun y_1 hy_1 => ?_)
  obtain ⟨ret, er, hr⟩ := zc_170 h_σ h_x1 hy_1 h_x3 h_x4 hc
  refine ⟨ret, er, ?_⟩
  exact (zs_sumw hr (fun v w => ⟨w.1, w.2⟩) (fun v w => w.elim))
-- BX8_pause_70
theorem zc_172 {σ0 : sn_S} {σ : sn_S} (h_σ : zs_C σ0 σ) {x1 : Int32} (h_x1 : zs_in x1.toInt 0 5) {x2 : Int32} (h_x2 : zs_in x2.toInt (-2147483648) 29) {x3 : Int32} (h_x3 : zs_in x3.toInt 0 29) {x4 : Int32} (h_x4 : zs_in x4.toInt 0 29) {c : Int} (hc : x4.toInt = c + 0) : zs_ok (BX8_pause_70 σ x1 x2 x3 x4) (fun r => zs_sum (fun v => ((zs_in (v.1).toInt (-2147483648) 29 ∧ (zs_in (v.2.1).toInt 0 29 ∧ zs_in (v.2.2).toInt 1 30))) ∧ v.2.2.toInt = c + 1) (fun v => False) r) := by
  unfold BX8_pause_70
  obtain ⟨ret, er, hr⟩ := zc_167 h_σ h_x1 h_x2 h_x4 h_x4 hc
  refine ⟨ret, er, ?_⟩
  exact (zs_sumw hr (fun v w => ⟨w.1, w.2⟩) (fun v w => w.elim))
-- BX8_pause_65
theorem zc_173 {σ0 : sn_S} {σ : sn_S} (h_σ : zs_C σ0 σ) {x1 : Int32} (h_x1 : zs_in x1.toInt 0 5) {x2 : Int32} (h_x2 : zs_in x2.toInt (-28) 29) {x3 : Int32} (h_x3 : zs_in x3.toInt 0 29) {x4 : Int32} (h_x4 : zs_in x4.toInt 0 29) {c : Int} (hc : x4.toInt = c + 0) : zs_ok (BX8_pause_65 σ x1 x2 x3 x4) (fun r => zs_sum (fun v => ((zs_in (v.1).toInt (-29) 29 ∧ (zs_in (v.2.1).toInt 0 29 ∧ zs_in (v.2.2).toInt 1 30))) ∧ v.2.2.toInt = c + 1) (fun v => False) r) := by
  unfold BX8_pause_65
  refine zs_lt (Q := fun z => zs_in z.toInt (-29) 29) (zs_subI (-29) 29 h_x4 h_x3 (by decide)) (fun y_1 hy_1 => ?_)
  obtain ⟨ret, er, hr⟩ := zc_170 h_σ h_x1 hy_1 h_x3 h_x4 hc
  refine ⟨ret, er, ?_⟩
  exact (zs_sumw hr (fun v w => ⟨w.1, w.2⟩) (fun v w => w.elim))
-- BX8_pause_18
theorem zc_174 {σ0 : sn_S} {σ : sn_S} (h_σ : zs_C σ0 σ) {x1 : Int32} (h_x1 : zs_in x1.toInt 0 5) {x2 : Int32} (h_x2 : zs_in x2.toInt (-2147483648) 29) {x3 : Int32} (h_x3 : zs_in x3.toInt (-1) 29) {x4 : Int32} (h_x4 : zs_in x4.toInt 0 30) {c : Int} (hc : x4.toInt = c + 0) : zs_ok (BX8_pause_18 σ x1 x2 x3 x4) (fun r => zs_sum (fun v => ((zs_in (v.1).toInt (-2147483648) 29 ∧ (zs_in (v.2.1).toInt (-1) 29 ∧ zs_in (v.2.2).toInt 1 30))) ∧ v.2.2.toInt = c + 1) (fun v => zs_in (v).toInt (-2147483648) 29) r) := by
  unfold BX8_pause_18
  refine zs_ite (fun c1 => ?_) (fun c1 => ?_)
  · skip
    have r2 := (zs_I_le c1)
    exact zs_some (zs_inr (h_x2))
  · skip
    have r3 := (zs_I_len c1)
    have g4 : zs_in (x4).toInt 0 29 := (zs_ltl 0 29 r3 h_x4 (zs_rdk (q := 27) (k := 0) (z := (0, 30)) h_σ.1 rfl) (by decide))
    have g5 : zs_in ((sn_I σ 27 0)).toInt 1 30 := (zs_ltr 1 30 r3 h_x4 (zs_rdk (q := 27) (k := 0) (z := (0, 30)) h_σ.1 rfl) (by decide))
    refine zs_gd (zs_gin h_x1 (by decide)) ?_
    refine zs_bd_ (zc_165 (zs_rdu (q := 37) (z := (0, 1073741823)) h_σ.1 (fun _ => rfl)) g4) (fun t_3 pt_3 => ?_)
    refine zs_ite (fun c6 => ?_) (fun c6 => ?_)
    · skip
      have r7 := (zs_I_eq c6)
      have g8 : zs_in (t_3).toInt 0 0 := (zs_eql 0 0 r7 pt_3 zlI_0 (by decide))
      obtain ⟨ret, er, hr⟩ := zc_166 h_σ h_x1 h_x2 h_x3 g4 hc
      refine ⟨ret, er, ?_⟩
      exact (zs_sumw hr (fun v w => ⟨w.1, w.2⟩) (fun v w => w.elim))
    · skip
      have r9 := (zs_I_eqn c6)
      have g10 : zs_in (t_3).toInt 1 1 := (zs_nel 1 1 r9 pt_3 zlI_0 (by decide))
      refine zs_ite (fun c11 => ?_) (fun c11 => ?_)
      · skip
        have r12 := (zs_I_eq c11)
        have g13 : zs_in (x3).toInt (-1) (-1) := (zs_eql (-1) (-1) r12 h_x3 zlI_m1 (by decide))
        obtain ⟨ret, er, hr⟩ := zc_168 h_σ h_x1 h_x2 g13 g4 hc
        refine ⟨ret, er, ?_⟩
        exact (zs_sumw hr (fun v w => ⟨⟨w.1.1, ⟨(zs_w w.1.2.1 (by decide)), w.1.2.2⟩⟩, w.2⟩) (fun v w => w.elim))
      · skip
        have r14 := (zs_I_eqn c11)
        have g15 : zs_in (x3).toInt 0 29 := (zs_nel 0 29 r14 h_x3 zlI_m1 (by decide))
        refine zs_ite (fun c16 => ?_) (fun c16 => ?_)
        · skip
          have r17 := (zs_I_eq c16)
          have g18 : zs_in (x2).toInt (-1) (-1) := (zs_eql (-1) (-1) r17 h_x2 zlI_m1 (by decide))
          obtain ⟨ret, er, hr⟩ := zc_171 h_σ h_x1 g18 g15 g4 hc
          refine ⟨ret, er, ?_⟩
          exact (zs_sumw hr (fun v w => ⟨⟨(zs_w w.1.1 (by decide)), ⟨(zs_w w.1.2.1 (by decide)), w.1.2.2⟩⟩, w.2⟩) (fun v w => w.elim))
        · skip
          have r19 := (zs_I_eqn c16)
          refine zs_ite (fun c20 => ?_) (fun c20 => ?_)
          · skip
            have r21 := (zs_I_le c20)
            obtain ⟨ret, er, hr⟩ := zc_172 h_σ h_x1 h_x2 g15 g4 hc
            refine ⟨ret, er, ?_⟩
            exact (zs_sumw hr (fun v w => ⟨⟨w.1.1, ⟨(zs_w w.1.2.1 (by decide)), w.1.2.2⟩⟩, w.2⟩) (fun v w => w.elim))
          · skip
            have r22 := (zs_I_len c20)
            have g23 : zs_in ((x4 - x3)).toInt (-29) 28 := (zs_ltl (-29) 28 r22 (zs_subI (-29) 29 g4 g15 (by decide)) h_x2 (by decide))
            have g24 : zs_in (x2).toInt (-28) 29 := (zs_ltr (-28) 29 r22 (zs_subI (-29) 29 g4 g15 (by decide)) h_x2 (by decide))
            obtain ⟨ret, er, hr⟩ := zc_173 h_σ h_x1 g24 g15 g4 hc
            refine ⟨ret, er, ?_⟩
            exact (zs_sumw hr (fun v w => ⟨⟨(zs_w w.1.1 (by decide)), ⟨(zs_w w.1.2.1 (by decide)), w.1.2.2⟩⟩, w.2⟩) (fun v w => w.elim))
theorem zd_28 {σ0 : sn_S} {σ : sn_S} (h_σ : zs_C σ0 σ) {x1 : Int32} (h_x1 : zs_in x1.toInt 0 5) {s0 : (Int32 × (Int32 × Int32))} (h0 : (zs_in (s0.1).toInt (-2147483648) 29 ∧ (zs_in (s0.2.1).toInt (-1) 29 ∧ zs_in (s0.2.2).toInt 0 30))) : zs_ok (sn_it (LX8_pause_18 σ x1) 5000 s0) (fun t => zs_in (t).toInt (-2147483648) 29) := by
  refine zs_it (I := fun s => (zs_in (s.1).toInt (-2147483648) 29 ∧ (zs_in (s.2.1).toInt (-1) 29 ∧ zs_in (s.2.2).toInt 0 30))) (m := fun s => 30 - s.2.2.toInt) (fun s hs => ?_) (fun s hs => ?_) (by exact h0)
  · have h1 := hs.2.2; unfold zs_in at h1
    omega
  · obtain ⟨b, eb, hb⟩ := zc_174 h_σ h_x1 hs.1 hs.2.1 hs.2.2 (c := s.2.2.toInt) (Int.add_zero _).symm
    exact ⟨b, eb, zs_sumw hb (fun v w => ⟨⟨w.1.1, ⟨w.1.2.1, (zs_w w.1.2.2 (by decide))⟩⟩, by have := w.2; omega⟩) (fun v w => w)⟩
-- BX8_pause_79
theorem zc_175 {σ0 : sn_S} {σ : sn_S} (h_σ : zs_C σ0 σ) {x2 : Int32} (h_x2 : zs_in x2.toInt (-2147483648) 29) : zs_ok (BX8_pause_79 σ x2) (fun r => zs_in (r).toInt (-2147483648) 29) := by
  unfold BX8_pause_79
  exact zs_some h_x2
-- fX8_pause
theorem zc_176 {σ0 : sn_S} {σ : sn_S} (h_σ : zs_C σ0 σ) {x1 : Int32} : zs_ok (fX8_pause σ x1) (fun r => (zs_in (r).toInt (-2147483648) 29) ∧ ((r).toInt = (-2) ∨ (zs_in (x1).toInt 0 5))) := by
  unfold fX8_pause
  refine zs_bd_ (zc_3 h_σ) (fun t_1 pt_1 => ?_)
  refine zs_ite (fun c1 => ?_) (fun c1 => ?_)
  · skip
    have r2 := (zs_I_eq c1)
    have g3 : zs_in (t_1).toInt 0 0 := (zs_eql 0 0 r2 pt_1.1 zlI_0 (by decide))
    exact zs_some ⟨(zs_w zlI_m2 (by decide)), Or.inl (zs_ptr zlI_m2)⟩
  · skip
    have r4 := (zs_I_eqn c1)
    have g5 : zs_in (t_1).toInt 1 1 := (zs_nel 1 1 r4 pt_1.1 zlI_0 (by decide))
    have q6 := (zs_or2 pt_1.2 g5 (by decide))
    have g7 : zs_in (x1).toInt 0 5 := q6
    refine zs_bd_ (zd_28 h_σ g7 (s0 := ((-1 : Int32), ((-1 : Int32), (0 : Int32)))) ⟨(zs_w zlI_m1 (by decide)), ⟨(zs_w zlI_m1 (by decide)), (zs_w zlI_0 (by decide))⟩⟩) (fun t_4 pt_4 => ?_)
    obtain ⟨ret, er, hr⟩ := zc_175 h_σ pt_4
    refine ⟨ret, er, ?_⟩
    exact ⟨hr, Or.inr g7⟩
-- fX9_bit
theorem zc_177 {x0 : Int32} (h_x0 : zs_in x0.toInt 0 1073741823) {x1 : Int32} (h_x1 : zs_in x1.toInt 1 29) : zs_ok (fX9_bit x0 x1) (fun r => zs_in (r).toInt 0 1) := by
  unfold fX9_bit
  exact zs_some (zs_and zlI_1 (by decide))
-- BX9_firstFrom_2
theorem zc_178 {x0 : Int32} (h_x0 : zs_in x0.toInt 0 1073741823) {x2 : Int32} (h_x2 : zs_in x2.toInt 1 30) {c : Int} (hc : x2.toInt = c + 0) : zs_ok (BX9_firstFrom_2 x0 x2) (fun r => zs_sum (fun v => (zs_in (v).toInt 2 30) ∧ v.toInt = c + 1) (fun v => zs_sum (fun v => True) (fun v => zs_in (v).toInt 1 29) v) r) := by
  unfold BX9_firstFrom_2
  refine zs_ite (fun c1 => ?_) (fun c1 => ?_)
  · skip
    have r2 := (zs_I_le c1)
    have g3 : zs_in (x2).toInt 30 30 := (zs_ler 30 30 r2 zlI_30 h_x2 (by decide))
    exact zs_some (zs_inr ((zs_inl (trivial))))
  · skip
    have r4 := (zs_I_len c1)
    have g5 : zs_in (x2).toInt 1 29 := (zs_ltl 1 29 r4 h_x2 zlI_30 (by decide))
    refine zs_bd_ (zc_177 h_x0 g5) (fun t_2 pt_2 => ?_)
    refine zs_ite (fun c6 => ?_) (fun c6 => ?_)
    · skip
      have r7 := (zs_I_eq c6)
      have g8 : zs_in (t_2).toInt 1 1 := (zs_eql 1 1 r7 pt_2 zlI_1 (by decide))
      exact zs_some (zs_inr ((zs_inr (g5))))
    · skip
      have r9 := (zs_I_eqn c6)
      have g10 : zs_in (t_2).toInt 0 0 := (zs_neh 0 0 r9 pt_2 zlI_1 (by decide))
      refine zs_lt (Q := fun z => zs_in z.toInt 2 30 ∧ z.toInt = c + 1) ⟨(zs_addI 2 30 g5 zlI_1 (by decide)), (zs_syI 1 hc g5 zlI_1 (by decide) (by decide))⟩ (fun y_5 hy_5 => ?_)
      exact zs_some (zs_inl ⟨hy_5.1, hy_5.2⟩)
theorem zd_29 {x0 : Int32} (h_x0 : zs_in x0.toInt 0 1073741823) {s0 : Int32} (h0 : zs_in (s0).toInt 1 30) : zs_ok (sn_it (LX9_firstFrom_2 x0) 5000 s0) (fun t => zs_sum (fun v => True) (fun v => zs_in (v).toInt 1 29) t) := by
  refine zs_it (I := fun s => zs_in (s).toInt 1 30) (m := fun s => 30 - s.toInt) (fun s hs => ?_) (fun s hs => ?_) (by exact h0)
  · have h1 := hs; unfold zs_in at h1
    omega
  · obtain ⟨b, eb, hb⟩ := zc_178 h_x0 hs (c := s.toInt) (Int.add_zero _).symm
    exact ⟨b, eb, zs_sumw hb (fun v w => ⟨(zs_w w.1 (by decide)), by have := w.2; omega⟩) (fun v w => w)⟩
-- BX9_firstFrom_25
theorem zc_179  : zs_ok (BX9_firstFrom_25) (fun r => zs_in (r).toInt (-1) (-1)) := by
  unfold BX9_firstFrom_25
  exact zs_some zlI_m1
-- fX9_firstFrom
theorem zc_180 {x0 : Int32} (h_x0 : zs_in x0.toInt 0 1073741823) {x1 : Int32} (h_x1 : zs_in x1.toInt 1 30) : zs_ok (fX9_firstFrom x0 x1) (fun r => zs_in (r).toInt (-1) 29) := by
  unfold fX9_firstFrom
  refine zs_bd_ (zd_29 h_x0 (s0 := x1) h_x1) (fun t_1 pt_1 => ?_)
  refine zs_elim pt_1 (fun v_3 pv_3 => ?_) (fun r_4 pr_4 => ?_)
  · skip
    obtain ⟨ret, er, hr⟩ := zc_179
    refine ⟨ret, er, ?_⟩
    exact (zs_w hr (by decide))
  · skip
    exact zs_some (zs_w pr_4 (by decide))
-- fX9_bit
theorem zc_181 {x0 : Int32} (h_x0 : zs_in x0.toInt 0 1073741823) {x1 : Int32} (h_x1 : zs_in x1.toInt 0 29) : zs_ok (fX9_bit x0 x1) (fun r => zs_in (r).toInt 0 1) := by
  unfold fX9_bit
  exact zs_some (zs_and zlI_1 (by decide))
-- BX9_pause_68
theorem zc_182 {σ0 : sn_S} {σ : sn_S} (h_σ : zs_M σ0 σ) {x1 : Int32} (h_x1 : zs_in x1.toInt 0 5) {x2 : Int32} (h_x2 : zs_in x2.toInt (-2147483648) 1000000000) {x3 : Int32} (h_x3 : zs_in x3.toInt 0 29) {c : Int} (hc : x3.toInt = c + 0) : zs_ok (BX9_pause_68 σ x1 x2 x3) (fun r => zs_sum (fun v => ((zs_in (v.1).toInt (-2147483648) 1000000000 ∧ zs_in (v.2).toInt 1 30)) ∧ v.2.toInt = c + 1) (fun v => False) r) := by
  unfold BX9_pause_68
  refine zs_lt (Q := fun z => zs_in z.toInt 1 30 ∧ z.toInt = c + 1) ⟨(zs_addI 1 30 h_x3 zlI_1 (by decide)), (zs_syI 1 hc h_x3 zlI_1 (by decide) (by decide))⟩ (fun y_1 hy_1 => ?_)
  exact zs_some (zs_inl ⟨⟨h_x2, hy_1.1⟩, hy_1.2⟩)
-- BX9_pause_68
theorem zc_183 {σ0 : sn_S} {σ : sn_S} (h_σ : zs_M σ0 σ) {x1 : Int32} (h_x1 : zs_in x1.toInt 0 5) {x2 : Int32} (h_x2 : zs_in x2.toInt (-2147483648) 29) {x3 : Int32} (h_x3 : zs_in x3.toInt 0 29) {c : Int} (hc : x3.toInt = c + 0) : zs_ok (BX9_pause_68 σ x1 x2 x3) (fun r => zs_sum (fun v => ((zs_in (v.1).toInt (-2147483648) 29 ∧ zs_in (v.2).toInt 1 30)) ∧ v.2.toInt = c + 1) (fun v => False) r) := by
  unfold BX9_pause_68
  refine zs_lt (Q := fun z => zs_in z.toInt 1 30 ∧ z.toInt = c + 1) ⟨(zs_addI 1 30 h_x3 zlI_1 (by decide)), (zs_syI 1 hc h_x3 zlI_1 (by decide) (by decide))⟩ (fun y_1 hy_1 => ?_)
  exact zs_some (zs_inl ⟨⟨h_x2, hy_1.1⟩, hy_1.2⟩)
-- BX9_pause_17
theorem zc_184 {σ0 : sn_S} {σ : sn_S} (h_σ : zs_M σ0 σ) {x1 : Int32} (h_x1 : zs_in x1.toInt 0 5) {x2 : Int32} (h_x2 : zs_in x2.toInt (-2147483648) 1000000000) {x3 : Int32} (h_x3 : zs_in x3.toInt 0 30) {c : Int} (hc : x3.toInt = c + 0) : zs_ok (BX9_pause_17 σ x1 x2 x3) (fun r => zs_sum (fun v => ((zs_in (v.1).toInt (-2147483648) 1000000000 ∧ zs_in (v.2).toInt 1 30)) ∧ v.2.toInt = c + 1) (fun v => zs_in (v).toInt (-2147483648) 1000000000) r) := by
  unfold BX9_pause_17
  refine zs_bd_ (zc_21 h_σ) (fun t_1 pt_1 => ?_)
  refine zs_ite (fun c1 => ?_) (fun c1 => ?_)
  · skip
    have r2 := (zs_I_le c1)
    exact zs_some (zs_inr (h_x2))
  · skip
    have r3 := (zs_I_len c1)
    have g4 : zs_in (x3).toInt 0 29 := (zs_ltl 0 29 r3 h_x3 pt_1 (by decide))
    have g5 : zs_in (t_1).toInt 1 30 := (zs_ltr 1 30 r3 h_x3 pt_1 (by decide))
    refine zs_gd (zs_gin h_x1 (by decide)) ?_
    refine zs_bd_ (zc_180 (zs_rdu (q := 10) (z := (0, 1073741823)) h_σ.1 (fun _ => rfl)) (zs_addI 1 30 g4 zlI_1 (by decide))) (fun t_5 pt_5 => ?_)
    refine zs_gd (zs_gin h_x1 (by decide)) ?_
    refine zs_bd_ (zc_181 (zs_rdu (q := 10) (z := (0, 1073741823)) h_σ.1 (fun _ => rfl)) g4) (fun t_8 pt_8 => ?_)
    refine zs_ite (fun c6 => ?_) (fun c6 => ?_)
    · skip
      have r7 := (zs_I_eq c6)
      have g8 : zs_in (t_8).toInt 1 1 := (zs_eql 1 1 r7 pt_8 zlI_1 (by decide))
      refine zs_ite (fun c9 => ?_) (fun c9 => ?_)
      · skip
        have r10 := (zs_I_eq c9)
        have g11 : zs_in (t_5).toInt (-1) (-1) := (zs_eql (-1) (-1) r10 pt_5 zlI_m1 (by decide))
        obtain ⟨ret, er, hr⟩ := zc_182 h_σ h_x1 h_x2 g4 hc
        refine ⟨ret, er, ?_⟩
        exact (zs_sumw hr (fun v w => ⟨w.1, w.2⟩) (fun v w => w.elim))
      · skip
        have r12 := (zs_I_eqn c9)
        have g13 : zs_in (t_5).toInt 0 29 := (zs_nel 0 29 r12 pt_5 zlI_m1 (by decide))
        refine zs_lt (Q := fun z => zs_in z.toInt (-2147483648) 29) (zs_min (-2147483648) 29 (zs_subI (-29) 29 g13 g4 (by decide)) h_x2 (by decide)) (fun y_12 hy_12 => ?_)
        obtain ⟨ret, er, hr⟩ := zc_183 h_σ h_x1 hy_12 g4 hc
        refine ⟨ret, er, ?_⟩
        exact (zs_sumw hr (fun v w => ⟨⟨(zs_w w.1.1 (by decide)), w.1.2⟩, w.2⟩) (fun v w => w.elim))
    · skip
      have r14 := (zs_I_eqn c6)
      have g15 : zs_in (t_8).toInt 0 0 := (zs_neh 0 0 r14 pt_8 zlI_1 (by decide))
      obtain ⟨ret, er, hr⟩ := zc_182 h_σ h_x1 h_x2 g4 hc
      refine ⟨ret, er, ?_⟩
      exact (zs_sumw hr (fun v w => ⟨w.1, w.2⟩) (fun v w => w.elim))
theorem zd_30 {σ0 : sn_S} {σ : sn_S} (h_σ : zs_M σ0 σ) {x1 : Int32} (h_x1 : zs_in x1.toInt 0 5) {s0 : (Int32 × Int32)} (h0 : (zs_in (s0.1).toInt (-2147483648) 1000000000 ∧ zs_in (s0.2).toInt 0 30)) : zs_ok (sn_it (LX9_pause_17 σ x1) 5000 s0) (fun t => zs_in (t).toInt (-2147483648) 1000000000) := by
  refine zs_it (I := fun s => (zs_in (s.1).toInt (-2147483648) 1000000000 ∧ zs_in (s.2).toInt 0 30)) (m := fun s => 30 - s.2.toInt) (fun s hs => ?_) (fun s hs => ?_) (by exact h0)
  · have h1 := hs.2; unfold zs_in at h1
    omega
  · obtain ⟨b, eb, hb⟩ := zc_184 h_σ h_x1 hs.1 hs.2 (c := s.2.toInt) (Int.add_zero _).symm
    exact ⟨b, eb, zs_sumw hb (fun v w => ⟨⟨w.1.1, (zs_w w.1.2 (by decide))⟩, by have := w.2; omega⟩) (fun v w => w)⟩
-- BX9_pause_74
theorem zc_185 {σ0 : sn_S} {σ : sn_S} (h_σ : zs_M σ0 σ) {x2 : Int32} (h_x2 : zs_in x2.toInt (-2147483648) 1000000000) : zs_ok (BX9_pause_74 σ x2) (fun r => ((zs_in (r.1).toInt (-2147483648) 999999999 ∧ zs_M σ0 r.2)) ∧ ((r.1).toInt = (-1) ∨ (zs_in (x2).toInt (-2147483648) 999999999))) := by
  unfold BX9_pause_74
  refine zs_ite (fun c1 => ?_) (fun c1 => ?_)
  · skip
    have r2 := (zs_I_eq c1)
    have g3 : zs_in (x2).toInt 1000000000 1000000000 := (zs_eql 1000000000 1000000000 r2 h_x2 zlI_1000000000 (by decide))
    exact zs_some ⟨⟨(zs_w zlI_m1 (by decide)), h_σ⟩, Or.inl (zs_ptr zlI_m1)⟩
  · skip
    have r4 := (zs_I_eqn c1)
    have g5 : zs_in (x2).toInt (-2147483648) 999999999 := (zs_neh (-2147483648) 999999999 r4 h_x2 zlI_1000000000 (by decide))
    exact zs_some ⟨⟨g5, h_σ⟩, Or.inr g5⟩
-- fX9_pause
theorem zc_186 {σ0 : sn_S} {σ : sn_S} (h_σ : zs_M σ0 σ) {x1 : Int32} : zs_ok (fX9_pause σ x1) (fun r => ((zs_in (r.1).toInt (-2147483648) 999999999 ∧ zs_M σ0 r.2)) ∧ ((r.1).toInt = (-2) ∨ (zs_in (x1).toInt 0 5))) := by
  unfold fX9_pause
  refine zs_bd_ (zc_98 h_σ) (fun t_1 pt_1 => ?_)
  refine zs_ite (fun c1 => ?_) (fun c1 => ?_)
  · skip
    have r2 := (zs_I_eq c1)
    have g3 : zs_in (t_1.1).toInt 0 0 := (zs_eql 0 0 r2 pt_1.1.1 zlI_0 (by decide))
    exact zs_some ⟨⟨(zs_w zlI_m2 (by decide)), pt_1.1.2⟩, Or.inl (zs_ptr zlI_m2)⟩
  · skip
    have r4 := (zs_I_eqn c1)
    have g5 : zs_in (t_1.1).toInt 1 1 := (zs_nel 1 1 r4 pt_1.1.1 zlI_0 (by decide))
    have q6 := (zs_or2 pt_1.2 g5 (by decide))
    have g7 : zs_in (x1).toInt 0 5 := q6
    refine zs_bd_ (zd_30 pt_1.1.2 g7 (s0 := ((1000000000 : Int32), (0 : Int32))) ⟨(zs_w zlI_1000000000 (by decide)), (zs_w zlI_0 (by decide))⟩) (fun t_4 pt_4 => ?_)
    obtain ⟨ret, er, hr⟩ := zc_185 pt_1.1.2 pt_4
    refine ⟨ret, er, ?_⟩
    refine ⟨hr.1, ?_⟩
    rcases hr.2 with z0 | z0
    · exact Or.inr g7
    · skip
      have q8 := z0
      have g9 : zs_in (t_4).toInt (-2147483648) 999999999 := q8
      exact Or.inr g7
-- fX8_firstMinutes
theorem zc_187 {x0 : Int32} (h_x0 : zs_in x0.toInt 0 29) : zs_ok (fX8_firstMinutes x0) (fun r => zs_in (r).toInt 0 536870911) := by
  unfold fX8_firstMinutes
  exact zs_some (zs_subI 0 536870911 (zs_cases h_x0 (fun z => zs_in ((1 : Int32) <<< (z &&& 31)).toInt 1 536870912) (by decide +kernel)) zlI_1 (by decide))
-- fX8_later
theorem zc_188 {σ0 : sn_S} {σ : sn_S} (h_σ : zs_C σ0 σ) {x1 : Int32} {x2 : Int32} : zs_ok (fX8_later σ x1 x2) (fun r => (zs_in (r).toInt (-2) 29) ∧ ((r).toInt = (-2) ∨ (zs_in (x1).toInt 0 5 ∧ zs_in (x2).toInt 0 29))) := by
  unfold fX8_later
  refine zs_bd_ (zc_3 h_σ) (fun t_1 pt_1 => ?_)
  refine zs_ite (fun c1 => ?_) (fun c1 => ?_)
  · skip
    have r2 := (zs_I_eq c1)
    have g3 : zs_in (t_1).toInt 0 0 := (zs_eql 0 0 r2 pt_1.1 zlI_0 (by decide))
    exact zs_some ⟨(zs_w zlI_m2 (by decide)), Or.inl (zs_ptr zlI_m2)⟩
  · skip
    have r4 := (zs_I_eqn c1)
    have g5 : zs_in (t_1).toInt 1 1 := (zs_nel 1 1 r4 pt_1.1 zlI_0 (by decide))
    have q6 := (zs_or2 pt_1.2 g5 (by decide))
    have g7 : zs_in (x1).toInt 0 5 := q6
    refine zs_bd_ (zc_44 h_σ) (fun t_4 pt_4 => ?_)
    refine zs_ite (fun c8 => ?_) (fun c8 => ?_)
    · skip
      have r9 := (zs_I_eq c8)
      have g10 : zs_in (t_4).toInt 0 0 := (zs_eql 0 0 r9 pt_4.1 zlI_0 (by decide))
      exact zs_some ⟨(zs_w zlI_m2 (by decide)), Or.inl (zs_ptr zlI_m2)⟩
    · skip
      have r11 := (zs_I_eqn c8)
      have g12 : zs_in (t_4).toInt 1 1 := (zs_nel 1 1 r11 pt_4.1 zlI_0 (by decide))
      have q13 := (zs_or2 pt_4.2 g12 (by decide))
      have g14 : zs_in (x2).toInt 0 29 := q13
      refine zs_gd (zs_gin g7 (by decide)) ?_
      refine zs_bd_ (zc_187 g14) (fun t_8 pt_8 => ?_)
      refine zs_bd_ (zo_low 30 29 (by decide) (zs_and2 (zs_rdu (q := 37) (z := (0, 1073741823)) h_σ.1 (fun _ => rfl)) (by decide))) (fun t_10 pt_10 => ?_)
      exact zs_some ⟨(zs_w pt_10 (by decide)), Or.inr ⟨g7, g14⟩⟩
-- BX9_firstFrom_2
theorem zc_189 {x0 : Int32} (h_x0 : zs_in x0.toInt 0 1073741823) {x2 : Int32} (h_x2 : zs_in x2.toInt 0 30) {c : Int} (hc : x2.toInt = c + 0) : zs_ok (BX9_firstFrom_2 x0 x2) (fun r => zs_sum (fun v => (zs_in (v).toInt 1 30) ∧ v.toInt = c + 1) (fun v => zs_sum (fun v => True) (fun v => zs_in (v).toInt 0 29) v) r) := by
  unfold BX9_firstFrom_2
  refine zs_ite (fun c1 => ?_) (fun c1 => ?_)
  · skip
    have r2 := (zs_I_le c1)
    have g3 : zs_in (x2).toInt 30 30 := (zs_ler 30 30 r2 zlI_30 h_x2 (by decide))
    exact zs_some (zs_inr ((zs_inl (trivial))))
  · skip
    have r4 := (zs_I_len c1)
    have g5 : zs_in (x2).toInt 0 29 := (zs_ltl 0 29 r4 h_x2 zlI_30 (by decide))
    refine zs_bd_ (zc_181 h_x0 g5) (fun t_2 pt_2 => ?_)
    refine zs_ite (fun c6 => ?_) (fun c6 => ?_)
    · skip
      have r7 := (zs_I_eq c6)
      have g8 : zs_in (t_2).toInt 1 1 := (zs_eql 1 1 r7 pt_2 zlI_1 (by decide))
      exact zs_some (zs_inr ((zs_inr (g5))))
    · skip
      have r9 := (zs_I_eqn c6)
      have g10 : zs_in (t_2).toInt 0 0 := (zs_neh 0 0 r9 pt_2 zlI_1 (by decide))
      refine zs_lt (Q := fun z => zs_in z.toInt 1 30 ∧ z.toInt = c + 1) ⟨(zs_addI 1 30 g5 zlI_1 (by decide)), (zs_syI 1 hc g5 zlI_1 (by decide) (by decide))⟩ (fun y_5 hy_5 => ?_)
      exact zs_some (zs_inl ⟨hy_5.1, hy_5.2⟩)
theorem zd_31 {x0 : Int32} (h_x0 : zs_in x0.toInt 0 1073741823) {s0 : Int32} (h0 : zs_in (s0).toInt 0 30) : zs_ok (sn_it (LX9_firstFrom_2 x0) 5000 s0) (fun t => zs_sum (fun v => True) (fun v => zs_in (v).toInt 0 29) t) := by
  refine zs_it (I := fun s => zs_in (s).toInt 0 30) (m := fun s => 30 - s.toInt) (fun s hs => ?_) (fun s hs => ?_) (by exact h0)
  · have h1 := hs; unfold zs_in at h1
    omega
  · obtain ⟨b, eb, hb⟩ := zc_189 h_x0 hs (c := s.toInt) (Int.add_zero _).symm
    exact ⟨b, eb, zs_sumw hb (fun v w => ⟨(zs_w w.1 (by decide)), by have := w.2; omega⟩) (fun v w => w)⟩
-- fX9_firstFrom
theorem zc_190 {x0 : Int32} (h_x0 : zs_in x0.toInt 0 1073741823) {x1 : Int32} (h_x1 : zs_in x1.toInt 0 29) : zs_ok (fX9_firstFrom x0 x1) (fun r => zs_in (r).toInt (-1) 29) := by
  unfold fX9_firstFrom
  refine zs_bd_ (zd_31 h_x0 (s0 := x1) (zs_w h_x1 (by decide))) (fun t_1 pt_1 => ?_)
  refine zs_elim pt_1 (fun v_3 pv_3 => ?_) (fun r_4 pr_4 => ?_)
  · skip
    obtain ⟨ret, er, hr⟩ := zc_179
    refine ⟨ret, er, ?_⟩
    exact (zs_w hr (by decide))
  · skip
    exact zs_some (zs_w pr_4 (by decide))
-- fX9_later
theorem zc_191 {σ0 : sn_S} {σ : sn_S} (h_σ : zs_M σ0 σ) {x1 : Int32} {x2 : Int32} : zs_ok (fX9_later σ x1 x2) (fun r => ((zs_in (r.1).toInt (-2) 29 ∧ zs_M σ0 r.2)) ∧ ((r.1).toInt = (-2) ∨ (zs_in (x1).toInt 0 5 ∧ zs_in (x2).toInt 0 29))) := by
  unfold fX9_later
  refine zs_bd_ (zc_95 h_σ) (fun t_1 pt_1 => ?_)
  refine zs_ite (fun c1 => ?_) (fun c1 => ?_)
  · skip
    have r2 := (zs_I_eq c1)
    have g3 : zs_in (t_1.1).toInt 0 0 := (zs_eql 0 0 r2 pt_1.1.1 zlI_0 (by decide))
    exact zs_some ⟨⟨(zs_w zlI_m2 (by decide)), pt_1.1.2⟩, Or.inl (zs_ptr zlI_m2)⟩
  · skip
    have r4 := (zs_I_eqn c1)
    have g5 : zs_in (t_1.1).toInt 1 1 := (zs_nel 1 1 r4 pt_1.1.1 zlI_0 (by decide))
    have q6 := (zs_or2 pt_1.2 g5 (by decide))
    have g7 : zs_in (x2).toInt 0 29 := q6
    refine zs_bd_ (zc_6 pt_1.1.2 (zs_64 (zs_topI _))) (fun t_4 pt_4 => ?_)
    refine zs_ite (fun c8 => ?_) (fun c8 => ?_)
    · skip
      have r9 := (zs_I_eq c8)
      have g10 : zs_in (t_4).toInt 0 0 := (zs_eql 0 0 r9 pt_4.1 zlI_0 (by decide))
      exact zs_some ⟨⟨(zs_w zlI_m2 (by decide)), pt_1.1.2⟩, Or.inl (zs_ptr zlI_m2)⟩
    · skip
      have r11 := (zs_I_eqn c8)
      have g12 : zs_in (t_4).toInt 1 1 := (zs_nel 1 1 r11 pt_4.1 zlI_0 (by decide))
      have q13 := (zs_or2 pt_4.2 g12 (by decide))
      have g14 : zs_in (x1.toInt64).toInt 0 5 := q13
      have g15 : zs_in (x1).toInt 0 5 := (zs_64r g14)
      refine zs_gd (zs_gin g15 (by decide)) ?_
      refine zs_bd_ (zc_190 (zs_rdu (q := 10) (z := (0, 1073741823)) pt_1.1.2.1 (fun _ => rfl)) g7) (fun t_8 pt_8 => ?_)
      exact zs_some ⟨⟨(zs_w pt_8 (by decide)), pt_1.1.2⟩, Or.inr ⟨g15, g7⟩⟩
-- fX2_ofPolicy
theorem zc_192 {σ0 : sn_S} {σ : sn_S} (h_σ : zs_C σ0 σ) {x1 : Int32} (h_x1 : zs_in x1.toInt 0 5) {x2 : Int32} (h_x2 : zs_in x2.toInt 0 0) : zs_ok (fX2_ofPolicy σ 1 x1 x2) (fun r => True) := by
  unfold fX2_ofPolicy
  obtain rfl : x2 = (0 : Int32) := zs_eqv h_x2 (by decide)
  refine zs_gd (zs_gin (zs_addI 0 25 (zs_mulI 0 25 zlI_5 h_x1 (by decide)) h_x2 (by decide)) (by decide)) ?_
  exact zs_some trivial
-- fX2_window
theorem zc_193 {σ0 : sn_S} {σ : sn_S} (h_σ : zs_C σ0 σ) {x1 : Int32} (h_x1 : zs_in x1.toInt 0 5) : zs_ok (fX2_window σ 1 x1) (fun r => True) := by
  unfold fX2_window
  refine zs_lt (Q := fun z => zs_in z.toInt 0 25) (zs_mulI 0 25 zlI_5 h_x1 (by decide)) (fun y_1 hy_1 => ?_)
  refine zs_gd (zs_gin (zs_addI 2 27 hy_1 zlI_2 (by decide)) (by decide)) ?_
  refine zs_gd (zs_gin (zs_addI 1 26 hy_1 zlI_1 (by decide)) (by decide)) ?_
  exact zs_some trivial
-- BX8_minutesCovered_42
theorem zc_194 {σ0 : sn_S} {σ : sn_S} (h_σ : zs_C σ0 σ) {x1 : Int32} (h_x1 : zs_in x1.toInt 0 5) {x2 : Int32} {x3 : Int32} (h_x3 : zs_in x3.toInt 0 5) {c : Int} (hc : x3.toInt = c + 0) : zs_ok (BX8_minutesCovered_42 σ x1 x2 x3) (fun r => zs_sum (fun v => ((True ∧ zs_in (v.2).toInt 1 6)) ∧ v.2.toInt = c + 1) (fun v => False) r) := by
  unfold BX8_minutesCovered_42
  refine zs_lt (Q := fun z => zs_in z.toInt 1 6 ∧ z.toInt = c + 1) ⟨(zs_addI 1 6 h_x3 zlI_1 (by decide)), (zs_syI 1 hc h_x3 zlI_1 (by decide) (by decide))⟩ (fun y_1 hy_1 => ?_)
  exact zs_some (zs_inl ⟨⟨trivial, hy_1.1⟩, hy_1.2⟩)
-- BX8_minutesCovered_4
theorem zc_195 {σ0 : sn_S} {σ : sn_S} (h_σ : zs_C σ0 σ) {x1 : Int32} (h_x1 : zs_in x1.toInt 0 5) {x2 : Int32} {x3 : Int32} (h_x3 : zs_in x3.toInt 0 6) {c : Int} (hc : x3.toInt = c + 0) : zs_ok (BX8_minutesCovered_4 σ x1 x2 x3) (fun r => zs_sum (fun v => ((True ∧ zs_in (v.2).toInt 1 6)) ∧ v.2.toInt = c + 1) (fun v => True) r) := by
  unfold BX8_minutesCovered_4
  refine zs_gd (zs_gin zlI_8 (by decide)) ?_
  refine zs_ite (fun c1 => ?_) (fun c1 => ?_)
  · skip
    have r2 := (zs_I_le c1)
    exact zs_some (zs_inr (trivial))
  · skip
    have r3 := (zs_I_len c1)
    have g4 : zs_in (x3).toInt 0 5 := (zs_ltl 0 5 r3 h_x3 (zs_rdk (q := 2) (k := (8 : Int32).toNatClampNeg) (z := (0, 6)) h_σ.1 rfl) (by decide))
    have g5 : zs_in ((sn_I σ (1 + 1) (8 : Int32).toNatClampNeg)).toInt 1 6 := (zs_ltr 1 6 r3 h_x3 (zs_rdk (q := 2) (k := (8 : Int32).toNatClampNeg) (z := (0, 6)) h_σ.1 rfl) (by decide))
    refine zs_bd_ (zc_192 h_σ g4 zlI_0) (fun t_3 pt_3 => ?_)
    refine zs_ite (fun c6 => ?_) (fun c6 => ?_)
    · skip
      have r7 := (zs_I_eq c6)
      have g8 : zs_in (t_3).toInt 0 5 := (zs_eql 0 5 r7 (zs_topI _) h_x1 (by decide))
      refine zs_bd_ (zc_193 h_σ g4) (fun t_6 pt_6 => ?_)
      refine zs_lt (Q := fun z => True) trivial (fun y_8 hy_8 => ?_)
      obtain ⟨ret, er, hr⟩ := zc_194 h_σ h_x1 g4 hc
      refine ⟨ret, er, ?_⟩
      exact (zs_sumw hr (fun v w => ⟨w.1, w.2⟩) (fun v w => w.elim))
    · skip
      have r9 := (zs_I_eqn c6)
      obtain ⟨ret, er, hr⟩ := zc_194 h_σ h_x1 g4 hc
      refine ⟨ret, er, ?_⟩
      exact (zs_sumw hr (fun v w => ⟨w.1, w.2⟩) (fun v w => w.elim))
theorem zd_32 {σ0 : sn_S} {σ : sn_S} (h_σ : zs_C σ0 σ) {x1 : Int32} (h_x1 : zs_in x1.toInt 0 5) {s0 : (Int32 × Int32)} (h0 : (True ∧ zs_in (s0.2).toInt 0 6)) : zs_ok (sn_it (LX8_minutesCovered_4 σ x1) 5000 s0) (fun t => True) := by
  refine zs_it (I := fun s => (True ∧ zs_in (s.2).toInt 0 6)) (m := fun s => 6 - s.2.toInt) (fun s hs => ?_) (fun s hs => ?_) (by exact h0)
  · have h1 := hs.2; unfold zs_in at h1
    omega
  · obtain ⟨b, eb, hb⟩ := zc_195 h_σ h_x1 hs.2 (c := s.2.toInt) (Int.add_zero _).symm
    exact ⟨b, eb, zs_sumw hb (fun v w => ⟨⟨w.1.1, (zs_w w.1.2 (by decide))⟩, by have := w.2; omega⟩) (fun v w => w)⟩
-- fX8_firstMinutes
theorem zc_196 {x0 : Int32} (h_x0 : zs_in x0.toInt 0 30) : zs_ok (fX8_firstMinutes x0) (fun r => zs_in (r).toInt 0 1073741823) := by
  unfold fX8_firstMinutes
  exact zs_some (zs_subI 0 1073741823 (zs_cases h_x0 (fun z => zs_in ((1 : Int32) <<< (z &&& 31)).toInt 1 1073741824) (by decide +kernel)) zlI_1 (by decide))
-- BX8_minutesCovered_48
theorem zc_197 {σ0 : sn_S} {σ : sn_S} (h_σ : zs_C σ0 σ) {x2 : Int32} : zs_ok (BX8_minutesCovered_48 σ x2) (fun r => zs_in (r).toInt 0 1073741823) := by
  unfold BX8_minutesCovered_48
  refine zs_gd (zs_gin zlI_0 (by decide)) ?_
  refine zs_bd_ (zc_196 (zs_rdk (q := 2) (k := (0 : Int32).toNatClampNeg) (z := (0, 30)) h_σ.1 rfl)) (fun t_2 pt_2 => ?_)
  exact zs_some (zs_and pt_2 (by decide))
-- fX8_minutesCovered
theorem zc_198 {σ0 : sn_S} {σ : sn_S} (h_σ : zs_C σ0 σ) {x1 : Int32} (h_x1 : zs_in x1.toInt 0 5) : zs_ok (fX8_minutesCovered σ x1) (fun r => zs_in (r).toInt 0 1073741823) := by
  unfold fX8_minutesCovered
  refine zs_bd_ (zd_32 h_σ h_x1 (s0 := ((0 : Int32), (0 : Int32))) ⟨trivial, (zs_w zlI_0 (by decide))⟩) (fun t_1 pt_1 => ?_)
  obtain ⟨ret, er, hr⟩ := zc_197 h_σ
  refine ⟨ret, er, ?_⟩
  exact hr
-- fX8_covered
theorem zc_199 {σ0 : sn_S} {σ : sn_S} (h_σ : zs_C σ0 σ) {x1 : Int32} : zs_ok (fX8_covered σ x1) (fun r => (zs_in (r).toInt (-2) 1073741823) ∧ ((r).toInt = (-2) ∨ (zs_in (x1).toInt 0 5))) := by
  unfold fX8_covered
  refine zs_bd_ (zc_3 h_σ) (fun t_1 pt_1 => ?_)
  refine zs_ite (fun c1 => ?_) (fun c1 => ?_)
  · skip
    have r2 := (zs_I_eq c1)
    have g3 : zs_in (t_1).toInt 0 0 := (zs_eql 0 0 r2 pt_1.1 zlI_0 (by decide))
    exact zs_some ⟨(zs_w zlI_m2 (by decide)), Or.inl (zs_ptr zlI_m2)⟩
  · skip
    have r4 := (zs_I_eqn c1)
    have g5 : zs_in (t_1).toInt 1 1 := (zs_nel 1 1 r4 pt_1.1 zlI_0 (by decide))
    have q6 := (zs_or2 pt_1.2 g5 (by decide))
    have g7 : zs_in (x1).toInt 0 5 := q6
    refine zs_bd_ (zc_198 h_σ g7) (fun t_4 pt_4 => ?_)
    exact zs_some ⟨(zs_w pt_4 (by decide)), Or.inr g7⟩
-- fX9_of
theorem zc_200 {σ0 : sn_S} {σ : sn_S} (h_σ : zs_M σ0 σ) {x1 : Int32} (h_x1 : zs_in x1.toInt 0 5) {x2 : Int32} (h_x2 : zs_in x2.toInt 0 0) : zs_ok (fX9_of σ x1 x2) (fun r => zs_in (r).toInt 0 5) := by
  unfold fX9_of
  obtain rfl : x2 = (0 : Int32) := zs_eqv h_x2 (by decide)
  refine zs_gd (zs_gin (zs_addI 49 74 (zs_addI 49 74 zlI_49 (zs_mulI 0 25 zlI_5 h_x1 (by decide)) (by decide)) h_x2 (by decide)) (by decide)) ?_
  exact zs_some (zs_rdb (q := 1) (lo := 0) (hi := 5) h_σ.1 (zs_cases h_x1 (fun z => zs_bd (zs_tM 1 (((49 : Int32) + ((5 : Int32) * z)) + (0 : Int32)).toNatClampNeg) 0 5) (by decide +kernel)))
-- fX9_of
theorem zc_201 {σ0 : sn_S} {σ : sn_S} (h_σ : zs_M σ0 σ) {x1 : Int32} (h_x1 : zs_in x1.toInt 0 5) {x2 : Int32} (h_x2 : zs_in x2.toInt 1 1) : zs_ok (fX9_of σ x1 x2) (fun r => zs_in (r).toInt 0 29) := by
  unfold fX9_of
  obtain rfl : x2 = (1 : Int32) := zs_eqv h_x2 (by decide)
  refine zs_gd (zs_gin (zs_addI 50 75 (zs_addI 49 74 zlI_49 (zs_mulI 0 25 zlI_5 h_x1 (by decide)) (by decide)) h_x2 (by decide)) (by decide)) ?_
  exact zs_some (zs_rdb (q := 1) (lo := 0) (hi := 29) h_σ.1 (zs_cases h_x1 (fun z => zs_bd (zs_tM 1 (((49 : Int32) + ((5 : Int32) * z)) + (1 : Int32)).toNatClampNeg) 0 29) (by decide +kernel)))
-- fX9_of
theorem zc_202 {σ0 : sn_S} {σ : sn_S} (h_σ : zs_M σ0 σ) {x1 : Int32} (h_x1 : zs_in x1.toInt 0 5) {x2 : Int32} (h_x2 : zs_in x2.toInt 2 2) : zs_ok (fX9_of σ x1 x2) (fun r => zs_in (r).toInt 0 29) := by
  unfold fX9_of
  obtain rfl : x2 = (2 : Int32) := zs_eqv h_x2 (by decide)
  refine zs_gd (zs_gin (zs_addI 51 76 (zs_addI 49 74 zlI_49 (zs_mulI 0 25 zlI_5 h_x1 (by decide)) (by decide)) h_x2 (by decide)) (by decide)) ?_
  exact zs_some (zs_rdb (q := 1) (lo := 0) (hi := 29) h_σ.1 (zs_cases h_x1 (fun z => zs_bd (zs_tM 1 (((49 : Int32) + ((5 : Int32) * z)) + (2 : Int32)).toNatClampNeg) 0 29) (by decide +kernel)))
-- BX9_windowOf_9
theorem zc_203 {σ0 : sn_S} {σ : sn_S} (h_σ : zs_M σ0 σ) {x1 : Int32} (h_x1 : zs_in x1.toInt 0 5) {x2 : Int32} (h_x2 : zs_in x2.toInt 0 1073741823) {x3 : Int32} (h_x3 : zs_in x3.toInt 0 30) {c : Int} (hc : x3.toInt = c + 0) : zs_ok (BX9_windowOf_9 σ x1 x2 x3) (fun r => zs_sum (fun v => ((zs_in (v.1).toInt 0 1073741823 ∧ zs_in (v.2).toInt 1 30)) ∧ v.2.toInt = c + 1) (fun v => zs_in (v).toInt 0 1073741823) r) := by
  unfold BX9_windowOf_9
  refine zs_bd_ (zc_202 h_σ h_x1 zlI_2) (fun t_1 pt_1 => ?_)
  refine zs_ite (fun c1 => ?_) (fun c1 => ?_)
  · skip
    have r2 := (zs_I_lt c1)
    have g3 : zs_in (x3).toInt 1 30 := (zs_ltr 1 30 r2 pt_1 h_x3 (by decide))
    exact zs_some (zs_inr (h_x2))
  · skip
    have r4 := (zs_I_ltn c1)
    have g5 : zs_in (x3).toInt 0 29 := (zs_lel 0 29 r4 h_x3 pt_1 (by decide))
    refine zs_ite (fun c6 => ?_) (fun c6 => ?_)
    · skip
      have r7 := (zs_I_lt c6)
      have g8 : zs_in ((sn_I σ 0 22)).toInt (-1) 28 := (zs_ltl (-1) 28 r7 (zs_rdk (q := 0) (k := 22) (z := ((-1), 29)) h_σ.1 rfl) g5 (by decide))
      exact zs_some (zs_inr (h_x2))
    · skip
      have r9 := (zs_I_ltn c6)
      have g10 : zs_in ((sn_I σ 0 22)).toInt 0 29 := (zs_ler 0 29 r9 g5 (zs_rdk (q := 0) (k := 22) (z := ((-1), 29)) h_σ.1 rfl) (by decide))
      refine zs_lt (Q := fun z => zs_in z.toInt 0 1073741823) (zs_or 30 1073741823 h_x2 (zs_cases g5 (fun z => zs_in ((1 : Int32) <<< (z &&& 31)).toInt 1 536870912) (by decide +kernel)) (by decide)) (fun y_5 hy_5 => ?_)
      refine zs_lt (Q := fun z => zs_in z.toInt 1 30 ∧ z.toInt = c + 1) ⟨(zs_addI 1 30 g5 zlI_1 (by decide)), (zs_syI 1 hc g5 zlI_1 (by decide) (by decide))⟩ (fun y_7 hy_7 => ?_)
      exact zs_some (zs_inl ⟨⟨hy_5, hy_7.1⟩, hy_7.2⟩)
theorem zd_33 {σ0 : sn_S} {σ : sn_S} (h_σ : zs_M σ0 σ) {x1 : Int32} (h_x1 : zs_in x1.toInt 0 5) {s0 : (Int32 × Int32)} (h0 : (zs_in (s0.1).toInt 0 1073741823 ∧ zs_in (s0.2).toInt 0 30)) : zs_ok (sn_it (LX9_windowOf_9 σ x1) 5000 s0) (fun t => zs_in (t).toInt 0 1073741823) := by
  refine zs_it (I := fun s => (zs_in (s.1).toInt 0 1073741823 ∧ zs_in (s.2).toInt 0 30)) (m := fun s => 30 - s.2.toInt) (fun s hs => ?_) (fun s hs => ?_) (by exact h0)
  · have h1 := hs.2; unfold zs_in at h1
    omega
  · obtain ⟨b, eb, hb⟩ := zc_203 h_σ h_x1 hs.1 hs.2 (c := s.2.toInt) (Int.add_zero _).symm
    exact ⟨b, eb, zs_sumw hb (fun v w => ⟨⟨w.1.1, (zs_w w.1.2 (by decide))⟩, by have := w.2; omega⟩) (fun v w => w)⟩
-- BX9_windowOf_39
theorem zc_204 {σ0 : sn_S} {σ : sn_S} (h_σ : zs_M σ0 σ) {x2 : Int32} (h_x2 : zs_in x2.toInt 0 1073741823) : zs_ok (BX9_windowOf_39 σ x2) (fun r => zs_in (r).toInt 0 1073741823) := by
  unfold BX9_windowOf_39
  exact zs_some h_x2
-- fX9_windowOf
theorem zc_205 {σ0 : sn_S} {σ : sn_S} (h_σ : zs_M σ0 σ) {x1 : Int32} (h_x1 : zs_in x1.toInt 0 5) : zs_ok (fX9_windowOf σ x1) (fun r => zs_in (r).toInt 0 1073741823) := by
  unfold fX9_windowOf
  refine zs_bd_ (zc_201 h_σ h_x1 zlI_1) (fun t_1 pt_1 => ?_)
  refine zs_bd_ (zd_33 h_σ h_x1 (s0 := ((0 : Int32), t_1)) ⟨(zs_w zlI_0 (by decide)), (zs_w pt_1 (by decide))⟩) (fun t_3 pt_3 => ?_)
  obtain ⟨ret, er, hr⟩ := zc_204 h_σ pt_3
  refine ⟨ret, er, ?_⟩
  exact hr
-- BX9_coveredOf_35
theorem zc_206 {σ0 : sn_S} {σ : sn_S} (h_σ : zs_M σ0 σ) {x1 : Int32} (h_x1 : zs_in x1.toInt 0 5) {x2 : Int32} (h_x2 : zs_in x2.toInt 0 1073741823) {x3 : Int32} (h_x3 : zs_in x3.toInt 0 5) {t0 : Int32} (h_t0 : zs_in t0.toInt 0 1073741823) {t1 : Int32} (h_t1 : zs_in t1.toInt 0 1073741823) {c : Int} (hc : x3.toInt = c + 0) : zs_ok (BX9_coveredOf_35 σ x1 x2 x3 t0 t1) (fun r => zs_sum (fun v => ((zs_in (v.1).toInt 0 1073741823 ∧ zs_in (v.2).toInt 1 6)) ∧ v.2.toInt = c + 1) (fun v => False) r) := by
  unfold BX9_coveredOf_35
  refine zs_lt (Q := fun z => zs_in z.toInt 0 1073741823) (zs_or 30 1073741823 h_t0 h_t1 (by decide)) (fun y_1 hy_1 => ?_)
  refine zs_lt (Q := fun z => zs_in z.toInt 1 6 ∧ z.toInt = c + 1) ⟨(zs_addI 1 6 h_x3 zlI_1 (by decide)), (zs_syI 1 hc h_x3 zlI_1 (by decide) (by decide))⟩ (fun y_3 hy_3 => ?_)
  exact zs_some (zs_inl ⟨⟨hy_1, hy_3.1⟩, hy_3.2⟩)
-- BX9_coveredOf_35
theorem zc_207 {σ0 : sn_S} {σ : sn_S} (h_σ : zs_M σ0 σ) {x1 : Int32} (h_x1 : zs_in x1.toInt 0 5) {x2 : Int32} (h_x2 : zs_in x2.toInt 0 1073741823) {x3 : Int32} (h_x3 : zs_in x3.toInt 0 5) {t0 : Int32} (h_t0 : zs_in t0.toInt 0 1073741823) {t1 : Int32} (h_t1 : zs_in t1.toInt 0 0) {c : Int} (hc : x3.toInt = c + 0) : zs_ok (BX9_coveredOf_35 σ x1 x2 x3 t0 t1) (fun r => zs_sum (fun v => ((zs_in (v.1).toInt 0 1073741823 ∧ zs_in (v.2).toInt 1 6)) ∧ v.2.toInt = c + 1) (fun v => False) r) := by
  unfold BX9_coveredOf_35
  obtain rfl : t1 = (0 : Int32) := zs_eqv h_t1 (by decide)
  refine zs_lt (Q := fun z => zs_in z.toInt 0 1073741823) (zs_or 30 1073741823 h_t0 h_t1 (by decide)) (fun y_1 hy_1 => ?_)
  refine zs_lt (Q := fun z => zs_in z.toInt 1 6 ∧ z.toInt = c + 1) ⟨(zs_addI 1 6 h_x3 zlI_1 (by decide)), (zs_syI 1 hc h_x3 zlI_1 (by decide) (by decide))⟩ (fun y_3 hy_3 => ?_)
  exact zs_some (zs_inl ⟨⟨hy_1, hy_3.1⟩, hy_3.2⟩)
-- BX9_coveredOf_4
theorem zc_208 {σ0 : sn_S} {σ : sn_S} (h_σ : zs_M σ0 σ) {x1 : Int32} (h_x1 : zs_in x1.toInt 0 5) {x2 : Int32} (h_x2 : zs_in x2.toInt 0 1073741823) {x3 : Int32} (h_x3 : zs_in x3.toInt 0 6) {c : Int} (hc : x3.toInt = c + 0) : zs_ok (BX9_coveredOf_4 σ x1 x2 x3) (fun r => zs_sum (fun v => ((zs_in (v.1).toInt 0 1073741823 ∧ zs_in (v.2).toInt 1 6)) ∧ v.2.toInt = c + 1) (fun v => zs_in (v).toInt 0 1073741823) r) := by
  unfold BX9_coveredOf_4
  refine zs_gd (zs_gin zlI_8 (by decide)) ?_
  refine zs_ite (fun c1 => ?_) (fun c1 => ?_)
  · skip
    have r2 := (zs_I_le c1)
    exact zs_some (zs_inr (h_x2))
  · skip
    have r3 := (zs_I_len c1)
    have g4 : zs_in (x3).toInt 0 5 := (zs_ltl 0 5 r3 h_x3 (zs_rdk (q := 1) (k := (8 : Int32).toNatClampNeg) (z := (0, 6)) h_σ.1 rfl) (by decide))
    have g5 : zs_in ((sn_I σ 1 (8 : Int32).toNatClampNeg)).toInt 1 6 := (zs_ltr 1 6 r3 h_x3 (zs_rdk (q := 1) (k := (8 : Int32).toNatClampNeg) (z := (0, 6)) h_σ.1 rfl) (by decide))
    refine zs_bd_ (zc_200 h_σ g4 zlI_0) (fun t_3 pt_3 => ?_)
    refine zs_ite (fun c6 => ?_) (fun c6 => ?_)
    · skip
      have r7 := (zs_I_eq c6)
      refine zs_bd_ (zc_205 h_σ g4) (fun t_6 pt_6 => ?_)
      obtain ⟨ret, er, hr⟩ := zc_206 h_σ h_x1 h_x2 g4 h_x2 pt_6 hc
      refine ⟨ret, er, ?_⟩
      exact (zs_sumw hr (fun v w => ⟨w.1, w.2⟩) (fun v w => w.elim))
    · skip
      have r8 := (zs_I_eqn c6)
      obtain ⟨ret, er, hr⟩ := zc_207 h_σ h_x1 h_x2 g4 h_x2 zlI_0 hc
      refine ⟨ret, er, ?_⟩
      exact (zs_sumw hr (fun v w => ⟨w.1, w.2⟩) (fun v w => w.elim))
theorem zd_34 {σ0 : sn_S} {σ : sn_S} (h_σ : zs_M σ0 σ) {x1 : Int32} (h_x1 : zs_in x1.toInt 0 5) {s0 : (Int32 × Int32)} (h0 : (zs_in (s0.1).toInt 0 1073741823 ∧ zs_in (s0.2).toInt 0 6)) : zs_ok (sn_it (LX9_coveredOf_4 σ x1) 5000 s0) (fun t => zs_in (t).toInt 0 1073741823) := by
  refine zs_it (I := fun s => (zs_in (s.1).toInt 0 1073741823 ∧ zs_in (s.2).toInt 0 6)) (m := fun s => 6 - s.2.toInt) (fun s hs => ?_) (fun s hs => ?_) (by exact h0)
  · have h1 := hs.2; unfold zs_in at h1
    omega
  · obtain ⟨b, eb, hb⟩ := zc_208 h_σ h_x1 hs.1 hs.2 (c := s.2.toInt) (Int.add_zero _).symm
    exact ⟨b, eb, zs_sumw hb (fun v w => ⟨⟨w.1.1, (zs_w w.1.2 (by decide))⟩, by have := w.2; omega⟩) (fun v w => w)⟩
-- BX9_coveredOf_43
theorem zc_209 {σ0 : sn_S} {σ : sn_S} (h_σ : zs_M σ0 σ) {x2 : Int32} (h_x2 : zs_in x2.toInt 0 1073741823) : zs_ok (BX9_coveredOf_43 σ x2) (fun r => zs_in (r).toInt 0 1073741823) := by
  unfold BX9_coveredOf_43
  exact zs_some h_x2
-- fX9_coveredOf
theorem zc_210 {σ0 : sn_S} {σ : sn_S} (h_σ : zs_M σ0 σ) {x1 : Int32} (h_x1 : zs_in x1.toInt 0 5) : zs_ok (fX9_coveredOf σ x1) (fun r => zs_in (r).toInt 0 1073741823) := by
  unfold fX9_coveredOf
  refine zs_bd_ (zd_34 h_σ h_x1 (s0 := ((0 : Int32), (0 : Int32))) ⟨(zs_w zlI_0 (by decide)), (zs_w zlI_0 (by decide))⟩) (fun t_1 pt_1 => ?_)
  obtain ⟨ret, er, hr⟩ := zc_209 h_σ pt_1
  refine ⟨ret, er, ?_⟩
  exact hr
-- fX9_covered
theorem zc_211 {σ0 : sn_S} {σ : sn_S} (h_σ : zs_M σ0 σ) {x1 : Int32} : zs_ok (fX9_covered σ x1) (fun r => ((zs_in (r.1).toInt (-2) 1073741823 ∧ zs_M σ0 r.2)) ∧ ((r.1).toInt = (-2) ∨ (zs_in (x1).toInt 0 5))) := by
  unfold fX9_covered
  refine zs_bd_ (zc_98 h_σ) (fun t_1 pt_1 => ?_)
  refine zs_ite (fun c1 => ?_) (fun c1 => ?_)
  · skip
    have r2 := (zs_I_eq c1)
    have g3 : zs_in (t_1.1).toInt 0 0 := (zs_eql 0 0 r2 pt_1.1.1 zlI_0 (by decide))
    exact zs_some ⟨⟨(zs_w zlI_m2 (by decide)), pt_1.1.2⟩, Or.inl (zs_ptr zlI_m2)⟩
  · skip
    have r4 := (zs_I_eqn c1)
    have g5 : zs_in (t_1.1).toInt 1 1 := (zs_nel 1 1 r4 pt_1.1.1 zlI_0 (by decide))
    have q6 := (zs_or2 pt_1.2 g5 (by decide))
    have g7 : zs_in (x1).toInt 0 5 := q6
    refine zs_bd_ (zc_210 pt_1.1.2 g7) (fun t_4 pt_4 => ?_)
    exact zs_some ⟨⟨(zs_w pt_4 (by decide)), pt_1.1.2⟩, Or.inr g7⟩
-- BX8_naked_51
theorem zc_212 {σ0 : sn_S} {σ : sn_S} (h_σ : zs_C σ0 σ) {x1 : Int32} {x2 : Int32} (h_x2 : zs_in x2.toInt 0 5) {c : Int} (hc : x2.toInt = c + 0) : zs_ok (BX8_naked_51 σ x1 x2) (fun r => zs_sum (fun v => ((True ∧ zs_in (v.2).toInt 1 6)) ∧ v.2.toInt = c + 1) (fun v => False) r) := by
  unfold BX8_naked_51
  refine zs_lt (Q := fun z => zs_in z.toInt 1 6 ∧ z.toInt = c + 1) ⟨(zs_addI 1 6 h_x2 zlI_1 (by decide)), (zs_syI 1 hc h_x2 zlI_1 (by decide) (by decide))⟩ (fun y_1 hy_1 => ?_)
  exact zs_some (zs_inl ⟨⟨trivial, hy_1.1⟩, hy_1.2⟩)
-- BX8_naked_14
theorem zc_213 {σ0 : sn_S} {σ : sn_S} (h_σ : zs_C σ0 σ) {x1 : Int32} {x2 : Int32} (h_x2 : zs_in x2.toInt 0 6) {c : Int} (hc : x2.toInt = c + 0) : zs_ok (BX8_naked_14 σ x1 x2) (fun r => zs_sum (fun v => ((True ∧ zs_in (v.2).toInt 1 6)) ∧ v.2.toInt = c + 1) (fun v => True) r) := by
  unfold BX8_naked_14
  refine zs_ite (fun c1 => ?_) (fun c1 => ?_)
  · skip
    have r2 := (zs_I_le c1)
    exact zs_some (zs_inr (trivial))
  · skip
    have r3 := (zs_I_len c1)
    have g4 : zs_in (x2).toInt 0 5 := (zs_ltl 0 5 r3 h_x2 (zs_rdk (q := 27) (k := 1) (z := (0, 6)) h_σ.1 rfl) (by decide))
    have g5 : zs_in ((sn_I σ 27 1)).toInt 1 6 := (zs_ltr 1 6 r3 h_x2 (zs_rdk (q := 27) (k := 1) (z := (0, 6)) h_σ.1 rfl) (by decide))
    refine zs_gd (zs_gin g4 (by decide)) ?_
    refine zs_bd_ (zc_198 h_σ g4) (fun t_3 pt_3 => ?_)
    refine zs_ite (fun c6 => ?_) (fun c6 => ?_)
    · skip
      have r7 := (zs_I_eq c6)
      have g8 : zs_in (((sn_I σ (27 + 10) x2.toNatClampNeg) &&& (t_3 ^^^ (-1 : Int32)))).toInt 0 0 := (zs_eql 0 0 r7 (zs_and2 (zs_rdu (q := 37) (z := (0, 1073741823)) h_σ.1 (fun _ => rfl)) (by decide)) zlI_0 (by decide))
      obtain ⟨ret, er, hr⟩ := zc_212 h_σ g4 hc
      refine ⟨ret, er, ?_⟩
      exact (zs_sumw hr (fun v w => ⟨w.1, w.2⟩) (fun v w => w.elim))
    · skip
      have r9 := (zs_I_eqn c6)
      have g10 : zs_in (((sn_I σ (27 + 10) x2.toNatClampNeg) &&& (t_3 ^^^ (-1 : Int32)))).toInt 1 1073741823 := (zs_nel 1 1073741823 r9 (zs_and2 (zs_rdu (q := 37) (z := (0, 1073741823)) h_σ.1 (fun _ => rfl)) (by decide)) zlI_0 (by decide))
      refine zs_lt (Q := fun z => True) trivial (fun y_6 hy_6 => ?_)
      obtain ⟨ret, er, hr⟩ := zc_212 h_σ g4 hc
      refine ⟨ret, er, ?_⟩
      exact (zs_sumw hr (fun v w => ⟨w.1, w.2⟩) (fun v w => w.elim))
theorem zd_35 {σ0 : sn_S} {σ : sn_S} (h_σ : zs_C σ0 σ) {s0 : (Int32 × Int32)} (h0 : (True ∧ zs_in (s0.2).toInt 0 6)) : zs_ok (sn_it (LX8_naked_14 σ) 5000 s0) (fun t => True) := by
  refine zs_it (I := fun s => (True ∧ zs_in (s.2).toInt 0 6)) (m := fun s => 6 - s.2.toInt) (fun s hs => ?_) (fun s hs => ?_) (by exact h0)
  · have h1 := hs.2; unfold zs_in at h1
    omega
  · obtain ⟨b, eb, hb⟩ := zc_213 h_σ hs.2 (c := s.2.toInt) (Int.add_zero _).symm
    exact ⟨b, eb, zs_sumw hb (fun v w => ⟨⟨w.1.1, (zs_w w.1.2 (by decide))⟩, by have := w.2; omega⟩) (fun v w => w)⟩
-- BX8_naked_57
theorem zc_214 {σ0 : sn_S} {σ : sn_S} (h_σ : zs_C σ0 σ) {x1 : Int32} : zs_ok (BX8_naked_57 σ x1) (fun r => True) := by
  unfold BX8_naked_57
  exact zs_some trivial
-- fX8_naked
theorem zc_215 {σ0 : sn_S} {σ : sn_S} (h_σ : zs_C σ0 σ) : zs_ok (fX8_naked σ) (fun r => True) := by
  unfold fX8_naked
  refine zs_bd_ (zc_102 h_σ) (fun t_1 pt_1 => ?_)
  refine zs_ite (fun c1 => ?_) (fun c1 => ?_)
  · skip
    have r2 := (zs_I_eq c1)
    have g3 : zs_in (t_1).toInt 0 0 := (zs_eql 0 0 r2 pt_1 zlI_0 (by decide))
    exact zs_some trivial
  · skip
    have r4 := (zs_I_eqn c1)
    have g5 : zs_in (t_1).toInt 1 1 := (zs_nel 1 1 r4 pt_1 zlI_0 (by decide))
    refine zs_bd_ (zd_35 h_σ (s0 := ((0 : Int32), (0 : Int32))) ⟨trivial, (zs_w zlI_0 (by decide))⟩) (fun t_4 pt_4 => ?_)
    obtain ⟨ret, er, hr⟩ := zc_214 h_σ
    refine ⟨ret, er, ?_⟩
    exact hr
-- BX9_naked_49
theorem zc_216 {σ0 : sn_S} {σ : sn_S} (h_σ : zs_M σ0 σ) {x1 : Int32} {x2 : Int32} (h_x2 : zs_in x2.toInt 0 5) {t0 : Int32} {t1 : Int32} (h_t1 : zs_in t1.toInt 0 0) {c : Int} (hc : x2.toInt = c + 0) : zs_ok (BX9_naked_49 σ x1 x2 t0 t1) (fun r => zs_sum (fun v => ((True ∧ zs_in (v.2).toInt 1 6)) ∧ v.2.toInt = c + 1) (fun v => False) r) := by
  unfold BX9_naked_49
  obtain rfl : t1 = (0 : Int32) := zs_eqv h_t1 (by decide)
  refine zs_lt (Q := fun z => True) trivial (fun y_1 hy_1 => ?_)
  refine zs_lt (Q := fun z => zs_in z.toInt 1 6 ∧ z.toInt = c + 1) ⟨(zs_addI 1 6 h_x2 zlI_1 (by decide)), (zs_syI 1 hc h_x2 zlI_1 (by decide) (by decide))⟩ (fun y_3 hy_3 => ?_)
  exact zs_some (zs_inl ⟨⟨trivial, hy_3.1⟩, hy_3.2⟩)
-- BX9_naked_49
theorem zc_217 {σ0 : sn_S} {σ : sn_S} (h_σ : zs_M σ0 σ) {x1 : Int32} {x2 : Int32} (h_x2 : zs_in x2.toInt 0 5) {t0 : Int32} {t1 : Int32} (h_t1 : zs_in t1.toInt 1 32) {c : Int} (hc : x2.toInt = c + 0) : zs_ok (BX9_naked_49 σ x1 x2 t0 t1) (fun r => zs_sum (fun v => ((True ∧ zs_in (v.2).toInt 1 6)) ∧ v.2.toInt = c + 1) (fun v => False) r) := by
  unfold BX9_naked_49
  refine zs_lt (Q := fun z => True) trivial (fun y_1 hy_1 => ?_)
  refine zs_lt (Q := fun z => zs_in z.toInt 1 6 ∧ z.toInt = c + 1) ⟨(zs_addI 1 6 h_x2 zlI_1 (by decide)), (zs_syI 1 hc h_x2 zlI_1 (by decide) (by decide))⟩ (fun y_3 hy_3 => ?_)
  exact zs_some (zs_inl ⟨⟨trivial, hy_3.1⟩, hy_3.2⟩)
-- BX9_naked_14
theorem zc_218 {σ0 : sn_S} {σ : sn_S} (h_σ : zs_M σ0 σ) {x1 : Int32} {x2 : Int32} (h_x2 : zs_in x2.toInt 0 6) {c : Int} (hc : x2.toInt = c + 0) : zs_ok (BX9_naked_14 σ x1 x2) (fun r => zs_sum (fun v => ((True ∧ zs_in (v.2).toInt 1 6)) ∧ v.2.toInt = c + 1) (fun v => True) r) := by
  unfold BX9_naked_14
  refine zs_gd (zs_gin zlI_5 (by decide)) ?_
  refine zs_ite (fun c1 => ?_) (fun c1 => ?_)
  · skip
    have r2 := (zs_I_le c1)
    exact zs_some (zs_inr (trivial))
  · skip
    have r3 := (zs_I_len c1)
    have g4 : zs_in (x2).toInt 0 5 := (zs_ltl 0 5 r3 h_x2 (zs_rdk (q := 1) (k := (5 : Int32).toNatClampNeg) (z := (0, 6)) h_σ.1 rfl) (by decide))
    have g5 : zs_in ((sn_I σ 1 (5 : Int32).toNatClampNeg)).toInt 1 6 := (zs_ltr 1 6 r3 h_x2 (zs_rdk (q := 1) (k := (5 : Int32).toNatClampNeg) (z := (0, 6)) h_σ.1 rfl) (by decide))
    refine zs_gd (zs_gin g4 (by decide)) ?_
    refine zs_bd_ (zc_210 h_σ g4) (fun t_4 pt_4 => ?_)
    refine zs_ite (fun c6 => ?_) (fun c6 => ?_)
    · skip
      have r7 := (zs_I_eq c6)
      have g8 : zs_in (((sn_I σ 10 x2.toNatClampNeg) &&& (t_4 ^^^ (-1 : Int32)))).toInt 0 0 := (zs_eql 0 0 r7 (zs_and2 (zs_rdu (q := 10) (z := (0, 1073741823)) h_σ.1 (fun _ => rfl)) (by decide)) zlI_0 (by decide))
      obtain ⟨ret, er, hr⟩ := zc_216 h_σ g4 zlI_0 hc
      refine ⟨ret, er, ?_⟩
      exact (zs_sumw hr (fun v w => ⟨w.1, w.2⟩) (fun v w => w.elim))
    · skip
      have r9 := (zs_I_eqn c6)
      have g10 : zs_in (((sn_I σ 10 x2.toNatClampNeg) &&& (t_4 ^^^ (-1 : Int32)))).toInt 1 1073741823 := (zs_nel 1 1073741823 r9 (zs_and2 (zs_rdu (q := 10) (z := (0, 1073741823)) h_σ.1 (fun _ => rfl)) (by decide)) zlI_0 (by decide))
      obtain ⟨ret, er, hr⟩ := zc_217 h_σ g4 (zs_cases g4 (fun z => zs_in ((1 : Int32) <<< (z &&& 31)).toInt 1 32) (by decide +kernel)) hc
      refine ⟨ret, er, ?_⟩
      exact (zs_sumw hr (fun v w => ⟨w.1, w.2⟩) (fun v w => w.elim))
theorem zd_36 {σ0 : sn_S} {σ : sn_S} (h_σ : zs_M σ0 σ) {s0 : (Int32 × Int32)} (h0 : (True ∧ zs_in (s0.2).toInt 0 6)) : zs_ok (sn_it (LX9_naked_14 σ) 5000 s0) (fun t => True) := by
  refine zs_it (I := fun s => (True ∧ zs_in (s.2).toInt 0 6)) (m := fun s => 6 - s.2.toInt) (fun s hs => ?_) (fun s hs => ?_) (by exact h0)
  · have h1 := hs.2; unfold zs_in at h1
    omega
  · obtain ⟨b, eb, hb⟩ := zc_218 h_σ hs.2 (c := s.2.toInt) (Int.add_zero _).symm
    exact ⟨b, eb, zs_sumw hb (fun v w => ⟨⟨w.1.1, (zs_w w.1.2 (by decide))⟩, by have := w.2; omega⟩) (fun v w => w)⟩
end
section
-- BX9_naked_57
theorem zc_219 {σ0 : sn_S} {σ : sn_S} (h_σ : zs_M σ0 σ) {x1 : Int32} : zs_ok (BX9_naked_57 σ x1) (fun r => (True ∧ zs_M σ0 r.2)) := by
  unfold BX9_naked_57
  exact zs_some ⟨trivial, h_σ⟩
-- fX9_naked
theorem zc_220 {σ0 : sn_S} {σ : sn_S} (h_σ : zs_M σ0 σ) : zs_ok (fX9_naked σ) (fun r => (True ∧ zs_M σ0 r.2)) := by
  unfold fX9_naked
  refine zs_bd_ (zc_92 h_σ) (fun t_1 pt_1 => ?_)
  refine zs_ite (fun c1 => ?_) (fun c1 => ?_)
  · skip
    have r2 := (zs_I_eq c1)
    have g3 : zs_in (t_1.1).toInt 0 0 := (zs_eql 0 0 r2 pt_1.1 zlI_0 (by decide))
    exact zs_some ⟨trivial, pt_1.2⟩
  · skip
    have r4 := (zs_I_eqn c1)
    have g5 : zs_in (t_1.1).toInt 1 1 := (zs_nel 1 1 r4 pt_1.1 zlI_0 (by decide))
    refine zs_bd_ (zd_36 pt_1.2 (s0 := ((0 : Int32), (0 : Int32))) ⟨trivial, (zs_w zlI_0 (by decide))⟩) (fun t_4 pt_4 => ?_)
    obtain ⟨ret, er, hr⟩ := zc_219 pt_1.2
    refine ⟨ret, er, ?_⟩
    exact hr
-- fX8_hasBit
theorem zc_221 {x0 : Int32} {x1 : Int32} (h_x1 : zs_in x1.toInt 0 29) : zs_ok (fX8_hasBit x0 x1) (fun r => zs_in (r).toInt 0 1) := by
  unfold fX8_hasBit
  refine zs_ite (fun c1 => ?_) (fun c1 => ?_)
  · skip
    have r2 := (zs_I_eq c1)
    have g3 : zs_in (((x0 >>> (x1 &&& 31)) &&& (1 : Int32))).toInt 1 1 := (zs_eql 1 1 r2 (zs_and zlI_1 (by decide)) zlI_1 (by decide))
    refine zs_gd (zs_b01 zlI_1 (by decide)) ?_
    exact zs_some (zs_w zlI_1 (by decide))
  · skip
    have r4 := (zs_I_eqn c1)
    have g5 : zs_in (((x0 >>> (x1 &&& 31)) &&& (1 : Int32))).toInt 0 0 := (zs_neh 0 0 r4 (zs_and zlI_1 (by decide)) zlI_1 (by decide))
    refine zs_gd (zs_b01 zlI_0 (by decide)) ?_
    exact zs_some (zs_w zlI_0 (by decide))
-- BX8_covers_50
theorem zc_222 {σ0 : sn_S} {σ : sn_S} (h_σ : zs_C σ0 σ) {x1 : Int32} (h_x1 : zs_in x1.toInt 0 29) {x2 : Int32} {x3 : Int32} (h_x3 : zs_in x3.toInt 0 5) {c : Int} (hc : x3.toInt = c + 0) : zs_ok (BX8_covers_50 σ x1 x2 x3) (fun r => zs_sum (fun v => ((True ∧ zs_in (v.2).toInt 1 6)) ∧ v.2.toInt = c + 1) (fun v => False) r) := by
  unfold BX8_covers_50
  refine zs_lt (Q := fun z => zs_in z.toInt 1 6 ∧ z.toInt = c + 1) ⟨(zs_addI 1 6 h_x3 zlI_1 (by decide)), (zs_syI 1 hc h_x3 zlI_1 (by decide) (by decide))⟩ (fun y_1 hy_1 => ?_)
  exact zs_some (zs_inl ⟨⟨trivial, hy_1.1⟩, hy_1.2⟩)
-- BX8_covers_15
theorem zc_223 {σ0 : sn_S} {σ : sn_S} (h_σ : zs_C σ0 σ) {x1 : Int32} (h_x1 : zs_in x1.toInt 0 29) {x2 : Int32} {x3 : Int32} (h_x3 : zs_in x3.toInt 0 6) {c : Int} (hc : x3.toInt = c + 0) : zs_ok (BX8_covers_15 σ x1 x2 x3) (fun r => zs_sum (fun v => ((True ∧ zs_in (v.2).toInt 1 6)) ∧ v.2.toInt = c + 1) (fun v => True) r) := by
  unfold BX8_covers_15
  refine zs_gd (zs_gin zlI_8 (by decide)) ?_
  refine zs_ite (fun c1 => ?_) (fun c1 => ?_)
  · skip
    have r2 := (zs_I_le c1)
    exact zs_some (zs_inr (trivial))
  · skip
    have r3 := (zs_I_len c1)
    have g4 : zs_in (x3).toInt 0 5 := (zs_ltl 0 5 r3 h_x3 (zs_rdk (q := 2) (k := (8 : Int32).toNatClampNeg) (z := (0, 6)) h_σ.1 rfl) (by decide))
    have g5 : zs_in ((sn_I σ (1 + 1) (8 : Int32).toNatClampNeg)).toInt 1 6 := (zs_ltr 1 6 r3 h_x3 (zs_rdk (q := 2) (k := (8 : Int32).toNatClampNeg) (z := (0, 6)) h_σ.1 rfl) (by decide))
    refine zs_bd_ (zc_193 h_σ g4) (fun t_3 pt_3 => ?_)
    refine zs_bd_ (zc_221 h_x1) (fun t_5 pt_5 => ?_)
    refine zs_ite (fun c6 => ?_) (fun c6 => ?_)
    · skip
      have r7 := (zs_I_eq c6)
      have g8 : zs_in (t_5).toInt 0 0 := (zs_eql 0 0 r7 pt_5 zlI_0 (by decide))
      obtain ⟨ret, er, hr⟩ := zc_222 h_σ h_x1 g4 hc
      refine ⟨ret, er, ?_⟩
      exact (zs_sumw hr (fun v w => ⟨w.1, w.2⟩) (fun v w => w.elim))
    · skip
      have r9 := (zs_I_eqn c6)
      have g10 : zs_in (t_5).toInt 1 1 := (zs_nel 1 1 r9 pt_5 zlI_0 (by decide))
      refine zs_lt (Q := fun z => True) trivial (fun y_8 hy_8 => ?_)
      obtain ⟨ret, er, hr⟩ := zc_222 h_σ h_x1 g4 hc
      refine ⟨ret, er, ?_⟩
      exact (zs_sumw hr (fun v w => ⟨w.1, w.2⟩) (fun v w => w.elim))
theorem zd_37 {σ0 : sn_S} {σ : sn_S} (h_σ : zs_C σ0 σ) {x1 : Int32} (h_x1 : zs_in x1.toInt 0 29) {s0 : (Int32 × Int32)} (h0 : (True ∧ zs_in (s0.2).toInt 0 6)) : zs_ok (sn_it (LX8_covers_15 σ x1) 5000 s0) (fun t => True) := by
  refine zs_it (I := fun s => (True ∧ zs_in (s.2).toInt 0 6)) (m := fun s => 6 - s.2.toInt) (fun s hs => ?_) (fun s hs => ?_) (by exact h0)
  · have h1 := hs.2; unfold zs_in at h1
    omega
  · obtain ⟨b, eb, hb⟩ := zc_223 h_σ h_x1 hs.2 (c := s.2.toInt) (Int.add_zero _).symm
    exact ⟨b, eb, zs_sumw hb (fun v w => ⟨⟨w.1.1, (zs_w w.1.2 (by decide))⟩, by have := w.2; omega⟩) (fun v w => w)⟩
-- BX8_covers_56
theorem zc_224 {σ0 : sn_S} {σ : sn_S} (h_σ : zs_C σ0 σ) {x2 : Int32} : zs_ok (BX8_covers_56 σ x2) (fun r => True) := by
  unfold BX8_covers_56
  exact zs_some trivial
-- fX8_covers
theorem zc_225 {σ0 : sn_S} {σ : sn_S} (h_σ : zs_C σ0 σ) {x1 : Int32} : zs_ok (fX8_covers σ x1) (fun r => (True) ∧ ((r).toInt = (-2) ∨ (zs_in (x1).toInt 0 29))) := by
  unfold fX8_covers
  refine zs_bd_ (zc_44 h_σ) (fun t_1 pt_1 => ?_)
  refine zs_ite (fun c1 => ?_) (fun c1 => ?_)
  · skip
    have r2 := (zs_I_eq c1)
    have g3 : zs_in (t_1).toInt 0 0 := (zs_eql 0 0 r2 pt_1.1 zlI_0 (by decide))
    exact zs_some ⟨trivial, Or.inl (zs_ptr zlI_m2)⟩
  · skip
    have r4 := (zs_I_eqn c1)
    have g5 : zs_in (t_1).toInt 1 1 := (zs_nel 1 1 r4 pt_1.1 zlI_0 (by decide))
    have q6 := (zs_or2 pt_1.2 g5 (by decide))
    have g7 : zs_in (x1).toInt 0 29 := q6
    refine zs_bd_ (zd_37 h_σ g7 (s0 := ((0 : Int32), (0 : Int32))) ⟨trivial, (zs_w zlI_0 (by decide))⟩) (fun t_4 pt_4 => ?_)
    obtain ⟨ret, er, hr⟩ := zc_224 h_σ
    refine ⟨ret, er, ?_⟩
    exact ⟨hr, Or.inr g7⟩
-- BX9_covers_15
theorem zc_226 {σ0 : sn_S} {σ : sn_S} (h_σ : zs_M σ0 σ) {x1 : Int32} (h_x1 : zs_in x1.toInt 0 29) {x2 : Int32} {x3 : Int32} (h_x3 : zs_in x3.toInt 0 6) {c : Int} (hc : x3.toInt = c + 0) : zs_ok (BX9_covers_15 σ x1 x2 x3) (fun r => zs_sum (fun v => ((True ∧ zs_in (v.2).toInt 1 6)) ∧ v.2.toInt = c + 1) (fun v => True) r) := by
  unfold BX9_covers_15
  refine zs_gd (zs_gin zlI_8 (by decide)) ?_
  refine zs_ite (fun c1 => ?_) (fun c1 => ?_)
  · skip
    have r2 := (zs_I_le c1)
    exact zs_some (zs_inr (trivial))
  · skip
    have r3 := (zs_I_len c1)
    have g4 : zs_in (x3).toInt 0 5 := (zs_ltl 0 5 r3 h_x3 (zs_rdk (q := 1) (k := (8 : Int32).toNatClampNeg) (z := (0, 6)) h_σ.1 rfl) (by decide))
    have g5 : zs_in ((sn_I σ 1 (8 : Int32).toNatClampNeg)).toInt 1 6 := (zs_ltr 1 6 r3 h_x3 (zs_rdk (q := 1) (k := (8 : Int32).toNatClampNeg) (z := (0, 6)) h_σ.1 rfl) (by decide))
    refine zs_bd_ (zc_205 h_σ g4) (fun t_3 pt_3 => ?_)
    refine zs_bd_ (zc_181 pt_3 h_x1) (fun t_5 pt_5 => ?_)
    refine zs_lt (Q := fun z => True) trivial (fun y_7 hy_7 => ?_)
    refine zs_lt (Q := fun z => zs_in z.toInt 1 6 ∧ z.toInt = c + 1) ⟨(zs_addI 1 6 g4 zlI_1 (by decide)), (zs_syI 1 hc g4 zlI_1 (by decide) (by decide))⟩ (fun y_9 hy_9 => ?_)
    exact zs_some (zs_inl ⟨⟨trivial, hy_9.1⟩, hy_9.2⟩)
theorem zd_38 {σ0 : sn_S} {σ : sn_S} (h_σ : zs_M σ0 σ) {x1 : Int32} (h_x1 : zs_in x1.toInt 0 29) {s0 : (Int32 × Int32)} (h0 : (True ∧ zs_in (s0.2).toInt 0 6)) : zs_ok (sn_it (LX9_covers_15 σ x1) 5000 s0) (fun t => True) := by
  refine zs_it (I := fun s => (True ∧ zs_in (s.2).toInt 0 6)) (m := fun s => 6 - s.2.toInt) (fun s hs => ?_) (fun s hs => ?_) (by exact h0)
  · have h1 := hs.2; unfold zs_in at h1
    omega
  · obtain ⟨b, eb, hb⟩ := zc_226 h_σ h_x1 hs.2 (c := s.2.toInt) (Int.add_zero _).symm
    exact ⟨b, eb, zs_sumw hb (fun v w => ⟨⟨w.1.1, (zs_w w.1.2 (by decide))⟩, by have := w.2; omega⟩) (fun v w => w)⟩
-- BX9_covers_46
theorem zc_227 {σ0 : sn_S} {σ : sn_S} (h_σ : zs_M σ0 σ) {x2 : Int32} : zs_ok (BX9_covers_46 σ x2) (fun r => (True ∧ zs_M σ0 r.2)) := by
  unfold BX9_covers_46
  exact zs_some ⟨trivial, h_σ⟩
-- fX9_covers
theorem zc_228 {σ0 : sn_S} {σ : sn_S} (h_σ : zs_M σ0 σ) {x1 : Int32} : zs_ok (fX9_covers σ x1) (fun r => ((True ∧ zs_M σ0 r.2)) ∧ ((r.1).toInt = (-2) ∨ (zs_in (x1).toInt 0 29))) := by
  unfold fX9_covers
  refine zs_bd_ (zc_95 h_σ) (fun t_1 pt_1 => ?_)
  refine zs_ite (fun c1 => ?_) (fun c1 => ?_)
  · skip
    have r2 := (zs_I_eq c1)
    have g3 : zs_in (t_1.1).toInt 0 0 := (zs_eql 0 0 r2 pt_1.1.1 zlI_0 (by decide))
    exact zs_some ⟨⟨trivial, pt_1.1.2⟩, Or.inl (zs_ptr zlI_m2)⟩
  · skip
    have r4 := (zs_I_eqn c1)
    have g5 : zs_in (t_1.1).toInt 1 1 := (zs_nel 1 1 r4 pt_1.1.1 zlI_0 (by decide))
    have q6 := (zs_or2 pt_1.2 g5 (by decide))
    have g7 : zs_in (x1).toInt 0 29 := q6
    refine zs_bd_ (zd_38 pt_1.1.2 g7 (s0 := ((0 : Int32), (0 : Int32))) ⟨trivial, (zs_w zlI_0 (by decide))⟩) (fun t_4 pt_4 => ?_)
    obtain ⟨ret, er, hr⟩ := zc_227 pt_1.1.2
    refine ⟨ret, er, ?_⟩
    exact ⟨hr, Or.inr g7⟩
-- fX2_ofPolicy
theorem zc_229 {σ0 : sn_S} {σ : sn_S} (h_σ : zs_C σ0 σ) {x1 : Int32} (h_x1 : zs_in x1.toInt 0 5) {x2 : Int32} (h_x2 : zs_in x2.toInt 4 4) : zs_ok (fX2_ofPolicy σ 1 x1 x2) (fun r => True) := by
  unfold fX2_ofPolicy
  obtain rfl : x2 = (4 : Int32) := zs_eqv h_x2 (by decide)
  refine zs_gd (zs_gin (zs_addI 4 29 (zs_mulI 0 25 zlI_5 h_x1 (by decide)) h_x2 (by decide)) (by decide)) ?_
  exact zs_some trivial
-- BX2_gustMinutes_4
theorem zc_230 {σ0 : sn_S} {σ : sn_S} (h_σ : zs_C σ0 σ) {x1 : Int32} (h_x1 : zs_in x1.toInt 0 1073741823) {x2 : Int32} (h_x2 : zs_in x2.toInt 0 5) {c : Int} (hc : x2.toInt = c + 0) : zs_ok (BX2_gustMinutes_4 σ 1 x1 x2) (fun r => zs_sum (fun v => ((zs_in (v.1).toInt 0 1073741823 ∧ zs_in (v.2).toInt 1 5)) ∧ v.2.toInt = c + 1) (fun v => zs_in (v).toInt 0 1073741823) r) := by
  unfold BX2_gustMinutes_4
  refine zs_gd (zs_gin zlI_6 (by decide)) ?_
  refine zs_ite (fun c1 => ?_) (fun c1 => ?_)
  · skip
    have r2 := (zs_I_le c1)
    exact zs_some (zs_inr (h_x1))
  · skip
    have r3 := (zs_I_len c1)
    have g4 : zs_in (x2).toInt 0 4 := (zs_ltl 0 4 r3 h_x2 (zs_rdk (q := 2) (k := (6 : Int32).toNatClampNeg) (z := (0, 5)) h_σ.1 rfl) (by decide))
    have g5 : zs_in ((sn_I σ (1 + 1) (6 : Int32).toNatClampNeg)).toInt 1 5 := (zs_ltr 1 5 r3 h_x2 (zs_rdk (q := 2) (k := (6 : Int32).toNatClampNeg) (z := (0, 5)) h_σ.1 rfl) (by decide))
    refine zs_gd (zs_gin (zs_addI 1 9 (zs_mulI 0 8 zlI_2 g4 (by decide)) zlI_1 (by decide)) (by decide)) ?_
    refine zs_lt (Q := fun z => zs_in z.toInt 0 1073741823) (zs_or 30 1073741823 h_x1 (zs_cases (zs_use (h_σ.1.2 rfl).1.1.1 g4 (by decide) r3 (zs_i21 g4 (by decide))) (fun z => zs_in ((1 : Int32) <<< (z &&& 31)).toInt 1 536870912) (by decide +kernel)) (by decide)) (fun y_4 hy_4 => ?_)
    refine zs_lt (Q := fun z => zs_in z.toInt 1 5 ∧ z.toInt = c + 1) ⟨(zs_addI 1 5 g4 zlI_1 (by decide)), (zs_syI 1 hc g4 zlI_1 (by decide) (by decide))⟩ (fun y_6 hy_6 => ?_)
    exact zs_some (zs_inl ⟨⟨hy_4, hy_6.1⟩, hy_6.2⟩)
theorem zd_39 {σ0 : sn_S} {σ : sn_S} (h_σ : zs_C σ0 σ) {s0 : (Int32 × Int32)} (h0 : (zs_in (s0.1).toInt 0 1073741823 ∧ zs_in (s0.2).toInt 0 5)) : zs_ok (sn_it (LX2_gustMinutes_4 σ 1) 5000 s0) (fun t => zs_in (t).toInt 0 1073741823) := by
  refine zs_it (I := fun s => (zs_in (s.1).toInt 0 1073741823 ∧ zs_in (s.2).toInt 0 5)) (m := fun s => 5 - s.2.toInt) (fun s hs => ?_) (fun s hs => ?_) (by exact h0)
  · have h1 := hs.2; unfold zs_in at h1
    omega
  · obtain ⟨b, eb, hb⟩ := zc_230 h_σ hs.1 hs.2 (c := s.2.toInt) (Int.add_zero _).symm
    exact ⟨b, eb, zs_sumw hb (fun v w => ⟨⟨w.1.1, (zs_w w.1.2 (by decide))⟩, by have := w.2; omega⟩) (fun v w => w)⟩
-- BX2_gustMinutes_36
theorem zc_231 {σ0 : sn_S} {σ : sn_S} (h_σ : zs_C σ0 σ) {x1 : Int32} (h_x1 : zs_in x1.toInt 0 1073741823) : zs_ok (BX2_gustMinutes_36 σ 1 x1) (fun r => zs_in (r).toInt 0 1073741823) := by
  unfold BX2_gustMinutes_36
  exact zs_some h_x1
-- fX2_gustMinutes
theorem zc_232 {σ0 : sn_S} {σ : sn_S} (h_σ : zs_C σ0 σ) : zs_ok (fX2_gustMinutes σ 1) (fun r => zs_in (r).toInt 0 1073741823) := by
  unfold fX2_gustMinutes
  refine zs_bd_ (zd_39 h_σ (s0 := ((0 : Int32), (0 : Int32))) ⟨(zs_w zlI_0 (by decide)), (zs_w zlI_0 (by decide))⟩) (fun t_1 pt_1 => ?_)
  obtain ⟨ret, er, hr⟩ := zc_231 h_σ pt_1
  refine ⟨ret, er, ?_⟩
  exact hr
-- fX3_counting
theorem zc_233 {σ0 : sn_S} {σ : sn_S} (h_σ : zs_C σ0 σ) {x1 : Int32} (h_x1 : zs_in x1.toInt 0 3) {x2 : Int32} (h_x2 : zs_in x2.toInt 0 5) {x3 : Int32} (h_x3 : zs_in x3.toInt 0 1073741823) : zs_ok (fX3_counting σ 1 x1 x2 x3) (fun r => zs_in (r).toInt 0 1073741823) := by
  unfold fX3_counting
  refine zs_bd_ (zc_193 h_σ h_x2) (fun t_1 pt_1 => ?_)
  refine zs_lt (Q := fun z => zs_in z.toInt 0 1073741823) (zs_and2 h_x3 (by decide)) (fun y_3 hy_3 => ?_)
  refine zs_ite (fun c1 => ?_) (fun c1 => ?_)
  · skip
    have r2 := (zs_I_eq c1)
    have g3 : zs_in (x1).toInt 1 1 := (zs_eql 1 1 r2 h_x1 zlI_1 (by decide))
    refine zs_bd_ (zc_232 h_σ) (fun t_6 pt_6 => ?_)
    exact zs_some (zs_and2 hy_3 (by decide))
  · skip
    have r4 := (zs_I_eqn c1)
    exact zs_some hy_3
-- fX2_ofPolicy
theorem zc_234 {σ0 : sn_S} {σ : sn_S} (h_σ : zs_C σ0 σ) {x1 : Int32} (h_x1 : zs_in x1.toInt 0 5) {x2 : Int32} (h_x2 : zs_in x2.toInt 3 3) : zs_ok (fX2_ofPolicy σ 1 x1 x2) (fun r => True) := by
  unfold fX2_ofPolicy
  obtain rfl : x2 = (3 : Int32) := zs_eqv h_x2 (by decide)
  refine zs_gd (zs_gin (zs_addI 3 28 (zs_mulI 0 25 zlI_5 h_x1 (by decide)) h_x2 (by decide)) (by decide)) ?_
  exact zs_some trivial
-- fX3_claimBy
theorem zc_235 {σ0 : sn_S} {σ : sn_S} (h_σ : zs_C σ0 σ) {x1 : Int32} (h_x1 : zs_in x1.toInt 0 3) {x2 : Int32} (h_x2 : zs_in x2.toInt 0 5) {x3 : Int32} (h_x3 : zs_in x3.toInt 0 1073741823) {x4 : Int32} : zs_ok (fX3_claimBy σ 1 x1 x2 x3 x4) (fun r => True) := by
  unfold fX3_claimBy
  refine zs_bd_ (zc_233 h_σ h_x1 h_x2 h_x3) (fun t_1 pt_1 => ?_)
  refine zs_bd_ (zc_234 h_σ h_x2 zlI_3) (fun t_3 pt_3 => ?_)
  refine zs_ite (fun c1 => ?_) (fun c1 => ?_)
  · skip
    have r2 := (zs_I_eq c1)
    have g3 : zs_in (t_1).toInt 0 0 := (zs_eql 0 0 r2 pt_1 zlI_0 (by decide))
    exact zs_some trivial
  · skip
    have r4 := (zs_I_eqn c1)
    have g5 : zs_in (t_1).toInt 1 1073741823 := (zs_nel 1 1073741823 r4 pt_1 zlI_0 (by decide))
    refine zs_ite (fun c6 => ?_) (fun c6 => ?_)
    · skip
      have r7 := (zs_I_eq c6)
      have g8 : zs_in (x1).toInt 2 2 := (zs_eql 2 2 r7 h_x1 zlI_2 (by decide))
      refine zs_bd_ (zo_bc 30 30 (by decide) g5) (fun t_17 pt_17 => ?_)
      refine zs_lt (Q := fun z => zs_in z.toInt 0 3) (zs_min 0 3 pt_17 zlI_3 (by decide)) (fun y_19 hy_19 => ?_)
      exact zs_some trivial
    · skip
      have r9 := (zs_I_eqn c6)
      refine zs_bd_ (zo_low1 30 29 (by decide) g5) (fun t_7 pt_7 => ?_)
      refine zs_bd_ (zc_187 pt_7) (fun t_9 pt_9 => ?_)
      refine zs_bd_ (zc_193 h_σ h_x2) (fun t_11 pt_11 => ?_)
      refine zs_lt (Q := fun z => zs_in z.toInt 0 536870911) (zs_and2 pt_9 (by decide)) (fun y_13 hy_13 => ?_)
      refine zs_ite (fun c10 => ?_) (fun c10 => ?_)
      · skip
        have r11 := (zs_I_eq c10)
        have g12 : zs_in (x1).toInt 3 3 := (zs_eql 3 3 r11 h_x1 zlI_3 (by decide))
        refine zs_ite (fun c13 => ?_) (fun c13 => ?_)
        · skip
          have r14 := (zs_I_eq c13)
          have g15 : zs_in ((x4 &&& y_13)).toInt 0 0 := (zs_eql 0 0 r14 (zs_and hy_13 (by decide)) zlI_0 (by decide))
          exact zs_some trivial
        · skip
          have r16 := (zs_I_eqn c13)
          have g17 : zs_in ((x4 &&& y_13)).toInt 1 536870911 := (zs_nel 1 536870911 r16 (zs_and hy_13 (by decide)) zlI_0 (by decide))
          exact zs_some trivial
      · skip
        have r18 := (zs_I_eqn c10)
        have g19 : zs_in (x1).toInt 0 2 := (zs_neh 0 2 r18 h_x1 zlI_3 (by decide))
        exact zs_some trivial
-- BX3_reckon_115
theorem zc_236 {σ0 : sn_S} {σ : sn_S} (h_σ : zs_C σ0 σ) : zs_ok (BX3_reckon_115 σ 49 1 27) (fun r => zs_C σ0 r) := by
  unfold BX3_reckon_115
  exact zs_some h_σ
theorem zo_reckon_49_27_0_3_l {σ0 : sn_S} {x3 : Int32} (h_x3 : zs_in x3.toInt 0 3) {s0 : sn_S × Int32} (h0 : zs_C σ0 s0.1 ∧ zs_in s0.2.toInt 0 6 ∧ (sn_I s0.1 49 2).toInt = (σ0.1 2 8).toInt) : zs_ok (sn_it (LX3_reckon_24 49 1 27 x3) 5000 s0) (fun t => zs_C σ0 t) := by
  refine zs_it (I := fun s => zs_C σ0 s.1 ∧ zs_in s.2.toInt 0 6 ∧ (sn_I s.1 49 2).toInt = (σ0.1 2 8).toInt) (m := fun s => 6 - s.2.toInt) (fun s hs => ⟨by have := hs.2.1; omega, by have := hs.2.1; omega⟩) (fun s hs => ?_) h0
  obtain ⟨σ, x4⟩ := s
  obtain ⟨h_σ, h_x4, hq⟩ := hs
  unfold LX3_reckon_24 BX3_reckon_24
  refine zs_ite (fun c1 => zs_some (zs_inr h_σ)) (fun c1 => ?_)
  have r3 := (zs_I_len c1)
  have g4 : zs_in (x4).toInt 0 5 := (zs_ltl 0 5 r3 h_x4 (zs_rdk (q := 49) (k := 2) (z := (0, 6)) h_σ.1 rfl) (by decide))
  haveI : zs_Ws σ0 x4 := ⟨⟨by have h1 : x4.toInt < (sn_I σ 49 2).toInt := r3; have h2 : (sn_I σ 49 2).toInt = (σ0.1 2 8).toInt := hq; omega⟩⟩
  refine zs_bd_ (zo_whose h_σ g4) (fun t_2 pt_2 => ?_)
  refine zs_gd (zs_gin pt_2 (by decide)) ?_
  refine zs_lt (Q := fun z => zs_in z.toInt 0 1073741823) (zs_rdu (q := 37) (z := (0, 1073741823)) h_σ.1 (fun _ => rfl)) (fun y_5 hy_5 => ?_)
  refine zs_bd_ (zc_229 h_σ g4 zlI_4) (fun t_7 pt_7 => ?_)
  refine zs_lt (Q := fun z => zs_C σ0 z ∧ (sn_I z 49 2).toInt = (σ0.1 2 8).toInt) ⟨zs_wrkt h_σ rfl rfl, hq⟩ (fun σ_9 hσ_9 => ?_)
  refine zs_gd (zs_gin pt_2 (by decide)) ?_
  refine zs_bd_ (zc_235 hσ_9.1 h_x3 g4 hy_5) (fun t_12 pt_12 => ?_)
  refine zs_gd (zs_gin g4 (by decide)) ?_
  refine zs_lt (Q := fun z => zs_C σ0 z ∧ (sn_I z 49 2).toInt = (σ0.1 2 8).toInt) ⟨zs_wrt hσ_9.1 (fun _ => rfl) (fun _ => rfl), hσ_9.2⟩ (fun σ_15 hσ_15 => ?_)
  refine zs_bd_ (zc_233 hσ_15.1 h_x3 g4 hy_5) (fun t_17 pt_17 => ?_)
  refine zs_bd_ (zo_low 30 29 (by decide) pt_17) (fun t_19 pt_19 => ?_)
  refine zs_gd (zs_gin g4 (by decide)) ?_
  refine zs_lt (Q := fun z => zs_C σ0 z ∧ (sn_I z 49 2).toInt = (σ0.1 2 8).toInt) ⟨zs_wru (z := ((-1), 63)) hσ_15.1 (fun _ => rfl) pt_19 (by decide) (fun _ => rfl), hσ_15.2⟩ (fun σ_22 hσ_22 => ?_)
  refine zs_lt (Q := fun z => zs_in z.toInt 1 6 ∧ z.toInt = x4.toInt + 1) ⟨(zs_addI 1 6 g4 zlI_1 (by decide)), (zs_syI 1 (show x4.toInt = x4.toInt + 0 by omega) g4 zlI_1 (by decide) (by decide))⟩ (fun y_24 hy_24 => ?_)
  exact zs_some (zs_inl ⟨⟨hσ_22.1, zs_w hy_24.1 (by decide), hσ_22.2⟩, by show 6 - y_24.toInt < 6 - x4.toInt; have := hy_24.2; omega⟩)
theorem zo_reckon_49_27_0_3 {σ0 : sn_S} {σ : sn_S} (h_σ : zs_C σ0 σ) {x3 : Int32} (h_x3 : zs_in x3.toInt 0 3) : zs_ok (fX3_reckon σ 49 1 27 x3) (fun r => zs_C σ0 r) := by
  unfold fX3_reckon
  have e8 : sn_I σ (1 + 1) (8 : Int32).toNatClampNeg = σ0.1 2 8 := h_σ.2.1 2 8 rfl
  refine zs_gd (by decide) ?_
  refine zs_lt (Q := fun z => zs_C σ0 z ∧ (sn_I z 49 2).toInt = (σ0.1 2 8).toInt) ⟨zs_wrk (z := (0, 6)) h_σ rfl (zs_rdk (q := 2) (k := (8 : Int32).toNatClampNeg) (z := (0, 6)) h_σ.1 rfl) (by decide) rfl, by
    show (sn_I σ (1 + 1) (8 : Int32).toNatClampNeg).toInt = _
    rw [e8]⟩ (fun σ_2 h2 => ?_)
  refine zs_gd (by decide) ?_
  refine zs_lt (Q := fun z => zs_C σ0 z ∧ (sn_I z 49 2).toInt = (σ0.1 2 8).toInt) ⟨zs_wrkt h2.1 rfl rfl, h2.2⟩ (fun σ_5 h5 => ?_)
  refine zs_bd_ (zo_reckon_49_27_0_3_l h_x3 (s0 := (σ_5, (0 : Int32))) ⟨h5.1, (by decide : zs_in (0 : Int32).toInt 0 6), h5.2⟩) (fun t_7 p7 => ?_)
  exact zc_236 p7
-- fX8_ledgerNow
theorem zc_237 {σ0 : sn_S} {σ : sn_S} (h_σ : zs_C σ0 σ) : zs_ok (fX8_ledgerNow σ) (fun r => zs_C σ0 r) := by
  unfold fX8_ledgerNow
  refine zs_gd (zs_gin zlI_2 (by decide)) ?_
  refine zs_bd_ (zo_reckon_49_27_0_3 h_σ (zs_rdk (q := 2) (k := (2 : Int32).toNatClampNeg) (z := (0, 3)) h_σ.1 rfl)) (fun t_2 pt_2 => ?_)
  exact zs_some pt_2
-- fX8_profit
theorem zc_238 {σ0 : sn_S} {σ : sn_S} (h_σ : zs_C σ0 σ) {x1 : Int32} : zs_ok (fX8_profit σ x1) (fun r => (True ∧ zs_C σ0 r.2)) := by
  unfold fX8_profit
  refine zs_bd_ (zo_isPolicy h_σ) (fun t_1 pt_1 => ?_)
  refine zs_ite (fun c1 => ?_) (fun c1 => ?_)
  · skip
    have r2 := (zs_I_eq c1)
    have g3 : zs_in (t_1).toInt 0 0 := (zs_eql 0 0 r2 pt_1.1 zlI_0 (by decide))
    exact zs_some ⟨trivial, h_σ⟩
  · skip
    have r4 := (zs_I_eqn c1)
    have g5 : zs_in (t_1).toInt 1 1 := (zs_nel 1 1 r4 pt_1.1 zlI_0 (by decide))
    have q6 := (zs_or2 pt_1.2.1 g5 (by decide))
    have g7 : zs_in (x1).toInt 0 5 := q6
    haveI := zs_or2 pt_1.2.2 g5 (by decide)
    refine zs_bd_ (zc_229 h_σ g7 zlI_4) (fun t_4 pt_4 => ?_)
    refine zs_bd_ (zc_237 h_σ) (fun t_6 pt_6 => ?_)
    refine zs_gd (zs_gin g7 (by decide)) ?_
    exact zs_some ⟨trivial, pt_6⟩
-- fX9_asksPolicy
theorem zc_239 {σ0 : sn_S} {σ : sn_S} (h_σ : zs_M σ0 σ) {x1 : Int32} : zs_ok (fX9_asksPolicy σ x1) (fun r => ((zs_in (r.1).toInt 0 1 ∧ zs_M σ0 r.2)) ∧ ((r.1).toInt = 0 ∨ (zs_in (x1).toInt 0 5))) := by
  unfold fX9_asksPolicy
  refine zs_bd_ (zc_92 h_σ) (fun t_1 pt_1 => ?_)
  refine zs_bd_ (zc_11 pt_1.2) (fun t_3 pt_3 => ?_)
  refine zs_gd (zs_b01 pt_3.1 (by decide)) ?_
  rcases pt_3.2 with z0 | z0
  · skip
    have g1 : zs_in (t_3).toInt 0 0 := (zs_pt z0)
    exact zs_some ⟨⟨(zs_w g1 (by decide)), pt_1.2⟩, Or.inl (zs_ptr g1)⟩
  · skip
    have q2 := z0
    have g3 : zs_in (x1).toInt 0 5 := q2
    exact zs_some ⟨⟨pt_3.1, pt_1.2⟩, Or.inr g3⟩
-- fX9_of
theorem zc_240 {σ0 : sn_S} {σ : sn_S} (h_σ : zs_M σ0 σ) {x1 : Int32} (h_x1 : zs_in x1.toInt 0 5) {x2 : Int32} (h_x2 : zs_in x2.toInt 4 4) : zs_ok (fX9_of σ x1 x2) (fun r => zs_in (r).toInt 0 99) := by
  unfold fX9_of
  obtain rfl : x2 = (4 : Int32) := zs_eqv h_x2 (by decide)
  refine zs_gd (zs_gin (zs_addI 53 78 (zs_addI 49 74 zlI_49 (zs_mulI 0 25 zlI_5 h_x1 (by decide)) (by decide)) h_x2 (by decide)) (by decide)) ?_
  exact zs_some (zs_rdb (q := 1) (lo := 0) (hi := 99) h_σ.1 (zs_cases h_x1 (fun z => zs_bd (zs_tM 1 (((49 : Int32) + ((5 : Int32) * z)) + (4 : Int32)).toNatClampNeg) 0 99) (by decide +kernel)))
-- fX9_ahead
theorem zc_241 {x1 : Int32} (h_x1 : zs_in x1.toInt 0 29) : zs_ok (fX9_ahead x1) (fun r => zs_in (r).toInt 0 536870911) := by
  unfold fX9_ahead
  exact zs_some (zs_subI 0 536870911 (zs_cases h_x1 (fun z => zs_in ((1 : Int32) <<< (z &&& 31)).toInt 1 536870912) (by decide +kernel)) zlI_1 (by decide))
-- fX9_of
theorem zc_242 {σ0 : sn_S} {σ : sn_S} (h_σ : zs_M σ0 σ) {x1 : Int32} (h_x1 : zs_in x1.toInt 0 5) {x2 : Int32} (h_x2 : zs_in x2.toInt 3 3) : zs_ok (fX9_of σ x1 x2) (fun r => zs_in (r).toInt 0 99) := by
  unfold fX9_of
  obtain rfl : x2 = (3 : Int32) := zs_eqv h_x2 (by decide)
  refine zs_gd (zs_gin (zs_addI 52 77 (zs_addI 49 74 zlI_49 (zs_mulI 0 25 zlI_5 h_x1 (by decide)) (by decide)) h_x2 (by decide)) (by decide)) ?_
  exact zs_some (zs_rdb (q := 1) (lo := 0) (hi := 99) h_σ.1 (zs_cases h_x1 (fun z => zs_bd (zs_tM 1 (((49 : Int32) + ((5 : Int32) * z)) + (3 : Int32)).toNatClampNeg) 0 99) (by decide +kernel)))
-- BX9_claimOf_177
theorem zc_243 {σ0 : sn_S} {σ : sn_S} (h_σ : zs_M σ0 σ) {x1 : Int32} (h_x1 : zs_in x1.toInt 0 5) {x2 : Int32} (h_x2 : zs_in x2.toInt 0 5) {x3 : Int32} (h_x3 : zs_in x3.toInt 0 0) {x4 : Int32} (h_x4 : zs_in x4.toInt 0 1073741823) {x5 : Int32} {x6 : Int32} (h_x6 : zs_in x6.toInt 3 3) {x7 : Int32} (h_x7 : zs_in x7.toInt 0 2) {c : Int} (hc : x7.toInt = c + 0) : zs_ok (BX9_claimOf_177 σ x1 x2 x3 x4 x5 x6 x7) (fun r => zs_sum (fun v => ((zs_M σ0 v.1 ∧ (zs_in (v.2.1).toInt 0 1073741823 ∧ (True ∧ zs_in (v.2.2.2).toInt 1 3)))) ∧ v.2.2.2.toInt = c + 1) (fun v => False) r) := by
  unfold BX9_claimOf_177
  obtain rfl : x3 = (0 : Int32) := zs_eqv h_x3 (by decide)
  obtain rfl : x6 = (3 : Int32) := zs_eqv h_x6 (by decide)
  refine zs_lt (Q := fun z => zs_in z.toInt 1 3 ∧ z.toInt = c + 1) ⟨(zs_addI 1 3 h_x7 zlI_1 (by decide)), (zs_syI 1 hc h_x7 zlI_1 (by decide) (by decide))⟩ (fun y_1 hy_1 => ?_)
  exact zs_some (zs_inl ⟨⟨h_σ, ⟨h_x4, ⟨trivial, hy_1.1⟩⟩⟩, hy_1.2⟩)
-- BX9_claimOf_152
theorem zc_244 {σ0 : sn_S} {σ : sn_S} (h_σ : zs_M σ0 σ) {x1 : Int32} (h_x1 : zs_in x1.toInt 0 5) {x2 : Int32} (h_x2 : zs_in x2.toInt 0 5) {x3 : Int32} (h_x3 : zs_in x3.toInt 0 0) {x4 : Int32} (h_x4 : zs_in x4.toInt 0 1073741823) {x5 : Int32} {x6 : Int32} (h_x6 : zs_in x6.toInt 3 3) {x7 : Int32} (h_x7 : zs_in x7.toInt 0 2) {x8 : Int32} (h_x8 : zs_in x8.toInt 0 29) {t0 : Int32} (h_t0 : zs_in t0.toInt 0 99) {c : Int} (hc : x7.toInt = c + 0) : zs_ok (BX9_claimOf_152 σ x1 x2 x3 x4 x5 x6 x7 x8 t0) (fun r => zs_sum (fun v => ((zs_M σ0 v.1 ∧ (zs_in (v.2.1).toInt 0 1073741823 ∧ (True ∧ zs_in (v.2.2.2).toInt 1 3)))) ∧ v.2.2.2.toInt = c + 1) (fun v => False) r) := by
  unfold BX9_claimOf_152
  obtain rfl : x3 = (0 : Int32) := zs_eqv h_x3 (by decide)
  obtain rfl : x6 = (3 : Int32) := zs_eqv h_x6 (by decide)
  refine zs_lt (Q := fun z => True) trivial (fun y_1 hy_1 => ?_)
  refine zs_ite (fun c1 => ?_) (fun c1 => ?_)
  · skip
    have r2 := (zs_I_eq c1)
    obtain ⟨ret, er, hr⟩ := zc_243 h_σ h_x1 h_x2 h_x3 h_x4 h_x6 h_x7 hc
    refine ⟨ret, er, ?_⟩
    exact (zs_sumw hr (fun v w => ⟨w.1, w.2⟩) (fun v w => w.elim))
  · skip
    have r3 := (zs_I_eqn c1)
    exact (zs_botne r3 h_x3 zlI_0 (by decide)).elim
-- BX9_claimOf_128
theorem zc_245 {σ0 : sn_S} {σ : sn_S} (h_σ : zs_M σ0 σ) {x1 : Int32} (h_x1 : zs_in x1.toInt 0 5) {x2 : Int32} (h_x2 : zs_in x2.toInt 0 5) {x3 : Int32} (h_x3 : zs_in x3.toInt 0 0) {x4 : Int32} (h_x4 : zs_in x4.toInt 0 1073741823) {x5 : Int32} {x6 : Int32} (h_x6 : zs_in x6.toInt 3 3) {x7 : Int32} (h_x7 : zs_in x7.toInt 0 2) {x8 : Int32} (h_x8 : zs_in x8.toInt 0 29) {t0 : Int32} (h_t0 : zs_in t0.toInt 0 0) {c : Int} (hc : x7.toInt = c + 0) : zs_ok (BX9_claimOf_128 σ x1 x2 x3 x4 x5 x6 x7 x8 t0) (fun r => zs_sum (fun v => ((zs_M σ0 v.1 ∧ (zs_in (v.2.1).toInt 0 1073741823 ∧ (True ∧ zs_in (v.2.2.2).toInt 1 3)))) ∧ v.2.2.2.toInt = c + 1) (fun v => False) r) := by
  unfold BX9_claimOf_128
  obtain rfl : x3 = (0 : Int32) := zs_eqv h_x3 (by decide)
  obtain rfl : x6 = (3 : Int32) := zs_eqv h_x6 (by decide)
  obtain rfl : t0 = (0 : Int32) := zs_eqv h_t0 (by decide)
  refine zs_ite (fun c1 => ?_) (fun c1 => ?_)
  · skip
    have r2 := (zs_I_eq c1)
    refine zs_bd_ (zc_242 h_σ h_x1 zlI_3) (fun t_2 pt_2 => ?_)
    obtain ⟨ret, er, hr⟩ := zc_244 h_σ h_x1 h_x2 h_x3 h_x4 h_x6 h_x7 h_x8 pt_2 hc
    refine ⟨ret, er, ?_⟩
    exact (zs_sumw hr (fun v w => ⟨w.1, w.2⟩) (fun v w => w.elim))
  · skip
    have r3 := (zs_I_eqn c1)
    exact (zs_botne r3 h_t0 zlI_0 (by decide)).elim
-- BX9_claimOf_127
theorem zc_246 {σ0 : sn_S} {σ : sn_S} (h_σ : zs_M σ0 σ) {x1 : Int32} (h_x1 : zs_in x1.toInt 0 5) {x2 : Int32} (h_x2 : zs_in x2.toInt 0 5) {x3 : Int32} (h_x3 : zs_in x3.toInt 0 0) {x4 : Int32} (h_x4 : zs_in x4.toInt 0 1073741823) {x5 : Int32} {x6 : Int32} (h_x6 : zs_in x6.toInt 3 3) {x7 : Int32} (h_x7 : zs_in x7.toInt 0 2) {x8 : Int32} (h_x8 : zs_in x8.toInt 0 29) {c : Int} (hc : x7.toInt = c + 0) : zs_ok (BX9_claimOf_127 σ x1 x2 x3 x4 x5 x6 x7 x8) (fun r => zs_sum (fun v => ((zs_M σ0 v.1 ∧ (zs_in (v.2.1).toInt 0 1073741823 ∧ (True ∧ zs_in (v.2.2.2).toInt 1 3)))) ∧ v.2.2.2.toInt = c + 1) (fun v => False) r) := by
  unfold BX9_claimOf_127
  obtain rfl : x3 = (0 : Int32) := zs_eqv h_x3 (by decide)
  obtain rfl : x6 = (3 : Int32) := zs_eqv h_x6 (by decide)
  obtain ⟨ret, er, hr⟩ := zc_245 h_σ h_x1 h_x2 h_x3 h_x4 h_x6 h_x7 h_x8 zlI_0 hc
  refine ⟨ret, er, ?_⟩
  exact (zs_sumw hr (fun v w => ⟨w.1, w.2⟩) (fun v w => w.elim))
-- BX9_claimOf_152
theorem zc_247 {σ0 : sn_S} {σ : sn_S} (h_σ : zs_M σ0 σ) {x1 : Int32} (h_x1 : zs_in x1.toInt 0 5) {x2 : Int32} (h_x2 : zs_in x2.toInt 0 5) {x3 : Int32} (h_x3 : zs_in x3.toInt 0 0) {x4 : Int32} (h_x4 : zs_in x4.toInt 0 1073741823) {x5 : Int32} {x6 : Int32} (h_x6 : zs_in x6.toInt 3 3) {x7 : Int32} (h_x7 : zs_in x7.toInt 0 2) {x8 : Int32} (h_x8 : zs_in x8.toInt 0 29) {t0 : Int32} (h_t0 : zs_in t0.toInt 0 49) {c : Int} (hc : x7.toInt = c + 0) : zs_ok (BX9_claimOf_152 σ x1 x2 x3 x4 x5 x6 x7 x8 t0) (fun r => zs_sum (fun v => ((zs_M σ0 v.1 ∧ (zs_in (v.2.1).toInt 0 1073741823 ∧ (True ∧ zs_in (v.2.2.2).toInt 1 3)))) ∧ v.2.2.2.toInt = c + 1) (fun v => False) r) := by
  unfold BX9_claimOf_152
  obtain rfl : x3 = (0 : Int32) := zs_eqv h_x3 (by decide)
  obtain rfl : x6 = (3 : Int32) := zs_eqv h_x6 (by decide)
  refine zs_lt (Q := fun z => True) trivial (fun y_1 hy_1 => ?_)
  refine zs_ite (fun c1 => ?_) (fun c1 => ?_)
  · skip
    have r2 := (zs_I_eq c1)
    obtain ⟨ret, er, hr⟩ := zc_243 h_σ h_x1 h_x2 h_x3 h_x4 h_x6 h_x7 hc
    refine ⟨ret, er, ?_⟩
    exact (zs_sumw hr (fun v w => ⟨w.1, w.2⟩) (fun v w => w.elim))
  · skip
    have r3 := (zs_I_eqn c1)
    exact (zs_botne r3 h_x3 zlI_0 (by decide)).elim
-- BX9_claimOf_128
theorem zc_248 {σ0 : sn_S} {σ : sn_S} (h_σ : zs_M σ0 σ) {x1 : Int32} (h_x1 : zs_in x1.toInt 0 5) {x2 : Int32} (h_x2 : zs_in x2.toInt 0 5) {x3 : Int32} (h_x3 : zs_in x3.toInt 0 0) {x4 : Int32} (h_x4 : zs_in x4.toInt 0 1073741823) {x5 : Int32} {x6 : Int32} (h_x6 : zs_in x6.toInt 3 3) {x7 : Int32} (h_x7 : zs_in x7.toInt 0 2) {x8 : Int32} (h_x8 : zs_in x8.toInt 0 29) {t0 : Int32} (h_t0 : zs_in t0.toInt 1 1) {c : Int} (hc : x7.toInt = c + 0) : zs_ok (BX9_claimOf_128 σ x1 x2 x3 x4 x5 x6 x7 x8 t0) (fun r => zs_sum (fun v => ((zs_M σ0 v.1 ∧ (zs_in (v.2.1).toInt 0 1073741823 ∧ (True ∧ zs_in (v.2.2.2).toInt 1 3)))) ∧ v.2.2.2.toInt = c + 1) (fun v => False) r) := by
  unfold BX9_claimOf_128
  obtain rfl : x3 = (0 : Int32) := zs_eqv h_x3 (by decide)
  obtain rfl : x6 = (3 : Int32) := zs_eqv h_x6 (by decide)
  obtain rfl : t0 = (1 : Int32) := zs_eqv h_t0 (by decide)
  refine zs_ite (fun c1 => ?_) (fun c1 => ?_)
  · skip
    have r2 := (zs_I_eq c1)
    exact (zs_botr r2 h_t0 zlI_0 (by decide)).elim
  · skip
    have r3 := (zs_I_eqn c1)
    refine zs_bd_ (zc_242 h_σ h_x1 zlI_3) (fun t_4 pt_4 => ?_)
    obtain ⟨ret, er, hr⟩ := zc_247 h_σ h_x1 h_x2 h_x3 h_x4 h_x6 h_x7 h_x8 (zs_divI 0 49 pt_4 zlI_2 (by decide)) hc
    refine ⟨ret, er, ?_⟩
    exact (zs_sumw hr (fun v w => ⟨w.1, w.2⟩) (fun v w => w.elim))
-- BX9_claimOf_63
theorem zc_249 {σ0 : sn_S} {σ : sn_S} (h_σ : zs_M σ0 σ) {x1 : Int32} (h_x1 : zs_in x1.toInt 0 5) {x2 : Int32} (h_x2 : zs_in x2.toInt 0 5) {x3 : Int32} (h_x3 : zs_in x3.toInt 0 0) {x4 : Int32} (h_x4 : zs_in x4.toInt 0 1073741823) {x5 : Int32} {x6 : Int32} (h_x6 : zs_in x6.toInt 3 3) {x7 : Int32} (h_x7 : zs_in x7.toInt 0 3) {c : Int} (hc : x7.toInt = c + 0) : zs_ok (BX9_claimOf_63 σ x1 x2 x3 x4 x5 x6 x7) (fun r => zs_sum (fun v => ((zs_M σ0 v.1 ∧ (zs_in (v.2.1).toInt 0 1073741823 ∧ (True ∧ zs_in (v.2.2.2).toInt 1 3)))) ∧ v.2.2.2.toInt = c + 1) (fun v => (zs_M σ0 v.1 ∧ True)) r) := by
  unfold BX9_claimOf_63
  obtain rfl : x3 = (0 : Int32) := zs_eqv h_x3 (by decide)
  obtain rfl : x6 = (3 : Int32) := zs_eqv h_x6 (by decide)
  refine zs_ite (fun c1 => ?_) (fun c1 => ?_)
  · skip
    have r2 := (zs_I_le c1)
    have g3 : zs_in (x7).toInt 3 3 := (zs_ler 3 3 r2 h_x6 h_x7 (by decide))
    exact zs_some (zs_inr (⟨h_σ, trivial⟩))
  · skip
    have r4 := (zs_I_len c1)
    have g5 : zs_in (x7).toInt 0 2 := (zs_ltl 0 2 r4 h_x7 h_x6 (by decide))
    refine zs_ite (fun c6 => ?_) (fun c6 => ?_)
    · skip
      have r7 := (zs_I_eq c6)
      have g8 : zs_in (x4).toInt 0 0 := (zs_eql 0 0 r7 h_x4 zlI_0 (by decide))
      exact zs_some (zs_inr (⟨h_σ, trivial⟩))
    · skip
      have r9 := (zs_I_eqn c6)
      have g10 : zs_in (x4).toInt 1 1073741823 := (zs_nel 1 1073741823 r9 h_x4 zlI_0 (by decide))
      refine zs_bd_ (zo_fo1 (by decide) g10) (fun t_3 pt_3 => ?_)
      refine zs_lt (Q := fun z => zs_in z.toInt 0 1073741823) (zs_and2 g10 (by decide)) (fun y_5 hy_5 => ?_)
      refine zs_ite (fun c11 => ?_) (fun c11 => ?_)
      · skip
        have r12 := (zs_I_eq c11)
        have g13 : zs_in ((sn_I σ 0 20)).toInt 3 3 := (zs_eql 3 3 r12 (zs_topI _) zlI_3 (by decide))
        refine zs_gd (zs_gin h_x2 (by decide)) ?_
        refine zs_bd_ (zc_205 h_σ h_x1) (fun t_9 pt_9 => ?_)
        refine zs_bd_ (zc_241 pt_3) (fun t_11 pt_11 => ?_)
        refine zs_ite (fun c14 => ?_) (fun c14 => ?_)
        · skip
          have r15 := (zs_I_eq c14)
          have g16 : zs_in ((((sn_I σ 8 x2.toNatClampNeg) &&& t_9) &&& t_11)).toInt 0 0 := (zs_eql 0 0 r15 (zs_and pt_11 (by decide)) zlI_0 (by decide))
          obtain ⟨ret, er, hr⟩ := zc_246 h_σ h_x1 h_x2 h_x3 hy_5 h_x6 g5 pt_3 hc
          refine ⟨ret, er, ?_⟩
          exact (zs_sumw hr (fun v w => ⟨w.1, w.2⟩) (fun v w => w.elim))
        · skip
          have r17 := (zs_I_eqn c14)
          have g18 : zs_in ((((sn_I σ 8 x2.toNatClampNeg) &&& t_9) &&& t_11)).toInt 1 536870911 := (zs_nel 1 536870911 r17 (zs_and pt_11 (by decide)) zlI_0 (by decide))
          obtain ⟨ret, er, hr⟩ := zc_248 h_σ h_x1 h_x2 h_x3 hy_5 h_x6 g5 pt_3 zlI_1 hc
          refine ⟨ret, er, ?_⟩
          exact (zs_sumw hr (fun v w => ⟨w.1, w.2⟩) (fun v w => w.elim))
      · skip
        have r19 := (zs_I_eqn c11)
        obtain ⟨ret, er, hr⟩ := zc_246 h_σ h_x1 h_x2 h_x3 hy_5 h_x6 g5 pt_3 hc
        refine ⟨ret, er, ?_⟩
        exact (zs_sumw hr (fun v w => ⟨w.1, w.2⟩) (fun v w => w.elim))
theorem zd_40 {σ0 : sn_S} {x1 : Int32} (h_x1 : zs_in x1.toInt 0 5) {x2 : Int32} (h_x2 : zs_in x2.toInt 0 5) {x3 : Int32} (h_x3 : zs_in x3.toInt 0 0) {x6 : Int32} (h_x6 : zs_in x6.toInt 3 3) {s0 : (sn_S × (Int32 × (Int32 × Int32)))} (h0 : (zs_M σ0 s0.1 ∧ (zs_in (s0.2.1).toInt 0 1073741823 ∧ (True ∧ zs_in (s0.2.2.2).toInt 0 3)))) : zs_ok (sn_it (LX9_claimOf_63 x1 x2 x3 x6) 5000 s0) (fun t => (zs_M σ0 t.1 ∧ True)) := by
  refine zs_it (I := fun s => (zs_M σ0 s.1 ∧ (zs_in (s.2.1).toInt 0 1073741823 ∧ (True ∧ zs_in (s.2.2.2).toInt 0 3)))) (m := fun s => 3 - s.2.2.2.toInt) (fun s hs => ?_) (fun s hs => ?_) (by exact h0)
  · have h1 := hs.2.2.2; unfold zs_in at h1
    omega
  · obtain ⟨b, eb, hb⟩ := zc_249 hs.1 h_x1 h_x2 h_x3 hs.2.1 h_x6 hs.2.2.2 (c := s.2.2.2.toInt) (Int.add_zero _).symm
    exact ⟨b, eb, zs_sumw hb (fun v w => ⟨⟨w.1.1, ⟨w.1.2.1, ⟨w.1.2.2.1, (zs_w w.1.2.2.2 (by decide))⟩⟩⟩, by have := w.2; omega⟩) (fun v w => w)⟩
-- BX9_claimOf_183
theorem zc_250 {σ0 : sn_S} {σ : sn_S} (h_σ : zs_M σ0 σ) {x5 : Int32} : zs_ok (BX9_claimOf_183 σ x5) (fun r => (True ∧ zs_M σ0 r.2)) := by
  unfold BX9_claimOf_183
  exact zs_some ⟨trivial, h_σ⟩
-- BX9_claimOf_58
theorem zc_251 {σ0 : sn_S} {σ : sn_S} (h_σ : zs_M σ0 σ) {x1 : Int32} (h_x1 : zs_in x1.toInt 0 5) {x2 : Int32} (h_x2 : zs_in x2.toInt 0 5) {x3 : Int32} (h_x3 : zs_in x3.toInt 0 0) {x4 : Int32} (h_x4 : zs_in x4.toInt 0 1073741823) {x5 : Int32} (h_x5 : zs_in x5.toInt 0 0) {t0 : Int32} (h_t0 : zs_in t0.toInt 3 3) : zs_ok (BX9_claimOf_58 σ x1 x2 x3 x4 x5 t0) (fun r => (True ∧ zs_M σ0 r.2)) := by
  unfold BX9_claimOf_58
  obtain rfl : x3 = (0 : Int32) := zs_eqv h_x3 (by decide)
  obtain rfl : x5 = (0 : Int32) := zs_eqv h_x5 (by decide)
  obtain rfl : t0 = (3 : Int32) := zs_eqv h_t0 (by decide)
  refine zs_bd_ (zd_40 h_x1 h_x2 h_x3 h_t0 (s0 := (σ, (x4, ((0 : Int32), (0 : Int32))))) ⟨h_σ, ⟨h_x4, ⟨trivial, (zs_w zlI_0 (by decide))⟩⟩⟩) (fun t_1 pt_1 => ?_)
  obtain ⟨ret, er, hr⟩ := zc_250 pt_1.1
  refine ⟨ret, er, ?_⟩
  exact hr
-- BX9_claimOf_177
theorem zc_252 {σ0 : sn_S} {σ : sn_S} (h_σ : zs_M σ0 σ) {x1 : Int32} (h_x1 : zs_in x1.toInt 0 5) {x2 : Int32} (h_x2 : zs_in x2.toInt 0 5) {x3 : Int32} (h_x3 : zs_in x3.toInt 0 0) {x4 : Int32} (h_x4 : zs_in x4.toInt 0 1073741823) {x5 : Int32} {x6 : Int32} (h_x6 : zs_in x6.toInt 1 1) {x7 : Int32} (h_x7 : zs_in x7.toInt 0 0) {c : Int} (hc : x7.toInt = c + 0) : zs_ok (BX9_claimOf_177 σ x1 x2 x3 x4 x5 x6 x7) (fun r => zs_sum (fun v => ((zs_M σ0 v.1 ∧ (zs_in (v.2.1).toInt 0 1073741823 ∧ (True ∧ zs_in (v.2.2.2).toInt 1 1)))) ∧ v.2.2.2.toInt = c + 1) (fun v => False) r) := by
  unfold BX9_claimOf_177
  obtain rfl : x3 = (0 : Int32) := zs_eqv h_x3 (by decide)
  obtain rfl : x6 = (1 : Int32) := zs_eqv h_x6 (by decide)
  refine zs_lt (Q := fun z => zs_in z.toInt 1 1 ∧ z.toInt = c + 1) ⟨(zs_addI 1 1 h_x7 zlI_1 (by decide)), (zs_syI 1 hc h_x7 zlI_1 (by decide) (by decide))⟩ (fun y_1 hy_1 => ?_)
  exact zs_some (zs_inl ⟨⟨h_σ, ⟨h_x4, ⟨trivial, hy_1.1⟩⟩⟩, hy_1.2⟩)
-- BX9_claimOf_152
theorem zc_253 {σ0 : sn_S} {σ : sn_S} (h_σ : zs_M σ0 σ) {x1 : Int32} (h_x1 : zs_in x1.toInt 0 5) {x2 : Int32} (h_x2 : zs_in x2.toInt 0 5) {x3 : Int32} (h_x3 : zs_in x3.toInt 0 0) {x4 : Int32} (h_x4 : zs_in x4.toInt 0 1073741823) {x5 : Int32} {x6 : Int32} (h_x6 : zs_in x6.toInt 1 1) {x7 : Int32} (h_x7 : zs_in x7.toInt 0 0) {x8 : Int32} (h_x8 : zs_in x8.toInt 0 29) {t0 : Int32} (h_t0 : zs_in t0.toInt 0 99) {c : Int} (hc : x7.toInt = c + 0) : zs_ok (BX9_claimOf_152 σ x1 x2 x3 x4 x5 x6 x7 x8 t0) (fun r => zs_sum (fun v => ((zs_M σ0 v.1 ∧ (zs_in (v.2.1).toInt 0 1073741823 ∧ (True ∧ zs_in (v.2.2.2).toInt 1 1)))) ∧ v.2.2.2.toInt = c + 1) (fun v => False) r) := by
  unfold BX9_claimOf_152
  obtain rfl : x3 = (0 : Int32) := zs_eqv h_x3 (by decide)
  obtain rfl : x6 = (1 : Int32) := zs_eqv h_x6 (by decide)
  refine zs_lt (Q := fun z => True) trivial (fun y_1 hy_1 => ?_)
  refine zs_ite (fun c1 => ?_) (fun c1 => ?_)
  · skip
    have r2 := (zs_I_eq c1)
    obtain ⟨ret, er, hr⟩ := zc_252 h_σ h_x1 h_x2 h_x3 h_x4 h_x6 h_x7 hc
    refine ⟨ret, er, ?_⟩
    exact (zs_sumw hr (fun v w => ⟨w.1, w.2⟩) (fun v w => w.elim))
  · skip
    have r3 := (zs_I_eqn c1)
    exact (zs_botne r3 h_x3 zlI_0 (by decide)).elim
-- BX9_claimOf_128
theorem zc_254 {σ0 : sn_S} {σ : sn_S} (h_σ : zs_M σ0 σ) {x1 : Int32} (h_x1 : zs_in x1.toInt 0 5) {x2 : Int32} (h_x2 : zs_in x2.toInt 0 5) {x3 : Int32} (h_x3 : zs_in x3.toInt 0 0) {x4 : Int32} (h_x4 : zs_in x4.toInt 0 1073741823) {x5 : Int32} {x6 : Int32} (h_x6 : zs_in x6.toInt 1 1) {x7 : Int32} (h_x7 : zs_in x7.toInt 0 0) {x8 : Int32} (h_x8 : zs_in x8.toInt 0 29) {t0 : Int32} (h_t0 : zs_in t0.toInt 0 0) {c : Int} (hc : x7.toInt = c + 0) : zs_ok (BX9_claimOf_128 σ x1 x2 x3 x4 x5 x6 x7 x8 t0) (fun r => zs_sum (fun v => ((zs_M σ0 v.1 ∧ (zs_in (v.2.1).toInt 0 1073741823 ∧ (True ∧ zs_in (v.2.2.2).toInt 1 1)))) ∧ v.2.2.2.toInt = c + 1) (fun v => False) r) := by
  unfold BX9_claimOf_128
  obtain rfl : x3 = (0 : Int32) := zs_eqv h_x3 (by decide)
  obtain rfl : x6 = (1 : Int32) := zs_eqv h_x6 (by decide)
  obtain rfl : t0 = (0 : Int32) := zs_eqv h_t0 (by decide)
  refine zs_ite (fun c1 => ?_) (fun c1 => ?_)
  · skip
    have r2 := (zs_I_eq c1)
    refine zs_bd_ (zc_242 h_σ h_x1 zlI_3) (fun t_2 pt_2 => ?_)
    obtain ⟨ret, er, hr⟩ := zc_253 h_σ h_x1 h_x2 h_x3 h_x4 h_x6 h_x7 h_x8 pt_2 hc
    refine ⟨ret, er, ?_⟩
    exact (zs_sumw hr (fun v w => ⟨w.1, w.2⟩) (fun v w => w.elim))
  · skip
    have r3 := (zs_I_eqn c1)
    exact (zs_botne r3 h_t0 zlI_0 (by decide)).elim
-- BX9_claimOf_127
theorem zc_255 {σ0 : sn_S} {σ : sn_S} (h_σ : zs_M σ0 σ) {x1 : Int32} (h_x1 : zs_in x1.toInt 0 5) {x2 : Int32} (h_x2 : zs_in x2.toInt 0 5) {x3 : Int32} (h_x3 : zs_in x3.toInt 0 0) {x4 : Int32} (h_x4 : zs_in x4.toInt 0 1073741823) {x5 : Int32} {x6 : Int32} (h_x6 : zs_in x6.toInt 1 1) {x7 : Int32} (h_x7 : zs_in x7.toInt 0 0) {x8 : Int32} (h_x8 : zs_in x8.toInt 0 29) {c : Int} (hc : x7.toInt = c + 0) : zs_ok (BX9_claimOf_127 σ x1 x2 x3 x4 x5 x6 x7 x8) (fun r => zs_sum (fun v => ((zs_M σ0 v.1 ∧ (zs_in (v.2.1).toInt 0 1073741823 ∧ (True ∧ zs_in (v.2.2.2).toInt 1 1)))) ∧ v.2.2.2.toInt = c + 1) (fun v => False) r) := by
  unfold BX9_claimOf_127
  obtain rfl : x3 = (0 : Int32) := zs_eqv h_x3 (by decide)
  obtain rfl : x6 = (1 : Int32) := zs_eqv h_x6 (by decide)
  obtain ⟨ret, er, hr⟩ := zc_254 h_σ h_x1 h_x2 h_x3 h_x4 h_x6 h_x7 h_x8 zlI_0 hc
  refine ⟨ret, er, ?_⟩
  exact (zs_sumw hr (fun v w => ⟨w.1, w.2⟩) (fun v w => w.elim))
-- BX9_claimOf_152
theorem zc_256 {σ0 : sn_S} {σ : sn_S} (h_σ : zs_M σ0 σ) {x1 : Int32} (h_x1 : zs_in x1.toInt 0 5) {x2 : Int32} (h_x2 : zs_in x2.toInt 0 5) {x3 : Int32} (h_x3 : zs_in x3.toInt 0 0) {x4 : Int32} (h_x4 : zs_in x4.toInt 0 1073741823) {x5 : Int32} {x6 : Int32} (h_x6 : zs_in x6.toInt 1 1) {x7 : Int32} (h_x7 : zs_in x7.toInt 0 0) {x8 : Int32} (h_x8 : zs_in x8.toInt 0 29) {t0 : Int32} (h_t0 : zs_in t0.toInt 0 49) {c : Int} (hc : x7.toInt = c + 0) : zs_ok (BX9_claimOf_152 σ x1 x2 x3 x4 x5 x6 x7 x8 t0) (fun r => zs_sum (fun v => ((zs_M σ0 v.1 ∧ (zs_in (v.2.1).toInt 0 1073741823 ∧ (True ∧ zs_in (v.2.2.2).toInt 1 1)))) ∧ v.2.2.2.toInt = c + 1) (fun v => False) r) := by
  unfold BX9_claimOf_152
  obtain rfl : x3 = (0 : Int32) := zs_eqv h_x3 (by decide)
  obtain rfl : x6 = (1 : Int32) := zs_eqv h_x6 (by decide)
  refine zs_lt (Q := fun z => True) trivial (fun y_1 hy_1 => ?_)
  refine zs_ite (fun c1 => ?_) (fun c1 => ?_)
  · skip
    have r2 := (zs_I_eq c1)
    obtain ⟨ret, er, hr⟩ := zc_252 h_σ h_x1 h_x2 h_x3 h_x4 h_x6 h_x7 hc
    refine ⟨ret, er, ?_⟩
    exact (zs_sumw hr (fun v w => ⟨w.1, w.2⟩) (fun v w => w.elim))
  · skip
    have r3 := (zs_I_eqn c1)
    exact (zs_botne r3 h_x3 zlI_0 (by decide)).elim
-- BX9_claimOf_128
theorem zc_257 {σ0 : sn_S} {σ : sn_S} (h_σ : zs_M σ0 σ) {x1 : Int32} (h_x1 : zs_in x1.toInt 0 5) {x2 : Int32} (h_x2 : zs_in x2.toInt 0 5) {x3 : Int32} (h_x3 : zs_in x3.toInt 0 0) {x4 : Int32} (h_x4 : zs_in x4.toInt 0 1073741823) {x5 : Int32} {x6 : Int32} (h_x6 : zs_in x6.toInt 1 1) {x7 : Int32} (h_x7 : zs_in x7.toInt 0 0) {x8 : Int32} (h_x8 : zs_in x8.toInt 0 29) {t0 : Int32} (h_t0 : zs_in t0.toInt 1 1) {c : Int} (hc : x7.toInt = c + 0) : zs_ok (BX9_claimOf_128 σ x1 x2 x3 x4 x5 x6 x7 x8 t0) (fun r => zs_sum (fun v => ((zs_M σ0 v.1 ∧ (zs_in (v.2.1).toInt 0 1073741823 ∧ (True ∧ zs_in (v.2.2.2).toInt 1 1)))) ∧ v.2.2.2.toInt = c + 1) (fun v => False) r) := by
  unfold BX9_claimOf_128
  obtain rfl : x3 = (0 : Int32) := zs_eqv h_x3 (by decide)
  obtain rfl : x6 = (1 : Int32) := zs_eqv h_x6 (by decide)
  obtain rfl : t0 = (1 : Int32) := zs_eqv h_t0 (by decide)
  refine zs_ite (fun c1 => ?_) (fun c1 => ?_)
  · skip
    have r2 := (zs_I_eq c1)
    exact (zs_botr r2 h_t0 zlI_0 (by decide)).elim
  · skip
    have r3 := (zs_I_eqn c1)
    refine zs_bd_ (zc_242 h_σ h_x1 zlI_3) (fun t_4 pt_4 => ?_)
    obtain ⟨ret, er, hr⟩ := zc_256 h_σ h_x1 h_x2 h_x3 h_x4 h_x6 h_x7 h_x8 (zs_divI 0 49 pt_4 zlI_2 (by decide)) hc
    refine ⟨ret, er, ?_⟩
    exact (zs_sumw hr (fun v w => ⟨w.1, w.2⟩) (fun v w => w.elim))
-- BX9_claimOf_63
theorem zc_258 {σ0 : sn_S} {σ : sn_S} (h_σ : zs_M σ0 σ) {x1 : Int32} (h_x1 : zs_in x1.toInt 0 5) {x2 : Int32} (h_x2 : zs_in x2.toInt 0 5) {x3 : Int32} (h_x3 : zs_in x3.toInt 0 0) {x4 : Int32} (h_x4 : zs_in x4.toInt 0 1073741823) {x5 : Int32} {x6 : Int32} (h_x6 : zs_in x6.toInt 1 1) {x7 : Int32} (h_x7 : zs_in x7.toInt 0 1) {c : Int} (hc : x7.toInt = c + 0) : zs_ok (BX9_claimOf_63 σ x1 x2 x3 x4 x5 x6 x7) (fun r => zs_sum (fun v => ((zs_M σ0 v.1 ∧ (zs_in (v.2.1).toInt 0 1073741823 ∧ (True ∧ zs_in (v.2.2.2).toInt 1 1)))) ∧ v.2.2.2.toInt = c + 1) (fun v => (zs_M σ0 v.1 ∧ True)) r) := by
  unfold BX9_claimOf_63
  obtain rfl : x3 = (0 : Int32) := zs_eqv h_x3 (by decide)
  obtain rfl : x6 = (1 : Int32) := zs_eqv h_x6 (by decide)
  refine zs_ite (fun c1 => ?_) (fun c1 => ?_)
  · skip
    have r2 := (zs_I_le c1)
    have g3 : zs_in (x7).toInt 1 1 := (zs_ler 1 1 r2 h_x6 h_x7 (by decide))
    exact zs_some (zs_inr (⟨h_σ, trivial⟩))
  · skip
    have r4 := (zs_I_len c1)
    have g5 : zs_in (x7).toInt 0 0 := (zs_ltl 0 0 r4 h_x7 h_x6 (by decide))
    refine zs_ite (fun c6 => ?_) (fun c6 => ?_)
    · skip
      have r7 := (zs_I_eq c6)
      have g8 : zs_in (x4).toInt 0 0 := (zs_eql 0 0 r7 h_x4 zlI_0 (by decide))
      exact zs_some (zs_inr (⟨h_σ, trivial⟩))
    · skip
      have r9 := (zs_I_eqn c6)
      have g10 : zs_in (x4).toInt 1 1073741823 := (zs_nel 1 1073741823 r9 h_x4 zlI_0 (by decide))
      refine zs_bd_ (zo_fo1 (by decide) g10) (fun t_3 pt_3 => ?_)
      refine zs_lt (Q := fun z => zs_in z.toInt 0 1073741823) (zs_and2 g10 (by decide)) (fun y_5 hy_5 => ?_)
      refine zs_ite (fun c11 => ?_) (fun c11 => ?_)
      · skip
        have r12 := (zs_I_eq c11)
        have g13 : zs_in ((sn_I σ 0 20)).toInt 3 3 := (zs_eql 3 3 r12 (zs_topI _) zlI_3 (by decide))
        refine zs_gd (zs_gin h_x2 (by decide)) ?_
        refine zs_bd_ (zc_205 h_σ h_x1) (fun t_9 pt_9 => ?_)
        refine zs_bd_ (zc_241 pt_3) (fun t_11 pt_11 => ?_)
        refine zs_ite (fun c14 => ?_) (fun c14 => ?_)
        · skip
          have r15 := (zs_I_eq c14)
          have g16 : zs_in ((((sn_I σ 8 x2.toNatClampNeg) &&& t_9) &&& t_11)).toInt 0 0 := (zs_eql 0 0 r15 (zs_and pt_11 (by decide)) zlI_0 (by decide))
          obtain ⟨ret, er, hr⟩ := zc_255 h_σ h_x1 h_x2 h_x3 hy_5 h_x6 g5 pt_3 hc
          refine ⟨ret, er, ?_⟩
          exact (zs_sumw hr (fun v w => ⟨w.1, w.2⟩) (fun v w => w.elim))
        · skip
          have r17 := (zs_I_eqn c14)
          have g18 : zs_in ((((sn_I σ 8 x2.toNatClampNeg) &&& t_9) &&& t_11)).toInt 1 536870911 := (zs_nel 1 536870911 r17 (zs_and pt_11 (by decide)) zlI_0 (by decide))
          obtain ⟨ret, er, hr⟩ := zc_257 h_σ h_x1 h_x2 h_x3 hy_5 h_x6 g5 pt_3 zlI_1 hc
          refine ⟨ret, er, ?_⟩
          exact (zs_sumw hr (fun v w => ⟨w.1, w.2⟩) (fun v w => w.elim))
      · skip
        have r19 := (zs_I_eqn c11)
        obtain ⟨ret, er, hr⟩ := zc_255 h_σ h_x1 h_x2 h_x3 hy_5 h_x6 g5 pt_3 hc
        refine ⟨ret, er, ?_⟩
        exact (zs_sumw hr (fun v w => ⟨w.1, w.2⟩) (fun v w => w.elim))
theorem zd_41 {σ0 : sn_S} {x1 : Int32} (h_x1 : zs_in x1.toInt 0 5) {x2 : Int32} (h_x2 : zs_in x2.toInt 0 5) {x3 : Int32} (h_x3 : zs_in x3.toInt 0 0) {x6 : Int32} (h_x6 : zs_in x6.toInt 1 1) {s0 : (sn_S × (Int32 × (Int32 × Int32)))} (h0 : (zs_M σ0 s0.1 ∧ (zs_in (s0.2.1).toInt 0 1073741823 ∧ (True ∧ zs_in (s0.2.2.2).toInt 0 1)))) : zs_ok (sn_it (LX9_claimOf_63 x1 x2 x3 x6) 5000 s0) (fun t => (zs_M σ0 t.1 ∧ True)) := by
  refine zs_it (I := fun s => (zs_M σ0 s.1 ∧ (zs_in (s.2.1).toInt 0 1073741823 ∧ (True ∧ zs_in (s.2.2.2).toInt 0 1)))) (m := fun s => 1 - s.2.2.2.toInt) (fun s hs => ?_) (fun s hs => ?_) (by exact h0)
  · have h1 := hs.2.2.2; unfold zs_in at h1
    omega
  · obtain ⟨b, eb, hb⟩ := zc_258 hs.1 h_x1 h_x2 h_x3 hs.2.1 h_x6 hs.2.2.2 (c := s.2.2.2.toInt) (Int.add_zero _).symm
    exact ⟨b, eb, zs_sumw hb (fun v w => ⟨⟨w.1.1, ⟨w.1.2.1, ⟨w.1.2.2.1, (zs_w w.1.2.2.2 (by decide))⟩⟩⟩, by have := w.2; omega⟩) (fun v w => w)⟩
-- BX9_claimOf_58
theorem zc_259 {σ0 : sn_S} {σ : sn_S} (h_σ : zs_M σ0 σ) {x1 : Int32} (h_x1 : zs_in x1.toInt 0 5) {x2 : Int32} (h_x2 : zs_in x2.toInt 0 5) {x3 : Int32} (h_x3 : zs_in x3.toInt 0 0) {x4 : Int32} (h_x4 : zs_in x4.toInt 0 1073741823) {x5 : Int32} (h_x5 : zs_in x5.toInt 0 0) {t0 : Int32} (h_t0 : zs_in t0.toInt 1 1) : zs_ok (BX9_claimOf_58 σ x1 x2 x3 x4 x5 t0) (fun r => (True ∧ zs_M σ0 r.2)) := by
  unfold BX9_claimOf_58
  obtain rfl : x3 = (0 : Int32) := zs_eqv h_x3 (by decide)
  obtain rfl : x5 = (0 : Int32) := zs_eqv h_x5 (by decide)
  obtain rfl : t0 = (1 : Int32) := zs_eqv h_t0 (by decide)
  refine zs_bd_ (zd_41 h_x1 h_x2 h_x3 h_t0 (s0 := (σ, (x4, ((0 : Int32), (0 : Int32))))) ⟨h_σ, ⟨h_x4, ⟨trivial, (zs_w zlI_0 (by decide))⟩⟩⟩) (fun t_1 pt_1 => ?_)
  obtain ⟨ret, er, hr⟩ := zc_250 pt_1.1
  refine ⟨ret, er, ?_⟩
  exact hr
-- BX9_claimOf_33
theorem zc_260 {σ0 : sn_S} {σ : sn_S} (h_σ : zs_M σ0 σ) {x1 : Int32} (h_x1 : zs_in x1.toInt 0 5) {x2 : Int32} (h_x2 : zs_in x2.toInt 0 5) {x3 : Int32} (h_x3 : zs_in x3.toInt 0 0) {x4 : Int32} (h_x4 : zs_in x4.toInt 0 1073741823) : zs_ok (BX9_claimOf_33 σ x1 x2 x3 x4) (fun r => (True ∧ zs_M σ0 r.2)) := by
  unfold BX9_claimOf_33
  obtain rfl : x3 = (0 : Int32) := zs_eqv h_x3 (by decide)
  refine zs_bd_ (zo_fot2 h_x4) (fun t_1 pt_1 => ?_)
  refine zs_lt (Q := fun z => zs_M σ0 z) (zs_wrkt h_σ rfl rfl) (fun σ_3 hσ_3 => ?_)
  refine zs_ite (fun c1 => ?_) (fun c1 => ?_)
  · skip
    have r2 := (zs_I_eq c1)
    have g3 : zs_in ((sn_I σ_3 0 20)).toInt 2 2 := (zs_eql 2 2 r2 (zs_topI _) zlI_2 (by decide))
    obtain ⟨ret, er, hr⟩ := zc_251 hσ_3 h_x1 h_x2 h_x3 h_x4 zlI_0 zlI_3
    refine ⟨ret, er, ?_⟩
    exact hr
  · skip
    have r4 := (zs_I_eqn c1)
    obtain ⟨ret, er, hr⟩ := zc_259 hσ_3 h_x1 h_x2 h_x3 h_x4 zlI_0 zlI_1
    refine ⟨ret, er, ?_⟩
    exact hr
-- fX9_claimOf
theorem zc_261 {σ0 : sn_S} {σ : sn_S} (h_σ : zs_M σ0 σ) {x1 : Int32} (h_x1 : zs_in x1.toInt 0 5) {x2 : Int32} (h_x2 : zs_in x2.toInt 0 5) {x3 : Int32} (h_x3 : zs_in x3.toInt 0 0) : zs_ok (fX9_claimOf σ x1 x2 x3) (fun r => (True ∧ zs_M σ0 r.2)) := by
  unfold fX9_claimOf
  obtain rfl : x3 = (0 : Int32) := zs_eqv h_x3 (by decide)
  refine zs_gd (zs_gin h_x2 (by decide)) ?_
  refine zs_bd_ (zc_205 h_σ h_x1) (fun t_2 pt_2 => ?_)
  refine zs_lt (Q := fun z => zs_in z.toInt 0 1073741823) (zs_and pt_2 (by decide)) (fun y_4 hy_4 => ?_)
  refine zs_ite (fun c1 => ?_) (fun c1 => ?_)
  · skip
    have r2 := (zs_I_eq c1)
    have g3 : zs_in ((sn_I σ 0 20)).toInt 1 1 := (zs_eql 1 1 r2 (zs_topI _) zlI_1 (by decide))
    refine zs_lt (Q := fun z => zs_in z.toInt 0 1073741823) (zs_and2 hy_4 (by decide)) (fun y_7 hy_7 => ?_)
    obtain ⟨ret, er, hr⟩ := zc_260 h_σ h_x1 h_x2 h_x3 hy_7
    refine ⟨ret, er, ?_⟩
    exact hr
  · skip
    have r4 := (zs_I_eqn c1)
    obtain ⟨ret, er, hr⟩ := zc_260 h_σ h_x1 h_x2 h_x3 hy_4
    refine ⟨ret, er, ?_⟩
    exact hr
-- fX9_claimOf_
theorem zc_262 {σ0 : sn_S} {σ : sn_S} (h_σ : zs_M σ0 σ) {x1 : Int32} (h_x1 : zs_in x1.toInt 0 5) : zs_ok (fX9_claimOf_ σ x1) (fun r => (True ∧ zs_M σ0 r.2)) := by
  unfold fX9_claimOf_
  refine zs_bd_ (zc_200 h_σ h_x1 zlI_0) (fun t_1 pt_1 => ?_)
  refine zs_bd_ (zc_261 h_σ h_x1 pt_1 zlI_0) (fun t_3 pt_3 => ?_)
  exact zs_some ⟨trivial, pt_3.2⟩
-- fX9_profit
theorem zc_263 {σ0 : sn_S} {σ : sn_S} (h_σ : zs_M σ0 σ) {x1 : Int32} : zs_ok (fX9_profit σ x1) (fun r => (True ∧ zs_M σ0 r.2)) := by
  unfold fX9_profit
  refine zs_bd_ (zc_239 h_σ) (fun t_1 pt_1 => ?_)
  refine zs_ite (fun c1 => ?_) (fun c1 => ?_)
  · skip
    have r2 := (zs_I_eq c1)
    have g3 : zs_in (t_1.1).toInt 0 0 := (zs_eql 0 0 r2 pt_1.1.1 zlI_0 (by decide))
    exact zs_some ⟨trivial, pt_1.1.2⟩
  · skip
    have r4 := (zs_I_eqn c1)
    have g5 : zs_in (t_1.1).toInt 1 1 := (zs_nel 1 1 r4 pt_1.1.1 zlI_0 (by decide))
    have q6 := (zs_or2 pt_1.2 g5 (by decide))
    have g7 : zs_in (x1).toInt 0 5 := q6
    refine zs_bd_ (zc_240 pt_1.1.2 g7 zlI_4) (fun t_4 pt_4 => ?_)
    refine zs_bd_ (zc_262 pt_1.1.2 g7) (fun t_6 pt_6 => ?_)
    exact zs_some ⟨trivial, pt_6.2⟩
-- BX3_moneyAt_44
theorem zc_264 {σ0 : sn_S} {σ : sn_S} (h_σ : zs_C σ0 σ) {x1 : Int32} (h_x1 : zs_in x1.toInt 1 29) {x2 : Int32} {x3 : Int32} (h_x3 : zs_in x3.toInt 0 5) {c : Int} (hc : x3.toInt = c + 0) : zs_ok (BX3_moneyAt_44 σ 49 x1 x2 x3) (fun r => zs_sum (fun v => ((True ∧ zs_in (v.2).toInt 1 6)) ∧ v.2.toInt = c + 1) (fun v => False) r) := by
  unfold BX3_moneyAt_44
  refine zs_lt (Q := fun z => zs_in z.toInt 1 6 ∧ z.toInt = c + 1) ⟨(zs_addI 1 6 h_x3 zlI_1 (by decide)), (zs_syI 1 hc h_x3 zlI_1 (by decide) (by decide))⟩ (fun y_1 hy_1 => ?_)
  exact zs_some (zs_inl ⟨⟨trivial, hy_1.1⟩, hy_1.2⟩)
-- BX3_moneyAt_7
theorem zc_265 {σ0 : sn_S} {σ : sn_S} (h_σ : zs_C σ0 σ) {x1 : Int32} (h_x1 : zs_in x1.toInt 1 29) {x2 : Int32} {x3 : Int32} (h_x3 : zs_in x3.toInt 0 6) {c : Int} (hc : x3.toInt = c + 0) : zs_ok (BX3_moneyAt_7 σ 49 x1 x2 x3) (fun r => zs_sum (fun v => ((True ∧ zs_in (v.2).toInt 1 6)) ∧ v.2.toInt = c + 1) (fun v => True) r) := by
  unfold BX3_moneyAt_7
  refine zs_ite (fun c1 => ?_) (fun c1 => ?_)
  · skip
    have r2 := (zs_I_le c1)
    exact zs_some (zs_inr (trivial))
  · skip
    have r3 := (zs_I_len c1)
    have g4 : zs_in (x3).toInt 0 5 := (zs_ltl 0 5 r3 h_x3 (zs_rdk (q := 49) (k := 2) (z := (0, 6)) h_σ.1 rfl) (by decide))
    have g5 : zs_in ((sn_I σ 49 2)).toInt 1 6 := (zs_ltr 1 6 r3 h_x3 (zs_rdk (q := 49) (k := 2) (z := (0, 6)) h_σ.1 rfl) (by decide))
    refine zs_gd (zs_gin g4 (by decide)) ?_
    refine zs_ite (fun c6 => ?_) (fun c6 => ?_)
    · skip
      have r7 := (zs_I_eq c6)
      have g8 : zs_in ((sn_I σ (49 + 2) x3.toNatClampNeg)).toInt (-1) (-1) := (zs_eql (-1) (-1) r7 (zs_rdu (q := 51) (z := ((-1), 63)) h_σ.1 (fun _ => rfl)) zlI_m1 (by decide))
      obtain ⟨ret, er, hr⟩ := zc_264 h_σ h_x1 g4 hc
      refine ⟨ret, er, ?_⟩
      exact (zs_sumw hr (fun v w => ⟨w.1, w.2⟩) (fun v w => w.elim))
    · skip
      have r9 := (zs_I_eqn c6)
      have g10 : zs_in ((sn_I σ (49 + 2) x3.toNatClampNeg)).toInt 0 63 := (zs_nel 0 63 r9 (zs_rdu (q := 51) (z := ((-1), 63)) h_σ.1 (fun _ => rfl)) zlI_m1 (by decide))
      refine zs_gd (zs_gin g4 (by decide)) ?_
      refine zs_ite (fun c11 => ?_) (fun c11 => ?_)
      · skip
        have r12 := (zs_I_lt c11)
        have g13 : zs_in ((sn_I σ (49 + 2) x3.toNatClampNeg)).toInt 2 63 := (zs_ltr 2 63 r12 h_x1 g10 (by decide))
        obtain ⟨ret, er, hr⟩ := zc_264 h_σ h_x1 g4 hc
        refine ⟨ret, er, ?_⟩
        exact (zs_sumw hr (fun v w => ⟨w.1, w.2⟩) (fun v w => w.elim))
      · skip
        have r14 := (zs_I_ltn c11)
        have g15 : zs_in ((sn_I σ (49 + 2) x3.toNatClampNeg)).toInt 0 29 := (zs_lel 0 29 r14 g10 h_x1 (by decide))
        refine zs_gd (zs_gin g4 (by decide)) ?_
        refine zs_lt (Q := fun z => True) trivial (fun y_7 hy_7 => ?_)
        obtain ⟨ret, er, hr⟩ := zc_264 h_σ h_x1 g4 hc
        refine ⟨ret, er, ?_⟩
        exact (zs_sumw hr (fun v w => ⟨w.1, w.2⟩) (fun v w => w.elim))
theorem zd_42 {σ0 : sn_S} {σ : sn_S} (h_σ : zs_C σ0 σ) {x1 : Int32} (h_x1 : zs_in x1.toInt 1 29) {s0 : (Int32 × Int32)} (h0 : (True ∧ zs_in (s0.2).toInt 0 6)) : zs_ok (sn_it (LX3_moneyAt_7 σ 49 x1) 5000 s0) (fun t => True) := by
  refine zs_it (I := fun s => (True ∧ zs_in (s.2).toInt 0 6)) (m := fun s => 6 - s.2.toInt) (fun s hs => ?_) (fun s hs => ?_) (by exact h0)
  · have h1 := hs.2; unfold zs_in at h1
    omega
  · obtain ⟨b, eb, hb⟩ := zc_265 h_σ h_x1 hs.2 (c := s.2.toInt) (Int.add_zero _).symm
    exact ⟨b, eb, zs_sumw hb (fun v w => ⟨⟨w.1.1, (zs_w w.1.2 (by decide))⟩, by have := w.2; omega⟩) (fun v w => w)⟩
-- BX3_moneyAt_50
theorem zc_266 {σ0 : sn_S} {σ : sn_S} (h_σ : zs_C σ0 σ) {x2 : Int32} : zs_ok (BX3_moneyAt_50 σ 49 x2) (fun r => True) := by
  unfold BX3_moneyAt_50
  exact zs_some trivial
-- fX3_moneyAt
theorem zc_267 {σ0 : sn_S} {σ : sn_S} (h_σ : zs_C σ0 σ) {x1 : Int32} (h_x1 : zs_in x1.toInt 1 29) : zs_ok (fX3_moneyAt σ 49 x1) (fun r => True) := by
  unfold fX3_moneyAt
  refine zs_lt (Q := fun z => True) trivial (fun y_1 hy_1 => ?_)
  refine zs_bd_ (zd_42 h_σ h_x1 (s0 := (y_1, (0 : Int32))) ⟨trivial, (zs_w zlI_0 (by decide))⟩) (fun t_3 pt_3 => ?_)
  obtain ⟨ret, er, hr⟩ := zc_266 h_σ
  refine ⟨ret, er, ?_⟩
  exact hr
-- BX3_moneyAt_44
theorem zc_268 {σ0 : sn_S} {σ : sn_S} (h_σ : zs_C σ0 σ) {x1 : Int32} (h_x1 : zs_in x1.toInt 0 29) {x2 : Int32} {x3 : Int32} (h_x3 : zs_in x3.toInt 0 5) {c : Int} (hc : x3.toInt = c + 0) : zs_ok (BX3_moneyAt_44 σ 49 x1 x2 x3) (fun r => zs_sum (fun v => ((True ∧ zs_in (v.2).toInt 1 6)) ∧ v.2.toInt = c + 1) (fun v => False) r) := by
  unfold BX3_moneyAt_44
  refine zs_lt (Q := fun z => zs_in z.toInt 1 6 ∧ z.toInt = c + 1) ⟨(zs_addI 1 6 h_x3 zlI_1 (by decide)), (zs_syI 1 hc h_x3 zlI_1 (by decide) (by decide))⟩ (fun y_1 hy_1 => ?_)
  exact zs_some (zs_inl ⟨⟨trivial, hy_1.1⟩, hy_1.2⟩)
-- BX3_moneyAt_7
theorem zc_269 {σ0 : sn_S} {σ : sn_S} (h_σ : zs_C σ0 σ) {x1 : Int32} (h_x1 : zs_in x1.toInt 0 29) {x2 : Int32} {x3 : Int32} (h_x3 : zs_in x3.toInt 0 6) {c : Int} (hc : x3.toInt = c + 0) : zs_ok (BX3_moneyAt_7 σ 49 x1 x2 x3) (fun r => zs_sum (fun v => ((True ∧ zs_in (v.2).toInt 1 6)) ∧ v.2.toInt = c + 1) (fun v => True) r) := by
  unfold BX3_moneyAt_7
  refine zs_ite (fun c1 => ?_) (fun c1 => ?_)
  · skip
    have r2 := (zs_I_le c1)
    exact zs_some (zs_inr (trivial))
  · skip
    have r3 := (zs_I_len c1)
    have g4 : zs_in (x3).toInt 0 5 := (zs_ltl 0 5 r3 h_x3 (zs_rdk (q := 49) (k := 2) (z := (0, 6)) h_σ.1 rfl) (by decide))
    have g5 : zs_in ((sn_I σ 49 2)).toInt 1 6 := (zs_ltr 1 6 r3 h_x3 (zs_rdk (q := 49) (k := 2) (z := (0, 6)) h_σ.1 rfl) (by decide))
    refine zs_gd (zs_gin g4 (by decide)) ?_
    refine zs_ite (fun c6 => ?_) (fun c6 => ?_)
    · skip
      have r7 := (zs_I_eq c6)
      have g8 : zs_in ((sn_I σ (49 + 2) x3.toNatClampNeg)).toInt (-1) (-1) := (zs_eql (-1) (-1) r7 (zs_rdu (q := 51) (z := ((-1), 63)) h_σ.1 (fun _ => rfl)) zlI_m1 (by decide))
      obtain ⟨ret, er, hr⟩ := zc_268 h_σ h_x1 g4 hc
      refine ⟨ret, er, ?_⟩
      exact (zs_sumw hr (fun v w => ⟨w.1, w.2⟩) (fun v w => w.elim))
    · skip
      have r9 := (zs_I_eqn c6)
      have g10 : zs_in ((sn_I σ (49 + 2) x3.toNatClampNeg)).toInt 0 63 := (zs_nel 0 63 r9 (zs_rdu (q := 51) (z := ((-1), 63)) h_σ.1 (fun _ => rfl)) zlI_m1 (by decide))
      refine zs_gd (zs_gin g4 (by decide)) ?_
      refine zs_ite (fun c11 => ?_) (fun c11 => ?_)
      · skip
        have r12 := (zs_I_lt c11)
        have g13 : zs_in ((sn_I σ (49 + 2) x3.toNatClampNeg)).toInt 1 63 := (zs_ltr 1 63 r12 h_x1 g10 (by decide))
        obtain ⟨ret, er, hr⟩ := zc_268 h_σ h_x1 g4 hc
        refine ⟨ret, er, ?_⟩
        exact (zs_sumw hr (fun v w => ⟨w.1, w.2⟩) (fun v w => w.elim))
      · skip
        have r14 := (zs_I_ltn c11)
        have g15 : zs_in ((sn_I σ (49 + 2) x3.toNatClampNeg)).toInt 0 29 := (zs_lel 0 29 r14 g10 h_x1 (by decide))
        refine zs_gd (zs_gin g4 (by decide)) ?_
        refine zs_lt (Q := fun z => True) trivial (fun y_7 hy_7 => ?_)
        obtain ⟨ret, er, hr⟩ := zc_268 h_σ h_x1 g4 hc
        refine ⟨ret, er, ?_⟩
        exact (zs_sumw hr (fun v w => ⟨w.1, w.2⟩) (fun v w => w.elim))
theorem zd_43 {σ0 : sn_S} {σ : sn_S} (h_σ : zs_C σ0 σ) {x1 : Int32} (h_x1 : zs_in x1.toInt 0 29) {s0 : (Int32 × Int32)} (h0 : (True ∧ zs_in (s0.2).toInt 0 6)) : zs_ok (sn_it (LX3_moneyAt_7 σ 49 x1) 5000 s0) (fun t => True) := by
  refine zs_it (I := fun s => (True ∧ zs_in (s.2).toInt 0 6)) (m := fun s => 6 - s.2.toInt) (fun s hs => ?_) (fun s hs => ?_) (by exact h0)
  · have h1 := hs.2; unfold zs_in at h1
    omega
  · obtain ⟨b, eb, hb⟩ := zc_269 h_σ h_x1 hs.2 (c := s.2.toInt) (Int.add_zero _).symm
    exact ⟨b, eb, zs_sumw hb (fun v w => ⟨⟨w.1.1, (zs_w w.1.2 (by decide))⟩, by have := w.2; omega⟩) (fun v w => w)⟩
-- fX3_moneyAt
theorem zc_270 {σ0 : sn_S} {σ : sn_S} (h_σ : zs_C σ0 σ) {x1 : Int32} (h_x1 : zs_in x1.toInt 0 29) : zs_ok (fX3_moneyAt σ 49 x1) (fun r => True) := by
  unfold fX3_moneyAt
  refine zs_lt (Q := fun z => True) trivial (fun y_1 hy_1 => ?_)
  refine zs_bd_ (zd_43 h_σ h_x1 (s0 := (y_1, (0 : Int32))) ⟨trivial, (zs_w zlI_0 (by decide))⟩) (fun t_3 pt_3 => ?_)
  obtain ⟨ret, er, hr⟩ := zc_266 h_σ
  refine ⟨ret, er, ?_⟩
  exact hr
-- BX3_poorestMinute_24
theorem zc_271 {σ0 : sn_S} {σ : sn_S} (h_σ : zs_C σ0 σ) {x1 : Int32} (h_x1 : zs_in x1.toInt 2 30) {x2 : Int32} (h_x2 : zs_in x2.toInt 0 29) {x3 : Int32} (h_x3 : zs_in x3.toInt 1 29) {c : Int} (hc : x3.toInt = c + 0) : zs_ok (BX3_poorestMinute_24 σ 49 x1 x2 x3) (fun r => zs_sum (fun v => ((zs_in (v.1).toInt 0 29 ∧ zs_in (v.2).toInt 2 30)) ∧ v.2.toInt = c + 1) (fun v => False) r) := by
  unfold BX3_poorestMinute_24
  refine zs_lt (Q := fun z => zs_in z.toInt 2 30 ∧ z.toInt = c + 1) ⟨(zs_addI 2 30 h_x3 zlI_1 (by decide)), (zs_syI 1 hc h_x3 zlI_1 (by decide) (by decide))⟩ (fun y_1 hy_1 => ?_)
  exact zs_some (zs_inl ⟨⟨h_x2, hy_1.1⟩, hy_1.2⟩)
-- BX3_poorestMinute_24
theorem zc_272 {σ0 : sn_S} {σ : sn_S} (h_σ : zs_C σ0 σ) {x1 : Int32} (h_x1 : zs_in x1.toInt 2 30) {x2 : Int32} (h_x2 : zs_in x2.toInt 1 29) {x3 : Int32} (h_x3 : zs_in x3.toInt 1 29) {c : Int} (hc : x3.toInt = c + 0) : zs_ok (BX3_poorestMinute_24 σ 49 x1 x2 x3) (fun r => zs_sum (fun v => ((zs_in (v.1).toInt 1 29 ∧ zs_in (v.2).toInt 2 30)) ∧ v.2.toInt = c + 1) (fun v => False) r) := by
  unfold BX3_poorestMinute_24
  refine zs_lt (Q := fun z => zs_in z.toInt 2 30 ∧ z.toInt = c + 1) ⟨(zs_addI 2 30 h_x3 zlI_1 (by decide)), (zs_syI 1 hc h_x3 zlI_1 (by decide) (by decide))⟩ (fun y_1 hy_1 => ?_)
  exact zs_some (zs_inl ⟨⟨h_x2, hy_1.1⟩, hy_1.2⟩)
-- BX3_poorestMinute_4
theorem zc_273 {σ0 : sn_S} {σ : sn_S} (h_σ : zs_C σ0 σ) {x1 : Int32} (h_x1 : zs_in x1.toInt 0 30) {x2 : Int32} (h_x2 : zs_in x2.toInt 0 29) {x3 : Int32} (h_x3 : zs_in x3.toInt 1 30) {c : Int} (hc : x3.toInt = c + 0) : zs_ok (BX3_poorestMinute_4 σ 49 x1 x2 x3) (fun r => zs_sum (fun v => ((zs_in (v.1).toInt 0 29 ∧ zs_in (v.2).toInt 2 30)) ∧ v.2.toInt = c + 1) (fun v => zs_in (v).toInt 0 29) r) := by
  unfold BX3_poorestMinute_4
  refine zs_ite (fun c1 => ?_) (fun c1 => ?_)
  · skip
    have r2 := (zs_I_le c1)
    exact zs_some (zs_inr (h_x2))
  · skip
    have r3 := (zs_I_len c1)
    have g4 : zs_in (x3).toInt 1 29 := (zs_ltl 1 29 r3 h_x3 h_x1 (by decide))
    have g5 : zs_in (x1).toInt 2 30 := (zs_ltr 2 30 r3 h_x3 h_x1 (by decide))
    refine zs_bd_ (zc_267 h_σ g4) (fun t_2 pt_2 => ?_)
    refine zs_bd_ (zc_270 h_σ h_x2) (fun t_4 pt_4 => ?_)
    refine zs_ite (fun c6 => ?_) (fun c6 => ?_)
    · skip
      have r7 := (zs_I_le c6)
      obtain ⟨ret, er, hr⟩ := zc_271 h_σ g5 h_x2 g4 hc
      refine ⟨ret, er, ?_⟩
      exact (zs_sumw hr (fun v w => ⟨w.1, w.2⟩) (fun v w => w.elim))
    · skip
      have r8 := (zs_I_len c6)
      have g9 : zs_in (t_2).toInt (-2147483648) 2147483646 := (zs_ltl (-2147483648) 2147483646 r8 (zs_topI _) (zs_topI _) (by decide))
      have g10 : zs_in (t_4).toInt (-2147483647) 2147483647 := (zs_ltr (-2147483647) 2147483647 r8 (zs_topI _) (zs_topI _) (by decide))
      obtain ⟨ret, er, hr⟩ := zc_272 h_σ g5 g4 g4 hc
      refine ⟨ret, er, ?_⟩
      exact (zs_sumw hr (fun v w => ⟨⟨(zs_w w.1.1 (by decide)), w.1.2⟩, w.2⟩) (fun v w => w.elim))
theorem zd_44 {σ0 : sn_S} {σ : sn_S} (h_σ : zs_C σ0 σ) {x1 : Int32} (h_x1 : zs_in x1.toInt 0 30) {s0 : (Int32 × Int32)} (h0 : (zs_in (s0.1).toInt 0 29 ∧ zs_in (s0.2).toInt 1 30)) : zs_ok (sn_it (LX3_poorestMinute_4 σ 49 x1) 5000 s0) (fun t => zs_in (t).toInt 0 29) := by
  refine zs_it (I := fun s => (zs_in (s.1).toInt 0 29 ∧ zs_in (s.2).toInt 1 30)) (m := fun s => 30 - s.2.toInt) (fun s hs => ?_) (fun s hs => ?_) (by exact h0)
  · have h1 := hs.2; unfold zs_in at h1
    omega
  · obtain ⟨b, eb, hb⟩ := zc_273 h_σ h_x1 hs.1 hs.2 (c := s.2.toInt) (Int.add_zero _).symm
    exact ⟨b, eb, zs_sumw hb (fun v w => ⟨⟨w.1.1, (zs_w w.1.2 (by decide))⟩, by have := w.2; omega⟩) (fun v w => w)⟩
-- BX3_poorestMinute_30
theorem zc_274 {σ0 : sn_S} {σ : sn_S} (h_σ : zs_C σ0 σ) {x2 : Int32} (h_x2 : zs_in x2.toInt 0 29) : zs_ok (BX3_poorestMinute_30 σ 49 x2) (fun r => zs_in (r).toInt 0 29) := by
  unfold BX3_poorestMinute_30
  exact zs_some h_x2
-- fX3_poorestMinute
theorem zc_275 {σ0 : sn_S} {σ : sn_S} (h_σ : zs_C σ0 σ) {x1 : Int32} (h_x1 : zs_in x1.toInt 0 30) : zs_ok (fX3_poorestMinute σ 49 x1) (fun r => zs_in (r).toInt 0 29) := by
  unfold fX3_poorestMinute
  refine zs_bd_ (zd_44 h_σ h_x1 (s0 := ((0 : Int32), (1 : Int32))) ⟨(zs_w zlI_0 (by decide)), (zs_w zlI_1 (by decide))⟩) (fun t_1 pt_1 => ?_)
  obtain ⟨ret, er, hr⟩ := zc_274 h_σ pt_1
  refine ⟨ret, er, ?_⟩
  exact hr
-- fX8_lowest
theorem zc_276 {σ0 : sn_S} {σ : sn_S} (h_σ : zs_C σ0 σ) : zs_ok (fX8_lowest σ) (fun r => (zs_in (r.1).toInt (-2) 29 ∧ zs_C σ0 r.2)) := by
  unfold fX8_lowest
  refine zs_bd_ (zc_102 h_σ) (fun t_1 pt_1 => ?_)
  refine zs_ite (fun c1 => ?_) (fun c1 => ?_)
  · skip
    have r2 := (zs_I_eq c1)
    have g3 : zs_in (t_1).toInt 0 0 := (zs_eql 0 0 r2 pt_1 zlI_0 (by decide))
    exact zs_some ⟨(zs_w zlI_m2 (by decide)), h_σ⟩
  · skip
    have r4 := (zs_I_eqn c1)
    have g5 : zs_in (t_1).toInt 1 1 := (zs_nel 1 1 r4 pt_1 zlI_0 (by decide))
    refine zs_bd_ (zc_237 h_σ) (fun t_4 pt_4 => ?_)
    refine zs_bd_ (zc_275 pt_4 (zs_rdk (q := 27) (k := 0) (z := (0, 30)) pt_4.1 rfl)) (fun t_6 pt_6 => ?_)
    exact zs_some ⟨(zs_w pt_6 (by decide)), pt_4⟩
-- BX9_layPaid_2
theorem zc_277 {σ0 : sn_S} {σ : sn_S} (h_σ : zs_M σ0 σ) {x1 : Int32} (h_x1 : zs_in x1.toInt 0 30) {c : Int} (hc : x1.toInt = c + 0) : zs_ok (BX9_layPaid_2 σ x1) (fun r => zs_sum (fun v => ((zs_M σ0 v.1 ∧ zs_in (v.2).toInt 1 30)) ∧ v.2.toInt = c + 1) (fun v => zs_M σ0 v) r) := by
  unfold BX9_layPaid_2
  refine zs_ite (fun c1 => ?_) (fun c1 => ?_)
  · skip
    have r2 := (zs_I_le c1)
    have g3 : zs_in (x1).toInt 30 30 := (zs_ler 30 30 r2 zlI_30 h_x1 (by decide))
    exact zs_some (zs_inr (h_σ))
  · skip
    have r4 := (zs_I_len c1)
    have g5 : zs_in (x1).toInt 0 29 := (zs_ltl 0 29 r4 h_x1 zlI_30 (by decide))
    refine zs_gd (zs_gin g5 (by decide)) ?_
    refine zs_lt (Q := fun z => zs_M σ0 z) (zs_wrt h_σ (fun _ => rfl) (fun _ => rfl)) (fun σ_3 hσ_3 => ?_)
    refine zs_lt (Q := fun z => zs_in z.toInt 1 30 ∧ z.toInt = c + 1) ⟨(zs_addI 1 30 g5 zlI_1 (by decide)), (zs_syI 1 hc g5 zlI_1 (by decide) (by decide))⟩ (fun y_5 hy_5 => ?_)
    exact zs_some (zs_inl ⟨⟨hσ_3, hy_5.1⟩, hy_5.2⟩)
theorem zd_45 {σ0 : sn_S}  {s0 : (sn_S × Int32)} (h0 : (zs_M σ0 s0.1 ∧ zs_in (s0.2).toInt 0 30)) : zs_ok (sn_it (LX9_layPaid_2) 5000 s0) (fun t => zs_M σ0 t) := by
  refine zs_it (I := fun s => (zs_M σ0 s.1 ∧ zs_in (s.2).toInt 0 30)) (m := fun s => 30 - s.2.toInt) (fun s hs => ?_) (fun s hs => ?_) (by exact h0)
  · have h1 := hs.2; unfold zs_in at h1
    omega
  · obtain ⟨b, eb, hb⟩ := zc_277 hs.1 hs.2 (c := s.2.toInt) (Int.add_zero _).symm
    exact ⟨b, eb, zs_sumw hb (fun v w => ⟨⟨w.1.1, (zs_w w.1.2 (by decide))⟩, by have := w.2; omega⟩) (fun v w => w)⟩
-- BX9_claimOf_177
theorem zc_278 {σ0 : sn_S} {σ : sn_S} (h_σ : zs_M σ0 σ) {x1 : Int32} (h_x1 : zs_in x1.toInt 0 5) {x2 : Int32} (h_x2 : zs_in x2.toInt 0 5) {x3 : Int32} (h_x3 : zs_in x3.toInt 1 1) {x4 : Int32} (h_x4 : zs_in x4.toInt 0 1073741823) {x5 : Int32} {x6 : Int32} (h_x6 : zs_in x6.toInt 3 3) {x7 : Int32} (h_x7 : zs_in x7.toInt 0 2) {c : Int} (hc : x7.toInt = c + 0) : zs_ok (BX9_claimOf_177 σ x1 x2 x3 x4 x5 x6 x7) (fun r => zs_sum (fun v => ((zs_M σ0 v.1 ∧ (zs_in (v.2.1).toInt 0 1073741823 ∧ (True ∧ zs_in (v.2.2.2).toInt 1 3)))) ∧ v.2.2.2.toInt = c + 1) (fun v => False) r) := by
  unfold BX9_claimOf_177
  obtain rfl : x3 = (1 : Int32) := zs_eqv h_x3 (by decide)
  obtain rfl : x6 = (3 : Int32) := zs_eqv h_x6 (by decide)
  refine zs_lt (Q := fun z => zs_in z.toInt 1 3 ∧ z.toInt = c + 1) ⟨(zs_addI 1 3 h_x7 zlI_1 (by decide)), (zs_syI 1 hc h_x7 zlI_1 (by decide) (by decide))⟩ (fun y_1 hy_1 => ?_)
  exact zs_some (zs_inl ⟨⟨h_σ, ⟨h_x4, ⟨trivial, hy_1.1⟩⟩⟩, hy_1.2⟩)
-- BX9_claimOf_152
theorem zc_279 {σ0 : sn_S} {σ : sn_S} (h_σ : zs_M σ0 σ) {x1 : Int32} (h_x1 : zs_in x1.toInt 0 5) {x2 : Int32} (h_x2 : zs_in x2.toInt 0 5) {x3 : Int32} (h_x3 : zs_in x3.toInt 1 1) {x4 : Int32} (h_x4 : zs_in x4.toInt 0 1073741823) {x5 : Int32} {x6 : Int32} (h_x6 : zs_in x6.toInt 3 3) {x7 : Int32} (h_x7 : zs_in x7.toInt 0 2) {x8 : Int32} (h_x8 : zs_in x8.toInt 0 29) {t0 : Int32} (h_t0 : zs_in t0.toInt 0 99) {c : Int} (hc : x7.toInt = c + 0) : zs_ok (BX9_claimOf_152 σ x1 x2 x3 x4 x5 x6 x7 x8 t0) (fun r => zs_sum (fun v => ((zs_M σ0 v.1 ∧ (zs_in (v.2.1).toInt 0 1073741823 ∧ (True ∧ zs_in (v.2.2.2).toInt 1 3)))) ∧ v.2.2.2.toInt = c + 1) (fun v => False) r) := by
  unfold BX9_claimOf_152
  obtain rfl : x3 = (1 : Int32) := zs_eqv h_x3 (by decide)
  obtain rfl : x6 = (3 : Int32) := zs_eqv h_x6 (by decide)
  refine zs_lt (Q := fun z => True) trivial (fun y_1 hy_1 => ?_)
  refine zs_ite (fun c1 => ?_) (fun c1 => ?_)
  · skip
    have r2 := (zs_I_eq c1)
    exact (zs_botr r2 h_x3 zlI_0 (by decide)).elim
  · skip
    have r3 := (zs_I_eqn c1)
    refine zs_gd (zs_gin h_x8 (by decide)) ?_
    refine zs_gd (zs_gin h_x8 (by decide)) ?_
    refine zs_lt (Q := fun z => zs_M σ0 z) (zs_wrt h_σ (fun _ => rfl) (fun _ => rfl)) (fun σ_6 hσ_6 => ?_)
    obtain ⟨ret, er, hr⟩ := zc_278 hσ_6 h_x1 h_x2 h_x3 h_x4 h_x6 h_x7 hc
    refine ⟨ret, er, ?_⟩
    exact (zs_sumw hr (fun v w => ⟨w.1, w.2⟩) (fun v w => w.elim))
-- BX9_claimOf_128
theorem zc_280 {σ0 : sn_S} {σ : sn_S} (h_σ : zs_M σ0 σ) {x1 : Int32} (h_x1 : zs_in x1.toInt 0 5) {x2 : Int32} (h_x2 : zs_in x2.toInt 0 5) {x3 : Int32} (h_x3 : zs_in x3.toInt 1 1) {x4 : Int32} (h_x4 : zs_in x4.toInt 0 1073741823) {x5 : Int32} {x6 : Int32} (h_x6 : zs_in x6.toInt 3 3) {x7 : Int32} (h_x7 : zs_in x7.toInt 0 2) {x8 : Int32} (h_x8 : zs_in x8.toInt 0 29) {t0 : Int32} (h_t0 : zs_in t0.toInt 0 0) {c : Int} (hc : x7.toInt = c + 0) : zs_ok (BX9_claimOf_128 σ x1 x2 x3 x4 x5 x6 x7 x8 t0) (fun r => zs_sum (fun v => ((zs_M σ0 v.1 ∧ (zs_in (v.2.1).toInt 0 1073741823 ∧ (True ∧ zs_in (v.2.2.2).toInt 1 3)))) ∧ v.2.2.2.toInt = c + 1) (fun v => False) r) := by
  unfold BX9_claimOf_128
  obtain rfl : x3 = (1 : Int32) := zs_eqv h_x3 (by decide)
  obtain rfl : x6 = (3 : Int32) := zs_eqv h_x6 (by decide)
  obtain rfl : t0 = (0 : Int32) := zs_eqv h_t0 (by decide)
  refine zs_ite (fun c1 => ?_) (fun c1 => ?_)
  · skip
    have r2 := (zs_I_eq c1)
    refine zs_bd_ (zc_242 h_σ h_x1 zlI_3) (fun t_2 pt_2 => ?_)
    obtain ⟨ret, er, hr⟩ := zc_279 h_σ h_x1 h_x2 h_x3 h_x4 h_x6 h_x7 h_x8 pt_2 hc
    refine ⟨ret, er, ?_⟩
    exact (zs_sumw hr (fun v w => ⟨w.1, w.2⟩) (fun v w => w.elim))
  · skip
    have r3 := (zs_I_eqn c1)
    exact (zs_botne r3 h_t0 zlI_0 (by decide)).elim
-- BX9_claimOf_127
theorem zc_281 {σ0 : sn_S} {σ : sn_S} (h_σ : zs_M σ0 σ) {x1 : Int32} (h_x1 : zs_in x1.toInt 0 5) {x2 : Int32} (h_x2 : zs_in x2.toInt 0 5) {x3 : Int32} (h_x3 : zs_in x3.toInt 1 1) {x4 : Int32} (h_x4 : zs_in x4.toInt 0 1073741823) {x5 : Int32} {x6 : Int32} (h_x6 : zs_in x6.toInt 3 3) {x7 : Int32} (h_x7 : zs_in x7.toInt 0 2) {x8 : Int32} (h_x8 : zs_in x8.toInt 0 29) {c : Int} (hc : x7.toInt = c + 0) : zs_ok (BX9_claimOf_127 σ x1 x2 x3 x4 x5 x6 x7 x8) (fun r => zs_sum (fun v => ((zs_M σ0 v.1 ∧ (zs_in (v.2.1).toInt 0 1073741823 ∧ (True ∧ zs_in (v.2.2.2).toInt 1 3)))) ∧ v.2.2.2.toInt = c + 1) (fun v => False) r) := by
  unfold BX9_claimOf_127
  obtain rfl : x3 = (1 : Int32) := zs_eqv h_x3 (by decide)
  obtain rfl : x6 = (3 : Int32) := zs_eqv h_x6 (by decide)
  obtain ⟨ret, er, hr⟩ := zc_280 h_σ h_x1 h_x2 h_x3 h_x4 h_x6 h_x7 h_x8 zlI_0 hc
  refine ⟨ret, er, ?_⟩
  exact (zs_sumw hr (fun v w => ⟨w.1, w.2⟩) (fun v w => w.elim))
-- BX9_claimOf_152
theorem zc_282 {σ0 : sn_S} {σ : sn_S} (h_σ : zs_M σ0 σ) {x1 : Int32} (h_x1 : zs_in x1.toInt 0 5) {x2 : Int32} (h_x2 : zs_in x2.toInt 0 5) {x3 : Int32} (h_x3 : zs_in x3.toInt 1 1) {x4 : Int32} (h_x4 : zs_in x4.toInt 0 1073741823) {x5 : Int32} {x6 : Int32} (h_x6 : zs_in x6.toInt 3 3) {x7 : Int32} (h_x7 : zs_in x7.toInt 0 2) {x8 : Int32} (h_x8 : zs_in x8.toInt 0 29) {t0 : Int32} (h_t0 : zs_in t0.toInt 0 49) {c : Int} (hc : x7.toInt = c + 0) : zs_ok (BX9_claimOf_152 σ x1 x2 x3 x4 x5 x6 x7 x8 t0) (fun r => zs_sum (fun v => ((zs_M σ0 v.1 ∧ (zs_in (v.2.1).toInt 0 1073741823 ∧ (True ∧ zs_in (v.2.2.2).toInt 1 3)))) ∧ v.2.2.2.toInt = c + 1) (fun v => False) r) := by
  unfold BX9_claimOf_152
  obtain rfl : x3 = (1 : Int32) := zs_eqv h_x3 (by decide)
  obtain rfl : x6 = (3 : Int32) := zs_eqv h_x6 (by decide)
  refine zs_lt (Q := fun z => True) trivial (fun y_1 hy_1 => ?_)
  refine zs_ite (fun c1 => ?_) (fun c1 => ?_)
  · skip
    have r2 := (zs_I_eq c1)
    exact (zs_botr r2 h_x3 zlI_0 (by decide)).elim
  · skip
    have r3 := (zs_I_eqn c1)
    refine zs_gd (zs_gin h_x8 (by decide)) ?_
    refine zs_gd (zs_gin h_x8 (by decide)) ?_
    refine zs_lt (Q := fun z => zs_M σ0 z) (zs_wrt h_σ (fun _ => rfl) (fun _ => rfl)) (fun σ_6 hσ_6 => ?_)
    obtain ⟨ret, er, hr⟩ := zc_278 hσ_6 h_x1 h_x2 h_x3 h_x4 h_x6 h_x7 hc
    refine ⟨ret, er, ?_⟩
    exact (zs_sumw hr (fun v w => ⟨w.1, w.2⟩) (fun v w => w.elim))
-- BX9_claimOf_128
theorem zc_283 {σ0 : sn_S} {σ : sn_S} (h_σ : zs_M σ0 σ) {x1 : Int32} (h_x1 : zs_in x1.toInt 0 5) {x2 : Int32} (h_x2 : zs_in x2.toInt 0 5) {x3 : Int32} (h_x3 : zs_in x3.toInt 1 1) {x4 : Int32} (h_x4 : zs_in x4.toInt 0 1073741823) {x5 : Int32} {x6 : Int32} (h_x6 : zs_in x6.toInt 3 3) {x7 : Int32} (h_x7 : zs_in x7.toInt 0 2) {x8 : Int32} (h_x8 : zs_in x8.toInt 0 29) {t0 : Int32} (h_t0 : zs_in t0.toInt 1 1) {c : Int} (hc : x7.toInt = c + 0) : zs_ok (BX9_claimOf_128 σ x1 x2 x3 x4 x5 x6 x7 x8 t0) (fun r => zs_sum (fun v => ((zs_M σ0 v.1 ∧ (zs_in (v.2.1).toInt 0 1073741823 ∧ (True ∧ zs_in (v.2.2.2).toInt 1 3)))) ∧ v.2.2.2.toInt = c + 1) (fun v => False) r) := by
  unfold BX9_claimOf_128
  obtain rfl : x3 = (1 : Int32) := zs_eqv h_x3 (by decide)
  obtain rfl : x6 = (3 : Int32) := zs_eqv h_x6 (by decide)
  obtain rfl : t0 = (1 : Int32) := zs_eqv h_t0 (by decide)
  refine zs_ite (fun c1 => ?_) (fun c1 => ?_)
  · skip
    have r2 := (zs_I_eq c1)
    exact (zs_botr r2 h_t0 zlI_0 (by decide)).elim
  · skip
    have r3 := (zs_I_eqn c1)
    refine zs_bd_ (zc_242 h_σ h_x1 zlI_3) (fun t_4 pt_4 => ?_)
    obtain ⟨ret, er, hr⟩ := zc_282 h_σ h_x1 h_x2 h_x3 h_x4 h_x6 h_x7 h_x8 (zs_divI 0 49 pt_4 zlI_2 (by decide)) hc
    refine ⟨ret, er, ?_⟩
    exact (zs_sumw hr (fun v w => ⟨w.1, w.2⟩) (fun v w => w.elim))
-- BX9_claimOf_63
theorem zc_284 {σ0 : sn_S} {σ : sn_S} (h_σ : zs_M σ0 σ) {x1 : Int32} (h_x1 : zs_in x1.toInt 0 5) {x2 : Int32} (h_x2 : zs_in x2.toInt 0 5) {x3 : Int32} (h_x3 : zs_in x3.toInt 1 1) {x4 : Int32} (h_x4 : zs_in x4.toInt 0 1073741823) {x5 : Int32} {x6 : Int32} (h_x6 : zs_in x6.toInt 3 3) {x7 : Int32} (h_x7 : zs_in x7.toInt 0 3) {c : Int} (hc : x7.toInt = c + 0) : zs_ok (BX9_claimOf_63 σ x1 x2 x3 x4 x5 x6 x7) (fun r => zs_sum (fun v => ((zs_M σ0 v.1 ∧ (zs_in (v.2.1).toInt 0 1073741823 ∧ (True ∧ zs_in (v.2.2.2).toInt 1 3)))) ∧ v.2.2.2.toInt = c + 1) (fun v => (zs_M σ0 v.1 ∧ True)) r) := by
  unfold BX9_claimOf_63
  obtain rfl : x3 = (1 : Int32) := zs_eqv h_x3 (by decide)
  obtain rfl : x6 = (3 : Int32) := zs_eqv h_x6 (by decide)
  refine zs_ite (fun c1 => ?_) (fun c1 => ?_)
  · skip
    have r2 := (zs_I_le c1)
    have g3 : zs_in (x7).toInt 3 3 := (zs_ler 3 3 r2 h_x6 h_x7 (by decide))
    exact zs_some (zs_inr (⟨h_σ, trivial⟩))
  · skip
    have r4 := (zs_I_len c1)
    have g5 : zs_in (x7).toInt 0 2 := (zs_ltl 0 2 r4 h_x7 h_x6 (by decide))
    refine zs_ite (fun c6 => ?_) (fun c6 => ?_)
    · skip
      have r7 := (zs_I_eq c6)
      have g8 : zs_in (x4).toInt 0 0 := (zs_eql 0 0 r7 h_x4 zlI_0 (by decide))
      exact zs_some (zs_inr (⟨h_σ, trivial⟩))
    · skip
      have r9 := (zs_I_eqn c6)
      have g10 : zs_in (x4).toInt 1 1073741823 := (zs_nel 1 1073741823 r9 h_x4 zlI_0 (by decide))
      refine zs_bd_ (zo_fo1 (by decide) g10) (fun t_3 pt_3 => ?_)
      refine zs_lt (Q := fun z => zs_in z.toInt 0 1073741823) (zs_and2 g10 (by decide)) (fun y_5 hy_5 => ?_)
      refine zs_ite (fun c11 => ?_) (fun c11 => ?_)
      · skip
        have r12 := (zs_I_eq c11)
        have g13 : zs_in ((sn_I σ 0 20)).toInt 3 3 := (zs_eql 3 3 r12 (zs_topI _) zlI_3 (by decide))
        refine zs_gd (zs_gin h_x2 (by decide)) ?_
        refine zs_bd_ (zc_205 h_σ h_x1) (fun t_9 pt_9 => ?_)
        refine zs_bd_ (zc_241 pt_3) (fun t_11 pt_11 => ?_)
        refine zs_ite (fun c14 => ?_) (fun c14 => ?_)
        · skip
          have r15 := (zs_I_eq c14)
          have g16 : zs_in ((((sn_I σ 8 x2.toNatClampNeg) &&& t_9) &&& t_11)).toInt 0 0 := (zs_eql 0 0 r15 (zs_and pt_11 (by decide)) zlI_0 (by decide))
          obtain ⟨ret, er, hr⟩ := zc_281 h_σ h_x1 h_x2 h_x3 hy_5 h_x6 g5 pt_3 hc
          refine ⟨ret, er, ?_⟩
          exact (zs_sumw hr (fun v w => ⟨w.1, w.2⟩) (fun v w => w.elim))
        · skip
          have r17 := (zs_I_eqn c14)
          have g18 : zs_in ((((sn_I σ 8 x2.toNatClampNeg) &&& t_9) &&& t_11)).toInt 1 536870911 := (zs_nel 1 536870911 r17 (zs_and pt_11 (by decide)) zlI_0 (by decide))
          obtain ⟨ret, er, hr⟩ := zc_283 h_σ h_x1 h_x2 h_x3 hy_5 h_x6 g5 pt_3 zlI_1 hc
          refine ⟨ret, er, ?_⟩
          exact (zs_sumw hr (fun v w => ⟨w.1, w.2⟩) (fun v w => w.elim))
      · skip
        have r19 := (zs_I_eqn c11)
        obtain ⟨ret, er, hr⟩ := zc_281 h_σ h_x1 h_x2 h_x3 hy_5 h_x6 g5 pt_3 hc
        refine ⟨ret, er, ?_⟩
        exact (zs_sumw hr (fun v w => ⟨w.1, w.2⟩) (fun v w => w.elim))
theorem zd_46 {σ0 : sn_S} {x1 : Int32} (h_x1 : zs_in x1.toInt 0 5) {x2 : Int32} (h_x2 : zs_in x2.toInt 0 5) {x3 : Int32} (h_x3 : zs_in x3.toInt 1 1) {x6 : Int32} (h_x6 : zs_in x6.toInt 3 3) {s0 : (sn_S × (Int32 × (Int32 × Int32)))} (h0 : (zs_M σ0 s0.1 ∧ (zs_in (s0.2.1).toInt 0 1073741823 ∧ (True ∧ zs_in (s0.2.2.2).toInt 0 3)))) : zs_ok (sn_it (LX9_claimOf_63 x1 x2 x3 x6) 5000 s0) (fun t => (zs_M σ0 t.1 ∧ True)) := by
  refine zs_it (I := fun s => (zs_M σ0 s.1 ∧ (zs_in (s.2.1).toInt 0 1073741823 ∧ (True ∧ zs_in (s.2.2.2).toInt 0 3)))) (m := fun s => 3 - s.2.2.2.toInt) (fun s hs => ?_) (fun s hs => ?_) (by exact h0)
  · have h1 := hs.2.2.2; unfold zs_in at h1
    omega
  · obtain ⟨b, eb, hb⟩ := zc_284 hs.1 h_x1 h_x2 h_x3 hs.2.1 h_x6 hs.2.2.2 (c := s.2.2.2.toInt) (Int.add_zero _).symm
    exact ⟨b, eb, zs_sumw hb (fun v w => ⟨⟨w.1.1, ⟨w.1.2.1, ⟨w.1.2.2.1, (zs_w w.1.2.2.2 (by decide))⟩⟩⟩, by have := w.2; omega⟩) (fun v w => w)⟩
-- BX9_claimOf_58
theorem zc_285 {σ0 : sn_S} {σ : sn_S} (h_σ : zs_M σ0 σ) {x1 : Int32} (h_x1 : zs_in x1.toInt 0 5) {x2 : Int32} (h_x2 : zs_in x2.toInt 0 5) {x3 : Int32} (h_x3 : zs_in x3.toInt 1 1) {x4 : Int32} (h_x4 : zs_in x4.toInt 0 1073741823) {x5 : Int32} (h_x5 : zs_in x5.toInt 0 0) {t0 : Int32} (h_t0 : zs_in t0.toInt 3 3) : zs_ok (BX9_claimOf_58 σ x1 x2 x3 x4 x5 t0) (fun r => (True ∧ zs_M σ0 r.2)) := by
  unfold BX9_claimOf_58
  obtain rfl : x3 = (1 : Int32) := zs_eqv h_x3 (by decide)
  obtain rfl : x5 = (0 : Int32) := zs_eqv h_x5 (by decide)
  obtain rfl : t0 = (3 : Int32) := zs_eqv h_t0 (by decide)
  refine zs_bd_ (zd_46 h_x1 h_x2 h_x3 h_t0 (s0 := (σ, (x4, ((0 : Int32), (0 : Int32))))) ⟨h_σ, ⟨h_x4, ⟨trivial, (zs_w zlI_0 (by decide))⟩⟩⟩) (fun t_1 pt_1 => ?_)
  obtain ⟨ret, er, hr⟩ := zc_250 pt_1.1
  refine ⟨ret, er, ?_⟩
  exact hr
-- BX9_claimOf_177
theorem zc_286 {σ0 : sn_S} {σ : sn_S} (h_σ : zs_M σ0 σ) {x1 : Int32} (h_x1 : zs_in x1.toInt 0 5) {x2 : Int32} (h_x2 : zs_in x2.toInt 0 5) {x3 : Int32} (h_x3 : zs_in x3.toInt 1 1) {x4 : Int32} (h_x4 : zs_in x4.toInt 0 1073741823) {x5 : Int32} {x6 : Int32} (h_x6 : zs_in x6.toInt 1 1) {x7 : Int32} (h_x7 : zs_in x7.toInt 0 0) {c : Int} (hc : x7.toInt = c + 0) : zs_ok (BX9_claimOf_177 σ x1 x2 x3 x4 x5 x6 x7) (fun r => zs_sum (fun v => ((zs_M σ0 v.1 ∧ (zs_in (v.2.1).toInt 0 1073741823 ∧ (True ∧ zs_in (v.2.2.2).toInt 1 1)))) ∧ v.2.2.2.toInt = c + 1) (fun v => False) r) := by
  unfold BX9_claimOf_177
  obtain rfl : x3 = (1 : Int32) := zs_eqv h_x3 (by decide)
  obtain rfl : x6 = (1 : Int32) := zs_eqv h_x6 (by decide)
  refine zs_lt (Q := fun z => zs_in z.toInt 1 1 ∧ z.toInt = c + 1) ⟨(zs_addI 1 1 h_x7 zlI_1 (by decide)), (zs_syI 1 hc h_x7 zlI_1 (by decide) (by decide))⟩ (fun y_1 hy_1 => ?_)
  exact zs_some (zs_inl ⟨⟨h_σ, ⟨h_x4, ⟨trivial, hy_1.1⟩⟩⟩, hy_1.2⟩)
-- BX9_claimOf_152
theorem zc_287 {σ0 : sn_S} {σ : sn_S} (h_σ : zs_M σ0 σ) {x1 : Int32} (h_x1 : zs_in x1.toInt 0 5) {x2 : Int32} (h_x2 : zs_in x2.toInt 0 5) {x3 : Int32} (h_x3 : zs_in x3.toInt 1 1) {x4 : Int32} (h_x4 : zs_in x4.toInt 0 1073741823) {x5 : Int32} {x6 : Int32} (h_x6 : zs_in x6.toInt 1 1) {x7 : Int32} (h_x7 : zs_in x7.toInt 0 0) {x8 : Int32} (h_x8 : zs_in x8.toInt 0 29) {t0 : Int32} (h_t0 : zs_in t0.toInt 0 99) {c : Int} (hc : x7.toInt = c + 0) : zs_ok (BX9_claimOf_152 σ x1 x2 x3 x4 x5 x6 x7 x8 t0) (fun r => zs_sum (fun v => ((zs_M σ0 v.1 ∧ (zs_in (v.2.1).toInt 0 1073741823 ∧ (True ∧ zs_in (v.2.2.2).toInt 1 1)))) ∧ v.2.2.2.toInt = c + 1) (fun v => False) r) := by
  unfold BX9_claimOf_152
  obtain rfl : x3 = (1 : Int32) := zs_eqv h_x3 (by decide)
  obtain rfl : x6 = (1 : Int32) := zs_eqv h_x6 (by decide)
  refine zs_lt (Q := fun z => True) trivial (fun y_1 hy_1 => ?_)
  refine zs_ite (fun c1 => ?_) (fun c1 => ?_)
  · skip
    have r2 := (zs_I_eq c1)
    exact (zs_botr r2 h_x3 zlI_0 (by decide)).elim
  · skip
    have r3 := (zs_I_eqn c1)
    refine zs_gd (zs_gin h_x8 (by decide)) ?_
    refine zs_gd (zs_gin h_x8 (by decide)) ?_
    refine zs_lt (Q := fun z => zs_M σ0 z) (zs_wrt h_σ (fun _ => rfl) (fun _ => rfl)) (fun σ_6 hσ_6 => ?_)
    obtain ⟨ret, er, hr⟩ := zc_286 hσ_6 h_x1 h_x2 h_x3 h_x4 h_x6 h_x7 hc
    refine ⟨ret, er, ?_⟩
    exact (zs_sumw hr (fun v w => ⟨w.1, w.2⟩) (fun v w => w.elim))
-- BX9_claimOf_128
theorem zc_288 {σ0 : sn_S} {σ : sn_S} (h_σ : zs_M σ0 σ) {x1 : Int32} (h_x1 : zs_in x1.toInt 0 5) {x2 : Int32} (h_x2 : zs_in x2.toInt 0 5) {x3 : Int32} (h_x3 : zs_in x3.toInt 1 1) {x4 : Int32} (h_x4 : zs_in x4.toInt 0 1073741823) {x5 : Int32} {x6 : Int32} (h_x6 : zs_in x6.toInt 1 1) {x7 : Int32} (h_x7 : zs_in x7.toInt 0 0) {x8 : Int32} (h_x8 : zs_in x8.toInt 0 29) {t0 : Int32} (h_t0 : zs_in t0.toInt 0 0) {c : Int} (hc : x7.toInt = c + 0) : zs_ok (BX9_claimOf_128 σ x1 x2 x3 x4 x5 x6 x7 x8 t0) (fun r => zs_sum (fun v => ((zs_M σ0 v.1 ∧ (zs_in (v.2.1).toInt 0 1073741823 ∧ (True ∧ zs_in (v.2.2.2).toInt 1 1)))) ∧ v.2.2.2.toInt = c + 1) (fun v => False) r) := by
  unfold BX9_claimOf_128
  obtain rfl : x3 = (1 : Int32) := zs_eqv h_x3 (by decide)
  obtain rfl : x6 = (1 : Int32) := zs_eqv h_x6 (by decide)
  obtain rfl : t0 = (0 : Int32) := zs_eqv h_t0 (by decide)
  refine zs_ite (fun c1 => ?_) (fun c1 => ?_)
  · skip
    have r2 := (zs_I_eq c1)
    refine zs_bd_ (zc_242 h_σ h_x1 zlI_3) (fun t_2 pt_2 => ?_)
    obtain ⟨ret, er, hr⟩ := zc_287 h_σ h_x1 h_x2 h_x3 h_x4 h_x6 h_x7 h_x8 pt_2 hc
    refine ⟨ret, er, ?_⟩
    exact (zs_sumw hr (fun v w => ⟨w.1, w.2⟩) (fun v w => w.elim))
  · skip
    have r3 := (zs_I_eqn c1)
    exact (zs_botne r3 h_t0 zlI_0 (by decide)).elim
-- BX9_claimOf_127
theorem zc_289 {σ0 : sn_S} {σ : sn_S} (h_σ : zs_M σ0 σ) {x1 : Int32} (h_x1 : zs_in x1.toInt 0 5) {x2 : Int32} (h_x2 : zs_in x2.toInt 0 5) {x3 : Int32} (h_x3 : zs_in x3.toInt 1 1) {x4 : Int32} (h_x4 : zs_in x4.toInt 0 1073741823) {x5 : Int32} {x6 : Int32} (h_x6 : zs_in x6.toInt 1 1) {x7 : Int32} (h_x7 : zs_in x7.toInt 0 0) {x8 : Int32} (h_x8 : zs_in x8.toInt 0 29) {c : Int} (hc : x7.toInt = c + 0) : zs_ok (BX9_claimOf_127 σ x1 x2 x3 x4 x5 x6 x7 x8) (fun r => zs_sum (fun v => ((zs_M σ0 v.1 ∧ (zs_in (v.2.1).toInt 0 1073741823 ∧ (True ∧ zs_in (v.2.2.2).toInt 1 1)))) ∧ v.2.2.2.toInt = c + 1) (fun v => False) r) := by
  unfold BX9_claimOf_127
  obtain rfl : x3 = (1 : Int32) := zs_eqv h_x3 (by decide)
  obtain rfl : x6 = (1 : Int32) := zs_eqv h_x6 (by decide)
  obtain ⟨ret, er, hr⟩ := zc_288 h_σ h_x1 h_x2 h_x3 h_x4 h_x6 h_x7 h_x8 zlI_0 hc
  refine ⟨ret, er, ?_⟩
  exact (zs_sumw hr (fun v w => ⟨w.1, w.2⟩) (fun v w => w.elim))
-- BX9_claimOf_152
theorem zc_290 {σ0 : sn_S} {σ : sn_S} (h_σ : zs_M σ0 σ) {x1 : Int32} (h_x1 : zs_in x1.toInt 0 5) {x2 : Int32} (h_x2 : zs_in x2.toInt 0 5) {x3 : Int32} (h_x3 : zs_in x3.toInt 1 1) {x4 : Int32} (h_x4 : zs_in x4.toInt 0 1073741823) {x5 : Int32} {x6 : Int32} (h_x6 : zs_in x6.toInt 1 1) {x7 : Int32} (h_x7 : zs_in x7.toInt 0 0) {x8 : Int32} (h_x8 : zs_in x8.toInt 0 29) {t0 : Int32} (h_t0 : zs_in t0.toInt 0 49) {c : Int} (hc : x7.toInt = c + 0) : zs_ok (BX9_claimOf_152 σ x1 x2 x3 x4 x5 x6 x7 x8 t0) (fun r => zs_sum (fun v => ((zs_M σ0 v.1 ∧ (zs_in (v.2.1).toInt 0 1073741823 ∧ (True ∧ zs_in (v.2.2.2).toInt 1 1)))) ∧ v.2.2.2.toInt = c + 1) (fun v => False) r) := by
  unfold BX9_claimOf_152
  obtain rfl : x3 = (1 : Int32) := zs_eqv h_x3 (by decide)
  obtain rfl : x6 = (1 : Int32) := zs_eqv h_x6 (by decide)
  refine zs_lt (Q := fun z => True) trivial (fun y_1 hy_1 => ?_)
  refine zs_ite (fun c1 => ?_) (fun c1 => ?_)
  · skip
    have r2 := (zs_I_eq c1)
    exact (zs_botr r2 h_x3 zlI_0 (by decide)).elim
  · skip
    have r3 := (zs_I_eqn c1)
    refine zs_gd (zs_gin h_x8 (by decide)) ?_
    refine zs_gd (zs_gin h_x8 (by decide)) ?_
    refine zs_lt (Q := fun z => zs_M σ0 z) (zs_wrt h_σ (fun _ => rfl) (fun _ => rfl)) (fun σ_6 hσ_6 => ?_)
    obtain ⟨ret, er, hr⟩ := zc_286 hσ_6 h_x1 h_x2 h_x3 h_x4 h_x6 h_x7 hc
    refine ⟨ret, er, ?_⟩
    exact (zs_sumw hr (fun v w => ⟨w.1, w.2⟩) (fun v w => w.elim))
-- BX9_claimOf_128
theorem zc_291 {σ0 : sn_S} {σ : sn_S} (h_σ : zs_M σ0 σ) {x1 : Int32} (h_x1 : zs_in x1.toInt 0 5) {x2 : Int32} (h_x2 : zs_in x2.toInt 0 5) {x3 : Int32} (h_x3 : zs_in x3.toInt 1 1) {x4 : Int32} (h_x4 : zs_in x4.toInt 0 1073741823) {x5 : Int32} {x6 : Int32} (h_x6 : zs_in x6.toInt 1 1) {x7 : Int32} (h_x7 : zs_in x7.toInt 0 0) {x8 : Int32} (h_x8 : zs_in x8.toInt 0 29) {t0 : Int32} (h_t0 : zs_in t0.toInt 1 1) {c : Int} (hc : x7.toInt = c + 0) : zs_ok (BX9_claimOf_128 σ x1 x2 x3 x4 x5 x6 x7 x8 t0) (fun r => zs_sum (fun v => ((zs_M σ0 v.1 ∧ (zs_in (v.2.1).toInt 0 1073741823 ∧ (True ∧ zs_in (v.2.2.2).toInt 1 1)))) ∧ v.2.2.2.toInt = c + 1) (fun v => False) r) := by
  unfold BX9_claimOf_128
  obtain rfl : x3 = (1 : Int32) := zs_eqv h_x3 (by decide)
  obtain rfl : x6 = (1 : Int32) := zs_eqv h_x6 (by decide)
  obtain rfl : t0 = (1 : Int32) := zs_eqv h_t0 (by decide)
  refine zs_ite (fun c1 => ?_) (fun c1 => ?_)
  · skip
    have r2 := (zs_I_eq c1)
    exact (zs_botr r2 h_t0 zlI_0 (by decide)).elim
  · skip
    have r3 := (zs_I_eqn c1)
    refine zs_bd_ (zc_242 h_σ h_x1 zlI_3) (fun t_4 pt_4 => ?_)
    obtain ⟨ret, er, hr⟩ := zc_290 h_σ h_x1 h_x2 h_x3 h_x4 h_x6 h_x7 h_x8 (zs_divI 0 49 pt_4 zlI_2 (by decide)) hc
    refine ⟨ret, er, ?_⟩
    exact (zs_sumw hr (fun v w => ⟨w.1, w.2⟩) (fun v w => w.elim))
-- BX9_claimOf_63
theorem zc_292 {σ0 : sn_S} {σ : sn_S} (h_σ : zs_M σ0 σ) {x1 : Int32} (h_x1 : zs_in x1.toInt 0 5) {x2 : Int32} (h_x2 : zs_in x2.toInt 0 5) {x3 : Int32} (h_x3 : zs_in x3.toInt 1 1) {x4 : Int32} (h_x4 : zs_in x4.toInt 0 1073741823) {x5 : Int32} {x6 : Int32} (h_x6 : zs_in x6.toInt 1 1) {x7 : Int32} (h_x7 : zs_in x7.toInt 0 1) {c : Int} (hc : x7.toInt = c + 0) : zs_ok (BX9_claimOf_63 σ x1 x2 x3 x4 x5 x6 x7) (fun r => zs_sum (fun v => ((zs_M σ0 v.1 ∧ (zs_in (v.2.1).toInt 0 1073741823 ∧ (True ∧ zs_in (v.2.2.2).toInt 1 1)))) ∧ v.2.2.2.toInt = c + 1) (fun v => (zs_M σ0 v.1 ∧ True)) r) := by
  unfold BX9_claimOf_63
  obtain rfl : x3 = (1 : Int32) := zs_eqv h_x3 (by decide)
  obtain rfl : x6 = (1 : Int32) := zs_eqv h_x6 (by decide)
  refine zs_ite (fun c1 => ?_) (fun c1 => ?_)
  · skip
    have r2 := (zs_I_le c1)
    have g3 : zs_in (x7).toInt 1 1 := (zs_ler 1 1 r2 h_x6 h_x7 (by decide))
    exact zs_some (zs_inr (⟨h_σ, trivial⟩))
  · skip
    have r4 := (zs_I_len c1)
    have g5 : zs_in (x7).toInt 0 0 := (zs_ltl 0 0 r4 h_x7 h_x6 (by decide))
    refine zs_ite (fun c6 => ?_) (fun c6 => ?_)
    · skip
      have r7 := (zs_I_eq c6)
      have g8 : zs_in (x4).toInt 0 0 := (zs_eql 0 0 r7 h_x4 zlI_0 (by decide))
      exact zs_some (zs_inr (⟨h_σ, trivial⟩))
    · skip
      have r9 := (zs_I_eqn c6)
      have g10 : zs_in (x4).toInt 1 1073741823 := (zs_nel 1 1073741823 r9 h_x4 zlI_0 (by decide))
      refine zs_bd_ (zo_fo1 (by decide) g10) (fun t_3 pt_3 => ?_)
      refine zs_lt (Q := fun z => zs_in z.toInt 0 1073741823) (zs_and2 g10 (by decide)) (fun y_5 hy_5 => ?_)
      refine zs_ite (fun c11 => ?_) (fun c11 => ?_)
      · skip
        have r12 := (zs_I_eq c11)
        have g13 : zs_in ((sn_I σ 0 20)).toInt 3 3 := (zs_eql 3 3 r12 (zs_topI _) zlI_3 (by decide))
        refine zs_gd (zs_gin h_x2 (by decide)) ?_
        refine zs_bd_ (zc_205 h_σ h_x1) (fun t_9 pt_9 => ?_)
        refine zs_bd_ (zc_241 pt_3) (fun t_11 pt_11 => ?_)
        refine zs_ite (fun c14 => ?_) (fun c14 => ?_)
        · skip
          have r15 := (zs_I_eq c14)
          have g16 : zs_in ((((sn_I σ 8 x2.toNatClampNeg) &&& t_9) &&& t_11)).toInt 0 0 := (zs_eql 0 0 r15 (zs_and pt_11 (by decide)) zlI_0 (by decide))
          obtain ⟨ret, er, hr⟩ := zc_289 h_σ h_x1 h_x2 h_x3 hy_5 h_x6 g5 pt_3 hc
          refine ⟨ret, er, ?_⟩
          exact (zs_sumw hr (fun v w => ⟨w.1, w.2⟩) (fun v w => w.elim))
        · skip
          have r17 := (zs_I_eqn c14)
          have g18 : zs_in ((((sn_I σ 8 x2.toNatClampNeg) &&& t_9) &&& t_11)).toInt 1 536870911 := (zs_nel 1 536870911 r17 (zs_and pt_11 (by decide)) zlI_0 (by decide))
          obtain ⟨ret, er, hr⟩ := zc_291 h_σ h_x1 h_x2 h_x3 hy_5 h_x6 g5 pt_3 zlI_1 hc
          refine ⟨ret, er, ?_⟩
          exact (zs_sumw hr (fun v w => ⟨w.1, w.2⟩) (fun v w => w.elim))
      · skip
        have r19 := (zs_I_eqn c11)
        obtain ⟨ret, er, hr⟩ := zc_289 h_σ h_x1 h_x2 h_x3 hy_5 h_x6 g5 pt_3 hc
        refine ⟨ret, er, ?_⟩
        exact (zs_sumw hr (fun v w => ⟨w.1, w.2⟩) (fun v w => w.elim))
theorem zd_47 {σ0 : sn_S} {x1 : Int32} (h_x1 : zs_in x1.toInt 0 5) {x2 : Int32} (h_x2 : zs_in x2.toInt 0 5) {x3 : Int32} (h_x3 : zs_in x3.toInt 1 1) {x6 : Int32} (h_x6 : zs_in x6.toInt 1 1) {s0 : (sn_S × (Int32 × (Int32 × Int32)))} (h0 : (zs_M σ0 s0.1 ∧ (zs_in (s0.2.1).toInt 0 1073741823 ∧ (True ∧ zs_in (s0.2.2.2).toInt 0 1)))) : zs_ok (sn_it (LX9_claimOf_63 x1 x2 x3 x6) 5000 s0) (fun t => (zs_M σ0 t.1 ∧ True)) := by
  refine zs_it (I := fun s => (zs_M σ0 s.1 ∧ (zs_in (s.2.1).toInt 0 1073741823 ∧ (True ∧ zs_in (s.2.2.2).toInt 0 1)))) (m := fun s => 1 - s.2.2.2.toInt) (fun s hs => ?_) (fun s hs => ?_) (by exact h0)
  · have h1 := hs.2.2.2; unfold zs_in at h1
    omega
  · obtain ⟨b, eb, hb⟩ := zc_292 hs.1 h_x1 h_x2 h_x3 hs.2.1 h_x6 hs.2.2.2 (c := s.2.2.2.toInt) (Int.add_zero _).symm
    exact ⟨b, eb, zs_sumw hb (fun v w => ⟨⟨w.1.1, ⟨w.1.2.1, ⟨w.1.2.2.1, (zs_w w.1.2.2.2 (by decide))⟩⟩⟩, by have := w.2; omega⟩) (fun v w => w)⟩
-- BX9_claimOf_58
theorem zc_293 {σ0 : sn_S} {σ : sn_S} (h_σ : zs_M σ0 σ) {x1 : Int32} (h_x1 : zs_in x1.toInt 0 5) {x2 : Int32} (h_x2 : zs_in x2.toInt 0 5) {x3 : Int32} (h_x3 : zs_in x3.toInt 1 1) {x4 : Int32} (h_x4 : zs_in x4.toInt 0 1073741823) {x5 : Int32} (h_x5 : zs_in x5.toInt 0 0) {t0 : Int32} (h_t0 : zs_in t0.toInt 1 1) : zs_ok (BX9_claimOf_58 σ x1 x2 x3 x4 x5 t0) (fun r => (True ∧ zs_M σ0 r.2)) := by
  unfold BX9_claimOf_58
  obtain rfl : x3 = (1 : Int32) := zs_eqv h_x3 (by decide)
  obtain rfl : x5 = (0 : Int32) := zs_eqv h_x5 (by decide)
  obtain rfl : t0 = (1 : Int32) := zs_eqv h_t0 (by decide)
  refine zs_bd_ (zd_47 h_x1 h_x2 h_x3 h_t0 (s0 := (σ, (x4, ((0 : Int32), (0 : Int32))))) ⟨h_σ, ⟨h_x4, ⟨trivial, (zs_w zlI_0 (by decide))⟩⟩⟩) (fun t_1 pt_1 => ?_)
  obtain ⟨ret, er, hr⟩ := zc_250 pt_1.1
  refine ⟨ret, er, ?_⟩
  exact hr
-- BX9_claimOf_33
theorem zc_294 {σ0 : sn_S} {σ : sn_S} (h_σ : zs_M σ0 σ) {x1 : Int32} (h_x1 : zs_in x1.toInt 0 5) {x2 : Int32} (h_x2 : zs_in x2.toInt 0 5) {x3 : Int32} (h_x3 : zs_in x3.toInt 1 1) {x4 : Int32} (h_x4 : zs_in x4.toInt 0 1073741823) : zs_ok (BX9_claimOf_33 σ x1 x2 x3 x4) (fun r => (True ∧ zs_M σ0 r.2)) := by
  unfold BX9_claimOf_33
  obtain rfl : x3 = (1 : Int32) := zs_eqv h_x3 (by decide)
  refine zs_bd_ (zo_fot2 h_x4) (fun t_1 pt_1 => ?_)
  refine zs_lt (Q := fun z => zs_M σ0 z) (zs_wrkt h_σ rfl rfl) (fun σ_3 hσ_3 => ?_)
  refine zs_ite (fun c1 => ?_) (fun c1 => ?_)
  · skip
    have r2 := (zs_I_eq c1)
    have g3 : zs_in ((sn_I σ_3 0 20)).toInt 2 2 := (zs_eql 2 2 r2 (zs_topI _) zlI_2 (by decide))
    obtain ⟨ret, er, hr⟩ := zc_285 hσ_3 h_x1 h_x2 h_x3 h_x4 zlI_0 zlI_3
    refine ⟨ret, er, ?_⟩
    exact hr
  · skip
    have r4 := (zs_I_eqn c1)
    obtain ⟨ret, er, hr⟩ := zc_293 hσ_3 h_x1 h_x2 h_x3 h_x4 zlI_0 zlI_1
    refine ⟨ret, er, ?_⟩
    exact hr
-- fX9_claimOf
theorem zc_295 {σ0 : sn_S} {σ : sn_S} (h_σ : zs_M σ0 σ) {x1 : Int32} (h_x1 : zs_in x1.toInt 0 5) {x2 : Int32} (h_x2 : zs_in x2.toInt 0 5) {x3 : Int32} (h_x3 : zs_in x3.toInt 1 1) : zs_ok (fX9_claimOf σ x1 x2 x3) (fun r => (True ∧ zs_M σ0 r.2)) := by
  unfold fX9_claimOf
  obtain rfl : x3 = (1 : Int32) := zs_eqv h_x3 (by decide)
  refine zs_gd (zs_gin h_x2 (by decide)) ?_
  refine zs_bd_ (zc_205 h_σ h_x1) (fun t_2 pt_2 => ?_)
  refine zs_lt (Q := fun z => zs_in z.toInt 0 1073741823) (zs_and pt_2 (by decide)) (fun y_4 hy_4 => ?_)
  refine zs_ite (fun c1 => ?_) (fun c1 => ?_)
  · skip
    have r2 := (zs_I_eq c1)
    have g3 : zs_in ((sn_I σ 0 20)).toInt 1 1 := (zs_eql 1 1 r2 (zs_topI _) zlI_1 (by decide))
    refine zs_lt (Q := fun z => zs_in z.toInt 0 1073741823) (zs_and2 hy_4 (by decide)) (fun y_7 hy_7 => ?_)
    obtain ⟨ret, er, hr⟩ := zc_294 h_σ h_x1 h_x2 h_x3 hy_7
    refine ⟨ret, er, ?_⟩
    exact hr
  · skip
    have r4 := (zs_I_eqn c1)
    obtain ⟨ret, er, hr⟩ := zc_294 h_σ h_x1 h_x2 h_x3 hy_4
    refine ⟨ret, er, ?_⟩
    exact hr
-- BX9_layPaid_23
theorem zc_296 {σ0 : sn_S} {σ : sn_S} (h_σ : zs_M σ0 σ) {x1 : Int32} (h_x1 : zs_in x1.toInt 0 6) {c : Int} (hc : x1.toInt = c + 0) : zs_ok (BX9_layPaid_23 σ x1) (fun r => zs_sum (fun v => ((zs_M σ0 v.1 ∧ zs_in (v.2).toInt 1 6)) ∧ v.2.toInt = c + 1) (fun v => zs_M σ0 v) r) := by
  unfold BX9_layPaid_23
  refine zs_gd (zs_gin zlI_8 (by decide)) ?_
  refine zs_ite (fun c1 => ?_) (fun c1 => ?_)
  · skip
    have r2 := (zs_I_le c1)
    exact zs_some (zs_inr (h_σ))
  · skip
    have r3 := (zs_I_len c1)
    have g4 : zs_in (x1).toInt 0 5 := (zs_ltl 0 5 r3 h_x1 (zs_rdk (q := 1) (k := (8 : Int32).toNatClampNeg) (z := (0, 6)) h_σ.1 rfl) (by decide))
    have g5 : zs_in ((sn_I σ 1 (8 : Int32).toNatClampNeg)).toInt 1 6 := (zs_ltr 1 6 r3 h_x1 (zs_rdk (q := 1) (k := (8 : Int32).toNatClampNeg) (z := (0, 6)) h_σ.1 rfl) (by decide))
    refine zs_bd_ (zc_200 h_σ g4 zlI_0) (fun t_3 pt_3 => ?_)
    refine zs_bd_ (zc_295 h_σ g4 pt_3 zlI_1) (fun t_5 pt_5 => ?_)
    refine zs_lt (Q := fun z => zs_in z.toInt 1 6 ∧ z.toInt = c + 1) ⟨(zs_addI 1 6 g4 zlI_1 (by decide)), (zs_syI 1 hc g4 zlI_1 (by decide) (by decide))⟩ (fun y_7 hy_7 => ?_)
    exact zs_some (zs_inl ⟨⟨pt_5.2, hy_7.1⟩, hy_7.2⟩)
theorem zd_48 {σ0 : sn_S}  {s0 : (sn_S × Int32)} (h0 : (zs_M σ0 s0.1 ∧ zs_in (s0.2).toInt 0 6)) : zs_ok (sn_it (LX9_layPaid_23) 5000 s0) (fun t => zs_M σ0 t) := by
  refine zs_it (I := fun s => (zs_M σ0 s.1 ∧ zs_in (s.2).toInt 0 6)) (m := fun s => 6 - s.2.toInt) (fun s hs => ?_) (fun s hs => ?_) (by exact h0)
  · have h1 := hs.2; unfold zs_in at h1
    omega
  · obtain ⟨b, eb, hb⟩ := zc_296 hs.1 hs.2 (c := s.2.toInt) (Int.add_zero _).symm
    exact ⟨b, eb, zs_sumw hb (fun v w => ⟨⟨w.1.1, (zs_w w.1.2 (by decide))⟩, by have := w.2; omega⟩) (fun v w => w)⟩
-- BX9_layPaid_53
theorem zc_297 {σ0 : sn_S} {σ : sn_S} (h_σ : zs_M σ0 σ) : zs_ok (BX9_layPaid_53 σ) (fun r => zs_M σ0 r) := by
  unfold BX9_layPaid_53
  exact zs_some h_σ
-- BX9_layPaid_21
theorem zc_298 {σ0 : sn_S} {σ : sn_S} (h_σ : zs_M σ0 σ) : zs_ok (BX9_layPaid_21 σ) (fun r => zs_M σ0 r) := by
  unfold BX9_layPaid_21
  refine zs_bd_ (zd_48  (s0 := (σ, (0 : Int32))) ⟨h_σ, (zs_w zlI_0 (by decide))⟩) (fun t_1 pt_1 => ?_)
  obtain ⟨ret, er, hr⟩ := zc_297 pt_1
  refine ⟨ret, er, ?_⟩
  exact hr
-- fX9_layPaid
theorem zc_299 {σ0 : sn_S} {σ : sn_S} (h_σ : zs_M σ0 σ) : zs_ok (fX9_layPaid σ) (fun r => zs_M σ0 r) := by
  unfold fX9_layPaid
  refine zs_bd_ (zd_45  (s0 := (σ, (0 : Int32))) ⟨h_σ, (zs_w zlI_0 (by decide))⟩) (fun t_1 pt_1 => ?_)
  obtain ⟨ret, er, hr⟩ := zc_298 pt_1
  refine ⟨ret, er, ?_⟩
  exact hr
-- BX9_moneyAt_7
theorem zc_300 {σ0 : sn_S} {σ : sn_S} (h_σ : zs_M σ0 σ) {x1 : Int32} (h_x1 : zs_in x1.toInt 1 29) {x2 : Int32} {x3 : Int32} (h_x3 : zs_in x3.toInt 0 6) {c : Int} (hc : x3.toInt = c + 0) : zs_ok (BX9_moneyAt_7 σ x1 x2 x3) (fun r => zs_sum (fun v => ((True ∧ zs_in (v.2).toInt 1 6)) ∧ v.2.toInt = c + 1) (fun v => True) r) := by
  unfold BX9_moneyAt_7
  refine zs_gd (zs_gin zlI_8 (by decide)) ?_
  refine zs_ite (fun c1 => ?_) (fun c1 => ?_)
  · skip
    have r2 := (zs_I_le c1)
    exact zs_some (zs_inr (trivial))
  · skip
    have r3 := (zs_I_len c1)
    have g4 : zs_in (x3).toInt 0 5 := (zs_ltl 0 5 r3 h_x3 (zs_rdk (q := 1) (k := (8 : Int32).toNatClampNeg) (z := (0, 6)) h_σ.1 rfl) (by decide))
    have g5 : zs_in ((sn_I σ 1 (8 : Int32).toNatClampNeg)).toInt 1 6 := (zs_ltr 1 6 r3 h_x3 (zs_rdk (q := 1) (k := (8 : Int32).toNatClampNeg) (z := (0, 6)) h_σ.1 rfl) (by decide))
    refine zs_bd_ (zc_240 h_σ g4 zlI_4) (fun t_3 pt_3 => ?_)
    refine zs_lt (Q := fun z => True) trivial (fun y_5 hy_5 => ?_)
    refine zs_lt (Q := fun z => zs_in z.toInt 1 6 ∧ z.toInt = c + 1) ⟨(zs_addI 1 6 g4 zlI_1 (by decide)), (zs_syI 1 hc g4 zlI_1 (by decide) (by decide))⟩ (fun y_7 hy_7 => ?_)
    exact zs_some (zs_inl ⟨⟨trivial, hy_7.1⟩, hy_7.2⟩)
theorem zd_49 {σ0 : sn_S} {σ : sn_S} (h_σ : zs_M σ0 σ) {x1 : Int32} (h_x1 : zs_in x1.toInt 1 29) {s0 : (Int32 × Int32)} (h0 : (True ∧ zs_in (s0.2).toInt 0 6)) : zs_ok (sn_it (LX9_moneyAt_7 σ x1) 5000 s0) (fun t => True) := by
  refine zs_it (I := fun s => (True ∧ zs_in (s.2).toInt 0 6)) (m := fun s => 6 - s.2.toInt) (fun s hs => ?_) (fun s hs => ?_) (by exact h0)
  · have h1 := hs.2; unfold zs_in at h1
    omega
  · obtain ⟨b, eb, hb⟩ := zc_300 h_σ h_x1 hs.2 (c := s.2.toInt) (Int.add_zero _).symm
    exact ⟨b, eb, zs_sumw hb (fun v w => ⟨⟨w.1.1, (zs_w w.1.2 (by decide))⟩, by have := w.2; omega⟩) (fun v w => w)⟩
-- BX9_moneyAt_35
theorem zc_301 {σ0 : sn_S} {σ : sn_S} (h_σ : zs_M σ0 σ) {x1 : Int32} (h_x1 : zs_in x1.toInt 1 29) {x2 : Int32} {x3 : Int32} (h_x3 : zs_in x3.toInt 0 30) {c : Int} (hc : x3.toInt = c + 0) : zs_ok (BX9_moneyAt_35 σ x1 x2 x3) (fun r => zs_sum (fun v => ((True ∧ zs_in (v.2).toInt 1 30)) ∧ v.2.toInt = c + 1) (fun v => True) r) := by
  unfold BX9_moneyAt_35
  refine zs_ite (fun c1 => ?_) (fun c1 => ?_)
  · skip
    have r2 := (zs_I_lt c1)
    have g3 : zs_in (x3).toInt 2 30 := (zs_ltr 2 30 r2 h_x1 h_x3 (by decide))
    exact zs_some (zs_inr (trivial))
  · skip
    have r4 := (zs_I_ltn c1)
    have g5 : zs_in (x3).toInt 0 29 := (zs_lel 0 29 r4 h_x3 h_x1 (by decide))
    refine zs_gd (zs_gin g5 (by decide)) ?_
    refine zs_lt (Q := fun z => True) trivial (fun y_3 hy_3 => ?_)
    refine zs_lt (Q := fun z => zs_in z.toInt 1 30 ∧ z.toInt = c + 1) ⟨(zs_addI 1 30 g5 zlI_1 (by decide)), (zs_syI 1 hc g5 zlI_1 (by decide) (by decide))⟩ (fun y_5 hy_5 => ?_)
    exact zs_some (zs_inl ⟨⟨trivial, hy_5.1⟩, hy_5.2⟩)
theorem zd_50 {σ0 : sn_S} {σ : sn_S} (h_σ : zs_M σ0 σ) {x1 : Int32} (h_x1 : zs_in x1.toInt 1 29) {s0 : (Int32 × Int32)} (h0 : (True ∧ zs_in (s0.2).toInt 0 30)) : zs_ok (sn_it (LX9_moneyAt_35 σ x1) 5000 s0) (fun t => True) := by
  refine zs_it (I := fun s => (True ∧ zs_in (s.2).toInt 0 30)) (m := fun s => 30 - s.2.toInt) (fun s hs => ?_) (fun s hs => ?_) (by exact h0)
  · have h1 := hs.2; unfold zs_in at h1
    omega
  · obtain ⟨b, eb, hb⟩ := zc_301 h_σ h_x1 hs.2 (c := s.2.toInt) (Int.add_zero _).symm
    exact ⟨b, eb, zs_sumw hb (fun v w => ⟨⟨w.1.1, (zs_w w.1.2 (by decide))⟩, by have := w.2; omega⟩) (fun v w => w)⟩
-- BX9_moneyAt_55
theorem zc_302 {σ0 : sn_S} {σ : sn_S} (h_σ : zs_M σ0 σ) {x2 : Int32} : zs_ok (BX9_moneyAt_55 σ x2) (fun r => True) := by
  unfold BX9_moneyAt_55
  exact zs_some trivial
-- BX9_moneyAt_33
theorem zc_303 {σ0 : sn_S} {σ : sn_S} (h_σ : zs_M σ0 σ) {x1 : Int32} (h_x1 : zs_in x1.toInt 1 29) {x2 : Int32} : zs_ok (BX9_moneyAt_33 σ x1 x2) (fun r => True) := by
  unfold BX9_moneyAt_33
  refine zs_bd_ (zd_50 h_σ h_x1 (s0 := (x2, (0 : Int32))) ⟨trivial, (zs_w zlI_0 (by decide))⟩) (fun t_1 pt_1 => ?_)
  obtain ⟨ret, er, hr⟩ := zc_302 h_σ
  refine ⟨ret, er, ?_⟩
  exact hr
-- fX9_moneyAt
theorem zc_304 {σ0 : sn_S} {σ : sn_S} (h_σ : zs_M σ0 σ) {x1 : Int32} (h_x1 : zs_in x1.toInt 1 29) : zs_ok (fX9_moneyAt σ x1) (fun r => True) := by
  unfold fX9_moneyAt
  refine zs_lt (Q := fun z => zs_in z.toInt 0 1000) (zs_rdk (q := 0) (k := 21) (z := (0, 1000)) h_σ.1 rfl) (fun y_1 hy_1 => ?_)
  refine zs_bd_ (zd_49 h_σ h_x1 (s0 := (y_1, (0 : Int32))) ⟨trivial, (zs_w zlI_0 (by decide))⟩) (fun t_3 pt_3 => ?_)
  obtain ⟨ret, er, hr⟩ := zc_303 h_σ h_x1
  refine ⟨ret, er, ?_⟩
  exact hr
-- BX9_moneyAt_7
theorem zc_305 {σ0 : sn_S} {σ : sn_S} (h_σ : zs_M σ0 σ) {x1 : Int32} (h_x1 : zs_in x1.toInt 0 29) {x2 : Int32} {x3 : Int32} (h_x3 : zs_in x3.toInt 0 6) {c : Int} (hc : x3.toInt = c + 0) : zs_ok (BX9_moneyAt_7 σ x1 x2 x3) (fun r => zs_sum (fun v => ((True ∧ zs_in (v.2).toInt 1 6)) ∧ v.2.toInt = c + 1) (fun v => True) r) := by
  unfold BX9_moneyAt_7
  refine zs_gd (zs_gin zlI_8 (by decide)) ?_
  refine zs_ite (fun c1 => ?_) (fun c1 => ?_)
  · skip
    have r2 := (zs_I_le c1)
    exact zs_some (zs_inr (trivial))
  · skip
    have r3 := (zs_I_len c1)
    have g4 : zs_in (x3).toInt 0 5 := (zs_ltl 0 5 r3 h_x3 (zs_rdk (q := 1) (k := (8 : Int32).toNatClampNeg) (z := (0, 6)) h_σ.1 rfl) (by decide))
    have g5 : zs_in ((sn_I σ 1 (8 : Int32).toNatClampNeg)).toInt 1 6 := (zs_ltr 1 6 r3 h_x3 (zs_rdk (q := 1) (k := (8 : Int32).toNatClampNeg) (z := (0, 6)) h_σ.1 rfl) (by decide))
    refine zs_bd_ (zc_240 h_σ g4 zlI_4) (fun t_3 pt_3 => ?_)
    refine zs_lt (Q := fun z => True) trivial (fun y_5 hy_5 => ?_)
    refine zs_lt (Q := fun z => zs_in z.toInt 1 6 ∧ z.toInt = c + 1) ⟨(zs_addI 1 6 g4 zlI_1 (by decide)), (zs_syI 1 hc g4 zlI_1 (by decide) (by decide))⟩ (fun y_7 hy_7 => ?_)
    exact zs_some (zs_inl ⟨⟨trivial, hy_7.1⟩, hy_7.2⟩)
theorem zd_51 {σ0 : sn_S} {σ : sn_S} (h_σ : zs_M σ0 σ) {x1 : Int32} (h_x1 : zs_in x1.toInt 0 29) {s0 : (Int32 × Int32)} (h0 : (True ∧ zs_in (s0.2).toInt 0 6)) : zs_ok (sn_it (LX9_moneyAt_7 σ x1) 5000 s0) (fun t => True) := by
  refine zs_it (I := fun s => (True ∧ zs_in (s.2).toInt 0 6)) (m := fun s => 6 - s.2.toInt) (fun s hs => ?_) (fun s hs => ?_) (by exact h0)
  · have h1 := hs.2; unfold zs_in at h1
    omega
  · obtain ⟨b, eb, hb⟩ := zc_305 h_σ h_x1 hs.2 (c := s.2.toInt) (Int.add_zero _).symm
    exact ⟨b, eb, zs_sumw hb (fun v w => ⟨⟨w.1.1, (zs_w w.1.2 (by decide))⟩, by have := w.2; omega⟩) (fun v w => w)⟩
-- BX9_moneyAt_35
theorem zc_306 {σ0 : sn_S} {σ : sn_S} (h_σ : zs_M σ0 σ) {x1 : Int32} (h_x1 : zs_in x1.toInt 0 29) {x2 : Int32} {x3 : Int32} (h_x3 : zs_in x3.toInt 0 30) {c : Int} (hc : x3.toInt = c + 0) : zs_ok (BX9_moneyAt_35 σ x1 x2 x3) (fun r => zs_sum (fun v => ((True ∧ zs_in (v.2).toInt 1 30)) ∧ v.2.toInt = c + 1) (fun v => True) r) := by
  unfold BX9_moneyAt_35
  refine zs_ite (fun c1 => ?_) (fun c1 => ?_)
  · skip
    have r2 := (zs_I_lt c1)
    have g3 : zs_in (x3).toInt 1 30 := (zs_ltr 1 30 r2 h_x1 h_x3 (by decide))
    exact zs_some (zs_inr (trivial))
  · skip
    have r4 := (zs_I_ltn c1)
    have g5 : zs_in (x3).toInt 0 29 := (zs_lel 0 29 r4 h_x3 h_x1 (by decide))
    refine zs_gd (zs_gin g5 (by decide)) ?_
    refine zs_lt (Q := fun z => True) trivial (fun y_3 hy_3 => ?_)
    refine zs_lt (Q := fun z => zs_in z.toInt 1 30 ∧ z.toInt = c + 1) ⟨(zs_addI 1 30 g5 zlI_1 (by decide)), (zs_syI 1 hc g5 zlI_1 (by decide) (by decide))⟩ (fun y_5 hy_5 => ?_)
    exact zs_some (zs_inl ⟨⟨trivial, hy_5.1⟩, hy_5.2⟩)
theorem zd_52 {σ0 : sn_S} {σ : sn_S} (h_σ : zs_M σ0 σ) {x1 : Int32} (h_x1 : zs_in x1.toInt 0 29) {s0 : (Int32 × Int32)} (h0 : (True ∧ zs_in (s0.2).toInt 0 30)) : zs_ok (sn_it (LX9_moneyAt_35 σ x1) 5000 s0) (fun t => True) := by
  refine zs_it (I := fun s => (True ∧ zs_in (s.2).toInt 0 30)) (m := fun s => 30 - s.2.toInt) (fun s hs => ?_) (fun s hs => ?_) (by exact h0)
  · have h1 := hs.2; unfold zs_in at h1
    omega
  · obtain ⟨b, eb, hb⟩ := zc_306 h_σ h_x1 hs.2 (c := s.2.toInt) (Int.add_zero _).symm
    exact ⟨b, eb, zs_sumw hb (fun v w => ⟨⟨w.1.1, (zs_w w.1.2 (by decide))⟩, by have := w.2; omega⟩) (fun v w => w)⟩
-- BX9_moneyAt_33
theorem zc_307 {σ0 : sn_S} {σ : sn_S} (h_σ : zs_M σ0 σ) {x1 : Int32} (h_x1 : zs_in x1.toInt 0 29) {x2 : Int32} : zs_ok (BX9_moneyAt_33 σ x1 x2) (fun r => True) := by
  unfold BX9_moneyAt_33
  refine zs_bd_ (zd_52 h_σ h_x1 (s0 := (x2, (0 : Int32))) ⟨trivial, (zs_w zlI_0 (by decide))⟩) (fun t_1 pt_1 => ?_)
  obtain ⟨ret, er, hr⟩ := zc_302 h_σ
  refine ⟨ret, er, ?_⟩
  exact hr
-- fX9_moneyAt
theorem zc_308 {σ0 : sn_S} {σ : sn_S} (h_σ : zs_M σ0 σ) {x1 : Int32} (h_x1 : zs_in x1.toInt 0 29) : zs_ok (fX9_moneyAt σ x1) (fun r => True) := by
  unfold fX9_moneyAt
  refine zs_lt (Q := fun z => zs_in z.toInt 0 1000) (zs_rdk (q := 0) (k := 21) (z := (0, 1000)) h_σ.1 rfl) (fun y_1 hy_1 => ?_)
  refine zs_bd_ (zd_51 h_σ h_x1 (s0 := (y_1, (0 : Int32))) ⟨trivial, (zs_w zlI_0 (by decide))⟩) (fun t_3 pt_3 => ?_)
  obtain ⟨ret, er, hr⟩ := zc_307 h_σ h_x1
  refine ⟨ret, er, ?_⟩
  exact hr
-- BX9_lowest_44
theorem zc_309 {σ0 : sn_S} {σ : sn_S} (h_σ : zs_M σ0 σ) {x1 : Int32} (h_x1 : zs_in x1.toInt 0 29) {x2 : Int32} (h_x2 : zs_in x2.toInt 1 29) {t0 : Int32} (h_t0 : zs_in t0.toInt 0 29) {c : Int} (hc : x2.toInt = c + 0) : zs_ok (BX9_lowest_44 σ x1 x2 t0) (fun r => zs_sum (fun v => ((zs_in (v.1).toInt 0 29 ∧ zs_in (v.2).toInt 2 30)) ∧ v.2.toInt = c + 1) (fun v => False) r) := by
  unfold BX9_lowest_44
  refine zs_lt (Q := fun z => zs_in z.toInt 2 30 ∧ z.toInt = c + 1) ⟨(zs_addI 2 30 h_x2 zlI_1 (by decide)), (zs_syI 1 hc h_x2 zlI_1 (by decide) (by decide))⟩ (fun y_1 hy_1 => ?_)
  exact zs_some (zs_inl ⟨⟨h_t0, hy_1.1⟩, hy_1.2⟩)
-- BX9_lowest_44
theorem zc_310 {σ0 : sn_S} {σ : sn_S} (h_σ : zs_M σ0 σ) {x1 : Int32} (h_x1 : zs_in x1.toInt 0 29) {x2 : Int32} (h_x2 : zs_in x2.toInt 1 29) {t0 : Int32} (h_t0 : zs_in t0.toInt 1 29) {c : Int} (hc : x2.toInt = c + 0) : zs_ok (BX9_lowest_44 σ x1 x2 t0) (fun r => zs_sum (fun v => ((zs_in (v.1).toInt 1 29 ∧ zs_in (v.2).toInt 2 30)) ∧ v.2.toInt = c + 1) (fun v => False) r) := by
  unfold BX9_lowest_44
  refine zs_lt (Q := fun z => zs_in z.toInt 2 30 ∧ z.toInt = c + 1) ⟨(zs_addI 2 30 h_x2 zlI_1 (by decide)), (zs_syI 1 hc h_x2 zlI_1 (by decide) (by decide))⟩ (fun y_1 hy_1 => ?_)
  exact zs_some (zs_inl ⟨⟨h_t0, hy_1.1⟩, hy_1.2⟩)
-- BX9_lowest_18
theorem zc_311 {σ0 : sn_S} {σ : sn_S} (h_σ : zs_M σ0 σ) {x1 : Int32} (h_x1 : zs_in x1.toInt 0 29) {x2 : Int32} (h_x2 : zs_in x2.toInt 1 30) {c : Int} (hc : x2.toInt = c + 0) : zs_ok (BX9_lowest_18 σ x1 x2) (fun r => zs_sum (fun v => ((zs_in (v.1).toInt 0 29 ∧ zs_in (v.2).toInt 2 30)) ∧ v.2.toInt = c + 1) (fun v => zs_in (v).toInt 0 29) r) := by
  unfold BX9_lowest_18
  refine zs_bd_ (zc_21 h_σ) (fun t_1 pt_1 => ?_)
  refine zs_ite (fun c1 => ?_) (fun c1 => ?_)
  · skip
    have r2 := (zs_I_le c1)
    exact zs_some (zs_inr (h_x1))
  · skip
    have r3 := (zs_I_len c1)
    have g4 : zs_in (x2).toInt 1 29 := (zs_ltl 1 29 r3 h_x2 pt_1 (by decide))
    have g5 : zs_in (t_1).toInt 2 30 := (zs_ltr 2 30 r3 h_x2 pt_1 (by decide))
    refine zs_bd_ (zc_304 h_σ g4) (fun t_4 pt_4 => ?_)
    refine zs_bd_ (zc_308 h_σ h_x1) (fun t_6 pt_6 => ?_)
    refine zs_ite (fun c6 => ?_) (fun c6 => ?_)
    · skip
      have r7 := (zs_I_le c6)
      obtain ⟨ret, er, hr⟩ := zc_309 h_σ h_x1 g4 h_x1 hc
      refine ⟨ret, er, ?_⟩
      exact (zs_sumw hr (fun v w => ⟨w.1, w.2⟩) (fun v w => w.elim))
    · skip
      have r8 := (zs_I_len c6)
      have g9 : zs_in (t_4).toInt (-2147483648) 2147483646 := (zs_ltl (-2147483648) 2147483646 r8 (zs_topI _) (zs_topI _) (by decide))
      have g10 : zs_in (t_6).toInt (-2147483647) 2147483647 := (zs_ltr (-2147483647) 2147483647 r8 (zs_topI _) (zs_topI _) (by decide))
      obtain ⟨ret, er, hr⟩ := zc_310 h_σ h_x1 g4 g4 hc
      refine ⟨ret, er, ?_⟩
      exact (zs_sumw hr (fun v w => ⟨⟨(zs_w w.1.1 (by decide)), w.1.2⟩, w.2⟩) (fun v w => w.elim))
theorem zd_53 {σ0 : sn_S} {σ : sn_S} (h_σ : zs_M σ0 σ) {s0 : (Int32 × Int32)} (h0 : (zs_in (s0.1).toInt 0 29 ∧ zs_in (s0.2).toInt 1 30)) : zs_ok (sn_it (LX9_lowest_18 σ) 5000 s0) (fun t => zs_in (t).toInt 0 29) := by
  refine zs_it (I := fun s => (zs_in (s.1).toInt 0 29 ∧ zs_in (s.2).toInt 1 30)) (m := fun s => 30 - s.2.toInt) (fun s hs => ?_) (fun s hs => ?_) (by exact h0)
  · have h1 := hs.2; unfold zs_in at h1
    omega
  · obtain ⟨b, eb, hb⟩ := zc_311 h_σ hs.1 hs.2 (c := s.2.toInt) (Int.add_zero _).symm
    exact ⟨b, eb, zs_sumw hb (fun v w => ⟨⟨w.1.1, (zs_w w.1.2 (by decide))⟩, by have := w.2; omega⟩) (fun v w => w)⟩
-- BX9_lowest_51
theorem zc_312 {σ0 : sn_S} {σ : sn_S} (h_σ : zs_M σ0 σ) {x1 : Int32} (h_x1 : zs_in x1.toInt 0 29) : zs_ok (BX9_lowest_51 σ x1) (fun r => (zs_in (r.1).toInt 0 29 ∧ zs_M σ0 r.2)) := by
  unfold BX9_lowest_51
  exact zs_some ⟨h_x1, h_σ⟩
-- fX9_lowest
theorem zc_313 {σ0 : sn_S} {σ : sn_S} (h_σ : zs_M σ0 σ) : zs_ok (fX9_lowest σ) (fun r => (zs_in (r.1).toInt (-2) 29 ∧ zs_M σ0 r.2)) := by
  unfold fX9_lowest
  refine zs_bd_ (zc_92 h_σ) (fun t_1 pt_1 => ?_)
  refine zs_ite (fun c1 => ?_) (fun c1 => ?_)
  · skip
    have r2 := (zs_I_eq c1)
    have g3 : zs_in (t_1.1).toInt 0 0 := (zs_eql 0 0 r2 pt_1.1 zlI_0 (by decide))
    exact zs_some ⟨(zs_w zlI_m2 (by decide)), pt_1.2⟩
  · skip
    have r4 := (zs_I_eqn c1)
    have g5 : zs_in (t_1.1).toInt 1 1 := (zs_nel 1 1 r4 pt_1.1 zlI_0 (by decide))
    refine zs_bd_ (zc_299 pt_1.2) (fun t_4 pt_4 => ?_)
    refine zs_bd_ (zd_53 pt_4 (s0 := ((0 : Int32), (1 : Int32))) ⟨(zs_w zlI_0 (by decide)), (zs_w zlI_1 (by decide))⟩) (fun t_6 pt_6 => ?_)
    obtain ⟨ret, er, hr⟩ := zc_312 pt_4 pt_6
    refine ⟨ret, er, ?_⟩
    exact ⟨(zs_w hr.1 (by decide)), hr.2⟩
-- fX8_firstMinutes
theorem zc_314 {x0 : Int32} (h_x0 : zs_in x0.toInt 0 0) : zs_ok (fX8_firstMinutes x0) (fun r => zs_in (r).toInt 0 0) := by
  unfold fX8_firstMinutes
  obtain rfl : x0 = (0 : Int32) := zs_eqv h_x0 (by decide)
  exact zs_some (zs_subI 0 0 (zs_cases h_x0 (fun z => zs_in ((1 : Int32) <<< (z &&& 31)).toInt 1 1) (by decide +kernel)) zlI_1 (by decide))
-- BX0_live_2
theorem zc_315 {σ0 : sn_S} {σ : sn_S} (h_σ : zs_C σ0 σ) {x1 : Int32} (h_x1 : zs_in x1.toInt 0 0) {x2 : Int32} (h_x2 : zs_in x2.toInt 0 30) {x3 : Int32} (h_x3 : zs_in x3.toInt 0 6) {c : Int} (hc : x3.toInt = c + 0) : zs_ok (BX0_live_2 σ 38 x1 x2 x3) (fun r => zs_sum (fun v => ((zs_C σ0 v.1 ∧ zs_in (v.2).toInt 1 6)) ∧ v.2.toInt = c + 1) (fun v => zs_C σ0 v) r) := by
  unfold BX0_live_2
  obtain rfl : x1 = (0 : Int32) := zs_eqv h_x1 (by decide)
  refine zs_ite (fun c1 => ?_) (fun c1 => ?_)
  · skip
    have r2 := (zs_I_le c1)
    exact zs_some (zs_inr (h_σ))
  · skip
    have r3 := (zs_I_len c1)
    have g4 : zs_in (x3).toInt 0 5 := (zs_ltl 0 5 r3 h_x3 (zs_rdk (q := 38) (k := 1) (z := (0, 6)) h_σ.1 rfl) (by decide))
    have g5 : zs_in ((sn_I σ 38 1)).toInt 1 6 := (zs_ltr 1 6 r3 h_x3 (zs_rdk (q := 38) (k := 1) (z := (0, 6)) h_σ.1 rfl) (by decide))
    refine zs_gd (zs_gin g4 (by decide)) ?_
    refine zs_bd_ (zc_314 h_x1) (fun t_3 pt_3 => ?_)
    refine zs_gd (zs_gin g4 (by decide)) ?_
    refine zs_lt (Q := fun z => zs_C σ0 z) (zs_wru (z := (0, 1073741823)) h_σ (fun _ => rfl) (zs_and pt_3 (by decide)) (by decide) (fun _ => rfl)) (fun σ_6 hσ_6 => ?_)
    refine zs_lt (Q := fun z => zs_in z.toInt 1 6 ∧ z.toInt = c + 1) ⟨(zs_addI 1 6 g4 zlI_1 (by decide)), (zs_syI 1 hc g4 zlI_1 (by decide) (by decide))⟩ (fun y_8 hy_8 => ?_)
    exact zs_some (zs_inl ⟨⟨hσ_6, hy_8.1⟩, hy_8.2⟩)
theorem zd_54 {σ0 : sn_S} {x1 : Int32} (h_x1 : zs_in x1.toInt 0 0) {x2 : Int32} (h_x2 : zs_in x2.toInt 0 30) {s0 : (sn_S × Int32)} (h0 : (zs_C σ0 s0.1 ∧ zs_in (s0.2).toInt 0 6)) : zs_ok (sn_it (LX0_live_2 38 x1 x2) 5000 s0) (fun t => zs_C σ0 t) := by
  refine zs_it (I := fun s => (zs_C σ0 s.1 ∧ zs_in (s.2).toInt 0 6)) (m := fun s => 6 - s.2.toInt) (fun s hs => ?_) (fun s hs => ?_) (by exact h0)
  · have h1 := hs.2; unfold zs_in at h1
    omega
  · obtain ⟨b, eb, hb⟩ := zc_315 hs.1 h_x1 h_x2 hs.2 (c := s.2.toInt) (Int.add_zero _).symm
    exact ⟨b, eb, zs_sumw hb (fun v w => ⟨⟨w.1.1, (zs_w w.1.2 (by decide))⟩, by have := w.2; omega⟩) (fun v w => w)⟩
-- BX0_tickleByNets_7
theorem zc_316 {σ0 : sn_S} {σ : sn_S} (h_σ : zs_C σ0 σ) {x1 : Int32} (h_x1 : zs_in x1.toInt 0 29) {x2 : Int32} (h_x2 : zs_in x2.toInt 0 174) {x3 : Int32} (h_x3 : zs_in x3.toInt 0 6) (hl_x1 : x2.toInt = 6 * x1.toInt) {c : Int} (hc : x3.toInt = c + 0) : zs_ok (BX0_tickleByNets_7 σ 38 x1 x2 x3) (fun r => zs_sum (fun v => ((zs_C σ0 v.1 ∧ zs_in (v.2).toInt 1 6)) ∧ v.2.toInt = c + 1) (fun v => zs_C σ0 v) r) := by
  unfold BX0_tickleByNets_7
  refine zs_ite (fun c1 => ?_) (fun c1 => ?_)
  · skip
    have r2 := (zs_I_le c1)
    exact zs_some (zs_inr (h_σ))
  · skip
    have r3 := (zs_I_len c1)
    have g4 : zs_in (x3).toInt 0 5 := (zs_ltl 0 5 r3 h_x3 (zs_rdk (q := 38) (k := 1) (z := (0, 6)) h_σ.1 rfl) (by decide))
    have g5 : zs_in ((sn_I σ 38 1)).toInt 1 6 := (zs_ltr 1 6 r3 h_x3 (zs_rdk (q := 38) (k := 1) (z := (0, 6)) h_σ.1 rfl) (by decide))
    refine zs_gd (zs_gin (zs_addI 0 179 h_x2 g4 (by decide)) (by decide)) ?_
    refine zs_lt (Q := fun z => zs_C σ0 z) (zs_wrt h_σ (fun _ => rfl) (fun _ => rfl)) (fun σ_3 hσ_3 => ?_)
    refine zs_lt (Q := fun z => zs_in z.toInt 1 6 ∧ z.toInt = c + 1) ⟨(zs_addI 1 6 g4 zlI_1 (by decide)), (zs_syI 1 hc g4 zlI_1 (by decide) (by decide))⟩ (fun y_5 hy_5 => ?_)
    exact zs_some (zs_inl ⟨⟨hσ_3, hy_5.1⟩, hy_5.2⟩)
end
section
theorem zd_55 {σ0 : sn_S} {x1 : Int32} (h_x1 : zs_in x1.toInt 0 29) {x2 : Int32} (h_x2 : zs_in x2.toInt 0 174) (hl_x1 : x2.toInt = 6 * x1.toInt) {s0 : (sn_S × Int32)} (h0 : (zs_C σ0 s0.1 ∧ zs_in (s0.2).toInt 0 6)) : zs_ok (sn_it (LX0_tickleByNets_7 38 x1 x2) 5000 s0) (fun t => zs_C σ0 t) := by
  refine zs_it (I := fun s => (zs_C σ0 s.1 ∧ zs_in (s.2).toInt 0 6)) (m := fun s => 6 - s.2.toInt) (fun s hs => ?_) (fun s hs => ?_) (by exact h0)
  · have h1 := hs.2; unfold zs_in at h1
    omega
  · obtain ⟨b, eb, hb⟩ := zc_316 hs.1 h_x1 h_x2 hs.2 hl_x1 (c := s.2.toInt) (Int.add_zero _).symm
    exact ⟨b, eb, zs_sumw hb (fun v w => ⟨⟨w.1.1, (zs_w w.1.2 (by decide))⟩, by have := w.2; omega⟩) (fun v w => w)⟩
-- BX0_tickleByNets_46
theorem zc_317 {σ0 : sn_S} {σ : sn_S} (h_σ : zs_C σ0 σ) {x2 : Int32} (h_x2 : zs_in x2.toInt 0 0) {t0 : Int32} (h_t0 : zs_in t0.toInt 0 0) : zs_ok (BX0_tickleByNets_46 σ 38 x2 t0) (fun r => zs_C σ0 r) := by
  unfold BX0_tickleByNets_46
  obtain rfl : x2 = (0 : Int32) := zs_eqv h_x2 (by decide)
  obtain rfl : t0 = (0 : Int32) := zs_eqv h_t0 (by decide)
  refine zs_ite (fun c1 => ?_) (fun c1 => ?_)
  · skip
    have r2 := (zs_I_eq c1)
    exact zs_some h_σ
  · skip
    have r3 := (zs_I_eqn c1)
    exact (zs_botne r3 h_t0 zlI_0 (by decide)).elim
-- BX0_tickleByNets_149
theorem zc_318 {σ0 : sn_S} {σ : sn_S} (h_σ : zs_C σ0 σ) {x2 : Int32} (h_x2 : zs_in x2.toInt 6 174) {x3 : Int32} {x4 : Int32} (h_x4 : zs_in x4.toInt 0 7) {c : Int} (hc : x4.toInt = c + 0) : zs_ok (BX0_tickleByNets_149 σ 38 x2 x3 x4) (fun r => zs_sum (fun v => ((zs_C σ0 v.1 ∧ zs_in (v.2).toInt 1 8)) ∧ v.2.toInt = c + 1) (fun v => False) r) := by
  unfold BX0_tickleByNets_149
  refine zs_lt (Q := fun z => zs_in z.toInt 1 8 ∧ z.toInt = c + 1) ⟨(zs_addI 1 8 h_x4 zlI_1 (by decide)), (zs_syI 1 hc h_x4 zlI_1 (by decide) (by decide))⟩ (fun y_1 hy_1 => ?_)
  exact zs_some (zs_inl ⟨⟨h_σ, hy_1.1⟩, hy_1.2⟩)
-- fX8_hasBit
theorem zc_319 {x0 : Int32} {x1 : Int32} (h_x1 : zs_in x1.toInt 0 5) : zs_ok (fX8_hasBit x0 x1) (fun r => zs_in (r).toInt 0 1) := by
  unfold fX8_hasBit
  refine zs_ite (fun c1 => ?_) (fun c1 => ?_)
  · skip
    have r2 := (zs_I_eq c1)
    have g3 : zs_in (((x0 >>> (x1 &&& 31)) &&& (1 : Int32))).toInt 1 1 := (zs_eql 1 1 r2 (zs_and zlI_1 (by decide)) zlI_1 (by decide))
    refine zs_gd (zs_b01 zlI_1 (by decide)) ?_
    exact zs_some (zs_w zlI_1 (by decide))
  · skip
    have r4 := (zs_I_eqn c1)
    have g5 : zs_in (((x0 >>> (x1 &&& 31)) &&& (1 : Int32))).toInt 0 0 := (zs_neh 0 0 r4 (zs_and zlI_1 (by decide)) zlI_1 (by decide))
    refine zs_gd (zs_b01 zlI_0 (by decide)) ?_
    exact zs_some (zs_w zlI_0 (by decide))
-- BX0_tickleByNets_147
theorem zc_320 {σ0 : sn_S} {σ : sn_S} (h_σ : zs_C σ0 σ) {x2 : Int32} (h_x2 : zs_in x2.toInt 6 174) {x3 : Int32} {x4 : Int32} (h_x4 : zs_in x4.toInt 0 7) {t1 : Int32} (h_t1 : zs_in t1.toInt 6 179) {t2 : Int32} {t3 : Int32} (h_t3 : zs_in t3.toInt 0 0) {c : Int} (hc : x4.toInt = c + 0) : zs_ok (BX0_tickleByNets_147 σ 38 x2 x3 x4 t1 t2 t3) (fun r => zs_sum (fun v => ((zs_C σ0 v.1 ∧ zs_in (v.2).toInt 1 8)) ∧ v.2.toInt = c + 1) (fun v => False) r) := by
  unfold BX0_tickleByNets_147
  obtain rfl : t3 = (0 : Int32) := zs_eqv h_t3 (by decide)
  refine zs_gd (zs_gin h_t1 (by decide)) ?_
  refine zs_lt (Q := fun z => zs_C σ0 z) (zs_wrt h_σ (fun _ => rfl) (fun _ => rfl)) (fun σ_2 hσ_2 => ?_)
  obtain ⟨ret, er, hr⟩ := zc_318 hσ_2 h_x2 h_x4 hc
  refine ⟨ret, er, ?_⟩
  exact (zs_sumw hr (fun v w => ⟨w.1, w.2⟩) (fun v w => w.elim))
-- BX0_tickleByNets_147
theorem zc_321 {σ0 : sn_S} {σ : sn_S} (h_σ : zs_C σ0 σ) {x2 : Int32} (h_x2 : zs_in x2.toInt 6 174) {x3 : Int32} {x4 : Int32} (h_x4 : zs_in x4.toInt 0 7) {t1 : Int32} (h_t1 : zs_in t1.toInt 6 179) {t2 : Int32} {t3 : Int32} (h_t3 : zs_in t3.toInt 5 5) {c : Int} (hc : x4.toInt = c + 0) : zs_ok (BX0_tickleByNets_147 σ 38 x2 x3 x4 t1 t2 t3) (fun r => zs_sum (fun v => ((zs_C σ0 v.1 ∧ zs_in (v.2).toInt 1 8)) ∧ v.2.toInt = c + 1) (fun v => False) r) := by
  unfold BX0_tickleByNets_147
  obtain rfl : t3 = (5 : Int32) := zs_eqv h_t3 (by decide)
  refine zs_gd (zs_gin h_t1 (by decide)) ?_
  refine zs_lt (Q := fun z => zs_C σ0 z) (zs_wrt h_σ (fun _ => rfl) (fun _ => rfl)) (fun σ_2 hσ_2 => ?_)
  obtain ⟨ret, er, hr⟩ := zc_318 hσ_2 h_x2 h_x4 hc
  refine ⟨ret, er, ?_⟩
  exact (zs_sumw hr (fun v w => ⟨w.1, w.2⟩) (fun v w => w.elim))
-- BX0_tickleByNets_121
theorem zc_322 {σ0 : sn_S} {σ : sn_S} (h_σ : zs_C σ0 σ) {x2 : Int32} (h_x2 : zs_in x2.toInt 6 174) {x3 : Int32} {x4 : Int32} (h_x4 : zs_in x4.toInt 0 7) {x5 : Int32} (h_x5 : zs_in x5.toInt 0 5) {x6 : Int32} (h_x6 : zs_in x6.toInt 0 5) {t1 : Int32} (h_t1 : zs_in t1.toInt 6 179) {t2 : Int32} {t3 : Int32} (h_t3 : zs_in t3.toInt 0 0) {c : Int} (hc : x4.toInt = c + 0) : zs_ok (BX0_tickleByNets_121 σ 38 x2 x3 x4 x5 x6 t1 t2 t3) (fun r => zs_sum (fun v => ((zs_C σ0 v.1 ∧ zs_in (v.2).toInt 1 8)) ∧ v.2.toInt = c + 1) (fun v => False) r) := by
  unfold BX0_tickleByNets_121
  obtain rfl : t3 = (0 : Int32) := zs_eqv h_t3 (by decide)
  refine zs_gd (zs_gin h_t1 (by decide)) ?_
  refine zs_lt (Q := fun z => zs_C σ0 z) (zs_wrt h_σ (fun _ => rfl) (fun _ => rfl)) (fun σ_2 hσ_2 => ?_)
  refine zs_gd (zs_gin (zs_addI 6 179 h_x2 h_x6 (by decide)) (by decide)) ?_
  refine zs_bd_ (zc_319 h_x5) (fun t_5 pt_5 => ?_)
  refine zs_ite (fun c1 => ?_) (fun c1 => ?_)
  · skip
    have r2 := (zs_I_eq c1)
    have g3 : zs_in (t_5).toInt 0 0 := (zs_eql 0 0 r2 pt_5 zlI_0 (by decide))
    obtain ⟨ret, er, hr⟩ := zc_320 hσ_2 h_x2 h_x4 (zs_addI 6 179 h_x2 h_x6 (by decide)) zlI_0 hc
    refine ⟨ret, er, ?_⟩
    exact (zs_sumw hr (fun v w => ⟨w.1, w.2⟩) (fun v w => w.elim))
  · skip
    have r4 := (zs_I_eqn c1)
    have g5 : zs_in (t_5).toInt 1 1 := (zs_nel 1 1 r4 pt_5 zlI_0 (by decide))
    obtain ⟨ret, er, hr⟩ := zc_321 hσ_2 h_x2 h_x4 (zs_addI 6 179 h_x2 h_x6 (by decide)) zlI_5 hc
    refine ⟨ret, er, ?_⟩
    exact (zs_sumw hr (fun v w => ⟨w.1, w.2⟩) (fun v w => w.elim))
-- BX0_tickleByNets_121
theorem zc_323 {σ0 : sn_S} {σ : sn_S} (h_σ : zs_C σ0 σ) {x2 : Int32} (h_x2 : zs_in x2.toInt 6 174) {x3 : Int32} {x4 : Int32} (h_x4 : zs_in x4.toInt 0 7) {x5 : Int32} (h_x5 : zs_in x5.toInt 0 5) {x6 : Int32} (h_x6 : zs_in x6.toInt 0 5) {t1 : Int32} (h_t1 : zs_in t1.toInt 6 179) {t2 : Int32} {t3 : Int32} (h_t3 : zs_in t3.toInt 5 5) {c : Int} (hc : x4.toInt = c + 0) : zs_ok (BX0_tickleByNets_121 σ 38 x2 x3 x4 x5 x6 t1 t2 t3) (fun r => zs_sum (fun v => ((zs_C σ0 v.1 ∧ zs_in (v.2).toInt 1 8)) ∧ v.2.toInt = c + 1) (fun v => False) r) := by
  unfold BX0_tickleByNets_121
  obtain rfl : t3 = (5 : Int32) := zs_eqv h_t3 (by decide)
  refine zs_gd (zs_gin h_t1 (by decide)) ?_
  refine zs_lt (Q := fun z => zs_C σ0 z) (zs_wrt h_σ (fun _ => rfl) (fun _ => rfl)) (fun σ_2 hσ_2 => ?_)
  refine zs_gd (zs_gin (zs_addI 6 179 h_x2 h_x6 (by decide)) (by decide)) ?_
  refine zs_bd_ (zc_319 h_x5) (fun t_5 pt_5 => ?_)
  refine zs_ite (fun c1 => ?_) (fun c1 => ?_)
  · skip
    have r2 := (zs_I_eq c1)
    have g3 : zs_in (t_5).toInt 0 0 := (zs_eql 0 0 r2 pt_5 zlI_0 (by decide))
    obtain ⟨ret, er, hr⟩ := zc_320 hσ_2 h_x2 h_x4 (zs_addI 6 179 h_x2 h_x6 (by decide)) zlI_0 hc
    refine ⟨ret, er, ?_⟩
    exact (zs_sumw hr (fun v w => ⟨w.1, w.2⟩) (fun v w => w.elim))
  · skip
    have r4 := (zs_I_eqn c1)
    have g5 : zs_in (t_5).toInt 1 1 := (zs_nel 1 1 r4 pt_5 zlI_0 (by decide))
    obtain ⟨ret, er, hr⟩ := zc_321 hσ_2 h_x2 h_x4 (zs_addI 6 179 h_x2 h_x6 (by decide)) zlI_5 hc
    refine ⟨ret, er, ?_⟩
    exact (zs_sumw hr (fun v w => ⟨w.1, w.2⟩) (fun v w => w.elim))
-- BX0_tickleByNets_55
theorem zc_324 {σ0 : sn_S} {σ : sn_S} (h_σ : zs_C σ0 σ) {x2 : Int32} (h_x2 : zs_in x2.toInt 6 174) {x3 : Int32} {x4 : Int32} (h_x4 : zs_in x4.toInt 0 8) {c : Int} (hc : x4.toInt = c + 0) : zs_ok (BX0_tickleByNets_55 σ 38 x2 x3 x4) (fun r => zs_sum (fun v => ((zs_C σ0 v.1 ∧ zs_in (v.2).toInt 1 8)) ∧ v.2.toInt = c + 1) (fun v => zs_C σ0 v) r) := by
  unfold BX0_tickleByNets_55
  refine zs_ite (fun c1 => ?_) (fun c1 => ?_)
  · skip
    have r2 := (zs_I_le c1)
    exact zs_some (zs_inr (h_σ))
  · skip
    have r3 := (zs_I_len c1)
    have g4 : zs_in (x4).toInt 0 7 := (zs_ltl 0 7 r3 h_x4 (zs_rdk (q := 38) (k := 2) (z := (0, 8)) h_σ.1 rfl) (by decide))
    have g5 : zs_in ((sn_I σ 38 2)).toInt 1 8 := (zs_ltr 1 8 r3 h_x4 (zs_rdk (q := 38) (k := 2) (z := (0, 8)) h_σ.1 rfl) (by decide))
    refine zs_ite (fun c6 => ?_) (fun c6 => ?_)
    · skip
      have r7 := (zs_I_eq c6)
      have g8 : zs_in ((sn_I σ 38 3)).toInt 0 7 := (zs_eqr 0 7 r7 g4 (zs_topI _) (by decide))
      obtain ⟨ret, er, hr⟩ := zc_318 h_σ h_x2 g4 hc
      refine ⟨ret, er, ?_⟩
      exact (zs_sumw hr (fun v w => ⟨w.1, w.2⟩) (fun v w => w.elim))
    · skip
      have r9 := (zs_I_eqn c6)
      refine zs_gd (zs_gin (zs_mulI 0 14 zlI_2 g4 (by decide)) (by decide)) ?_
      refine zs_lt (Q := fun z => zs_in z.toInt 0 5) (zs_use (h_σ.1.2 rfl).2.2.1.1 g4 (by decide) r3 (zs_i20 g4 (by decide))) (fun y_4 hy_4 => ?_)
      refine zs_gd (zs_gin (zs_addI 1 15 (zs_mulI 0 14 zlI_2 g4 (by decide)) zlI_1 (by decide)) (by decide)) ?_
      refine zs_lt (Q := fun z => zs_in z.toInt 0 5) (zs_use (h_σ.1.2 rfl).2.2.1.2 g4 (by decide) r3 (zs_i21 g4 (by decide))) (fun y_7 hy_7 => ?_)
      refine zs_gd (zs_gin (zs_addI 6 179 h_x2 hy_4 (by decide)) (by decide)) ?_
      refine zs_bd_ (zc_319 hy_7) (fun t_10 pt_10 => ?_)
      refine zs_ite (fun c10 => ?_) (fun c10 => ?_)
      · skip
        have r11 := (zs_I_eq c10)
        have g12 : zs_in (t_10).toInt 0 0 := (zs_eql 0 0 r11 pt_10 zlI_0 (by decide))
        obtain ⟨ret, er, hr⟩ := zc_322 h_σ h_x2 g4 hy_4 hy_7 (zs_addI 6 179 h_x2 hy_4 (by decide)) zlI_0 hc
        refine ⟨ret, er, ?_⟩
        exact (zs_sumw hr (fun v w => ⟨w.1, w.2⟩) (fun v w => w.elim))
      · skip
        have r13 := (zs_I_eqn c10)
        have g14 : zs_in (t_10).toInt 1 1 := (zs_nel 1 1 r13 pt_10 zlI_0 (by decide))
        obtain ⟨ret, er, hr⟩ := zc_323 h_σ h_x2 g4 hy_4 hy_7 (zs_addI 6 179 h_x2 hy_4 (by decide)) zlI_5 hc
        refine ⟨ret, er, ?_⟩
        exact (zs_sumw hr (fun v w => ⟨w.1, w.2⟩) (fun v w => w.elim))
theorem zd_56 {σ0 : sn_S} {x2 : Int32} (h_x2 : zs_in x2.toInt 6 174) {x3 : Int32} {s0 : (sn_S × Int32)} (h0 : (zs_C σ0 s0.1 ∧ zs_in (s0.2).toInt 0 8)) : zs_ok (sn_it (LX0_tickleByNets_55 38 x2 x3) 5000 s0) (fun t => zs_C σ0 t) := by
  refine zs_it (I := fun s => (zs_C σ0 s.1 ∧ zs_in (s.2).toInt 0 8)) (m := fun s => 8 - s.2.toInt) (fun s hs => ?_) (fun s hs => ?_) (by exact h0)
  · have h1 := hs.2; unfold zs_in at h1
    omega
  · obtain ⟨b, eb, hb⟩ := zc_324 hs.1 h_x2 hs.2 (c := s.2.toInt) (Int.add_zero _).symm
    exact ⟨b, eb, zs_sumw hb (fun v w => ⟨⟨w.1.1, (zs_w w.1.2 (by decide))⟩, by have := w.2; omega⟩) (fun v w => w)⟩
-- BX0_tickleByNets_155
theorem zc_325 {σ0 : sn_S} {σ : sn_S} (h_σ : zs_C σ0 σ) : zs_ok (BX0_tickleByNets_155 σ 38) (fun r => zs_C σ0 r) := by
  unfold BX0_tickleByNets_155
  exact zs_some h_σ
-- BX0_tickleByNets_46
theorem zc_326 {σ0 : sn_S} {σ : sn_S} (h_σ : zs_C σ0 σ) {x2 : Int32} (h_x2 : zs_in x2.toInt 6 174) {t0 : Int32} : zs_ok (BX0_tickleByNets_46 σ 38 x2 t0) (fun r => zs_C σ0 r) := by
  unfold BX0_tickleByNets_46
  refine zs_ite (fun c1 => ?_) (fun c1 => ?_)
  · skip
    have r2 := (zs_I_eq c1)
    have g3 : zs_in (t0).toInt 0 0 := (zs_eql 0 0 r2 (zs_topI _) zlI_0 (by decide))
    exact zs_some h_σ
  · skip
    have r4 := (zs_I_eqn c1)
    refine zs_bd_ (zd_56 h_x2 (s0 := (σ, (0 : Int32))) ⟨h_σ, (zs_w zlI_0 (by decide))⟩) (fun t_2 pt_2 => ?_)
    obtain ⟨ret, er, hr⟩ := zc_325 pt_2
    refine ⟨ret, er, ?_⟩
    exact hr
-- BX0_tickleByNets_30
theorem zc_327 {σ0 : sn_S} {σ : sn_S} (h_σ : zs_C σ0 σ) {x1 : Int32} (h_x1 : zs_in x1.toInt 0 29) {x2 : Int32} (h_x2 : zs_in x2.toInt 0 174) (hl_x1 : x2.toInt = 6 * x1.toInt) : zs_ok (BX0_tickleByNets_30 σ 38 x1 x2) (fun r => zs_C σ0 r) := by
  unfold BX0_tickleByNets_30
  refine zs_ite (fun c1 => ?_) (fun c1 => ?_)
  · skip
    have r2 := (zs_I_eq c1)
    have g3 : zs_in (x1).toInt 0 0 := (zs_eql 0 0 r2 h_x1 zlI_0 (by decide))
    have g4 : zs_in (x2).toInt 0 0 := (zs_lin 0 0 hl_x1 g3 (by decide))
    obtain ⟨ret, er, hr⟩ := zc_317 h_σ g4 zlI_0
    refine ⟨ret, er, ?_⟩
    exact hr
  · skip
    have r5 := (zs_I_eqn c1)
    have g6 : zs_in (x1).toInt 1 29 := (zs_nel 1 29 r5 h_x1 zlI_0 (by decide))
    have g7 : zs_in (x2).toInt 6 174 := (zs_lin 6 174 hl_x1 g6 (by decide))
    refine zs_gd (zs_gin (zs_subI 0 28 g6 zlI_1 (by decide)) (by decide)) ?_
    obtain ⟨ret, er, hr⟩ := zc_326 h_σ g7
    refine ⟨ret, er, ?_⟩
    exact hr
-- fX0_tickleByNets
theorem zc_328 {σ0 : sn_S} {σ : sn_S} (h_σ : zs_C σ0 σ) {x1 : Int32} (h_x1 : zs_in x1.toInt 0 29) : zs_ok (fX0_tickleByNets σ 38 x1) (fun r => zs_C σ0 r) := by
  unfold fX0_tickleByNets
  refine zs_lt (Q := fun z => zs_in z.toInt 0 174 ∧ z = ((6 : Int32) * x1)) ⟨(zs_mulI 0 174 zlI_6 h_x1 (by decide)), rfl⟩ (fun y_1 hy_1 => ?_)
  refine zs_bd_ (zd_55 h_x1 hy_1.1 (zs_linv hy_1.2 zlI_6 h_x1 (by decide)) (s0 := (σ, (0 : Int32))) ⟨h_σ, (zs_w zlI_0 (by decide))⟩) (fun t_3 pt_3 => ?_)
  obtain ⟨ret, er, hr⟩ := zc_327 pt_3 h_x1 hy_1.1 (zs_linv hy_1.2 zlI_6 h_x1 (by decide))
  refine ⟨ret, er, ?_⟩
  exact hr
-- fX0_cameAt
theorem zc_329 {σ0 : sn_S} {σ : sn_S} (h_σ : zs_C σ0 σ) {x1 : Int32} (h_x1 : zs_in x1.toInt 0 5) {x2 : Int32} (h_x2 : zs_in x2.toInt 0 29) : zs_ok (fX0_cameAt σ 38 x1 x2) (fun r => True) := by
  unfold fX0_cameAt
  refine zs_gd (zs_gin (zs_addI 0 179 (zs_mulI 0 174 zlI_6 h_x2 (by decide)) h_x1 (by decide)) (by decide)) ?_
  exact zs_some trivial
-- BX0_comesTo_19
theorem zc_330 {σ0 : sn_S} {σ : sn_S} (h_σ : zs_C σ0 σ) {x1 : Int32} (h_x1 : zs_in x1.toInt 0 5) {x2 : Int32} (h_x2 : zs_in x2.toInt 0 29) {t0 : Int32} (h_t0 : zs_in t0.toInt 0 0) : zs_ok (BX0_comesTo_19 σ 38 x1 x2 t0) (fun r => True) := by
  unfold BX0_comesTo_19
  obtain rfl : t0 = (0 : Int32) := zs_eqv h_t0 (by decide)
  refine zs_gd (zs_gin h_x1 (by decide)) ?_
  refine zs_gd (zs_gin h_x2 (by decide)) ?_
  refine zs_bd_ (zc_329 h_σ h_x1 h_x2) (fun t_3 pt_3 => ?_)
  exact zs_some trivial
-- BX0_comesTo_19
theorem zc_331 {σ0 : sn_S} {σ : sn_S} (h_σ : zs_C σ0 σ) {x1 : Int32} (h_x1 : zs_in x1.toInt 0 5) {x2 : Int32} (h_x2 : zs_in x2.toInt 0 29) {t0 : Int32} (h_t0 : zs_in t0.toInt 40 40) : zs_ok (BX0_comesTo_19 σ 38 x1 x2 t0) (fun r => True) := by
  unfold BX0_comesTo_19
  obtain rfl : t0 = (40 : Int32) := zs_eqv h_t0 (by decide)
  refine zs_gd (zs_gin h_x1 (by decide)) ?_
  refine zs_gd (zs_gin h_x2 (by decide)) ?_
  refine zs_bd_ (zc_329 h_σ h_x1 h_x2) (fun t_3 pt_3 => ?_)
  exact zs_some trivial
-- fX0_comesTo
theorem zc_332 {σ0 : sn_S} {σ : sn_S} (h_σ : zs_C σ0 σ) {x1 : Int32} (h_x1 : zs_in x1.toInt 0 5) {x2 : Int32} (h_x2 : zs_in x2.toInt 0 29) : zs_ok (fX0_comesTo σ 38 x1 x2) (fun r => True) := by
  unfold fX0_comesTo
  refine zs_gd (zs_gin h_x1 (by decide)) ?_
  refine zs_bd_ (zc_221 h_x2) (fun t_2 pt_2 => ?_)
  refine zs_ite (fun c1 => ?_) (fun c1 => ?_)
  · skip
    have r2 := (zs_I_eq c1)
    have g3 : zs_in (t_2).toInt 0 0 := (zs_eql 0 0 r2 pt_2 zlI_0 (by decide))
    obtain ⟨ret, er, hr⟩ := zc_330 h_σ h_x1 h_x2 zlI_0
    refine ⟨ret, er, ?_⟩
    exact hr
  · skip
    have r4 := (zs_I_eqn c1)
    have g5 : zs_in (t_2).toInt 1 1 := (zs_nel 1 1 r4 pt_2 zlI_0 (by decide))
    obtain ⟨ret, er, hr⟩ := zc_331 h_σ h_x1 h_x2 zlI_40
    refine ⟨ret, er, ?_⟩
    exact hr
-- BX0_liveMinute_98
theorem zc_333 {σ0 : sn_S} {σ : sn_S} (h_σ : zs_C σ0 σ) {x1 : Int32} (h_x1 : zs_in x1.toInt 0 0) {x2 : Int32} (h_x2 : zs_in x2.toInt 0 0) {x3 : Int32} {x4 : Int32} (h_x4 : zs_in x4.toInt 0 5) {x5 : Int32} (h_x5 : zs_in x5.toInt (-2147483648) 2147483646) (hl_x1 : x2.toInt = 6 * x1.toInt) {c : Int} (hc : x4.toInt = c + 0) : zs_ok (BX0_liveMinute_98 σ 38 x1 x2 x3 x4 x5) (fun r => zs_sum (fun v => ((zs_C σ0 v.1 ∧ (True ∧ zs_in (v.2.2).toInt 1 6))) ∧ v.2.2.toInt = c + 1) (fun v => False) r) := by
  unfold BX0_liveMinute_98
  refine zs_gd (zs_gin (zs_addI 0 5 h_x2 h_x4 (by decide)) (by decide)) ?_
  refine zs_lt (Q := fun z => zs_C σ0 z) (zs_wrt h_σ (fun _ => rfl) (fun _ => rfl)) (fun σ_2 hσ_2 => ?_)
  refine zs_lt (Q := fun z => zs_in z.toInt 1 6 ∧ z.toInt = c + 1) ⟨(zs_addI 1 6 h_x4 zlI_1 (by decide)), (zs_syI 1 hc h_x4 zlI_1 (by decide) (by decide))⟩ (fun y_4 hy_4 => ?_)
  exact zs_some (zs_inl ⟨⟨hσ_2, ⟨trivial, hy_4.1⟩⟩, hy_4.2⟩)
-- fX8_hasBit
theorem zc_334 {x0 : Int32} {x1 : Int32} (h_x1 : zs_in x1.toInt 0 0) : zs_ok (fX8_hasBit x0 x1) (fun r => zs_in (r).toInt 0 1) := by
  unfold fX8_hasBit
  obtain rfl : x1 = (0 : Int32) := zs_eqv h_x1 (by decide)
  refine zs_ite (fun c1 => ?_) (fun c1 => ?_)
  · skip
    have r2 := (zs_I_eq c1)
    have g3 : zs_in (((x0 >>> ((0 : Int32) &&& 31)) &&& (1 : Int32))).toInt 1 1 := (zs_eql 1 1 r2 (zs_and zlI_1 (by decide)) zlI_1 (by decide))
    refine zs_gd (zs_b01 zlI_1 (by decide)) ?_
    exact zs_some (zs_w zlI_1 (by decide))
  · skip
    have r4 := (zs_I_eqn c1)
    have g5 : zs_in (((x0 >>> ((0 : Int32) &&& 31)) &&& (1 : Int32))).toInt 0 0 := (zs_neh 0 0 r4 (zs_and zlI_1 (by decide)) zlI_1 (by decide))
    refine zs_gd (zs_b01 zlI_0 (by decide)) ?_
    exact zs_some (zs_w zlI_0 (by decide))
-- BX0_liveMinute_98
theorem zc_335 {σ0 : sn_S} {σ : sn_S} (h_σ : zs_C σ0 σ) {x1 : Int32} (h_x1 : zs_in x1.toInt 0 0) {x2 : Int32} (h_x2 : zs_in x2.toInt 0 0) {x3 : Int32} {x4 : Int32} (h_x4 : zs_in x4.toInt 0 5) {x5 : Int32} (h_x5 : zs_in x5.toInt 0 0) (hl_x1 : x2.toInt = 6 * x1.toInt) {c : Int} (hc : x4.toInt = c + 0) : zs_ok (BX0_liveMinute_98 σ 38 x1 x2 x3 x4 x5) (fun r => zs_sum (fun v => ((zs_C σ0 v.1 ∧ (True ∧ zs_in (v.2.2).toInt 1 6))) ∧ v.2.2.toInt = c + 1) (fun v => False) r) := by
  unfold BX0_liveMinute_98
  obtain rfl : x5 = (0 : Int32) := zs_eqv h_x5 (by decide)
  refine zs_gd (zs_gin (zs_addI 0 5 h_x2 h_x4 (by decide)) (by decide)) ?_
  refine zs_lt (Q := fun z => zs_C σ0 z) (zs_wrt h_σ (fun _ => rfl) (fun _ => rfl)) (fun σ_2 hσ_2 => ?_)
  refine zs_lt (Q := fun z => zs_in z.toInt 1 6 ∧ z.toInt = c + 1) ⟨(zs_addI 1 6 h_x4 zlI_1 (by decide)), (zs_syI 1 hc h_x4 zlI_1 (by decide) (by decide))⟩ (fun y_4 hy_4 => ?_)
  exact zs_some (zs_inl ⟨⟨hσ_2, ⟨trivial, hy_4.1⟩⟩, hy_4.2⟩)
-- BX0_liveMinute_98
theorem zc_336 {σ0 : sn_S} {σ : sn_S} (h_σ : zs_C σ0 σ) {x1 : Int32} (h_x1 : zs_in x1.toInt 0 0) {x2 : Int32} (h_x2 : zs_in x2.toInt 0 0) {x3 : Int32} {x4 : Int32} (h_x4 : zs_in x4.toInt 0 5) {x5 : Int32} (hl_x1 : x2.toInt = 6 * x1.toInt) {c : Int} (hc : x4.toInt = c + 0) : zs_ok (BX0_liveMinute_98 σ 38 x1 x2 x3 x4 x5) (fun r => zs_sum (fun v => ((zs_C σ0 v.1 ∧ (True ∧ zs_in (v.2.2).toInt 1 6))) ∧ v.2.2.toInt = c + 1) (fun v => False) r) := by
  unfold BX0_liveMinute_98
  refine zs_gd (zs_gin (zs_addI 0 5 h_x2 h_x4 (by decide)) (by decide)) ?_
  refine zs_lt (Q := fun z => zs_C σ0 z) (zs_wrt h_σ (fun _ => rfl) (fun _ => rfl)) (fun σ_2 hσ_2 => ?_)
  refine zs_lt (Q := fun z => zs_in z.toInt 1 6 ∧ z.toInt = c + 1) ⟨(zs_addI 1 6 h_x4 zlI_1 (by decide)), (zs_syI 1 hc h_x4 zlI_1 (by decide) (by decide))⟩ (fun y_4 hy_4 => ?_)
  exact zs_some (zs_inl ⟨⟨hσ_2, ⟨trivial, hy_4.1⟩⟩, hy_4.2⟩)
-- BX0_liveMinute_46
theorem zc_337 {σ0 : sn_S} {σ : sn_S} (h_σ : zs_C σ0 σ) {x1 : Int32} (h_x1 : zs_in x1.toInt 0 0) {x2 : Int32} (h_x2 : zs_in x2.toInt 0 0) {x3 : Int32} {x4 : Int32} (h_x4 : zs_in x4.toInt 0 5) {t0 : Int32} {t1 : Int32} (h_t1 : zs_in t1.toInt 0 0) (hl_x1 : x2.toInt = 6 * x1.toInt) {c : Int} (hc : x4.toInt = c + 0) : zs_ok (BX0_liveMinute_46 σ 38 x1 x2 x3 x4 t0 t1) (fun r => zs_sum (fun v => ((zs_C σ0 v.1 ∧ (True ∧ zs_in (v.2.2).toInt 1 6))) ∧ v.2.2.toInt = c + 1) (fun v => False) r) := by
  unfold BX0_liveMinute_46
  obtain rfl : t1 = (0 : Int32) := zs_eqv h_t1 (by decide)
  refine zs_lt (Q := fun z => True) trivial (fun y_1 hy_1 => ?_)
  refine zs_gd (zs_gin h_x4 (by decide)) ?_
  refine zs_ite (fun c1 => ?_) (fun c1 => ?_)
  · skip
    have r2 := (zs_I_lt c1)
    have g3 : zs_in (y_1).toInt (-2147483648) 2147483646 := (zs_ltl (-2147483648) 2147483646 r2 (zs_topI _) (zs_topI _) (by decide))
    have g4 : zs_in ((sn_I σ (38 + 3) x4.toNatClampNeg)).toInt (-2147483647) 2147483647 := (zs_ltr (-2147483647) 2147483647 r2 (zs_topI _) (zs_topI _) (by decide))
    obtain ⟨ret, er, hr⟩ := zc_333 h_σ h_x1 h_x2 h_x4 g3 hl_x1 hc
    refine ⟨ret, er, ?_⟩
    exact (zs_sumw hr (fun v w => ⟨w.1, w.2⟩) (fun v w => w.elim))
  · skip
    have r5 := (zs_I_ltn c1)
    refine zs_gd (zs_gin h_x4 (by decide)) ?_
    refine zs_bd_ (zc_334 h_x1) (fun t_6 pt_6 => ?_)
    refine zs_ite (fun c6 => ?_) (fun c6 => ?_)
    · skip
      have r7 := (zs_I_eq c6)
      have g8 : zs_in (t_6).toInt 0 0 := (zs_eql 0 0 r7 pt_6 zlI_0 (by decide))
      refine zs_lt (Q := fun z => True) trivial (fun y_9 hy_9 => ?_)
      refine zs_gd (zs_gin h_x4 (by decide)) ?_
      refine zs_gd (zs_gin h_x4 (by decide)) ?_
      refine zs_lt (Q := fun z => zs_C σ0 z) (zs_wru (z := (0, 1073741823)) h_σ (fun _ => rfl) (zs_or 30 1073741823 (zs_rdu (q := 48) (z := (0, 1073741823)) h_σ.1 (fun _ => rfl)) (zs_cases h_x1 (fun z => zs_in ((1 : Int32) <<< (z &&& 31)).toInt 1 1) (by decide +kernel)) (by decide)) (by decide) (fun _ => rfl)) (fun σ_13 hσ_13 => ?_)
      obtain ⟨ret, er, hr⟩ := zc_335 hσ_13 h_x1 h_x2 h_x4 zlI_0 hl_x1 hc
      refine ⟨ret, er, ?_⟩
      exact (zs_sumw hr (fun v w => ⟨w.1, w.2⟩) (fun v w => w.elim))
    · skip
      have r9 := (zs_I_eqn c6)
      have g10 : zs_in (t_6).toInt 1 1 := (zs_nel 1 1 r9 pt_6 zlI_0 (by decide))
      obtain ⟨ret, er, hr⟩ := zc_336 h_σ h_x1 h_x2 h_x4 hl_x1 hc
      refine ⟨ret, er, ?_⟩
      exact (zs_sumw hr (fun v w => ⟨w.1, w.2⟩) (fun v w => w.elim))
-- BX0_liveMinute_98
theorem zc_338 {σ0 : sn_S} {σ : sn_S} (h_σ : zs_C σ0 σ) {x1 : Int32} (h_x1 : zs_in x1.toInt 1 29) {x2 : Int32} (h_x2 : zs_in x2.toInt 6 174) {x3 : Int32} {x4 : Int32} (h_x4 : zs_in x4.toInt 0 5) {x5 : Int32} (h_x5 : zs_in x5.toInt (-2147483648) 2147483646) (hl_x1 : x2.toInt = 6 * x1.toInt) {c : Int} (hc : x4.toInt = c + 0) : zs_ok (BX0_liveMinute_98 σ 38 x1 x2 x3 x4 x5) (fun r => zs_sum (fun v => ((zs_C σ0 v.1 ∧ (True ∧ zs_in (v.2.2).toInt 1 6))) ∧ v.2.2.toInt = c + 1) (fun v => False) r) := by
  unfold BX0_liveMinute_98
  refine zs_gd (zs_gin (zs_addI 6 179 h_x2 h_x4 (by decide)) (by decide)) ?_
  refine zs_lt (Q := fun z => zs_C σ0 z) (zs_wrt h_σ (fun _ => rfl) (fun _ => rfl)) (fun σ_2 hσ_2 => ?_)
  refine zs_lt (Q := fun z => zs_in z.toInt 1 6 ∧ z.toInt = c + 1) ⟨(zs_addI 1 6 h_x4 zlI_1 (by decide)), (zs_syI 1 hc h_x4 zlI_1 (by decide) (by decide))⟩ (fun y_4 hy_4 => ?_)
  exact zs_some (zs_inl ⟨⟨hσ_2, ⟨trivial, hy_4.1⟩⟩, hy_4.2⟩)
-- fX8_hasBit
theorem zc_339 {x0 : Int32} {x1 : Int32} (h_x1 : zs_in x1.toInt 1 29) : zs_ok (fX8_hasBit x0 x1) (fun r => zs_in (r).toInt 0 1) := by
  unfold fX8_hasBit
  refine zs_ite (fun c1 => ?_) (fun c1 => ?_)
  · skip
    have r2 := (zs_I_eq c1)
    have g3 : zs_in (((x0 >>> (x1 &&& 31)) &&& (1 : Int32))).toInt 1 1 := (zs_eql 1 1 r2 (zs_and zlI_1 (by decide)) zlI_1 (by decide))
    refine zs_gd (zs_b01 zlI_1 (by decide)) ?_
    exact zs_some (zs_w zlI_1 (by decide))
  · skip
    have r4 := (zs_I_eqn c1)
    have g5 : zs_in (((x0 >>> (x1 &&& 31)) &&& (1 : Int32))).toInt 0 0 := (zs_neh 0 0 r4 (zs_and zlI_1 (by decide)) zlI_1 (by decide))
    refine zs_gd (zs_b01 zlI_0 (by decide)) ?_
    exact zs_some (zs_w zlI_0 (by decide))
-- BX0_liveMinute_98
theorem zc_340 {σ0 : sn_S} {σ : sn_S} (h_σ : zs_C σ0 σ) {x1 : Int32} (h_x1 : zs_in x1.toInt 1 29) {x2 : Int32} (h_x2 : zs_in x2.toInt 6 174) {x3 : Int32} {x4 : Int32} (h_x4 : zs_in x4.toInt 0 5) {x5 : Int32} (h_x5 : zs_in x5.toInt 0 0) (hl_x1 : x2.toInt = 6 * x1.toInt) {c : Int} (hc : x4.toInt = c + 0) : zs_ok (BX0_liveMinute_98 σ 38 x1 x2 x3 x4 x5) (fun r => zs_sum (fun v => ((zs_C σ0 v.1 ∧ (True ∧ zs_in (v.2.2).toInt 1 6))) ∧ v.2.2.toInt = c + 1) (fun v => False) r) := by
  unfold BX0_liveMinute_98
  obtain rfl : x5 = (0 : Int32) := zs_eqv h_x5 (by decide)
  refine zs_gd (zs_gin (zs_addI 6 179 h_x2 h_x4 (by decide)) (by decide)) ?_
  refine zs_lt (Q := fun z => zs_C σ0 z) (zs_wrt h_σ (fun _ => rfl) (fun _ => rfl)) (fun σ_2 hσ_2 => ?_)
  refine zs_lt (Q := fun z => zs_in z.toInt 1 6 ∧ z.toInt = c + 1) ⟨(zs_addI 1 6 h_x4 zlI_1 (by decide)), (zs_syI 1 hc h_x4 zlI_1 (by decide) (by decide))⟩ (fun y_4 hy_4 => ?_)
  exact zs_some (zs_inl ⟨⟨hσ_2, ⟨trivial, hy_4.1⟩⟩, hy_4.2⟩)
-- BX0_liveMinute_98
theorem zc_341 {σ0 : sn_S} {σ : sn_S} (h_σ : zs_C σ0 σ) {x1 : Int32} (h_x1 : zs_in x1.toInt 1 29) {x2 : Int32} (h_x2 : zs_in x2.toInt 6 174) {x3 : Int32} {x4 : Int32} (h_x4 : zs_in x4.toInt 0 5) {x5 : Int32} (hl_x1 : x2.toInt = 6 * x1.toInt) {c : Int} (hc : x4.toInt = c + 0) : zs_ok (BX0_liveMinute_98 σ 38 x1 x2 x3 x4 x5) (fun r => zs_sum (fun v => ((zs_C σ0 v.1 ∧ (True ∧ zs_in (v.2.2).toInt 1 6))) ∧ v.2.2.toInt = c + 1) (fun v => False) r) := by
  unfold BX0_liveMinute_98
  refine zs_gd (zs_gin (zs_addI 6 179 h_x2 h_x4 (by decide)) (by decide)) ?_
  refine zs_lt (Q := fun z => zs_C σ0 z) (zs_wrt h_σ (fun _ => rfl) (fun _ => rfl)) (fun σ_2 hσ_2 => ?_)
  refine zs_lt (Q := fun z => zs_in z.toInt 1 6 ∧ z.toInt = c + 1) ⟨(zs_addI 1 6 h_x4 zlI_1 (by decide)), (zs_syI 1 hc h_x4 zlI_1 (by decide) (by decide))⟩ (fun y_4 hy_4 => ?_)
  exact zs_some (zs_inl ⟨⟨hσ_2, ⟨trivial, hy_4.1⟩⟩, hy_4.2⟩)
-- BX0_liveMinute_46
theorem zc_342 {σ0 : sn_S} {σ : sn_S} (h_σ : zs_C σ0 σ) {x1 : Int32} (h_x1 : zs_in x1.toInt 1 29) {x2 : Int32} (h_x2 : zs_in x2.toInt 6 174) {x3 : Int32} {x4 : Int32} (h_x4 : zs_in x4.toInt 0 5) {t0 : Int32} {t1 : Int32} (hl_x1 : x2.toInt = 6 * x1.toInt) {c : Int} (hc : x4.toInt = c + 0) : zs_ok (BX0_liveMinute_46 σ 38 x1 x2 x3 x4 t0 t1) (fun r => zs_sum (fun v => ((zs_C σ0 v.1 ∧ (True ∧ zs_in (v.2.2).toInt 1 6))) ∧ v.2.2.toInt = c + 1) (fun v => False) r) := by
  unfold BX0_liveMinute_46
  refine zs_lt (Q := fun z => True) trivial (fun y_1 hy_1 => ?_)
  refine zs_gd (zs_gin h_x4 (by decide)) ?_
  refine zs_ite (fun c1 => ?_) (fun c1 => ?_)
  · skip
    have r2 := (zs_I_lt c1)
    have g3 : zs_in (y_1).toInt (-2147483648) 2147483646 := (zs_ltl (-2147483648) 2147483646 r2 (zs_topI _) (zs_topI _) (by decide))
    have g4 : zs_in ((sn_I σ (38 + 3) x4.toNatClampNeg)).toInt (-2147483647) 2147483647 := (zs_ltr (-2147483647) 2147483647 r2 (zs_topI _) (zs_topI _) (by decide))
    obtain ⟨ret, er, hr⟩ := zc_338 h_σ h_x1 h_x2 h_x4 g3 hl_x1 hc
    refine ⟨ret, er, ?_⟩
    exact (zs_sumw hr (fun v w => ⟨w.1, w.2⟩) (fun v w => w.elim))
  · skip
    have r5 := (zs_I_ltn c1)
    refine zs_gd (zs_gin h_x4 (by decide)) ?_
    refine zs_bd_ (zc_339 h_x1) (fun t_6 pt_6 => ?_)
    refine zs_ite (fun c6 => ?_) (fun c6 => ?_)
    · skip
      have r7 := (zs_I_eq c6)
      have g8 : zs_in (t_6).toInt 0 0 := (zs_eql 0 0 r7 pt_6 zlI_0 (by decide))
      refine zs_lt (Q := fun z => True) trivial (fun y_9 hy_9 => ?_)
      refine zs_gd (zs_gin h_x4 (by decide)) ?_
      refine zs_gd (zs_gin h_x4 (by decide)) ?_
      refine zs_lt (Q := fun z => zs_C σ0 z) (zs_wru (z := (0, 1073741823)) h_σ (fun _ => rfl) (zs_or 30 1073741823 (zs_rdu (q := 48) (z := (0, 1073741823)) h_σ.1 (fun _ => rfl)) (zs_cases h_x1 (fun z => zs_in ((1 : Int32) <<< (z &&& 31)).toInt 2 536870912) (by decide +kernel)) (by decide)) (by decide) (fun _ => rfl)) (fun σ_13 hσ_13 => ?_)
      obtain ⟨ret, er, hr⟩ := zc_340 hσ_13 h_x1 h_x2 h_x4 zlI_0 hl_x1 hc
      refine ⟨ret, er, ?_⟩
      exact (zs_sumw hr (fun v w => ⟨w.1, w.2⟩) (fun v w => w.elim))
    · skip
      have r9 := (zs_I_eqn c6)
      have g10 : zs_in (t_6).toInt 1 1 := (zs_nel 1 1 r9 pt_6 zlI_0 (by decide))
      obtain ⟨ret, er, hr⟩ := zc_341 h_σ h_x1 h_x2 h_x4 hl_x1 hc
      refine ⟨ret, er, ?_⟩
      exact (zs_sumw hr (fun v w => ⟨w.1, w.2⟩) (fun v w => w.elim))
-- BX0_liveMinute_10
theorem zc_343 {σ0 : sn_S} {σ : sn_S} (h_σ : zs_C σ0 σ) {x1 : Int32} (h_x1 : zs_in x1.toInt 0 29) {x2 : Int32} (h_x2 : zs_in x2.toInt 0 174) {x3 : Int32} {x4 : Int32} (h_x4 : zs_in x4.toInt 0 6) (hl_x1 : x2.toInt = 6 * x1.toInt) {c : Int} (hc : x4.toInt = c + 0) : zs_ok (BX0_liveMinute_10 σ 38 x1 x2 x3 x4) (fun r => zs_sum (fun v => ((zs_C σ0 v.1 ∧ (True ∧ zs_in (v.2.2).toInt 1 6))) ∧ v.2.2.toInt = c + 1) (fun v => (zs_C σ0 v.1 ∧ True)) r) := by
  unfold BX0_liveMinute_10
  refine zs_ite (fun c1 => ?_) (fun c1 => ?_)
  · skip
    have r2 := (zs_I_le c1)
    exact zs_some (zs_inr (⟨h_σ, trivial⟩))
  · skip
    have r3 := (zs_I_len c1)
    have g4 : zs_in (x4).toInt 0 5 := (zs_ltl 0 5 r3 h_x4 (zs_rdk (q := 38) (k := 1) (z := (0, 6)) h_σ.1 rfl) (by decide))
    have g5 : zs_in ((sn_I σ 38 1)).toInt 1 6 := (zs_ltr 1 6 r3 h_x4 (zs_rdk (q := 38) (k := 1) (z := (0, 6)) h_σ.1 rfl) (by decide))
    refine zs_bd_ (zc_332 h_σ g4 h_x1) (fun t_2 pt_2 => ?_)
    refine zs_ite (fun c6 => ?_) (fun c6 => ?_)
    · skip
      have r7 := (zs_I_eq c6)
      have g8 : zs_in (x1).toInt 0 0 := (zs_eql 0 0 r7 h_x1 zlI_0 (by decide))
      have g9 : zs_in (x2).toInt 0 0 := (zs_lin 0 0 hl_x1 g8 (by decide))
      obtain ⟨ret, er, hr⟩ := zc_337 h_σ g8 g9 g4 zlI_0 hl_x1 hc
      refine ⟨ret, er, ?_⟩
      exact (zs_sumw hr (fun v w => ⟨w.1, w.2⟩) (fun v w => w.elim))
    · skip
      have r10 := (zs_I_eqn c6)
      have g11 : zs_in (x1).toInt 1 29 := (zs_nel 1 29 r10 h_x1 zlI_0 (by decide))
      have g12 : zs_in (x2).toInt 6 174 := (zs_lin 6 174 hl_x1 g11 (by decide))
      refine zs_gd (zs_gin (zs_addI 0 173 (zs_subI 0 168 g12 zlI_6 (by decide)) g4 (by decide)) (by decide)) ?_
      obtain ⟨ret, er, hr⟩ := zc_342 h_σ g11 g12 g4 hl_x1 hc
      refine ⟨ret, er, ?_⟩
      exact (zs_sumw hr (fun v w => ⟨w.1, w.2⟩) (fun v w => w.elim))
theorem zd_57 {σ0 : sn_S} {x1 : Int32} (h_x1 : zs_in x1.toInt 0 29) {x2 : Int32} (h_x2 : zs_in x2.toInt 0 174) (hl_x1 : x2.toInt = 6 * x1.toInt) {s0 : (sn_S × (Int32 × Int32))} (h0 : (zs_C σ0 s0.1 ∧ (True ∧ zs_in (s0.2.2).toInt 0 6))) : zs_ok (sn_it (LX0_liveMinute_10 38 x1 x2) 5000 s0) (fun t => (zs_C σ0 t.1 ∧ True)) := by
  refine zs_it (I := fun s => (zs_C σ0 s.1 ∧ (True ∧ zs_in (s.2.2).toInt 0 6))) (m := fun s => 6 - s.2.2.toInt) (fun s hs => ?_) (fun s hs => ?_) (by exact h0)
  · have h1 := hs.2.2; unfold zs_in at h1
    omega
  · obtain ⟨b, eb, hb⟩ := zc_343 hs.1 h_x1 h_x2 hs.2.2 hl_x1 (c := s.2.2.toInt) (Int.add_zero _).symm
    exact ⟨b, eb, zs_sumw hb (fun v w => ⟨⟨w.1.1, ⟨w.1.2.1, (zs_w w.1.2.2 (by decide))⟩⟩, by have := w.2; omega⟩) (fun v w => w)⟩
-- BX0_liveMinute_115
theorem zc_344 {σ0 : sn_S} {σ : sn_S} (h_σ : zs_C σ0 σ) {x1 : Int32} (h_x1 : zs_in x1.toInt 0 29) {x3 : Int32} : zs_ok (BX0_liveMinute_115 σ 38 x1 x3) (fun r => zs_C σ0 r) := by
  unfold BX0_liveMinute_115
  refine zs_gd (zs_gin h_x1 (by decide)) ?_
  refine zs_lt (Q := fun z => zs_C σ0 z) (zs_wrt h_σ (fun _ => rfl) (fun _ => rfl)) (fun σ_2 hσ_2 => ?_)
  exact zs_some hσ_2
-- fX0_liveMinute
theorem zc_345 {σ0 : sn_S} {σ : sn_S} (h_σ : zs_C σ0 σ) {x1 : Int32} (h_x1 : zs_in x1.toInt 0 29) : zs_ok (fX0_liveMinute σ 38 x1) (fun r => zs_C σ0 r) := by
  unfold fX0_liveMinute
  refine zs_lt (Q := fun z => zs_in z.toInt 0 174 ∧ z = ((6 : Int32) * x1)) ⟨(zs_mulI 0 174 zlI_6 h_x1 (by decide)), rfl⟩ (fun y_1 hy_1 => ?_)
  refine zs_bd_ (zd_57 h_x1 hy_1.1 (zs_linv hy_1.2 zlI_6 h_x1 (by decide)) (s0 := (σ, ((0 : Int32), (0 : Int32)))) ⟨h_σ, ⟨trivial, (zs_w zlI_0 (by decide))⟩⟩) (fun t_3 pt_3 => ?_)
  obtain ⟨ret, er, hr⟩ := zc_344 pt_3.1 h_x1
  refine ⟨ret, er, ?_⟩
  exact hr
-- BX0_live_31
theorem zc_346 {σ0 : sn_S} {σ : sn_S} (h_σ : zs_C σ0 σ) {x2 : Int32} (h_x2 : zs_in x2.toInt 0 30) {x3 : Int32} (h_x3 : zs_in x3.toInt 0 30) {c : Int} (hc : x3.toInt = c + 0) : zs_ok (BX0_live_31 σ 38 x2 x3) (fun r => zs_sum (fun v => ((zs_C σ0 v.1 ∧ zs_in (v.2).toInt 1 30)) ∧ v.2.toInt = c + 1) (fun v => zs_C σ0 v) r) := by
  unfold BX0_live_31
  refine zs_ite (fun c1 => ?_) (fun c1 => ?_)
  · skip
    have r2 := (zs_I_le c1)
    exact zs_some (zs_inr (h_σ))
  · skip
    have r3 := (zs_I_len c1)
    have g4 : zs_in (x3).toInt 0 29 := (zs_ltl 0 29 r3 h_x3 h_x2 (by decide))
    have g5 : zs_in (x2).toInt 1 30 := (zs_ltr 1 30 r3 h_x3 h_x2 (by decide))
    refine zs_ite (fun c6 => ?_) (fun c6 => ?_)
    · skip
      have r7 := (zs_I_le c6)
      have g8 : zs_in ((sn_I σ 38 0)).toInt 0 29 := (zs_lel 0 29 r7 (zs_rdk (q := 38) (k := 0) (z := (0, 30)) h_σ.1 rfl) g4 (by decide))
      exact zs_some (zs_inr (h_σ))
    · skip
      have r9 := (zs_I_len c6)
      have g10 : zs_in ((sn_I σ 38 0)).toInt 1 30 := (zs_ltr 1 30 r9 g4 (zs_rdk (q := 38) (k := 0) (z := (0, 30)) h_σ.1 rfl) (by decide))
      refine zs_bd_ (zc_328 h_σ g4) (fun t_3 pt_3 => ?_)
      refine zs_bd_ (zc_345 pt_3 g4) (fun t_5 pt_5 => ?_)
      refine zs_lt (Q := fun z => zs_in z.toInt 1 30 ∧ z.toInt = c + 1) ⟨(zs_addI 1 30 g4 zlI_1 (by decide)), (zs_syI 1 hc g4 zlI_1 (by decide) (by decide))⟩ (fun y_7 hy_7 => ?_)
      exact zs_some (zs_inl ⟨⟨pt_5, hy_7.1⟩, hy_7.2⟩)
theorem zd_58 {σ0 : sn_S} {x2 : Int32} (h_x2 : zs_in x2.toInt 0 30) {s0 : (sn_S × Int32)} (h0 : (zs_C σ0 s0.1 ∧ zs_in (s0.2).toInt 0 30)) : zs_ok (sn_it (LX0_live_31 38 x2) 5000 s0) (fun t => zs_C σ0 t) := by
  refine zs_it (I := fun s => (zs_C σ0 s.1 ∧ zs_in (s.2).toInt 0 30)) (m := fun s => 30 - s.2.toInt) (fun s hs => ?_) (fun s hs => ?_) (by exact h0)
  · have h1 := hs.2; unfold zs_in at h1
    omega
  · obtain ⟨b, eb, hb⟩ := zc_346 hs.1 h_x2 hs.2 (c := s.2.toInt) (Int.add_zero _).symm
    exact ⟨b, eb, zs_sumw hb (fun v w => ⟨⟨w.1.1, (zs_w w.1.2 (by decide))⟩, by have := w.2; omega⟩) (fun v w => w)⟩
-- BX0_live_60
theorem zc_347 {σ0 : sn_S} {σ : sn_S} (h_σ : zs_C σ0 σ) : zs_ok (BX0_live_60 σ 38) (fun r => zs_C σ0 r) := by
  unfold BX0_live_60
  exact zs_some h_σ
-- BX0_live_29
theorem zc_348 {σ0 : sn_S} {σ : sn_S} (h_σ : zs_C σ0 σ) {x1 : Int32} (h_x1 : zs_in x1.toInt 0 0) {x2 : Int32} (h_x2 : zs_in x2.toInt 0 30) : zs_ok (BX0_live_29 σ 38 x1 x2) (fun r => zs_C σ0 r) := by
  unfold BX0_live_29
  obtain rfl : x1 = (0 : Int32) := zs_eqv h_x1 (by decide)
  refine zs_bd_ (zd_58 h_x2 (s0 := (σ, (0 : Int32))) ⟨h_σ, (zs_w h_x1 (by decide))⟩) (fun t_1 pt_1 => ?_)
  obtain ⟨ret, er, hr⟩ := zc_347 pt_1
  refine ⟨ret, er, ?_⟩
  exact hr
-- fX0_live
theorem zc_349 {σ0 : sn_S} {σ : sn_S} (h_σ : zs_C σ0 σ) {x1 : Int32} (h_x1 : zs_in x1.toInt 0 0) {x2 : Int32} (h_x2 : zs_in x2.toInt 0 30) : zs_ok (fX0_live σ 38 x1 x2) (fun r => zs_C σ0 r) := by
  unfold fX0_live
  obtain rfl : x1 = (0 : Int32) := zs_eqv h_x1 (by decide)
  refine zs_bd_ (zd_54 h_x1 h_x2 (s0 := (σ, (0 : Int32))) ⟨h_σ, (zs_w zlI_0 (by decide))⟩) (fun t_1 pt_1 => ?_)
  obtain ⟨ret, er, hr⟩ := zc_348 pt_1 h_x1 h_x2
  refine ⟨ret, er, ?_⟩
  exact hr
-- fX0_liveWhole
theorem zc_350 {σ0 : sn_S} {σ : sn_S} (h_σ : zs_C σ0 σ) : zs_ok (fX0_liveWhole σ 38) (fun r => zs_C σ0 r) := by
  unfold fX0_liveWhole
  refine zs_bd_ (zc_349 h_σ zlI_0 (zs_rdk (q := 38) (k := 0) (z := (0, 30)) h_σ.1 rfl)) (fun t_1 pt_1 => ?_)
  exact zs_some pt_1
-- BX8_dull_25
theorem zc_351 {σ0 : sn_S} {σ : sn_S} (h_σ : zs_C σ0 σ) {x1 : Int32} (h_x1 : zs_in x1.toInt 0 5) {x2 : Int32} (h_x2 : zs_in x2.toInt (-1) 9) {c : Int} (hc : x2.toInt = c + 0) : zs_ok (BX8_dull_25 σ x1 x2) (fun r => zs_sum (fun v => ((zs_C σ0 v.1 ∧ zs_in (v.2).toInt (-1) 8)) ∧ v.2.toInt = c + (-1)) (fun v => zs_sum (fun v => zs_C σ0 v) (fun v => (zs_in (v.1).toInt 0 9 ∧ zs_C σ0 v.2)) v) r) := by
  unfold BX8_dull_25
  refine zs_ite (fun c1 => ?_) (fun c1 => ?_)
  · skip
    have r2 := (zs_I_lt c1)
    have g3 : zs_in (x2).toInt (-1) (-1) := (zs_ltl (-1) (-1) r2 h_x2 zlI_0 (by decide))
    exact zs_some (zs_inr ((zs_inl (h_σ))))
  · skip
    have r4 := (zs_I_ltn c1)
    have g5 : zs_in (x2).toInt 0 9 := (zs_ler 0 9 r4 zlI_0 h_x2 (by decide))
    refine zs_gd (zs_gin h_x1 (by decide)) ?_
    refine zs_lt (Q := fun z => zs_C σ0 z) (zs_wrt h_σ (fun _ => rfl) (fun _ => rfl)) (fun σ_3 hσ_3 => ?_)
    refine zs_bd_ (zc_350 hσ_3) (fun t_5 pt_5 => ?_)
    refine zs_gd (zs_gin h_x1 (by decide)) ?_
    refine zs_ite (fun c6 => ?_) (fun c6 => ?_)
    · skip
      have r7 := (zs_I_eq c6)
      have g8 : zs_in ((sn_I t_5 (38 + 10) x1.toNatClampNeg)).toInt 0 0 := (zs_eql 0 0 r7 (zs_rdu (q := 48) (z := (0, 1073741823)) pt_5.1 (fun _ => rfl)) zlI_0 (by decide))
      exact zs_some (zs_inr ((zs_inr (⟨g5, pt_5⟩))))
    · skip
      have r9 := (zs_I_eqn c6)
      have g10 : zs_in ((sn_I t_5 (38 + 10) x1.toNatClampNeg)).toInt 1 1073741823 := (zs_nel 1 1073741823 r9 (zs_rdu (q := 48) (z := (0, 1073741823)) pt_5.1 (fun _ => rfl)) zlI_0 (by decide))
      refine zs_lt (Q := fun z => zs_in z.toInt (-1) 8 ∧ z.toInt = c + (-1)) ⟨(zs_addI (-1) 8 g5 zlI_m1 (by decide)), (zs_syI (-1) hc g5 zlI_m1 (by decide) (by decide))⟩ (fun y_9 hy_9 => ?_)
      exact zs_some (zs_inl ⟨⟨pt_5, hy_9.1⟩, hy_9.2⟩)
theorem zd_59 {σ0 : sn_S} {x1 : Int32} (h_x1 : zs_in x1.toInt 0 5) {s0 : (sn_S × Int32)} (h0 : (zs_C σ0 s0.1 ∧ zs_in (s0.2).toInt (-1) 9)) : zs_ok (sn_it (LX8_dull_25 x1) 5000 s0) (fun t => zs_sum (fun v => zs_C σ0 v) (fun v => (zs_in (v.1).toInt 0 9 ∧ zs_C σ0 v.2)) t) := by
  refine zs_it (I := fun s => (zs_C σ0 s.1 ∧ zs_in (s.2).toInt (-1) 9)) (m := fun s => s.2.toInt - (-1)) (fun s hs => ?_) (fun s hs => ?_) (by exact h0)
  · have h1 := hs.2; unfold zs_in at h1
    omega
  · obtain ⟨b, eb, hb⟩ := zc_351 hs.1 h_x1 hs.2 (c := s.2.toInt) (Int.add_zero _).symm
    exact ⟨b, eb, zs_sumw hb (fun v w => ⟨⟨w.1.1, (zs_w w.1.2 (by decide))⟩, by have := w.2; omega⟩) (fun v w => w)⟩
-- BX8_dull_66
theorem zc_352 {σ0 : sn_S} {σ : sn_S} (h_σ : zs_C σ0 σ) : zs_ok (BX8_dull_66 σ) (fun r => (zs_in (r.1).toInt (-1) (-1) ∧ zs_C σ0 r.2)) := by
  unfold BX8_dull_66
  exact zs_some ⟨zlI_m1, h_σ⟩
-- fX8_dull
theorem zc_353 {σ0 : sn_S} {σ : sn_S} (h_σ : zs_C σ0 σ) {x1 : Int32} : zs_ok (fX8_dull σ x1) (fun r => ((zs_in (r.1).toInt (-2) 9 ∧ zs_C σ0 r.2)) ∧ ((r.1).toInt = (-2) ∨ (zs_in (x1).toInt 0 5))) := by
  unfold fX8_dull
  refine zs_bd_ (zc_3 h_σ) (fun t_1 pt_1 => ?_)
  refine zs_ite (fun c1 => ?_) (fun c1 => ?_)
  · skip
    have r2 := (zs_I_eq c1)
    have g3 : zs_in (t_1).toInt 0 0 := (zs_eql 0 0 r2 pt_1.1 zlI_0 (by decide))
    exact zs_some ⟨⟨(zs_w zlI_m2 (by decide)), h_σ⟩, Or.inl (zs_ptr zlI_m2)⟩
  · skip
    have r4 := (zs_I_eqn c1)
    have g5 : zs_in (t_1).toInt 1 1 := (zs_nel 1 1 r4 pt_1.1 zlI_0 (by decide))
    have q6 := (zs_or2 pt_1.2 g5 (by decide))
    have g7 : zs_in (x1).toInt 0 5 := q6
    refine zs_bd_ (zo_dcopy h_σ) (fun t_4 pt_4 => ?_)
    refine zs_bd_ (zd_59 g7 (s0 := (t_4, (9 : Int32))) ⟨pt_4, (zs_w zlI_9 (by decide))⟩) (fun t_6 pt_6 => ?_)
    refine zs_elim pt_6 (fun v_8 pv_8 => ?_) (fun r_9 pr_9 => ?_)
    · skip
      obtain ⟨ret, er, hr⟩ := zc_352 pv_8
      refine ⟨ret, er, ?_⟩
      exact ⟨⟨(zs_w hr.1 (by decide)), hr.2⟩, Or.inr g7⟩
    · skip
      exact zs_some ⟨⟨(zs_w pr_9.1 (by decide)), pr_9.2⟩, Or.inr g7⟩
-- fX0_tickleAt
theorem zc_354 {σ0 : sn_S} {σ : sn_S} (h_σ : zs_C σ0 σ) {x1 : Int32} (h_x1 : zs_in x1.toInt 0 5) {x2 : Int32} (h_x2 : zs_in x2.toInt 0 29) : zs_ok (fX0_tickleAt σ 38 x1 x2) (fun r => True) := by
  unfold fX0_tickleAt
  refine zs_gd (zs_gin (zs_addI 0 179 (zs_mulI 0 174 zlI_6 h_x2 (by decide)) h_x1 (by decide)) (by decide)) ?_
  exact zs_some trivial
-- BX8_bears_87
theorem zc_355 {σ0 : sn_S} {σ : sn_S} (h_σ : zs_C σ0 σ) {x1 : Int32} (h_x1 : zs_in x1.toInt 0 5) {x2 : Int32} (h_x2 : zs_in x2.toInt 1 2147483647) {x3 : Int32} (h_x3 : zs_in x3.toInt 0 29) {c : Int} (hc : x3.toInt = c + 0) : zs_ok (BX8_bears_87 σ x1 x2 x3) (fun r => zs_sum (fun v => ((zs_in (v.1).toInt 1 2147483647 ∧ zs_in (v.2).toInt 1 30)) ∧ v.2.toInt = c + 1) (fun v => False) r) := by
  unfold BX8_bears_87
  refine zs_lt (Q := fun z => zs_in z.toInt 1 30 ∧ z.toInt = c + 1) ⟨(zs_addI 1 30 h_x3 zlI_1 (by decide)), (zs_syI 1 hc h_x3 zlI_1 (by decide) (by decide))⟩ (fun y_1 hy_1 => ?_)
  exact zs_some (zs_inl ⟨⟨h_x2, hy_1.1⟩, hy_1.2⟩)
-- BX8_bears_44
theorem zc_356 {σ0 : sn_S} {σ : sn_S} (h_σ : zs_C σ0 σ) {x1 : Int32} (h_x1 : zs_in x1.toInt 0 5) {x2 : Int32} (h_x2 : zs_in x2.toInt 1 2147483647) {x3 : Int32} (h_x3 : zs_in x3.toInt 0 30) {c : Int} (hc : x3.toInt = c + 0) : zs_ok (BX8_bears_44 σ x1 x2 x3) (fun r => zs_sum (fun v => ((zs_in (v.1).toInt 1 2147483647 ∧ zs_in (v.2).toInt 1 30)) ∧ v.2.toInt = c + 1) (fun v => zs_in (v).toInt 1 2147483647) r) := by
  unfold BX8_bears_44
  refine zs_ite (fun c1 => ?_) (fun c1 => ?_)
  · skip
    have r2 := (zs_I_le c1)
    exact zs_some (zs_inr (h_x2))
  · skip
    have r3 := (zs_I_len c1)
    have g4 : zs_in (x3).toInt 0 29 := (zs_ltl 0 29 r3 h_x3 (zs_rdk (q := 38) (k := 0) (z := (0, 30)) h_σ.1 rfl) (by decide))
    have g5 : zs_in ((sn_I σ 38 0)).toInt 1 30 := (zs_ltr 1 30 r3 h_x3 (zs_rdk (q := 38) (k := 0) (z := (0, 30)) h_σ.1 rfl) (by decide))
    refine zs_gd (zs_gin h_x1 (by decide)) ?_
    refine zs_bd_ (zc_221 g4) (fun t_3 pt_3 => ?_)
    refine zs_ite (fun c6 => ?_) (fun c6 => ?_)
    · skip
      have r7 := (zs_I_eq c6)
      have g8 : zs_in (t_3).toInt 0 0 := (zs_eql 0 0 r7 pt_3 zlI_0 (by decide))
      refine zs_bd_ (zc_354 h_σ h_x1 g4) (fun t_6 pt_6 => ?_)
      refine zs_lt (Q := fun z => zs_in z.toInt 1 2147483647) (zs_max 1 2147483647 h_x2 (zs_topI _) (by decide)) (fun y_8 hy_8 => ?_)
      obtain ⟨ret, er, hr⟩ := zc_355 h_σ h_x1 hy_8 g4 hc
      refine ⟨ret, er, ?_⟩
      exact (zs_sumw hr (fun v w => ⟨w.1, w.2⟩) (fun v w => w.elim))
    · skip
      have r9 := (zs_I_eqn c6)
      have g10 : zs_in (t_3).toInt 1 1 := (zs_nel 1 1 r9 pt_3 zlI_0 (by decide))
      obtain ⟨ret, er, hr⟩ := zc_355 h_σ h_x1 h_x2 g4 hc
      refine ⟨ret, er, ?_⟩
      exact (zs_sumw hr (fun v w => ⟨w.1, w.2⟩) (fun v w => w.elim))
theorem zd_60 {σ0 : sn_S} {σ : sn_S} (h_σ : zs_C σ0 σ) {x1 : Int32} (h_x1 : zs_in x1.toInt 0 5) {s0 : (Int32 × Int32)} (h0 : (zs_in (s0.1).toInt 1 2147483647 ∧ zs_in (s0.2).toInt 0 30)) : zs_ok (sn_it (LX8_bears_44 σ x1) 5000 s0) (fun t => zs_in (t).toInt 1 2147483647) := by
  refine zs_it (I := fun s => (zs_in (s.1).toInt 1 2147483647 ∧ zs_in (s.2).toInt 0 30)) (m := fun s => 30 - s.2.toInt) (fun s hs => ?_) (fun s hs => ?_) (by exact h0)
  · have h1 := hs.2; unfold zs_in at h1
    omega
  · obtain ⟨b, eb, hb⟩ := zc_356 h_σ h_x1 hs.1 hs.2 (c := s.2.toInt) (Int.add_zero _).symm
    exact ⟨b, eb, zs_sumw hb (fun v w => ⟨⟨w.1.1, (zs_w w.1.2 (by decide))⟩, by have := w.2; omega⟩) (fun v w => w)⟩
-- BX8_bears_93
theorem zc_357 {σ0 : sn_S} {σ : sn_S} (h_σ : zs_C σ0 σ) {x2 : Int32} (h_x2 : zs_in x2.toInt 1 2147483647) : zs_ok (BX8_bears_93 σ x2) (fun r => ((zs_in (r.1).toInt (-1) 99 ∧ zs_C σ0 r.2)) ∧ ((r.1).toInt = (-1) ∨ (zs_in (x2).toInt 1 99))) := by
  unfold BX8_bears_93
  refine zs_ite (fun c1 => ?_) (fun c1 => ?_)
  · skip
    have r2 := (zs_I_le c1)
    have g3 : zs_in (x2).toInt 1 99 := (zs_lel 1 99 r2 h_x2 zlI_99 (by decide))
    exact zs_some ⟨⟨(zs_w g3 (by decide)), h_σ⟩, Or.inr g3⟩
  · skip
    have r4 := (zs_I_len c1)
    have g5 : zs_in (x2).toInt 100 2147483647 := (zs_ltr 100 2147483647 r4 zlI_99 h_x2 (by decide))
    exact zs_some ⟨⟨(zs_w zlI_m1 (by decide)), h_σ⟩, Or.inl (zs_ptr zlI_m1)⟩
-- fX8_bears
theorem zc_358 {σ0 : sn_S} {σ : sn_S} (h_σ : zs_C σ0 σ) {x1 : Int32} : zs_ok (fX8_bears σ x1) (fun r => ((zs_in (r.1).toInt (-2) 99 ∧ zs_C σ0 r.2)) ∧ ((r.1).toInt = (-2) ∨ (zs_in (x1).toInt 0 5))) := by
  unfold fX8_bears
  refine zs_bd_ (zc_3 h_σ) (fun t_1 pt_1 => ?_)
  refine zs_ite (fun c1 => ?_) (fun c1 => ?_)
  · skip
    have r2 := (zs_I_eq c1)
    have g3 : zs_in (t_1).toInt 0 0 := (zs_eql 0 0 r2 pt_1.1 zlI_0 (by decide))
    exact zs_some ⟨⟨(zs_w zlI_m2 (by decide)), h_σ⟩, Or.inl (zs_ptr zlI_m2)⟩
  · skip
    have r4 := (zs_I_eqn c1)
    have g5 : zs_in (t_1).toInt 1 1 := (zs_nel 1 1 r4 pt_1.1 zlI_0 (by decide))
    have q6 := (zs_or2 pt_1.2 g5 (by decide))
    have g7 : zs_in (x1).toInt 0 5 := q6
    refine zs_bd_ (zo_dcopy h_σ) (fun t_4 pt_4 => ?_)
    refine zs_gd (zs_gin g7 (by decide)) ?_
    refine zs_lt (Q := fun z => zs_C σ0 z) (zs_wrt pt_4 (fun _ => rfl) (fun _ => rfl)) (fun σ_7 hσ_7 => ?_)
    refine zs_bd_ (zc_350 hσ_7) (fun t_9 pt_9 => ?_)
    refine zs_bd_ (zd_60 pt_9 g7 (s0 := ((1 : Int32), (0 : Int32))) ⟨(zs_w zlI_1 (by decide)), (zs_w zlI_0 (by decide))⟩) (fun t_11 pt_11 => ?_)
    obtain ⟨ret, er, hr⟩ := zc_357 pt_9 pt_11
    refine ⟨ret, er, ?_⟩
    refine ⟨⟨(zs_w hr.1.1 (by decide)), hr.1.2⟩, ?_⟩
    rcases hr.2 with z0 | z0
    · exact Or.inr g7
    · skip
      have q8 := z0
      have g9 : zs_in (t_11).toInt 1 99 := q8
      exact Or.inr g7
-- BX8_clean_30
theorem zc_359 {σ0 : sn_S} {σ : sn_S} (h_σ : zs_C σ0 σ) {x1 : Int32} (h_x1 : zs_in x1.toInt 0 9) {x2 : Int32} (h_x2 : zs_in x2.toInt 0 30) {c : Int} (hc : x2.toInt = c + 0) : zs_ok (BX8_clean_30 σ x1 x2) (fun r => zs_sum (fun v => ((zs_C σ0 v.1 ∧ zs_in (v.2).toInt 1 30)) ∧ v.2.toInt = c + 1) (fun v => zs_C σ0 v) r) := by
  unfold BX8_clean_30
  refine zs_ite (fun c1 => ?_) (fun c1 => ?_)
  · skip
    have r2 := (zs_I_le c1)
    exact zs_some (zs_inr (h_σ))
  · skip
    have r3 := (zs_I_len c1)
    have g4 : zs_in (x2).toInt 0 29 := (zs_ltl 0 29 r3 h_x2 (zs_rdk (q := 27) (k := 0) (z := (0, 30)) h_σ.1 rfl) (by decide))
    have g5 : zs_in ((sn_I σ 27 0)).toInt 1 30 := (zs_ltr 1 30 r3 h_x2 (zs_rdk (q := 27) (k := 0) (z := (0, 30)) h_σ.1 rfl) (by decide))
    refine zs_gd (zs_gin g4 (by decide)) ?_
    refine zs_gd (zs_gin zlI_1 (by decide)) ?_
    refine zs_gd (zs_gin g4 (by decide)) ?_
    refine zs_lt (Q := fun z => zs_C σ0 z) (zs_wrt h_σ (fun _ => rfl) (fun _ => rfl)) (fun σ_5 hσ_5 => ?_)
    refine zs_lt (Q := fun z => zs_in z.toInt 1 30 ∧ z.toInt = c + 1) ⟨(zs_addI 1 30 g4 zlI_1 (by decide)), (zs_syI 1 hc g4 zlI_1 (by decide) (by decide))⟩ (fun y_7 hy_7 => ?_)
    exact zs_some (zs_inl ⟨⟨hσ_5, hy_7.1⟩, hy_7.2⟩)
theorem zd_61 {σ0 : sn_S} {x1 : Int32} (h_x1 : zs_in x1.toInt 0 9) {s0 : (sn_S × Int32)} (h0 : (zs_C σ0 s0.1 ∧ zs_in (s0.2).toInt 0 30)) : zs_ok (sn_it (LX8_clean_30 x1) 5000 s0) (fun t => zs_C σ0 t) := by
  refine zs_it (I := fun s => (zs_C σ0 s.1 ∧ zs_in (s.2).toInt 0 30)) (m := fun s => 30 - s.2.toInt) (fun s hs => ?_) (fun s hs => ?_) (by exact h0)
  · have h1 := hs.2; unfold zs_in at h1
    omega
  · obtain ⟨b, eb, hb⟩ := zc_359 hs.1 h_x1 hs.2 (c := s.2.toInt) (Int.add_zero _).symm
    exact ⟨b, eb, zs_sumw hb (fun v w => ⟨⟨w.1.1, (zs_w w.1.2 (by decide))⟩, by have := w.2; omega⟩) (fun v w => w)⟩
-- BX0_total_4
theorem zc_360 {σ0 : sn_S} {σ : sn_S} (h_σ : zs_C σ0 σ) {x1 : Int32} {x2 : Int32} (h_x2 : zs_in x2.toInt 0 6) {c : Int} (hc : x2.toInt = c + 0) : zs_ok (BX0_total_4 σ 38 x1 x2) (fun r => zs_sum (fun v => ((True ∧ zs_in (v.2).toInt 1 6)) ∧ v.2.toInt = c + 1) (fun v => True) r) := by
  unfold BX0_total_4
  refine zs_ite (fun c1 => ?_) (fun c1 => ?_)
  · skip
    have r2 := (zs_I_le c1)
    exact zs_some (zs_inr (trivial))
  · skip
    have r3 := (zs_I_len c1)
    have g4 : zs_in (x2).toInt 0 5 := (zs_ltl 0 5 r3 h_x2 (zs_rdk (q := 38) (k := 1) (z := (0, 6)) h_σ.1 rfl) (by decide))
    have g5 : zs_in ((sn_I σ 38 1)).toInt 1 6 := (zs_ltr 1 6 r3 h_x2 (zs_rdk (q := 38) (k := 1) (z := (0, 6)) h_σ.1 rfl) (by decide))
    refine zs_gd (zs_gin g4 (by decide)) ?_
    refine zs_bd_ (zo_bc 30 30 (by decide) (zs_rdu (q := 48) (z := (0, 1073741823)) h_σ.1 (fun _ => rfl))) (fun t_3 pt_3 => ?_)
    refine zs_lt (Q := fun z => True) trivial (fun y_5 hy_5 => ?_)
    refine zs_lt (Q := fun z => zs_in z.toInt 1 6 ∧ z.toInt = c + 1) ⟨(zs_addI 1 6 g4 zlI_1 (by decide)), (zs_syI 1 hc g4 zlI_1 (by decide) (by decide))⟩ (fun y_7 hy_7 => ?_)
    exact zs_some (zs_inl ⟨⟨trivial, hy_7.1⟩, hy_7.2⟩)
theorem zd_62 {σ0 : sn_S} {σ : sn_S} (h_σ : zs_C σ0 σ) {s0 : (Int32 × Int32)} (h0 : (True ∧ zs_in (s0.2).toInt 0 6)) : zs_ok (sn_it (LX0_total_4 σ 38) 5000 s0) (fun t => True) := by
  refine zs_it (I := fun s => (True ∧ zs_in (s.2).toInt 0 6)) (m := fun s => 6 - s.2.toInt) (fun s hs => ?_) (fun s hs => ?_) (by exact h0)
  · have h1 := hs.2; unfold zs_in at h1
    omega
  · obtain ⟨b, eb, hb⟩ := zc_360 h_σ hs.2 (c := s.2.toInt) (Int.add_zero _).symm
    exact ⟨b, eb, zs_sumw hb (fun v w => ⟨⟨w.1.1, (zs_w w.1.2 (by decide))⟩, by have := w.2; omega⟩) (fun v w => w)⟩
-- BX0_total_30
theorem zc_361 {σ0 : sn_S} {σ : sn_S} (h_σ : zs_C σ0 σ) {x1 : Int32} : zs_ok (BX0_total_30 σ 38 x1) (fun r => True) := by
  unfold BX0_total_30
  exact zs_some trivial
-- fX0_total
theorem zc_362 {σ0 : sn_S} {σ : sn_S} (h_σ : zs_C σ0 σ) : zs_ok (fX0_total σ 38) (fun r => True) := by
  unfold fX0_total
  refine zs_bd_ (zd_62 h_σ (s0 := ((0 : Int32), (0 : Int32))) ⟨trivial, (zs_w zlI_0 (by decide))⟩) (fun t_1 pt_1 => ?_)
  obtain ⟨ret, er, hr⟩ := zc_361 h_σ
  refine ⟨ret, er, ?_⟩
  exact hr
-- BX8_clean_77
theorem zc_363 {σ0 : sn_S} {σ : sn_S} (h_σ : zs_C σ0 σ) {x1 : Int32} (h_x1 : zs_in x1.toInt 0 9) {c : Int} (hc : x1.toInt = c + 0) : zs_ok (BX8_clean_77 σ x1) (fun r => zs_sum (fun v => ((zs_C σ0 v.1 ∧ zs_in (v.2).toInt (-1) 8)) ∧ v.2.toInt = c + (-1)) (fun v => zs_sum (fun v => False) (fun v => (zs_in (v.1).toInt 0 9 ∧ zs_C σ0 v.2)) v) r) := by
  unfold BX8_clean_77
  refine zs_bd_ (zc_350 h_σ) (fun t_1 pt_1 => ?_)
  refine zs_bd_ (zc_362 pt_1) (fun t_3 pt_3 => ?_)
  refine zs_ite (fun c1 => ?_) (fun c1 => ?_)
  · skip
    have r2 := (zs_I_eq c1)
    have g3 : zs_in (t_3).toInt 0 0 := (zs_eql 0 0 r2 (zs_topI _) zlI_0 (by decide))
    exact zs_some (zs_inr ((zs_inr (⟨h_x1, pt_1⟩))))
  · skip
    have r4 := (zs_I_eqn c1)
    refine zs_lt (Q := fun z => zs_in z.toInt (-1) 8 ∧ z.toInt = c + (-1)) ⟨(zs_addI (-1) 8 h_x1 zlI_m1 (by decide)), (zs_syI (-1) hc h_x1 zlI_m1 (by decide) (by decide))⟩ (fun y_6 hy_6 => ?_)
    exact zs_some (zs_inl ⟨⟨pt_1, hy_6.1⟩, hy_6.2⟩)
-- BX8_clean_24
theorem zc_364 {σ0 : sn_S} {σ : sn_S} (h_σ : zs_C σ0 σ) {x1 : Int32} (h_x1 : zs_in x1.toInt (-1) 9) {c : Int} (hc : x1.toInt = c + 0) : zs_ok (BX8_clean_24 σ x1) (fun r => zs_sum (fun v => ((zs_C σ0 v.1 ∧ zs_in (v.2).toInt (-1) 8)) ∧ v.2.toInt = c + (-1)) (fun v => zs_sum (fun v => zs_C σ0 v) (fun v => (zs_in (v.1).toInt 0 9 ∧ zs_C σ0 v.2)) v) r) := by
  unfold BX8_clean_24
  refine zs_ite (fun c1 => ?_) (fun c1 => ?_)
  · skip
    have r2 := (zs_I_lt c1)
    have g3 : zs_in (x1).toInt (-1) (-1) := (zs_ltl (-1) (-1) r2 h_x1 zlI_0 (by decide))
    exact zs_some (zs_inr ((zs_inl (h_σ))))
  · skip
    have r4 := (zs_I_ltn c1)
    have g5 : zs_in (x1).toInt 0 9 := (zs_ler 0 9 r4 zlI_0 h_x1 (by decide))
    refine zs_bd_ (zd_61 g5 (s0 := (σ, (0 : Int32))) ⟨h_σ, (zs_w zlI_0 (by decide))⟩) (fun t_2 pt_2 => ?_)
    obtain ⟨ret, er, hr⟩ := zc_363 pt_2 g5 hc
    refine ⟨ret, er, ?_⟩
    exact (zs_sumw hr (fun v w => ⟨w.1, w.2⟩) (fun v w => (zs_sumw w (fun v w => w.elim) (fun v w => w))))
theorem zd_63 {σ0 : sn_S}  {s0 : (sn_S × Int32)} (h0 : (zs_C σ0 s0.1 ∧ zs_in (s0.2).toInt (-1) 9)) : zs_ok (sn_it (LX8_clean_24) 5000 s0) (fun t => zs_sum (fun v => zs_C σ0 v) (fun v => (zs_in (v.1).toInt 0 9 ∧ zs_C σ0 v.2)) t) := by
  refine zs_it (I := fun s => (zs_C σ0 s.1 ∧ zs_in (s.2).toInt (-1) 9)) (m := fun s => s.2.toInt - (-1)) (fun s hs => ?_) (fun s hs => ?_) (by exact h0)
  · have h1 := hs.2; unfold zs_in at h1
    omega
  · obtain ⟨b, eb, hb⟩ := zc_364 hs.1 hs.2 (c := s.2.toInt) (Int.add_zero _).symm
    exact ⟨b, eb, zs_sumw hb (fun v w => ⟨⟨w.1.1, (zs_w w.1.2 (by decide))⟩, by have := w.2; omega⟩) (fun v w => w)⟩
-- BX8_clean_102
theorem zc_365 {σ0 : sn_S} {σ : sn_S} (h_σ : zs_C σ0 σ) : zs_ok (BX8_clean_102 σ) (fun r => (zs_in (r.1).toInt (-1) (-1) ∧ zs_C σ0 r.2)) := by
  unfold BX8_clean_102
  exact zs_some ⟨zlI_m1, h_σ⟩
-- fX8_clean
theorem zc_366 {σ0 : sn_S} {σ : sn_S} (h_σ : zs_C σ0 σ) : zs_ok (fX8_clean σ) (fun r => (zs_in (r.1).toInt (-2) 9 ∧ zs_C σ0 r.2)) := by
  unfold fX8_clean
  refine zs_bd_ (zc_102 h_σ) (fun t_1 pt_1 => ?_)
  refine zs_ite (fun c1 => ?_) (fun c1 => ?_)
  · skip
    have r2 := (zs_I_eq c1)
    have g3 : zs_in (t_1).toInt 0 0 := (zs_eql 0 0 r2 pt_1 zlI_0 (by decide))
    exact zs_some ⟨(zs_w zlI_m2 (by decide)), h_σ⟩
  · skip
    have r4 := (zs_I_eqn c1)
    have g5 : zs_in (t_1).toInt 1 1 := (zs_nel 1 1 r4 pt_1 zlI_0 (by decide))
    refine zs_bd_ (zo_dcopy h_σ) (fun t_4 pt_4 => ?_)
    refine zs_bd_ (zd_63  (s0 := (t_4, (9 : Int32))) ⟨pt_4, (zs_w zlI_9 (by decide))⟩) (fun t_6 pt_6 => ?_)
    refine zs_elim pt_6 (fun v_8 pv_8 => ?_) (fun r_9 pr_9 => ?_)
    · skip
      obtain ⟨ret, er, hr⟩ := zc_365 pv_8
      refine ⟨ret, er, ?_⟩
      exact ⟨(zs_w hr.1 (by decide)), hr.2⟩
    · skip
      exact zs_some ⟨(zs_w pr_9.1 (by decide)), pr_9.2⟩
-- BX8_spreads_101
theorem zc_367 {σ0 : sn_S} {σ : sn_S} (h_σ : zs_C σ0 σ) {x1 : Int32} (h_x1 : zs_in x1.toInt 0 5) {x2 : Int32} {x3 : Int32} (h_x3 : zs_in x3.toInt 0 5) {c : Int} (hc : x3.toInt = c + 0) : zs_ok (BX8_spreads_101 σ x1 x2 x3) (fun r => zs_sum (fun v => ((True ∧ zs_in (v.2).toInt 1 6)) ∧ v.2.toInt = c + 1) (fun v => False) r) := by
  unfold BX8_spreads_101
  refine zs_lt (Q := fun z => zs_in z.toInt 1 6 ∧ z.toInt = c + 1) ⟨(zs_addI 1 6 h_x3 zlI_1 (by decide)), (zs_syI 1 hc h_x3 zlI_1 (by decide) (by decide))⟩ (fun y_1 hy_1 => ?_)
  exact zs_some (zs_inl ⟨⟨trivial, hy_1.1⟩, hy_1.2⟩)
-- BX8_spreads_52
theorem zc_368 {σ0 : sn_S} {σ : sn_S} (h_σ : zs_C σ0 σ) {x1 : Int32} (h_x1 : zs_in x1.toInt 0 5) {x2 : Int32} {x3 : Int32} (h_x3 : zs_in x3.toInt 0 6) {c : Int} (hc : x3.toInt = c + 0) : zs_ok (BX8_spreads_52 σ x1 x2 x3) (fun r => zs_sum (fun v => ((True ∧ zs_in (v.2).toInt 1 6)) ∧ v.2.toInt = c + 1) (fun v => True) r) := by
  unfold BX8_spreads_52
  refine zs_ite (fun c1 => ?_) (fun c1 => ?_)
  · skip
    have r2 := (zs_I_le c1)
    exact zs_some (zs_inr (trivial))
  · skip
    have r3 := (zs_I_len c1)
    have g4 : zs_in (x3).toInt 0 5 := (zs_ltl 0 5 r3 h_x3 (zs_rdk (q := 27) (k := 1) (z := (0, 6)) h_σ.1 rfl) (by decide))
    have g5 : zs_in ((sn_I σ 27 1)).toInt 1 6 := (zs_ltr 1 6 r3 h_x3 (zs_rdk (q := 27) (k := 1) (z := (0, 6)) h_σ.1 rfl) (by decide))
    refine zs_ite (fun c6 => ?_) (fun c6 => ?_)
    · skip
      have r7 := (zs_I_eq c6)
      obtain ⟨ret, er, hr⟩ := zc_367 h_σ h_x1 g4 hc
      refine ⟨ret, er, ?_⟩
      exact (zs_sumw hr (fun v w => ⟨w.1, w.2⟩) (fun v w => w.elim))
    · skip
      have r8 := (zs_I_eqn c6)
      refine zs_gd (zs_gin g4 (by decide)) ?_
      refine zs_bd_ (zo_bc 30 30 (by decide) (zs_rdu (q := 48) (z := (0, 1073741823)) h_σ.1 (fun _ => rfl))) (fun t_4 pt_4 => ?_)
      refine zs_gd (zs_gin g4 (by decide)) ?_
      refine zs_bd_ (zo_bc 30 30 (by decide) (zs_rdu (q := 37) (z := (0, 1073741823)) h_σ.1 (fun _ => rfl))) (fun t_7 pt_7 => ?_)
      refine zs_ite (fun c9 => ?_) (fun c9 => ?_)
      · skip
        have r10 := (zs_I_le c9)
        obtain ⟨ret, er, hr⟩ := zc_367 h_σ h_x1 g4 hc
        refine ⟨ret, er, ?_⟩
        exact (zs_sumw hr (fun v w => ⟨w.1, w.2⟩) (fun v w => w.elim))
      · skip
        have r11 := (zs_I_len c9)
        have g12 : zs_in (t_4).toInt 0 29 := (zs_ltl 0 29 r11 pt_4 pt_7 (by decide))
        have g13 : zs_in (t_7).toInt 1 30 := (zs_ltr 1 30 r11 pt_4 pt_7 (by decide))
        refine zs_lt (Q := fun z => True) trivial (fun y_10 hy_10 => ?_)
        obtain ⟨ret, er, hr⟩ := zc_367 h_σ h_x1 g4 hc
        refine ⟨ret, er, ?_⟩
        exact (zs_sumw hr (fun v w => ⟨w.1, w.2⟩) (fun v w => w.elim))
theorem zd_64 {σ0 : sn_S} {σ : sn_S} (h_σ : zs_C σ0 σ) {x1 : Int32} (h_x1 : zs_in x1.toInt 0 5) {s0 : (Int32 × Int32)} (h0 : (True ∧ zs_in (s0.2).toInt 0 6)) : zs_ok (sn_it (LX8_spreads_52 σ x1) 5000 s0) (fun t => True) := by
  refine zs_it (I := fun s => (True ∧ zs_in (s.2).toInt 0 6)) (m := fun s => 6 - s.2.toInt) (fun s hs => ?_) (fun s hs => ?_) (by exact h0)
  · have h1 := hs.2; unfold zs_in at h1
    omega
  · obtain ⟨b, eb, hb⟩ := zc_368 h_σ h_x1 hs.2 (c := s.2.toInt) (Int.add_zero _).symm
    exact ⟨b, eb, zs_sumw hb (fun v w => ⟨⟨w.1.1, (zs_w w.1.2 (by decide))⟩, by have := w.2; omega⟩) (fun v w => w)⟩
-- BX8_spreads_107
theorem zc_369 {σ0 : sn_S} {σ : sn_S} (h_σ : zs_C σ0 σ) {x2 : Int32} : zs_ok (BX8_spreads_107 σ x2) (fun r => (True ∧ zs_C σ0 r.2)) := by
  unfold BX8_spreads_107
  exact zs_some ⟨trivial, h_σ⟩
-- fX8_spreads
theorem zc_370 {σ0 : sn_S} {σ : sn_S} (h_σ : zs_C σ0 σ) {x1 : Int32} : zs_ok (fX8_spreads σ x1) (fun r => ((True ∧ zs_C σ0 r.2)) ∧ ((r.1).toInt = (-2) ∨ (zs_in (x1).toInt 0 5))) := by
  unfold fX8_spreads
  refine zs_bd_ (zc_3 h_σ) (fun t_1 pt_1 => ?_)
  refine zs_ite (fun c1 => ?_) (fun c1 => ?_)
  · skip
    have r2 := (zs_I_eq c1)
    have g3 : zs_in (t_1).toInt 0 0 := (zs_eql 0 0 r2 pt_1.1 zlI_0 (by decide))
    exact zs_some ⟨⟨trivial, h_σ⟩, Or.inl (zs_ptr zlI_m2)⟩
  · skip
    have r4 := (zs_I_eqn c1)
    have g5 : zs_in (t_1).toInt 1 1 := (zs_nel 1 1 r4 pt_1.1 zlI_0 (by decide))
    have q6 := (zs_or2 pt_1.2 g5 (by decide))
    have g7 : zs_in (x1).toInt 0 5 := q6
    refine zs_bd_ (zo_dcopy h_σ) (fun t_4 pt_4 => ?_)
    refine zs_bd_ (zc_196 (zs_rdk (q := 27) (k := 0) (z := (0, 30)) pt_4.1 rfl)) (fun t_6 pt_6 => ?_)
    refine zs_gd (zs_gin g7 (by decide)) ?_
    refine zs_lt (Q := fun z => zs_C σ0 z) (zs_wrt pt_4 (fun _ => rfl) (fun _ => rfl)) (fun σ_9 hσ_9 => ?_)
    refine zs_bd_ (zc_350 hσ_9) (fun t_11 pt_11 => ?_)
    refine zs_bd_ (zd_64 pt_11 g7 (s0 := ((0 : Int32), (0 : Int32))) ⟨trivial, (zs_w zlI_0 (by decide))⟩) (fun t_13 pt_13 => ?_)
    obtain ⟨ret, er, hr⟩ := zc_369 pt_11
    refine ⟨ret, er, ?_⟩
    exact ⟨hr, Or.inr g7⟩
-- BX9_spreads_13
theorem zc_371 {σ0 : sn_S} {σ : sn_S} (h_σ : zs_M σ0 σ) {x1 : Int32} (h_x1 : zs_in x1.toInt 0 5) {x2 : Int32} (h_x2 : zs_in x2.toInt 0 6) {c : Int} (hc : x2.toInt = c + 0) : zs_ok (BX9_spreads_13 σ x1 x2) (fun r => zs_sum (fun v => ((zs_M σ0 v.1 ∧ zs_in (v.2).toInt 1 6)) ∧ v.2.toInt = c + 1) (fun v => zs_M σ0 v) r) := by
  unfold BX9_spreads_13
  refine zs_ite (fun c1 => ?_) (fun c1 => ?_)
  · skip
    have r2 := (zs_I_le c1)
    have g3 : zs_in (x2).toInt 6 6 := (zs_ler 6 6 r2 zlI_6 h_x2 (by decide))
    exact zs_some (zs_inr (h_σ))
  · skip
    have r4 := (zs_I_len c1)
    have g5 : zs_in (x2).toInt 0 5 := (zs_ltl 0 5 r4 h_x2 zlI_6 (by decide))
    refine zs_gd (zs_gin g5 (by decide)) ?_
    refine zs_bd_ (zc_109 (zs_rdu (q := 10) (z := (0, 1073741823)) h_σ.1 (fun _ => rfl))) (fun t_3 pt_3 => ?_)
    refine zs_gd (zs_gin g5 (by decide)) ?_
    refine zs_lt (Q := fun z => zs_M σ0 z) (zs_wrt h_σ (fun _ => rfl) (fun _ => rfl)) (fun σ_6 hσ_6 => ?_)
    refine zs_lt (Q := fun z => zs_in z.toInt 1 6 ∧ z.toInt = c + 1) ⟨(zs_addI 1 6 g5 zlI_1 (by decide)), (zs_syI 1 hc g5 zlI_1 (by decide) (by decide))⟩ (fun y_8 hy_8 => ?_)
    exact zs_some (zs_inl ⟨⟨hσ_6, hy_8.1⟩, hy_8.2⟩)
theorem zd_65 {σ0 : sn_S} {x1 : Int32} (h_x1 : zs_in x1.toInt 0 5) {s0 : (sn_S × Int32)} (h0 : (zs_M σ0 s0.1 ∧ zs_in (s0.2).toInt 0 6)) : zs_ok (sn_it (LX9_spreads_13 x1) 5000 s0) (fun t => zs_M σ0 t) := by
  refine zs_it (I := fun s => (zs_M σ0 s.1 ∧ zs_in (s.2).toInt 0 6)) (m := fun s => 6 - s.2.toInt) (fun s hs => ?_) (fun s hs => ?_) (by exact h0)
  · have h1 := hs.2; unfold zs_in at h1
    omega
  · obtain ⟨b, eb, hb⟩ := zc_371 hs.1 h_x1 hs.2 (c := s.2.toInt) (Int.add_zero _).symm
    exact ⟨b, eb, zs_sumw hb (fun v w => ⟨⟨w.1.1, (zs_w w.1.2 (by decide))⟩, by have := w.2; omega⟩) (fun v w => w)⟩
-- BX9_spreads_103
theorem zc_372 {σ0 : sn_S} {σ : sn_S} (h_σ : zs_M σ0 σ) {x1 : Int32} (h_x1 : zs_in x1.toInt 0 5) {x2 : Int32} {x3 : Int32} (h_x3 : zs_in x3.toInt 0 5) {t0 : Int32} {t1 : Int32} (h_t1 : zs_in t1.toInt 0 0) {c : Int} (hc : x3.toInt = c + 0) : zs_ok (BX9_spreads_103 σ x1 x2 x3 t0 t1) (fun r => zs_sum (fun v => ((True ∧ zs_in (v.2).toInt 1 6)) ∧ v.2.toInt = c + 1) (fun v => False) r) := by
  unfold BX9_spreads_103
  obtain rfl : t1 = (0 : Int32) := zs_eqv h_t1 (by decide)
  refine zs_lt (Q := fun z => True) trivial (fun y_1 hy_1 => ?_)
  refine zs_lt (Q := fun z => zs_in z.toInt 1 6 ∧ z.toInt = c + 1) ⟨(zs_addI 1 6 h_x3 zlI_1 (by decide)), (zs_syI 1 hc h_x3 zlI_1 (by decide) (by decide))⟩ (fun y_3 hy_3 => ?_)
  exact zs_some (zs_inl ⟨⟨trivial, hy_3.1⟩, hy_3.2⟩)
-- BX9_spreads_102
theorem zc_373 {σ0 : sn_S} {σ : sn_S} (h_σ : zs_M σ0 σ) {x1 : Int32} (h_x1 : zs_in x1.toInt 0 5) {x2 : Int32} {x3 : Int32} (h_x3 : zs_in x3.toInt 0 5) {t0 : Int32} {c : Int} (hc : x3.toInt = c + 0) : zs_ok (BX9_spreads_102 σ x1 x2 x3 t0) (fun r => zs_sum (fun v => ((True ∧ zs_in (v.2).toInt 1 6)) ∧ v.2.toInt = c + 1) (fun v => False) r) := by
  unfold BX9_spreads_102
  obtain ⟨ret, er, hr⟩ := zc_372 h_σ h_x1 h_x3 zlI_0 hc
  refine ⟨ret, er, ?_⟩
  exact (zs_sumw hr (fun v w => ⟨w.1, w.2⟩) (fun v w => w.elim))
-- BX9_spreads_103
theorem zc_374 {σ0 : sn_S} {σ : sn_S} (h_σ : zs_M σ0 σ) {x1 : Int32} (h_x1 : zs_in x1.toInt 0 5) {x2 : Int32} {x3 : Int32} (h_x3 : zs_in x3.toInt 0 5) {t0 : Int32} {t1 : Int32} (h_t1 : zs_in t1.toInt 1 32) {c : Int} (hc : x3.toInt = c + 0) : zs_ok (BX9_spreads_103 σ x1 x2 x3 t0 t1) (fun r => zs_sum (fun v => ((True ∧ zs_in (v.2).toInt 1 6)) ∧ v.2.toInt = c + 1) (fun v => False) r) := by
  unfold BX9_spreads_103
  refine zs_lt (Q := fun z => True) trivial (fun y_1 hy_1 => ?_)
  refine zs_lt (Q := fun z => zs_in z.toInt 1 6 ∧ z.toInt = c + 1) ⟨(zs_addI 1 6 h_x3 zlI_1 (by decide)), (zs_syI 1 hc h_x3 zlI_1 (by decide) (by decide))⟩ (fun y_3 hy_3 => ?_)
  exact zs_some (zs_inl ⟨⟨trivial, hy_3.1⟩, hy_3.2⟩)
-- BX9_spreads_62
theorem zc_375 {σ0 : sn_S} {σ : sn_S} (h_σ : zs_M σ0 σ) {x1 : Int32} (h_x1 : zs_in x1.toInt 0 5) {x2 : Int32} {x3 : Int32} (h_x3 : zs_in x3.toInt 0 6) {c : Int} (hc : x3.toInt = c + 0) : zs_ok (BX9_spreads_62 σ x1 x2 x3) (fun r => zs_sum (fun v => ((True ∧ zs_in (v.2).toInt 1 6)) ∧ v.2.toInt = c + 1) (fun v => True) r) := by
  unfold BX9_spreads_62
  refine zs_gd (zs_gin zlI_5 (by decide)) ?_
  refine zs_ite (fun c1 => ?_) (fun c1 => ?_)
  · skip
    have r2 := (zs_I_le c1)
    exact zs_some (zs_inr (trivial))
  · skip
    have r3 := (zs_I_len c1)
    have g4 : zs_in (x3).toInt 0 5 := (zs_ltl 0 5 r3 h_x3 (zs_rdk (q := 1) (k := (5 : Int32).toNatClampNeg) (z := (0, 6)) h_σ.1 rfl) (by decide))
    have g5 : zs_in ((sn_I σ 1 (5 : Int32).toNatClampNeg)).toInt 1 6 := (zs_ltr 1 6 r3 h_x3 (zs_rdk (q := 1) (k := (5 : Int32).toNatClampNeg) (z := (0, 6)) h_σ.1 rfl) (by decide))
    refine zs_ite (fun c6 => ?_) (fun c6 => ?_)
    · skip
      have r7 := (zs_I_eq c6)
      obtain ⟨ret, er, hr⟩ := zc_373 h_σ h_x1 g4 hc
      refine ⟨ret, er, ?_⟩
      exact (zs_sumw hr (fun v w => ⟨w.1, w.2⟩) (fun v w => w.elim))
    · skip
      have r8 := (zs_I_eqn c6)
      refine zs_gd (zs_gin g4 (by decide)) ?_
      refine zs_bd_ (zc_109 (zs_rdu (q := 10) (z := (0, 1073741823)) h_σ.1 (fun _ => rfl))) (fun t_5 pt_5 => ?_)
      refine zs_gd (zs_gin g4 (by decide)) ?_
      refine zs_ite (fun c9 => ?_) (fun c9 => ?_)
      · skip
        have r10 := (zs_I_le c9)
        obtain ⟨ret, er, hr⟩ := zc_373 h_σ h_x1 g4 hc
        refine ⟨ret, er, ?_⟩
        exact (zs_sumw hr (fun v w => ⟨w.1, w.2⟩) (fun v w => w.elim))
      · skip
        have r11 := (zs_I_len c9)
        have g12 : zs_in (t_5).toInt (-2147483648) 2147483646 := (zs_ltl (-2147483648) 2147483646 r11 (zs_topI _) (zs_topI _) (by decide))
        have g13 : zs_in ((sn_I σ 15 x3.toNatClampNeg)).toInt (-2147483647) 2147483647 := (zs_ltr (-2147483647) 2147483647 r11 (zs_topI _) (zs_topI _) (by decide))
        obtain ⟨ret, er, hr⟩ := zc_374 h_σ h_x1 g4 (zs_cases g4 (fun z => zs_in ((1 : Int32) <<< (z &&& 31)).toInt 1 32) (by decide +kernel)) hc
        refine ⟨ret, er, ?_⟩
        exact (zs_sumw hr (fun v w => ⟨w.1, w.2⟩) (fun v w => w.elim))
theorem zd_66 {σ0 : sn_S} {σ : sn_S} (h_σ : zs_M σ0 σ) {x1 : Int32} (h_x1 : zs_in x1.toInt 0 5) {s0 : (Int32 × Int32)} (h0 : (True ∧ zs_in (s0.2).toInt 0 6)) : zs_ok (sn_it (LX9_spreads_62 σ x1) 5000 s0) (fun t => True) := by
  refine zs_it (I := fun s => (True ∧ zs_in (s.2).toInt 0 6)) (m := fun s => 6 - s.2.toInt) (fun s hs => ?_) (fun s hs => ?_) (by exact h0)
  · have h1 := hs.2; unfold zs_in at h1
    omega
  · obtain ⟨b, eb, hb⟩ := zc_375 h_σ h_x1 hs.2 (c := s.2.toInt) (Int.add_zero _).symm
    exact ⟨b, eb, zs_sumw hb (fun v w => ⟨⟨w.1.1, (zs_w w.1.2 (by decide))⟩, by have := w.2; omega⟩) (fun v w => w)⟩
-- BX9_spreads_111
theorem zc_376 {σ0 : sn_S} {σ : sn_S} (h_σ : zs_M σ0 σ) {x2 : Int32} : zs_ok (BX9_spreads_111 σ x2) (fun r => (True ∧ zs_M σ0 r.2)) := by
  unfold BX9_spreads_111
  exact zs_some ⟨trivial, h_σ⟩
-- BX9_spreads_40
theorem zc_377 {σ0 : sn_S} {σ : sn_S} (h_σ : zs_M σ0 σ) {x1 : Int32} (h_x1 : zs_in x1.toInt 0 5) : zs_ok (BX9_spreads_40 σ x1) (fun r => (True ∧ zs_M σ0 r.2)) := by
  unfold BX9_spreads_40
  refine zs_bd_ (zc_21 h_σ) (fun t_1 pt_1 => ?_)
  refine zs_gd (zs_gin h_x1 (by decide)) ?_
  refine zs_lt (Q := fun z => zs_M σ0 z) (zs_wrt h_σ (fun _ => rfl) (fun _ => rfl)) (fun σ_4 hσ_4 => ?_)
  refine zs_bd_ (zc_90 hσ_4) (fun t_6 pt_6 => ?_)
  refine zs_bd_ (zd_66 pt_6 h_x1 (s0 := ((0 : Int32), (0 : Int32))) ⟨trivial, (zs_w zlI_0 (by decide))⟩) (fun t_8 pt_8 => ?_)
  obtain ⟨ret, er, hr⟩ := zc_376 pt_6
  refine ⟨ret, er, ?_⟩
  exact hr
-- fX9_spreads
theorem zc_378 {σ0 : sn_S} {σ : sn_S} (h_σ : zs_M σ0 σ) {x1 : Int32} : zs_ok (fX9_spreads σ x1) (fun r => ((True ∧ zs_M σ0 r.2)) ∧ ((r.1).toInt = (-2) ∨ (zs_in (x1).toInt 0 5))) := by
  unfold fX9_spreads
  refine zs_bd_ (zc_98 h_σ) (fun t_1 pt_1 => ?_)
  refine zs_ite (fun c1 => ?_) (fun c1 => ?_)
  · skip
    have r2 := (zs_I_eq c1)
    have g3 : zs_in (t_1.1).toInt 0 0 := (zs_eql 0 0 r2 pt_1.1.1 zlI_0 (by decide))
    exact zs_some ⟨⟨trivial, pt_1.1.2⟩, Or.inl (zs_ptr zlI_m2)⟩
  · skip
    have r4 := (zs_I_eqn c1)
    have g5 : zs_in (t_1.1).toInt 1 1 := (zs_nel 1 1 r4 pt_1.1.1 zlI_0 (by decide))
    have q6 := (zs_or2 pt_1.2 g5 (by decide))
    have g7 : zs_in (x1).toInt 0 5 := q6
    refine zs_bd_ (zd_65 g7 (s0 := (t_1.2, (0 : Int32))) ⟨pt_1.1.2, (zs_w zlI_0 (by decide))⟩) (fun t_4 pt_4 => ?_)
    obtain ⟨ret, er, hr⟩ := zc_377 pt_4 g7
    refine ⟨ret, er, ?_⟩
    exact ⟨hr, Or.inr g7⟩
-- BX8_web_64
theorem zc_379 {σ0 : sn_S} {σ : sn_S} (h_σ : zs_C σ0 σ) {x2 : Int32} {x3 : Int32} (h_x3 : zs_in x3.toInt 1 5) {x4 : Int32} {x5 : Int32} (h_x5 : zs_in x5.toInt 0 5) {c : Int} (hc : x5.toInt = c + 0) : zs_ok (BX8_web_64 σ x2 x3 x4 x5) (fun r => zs_sum (fun v => ((True ∧ zs_in (v.2).toInt 1 6)) ∧ v.2.toInt = c + 1) (fun v => False) r) := by
  unfold BX8_web_64
  refine zs_lt (Q := fun z => zs_in z.toInt 1 6 ∧ z.toInt = c + 1) ⟨(zs_addI 1 6 h_x5 zlI_1 (by decide)), (zs_syI 1 hc h_x5 zlI_1 (by decide) (by decide))⟩ (fun y_1 hy_1 => ?_)
  exact zs_some (zs_inl ⟨⟨trivial, hy_1.1⟩, hy_1.2⟩)
-- BX8_web_29
theorem zc_380 {σ0 : sn_S} {σ : sn_S} (h_σ : zs_C σ0 σ) {x2 : Int32} {x3 : Int32} (h_x3 : zs_in x3.toInt 1 5) {x4 : Int32} {x5 : Int32} (h_x5 : zs_in x5.toInt 0 6) {c : Int} (hc : x5.toInt = c + 0) : zs_ok (BX8_web_29 σ x2 x3 x4 x5) (fun r => zs_sum (fun v => ((True ∧ zs_in (v.2).toInt 1 6)) ∧ v.2.toInt = c + 1) (fun v => True) r) := by
  unfold BX8_web_29
  refine zs_ite (fun c1 => ?_) (fun c1 => ?_)
  · skip
    have r2 := (zs_I_le c1)
    exact zs_some (zs_inr (trivial))
  · skip
    have r3 := (zs_I_len c1)
    have g4 : zs_in (x5).toInt 0 5 := (zs_ltl 0 5 r3 h_x5 (zs_rdk (q := 27) (k := 1) (z := (0, 6)) h_σ.1 rfl) (by decide))
    have g5 : zs_in ((sn_I σ 27 1)).toInt 1 6 := (zs_ltr 1 6 r3 h_x5 (zs_rdk (q := 27) (k := 1) (z := (0, 6)) h_σ.1 rfl) (by decide))
    refine zs_bd_ (zc_319 g4) (fun t_2 pt_2 => ?_)
    refine zs_ite (fun c6 => ?_) (fun c6 => ?_)
    · skip
      have r7 := (zs_I_eq c6)
      have g8 : zs_in (t_2).toInt 0 0 := (zs_eql 0 0 r7 pt_2 zlI_0 (by decide))
      obtain ⟨ret, er, hr⟩ := zc_379 h_σ h_x3 g4 hc
      refine ⟨ret, er, ?_⟩
      exact (zs_sumw hr (fun v w => ⟨w.1, w.2⟩) (fun v w => w.elim))
    · skip
      have r9 := (zs_I_eqn c6)
      have g10 : zs_in (t_2).toInt 1 1 := (zs_nel 1 1 r9 pt_2 zlI_0 (by decide))
      refine zs_bd_ (zc_19 h_σ g4) (fun t_5 pt_5 => ?_)
      refine zs_lt (Q := fun z => True) trivial (fun y_7 hy_7 => ?_)
      obtain ⟨ret, er, hr⟩ := zc_379 h_σ h_x3 g4 hc
      refine ⟨ret, er, ?_⟩
      exact (zs_sumw hr (fun v w => ⟨w.1, w.2⟩) (fun v w => w.elim))
theorem zd_67 {σ0 : sn_S} {σ : sn_S} (h_σ : zs_C σ0 σ) {x2 : Int32} {x3 : Int32} (h_x3 : zs_in x3.toInt 1 5) {s0 : (Int32 × Int32)} (h0 : (True ∧ zs_in (s0.2).toInt 0 6)) : zs_ok (sn_it (LX8_web_29 σ x2 x3) 5000 s0) (fun t => True) := by
  refine zs_it (I := fun s => (True ∧ zs_in (s.2).toInt 0 6)) (m := fun s => 6 - s.2.toInt) (fun s hs => ?_) (fun s hs => ?_) (by exact h0)
  · have h1 := hs.2; unfold zs_in at h1
    omega
  · obtain ⟨b, eb, hb⟩ := zc_380 h_σ h_x3 hs.2 (c := s.2.toInt) (Int.add_zero _).symm
    exact ⟨b, eb, zs_sumw hb (fun v w => ⟨⟨w.1.1, (zs_w w.1.2 (by decide))⟩, by have := w.2; omega⟩) (fun v w => w)⟩
-- BX8_web_70
theorem zc_381 {σ0 : sn_S} {σ : sn_S} (h_σ : zs_C σ0 σ) {x2 : Int32} {x3 : Int32} (h_x3 : zs_in x3.toInt 1 5) {x4 : Int32} {c : Int} (hc : x3.toInt = c + 0) : zs_ok (BX8_web_70 σ x2 x3 x4) (fun r => zs_sum (fun v => ((True ∧ zs_in (v.2).toInt 2 6)) ∧ v.2.toInt = c + 1) (fun v => False) r) := by
  unfold BX8_web_70
  refine zs_lt (Q := fun z => zs_in z.toInt 2 6 ∧ z.toInt = c + 1) ⟨(zs_addI 2 6 h_x3 zlI_1 (by decide)), (zs_syI 1 hc h_x3 zlI_1 (by decide) (by decide))⟩ (fun y_1 hy_1 => ?_)
  exact zs_some (zs_inl ⟨⟨trivial, hy_1.1⟩, hy_1.2⟩)
-- BX8_web_17
theorem zc_382 {σ0 : sn_S} {σ : sn_S} (h_σ : zs_C σ0 σ) {x2 : Int32} {x3 : Int32} (h_x3 : zs_in x3.toInt 1 6) {c : Int} (hc : x3.toInt = c + 0) : zs_ok (BX8_web_17 σ x2 x3) (fun r => zs_sum (fun v => ((True ∧ zs_in (v.2).toInt 2 6)) ∧ v.2.toInt = c + 1) (fun v => True) r) := by
  unfold BX8_web_17
  refine zs_ite (fun c1 => ?_) (fun c1 => ?_)
  · skip
    have r2 := (zs_I_le c1)
    have g3 : zs_in (x3).toInt 6 6 := (zs_ler 6 6 r2 zlI_6 h_x3 (by decide))
    exact zs_some (zs_inr (trivial))
  · skip
    have r4 := (zs_I_len c1)
    have g5 : zs_in (x3).toInt 1 5 := (zs_ltl 1 5 r4 h_x3 zlI_6 (by decide))
    refine zs_bd_ (zd_67 h_σ g5 (s0 := (x2, (0 : Int32))) ⟨trivial, (zs_w zlI_0 (by decide))⟩) (fun t_2 pt_2 => ?_)
    obtain ⟨ret, er, hr⟩ := zc_381 h_σ g5 hc
    refine ⟨ret, er, ?_⟩
    exact (zs_sumw hr (fun v w => ⟨w.1, w.2⟩) (fun v w => w.elim))
theorem zd_68 {σ0 : sn_S} {σ : sn_S} (h_σ : zs_C σ0 σ) {s0 : (Int32 × Int32)} (h0 : (True ∧ zs_in (s0.2).toInt 1 6)) : zs_ok (sn_it (LX8_web_17 σ) 5000 s0) (fun t => True) := by
  refine zs_it (I := fun s => (True ∧ zs_in (s.2).toInt 1 6)) (m := fun s => 6 - s.2.toInt) (fun s hs => ?_) (fun s hs => ?_) (by exact h0)
  · have h1 := hs.2; unfold zs_in at h1
    omega
  · obtain ⟨b, eb, hb⟩ := zc_382 h_σ hs.2 (c := s.2.toInt) (Int.add_zero _).symm
    exact ⟨b, eb, zs_sumw hb (fun v w => ⟨⟨w.1.1, (zs_w w.1.2 (by decide))⟩, by have := w.2; omega⟩) (fun v w => w)⟩
-- BX8_web_79
theorem zc_383 {σ0 : sn_S} {σ : sn_S} (h_σ : zs_C σ0 σ) {x2 : Int32} : zs_ok (BX8_web_79 σ x2) (fun r => True) := by
  unfold BX8_web_79
  exact zs_some trivial
-- fX8_web
theorem zc_384 {σ0 : sn_S} {σ : sn_S} (h_σ : zs_C σ0 σ) {x1 : Int32} : zs_ok (fX8_web σ x1) (fun r => (True) ∧ ((r).toInt = (-2) ∨ (zs_in (x1).toInt 0 5))) := by
  unfold fX8_web
  refine zs_bd_ (zc_3 h_σ) (fun t_1 pt_1 => ?_)
  refine zs_ite (fun c1 => ?_) (fun c1 => ?_)
  · skip
    have r2 := (zs_I_eq c1)
    have g3 : zs_in (t_1).toInt 0 0 := (zs_eql 0 0 r2 pt_1.1 zlI_0 (by decide))
    exact zs_some ⟨trivial, Or.inl (zs_ptr zlI_m2)⟩
  · skip
    have r4 := (zs_I_eqn c1)
    have g5 : zs_in (t_1).toInt 1 1 := (zs_nel 1 1 r4 pt_1.1 zlI_0 (by decide))
    have q6 := (zs_or2 pt_1.2 g5 (by decide))
    have g7 : zs_in (x1).toInt 0 5 := q6
    refine zs_lt (Q := fun z => zs_in z.toInt 1 32) (zs_cases g7 (fun z => zs_in ((1 : Int32) <<< (z &&& 31)).toInt 1 32) (by decide +kernel)) (fun y_4 hy_4 => ?_)
    refine zs_bd_ (zd_68 h_σ (s0 := (y_4, (1 : Int32))) ⟨trivial, (zs_w zlI_1 (by decide))⟩) (fun t_6 pt_6 => ?_)
    obtain ⟨ret, er, hr⟩ := zc_383 h_σ
    refine ⟨ret, er, ?_⟩
    exact ⟨hr, Or.inr g7⟩
-- BX9_netsTo_91
theorem zc_385 {σ0 : sn_S} {σ : sn_S} (h_σ : zs_M σ0 σ) {x1 : Int32} (h_x1 : zs_in x1.toInt 0 5) {x2 : Int32} (h_x2 : zs_in x2.toInt 0 63) {x3 : Int32} {x4 : Int32} (h_x4 : zs_in x4.toInt 0 7) {c : Int} (hc : x4.toInt = c + 0) : zs_ok (BX9_netsTo_91 σ x1 x2 x3 x4) (fun r => zs_sum (fun v => ((True ∧ zs_in (v.2).toInt 1 8)) ∧ v.2.toInt = c + 1) (fun v => False) r) := by
  unfold BX9_netsTo_91
  refine zs_lt (Q := fun z => zs_in z.toInt 1 8 ∧ z.toInt = c + 1) ⟨(zs_addI 1 8 h_x4 zlI_1 (by decide)), (zs_syI 1 hc h_x4 zlI_1 (by decide) (by decide))⟩ (fun y_1 hy_1 => ?_)
  exact zs_some (zs_inl ⟨⟨trivial, hy_1.1⟩, hy_1.2⟩)
-- fX9_bit
theorem zc_386 {x0 : Int32} (h_x0 : zs_in x0.toInt 0 63) {x1 : Int32} (h_x1 : zs_in x1.toInt 0 5) : zs_ok (fX9_bit x0 x1) (fun r => zs_in (r).toInt 0 1) := by
  unfold fX9_bit
  exact zs_some (zs_and zlI_1 (by decide))
-- BX9_netsTo_88
theorem zc_387 {σ0 : sn_S} {σ : sn_S} (h_σ : zs_M σ0 σ) {x1 : Int32} (h_x1 : zs_in x1.toInt 0 5) {x2 : Int32} (h_x2 : zs_in x2.toInt 0 63) {x3 : Int32} {x4 : Int32} (h_x4 : zs_in x4.toInt 0 7) {c : Int} (hc : x4.toInt = c + 0) : zs_ok (BX9_netsTo_88 σ x1 x2 x3 x4) (fun r => zs_sum (fun v => ((True ∧ zs_in (v.2).toInt 1 8)) ∧ v.2.toInt = c + 1) (fun v => False) r) := by
  unfold BX9_netsTo_88
  refine zs_lt (Q := fun z => True) trivial (fun y_1 hy_1 => ?_)
  obtain ⟨ret, er, hr⟩ := zc_385 h_σ h_x1 h_x2 h_x4 hc
  refine ⟨ret, er, ?_⟩
  exact (zs_sumw hr (fun v w => ⟨w.1, w.2⟩) (fun v w => w.elim))
-- BX9_netsTo_72
theorem zc_388 {σ0 : sn_S} {σ : sn_S} (h_σ : zs_M σ0 σ) {x1 : Int32} (h_x1 : zs_in x1.toInt 0 5) {x2 : Int32} (h_x2 : zs_in x2.toInt 0 63) {x3 : Int32} {x4 : Int32} (h_x4 : zs_in x4.toInt 0 7) {x5 : Int32} (h_x5 : zs_in x5.toInt 0 5) {x6 : Int32} (h_x6 : zs_in x6.toInt 0 5) {c : Int} (hc : x4.toInt = c + 0) : zs_ok (BX9_netsTo_72 σ x1 x2 x3 x4 x5 x6) (fun r => zs_sum (fun v => ((True ∧ zs_in (v.2).toInt 1 8)) ∧ v.2.toInt = c + 1) (fun v => False) r) := by
  unfold BX9_netsTo_72
  refine zs_ite (fun c1 => ?_) (fun c1 => ?_)
  · skip
    have r2 := (zs_I_eq c1)
    refine zs_bd_ (zc_386 h_x2 h_x5) (fun t_2 pt_2 => ?_)
    refine zs_ite (fun c3 => ?_) (fun c3 => ?_)
    · skip
      have r4 := (zs_I_eq c3)
      have g5 : zs_in (t_2).toInt 1 1 := (zs_eql 1 1 r4 pt_2 zlI_1 (by decide))
      obtain ⟨ret, er, hr⟩ := zc_387 h_σ h_x1 h_x2 h_x4 hc
      refine ⟨ret, er, ?_⟩
      exact (zs_sumw hr (fun v w => ⟨w.1, w.2⟩) (fun v w => w.elim))
    · skip
      have r6 := (zs_I_eqn c3)
      have g7 : zs_in (t_2).toInt 0 0 := (zs_neh 0 0 r6 pt_2 zlI_1 (by decide))
      obtain ⟨ret, er, hr⟩ := zc_385 h_σ h_x1 h_x2 h_x4 hc
      refine ⟨ret, er, ?_⟩
      exact (zs_sumw hr (fun v w => ⟨w.1, w.2⟩) (fun v w => w.elim))
  · skip
    have r8 := (zs_I_eqn c1)
    obtain ⟨ret, er, hr⟩ := zc_385 h_σ h_x1 h_x2 h_x4 hc
    refine ⟨ret, er, ?_⟩
    exact (zs_sumw hr (fun v w => ⟨w.1, w.2⟩) (fun v w => w.elim))
-- BX9_netsTo_5
theorem zc_389 {σ0 : sn_S} {σ : sn_S} (h_σ : zs_M σ0 σ) {x1 : Int32} (h_x1 : zs_in x1.toInt 0 5) {x2 : Int32} (h_x2 : zs_in x2.toInt 0 63) {x3 : Int32} {x4 : Int32} (h_x4 : zs_in x4.toInt 0 8) {c : Int} (hc : x4.toInt = c + 0) : zs_ok (BX9_netsTo_5 σ x1 x2 x3 x4) (fun r => zs_sum (fun v => ((True ∧ zs_in (v.2).toInt 1 8)) ∧ v.2.toInt = c + 1) (fun v => True) r) := by
  unfold BX9_netsTo_5
  refine zs_gd (zs_gin zlI_7 (by decide)) ?_
  refine zs_ite (fun c1 => ?_) (fun c1 => ?_)
  · skip
    have r2 := (zs_I_le c1)
    exact zs_some (zs_inr (trivial))
  · skip
    have r3 := (zs_I_len c1)
    have g4 : zs_in (x4).toInt 0 7 := (zs_ltl 0 7 r3 h_x4 (zs_rdk (q := 1) (k := (7 : Int32).toNatClampNeg) (z := (0, 8)) h_σ.1 rfl) (by decide))
    have g5 : zs_in ((sn_I σ 1 (7 : Int32).toNatClampNeg)).toInt 1 8 := (zs_ltr 1 8 r3 h_x4 (zs_rdk (q := 1) (k := (7 : Int32).toNatClampNeg) (z := (0, 8)) h_σ.1 rfl) (by decide))
    refine zs_gd (zs_gin (zs_addI 33 47 zlI_33 (zs_mulI 0 14 zlI_2 g4 (by decide)) (by decide)) (by decide)) ?_
    refine zs_lt (Q := fun z => zs_in z.toInt 0 5) (zs_rdb (q := 1) (lo := 0) (hi := 5) h_σ.1 (zs_cases g4 (fun z => zs_bd (zs_tM 1 ((33 : Int32) + ((2 : Int32) * z)).toNatClampNeg) 0 5) (by decide +kernel))) (fun y_4 hy_4 => ?_)
    refine zs_gd (zs_gin (zs_addI 34 48 (zs_addI 33 47 zlI_33 (zs_mulI 0 14 zlI_2 g4 (by decide)) (by decide)) zlI_1 (by decide)) (by decide)) ?_
    refine zs_lt (Q := fun z => zs_in z.toInt 0 5) (zs_rdb (q := 1) (lo := 0) (hi := 5) h_σ.1 (zs_cases g4 (fun z => zs_bd (zs_tM 1 (((33 : Int32) + ((2 : Int32) * z)) + (1 : Int32)).toNatClampNeg) 0 5) (by decide +kernel))) (fun y_7 hy_7 => ?_)
    refine zs_ite (fun c6 => ?_) (fun c6 => ?_)
    · skip
      have r7 := (zs_I_eq c6)
      have g8 : zs_in ((sn_I σ 0 19)).toInt 0 7 := (zs_eqr 0 7 r7 g4 (zs_topI _) (by decide))
      obtain ⟨ret, er, hr⟩ := zc_385 h_σ h_x1 h_x2 g4 hc
      refine ⟨ret, er, ?_⟩
      exact (zs_sumw hr (fun v w => ⟨w.1, w.2⟩) (fun v w => w.elim))
    · skip
      have r9 := (zs_I_eqn c6)
      refine zs_ite (fun c10 => ?_) (fun c10 => ?_)
      · skip
        have r11 := (zs_I_eq c10)
        refine zs_bd_ (zc_386 h_x2 hy_7) (fun t_11 pt_11 => ?_)
        refine zs_ite (fun c12 => ?_) (fun c12 => ?_)
        · skip
          have r13 := (zs_I_eq c12)
          have g14 : zs_in (t_11).toInt 1 1 := (zs_eql 1 1 r13 pt_11 zlI_1 (by decide))
          obtain ⟨ret, er, hr⟩ := zc_387 h_σ h_x1 h_x2 g4 hc
          refine ⟨ret, er, ?_⟩
          exact (zs_sumw hr (fun v w => ⟨w.1, w.2⟩) (fun v w => w.elim))
        · skip
          have r15 := (zs_I_eqn c12)
          have g16 : zs_in (t_11).toInt 0 0 := (zs_neh 0 0 r15 pt_11 zlI_1 (by decide))
          obtain ⟨ret, er, hr⟩ := zc_388 h_σ h_x1 h_x2 g4 hy_4 hy_7 hc
          refine ⟨ret, er, ?_⟩
          exact (zs_sumw hr (fun v w => ⟨w.1, w.2⟩) (fun v w => w.elim))
      · skip
        have r17 := (zs_I_eqn c10)
        obtain ⟨ret, er, hr⟩ := zc_388 h_σ h_x1 h_x2 g4 hy_4 hy_7 hc
        refine ⟨ret, er, ?_⟩
        exact (zs_sumw hr (fun v w => ⟨w.1, w.2⟩) (fun v w => w.elim))
theorem zd_69 {σ0 : sn_S} {σ : sn_S} (h_σ : zs_M σ0 σ) {x1 : Int32} (h_x1 : zs_in x1.toInt 0 5) {x2 : Int32} (h_x2 : zs_in x2.toInt 0 63) {s0 : (Int32 × Int32)} (h0 : (True ∧ zs_in (s0.2).toInt 0 8)) : zs_ok (sn_it (LX9_netsTo_5 σ x1 x2) 5000 s0) (fun t => True) := by
  refine zs_it (I := fun s => (True ∧ zs_in (s.2).toInt 0 8)) (m := fun s => 8 - s.2.toInt) (fun s hs => ?_) (fun s hs => ?_) (by exact h0)
  · have h1 := hs.2; unfold zs_in at h1
    omega
  · obtain ⟨b, eb, hb⟩ := zc_389 h_σ h_x1 h_x2 hs.2 (c := s.2.toInt) (Int.add_zero _).symm
    exact ⟨b, eb, zs_sumw hb (fun v w => ⟨⟨w.1.1, (zs_w w.1.2 (by decide))⟩, by have := w.2; omega⟩) (fun v w => w)⟩
-- fX9_netsTo
theorem zc_390 {σ0 : sn_S} {σ : sn_S} (h_σ : zs_M σ0 σ) {x1 : Int32} (h_x1 : zs_in x1.toInt 0 5) {x2 : Int32} (h_x2 : zs_in x2.toInt 0 63) : zs_ok (fX9_netsTo σ x1 x2) (fun r => True) := by
  unfold fX9_netsTo
  refine zs_bd_ (zd_69 h_σ h_x1 h_x2 (s0 := ((0 : Int32), (0 : Int32))) ⟨trivial, (zs_w zlI_0 (by decide))⟩) (fun t_1 pt_1 => ?_)
  obtain ⟨ret, er, hr⟩ := zc_37 h_σ
  refine ⟨ret, er, ?_⟩
  exact hr
-- BX9_web_65
theorem zc_391 {σ0 : sn_S} {σ : sn_S} (h_σ : zs_M σ0 σ) {x2 : Int32} (h_x2 : zs_in x2.toInt 0 63) {x3 : Int32} (h_x3 : zs_in x3.toInt 0 5) {x4 : Int32} (h_x4 : zs_in x4.toInt 0 63) {x5 : Int32} (h_x5 : zs_in x5.toInt 0 5) {t0 : Int32} (h_t0 : zs_in t0.toInt 0 63) {t1 : Int32} (h_t1 : zs_in t1.toInt 0 0) {c : Int} (hc : x5.toInt = c + 0) : zs_ok (BX9_web_65 σ x2 x3 x4 x5 t0 t1) (fun r => zs_sum (fun v => ((zs_in (v.1).toInt 0 63 ∧ zs_in (v.2).toInt 1 6)) ∧ v.2.toInt = c + 1) (fun v => False) r) := by
  unfold BX9_web_65
  obtain rfl : t1 = (0 : Int32) := zs_eqv h_t1 (by decide)
  refine zs_lt (Q := fun z => zs_in z.toInt 0 63) (zs_or 6 63 h_t0 h_t1 (by decide)) (fun y_1 hy_1 => ?_)
  refine zs_lt (Q := fun z => zs_in z.toInt 1 6 ∧ z.toInt = c + 1) ⟨(zs_addI 1 6 h_x5 zlI_1 (by decide)), (zs_syI 1 hc h_x5 zlI_1 (by decide) (by decide))⟩ (fun y_3 hy_3 => ?_)
  exact zs_some (zs_inl ⟨⟨hy_1, hy_3.1⟩, hy_3.2⟩)
-- BX9_web_65
theorem zc_392 {σ0 : sn_S} {σ : sn_S} (h_σ : zs_M σ0 σ) {x2 : Int32} (h_x2 : zs_in x2.toInt 0 63) {x3 : Int32} (h_x3 : zs_in x3.toInt 0 5) {x4 : Int32} (h_x4 : zs_in x4.toInt 0 63) {x5 : Int32} (h_x5 : zs_in x5.toInt 0 5) {t0 : Int32} (h_t0 : zs_in t0.toInt 0 63) {t1 : Int32} (h_t1 : zs_in t1.toInt 1 32) {c : Int} (hc : x5.toInt = c + 0) : zs_ok (BX9_web_65 σ x2 x3 x4 x5 t0 t1) (fun r => zs_sum (fun v => ((zs_in (v.1).toInt 0 63 ∧ zs_in (v.2).toInt 1 6)) ∧ v.2.toInt = c + 1) (fun v => False) r) := by
  unfold BX9_web_65
  refine zs_lt (Q := fun z => zs_in z.toInt 0 63) (zs_or 6 63 h_t0 h_t1 (by decide)) (fun y_1 hy_1 => ?_)
  refine zs_lt (Q := fun z => zs_in z.toInt 1 6 ∧ z.toInt = c + 1) ⟨(zs_addI 1 6 h_x5 zlI_1 (by decide)), (zs_syI 1 hc h_x5 zlI_1 (by decide) (by decide))⟩ (fun y_3 hy_3 => ?_)
  exact zs_some (zs_inl ⟨⟨hy_1, hy_3.1⟩, hy_3.2⟩)
-- BX9_web_34
theorem zc_393 {σ0 : sn_S} {σ : sn_S} (h_σ : zs_M σ0 σ) {x2 : Int32} (h_x2 : zs_in x2.toInt 0 63) {x3 : Int32} (h_x3 : zs_in x3.toInt 0 5) {x4 : Int32} (h_x4 : zs_in x4.toInt 0 63) {x5 : Int32} (h_x5 : zs_in x5.toInt 0 6) {c : Int} (hc : x5.toInt = c + 0) : zs_ok (BX9_web_34 σ x2 x3 x4 x5) (fun r => zs_sum (fun v => ((zs_in (v.1).toInt 0 63 ∧ zs_in (v.2).toInt 1 6)) ∧ v.2.toInt = c + 1) (fun v => zs_in (v).toInt 0 63) r) := by
  unfold BX9_web_34
  refine zs_gd (zs_gin zlI_5 (by decide)) ?_
  refine zs_ite (fun c1 => ?_) (fun c1 => ?_)
  · skip
    have r2 := (zs_I_le c1)
    exact zs_some (zs_inr (h_x4))
  · skip
    have r3 := (zs_I_len c1)
    have g4 : zs_in (x5).toInt 0 5 := (zs_ltl 0 5 r3 h_x5 (zs_rdk (q := 1) (k := (5 : Int32).toNatClampNeg) (z := (0, 6)) h_σ.1 rfl) (by decide))
    have g5 : zs_in ((sn_I σ 1 (5 : Int32).toNatClampNeg)).toInt 1 6 := (zs_ltr 1 6 r3 h_x5 (zs_rdk (q := 1) (k := (5 : Int32).toNatClampNeg) (z := (0, 6)) h_σ.1 rfl) (by decide))
    refine zs_bd_ (zc_390 h_σ g4 h_x2) (fun t_3 pt_3 => ?_)
    refine zs_ite (fun c6 => ?_) (fun c6 => ?_)
    · skip
      have r7 := (zs_I_le c6)
      have g8 : zs_in (t_3).toInt (-2147483648) 0 := (zs_lel (-2147483648) 0 r7 (zs_topI _) zlI_0 (by decide))
      obtain ⟨ret, er, hr⟩ := zc_391 h_σ h_x2 h_x3 h_x4 g4 h_x4 zlI_0 hc
      refine ⟨ret, er, ?_⟩
      exact (zs_sumw hr (fun v w => ⟨w.1, w.2⟩) (fun v w => w.elim))
    · skip
      have r9 := (zs_I_len c6)
      have g10 : zs_in (t_3).toInt 1 2147483647 := (zs_ltr 1 2147483647 r9 zlI_0 (zs_topI _) (by decide))
      obtain ⟨ret, er, hr⟩ := zc_392 h_σ h_x2 h_x3 h_x4 g4 h_x4 (zs_cases g4 (fun z => zs_in ((1 : Int32) <<< (z &&& 31)).toInt 1 32) (by decide +kernel)) hc
      refine ⟨ret, er, ?_⟩
      exact (zs_sumw hr (fun v w => ⟨w.1, w.2⟩) (fun v w => w.elim))
theorem zd_70 {σ0 : sn_S} {σ : sn_S} (h_σ : zs_M σ0 σ) {x2 : Int32} (h_x2 : zs_in x2.toInt 0 63) {x3 : Int32} (h_x3 : zs_in x3.toInt 0 5) {s0 : (Int32 × Int32)} (h0 : (zs_in (s0.1).toInt 0 63 ∧ zs_in (s0.2).toInt 0 6)) : zs_ok (sn_it (LX9_web_34 σ x2 x3) 5000 s0) (fun t => zs_in (t).toInt 0 63) := by
  refine zs_it (I := fun s => (zs_in (s.1).toInt 0 63 ∧ zs_in (s.2).toInt 0 6)) (m := fun s => 6 - s.2.toInt) (fun s hs => ?_) (fun s hs => ?_) (by exact h0)
  · have h1 := hs.2; unfold zs_in at h1
    omega
  · obtain ⟨b, eb, hb⟩ := zc_393 h_σ h_x2 h_x3 hs.1 hs.2 (c := s.2.toInt) (Int.add_zero _).symm
    exact ⟨b, eb, zs_sumw hb (fun v w => ⟨⟨w.1.1, (zs_w w.1.2 (by decide))⟩, by have := w.2; omega⟩) (fun v w => w)⟩
-- BX9_web_74
theorem zc_394 {σ0 : sn_S} {σ : sn_S} (h_σ : zs_M σ0 σ) {x2 : Int32} (h_x2 : zs_in x2.toInt 0 63) {x3 : Int32} (h_x3 : zs_in x3.toInt 0 5) {x4 : Int32} (h_x4 : zs_in x4.toInt 0 63) {c : Int} (hc : x3.toInt = c + 0) : zs_ok (BX9_web_74 σ x2 x3 x4) (fun r => zs_sum (fun v => ((zs_in (v.1).toInt 0 63 ∧ zs_in (v.2).toInt 1 6)) ∧ v.2.toInt = c + 1) (fun v => False) r) := by
  unfold BX9_web_74
  refine zs_lt (Q := fun z => zs_in z.toInt 1 6 ∧ z.toInt = c + 1) ⟨(zs_addI 1 6 h_x3 zlI_1 (by decide)), (zs_syI 1 hc h_x3 zlI_1 (by decide) (by decide))⟩ (fun y_1 hy_1 => ?_)
  exact zs_some (zs_inl ⟨⟨h_x4, hy_1.1⟩, hy_1.2⟩)
-- BX9_web_22
theorem zc_395 {σ0 : sn_S} {σ : sn_S} (h_σ : zs_M σ0 σ) {x2 : Int32} (h_x2 : zs_in x2.toInt 0 63) {x3 : Int32} (h_x3 : zs_in x3.toInt 0 6) {c : Int} (hc : x3.toInt = c + 0) : zs_ok (BX9_web_22 σ x2 x3) (fun r => zs_sum (fun v => ((zs_in (v.1).toInt 0 63 ∧ zs_in (v.2).toInt 1 6)) ∧ v.2.toInt = c + 1) (fun v => zs_in (v).toInt 0 63) r) := by
  unfold BX9_web_22
  refine zs_ite (fun c1 => ?_) (fun c1 => ?_)
  · skip
    have r2 := (zs_I_le c1)
    have g3 : zs_in (x3).toInt 6 6 := (zs_ler 6 6 r2 zlI_6 h_x3 (by decide))
    exact zs_some (zs_inr (h_x2))
  · skip
    have r4 := (zs_I_len c1)
    have g5 : zs_in (x3).toInt 0 5 := (zs_ltl 0 5 r4 h_x3 zlI_6 (by decide))
    refine zs_bd_ (zd_70 h_σ h_x2 g5 (s0 := (x2, (0 : Int32))) ⟨h_x2, (zs_w zlI_0 (by decide))⟩) (fun t_2 pt_2 => ?_)
    obtain ⟨ret, er, hr⟩ := zc_394 h_σ h_x2 g5 pt_2 hc
    refine ⟨ret, er, ?_⟩
    exact (zs_sumw hr (fun v w => ⟨w.1, w.2⟩) (fun v w => w.elim))
theorem zd_71 {σ0 : sn_S} {σ : sn_S} (h_σ : zs_M σ0 σ) {s0 : (Int32 × Int32)} (h0 : (zs_in (s0.1).toInt 0 63 ∧ zs_in (s0.2).toInt 0 6)) : zs_ok (sn_it (LX9_web_22 σ) 5000 s0) (fun t => zs_in (t).toInt 0 63) := by
  refine zs_it (I := fun s => (zs_in (s.1).toInt 0 63 ∧ zs_in (s.2).toInt 0 6)) (m := fun s => 6 - s.2.toInt) (fun s hs => ?_) (fun s hs => ?_) (by exact h0)
  · have h1 := hs.2; unfold zs_in at h1
    omega
  · obtain ⟨b, eb, hb⟩ := zc_395 h_σ hs.1 hs.2 (c := s.2.toInt) (Int.add_zero _).symm
    exact ⟨b, eb, zs_sumw hb (fun v w => ⟨⟨w.1.1, (zs_w w.1.2 (by decide))⟩, by have := w.2; omega⟩) (fun v w => w)⟩
-- BX9_web_83
theorem zc_396 {σ0 : sn_S} {σ : sn_S} (h_σ : zs_M σ0 σ) {x2 : Int32} (h_x2 : zs_in x2.toInt 0 63) : zs_ok (BX9_web_83 σ x2) (fun r => (zs_in (r.1).toInt 0 63 ∧ zs_M σ0 r.2)) := by
  unfold BX9_web_83
  exact zs_some ⟨h_x2, h_σ⟩
-- fX9_web
theorem zc_397 {σ0 : sn_S} {σ : sn_S} (h_σ : zs_M σ0 σ) {x1 : Int32} : zs_ok (fX9_web σ x1) (fun r => ((zs_in (r.1).toInt (-2) 63 ∧ zs_M σ0 r.2)) ∧ ((r.1).toInt = (-2) ∨ (zs_in (x1).toInt 0 5))) := by
  unfold fX9_web
  refine zs_bd_ (zc_31 h_σ) (fun t_1 pt_1 => ?_)
  refine zs_bd_ (zc_6 pt_1 (zs_64 (zs_topI _))) (fun t_3 pt_3 => ?_)
  refine zs_ite (fun c1 => ?_) (fun c1 => ?_)
  · skip
    have r2 := (zs_I_eq c1)
    have g3 : zs_in (t_3).toInt 0 0 := (zs_eql 0 0 r2 pt_3.1 zlI_0 (by decide))
    exact zs_some ⟨⟨(zs_w zlI_m2 (by decide)), pt_1⟩, Or.inl (zs_ptr zlI_m2)⟩
  · skip
    have r4 := (zs_I_eqn c1)
    have g5 : zs_in (t_3).toInt 1 1 := (zs_nel 1 1 r4 pt_3.1 zlI_0 (by decide))
    have q6 := (zs_or2 pt_3.2 g5 (by decide))
    have g7 : zs_in (x1.toInt64).toInt 0 5 := q6
    have g8 : zs_in (x1).toInt 0 5 := (zs_64r g7)
    refine zs_lt (Q := fun z => zs_in z.toInt 1 32) (zs_cases g8 (fun z => zs_in ((1 : Int32) <<< (z &&& 31)).toInt 1 32) (by decide +kernel)) (fun y_6 hy_6 => ?_)
    refine zs_bd_ (zd_71 pt_1 (s0 := (y_6, (0 : Int32))) ⟨(zs_w hy_6 (by decide)), (zs_w zlI_0 (by decide))⟩) (fun t_8 pt_8 => ?_)
    obtain ⟨ret, er, hr⟩ := zc_396 pt_1 pt_8
    refine ⟨ret, er, ?_⟩
    exact ⟨⟨(zs_w hr.1 (by decide)), hr.2⟩, Or.inr g8⟩
-- fX8_claim
theorem zc_398 {σ0 : sn_S} {σ : sn_S} (h_σ : zs_C σ0 σ) {x1 : Int32} : zs_ok (fX8_claim σ x1) (fun r => ((True ∧ zs_C σ0 r.2)) ∧ ((r.1).toInt = (-2) ∨ (zs_in (x1).toInt 0 5))) := by
  unfold fX8_claim
  refine zs_bd_ (zo_isPolicy h_σ) (fun t_1 pt_1 => ?_)
  refine zs_ite (fun c1 => ?_) (fun c1 => ?_)
  · skip
    have r2 := (zs_I_eq c1)
    have g3 : zs_in (t_1).toInt 0 0 := (zs_eql 0 0 r2 pt_1.1 zlI_0 (by decide))
    exact zs_some ⟨⟨trivial, h_σ⟩, Or.inl (zs_ptr zlI_m2)⟩
  · skip
    have r4 := (zs_I_eqn c1)
    have g5 : zs_in (t_1).toInt 1 1 := (zs_nel 1 1 r4 pt_1.1 zlI_0 (by decide))
    have q6 := (zs_or2 pt_1.2.1 g5 (by decide))
    have g7 : zs_in (x1).toInt 0 5 := q6
    haveI := zs_or2 pt_1.2.2 g5 (by decide)
    refine zs_bd_ (zc_237 h_σ) (fun t_4 pt_4 => ?_)
    refine zs_gd (zs_gin g7 (by decide)) ?_
    exact zs_some ⟨⟨trivial, pt_4⟩, Or.inr g7⟩
-- fX9_claim
theorem zc_399 {σ0 : sn_S} {σ : sn_S} (h_σ : zs_M σ0 σ) {x1 : Int32} : zs_ok (fX9_claim σ x1) (fun r => ((True ∧ zs_M σ0 r.2)) ∧ ((r.1).toInt = (-2) ∨ (zs_in (x1).toInt 0 5))) := by
  unfold fX9_claim
  refine zs_bd_ (zc_239 h_σ) (fun t_1 pt_1 => ?_)
  refine zs_ite (fun c1 => ?_) (fun c1 => ?_)
  · skip
    have r2 := (zs_I_eq c1)
    have g3 : zs_in (t_1.1).toInt 0 0 := (zs_eql 0 0 r2 pt_1.1.1 zlI_0 (by decide))
    exact zs_some ⟨⟨trivial, pt_1.1.2⟩, Or.inl (zs_ptr zlI_m2)⟩
  · skip
    have r4 := (zs_I_eqn c1)
    have g5 : zs_in (t_1.1).toInt 1 1 := (zs_nel 1 1 r4 pt_1.1.1 zlI_0 (by decide))
    have q6 := (zs_or2 pt_1.2 g5 (by decide))
    have g7 : zs_in (x1).toInt 0 5 := q6
    refine zs_bd_ (zc_262 pt_1.1.2 g7) (fun t_4 pt_4 => ?_)
    exact zs_some ⟨⟨trivial, pt_4.2⟩, Or.inr g7⟩
-- fX8_paid
theorem zc_400 {σ0 : sn_S} {σ : sn_S} (h_σ : zs_C σ0 σ) {x1 : Int32} : zs_ok (fX8_paid σ x1) (fun r => ((zs_in (r.1).toInt (-2) 63 ∧ zs_C σ0 r.2)) ∧ ((r.1).toInt = (-2) ∨ (zs_in (x1).toInt 0 5))) := by
  unfold fX8_paid
  refine zs_bd_ (zo_isPolicy h_σ) (fun t_1 pt_1 => ?_)
  refine zs_ite (fun c1 => ?_) (fun c1 => ?_)
  · skip
    have r2 := (zs_I_eq c1)
    have g3 : zs_in (t_1).toInt 0 0 := (zs_eql 0 0 r2 pt_1.1 zlI_0 (by decide))
    exact zs_some ⟨⟨(zs_w zlI_m2 (by decide)), h_σ⟩, Or.inl (zs_ptr zlI_m2)⟩
  · skip
    have r4 := (zs_I_eqn c1)
    have g5 : zs_in (t_1).toInt 1 1 := (zs_nel 1 1 r4 pt_1.1 zlI_0 (by decide))
    have q6 := (zs_or2 pt_1.2.1 g5 (by decide))
    have g7 : zs_in (x1).toInt 0 5 := q6
    haveI := zs_or2 pt_1.2.2 g5 (by decide)
    refine zs_bd_ (zc_237 h_σ) (fun t_4 pt_4 => ?_)
    refine zs_gd (zs_gin g7 (by decide)) ?_
    exact zs_some ⟨⟨(zs_w (zs_rdu (q := 51) (z := ((-1), 63)) pt_4.1 (fun _ => rfl)) (by decide)), pt_4⟩, Or.inr g7⟩
-- fX9_paid
theorem zc_401 {σ0 : sn_S} {σ : sn_S} (h_σ : zs_M σ0 σ) {x1 : Int32} : zs_ok (fX9_paid σ x1) (fun r => ((True ∧ zs_M σ0 r.2)) ∧ ((r.1).toInt = (-2) ∨ (zs_in (x1).toInt 0 5))) := by
  unfold fX9_paid
  refine zs_bd_ (zc_239 h_σ) (fun t_1 pt_1 => ?_)
  refine zs_ite (fun c1 => ?_) (fun c1 => ?_)
  · skip
    have r2 := (zs_I_eq c1)
    have g3 : zs_in (t_1.1).toInt 0 0 := (zs_eql 0 0 r2 pt_1.1.1 zlI_0 (by decide))
    exact zs_some ⟨⟨trivial, pt_1.1.2⟩, Or.inl (zs_ptr zlI_m2)⟩
  · skip
    have r4 := (zs_I_eqn c1)
    have g5 : zs_in (t_1.1).toInt 1 1 := (zs_nel 1 1 r4 pt_1.1.1 zlI_0 (by decide))
    have q6 := (zs_or2 pt_1.2 g5 (by decide))
    have g7 : zs_in (x1).toInt 0 5 := q6
    refine zs_bd_ (zc_262 pt_1.1.2 g7) (fun t_4 pt_4 => ?_)
    exact zs_some ⟨⟨trivial, pt_4.2⟩, Or.inr g7⟩
-- BX8_claims_42
theorem zc_402 {σ0 : sn_S} {σ : sn_S} (h_σ : zs_C σ0 σ) {x2 : Int32} {x3 : Int32} (h_x3 : zs_in x3.toInt 0 5) {c : Int} (hc : x3.toInt = c + 0) : zs_ok (BX8_claims_42 σ x2 x3) (fun r => zs_sum (fun v => ((True ∧ zs_in (v.2).toInt 1 6)) ∧ v.2.toInt = c + 1) (fun v => False) r) := by
  unfold BX8_claims_42
  refine zs_lt (Q := fun z => zs_in z.toInt 1 6 ∧ z.toInt = c + 1) ⟨(zs_addI 1 6 h_x3 zlI_1 (by decide)), (zs_syI 1 hc h_x3 zlI_1 (by decide) (by decide))⟩ (fun y_1 hy_1 => ?_)
  exact zs_some (zs_inl ⟨⟨trivial, hy_1.1⟩, hy_1.2⟩)
-- BX8_claims_19
theorem zc_403 {σ0 : sn_S} {σ : sn_S} (h_σ : zs_C σ0 σ) {x2 : Int32} {x3 : Int32} (h_x3 : zs_in x3.toInt 0 6) {c : Int} (hc : x3.toInt = c + 0) : zs_ok (BX8_claims_19 σ x2 x3) (fun r => zs_sum (fun v => ((True ∧ zs_in (v.2).toInt 1 6)) ∧ v.2.toInt = c + 1) (fun v => True) r) := by
  unfold BX8_claims_19
  refine zs_ite (fun c1 => ?_) (fun c1 => ?_)
  · skip
    have r2 := (zs_I_le c1)
    exact zs_some (zs_inr (trivial))
  · skip
    have r3 := (zs_I_len c1)
    have g4 : zs_in (x3).toInt 0 5 := (zs_ltl 0 5 r3 h_x3 (zs_rdk (q := 49) (k := 2) (z := (0, 6)) h_σ.1 rfl) (by decide))
    have g5 : zs_in ((sn_I σ 49 2)).toInt 1 6 := (zs_ltr 1 6 r3 h_x3 (zs_rdk (q := 49) (k := 2) (z := (0, 6)) h_σ.1 rfl) (by decide))
    refine zs_gd (zs_gin g4 (by decide)) ?_
    refine zs_ite (fun c6 => ?_) (fun c6 => ?_)
    · skip
      have r7 := (zs_I_le c6)
      have g8 : zs_in ((sn_I σ (49 + 1) x3.toNatClampNeg)).toInt (-2147483648) 0 := (zs_lel (-2147483648) 0 r7 (zs_topI _) zlI_0 (by decide))
      obtain ⟨ret, er, hr⟩ := zc_402 h_σ g4 hc
      refine ⟨ret, er, ?_⟩
      exact (zs_sumw hr (fun v w => ⟨w.1, w.2⟩) (fun v w => w.elim))
    · skip
      have r9 := (zs_I_len c6)
      have g10 : zs_in ((sn_I σ (49 + 1) x3.toNatClampNeg)).toInt 1 2147483647 := (zs_ltr 1 2147483647 r9 zlI_0 (zs_topI _) (by decide))
      refine zs_lt (Q := fun z => True) trivial (fun y_4 hy_4 => ?_)
      obtain ⟨ret, er, hr⟩ := zc_402 h_σ g4 hc
      refine ⟨ret, er, ?_⟩
      exact (zs_sumw hr (fun v w => ⟨w.1, w.2⟩) (fun v w => w.elim))
theorem zd_72 {σ0 : sn_S} {σ : sn_S} (h_σ : zs_C σ0 σ) {s0 : (Int32 × Int32)} (h0 : (True ∧ zs_in (s0.2).toInt 0 6)) : zs_ok (sn_it (LX8_claims_19 σ) 5000 s0) (fun t => True) := by
  refine zs_it (I := fun s => (True ∧ zs_in (s.2).toInt 0 6)) (m := fun s => 6 - s.2.toInt) (fun s hs => ?_) (fun s hs => ?_) (by exact h0)
  · have h1 := hs.2; unfold zs_in at h1
    omega
  · obtain ⟨b, eb, hb⟩ := zc_403 h_σ hs.2 (c := s.2.toInt) (Int.add_zero _).symm
    exact ⟨b, eb, zs_sumw hb (fun v w => ⟨⟨w.1.1, (zs_w w.1.2 (by decide))⟩, by have := w.2; omega⟩) (fun v w => w)⟩
-- BX8_claims_48
theorem zc_404 {σ0 : sn_S} {σ : sn_S} (h_σ : zs_C σ0 σ) {x2 : Int32} : zs_ok (BX8_claims_48 σ x2) (fun r => (True ∧ zs_C σ0 r.2)) := by
  unfold BX8_claims_48
  exact zs_some ⟨trivial, h_σ⟩
-- fX8_claims
theorem zc_405 {σ0 : sn_S} {σ : sn_S} (h_σ : zs_C σ0 σ) : zs_ok (fX8_claims σ) (fun r => (True ∧ zs_C σ0 r.2)) := by
  unfold fX8_claims
  refine zs_bd_ (zc_102 h_σ) (fun t_1 pt_1 => ?_)
  refine zs_ite (fun c1 => ?_) (fun c1 => ?_)
  · skip
    have r2 := (zs_I_eq c1)
    have g3 : zs_in (t_1).toInt 0 0 := (zs_eql 0 0 r2 pt_1 zlI_0 (by decide))
    exact zs_some ⟨trivial, h_σ⟩
  · skip
    have r4 := (zs_I_eqn c1)
    have g5 : zs_in (t_1).toInt 1 1 := (zs_nel 1 1 r4 pt_1 zlI_0 (by decide))
    refine zs_bd_ (zc_237 h_σ) (fun t_4 pt_4 => ?_)
    refine zs_bd_ (zd_72 pt_4 (s0 := ((0 : Int32), (0 : Int32))) ⟨trivial, (zs_w zlI_0 (by decide))⟩) (fun t_6 pt_6 => ?_)
    obtain ⟨ret, er, hr⟩ := zc_404 pt_4
    refine ⟨ret, er, ?_⟩
    exact hr
-- BX9_claims_41
theorem zc_406 {σ0 : sn_S} {σ : sn_S} (h_σ : zs_M σ0 σ) {x1 : Int32} {x2 : Int32} (h_x2 : zs_in x2.toInt 0 5) {t0 : Int32} {t1 : Int32} (h_t1 : zs_in t1.toInt 0 0) {c : Int} (hc : x2.toInt = c + 0) : zs_ok (BX9_claims_41 σ x1 x2 t0 t1) (fun r => zs_sum (fun v => ((zs_M σ0 v.1 ∧ (True ∧ zs_in (v.2.2).toInt 1 6))) ∧ v.2.2.toInt = c + 1) (fun v => False) r) := by
  unfold BX9_claims_41
  obtain rfl : t1 = (0 : Int32) := zs_eqv h_t1 (by decide)
  refine zs_lt (Q := fun z => True) trivial (fun y_1 hy_1 => ?_)
  refine zs_lt (Q := fun z => zs_in z.toInt 1 6 ∧ z.toInt = c + 1) ⟨(zs_addI 1 6 h_x2 zlI_1 (by decide)), (zs_syI 1 hc h_x2 zlI_1 (by decide) (by decide))⟩ (fun y_3 hy_3 => ?_)
  exact zs_some (zs_inl ⟨⟨h_σ, ⟨trivial, hy_3.1⟩⟩, hy_3.2⟩)
-- BX9_claims_41
theorem zc_407 {σ0 : sn_S} {σ : sn_S} (h_σ : zs_M σ0 σ) {x1 : Int32} {x2 : Int32} (h_x2 : zs_in x2.toInt 0 5) {t0 : Int32} {t1 : Int32} (h_t1 : zs_in t1.toInt 1 32) {c : Int} (hc : x2.toInt = c + 0) : zs_ok (BX9_claims_41 σ x1 x2 t0 t1) (fun r => zs_sum (fun v => ((zs_M σ0 v.1 ∧ (True ∧ zs_in (v.2.2).toInt 1 6))) ∧ v.2.2.toInt = c + 1) (fun v => False) r) := by
  unfold BX9_claims_41
  refine zs_lt (Q := fun z => True) trivial (fun y_1 hy_1 => ?_)
  refine zs_lt (Q := fun z => zs_in z.toInt 1 6 ∧ z.toInt = c + 1) ⟨(zs_addI 1 6 h_x2 zlI_1 (by decide)), (zs_syI 1 hc h_x2 zlI_1 (by decide) (by decide))⟩ (fun y_3 hy_3 => ?_)
  exact zs_some (zs_inl ⟨⟨h_σ, ⟨trivial, hy_3.1⟩⟩, hy_3.2⟩)
-- BX9_claims_14
theorem zc_408 {σ0 : sn_S} {σ : sn_S} (h_σ : zs_M σ0 σ) {x1 : Int32} {x2 : Int32} (h_x2 : zs_in x2.toInt 0 6) {c : Int} (hc : x2.toInt = c + 0) : zs_ok (BX9_claims_14 σ x1 x2) (fun r => zs_sum (fun v => ((zs_M σ0 v.1 ∧ (True ∧ zs_in (v.2.2).toInt 1 6))) ∧ v.2.2.toInt = c + 1) (fun v => (zs_M σ0 v.1 ∧ True)) r) := by
  unfold BX9_claims_14
  refine zs_gd (zs_gin zlI_8 (by decide)) ?_
  refine zs_ite (fun c1 => ?_) (fun c1 => ?_)
  · skip
    have r2 := (zs_I_le c1)
    exact zs_some (zs_inr (⟨h_σ, trivial⟩))
  · skip
    have r3 := (zs_I_len c1)
    have g4 : zs_in (x2).toInt 0 5 := (zs_ltl 0 5 r3 h_x2 (zs_rdk (q := 1) (k := (8 : Int32).toNatClampNeg) (z := (0, 6)) h_σ.1 rfl) (by decide))
    have g5 : zs_in ((sn_I σ 1 (8 : Int32).toNatClampNeg)).toInt 1 6 := (zs_ltr 1 6 r3 h_x2 (zs_rdk (q := 1) (k := (8 : Int32).toNatClampNeg) (z := (0, 6)) h_σ.1 rfl) (by decide))
    refine zs_bd_ (zc_262 h_σ g4) (fun t_3 pt_3 => ?_)
    refine zs_ite (fun c6 => ?_) (fun c6 => ?_)
    · skip
      have r7 := (zs_I_le c6)
      have g8 : zs_in (t_3.1).toInt (-2147483648) 0 := (zs_lel (-2147483648) 0 r7 (zs_topI _) zlI_0 (by decide))
      obtain ⟨ret, er, hr⟩ := zc_406 pt_3.2 g4 zlI_0 hc
      refine ⟨ret, er, ?_⟩
      exact (zs_sumw hr (fun v w => ⟨w.1, w.2⟩) (fun v w => w.elim))
    · skip
      have r9 := (zs_I_len c6)
      have g10 : zs_in (t_3.1).toInt 1 2147483647 := (zs_ltr 1 2147483647 r9 zlI_0 (zs_topI _) (by decide))
      obtain ⟨ret, er, hr⟩ := zc_407 pt_3.2 g4 (zs_cases g4 (fun z => zs_in ((1 : Int32) <<< (z &&& 31)).toInt 1 32) (by decide +kernel)) hc
      refine ⟨ret, er, ?_⟩
      exact (zs_sumw hr (fun v w => ⟨w.1, w.2⟩) (fun v w => w.elim))
theorem zd_73 {σ0 : sn_S}  {s0 : (sn_S × (Int32 × Int32))} (h0 : (zs_M σ0 s0.1 ∧ (True ∧ zs_in (s0.2.2).toInt 0 6))) : zs_ok (sn_it (LX9_claims_14) 5000 s0) (fun t => (zs_M σ0 t.1 ∧ True)) := by
  refine zs_it (I := fun s => (zs_M σ0 s.1 ∧ (True ∧ zs_in (s.2.2).toInt 0 6))) (m := fun s => 6 - s.2.2.toInt) (fun s hs => ?_) (fun s hs => ?_) (by exact h0)
  · have h1 := hs.2.2; unfold zs_in at h1
    omega
  · obtain ⟨b, eb, hb⟩ := zc_408 hs.1 hs.2.2 (c := s.2.2.toInt) (Int.add_zero _).symm
    exact ⟨b, eb, zs_sumw hb (fun v w => ⟨⟨w.1.1, ⟨w.1.2.1, (zs_w w.1.2.2 (by decide))⟩⟩, by have := w.2; omega⟩) (fun v w => w)⟩
-- BX9_claims_49
theorem zc_409 {σ0 : sn_S} {σ : sn_S} (h_σ : zs_M σ0 σ) {x1 : Int32} : zs_ok (BX9_claims_49 σ x1) (fun r => (True ∧ zs_M σ0 r.2)) := by
  unfold BX9_claims_49
  exact zs_some ⟨trivial, h_σ⟩
-- fX9_claims
theorem zc_410 {σ0 : sn_S} {σ : sn_S} (h_σ : zs_M σ0 σ) : zs_ok (fX9_claims σ) (fun r => (True ∧ zs_M σ0 r.2)) := by
  unfold fX9_claims
  refine zs_bd_ (zc_92 h_σ) (fun t_1 pt_1 => ?_)
  refine zs_ite (fun c1 => ?_) (fun c1 => ?_)
  · skip
    have r2 := (zs_I_eq c1)
    have g3 : zs_in (t_1.1).toInt 0 0 := (zs_eql 0 0 r2 pt_1.1 zlI_0 (by decide))
    exact zs_some ⟨trivial, pt_1.2⟩
  · skip
    have r4 := (zs_I_eqn c1)
    have g5 : zs_in (t_1.1).toInt 1 1 := (zs_nel 1 1 r4 pt_1.1 zlI_0 (by decide))
    refine zs_bd_ (zd_73  (s0 := (t_1.2, ((0 : Int32), (0 : Int32)))) ⟨pt_1.2, ⟨trivial, (zs_w zlI_0 (by decide))⟩⟩) (fun t_4 pt_4 => ?_)
    obtain ⟨ret, er, hr⟩ := zc_409 pt_4.1
    refine ⟨ret, er, ?_⟩
    exact hr
-- fX8_money
theorem zc_411 {σ0 : sn_S} {σ : sn_S} (h_σ : zs_C σ0 σ) {x1 : Int32} : zs_ok (fX8_money σ x1) (fun r => (True ∧ zs_C σ0 r.2)) := by
  unfold fX8_money
  refine zs_bd_ (zc_44 h_σ) (fun t_1 pt_1 => ?_)
  refine zs_ite (fun c1 => ?_) (fun c1 => ?_)
  · skip
    have r2 := (zs_I_eq c1)
    have g3 : zs_in (t_1).toInt 0 0 := (zs_eql 0 0 r2 pt_1.1 zlI_0 (by decide))
    exact zs_some ⟨trivial, h_σ⟩
  · skip
    have r4 := (zs_I_eqn c1)
    have g5 : zs_in (t_1).toInt 1 1 := (zs_nel 1 1 r4 pt_1.1 zlI_0 (by decide))
    have q6 := (zs_or2 pt_1.2 g5 (by decide))
    have g7 : zs_in (x1).toInt 0 29 := q6
    refine zs_bd_ (zc_237 h_σ) (fun t_4 pt_4 => ?_)
    refine zs_bd_ (zc_270 pt_4 g7) (fun t_6 pt_6 => ?_)
    exact zs_some ⟨trivial, pt_4⟩
-- fX9_money
theorem zc_412 {σ0 : sn_S} {σ : sn_S} (h_σ : zs_M σ0 σ) {x1 : Int32} : zs_ok (fX9_money σ x1) (fun r => (True ∧ zs_M σ0 r.2)) := by
  unfold fX9_money
  refine zs_bd_ (zc_95 h_σ) (fun t_1 pt_1 => ?_)
  refine zs_ite (fun c1 => ?_) (fun c1 => ?_)
  · skip
    have r2 := (zs_I_eq c1)
    have g3 : zs_in (t_1.1).toInt 0 0 := (zs_eql 0 0 r2 pt_1.1.1 zlI_0 (by decide))
    exact zs_some ⟨trivial, pt_1.1.2⟩
  · skip
    have r4 := (zs_I_eqn c1)
    have g5 : zs_in (t_1.1).toInt 1 1 := (zs_nel 1 1 r4 pt_1.1.1 zlI_0 (by decide))
    have q6 := (zs_or2 pt_1.2 g5 (by decide))
    have g7 : zs_in (x1).toInt 0 29 := q6
    refine zs_bd_ (zc_299 pt_1.1.2) (fun t_4 pt_4 => ?_)
    refine zs_bd_ (zc_308 pt_4 g7) (fun t_6 pt_6 => ?_)
    exact zs_some ⟨trivial, pt_4⟩
-- BX3_firstBelow_2
theorem zc_413 {σ0 : sn_S} {σ : sn_S} (h_σ : zs_C σ0 σ) {x1 : Int32} (h_x1 : zs_in x1.toInt 0 30) {x2 : Int32} (h_x2 : zs_in x2.toInt 0 30) {c : Int} (hc : x2.toInt = c + 0) : zs_ok (BX3_firstBelow_2 σ 49 x1 x2) (fun r => zs_sum (fun v => (zs_in (v).toInt 1 30) ∧ v.toInt = c + 1) (fun v => zs_sum (fun v => True) (fun v => zs_in (v).toInt 0 29) v) r) := by
  unfold BX3_firstBelow_2
  refine zs_ite (fun c1 => ?_) (fun c1 => ?_)
  · skip
    have r2 := (zs_I_le c1)
    exact zs_some (zs_inr ((zs_inl (trivial))))
  · skip
    have r3 := (zs_I_len c1)
    have g4 : zs_in (x2).toInt 0 29 := (zs_ltl 0 29 r3 h_x2 h_x1 (by decide))
    have g5 : zs_in (x1).toInt 1 30 := (zs_ltr 1 30 r3 h_x2 h_x1 (by decide))
    refine zs_bd_ (zc_270 h_σ g4) (fun t_2 pt_2 => ?_)
    refine zs_ite (fun c6 => ?_) (fun c6 => ?_)
    · skip
      have r7 := (zs_I_le c6)
      have g8 : zs_in (t_2).toInt 0 2147483647 := (zs_ler 0 2147483647 r7 zlI_0 (zs_topI _) (by decide))
      refine zs_lt (Q := fun z => zs_in z.toInt 1 30 ∧ z.toInt = c + 1) ⟨(zs_addI 1 30 g4 zlI_1 (by decide)), (zs_syI 1 hc g4 zlI_1 (by decide) (by decide))⟩ (fun y_5 hy_5 => ?_)
      exact zs_some (zs_inl ⟨hy_5.1, hy_5.2⟩)
    · skip
      have r9 := (zs_I_len c6)
      have g10 : zs_in (t_2).toInt (-2147483648) (-1) := (zs_ltl (-2147483648) (-1) r9 (zs_topI _) zlI_0 (by decide))
      exact zs_some (zs_inr ((zs_inr (g4))))
theorem zd_74 {σ0 : sn_S} {σ : sn_S} (h_σ : zs_C σ0 σ) {x1 : Int32} (h_x1 : zs_in x1.toInt 0 30) {s0 : Int32} (h0 : zs_in (s0).toInt 0 30) : zs_ok (sn_it (LX3_firstBelow_2 σ 49 x1) 5000 s0) (fun t => zs_sum (fun v => True) (fun v => zs_in (v).toInt 0 29) t) := by
  refine zs_it (I := fun s => zs_in (s).toInt 0 30) (m := fun s => 30 - s.toInt) (fun s hs => ?_) (fun s hs => ?_) (by exact h0)
  · have h1 := hs; unfold zs_in at h1
    omega
  · obtain ⟨b, eb, hb⟩ := zc_413 h_σ h_x1 hs (c := s.toInt) (Int.add_zero _).symm
    exact ⟨b, eb, zs_sumw hb (fun v w => ⟨(zs_w w.1 (by decide)), by have := w.2; omega⟩) (fun v w => w)⟩
-- BX3_firstBelow_23
theorem zc_414 {σ0 : sn_S} {σ : sn_S} (h_σ : zs_C σ0 σ) : zs_ok (BX3_firstBelow_23 σ 49) (fun r => zs_in (r).toInt (-1) (-1)) := by
  unfold BX3_firstBelow_23
  exact zs_some zlI_m1
-- fX3_firstBelow
theorem zc_415 {σ0 : sn_S} {σ : sn_S} (h_σ : zs_C σ0 σ) {x1 : Int32} (h_x1 : zs_in x1.toInt 0 30) : zs_ok (fX3_firstBelow σ 49 x1) (fun r => zs_in (r).toInt (-1) 29) := by
  unfold fX3_firstBelow
  refine zs_bd_ (zd_74 h_σ h_x1 (s0 := (0 : Int32)) (zs_w zlI_0 (by decide))) (fun t_1 pt_1 => ?_)
  refine zs_elim pt_1 (fun v_3 pv_3 => ?_) (fun r_4 pr_4 => ?_)
  · skip
    obtain ⟨ret, er, hr⟩ := zc_414 h_σ
    refine ⟨ret, er, ?_⟩
    exact (zs_w hr (by decide))
  · skip
    exact zs_some (zs_w pr_4 (by decide))
-- fX8_ruin
theorem zc_416 {σ0 : sn_S} {σ : sn_S} (h_σ : zs_C σ0 σ) : zs_ok (fX8_ruin σ) (fun r => (zs_in (r.1).toInt (-2) 29 ∧ zs_C σ0 r.2)) := by
  unfold fX8_ruin
  refine zs_bd_ (zc_102 h_σ) (fun t_1 pt_1 => ?_)
  refine zs_ite (fun c1 => ?_) (fun c1 => ?_)
  · skip
    have r2 := (zs_I_eq c1)
    have g3 : zs_in (t_1).toInt 0 0 := (zs_eql 0 0 r2 pt_1 zlI_0 (by decide))
    exact zs_some ⟨(zs_w zlI_m2 (by decide)), h_σ⟩
  · skip
    have r4 := (zs_I_eqn c1)
    have g5 : zs_in (t_1).toInt 1 1 := (zs_nel 1 1 r4 pt_1 zlI_0 (by decide))
    refine zs_bd_ (zc_237 h_σ) (fun t_4 pt_4 => ?_)
    refine zs_bd_ (zc_415 pt_4 (zs_rdk (q := 27) (k := 0) (z := (0, 30)) pt_4.1 rfl)) (fun t_6 pt_6 => ?_)
    exact zs_some ⟨(zs_w pt_6 (by decide)), pt_4⟩
-- BX9_ruinOf_6
theorem zc_417 {σ0 : sn_S} {σ : sn_S} (h_σ : zs_M σ0 σ) {x1 : Int32} (h_x1 : zs_in x1.toInt 0 30) {c : Int} (hc : x1.toInt = c + 0) : zs_ok (BX9_ruinOf_6 σ x1) (fun r => zs_sum (fun v => (zs_in (v).toInt 1 30) ∧ v.toInt = c + 1) (fun v => zs_sum (fun v => True) (fun v => (zs_in (v.1).toInt 0 29 ∧ zs_M σ0 v.2)) v) r) := by
  unfold BX9_ruinOf_6
  refine zs_ite (fun c1 => ?_) (fun c1 => ?_)
  · skip
    have r2 := (zs_I_lt c1)
    exact zs_some (zs_inr ((zs_inl (trivial))))
  · skip
    have r3 := (zs_I_ltn c1)
    have g4 : zs_in (x1).toInt 0 29 := (zs_lel 0 29 r3 h_x1 (zs_rdk (q := 0) (k := 22) (z := ((-1), 29)) h_σ.1 rfl) (by decide))
    have g5 : zs_in ((sn_I σ 0 22)).toInt 0 29 := (zs_ler 0 29 r3 h_x1 (zs_rdk (q := 0) (k := 22) (z := ((-1), 29)) h_σ.1 rfl) (by decide))
    refine zs_bd_ (zc_308 h_σ g4) (fun t_2 pt_2 => ?_)
    refine zs_ite (fun c6 => ?_) (fun c6 => ?_)
    · skip
      have r7 := (zs_I_le c6)
      have g8 : zs_in (t_2).toInt 0 2147483647 := (zs_ler 0 2147483647 r7 zlI_0 (zs_topI _) (by decide))
      refine zs_lt (Q := fun z => zs_in z.toInt 1 30 ∧ z.toInt = c + 1) ⟨(zs_addI 1 30 g4 zlI_1 (by decide)), (zs_syI 1 hc g4 zlI_1 (by decide) (by decide))⟩ (fun y_5 hy_5 => ?_)
      exact zs_some (zs_inl ⟨hy_5.1, hy_5.2⟩)
    · skip
      have r9 := (zs_I_len c6)
      have g10 : zs_in (t_2).toInt (-2147483648) (-1) := (zs_ltl (-2147483648) (-1) r9 (zs_topI _) zlI_0 (by decide))
      exact zs_some (zs_inr ((zs_inr (⟨g4, h_σ⟩))))
theorem zd_75 {σ0 : sn_S} {σ : sn_S} (h_σ : zs_M σ0 σ) {s0 : Int32} (h0 : zs_in (s0).toInt 0 30) : zs_ok (sn_it (LX9_ruinOf_6 σ) 5000 s0) (fun t => zs_sum (fun v => True) (fun v => (zs_in (v.1).toInt 0 29 ∧ zs_M σ0 v.2)) t) := by
  refine zs_it (I := fun s => zs_in (s).toInt 0 30) (m := fun s => 30 - s.toInt) (fun s hs => ?_) (fun s hs => ?_) (by exact h0)
  · have h1 := hs; unfold zs_in at h1
    omega
  · obtain ⟨b, eb, hb⟩ := zc_417 h_σ hs (c := s.toInt) (Int.add_zero _).symm
    exact ⟨b, eb, zs_sumw hb (fun v w => ⟨(zs_w w.1 (by decide)), by have := w.2; omega⟩) (fun v w => w)⟩
-- BX9_ruinOf_30
theorem zc_418 {σ0 : sn_S} {σ : sn_S} (h_σ : zs_M σ0 σ) : zs_ok (BX9_ruinOf_30 σ) (fun r => (zs_in (r.1).toInt (-1) (-1) ∧ zs_M σ0 r.2)) := by
  unfold BX9_ruinOf_30
  exact zs_some ⟨zlI_m1, h_σ⟩
-- fX9_ruinOf
theorem zc_419 {σ0 : sn_S} {σ : sn_S} (h_σ : zs_M σ0 σ) : zs_ok (fX9_ruinOf σ) (fun r => (zs_in (r.1).toInt (-1) 29 ∧ zs_M σ0 r.2)) := by
  unfold fX9_ruinOf
  refine zs_bd_ (zc_299 h_σ) (fun t_1 pt_1 => ?_)
  refine zs_bd_ (zd_75 pt_1 (s0 := (0 : Int32)) (zs_w zlI_0 (by decide))) (fun t_3 pt_3 => ?_)
  refine zs_elim pt_3 (fun v_5 pv_5 => ?_) (fun r_6 pr_6 => ?_)
  · skip
    obtain ⟨ret, er, hr⟩ := zc_418 pt_1
    refine ⟨ret, er, ?_⟩
    exact ⟨(zs_w hr.1 (by decide)), hr.2⟩
  · skip
    exact zs_some ⟨(zs_w pr_6.1 (by decide)), pr_6.2⟩
-- fX9_ruin
theorem zc_420 {σ0 : sn_S} {σ : sn_S} (h_σ : zs_M σ0 σ) : zs_ok (fX9_ruin σ) (fun r => (zs_in (r.1).toInt (-2) 29 ∧ zs_M σ0 r.2)) := by
  unfold fX9_ruin
  refine zs_bd_ (zc_92 h_σ) (fun t_1 pt_1 => ?_)
  refine zs_ite (fun c1 => ?_) (fun c1 => ?_)
  · skip
    have r2 := (zs_I_eq c1)
    have g3 : zs_in (t_1.1).toInt 0 0 := (zs_eql 0 0 r2 pt_1.1 zlI_0 (by decide))
    exact zs_some ⟨(zs_w zlI_m2 (by decide)), pt_1.2⟩
  · skip
    have r4 := (zs_I_eqn c1)
    have g5 : zs_in (t_1.1).toInt 1 1 := (zs_nel 1 1 r4 pt_1.1 zlI_0 (by decide))
    refine zs_bd_ (zc_419 pt_1.2) (fun t_4 pt_4 => ?_)
    exact zs_some ⟨(zs_w pt_4.1 (by decide)), pt_4.2⟩
-- BX8_dear_63
theorem zc_421 {σ0 : sn_S} {σ : sn_S} (h_σ : zs_C σ0 σ) {x2 : Int32} (h_x2 : zs_in x2.toInt (-1) 5) {x3 : Int32} (h_x3 : zs_in x3.toInt 0 2147483647) {x4 : Int32} (h_x4 : zs_in x4.toInt 0 5) {c : Int} (hc : x4.toInt = c + 0) : zs_ok (BX8_dear_63 σ x2 x3 x4) (fun r => zs_sum (fun v => ((zs_in (v.1).toInt (-1) 5 ∧ (zs_in (v.2.1).toInt 0 2147483647 ∧ zs_in (v.2.2).toInt 1 6))) ∧ v.2.2.toInt = c + 1) (fun v => False) r) := by
  unfold BX8_dear_63
  refine zs_lt (Q := fun z => zs_in z.toInt 1 6 ∧ z.toInt = c + 1) ⟨(zs_addI 1 6 h_x4 zlI_1 (by decide)), (zs_syI 1 hc h_x4 zlI_1 (by decide) (by decide))⟩ (fun y_1 hy_1 => ?_)
  exact zs_some (zs_inl ⟨⟨h_x2, ⟨h_x3, hy_1.1⟩⟩, hy_1.2⟩)
-- BX8_dear_63
theorem zc_422 {σ0 : sn_S} {σ : sn_S} (h_σ : zs_C σ0 σ) {x2 : Int32} (h_x2 : zs_in x2.toInt 0 5) {x3 : Int32} (h_x3 : zs_in x3.toInt 1 2147483647) {x4 : Int32} (h_x4 : zs_in x4.toInt 0 5) {c : Int} (hc : x4.toInt = c + 0) : zs_ok (BX8_dear_63 σ x2 x3 x4) (fun r => zs_sum (fun v => ((zs_in (v.1).toInt 0 5 ∧ (zs_in (v.2.1).toInt 1 2147483647 ∧ zs_in (v.2.2).toInt 1 6))) ∧ v.2.2.toInt = c + 1) (fun v => False) r) := by
  unfold BX8_dear_63
  refine zs_lt (Q := fun z => zs_in z.toInt 1 6 ∧ z.toInt = c + 1) ⟨(zs_addI 1 6 h_x4 zlI_1 (by decide)), (zs_syI 1 hc h_x4 zlI_1 (by decide) (by decide))⟩ (fun y_1 hy_1 => ?_)
  exact zs_some (zs_inl ⟨⟨h_x2, ⟨h_x3, hy_1.1⟩⟩, hy_1.2⟩)
-- BX8_dear_22
theorem zc_423 {σ0 : sn_S} {σ : sn_S} (h_σ : zs_C σ0 σ) {x2 : Int32} (h_x2 : zs_in x2.toInt (-1) 5) {x3 : Int32} (h_x3 : zs_in x3.toInt 0 2147483647) {x4 : Int32} (h_x4 : zs_in x4.toInt 0 6) {c : Int} (hc : x4.toInt = c + 0) : zs_ok (BX8_dear_22 σ x2 x3 x4) (fun r => zs_sum (fun v => ((zs_in (v.1).toInt (-1) 5 ∧ (zs_in (v.2.1).toInt 0 2147483647 ∧ zs_in (v.2.2).toInt 1 6))) ∧ v.2.2.toInt = c + 1) (fun v => zs_in (v).toInt (-1) 5) r) := by
  unfold BX8_dear_22
  refine zs_ite (fun c1 => ?_) (fun c1 => ?_)
  · skip
    have r2 := (zs_I_le c1)
    exact zs_some (zs_inr (h_x2))
  · skip
    have r3 := (zs_I_len c1)
    have g4 : zs_in (x4).toInt 0 5 := (zs_ltl 0 5 r3 h_x4 (zs_rdk (q := 49) (k := 2) (z := (0, 6)) h_σ.1 rfl) (by decide))
    have g5 : zs_in ((sn_I σ 49 2)).toInt 1 6 := (zs_ltr 1 6 r3 h_x4 (zs_rdk (q := 49) (k := 2) (z := (0, 6)) h_σ.1 rfl) (by decide))
    refine zs_gd (zs_gin g4 (by decide)) ?_
    refine zs_bd_ (zc_229 h_σ g4 zlI_4) (fun t_3 pt_3 => ?_)
    refine zs_lt (Q := fun z => True) trivial (fun y_5 hy_5 => ?_)
    refine zs_ite (fun c6 => ?_) (fun c6 => ?_)
    · skip
      have r7 := (zs_I_le c6)
      obtain ⟨ret, er, hr⟩ := zc_421 h_σ h_x2 h_x3 g4 hc
      refine ⟨ret, er, ?_⟩
      exact (zs_sumw hr (fun v w => ⟨w.1, w.2⟩) (fun v w => w.elim))
    · skip
      have r8 := (zs_I_len c6)
      have g9 : zs_in (x3).toInt 0 2147483646 := (zs_ltl 0 2147483646 r8 h_x3 (zs_topI _) (by decide))
      have g10 : zs_in (y_5).toInt 1 2147483647 := (zs_ltr 1 2147483647 r8 h_x3 (zs_topI _) (by decide))
      obtain ⟨ret, er, hr⟩ := zc_422 h_σ g4 g10 g4 hc
      refine ⟨ret, er, ?_⟩
      exact (zs_sumw hr (fun v w => ⟨⟨(zs_w w.1.1 (by decide)), ⟨(zs_w w.1.2.1 (by decide)), w.1.2.2⟩⟩, w.2⟩) (fun v w => w.elim))
end
