/-! reading behind writing; loops; numbers -/
theorem sn_I_pI {σ : sn_S} {q k a b : Nat} {v : Int32} : sn_I (sn_pI σ q k v) a b = if a = q ∧ b = k then v else sn_I σ a b := rfl
theorem sn_I_pL {σ : sn_S} {q k a b : Nat} {v : Int64} : sn_I (sn_pL σ q k v) a b = sn_I σ a b := rfl
theorem sn_I_pR {σ : sn_S} {q k a b : Nat} {v : Option Nat} : sn_I (sn_pR σ q k v) a b = sn_I σ a b := rfl
theorem sn_I_wI {σ : sn_S} {q a b : Nat} {f : Nat → Int32} : sn_I (sn_wI σ q f) a b = if a = q then f b else sn_I σ a b := by
  show (if a = q then f else σ.1 a) b = _
  split <;> rfl
theorem sn_I_wL {σ : sn_S} {q a b : Nat} {f : Nat → Int64} : sn_I (sn_wL σ q f) a b = sn_I σ a b := rfl
theorem sn_L_pI {σ : sn_S} {q k a b : Nat} {v : Int32} : sn_L (sn_pI σ q k v) a b = sn_L σ a b := rfl
theorem sn_L_pL {σ : sn_S} {q k a b : Nat} {v : Int64} : sn_L (sn_pL σ q k v) a b = if a = q ∧ b = k then v else sn_L σ a b := rfl
theorem sn_L_pR {σ : sn_S} {q k a b : Nat} {v : Option Nat} : sn_L (sn_pR σ q k v) a b = sn_L σ a b := rfl
theorem sn_L_wI {σ : sn_S} {q a b : Nat} {f : Nat → Int32} : sn_L (sn_wI σ q f) a b = sn_L σ a b := rfl
theorem sn_L_wL {σ : sn_S} {q a b : Nat} {f : Nat → Int64} : sn_L (sn_wL σ q f) a b = if a = q then f b else sn_L σ a b := by
  show (if a = q then f else σ.2.1 a) b = _
  split <;> rfl
theorem sn_R_pI {σ : sn_S} {q k a b : Nat} {v : Int32} : sn_R (sn_pI σ q k v) a b = sn_R σ a b := rfl
theorem sn_R_pL {σ : sn_S} {q k a b : Nat} {v : Int64} : sn_R (sn_pL σ q k v) a b = sn_R σ a b := rfl
theorem sn_R_pR {σ : sn_S} {q k a b : Nat} {v : Option Nat} : sn_R (sn_pR σ q k v) a b = if a = q ∧ b = k then v else sn_R σ a b := rfl
theorem sn_R_wI {σ : sn_S} {q a b : Nat} {f : Nat → Int32} : sn_R (sn_wI σ q f) a b = sn_R σ a b := rfl
theorem sn_R_wL {σ : sn_S} {q a b : Nat} {f : Nat → Int64} : sn_R (sn_wL σ q f) a b = sn_R σ a b := rfl
/-- a loop that ends, by an invariant and a measure -/
theorem sn_it_rule {S T : Type} {f : S → Option (S ⊕ T)} (P : S → Prop) (μ : S → Nat) (post : T → Prop)
    (h : ∀ s, P s → (∃ s', f s = some (.inl s') ∧ P s' ∧ μ s' < μ s) ∨ (∃ t, f s = some (.inr t) ∧ post t)) : ∀ (n : Nat) (s : S), P s → μ s < n → ∃ t, sn_it f n s = some t ∧ post t := by
  intro n
  induction n with
  | zero => intro s _ h0; exact absurd h0 (by omega)
  | succ n ih =>
    intro s hP hm
    rcases h s hP with ⟨s', e1, e2, e3⟩ | ⟨t, e1, e2⟩
    · obtain ⟨t, e4, e5⟩ := ih s' e2 (by omega)
      exact ⟨t, by unfold sn_it; rw [e1]; exact e4, e5⟩
    · exact ⟨t, by unfold sn_it; rw [e1], e2⟩
/-- a loop over 0 .. N - 1, told by its invariant at each index -/
theorem sn_for {S T : Type} {f : S → Option (S ⊕ T)} (N : Nat) (P : Nat → S → Prop) (post : T → Prop) (step : ∀ k s, k < N → P k s → ∃ s', f s = some (.inl s') ∧ P (k + 1) s') (last : ∀ s, P N s → ∃ t, f s = some (.inr t) ∧ post t) {n : Nat} (hn : N < n) {s : S} (h0 : P 0 s) : ∃ t, sn_it f n s = some t ∧ post t := by
  have key : ∀ (d k n : Nat) (s : S), N - k = d → k ≤ N → d < n → P k s → ∃ t, sn_it f n s = some t ∧ post t := by
    intro d
    induction d with
    | zero =>
      intro k n s hd hk hn hP
      have : k = N := by omega
      subst this
      obtain ⟨t, e1, e2⟩ := last s hP
      match n, hn with
      | n + 1, _ => exact ⟨t, by unfold sn_it; rw [e1], e2⟩
    | succ d ih =>
      intro k n s hd hk hn hP
      obtain ⟨s', e1, e2⟩ := step k s (by omega) hP
      match n, hn with
      | n + 1, hn =>
        obtain ⟨t, e3, e4⟩ := ih (k + 1) n s' (by omega) (by omega) (by omega) e2
        exact ⟨t, by unfold sn_it; rw [e1]; exact e3, e4⟩
  exact key N 0 n s (by omega) (by omega) hn h0
theorem sn_in_nI {k n : Nat} (h : k < n) (hn : n < 2 ^ 31) : sn_in (nI k) n = true := by
  unfold sn_in
  rw [nI_clamp (by omega)]
  simp [h, nI_pos' (show k < 2 ^ 31 by omega)]
theorem lg_lt (x y : Int64) : lg_cmp x y < 0 ↔ x < y := by
  unfold lg_cmp
  by_cases h1 : x > y
  · rw [if_pos h1]
    constructor
    · intro h; exact absurd h (by decide)
    · intro h; exact absurd (Int64.lt_trans h h1) (Int64.lt_irrefl)
  · rw [if_neg h1]
    by_cases h2 : x = y
    · rw [if_pos h2]
      subst h2
      constructor
      · intro h; exact absurd h (by decide)
      · intro h; exact absurd h Int64.lt_irrefl
    · rw [if_neg h2]
      constructor
      · intro _
        rcases Int64.lt_or_le x y with h | h
        · exact h
        · rcases Int64.le_iff_lt_or_eq.mp h with h3 | h3
          · exact absurd h3 h1
          · exact absurd h3.symm h2
      · intro _; decide
/-! the reference's small methods -/
theorem in_eq (x a b : Int64) : fX9_in x a b = some (if a ≤ x ∧ x ≤ b then 1 else 0) := by
  unfold fX9_in
  by_cases h1 : x < a
  · rw [if_pos ((lg_lt x a).mpr h1), if_neg (fun h => absurd h1 (Int64.not_lt.mpr h.1))]
    rfl
  · rw [if_neg (fun h => h1 ((lg_lt x a).mp h))]
    have hs : (0 < lg_cmp x b) ↔ b < x := by
      unfold lg_cmp
      by_cases g1 : x > b
      · rw [if_pos g1]; exact ⟨fun _ => g1, fun _ => by decide⟩
      · rw [if_neg g1]
        by_cases g2 : x = b
        · rw [if_pos g2]; exact ⟨fun h => absurd h (by decide), fun h => absurd h g1⟩
        · rw [if_neg g2]; exact ⟨fun h => absurd h (by decide), fun h => absurd h g1⟩
    by_cases h2 : b < x
    · rw [if_pos (hs.mpr h2), if_neg (fun h => absurd h2 (Int64.not_lt.mpr h.2))]
      rfl
    · rw [if_neg (fun h => h2 (hs.mp h)), if_pos ⟨Int64.not_lt.mp h1, Int64.not_lt.mp h2⟩]
      rfl
theorem in_eq32 (x a b : Int32) : fX9_in x.toInt64 a.toInt64 b.toInt64 = some (if a ≤ x ∧ x ≤ b then 1 else 0) := by
  rw [in_eq]
  have h : ∀ u v : Int32, u.toInt64 ≤ v.toInt64 ↔ u ≤ v := fun u v => by
    rw [Int64.le_iff_toInt_le, Int32.toInt_toInt64, Int32.toInt_toInt64, Int32.le_iff_toInt_le]
  simp only [h]
/-! numbers of 32 bits that are small -/
theorem i32_sub1 {v : Int32} (h : 0 ≤ v) : (v - 1).toInt = v.toInt - 1 := by
  have h1 : 0 ≤ v.toInt := by have := Int32.le_iff_toInt_le.mp h; simpa using this
  have h2 : v.toInt < 2 ^ 31 := Int32.toInt_lt v
  rw [Int32.toInt_sub]
  show (v.toInt - 1).bmod (2 ^ 32) = _
  exact Int.bmod_eq_of_le (by omega) (by omega)
theorem i32_le_sub1 {a v : Int32} (h : 0 ≤ v) : a ≤ v - 1 ↔ a < v := by
  rw [Int32.le_iff_toInt_le, Int32.lt_iff_toInt_lt, i32_sub1 h]
  omega
theorem nI_ofc {a : Int32} (h : 0 ≤ a) : a = nI a.toNatClampNeg := by
  have h1 : 0 ≤ a.toInt := by have := Int32.le_iff_toInt_le.mp h; simpa using this
  have h2 : a.toInt < 2 ^ 31 := Int32.toInt_lt a
  apply Int32.toInt_inj.mp
  have h3 : a.toNatClampNeg = a.toInt.toNat := rfl
  rw [nI_toInt (by omega), h3]
  omega
theorem nI_mul (a b : Nat) : nI a * nI b = nI (a * b) := (Int32.ofNat_mul a b).symm
/-- a number that names one of n things, n small -/
theorem nI_idx {a : Int32} {n : Nat} (hn : n < 2 ^ 31) (h0 : 0 ≤ a) (h1 : a < nI n) : ∃ k, k < n ∧ a = nI k := by
  refine ⟨a.toNatClampNeg, ?_, nI_ofc h0⟩
  have h2 := Int32.lt_iff_toInt_lt.mp h1
  have h3 : 0 ≤ a.toInt := by have := Int32.le_iff_toInt_le.mp h0; simpa using this
  rw [nI_toInt hn] at h2
  have h4 : a.toNatClampNeg = a.toInt.toNat := rfl
  omega
theorem gd_T {α : Type} {k : Option α} : sn_gd true k = k := rfl
/-! who and what there is -/
theorem c_isPerson (σ : sn_S) (a : Int32) : fX8_isPerson σ a = some (if 0 ≤ a ∧ a < σ.1 2 5 then 1 else 0) := by
  unfold fX8_isPerson
  by_cases h0 : a < 0
  · rw [if_pos h0, if_neg (fun h => absurd h0 (Int32.not_lt.mpr h.1))]
    rfl
  · rw [if_neg h0]
    show (if σ.1 2 5 ≤ a then _ else _) = _
    by_cases h1 : σ.1 2 5 ≤ a
    · rw [if_pos h1, if_neg (fun h => absurd h.2 (Int32.not_lt.mpr h1))]
      rfl
    · rw [if_neg h1, if_pos ⟨Int32.not_lt.mp h0, Int32.not_le.mp h1⟩]
      rfl
theorem m_isPerson {τ : sn_S} (h5 : 0 ≤ τ.1 1 5) (a : Int32) : fX9_isPerson τ a.toInt64 = some (if 0 ≤ a ∧ a < τ.1 1 5 then 1 else 0) := by
  unfold fX9_isPerson
  show (fX9_in a.toInt64 (0 : Int32).toInt64 ((τ.1 1 5 - 1).toInt64)).bind _ = _
  rw [in_eq32]
  simp only [i32_le_sub1 h5]
  split <;> rfl
/-! the rows of numbers -/
theorem c_isSlot (a : Int32) : fX6_isSlot a = some (if 0 ≤ a ∧ a < 4 then 1 else 0) := by
  unfold fX6_isSlot
  by_cases h0 : a < 0
  · rw [if_pos h0, if_neg (fun h => absurd h0 (Int32.not_lt.mpr h.1))]
    rfl
  · rw [if_neg h0]
    by_cases h1 : (4 : Int32) ≤ a
    · rw [if_pos h1, if_neg (fun h => absurd h.2 (Int32.not_lt.mpr h1))]
      rfl
    · rw [if_neg h1, if_pos ⟨Int32.not_lt.mp h0, Int32.not_le.mp h1⟩]
      rfl
theorem m_isSlot (a : Int32) : fX9_isSlot a = some (if 0 ≤ a ∧ a < 4 then 1 else 0) := by
  unfold fX9_isSlot
  show (fX9_in a.toInt64 (0 : Int32).toInt64 ((4 : Int32) - 1).toInt64).bind _ = _
  rw [in_eq32]
  simp only [i32_le_sub1 (show (0 : Int32) ≤ 4 by decide)]
  split <;> rfl
theorem fillL (σ : sn_S) (q n : Nat) (v : Int64) (hn : n < 5000) : fJ7_fill_d0a16 σ q n v = some (σ.1, (fun a b => if a = q ∧ b < n then v else σ.2.1 a b), σ.2.2) := by
  unfold fJ7_fill_d0a16
  show ((sn_it (LJ7_fill_d0a16_6 q n v (Int32.ofNat n)) 5000 (σ, (0 : Int32))).bind _) = _
  obtain ⟨t, e1, e2⟩ := sn_for (f := LJ7_fill_d0a16_6 q n v (Int32.ofNat n)) n (fun k s => s = ((σ.1, (fun a b => if a = q ∧ b < k then v else σ.2.1 a b), σ.2.2), nI k)) (fun t => t = (σ.1, (fun a b => if a = q ∧ b < n then v else σ.2.1 a b), σ.2.2))
    (fun k s hk hs => by
      subst hs
      refine ⟨_, ?_, rfl⟩
      unfold LJ7_fill_d0a16_6 BJ7_fill_d0a16_6
      rw [if_neg (show ¬ Int32.ofNat n ≤ nI k from nI_ge hk (by omega))]
      show sn_gd (sn_in (nI k) n) (some (Sum.inl (sn_pL _ q (nI k).toNatClampNeg v, nI k + 1))) = _
      rw [sn_in_nI hk (by omega), gd_T, nI_clamp (by omega), nI_1]
      refine congrArg (fun z => some (Sum.inl ((σ.1, z, σ.2.2), nI (k + 1)))) ?_
      funext a b
      show (if a = q ∧ b = k then v else if a = q ∧ b < k then v else σ.2.1 a b) = _
      by_cases ha : a = q
      · by_cases hb : b = k
        · rw [if_pos ⟨ha, hb⟩, if_pos ⟨ha, by omega⟩]
        · rw [if_neg (fun h => hb h.2)]
          by_cases hb2 : b < k
          · rw [if_pos ⟨ha, hb2⟩, if_pos ⟨ha, by omega⟩]
          · rw [if_neg (fun h => hb2 h.2), if_neg (fun h => hb2 (by have := h.2; omega))]
      · rw [if_neg (fun h => ha h.1), if_neg (fun h => ha h.1), if_neg (fun h => ha h.1)])
    (fun s hs => by
      subst hs
      refine ⟨_, ?_, rfl⟩
      unfold LJ7_fill_d0a16_6 BJ7_fill_d0a16_6
      rw [if_pos (show Int32.ofNat n ≤ nI n from Int32.le_refl _)])
    hn (s := (σ, (0 : Int32))) (by
      show (σ, (0 : Int32)) = _
      rw [nI_0]
      simp)
  rw [e1, e2]
  rfl
theorem m_rowzero (τ : sn_S) (s : Nat) (hs : s < 4) : sn_it (LX9_row_52 (nI s)) 5000 (τ, (0 : Int32)) = some (τ.1, (fun a b => if a = 23 ∧ 60 * s ≤ b ∧ b < 60 * s + 60 then 0 else τ.2.1 a b), τ.2.2) := by
  obtain ⟨t, e1, e2⟩ := sn_for (f := LX9_row_52 (nI s)) 60 (fun k z => z = ((τ.1, (fun a b => if a = 23 ∧ 60 * s ≤ b ∧ b < 60 * s + k then 0 else τ.2.1 a b), τ.2.2), nI k)) (fun t => t = (τ.1, (fun a b => if a = 23 ∧ 60 * s ≤ b ∧ b < 60 * s + 60 then 0 else τ.2.1 a b), τ.2.2))
    (fun k z hk hz => by
      subst hz
      refine ⟨_, ?_, rfl⟩
      unfold LX9_row_52 BX9_row_52
      rw [if_neg (show ¬ (60 : Int32) ≤ nI k from nI_ge (b := 60) hk (by decide))]
      have ei : (60 : Int32) * nI s + nI k = nI (60 * s + k) := by
        rw [← nI_add, ← nI_mul]
        rfl
      show sn_gd (sn_in ((60 : Int32) * nI s + nI k) 240) (some (Sum.inl (sn_pL _ 23 ((60 : Int32) * nI s + nI k).toNatClampNeg 0, nI k + 1))) = _
      rw [ei, sn_in_nI (by omega) (by decide), gd_T, nI_clamp (by omega), nI_1]
      refine congrArg (fun z => some (Sum.inl ((τ.1, z, τ.2.2), nI (k + 1)))) ?_
      funext a b
      show (if a = 23 ∧ b = 60 * s + k then (0 : Int64) else if a = 23 ∧ 60 * s ≤ b ∧ b < 60 * s + k then 0 else τ.2.1 a b) = _
      by_cases ha : a = 23
      · by_cases hb : b = 60 * s + k
        · rw [if_pos ⟨ha, hb⟩, if_pos ⟨ha, by omega⟩]
        · rw [if_neg (fun h => hb h.2)]
          by_cases hb2 : 60 * s ≤ b ∧ b < 60 * s + k
          · rw [if_pos ⟨ha, hb2⟩, if_pos ⟨ha, by omega⟩]
          · rw [if_neg (fun h => hb2 h.2), if_neg (fun h => hb2 (by have := h.2; omega))]
      · rw [if_neg (fun h => ha h.1), if_neg (fun h => ha h.1), if_neg (fun h => ha h.1)])
    (fun z hz => by
      subst hz
      refine ⟨_, ?_, rfl⟩
      unfold LX9_row_52 BX9_row_52
      rw [if_pos (show (60 : Int32) ≤ nI 60 by decide)])
    (n := 5000) (by decide) (s := (τ, (0 : Int32))) (by
      show (τ, (0 : Int32)) = _
      rw [nI_0]
      refine congrArg (fun z => ((τ.1, z, τ.2.2), (0 : Int32))) ?_
      funext a b
      rw [if_neg (by omega)])
  rw [e1, e2]
theorem at20 {s : Nat} (h : s < 4) : sn_at sn_rs20 (nI s) = 21 + s := by
  match s, h with
  | 0, _ => rfl
  | 1, _ => rfl
  | 2, _ => rfl
  | 3, _ => rfl
/-! is there such a policy, minute, net, is there a house: class and reference -/
theorem c_isPolicy (σ : sn_S) (a : Int32) : fX8_isPolicy σ a = some (if 0 ≤ a ∧ a < σ.1 2 8 then 1 else 0) := by
  unfold fX8_isPolicy
  by_cases h0 : a < 0
  · rw [if_pos h0, if_neg (fun h => absurd h0 (Int32.not_lt.mpr h.1))]
    rfl
  · rw [if_neg h0]
    show (if σ.1 2 8 ≤ a then _ else _) = _
    by_cases h1 : σ.1 2 8 ≤ a
    · rw [if_pos h1, if_neg (fun h => absurd h.2 (Int32.not_lt.mpr h1))]
      rfl
    · rw [if_neg h1, if_pos ⟨Int32.not_lt.mp h0, Int32.not_le.mp h1⟩]
      rfl
theorem c_isMinute (σ : sn_S) (a : Int32) : fX8_isMinute σ a = some (if 0 ≤ a ∧ a < σ.1 2 0 then 1 else 0) := by
  unfold fX8_isMinute
  by_cases h0 : a < 0
  · rw [if_pos h0, if_neg (fun h => absurd h0 (Int32.not_lt.mpr h.1))]
    rfl
  · rw [if_neg h0]
    show (if σ.1 2 0 ≤ a then _ else _) = _
    by_cases h1 : σ.1 2 0 ≤ a
    · rw [if_pos h1, if_neg (fun h => absurd h.2 (Int32.not_lt.mpr h1))]
      rfl
    · rw [if_neg h1, if_pos ⟨Int32.not_lt.mp h0, Int32.not_le.mp h1⟩]
      rfl
theorem m_isPolicy {τ : sn_S} (h8 : 0 ≤ τ.1 1 8) (a : Int32) : fX9_isPolicy τ a = some (if 0 ≤ a ∧ a < τ.1 1 8 then 1 else 0) := by
  unfold fX9_isPolicy
  show (fX9_in a.toInt64 (0 : Int32).toInt64 ((τ.1 1 8 - 1).toInt64)).bind _ = _
  rw [in_eq32]
  simp only [i32_le_sub1 h8]
  split <;> rfl
theorem m_isMinute {τ : sn_S} (h0 : 0 ≤ τ.1 1 0) (a : Int32) : fX9_isMinute τ a.toInt64 = some (if 0 ≤ a ∧ a < τ.1 1 0 then 1 else 0) := by
  unfold fX9_isMinute
  show (fX9_in a.toInt64 (0 : Int32).toInt64 ((τ.1 1 0 - 1).toInt64)).bind _ = _
  rw [in_eq32]
  simp only [i32_le_sub1 h0]
  split <;> rfl
theorem pI_ne {σ : sn_S} {q k a : Nat} {v : Int32} (h : a ≠ q) : (sn_pI σ q k v).1 a = σ.1 a := by
  funext b
  show (if a = q ∧ b = k then v else σ.1 a b) = _
  rw [if_neg (fun z => h z.1)]
theorem pI_slot {σ : sn_S} {q k b : Nat} {v : Int32} (h : b ≠ k) : (sn_pI σ q k v).1 q b = σ.1 q b := by
  show (if q = q ∧ b = k then v else σ.1 q b) = _
  rw [if_neg (fun z => h z.2)]
theorem pI_self {σ : sn_S} {q k : Nat} {v : Int32} : (sn_pI σ q k v).1 q k = v := by
  show (if q = q ∧ k = k then v else σ.1 q k) = _
  rw [if_pos ⟨rfl, rfl⟩]
