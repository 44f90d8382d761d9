/-! how many -/
theorem zq_rows {σ τ : sn_S} (h : zJ σ τ) : rr_ok (fX6_howMany σ) ((sn_it (LX9_count_42 τ) 5000 ((0 : Int32), (0 : Int32))).bind fun t_6 => BX9_count_71 τ t_6) (fun x y => x = y) := by
  unfold fX6_howMany
  refine rr_bd (Q := fun x y => x = y) (rr_it (E := fun x y => x = y) (J := fun (s s' : Int32 × Int32) => s = s' ∧ ∃ k : Nat, k ≤ 4 ∧ s.2 = nI k) (m := fun s => 4 - s.2.toInt) (fun s s' hs => ?_) (fun s s' hs => ?_) ⟨rfl, 0, by decide, rfl⟩) (fun a b e => ?_)
  · obtain ⟨_, k, hk, e⟩ := hs
    rw [e, nI_toInt (by omega)]
    exact ⟨by omega, by omega⟩
  · obtain ⟨e, k, hk, ek⟩ := hs
    subst e
    obtain ⟨x, i⟩ := s
    have ek : i = nI k := ek
    subst ek
    unfold LX6_howMany_4 BX6_howMany_4 LX9_count_42 BX9_count_42
    by_cases k4 : k = 4
    · subst k4
      rw [if_pos (show (4 : Int32) ≤ ((x, nI 4) : Int32 × Int32).2 from Int32.le_refl _), if_pos (show (4 : Int32) ≤ ((x, nI 4) : Int32 × Int32).2 from Int32.le_refl _)]
      exact rr_some (Or.inr ⟨_, _, rfl, rfl, rfl⟩)
    · have kl : k < 4 := by omega
      have n4 : ¬ (4 : Int32) ≤ ((x, nI k) : Int32 × Int32).2 := nI_ge (b := 4) kl (by decide)
      have es : σ.1 26 k = τ.1 21 k := (h.1.2.2.2.2.1 k kl).1
      have go : ∀ d : Int32, rr_ok (BX6_howMany_23 σ x (nI k) x d) (BX9_count_63 τ x (nI k) x d) (fun o o' => (∃ a a', o = .inl a ∧ o' = .inl a' ∧ (a = a' ∧ ∃ k : Nat, k ≤ 4 ∧ a.2 = nI k) ∧ 4 - a.2.toInt < 4 - (nI k).toInt) ∨ ∃ b b', o = .inr b ∧ o' = .inr b' ∧ b = b') := fun d => by
        unfold BX6_howMany_23 BX9_count_63
        rw [rr_lt, rr_lt]
        refine rr_some (Or.inl ⟨_, _, rfl, rfl, ⟨rfl, k + 1, by omega, nI_1 k⟩, ?_⟩)
        show 4 - (nI k + 1).toInt < 4 - (nI k).toInt
        rw [nI_1, nI_toInt (by omega), nI_toInt (by omega)]
        omega
      rw [if_neg n4, if_neg n4]
      show rr_ok ((fX6_has σ (nI k)).bind fun t_2 => if t_2 = 0 then BX6_howMany_23 σ x (nI k) x 0 else BX6_howMany_23 σ x (nI k) x 1) (sn_gd (sn_in (nI k) 4) (if sn_I τ 21 (nI k).toNatClampNeg = (-1 : Int32) then BX9_count_63 τ x (nI k) x 0 else BX9_count_63 τ x (nI k) x 1)) _
      rw [c_has σ kl, sn_in_nI kl (by decide), gd_T, nI_clamp (by omega), es]
      by_cases c : τ.1 21 k = -1
      · rw [if_pos c, bd_t0, if_pos (show sn_I τ 21 k = -1 from c)]
        exact go 0
      · rw [if_neg c, bd_t1, if_neg (show ¬ sn_I τ 21 k = -1 from c)]
        exact go 1
  · exact rr_some e
theorem zJ_66 : ∀ (σ τ : sn_S) (a : Int32), zJ σ τ → ∃ r, fX8_count σ a = some r ∧ fX9_count τ a = some r := by
  intro σ τ a h
  have e9 : fX9_in a.toInt64 (0 : Int64) (10 : Int64) = some (if (0 : Int32) ≤ a ∧ a ≤ (10 : Int32) then 1 else 0) := in_eq32 a 0 10
  unfold fX8_count fX9_count
  rw [e9]
  by_cases c11 : a = 11
  · subst c11
    rw [if_pos rfl, if_neg (show ¬ ((0 : Int32) ≤ 11 ∧ (11 : Int32) ≤ 10) by decide), bd_t0, if_pos rfl]
    exact ⟨σ.1 17 1, rfl, by show some (τ.1 0 5) = _; rw [h.1.2.2.1.1]⟩
  by_cases c12 : a = 12
  · subst c12
    rw [if_neg (show ¬ (12 : Int32) = 11 by decide), if_pos rfl, if_neg (show ¬ ((0 : Int32) ≤ 12 ∧ (12 : Int32) ≤ 10) by decide), bd_t0, if_neg (show ¬ (12 : Int32) = 11 by decide), if_pos rfl]
    obtain ⟨x, y, e1, e2, e3⟩ := zq_rows h
    exact ⟨x, by rw [e1]; rfl, by rw [e2, ← e3]⟩
  rw [if_neg c11, if_neg c12]
  by_cases c0 : a < 0
  · rw [if_pos c0, if_neg (show ¬ ((0 : Int32) ≤ a ∧ a ≤ 10) from fun x => absurd c0 (Int32.not_lt.mpr x.1)), bd_t0, if_neg c11, if_neg c12]
    exact ⟨-1, rfl, rfl⟩
  rw [if_neg c0]
  by_cases c1 : a < 11
  · obtain ⟨j, hj, ej⟩ := nI_idx (n := 11) (by decide) (Int32.not_lt.mp c0) c1
    subst ej
    rw [if_pos c1, if_pos (show (0 : Int32) ≤ nI j ∧ nI j ≤ 10 from ⟨Int32.not_lt.mp c0, nI_le (b := 10) (by omega) (by decide)⟩), bd_t1, sn_in_nI hj (by decide), gd_T, sn_in_nI (by omega) (by decide), gd_T, nI_clamp (by omega)]
    exact ⟨σ.1 2 j, rfl, by show some (τ.1 1 j) = some (σ.1 2 j); rw [← h.2.1.1 j hj]⟩
  · rw [if_neg c1, if_neg (show ¬ ((0 : Int32) ≤ a ∧ a ≤ 10) from fun x => c1 (Int32.lt_of_le_of_lt x.2 (by decide))), bd_t0, if_neg c11, if_neg c12]
    exact ⟨-1, rfl, rfl⟩
