/-! answers: greatest, longest, together -/
section
variable {σ τ : sn_S}
theorem yb_firstFrom (x : Int32) {m : Nat} (hm : m < 30 + 1) : yp (fX9_firstFrom x (nI m)) (fun r => yb_F x m r) := by
  unfold fX9_firstFrom
  refine yp_bd (fun t => (t = Sum.inl () ∧ ∀ k, m ≤ k → k < 30 → sp_bit x k = false) ∨ ∃ k, m ≤ k ∧ k < 30 ∧ sp_bit x k = true ∧ (∀ j, m ≤ j → j < k → sp_bit x j = false) ∧ t = Sum.inr (nI k)) (yp_it (fun s => ∃ k, m ≤ k ∧ k ≤ 30 ∧ s = nI k ∧ ∀ j, m ≤ j → j < k → sp_bit x j = false) (fun s hs => ?_) _ _ ⟨m, Nat.le_refl _, by omega, rfl, fun j h1 h2 => absurd h1 (by omega)⟩) (fun t ht => ?_)
  · obtain ⟨k, hm2, hk, e, h⟩ := hs
    subst e
    show yp (BX9_firstFrom_2 x (nI k)) _
    unfold BX9_firstFrom_2
    refine yp_ite (fun c => yp_some (Or.inl ⟨rfl, ?_⟩)) (fun c => ?_)
    · have : k = 30 := by
        rcases Nat.lt_or_ge k 30 with g | g
        · exact absurd c (nI_ge (b := 30) g (by decide))
        · omega
      subst this
      exact h
    · have k30 : k < 30 := by
        rcases Nat.lt_or_ge k 30 with g | g
        · exact g
        · exact absurd (nI_le (a := 30) g (by omega)) c
      rw [yb_m]
      refine yp_bit (fun b => ?_) (fun b => ?_)
      · rw [if_pos rfl]
        exact yp_some (Or.inr ⟨k, hm2, k30, b, h, rfl⟩)
      · rw [if_neg (by decide)]
        refine yp_lt (yp_some ⟨k + 1, by omega, k30, nI_1 k, fun j hj1 hj2 => ?_⟩)
        by_cases e : j = k
        · rw [e]; exact b
        · exact h j hj1 (by omega)
  · rcases ht with ⟨e, h⟩ | ⟨k, k0, k1, k2, k3, e⟩
    · subst e
      show yp (BX9_firstFrom_25) _
      unfold BX9_firstFrom_25
      exact yp_some (Or.inl ⟨rfl, h⟩)
    · subst e
      exact yp_some (Or.inr ⟨k, k0, k1, k2, k3, rfl⟩)
end
