/-! the whole text, both sides at once -/
theorem rr_it {S T S' T' : Type} {f : S → Option (S ⊕ T)} {g : S' → Option (S' ⊕ T')} {E : T → T' → Prop} (J : S → S' → Prop) (m : S → Int) (hb : ∀ s s', J s s' → 0 ≤ m s ∧ m s < 4999) (step : ∀ s s', J s s' → rr_ok (f s) (g s') (fun o o' => (∃ a a', o = .inl a ∧ o' = .inl a' ∧ J a a' ∧ m a < m s) ∨ ∃ b b', o = .inr b ∧ o' = .inr b' ∧ E b b')) {s0 : S} {s0' : S'} (h0 : J s0 s0') : rr_ok (sn_it f 5000 s0) (sn_it g 5000 s0') E := by
  have key : ∀ (n : Nat) (s : S) (s' : S'), J s s' → (m s).toNat < n → rr_ok (sn_it f n s) (sn_it g n s') E := by
    intro n
    induction n with
    | zero => intro s s' _ h; exact absurd h (by omega)
    | succ n ih =>
      intro s s' hJ hm
      obtain ⟨o, o', e1, e2, h⟩ := step s s' hJ
      unfold sn_it
      rw [e1, e2]
      rcases h with ⟨a, a', x1, x2, x3, x4⟩ | ⟨b, b', x1, x2, x3⟩
      · subst x1
        subst x2
        have := hb s s' hJ
        have := hb a a' x3
        exact ih a a' x3 (by omega)
      · subst x1
        subst x2
        exact rr_some x3
  exact key 5000 s0 s0' h0 (by have := hb s0 s0' h0; omega)
theorem rr_and {α β : Type} {x : Option α} {y : Option β} {P : α → β → Prop} {Q : β → Prop} (h : rr_ok x y P) (g : zs_ok y Q) : rr_ok x y (fun a b => P a b ∧ Q b) := by
  obtain ⟨a, b, e1, e2, p⟩ := h
  obtain ⟨b', e3, q⟩ := g
  rw [e2] at e3
  cases e3
  exact ⟨a, b, e1, e2, p, q⟩
section
variable {σ τ τ0 : sn_S} {n : Nat} {l : Int32}
theorem rr_L9 {i : Nat} {v : Int32} (h : rr_L σ τ n) : rr_L (sn_pI σ 9 i v) τ n := by
  have := rr_Lw (q := 9) (i := i) (v := v) (j := 0) (w := τ.1 6 0) (by decide) (by decide) h
  have e : sn_pI τ 6 0 (τ.1 6 0) = τ := by
    refine Prod.ext ?_ rfl
    funext x y
    show (if x = 6 ∧ y = 0 then τ.1 6 0 else τ.1 x y) = _
    by_cases z : x = 6 ∧ y = 0
    · rw [if_pos z, z.1, z.2]
    · rw [if_neg z]
  rw [e] at this
  exact this
theorem rr_N10 {v : Int32} (h : rr_N l σ τ n) : rr_N l (sn_pI σ 9 10 v) τ n := by
  refine ⟨rr_L9 h.1, h.2.1, fun x => ?_⟩
  rw [pI_ne (by decide)] at x
  obtain ⟨hb, h9, h0, h1, h2, h3⟩ := h.2.2 x
  have e9 : ∀ k, k ≠ 10 → (sn_pI σ 9 10 v).1 9 k = σ.1 9 k := fun k hk => pI_slot hk
  have eo : ∀ q, q ≠ 9 → (sn_pI σ 9 10 v).1 q = σ.1 q := fun q hq => pI_ne hq
  unfold rr_c
  rw [e9 5 (by decide), e9 6 (by decide), e9 7 (by decide), e9 8 (by decide), e9 9 (by decide), eo 10 (by decide), eo 11 (by decide), eo 12 (by decide), eo 13 (by decide)]
  exact ⟨hb, fun k hk => by rw [e9 k (by omega)]; exact h9 k hk, h0, h1, h2, h3⟩
theorem rr_readLine (h : rr_N l σ τ n) (hg : σ.1 17 2 = 0) : fX9_readLine τ = if l = 0 then (fX9_readFirst τ).bind fun t => BX9_readLine_21 t else (fX9_readNext τ).bind fun t => BX9_readLine_21 t := by
  unfold fX9_readLine
  rw [show sn_I τ 6 (10 : Int32).toNatClampNeg = l from h.2.1]
  rfl
/-- what both have when the text is read -/
def rr_X (τ0 σ τ : sn_S) (n : Nat) : Prop := ∃ k, k ≤ 900 ∧ rr_N (nI k) σ τ n ∧ σ.1 9 10 = nI k ∧ zm_G τ0 τ
theorem rr_rows (h : rr_N (nI 0) σ τ n) (h10 : σ.1 9 10 = nI 0) (hG : zm_G τ0 τ) (hp : zm_pos τ) : rr_ok (sn_it (LX5_read_33 8) 5000 (σ, (0 : Int32))) (sn_it LX9_house_53 5000 τ) (fun z w => rr_X τ0 z w n) := by
  refine rr_it (J := fun (s : sn_S × Int32) t => ∃ k : Nat, s.2 = nI k ∧ k ≤ 900 ∧ rr_N (nI k) s.1 t n ∧ s.1.1 9 10 = nI k ∧ zm_G τ0 t ∧ zm_pos t ∧ (t.1 0 12 = 0 → (t.1 6 10).toInt ≤ (t.1 0 9).toInt)) (m := fun s => 900 - s.2.toInt) (fun s t hs => ?_) (fun s t hs => ?_) ⟨0, rfl, by decide, h, h10, hG, hp, fun _ => by rw [h.2.1, nI_toInt (by decide)]; exact (zm_b (k := 9) hG rfl).1⟩
  · obtain ⟨k, e, hk, _⟩ := hs
    rw [e, nI_toInt (by omega)]
    exact ⟨by omega, by omega⟩
  · obtain ⟨z, x⟩ := s
    obtain ⟨k, ex, hk, hN, h10, hG, hp, hl⟩ := hs
    have ex : x = nI k := ex
    have hN : rr_N (nI k) z t n := hN
    have h10 : z.1 9 10 = nI k := h10
    subst ex
    have fin : ∀ y : sn_S, y = z → rr_ok (some (Sum.inr (α := sn_S × Int32) y)) (some (Sum.inr (α := sn_S) t)) (fun o o' => (∃ a a', o = .inl a ∧ o' = .inl a' ∧ (∃ k : Nat, a.2 = nI k ∧ k ≤ 900 ∧ rr_N (nI k) a.1 a' n ∧ a.1.1 9 10 = nI k ∧ zm_G τ0 a' ∧ zm_pos a' ∧ (a'.1 0 12 = 0 → (a'.1 6 10).toInt ≤ (a'.1 0 9).toInt)) ∧ 900 - a.2.toInt < 900 - (nI k).toInt) ∨ ∃ b b', o = .inr b ∧ o' = .inr b' ∧ rr_X τ0 b b' n) := fun y hy => by
      subst hy
      exact rr_some (Or.inr ⟨_, _, rfl, rfl, k, hk, hN, h10, hG⟩)
    unfold LX5_read_33 BX5_read_33 LX9_house_53 BX9_house_53
    rw [rm_good]
    by_cases hg : z.1 17 2 = 0
    · have hgm : t.1 0 12 = 0 := hN.1.2.2.2.1.trans hg
      obtain ⟨a, e, tc, tm, lae, len, k4, hE⟩ := hN.1.2.2.2.2.2 hg
      have hkk : rd_k (rc_B z) n = rd_k (rm_B t) n := rd_kB (fun k hk => (hN.1.1.2.2.2 k hk).1)
      have k5 := rd_k5 (rm_B t) n a
      have hn9 := hN.1.1.2.2.1
      have ht5 : rd_t (rd_k (rm_B t) n a) ≤ 5 := by unfold rd_t; split <;> omega
      rw [if_pos hgm, bd_t1, if_pos (show sn_I (z, nI k).1 17 2 = 0 from hg)]
      by_cases k0 : rd_k (rm_B t) n a = 0
      · have d1 : sn_I (z, nI k).1 17 6 = 0 := by show z.1 17 6 = 0; rw [tc.2.2, hkk, k0]; rfl
        have d2 : sn_I t 0 10 = 0 := by show t.1 0 10 = 0; rw [tm.2.2.1, k0]; rfl
        rw [if_pos d1, if_pos d2]
        by_cases c9 : (900 : Int32) ≤ (z, nI k).2
        · rw [if_pos c9]
          exact fin z rfl
        · rw [if_neg c9]
          exact fin z rfl
      · have d1 : ¬ sn_I (z, nI k).1 17 6 = 0 := fun x => k0 (by
          have x2 : nI (rd_k (rc_B z) n a) = nI 0 := tc.2.2.symm.trans x
          rw [hkk] at x2
          exact (nI_eq (by omega) (by decide)).mp x2)
        have d2 : ¬ sn_I t 0 10 = 0 := fun x => k0 (by
          have x2 : nI (rd_t (rd_k (rm_B t) n a)) = nI 0 := tm.2.2.1.symm.trans x
          have x3 := (nI_eq (by omega) (by decide)).mp x2
          unfold rd_t at x3
          split at x3
          · omega
          · exact x3)
        have lan : a < n := by
          rcases rd_kc (rm_B t) n a with y | y
          · omega
          · exact y.1
        have hka : k ≤ a := by
          have := hl hgm
          rw [hN.2.1, tm.1, nI_toInt (by omega), nI_toInt (by omega)] at this
          omega
        have c9 : ¬ (900 : Int32) ≤ (z, nI k).2 := fun x => by
          have := (nI_leI (a := 900) (by decide) (by omega)).mp x
          omega
        rw [if_neg d1, if_neg d2, if_neg c9]
        have hbig : (t.1 6 10).toInt = (k : Int) := by rw [hN.2.1, nI_toInt (by omega)]
        have safe := zm_readLine hG hp ⟨by omega, by omega⟩
        have nx : ∀ y : sn_S → Option ((sn_S × Int32) ⊕ sn_S), (∀ u, y u = BX5_read_69 u 8 (nI k)) → ∀ X : Option sn_S, rr_ok X (fX9_readLine t) (fun z' t' => rr_N (nI k + 1) z' t' n) → rr_ok (X.bind fun t => y t) ((fX9_readLine t).bind fun t_5 => some (Sum.inl (β := sn_S) t_5)) (fun o o' => (∃ a a', o = .inl a ∧ o' = .inl a' ∧ (∃ k : Nat, a.2 = nI k ∧ k ≤ 900 ∧ rr_N (nI k) a.1 a' n ∧ a.1.1 9 10 = nI k ∧ zm_G τ0 a' ∧ zm_pos a' ∧ (a'.1 0 12 = 0 → (a'.1 6 10).toInt ≤ (a'.1 0 9).toInt)) ∧ 900 - a.2.toInt < 900 - (nI k).toInt) ∨ ∃ b b', o = .inr b ∧ o' = .inr b' ∧ rr_X τ0 b b' n) := by
          intro y hy X hX
          refine rr_bd (rr_and hX safe) (fun u v q => ?_)
          obtain ⟨q1, g1, g2, g3, g4⟩ := q
          rw [nI_1] at q1
          rw [hy]
          unfold BX5_read_69
          refine rr_gl (by rw [q1.1.2.2.1]; rfl) (rr_gl (by decide) (rr_ll (fun w => w = sn_pI u 9 10 (nI (k + 1))) (by show sn_pI u (8 + 1) (10 : Int32).toNatClampNeg (nI k + (1 : Int32)) = _; rw [nI_1]; rfl) (fun w hw => rr_ll (fun p => p = nI (k + 1)) (nI_1 k) (fun p hp' => ?_))))
          subst hw
          subst hp'
          refine rr_some (Or.inl ⟨_, _, rfl, rfl, ⟨k + 1, rfl, by omega, rr_N10 q1, pI_self, g1, g2, fun x => ?_⟩, ?_⟩)
          · have := g4 x
            have e1 : (t.1 0 9).toInt = (a : Int) := by rw [tm.1, nI_toInt (by omega)]
            omega
          · show 900 - (nI (k + 1)).toInt < 900 - (nI k).toInt
            rw [nI_toInt (by omega), nI_toInt (by omega)]
            omega
        by_cases kz : k = 0
        · subst kz
          rw [if_pos (show ((z, nI 0) : sn_S × Int32).2 = 0 from rfl)]
          refine nx (fun u => BX5_read_69 u 8 (nI 0)) (fun _ => rfl) _ ?_
          rw [rr_readLine hN hg, if_pos (show nI 0 = 0 from rfl)]
          exact rr_first hN
        · rw [if_neg (show ¬ ((z, nI k) : sn_S × Int32).2 = 0 from fun x => kz ((nI_eq (b := 0) (by omega) (by decide)).mp x))]
          refine nx (fun u => BX5_read_69 u 8 (nI k)) (fun _ => rfl) _ ?_
          rw [rr_readLine hN hg, if_neg (show ¬ nI k = (0 : Int32) from fun x => kz ((nI_eq (b := 0) (by omega) (by decide)).mp x))]
          exact rr_line hN hg
    · rw [if_neg (show ¬ t.1 0 12 = 0 by rw [hN.1.2.2.2.1]; exact hg), bd_t0, if_neg (show ¬ sn_I (z, nI k).1 17 2 = 0 from hg)]
      by_cases c9 : (900 : Int32) ≤ (z, nI k).2
      · rw [if_pos c9]
        exact fin z rfl
      · rw [if_neg c9]
        exact fin z rfl
end
