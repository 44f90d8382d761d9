/-! the fewest minutes from a sneeze to the next -/
/-- b is the next bit of x behind a -/
def yu_C (x : Int32) (a b : Nat) : Prop := a < b ∧ b < 30 ∧ sp_bit x a = true ∧ sp_bit x b = true ∧ ∀ j, a < j → j < b → sp_bit x j = false
/-- the least of the pairs that are asked for; e: there is none -/
def yu_R (x : Int32) (Q : Nat → Nat → Prop) (e r : Int32) : Prop := (r = e ∧ ∀ a b, Q a b → ¬ yu_C x a b) ∨ ∃ g, r = nI g ∧ (∃ a b, Q a b ∧ yu_C x a b ∧ g = b - a) ∧ ∀ a b, Q a b → yu_C x a b → g ≤ b - a
theorem yu_g {x : Int32} {a b : Nat} (h : yu_C x a b) : b - a < 30 ∧ 1 ≤ b - a := ⟨by have := h.1; have := h.2.1; omega, by have := h.1; omega⟩
/-- one pair more, or none -/
theorem yu_no {x : Int32} {Q Q' : Nat → Nat → Prop} {e r : Int32} (h : yu_R x Q e r) (hq : ∀ a b, Q a b → Q' a b) (hn : ∀ a b, Q' a b → yu_C x a b → Q a b) : yu_R x Q' e r := by
  rcases h with ⟨h1, h2⟩ | ⟨g, h1, ⟨a, b, h2, h3, h4⟩, h5⟩
  · exact Or.inl ⟨h1, fun a b q c => h2 a b (hn a b q c) c⟩
  · exact Or.inr ⟨g, h1, ⟨a, b, hq a b h2, h3, h4⟩, fun a b q c => h5 a b (hn a b q c) c⟩
theorem yu_more {x : Int32} {Q Q' : Nat → Nat → Prop} {e r r' : Int32} {a b : Nat} (h : yu_R x Q e r) (hq : ∀ a b, Q a b → Q' a b) (hC : yu_C x a b) (hQ : Q' a b) (hn : ∀ c d, Q' c d → yu_C x c d → Q c d ∨ (c = a ∧ d = b)) (h0 : r = e → r' = nI (b - a)) (h1 : ∀ g, r = nI g → g < 30 → r' = if b - a < g then nI (b - a) else nI g) (he : ∀ g, g < 30 → e ≠ nI g) : yu_R x Q' e r' := by
  have hg := yu_g hC
  rcases h with ⟨e1, h2⟩ | ⟨g, e1, ⟨a', b', h2, h3, h4⟩, h5⟩
  · refine Or.inr ⟨b - a, h0 e1, ⟨a, b, hQ, hC, rfl⟩, fun c d q cc => ?_⟩
    rcases hn c d q cc with z | ⟨z1, z2⟩
    · exact absurd cc (h2 c d z)
    · rw [z1, z2]
      exact Nat.le_refl _
  · have g30 : g < 30 := by
      have := yu_g h3
      omega
    have e2 := h1 g e1 g30
    by_cases c : b - a < g
    · rw [if_pos c] at e2
      refine Or.inr ⟨b - a, e2, ⟨a, b, hQ, hC, rfl⟩, fun c' d q cc => ?_⟩
      rcases hn c' d q cc with z | ⟨z1, z2⟩
      · have := h5 c' d z cc
        omega
      · rw [z1, z2]
        exact Nat.le_refl _
    · rw [if_neg c] at e2
      refine Or.inr ⟨g, e2, ⟨a', b', hq _ _ h2, h3, h4⟩, fun c' d q cc => ?_⟩
      rcases hn c' d q cc with z | ⟨z1, z2⟩
      · exact h5 c' d z cc
      · rw [z1, z2]
        omega
section
variable {σ τ : sn_S}
/-- the latest bit below k -/
def yu_L (x : Int32) (k : Nat) (l : Int32) : Prop := (l = -1 ∧ ∀ j, j < k → sp_bit x j = false) ∨ ∃ i, i < k ∧ l = nI i ∧ sp_bit x i = true ∧ ∀ j, i < j → j < k → sp_bit x j = false
theorem yu_ne1 {g : Nat} (h : g < 2 ^ 31) : (-1 : Int32) ≠ nI g := fun e => by
  have e2 := congrArg Int32.toInt e
  rw [nI_toInt h, show (-1 : Int32).toInt = -1 by decide] at e2
  omega
theorem yz_19 {a : Int32} (hK : zK σ τ) : yr (fX8_pause σ a) (fX9_pause τ a) (fun r s => r = s.1) := by
  unfold fX8_pause fX9_pause
  refine yz_pers hK (fun p v u hp ea hM => ?_)
  subst ea
  obtain ⟨-, ⟨p1, p2, p3⟩, ⟨m1, m2, m3⟩⟩ := yK_n hK
  have hW := hK.2.1.1
  obtain ⟨x, hx⟩ : ∃ x, x = dy_sn (hs_day (τ.1 1)) (sp_n (τ.1 1) 0) p := ⟨_, rfl⟩
  obtain ⟨M, hMM⟩ : ∃ M, M = sp_n (τ.1 1) 0 := ⟨_, rfl⟩
  rw [← hMM] at m2 m3
  have xb : ∀ k, M ≤ k → k < 32 → sp_bit x k = false := by
    rw [hx, hMM]
    exact yz_sbits (by omega)
  have e0 : σ.1 27 0 = nI M := by rw [hMM]; exact hK.2.2.2.1
  have u0 : u.1 1 0 = nI M := (congrFun hM.1 0).trans m2
  have es : sn_I σ (27 + 10) p = x := (yz_sn hK hp).trans hx.symm
  have eu : sn_I u 10 p = x := (yz_msn hW hM hp).trans hx.symm
  have all : ∀ a b, yu_C x a b → b < M := fun a b h => by
    rcases Nat.lt_or_ge b M with g | g
    · exact g
    · have := h.2.2.2.1
      rw [xb b g (by have := h.2.1; omega)] at this
      cases this
  refine yr_of (A := fun r => yu_R x (fun _ b => b < M) (-1) r) (B := fun s => yu_R x (fun a _ => a < M) (-1) s.1) ?_ ?_ ?_
  · refine yp_bd (fun r => yu_R x (fun _ b => b < M) (-1) r) (yp_for M (fun k s => s.2.2 = nI k ∧ yu_R x (fun _ b => b < k) (-1) s.1 ∧ yu_L x k s.2.1) (fun k s hk hs => ?_) (fun s hs => ?_) ⟨nI_0.symm, Or.inl ⟨rfl, fun a b h => absurd h (by omega)⟩, Or.inl ⟨rfl, fun j hj => absurd hj (by omega)⟩⟩) (fun v hv => ?_)
    · obtain ⟨f, l, y⟩ := s
      obtain ⟨ey, hf, hl⟩ := hs
      have ey : y = nI k := ey
      subst ey
      have hf : yu_R x (fun _ b => b < k) (-1) f := hf
      have hl : yu_L x k l := hl
      have l73 : ∀ f l : Int32, yu_R x (fun _ b => b < k + 1) (-1) f → yu_L x (k + 1) l → yp (BX8_pause_73 σ (nI p) f l (nI k)) (yp_sum (fun s : Int32 × Int32 × Int32 => s.2.2 = nI (k + 1) ∧ yu_R x (fun _ b => b < k + 1) (-1) s.1 ∧ yu_L x (k + 1) s.2.1) (fun _ => False)) := fun f l h1 h2 => by
        unfold BX8_pause_73
        exact yp_lt (yp_some ⟨nI_1 k, h1, h2⟩)
      show yp (BX8_pause_18 σ (nI p) f l (nI k)) _
      unfold BX8_pause_18 BX8_pause_65 BX8_pause_70
      rw [show sn_I σ 27 0 = _ from e0, if_neg (nI_ge hk (by omega)), nI_clamp (show p < 2 ^ 31 by omega), es, yb_c]
      refine yp_gd (fun _ => yp_bit (fun b => ?_) (fun b => ?_))
      · rw [if_neg (by decide)]
        have hl1 : yu_L x (k + 1) (nI k) := Or.inr ⟨k, by omega, rfl, b, fun j h1 h2 => absurd h1 (by omega)⟩
        rcases hl with ⟨el, hl⟩ | ⟨i, hi, el, bi, hl⟩
        · rw [el, if_pos rfl]
          refine l73 _ _ (yu_no hf (fun _ _ h => by omega) (fun a c h1 h2 => ?_)) hl1
          rcases Nat.lt_or_ge c k with g | g
          · exact g
          · have : c = k := by omega
            subst this
            have := h2.2.2.1
            rw [hl a h2.1] at this
            cases this
        · have hC : yu_C x i k := ⟨hi, by omega, bi, b, hl⟩
          have hn : ∀ c d, d < k + 1 → yu_C x c d → d < k ∨ (c = i ∧ d = k) := fun c d h1 h2 => by
            rcases Nat.lt_or_ge d k with g | g
            · exact Or.inl g
            · have : d = k := by omega
              subst this
              refine Or.inr ⟨?_, rfl⟩
              rcases Nat.lt_trichotomy c i with q | q | q
              · have := h2.2.2.2.2 i q hi
                rw [bi] at this
                cases this
              · exact q
              · have := h2.2.2.1
                rw [hl c q h2.1] at this
                cases this
          have e31 : ∀ g, g < 30 → (-1 : Int32) ≠ nI g := fun g hg => yu_ne1 (by omega)
          rw [el, if_neg (fun z => yu_ne1 (show i < 2 ^ 31 by omega) z.symm), yi_sub (show i ≤ k by omega)]
          refine yp_ite (fun c => yp_lt (l73 _ _ (yu_more hf (fun _ _ h => by omega) hC (by omega) hn (fun _ => rfl) (fun g eg hg => ?_) e31) hl1)) (fun c => yp_ite (fun d => l73 _ _ (yu_more hf (fun _ _ h => by omega) hC (by omega) hn (fun e => absurd e c) (fun g eg hg => ?_) e31) hl1) (fun d => yp_lt (l73 _ _ (yu_more hf (fun _ _ h => by omega) hC (by omega) hn (fun _ => rfl) (fun g eg hg => ?_) e31) hl1)))
          · exact absurd (eg.symm.trans c).symm (e31 g hg)
          · rw [eg] at d ⊢
            rw [if_neg]
            have := (nI_leI (by omega) (by omega)).mp d
            omega
          · rw [eg] at d
            rw [if_pos]
            have : ¬ g ≤ k - i := fun z => d ((nI_leI (by omega) (by omega)).mpr z)
            omega
      · rw [if_pos rfl]
        refine l73 _ _ (yu_no hf (fun _ _ h => by omega) (fun a c h1 h2 => ?_)) ?_
        · rcases Nat.lt_or_ge c k with g | g
          · exact g
          · have : c = k := by omega
            subst this
            have := h2.2.2.2.1
            rw [b] at this
            cases this
        · rcases hl with ⟨el, hl⟩ | ⟨i, hi, el, bi, hl⟩
          · refine Or.inl ⟨el, fun j hj => ?_⟩
            by_cases e : j = k
            · rw [e]; exact b
            · exact hl j (by omega)
          · refine Or.inr ⟨i, by omega, el, bi, fun j h1 h2 => ?_⟩
            by_cases e : j = k
            · rw [e]; exact b
            · exact hl j h1 (by omega)
    · obtain ⟨f, l, y⟩ := s
      obtain ⟨ey, hf, hl⟩ := hs
      have ey : y = nI M := ey
      subst ey
      show yp (BX8_pause_18 σ (nI p) f l (nI M)) _
      unfold BX8_pause_18
      rw [show sn_I σ 27 0 = _ from e0, if_pos (nI_le (Nat.le_refl _) (by omega))]
      exact yp_some hf
    · unfold BX8_pause_79
      exact yp_some hv
  · have far : ∀ g, g < 30 → (1000000000 : Int32) ≠ nI g := fun g hg e => by
      have e2 := congrArg Int32.toInt e
      rw [nI_toInt (by omega), show (1000000000 : Int32).toInt = 1000000000 by decide] at e2
      omega
    refine yp_bd (fun r => yu_R x (fun a _ => a < M) (1000000000) r) (yp_for M (fun k s => s.2 = nI k ∧ yu_R x (fun a _ => a < k) (1000000000) s.1) (fun k s hk hs => ?_) (fun s hs => ?_) ⟨nI_0.symm, Or.inl ⟨rfl, fun a b h => absurd h (by omega)⟩⟩) (fun v hv => ?_)
    · obtain ⟨f, y⟩ := s
      obtain ⟨ey, hf⟩ := hs
      have ey : y = nI k := ey
      subst ey
      have hf : yu_R x (fun a _ => a < k) (1000000000) f := hf
      have l68 : ∀ f : Int32, yu_R x (fun a _ => a < k + 1) (1000000000) f → yp (BX9_pause_68 u (nI p) f (nI k)) (yp_sum (fun s : Int32 × Int32 => s.2 = nI (k + 1) ∧ yu_R x (fun a _ => a < k + 1) (1000000000) s.1) (fun _ => False)) := fun f h1 => by
        unfold BX9_pause_68
        exact yp_lt (yp_some ⟨nI_1 k, h1⟩)
      show yp (BX9_pause_17 u (nI p) f (nI k)) _
      unfold BX9_pause_17 fX9_minutes
      refine yp_bd (fun t => t = nI M) (yp_gd (fun _ => yp_some u0)) (fun t0 ht0 => ?_)
      rw [ht0, if_neg (nI_ge hk (by omega)), nI_clamp (show p < 2 ^ 31 by omega), eu, show nI k + (1 : Int32) = nI (k + 1) from nI_1 k]
      refine yp_gd (fun _ => yp_bd _ (yb_firstFrom x (by omega)) (fun t ht => yp_gd (fun _ => ?_)))
      rw [yb_m]
      refine yp_bit (fun b => ?_) (fun b => ?_)
      · rw [if_pos rfl]
        rcases ht with ⟨et, ht⟩ | ⟨i, hi1, hi2, bi, hi3, et⟩
        · rw [et, if_pos rfl]
          refine l68 _ (yu_no hf (fun _ _ h => by omega) (fun a c h1 h2 => ?_))
          rcases Nat.lt_or_ge a k with g | g
          · exact g
          · have : a = k := by omega
            subst this
            have := h2.2.2.2.1
            rw [ht c h2.1 h2.2.1] at this
            cases this
        · have hC : yu_C x k i := ⟨by omega, hi2, b, bi, fun j h1 h2 => hi3 j (by omega) h2⟩
          have hn : ∀ c d, c < k + 1 → yu_C x c d → c < k ∨ (c = k ∧ d = i) := fun c d h1 h2 => by
            rcases Nat.lt_or_ge c k with g | g
            · exact Or.inl g
            · have : c = k := by omega
              subst this
              refine Or.inr ⟨rfl, ?_⟩
              rcases Nat.lt_trichotomy d i with q | q | q
              · have := h2.2.2.2.1
                rw [hi3 d h2.1 q] at this
                cases this
              · exact q
              · have := h2.2.2.2.2 i hi1 q
                rw [bi] at this
                cases this
          rw [et, if_neg (fun z => yu_ne1 (show i < 2 ^ 31 by omega) z.symm), yi_sub (show k ≤ i by omega)]
          refine yp_lt (l68 _ (yu_more hf (fun _ _ h => by omega) hC (by omega) hn (fun e => ?_) (fun g eg hg => ?_) far))
          · rw [e, if_pos]
            rw [Int32.lt_iff_toInt_lt, nI_toInt (by omega), show (1000000000 : Int32).toInt = 1000000000 by decide]
            omega
          · rw [eg]
            by_cases c : i - k < g
            · rw [if_pos c, if_pos (nI_lt c (by omega))]
            · rw [if_neg c, if_neg (nI_nlt (by omega) (by omega))]
      · rw [if_neg (by decide)]
        refine l68 _ (yu_no hf (fun _ _ h => by omega) (fun a c h1 h2 => ?_))
        rcases Nat.lt_or_ge a k with g | g
        · exact g
        · have : a = k := by omega
          subst this
          have := h2.2.2.1
          rw [b] at this
          cases this
    · obtain ⟨f, y⟩ := s
      obtain ⟨ey, hf⟩ := hs
      have ey : y = nI M := ey
      subst ey
      show yp (BX9_pause_17 u (nI p) f (nI M)) _
      unfold BX9_pause_17 fX9_minutes
      refine yp_bd (fun t => t = nI M) (yp_gd (fun _ => yp_some u0)) (fun t0 ht0 => ?_)
      rw [ht0, if_pos (nI_le (Nat.le_refl _) (by omega))]
      exact yp_some hf
    · unfold BX9_pause_74
      refine yp_ite (fun c => yp_some ?_) (fun c => yp_some ?_)
      · rcases hv with ⟨_, h⟩ | ⟨g, e, ⟨a, b, _, h, eg⟩, _⟩
        · exact Or.inl ⟨rfl, h⟩
        · exact absurd (c.symm.trans e) (far g (by have := yu_g h; omega))
      · rcases hv with ⟨e, _⟩ | h
        · exact absurd e c
        · exact Or.inr h
  · intro r s h1 h2
    have hq : ∀ a b, yu_C x a b → (b < M ∧ a < M) := fun a b h => ⟨all a b h, by have := all a b h; have := h.1; omega⟩
    rcases h1 with ⟨e1, h1⟩ | ⟨g, e1, ⟨a, b, q, c, eg⟩, h1⟩
    · rcases h2 with ⟨e2, _⟩ | ⟨g, e2, ⟨a, b, q, c, eg⟩, h2⟩
      · rw [e1, e2]
      · exact absurd c (h1 a b (hq a b c).1)
    · rcases h2 with ⟨e2, h2⟩ | ⟨g', e2, ⟨a', b', q', c', eg'⟩, h2⟩
      · exact absurd c (h2 a b (hq a b c).2)
      · have l1 := h1 a' b' (hq a' b' c').1 c'
        have l2 := h2 a b (hq a b c).2 c
        rw [e1, e2, show g = g' by omega]
end
