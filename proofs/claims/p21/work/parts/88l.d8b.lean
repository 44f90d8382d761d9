/-! the calls that change a house or its day -/
theorem jW_c {w w' : Nat → Int32} (e : ∀ k, k < 119 → w' k = w k) (h : jW w) : jW w' := by
  obtain ⟨⟨b0, b1, b2, b3, b4, b5, b6, b7, b8, b9, b10⟩, hz, hm, hn, hg, ht, hp, ha⟩ := h
  have y : ∀ k b, k < 119 → yh_n w k b → yh_n w' k b := fun k b hk g => yh_mv (e k hk) g
  have s : ∀ k, k < 119 → sp_n w' k = sp_n w k := fun k hk => sp_mv (e k hk)
  have l5 := b5.2
  have l6 := b6.2
  have l7 := b7.2
  have l8 := b8.2
  have l9 := b9.2
  refine ⟨⟨y 0 _ (by decide) b0, y 1 _ (by decide) b1, y 2 _ (by decide) b2, y 3 _ (by decide) b3, y 4 _ (by decide) b4, y 5 _ (by decide) b5, y 6 _ (by decide) b6, y 7 _ (by decide) b7, y 8 _ (by decide) b8, y 9 _ (by decide) b9, y 10 _ (by decide) b10⟩, ?_, ?_, fun p hp2 => ?_, fun p hp2 => ?_, fun k hk => ?_, fun k hk => ?_, fun i hi => ?_⟩
  · rw [s 10 (by decide), s 0 (by decide), s 5 (by decide), s 7 (by decide), s 8 (by decide)]
    exact hz
  · rw [s 10 (by decide), s 0 (by decide)]
    exact hm
  · rw [s 5 (by decide)] at hp2
    have g := hn p hp2
    exact ⟨y _ _ (by omega) g.1, y _ _ (by omega) g.2.1, by rw [s _ (by omega)]; exact g.2.2⟩
  · rw [s 6 (by decide)] at hp2
    have g := hg p hp2
    exact ⟨y _ _ (by omega) g.1, y _ _ (by omega) g.2⟩
  · rw [s 7 (by decide)] at hk
    have g := ht k hk
    rw [s 5 (by decide), s (33 + 2 * k) (by omega), s (34 + 2 * k) (by omega), e (33 + 2 * k) (by omega), e (34 + 2 * k) (by omega)]
    exact g
  · rw [s 8 (by decide)] at hk
    obtain ⟨⟨g1, g2⟩, g3, g4, g5, g6, g7, g8⟩ := hp k hk
    exact ⟨⟨by rw [s _ (by omega), e _ (by omega)]; exact g1, by rw [s _ (by omega), s 5 (by decide)]; exact g2⟩, y _ _ (by omega) g3, y _ _ (by omega) g4, by rw [s _ (by omega), s _ (by omega)]; exact g5, y _ _ (by omega) g6, by rw [s _ (by omega)]; exact g7, y _ _ (by omega) g8⟩
  · rw [s 9 (by decide)] at hi
    have g := ha i hi
    rw [s (79 + i) (by omega), e (79 + i) (by omega), s 5 (by decide), s 0 (by decide)]
    exact g
theorem yH_w {h : Nat} {σ : sn_S} {w w' : Nat → Int32} (hW : jW w) (e : ∀ k, k < 119 → w' k = w k) (hH : yH h σ w) : yH h σ w' := by
  have s : ∀ k, k < 119 → sp_n w' k = sp_n w k := fun k hk => sp_mv (e k hk)
  have l5 := hW.1.2.2.2.2.2.1.2
  have l6 := hW.1.2.2.2.2.2.2.1.2
  have l7 := hW.1.2.2.2.2.2.2.2.1.2
  have l8 := hW.1.2.2.2.2.2.2.2.2.1.2
  have l9 := hW.1.2.2.2.2.2.2.2.2.2.1.2
  obtain ⟨h1, h2, h3, h4, h5, h6⟩ := hH
  unfold yH
  rw [s 5 (by decide), s 6 (by decide), s 7 (by decide), s 8 (by decide), s 9 (by decide)]
  exact ⟨fun k hk => (h1 k hk).trans (e k (by omega)).symm, fun i hi => (h2 i hi).trans (e _ (by omega)).symm, fun i hi => (h3 i hi).trans (e _ (by omega)).symm, fun i hi => (h4 i hi).trans (e _ (by omega)).symm, fun i hi => (h5 i hi).trans (e _ (by omega)).symm, fun i hi => by rw [s (79 + i) (by omega)]; exact h6 i hi⟩
def yCp (a b : Nat) (σ z : sn_S) : Prop := (∀ k, k < 11 → z.1 (a + 1) k = σ.1 (b + 1) k) ∧ (∀ k, k < 12 → z.1 (a + 2) k = σ.1 (b + 2) k) ∧ (∀ k, k < 10 → z.1 (a + 3) k = σ.1 (b + 3) k) ∧ (∀ k, k < 16 → z.1 (a + 4) k = σ.1 (b + 4) k) ∧ (∀ k, k < 30 → z.1 (a + 5) k = σ.1 (b + 5) k) ∧ ∀ k, k < 120 → z.1 (a + 6) k = σ.1 (b + 6) k
theorem yk_i {j k : Nat} (hj : j < 3) (hk : k < 3) (e : nI j = nI k) : j = k := (nI_eq (by omega) (by omega)).mp e
theorem yk_3 {a : Int32} (h0 : ¬ a < 0) (h3 : a < 3) : ∃ j, j < 3 ∧ a = nI j := nI_idx (n := 3) (by decide) (Int32.not_lt.mp h0) h3
section
variable {σ τ : sn_S} {a b : Int32}
theorem yk_image : yp (fX8_image σ a) (fun r => (r.1 ≠ 0 ∧ r.2 = σ) ∨ ∃ j, j < 3 ∧ a = nI j ∧ r.1 = 0 ∧ (∀ q, (q ≤ 73 + 7 * j ∨ 73 + 7 * j + 6 < q) → q ≠ 16 → r.2.1 q = σ.1 q) ∧ yCp (73 + 7 * j) 1 σ r.2) := by
  unfold fX8_image
  refine yp_ite (fun _ => yp_some (Or.inl ⟨by first | (show (-2 : Int32) ≠ 0; decide) | (show (-6 : Int32) ≠ 0; decide) | (show (1 : Int32) ≠ 0; decide), rfl⟩)) (fun c0 => yp_ite (fun c3 => ?_) (fun _ => yp_some (Or.inl ⟨by first | (show (-2 : Int32) ≠ 0; decide) | (show (-6 : Int32) ≠ 0; decide) | (show (1 : Int32) ≠ 0; decide), rfl⟩)))
  obtain ⟨j, hj, ej⟩ := yk_3 c0 c3
  subst ej
  rw [zJ_at hj]
  refine yp_gd (fun _ => yp_bd _ (yc_hcopy (by omega)) (fun z hz => yp_gd (fun _ => yp_lt (yp_some (Or.inr ⟨j, hj, rfl, rfl, fun q hq h16 => (pI_ne h16).trans (hz.1 q hq), ?_⟩)))))
  obtain ⟨z1, z2, p1, p2, p3, p4, p5, p6⟩ := hz
  have o : ∀ q, q ≠ 16 → (sn_pI z 16 (nI j).toNatClampNeg (vp_nar .boolean (1 : Int32))).1 q = z.1 q := fun q hq => pI_ne hq
  exact ⟨fun k hk => by rw [o _ (by omega)]; exact p1 k hk, fun k hk => by rw [o _ (by omega)]; exact p2 k hk, fun k hk => by rw [o _ (by omega)]; exact p3 k hk, fun k hk => by rw [o _ (by omega)]; exact p4 k hk, fun k hk => by rw [o _ (by omega)]; exact p5 k hk, fun k hk => by rw [o _ (by omega)]; exact p6 k hk⟩
theorem yk_in02 : fX9_in a.toInt64 (0 : Int64) (2 : Int64) = some (if (0 : Int32) ≤ a ∧ a ≤ (2 : Int32) then 1 else 0) := in_eq32 a 0 2
theorem yk_02 (h : (0 : Int32) ≤ a ∧ a ≤ 2) : ∃ j, j < 3 ∧ a = nI j := by
  obtain ⟨e1, e2⟩ := yv (b := 2) h.1 h.2 (by decide)
  exact ⟨a.toNatClampNeg, by omega, e1⟩
theorem yk_mimage : yp (fX9_image τ a) (fun r => (r.1 ≠ 0 ∧ r.2 = τ) ∨ ∃ j, j < 3 ∧ a = nI j ∧ r.1 = 0 ∧ r.2.1 1 = τ.1 1 ∧ (∀ k, k < 119 → r.2.1 2 (119 * j + k) = τ.1 1 k) ∧ ∀ k, (k < 119 * j ∨ 119 * j + 119 ≤ k) → r.2.1 2 k = τ.1 2 k) := by
  unfold fX9_image
  rw [yk_in02]
  refine yp_bs rfl (yp_ite (fun _ => yp_some (Or.inl ⟨by first | (show (-2 : Int32) ≠ 0; decide) | (show (-6 : Int32) ≠ 0; decide) | (show (1 : Int32) ≠ 0; decide), rfl⟩)) (fun c => ?_))
  have c2 : (0 : Int32) ≤ a ∧ a ≤ 2 := by
    by_cases g : (0 : Int32) ≤ a ∧ a ≤ 2
    · exact g
    · rw [if_neg g] at c
      exact absurd rfl c
  obtain ⟨j, hj, ej⟩ := yk_02 c2
  subst ej
  refine yp_bd (fun z : sn_S => z.1 1 = τ.1 1 ∧ (∀ k, k < 119 → z.1 2 (119 * j + k) = τ.1 1 k) ∧ ∀ k, (k < 119 * j ∨ 119 * j + 119 ≤ k) → z.1 2 k = τ.1 2 k) (yp_for 119 (fun i s => s.2 = nI i ∧ s.1.1 1 = τ.1 1 ∧ (∀ k, k < i → s.1.1 2 (119 * j + k) = τ.1 1 k) ∧ ∀ k, (k < 119 * j ∨ 119 * j + 119 ≤ k) → s.1.1 2 k = τ.1 2 k) (fun i s hi hs => ?_) (fun s hs => ?_) ⟨nI_0.symm, rfl, fun k hk => absurd hk (by omega), fun _ _ => rfl⟩) (fun z hz => ?_)
  · obtain ⟨z, x⟩ := s
    obtain ⟨ex, f1, f2, f3⟩ := hs
    have ex : x = nI i := ex
    subst ex
    have f1 : z.1 1 = τ.1 1 := f1
    have f2 : ∀ k, k < i → z.1 2 (119 * j + k) = τ.1 1 k := f2
    have f3 : ∀ k, (k < 119 * j ∨ 119 * j + 119 ≤ k) → z.1 2 k = τ.1 2 k := f3
    have e1 : sn_I z 1 i = τ.1 1 i := congrFun f1 i
    show yp (BX9_image_17 z (nI j) (nI i)) _
    unfold BX9_image_17
    rw [if_neg (show ¬ (119 : Int32) ≤ nI i from nI_ge (b := 119) hi (by decide)), show (119 : Int32) * nI j = nI (119 * j) from nI_mul 119 j, nI_add, nI_clamp (show i < 2 ^ 31 by omega), nI_clamp (show 119 * j + i < 2 ^ 31 by omega), e1]
    refine yp_gd (fun _ => yp_gd (fun _ => yp_lt (yp_lt (yp_some ⟨nI_1 i, (pI_ne (by decide)).trans f1, fun k hk => ?_, fun k hk => ?_⟩))))
    · show (sn_pI z 2 (119 * j + i) (τ.1 1 i)).1 2 (119 * j + k) = _
      by_cases c : k = i
      · subst c
        exact pI_self
      · rw [pI_slot (by omega)]
        exact f2 k (by omega)
    · show (sn_pI z 2 (119 * j + i) (τ.1 1 i)).1 2 k = _
      rw [pI_slot (by omega)]
      exact f3 k hk
  · obtain ⟨z, x⟩ := s
    obtain ⟨ex, f1, f2, f3⟩ := hs
    have ex : x = nI 119 := ex
    subst ex
    show yp (BX9_image_17 z (nI j) (nI 119)) _
    unfold BX9_image_17
    rw [if_pos (show (119 : Int32) ≤ nI 119 by decide)]
    exact yp_some ⟨f1, f2, f3⟩
  · unfold BX9_image_46
    refine yp_gd (fun _ => yp_lt (yp_some (Or.inr ⟨j, hj, rfl, rfl, (pI_ne (by decide)).trans hz.1, fun k hk => ?_, fun k hk => ?_⟩)))
    · show (sn_pI z 3 _ _).1 2 (119 * j + k) = _
      rw [pI_ne (by decide)]
      exact hz.2.1 k hk
    · show (sn_pI z 3 _ _).1 2 k = _
      rw [pI_ne (by decide)]
      exact hz.2.2 k hk
theorem yk_back : yp (fX8_back σ a) (fun r => (r.1 ≠ 0 ∧ r.2 = σ) ∨ ∃ j z, j < 3 ∧ a = nI j ∧ r.1 = 0 ∧ (∀ q, (q ≤ 1 ∨ 7 < q) → z.1 q = σ.1 q) ∧ yCp 1 (73 + 7 * j) σ z ∧ fX8_liveAnew z = some r.2) := by
  unfold fX8_back
  refine yp_ite (fun _ => yp_some (Or.inl ⟨by first | (show (-2 : Int32) ≠ 0; decide) | (show (-6 : Int32) ≠ 0; decide) | (show (1 : Int32) ≠ 0; decide), rfl⟩)) (fun c0 => yp_ite (fun c3 => ?_) (fun _ => yp_some (Or.inl ⟨by first | (show (-2 : Int32) ≠ 0; decide) | (show (-6 : Int32) ≠ 0; decide) | (show (1 : Int32) ≠ 0; decide), rfl⟩)))
  obtain ⟨j, hj, ej⟩ := yk_3 c0 c3
  subst ej
  rw [zJ_at hj]
  refine yp_gd (fun _ => yp_ite (fun _ => yp_some (Or.inl ⟨by first | (show (-2 : Int32) ≠ 0; decide) | (show (-6 : Int32) ≠ 0; decide) | (show (1 : Int32) ≠ 0; decide), rfl⟩)) (fun _ => yp_gd (fun _ => yp_bd _ (yc_hcopy (by omega)) (fun z hz => ?_))))
  refine yp_bd (fun u => fX8_liveAnew z = some u) (fun u hu => hu) (fun u hu => yp_some (Or.inr ⟨j, z, hj, rfl, rfl, fun q hq => hz.1 q (by omega), ?_, hu⟩))
  exact hz.2.2
theorem yk_mback : yp (fX9_back τ a) (fun r => (r.1 ≠ 0 ∧ r.2 = τ) ∨ ∃ j, j < 3 ∧ a = nI j ∧ r.1 = 0 ∧ r.2.1 2 = τ.1 2 ∧ ∀ k, k < 119 → r.2.1 1 k = τ.1 2 (119 * j + k)) := by
  unfold fX9_back
  rw [yk_in02]
  refine yp_bs rfl (yp_ite (fun _ => yp_some (Or.inl ⟨by first | (show (-2 : Int32) ≠ 0; decide) | (show (-6 : Int32) ≠ 0; decide) | (show (1 : Int32) ≠ 0; decide), rfl⟩)) (fun c => ?_))
  have c2 : (0 : Int32) ≤ a ∧ a ≤ 2 := by
    by_cases g : (0 : Int32) ≤ a ∧ a ≤ 2
    · exact g
    · rw [if_neg g] at c
      exact absurd rfl c
  obtain ⟨j, hj, ej⟩ := yk_02 c2
  subst ej
  refine yp_gd (fun _ => yp_ite (fun _ => yp_some (Or.inl ⟨by first | (show (-2 : Int32) ≠ 0; decide) | (show (-6 : Int32) ≠ 0; decide) | (show (1 : Int32) ≠ 0; decide), rfl⟩)) (fun _ => ?_))
  refine yp_bd (fun z : sn_S => z.1 2 = τ.1 2 ∧ ∀ k, k < 119 → z.1 1 k = τ.1 2 (119 * j + k)) (yp_for 119 (fun i s => s.2 = nI i ∧ s.1.1 2 = τ.1 2 ∧ ∀ k, k < i → s.1.1 1 k = τ.1 2 (119 * j + k)) (fun i s hi hs => ?_) (fun s hs => ?_) ⟨nI_0.symm, rfl, fun k hk => absurd hk (by omega)⟩) (fun z hz => ?_)
  · obtain ⟨z, x⟩ := s
    obtain ⟨ex, f1, f2⟩ := hs
    have ex : x = nI i := ex
    subst ex
    have f1 : z.1 2 = τ.1 2 := f1
    have f2 : ∀ k, k < i → z.1 1 k = τ.1 2 (119 * j + k) := f2
    have e1 : sn_I z 2 (119 * j + i) = τ.1 2 (119 * j + i) := congrFun f1 _
    show yp (BX9_back_29 z (nI j) (nI i)) _
    unfold BX9_back_29
    rw [if_neg (show ¬ (119 : Int32) ≤ nI i from nI_ge (b := 119) hi (by decide)), show (119 : Int32) * nI j = nI (119 * j) from nI_mul 119 j, nI_add, nI_clamp (show i < 2 ^ 31 by omega), nI_clamp (show 119 * j + i < 2 ^ 31 by omega), e1]
    refine yp_gd (fun _ => yp_gd (fun _ => yp_lt (yp_lt (yp_some ⟨nI_1 i, (pI_ne (by decide)).trans f1, fun k hk => ?_⟩))))
    show (sn_pI z 1 i (τ.1 2 (119 * j + i))).1 1 k = _
    by_cases c : k = i
    · subst c
      exact pI_self
    · rw [pI_slot c]
      exact f2 k (by omega)
  · obtain ⟨z, x⟩ := s
    obtain ⟨ex, f1, f2⟩ := hs
    have ex : x = nI 119 := ex
    subst ex
    show yp (BX9_back_29 z (nI j) (nI 119)) _
    unfold BX9_back_29
    rw [if_pos (show (119 : Int32) ≤ nI 119 by decide)]
    exact yp_some ⟨f1, f2⟩
  · unfold BX9_back_58
    exact yp_some (Or.inr ⟨j, hj, rfl, rfl, hz.1, hz.2⟩)
end
theorem zK_67 : ∀ (σ τ : sn_S) (a : Int32), zK σ τ → ∃ r σ1 τ1, fX8_image σ a = some (r, σ1) ∧ fX9_image τ a = some (r, τ1) ∧ zK σ1 τ1 := by
  intro σ τ a h
  obtain ⟨r, σ1, τ1, e1, e2, hJ⟩ := zJ_67 σ τ a h.1
  refine ⟨r, σ1, τ1, e1, e2, ?_⟩
  have f := yk_image _ e1
  have g := yk_mimage _ e2
  rcases g with ⟨g1, g2⟩ | ⟨j, hj, ej, g1, g2, g3, g4⟩
  · rcases f with ⟨f1, f2⟩ | ⟨i, hi, ei, f0, f1, f2⟩
    · have f2 : σ1 = σ := f2
      have g2 : τ1 = τ := g2
      rw [f2, g2]
      exact h
    · exact absurd f0 g1
  · rcases f with ⟨f1, f2⟩ | ⟨i, hi, ei, f0, f1, f2⟩
    · exact absurd g1 f1
    · have eij : i = j := yk_i hi hj (ei.symm.trans ej)
      subst eij
      obtain ⟨_, ⟨w1, w2⟩, him, hD⟩ := h
      have f1 : ∀ q, (q ≤ 73 + 7 * i ∨ 73 + 7 * i + 6 < q) → q ≠ 16 → σ1.1 q = σ.1 q := f1
      have g2 : τ1.1 1 = τ.1 1 := g2
      have g3 : ∀ k, k < 119 → τ1.1 2 (119 * i + k) = τ.1 1 k := g3
      have g4 : ∀ k, (k < 119 * i ∨ 119 * i + 119 ≤ k) → τ1.1 2 k = τ.1 2 k := g4
      refine ⟨hJ, ⟨by rw [g2]; exact w1, by rw [g2]; exact yH_c (fun q a1 a2 => f1 q (by omega) (by omega)) w2⟩, fun l hl => ?_, ?_⟩
      · by_cases e : l = i
        · subst e
          have ew : ∀ k, k < 119 → yw τ1 l k = τ.1 1 k := g3
          obtain ⟨p1, p2, p3, p4, p5, p6⟩ := f2
          exact ⟨jW_c ew w1, yH_w w1 ew (yH_mv w1 p1 p2 p3 p4 p5 p6 w2)⟩
        · have ew : ∀ k, k < 119 → yw τ1 l k = yw τ l k := fun k hk => g4 _ (by omega)
          exact ⟨jW_c ew (him l hl).1, yH_w (him l hl).1 ew (yH_c (fun q a1 a2 => f1 q (by omega) (by omega)) (him l hl).2)⟩
      · rw [g2]
        exact yD_c (fun q a1 a2 => f1 q (by omega) (by omega)) hD
theorem zK_68 : ∀ (σ τ : sn_S) (a : Int32), zK σ τ → ∃ r σ1 τ1, fX8_back σ a = some (r, σ1) ∧ fX9_back τ a = some (r, τ1) ∧ zK σ1 τ1 := by
  intro σ τ a h
  obtain ⟨r, σ1, τ1, e1, e2, hJ⟩ := zJ_68 σ τ a h.1
  refine ⟨r, σ1, τ1, e1, e2, ?_⟩
  have f := yk_back _ e1
  have g := yk_mback _ e2
  rcases g with ⟨g1, g2⟩ | ⟨j, hj, ej, g1, g2, g3⟩
  · rcases f with ⟨f1, f2⟩ | ⟨i, z, hi, ei, f0, f1, f2, f3⟩
    · have f2 : σ1 = σ := f2
      have g2 : τ1 = τ := g2
      rw [f2, g2]
      exact h
    · exact absurd f0 g1
  · rcases f with ⟨f1, f2⟩ | ⟨i, z, hi, ei, f0, f1, f2, f3⟩
    · exact absurd g1 f1
    · have eij : i = j := yk_i hi hj (ei.symm.trans ej)
      subst eij
      obtain ⟨_, ⟨w1, w2⟩, him, hD⟩ := h
      have g2 : τ1.1 2 = τ.1 2 := g2
      have ew : ∀ k, k < 119 → τ1.1 1 k = yw τ i k := g3
      obtain ⟨p1, p2, p3, p4, p5, p6⟩ := f2
      have hW := jW_c ew (him i hi).1
      have hH : yH 1 z (τ1.1 1) := yH_w (him i hi).1 ew (yH_mv (a := 1) (him i hi).1 p1 p2 p3 p4 p5 p6 (him i hi).2)
      obtain ⟨u1, u2, u3⟩ := yc_anew hW hH _ f3
      have u1 : ∀ q, q < 27 ∨ 37 < q → σ1.1 q = z.1 q := u1
      refine ⟨hJ, ⟨hW, yH_c (fun q a1 a2 => u1 q (by omega)) hH⟩, fun l hl => ?_, u3⟩
      rw [yw_c g2 l]
      exact ⟨(him l hl).1, yH_c (fun q a1 a2 => (u1 q (by omega)).trans (f1 q (by omega))) (him l hl).2⟩
/-! a house is told -/
theorem yk_house {σ : sn_S} (h : zs_SB zs_tC σ) : yp (fX8_house σ) (fun r => (∀ q, 73 ≤ q → q ≤ 93 → r.2.1 q = σ.1 q) ∧ ((r.2.1 17 2 ≠ 0 ∧ ∀ q, (2 ≤ q ∧ q ≤ 7) ∨ (27 ≤ q ∧ q ≤ 37) → r.2.1 q = σ.1 q) ∨ (r.2.1 17 2 = 0 ∧ ∃ z x, yB 1 z ∧ yF (z.1 2) x ∧ x ≤ 900 ∧ fX8_liveAnew z = some r.2))) := by
  obtain ⟨t, et, ht⟩ := zk_read h
  have hk : ∀ q, (2 ≤ q ∧ q ≤ 7) ∨ (27 ≤ q ∧ q ≤ 37) ∨ (73 ≤ q ∧ q ≤ 93) → t.1 q = σ.1 q := fun q hq => funext fun k => ht.1.2.1 q k (by
    unfold zk_k
    rw [show Nat.beq q 17 = false by
      cases e : Nat.beq q 17 with
      | false => rfl
      | true => exact absurd (Nat.eq_of_beq_eq_true e) (by omega)]
    rcases hq with e | e | e
    · exact zs_kCB (zs_kCh (Or.inl e))
    · exact zs_kCd e.1 e.2
    · exact zs_kCB (zs_kCh (Or.inr e)))
  have hB := yI_read _ et
  unfold fX8_house
  rw [et]
  refine yp_bs rfl (yp_lt (yp_ite (fun c => ?_) (fun c => ?_)))
  · have c0 : t.1 17 2 = 0 := by
      have c3 : (sn_pI t 17 1 (0 : Int32)).1 17 2 = 0 := c
      rw [pI_slot (by decide)] at c3
      exact c3
    obtain ⟨b1, x, b3, b2⟩ := hB c0
    refine yp_bd _ (yc_hcopy (a := 1) (b := 8) (by decide)) (fun z hz => ?_)
    obtain ⟨z1, z2, p1, p2, p3, p4, p5, p6⟩ := hz
    have o : ∀ q, q ≠ 17 → (sn_pI t 17 1 (0 : Int32)).1 q = t.1 q := fun q hq => pI_ne hq
    have q1 : ∀ k, k < 11 → z.1 (1 + 1) k = t.1 (8 + 1) k := fun k hk => by rw [p1 k hk, o _ (by decide)]
    refine yp_bd (fun u => fX8_liveAnew z = some u) (fun u hu => hu) (fun u hu => yp_gd (fun _ => yp_some ⟨fun q a b => ?_, Or.inr ⟨?_, z, x, ?_, ?_, b3, hu⟩⟩))
    · show u.1 q = σ.1 q
      rw [yf_anew _ hu q (by omega), z1 q (by omega), o q (by omega)]
      exact hk q (by omega)
    · show u.1 17 2 = 0
      rw [yf_anew _ hu 17 (by omega), z1 17 (by omega), pI_slot (by decide)]
      exact c0
    · exact yB_mv (a := 1) (b := 8) q1 (fun k hk => by rw [p2 k hk, o _ (by decide)]) (fun k hk => by rw [p3 k hk, o _ (by decide)]) (fun k hk => by rw [p4 k hk, o _ (by decide)]) (fun k hk => by rw [p5 k hk, o _ (by decide)]) b1
    · obtain ⟨f1, f2, f3⟩ := b2
      have q1 : ∀ k, k < 11 → z.1 2 k = t.1 9 k := q1
      refine ⟨fun e k hk => (q1 k hk).trans (f1 e k hk), fun e => ?_, (q1 10 (by decide)).trans f3⟩
      obtain ⟨g0, g1, g2, g3, g4, g5⟩ := f2 e
      exact ⟨yh_mv (q1 0 (by decide)) g0, by rw [sp_mv (q1 0 (by decide))]; exact g1, yh_mv (q1 1 (by decide)) g2, yh_mv (q1 2 (by decide)) g3, yh_mv (q1 3 (by decide)) g4, yh_mv (q1 4 (by decide)) g5⟩
  · refine yp_some ⟨fun q a b => (pI_ne (by omega)).trans (hk q (by omega)), Or.inl ⟨?_, fun q hq => (pI_ne (by omega)).trans (hk q (by omega))⟩⟩
    exact c
theorem rr_Hq {h : Nat} {σ z : sn_S} {w : Nat → Int32} (e : ∀ a, h + 1 ≤ a → a ≤ h + 6 → z.1 a = σ.1 a) (H : rr_H h σ w) : rr_H h z w := by
  unfold rr_H
  rw [e (h + 1) (by omega) (by omega), e (h + 2) (by omega) (by omega), e (h + 3) (by omega) (by omega), e (h + 4) (by omega) (by omega), e (h + 5) (by omega) (by omega), e (h + 6) (by omega) (by omega)]
  exact H
theorem zK_2 : ∀ (σ τ : sn_S), zK σ τ → ∃ r σ1 τ1, fX8_house σ = some (r, σ1) ∧ fX9_house τ = some (r, τ1) ∧ zK σ1 τ1 := by
  intro σ τ hK
  have h := hK.1
  obtain ⟨r, σ1, τ1, e1, e2, hJ⟩ := zJ_2 σ τ h
  obtain ⟨n, hn, e0⟩ := zh_n (t := zs_tC) (q := 17) (k := 1) h.1.1 rfl
  obtain ⟨r3, z3, w3, f1, f2, f3, f4, f5, f6⟩ := rr_house h.1.1 h.1.2.1 e0 (by rw [← h.1.2.2.1.1]; exact e0) hn (fun k hk => h.1.2.2.1.2.2.2 k (by rw [e0, nI_toInt (by omega)]; omega))
  rw [e1] at f1
  cases f1
  rw [e2] at f2
  cases f2
  obtain ⟨r2, w, g1, b2, d1, d2, d3, d4, d5, d6⟩ := zm_house h.1.2.1
  rw [e2] at g1
  cases g1
  refine ⟨r, σ1, τ1, e1, e2, ?_⟩
  obtain ⟨k1, k2⟩ := yk_house h.1.1 _ e1
  have k1 : ∀ q, 73 ≤ q → q ≤ 93 → σ1.1 q = σ.1 q := k1
  rcases k2 with ⟨c, k2⟩ | ⟨c, z, x, bB, bF, bx, eu⟩
  · have c : ¬ σ1.1 17 2 = 0 := c
    have k2 : ∀ q, (2 ≤ q ∧ q ≤ 7) ∨ (27 ≤ q ∧ q ≤ 37) → σ1.1 q = σ.1 q := k2
    exact zK_c hJ (fun q hq => by
      rcases hq with e | e | e
      · exact k2 q (Or.inl e)
      · exact k2 q (Or.inr e)
      · exact k1 q e.1 e.2) (f6 c).2 d6 hK
  · have fa : ∀ q, q < 27 ∨ 27 + 10 < q → σ1.1 q = z.1 q := yf_anew _ eu
    have hR : rr_H 1 z (τ1.1 1) := rr_Hq (fun a a1 a2 => (fa a (by omega)).symm) hJ.2.1
    obtain ⟨hW, hH⟩ := yW_of hR bB bF bx
    obtain ⟨u1, u2, u3⟩ := yc_anew hW hH _ eu
    refine ⟨hJ, ⟨hW, yH_c (fun q a1 a2 => fa q (by omega)) hH⟩, fun j hj => ?_, u3⟩
    rw [yw_c d6 j]
    exact ⟨(hK.2.2.1 j hj).1, yH_c (fun q a1 a2 => k1 q (by omega) (by omega)) (hK.2.2.1 j hj).2⟩
