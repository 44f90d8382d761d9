/-! houses copied; a house read is a row of the reference -/
theorem yc_hcopy {σ : sn_S} {a b : Nat} (hd : b + 6 < a ∨ a + 6 < b) : yp (fX2_copyFrom σ a b) (fun z => (∀ q, (q ≤ a ∨ a + 6 < q) → z.1 q = σ.1 q) ∧ z.2 = σ.2 ∧ (∀ k, k < 11 → z.1 (a + 1) k = σ.1 (b + 1) k) ∧ (∀ k, k < 12 → z.1 (a + 2) k = σ.1 (b + 2) k) ∧ (∀ k, k < 10 → z.1 (a + 3) k = σ.1 (b + 3) k) ∧ (∀ k, k < 16 → z.1 (a + 4) k = σ.1 (b + 4) k) ∧ (∀ k, k < 30 → z.1 (a + 5) k = σ.1 (b + 5) k) ∧ ∀ k, k < 120 → z.1 (a + 6) k = σ.1 (b + 6) k) := by
  unfold fX2_copyFrom
  refine yp_gd (fun _ => yp_lt ?_)
  obtain ⟨p1, q1⟩ := yc_cpy (z := σ) (a := a + 1) (b := b + 1) (L := 11) (by decide)
  have s1 : (sn_wI σ (a + 1) (va_cpy (sn_I σ (b + 1)) (sn_I σ (a + 1)) (0 : Int32).toNatClampNeg (0 : Int32).toNatClampNeg (Int32.ofNat 11).toNatClampNeg)).2 = σ.2 := rfl
  generalize sn_wI σ (a + 1) (va_cpy (sn_I σ (b + 1)) (sn_I σ (a + 1)) (0 : Int32).toNatClampNeg (0 : Int32).toNatClampNeg (Int32.ofNat 11).toNatClampNeg) = z1 at p1 q1 s1 ⊢
  refine yp_gd (fun _ => yp_lt ?_)
  obtain ⟨p2, q2⟩ := yc_cpy (z := z1) (a := a + 2) (b := b + 2) (L := 12) (by decide)
  have s2 : (sn_wI z1 (a + 2) (va_cpy (sn_I z1 (b + 2)) (sn_I z1 (a + 2)) (0 : Int32).toNatClampNeg (0 : Int32).toNatClampNeg (Int32.ofNat 12).toNatClampNeg)).2 = z1.2 := rfl
  generalize sn_wI z1 (a + 2) (va_cpy (sn_I z1 (b + 2)) (sn_I z1 (a + 2)) (0 : Int32).toNatClampNeg (0 : Int32).toNatClampNeg (Int32.ofNat 12).toNatClampNeg) = z2 at p2 q2 s2 ⊢
  refine yp_gd (fun _ => yp_lt ?_)
  obtain ⟨p3, q3⟩ := yc_cpy (z := z2) (a := a + 3) (b := b + 3) (L := 10) (by decide)
  have s3 : (sn_wI z2 (a + 3) (va_cpy (sn_I z2 (b + 3)) (sn_I z2 (a + 3)) (0 : Int32).toNatClampNeg (0 : Int32).toNatClampNeg (Int32.ofNat 10).toNatClampNeg)).2 = z2.2 := rfl
  generalize sn_wI z2 (a + 3) (va_cpy (sn_I z2 (b + 3)) (sn_I z2 (a + 3)) (0 : Int32).toNatClampNeg (0 : Int32).toNatClampNeg (Int32.ofNat 10).toNatClampNeg) = z3 at p3 q3 s3 ⊢
  refine yp_gd (fun _ => yp_lt ?_)
  obtain ⟨p4, q4⟩ := yc_cpy (z := z3) (a := a + 4) (b := b + 4) (L := 16) (by decide)
  have s4 : (sn_wI z3 (a + 4) (va_cpy (sn_I z3 (b + 4)) (sn_I z3 (a + 4)) (0 : Int32).toNatClampNeg (0 : Int32).toNatClampNeg (Int32.ofNat 16).toNatClampNeg)).2 = z3.2 := rfl
  generalize sn_wI z3 (a + 4) (va_cpy (sn_I z3 (b + 4)) (sn_I z3 (a + 4)) (0 : Int32).toNatClampNeg (0 : Int32).toNatClampNeg (Int32.ofNat 16).toNatClampNeg) = z4 at p4 q4 s4 ⊢
  refine yp_gd (fun _ => yp_lt ?_)
  obtain ⟨p5, q5⟩ := yc_cpy (z := z4) (a := a + 5) (b := b + 5) (L := 30) (by decide)
  have s5 : (sn_wI z4 (a + 5) (va_cpy (sn_I z4 (b + 5)) (sn_I z4 (a + 5)) (0 : Int32).toNatClampNeg (0 : Int32).toNatClampNeg (Int32.ofNat 30).toNatClampNeg)).2 = z4.2 := rfl
  generalize sn_wI z4 (a + 5) (va_cpy (sn_I z4 (b + 5)) (sn_I z4 (a + 5)) (0 : Int32).toNatClampNeg (0 : Int32).toNatClampNeg (Int32.ofNat 30).toNatClampNeg) = z5 at p5 q5 s5 ⊢
  refine yp_gd (fun _ => yp_lt ?_)
  obtain ⟨p6, q6⟩ := yc_cpy (z := z5) (a := a + 6) (b := b + 6) (L := 120) (by decide)
  have s6 : (sn_wI z5 (a + 6) (va_cpy (sn_I z5 (b + 6)) (sn_I z5 (a + 6)) (0 : Int32).toNatClampNeg (0 : Int32).toNatClampNeg (Int32.ofNat 120).toNatClampNeg)).2 = z5.2 := rfl
  generalize sn_wI z5 (a + 6) (va_cpy (sn_I z5 (b + 6)) (sn_I z5 (a + 6)) (0 : Int32).toNatClampNeg (0 : Int32).toNatClampNeg (Int32.ofNat 120).toNatClampNeg) = z6 at p6 q6 s6 ⊢
  refine yp_some ⟨fun q hq => ?_, ?_, fun k hk => ?_, fun k hk => ?_, fun k hk => ?_, fun k hk => ?_, fun k hk => ?_, fun k hk => ?_⟩
  · rw [p6 q (by omega), p5 q (by omega), p4 q (by omega), p3 q (by omega), p2 q (by omega), p1 q (by omega)]
  · rw [s6, s5, s4, s3, s2, s1]
  · rw [p6 (a + 1) (by omega), p5 (a + 1) (by omega), p4 (a + 1) (by omega), p3 (a + 1) (by omega), p2 (a + 1) (by omega), q1 k, if_pos hk]
  · rw [p6 (a + 2) (by omega), p5 (a + 2) (by omega), p4 (a + 2) (by omega), p3 (a + 2) (by omega), q2 k, if_pos hk, p1 (b + 2) (by omega)]
  · rw [p6 (a + 3) (by omega), p5 (a + 3) (by omega), p4 (a + 3) (by omega), q3 k, if_pos hk, p2 (b + 3) (by omega), p1 (b + 3) (by omega)]
  · rw [p6 (a + 4) (by omega), p5 (a + 4) (by omega), q4 k, if_pos hk, p3 (b + 4) (by omega), p2 (b + 4) (by omega), p1 (b + 4) (by omega)]
  · rw [p6 (a + 5) (by omega), q5 k, if_pos hk, p4 (b + 5) (by omega), p3 (b + 5) (by omega), p2 (b + 5) (by omega), p1 (b + 5) (by omega)]
  · rw [q6 k, if_pos hk, p5 (b + 6) (by omega), p4 (b + 6) (by omega), p3 (b + 6) (by omega), p2 (b + 6) (by omega), p1 (b + 6) (by omega)]
theorem yB_mv {a b : Nat} {σ z : sn_S} (e1 : ∀ k, k < 11 → z.1 (a + 1) k = σ.1 (b + 1) k) (e2 : ∀ k, k < 12 → z.1 (a + 2) k = σ.1 (b + 2) k) (e3 : ∀ k, k < 10 → z.1 (a + 3) k = σ.1 (b + 3) k) (e4 : ∀ k, k < 16 → z.1 (a + 4) k = σ.1 (b + 4) k) (e5 : ∀ k, k < 30 → z.1 (a + 5) k = σ.1 (b + 5) k) (h : yB b σ) : yB a z := by
  obtain ⟨⟨c5, c6, c7, c8, c9⟩, hn5, hg, hnt, hp⟩ := h
  have f5 : sp_n (z.1 (a + 1)) 5 = sp_n (σ.1 (b + 1)) 5 := sp_mv (e1 5 (by decide))
  have f6 : sp_n (z.1 (a + 1)) 6 = sp_n (σ.1 (b + 1)) 6 := sp_mv (e1 6 (by decide))
  have f7 : sp_n (z.1 (a + 1)) 7 = sp_n (σ.1 (b + 1)) 7 := sp_mv (e1 7 (by decide))
  have f8 : sp_n (z.1 (a + 1)) 8 = sp_n (σ.1 (b + 1)) 8 := sp_mv (e1 8 (by decide))
  have b5 := c5.2
  have b6 := c6.2
  have b7 := c7.2
  have b8 := c8.2
  refine ⟨⟨yh_mv (e1 5 (by decide)) c5, yh_mv (e1 6 (by decide)) c6, yh_mv (e1 7 (by decide)) c7, yh_mv (e1 8 (by decide)) c8, (e1 9 (by decide)).trans c9⟩, fun p hp2 => ?_, fun p hp2 => ?_, fun k hk => ?_, fun k hk => ?_⟩
  · rw [f5] at hp2
    have g := hn5 p hp2
    exact ⟨yh_mv (e2 _ (by omega)) g.1, yh_mv (e2 _ (by omega)) g.2.1, by rw [sp_mv (e2 (2 * p + 1) (by omega))]; exact g.2.2⟩
  · rw [f6] at hp2
    have g := hg p hp2
    exact ⟨yh_mv (e3 _ (by omega)) g.1, yh_mv (e3 _ (by omega)) g.2⟩
  · rw [f7] at hk
    rw [f5, sp_mv (e4 (2 * k) (by omega)), sp_mv (e4 (2 * k + 1) (by omega)), e4 (2 * k) (by omega), e4 (2 * k + 1) (by omega)]
    exact hnt k hk
  · rw [f8] at hk
    rw [f5]
    obtain ⟨⟨g1, g2⟩, g3, g4, g5, g6, g7, g8⟩ := hp k hk
    exact ⟨⟨by rw [sp_mv (e5 (5 * k) (by omega)), e5 (5 * k) (by omega)]; exact g1, by rw [sp_mv (e5 (5 * k) (by omega))]; exact g2⟩, yh_mv (e5 _ (by omega)) g3, yh_mv (e5 _ (by omega)) g4, by rw [sp_mv (e5 (5 * k + 1) (by omega)), sp_mv (e5 (5 * k + 2) (by omega))]; exact g5, yh_mv (e5 _ (by omega)) g6, by rw [sp_mv (e5 (5 * k + 3) (by omega))]; exact g7, yh_mv (e5 _ (by omega)) g8⟩
theorem yH_mv {a b : Nat} {σ z : sn_S} {w : Nat → Int32} (hW : jW w) (e1 : ∀ k, k < 11 → z.1 (a + 1) k = σ.1 (b + 1) k) (e2 : ∀ k, k < 12 → z.1 (a + 2) k = σ.1 (b + 2) k) (e3 : ∀ k, k < 10 → z.1 (a + 3) k = σ.1 (b + 3) k) (e4 : ∀ k, k < 16 → z.1 (a + 4) k = σ.1 (b + 4) k) (e5 : ∀ k, k < 30 → z.1 (a + 5) k = σ.1 (b + 5) k) (e6 : ∀ k, k < 120 → z.1 (a + 6) k = σ.1 (b + 6) k) (h : yH b σ w) : yH a z w := by
  obtain ⟨h1, h2, h3, h4, h5, h6⟩ := h
  have b5 : sp_n w 5 ≤ 6 := hW.1.2.2.2.2.2.1.2
  have b6 : sp_n w 6 ≤ 5 := hW.1.2.2.2.2.2.2.1.2
  have b7 : sp_n w 7 ≤ 8 := hW.1.2.2.2.2.2.2.2.1.2
  have b8 : sp_n w 8 ≤ 6 := hW.1.2.2.2.2.2.2.2.2.1.2
  have b9 : sp_n w 9 ≤ 40 := hW.1.2.2.2.2.2.2.2.2.2.1.2
  refine ⟨fun k hk => (e1 k hk).trans (h1 k hk), fun k hk => (e2 k (by omega)).trans (h2 k hk), fun k hk => (e3 k (by omega)).trans (h3 k hk), fun k hk => (e4 k (by omega)).trans (h4 k hk), fun k hk => (e5 k (by omega)).trans (h5 k hk), fun k hk => ?_⟩
  rw [e6 (3 * k) (by omega), e6 (3 * k + 1) (by omega), e6 (3 * k + 2) (by omega)]
  exact h6 k hk
theorem yW_of {h : Nat} {σ : sn_S} {w : Nat → Int32} {x : Nat} (hR : rr_H h σ w) (hB : yB h σ) (hF : yF (σ.1 (h + 1)) x) (hx : x ≤ 900) : jW w ∧ yH h σ w := by
  obtain ⟨h1, h2, h3, h4, h5, h6⟩ := hR
  obtain ⟨⟨c5, c6, c7, c8, c9⟩, hn5, hg, hnt, hp⟩ := hB
  have s : ∀ k, k < 11 → sp_n w k = sp_n (σ.1 (h + 1)) k := fun k hk => sp_mv (h1 k hk).symm
  have t : ∀ k b, k < 11 → yh_n (σ.1 (h + 1)) k b → yh_n w k b := fun k b hk g => yh_mv (h1 k hk).symm g
  have iN : ∀ k, yh_n (σ.1 (h + 1)) k 900 → (σ.1 (h + 1) k).toInt = (sp_n (σ.1 (h + 1)) k : Int) := fun k g => by
    obtain ⟨g1, g2⟩ := g
    generalize sp_n (σ.1 (h + 1)) k = n at g1 g2 ⊢
    rw [g1, nI_toInt (by omega)]
  have i5 := iN 5 ⟨c5.1, by have := c5.2; omega⟩
  have i6 := iN 6 ⟨c6.1, by have := c6.2; omega⟩
  have i7 := iN 7 ⟨c7.1, by have := c7.2; omega⟩
  have i8 := iN 8 ⟨c8.1, by have := c8.2; omega⟩
  have s10 : sp_n w 10 = x := sp_nI ((h1 10 (by decide)).symm.trans hF.2.2) (by omega)
  have s9 : sp_n w 9 = 0 := by
    rw [s 9 (by decide)]
    unfold sp_n
    rw [c9]
    rfl
  have y10 : yh_n w 10 900 := ⟨by rw [s10, ← h1 10 (by decide)]; exact hF.2.2, by omega⟩
  have y9 : yh_n w 9 40 := ⟨by rw [s9, ← h1 9 (by decide), c9, nI_0], by omega⟩
  have zero : x = 0 → ∀ k, k < 11 → sp_n w k = 0 ∧ w k = 0 := fun e k hk => by
    have g := hF.1 e k hk
    rw [h1 k hk] at g
    refine ⟨?_, g⟩
    unfold sp_n
    rw [g]
    rfl
  have yz : ∀ k b, x = 0 → k < 11 → yh_n w k b := fun k b e hk => ⟨by rw [(zero e k hk).1, (zero e k hk).2, nI_0], by rw [(zero e k hk).1]; omega⟩
  have n2 : ∀ i, i < 2 * sp_n (σ.1 (h + 1)) 5 → w (11 + i) = σ.1 (h + 2) i := fun i hi => (h2 i (by rw [i5]; omega)).symm
  have n3 : ∀ i, i < 2 * sp_n (σ.1 (h + 1)) 6 → w (23 + i) = σ.1 (h + 3) i := fun i hi => (h3 i (by rw [i6]; omega)).symm
  have n4 : ∀ i, i < 2 * sp_n (σ.1 (h + 1)) 7 → w (33 + i) = σ.1 (h + 4) i := fun i hi => (h4 i (by rw [i7]; omega)).symm
  have n5 : ∀ i, i < 5 * sp_n (σ.1 (h + 1)) 8 → w (49 + i) = σ.1 (h + 5) i := fun i hi => (h5 i (by rw [i8]; omega)).symm
  refine ⟨⟨?_, fun e => ?_, fun e => ?_, fun p hp2 => ?_, fun p hp2 => ?_, fun k hk => ?_, fun k hk => ?_, fun i hi => absurd hi (by omega)⟩, h1, fun i hi => (n2 i (by rw [← s 5 (by decide)]; exact hi)).symm, fun i hi => (n3 i (by rw [← s 6 (by decide)]; exact hi)).symm, fun i hi => (n4 i (by rw [← s 7 (by decide)]; exact hi)).symm, fun i hi => (n5 i (by rw [← s 8 (by decide)]; exact hi)).symm, fun i hi => absurd hi (by omega)⟩
  · rcases Nat.eq_zero_or_pos x with e | e
    · exact ⟨yz 0 _ e (by decide), yz 1 _ e (by decide), yz 2 _ e (by decide), yz 3 _ e (by decide), yz 4 _ e (by decide), t 5 _ (by decide) c5, t 6 _ (by decide) c6, t 7 _ (by decide) c7, t 8 _ (by decide) c8, y9, y10⟩
    · obtain ⟨g0, g1, g2, g3, g4, g5⟩ := hF.2.1 e
      exact ⟨t 0 _ (by decide) g0, t 1 _ (by decide) g2, t 2 _ (by decide) g3, t 3 _ (by decide) g4, t 4 _ (by decide) g5, t 5 _ (by decide) c5, t 6 _ (by decide) c6, t 7 _ (by decide) c7, t 8 _ (by decide) c8, y9, y10⟩
  · rw [s10] at e
    exact ⟨(zero e 0 (by decide)).1, (zero e 5 (by decide)).1, (zero e 7 (by decide)).1, (zero e 8 (by decide)).1⟩
  · rw [s10] at e
    rw [s 0 (by decide)]
    exact (hF.2.1 e).2.1
  · rw [s 5 (by decide)] at hp2
    have g := hn5 p hp2
    have e0 := n2 (2 * p) (by omega)
    have e1 := n2 (2 * p + 1) (by omega)
    rw [show 11 + (2 * p + 1) = 12 + 2 * p by omega] at e1
    exact ⟨yh_mv e0 g.1, yh_mv e1 g.2.1, by rw [sp_mv e1]; exact g.2.2⟩
  · rw [s 6 (by decide)] at hp2
    have g := hg p hp2
    have e0 := n3 (2 * p) (by omega)
    have e1 := n3 (2 * p + 1) (by omega)
    rw [show 23 + (2 * p + 1) = 24 + 2 * p by omega] at e1
    exact ⟨yh_mv e0 g.1, yh_mv e1 g.2⟩
  · rw [s 7 (by decide)] at hk
    have g := hnt k hk
    have e0 := n4 (2 * k) (by omega)
    have e1 := n4 (2 * k + 1) (by omega)
    rw [show 33 + (2 * k + 1) = 34 + 2 * k by omega] at e1
    rw [s 5 (by decide), sp_mv e0, sp_mv e1, e0, e1]
    exact g
  · rw [s 8 (by decide)] at hk
    obtain ⟨⟨g1, g2⟩, g3, g4, g5, g6, g7, g8⟩ := hp k hk
    have e0 := n5 (5 * k) (by omega)
    have e1 := n5 (5 * k + 1) (by omega)
    have e2 := n5 (5 * k + 2) (by omega)
    have e3 := n5 (5 * k + 3) (by omega)
    have e4 := n5 (5 * k + 4) (by omega)
    rw [show 49 + (5 * k + 1) = 50 + 5 * k by omega] at e1
    rw [show 49 + (5 * k + 2) = 51 + 5 * k by omega] at e2
    rw [show 49 + (5 * k + 3) = 52 + 5 * k by omega] at e3
    rw [show 49 + (5 * k + 4) = 53 + 5 * k by omega] at e4
    exact ⟨⟨by rw [sp_mv e0, e0]; exact g1, by rw [s 5 (by decide), sp_mv e0]; exact g2⟩, yh_mv e1 g3, yh_mv e2 g4, by rw [sp_mv e1, sp_mv e2]; exact g5, yh_mv e3 g6, by rw [sp_mv e3]; exact g7, yh_mv e4 g8⟩
