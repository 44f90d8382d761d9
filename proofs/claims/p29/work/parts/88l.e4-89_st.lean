section
/-! windows of policies, both sides -/
section
variable {σ τ u : sn_S} {w : Nat → Int32} {q : Nat}
theorem yl_5 (hW : jW w) : w 5 = nI (sp_n w 5) ∧ sp_n w 5 ≤ 6 := hW.1.2.2.2.2.2.1
theorem yl_0 (hW : jW w) : w 0 = nI (sp_n w 0) ∧ sp_n w 0 ≤ 30 := hW.1.1
end
end
section
/-! claims, both sides -/
theorem yl_ne {k : Nat} (h : k < 100) : nI k ≠ -1 := by
  intro e
  have h1 := nI_toInt (show k < 2 ^ 31 by omega)
  rw [e, show (-1 : Int32).toInt = -1 by decide] at h1
  omega
section
variable {σ τ u z : sn_S} {w : Nat → Int32} {q : Nat} {l s h : Int32}
/-! the reference's claim -/
end
end
section
/-! the ledger, both sides -/
section
variable {σ τ u z : sn_S} {w : Nat → Int32} {q : Nat} {l : Int32}
/-! calls that change the ledger -/
theorem yr_eq2 {X Y : Option (Int32 × sn_S)} (v : Int32) (hx : yp X (fun r => r.1 = v)) (hy : yp Y (fun s => s.1 = v)) : yr X Y (fun r s => r.1 = s.1) := yr_of hx hy (fun _ _ a b => a.trans b.symm)
end
end
section
/-! a day that is not: copied, changed, lived -/
theorem yp_le {α β : Type} {P : α → Prop} {v : β} {g : β → Option α} (h : ∀ y, y = v → yp (g y) P) : yp (sn_lt v g) P := h v rfl
theorem yc_dcopy {σ : sn_S} {a b : Nat} (hd : b + 10 < a) : yp (fX0_copyFrom σ a b) (fun z => (∀ q, (q < a ∨ a + 10 < q) → z.1 q = σ.1 q) ∧ (∀ k, k < 4 → z.1 a k = σ.1 b k) ∧ (∀ k, k < 30 → z.1 (a + 1) k = σ.1 (b + 1) k) ∧ (∀ k, k < 6 → z.1 (a + 2) k = σ.1 (b + 2) k) ∧ (∀ k, k < 6 → z.1 (a + 3) k = σ.1 (b + 3) k) ∧ (∀ k, k < 6 → z.1 (a + 4) k = σ.1 (b + 4) k) ∧ (∀ k, k < 6 → z.1 (a + 5) k = σ.1 (b + 5) k) ∧ (∀ k, k < 16 → z.1 (a + 6) k = σ.1 (b + 6) k) ∧ (∀ k, k < 180 → z.1 (a + 7) k = σ.1 (b + 7) k) ∧ (∀ k, k < 180 → z.1 (a + 8) k = σ.1 (b + 8) k) ∧ (∀ k, k < 30 → z.1 (a + 9) k = σ.1 (b + 9) k) ∧ (∀ k, k < 6 → z.1 (a + 10) k = σ.1 (b + 10) k)) := by
  unfold fX0_copyFrom
  refine yp_le (fun y1 e1 => yp_le (fun y2 e2 => yp_le (fun y3 e3 => yp_le (fun z0 e4 => ?_))))
  have hb : b ≠ a := by omega
  have r1 : ∀ q, q ≠ a → y1.1 q = σ.1 q := fun q hq => by rw [e1, pI_ne hq]
  have r2 : ∀ q, q ≠ a → y2.1 q = σ.1 q := fun q hq => by rw [e2, pI_ne hq, r1 q hq]
  have r3 : ∀ q, q ≠ a → y3.1 q = σ.1 q := fun q hq => by rw [e3, pI_ne hq, r2 q hq]
  have r0 : ∀ q, q ≠ a → z0.1 q = σ.1 q := fun q hq => by rw [e4, pI_ne hq, r3 q hq]
  have c0 : ∀ k, k < 4 → z0.1 a k = σ.1 b k := fun k hk => by
    match k, hk with
    | 0, _ => rw [e4, pI_slot (by decide), e3, pI_slot (by decide), e2, pI_slot (by decide), e1, pI_self]; rfl
    | 1, _ => rw [e4, pI_slot (by decide), e3, pI_slot (by decide), e2, pI_self]; exact congrFun (r1 b hb) 1
    | 2, _ => rw [e4, pI_slot (by decide), e3, pI_self]; exact congrFun (r2 b hb) 2
    | 3, _ => rw [e4, pI_self]; exact congrFun (r3 b hb) 3
  refine yp_gd (fun _ => yp_le (fun z1 h1 => ?_))
  obtain ⟨p1, q1⟩ := yc_cpy (z := z0) (a := a + 1) (b := b + 1) (L := 30) (by decide)
  rw [← h1] at p1 q1
  refine yp_gd (fun _ => yp_le (fun z2 h2 => ?_))
  obtain ⟨p2, q2⟩ := yc_cpy (z := z1) (a := a + 2) (b := b + 2) (L := 6) (by decide)
  rw [← h2] at p2 q2
  refine yp_gd (fun _ => yp_le (fun z3 h3 => ?_))
  obtain ⟨p3, q3⟩ := yc_cpy (z := z2) (a := a + 3) (b := b + 3) (L := 6) (by decide)
  rw [← h3] at p3 q3
  refine yp_gd (fun _ => yp_le (fun z4 h4 => ?_))
  obtain ⟨p4, q4⟩ := yc_cpy (z := z3) (a := a + 4) (b := b + 4) (L := 6) (by decide)
  rw [← h4] at p4 q4
  refine yp_gd (fun _ => yp_le (fun z5 h5 => ?_))
  obtain ⟨p5, q5⟩ := yc_cpy (z := z4) (a := a + 5) (b := b + 5) (L := 6) (by decide)
  rw [← h5] at p5 q5
  refine yp_gd (fun _ => yp_le (fun z6 h6 => ?_))
  obtain ⟨p6, q6⟩ := yc_cpy (z := z5) (a := a + 6) (b := b + 6) (L := 16) (by decide)
  rw [← h6] at p6 q6
  refine yp_gd (fun _ => yp_le (fun z7 h7 => ?_))
  obtain ⟨p7, q7⟩ := yc_cpy (z := z6) (a := a + 7) (b := b + 7) (L := 180) (by decide)
  rw [← h7] at p7 q7
  refine yp_gd (fun _ => yp_le (fun z8 h8 => ?_))
  obtain ⟨p8, q8⟩ := yc_cpy (z := z7) (a := a + 8) (b := b + 8) (L := 180) (by decide)
  rw [← h8] at p8 q8
  refine yp_gd (fun _ => yp_le (fun z9 h9 => ?_))
  obtain ⟨p9, q9⟩ := yc_cpy (z := z8) (a := a + 9) (b := b + 9) (L := 30) (by decide)
  rw [← h9] at p9 q9
  refine yp_gd (fun _ => yp_le (fun z10 h10 => ?_))
  obtain ⟨p10, q10⟩ := yc_cpy (z := z9) (a := a + 10) (b := b + 10) (L := 6) (by decide)
  rw [← h10] at p10 q10
  refine yp_some ⟨fun q hq => ?_, fun k hk => ?_, fun k hk => ?_, fun k hk => ?_, fun k hk => ?_, fun k hk => ?_, fun k hk => ?_, fun k hk => ?_, fun k hk => ?_, fun k hk => ?_, fun k hk => ?_, fun k hk => ?_⟩
  · rw [p10 q (by omega), p9 q (by omega), p8 q (by omega), p7 q (by omega), p6 q (by omega), p5 q (by omega), p4 q (by omega), p3 q (by omega), p2 q (by omega), p1 q (by omega), r0 q (by omega)]
  · rw [p10 a (by omega), p9 a (by omega), p8 a (by omega), p7 a (by omega), p6 a (by omega), p5 a (by omega), p4 a (by omega), p3 a (by omega), p2 a (by omega), p1 a (by omega), c0 k hk]
  · rw [p10 (a + 1) (by omega), p9 (a + 1) (by omega), p8 (a + 1) (by omega), p7 (a + 1) (by omega), p6 (a + 1) (by omega), p5 (a + 1) (by omega), p4 (a + 1) (by omega), p3 (a + 1) (by omega), p2 (a + 1) (by omega), q1 k, if_pos hk, r0 (b + 1) (by omega)]
  · rw [p10 (a + 2) (by omega), p9 (a + 2) (by omega), p8 (a + 2) (by omega), p7 (a + 2) (by omega), p6 (a + 2) (by omega), p5 (a + 2) (by omega), p4 (a + 2) (by omega), p3 (a + 2) (by omega), q2 k, if_pos hk, p1 (b + 2) (by omega), r0 (b + 2) (by omega)]
  · rw [p10 (a + 3) (by omega), p9 (a + 3) (by omega), p8 (a + 3) (by omega), p7 (a + 3) (by omega), p6 (a + 3) (by omega), p5 (a + 3) (by omega), p4 (a + 3) (by omega), q3 k, if_pos hk, p2 (b + 3) (by omega), p1 (b + 3) (by omega), r0 (b + 3) (by omega)]
  · rw [p10 (a + 4) (by omega), p9 (a + 4) (by omega), p8 (a + 4) (by omega), p7 (a + 4) (by omega), p6 (a + 4) (by omega), p5 (a + 4) (by omega), q4 k, if_pos hk, p3 (b + 4) (by omega), p2 (b + 4) (by omega), p1 (b + 4) (by omega), r0 (b + 4) (by omega)]
  · rw [p10 (a + 5) (by omega), p9 (a + 5) (by omega), p8 (a + 5) (by omega), p7 (a + 5) (by omega), p6 (a + 5) (by omega), q5 k, if_pos hk, p4 (b + 5) (by omega), p3 (b + 5) (by omega), p2 (b + 5) (by omega), p1 (b + 5) (by omega), r0 (b + 5) (by omega)]
  · rw [p10 (a + 6) (by omega), p9 (a + 6) (by omega), p8 (a + 6) (by omega), p7 (a + 6) (by omega), q6 k, if_pos hk, p5 (b + 6) (by omega), p4 (b + 6) (by omega), p3 (b + 6) (by omega), p2 (b + 6) (by omega), p1 (b + 6) (by omega), r0 (b + 6) (by omega)]
  · rw [p10 (a + 7) (by omega), p9 (a + 7) (by omega), p8 (a + 7) (by omega), q7 k, if_pos hk, p6 (b + 7) (by omega), p5 (b + 7) (by omega), p4 (b + 7) (by omega), p3 (b + 7) (by omega), p2 (b + 7) (by omega), p1 (b + 7) (by omega), r0 (b + 7) (by omega)]
  · rw [p10 (a + 8) (by omega), p9 (a + 8) (by omega), q8 k, if_pos hk, p7 (b + 8) (by omega), p6 (b + 8) (by omega), p5 (b + 8) (by omega), p4 (b + 8) (by omega), p3 (b + 8) (by omega), p2 (b + 8) (by omega), p1 (b + 8) (by omega), r0 (b + 8) (by omega)]
  · rw [p10 (a + 9) (by omega), q9 k, if_pos hk, p8 (b + 9) (by omega), p7 (b + 9) (by omega), p6 (b + 9) (by omega), p5 (b + 9) (by omega), p4 (b + 9) (by omega), p3 (b + 9) (by omega), p2 (b + 9) (by omega), p1 (b + 9) (by omega), r0 (b + 9) (by omega)]
  · rw [q10 k, if_pos hk, p9 (b + 10) (by omega), p8 (b + 10) (by omega), p7 (b + 10) (by omega), p6 (b + 10) (by omega), p5 (b + 10) (by omega), p4 (b + 10) (by omega), p3 (b + 10) (by omega), p2 (b + 10) (by omega), p1 (b + 10) (by omega), r0 (b + 10) (by omega)]
def dy_limSet (i : dy_I) (p : Nat) (v : Int32) : dy_I := (dy_P i, dy_keen i, (fun x => if x = p then v else dy_lim i x), dy_held i, dy_snuf i, dy_dust i, dy_na i, dy_nb i, dy_nN i, dy_no i)
section
variable {σ τ u z : sn_S} {w : Nat → Int32}
/-- the trial is told what the day was, and lived as it was -/
theorem yc_trial {a : Nat} (hW : jW w) (hD : yD σ w) (ha : 37 < a) : yp (fX0_copyFrom σ a 27) (fun z => (∀ q, (q < a ∨ a + 10 < q) → z.1 q = σ.1 q) ∧ z.1 a 0 = nI (sp_n w 0) ∧ yd_T a z (hs_day w) ∧ yd_L a z (hs_day w) (sp_n w 0)) := by
  have c5 := (yl_5 hW).2
  have c0 := (yl_0 hW).2
  have c7 := hW.1.2.2.2.2.2.2.2.1.2
  obtain ⟨d0, ⟨t1, t2, t3, t4, t5, t6⟩, l1, l2⟩ := hD
  refine yp_w (yc_dcopy (by omega)) (fun z hz => ?_)
  obtain ⟨hr, h0, h1, h2, h3, h4, h5, h6, h7, h8, h9, h10⟩ := hz
  refine ⟨hr, (h0 0 (by decide)).trans d0, ⟨(h0 1 (by decide)).trans t1, (h0 2 (by decide)).trans t2, (h0 3 (by decide)).trans t3, fun m hm => (h1 m hm).trans (t4 m hm), fun p hp => ?_, fun k hk => ?_⟩, fun m hm => ⟨(h9 m (by omega)).trans (l1 m hm).1, fun p hp => ?_⟩, fun p hp => ?_⟩
  · have g := t5 p hp
    have hp : p < sp_n w 5 := hp
    exact ⟨(h2 p (by omega)).trans g.1, (h3 p (by omega)).trans g.2.1, (h4 p (by omega)).trans g.2.2.1, (h5 p (by omega)).trans g.2.2.2⟩
  · have g := t6 k hk
    have hk : k < sp_n w 7 := hk
    exact ⟨(h6 _ (by omega)).trans g.1, (h6 _ (by omega)).trans g.2⟩
  · have g := (l1 m hm).2 p hp
    have hp : p < sp_n w 5 := hp
    exact ⟨(h7 _ (by omega)).trans g.1, (h8 _ (by omega)).trans g.2⟩
  · have g := l2 p hp
    have hp : p < sp_n w 5 := hp
    exact (h10 p (by omega)).trans g
/-! nets cut -/
end
end
section
/-! days alike in their first n minutes -/
def dy_EP (n : Nat) (i j : dy_I) : Prop := dy_P i = dy_P j ∧ dy_nN i = dy_nN j ∧ dy_no i = dy_no j ∧ (∀ p, p < dy_P i → dy_keen i p = dy_keen j p ∧ dy_lim i p = dy_lim j p) ∧ (∀ m, m < n → dy_dust i m = dy_dust j m ∧ ∀ p, p < dy_P i → sp_bit (dy_held i p) m = sp_bit (dy_held j p) m ∧ sp_bit (dy_snuf i p) m = sp_bit (dy_snuf j p) m) ∧ ∀ k, k < dy_nN i → dy_na i k = dy_na j k ∧ dy_nb i k = dy_nb j k
section
variable {n : Nat} {i j : dy_I}
theorem dy_byP (h : dy_EP n i j) (s : Int32) (p : Nat) : dy_by i s p = dy_by j s p := by
  unfold dy_by
  rw [← h.2.1, ← h.2.2.1, dy_cntE _ h.2.2.2.2.2]
theorem dy_moreP (h : dy_EP n i j) (s : Int32) {m p : Nat} (hm : m < n) (hp : p < dy_P i) : dy_more i s m p = dy_more j s m p := by
  unfold dy_more
  rw [dy_byP h, (h.2.2.2.1 p hp).1, (h.2.2.2.2.1 m hm).1, ((h.2.2.2.2.1 m hm).2 p hp).2]
theorem dy_doesP (h : dy_EP n i j) (t s : Int32) {m p : Nat} (hm : m < n) (hp : p < dy_P i) : dy_does i t s m p = dy_does j t s m p := by
  unfold dy_does
  rw [dy_moreP h s hm hp, (h.2.2.2.1 p hp).2, ((h.2.2.2.2.1 m hm).2 p hp).1]
theorem dy_stP (h : dy_EP n i j) : ∀ m, m ≤ n → (∀ p, p < dy_P i → (dy_st i m).1 p = (dy_st j m).1 p) ∧ (dy_st i m).2 = (dy_st j m).2 := by
  intro m
  induction m with
  | zero => intro _; exact ⟨fun _ _ => rfl, rfl⟩
  | succ m ih =>
    intro hm
    have ih := ih (by omega)
    refine ⟨fun p hp => ?_, ?_⟩
    · show (if dy_does i ((dy_st i m).1 p) (dy_st i m).2 m p = true then 0 else (dy_st i m).1 p + dy_more i (dy_st i m).2 m p) = (if dy_does j ((dy_st j m).1 p) (dy_st j m).2 m p = true then 0 else (dy_st j m).1 p + dy_more j (dy_st j m).2 m p)
      rw [ih.1 p hp, ih.2, dy_doesP h _ _ (by omega) hp, dy_moreP h _ (by omega) hp]
    · show dy_set (fun p => dy_does i ((dy_st i m).1 p) (dy_st i m).2 m p) (dy_P i) = dy_set (fun p => dy_does j ((dy_st j m).1 p) (dy_st j m).2 m p) (dy_P j)
      rw [← h.1]
      exact dy_setE _ (fun p hp => by rw [ih.1 p hp, ih.2, dy_doesP h _ _ (by omega) hp])
theorem dy_snP (h : dy_EP n i j) {m p : Nat} (hm : m ≤ n) (hp : p < dy_P i) : dy_sn i m p = dy_sn j m p := dy_setE _ (fun k hk => by rw [(dy_stP h k (by omega)).1 p hp, (dy_stP h k (by omega)).2, dy_doesP h _ _ (by omega) hp])
end
/-! snuff by which a claim grows -/
section
variable {σ τ u z : sn_S} {w : Nat → Int32} {q : Nat} {l : Int32}
/-! the reference's -/
end
end
section
/-! a house with one number changed -/
theorem jW_set {w w' : Nat → Int32} {x v : Nat} (hW : jW w) (e : ∀ k, k ≠ x → w' k = w k) (ex : w' x = nI v) (hx : (x = 1 ∧ v ≤ 9) ∨ ∃ p, p < 6 ∧ ((x = 11 + 2 * p ∧ v ≤ 9) ∨ (x = 12 + 2 * p ∧ 1 ≤ v ∧ v ≤ 99))) : jW w' := by
  obtain ⟨⟨b0, b1, b2, b3, b4, b5, b6, b7, b8, b9, b10⟩, hz, hmm, hno, hg, ht, hp8, ha⟩ := hW
  have l5 := b5.2
  have l6 := b6.2
  have l7 := b7.2
  have l8 := b8.2
  have l9 := b9.2
  have lx : (x = 1 ∨ (11 ≤ x ∧ x ≤ 22)) ∧ v ≤ 99 := by
    rcases hx with ⟨h1, h2⟩ | ⟨p, hp, ⟨h1, h2⟩ | ⟨h1, h2, h3⟩⟩
    · omega
    · omega
    · omega
  have y : ∀ k b, k ≠ x → yh_n w k b → yh_n w' k b := fun k b h1 g => yh_mv (e k h1) g
  have s : ∀ k, k ≠ x → sp_n w' k = sp_n w k := fun k h1 => sp_mv (e k h1)
  have sx : sp_n w' x = v := sp_nI ex (by omega)
  have yx : ∀ b, v ≤ b → yh_n w' x b := fun b hb => ⟨by rw [sx]; exact ex, by rw [sx]; exact hb⟩
  refine ⟨⟨y 0 _ (by omega) b0, ?_, y 2 _ (by omega) b2, y 3 _ (by omega) b3, y 4 _ (by omega) b4, y 5 _ (by omega) b5, y 6 _ (by omega) b6, y 7 _ (by omega) b7, y 8 _ (by omega) b8, y 9 _ (by omega) b9, y 10 _ (by omega) b10⟩, ?_, ?_, fun p hp2 => ?_, fun p hp2 => ?_, fun k hk => ?_, fun k hk => ?_, fun i hi => ?_⟩
  · by_cases c : x = 1
    · rw [← c]
      refine yx 9 ?_
      rcases hx with ⟨h1, h2⟩ | ⟨p, hp, ⟨h1, h2⟩ | ⟨h1, h2, h3⟩⟩
      · exact h2
      · exact h2
      · omega
    · exact y 1 9 (by omega) b1
  · rw [s 10 (by omega), s 0 (by omega), s 5 (by omega), s 7 (by omega), s 8 (by omega)]
    exact hz
  · rw [s 10 (by omega), s 0 (by omega)]
    exact hmm
  · rw [s 5 (by omega)] at hp2
    have g := hno p hp2
    refine ⟨?_, ?_⟩
    · by_cases c : x = 11 + 2 * p
      · rw [← c]
        refine yx 9 ?_
        rcases hx with ⟨h1, h2⟩ | ⟨p3, hp3, ⟨h1, h2⟩ | ⟨h1, h2, h3⟩⟩
        · exact h2
        · exact h2
        · omega
      · exact y _ _ (fun h => c h.symm) g.1
    · by_cases c : x = 12 + 2 * p
      · rw [← c, sx]
        rcases hx with ⟨h1, h2⟩ | ⟨p3, hp3, ⟨h1, h2⟩ | ⟨h1, h2, h3⟩⟩
        · omega
        · omega
        · exact ⟨yx 99 h3, h2⟩
      · exact ⟨y _ _ (fun h => c h.symm) g.2.1, by rw [s _ (fun h => c h.symm)]; exact g.2.2⟩
  · rw [s 6 (by omega)] at hp2
    have g := hg p hp2
    exact ⟨y _ _ (by omega) g.1, y _ _ (by omega) g.2⟩
  · rw [s 7 (by omega)] at hk
    have g := ht k hk
    rw [s 5 (by omega), s (33 + 2 * k) (by omega), s (34 + 2 * k) (by omega), e (33 + 2 * k) (by omega), e (34 + 2 * k) (by omega)]
    exact g
  · rw [s 8 (by omega)] at hk
    obtain ⟨⟨g1, g2⟩, g3, g4, g5, g6, g7, g8⟩ := hp8 k hk
    exact ⟨⟨by rw [s _ (by omega), e _ (by omega)]; exact g1, by rw [s _ (by omega), s 5 (by omega)]; exact g2⟩, y _ _ (by omega) g3, y _ _ (by omega) g4, by rw [s _ (by omega), s _ (by omega)]; exact g5, y _ _ (by omega) g6, by rw [s _ (by omega)]; exact g7, y _ _ (by omega) g8⟩
  · rw [s 9 (by omega)] at hi
    rw [s 5 (by omega), s 0 (by omega), s (79 + i) (by omega), e (79 + i) (by omega)]
    exact ha i hi
theorem hs_actsE {w w' : Nat → Int32} {kind p : Nat} (e : ∀ k, 79 ≤ k → w' k = w k) : ∀ n, hs_acts w' kind p n = hs_acts w kind p n := by
  intro n
  induction n with
  | zero => rfl
  | succ n ih =>
    have h1 : sp_n w' (79 + n) = sp_n w (79 + n) := sp_mv (e _ (by omega))
    show (if sp_n w' (79 + n) % 2 = kind ∧ sp_n w' (79 + n) / 200 = p then hs_acts w' kind p n ||| ((1 : Int32) <<< (nI (sp_n w' (79 + n) % 200 / 2) &&& 31)) else hs_acts w' kind p n) = (if sp_n w (79 + n) % 2 = kind ∧ sp_n w (79 + n) / 200 = p then hs_acts w kind p n ||| ((1 : Int32) <<< (nI (sp_n w (79 + n) % 200 / 2) &&& 31)) else hs_acts w kind p n)
    rw [ih, h1]
theorem yi_4 (a b c d : Int32) : a - b + c + d = a + d - b + c := by
  rw [Int32.sub_eq_add_neg, Int32.sub_eq_add_neg, Int32.add_assoc a (-b) c, Int32.add_assoc a (-b + c) d, Int32.add_comm (-b + c) d, ← Int32.add_assoc a d, ← Int32.add_assoc (a + d)]
theorem hs_dustE {w w' : Nat → Int32} {m : Nat} (e : ∀ k, 23 ≤ k → w' k = w k) : ∀ n, hs_dust w' m n = hs_dust w m n - w 1 + w' 1 := by
  intro n
  induction n with
  | zero =>
    show w' 1 = w 1 - w 1 + w' 1
    rw [Int32.sub_self, Int32.zero_add]
  | succ n ih =>
    have h1 : sp_n w' (24 + 2 * n) = sp_n w (24 + 2 * n) := sp_mv (e _ (by omega))
    have h2 : w' (23 + 2 * n) = w (23 + 2 * n) := e _ (by omega)
    show (if sp_n w' (24 + 2 * n) = m then hs_dust w' m n + w' (23 + 2 * n) else hs_dust w' m n) = (if sp_n w (24 + 2 * n) = m then hs_dust w m n + w (23 + 2 * n) else hs_dust w m n) - w 1 + w' 1
    rw [h1, h2, ih]
    by_cases c : sp_n w (24 + 2 * n) = m
    · rw [if_pos c, if_pos c]
      exact yi_4 _ _ _ _
    · rw [if_neg c, if_neg c]
section
variable {σ τ u z : sn_S} {w : Nat → Int32}
/-! how dull a nose would have to be -/
end
end
section
/-! days drawn: luck -/
def lx_s (v : Int64) : Int64 := (((1103515245 : Int64) * v) + (12345 : Int64)) - (((1103515245 : Int64) * v) + (12345 : Int64)) / (2147483648 : Int64) * (2147483648 : Int64)
def lx (s : Int64) : Nat → Int64
  | 0 => s
  | n + 1 => lx_s (lx s n)
section
variable {σ τ u z : sn_S} {w : Nat → Int32} {q : Nat} {l : Int32}
end
end
section
/-! what a nose would have to bear -/
theorem dy_cntle (na nb : Nat → Nat) (no : Int32) (p : Nat) (s : Int32) : ∀ n, dy_cnt na nb no p s n ≤ n := by
  intro n
  induction n with
  | zero => exact Nat.le_refl _
  | succ n ih =>
    show dy_cnt na nb no p s n + (if _ then 1 else 0) ≤ n + 1
    split
    · omega
    · omega
theorem dy_set0 : ∀ n, dy_set (fun _ => false) n = 0 := by
  intro n
  induction n with
  | zero => rfl
  | succ n ih =>
    show (if false = true then _ else dy_set (fun _ => false) n) = 0
    rw [if_neg (by decide)]
    exact ih
theorem hs_dustB {w : Nat → Int32} (hW : jW w) (m : Nat) : ∀ n, n ≤ sp_n w 6 → ∃ d, d ≤ 9 + 9 * n ∧ hs_dust w m n = nI d := by
  intro n
  induction n with
  | zero => exact fun _ => ⟨sp_n w 1, by have := hW.1.2.1.2; omega, hW.1.2.1.1⟩
  | succ n ih =>
    intro h
    obtain ⟨d, hd, e⟩ := ih (by omega)
    have g := (hW.2.2.2.2.1 n (by omega)).1
    have g2 := g.2
    show ∃ d, d ≤ 9 + 9 * (n + 1) ∧ (if sp_n w (24 + 2 * n) = m then hs_dust w m n + w (23 + 2 * n) else hs_dust w m n) = nI d
    by_cases c : sp_n w (24 + 2 * n) = m
    · rw [if_pos c, e]
      exact ⟨d + sp_n w (23 + 2 * n), by omega, (congrArg (nI d + ·) g.1).trans (nI_add d _)⟩
    · rw [if_neg c]
      exact ⟨d, by omega, e⟩
section
variable {σ τ u z : sn_S} {w : Nat → Int32} {p q n m : Nat} {x : Int32}
theorem yba_more (hW : jW w) (hq : q < sp_n w 5) (s : Int32) (m : Nat) : ∃ v, v ≤ 600 ∧ dy_more (dy_limSet (hs_day w) p x) s m q = nI v := by
  obtain ⟨d, hd, ed⟩ := hs_dustB hW m (sp_n w 6) (Nat.le_refl _)
  have g := (hW.2.2.2.1 q hq).1
  have l6 : sp_n w 6 ≤ 5 := hW.1.2.2.2.2.2.2.1.2
  have l7 : sp_n w 7 ≤ 8 := hW.1.2.2.2.2.2.2.2.1.2
  have lc := dy_cntle (fun k => sp_n w (33 + 2 * k)) (fun k => sp_n w (34 + 2 * k)) (-1) q s (sp_n w 7)
  have lm : sp_n w (11 + 2 * q) * d ≤ 9 * 54 := Nat.mul_le_mul g.2 (by omega)
  obtain ⟨K, hK, eK⟩ : ∃ K, K ≤ 560 ∧ w (11 + 2 * q) * hs_dust w m (sp_n w 6) + 5 * nI (dy_cnt (fun k => sp_n w (33 + 2 * k)) (fun k => sp_n w (34 + 2 * k)) (-1) q s (sp_n w 7)) = nI K := by
    generalize dy_cnt (fun k => sp_n w (33 + 2 * k)) (fun k => sp_n w (34 + 2 * k)) (-1) q s (sp_n w 7) = c at lc
    have e2 : w (11 + 2 * q) * nI d = nI (sp_n w (11 + 2 * q) * d) := (congrArg (fun y => y * nI d) g.1).trans (nI_mul _ d)
    rw [ed, yi_5, e2, nI_add]
    exact ⟨sp_n w (11 + 2 * q) * d + 5 * c, by omega, rfl⟩
  show ∃ v, v ≤ 600 ∧ w (11 + 2 * q) * hs_dust w m (sp_n w 6) + 5 * nI (dy_cnt (fun k => sp_n w (33 + 2 * k)) (fun k => sp_n w (34 + 2 * k)) (-1) q s (sp_n w 7)) + (if sp_bit (hs_acts w 1 q (sp_n w 9)) m = true then 40 else 0) = nI v
  rw [eK]
  by_cases c : sp_bit (hs_acts w 1 q (sp_n w 9)) m = true
  · rw [if_pos c]
    exact ⟨K + 40, by omega, nI_add K 40⟩
  · rw [if_neg c]
    exact ⟨K, by omega, Int32.add_zero _⟩
theorem yba_st (hW : jW w) (hq : q < sp_n w 5) : ∀ m, ∃ v, v ≤ 600 * m ∧ (dy_st (dy_limSet (hs_day w) p x) m).1 q = nI v := by
  intro m
  induction m with
  | zero => exact ⟨0, Nat.le_refl _, nI_0.symm⟩
  | succ m ih =>
    obtain ⟨a, ha, ea⟩ := ih
    obtain ⟨b, hb, eb⟩ := yba_more (p := p) (x := x) hW hq (dy_st (dy_limSet (hs_day w) p x) m).2 m
    show ∃ v, v ≤ 600 * (m + 1) ∧ (if dy_does (dy_limSet (hs_day w) p x) ((dy_st (dy_limSet (hs_day w) p x) m).1 q) (dy_st (dy_limSet (hs_day w) p x) m).2 m q = true then 0 else (dy_st (dy_limSet (hs_day w) p x) m).1 q + dy_more (dy_limSet (hs_day w) p x) (dy_st (dy_limSet (hs_day w) p x) m).2 m q) = nI v
    by_cases c : dy_does (dy_limSet (hs_day w) p x) ((dy_st (dy_limSet (hs_day w) p x) m).1 q) (dy_st (dy_limSet (hs_day w) p x) m).2 m q = true
    · rw [if_pos c]
      exact ⟨0, Nat.zero_le _, nI_0.symm⟩
    · rw [if_neg c, ea, eb]
      exact ⟨a + b, by omega, nI_add a b⟩
def yba_J (w : Nat → Int32) (p : Nat) : dy_I := dy_limSet (hs_day w) p 1000000
def yba_T (w : Nat → Int32) (p m : Nat) : Nat := (dy_tick (yba_J w p) m p).toNatClampNeg
def yba_h (w : Nat → Int32) (p m : Nat) : Bool := sp_bit (hs_acts w 0 p (sp_n w 9)) m
theorem yba_no (hW : jW w) (hp : p < sp_n w 5) (hm : m < 30) : dy_does (yba_J w p) ((dy_st (yba_J w p) m).1 p) (dy_st (yba_J w p) m).2 m p = false := by
  obtain ⟨a, ha, ea⟩ := yba_st (p := p) (x := 1000000) hW hp m
  obtain ⟨b, hb, eb⟩ := yba_more (p := p) (x := 1000000) hW hp (dy_st (yba_J w p) m).2 m
  have ea : (dy_st (yba_J w p) m).1 p = nI a := ea
  have eb : dy_more (yba_J w p) (dy_st (yba_J w p) m).2 m p = nI b := eb
  have el : dy_lim (yba_J w p) p = 1000000 := if_pos rfl
  have lt : nI (a + b) < (1000000 : Int32) := nI_lt (b := 1000000) (by omega) (by decide)
  unfold dy_does
  rw [el, ea, eb, nI_add, decide_eq_false (Int32.not_le.mpr lt), Bool.false_and]
theorem yba_tick (hW : jW w) (hp : p < sp_n w 5) (hm : m < 30) : dy_tick (yba_J w p) m p = nI (yba_T w p m) ∧ yba_T w p m ≤ 18000 ∧ (dy_st (yba_J w p) m).1 p + dy_more (yba_J w p) (dy_st (yba_J w p) m).2 m p = nI (yba_T w p m) := by
  obtain ⟨a, ha, ea⟩ := yba_st (p := p) (x := 1000000) hW hp (m + 1)
  have ea : dy_tick (yba_J w p) m p = nI a := ea
  have e1 : yba_T w p m = a := by
    unfold yba_T
    rw [ea]
    exact nI_clamp (by omega)
  have e2 : dy_tick (yba_J w p) m p = (dy_st (yba_J w p) m).1 p + dy_more (yba_J w p) (dy_st (yba_J w p) m).2 m p := if_neg (by rw [yba_no hW hp hm]; decide)
  rw [← e2, e1]
  exact ⟨ea, by omega, ea⟩
theorem yba_eq (hW : jW w) (hp : p < sp_n w 5) : ∀ m, m ≤ 30 → (∀ j, j < m → dy_does (dy_limSet (hs_day w) p x) ((dy_st (yba_J w p) j).1 p) (dy_st (yba_J w p) j).2 j p = false) → (∀ q, q < sp_n w 5 → (dy_st (dy_limSet (hs_day w) p x) m).1 q = (dy_st (yba_J w p) m).1 q) ∧ (dy_st (dy_limSet (hs_day w) p x) m).2 = (dy_st (yba_J w p) m).2 := by
  intro m
  induction m with
  | zero => exact fun _ _ => ⟨fun _ _ => rfl, rfl⟩
  | succ m ih =>
    intro hm h
    have ih := ih (by omega) (fun j hj => h j (by omega))
    have hmo : ∀ (s : Int32) (q : Nat), dy_more (dy_limSet (hs_day w) p x) s m q = dy_more (yba_J w p) s m q := fun _ _ => rfl
    have hd : ∀ q, q < sp_n w 5 → dy_does (dy_limSet (hs_day w) p x) ((dy_st (yba_J w p) m).1 q) (dy_st (yba_J w p) m).2 m q = dy_does (yba_J w p) ((dy_st (yba_J w p) m).1 q) (dy_st (yba_J w p) m).2 m q := fun q hq => by
      by_cases c : q = p
      · subst c
        rw [h m (by omega), yba_no hW hp (by omega)]
      · have el : dy_lim (dy_limSet (hs_day w) p x) q = dy_lim (yba_J w p) q := (if_neg c).trans (if_neg c).symm
        unfold dy_does
        rw [el, hmo]
        rfl
    refine ⟨fun q hq => ?_, ?_⟩
    · show (if dy_does (dy_limSet (hs_day w) p x) ((dy_st (dy_limSet (hs_day w) p x) m).1 q) (dy_st (dy_limSet (hs_day w) p x) m).2 m q = true then 0 else (dy_st (dy_limSet (hs_day w) p x) m).1 q + dy_more (dy_limSet (hs_day w) p x) (dy_st (dy_limSet (hs_day w) p x) m).2 m q) = (if dy_does (yba_J w p) ((dy_st (yba_J w p) m).1 q) (dy_st (yba_J w p) m).2 m q = true then 0 else (dy_st (yba_J w p) m).1 q + dy_more (yba_J w p) (dy_st (yba_J w p) m).2 m q)
      rw [ih.1 q hq, ih.2, hd q hq, hmo]
    · show dy_set (fun q => dy_does (dy_limSet (hs_day w) p x) ((dy_st (dy_limSet (hs_day w) p x) m).1 q) (dy_st (dy_limSet (hs_day w) p x) m).2 m q) (sp_n w 5) = dy_set (fun q => dy_does (yba_J w p) ((dy_st (yba_J w p) m).1 q) (dy_st (yba_J w p) m).2 m q) (sp_n w 5)
      exact dy_setE _ (fun q hq => by rw [ih.1 q hq, ih.2, hd q hq])
theorem yba_does (hW : jW w) (hp : p < sp_n w 5) (hn : n < 2 ^ 31) (hm : m < 30) : dy_does (dy_limSet (hs_day w) p (nI n)) ((dy_st (yba_J w p) m).1 p) (dy_st (yba_J w p) m).2 m p = (decide (n ≤ yba_T w p m) && !yba_h w p m) := by
  obtain ⟨-, t2, t3⟩ := yba_tick hW hp hm
  have el : dy_lim (dy_limSet (hs_day w) p (nI n)) p = nI n := if_pos rfl
  have hmo : dy_more (dy_limSet (hs_day w) p (nI n)) (dy_st (yba_J w p) m).2 m p = dy_more (yba_J w p) (dy_st (yba_J w p) m).2 m p := rfl
  unfold dy_does
  rw [el, hmo, t3]
  exact congrArg (· && _) (decide_eq_decide.mpr (nI_leI hn (by omega)))
theorem yba_g (hW : jW w) (hp : p < sp_n w 5) (hn : n < 2 ^ 31) {M : Nat} (hM : M ≤ 30) : dy_sn (dy_limSet (hs_day w) p (nI n)) M p = 0 ↔ ∀ m, m < M → yba_h w p m = false → yba_T w p m < n := by
  have k1 : dy_sn (dy_limSet (hs_day w) p (nI n)) M p = dy_set (fun m => dy_does (dy_limSet (hs_day w) p (nI n)) ((dy_st (dy_limSet (hs_day w) p (nI n)) m).1 p) (dy_st (dy_limSet (hs_day w) p (nI n)) m).2 m p) M := rfl
  constructor
  · intro h m hm hh
    have all : ∀ k, k ≤ M → ∀ j, j < k → dy_does (dy_limSet (hs_day w) p (nI n)) ((dy_st (yba_J w p) j).1 p) (dy_st (yba_J w p) j).2 j p = false := fun k => by
      induction k with
      | zero => exact fun _ j hj => absurd hj (by omega)
      | succ k ih =>
        intro hk j hj
        have ih := ih (by omega)
        by_cases c : j = k
        · subst c
          have e := yba_eq (x := nI n) hW hp j (by omega) ih
          have b := yb_set (f := fun m => dy_does (dy_limSet (hs_day w) p (nI n)) ((dy_st (dy_limSet (hs_day w) p (nI n)) m).1 p) (dy_st (dy_limSet (hs_day w) p (nI n)) m).2 m p) M (by omega) j (by omega)
          rw [← k1, h, yb_z j (by omega), decide_eq_true (show j < M by omega), Bool.true_and, e.1 p hp, e.2] at b
          exact b.symm
        · exact ih j (by omega)
    have b := all M (Nat.le_refl _) m hm
    rw [yba_does hW hp hn (by omega), hh, Bool.not_false, Bool.and_true] at b
    have b := of_decide_eq_false b
    omega
  · intro h
    have all : ∀ j, j < M → dy_does (dy_limSet (hs_day w) p (nI n)) ((dy_st (yba_J w p) j).1 p) (dy_st (yba_J w p) j).2 j p = false := fun j hj => by
      rw [yba_does hW hp hn (by omega)]
      cases c : yba_h w p j with
      | true => exact Bool.and_false _
      | false =>
        have := h j hj c
        rw [decide_eq_false (show ¬ n ≤ yba_T w p j by omega), Bool.false_and]
    rw [k1, ← dy_set0 M]
    refine dy_setE _ (fun k hk => ?_)
    have e := yba_eq (x := nI n) hW hp k (by omega) (fun j hj => all j (by omega))
    rw [e.1 p hp, e.2]
    exact all k hk
def yba_L (w : Nat → Int32) (p : Nat) : Nat → Nat
  | 0 => 1
  | m + 1 => if yba_h w p m = false ∧ yba_L w p m < yba_T w p m + 1 then yba_T w p m + 1 else yba_L w p m
theorem yba_Ln (n : Nat) : ∀ M, yba_L w p M ≤ n ↔ 1 ≤ n ∧ ∀ m, m < M → yba_h w p m = false → yba_T w p m < n := by
  intro M
  induction M with
  | zero => exact ⟨fun h => ⟨h, fun m hm => absurd hm (by omega)⟩, fun h => h.1⟩
  | succ M ih =>
    show (if yba_h w p M = false ∧ yba_L w p M < yba_T w p M + 1 then yba_T w p M + 1 else yba_L w p M) ≤ n ↔ _
    by_cases c : yba_h w p M = false ∧ yba_L w p M < yba_T w p M + 1
    · rw [if_pos c]
      constructor
      · intro h
        have g := ih.mp (by omega)
        refine ⟨g.1, fun m hm hh => ?_⟩
        by_cases d : m = M
        · subst d; omega
        · exact g.2 m (by omega) hh
      · intro h
        have := h.2 M (by omega) c.1
        omega
    · rw [if_neg c, ih]
      refine ⟨fun h => ⟨h.1, fun m hm hh => ?_⟩, fun h => ⟨h.1, fun m hm hh => h.2 m (by omega) hh⟩⟩
      by_cases d : m = M
      · subst d
        have l := ih.mpr h
        have : ¬ yba_L w p m < yba_T w p m + 1 := fun g => c ⟨hh, g⟩
        omega
      · exact h.2 m (by omega) hh
theorem yba_Lb (hW : jW w) (hp : p < sp_n w 5) : ∀ m, m ≤ 30 → yba_L w p m ≤ 18001 := fun m hm => (yba_Ln 18001 m).mpr ⟨by decide, fun j hj _ => by
  have := (yba_tick hW hp (show j < 30 by omega)).2.1
  omega⟩
def yba_gb (w : Nat → Int32) (p n : Nat) : Bool := decide (dy_sn (dy_limSet (hs_day w) p (nI n)) (sp_n w 0) p = 0)
def yba_R (L : Nat) : Int32 := if L ≤ 99 then nI L else -1
theorem ym_quietU {x L : Nat} {x4 : Int32} {g : Nat → Bool} (hx : x < 119) (h4 : x4 ≠ -1) (hL : 1 ≤ L) (hg : ∀ n, 1 ≤ n → n ≤ 99 → (g n = true ↔ L ≤ n)) (hz0 : ∀ k, z.1 1 k = w k) (hq : ∀ (y : sn_S) (n : Nat), 1 ≤ n → n ≤ 99 → (∀ k, k ≠ x → y.1 1 k = w k) → y.1 1 x = nI n → yp (fX9_asksHouse y) (fun t => (∀ k, k ≠ x → t.2.1 1 k = w k) ∧ (sn_I t.2 10 x4.toNatClampNeg = 0 ↔ g n = true))) : yp (fX9_quietBy z (nI x) (1 : Int32) (99 : Int32) x4) (fun r => r.1 = yba_R L) := by
  unfold fX9_quietBy
  refine yp_gd (fun _ => yp_lt (yp_ite (fun _ => ?_) (fun c => absurd (show (1 : Int32) ≤ 99 by decide) c)))
  generalize sn_I z 1 (nI x).toNatClampNeg = x5
  unfold BX9_quietBy_21
  refine yp_bd (fun r => r.2 = yba_R L) (yp_it (fun s : sn_S × Int32 × Int32 => (∀ k, k ≠ x → s.1.1 1 k = w k) ∧ ((∃ n, 1 ≤ n ∧ n ≤ 99 ∧ s.2.2 = nI n ∧ s.2.1 = -1 ∧ n ≤ L) ∨ (s.2.1 = yba_R L ∧ (s.2.1 ≠ -1 ∨ s.2.2 = nI 100)))) (fun s hs => ?_) _ _ (by exact ⟨fun k _ => hz0 k, Or.inl ⟨1, by decide, by decide, rfl, rfl, hL⟩⟩)) (fun r hr => ?_)
  · obtain ⟨y, x6, x8⟩ := s
    obtain ⟨hy, h⟩ := hs
    have hy : ∀ k, k ≠ x → y.1 1 k = w k := hy
    show yp (BX9_quietBy_26 y (nI x) 99 x4 x5 x6 1 x8) _
    unfold BX9_quietBy_26
    rw [show (99 : Int32) + 1 = nI 100 by decide]
    rcases h with ⟨n, hn1, hn, e8, e6, ed⟩ | ⟨e6, h⟩
    · have e8 : x8 = nI n := e8
      have e6 : x6 = -1 := e6
      subst e8
      subst e6
      have k90 : ∀ (t2 : sn_S) (t0 : Int32), (∀ k, k ≠ x → t2.1 1 k = w k) → ((t0 = 0 ∧ g n = false) ∨ (t0 ≠ 0 ∧ g n = true)) → yp (BX9_quietBy_90 t2 (nI x) 99 x4 x5 (-1) 1 (nI n) t0) (yp_sum (fun s : sn_S × Int32 × Int32 => (∀ k, k ≠ x → s.1.1 1 k = w k) ∧ ((∃ n, 1 ≤ n ∧ n ≤ 99 ∧ s.2.2 = nI n ∧ s.2.1 = -1 ∧ n ≤ L) ∨ (s.2.1 = yba_R L ∧ (s.2.1 ≠ -1 ∨ s.2.2 = nI 100)))) (fun r : sn_S × Int32 => r.2 = yba_R L)) := fun t2 t0 ht h => by
        unfold BX9_quietBy_90 BX9_quietBy_103
        rcases h with ⟨h1, h2⟩ | ⟨h1, h2⟩
        · have hl : ¬ L ≤ n := fun c => by
            rw [(hg n hn1 hn).mpr c] at h2
            exact absurd h2 (by decide)
          rw [if_pos h1, nI_1]
          refine yp_lt (yp_some ⟨ht, ?_⟩)
          by_cases c : n = 99
          · refine Or.inr ⟨?_, Or.inr (congrArg nI (by omega))⟩
            show (-1 : Int32) = yba_R L
            unfold yba_R
            rw [if_neg (by omega)]
          · exact Or.inl ⟨n + 1, by omega, by omega, rfl, rfl, by omega⟩
        · have hl := (hg n hn1 hn).mp h2
          have el : n = L := by omega
          rw [if_neg h1]
          refine yp_lt (yp_some ⟨ht, Or.inr ⟨?_, Or.inl (yl_ne (by omega))⟩⟩)
          show nI n = yba_R L
          unfold yba_R
          rw [if_pos (by omega), el]
      rw [if_neg (show ¬ nI n = nI 100 from fun c => absurd ((nI_eq (by omega) (by decide)).mp c) (by omega)), if_pos rfl, nI_clamp (show x < 2 ^ 31 by omega)]
      refine yp_gd (fun _ => yp_lt (yp_bd _ (hq _ n hn1 hn (fun k hk => (pI_slot hk).trans (hy k hk)) pI_self) (fun t ht => ?_)))
      rw [if_neg h4]
      refine yp_gd (fun _ => yp_ite (fun c2 => k90 _ _ ht.1 (Or.inr ⟨by decide, ht.2.mp c2⟩)) (fun c2 => k90 _ _ ht.1 (Or.inl ⟨rfl, ?_⟩)))
      cases e : g n with
      | false => rfl
      | true => exact absurd (ht.2.mpr e) c2
    · have e6 : x6 = yba_R L := e6
      refine yp_ite (fun _ => yp_some e6) (fun c => ?_)
      rcases h with h | h
      · have h : x6 ≠ -1 := h
        rw [if_neg h]
        exact yp_some e6
      · exact absurd h c
  · unfold BX9_quietBy_115
    exact yp_gd (fun _ => yp_lt (yp_some hr))
theorem yba_EP {w' : Nat → Int32} {p n N : Nat} (e : ∀ k, k ≠ 12 + 2 * p → w' k = w k) (ex : w' (12 + 2 * p) = nI n) (hp : p < 6) : dy_EP N (hs_day w') (dy_limSet (hs_day w) p (nI n)) := by
  have s : ∀ k, k ≠ 12 + 2 * p → sp_n w' k = sp_n w k := fun k h1 => sp_mv (e k h1)
  have s5 := s 5 (by omega)
  have s6 := s 6 (by omega)
  have s7 := s 7 (by omega)
  have s9 := s 9 (by omega)
  refine ⟨s5, s7, show (-1 : Int32) = -1 from rfl, fun x hx => ⟨?_, ?_⟩, fun m _ => ⟨?_, fun x _ => ⟨?_, ?_⟩⟩, fun k _ => ⟨s (33 + 2 * k) (by omega), s (34 + 2 * k) (by omega)⟩⟩
  · show w' (11 + 2 * x) = w (11 + 2 * x)
    exact e _ (by omega)
  · show w' (12 + 2 * x) = (if x = p then nI n else w (12 + 2 * x))
    by_cases c : x = p
    · rw [if_pos c, c, ex]
    · rw [if_neg c, e _ (by omega)]
  · show hs_dust w' m (sp_n w' 6) = hs_dust w m (sp_n w 6)
    rw [s6, hs_dustE (fun k hk => e k (by omega)), e 1 (by omega), Int32.sub_add_cancel]
  · show sp_bit (hs_acts w' 0 x (sp_n w' 9)) m = sp_bit (hs_acts w 0 x (sp_n w 9)) m
    rw [s9, hs_actsE (fun k hk => e k (by omega))]
  · show sp_bit (hs_acts w' 1 x (sp_n w' 9)) m = sp_bit (hs_acts w 1 x (sp_n w 9)) m
    rw [s9, hs_actsE (fun k hk => e k (by omega))]
theorem yc_bears (hW : jW w) (hD : yD σ w) (hp : p < sp_n w 5) : yp ((fX0_copyFrom σ 38 27).bind fun t_4 => (sn_gd (sn_in (nI p) 6) (sn_lt (sn_pI t_4 (38 + 3) (nI p).toNatClampNeg (1000000 : Int32)) fun σ_7 => ((fX0_liveWhole σ_7 38).bind fun t_9 => ((sn_it (LX8_bears_44 t_9 (nI p)) 5000 ((1 : Int32), (0 : Int32))).bind fun t_11 => (BX8_bears_93 t_9 t_11)))))) (fun r => r.1 = yba_R (yba_L w p (sp_n w 0))) := by
  have c0 := (yl_0 hW).2
  have c5 := (yl_5 hW).2
  refine yp_bd _ (yc_trial hW hD (by decide)) (fun z0 hz0 => ?_)
  obtain ⟨-, h00, ⟨t1, t2, t3, t4, t5, t6⟩, -⟩ := hz0
  rw [nI_clamp (show p < 2 ^ 31 by omega)]
  refine yp_gd (fun _ => yp_le (fun y2 ey => ?_))
  have yr0 : ∀ a, a ≠ 41 → y2.1 a = z0.1 a := fun a ha => by rw [ey]; exact pI_ne ha
  have hT2 : yd_T 38 y2 (yba_J w p) := by
    refine ⟨(congrFun (yr0 38 (by decide)) 1).trans t1, (congrFun (yr0 38 (by decide)) 2).trans t2, (congrFun (yr0 38 (by decide)) 3).trans t3, fun k hk => (congrFun (yr0 39 (by decide)) k).trans (t4 k hk), fun x hx => ?_, fun k hk => ?_⟩
    · have g := t5 x hx
      refine ⟨(congrFun (yr0 40 (by decide)) x).trans g.1, ?_, (congrFun (yr0 42 (by decide)) x).trans g.2.2.1, (congrFun (yr0 43 (by decide)) x).trans g.2.2.2⟩
      show y2.1 41 x = (if x = p then (1000000 : Int32) else w (12 + 2 * x))
      by_cases e : x = p
      · rw [if_pos e, e, ey]; exact pI_self
      · rw [if_neg e, ey]
        exact (pI_slot e).trans g.2.1
    · rw [yr0 44 (by decide)]
      exact t6 k hk
  refine yp_bd _ (yc_whole ((congrFun (yr0 38 (by decide)) 0).trans h00) c0 hT2 (hs_ok hW)) (fun v hv => ?_)
  obtain ⟨⟨f1, f2⟩, hL⟩ := hv
  have v0 : sn_I v 38 0 = nI (sp_n w 0) := (congrFun (f1 38 (by omega)) 0).trans ((congrFun (yr0 38 (by decide)) 0).trans h00)
  have v4 : sn_I v (38 + 4) p = hs_acts w 0 p (sp_n w 9) := (congrFun (f1 42 (by omega)) p).trans (hT2.2.2.2.2.1 p hp).2.2.1
  refine yp_bd (fun x => x = nI (yba_L w p (sp_n w 0))) (yp_for (sp_n w 0) (fun m s => s.2 = nI m ∧ s.1 = nI (yba_L w p m)) (fun m s hm hs => ?_) (fun s hs => ?_) (by exact ⟨nI_0.symm, rfl⟩)) (fun r hr => ?_)
  · obtain ⟨x2, x3⟩ := s
    obtain ⟨e3, e2⟩ := hs
    have e3 : x3 = nI m := e3
    have e2 : x2 = nI (yba_L w p m) := e2
    subst e3
    subst e2
    have lb := yba_Lb hW hp m (by omega)
    obtain ⟨k1, k2, -⟩ := yba_tick hW hp (show m < 30 by omega)
    have fin : ∀ x : Int32, x = nI (yba_L w p (m + 1)) → yp (BX8_bears_87 v (nI p) x (nI m)) (yp_sum (fun s : Int32 × Int32 => s.2 = nI (m + 1) ∧ s.1 = nI (yba_L w p (m + 1))) (fun _ => False)) := fun x hx => by
      unfold BX8_bears_87
      exact yp_lt (yp_some ⟨nI_1 m, hx⟩)
    have kL : yba_L w p (m + 1) = if yba_h w p m = false ∧ yba_L w p m < yba_T w p m + 1 then yba_T w p m + 1 else yba_L w p m := rfl
    show yp (BX8_bears_44 v (nI p) (nI (yba_L w p m)) (nI m)) _
    unfold BX8_bears_44
    rw [v0, if_neg (nI_ge hm (by omega)), nI_clamp (show p < 2 ^ 31 by omega), v4, yb_c]
    refine yp_gd (fun _ => yp_bit (fun hb => ?_) (fun hb => ?_))
    · rw [if_neg (by decide)]
      refine fin _ ?_
      rw [kL, if_neg (fun c => by rw [show yba_h w p m = true from hb] at c; exact absurd c.1 (by decide))]
    · rw [if_pos rfl]
      unfold fX0_tickleAt
      rw [yi_6, nI_add, nI_clamp (show 6 * m + p < 2 ^ 31 by omega)]
      refine yp_bd (fun t => t = nI (yba_T w p m)) (yp_gd (fun _ => yp_some ?_)) (fun t ht => ?_)
      · exact ((hL.1 m hm).2 p hp).1.trans k1
      · rw [ht, nI_1]
        refine yp_lt (fin _ ?_)
        rw [kL]
        by_cases c : yba_L w p m < yba_T w p m + 1
        · rw [if_pos ((nI_ltI (by omega) (by omega)).mpr c), if_pos ⟨hb, c⟩]
        · rw [if_neg (fun h => c ((nI_ltI (by omega) (by omega)).mp h)), if_neg (fun h => c h.2)]
  · obtain ⟨x2, x3⟩ := s
    obtain ⟨e3, e2⟩ := hs
    have e3 : x3 = nI (sp_n w 0) := e3
    subst e3
    show yp (BX8_bears_44 v (nI p) x2 (nI (sp_n w 0))) _
    unfold BX8_bears_44
    rw [v0, if_pos (nI_le (Nat.le_refl _) (by omega))]
    exact yp_some e2
  · have lb := yba_Lb hW hp (sp_n w 0) c0
    rw [hr]
    unfold BX8_bears_93 yba_R
    by_cases c : yba_L w p (sp_n w 0) ≤ 99
    · rw [if_pos (show nI (yba_L w p (sp_n w 0)) ≤ (99 : Int32) from nI_le (b := 99) c (by decide)), if_pos c]
      exact yp_some rfl
    · rw [if_neg (show ¬ nI (yba_L w p (sp_n w 0)) ≤ (99 : Int32) from nI_ge (a := 99) (by omega) (by omega)), if_neg c]
      exact yp_some rfl
theorem yz_27 {a : Int32} (hK : zK σ τ) : yr (fX8_bears σ a) (fX9_bears τ a) (fun r s => r.1 = s.1) := by
  obtain ⟨-, ⟨p1, p2, p3⟩, -⟩ := yK_n hK
  have hW := hK.2.1.1
  have c0 := (yl_0 hW).2
  unfold fX8_bears fX9_bears
  rw [c_isPerson, p1, m_isPerson (by rw [p2]; exact nI_pos' (by omega))]
  by_cases cp : 0 ≤ a ∧ a < τ.1 1 5
  · obtain ⟨p, hp, ep⟩ := yK_p (by omega) p2 cp
    subst ep
    rw [if_pos cp]
    refine yr_eq2 (yba_R (yba_L (τ.1 1) p (sp_n (τ.1 1) 0))) (yp_bs rfl ?_) (yp_bs rfl ?_)
    · rw [if_neg (by decide)]
      exact yc_bears hW hK.2.2.2 hp
    · rw [if_neg (by decide), yi_12]
      refine yp_bd _ (ym_quietU (w := τ.1 1) (L := yba_L (τ.1 1) p (sp_n (τ.1 1) 0)) (g := yba_gb (τ.1 1) p) (by omega) (yl_ne (by omega)) ((yba_Ln _ _).mp (Nat.le_refl _)).1 (fun n h1 h2 => ?_) (fun _ => rfl) (fun y n hn1 hn hy ey => ?_)) (fun r hr => yp_some hr)
      · unfold yba_gb
        rw [decide_eq_true_eq, yba_g hW hp (by omega) c0, yba_Ln]
        exact ⟨fun h => ⟨h1, h⟩, fun h => h.2⟩
      · have hW2 : jW (y.1 1) := jW_set hW hy ey (Or.inr ⟨p, by omega, Or.inr ⟨rfl, hn1, hn⟩⟩)
        have s5 : sp_n (y.1 1) 5 = sp_n (τ.1 1) 5 := sp_mv (hy 5 (by omega))
        have s0 : sp_n (y.1 1) 0 = sp_n (τ.1 1) 0 := sp_mv (hy 0 (by omega))
        refine yp_w (ym_asks rfl hW2) (fun t ht => ⟨fun k hk => (congrFun ht.2.1 k).trans (hy k hk), ?_⟩)
        rw [nI_clamp (show p < 2 ^ 31 by omega), show sn_I t.2 10 p = dy_sn (hs_day (y.1 1)) (sp_n (y.1 1) 0) p from yz_msn hW2 ht.2 (by omega), s0, dy_snP (yba_EP (w := τ.1 1) hy ey (by omega)) (Nat.le_refl _) (show p < sp_n (y.1 1) 5 by omega)]
        unfold yba_gb
        rw [decide_eq_true_eq]
  · rw [if_neg cp]
    refine yr_eq2 (-2 : Int32) (yp_bs rfl ?_) (yp_bs rfl ?_)
    · rw [if_pos rfl]; exact yp_some rfl
    · rw [if_pos rfl]; exact yp_some rfl
end
end
section
/-! every call keeps what the two have in common, the houses too -/
theorem zz_0 : st_0 zK zK := by
  intro σ τ a0 a1 a2 a3 a4 hJ
  obtain ⟨r, σ1, τ1, e1, e2, h⟩ := zK_0 σ τ a0 a1 a2 a3 a4 hJ
  exact ⟨r, r, σ1, τ1, e1, e2, h⟩
theorem zz_1 : st_1 zK zK := by
  intro σ τ a0 hJ
  obtain ⟨r, σ1, τ1, e1, e2, h⟩ := zK_1 σ τ a0 hJ
  exact ⟨r, r, σ1, τ1, e1, e2, h⟩
theorem zz_2 : st_2 zK zK := by
  intro σ τ hJ
  obtain ⟨r, σ1, τ1, e1, e2, h⟩ := zK_2 σ τ hJ
  exact ⟨r, r, σ1, τ1, e1, e2, h⟩
theorem zz_3 : st_3 zK zK := by
  intro σ τ a0 hJ
  obtain ⟨r, e1, e2⟩ := zJ_3 σ τ a0 hJ.1
  exact ⟨r, r, e1, e2, hJ⟩
theorem zz_4 : st_4 zK zK := by
  intro σ τ a0 a1 hJ
  obtain ⟨r, e1, e2⟩ := zJ_4 σ τ a0 a1 hJ.1
  exact ⟨r, r, e1, e2, hJ⟩
theorem zz_5 : st_5 zK zK := by
  intro σ τ a0 a1 hJ
  obtain ⟨r, e1, e2⟩ := zJ_5 σ τ a0 a1 hJ.1
  exact ⟨r, r, e1, e2, hJ⟩
theorem zz_6 : st_6 zK zK := by
  intro σ τ a0 hJ
  obtain ⟨r, e1, h1⟩ := zc_20 (zs_rf (key := zs_kC) (kl := zs_lC) hJ.1.1.1) (x1 := a0)
  obtain ⟨r2, e2, h2⟩ := zc_43 (zs_rf (key := zs_kM) (kl := zs_lM) hJ.1.1.2.1) (x1 := a0)
  exact ⟨r, r2.1, r2.2, e1, e2, zK_keep (zs_rf hJ.1.1.1) (h2.1.2) hJ⟩
theorem zz_7 : st_7 zK zK := by
  intro σ τ a0 hJ
  obtain ⟨r, e1, h1⟩ := zc_45 (zs_rf (key := zs_kC) (kl := zs_lC) hJ.1.1.1) (x1 := a0)
  obtain ⟨r2, e2, h2⟩ := zc_96 (zs_rf (key := zs_kM) (kl := zs_lM) hJ.1.1.2.1) (x1 := a0)
  exact ⟨r, r2.1, r2.2, e1, e2, zK_keep (zs_rf hJ.1.1.1) (h2.1.2) hJ⟩
theorem zz_8 : st_8 zK zK := by
  intro σ τ a0 hJ
  obtain ⟨r, e1, h1⟩ := zc_97 (zs_rf (key := zs_kC) (kl := zs_lC) hJ.1.1.1) (x1 := a0)
  obtain ⟨r2, e2, h2⟩ := zc_99 (zs_rf (key := zs_kM) (kl := zs_lM) hJ.1.1.2.1) (x1 := a0)
  exact ⟨r, r2.1, r2.2, e1, e2, zK_keep (zs_rf hJ.1.1.1) (h2.1.2) hJ⟩
theorem zz_9 : st_9 zK zK := by
  intro σ τ a0 hJ
  obtain ⟨r, e1, h1⟩ := zc_100 (zs_rf (key := zs_kC) (kl := zs_lC) hJ.1.1.1) (x1 := a0)
  obtain ⟨r2, e2, h2⟩ := zc_101 (zs_rf (key := zs_kM) (kl := zs_lM) hJ.1.1.2.1) (x1 := a0)
  exact ⟨r, r2.1, r2.2, e1, e2, zK_keep (zs_rf hJ.1.1.1) (h2.1.2) hJ⟩
theorem zz_10 : st_10 zK zK := by
  intro σ τ hJ
  obtain ⟨r, e1, h1⟩ := zc_106 (zs_rf (key := zs_kC) (kl := zs_lC) hJ.1.1.1) 
  obtain ⟨r2, e2, h2⟩ := zc_113 (zs_rf (key := zs_kM) (kl := zs_lM) hJ.1.1.2.1) 
  exact ⟨r, r2.1, r2.2, e1, e2, zK_keep (zs_rf hJ.1.1.1) (h2.2) hJ⟩
theorem zz_11 : st_11 zK zK := by
  intro σ τ a0 hJ
  obtain ⟨r, e1, h1⟩ := zc_114 (zs_rf (key := zs_kC) (kl := zs_lC) hJ.1.1.1) (x1 := a0)
  obtain ⟨r2, e2, h2⟩ := zc_115 (zs_rf (key := zs_kM) (kl := zs_lM) hJ.1.1.2.1) (x1 := a0)
  exact ⟨r, r2.1, r2.2, e1, e2, zK_keep (zs_rf hJ.1.1.1) (h2.1.2) hJ⟩
theorem zz_12 : st_12 zK zK := by
  intro σ τ a0 a1 hJ
  obtain ⟨r, e1, h1⟩ := zc_117 (zs_rf (key := zs_kC) (kl := zs_lC) hJ.1.1.1) (x1 := a0) (x2 := a1)
  obtain ⟨r2, e2, h2⟩ := zc_118 (zs_rf (key := zs_kM) (kl := zs_lM) hJ.1.1.2.1) (x1 := a0) (x2 := a1)
  exact ⟨r, r2.1, r2.2, e1, e2, zK_keep (zs_rf hJ.1.1.1) (h2.1.2) hJ⟩
theorem zz_13 : st_13 zK zK := by
  intro σ τ a0 hJ
  obtain ⟨r, e1, h1⟩ := zc_121 (zs_rf (key := zs_kC) (kl := zs_lC) hJ.1.1.1) (x1 := a0)
  obtain ⟨r2, e2, h2⟩ := zc_124 (zs_rf (key := zs_kM) (kl := zs_lM) hJ.1.1.2.1) (x1 := a0)
  exact ⟨r, r2.1, r2.2, e1, e2, zK_keep (zs_rf hJ.1.1.1) (h2.1.2) hJ⟩
theorem zz_14 : st_14 zK zK := by
  intro σ τ a0 hJ
  obtain ⟨r, e1, h1⟩ := zc_128 (zs_rf (key := zs_kC) (kl := zs_lC) hJ.1.1.1) (x1 := a0)
  obtain ⟨r2, e2, h2⟩ := zc_129 (zs_rf (key := zs_kM) (kl := zs_lM) hJ.1.1.2.1) (x1 := a0)
  exact ⟨r, r2.1, r2.2, e1, e2, zK_keep (zs_rf hJ.1.1.1) (h2.1.2) hJ⟩
theorem zz_15 : st_15 zK zK := by
  intro σ τ a0 hJ
  obtain ⟨r, e1, h1⟩ := zc_130 (zs_rf (key := zs_kC) (kl := zs_lC) hJ.1.1.1) (x1 := a0)
  obtain ⟨r2, e2, h2⟩ := zc_136 (zs_rf (key := zs_kM) (kl := zs_lM) hJ.1.1.2.1) (x1 := a0)
  exact ⟨r, r2.1, r2.2, e1, e2, zK_keep (zs_rf hJ.1.1.1) (h2.1.2) hJ⟩
theorem zz_16 : st_16 zK zK := by
  intro σ τ hJ
  obtain ⟨r, e1, h1⟩ := zc_141 (zs_rf (key := zs_kC) (kl := zs_lC) hJ.1.1.1) 
  obtain ⟨r2, e2, h2⟩ := zc_146 (zs_rf (key := zs_kM) (kl := zs_lM) hJ.1.1.2.1) 
  exact ⟨r, r2.1, r2.2, e1, e2, zK_keep (zs_rf hJ.1.1.1) (h2.2) hJ⟩
theorem zz_17 : st_17 zK zK := by
  intro σ τ hJ
  obtain ⟨r, e1, h1⟩ := zc_149 (zs_rf (key := zs_kC) (kl := zs_lC) hJ.1.1.1) 
  obtain ⟨r2, e2, h2⟩ := zc_154 (zs_rf (key := zs_kM) (kl := zs_lM) hJ.1.1.2.1) 
  exact ⟨r, r2.1, r2.2, e1, e2, zK_keep (zs_rf hJ.1.1.1) (h2.2) hJ⟩
theorem zz_18 : st_18 zK zK := by
  intro σ τ hJ
  obtain ⟨r, e1, h1⟩ := zc_159 (zs_rf (key := zs_kC) (kl := zs_lC) hJ.1.1.1) 
  obtain ⟨r2, e2, h2⟩ := zc_164 (zs_rf (key := zs_kM) (kl := zs_lM) hJ.1.1.2.1) 
  exact ⟨r, r2.1, r2.2, e1, e2, zK_keep (zs_rf hJ.1.1.1) (h2.2) hJ⟩
theorem zz_19 : st_19 zK zK := by
  intro σ τ a0 hJ
  obtain ⟨r, e1, h1⟩ := zc_176 (zs_rf (key := zs_kC) (kl := zs_lC) hJ.1.1.1) (x1 := a0)
  obtain ⟨r2, e2, h2⟩ := zc_186 (zs_rf (key := zs_kM) (kl := zs_lM) hJ.1.1.2.1) (x1 := a0)
  exact ⟨r, r2.1, r2.2, e1, e2, zK_keep (zs_rf hJ.1.1.1) (h2.1.2) hJ⟩
theorem zz_20 : st_20 zK zK := by
  intro σ τ a0 a1 hJ
  obtain ⟨r, e1, h1⟩ := zc_188 (zs_rf (key := zs_kC) (kl := zs_lC) hJ.1.1.1) (x1 := a0) (x2 := a1)
  obtain ⟨r2, e2, h2⟩ := zc_191 (zs_rf (key := zs_kM) (kl := zs_lM) hJ.1.1.2.1) (x1 := a0) (x2 := a1)
  exact ⟨r, r2.1, r2.2, e1, e2, zK_keep (zs_rf hJ.1.1.1) (h2.1.2) hJ⟩
theorem zz_21 : st_21 zK zK := by
  intro σ τ a0 hJ
  obtain ⟨r, e1, h1⟩ := zc_199 (zs_rf (key := zs_kC) (kl := zs_lC) hJ.1.1.1) (x1 := a0)
  obtain ⟨r2, e2, h2⟩ := zc_211 (zs_rf (key := zs_kM) (kl := zs_lM) hJ.1.1.2.1) (x1 := a0)
  exact ⟨r, r2.1, r2.2, e1, e2, zK_keep (zs_rf hJ.1.1.1) (h2.1.2) hJ⟩
theorem zz_22 : st_22 zK zK := by
  intro σ τ hJ
  obtain ⟨r, e1, h1⟩ := zc_215 (zs_rf (key := zs_kC) (kl := zs_lC) hJ.1.1.1) 
  obtain ⟨r2, e2, h2⟩ := zc_220 (zs_rf (key := zs_kM) (kl := zs_lM) hJ.1.1.2.1) 
  exact ⟨r, r2.1, r2.2, e1, e2, zK_keep (zs_rf hJ.1.1.1) (h2.2) hJ⟩
theorem zz_23 : st_23 zK zK := by
  intro σ τ a0 hJ
  obtain ⟨r, e1, h1⟩ := zc_225 (zs_rf (key := zs_kC) (kl := zs_lC) hJ.1.1.1) (x1 := a0)
  obtain ⟨r2, e2, h2⟩ := zc_228 (zs_rf (key := zs_kM) (kl := zs_lM) hJ.1.1.2.1) (x1 := a0)
  exact ⟨r, r2.1, r2.2, e1, e2, zK_keep (zs_rf hJ.1.1.1) (h2.1.2) hJ⟩
theorem zz_24 : st_24 zK zK := by
  intro σ τ a0 hJ
  obtain ⟨r, e1, h1⟩ := zc_238 (zs_rf (key := zs_kC) (kl := zs_lC) hJ.1.1.1) (x1 := a0)
  obtain ⟨r2, e2, h2⟩ := zc_263 (zs_rf (key := zs_kM) (kl := zs_lM) hJ.1.1.2.1) (x1 := a0)
  exact ⟨r.1, r2.1, r.2, r2.2, e1, e2, zK_keep (h1.2) (h2.2) hJ⟩
theorem zz_25 : st_25 zK zK := by
  intro σ τ hJ
  obtain ⟨r, e1, h1⟩ := zc_276 (zs_rf (key := zs_kC) (kl := zs_lC) hJ.1.1.1) 
  obtain ⟨r2, e2, h2⟩ := zc_313 (zs_rf (key := zs_kM) (kl := zs_lM) hJ.1.1.2.1) 
  exact ⟨r.1, r2.1, r.2, r2.2, e1, e2, zK_keep (h1.2) (h2.2) hJ⟩
theorem zz_26 : st_26 zK zK := by
  intro σ τ a0 hJ
  obtain ⟨r, e1, h1⟩ := zc_353 (zs_rf (key := zs_kC) (kl := zs_lC) hJ.1.1.1) (x1 := a0)
  obtain ⟨r2, e2, h2⟩ := zA_70 (zs_rf (key := zs_kM0) (kl := zs_lM) hJ.1.1.2.1) (x1 := a0)
  exact ⟨r.1, r2.1, r.2, r2.2, e1, e2, zK_keep0 (h1.1.2) (h2.1.2) (qb_dull hJ.1.1.2.1 e2) hJ⟩
theorem zz_27 : st_27 zK zK := by
  intro σ τ a0 hJ
  obtain ⟨r, e1, h1⟩ := zc_358 (zs_rf (key := zs_kC) (kl := zs_lC) hJ.1.1.1) (x1 := a0)
  obtain ⟨r2, e2, h2⟩ := zA_79 (zs_rf (key := zs_kM0) (kl := zs_lM) hJ.1.1.2.1) (x1 := a0)
  have q : r.1 = r2.1 := yz_27 hJ _ _ e1 e2
  exact ⟨r.1, r.2, r2.2, e1, (e2.trans (show some r2 = some (r.1, r2.2) by rw [q])), zK_keep0 (h1.1.2) (h2.1.2) (qb_bears hJ.1.1.2.1 e2) hJ⟩
theorem zz_28 : st_28 zK zK := by
  intro σ τ hJ
  obtain ⟨r, e1, h1⟩ := zc_366 (zs_rf (key := zs_kC) (kl := zs_lC) hJ.1.1.1) 
  obtain ⟨r2, e2, h2⟩ := zA_94 (zs_rf (key := zs_kM0) (kl := zs_lM) hJ.1.1.2.1) 
  exact ⟨r.1, r2.1, r.2, r2.2, e1, e2, zK_keep0 (h1.2) (h2.2) (qb_clean hJ.1.1.2.1 e2) hJ⟩
theorem zz_29 : st_29 zK zK := by
  intro σ τ a0 hJ
  obtain ⟨r, e1, h1⟩ := zc_370 (zs_rf (key := zs_kC) (kl := zs_lC) hJ.1.1.1) (x1 := a0)
  obtain ⟨r2, e2, h2⟩ := zc_378 (zs_rf (key := zs_kM) (kl := zs_lM) hJ.1.1.2.1) (x1 := a0)
  exact ⟨r.1, r2.1, r.2, r2.2, e1, e2, zK_keep (h1.1.2) (h2.1.2) hJ⟩
theorem zz_30 : st_30 zK zK := by
  intro σ τ a0 hJ
  obtain ⟨r, e1, h1⟩ := zc_384 (zs_rf (key := zs_kC) (kl := zs_lC) hJ.1.1.1) (x1 := a0)
  obtain ⟨r2, e2, h2⟩ := zc_397 (zs_rf (key := zs_kM) (kl := zs_lM) hJ.1.1.2.1) (x1 := a0)
  exact ⟨r, r2.1, r2.2, e1, e2, zK_keep (zs_rf hJ.1.1.1) (h2.1.2) hJ⟩
theorem zz_31 : st_31 zK zK := by
  intro σ τ a0 hJ
  obtain ⟨r, e1, h1⟩ := zc_398 (zs_rf (key := zs_kC) (kl := zs_lC) hJ.1.1.1) (x1 := a0)
  obtain ⟨r2, e2, h2⟩ := zc_399 (zs_rf (key := zs_kM) (kl := zs_lM) hJ.1.1.2.1) (x1 := a0)
  exact ⟨r.1, r2.1, r.2, r2.2, e1, e2, zK_keep (h1.1.2) (h2.1.2) hJ⟩
theorem zz_32 : st_32 zK zK := by
  intro σ τ a0 hJ
  obtain ⟨r, e1, h1⟩ := zc_400 (zs_rf (key := zs_kC) (kl := zs_lC) hJ.1.1.1) (x1 := a0)
  obtain ⟨r2, e2, h2⟩ := zc_401 (zs_rf (key := zs_kM) (kl := zs_lM) hJ.1.1.2.1) (x1 := a0)
  exact ⟨r.1, r2.1, r.2, r2.2, e1, e2, zK_keep (h1.1.2) (h2.1.2) hJ⟩
theorem zz_33 : st_33 zK zK := by
  intro σ τ hJ
  obtain ⟨r, e1, h1⟩ := zc_405 (zs_rf (key := zs_kC) (kl := zs_lC) hJ.1.1.1) 
  obtain ⟨r2, e2, h2⟩ := zc_410 (zs_rf (key := zs_kM) (kl := zs_lM) hJ.1.1.2.1) 
  exact ⟨r.1, r2.1, r.2, r2.2, e1, e2, zK_keep (h1.2) (h2.2) hJ⟩
theorem zz_34 : st_34 zK zK := by
  intro σ τ a0 hJ
  obtain ⟨r, e1, h1⟩ := zc_411 (zs_rf (key := zs_kC) (kl := zs_lC) hJ.1.1.1) (x1 := a0)
  obtain ⟨r2, e2, h2⟩ := zc_412 (zs_rf (key := zs_kM) (kl := zs_lM) hJ.1.1.2.1) (x1 := a0)
  exact ⟨r.1, r2.1, r.2, r2.2, e1, e2, zK_keep (h1.2) (h2.2) hJ⟩
theorem zz_35 : st_35 zK zK := by
  intro σ τ hJ
  obtain ⟨r, e1, h1⟩ := zc_416 (zs_rf (key := zs_kC) (kl := zs_lC) hJ.1.1.1) 
  obtain ⟨r2, e2, h2⟩ := zc_420 (zs_rf (key := zs_kM) (kl := zs_lM) hJ.1.1.2.1) 
  exact ⟨r.1, r2.1, r.2, r2.2, e1, e2, zK_keep (h1.2) (h2.2) hJ⟩
theorem zz_36 : st_36 zK zK := by
  intro σ τ hJ
  obtain ⟨r, e1, h1⟩ := zc_425 (zs_rf (key := zs_kC) (kl := zs_lC) hJ.1.1.1) 
  obtain ⟨r2, e2, h2⟩ := zc_430 (zs_rf (key := zs_kM) (kl := zs_lM) hJ.1.1.2.1) 
  exact ⟨r.1, r2.1, r.2, r2.2, e1, e2, zK_keep (h1.2) (h2.2) hJ⟩
theorem zz_37 : st_37 zK zK := by
  intro σ τ hJ
  obtain ⟨r, e1, h1⟩ := zc_434 (zs_rf (key := zs_kC) (kl := zs_lC) hJ.1.1.1) 
  obtain ⟨r2, e2, h2⟩ := zh_reserve (zs_rf (key := zs_kM) (kl := zs_lM) hJ.1.1.2.1)
  exact ⟨r.1, r2.1, r.2, r2.2, e1, e2, zK_keep (h1.2) (h2) hJ⟩
theorem zz_38 : st_38 zK zK := by
  intro σ τ a0 hJ
  obtain ⟨r, e1, h1⟩ := zc_437 (zs_rf (key := zs_kC) (kl := zs_lC) hJ.1.1.1) (x1 := a0)
  obtain ⟨r2, e2, h2⟩ := zc_446 (zs_rf (key := zs_kM) (kl := zs_lM) hJ.1.1.2.1) (x1 := a0)
  exact ⟨r.1, r2.1, r.2, r2.2, e1, e2, zK_keep (h1.2) (h2.2) hJ⟩
theorem zz_39 : st_39 zK zK := by
  intro σ τ hJ
  obtain ⟨r, e1, h1⟩ := zc_457 (zs_rf (key := zs_kC) (kl := zs_lC) hJ.1.1.1) 
  obtain ⟨r2, e2, h2⟩ := zc_463 (zs_rf (key := zs_kM) (kl := zs_lM) hJ.1.1.2.1) 
  exact ⟨r.1, r2.1, r.2, r2.2, e1, e2, zK_keep (h1.2) (h2.2) hJ⟩
theorem zz_40 : st_40 zK zK := by
  intro σ τ a0 hJ
  obtain ⟨r, e1, h1⟩ := zc_471 (zs_rf (key := zs_kC) (kl := zs_lC) hJ.1.1.1) (x1 := a0)
  obtain ⟨r2, e2, h2⟩ := zc_478 (zs_rf (key := zs_kM) (kl := zs_lM) hJ.1.1.2.1) (x1 := a0)
  exact ⟨r, r2.1, r2.2, e1, e2, zK_keep (zs_rf hJ.1.1.1) (h2.1.2) hJ⟩
theorem zz_41 : st_41 zK zK := by
  intro σ τ a0 hJ
  obtain ⟨r, e1, h1⟩ := zc_479 (zs_rf (key := zs_kC) (kl := zs_lC) hJ.1.1.1) (x1 := a0)
  obtain ⟨r2, e2, h2⟩ := zc_480 (zs_rf (key := zs_kM) (kl := zs_lM) hJ.1.1.2.1) (x1 := a0)
  exact ⟨r, r2.1, r2.2, e1, e2, zK_keep (zs_rf hJ.1.1.1) (h2.1.2) hJ⟩
theorem zz_42 : st_42 zK zK := by
  intro σ τ a0 hJ
  obtain ⟨r, e1, h1⟩ := zc_489 (zs_rf (key := zs_kC) (kl := zs_lC) hJ.1.1.1) (x1 := a0)
  obtain ⟨r2, e2, h2⟩ := zr_price hJ.1.1.2.1 a0
  exact ⟨r, r2.1, r2.2, e1, e2, zK_keep (zs_rf hJ.1.1.1) (h2) hJ⟩
theorem zz_43 : st_43 zK zK := by
  intro σ τ a0 hJ
  obtain ⟨r, e1, h1⟩ := zc_511 (zs_rf (key := zs_kC) (kl := zs_lC) hJ.1.1.1) (x1 := a0)
  obtain ⟨r2, e2, h2⟩ := zc_527 (zs_rf (key := zs_kM) (kl := zs_lM) hJ.1.1.2.1) (x1 := a0)
  exact ⟨r.1, r2.1, r.2, r2.2, e1, e2, zK_keep (h1.1.2) (h2.1.2) hJ⟩
theorem zz_44 : st_44 zK zK := by
  intro σ τ a0 hJ
  obtain ⟨r, e1, h1⟩ := zc_529 (zs_rf (key := zs_kC) (kl := zs_lC) hJ.1.1.1) (x1 := a0)
  obtain ⟨r2, e2, h2⟩ := zc_530 (zs_rf (key := zs_kM) (kl := zs_lM) hJ.1.1.2.1) (x1 := a0)
  exact ⟨r.1, r2.1, r.2, r2.2, e1, e2, zK_keep (h1.1.2) (h2.1.2) hJ⟩
theorem zz_45 : st_45 zK zK := by
  intro σ τ a0 hJ
  obtain ⟨r, e1, h1⟩ := zc_543 (zs_rf (key := zs_kC) (kl := zs_lC) hJ.1.1.1) (x1 := a0)
  obtain ⟨r2, e2, h2⟩ := zc_549 (zs_rf (key := zs_kM) (kl := zs_lM) hJ.1.1.2.1) (x1 := a0)
  exact ⟨r.1, r2.1, r.2, r2.2, e1, e2, zK_keep (h1.1.2) (h2.1.2) hJ⟩
theorem zz_46 : st_46 zK zK := by
  intro σ τ a0 hJ
  obtain ⟨r, e1, h1⟩ := zc_550 (zs_rf (key := zs_kC) (kl := zs_lC) hJ.1.1.1) (x1 := a0)
  obtain ⟨r2, e2, h2⟩ := zc_551 (zs_rf (key := zs_kM) (kl := zs_lM) hJ.1.1.2.1) (x1 := a0)
  exact ⟨r.1, r2.1, r.2, r2.2, e1, e2, zK_keep (h1.1.2) (h2.1.2) hJ⟩
theorem zz_47 : st_47 zK zK := by
  intro σ τ a0 hJ
  obtain ⟨r, e1, h1⟩ := zc_579 (zs_rf (key := zs_kC) (kl := zs_lC) hJ.1.1.1) (x1 := a0)
  obtain ⟨r2, e2, h2⟩ := zc_1500 (zs_rf (key := zs_kM) (kl := zs_lM) hJ.1.1.2.1) (x1 := a0)
  exact ⟨r.1, r2.1, r.2, r2.2, e1, e2, zK_keep (h1.1.2) (h2.2) hJ⟩
theorem zz_48 : st_48 zK zK := by
  intro σ τ a0 hJ
  obtain ⟨r, e1, h1⟩ := zc_580 (zs_rf (key := zs_kC) (kl := zs_lC) hJ.1.1.1) (x1 := a0)
  obtain ⟨r2, e2, h2⟩ := zc_1503 (zs_rf (key := zs_kM) (kl := zs_lM) hJ.1.1.2.1) (x1 := a0)
  exact ⟨r.1, r2.1, r.2, r2.2, e1, e2, zK_keep (h1.1.2) (h2.2) hJ⟩
theorem zz_49 : st_49 zK zK := by
  intro σ τ a0 hJ
  obtain ⟨r, e1, h1⟩ := zc_581 (zs_rf (key := zs_kC) (kl := zs_lC) hJ.1.1.1) (x1 := a0)
  obtain ⟨r2, e2, h2⟩ := zc_1504 (zs_rf (key := zs_kM) (kl := zs_lM) hJ.1.1.2.1) (x1 := a0)
  exact ⟨r.1, r2.1, r.2, r2.2, e1, e2, zK_keep (h1.1.2) (h2.2) hJ⟩
theorem zz_50 : st_50 zK zK := by
  intro σ τ a0 hJ
  obtain ⟨r, e1, h1⟩ := zc_590 (zs_rf (key := zs_kC) (kl := zs_lC) hJ.1.1.1) (x1 := a0)
  obtain ⟨r2, e2, h2⟩ := zc_1516 (zs_rf (key := zs_kM) (kl := zs_lM) hJ.1.1.2.1) (x1 := a0)
  exact ⟨r.1, r2.1, r.2, r2.2, e1, e2, zK_keep (h1.1.2) (h2.2) hJ⟩
theorem zz_51 : st_51 zK zK := by
  intro σ τ a0 hJ
  obtain ⟨r, e1, h1⟩ := zc_591 (zs_rf (key := zs_kC) (kl := zs_lC) hJ.1.1.1) (x1 := a0)
  obtain ⟨r2, e2, h2⟩ := zc_1517 (zs_rf (key := zs_kM) (kl := zs_lM) hJ.1.1.2.1) (x1 := a0)
  exact ⟨r.1, r2.1, r.2, r2.2, e1, e2, zK_keep (h1.1.2) (h2.2) hJ⟩
theorem zz_52 : st_52 zK zK := by
  intro σ τ a0 a1 hJ
  obtain ⟨r, e1, h1⟩ := zc_606 (zs_rf (key := zs_kC) (kl := zs_lC) hJ.1.1.1) (x1 := a0) (x2 := a1)
  obtain ⟨r2, e2, h2⟩ := zc_642 (zs_rf (key := zs_kM) (kl := zs_lM) hJ.1.1.2.1) (x1 := a0) (x2 := a1)
  exact ⟨r.1, r2.1, r.2, r2.2, e1, e2, zK_keep (h1.1.2) (h2.1.2) hJ⟩
theorem zz_53 : st_53 zK zK := by
  intro σ τ a0 a1 a2 a3 hJ
  obtain ⟨r, e1, h1⟩ := zc_643 (zs_rf (key := zs_kC) (kl := zs_lC) hJ.1.1.1) (x1 := a0) (x2 := a1) (x3 := a2) (x4 := a3)
  obtain ⟨r2, e2, h2⟩ := zc_651 (zs_rf (key := zs_kM) (kl := zs_lM) hJ.1.1.2.1) (x1 := a0) (x2 := a1) (x3 := a2) (x4 := a3)
  exact ⟨r.1, r2.1, r.2, r2.2, e1, e2, zK_keep (h1.1.2) (h2.1.2) hJ⟩
theorem zz_54 : st_54 zK zK := by
  intro σ τ a0 hJ
  obtain ⟨r, e1, h1⟩ := zc_654 (zs_rf (key := zs_kC) (kl := zs_lC) hJ.1.1.1) (x1 := a0)
  obtain ⟨r2, e2, h2⟩ := zc_657 (zs_rf (key := zs_kM) (kl := zs_lM) hJ.1.1.2.1) (x1 := a0)
  exact ⟨r.1, r2.1, r.2, r2.2, e1, e2, zK_keep (h1.1.2) (h2.1.2) hJ⟩
theorem zz_55 : st_55 zK zK := by
  intro σ τ hJ
  obtain ⟨r, e1, h1⟩ := zc_662 (zs_rf (key := zs_kC) (kl := zs_lC) hJ.1.1.1) 
  obtain ⟨r2, e2, h2⟩ := zc_667 (zs_rf (key := zs_kM) (kl := zs_lM) hJ.1.1.2.1) 
  exact ⟨r.1, r2.1, r.2, r2.2, e1, e2, zK_keep (h1.2) (h2.2) hJ⟩
theorem zz_56 : st_56 zK zK := by
  intro σ τ a0 a1 a2 hJ
  obtain ⟨r, e1, h1⟩ := zc_1112 (zs_rf (key := zs_kC) (kl := zs_lC) hJ.1.1.1) (x1 := a0) (x2 := a1) (x3 := a2)
  obtain ⟨r2, e2, h2⟩ := zq_chance hJ.1.1.2.1 a0 a1 a2
  exact ⟨r.1, r2.1, r.2, r2.2, e1, e2, zK_keep (h1.1.2) (h2) hJ⟩
theorem zz_57 : st_57 zK zK := by
  intro σ τ a0 a1 a2 hJ
  obtain ⟨r, e1, h1⟩ := zc_1235 (zs_rf (key := zs_kC) (kl := zs_lC) hJ.1.1.1) (x1 := a0) (x2 := a1) (x3 := a2)
  obtain ⟨r2, e2, h2⟩ := zq_fair hJ.1.1.2.1 a0 a1 a2
  exact ⟨r.1, r2.1, r.2, r2.2, e1, e2, zK_keep (h1.1.2) (h2) hJ⟩
theorem zz_58 : st_58 zK zK := by
  intro σ τ a0 a1 hJ
  obtain ⟨r, e1, h1⟩ := zc_1445 (zs_rf (key := zs_kC) (kl := zs_lC) hJ.1.1.1) (x1 := a0) (x2 := a1)
  obtain ⟨r2, e2, h2⟩ := zq_risk hJ.1.1.2.1 a0 a1
  exact ⟨r.1, r2.1, r.2, r2.2, e1, e2, zK_keep (h1.1.2) (h2) hJ⟩
theorem zz_59 : st_59 zK zK := by
  intro σ τ a0 a1 hJ
  obtain ⟨r, σ1, τ1, e1, e2, h⟩ := zK_59 σ τ a0 a1 hJ
  exact ⟨r, r, σ1, τ1, e1, e2, h⟩
theorem zz_60 : st_60 zK zK := by
  intro σ τ a0 a1 hJ
  obtain ⟨r, σ1, τ1, e1, e2, h⟩ := zK_60 σ τ a0 a1 hJ
  exact ⟨r, r, σ1, τ1, e1, e2, h⟩
theorem zz_61 : st_61 zK zK := by
  intro σ τ hJ
  obtain ⟨r, σ1, τ1, e1, e2, h⟩ := zK_61 σ τ hJ
  exact ⟨r, r, σ1, τ1, e1, e2, h⟩
theorem zz_62 : st_62 zK zK := by
  intro σ τ hJ
  obtain ⟨r, σ1, τ1, e1, e2, h⟩ := zK_62 σ τ hJ
  exact ⟨r, r, σ1, τ1, e1, e2, h⟩
theorem zz_63 : st_63 zK zK := by
  intro σ τ a0 a1 hJ
  obtain ⟨r, e1, h1⟩ := zc_1452 (zs_rf (key := zs_kC) (kl := zs_lC) hJ.1.1.1) (x1 := a0) (x2 := a1)
  obtain ⟨r2, e2, h2⟩ := zc_1460 (zs_rf (key := zs_kM) (kl := zs_lM) hJ.1.1.2.1) (x1 := a0) (x2 := a1)
  exact ⟨r.1, r2.1, r.2, r2.2, e1, e2, zK_keep (h1.1.2) (h2.1.2) hJ⟩
theorem zz_64 : st_64 zK zK := by
  intro σ τ a0 a1 a2 hJ
  obtain ⟨r, e1, h1⟩ := zc_1465 (zs_rf (key := zs_kC) (kl := zs_lC) hJ.1.1.1) (x1 := a0) (x2 := a1) (x3 := a2)
  obtain ⟨r2, e2, h2⟩ := zc_1472 (zs_rf (key := zs_kM) (kl := zs_lM) hJ.1.1.2.1) (x1 := a0) (x2 := a1) (x3 := a2)
  exact ⟨r.1, r2.1, r.2, r2.2, e1, e2, zK_keep (h1.1.2) (h2.1.2) hJ⟩
theorem zz_65 : st_65 zK zK := by
  intro σ τ a0 a1 hJ
  obtain ⟨r, σ1, τ1, e1, e2, h⟩ := zK_65 σ τ a0 a1 hJ
  exact ⟨r, r, σ1, τ1, e1, e2, h⟩
theorem zz_66 : st_66 zK zK := by
  intro σ τ a0 hJ
  obtain ⟨r, e1, e2⟩ := zJ_66 σ τ a0 hJ.1
  exact ⟨r, r, e1, e2, hJ⟩
theorem zz_67 : st_67 zK zK := by
  intro σ τ a0 hJ
  obtain ⟨r, σ1, τ1, e1, e2, h⟩ := zK_67 σ τ a0 hJ
  exact ⟨r, r, σ1, τ1, e1, e2, h⟩
theorem zz_68 : st_68 zK zK := by
  intro σ τ a0 hJ
  obtain ⟨r, σ1, τ1, e1, e2, h⟩ := zK_68 σ τ a0 hJ
  exact ⟨r, r, σ1, τ1, e1, e2, h⟩
theorem zz_69 : st_69 zK zK := by
  intro σ τ a0 a1 a2 hJ
  obtain ⟨r, σ1, τ1, e1, e2, h⟩ := zK_69 σ τ a0 a1 a2 hJ
  exact ⟨r, r, σ1, τ1, e1, e2, h⟩
theorem zz_70 : st_70 zK zK := by
  intro σ τ a0 a1 a2 hJ
  obtain ⟨r, σ1, τ1, e1, e2, h⟩ := zK_70 σ τ a0 a1 a2 hJ
  exact ⟨r, r, σ1, τ1, e1, e2, h⟩
theorem zz_71 : st_71 zK zK := by
  intro σ τ a0 a1 a2 a3 a4 hJ
  obtain ⟨r, σ1, τ1, e1, e2, h⟩ := zK_71 σ τ a0 a1 a2 a3 a4 hJ
  exact ⟨r, r, σ1, τ1, e1, e2, h⟩
theorem zJ_ini : zJ sn_iniX8 sn_iniX9 := by
  have z0 : (0 : Int32).toInt = 0 := by decide
  have H : ∀ (h : Nat) (w : Nat → Int32), (∀ k, sn_iniX8.1 (h + 1) k = 0) → (∀ k, k < 11 → w k = 0) → rr_H h sn_iniX8 w := by
    intro h w h1 hw
    unfold rr_H
    rw [h1 5, h1 6, h1 7, h1 8, h1 9, z0]
    exact ⟨fun k hk => by rw [h1 k, hw k hk], fun i hi => absurd hi (by omega), fun i hi => absurd hi (by omega), fun i hi => absurd hi (by omega), fun i hi => absurd hi (by omega), fun i hi => absurd hi (by omega)⟩
  refine ⟨zj_ini, H 1 _ (fun k => rfl) (fun k _ => rfl), fun j hj => H _ _ (fun k => ?_) (fun k _ => rfl)⟩
  match j, hj with
  | 0, _ => rfl
  | 1, _ => rfl
  | 2, _ => rfl
theorem zK_ini : zK sn_iniX8 sn_iniX9 := by
  refine ⟨zJ_ini, ⟨jW_0 (fun _ => rfl), yH_0 (fun _ => rfl) (fun k => rfl)⟩, fun j hj => ⟨jW_0 (fun _ => rfl), yH_0 (fun _ => rfl) (fun k => ?_)⟩, yD_0 (fun _ => rfl) rfl rfl rfl rfl (fun m => rfl)⟩
  match j, hj with
  | 0, _ => rfl
  | 1, _ => rfl
  | 2, _ => rfl
theorem sn_pure : ∃ J : Nat → sn_S → sn_S → Prop, J 0 sn_iniX8 sn_iniX9 ∧ (∀ k, k + 6 ≤ 3072 → st_all (J k) (J (k + 6))) ∧ ∀ k, k + 6 ≤ 3072 → ∀ σ τ, J k σ τ → J (k + 6) σ τ := by
  refine ⟨fun _ => zK, zK_ini, fun _ _ => ⟨zz_0, zz_1, zz_2, zz_3, zz_4, zz_5, zz_6, zz_7, zz_8, zz_9, zz_10, zz_11, zz_12, zz_13, zz_14, zz_15, zz_16, zz_17, zz_18, zz_19, zz_20, zz_21, zz_22, zz_23, zz_24, zz_25, zz_26, zz_27, zz_28, zz_29, zz_30, zz_31, zz_32, zz_33, zz_34, zz_35, zz_36, zz_37, zz_38, zz_39, zz_40, zz_41, zz_42, zz_43, zz_44, zz_45, zz_46, zz_47, zz_48, zz_49, zz_50, zz_51, zz_52, zz_53, zz_54, zz_55, zz_56, zz_57, zz_58, zz_59, zz_60, zz_61, zz_62, zz_63, zz_64, zz_65, zz_66, zz_67, zz_68, zz_69, zz_70, zz_71⟩, fun _ _ _ _ h => h⟩
end
