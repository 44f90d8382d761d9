section
/-! windows of policies, both sides -/
section
variable {σ τ u : sn_S} {w : Nat → Int32} {q : Nat}
theorem yl_5 (hW : jW w) : w 5 = nI (sp_n w 5) ∧ sp_n w 5 ≤ 6 := hW.1.2.2.2.2.2.1
theorem yl_0 (hW : jW w) : w 0 = nI (sp_n w 0) ∧ sp_n w 0 ≤ 30 := hW.1.1
end
end
section
/-! claims, both sides -/
theorem yl_ne {k : Nat} (h : k < 100) : nI k ≠ -1 := by
  intro e
  have h1 := nI_toInt (show k < 2 ^ 31 by omega)
  rw [e, show (-1 : Int32).toInt = -1 by decide] at h1
  omega
section
variable {σ τ u z : sn_S} {w : Nat → Int32} {q : Nat} {l s h : Int32}
/-! the reference's claim -/
end
end
section
/-! the ledger, both sides -/
section
variable {σ τ u z : sn_S} {w : Nat → Int32} {q : Nat} {l : Int32}
/-! calls that change the ledger -/
theorem yk_hv (hK : zK σ τ) : fX8_isHouse σ = some (if 0 < sp_n (τ.1 1) 10 then 1 else 0) := by
  have b := hK.2.1.1.1.2.2.2.2.2.2.2.2.2.2
  have l := b.2
  have e10 : σ.1 2 10 = nI (sp_n (τ.1 1) 10) := (hK.2.1.2.1 10 (by decide)).trans b.1
  rw [yk_isHouse, e10]
  by_cases c : 0 < sp_n (τ.1 1) 10
  · rw [if_neg (nI_nle c (by omega)), if_pos c]
  · have : sp_n (τ.1 1) 10 = 0 := by omega
    rw [this, if_pos (show nI 0 ≤ 0 by decide), if_neg (by decide)]
theorem yr_eq2 {X Y : Option (Int32 × sn_S)} (v : Int32) (hx : yp X (fun r => r.1 = v)) (hy : yp Y (fun s => s.1 = v)) : yr X Y (fun r s => r.1 = s.1) := yr_of hx hy (fun _ _ a b => a.trans b.symm)
end
end
section
/-! a day that is not: copied, changed, lived -/
theorem yp_le {α β : Type} {P : α → Prop} {v : β} {g : β → Option α} (h : ∀ y, y = v → yp (g y) P) : yp (sn_lt v g) P := h v rfl
theorem yc_dcopy {σ : sn_S} {a b : Nat} (hd : b + 10 < a) : yp (fX0_copyFrom σ a b) (fun z => (∀ q, (q < a ∨ a + 10 < q) → z.1 q = σ.1 q) ∧ (∀ k, k < 4 → z.1 a k = σ.1 b k) ∧ (∀ k, k < 30 → z.1 (a + 1) k = σ.1 (b + 1) k) ∧ (∀ k, k < 6 → z.1 (a + 2) k = σ.1 (b + 2) k) ∧ (∀ k, k < 6 → z.1 (a + 3) k = σ.1 (b + 3) k) ∧ (∀ k, k < 6 → z.1 (a + 4) k = σ.1 (b + 4) k) ∧ (∀ k, k < 6 → z.1 (a + 5) k = σ.1 (b + 5) k) ∧ (∀ k, k < 16 → z.1 (a + 6) k = σ.1 (b + 6) k) ∧ (∀ k, k < 180 → z.1 (a + 7) k = σ.1 (b + 7) k) ∧ (∀ k, k < 180 → z.1 (a + 8) k = σ.1 (b + 8) k) ∧ (∀ k, k < 30 → z.1 (a + 9) k = σ.1 (b + 9) k) ∧ (∀ k, k < 6 → z.1 (a + 10) k = σ.1 (b + 10) k)) := by
  unfold fX0_copyFrom
  refine yp_le (fun y1 e1 => yp_le (fun y2 e2 => yp_le (fun y3 e3 => yp_le (fun z0 e4 => ?_))))
  have hb : b ≠ a := by omega
  have r1 : ∀ q, q ≠ a → y1.1 q = σ.1 q := fun q hq => by rw [e1, pI_ne hq]
  have r2 : ∀ q, q ≠ a → y2.1 q = σ.1 q := fun q hq => by rw [e2, pI_ne hq, r1 q hq]
  have r3 : ∀ q, q ≠ a → y3.1 q = σ.1 q := fun q hq => by rw [e3, pI_ne hq, r2 q hq]
  have r0 : ∀ q, q ≠ a → z0.1 q = σ.1 q := fun q hq => by rw [e4, pI_ne hq, r3 q hq]
  have c0 : ∀ k, k < 4 → z0.1 a k = σ.1 b k := fun k hk => by
    match k, hk with
    | 0, _ => rw [e4, pI_slot (by decide), e3, pI_slot (by decide), e2, pI_slot (by decide), e1, pI_self]; rfl
    | 1, _ => rw [e4, pI_slot (by decide), e3, pI_slot (by decide), e2, pI_self]; exact congrFun (r1 b hb) 1
    | 2, _ => rw [e4, pI_slot (by decide), e3, pI_self]; exact congrFun (r2 b hb) 2
    | 3, _ => rw [e4, pI_self]; exact congrFun (r3 b hb) 3
  refine yp_gd (fun _ => yp_le (fun z1 h1 => ?_))
  obtain ⟨p1, q1⟩ := yc_cpy (z := z0) (a := a + 1) (b := b + 1) (L := 30) (by decide)
  rw [← h1] at p1 q1
  refine yp_gd (fun _ => yp_le (fun z2 h2 => ?_))
  obtain ⟨p2, q2⟩ := yc_cpy (z := z1) (a := a + 2) (b := b + 2) (L := 6) (by decide)
  rw [← h2] at p2 q2
  refine yp_gd (fun _ => yp_le (fun z3 h3 => ?_))
  obtain ⟨p3, q3⟩ := yc_cpy (z := z2) (a := a + 3) (b := b + 3) (L := 6) (by decide)
  rw [← h3] at p3 q3
  refine yp_gd (fun _ => yp_le (fun z4 h4 => ?_))
  obtain ⟨p4, q4⟩ := yc_cpy (z := z3) (a := a + 4) (b := b + 4) (L := 6) (by decide)
  rw [← h4] at p4 q4
  refine yp_gd (fun _ => yp_le (fun z5 h5 => ?_))
  obtain ⟨p5, q5⟩ := yc_cpy (z := z4) (a := a + 5) (b := b + 5) (L := 6) (by decide)
  rw [← h5] at p5 q5
  refine yp_gd (fun _ => yp_le (fun z6 h6 => ?_))
  obtain ⟨p6, q6⟩ := yc_cpy (z := z5) (a := a + 6) (b := b + 6) (L := 16) (by decide)
  rw [← h6] at p6 q6
  refine yp_gd (fun _ => yp_le (fun z7 h7 => ?_))
  obtain ⟨p7, q7⟩ := yc_cpy (z := z6) (a := a + 7) (b := b + 7) (L := 180) (by decide)
  rw [← h7] at p7 q7
  refine yp_gd (fun _ => yp_le (fun z8 h8 => ?_))
  obtain ⟨p8, q8⟩ := yc_cpy (z := z7) (a := a + 8) (b := b + 8) (L := 180) (by decide)
  rw [← h8] at p8 q8
  refine yp_gd (fun _ => yp_le (fun z9 h9 => ?_))
  obtain ⟨p9, q9⟩ := yc_cpy (z := z8) (a := a + 9) (b := b + 9) (L := 30) (by decide)
  rw [← h9] at p9 q9
  refine yp_gd (fun _ => yp_le (fun z10 h10 => ?_))
  obtain ⟨p10, q10⟩ := yc_cpy (z := z9) (a := a + 10) (b := b + 10) (L := 6) (by decide)
  rw [← h10] at p10 q10
  refine yp_some ⟨fun q hq => ?_, fun k hk => ?_, fun k hk => ?_, fun k hk => ?_, fun k hk => ?_, fun k hk => ?_, fun k hk => ?_, fun k hk => ?_, fun k hk => ?_, fun k hk => ?_, fun k hk => ?_, fun k hk => ?_⟩
  · rw [p10 q (by omega), p9 q (by omega), p8 q (by omega), p7 q (by omega), p6 q (by omega), p5 q (by omega), p4 q (by omega), p3 q (by omega), p2 q (by omega), p1 q (by omega), r0 q (by omega)]
  · rw [p10 a (by omega), p9 a (by omega), p8 a (by omega), p7 a (by omega), p6 a (by omega), p5 a (by omega), p4 a (by omega), p3 a (by omega), p2 a (by omega), p1 a (by omega), c0 k hk]
  · rw [p10 (a + 1) (by omega), p9 (a + 1) (by omega), p8 (a + 1) (by omega), p7 (a + 1) (by omega), p6 (a + 1) (by omega), p5 (a + 1) (by omega), p4 (a + 1) (by omega), p3 (a + 1) (by omega), p2 (a + 1) (by omega), q1 k, if_pos hk, r0 (b + 1) (by omega)]
  · rw [p10 (a + 2) (by omega), p9 (a + 2) (by omega), p8 (a + 2) (by omega), p7 (a + 2) (by omega), p6 (a + 2) (by omega), p5 (a + 2) (by omega), p4 (a + 2) (by omega), p3 (a + 2) (by omega), q2 k, if_pos hk, p1 (b + 2) (by omega), r0 (b + 2) (by omega)]
  · rw [p10 (a + 3) (by omega), p9 (a + 3) (by omega), p8 (a + 3) (by omega), p7 (a + 3) (by omega), p6 (a + 3) (by omega), p5 (a + 3) (by omega), p4 (a + 3) (by omega), q3 k, if_pos hk, p2 (b + 3) (by omega), p1 (b + 3) (by omega), r0 (b + 3) (by omega)]
  · rw [p10 (a + 4) (by omega), p9 (a + 4) (by omega), p8 (a + 4) (by omega), p7 (a + 4) (by omega), p6 (a + 4) (by omega), p5 (a + 4) (by omega), q4 k, if_pos hk, p3 (b + 4) (by omega), p2 (b + 4) (by omega), p1 (b + 4) (by omega), r0 (b + 4) (by omega)]
  · rw [p10 (a + 5) (by omega), p9 (a + 5) (by omega), p8 (a + 5) (by omega), p7 (a + 5) (by omega), p6 (a + 5) (by omega), q5 k, if_pos hk, p4 (b + 5) (by omega), p3 (b + 5) (by omega), p2 (b + 5) (by omega), p1 (b + 5) (by omega), r0 (b + 5) (by omega)]
  · rw [p10 (a + 6) (by omega), p9 (a + 6) (by omega), p8 (a + 6) (by omega), p7 (a + 6) (by omega), q6 k, if_pos hk, p5 (b + 6) (by omega), p4 (b + 6) (by omega), p3 (b + 6) (by omega), p2 (b + 6) (by omega), p1 (b + 6) (by omega), r0 (b + 6) (by omega)]
  · rw [p10 (a + 7) (by omega), p9 (a + 7) (by omega), p8 (a + 7) (by omega), q7 k, if_pos hk, p6 (b + 7) (by omega), p5 (b + 7) (by omega), p4 (b + 7) (by omega), p3 (b + 7) (by omega), p2 (b + 7) (by omega), p1 (b + 7) (by omega), r0 (b + 7) (by omega)]
  · rw [p10 (a + 8) (by omega), p9 (a + 8) (by omega), q8 k, if_pos hk, p7 (b + 8) (by omega), p6 (b + 8) (by omega), p5 (b + 8) (by omega), p4 (b + 8) (by omega), p3 (b + 8) (by omega), p2 (b + 8) (by omega), p1 (b + 8) (by omega), r0 (b + 8) (by omega)]
  · rw [p10 (a + 9) (by omega), q9 k, if_pos hk, p8 (b + 9) (by omega), p7 (b + 9) (by omega), p6 (b + 9) (by omega), p5 (b + 9) (by omega), p4 (b + 9) (by omega), p3 (b + 9) (by omega), p2 (b + 9) (by omega), p1 (b + 9) (by omega), r0 (b + 9) (by omega)]
  · rw [q10 k, if_pos hk, p9 (b + 10) (by omega), p8 (b + 10) (by omega), p7 (b + 10) (by omega), p6 (b + 10) (by omega), p5 (b + 10) (by omega), p4 (b + 10) (by omega), p3 (b + 10) (by omega), p2 (b + 10) (by omega), p1 (b + 10) (by omega), r0 (b + 10) (by omega)]
def dy_dustSet (i : dy_I) (f : Nat → Int32) : dy_I := (dy_P i, dy_keen i, dy_lim i, dy_held i, dy_snuf i, f, dy_na i, dy_nb i, dy_nN i, dy_no i)
section
variable {σ τ u z : sn_S} {w : Nat → Int32}
/-- the trial is told what the day was, and lived as it was -/
theorem yc_trial {a : Nat} (hW : jW w) (hD : yD σ w) (ha : 37 < a) : yp (fX0_copyFrom σ a 27) (fun z => (∀ q, (q < a ∨ a + 10 < q) → z.1 q = σ.1 q) ∧ z.1 a 0 = nI (sp_n w 0) ∧ yd_T a z (hs_day w) ∧ yd_L a z (hs_day w) (sp_n w 0)) := by
  have c5 := (yl_5 hW).2
  have c0 := (yl_0 hW).2
  have c7 := hW.1.2.2.2.2.2.2.2.1.2
  obtain ⟨d0, ⟨t1, t2, t3, t4, t5, t6⟩, l1, l2⟩ := hD
  refine yp_w (yc_dcopy (by omega)) (fun z hz => ?_)
  obtain ⟨hr, h0, h1, h2, h3, h4, h5, h6, h7, h8, h9, h10⟩ := hz
  refine ⟨hr, (h0 0 (by decide)).trans d0, ⟨(h0 1 (by decide)).trans t1, (h0 2 (by decide)).trans t2, (h0 3 (by decide)).trans t3, fun m hm => (h1 m hm).trans (t4 m hm), fun p hp => ?_, fun k hk => ?_⟩, fun m hm => ⟨(h9 m (by omega)).trans (l1 m hm).1, fun p hp => ?_⟩, fun p hp => ?_⟩
  · have g := t5 p hp
    have hp : p < sp_n w 5 := hp
    exact ⟨(h2 p (by omega)).trans g.1, (h3 p (by omega)).trans g.2.1, (h4 p (by omega)).trans g.2.2.1, (h5 p (by omega)).trans g.2.2.2⟩
  · have g := t6 k hk
    have hk : k < sp_n w 7 := hk
    exact ⟨(h6 _ (by omega)).trans g.1, (h6 _ (by omega)).trans g.2⟩
  · have g := (l1 m hm).2 p hp
    have hp : p < sp_n w 5 := hp
    exact ⟨(h7 _ (by omega)).trans g.1, (h8 _ (by omega)).trans g.2⟩
  · have g := l2 p hp
    have hp : p < sp_n w 5 := hp
    exact (h10 p (by omega)).trans g
/-! nets cut -/
end
end
section
/-! days alike in their first n minutes -/
def dy_EP (n : Nat) (i j : dy_I) : Prop := dy_P i = dy_P j ∧ dy_nN i = dy_nN j ∧ dy_no i = dy_no j ∧ (∀ p, p < dy_P i → dy_keen i p = dy_keen j p ∧ dy_lim i p = dy_lim j p) ∧ (∀ m, m < n → dy_dust i m = dy_dust j m ∧ ∀ p, p < dy_P i → sp_bit (dy_held i p) m = sp_bit (dy_held j p) m ∧ sp_bit (dy_snuf i p) m = sp_bit (dy_snuf j p) m) ∧ ∀ k, k < dy_nN i → dy_na i k = dy_na j k ∧ dy_nb i k = dy_nb j k
section
variable {n : Nat} {i j : dy_I}
theorem dy_byP (h : dy_EP n i j) (s : Int32) (p : Nat) : dy_by i s p = dy_by j s p := by
  unfold dy_by
  rw [← h.2.1, ← h.2.2.1, dy_cntE _ h.2.2.2.2.2]
theorem dy_moreP (h : dy_EP n i j) (s : Int32) {m p : Nat} (hm : m < n) (hp : p < dy_P i) : dy_more i s m p = dy_more j s m p := by
  unfold dy_more
  rw [dy_byP h, (h.2.2.2.1 p hp).1, (h.2.2.2.2.1 m hm).1, ((h.2.2.2.2.1 m hm).2 p hp).2]
theorem dy_doesP (h : dy_EP n i j) (t s : Int32) {m p : Nat} (hm : m < n) (hp : p < dy_P i) : dy_does i t s m p = dy_does j t s m p := by
  unfold dy_does
  rw [dy_moreP h s hm hp, (h.2.2.2.1 p hp).2, ((h.2.2.2.2.1 m hm).2 p hp).1]
theorem dy_stP (h : dy_EP n i j) : ∀ m, m ≤ n → (∀ p, p < dy_P i → (dy_st i m).1 p = (dy_st j m).1 p) ∧ (dy_st i m).2 = (dy_st j m).2 := by
  intro m
  induction m with
  | zero => intro _; exact ⟨fun _ _ => rfl, rfl⟩
  | succ m ih =>
    intro hm
    have ih := ih (by omega)
    refine ⟨fun p hp => ?_, ?_⟩
    · show (if dy_does i ((dy_st i m).1 p) (dy_st i m).2 m p = true then 0 else (dy_st i m).1 p + dy_more i (dy_st i m).2 m p) = (if dy_does j ((dy_st j m).1 p) (dy_st j m).2 m p = true then 0 else (dy_st j m).1 p + dy_more j (dy_st j m).2 m p)
      rw [ih.1 p hp, ih.2, dy_doesP h _ _ (by omega) hp, dy_moreP h _ (by omega) hp]
    · show dy_set (fun p => dy_does i ((dy_st i m).1 p) (dy_st i m).2 m p) (dy_P i) = dy_set (fun p => dy_does j ((dy_st j m).1 p) (dy_st j m).2 m p) (dy_P j)
      rw [← h.1]
      exact dy_setE _ (fun p hp => by rw [ih.1 p hp, ih.2, dy_doesP h _ _ (by omega) hp])
theorem dy_snP (h : dy_EP n i j) {m p : Nat} (hm : m ≤ n) (hp : p < dy_P i) : dy_sn i m p = dy_sn j m p := dy_setE _ (fun k hk => by rw [(dy_stP h k (by omega)).1 p hp, (dy_stP h k (by omega)).2, dy_doesP h _ _ (by omega) hp])
end
/-! snuff by which a claim grows -/
section
variable {σ τ u z : sn_S} {w : Nat → Int32} {q : Nat} {l : Int32}
/-! the reference's -/
end
end
section
/-! a house with one number changed -/
theorem jW_set {w w' : Nat → Int32} {x v : Nat} (hW : jW w) (e : ∀ k, k ≠ x → w' k = w k) (ex : w' x = nI v) (hx : (x = 1 ∧ v ≤ 9) ∨ ∃ p, p < 6 ∧ ((x = 11 + 2 * p ∧ v ≤ 9) ∨ (x = 12 + 2 * p ∧ 1 ≤ v ∧ v ≤ 99))) : jW w' := by
  obtain ⟨⟨b0, b1, b2, b3, b4, b5, b6, b7, b8, b9, b10⟩, hz, hmm, hno, hg, ht, hp8, ha⟩ := hW
  have l5 := b5.2
  have l6 := b6.2
  have l7 := b7.2
  have l8 := b8.2
  have l9 := b9.2
  have lx : (x = 1 ∨ (11 ≤ x ∧ x ≤ 22)) ∧ v ≤ 99 := by
    rcases hx with ⟨h1, h2⟩ | ⟨p, hp, ⟨h1, h2⟩ | ⟨h1, h2, h3⟩⟩
    · omega
    · omega
    · omega
  have y : ∀ k b, k ≠ x → yh_n w k b → yh_n w' k b := fun k b h1 g => yh_mv (e k h1) g
  have s : ∀ k, k ≠ x → sp_n w' k = sp_n w k := fun k h1 => sp_mv (e k h1)
  have sx : sp_n w' x = v := sp_nI ex (by omega)
  have yx : ∀ b, v ≤ b → yh_n w' x b := fun b hb => ⟨by rw [sx]; exact ex, by rw [sx]; exact hb⟩
  refine ⟨⟨y 0 _ (by omega) b0, ?_, y 2 _ (by omega) b2, y 3 _ (by omega) b3, y 4 _ (by omega) b4, y 5 _ (by omega) b5, y 6 _ (by omega) b6, y 7 _ (by omega) b7, y 8 _ (by omega) b8, y 9 _ (by omega) b9, y 10 _ (by omega) b10⟩, ?_, ?_, fun p hp2 => ?_, fun p hp2 => ?_, fun k hk => ?_, fun k hk => ?_, fun i hi => ?_⟩
  · by_cases c : x = 1
    · rw [← c]
      refine yx 9 ?_
      rcases hx with ⟨h1, h2⟩ | ⟨p, hp, ⟨h1, h2⟩ | ⟨h1, h2, h3⟩⟩
      · exact h2
      · exact h2
      · omega
    · exact y 1 9 (by omega) b1
  · rw [s 10 (by omega), s 0 (by omega), s 5 (by omega), s 7 (by omega), s 8 (by omega)]
    exact hz
  · rw [s 10 (by omega), s 0 (by omega)]
    exact hmm
  · rw [s 5 (by omega)] at hp2
    have g := hno p hp2
    refine ⟨?_, ?_⟩
    · by_cases c : x = 11 + 2 * p
      · rw [← c]
        refine yx 9 ?_
        rcases hx with ⟨h1, h2⟩ | ⟨p3, hp3, ⟨h1, h2⟩ | ⟨h1, h2, h3⟩⟩
        · exact h2
        · exact h2
        · omega
      · exact y _ _ (fun h => c h.symm) g.1
    · by_cases c : x = 12 + 2 * p
      · rw [← c, sx]
        rcases hx with ⟨h1, h2⟩ | ⟨p3, hp3, ⟨h1, h2⟩ | ⟨h1, h2, h3⟩⟩
        · omega
        · omega
        · exact ⟨yx 99 h3, h2⟩
      · exact ⟨y _ _ (fun h => c h.symm) g.2.1, by rw [s _ (fun h => c h.symm)]; exact g.2.2⟩
  · rw [s 6 (by omega)] at hp2
    have g := hg p hp2
    exact ⟨y _ _ (by omega) g.1, y _ _ (by omega) g.2⟩
  · rw [s 7 (by omega)] at hk
    have g := ht k hk
    rw [s 5 (by omega), s (33 + 2 * k) (by omega), s (34 + 2 * k) (by omega), e (33 + 2 * k) (by omega), e (34 + 2 * k) (by omega)]
    exact g
  · rw [s 8 (by omega)] at hk
    obtain ⟨⟨g1, g2⟩, g3, g4, g5, g6, g7, g8⟩ := hp8 k hk
    exact ⟨⟨by rw [s _ (by omega), e _ (by omega)]; exact g1, by rw [s _ (by omega), s 5 (by omega)]; exact g2⟩, y _ _ (by omega) g3, y _ _ (by omega) g4, by rw [s _ (by omega), s _ (by omega)]; exact g5, y _ _ (by omega) g6, by rw [s _ (by omega)]; exact g7, y _ _ (by omega) g8⟩
  · rw [s 9 (by omega)] at hi
    rw [s 5 (by omega), s 0 (by omega), s (79 + i) (by omega), e (79 + i) (by omega)]
    exact ha i hi
theorem hs_actsE {w w' : Nat → Int32} {kind p : Nat} (e : ∀ k, 79 ≤ k → w' k = w k) : ∀ n, hs_acts w' kind p n = hs_acts w kind p n := by
  intro n
  induction n with
  | zero => rfl
  | succ n ih =>
    have h1 : sp_n w' (79 + n) = sp_n w (79 + n) := sp_mv (e _ (by omega))
    show (if sp_n w' (79 + n) % 2 = kind ∧ sp_n w' (79 + n) / 200 = p then hs_acts w' kind p n ||| ((1 : Int32) <<< (nI (sp_n w' (79 + n) % 200 / 2) &&& 31)) else hs_acts w' kind p n) = (if sp_n w (79 + n) % 2 = kind ∧ sp_n w (79 + n) / 200 = p then hs_acts w kind p n ||| ((1 : Int32) <<< (nI (sp_n w (79 + n) % 200 / 2) &&& 31)) else hs_acts w kind p n)
    rw [ih, h1]
theorem yi_4 (a b c d : Int32) : a - b + c + d = a + d - b + c := by
  rw [Int32.sub_eq_add_neg, Int32.sub_eq_add_neg, Int32.add_assoc a (-b) c, Int32.add_assoc a (-b + c) d, Int32.add_comm (-b + c) d, ← Int32.add_assoc a d, ← Int32.add_assoc (a + d)]
theorem hs_dustE {w w' : Nat → Int32} {m : Nat} (e : ∀ k, 23 ≤ k → w' k = w k) : ∀ n, hs_dust w' m n = hs_dust w m n - w 1 + w' 1 := by
  intro n
  induction n with
  | zero =>
    show w' 1 = w 1 - w 1 + w' 1
    rw [Int32.sub_self, Int32.zero_add]
  | succ n ih =>
    have h1 : sp_n w' (24 + 2 * n) = sp_n w (24 + 2 * n) := sp_mv (e _ (by omega))
    have h2 : w' (23 + 2 * n) = w (23 + 2 * n) := e _ (by omega)
    show (if sp_n w' (24 + 2 * n) = m then hs_dust w' m n + w' (23 + 2 * n) else hs_dust w' m n) = (if sp_n w (24 + 2 * n) = m then hs_dust w m n + w (23 + 2 * n) else hs_dust w m n) - w 1 + w' 1
    rw [h1, h2, ih]
    by_cases c : sp_n w (24 + 2 * n) = m
    · rw [if_pos c, if_pos c]
      exact yi_4 _ _ _ _
    · rw [if_neg c, if_neg c]
/-- the greatest number less than n for which g holds -/
def yz_dn (g : Nat → Bool) : Nat → Int32
  | 0 => -1
  | n + 1 => if g n = true then nI n else yz_dn g n
theorem yi_m1 : ∀ n, n < 10 → nI (n + 1) + (-1 : Int32) = nI n := by decide +kernel
section
variable {σ τ u z : sn_S} {w : Nat → Int32}
theorem ym_quietD {x : Nat} {x4 : Int32} {g : Nat → Bool} (hx : x < 119) (hz0 : ∀ k, z.1 1 k = w k) (hq : ∀ (y : sn_S) (n : Nat), n < 10 → (∀ k, k ≠ x → y.1 1 k = w k) → y.1 1 x = nI n → yp (fX9_asksHouse y) (fun t => (∀ k, k ≠ x → t.2.1 1 k = w k) ∧ (x4 = -1 → yp (fX9_allSneezes t.2) (fun v => v = 0 ↔ g n = true)) ∧ (x4 ≠ -1 → (sn_I t.2 10 x4.toNatClampNeg = 0 ↔ g n = true)))) : yp (fX9_quietBy z (nI x) (9 : Int32) (0 : Int32) x4) (fun r => r.1 = yz_dn g 10) := by
  have k1 : ∀ n, yz_dn g (n + 1) = if g n = true then nI n else yz_dn g n := fun n => rfl
  unfold fX9_quietBy
  refine yp_gd (fun _ => yp_lt (yp_ite (fun c => absurd c (by decide)) (fun _ => ?_)))
  generalize sn_I z 1 (nI x).toNatClampNeg = x5
  unfold BX9_quietBy_21
  refine yp_bd (fun r => r.2 = yz_dn g 10) (yp_it (fun s : sn_S × Int32 × Int32 => (∀ k, k ≠ x → s.1.1 1 k = w k) ∧ ((∃ n, n < 10 ∧ s.2.2 = nI n ∧ s.2.1 = -1 ∧ yz_dn g 10 = yz_dn g (n + 1)) ∨ (s.2.1 = yz_dn g 10 ∧ (s.2.1 ≠ -1 ∨ s.2.2 = -1)))) (fun s hs => ?_) _ _ ⟨fun k _ => hz0 k, Or.inl ⟨9, by decide, rfl, rfl, rfl⟩⟩) (fun r hr => ?_)
  · obtain ⟨y, x6, x8⟩ := s
    obtain ⟨hy, h⟩ := hs
    have hy : ∀ k, k ≠ x → y.1 1 k = w k := hy
    show yp (BX9_quietBy_26 y (nI x) 0 x4 x5 x6 (-1) x8) _
    unfold BX9_quietBy_26
    rw [show (0 : Int32) + (-1 : Int32) = -1 by decide]
    rcases h with ⟨n, hn, e8, e6, ed⟩ | ⟨e6, h⟩
    · have e8 : x8 = nI n := e8
      have e6 : x6 = -1 := e6
      subst e8
      subst e6
      have k90 : ∀ (t2 : sn_S) (t0 : Int32), (∀ k, k ≠ x → t2.1 1 k = w k) → ((t0 = 0 ∧ g n = false) ∨ (t0 ≠ 0 ∧ g n = true)) → yp (BX9_quietBy_90 t2 (nI x) 0 x4 x5 (-1) (-1) (nI n) t0) (yp_sum (fun s : sn_S × Int32 × Int32 => (∀ k, k ≠ x → s.1.1 1 k = w k) ∧ ((∃ n, n < 10 ∧ s.2.2 = nI n ∧ s.2.1 = -1 ∧ yz_dn g 10 = yz_dn g (n + 1)) ∨ (s.2.1 = yz_dn g 10 ∧ (s.2.1 ≠ -1 ∨ s.2.2 = -1)))) (fun r : sn_S × Int32 => r.2 = yz_dn g 10)) := fun t2 t0 ht h => by
        unfold BX9_quietBy_90 BX9_quietBy_103
        rcases h with ⟨h1, h2⟩ | ⟨h1, h2⟩
        · rw [if_pos h1]
          refine yp_lt (yp_some ⟨ht, ?_⟩)
          rw [k1 n, h2, if_neg (by decide)] at ed
          match n, hn, ed with
          | 0, _, ed => exact Or.inr ⟨ed.symm, Or.inr (by show nI 0 + (-1 : Int32) = -1; decide)⟩
          | m + 1, hm, ed => exact Or.inl ⟨m, by omega, yi_m1 m (by omega), rfl, ed⟩
        · rw [if_neg h1]
          refine yp_lt (yp_some ⟨ht, Or.inr ⟨?_, Or.inl (yl_ne (by omega))⟩⟩)
          rw [k1 n, h2, if_pos rfl] at ed
          exact ed.symm
      rw [if_neg (yl_ne (show n < 100 by omega)), if_pos rfl, nI_clamp (show x < 2 ^ 31 by omega)]
      refine yp_gd (fun _ => yp_lt (yp_bd _ (hq _ n hn (fun k hk => (pI_slot hk).trans (hy k hk)) pI_self) (fun t ht => ?_)))
      refine yp_ite (fun c => yp_bd _ (ht.2.1 c) (fun t3 ht3 => ?_)) (fun c => yp_gd (fun _ => ?_))
      · refine yp_ite (fun c2 => k90 _ _ ht.1 (Or.inr ⟨by decide, ht3.mp c2⟩)) (fun c2 => k90 _ _ ht.1 (Or.inl ⟨rfl, ?_⟩))
        cases e : g n with
        | false => rfl
        | true => exact absurd (ht3.mpr e) c2
      · refine yp_ite (fun c2 => k90 _ _ ht.1 (Or.inr ⟨by decide, (ht.2.2 c).mp c2⟩)) (fun c2 => k90 _ _ ht.1 (Or.inl ⟨rfl, ?_⟩))
        cases e : g n with
        | false => rfl
        | true => exact absurd ((ht.2.2 c).mpr e) c2
    · have e6 : x6 = yz_dn g 10 := e6
      refine yp_ite (fun _ => yp_some e6) (fun c => ?_)
      rcases h with h | h
      · have h : x6 ≠ -1 := h
        rw [if_neg h]
        exact yp_some e6
      · exact absurd h c
  · unfold BX9_quietBy_115
    exact yp_gd (fun _ => yp_lt (yp_some hr))
/-! how dull a nose would have to be -/
end
end
section
/-! how little dust would have to be told -/
theorem yz_sumP {M : Nat} {i j : dy_I} (h : dy_EP M i j) : ∀ n, n ≤ dy_P i → yz_sum i M n = yz_sum j M n := by
  intro n
  induction n with
  | zero => intro _; rfl
  | succ n ih =>
    intro hn
    show yz_sum i M n + yb_pop (dy_sn i M n) 30 = yz_sum j M n + yb_pop (dy_sn j M n) 30
    rw [ih (by omega), dy_snP h (Nat.le_refl _) (by omega)]
theorem yz_sumle (i : dy_I) (M : Nat) : ∀ n, yz_sum i M n ≤ 30 * n := by
  intro n
  induction n with
  | zero => exact Nat.le_refl _
  | succ n ih =>
    have h := yb_pople (dy_sn i M n) 30
    show yz_sum i M n + yb_pop (dy_sn i M n) 30 ≤ 30 * (n + 1)
    omega
section
variable {σ τ u z : sn_S} {w : Nat → Int32}
def yv_D (w : Nat → Int32) (n m : Nat) : Int32 := if m < sp_n w 0 then hs_dust w m (sp_n w 6) - w 1 + nI n else hs_dust w m (sp_n w 6)
def yv_j (w : Nat → Int32) (n : Nat) : dy_I := dy_dustSet (hs_day w) (yv_D w n)
def yv_g (w : Nat → Int32) (n : Nat) : Bool := decide (yz_sum (yv_j w n) (sp_n w 0) (sp_n w 5) = 0)
theorem yv_EP {w' : Nat → Int32} {n : Nat} (e : ∀ k, k ≠ 1 → w' k = w k) (ex : w' 1 = nI n) : dy_EP (sp_n w 0) (hs_day w') (yv_j w n) := by
  have s : ∀ k, k ≠ 1 → sp_n w' k = sp_n w k := fun k h1 => sp_mv (e k h1)
  have s5 := s 5 (by omega)
  have s6 := s 6 (by omega)
  have s7 := s 7 (by omega)
  have s9 := s 9 (by omega)
  refine ⟨s5, s7, show (-1 : Int32) = -1 from rfl, fun x hx => ⟨e (11 + 2 * x) (by omega), e (12 + 2 * x) (by omega)⟩, fun m hm => ⟨?_, fun x _ => ⟨?_, ?_⟩⟩, fun k _ => ⟨s (33 + 2 * k) (by omega), s (34 + 2 * k) (by omega)⟩⟩
  · show hs_dust w' m (sp_n w' 6) = (if m < sp_n w 0 then hs_dust w m (sp_n w 6) - w 1 + nI n else hs_dust w m (sp_n w 6))
    rw [if_pos hm, s6, hs_dustE (fun k hk => e k (by omega)), ex]
  · show sp_bit (hs_acts w' 0 x (sp_n w' 9)) m = sp_bit (hs_acts w 0 x (sp_n w 9)) m
    rw [s9, hs_actsE (fun k hk => e k (by omega))]
  · show sp_bit (hs_acts w' 1 x (sp_n w' 9)) m = sp_bit (hs_acts w 1 x (sp_n w 9)) m
    rw [s9, hs_actsE (fun k hk => e k (by omega))]
theorem yc_dustsC {n : Nat} {z : sn_S} (hW : jW w) (hH : yH 1 σ w) (hD : yD σ w) (hr : ∀ a, a < 38 → z.1 a = σ.1 a) : yp (sn_it (LX8_clean_30 (nI n)) 5000 (z, (0 : Int32))) (fun y => (∀ a, a ≠ 39 → y.1 a = z.1 a) ∧ ∀ m, y.1 39 m = if m < sp_n w 0 then yv_D w n m else z.1 39 m) := by
  have c0 := (yl_0 hW).2
  refine yp_for (sp_n w 0) (fun k s => s.2 = nI k ∧ (∀ a, a ≠ 39 → s.1.1 a = z.1 a) ∧ ∀ m, s.1.1 39 m = if m < k then yv_D w n m else z.1 39 m) (fun k s hk hs => ?_) (fun s hs => ?_) ⟨nI_0.symm, fun _ _ => rfl, fun m => by rw [if_neg (by omega)]⟩
  · obtain ⟨y, x2⟩ := s
    obtain ⟨ex, hy, hd⟩ := hs
    have ex : x2 = nI k := ex
    have hy : ∀ a, a ≠ 39 → y.1 a = z.1 a := hy
    have hd : ∀ m, y.1 39 m = if m < k then yv_D w n m else z.1 39 m := hd
    subst ex
    have yr : ∀ a, a < 38 → y.1 a = σ.1 a := fun a ha => (hy a (by omega)).trans (hr a ha)
    show yp (BX8_clean_30 y (nI n) (nI k)) _
    unfold BX8_clean_30
    rw [show sn_I y 27 0 = nI (sp_n w 0) from (congrFun (yr 27 (by omega)) 0).trans hD.1, if_neg (nI_ge hk (by omega)), nI_clamp (show k < 2 ^ 31 by omega), show sn_I y (27 + 1) k = hs_dust w k (sp_n w 6) from (congrFun (yr (27 + 1) (by omega)) k).trans (hD.2.1.2.2.2.1 k (by omega)), show sn_I y (1 + 1) (1 : Int32).toNatClampNeg = w 1 from (congrFun (yr (1 + 1) (by omega)) 1).trans (hH.1 1 (by decide))]
    refine yp_gd (fun _ => yp_gd (fun _ => yp_gd (fun _ => yp_lt (yp_lt (yp_some ⟨nI_1 k, fun a ha => (pI_ne ha).trans (hy a ha), fun m => ?_⟩)))))
    show (sn_pI y 39 k (hs_dust w k (sp_n w 6) - w 1 + nI n)).1 39 m = _
    by_cases e : m = k
    · subst e
      rw [pI_self, if_pos (by omega)]
      unfold yv_D
      rw [if_pos hk]
    · rw [pI_slot e, hd m]
      by_cases c : m < k
      · rw [if_pos c, if_pos (by omega)]
      · rw [if_neg c, if_neg (by omega)]
  · obtain ⟨y, x2⟩ := s
    obtain ⟨ex, hy, hd⟩ := hs
    have ex : x2 = nI (sp_n w 0) := ex
    have hy : ∀ a, a ≠ 39 → y.1 a = z.1 a := hy
    subst ex
    show yp (BX8_clean_30 y (nI n) (nI (sp_n w 0))) _
    unfold BX8_clean_30
    rw [show sn_I y 27 0 = nI (sp_n w 0) from (congrFun ((hy 27 (by omega)).trans (hr 27 (by omega))) 0).trans hD.1, if_pos (nI_le (Nat.le_refl _) (by omega))]
    exact yp_some ⟨hy, hd⟩
theorem yc_clean (hW : jW w) (hH : yH 1 σ w) (hD : yD σ w) : yp ((fX0_copyFrom σ 38 27).bind fun t_4 => ((sn_it (LX8_clean_24) 5000 (t_4, (9 : Int32))).bind fun t_6 => Sum.elim (fun v_8 => (BX8_clean_102 v_8)) (fun r_9 => (some r_9)) t_6)) (fun r => r.1 = yz_dn (yv_g w) 10) := by
  have c0 := (yl_0 hW).2
  have c5 := (yl_5 hW).2
  have k1 : ∀ n, yz_dn (yv_g w) (n + 1) = if yv_g w n = true then nI n else yz_dn (yv_g w) n := fun n => rfl
  refine yp_bd _ (yc_trial hW hD (by decide)) (fun z0 hz0 => ?_)
  obtain ⟨hr0, h00, ⟨t1, t2, t3, t4, t5, t6⟩, -⟩ := hz0
  refine yp_bd (fun t => (∃ z, t = Sum.inl z ∧ yz_dn (yv_g w) 10 = -1) ∨ ∃ r, t = Sum.inr r ∧ r.1 = yz_dn (yv_g w) 10) (yp_it (fun s : sn_S × Int32 => (∀ a, a < 38 → s.1.1 a = σ.1 a) ∧ s.1.1 38 0 = nI (sp_n w 0) ∧ (∃ f, (∀ m, sp_n w 0 ≤ m → f m = hs_dust w m (sp_n w 6)) ∧ yd_T 38 s.1 (dy_dustSet (hs_day w) f)) ∧ ((∃ n, n < 10 ∧ s.2 = nI n ∧ yz_dn (yv_g w) 10 = yz_dn (yv_g w) (n + 1)) ∨ (s.2 = -1 ∧ yz_dn (yv_g w) 10 = -1))) (fun s hs => ?_) _ _ ⟨fun a ha => hr0 a (by omega), h00, ⟨fun m => hs_dust w m (sp_n w 6), fun _ _ => rfl, t1, t2, t3, t4, t5, t6⟩, Or.inl ⟨9, by decide, rfl, rfl⟩⟩) (fun t ht => ?_)
  · obtain ⟨z, x2⟩ := s
    obtain ⟨hr, h0, ⟨f, hf, t1, t2, t3, t4, t5, t6⟩, h⟩ := hs
    have hr : ∀ a, a < 38 → z.1 a = σ.1 a := hr
    have h0 : z.1 38 0 = nI (sp_n w 0) := h0
    show yp (BX8_clean_24 z x2) _
    unfold BX8_clean_24
    rcases h with ⟨n, hn, e2, ed⟩ | ⟨e2, ed⟩
    · have e2 : x2 = nI n := e2
      subst e2
      rw [if_neg (nI_pos (show n < 2 ^ 31 by omega))]
      refine yp_bd _ (yc_dustsC hW hH hD hr) (fun y hy => ?_)
      obtain ⟨yr0, yd⟩ := hy
      have hT2 : yd_T 38 y (yv_j w n) := by
        refine ⟨(congrFun (yr0 38 (by decide)) 1).trans t1, (congrFun (yr0 38 (by decide)) 2).trans t2, (congrFun (yr0 38 (by decide)) 3).trans t3, fun k hk => ?_, fun x hx => ?_, fun k hk => ?_⟩
        · show y.1 39 k = yv_D w n k
          rw [yd k]
          by_cases c : k < sp_n w 0
          · rw [if_pos c]
          · rw [if_neg c]
            unfold yv_D
            rw [if_neg c]
            exact (t4 k hk).trans (hf k (by omega))
        · rw [yr0 (38 + 2) (by decide), yr0 (38 + 3) (by decide), yr0 (38 + 4) (by decide), yr0 (38 + 5) (by decide)]
          exact t5 x hx
        · rw [yr0 (38 + 6) (by decide)]
          exact t6 k hk
      unfold BX8_clean_77
      refine yp_bd _ (yc_whole ((congrFun (yr0 38 (by decide)) 0).trans h0) c0 hT2 (hs_ok hW)) (fun v hv => ?_)
      obtain ⟨⟨f1, f2⟩, hL⟩ := hv
      have b := yz_sumle (yv_j w n) (sp_n w 0) (sp_n w 5)
      refine yp_bd _ (yc_total (i := yv_j w n) ((congrFun (f1 38 (by omega)) 1).trans hT2.1) c5 c0 hL.2) (fun t3 ht3 => ?_)
      have ht3 : t3 = nI (yz_sum (yv_j w n) (sp_n w 0) (sp_n w 5)) := ht3
      rw [ht3]
      refine yp_ite (fun c => yp_some (Or.inr ⟨_, rfl, ?_⟩)) (fun c => yp_lt (yp_some ⟨fun a ha => (f1 a (by omega)).trans ((yr0 a (by omega)).trans (hr a ha)), (congrFun (f1 38 (by omega)) 0).trans ((congrFun (yr0 38 (by decide)) 0).trans h0), ⟨yv_D w n, fun m hm => by unfold yv_D; rw [if_neg (by omega)], yd_Tc (fun a a1 a2 => f1 a (by omega)) hT2⟩, ?_⟩))
      · have e : yv_g w n = true := decide_eq_true ((yi_0 (by omega)).mp c)
        rw [k1 n, e, if_pos rfl] at ed
        exact ed.symm
      · have e : yv_g w n = false := decide_eq_false (fun h => c ((yi_0 (by omega)).mpr h))
        rw [k1 n, e, if_neg (by decide)] at ed
        match n, hn, ed with
        | 0, _, ed => exact Or.inr ⟨by show nI 0 + (-1 : Int32) = -1; decide, ed⟩
        | m + 1, hm, ed => exact Or.inl ⟨m, by omega, yi_m1 m (by omega), ed⟩
    · have e2 : x2 = -1 := e2
      subst e2
      rw [if_pos (by decide)]
      exact yp_some (Or.inl ⟨z, rfl, ed⟩)
  · rcases ht with ⟨z, e, h⟩ | ⟨r, e, h⟩
    · subst e
      show yp (BX8_clean_102 z) _
      unfold BX8_clean_102
      exact yp_some h.symm
    · subst e
      exact yp_some h
theorem ym_isHv (hW : jW w) (hu : u.1 1 = w) : yp (fX9_isHouse u) (fun v => v = if 0 < sp_n w 10 then 1 else 0) := by
  obtain ⟨b, c⟩ : yh_n w 10 900 := hW.1.2.2.2.2.2.2.2.2.2.2
  have e : sn_I u 1 (10 : Int32).toNatClampNeg = nI (sp_n w 10) := (congrFun hu 10).trans b
  unfold fX9_isHouse
  rw [e]
  refine yp_gd (fun _ => yp_ite (fun h => yp_gd (fun _ => yp_some ?_)) (fun h => yp_gd (fun _ => yp_some ?_)))
  · rw [if_neg]
    intro g
    exact absurd h (nI_nle g (by omega))
  · rw [if_pos]
    by_cases g : 0 < sp_n w 10
    · exact g
    · have : sp_n w 10 = 0 := by omega
      rw [this] at h
      exact absurd (show nI 0 ≤ 0 by decide) h
theorem yz_28 (hK : zK σ τ) : yr (fX8_clean σ) (fX9_clean τ) (fun r s => r.1 = s.1) := by
  have hW := hK.2.1.1
  have c5 := (yl_5 hW).2
  have c0 := (yl_0 hW).2
  unfold fX8_clean fX9_clean
  rw [yk_hv hK]
  by_cases c : 0 < sp_n (τ.1 1) 10
  · refine yr_eq2 (yz_dn (yv_g (τ.1 1)) 10) ?_ (yp_bd _ (ym_isHv hW rfl) (fun t ht => ?_))
    · rw [if_pos c]
      refine yp_bs rfl ?_
      rw [if_neg (by decide)]
      exact yc_clean hW hK.2.1.2 hK.2.2.2
    · rw [ht, if_pos c, if_neg (by decide)]
      refine yp_bd _ (ym_quietD (x := 1) (w := τ.1 1) (g := yv_g (τ.1 1)) (by omega) (fun _ => rfl) (fun y n hn hy ey => ?_)) (fun r hr => yp_some hr)
      have hW2 : jW (y.1 1) := jW_set hW hy ey (Or.inl ⟨rfl, by omega⟩)
      have s5 : sp_n (y.1 1) 5 = sp_n (τ.1 1) 5 := sp_mv (hy 5 (by omega))
      have s0 : sp_n (y.1 1) 0 = sp_n (τ.1 1) 0 := sp_mv (hy 0 (by omega))
      refine yp_w (ym_asks rfl hW2) (fun t ht => ⟨fun k hk => (congrFun ht.2.1 k).trans (hy k hk), fun _ => ?_, fun c => absurd rfl c⟩)
      have b := yz_sumle (hs_day (y.1 1)) (sp_n (y.1 1) 0) (sp_n (y.1 1) 5)
      refine yp_w (ym_total (i := hs_day (y.1 1)) ((congrFun ht.2.1 5).trans (yl_5 hW2).1) (yl_5 hW2).2 (fun p hp => yz_msn hW2 ht.2 hp)) (fun v hv => ?_)
      have hv : v = nI (yz_sum (hs_day (y.1 1)) (sp_n (y.1 1) 0) (sp_n (y.1 1) 5)) := hv
      have eq : yz_sum (hs_day (y.1 1)) (sp_n (y.1 1) 0) (sp_n (y.1 1) 5) = yz_sum (yv_j (τ.1 1) n) (sp_n (τ.1 1) 0) (sp_n (τ.1 1) 5) := by
        rw [s0, ← s5]
        exact yz_sumP (yv_EP hy ey) _ (Nat.le_refl _)
      rw [hv, yi_0 (by omega), eq]
      unfold yv_g
      rw [decide_eq_true_eq]
  · refine yr_eq2 (-2 : Int32) ?_ (yp_bd _ (ym_isHv hW rfl) (fun t ht => ?_))
    · rw [if_neg c]
      refine yp_bs rfl ?_
      rw [if_pos rfl]
      exact yp_some rfl
    · rw [ht, if_neg c, if_pos rfl]
      exact yp_some rfl
end
end
section
/-! days drawn: luck -/
def lx_s (v : Int64) : Int64 := (((1103515245 : Int64) * v) + (12345 : Int64)) - (((1103515245 : Int64) * v) + (12345 : Int64)) / (2147483648 : Int64) * (2147483648 : Int64)
def lx (s : Int64) : Nat → Int64
  | 0 => s
  | n + 1 => lx_s (lx s n)
section
variable {σ τ u z : sn_S} {w : Nat → Int32} {q : Nat} {l : Int32}
end
end
section
/-! sums over all sets of the first n minutes, told forward and backward; weights; the greatest number that divides both -/
section
def yj_b (B k : Nat) : Bool := decide (B / 2 ^ k % 2 = 1)
theorem yj_n (B : Nat) (hB : B < 4294967296) : yb_n (nI B) = B := by
  show (BitVec.ofNat 32 B).toNat = B
  rw [BitVec.toNat_ofNat]
  exact Nat.mod_eq_of_lt hB
theorem yj_sp {B k : Nat} (hB : B < 4294967296) (hk : k < 32) : sp_bit (nI B) k = yj_b B k := by
  have h := yb_bitn (nI B) hk
  rw [yj_n B hB] at h
  unfold yj_b
  cases g : sp_bit (nI B) k with
  | false =>
    rw [g] at h
    rw [← h]
    rfl
  | true =>
    rw [g] at h
    rw [← h]
    rfl
def yj_gb (n B m : Nat) : Bool := decide (m < n) && yj_b B (n - 1 - m)
/-! the greatest number that divides both -/
end
end
section
/-! all puffs of the first minutes: the class's mean -/
section
variable {σ τ u z : sn_S} {w : Nat → Int32} {q n o p : Nat} {l : Int32}
def yj_D (w : Nat → Int32) (b : Nat → Bool) (m : Nat) : Int32 := hs_dust w m (sp_n w 6) + if b m = true then 3 else 0
/-- the dusts from the first that changes on -/
theorem yc_dusts {B f : Nat} {kind idx : Int32} (hW : jW w) (hn : n ≤ 8) (hB : B < 2 ^ n) (hf : f ≤ n) (hd : ∀ m, m < 30 → z.1 28 m = hs_dust w m (sp_n w 6)) : yp (sn_it (LX4_reckon_68 1 27 kind idx (nI n) (nI B) (nI f)) 5000 (z, nI f)) (fun v => (∀ a, a ≠ 60 → v.1 a = z.1 a) ∧ v.2 = z.2 ∧ ∀ j, j < 30 → v.1 60 j = if f ≤ j ∧ j < n then yj_D w (yj_gb n B) j else z.1 60 j) := by
  have h2 : 2 ^ n ≤ 256 := Nat.le_trans (Nat.pow_le_pow_right (by decide) hn) (by decide)
  refine yp_for0 f n hf (fun m (s : sn_S × Int32) => s.2 = nI m ∧ (∀ a, a ≠ 60 → s.1.1 a = z.1 a) ∧ s.1.2 = z.2 ∧ ∀ j, j < 30 → s.1.1 60 j = if f ≤ j ∧ j < m then yj_D w (yj_gb n B) j else z.1 60 j) (fun m s h1 hm hs => ?_) (fun s hs => ?_) (by exact ⟨rfl, fun _ _ => rfl, rfl, fun j hj => by rw [if_neg (by omega)]⟩)
  · obtain ⟨y, x⟩ := s
    obtain ⟨ex, ya, y2, yd⟩ := hs
    have ex : x = nI m := ex
    subst ex
    have ya : ∀ a, a ≠ 60 → y.1 a = z.1 a := ya
    have y2 : y.2 = z.2 := y2
    have yd : ∀ j, j < 30 → y.1 60 j = if f ≤ j ∧ j < m then yj_D w (yj_gb n B) j else z.1 60 j := yd
    show yp (BX4_reckon_68 y 1 27 kind idx (nI n) (nI B) (nI f) (nI m)) _
    unfold BX4_reckon_68 BX4_reckon_111
    rw [if_neg (nI_ge hm (by omega)), yi_s1 (show 1 ≤ n by omega), yi_sub (show m ≤ n - 1 by omega), nI_clamp (show m < 2 ^ 31 by omega), yb_c]
    have eg : yj_gb n B m = sp_bit (nI B) (n - 1 - m) := by
      unfold yj_gb
      rw [decide_eq_true hm, yj_sp (by omega) (by omega)]
      rfl
    have ed : sn_I y (27 + 1) m = hs_dust w m (sp_n w 6) := (congrFun (ya 28 (by decide)) m).trans (hd m (by omega))
    have fin : ∀ t : Int32, t = (if yj_gb n B m = true then 3 else 0) → yp (sn_gd (sn_in (nI m) 30) (sn_lt (sn_pI y (59 + 1) m (sn_I y (27 + 1) m + t)) fun σ_2 => (sn_lt (nI m + 1) fun y_4 => (some (Sum.inl (σ_2, y_4)) : Option ((sn_S × Int32) ⊕ sn_S))))) (yp_sum (fun s : sn_S × Int32 => s.2 = nI (m + 1) ∧ (∀ a, a ≠ 60 → s.1.1 a = z.1 a) ∧ s.1.2 = z.2 ∧ ∀ j, j < 30 → s.1.1 60 j = if f ≤ j ∧ j < m + 1 then yj_D w (yj_gb n B) j else z.1 60 j) (fun _ => False)) := fun t ht => by
      refine yp_gd (fun _ => yp_lt (yp_lt (yp_some ⟨nI_1 m, fun a ha => (pI_ne ha).trans (ya a ha), y2, fun j hj => ?_⟩)))
      by_cases e : j = m
      · subst e
        refine pI_self.trans ?_
        rw [if_pos ⟨h1, by omega⟩, ed, ht]
        rfl
      · refine (pI_slot e).trans ((yd j hj).trans ?_)
        by_cases g : f ≤ j ∧ j < m
        · rw [if_pos g, if_pos (by omega)]
        · rw [if_neg g, if_neg (by omega)]
    refine yp_gd (fun _ => yp_bit (fun c => ?_) (fun c => ?_))
    · rw [if_neg (by decide)]
      exact fin 3 (by rw [eg, c, if_pos rfl])
    · rw [if_pos rfl]
      exact fin 0 (by rw [eg, c, if_neg (by decide)])
  · obtain ⟨y, x⟩ := s
    obtain ⟨ex, ya, y2, yd⟩ := hs
    have ex : x = nI n := ex
    subst ex
    show yp (BX4_reckon_68 y 1 27 kind idx (nI n) (nI B) (nI f) (nI n)) _
    unfold BX4_reckon_68
    rw [if_pos (nI_le (Nat.le_refl _) (by omega))]
    exact yp_some ⟨ya, y2, yd⟩
/-! days that differ in their dusts alone -/
end
end
section
/-! every call keeps what the two have in common, the houses too -/
theorem zz_0 : st_0 zK zK := by
  intro σ τ a0 a1 a2 a3 a4 hJ
  obtain ⟨r, σ1, τ1, e1, e2, h⟩ := zK_0 σ τ a0 a1 a2 a3 a4 hJ
  exact ⟨r, r, σ1, τ1, e1, e2, h⟩
theorem zz_1 : st_1 zK zK := by
  intro σ τ a0 hJ
  obtain ⟨r, σ1, τ1, e1, e2, h⟩ := zK_1 σ τ a0 hJ
  exact ⟨r, r, σ1, τ1, e1, e2, h⟩
theorem zz_2 : st_2 zK zK := by
  intro σ τ hJ
  obtain ⟨r, σ1, τ1, e1, e2, h⟩ := zK_2 σ τ hJ
  exact ⟨r, r, σ1, τ1, e1, e2, h⟩
theorem zz_3 : st_3 zK zK := by
  intro σ τ a0 hJ
  obtain ⟨r, e1, e2⟩ := zJ_3 σ τ a0 hJ.1
  exact ⟨r, r, e1, e2, hJ⟩
theorem zz_4 : st_4 zK zK := by
  intro σ τ a0 a1 hJ
  obtain ⟨r, e1, e2⟩ := zJ_4 σ τ a0 a1 hJ.1
  exact ⟨r, r, e1, e2, hJ⟩
theorem zz_5 : st_5 zK zK := by
  intro σ τ a0 a1 hJ
  obtain ⟨r, e1, e2⟩ := zJ_5 σ τ a0 a1 hJ.1
  exact ⟨r, r, e1, e2, hJ⟩
theorem zz_6 : st_6 zK zK := by
  intro σ τ a0 hJ
  obtain ⟨r, e1, h1⟩ := zc_20 (zs_rf (key := zs_kC) (kl := zs_lC) hJ.1.1.1) (x1 := a0)
  obtain ⟨r2, e2, h2⟩ := zc_43 (zs_rf (key := zs_kM) (kl := zs_lM) hJ.1.1.2.1) (x1 := a0)
  exact ⟨r, r2.1, r2.2, e1, e2, zK_keep (zs_rf hJ.1.1.1) (h2.1.2) hJ⟩
theorem zz_7 : st_7 zK zK := by
  intro σ τ a0 hJ
  obtain ⟨r, e1, h1⟩ := zc_45 (zs_rf (key := zs_kC) (kl := zs_lC) hJ.1.1.1) (x1 := a0)
  obtain ⟨r2, e2, h2⟩ := zc_96 (zs_rf (key := zs_kM) (kl := zs_lM) hJ.1.1.2.1) (x1 := a0)
  exact ⟨r, r2.1, r2.2, e1, e2, zK_keep (zs_rf hJ.1.1.1) (h2.1.2) hJ⟩
theorem zz_8 : st_8 zK zK := by
  intro σ τ a0 hJ
  obtain ⟨r, e1, h1⟩ := zc_97 (zs_rf (key := zs_kC) (kl := zs_lC) hJ.1.1.1) (x1 := a0)
  obtain ⟨r2, e2, h2⟩ := zc_99 (zs_rf (key := zs_kM) (kl := zs_lM) hJ.1.1.2.1) (x1 := a0)
  exact ⟨r, r2.1, r2.2, e1, e2, zK_keep (zs_rf hJ.1.1.1) (h2.1.2) hJ⟩
theorem zz_9 : st_9 zK zK := by
  intro σ τ a0 hJ
  obtain ⟨r, e1, h1⟩ := zc_100 (zs_rf (key := zs_kC) (kl := zs_lC) hJ.1.1.1) (x1 := a0)
  obtain ⟨r2, e2, h2⟩ := zc_101 (zs_rf (key := zs_kM) (kl := zs_lM) hJ.1.1.2.1) (x1 := a0)
  exact ⟨r, r2.1, r2.2, e1, e2, zK_keep (zs_rf hJ.1.1.1) (h2.1.2) hJ⟩
theorem zz_10 : st_10 zK zK := by
  intro σ τ hJ
  obtain ⟨r, e1, h1⟩ := zc_106 (zs_rf (key := zs_kC) (kl := zs_lC) hJ.1.1.1) 
  obtain ⟨r2, e2, h2⟩ := zc_113 (zs_rf (key := zs_kM) (kl := zs_lM) hJ.1.1.2.1) 
  exact ⟨r, r2.1, r2.2, e1, e2, zK_keep (zs_rf hJ.1.1.1) (h2.2) hJ⟩
theorem zz_11 : st_11 zK zK := by
  intro σ τ a0 hJ
  obtain ⟨r, e1, h1⟩ := zc_114 (zs_rf (key := zs_kC) (kl := zs_lC) hJ.1.1.1) (x1 := a0)
  obtain ⟨r2, e2, h2⟩ := zc_115 (zs_rf (key := zs_kM) (kl := zs_lM) hJ.1.1.2.1) (x1 := a0)
  exact ⟨r, r2.1, r2.2, e1, e2, zK_keep (zs_rf hJ.1.1.1) (h2.1.2) hJ⟩
theorem zz_12 : st_12 zK zK := by
  intro σ τ a0 a1 hJ
  obtain ⟨r, e1, h1⟩ := zc_117 (zs_rf (key := zs_kC) (kl := zs_lC) hJ.1.1.1) (x1 := a0) (x2 := a1)
  obtain ⟨r2, e2, h2⟩ := zc_118 (zs_rf (key := zs_kM) (kl := zs_lM) hJ.1.1.2.1) (x1 := a0) (x2 := a1)
  exact ⟨r, r2.1, r2.2, e1, e2, zK_keep (zs_rf hJ.1.1.1) (h2.1.2) hJ⟩
theorem zz_13 : st_13 zK zK := by
  intro σ τ a0 hJ
  obtain ⟨r, e1, h1⟩ := zc_121 (zs_rf (key := zs_kC) (kl := zs_lC) hJ.1.1.1) (x1 := a0)
  obtain ⟨r2, e2, h2⟩ := zc_124 (zs_rf (key := zs_kM) (kl := zs_lM) hJ.1.1.2.1) (x1 := a0)
  exact ⟨r, r2.1, r2.2, e1, e2, zK_keep (zs_rf hJ.1.1.1) (h2.1.2) hJ⟩
theorem zz_14 : st_14 zK zK := by
  intro σ τ a0 hJ
  obtain ⟨r, e1, h1⟩ := zc_128 (zs_rf (key := zs_kC) (kl := zs_lC) hJ.1.1.1) (x1 := a0)
  obtain ⟨r2, e2, h2⟩ := zc_129 (zs_rf (key := zs_kM) (kl := zs_lM) hJ.1.1.2.1) (x1 := a0)
  exact ⟨r, r2.1, r2.2, e1, e2, zK_keep (zs_rf hJ.1.1.1) (h2.1.2) hJ⟩
theorem zz_15 : st_15 zK zK := by
  intro σ τ a0 hJ
  obtain ⟨r, e1, h1⟩ := zc_130 (zs_rf (key := zs_kC) (kl := zs_lC) hJ.1.1.1) (x1 := a0)
  obtain ⟨r2, e2, h2⟩ := zc_136 (zs_rf (key := zs_kM) (kl := zs_lM) hJ.1.1.2.1) (x1 := a0)
  exact ⟨r, r2.1, r2.2, e1, e2, zK_keep (zs_rf hJ.1.1.1) (h2.1.2) hJ⟩
theorem zz_16 : st_16 zK zK := by
  intro σ τ hJ
  obtain ⟨r, e1, h1⟩ := zc_141 (zs_rf (key := zs_kC) (kl := zs_lC) hJ.1.1.1) 
  obtain ⟨r2, e2, h2⟩ := zc_146 (zs_rf (key := zs_kM) (kl := zs_lM) hJ.1.1.2.1) 
  exact ⟨r, r2.1, r2.2, e1, e2, zK_keep (zs_rf hJ.1.1.1) (h2.2) hJ⟩
theorem zz_17 : st_17 zK zK := by
  intro σ τ hJ
  obtain ⟨r, e1, h1⟩ := zc_149 (zs_rf (key := zs_kC) (kl := zs_lC) hJ.1.1.1) 
  obtain ⟨r2, e2, h2⟩ := zc_154 (zs_rf (key := zs_kM) (kl := zs_lM) hJ.1.1.2.1) 
  exact ⟨r, r2.1, r2.2, e1, e2, zK_keep (zs_rf hJ.1.1.1) (h2.2) hJ⟩
theorem zz_18 : st_18 zK zK := by
  intro σ τ hJ
  obtain ⟨r, e1, h1⟩ := zc_159 (zs_rf (key := zs_kC) (kl := zs_lC) hJ.1.1.1) 
  obtain ⟨r2, e2, h2⟩ := zc_164 (zs_rf (key := zs_kM) (kl := zs_lM) hJ.1.1.2.1) 
  exact ⟨r, r2.1, r2.2, e1, e2, zK_keep (zs_rf hJ.1.1.1) (h2.2) hJ⟩
theorem zz_19 : st_19 zK zK := by
  intro σ τ a0 hJ
  obtain ⟨r, e1, h1⟩ := zc_176 (zs_rf (key := zs_kC) (kl := zs_lC) hJ.1.1.1) (x1 := a0)
  obtain ⟨r2, e2, h2⟩ := zc_186 (zs_rf (key := zs_kM) (kl := zs_lM) hJ.1.1.2.1) (x1 := a0)
  exact ⟨r, r2.1, r2.2, e1, e2, zK_keep (zs_rf hJ.1.1.1) (h2.1.2) hJ⟩
theorem zz_20 : st_20 zK zK := by
  intro σ τ a0 a1 hJ
  obtain ⟨r, e1, h1⟩ := zc_188 (zs_rf (key := zs_kC) (kl := zs_lC) hJ.1.1.1) (x1 := a0) (x2 := a1)
  obtain ⟨r2, e2, h2⟩ := zc_191 (zs_rf (key := zs_kM) (kl := zs_lM) hJ.1.1.2.1) (x1 := a0) (x2 := a1)
  exact ⟨r, r2.1, r2.2, e1, e2, zK_keep (zs_rf hJ.1.1.1) (h2.1.2) hJ⟩
theorem zz_21 : st_21 zK zK := by
  intro σ τ a0 hJ
  obtain ⟨r, e1, h1⟩ := zc_199 (zs_rf (key := zs_kC) (kl := zs_lC) hJ.1.1.1) (x1 := a0)
  obtain ⟨r2, e2, h2⟩ := zc_211 (zs_rf (key := zs_kM) (kl := zs_lM) hJ.1.1.2.1) (x1 := a0)
  exact ⟨r, r2.1, r2.2, e1, e2, zK_keep (zs_rf hJ.1.1.1) (h2.1.2) hJ⟩
theorem zz_22 : st_22 zK zK := by
  intro σ τ hJ
  obtain ⟨r, e1, h1⟩ := zc_215 (zs_rf (key := zs_kC) (kl := zs_lC) hJ.1.1.1) 
  obtain ⟨r2, e2, h2⟩ := zc_220 (zs_rf (key := zs_kM) (kl := zs_lM) hJ.1.1.2.1) 
  exact ⟨r, r2.1, r2.2, e1, e2, zK_keep (zs_rf hJ.1.1.1) (h2.2) hJ⟩
theorem zz_23 : st_23 zK zK := by
  intro σ τ a0 hJ
  obtain ⟨r, e1, h1⟩ := zc_225 (zs_rf (key := zs_kC) (kl := zs_lC) hJ.1.1.1) (x1 := a0)
  obtain ⟨r2, e2, h2⟩ := zc_228 (zs_rf (key := zs_kM) (kl := zs_lM) hJ.1.1.2.1) (x1 := a0)
  exact ⟨r, r2.1, r2.2, e1, e2, zK_keep (zs_rf hJ.1.1.1) (h2.1.2) hJ⟩
theorem zz_24 : st_24 zK zK := by
  intro σ τ a0 hJ
  obtain ⟨r, e1, h1⟩ := zc_238 (zs_rf (key := zs_kC) (kl := zs_lC) hJ.1.1.1) (x1 := a0)
  obtain ⟨r2, e2, h2⟩ := zc_263 (zs_rf (key := zs_kM) (kl := zs_lM) hJ.1.1.2.1) (x1 := a0)
  exact ⟨r.1, r2.1, r.2, r2.2, e1, e2, zK_keep (h1.2) (h2.2) hJ⟩
theorem zz_25 : st_25 zK zK := by
  intro σ τ hJ
  obtain ⟨r, e1, h1⟩ := zc_276 (zs_rf (key := zs_kC) (kl := zs_lC) hJ.1.1.1) 
  obtain ⟨r2, e2, h2⟩ := zc_313 (zs_rf (key := zs_kM) (kl := zs_lM) hJ.1.1.2.1) 
  exact ⟨r.1, r2.1, r.2, r2.2, e1, e2, zK_keep (h1.2) (h2.2) hJ⟩
theorem zz_26 : st_26 zK zK := by
  intro σ τ a0 hJ
  obtain ⟨r, e1, h1⟩ := zc_353 (zs_rf (key := zs_kC) (kl := zs_lC) hJ.1.1.1) (x1 := a0)
  obtain ⟨r2, e2, h2⟩ := zA_70 (zs_rf (key := zs_kM0) (kl := zs_lM) hJ.1.1.2.1) (x1 := a0)
  exact ⟨r.1, r2.1, r.2, r2.2, e1, e2, zK_keep0 (h1.1.2) (h2.1.2) (qb_dull hJ.1.1.2.1 e2) hJ⟩
theorem zz_27 : st_27 zK zK := by
  intro σ τ a0 hJ
  obtain ⟨r, e1, h1⟩ := zc_358 (zs_rf (key := zs_kC) (kl := zs_lC) hJ.1.1.1) (x1 := a0)
  obtain ⟨r2, e2, h2⟩ := zA_79 (zs_rf (key := zs_kM0) (kl := zs_lM) hJ.1.1.2.1) (x1 := a0)
  exact ⟨r.1, r2.1, r.2, r2.2, e1, e2, zK_keep0 (h1.1.2) (h2.1.2) (qb_bears hJ.1.1.2.1 e2) hJ⟩
theorem zz_28 : st_28 zK zK := by
  intro σ τ hJ
  obtain ⟨r, e1, h1⟩ := zc_366 (zs_rf (key := zs_kC) (kl := zs_lC) hJ.1.1.1) 
  obtain ⟨r2, e2, h2⟩ := zA_94 (zs_rf (key := zs_kM0) (kl := zs_lM) hJ.1.1.2.1) 
  have q : r.1 = r2.1 := yz_28 hJ _ _ e1 e2
  exact ⟨r.1, r.2, r2.2, e1, (e2.trans (show some r2 = some (r.1, r2.2) by rw [q])), zK_keep0 (h1.2) (h2.2) (qb_clean hJ.1.1.2.1 e2) hJ⟩
theorem zz_29 : st_29 zK zK := by
  intro σ τ a0 hJ
  obtain ⟨r, e1, h1⟩ := zc_370 (zs_rf (key := zs_kC) (kl := zs_lC) hJ.1.1.1) (x1 := a0)
  obtain ⟨r2, e2, h2⟩ := zc_378 (zs_rf (key := zs_kM) (kl := zs_lM) hJ.1.1.2.1) (x1 := a0)
  exact ⟨r.1, r2.1, r.2, r2.2, e1, e2, zK_keep (h1.1.2) (h2.1.2) hJ⟩
theorem zz_30 : st_30 zK zK := by
  intro σ τ a0 hJ
  obtain ⟨r, e1, h1⟩ := zc_384 (zs_rf (key := zs_kC) (kl := zs_lC) hJ.1.1.1) (x1 := a0)
  obtain ⟨r2, e2, h2⟩ := zc_397 (zs_rf (key := zs_kM) (kl := zs_lM) hJ.1.1.2.1) (x1 := a0)
  exact ⟨r, r2.1, r2.2, e1, e2, zK_keep (zs_rf hJ.1.1.1) (h2.1.2) hJ⟩
theorem zz_31 : st_31 zK zK := by
  intro σ τ a0 hJ
  obtain ⟨r, e1, h1⟩ := zc_398 (zs_rf (key := zs_kC) (kl := zs_lC) hJ.1.1.1) (x1 := a0)
  obtain ⟨r2, e2, h2⟩ := zc_399 (zs_rf (key := zs_kM) (kl := zs_lM) hJ.1.1.2.1) (x1 := a0)
  exact ⟨r.1, r2.1, r.2, r2.2, e1, e2, zK_keep (h1.1.2) (h2.1.2) hJ⟩
theorem zz_32 : st_32 zK zK := by
  intro σ τ a0 hJ
  obtain ⟨r, e1, h1⟩ := zc_400 (zs_rf (key := zs_kC) (kl := zs_lC) hJ.1.1.1) (x1 := a0)
  obtain ⟨r2, e2, h2⟩ := zc_401 (zs_rf (key := zs_kM) (kl := zs_lM) hJ.1.1.2.1) (x1 := a0)
  exact ⟨r.1, r2.1, r.2, r2.2, e1, e2, zK_keep (h1.1.2) (h2.1.2) hJ⟩
theorem zz_33 : st_33 zK zK := by
  intro σ τ hJ
  obtain ⟨r, e1, h1⟩ := zc_405 (zs_rf (key := zs_kC) (kl := zs_lC) hJ.1.1.1) 
  obtain ⟨r2, e2, h2⟩ := zc_410 (zs_rf (key := zs_kM) (kl := zs_lM) hJ.1.1.2.1) 
  exact ⟨r.1, r2.1, r.2, r2.2, e1, e2, zK_keep (h1.2) (h2.2) hJ⟩
theorem zz_34 : st_34 zK zK := by
  intro σ τ a0 hJ
  obtain ⟨r, e1, h1⟩ := zc_411 (zs_rf (key := zs_kC) (kl := zs_lC) hJ.1.1.1) (x1 := a0)
  obtain ⟨r2, e2, h2⟩ := zc_412 (zs_rf (key := zs_kM) (kl := zs_lM) hJ.1.1.2.1) (x1 := a0)
  exact ⟨r.1, r2.1, r.2, r2.2, e1, e2, zK_keep (h1.2) (h2.2) hJ⟩
theorem zz_35 : st_35 zK zK := by
  intro σ τ hJ
  obtain ⟨r, e1, h1⟩ := zc_416 (zs_rf (key := zs_kC) (kl := zs_lC) hJ.1.1.1) 
  obtain ⟨r2, e2, h2⟩ := zc_420 (zs_rf (key := zs_kM) (kl := zs_lM) hJ.1.1.2.1) 
  exact ⟨r.1, r2.1, r.2, r2.2, e1, e2, zK_keep (h1.2) (h2.2) hJ⟩
theorem zz_36 : st_36 zK zK := by
  intro σ τ hJ
  obtain ⟨r, e1, h1⟩ := zc_425 (zs_rf (key := zs_kC) (kl := zs_lC) hJ.1.1.1) 
  obtain ⟨r2, e2, h2⟩ := zc_430 (zs_rf (key := zs_kM) (kl := zs_lM) hJ.1.1.2.1) 
  exact ⟨r.1, r2.1, r.2, r2.2, e1, e2, zK_keep (h1.2) (h2.2) hJ⟩
theorem zz_37 : st_37 zK zK := by
  intro σ τ hJ
  obtain ⟨r, e1, h1⟩ := zc_434 (zs_rf (key := zs_kC) (kl := zs_lC) hJ.1.1.1) 
  obtain ⟨r2, e2, h2⟩ := zh_reserve (zs_rf (key := zs_kM) (kl := zs_lM) hJ.1.1.2.1)
  exact ⟨r.1, r2.1, r.2, r2.2, e1, e2, zK_keep (h1.2) (h2) hJ⟩
theorem zz_38 : st_38 zK zK := by
  intro σ τ a0 hJ
  obtain ⟨r, e1, h1⟩ := zc_437 (zs_rf (key := zs_kC) (kl := zs_lC) hJ.1.1.1) (x1 := a0)
  obtain ⟨r2, e2, h2⟩ := zc_446 (zs_rf (key := zs_kM) (kl := zs_lM) hJ.1.1.2.1) (x1 := a0)
  exact ⟨r.1, r2.1, r.2, r2.2, e1, e2, zK_keep (h1.2) (h2.2) hJ⟩
theorem zz_39 : st_39 zK zK := by
  intro σ τ hJ
  obtain ⟨r, e1, h1⟩ := zc_457 (zs_rf (key := zs_kC) (kl := zs_lC) hJ.1.1.1) 
  obtain ⟨r2, e2, h2⟩ := zc_463 (zs_rf (key := zs_kM) (kl := zs_lM) hJ.1.1.2.1) 
  exact ⟨r.1, r2.1, r.2, r2.2, e1, e2, zK_keep (h1.2) (h2.2) hJ⟩
theorem zz_40 : st_40 zK zK := by
  intro σ τ a0 hJ
  obtain ⟨r, e1, h1⟩ := zc_471 (zs_rf (key := zs_kC) (kl := zs_lC) hJ.1.1.1) (x1 := a0)
  obtain ⟨r2, e2, h2⟩ := zc_478 (zs_rf (key := zs_kM) (kl := zs_lM) hJ.1.1.2.1) (x1 := a0)
  exact ⟨r, r2.1, r2.2, e1, e2, zK_keep (zs_rf hJ.1.1.1) (h2.1.2) hJ⟩
theorem zz_41 : st_41 zK zK := by
  intro σ τ a0 hJ
  obtain ⟨r, e1, h1⟩ := zc_479 (zs_rf (key := zs_kC) (kl := zs_lC) hJ.1.1.1) (x1 := a0)
  obtain ⟨r2, e2, h2⟩ := zc_480 (zs_rf (key := zs_kM) (kl := zs_lM) hJ.1.1.2.1) (x1 := a0)
  exact ⟨r, r2.1, r2.2, e1, e2, zK_keep (zs_rf hJ.1.1.1) (h2.1.2) hJ⟩
theorem zz_42 : st_42 zK zK := by
  intro σ τ a0 hJ
  obtain ⟨r, e1, h1⟩ := zc_489 (zs_rf (key := zs_kC) (kl := zs_lC) hJ.1.1.1) (x1 := a0)
  obtain ⟨r2, e2, h2⟩ := zr_price hJ.1.1.2.1 a0
  exact ⟨r, r2.1, r2.2, e1, e2, zK_keep (zs_rf hJ.1.1.1) (h2) hJ⟩
theorem zz_43 : st_43 zK zK := by
  intro σ τ a0 hJ
  obtain ⟨r, e1, h1⟩ := zc_511 (zs_rf (key := zs_kC) (kl := zs_lC) hJ.1.1.1) (x1 := a0)
  obtain ⟨r2, e2, h2⟩ := zc_527 (zs_rf (key := zs_kM) (kl := zs_lM) hJ.1.1.2.1) (x1 := a0)
  exact ⟨r.1, r2.1, r.2, r2.2, e1, e2, zK_keep (h1.1.2) (h2.1.2) hJ⟩
theorem zz_44 : st_44 zK zK := by
  intro σ τ a0 hJ
  obtain ⟨r, e1, h1⟩ := zc_529 (zs_rf (key := zs_kC) (kl := zs_lC) hJ.1.1.1) (x1 := a0)
  obtain ⟨r2, e2, h2⟩ := zc_530 (zs_rf (key := zs_kM) (kl := zs_lM) hJ.1.1.2.1) (x1 := a0)
  exact ⟨r.1, r2.1, r.2, r2.2, e1, e2, zK_keep (h1.1.2) (h2.1.2) hJ⟩
theorem zz_45 : st_45 zK zK := by
  intro σ τ a0 hJ
  obtain ⟨r, e1, h1⟩ := zc_543 (zs_rf (key := zs_kC) (kl := zs_lC) hJ.1.1.1) (x1 := a0)
  obtain ⟨r2, e2, h2⟩ := zc_549 (zs_rf (key := zs_kM) (kl := zs_lM) hJ.1.1.2.1) (x1 := a0)
  exact ⟨r.1, r2.1, r.2, r2.2, e1, e2, zK_keep (h1.1.2) (h2.1.2) hJ⟩
theorem zz_46 : st_46 zK zK := by
  intro σ τ a0 hJ
  obtain ⟨r, e1, h1⟩ := zc_550 (zs_rf (key := zs_kC) (kl := zs_lC) hJ.1.1.1) (x1 := a0)
  obtain ⟨r2, e2, h2⟩ := zc_551 (zs_rf (key := zs_kM) (kl := zs_lM) hJ.1.1.2.1) (x1 := a0)
  exact ⟨r.1, r2.1, r.2, r2.2, e1, e2, zK_keep (h1.1.2) (h2.1.2) hJ⟩
theorem zz_47 : st_47 zK zK := by
  intro σ τ a0 hJ
  obtain ⟨r, e1, h1⟩ := zc_579 (zs_rf (key := zs_kC) (kl := zs_lC) hJ.1.1.1) (x1 := a0)
  obtain ⟨r2, e2, h2⟩ := zc_1500 (zs_rf (key := zs_kM) (kl := zs_lM) hJ.1.1.2.1) (x1 := a0)
  exact ⟨r.1, r2.1, r.2, r2.2, e1, e2, zK_keep (h1.1.2) (h2.2) hJ⟩
theorem zz_48 : st_48 zK zK := by
  intro σ τ a0 hJ
  obtain ⟨r, e1, h1⟩ := zc_580 (zs_rf (key := zs_kC) (kl := zs_lC) hJ.1.1.1) (x1 := a0)
  obtain ⟨r2, e2, h2⟩ := zc_1503 (zs_rf (key := zs_kM) (kl := zs_lM) hJ.1.1.2.1) (x1 := a0)
  exact ⟨r.1, r2.1, r.2, r2.2, e1, e2, zK_keep (h1.1.2) (h2.2) hJ⟩
theorem zz_49 : st_49 zK zK := by
  intro σ τ a0 hJ
  obtain ⟨r, e1, h1⟩ := zc_581 (zs_rf (key := zs_kC) (kl := zs_lC) hJ.1.1.1) (x1 := a0)
  obtain ⟨r2, e2, h2⟩ := zc_1504 (zs_rf (key := zs_kM) (kl := zs_lM) hJ.1.1.2.1) (x1 := a0)
  exact ⟨r.1, r2.1, r.2, r2.2, e1, e2, zK_keep (h1.1.2) (h2.2) hJ⟩
theorem zz_50 : st_50 zK zK := by
  intro σ τ a0 hJ
  obtain ⟨r, e1, h1⟩ := zc_590 (zs_rf (key := zs_kC) (kl := zs_lC) hJ.1.1.1) (x1 := a0)
  obtain ⟨r2, e2, h2⟩ := zc_1516 (zs_rf (key := zs_kM) (kl := zs_lM) hJ.1.1.2.1) (x1 := a0)
  exact ⟨r.1, r2.1, r.2, r2.2, e1, e2, zK_keep (h1.1.2) (h2.2) hJ⟩
theorem zz_51 : st_51 zK zK := by
  intro σ τ a0 hJ
  obtain ⟨r, e1, h1⟩ := zc_591 (zs_rf (key := zs_kC) (kl := zs_lC) hJ.1.1.1) (x1 := a0)
  obtain ⟨r2, e2, h2⟩ := zc_1517 (zs_rf (key := zs_kM) (kl := zs_lM) hJ.1.1.2.1) (x1 := a0)
  exact ⟨r.1, r2.1, r.2, r2.2, e1, e2, zK_keep (h1.1.2) (h2.2) hJ⟩
theorem zz_52 : st_52 zK zK := by
  intro σ τ a0 a1 hJ
  obtain ⟨r, e1, h1⟩ := zc_606 (zs_rf (key := zs_kC) (kl := zs_lC) hJ.1.1.1) (x1 := a0) (x2 := a1)
  obtain ⟨r2, e2, h2⟩ := zc_642 (zs_rf (key := zs_kM) (kl := zs_lM) hJ.1.1.2.1) (x1 := a0) (x2 := a1)
  exact ⟨r.1, r2.1, r.2, r2.2, e1, e2, zK_keep (h1.1.2) (h2.1.2) hJ⟩
theorem zz_53 : st_53 zK zK := by
  intro σ τ a0 a1 a2 a3 hJ
  obtain ⟨r, e1, h1⟩ := zc_643 (zs_rf (key := zs_kC) (kl := zs_lC) hJ.1.1.1) (x1 := a0) (x2 := a1) (x3 := a2) (x4 := a3)
  obtain ⟨r2, e2, h2⟩ := zc_651 (zs_rf (key := zs_kM) (kl := zs_lM) hJ.1.1.2.1) (x1 := a0) (x2 := a1) (x3 := a2) (x4 := a3)
  exact ⟨r.1, r2.1, r.2, r2.2, e1, e2, zK_keep (h1.1.2) (h2.1.2) hJ⟩
theorem zz_54 : st_54 zK zK := by
  intro σ τ a0 hJ
  obtain ⟨r, e1, h1⟩ := zc_654 (zs_rf (key := zs_kC) (kl := zs_lC) hJ.1.1.1) (x1 := a0)
  obtain ⟨r2, e2, h2⟩ := zc_657 (zs_rf (key := zs_kM) (kl := zs_lM) hJ.1.1.2.1) (x1 := a0)
  exact ⟨r.1, r2.1, r.2, r2.2, e1, e2, zK_keep (h1.1.2) (h2.1.2) hJ⟩
theorem zz_55 : st_55 zK zK := by
  intro σ τ hJ
  obtain ⟨r, e1, h1⟩ := zc_662 (zs_rf (key := zs_kC) (kl := zs_lC) hJ.1.1.1) 
  obtain ⟨r2, e2, h2⟩ := zc_667 (zs_rf (key := zs_kM) (kl := zs_lM) hJ.1.1.2.1) 
  exact ⟨r.1, r2.1, r.2, r2.2, e1, e2, zK_keep (h1.2) (h2.2) hJ⟩
theorem zz_56 : st_56 zK zK := by
  intro σ τ a0 a1 a2 hJ
  obtain ⟨r, e1, h1⟩ := zc_1112 (zs_rf (key := zs_kC) (kl := zs_lC) hJ.1.1.1) (x1 := a0) (x2 := a1) (x3 := a2)
  obtain ⟨r2, e2, h2⟩ := zq_chance hJ.1.1.2.1 a0 a1 a2
  exact ⟨r.1, r2.1, r.2, r2.2, e1, e2, zK_keep (h1.1.2) (h2) hJ⟩
theorem zz_57 : st_57 zK zK := by
  intro σ τ a0 a1 a2 hJ
  obtain ⟨r, e1, h1⟩ := zc_1235 (zs_rf (key := zs_kC) (kl := zs_lC) hJ.1.1.1) (x1 := a0) (x2 := a1) (x3 := a2)
  obtain ⟨r2, e2, h2⟩ := zq_fair hJ.1.1.2.1 a0 a1 a2
  exact ⟨r.1, r2.1, r.2, r2.2, e1, e2, zK_keep (h1.1.2) (h2) hJ⟩
theorem zz_58 : st_58 zK zK := by
  intro σ τ a0 a1 hJ
  obtain ⟨r, e1, h1⟩ := zc_1445 (zs_rf (key := zs_kC) (kl := zs_lC) hJ.1.1.1) (x1 := a0) (x2 := a1)
  obtain ⟨r2, e2, h2⟩ := zq_risk hJ.1.1.2.1 a0 a1
  exact ⟨r.1, r2.1, r.2, r2.2, e1, e2, zK_keep (h1.1.2) (h2) hJ⟩
theorem zz_59 : st_59 zK zK := by
  intro σ τ a0 a1 hJ
  obtain ⟨r, σ1, τ1, e1, e2, h⟩ := zK_59 σ τ a0 a1 hJ
  exact ⟨r, r, σ1, τ1, e1, e2, h⟩
theorem zz_60 : st_60 zK zK := by
  intro σ τ a0 a1 hJ
  obtain ⟨r, σ1, τ1, e1, e2, h⟩ := zK_60 σ τ a0 a1 hJ
  exact ⟨r, r, σ1, τ1, e1, e2, h⟩
theorem zz_61 : st_61 zK zK := by
  intro σ τ hJ
  obtain ⟨r, σ1, τ1, e1, e2, h⟩ := zK_61 σ τ hJ
  exact ⟨r, r, σ1, τ1, e1, e2, h⟩
theorem zz_62 : st_62 zK zK := by
  intro σ τ hJ
  obtain ⟨r, σ1, τ1, e1, e2, h⟩ := zK_62 σ τ hJ
  exact ⟨r, r, σ1, τ1, e1, e2, h⟩
theorem zz_63 : st_63 zK zK := by
  intro σ τ a0 a1 hJ
  obtain ⟨r, e1, h1⟩ := zc_1452 (zs_rf (key := zs_kC) (kl := zs_lC) hJ.1.1.1) (x1 := a0) (x2 := a1)
  obtain ⟨r2, e2, h2⟩ := zc_1460 (zs_rf (key := zs_kM) (kl := zs_lM) hJ.1.1.2.1) (x1 := a0) (x2 := a1)
  exact ⟨r.1, r2.1, r.2, r2.2, e1, e2, zK_keep (h1.1.2) (h2.1.2) hJ⟩
theorem zz_64 : st_64 zK zK := by
  intro σ τ a0 a1 a2 hJ
  obtain ⟨r, e1, h1⟩ := zc_1465 (zs_rf (key := zs_kC) (kl := zs_lC) hJ.1.1.1) (x1 := a0) (x2 := a1) (x3 := a2)
  obtain ⟨r2, e2, h2⟩ := zc_1472 (zs_rf (key := zs_kM) (kl := zs_lM) hJ.1.1.2.1) (x1 := a0) (x2 := a1) (x3 := a2)
  exact ⟨r.1, r2.1, r.2, r2.2, e1, e2, zK_keep (h1.1.2) (h2.1.2) hJ⟩
theorem zz_65 : st_65 zK zK := by
  intro σ τ a0 a1 hJ
  obtain ⟨r, σ1, τ1, e1, e2, h⟩ := zK_65 σ τ a0 a1 hJ
  exact ⟨r, r, σ1, τ1, e1, e2, h⟩
theorem zz_66 : st_66 zK zK := by
  intro σ τ a0 hJ
  obtain ⟨r, e1, e2⟩ := zJ_66 σ τ a0 hJ.1
  exact ⟨r, r, e1, e2, hJ⟩
theorem zz_67 : st_67 zK zK := by
  intro σ τ a0 hJ
  obtain ⟨r, σ1, τ1, e1, e2, h⟩ := zK_67 σ τ a0 hJ
  exact ⟨r, r, σ1, τ1, e1, e2, h⟩
theorem zz_68 : st_68 zK zK := by
  intro σ τ a0 hJ
  obtain ⟨r, σ1, τ1, e1, e2, h⟩ := zK_68 σ τ a0 hJ
  exact ⟨r, r, σ1, τ1, e1, e2, h⟩
theorem zz_69 : st_69 zK zK := by
  intro σ τ a0 a1 a2 hJ
  obtain ⟨r, σ1, τ1, e1, e2, h⟩ := zK_69 σ τ a0 a1 a2 hJ
  exact ⟨r, r, σ1, τ1, e1, e2, h⟩
theorem zz_70 : st_70 zK zK := by
  intro σ τ a0 a1 a2 hJ
  obtain ⟨r, σ1, τ1, e1, e2, h⟩ := zK_70 σ τ a0 a1 a2 hJ
  exact ⟨r, r, σ1, τ1, e1, e2, h⟩
theorem zz_71 : st_71 zK zK := by
  intro σ τ a0 a1 a2 a3 a4 hJ
  obtain ⟨r, σ1, τ1, e1, e2, h⟩ := zK_71 σ τ a0 a1 a2 a3 a4 hJ
  exact ⟨r, r, σ1, τ1, e1, e2, h⟩
theorem zJ_ini : zJ sn_iniX8 sn_iniX9 := by
  have z0 : (0 : Int32).toInt = 0 := by decide
  have H : ∀ (h : Nat) (w : Nat → Int32), (∀ k, sn_iniX8.1 (h + 1) k = 0) → (∀ k, k < 11 → w k = 0) → rr_H h sn_iniX8 w := by
    intro h w h1 hw
    unfold rr_H
    rw [h1 5, h1 6, h1 7, h1 8, h1 9, z0]
    exact ⟨fun k hk => by rw [h1 k, hw k hk], fun i hi => absurd hi (by omega), fun i hi => absurd hi (by omega), fun i hi => absurd hi (by omega), fun i hi => absurd hi (by omega), fun i hi => absurd hi (by omega)⟩
  refine ⟨zj_ini, H 1 _ (fun k => rfl) (fun k _ => rfl), fun j hj => H _ _ (fun k => ?_) (fun k _ => rfl)⟩
  match j, hj with
  | 0, _ => rfl
  | 1, _ => rfl
  | 2, _ => rfl
theorem zK_ini : zK sn_iniX8 sn_iniX9 := by
  refine ⟨zJ_ini, ⟨jW_0 (fun _ => rfl), yH_0 (fun _ => rfl) (fun k => rfl)⟩, fun j hj => ⟨jW_0 (fun _ => rfl), yH_0 (fun _ => rfl) (fun k => ?_)⟩, yD_0 (fun _ => rfl) rfl rfl rfl rfl (fun m => rfl)⟩
  match j, hj with
  | 0, _ => rfl
  | 1, _ => rfl
  | 2, _ => rfl
theorem sn_pure : ∃ J : Nat → sn_S → sn_S → Prop, J 0 sn_iniX8 sn_iniX9 ∧ (∀ k, k + 6 ≤ 3072 → st_all (J k) (J (k + 6))) ∧ ∀ k, k + 6 ≤ 3072 → ∀ σ τ, J k σ τ → J (k + 6) σ τ := by
  refine ⟨fun _ => zK, zK_ini, fun _ _ => ⟨zz_0, zz_1, zz_2, zz_3, zz_4, zz_5, zz_6, zz_7, zz_8, zz_9, zz_10, zz_11, zz_12, zz_13, zz_14, zz_15, zz_16, zz_17, zz_18, zz_19, zz_20, zz_21, zz_22, zz_23, zz_24, zz_25, zz_26, zz_27, zz_28, zz_29, zz_30, zz_31, zz_32, zz_33, zz_34, zz_35, zz_36, zz_37, zz_38, zz_39, zz_40, zz_41, zz_42, zz_43, zz_44, zz_45, zz_46, zz_47, zz_48, zz_49, zz_50, zz_51, zz_52, zz_53, zz_54, zz_55, zz_56, zz_57, zz_58, zz_59, zz_60, zz_61, zz_62, zz_63, zz_64, zz_65, zz_66, zz_67, zz_68, zz_69, zz_70, zz_71⟩, fun _ _ _ _ h => h⟩
end
