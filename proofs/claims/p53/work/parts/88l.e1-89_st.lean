section
/-! answers: greatest, longest, together -/
section
variable {σ τ : sn_S}
theorem yb_xor1 (x : Int32) {j : Nat} (hj : j < 32) : sp_bit (x ^^^ (-1 : Int32)) j = !sp_bit x j := by
  have e : (x ^^^ (-1 : Int32)).toBitVec = x.toBitVec ^^^ (-1 : Int32).toBitVec := rfl
  have e1 : (-1 : Int32).toBitVec = BitVec.allOnes 32 := by decide
  rw [yb_tb _ hj, yb_tb _ hj, e, e1, BitVec.getLsbD_xor, BitVec.getLsbD_allOnes]
  simp [hj]
end
end
section
/-! windows of policies, both sides -/
section
variable {σ τ u : sn_S} {w : Nat → Int32} {q : Nat}
theorem yl_5 (hW : jW w) : w 5 = nI (sp_n w 5) ∧ sp_n w 5 ≤ 6 := hW.1.2.2.2.2.2.1
theorem yl_0 (hW : jW w) : w 0 = nI (sp_n w 0) ∧ sp_n w 0 ≤ 30 := hW.1.1
end
end
section
/-! claims, both sides -/
theorem yl_ne {k : Nat} (h : k < 100) : nI k ≠ -1 := by
  intro e
  have h1 := nI_toInt (show k < 2 ^ 31 by omega)
  rw [e, show (-1 : Int32).toInt = -1 by decide] at h1
  omega
section
variable {σ τ u z : sn_S} {w : Nat → Int32} {q : Nat} {l s h : Int32}
/-! the reference's claim -/
end
end
section
/-! the ledger, both sides -/
section
variable {σ τ u z : sn_S} {w : Nat → Int32} {q : Nat} {l : Int32}
/-! calls that change the ledger -/
theorem yk_hv (hK : zK σ τ) : fX8_isHouse σ = some (if 0 < sp_n (τ.1 1) 10 then 1 else 0) := by
  have b := hK.2.1.1.1.2.2.2.2.2.2.2.2.2.2
  have l := b.2
  have e10 : σ.1 2 10 = nI (sp_n (τ.1 1) 10) := (hK.2.1.2.1 10 (by decide)).trans b.1
  rw [yk_isHouse, e10]
  by_cases c : 0 < sp_n (τ.1 1) 10
  · rw [if_neg (nI_nle c (by omega)), if_pos c]
  · have : sp_n (τ.1 1) 10 = 0 := by omega
    rw [this, if_pos (show nI 0 ≤ 0 by decide), if_neg (by decide)]
theorem yr_eq2 {X Y : Option (Int32 × sn_S)} (v : Int32) (hx : yp X (fun r => r.1 = v)) (hy : yp Y (fun s => s.1 = v)) : yr X Y (fun r s => r.1 = s.1) := yr_of hx hy (fun _ _ a b => a.trans b.symm)
end
end
section
/-! a day that is not: copied, changed, lived -/
theorem yp_le {α β : Type} {P : α → Prop} {v : β} {g : β → Option α} (h : ∀ y, y = v → yp (g y) P) : yp (sn_lt v g) P := h v rfl
theorem yc_dcopy {σ : sn_S} {a b : Nat} (hd : b + 10 < a) : yp (fX0_copyFrom σ a b) (fun z => (∀ q, (q < a ∨ a + 10 < q) → z.1 q = σ.1 q) ∧ (∀ k, k < 4 → z.1 a k = σ.1 b k) ∧ (∀ k, k < 30 → z.1 (a + 1) k = σ.1 (b + 1) k) ∧ (∀ k, k < 6 → z.1 (a + 2) k = σ.1 (b + 2) k) ∧ (∀ k, k < 6 → z.1 (a + 3) k = σ.1 (b + 3) k) ∧ (∀ k, k < 6 → z.1 (a + 4) k = σ.1 (b + 4) k) ∧ (∀ k, k < 6 → z.1 (a + 5) k = σ.1 (b + 5) k) ∧ (∀ k, k < 16 → z.1 (a + 6) k = σ.1 (b + 6) k) ∧ (∀ k, k < 180 → z.1 (a + 7) k = σ.1 (b + 7) k) ∧ (∀ k, k < 180 → z.1 (a + 8) k = σ.1 (b + 8) k) ∧ (∀ k, k < 30 → z.1 (a + 9) k = σ.1 (b + 9) k) ∧ (∀ k, k < 6 → z.1 (a + 10) k = σ.1 (b + 10) k)) := by
  unfold fX0_copyFrom
  refine yp_le (fun y1 e1 => yp_le (fun y2 e2 => yp_le (fun y3 e3 => yp_le (fun z0 e4 => ?_))))
  have hb : b ≠ a := by omega
  have r1 : ∀ q, q ≠ a → y1.1 q = σ.1 q := fun q hq => by rw [e1, pI_ne hq]
  have r2 : ∀ q, q ≠ a → y2.1 q = σ.1 q := fun q hq => by rw [e2, pI_ne hq, r1 q hq]
  have r3 : ∀ q, q ≠ a → y3.1 q = σ.1 q := fun q hq => by rw [e3, pI_ne hq, r2 q hq]
  have r0 : ∀ q, q ≠ a → z0.1 q = σ.1 q := fun q hq => by rw [e4, pI_ne hq, r3 q hq]
  have c0 : ∀ k, k < 4 → z0.1 a k = σ.1 b k := fun k hk => by
    match k, hk with
    | 0, _ => rw [e4, pI_slot (by decide), e3, pI_slot (by decide), e2, pI_slot (by decide), e1, pI_self]; rfl
    | 1, _ => rw [e4, pI_slot (by decide), e3, pI_slot (by decide), e2, pI_self]; exact congrFun (r1 b hb) 1
    | 2, _ => rw [e4, pI_slot (by decide), e3, pI_self]; exact congrFun (r2 b hb) 2
    | 3, _ => rw [e4, pI_self]; exact congrFun (r3 b hb) 3
  refine yp_gd (fun _ => yp_le (fun z1 h1 => ?_))
  obtain ⟨p1, q1⟩ := yc_cpy (z := z0) (a := a + 1) (b := b + 1) (L := 30) (by decide)
  rw [← h1] at p1 q1
  refine yp_gd (fun _ => yp_le (fun z2 h2 => ?_))
  obtain ⟨p2, q2⟩ := yc_cpy (z := z1) (a := a + 2) (b := b + 2) (L := 6) (by decide)
  rw [← h2] at p2 q2
  refine yp_gd (fun _ => yp_le (fun z3 h3 => ?_))
  obtain ⟨p3, q3⟩ := yc_cpy (z := z2) (a := a + 3) (b := b + 3) (L := 6) (by decide)
  rw [← h3] at p3 q3
  refine yp_gd (fun _ => yp_le (fun z4 h4 => ?_))
  obtain ⟨p4, q4⟩ := yc_cpy (z := z3) (a := a + 4) (b := b + 4) (L := 6) (by decide)
  rw [← h4] at p4 q4
  refine yp_gd (fun _ => yp_le (fun z5 h5 => ?_))
  obtain ⟨p5, q5⟩ := yc_cpy (z := z4) (a := a + 5) (b := b + 5) (L := 6) (by decide)
  rw [← h5] at p5 q5
  refine yp_gd (fun _ => yp_le (fun z6 h6 => ?_))
  obtain ⟨p6, q6⟩ := yc_cpy (z := z5) (a := a + 6) (b := b + 6) (L := 16) (by decide)
  rw [← h6] at p6 q6
  refine yp_gd (fun _ => yp_le (fun z7 h7 => ?_))
  obtain ⟨p7, q7⟩ := yc_cpy (z := z6) (a := a + 7) (b := b + 7) (L := 180) (by decide)
  rw [← h7] at p7 q7
  refine yp_gd (fun _ => yp_le (fun z8 h8 => ?_))
  obtain ⟨p8, q8⟩ := yc_cpy (z := z7) (a := a + 8) (b := b + 8) (L := 180) (by decide)
  rw [← h8] at p8 q8
  refine yp_gd (fun _ => yp_le (fun z9 h9 => ?_))
  obtain ⟨p9, q9⟩ := yc_cpy (z := z8) (a := a + 9) (b := b + 9) (L := 30) (by decide)
  rw [← h9] at p9 q9
  refine yp_gd (fun _ => yp_le (fun z10 h10 => ?_))
  obtain ⟨p10, q10⟩ := yc_cpy (z := z9) (a := a + 10) (b := b + 10) (L := 6) (by decide)
  rw [← h10] at p10 q10
  refine yp_some ⟨fun q hq => ?_, fun k hk => ?_, fun k hk => ?_, fun k hk => ?_, fun k hk => ?_, fun k hk => ?_, fun k hk => ?_, fun k hk => ?_, fun k hk => ?_, fun k hk => ?_, fun k hk => ?_, fun k hk => ?_⟩
  · rw [p10 q (by omega), p9 q (by omega), p8 q (by omega), p7 q (by omega), p6 q (by omega), p5 q (by omega), p4 q (by omega), p3 q (by omega), p2 q (by omega), p1 q (by omega), r0 q (by omega)]
  · rw [p10 a (by omega), p9 a (by omega), p8 a (by omega), p7 a (by omega), p6 a (by omega), p5 a (by omega), p4 a (by omega), p3 a (by omega), p2 a (by omega), p1 a (by omega), c0 k hk]
  · rw [p10 (a + 1) (by omega), p9 (a + 1) (by omega), p8 (a + 1) (by omega), p7 (a + 1) (by omega), p6 (a + 1) (by omega), p5 (a + 1) (by omega), p4 (a + 1) (by omega), p3 (a + 1) (by omega), p2 (a + 1) (by omega), q1 k, if_pos hk, r0 (b + 1) (by omega)]
  · rw [p10 (a + 2) (by omega), p9 (a + 2) (by omega), p8 (a + 2) (by omega), p7 (a + 2) (by omega), p6 (a + 2) (by omega), p5 (a + 2) (by omega), p4 (a + 2) (by omega), p3 (a + 2) (by omega), q2 k, if_pos hk, p1 (b + 2) (by omega), r0 (b + 2) (by omega)]
  · rw [p10 (a + 3) (by omega), p9 (a + 3) (by omega), p8 (a + 3) (by omega), p7 (a + 3) (by omega), p6 (a + 3) (by omega), p5 (a + 3) (by omega), p4 (a + 3) (by omega), q3 k, if_pos hk, p2 (b + 3) (by omega), p1 (b + 3) (by omega), r0 (b + 3) (by omega)]
  · rw [p10 (a + 4) (by omega), p9 (a + 4) (by omega), p8 (a + 4) (by omega), p7 (a + 4) (by omega), p6 (a + 4) (by omega), p5 (a + 4) (by omega), q4 k, if_pos hk, p3 (b + 4) (by omega), p2 (b + 4) (by omega), p1 (b + 4) (by omega), r0 (b + 4) (by omega)]
  · rw [p10 (a + 5) (by omega), p9 (a + 5) (by omega), p8 (a + 5) (by omega), p7 (a + 5) (by omega), p6 (a + 5) (by omega), q5 k, if_pos hk, p4 (b + 5) (by omega), p3 (b + 5) (by omega), p2 (b + 5) (by omega), p1 (b + 5) (by omega), r0 (b + 5) (by omega)]
  · rw [p10 (a + 6) (by omega), p9 (a + 6) (by omega), p8 (a + 6) (by omega), p7 (a + 6) (by omega), q6 k, if_pos hk, p5 (b + 6) (by omega), p4 (b + 6) (by omega), p3 (b + 6) (by omega), p2 (b + 6) (by omega), p1 (b + 6) (by omega), r0 (b + 6) (by omega)]
  · rw [p10 (a + 7) (by omega), p9 (a + 7) (by omega), p8 (a + 7) (by omega), q7 k, if_pos hk, p6 (b + 7) (by omega), p5 (b + 7) (by omega), p4 (b + 7) (by omega), p3 (b + 7) (by omega), p2 (b + 7) (by omega), p1 (b + 7) (by omega), r0 (b + 7) (by omega)]
  · rw [p10 (a + 8) (by omega), p9 (a + 8) (by omega), q8 k, if_pos hk, p7 (b + 8) (by omega), p6 (b + 8) (by omega), p5 (b + 8) (by omega), p4 (b + 8) (by omega), p3 (b + 8) (by omega), p2 (b + 8) (by omega), p1 (b + 8) (by omega), r0 (b + 8) (by omega)]
  · rw [p10 (a + 9) (by omega), q9 k, if_pos hk, p8 (b + 9) (by omega), p7 (b + 9) (by omega), p6 (b + 9) (by omega), p5 (b + 9) (by omega), p4 (b + 9) (by omega), p3 (b + 9) (by omega), p2 (b + 9) (by omega), p1 (b + 9) (by omega), r0 (b + 9) (by omega)]
  · rw [q10 k, if_pos hk, p9 (b + 10) (by omega), p8 (b + 10) (by omega), p7 (b + 10) (by omega), p6 (b + 10) (by omega), p5 (b + 10) (by omega), p4 (b + 10) (by omega), p3 (b + 10) (by omega), p2 (b + 10) (by omega), p1 (b + 10) (by omega), r0 (b + 10) (by omega)]
def dy_dustSet (i : dy_I) (f : Nat → Int32) : dy_I := (dy_P i, dy_keen i, dy_lim i, dy_held i, dy_snuf i, f, dy_na i, dy_nb i, dy_nN i, dy_no i)
section
variable {σ τ u z : sn_S} {w : Nat → Int32}
/-- the trial is told what the day was, and lived as it was -/
theorem yc_trial {a : Nat} (hW : jW w) (hD : yD σ w) (ha : 37 < a) : yp (fX0_copyFrom σ a 27) (fun z => (∀ q, (q < a ∨ a + 10 < q) → z.1 q = σ.1 q) ∧ z.1 a 0 = nI (sp_n w 0) ∧ yd_T a z (hs_day w) ∧ yd_L a z (hs_day w) (sp_n w 0)) := by
  have c5 := (yl_5 hW).2
  have c0 := (yl_0 hW).2
  have c7 := hW.1.2.2.2.2.2.2.2.1.2
  obtain ⟨d0, ⟨t1, t2, t3, t4, t5, t6⟩, l1, l2⟩ := hD
  refine yp_w (yc_dcopy (by omega)) (fun z hz => ?_)
  obtain ⟨hr, h0, h1, h2, h3, h4, h5, h6, h7, h8, h9, h10⟩ := hz
  refine ⟨hr, (h0 0 (by decide)).trans d0, ⟨(h0 1 (by decide)).trans t1, (h0 2 (by decide)).trans t2, (h0 3 (by decide)).trans t3, fun m hm => (h1 m hm).trans (t4 m hm), fun p hp => ?_, fun k hk => ?_⟩, fun m hm => ⟨(h9 m (by omega)).trans (l1 m hm).1, fun p hp => ?_⟩, fun p hp => ?_⟩
  · have g := t5 p hp
    have hp : p < sp_n w 5 := hp
    exact ⟨(h2 p (by omega)).trans g.1, (h3 p (by omega)).trans g.2.1, (h4 p (by omega)).trans g.2.2.1, (h5 p (by omega)).trans g.2.2.2⟩
  · have g := t6 k hk
    have hk : k < sp_n w 7 := hk
    exact ⟨(h6 _ (by omega)).trans g.1, (h6 _ (by omega)).trans g.2⟩
  · have g := (l1 m hm).2 p hp
    have hp : p < sp_n w 5 := hp
    exact ⟨(h7 _ (by omega)).trans g.1, (h8 _ (by omega)).trans g.2⟩
  · have g := l2 p hp
    have hp : p < sp_n w 5 := hp
    exact (h10 p (by omega)).trans g
/-! nets cut -/
end
end
section
/-! days alike in their first n minutes -/
def dy_EP (n : Nat) (i j : dy_I) : Prop := dy_P i = dy_P j ∧ dy_nN i = dy_nN j ∧ dy_no i = dy_no j ∧ (∀ p, p < dy_P i → dy_keen i p = dy_keen j p ∧ dy_lim i p = dy_lim j p) ∧ (∀ m, m < n → dy_dust i m = dy_dust j m ∧ ∀ p, p < dy_P i → sp_bit (dy_held i p) m = sp_bit (dy_held j p) m ∧ sp_bit (dy_snuf i p) m = sp_bit (dy_snuf j p) m) ∧ ∀ k, k < dy_nN i → dy_na i k = dy_na j k ∧ dy_nb i k = dy_nb j k
section
variable {n : Nat} {i j : dy_I}
theorem dy_EPs (h : dy_EP n i j) : dy_EP n j i := by
  obtain ⟨h1, h2, h3, h4, h5, h6⟩ := h
  refine ⟨h1.symm, h2.symm, h3.symm, fun p hp => ?_, fun m hm => ⟨(h5 m hm).1.symm, fun p hp => ?_⟩, fun k hk => ?_⟩
  · have g := h4 p (by rw [h1]; exact hp)
    exact ⟨g.1.symm, g.2.symm⟩
  · have g := (h5 m hm).2 p (by rw [h1]; exact hp)
    exact ⟨g.1.symm, g.2.symm⟩
  · have g := h6 k (by rw [h2]; exact hk)
    exact ⟨g.1.symm, g.2.symm⟩
theorem dy_byP (h : dy_EP n i j) (s : Int32) (p : Nat) : dy_by i s p = dy_by j s p := by
  unfold dy_by
  rw [← h.2.1, ← h.2.2.1, dy_cntE _ h.2.2.2.2.2]
theorem dy_moreP (h : dy_EP n i j) (s : Int32) {m p : Nat} (hm : m < n) (hp : p < dy_P i) : dy_more i s m p = dy_more j s m p := by
  unfold dy_more
  rw [dy_byP h, (h.2.2.2.1 p hp).1, (h.2.2.2.2.1 m hm).1, ((h.2.2.2.2.1 m hm).2 p hp).2]
theorem dy_doesP (h : dy_EP n i j) (t s : Int32) {m p : Nat} (hm : m < n) (hp : p < dy_P i) : dy_does i t s m p = dy_does j t s m p := by
  unfold dy_does
  rw [dy_moreP h s hm hp, (h.2.2.2.1 p hp).2, ((h.2.2.2.2.1 m hm).2 p hp).1]
theorem dy_stP (h : dy_EP n i j) : ∀ m, m ≤ n → (∀ p, p < dy_P i → (dy_st i m).1 p = (dy_st j m).1 p) ∧ (dy_st i m).2 = (dy_st j m).2 := by
  intro m
  induction m with
  | zero => intro _; exact ⟨fun _ _ => rfl, rfl⟩
  | succ m ih =>
    intro hm
    have ih := ih (by omega)
    refine ⟨fun p hp => ?_, ?_⟩
    · show (if dy_does i ((dy_st i m).1 p) (dy_st i m).2 m p = true then 0 else (dy_st i m).1 p + dy_more i (dy_st i m).2 m p) = (if dy_does j ((dy_st j m).1 p) (dy_st j m).2 m p = true then 0 else (dy_st j m).1 p + dy_more j (dy_st j m).2 m p)
      rw [ih.1 p hp, ih.2, dy_doesP h _ _ (by omega) hp, dy_moreP h _ (by omega) hp]
    · show dy_set (fun p => dy_does i ((dy_st i m).1 p) (dy_st i m).2 m p) (dy_P i) = dy_set (fun p => dy_does j ((dy_st j m).1 p) (dy_st j m).2 m p) (dy_P j)
      rw [← h.1]
      exact dy_setE _ (fun p hp => by rw [ih.1 p hp, ih.2, dy_doesP h _ _ (by omega) hp])
theorem dy_snP (h : dy_EP n i j) {m p : Nat} (hm : m ≤ n) (hp : p < dy_P i) : dy_sn i m p = dy_sn j m p := dy_setE _ (fun k hk => by rw [(dy_stP h k (by omega)).1 p hp, (dy_stP h k (by omega)).2, dy_doesP h _ _ (by omega) hp])
theorem yd_L0P {q e : Nat} {σ : sn_S} (h : dy_EP n i j) (he : e ≤ n) (hL : yd_L0 q σ i e) : yd_L0 q σ j e := fun m hm => by
  have g := hL m hm
  have s := dy_stP h (m + 1) (by omega)
  have s0 := dy_stP h m (by omega)
  refine ⟨g.1.trans s.2, fun p hp => ?_⟩
  rw [← h.1] at hp
  have g2 := g.2 p hp
  refine ⟨g2.1.trans (s.1 p hp), g2.2.trans ?_⟩
  show dy_by i (dy_st i m).2 p = dy_by j (dy_st j m).2 p
  rw [s0.2, dy_byP h]
theorem dy_snlow {M m p : Nat} (hm : m ≤ M) (hM : M ≤ 30) : dy_sn i M p &&& (((1 : Int32) <<< (nI m &&& 31)) - 1) = dy_sn i m p := yb_ext (fun k hk => by
  rw [yb_and _ _ hk, yb_low m (by omega) k hk]
  unfold dy_sn
  rw [yb_set M (by omega) k hk, yb_set m (by omega) k hk]
  by_cases c : k < m
  · rw [decide_eq_true c, decide_eq_true (show k < M by omega), Bool.and_true, Bool.true_and]
  · rw [decide_eq_false c, Bool.and_false, Bool.false_and])
end
/-! snuff by which a claim grows -/
section
variable {σ τ u z : sn_S} {w : Nat → Int32} {q : Nat} {l : Int32}
/-! the reference's -/
end
end
section
/-! which gust it was: sums over the gusts that could have been -/
theorem ye_32 {x : Int64} {n : Nat} (hx : x.toInt = (n : Int)) (hn : n < 2 ^ 31) : x.toInt32 = nI n := by
  apply Int32.toInt_inj.mp
  rw [Int64.toInt_toInt32, hx, nI_toInt hn]
  exact Int.bmod_eq_of_le (by omega) (by omega)
def ye_nd (a b : Nat → Nat) (p k : Nat) : Nat → Bool
  | 0 => false
  | n + 1 => ye_nd a b p k n || (decide (p = a n) && decide (k = b n))
theorem ye_ndE {a b : Nat → Nat} {p k : Nat} : ∀ n, ye_nd a b p k n = true ↔ ∃ i, i < n ∧ a i = p ∧ b i = k := by
  intro n
  induction n with
  | zero => exact ⟨fun h => absurd (show false = true from h) (by decide), fun ⟨i, hi, _⟩ => absurd hi (by omega)⟩
  | succ n ih =>
    show (ye_nd a b p k n || (decide (p = a n) && decide (k = b n))) = true ↔ _
    rw [Bool.or_eq_true, Bool.and_eq_true, decide_eq_true_eq, decide_eq_true_eq, ih]
    constructor
    · rintro (⟨i, hi, e1, e2⟩ | ⟨e1, e2⟩)
      · exact ⟨i, by omega, e1, e2⟩
      · exact ⟨n, by omega, e1.symm, e2.symm⟩
    · rintro ⟨i, hi, e1, e2⟩
      by_cases c : i = n
      · subst c
        exact Or.inr ⟨e1.symm, e2.symm⟩
      · exact Or.inl ⟨i, by omega, e1, e2⟩
def ye_all (f : Nat → Bool) : Nat → Bool
  | 0 => true
  | n + 1 => ye_all f n && f n
theorem ye_allE {f : Nat → Bool} : ∀ n, ye_all f n = true ↔ ∀ i, i < n → f i = true := by
  intro n
  induction n with
  | zero => exact ⟨fun _ i hi => absurd hi (by omega), fun _ => rfl⟩
  | succ n ih =>
    show (ye_all f n && f n) = true ↔ _
    rw [Bool.and_eq_true, ih]
    constructor
    · intro h i hi
      by_cases c : i = n
      · subst c; exact h.2
      · exact h.1 i (by omega)
    · exact fun h => ⟨fun i hi => h i (by omega), h n (by omega)⟩
def ye_fold {α : Type} (ok : Nat → Bool) (f : α → Nat → α) (x : α) : Nat → α
  | 0 => x
  | t + 1 => if ok t = true then f (ye_fold ok f x t) t else ye_fold ok f x t
def ye_cnt (ok : Nat → Bool) : Nat → Nat
  | 0 => 0
  | t + 1 => if ok t = true then ye_cnt ok t + 1 else ye_cnt ok t
section
variable {α : Type} {ok : Nat → Bool} {f : α → Nat → α} {x : α} {t : Nat}
theorem ye_ft (h : ok t = true) : ye_fold ok f x (t + 1) = f (ye_fold ok f x t) t := by
  show (if ok t = true then f (ye_fold ok f x t) t else ye_fold ok f x t) = _
  rw [if_pos h]
theorem ye_ff (h : ok t = false) : ye_fold ok f x (t + 1) = ye_fold ok f x t := by
  show (if ok t = true then f (ye_fold ok f x t) t else ye_fold ok f x t) = _
  rw [if_neg (by rw [h]; decide)]
theorem ye_ct (h : ok t = true) : ye_cnt ok (t + 1) = ye_cnt ok t + 1 := by
  show (if ok t = true then ye_cnt ok t + 1 else ye_cnt ok t) = _
  rw [if_pos h]
theorem ye_cf (h : ok t = false) : ye_cnt ok (t + 1) = ye_cnt ok t := by
  show (if ok t = true then ye_cnt ok t + 1 else ye_cnt ok t) = _
  rw [if_neg (by rw [h]; decide)]
theorem ye_mono : ∀ T t, t ≤ T → ye_cnt ok t ≤ ye_cnt ok T := by
  intro T
  induction T with
  | zero =>
    intro t h
    rw [show t = 0 by omega]
    exact Nat.le_refl _
  | succ T ih =>
    intro t h
    by_cases c : t = T + 1
    · rw [c]
      exact Nat.le_refl _
    · have g := ih t (by omega)
      cases e : ok T with
      | true => rw [ye_ct e]; omega
      | false => rw [ye_cf e]; omega
theorem ye_same : ∀ T t, t ≤ T → ye_cnt ok t = ye_cnt ok T → ye_fold ok f x t = ye_fold ok f x T := by
  intro T
  induction T with
  | zero =>
    intro t h _
    rw [show t = 0 by omega]
  | succ T ih =>
    intro t h c
    by_cases e : t = T + 1
    · rw [e]
    · have m := ye_mono (ok := ok) T t (by omega)
      cases o : ok T with
      | true => rw [ye_ct o] at c; omega
      | false =>
        rw [ye_cf o] at c
        rw [ye_ff o]
        exact ih t (by omega) c
theorem ye_next : ∀ d t T, t + d = T → ye_cnt ok t < ye_cnt ok T → ∃ t', t ≤ t' ∧ t' < T ∧ ok t' = true ∧ ye_cnt ok t' = ye_cnt ok t ∧ ye_fold ok f x t' = ye_fold ok f x t := by
  intro d
  induction d with
  | zero =>
    intro t T h c
    rw [show t = T by omega] at c
    omega
  | succ d ih =>
    intro t T h c
    cases o : ok t with
    | true => exact ⟨t, Nat.le_refl _, by omega, o, rfl, rfl⟩
    | false =>
      have k1 : ye_cnt ok (t + 1) = ye_cnt ok t := ye_cf o
      obtain ⟨t', h1, h2, h3, h4, h5⟩ := ih (t + 1) T (by omega) (by omega)
      exact ⟨t', by omega, h2, h3, h4.trans k1, h5.trans (ye_ff o)⟩
theorem ye_none : ∀ T t0, t0 ≤ T → (∀ t, t0 ≤ t → t < T → ok t = false) → ye_cnt ok t0 = ye_cnt ok T := by
  intro T
  induction T with
  | zero =>
    intro t0 h _
    rw [show t0 = 0 by omega]
  | succ T ih =>
    intro t0 h g
    by_cases e : t0 = T + 1
    · rw [e]
    · rw [ye_cf (g T (by omega) (by omega))]
      exact ih t0 (by omega) (fun t h1 h2 => g t h1 (by omega))
end
section
variable {σ τ u z : sn_S} {w : Nat → Int32} {ok : Nat → Bool} {a b : Nat → Nat} {N m n p t : Nat}
def ye_j (w : Nat → Int32) (m : Nat) (y : Int32) : dy_I := dy_dustSet (hs_day w) (fun k => if k = m then y else hs_dust w k (sp_n w 6))
def ye_d (w : Nat → Int32) (t : Nat) : dy_I := ye_j w (t / 9) (hs_dust w (t / 9) (sp_n w 6) + nI (t % 9 + 1))
def ye_s (w : Nat → Int32) (t p : Nat) : Int32 := dy_sn (ye_d w t) (sp_n w 0) p
def ye_ok (w : Nat → Int32) (a b : Nat → Nat) (N t : Nat) : Bool := ye_all (fun i => sp_bit (ye_s w t (a i)) (b i)) N
def ye_p (w : Nat → Int32) (t p : Nat) : Nat := yb_pop (ye_s w t p) 30
def ye_c (w : Nat → Int32) (ok : Nat → Bool) (p o : Nat) : Nat → Nat := ye_fold ok (fun n t => if ye_p w t p = o then n + 1 else n) 0
def ye_w (ok : Nat → Bool) : Nat → Int32 := ye_fold ok (fun x t => x ||| ((1 : Int32) <<< (nI (t / 9) &&& 31))) 0
def ye_f (ok : Nat → Bool) : Nat → Int32 := ye_fold ok (fun x t => if x = -1 then nI (10 * (t / 9) + (t % 9 + 1)) else x) (-1)
theorem yi_m {k : Nat} (h : k < 2 ^ 31) : nI k ≠ -1 := fun e => by
  have g : (nI k).toInt = (-1 : Int32).toInt := congrArg Int32.toInt e
  rw [nI_toInt h, show (-1 : Int32).toInt = -1 by decide] at g
  omega
theorem ye_f1 : ∀ t, t < 1000 → ((ye_cnt ok t = 0 → ye_f ok t = -1) ∧ (ye_cnt ok t ≠ 0 → ye_f ok t ≠ -1)) := by
  intro t
  induction t with
  | zero => exact fun _ => ⟨fun _ => rfl, fun h => absurd rfl h⟩
  | succ t ih =>
    intro h
    have ih := ih (by omega)
    cases o : ok t with
    | true =>
      rw [ye_ct o]
      refine ⟨fun h => absurd h (by omega), fun _ => ?_⟩
      have e : ye_f ok (t + 1) = if ye_f ok t = -1 then nI (10 * (t / 9) + (t % 9 + 1)) else ye_f ok t := ye_ft o
      rw [e]
      by_cases c : ye_f ok t = -1
      · rw [if_pos c]
        exact yi_m (by omega)
      · rw [if_neg c]
        exact c
    | false =>
      have e : ye_f ok (t + 1) = ye_f ok t := ye_ff o
      rw [ye_cf o, e]
      exact ih
theorem ye_cle : ∀ t, ye_cnt ok t ≤ t := by
  intro t
  induction t with
  | zero => exact Nat.le_refl _
  | succ t ih =>
    cases o : ok t with
    | true => rw [ye_ct o]; omega
    | false => rw [ye_cf o]; omega
theorem ye_ccle {o : Nat} : ∀ t, ye_c w ok p o t ≤ t := by
  intro t
  induction t with
  | zero => exact Nat.le_refl _
  | succ t ih =>
    cases e : ok t with
    | true =>
      have k : ye_c w ok p o (t + 1) = if ye_p w t p = o then ye_c w ok p o t + 1 else ye_c w ok p o t := ye_ft e
      rw [k]
      split
      · omega
      · omega
    | false =>
      have k : ye_c w ok p o (t + 1) = ye_c w ok p o t := ye_ff e
      rw [k]
      omega
theorem ye_EP {y : Int32} : dy_EP m (hs_day w) (ye_j w m y) := by
  refine ⟨rfl, rfl, rfl, fun _ _ => ⟨rfl, rfl⟩, fun k hk => ⟨?_, fun _ _ => ⟨rfl, rfl⟩⟩, fun _ _ => ⟨rfl, rfl⟩⟩
  show hs_dust w k (sp_n w 6) = (if k = m then y else hs_dust w k (sp_n w 6))
  rw [if_neg (by omega)]
theorem ye_low {k : Nat} {y : Int32} (c0 : sp_n w 0 ≤ 30) (hk : k < m) (hm : m ≤ sp_n w 0) (hp : p < sp_n w 5) : sp_bit (dy_sn (ye_j w m y) (sp_n w 0) p) k = sp_bit (dy_sn (hs_day w) (sp_n w 0) p) k := by
  have l : ∀ i : dy_I, sp_bit (dy_sn i (sp_n w 0) p) k = sp_bit (dy_sn i m p) k := fun i => by
    have e : sp_bit (dy_sn i (sp_n w 0) p &&& (((1 : Int32) <<< (nI m &&& 31)) - 1)) k = sp_bit (dy_sn i m p) k := by rw [dy_snlow hm c0]
    rw [yb_and _ _ (by omega), yb_low m (by omega) k (by omega), decide_eq_true hk, Bool.and_true] at e
    exact e
  rw [l, l, dy_snP (ye_EP (w := w) (m := m) (y := y)) (Nat.le_refl _) hp]
def ye_C (w : Nat → Int32) (nd S : Nat → Nat → Bool) (n : Nat) : Prop := ∀ p, p < sp_n w 5 → ∀ k, k < n → nd p k = true → S p k = true
theorem ye_Cok (ha : ∀ i, i < N → a i < sp_n w 5 ∧ b i < sp_n w 0) : ye_C w (fun p k => ye_nd a b p k N) (fun p k => sp_bit (ye_s w t p) k) (sp_n w 0) ↔ ye_ok w a b N t = true := by
  unfold ye_ok
  rw [ye_allE]
  constructor
  · intro h i hi
    exact h (a i) (ha i hi).1 (b i) (ha i hi).2 ((ye_ndE N).mpr ⟨i, hi, rfl, rfl⟩)
  · intro h p _ k _ hn
    obtain ⟨i, hi, e1, e2⟩ := (ye_ndE N).mp hn
    subst e1
    subst e2
    exact h i hi
/-- no gust from minute m on could have been, if a sneeze told of ahead of m is none -/
theorem ye_late (c0 : sp_n w 0 ≤ 30) (hm : m ≤ sp_n w 0) (ha : ∀ i, i < N → a i < sp_n w 5 ∧ b i < sp_n w 0) (h : ¬ ye_C w (fun p k => ye_nd a b p k N) (fun p k => sp_bit (dy_sn (hs_day w) (sp_n w 0) p) k) m) : ∀ t, 9 * m ≤ t → t < 9 * sp_n w 0 → ye_ok w a b N t = false := fun t h1 h2 => by
  cases c : ye_ok w a b N t with
  | false => rfl
  | true =>
    refine absurd (fun p hp k hk hn => ?_) h
    have g : sp_bit (ye_s w t p) k = true := (ye_Cok ha).mpr c p hp k (by omega) hn
    show sp_bit (dy_sn (hs_day w) (sp_n w 0) p) k = true
    rw [← g]
    exact (ye_low c0 (show k < t / 9 by omega) (by omega) hp).symm
/-! the class: what is noted -/
def ye_N (w : Nat → Int32) (ok : Nat → Bool) (t : Nat) (z : sn_S) : Prop := z.1 54 1 = nI (ye_cnt ok t) ∧ z.1 54 2 = ye_w ok t ∧ z.1 54 3 = ye_f ok t ∧ ∀ p, p < sp_n w 5 → ∀ o, o < 31 → z.1 56 (31 * p + o) = nI (ye_c w ok p o t)
theorem ye_Nc (e4 : u.1 54 = z.1 54) (e6 : u.1 56 = z.1 56) (h : ye_N w ok t z) : ye_N w ok t u := by
  unfold ye_N
  rw [e4, e6]
  exact h
theorem ye_Nt {T : Nat} (hT : t ≤ T) (h : ∀ k, t ≤ k → k < T → ok k = false) (hN : ye_N w ok t z) : ye_N w ok T z := by
  have c := ye_none T t hT h
  obtain ⟨n1, n2, n3, n4⟩ := hN
  have w2 : ye_w ok t = ye_w ok T := ye_same T t hT c
  have w3 : ye_f ok t = ye_f ok T := ye_same T t hT c
  refine ⟨by rw [← c]; exact n1, by rw [← w2]; exact n2, by rw [← w3]; exact n3, fun p hp o ho => ?_⟩
  have w4 : ye_c w ok p o t = ye_c w ok p o T := ye_same T t hT c
  rw [← w4]
  exact n4 p hp o ho
theorem yc_meets {nd S : Nat → Nat → Bool} (hn : n ≤ 30) (hP : sp_n w 5 ≤ 6) (h1 : z.1 38 1 = nI (sp_n w 5)) (h55 : ∀ p, p < 6 → ∀ k, k < 32 → sp_bit (z.1 55 p) k = nd p k) (h48 : ∀ p, p < sp_n w 5 → ∀ k, k < n → sp_bit (z.1 48 p) k = S p k) : yp (fX7_meets z 38 (((1 : Int32) <<< (nI n &&& 31)) - 1)) (fun r => (r = 1 ∧ ye_C w nd S n) ∨ (r = 0 ∧ ¬ ye_C w nd S n)) := by
  unfold fX7_meets
  refine yp_bd (fun t : Unit ⊕ Int32 => (t = Sum.inl () ∧ ye_C w nd S n) ∨ (t = Sum.inr 0 ∧ ¬ ye_C w nd S n)) (yp_it (fun s : Int32 => ∃ q, q ≤ sp_n w 5 ∧ s = nI q ∧ ∀ p, p < q → ∀ k, k < n → nd p k = true → S p k = true) (fun s hs => ?_) _ _ (by exact ⟨0, Nat.zero_le _, nI_0.symm, fun p hp => absurd hp (by omega)⟩)) (fun t ht => ?_)
  · obtain ⟨q, hq, es, h⟩ := hs
    subst es
    show yp (BX7_meets_2 z 38 _ (nI q)) _
    unfold BX7_meets_2
    rw [show sn_I z 38 1 = nI (sp_n w 5) from h1]
    by_cases c : q < sp_n w 5
    · have e5 : ∀ k, k < 32 → sp_bit (sn_I z 55 q) k = nd q k := h55 q (by omega)
      have e8 : ∀ k, k < n → sp_bit (sn_I z (38 + 10) q) k = S q k := h48 q c
      rw [if_neg (nI_ge c (by omega)), nI_clamp (show q < 2 ^ 31 by omega)]
      refine yp_gd (fun _ => yp_gd (fun _ => ?_))
      have e : (sn_I z 55 q &&& (((1 : Int32) <<< (nI n &&& 31)) - 1)) &&& (sn_I z (38 + 10) q ^^^ (-1 : Int32)) = 0 ↔ ∀ k, k < n → nd q k = true → S q k = true := by
        constructor
        · intro e k hk hnd
          have b0 : sp_bit ((sn_I z 55 q &&& (((1 : Int32) <<< (nI n &&& 31)) - 1)) &&& (sn_I z (38 + 10) q ^^^ (-1 : Int32))) k = sp_bit 0 k := by rw [e]
          rw [yb_and _ _ (by omega), yb_and _ _ (by omega), yb_xor1 _ (by omega), yb_low n (by omega) k (by omega), yb_z k (by omega), decide_eq_true hk, Bool.and_true, e5 k (by omega), hnd, Bool.true_and, e8 k hk] at b0
          cases d : S q k with
          | true => rfl
          | false =>
            rw [d] at b0
            exact absurd b0 (by decide)
        · intro g
          refine yb_ext (fun k hk => ?_)
          rw [yb_and _ _ hk, yb_and _ _ hk, yb_xor1 _ hk, yb_low n (by omega) k hk, yb_z k hk, e5 k hk]
          by_cases d : k < n
          · rw [e8 k d]
            cases e1 : nd q k with
            | false => rw [Bool.false_and, Bool.false_and]
            | true => rw [g k d e1, Bool.not_true, Bool.and_false]
          · rw [decide_eq_false d, Bool.and_false, Bool.false_and]
      refine yp_ite (fun c2 => yp_lt (yp_some ?_)) (fun c2 => yp_gd (fun _ => yp_some ?_))
      · refine ⟨q + 1, c, nI_1 q, fun p hp => ?_⟩
        by_cases d : p = q
        · subst d
          exact e.mp c2
        · exact h p (by omega)
      · exact Or.inr ⟨rfl, fun g => c2 (e.mpr (g q c))⟩
    · rw [if_pos (nI_le (show sp_n w 5 ≤ q by omega) (by omega))]
      exact yp_some (Or.inl ⟨rfl, fun p hp => h p (by omega)⟩)
  · rcases ht with ⟨e, h⟩ | ⟨e, h⟩
    · subst e
      show yp (BX7_meets_38 z 38) _
      unfold BX7_meets_38
      exact yp_gd (fun _ => yp_some (Or.inl ⟨rfl, h⟩))
    · subst e
      exact yp_some (Or.inr ⟨rfl, h⟩)
theorem yc_note (c0 : sp_n w 0 ≤ 30) (c5 : sp_n w 5 ≤ 6) (hm : m < 30) (e9 : t / 9 = m) {g : Nat} (eg : t % 9 + 1 = g) (hok : ok t = true) (h1 : z.1 38 1 = nI (sp_n w 5)) (h48 : ∀ p, p < sp_n w 5 → z.1 48 p = ye_s w t p) (hN : ye_N w ok t z) : yp (fX7_note z 38 (nI m) (nI g)) (fun v => (∀ a, a ≠ 54 → a ≠ 56 → v.1 a = z.1 a) ∧ ye_N w ok (t + 1) v) := by
  obtain ⟨n1, n2, n3, n4⟩ := hN
  have cl := ye_cle (ok := ok) t
  have ht : t < 1000 := by omega
  have k2 : ye_w ok (t + 1) = ye_w ok t ||| ((1 : Int32) <<< (nI m &&& 31)) := by
    have k : ye_w ok (t + 1) = ye_w ok t ||| ((1 : Int32) <<< (nI (t / 9) &&& 31)) := ye_ft hok
    rw [k, e9]
  have k3 : ye_f ok (t + 1) = if ye_f ok t = -1 then nI (10 * m + g) else ye_f ok t := by
    have k : ye_f ok (t + 1) = if ye_f ok t = -1 then nI (10 * (t / 9) + (t % 9 + 1)) else ye_f ok t := ye_ft hok
    rw [k, e9, eg]
  have k4 : ∀ p o, ye_c w ok p o (t + 1) = if ye_p w t p = o then ye_c w ok p o t + 1 else ye_c w ok p o t := fun p o => ye_ft hok
  have key : ∀ y : sn_S, (∀ a, a ≠ 54 → y.1 a = z.1 a) → y.1 54 1 = nI (ye_cnt ok t) → y.1 54 2 = ye_w ok t → y.1 54 3 = ye_f ok (t + 1) → yp (BX7_note_17 y 38 (nI m)) (fun v => (∀ a, a ≠ 54 → a ≠ 56 → v.1 a = z.1 a) ∧ ye_N w ok (t + 1) v) := fun y yr y1 y2 y3 => by
    unfold BX7_note_17
    refine yp_le (fun v1 ev1 => yp_le (fun v2 ev2 => ?_))
    have r2 : ∀ a, a ≠ 54 → v2.1 a = z.1 a := fun a ha => by rw [ev2, pI_ne ha, ev1, pI_ne ha]; exact yr a ha
    have a1 : v2.1 54 1 = nI (ye_cnt ok (t + 1)) := by
      rw [ev2, pI_slot (by decide), ev1, pI_self, ye_ct hok, show sn_I y 54 1 = nI (ye_cnt ok t) from y1]
      exact nI_1 _
    have a2 : v2.1 54 2 = ye_w ok (t + 1) := by
      rw [ev2, pI_self, k2, ev1]
      show (sn_pI y 54 1 _).1 54 2 ||| _ = _
      rw [pI_slot (by decide), y2]
    have a3 : v2.1 54 3 = ye_f ok (t + 1) := by
      rw [ev2, pI_slot (by decide), ev1, pI_slot (by decide)]
      exact y3
    refine yp_bd (fun v : sn_S => (∀ a, a ≠ 54 → a ≠ 56 → v.1 a = z.1 a) ∧ ye_N w ok (t + 1) v) (yp_for (sp_n w 5) (fun q s => s.2 = nI q ∧ (∀ a, a ≠ 56 → s.1.1 a = v2.1 a) ∧ (∀ p, p < q → ∀ o, o < 31 → s.1.1 56 (31 * p + o) = nI (ye_c w ok p o (t + 1))) ∧ ∀ p, q ≤ p → p < sp_n w 5 → ∀ o, o < 31 → s.1.1 56 (31 * p + o) = nI (ye_c w ok p o t)) (fun q s hq hs => ?_) (fun s hs => ?_) (by exact ⟨nI_0.symm, fun _ _ => rfl, fun p hp => absurd hp (by omega), fun p _ hp o ho => (congrFun (r2 56 (by decide)) _).trans (n4 p hp o ho)⟩)) (fun v hv => ?_)
    · obtain ⟨v, x4⟩ := s
      obtain ⟨ex, vr, vd, vt⟩ := hs
      have ex : x4 = nI q := ex
      subst ex
      have vr : ∀ a, a ≠ 56 → v.1 a = v2.1 a := vr
      have vd : ∀ p, p < q → ∀ o, o < 31 → v.1 56 (31 * p + o) = nI (ye_c w ok p o (t + 1)) := vd
      have vt : ∀ p, q ≤ p → p < sp_n w 5 → ∀ o, o < 31 → v.1 56 (31 * p + o) = nI (ye_c w ok p o t) := vt
      have b1 : sn_I v 38 1 = nI (sp_n w 5) := (congrFun (vr 38 (by decide)) 1).trans ((congrFun (r2 38 (by decide)) 1).trans h1)
      have b8 : sn_I v (38 + 10) q = ye_s w t q := (congrFun (vr 48 (by decide)) q).trans ((congrFun (r2 48 (by decide)) q).trans (h48 q hq))
      have pl : ye_p w t q ≤ 30 := yb_pople _ 30
      show yp (BX7_note_42 v 38 (nI q)) _
      unfold BX7_note_42
      rw [b1, if_neg (nI_ge hq (by omega)), nI_clamp (show q < 2 ^ 31 by omega), b8, yb_count, yb_pop30 (x := ye_s w t q) (fun j g1 g2 => yz_sbits c0 j (by omega) g2)]
      refine yp_gd (fun _ => yp_bs rfl ?_)
      rw [show (31 : Int32) * nI q = nI (31 * q) from nI_mul 31 q, show yb_pop (ye_s w t q) 30 = ye_p w t q from rfl, nI_add, nI_clamp (show 31 * q + ye_p w t q < 2 ^ 31 by omega)]
      refine yp_gd (fun _ => yp_gd (fun _ => yp_le (fun v' ev' => yp_lt (yp_some ⟨nI_1 q, fun a ha => ?_, fun p hp o ho => ?_, fun p hp hp2 o ho => ?_⟩))))
      · show v'.1 a = _
        rw [ev', pI_ne ha]
        exact vr a ha
      · show v'.1 56 (31 * p + o) = _
        rw [ev', k4]
        by_cases c : p = q
        · subst c
          by_cases d : ye_p w t p = o
          · rw [if_pos d, ← d, pI_self, show sn_I v 56 (31 * p + ye_p w t p) = _ from vt p (Nat.le_refl _) hq _ (by omega)]
            exact nI_1 _
          · rw [if_neg d, pI_slot (by omega)]
            exact vt p (Nat.le_refl _) hq o ho
        · rw [← k4, pI_slot (by omega)]
          exact vd p (by omega) o ho
      · show v'.1 56 (31 * p + o) = _
        rw [ev', pI_slot (by omega)]
        exact vt p (by omega) hp2 o ho
    · obtain ⟨v, x4⟩ := s
      obtain ⟨ex, vr, vd, -⟩ := hs
      have ex : x4 = nI (sp_n w 5) := ex
      subst ex
      have vr : ∀ a, a ≠ 56 → v.1 a = v2.1 a := vr
      have b1 : sn_I v 38 1 = nI (sp_n w 5) := (congrFun (vr 38 (by decide)) 1).trans ((congrFun (r2 38 (by decide)) 1).trans h1)
      show yp (BX7_note_42 v 38 (nI (sp_n w 5))) _
      unfold BX7_note_42
      rw [b1, if_pos (nI_le (Nat.le_refl _) (by omega))]
      exact yp_some ⟨fun a h4 h6 => (vr a h6).trans (r2 a h4), (congrFun (vr 54 (by decide)) 1).trans a1, (congrFun (vr 54 (by decide)) 2).trans a2, (congrFun (vr 54 (by decide)) 3).trans a3, vd⟩
    · unfold BX7_note_82
      exact yp_some hv
  have hf := ye_f1 (ok := ok) t ht
  unfold fX7_note
  rw [show sn_I z 54 1 = nI (ye_cnt ok t) from n1]
  refine yp_ite (fun c => yp_le (fun y ey => ?_)) (fun c => ?_)
  · have c := (yi_0 (by omega)).mp c
    refine key y (fun a ha => by rw [ey]; exact pI_ne ha) ?_ ?_ ?_
    · rw [ey, pI_slot (by decide)]
      exact n1
    · rw [ey, pI_slot (by decide)]
      exact n2
    · rw [ey, pI_self, k3, if_pos (hf.1 c), show (10 : Int32) * nI m = nI (10 * m) from nI_mul 10 m, nI_add]
  · have c : ¬ ye_cnt ok t = 0 := fun h => c ((yi_0 (by omega)).mpr h)
    refine key z (fun _ _ => rfl) n1 n2 ?_
    rw [k3, if_neg (hf.2 c)]
    exact n3
end
end
section
/-! which gust it was: the class seeks -/
section
variable {σ τ u z : sn_S} {w : Nat → Int32} {a b : Nat → Nat} {N m n p t : Nat} {A : Nat → Int64}
def ye_I (w : Nat → Int32) (σ : sn_S) (m : Nat) (z : sn_S) : Prop := (∀ q, (q < 38 ∨ (48 < q ∧ q ≠ 54 ∧ q ≠ 56)) → z.1 q = σ.1 q) ∧ z.1 38 0 = nI (sp_n w 0) ∧ yd_L0 38 z (hs_day w) m ∧ ∀ p, p < sp_n w 5 → z.1 48 p &&& (((1 : Int32) <<< (nI m &&& 31)) - 1) = dy_sn (hs_day w) m p
theorem ye_Ic (e : ∀ q, q ≠ 54 → q ≠ 56 → u.1 q = z.1 q) (h : ye_I w σ m z) : ye_I w σ m u := by
  obtain ⟨h1, h2, h3, h4⟩ := h
  refine ⟨fun q hq => (e q (by omega) (by omega)).trans (h1 q hq), (congrFun (e 38 (by decide) (by decide)) 0).trans h2, fun k hk => ?_, fun p hp => ?_⟩
  · rw [e (38 + 9) (by decide) (by decide), e (38 + 7) (by decide) (by decide), e (38 + 8) (by decide) (by decide)]
    exact h3 k hk
  · rw [e 48 (by decide) (by decide)]
    exact h4 p hp
theorem ye_Tw {y y' : Int32} (hT : yd_T 38 z (ye_j w m y)) (hu : u = sn_pI z 39 m y') : yd_T 38 u (ye_j w m y') := by
  have r : ∀ q, q ≠ 39 → u.1 q = z.1 q := fun q h => by rw [hu]; exact pI_ne h
  obtain ⟨t1, t2, t3, t4, t5, t6⟩ := hT
  refine ⟨(congrFun (r 38 (by decide)) 1).trans t1, (congrFun (r 38 (by decide)) 2).trans t2, (congrFun (r 38 (by decide)) 3).trans t3, fun k hk => ?_, fun p hp => ?_, fun k hk => ?_⟩
  · show u.1 39 k = (if k = m then y' else hs_dust w k (sp_n w 6))
    by_cases c : k = m
    · rw [if_pos c, c, hu]
      exact pI_self
    · have g : z.1 39 k = (if k = m then y else hs_dust w k (sp_n w 6)) := t4 k hk
      rw [if_neg c] at g
      rw [if_neg c, hu]
      exact (pI_slot c).trans g
  · have g := t5 p hp
    exact ⟨(congrFun (r 40 (by decide)) p).trans g.1, (congrFun (r 41 (by decide)) p).trans g.2.1, (congrFun (r 42 (by decide)) p).trans g.2.2.1, (congrFun (r 43 (by decide)) p).trans g.2.2.2⟩
  · rw [r 44 (by decide)]
    exact t6 k hk
theorem ye_T0 (h : yd_T 38 z (hs_day w)) : yd_T 38 z (ye_j w m (hs_dust w m (sp_n w 6))) := by
  refine ⟨h.1, h.2.1, h.2.2.1, fun k hk => ?_, h.2.2.2.2.1, h.2.2.2.2.2⟩
  show z.1 39 k = (if k = m then hs_dust w m (sp_n w 6) else hs_dust w k (sp_n w 6))
  by_cases c : k = m
  · rw [if_pos c, ← c]
    exact h.2.2.2.1 k hk
  · rw [if_neg c]
    exact h.2.2.2.1 k hk
theorem ye_T1 (h : yd_T 38 z (ye_j w m (hs_dust w m (sp_n w 6)))) : yd_T 38 z (hs_day w) := by
  refine ⟨h.1, h.2.1, h.2.2.1, fun k hk => ?_, h.2.2.2.2.1, h.2.2.2.2.2⟩
  have g : z.1 39 k = (if k = m then hs_dust w m (sp_n w 6) else hs_dust w k (sp_n w 6)) := h.2.2.2.1 k hk
  show z.1 39 k = hs_dust w k (sp_n w 6)
  by_cases c : k = m
  · rw [if_pos c] at g
    rw [g, c]
  · rw [if_neg c] at g
    exact g
theorem yc_qin (hW : jW w) (hD : yD σ w) (hm : m < sp_n w 0) (ha : ∀ i, i < N → a i < sp_n w 5 ∧ b i < sp_n w 0) (h55 : ∀ p, p < 6 → ∀ k, k < 32 → sp_bit (σ.1 55 p) k = ye_nd a b p k N) (hI : ye_I w σ m z) (hT : ∃ y, yd_T 38 z (ye_j w m y)) (hN : ye_N w (ye_ok w a b N) (9 * m) z) : yp (sn_it (LX7_seekIn_31 27 38 (nI m)) 5000 (z, (1 : Int32))) (fun v => ye_I w σ m v ∧ (∃ y, yd_T 38 v (ye_j w m y)) ∧ ye_N w (ye_ok w a b N) (9 * m + 9) v) := by
  have c0 := (yl_0 hW).2
  have c5 := (yl_5 hW).2
  refine yp_for 9 (fun g s => s.2 = nI (g + 1) ∧ ye_I w σ m s.1 ∧ (∃ y, yd_T 38 s.1 (ye_j w m y)) ∧ ye_N w (ye_ok w a b N) (9 * m + g) s.1) (fun g s hg hs => ?_) (fun s hs => ?_) (by exact ⟨rfl, hI, hT, hN⟩)
  · obtain ⟨z, x4⟩ := s
    obtain ⟨ex, hI, ⟨y0, hT⟩, hN⟩ := hs
    have ex : x4 = nI (g + 1) := ex
    subst ex
    have hI : ye_I w σ m z := hI
    have hT : yd_T 38 z (ye_j w m y0) := hT
    have hN : ye_N w (ye_ok w a b N) (9 * m + g) z := hN
    have hr := hI.1
    have e28 : sn_I z (27 + 1) m = hs_dust w m (sp_n w 6) := (congrFun (hr 28 (by omega)) m).trans (hD.2.1.2.2.2.1 m (by omega))
    show yp (BX7_seekIn_31 z 27 38 (nI m) (nI (g + 1))) _
    unfold BX7_seekIn_31
    rw [if_neg (show ¬ (9 : Int32) < nI (g + 1) from nI_nlt (a := 9) (by omega) (by decide)), nI_clamp (show m < 2 ^ 31 by omega), e28]
    refine yp_gd (fun _ => yp_gd (fun _ => yp_le (fun y ey => ?_)))
    have yr0 : ∀ q, q ≠ 39 → y.1 q = z.1 q := fun q h => by rw [ey]; exact pI_ne h
    have hT2 : yd_T 38 y (ye_j w m (hs_dust w m (sp_n w 6) + nI (g + 1))) := ye_Tw hT ey
    have e27 : sn_I y 27 0 = nI (sp_n w 0) := (congrFun (yr0 27 (by decide)) 0).trans ((congrFun (hr 27 (by omega)) 0).trans hD.1)
    have EP := ye_EP (w := w) (m := m) (y := hs_dust w m (sp_n w 6) + nI (g + 1))
    have hL0 : yd_L0 38 y (ye_j w m (hs_dust w m (sp_n w 6) + nI (g + 1))) m := fun k hk => by
      have e := yd_L0P EP (Nat.le_refl _) hI.2.2.1 k hk
      rw [yr0 (38 + 9) (by decide), yr0 (38 + 7) (by decide), yr0 (38 + 8) (by decide)]
      exact e
    rw [e27]
    refine yp_bd _ (yc_live (f := m) (t := sp_n w 0) ((congrFun (yr0 38 (by decide)) 0).trans hI.2.1) c0 hT2 (hs_ok hW) (by omega) (Nat.le_refl _) hL0 (fun p hp => ?_)) (fun v hv => ?_)
    · rw [yr0 (38 + 10) (by decide), show z.1 (38 + 10) p &&& _ = _ from hI.2.2.2 p hp]
      exact dy_snP EP (Nat.le_refl _) hp
    · obtain ⟨⟨f1, f2⟩, hLv⟩ := hv
      have t9 : (9 * m + g) / 9 = m := by omega
      have tg : (9 * m + g) % 9 + 1 = g + 1 := by omega
      have ed : ye_d w (9 * m + g) = ye_j w m (hs_dust w m (sp_n w 6) + nI (g + 1)) := by
        unfold ye_d
        rw [t9, tg]
      have v48 : ∀ p, p < sp_n w 5 → v.1 48 p = ye_s w (9 * m + g) p := fun p hp => by
        unfold ye_s
        rw [ed]
        exact hLv.2 p hp
      have vI : ye_I w σ m v := by
        refine ⟨fun q hq => (f1 q (by omega)).trans ((yr0 q (by omega)).trans (hr q hq)), (congrFun (f1 38 (by omega)) 0).trans ((congrFun (yr0 38 (by decide)) 0).trans hI.2.1), yd_L0P (dy_EPs EP) (Nat.le_refl _) (fun k hk => hLv.1 k (by omega) : yd_L0 38 v (ye_j w m (hs_dust w m (sp_n w 6) + nI (g + 1))) m), fun p hp => ?_⟩
        rw [show v.1 48 p = dy_sn (ye_j w m (hs_dust w m (sp_n w 6) + nI (g + 1))) (sp_n w 0) p from hLv.2 p hp, dy_snlow (by omega) c0]
        exact (dy_snP EP (Nat.le_refl _) hp).symm
      have vT : yd_T 38 v (ye_j w m (hs_dust w m (sp_n w 6) + nI (g + 1))) := yd_Tc (fun q q1 q2 => f1 q (by omega)) hT2
      have v54 : v.1 54 = z.1 54 := (f1 54 (by omega)).trans (yr0 54 (by decide))
      have v56 : v.1 56 = z.1 56 := (f1 56 (by omega)).trans (yr0 56 (by decide))
      have v55 : ∀ p, p < 6 → ∀ k, k < 32 → sp_bit (v.1 55 p) k = ye_nd a b p k N := fun p hp k hk => by
        rw [vI.1 55 (by omega)]
        exact h55 p hp k hk
      rw [show sn_I v 27 0 = nI (sp_n w 0) from (congrFun (vI.1 27 (by omega)) 0).trans hD.1]
      unfold fX8_firstMinutes
      have fin : ∀ v' : sn_S, ye_I w σ m v' → yd_T 38 v' (ye_j w m (hs_dust w m (sp_n w 6) + nI (g + 1))) → ye_N w (ye_ok w a b N) (9 * m + (g + 1)) v' → yp (BX7_seekIn_85 v' 27 38 (nI m) (nI (g + 1))) (yp_sum (fun s : sn_S × Int32 => s.2 = nI (g + 1 + 1) ∧ ye_I w σ m s.1 ∧ (∃ y, yd_T 38 s.1 (ye_j w m y)) ∧ ye_N w (ye_ok w a b N) (9 * m + (g + 1)) s.1) (fun _ => False)) := fun v' h1 h2 h3 => by
        unfold BX7_seekIn_85
        exact yp_lt (yp_some ⟨nI_1 _, h1, ⟨_, h2⟩, h3⟩)
      refine yp_bs rfl (yp_bd _ (yc_meets (S := fun p k => sp_bit (ye_s w (9 * m + g) p) k) (nd := fun p k => ye_nd a b p k N) c0 c5 vT.1 v55 (fun p hp k _ => by rw [v48 p hp])) (fun r hr2 => ?_))
      rcases hr2 with ⟨er, hC⟩ | ⟨er, hC⟩
      · rw [er, if_neg (by decide)]
        exact yp_bd _ (yc_note c0 c5 (by omega) t9 tg ((ye_Cok ha).mp hC) vT.1 v48 (ye_Nc v54 v56 hN)) (fun v' hv' => fin v' (ye_Ic hv'.1 vI) (yd_Tc (fun q q1 q2 => hv'.1 q (by omega) (by omega)) vT) hv'.2)
      · rw [er, if_pos rfl]
        have o : ye_ok w a b N (9 * m + g) = false := by
          cases c : ye_ok w a b N (9 * m + g) with
          | false => rfl
          | true => exact absurd ((ye_Cok ha).mpr c) hC
        exact fin v vI vT (ye_Nt (t := 9 * m + g) (by omega) (fun k h1 h2 => by rw [show k = 9 * m + g by omega]; exact o) (ye_Nc v54 v56 hN))
  · obtain ⟨z, x4⟩ := s
    obtain ⟨ex, hI, hT, hN⟩ := hs
    have ex : x4 = nI (9 + 1) := ex
    subst ex
    show yp (BX7_seekIn_31 z 27 38 (nI m) (nI (9 + 1))) _
    unfold BX7_seekIn_31
    rw [if_pos (show (9 : Int32) < nI (9 + 1) by decide)]
    exact yp_some ⟨hI, hT, hN⟩
theorem ye_lb {x : Int32} {k : Nat} (c0 : sp_n w 0 ≤ 30) (hk : k < m) (hm : m ≤ sp_n w 0) (h : x &&& (((1 : Int32) <<< (nI m &&& 31)) - 1) = dy_sn (hs_day w) m p) : sp_bit x k = sp_bit (dy_sn (hs_day w) (sp_n w 0) p) k := by
  have e1 : sp_bit (x &&& (((1 : Int32) <<< (nI m &&& 31)) - 1)) k = sp_bit (dy_sn (hs_day w) m p) k := by rw [h]
  have e2 : sp_bit (dy_sn (hs_day w) (sp_n w 0) p &&& (((1 : Int32) <<< (nI m &&& 31)) - 1)) k = sp_bit (dy_sn (hs_day w) m p) k := by rw [dy_snlow hm c0]
  rw [yb_and _ _ (by omega), yb_low m (by omega) k (by omega), decide_eq_true hk, Bool.and_true] at e1 e2
  rw [e1, e2]
theorem yc_seekIn (hW : jW w) (hD : yD σ w) (ha : ∀ i, i < N → a i < sp_n w 5 ∧ b i < sp_n w 0) (h55 : ∀ p, p < 6 → ∀ k, k < 32 → sp_bit (σ.1 55 p) k = ye_nd a b p k N) (hN : ye_N w (ye_ok w a b N) 0 σ) : yp (fX7_seekIn σ 27 38) (fun v => (∀ q, (q < 38 ∨ (48 < q ∧ q ≠ 54 ∧ q ≠ 56)) → v.1 q = σ.1 q) ∧ ye_N w (ye_ok w a b N) (9 * sp_n w 0) v) := by
  have c0 := (yl_0 hW).2
  have c5 := (yl_5 hW).2
  unfold fX7_seekIn
  refine yp_bd _ (yc_trial hW hD (by decide)) (fun z0 hz0 => ?_)
  obtain ⟨hr0, h00, hT0, -⟩ := hz0
  have n0 : ye_N w (ye_ok w a b N) (9 * 0) z0 := ye_Nc (hr0 54 (by omega)) (hr0 56 (by omega)) hN
  refine yp_bd (fun t : sn_S ⊕ sn_S => ∃ v, (t = Sum.inl v ∨ t = Sum.inr v) ∧ (∀ q, (q < 38 ∨ (48 < q ∧ q ≠ 54 ∧ q ≠ 56)) → v.1 q = σ.1 q) ∧ ye_N w (ye_ok w a b N) (9 * sp_n w 0) v) (yp_it (fun s : sn_S × Int32 => ∃ m, m ≤ sp_n w 0 ∧ s.2 = nI m ∧ ye_I w σ m s.1 ∧ yd_T 38 s.1 (hs_day w) ∧ ye_N w (ye_ok w a b N) (9 * m) s.1) (fun s hs => ?_) _ _ (by exact ⟨0, Nat.zero_le _, nI_0.symm, ⟨fun q hq => hr0 q (by omega), h00, fun k hk => absurd hk (by omega), fun p _ => yb_and0 _⟩, hT0, n0⟩)) (fun t ht => ?_)
  · obtain ⟨z, x3⟩ := s
    obtain ⟨m, hm, ex, hI, hT, hN⟩ := hs
    have ex : x3 = nI m := ex
    subst ex
    have hI : ye_I w σ m z := hI
    have hT : yd_T 38 z (hs_day w) := hT
    have hN : ye_N w (ye_ok w a b N) (9 * m) z := hN
    show yp (BX7_seekIn_7 z 27 38 (nI m)) _
    unfold BX7_seekIn_7
    rw [show sn_I z 27 0 = nI (sp_n w 0) from (congrFun (hI.1 27 (by omega)) 0).trans hD.1]
    rcases Nat.lt_or_ge m (sp_n w 0) with c | c
    · rw [if_neg (nI_ge c (by omega))]
      unfold fX8_firstMinutes
      have z55 : ∀ p, p < 6 → ∀ k, k < 32 → sp_bit (z.1 55 p) k = ye_nd a b p k N := fun p hp k hk => by
        rw [hI.1 55 (by omega)]
        exact h55 p hp k hk
      refine yp_bs rfl (yp_bd _ (yc_meets (n := m) (S := fun p k => sp_bit (dy_sn (hs_day w) (sp_n w 0) p) k) (nd := fun p k => ye_nd a b p k N) (by omega) c5 hT.1 z55 (fun p hp k hk => ye_lb c0 hk hm (hI.2.2.2 p hp))) (fun r hr2 => ?_))
      rcases hr2 with ⟨er, hC⟩ | ⟨er, hC⟩
      · rw [er, if_neg (by decide)]
        refine yp_bd _ (yc_qin hW hD c ha h55 hI ⟨_, ye_T0 hT⟩ hN) (fun v hv => ?_)
        obtain ⟨vI, ⟨y0, vT⟩, vN⟩ := hv
        have e28 : sn_I v (27 + 1) m = hs_dust w m (sp_n w 6) := (congrFun (vI.1 28 (by omega)) m).trans (hD.2.1.2.2.2.1 m (by omega))
        unfold BX7_seekIn_91
        rw [nI_clamp (show m < 2 ^ 31 by omega), e28, show nI m + (1 : Int32) = nI (m + 1) from nI_1 m]
        refine yp_gd (fun _ => yp_gd (fun _ => yp_le (fun y ey => ?_)))
        have yr0 : ∀ q, q ≠ 39 → y.1 q = v.1 q := fun q h => by rw [ey]; exact pI_ne h
        have hT2 : yd_T 38 y (hs_day w) := ye_T1 (m := m) (ye_Tw vT ey)
        have hL0 : yd_L0 38 y (hs_day w) m := fun k hk => by
          rw [yr0 (38 + 9) (by decide), yr0 (38 + 7) (by decide), yr0 (38 + 8) (by decide)]
          exact vI.2.2.1 k hk
        refine yp_bd _ (yc_live (f := m) (t := m + 1) ((congrFun (yr0 38 (by decide)) 0).trans vI.2.1) c0 hT2 (hs_ok hW) (by omega) (by omega) hL0 (fun p hp => ?_)) (fun v2 hv2 => yp_lt (yp_some ⟨m + 1, c, rfl, ?_, ?_, ?_⟩))
        · rw [yr0 (38 + 10) (by decide)]
          exact vI.2.2.2 p hp
        · obtain ⟨⟨f1, f2⟩, l1, l2⟩ := hv2
          refine ⟨fun q hq => (f1 q (by omega)).trans ((yr0 q (by omega)).trans (vI.1 q hq)), (congrFun (f1 38 (by omega)) 0).trans ((congrFun (yr0 38 (by decide)) 0).trans vI.2.1), l1, fun p hp => ?_⟩
          rw [show v2.1 48 p = _ from l2 p hp, dy_snlow (Nat.le_refl _) (by omega)]
        · exact yd_Tc (fun q q1 q2 => hv2.1.1 q (by omega)) hT2
        · exact ye_Nc ((hv2.1.1 54 (by omega)).trans (yr0 54 (by decide))) ((hv2.1.1 56 (by omega)).trans (yr0 56 (by decide))) vN
      · rw [er, if_pos rfl]
        exact yp_some ⟨z, Or.inr rfl, hI.1, ye_Nt (by omega) (ye_late c0 hm ha hC) hN⟩
    · rw [if_pos (nI_le c (by omega))]
      have e : m = sp_n w 0 := by omega
      rw [e] at hN
      exact yp_some ⟨z, Or.inl rfl, hI.1, hN⟩
  · obtain ⟨v, e | e, h⟩ := ht
    · subst e
      show yp (BX7_seekIn_117 v 27 38) _
      unfold BX7_seekIn_117
      exact yp_some h
    · subst e
      exact yp_some h
theorem yc_forget : yp (fX7_forget σ) (fun v => (∀ q, q ≠ 54 → q ≠ 55 → q ≠ 56 → v.1 q = σ.1 q) ∧ v.2 = σ.2 ∧ (∀ k, k < 6 → v.1 55 k = 0) ∧ (∀ k, k < 186 → v.1 56 k = 0) ∧ v.1 54 1 = 0 ∧ v.1 54 2 = 0 ∧ v.1 54 3 = -1) := by
  unfold fX7_forget
  refine yp_bd _ (yc_fill σ 55 6 0 (by decide)) (fun v1 h1 => yp_bd _ (yc_fill v1 56 186 0 (by decide)) (fun v2 h2 => yp_le (fun v3 e3 => yp_le (fun v4 e4 => yp_le (fun v5 e5 => yp_some ?_)))))
  obtain ⟨a1, a2, a3⟩ := h1
  obtain ⟨b1, b2, b3⟩ := h2
  have r : ∀ q, q ≠ 54 → v5.1 q = v2.1 q := fun q h => by rw [e5, pI_ne h, e4, pI_ne h, e3, pI_ne h]
  have rl : v5.2 = v2.2 := by rw [e5]; show v4.2 = _; rw [e4]; show v3.2 = _; rw [e3]; rfl
  refine ⟨fun q h4 h5 h6 => (r q h4).trans ((b1 q h6).trans (a1 q h5)), rl.trans (b2.trans a2), fun k hk => ?_, fun k hk => ?_, ?_, ?_, ?_⟩
  · rw [r 55 (by decide), b1 55 (by decide)]
    exact a3 k hk
  · rw [r 56 (by decide)]
    exact b3 k hk
  · rw [e5, pI_slot (by decide), e4, pI_slot (by decide), e3]
    exact pI_self
  · rw [e5, pI_slot (by decide), e4]
    exact pI_self
  · rw [e5]
    exact pI_self
def ye_a (A : Nat → Int64) (i : Nat) : Nat := (A (2 * i)).toInt.toNat
def ye_b (A : Nat → Int64) (i : Nat) : Nat := (A (2 * i + 1)).toInt.toNat
def ye_v (w : Nat → Int32) (A : Nat → Int64) (i : Nat) : Prop := (0 ≤ (A (2 * i)).toInt ∧ (A (2 * i)).toInt < sp_n w 5) ∧ (0 ≤ (A (2 * i + 1)).toInt ∧ (A (2 * i + 1)).toInt < sp_n w 0)
theorem ye_ab (h : ∀ i, i < N → ye_v w A i) : ∀ i, i < N → ye_a A i < sp_n w 5 ∧ ye_b A i < sp_n w 0 := fun i hi => by
  obtain ⟨⟨h1, h2⟩, h3, h4⟩ := h i hi
  unfold ye_a ye_b
  omega
theorem ye_l {n : Nat} (hn : n < 2 ^ 31) : ((nI n).toInt64).toInt = (n : Int) := by
  rw [Int32.toInt_toInt64, nI_toInt hn]
theorem yc_pairs {s : Nat} (hs : s < 4) (hN : N ≤ 30) (c0 : sp_n w 0 ≤ 30) (c5 : sp_n w 5 ≤ 6) (e0 : σ.1 27 0 = nI (sp_n w 0)) (e1 : σ.1 27 1 = nI (sp_n w 5)) (hlen : σ.1 26 s = nI (2 * N)) (hA : ∀ i, i < 60 → σ.2.1 (21 + s) i = A i) (h55 : ∀ k, k < 6 → σ.1 55 k = 0) : yp (sn_it (LX8_seek_57 (nI s)) 5000 (σ, (0 : Int32))) (fun t => (∃ v, t = Sum.inl v ∧ (∀ i, i < N → ye_v w A i) ∧ (∀ q, q ≠ 55 → v.1 q = σ.1 q) ∧ ∀ p, p < 6 → ∀ k, k < 32 → sp_bit (v.1 55 p) k = ye_nd (ye_a A) (ye_b A) p k N) ∨ ∃ r, t = Sum.inr r ∧ r.1 = -2 ∧ ¬ ∀ i, i < N → ye_v w A i) := by
  refine yp_it (fun s : sn_S × Int32 => ∃ i, i ≤ N ∧ s.2 = nI (2 * i) ∧ (∀ j, j < i → ye_v w A j) ∧ (∀ q, q ≠ 55 → s.1.1 q = σ.1 q) ∧ s.1.2 = σ.2 ∧ ∀ p, p < 6 → ∀ k, k < 32 → sp_bit (s.1.1 55 p) k = ye_nd (ye_a A) (ye_b A) p k i) (fun s2 hs2 => ?_) _ _ (by exact ⟨0, Nat.zero_le _, nI_0.symm, fun j hj => absurd hj (by omega), fun _ _ => rfl, rfl, fun p hp k hk => by rw [h55 p hp]; exact yb_z k hk⟩)
  obtain ⟨z, x2⟩ := s2
  obtain ⟨i, hi, ex, hv, hr, hl, hb⟩ := hs2
  have ex : x2 = nI (2 * i) := ex
  subst ex
  have hr : ∀ q, q ≠ 55 → z.1 q = σ.1 q := hr
  have hl : z.2 = σ.2 := hl
  have hb : ∀ p, p < 6 → ∀ k, k < 32 → sp_bit (z.1 55 p) k = ye_nd (ye_a A) (ye_b A) p k i := hb
  show yp (BX8_seek_57 z (nI s) (nI (2 * i))) _
  unfold BX8_seek_57
  rw [nI_clamp (show s < 2 ^ 31 by omega), show sn_I z 26 s = nI (2 * N) from (congrFun (hr 26 (by decide)) s).trans hlen, nI_1]
  refine yp_gd (fun _ => ?_)
  by_cases c : i < N
  · have l0 : sn_L z (21 + s) (2 * i) = A (2 * i) := by
      show z.2.1 (21 + s) (2 * i) = _
      rw [hl]
      exact hA _ (by omega)
    have l1 : sn_L z (21 + s) (2 * i + 1) = A (2 * i + 1) := by
      show z.2.1 (21 + s) (2 * i + 1) = _
      rw [hl]
      exact hA _ (by omega)
    have z0 : (0 : Int64).toInt = 0 := by decide
    rw [if_neg (nI_ge (show 2 * i + 1 < 2 * N by omega) (by omega)), at20 hs, nI_clamp (show 2 * i < 2 ^ 31 by omega), nI_clamp (show 2 * i + 1 < 2 ^ 31 by omega), l0, l1, show sn_I z 27 1 = nI (sp_n w 5) from (congrFun (hr 27 (by decide)) 1).trans e1, show sn_I z 27 0 = nI (sp_n w 0) from (congrFun (hr 27 (by decide)) 0).trans e0]
    refine yp_gd (fun _ => yp_gd (fun _ => yp_lt (yp_gd (fun _ => yp_gd (fun _ => yp_lt ?_)))))
    refine yp_ite (fun d1 => yp_some (Or.inr ⟨_, rfl, rfl, fun g => ?_⟩)) (fun d1 => yp_ite (fun d2 => yp_some (Or.inr ⟨_, rfl, rfl, fun g => ?_⟩)) (fun d2 => yp_ite (fun d3 => yp_some (Or.inr ⟨_, rfl, rfl, fun g => ?_⟩)) (fun d3 => yp_ite (fun d4 => ?_) (fun d4 => yp_some (Or.inr ⟨_, rfl, rfl, fun g => ?_⟩)))))
    · have q := zs_lgc.1.mp d1
      have h := (g i c).1.1
      omega
    · have q := zs_lgc.2.2.2.2.mp d2
      rw [ye_l (by omega)] at q
      have h := (g i c).1.2
      omega
    · have q := zs_lgc.1.mp d3
      have h := (g i c).2.1
      omega
    · have q1 : ¬ (A (2 * i)).toInt < (0 : Int64).toInt := fun h => d1 (zs_lgc.1.mpr h)
      have q2 : ¬ ((nI (sp_n w 5)).toInt64).toInt ≤ (A (2 * i)).toInt := fun h => d2 (zs_lgc.2.2.2.2.mpr h)
      have q3 : ¬ (A (2 * i + 1)).toInt < (0 : Int64).toInt := fun h => d3 (zs_lgc.1.mpr h)
      have q4 := zs_lgc.1.mp d4
      rw [ye_l (by omega)] at q2 q4
      have hvi : ye_v w A i := ⟨⟨by omega, by omega⟩, by omega, by omega⟩
      have ea : (A (2 * i)).toInt = (ye_a A i : Int) := by unfold ye_a; omega
      have eb : (A (2 * i + 1)).toInt = (ye_b A i : Int) := by unfold ye_b; omega
      have la : ye_a A i < 6 := by omega
      have lb : ye_b A i < 30 := by omega
      rw [ye_32 ea (by omega), ye_32 eb (by omega), nI_clamp (show ye_a A i < 2 ^ 31 by omega)]
      refine yp_gd (fun _ => yp_gd (fun _ => yp_le (fun v ev => yp_lt (yp_some ⟨i + 1, c, (nI_add _ 2).trans (congrArg nI (by omega)), fun j hj => ?_, fun q hq => ?_, ?_, fun p hp k hk => ?_⟩))))
      · by_cases d : j = i
        · subst d
          exact hvi
        · exact hv j (by omega)
      · show v.1 q = _
        rw [ev, pI_ne hq]
        exact hr q hq
      · show v.2 = _
        rw [ev]
        exact hl
      · show sp_bit (v.1 55 p) k = (ye_nd (ye_a A) (ye_b A) p k i || (decide (p = ye_a A i) && decide (k = ye_b A i)))
        rw [ev]
        by_cases d : p = ye_a A i
        · subst d
          rw [pI_self, yb_or1 _ (by omega) hk, show sp_bit (sn_I z 55 (ye_a A i)) k = _ from hb _ hp k hk, decide_eq_true rfl, Bool.true_and]
        · rw [pI_slot d, hb p hp k hk, decide_eq_false d, Bool.false_and, Bool.or_false]
    · have q : ¬ (A (2 * i + 1)).toInt < ((nI (sp_n w 0)).toInt64).toInt := fun h => d4 (zs_lgc.1.mpr h)
      rw [ye_l (by omega)] at q
      have h := (g i c).2.2
      omega
  · rw [if_pos (nI_le (show 2 * N ≤ 2 * i + 1 by omega) (by omega))]
    have e : i = N := by omega
    subst e
    exact yp_some (Or.inl ⟨z, rfl, hv, hr, hb⟩)
theorem yc_seek {s : Nat} (hs : s < 4) (hN : N ≤ 30) (hW : jW w) (hD : yD σ w) (hH : fX8_isHouse σ = some 1) (hlen : σ.1 26 s = nI (2 * N)) (hA : ∀ i, i < 60 → σ.2.1 (21 + s) i = A i) : yp (fX8_seek σ (nI s)) (fun r => (r.1 = 0 ∧ (∀ i, i < N → ye_v w A i) ∧ r.2.1 27 1 = nI (sp_n w 5) ∧ ye_N w (ye_ok w (ye_a A) (ye_b A) N) (9 * sp_n w 0) r.2) ∨ (r.1 = -2 ∧ ¬ ∀ i, i < N → ye_v w A i)) := by
  have c0 := (yl_0 hW).2
  have c5 := (yl_5 hW).2
  unfold fX8_seek
  rw [c_isSlot, if_pos ⟨nI_pos' (by omega), nI_lt (b := 4) hs (by decide)⟩]
  refine yp_bs rfl ?_
  rw [if_neg (by decide), hH]
  refine yp_bs rfl ?_
  rw [if_neg (by decide), c_has σ hs, if_neg (by rw [hlen]; exact yi_m (by omega))]
  refine yp_bs rfl ?_
  rw [if_neg (by decide), nI_clamp (show s < 2 ^ 31 by omega), show sn_I σ 26 s = nI (2 * N) from hlen, yi_m2 (by omega), if_pos (show nI (2 * N % 2) = 0 by rw [show 2 * N % 2 = 0 by omega]; exact nI_0)]
  refine yp_gd (fun _ => yp_bd _ yc_forget (fun v hv => ?_))
  obtain ⟨r, rl, f5, f6, f1, f2, f3⟩ := hv
  have vD : yD v w := yD_c (fun q q1 q2 => r q (by omega) (by omega) (by omega)) hD
  refine yp_bd _ (yc_pairs (A := A) hs hN c0 c5 ((congrFun (r 27 (by decide) (by decide) (by decide)) 0).trans hD.1) ((congrFun (r 27 (by decide) (by decide) (by decide)) 1).trans hD.2.1.1) ((congrFun (r 26 (by decide) (by decide) (by decide)) s).trans hlen) (fun i hi => by rw [rl]; exact hA i hi) f5) (fun t ht => ?_)
  rcases ht with ⟨z, e, hv, hr, hb⟩ | ⟨x, e, h1, h2⟩
  · subst e
    show yp (BX8_seek_166 z) _
    unfold BX8_seek_166
    have zD : yD z w := yD_c (fun q q1 q2 => hr q (by omega)) vD
    have n0 : ye_N w (ye_ok w (ye_a A) (ye_b A) N) 0 z := ⟨(congrFun (hr 54 (by decide)) 1).trans (f1.trans nI_0.symm), (congrFun (hr 54 (by decide)) 2).trans f2, (congrFun (hr 54 (by decide)) 3).trans f3, fun p hp o ho => (congrFun (hr 56 (by decide)) _).trans ((f6 _ (by omega)).trans nI_0.symm)⟩
    refine yp_bd _ (yc_seekIn hW zD (ye_ab hv) hb n0) (fun y hy => yp_some (Or.inl ⟨rfl, hv, ?_, hy.2⟩))
    exact (congrFun (hy.1 27 (by omega)) 1).trans zD.2.1.1
  · subst e
    exact yp_some (Or.inr ⟨h1, h2⟩)
end
end
section
/-! which gust it was: the reference's -/
section
variable {σ τ u z v : sn_S} {w : Nat → Int32} {ok : Nat → Bool} {N m n p t s : Nat} {A : Nat → Int64}
def ye_U (w : Nat → Int32) (A : Nat → Int64) (s N : Nat) (u : sn_S) : Prop := u.1 1 = w ∧ u.1 0 22 = nI (sp_n w 0) - 1 ∧ ym_T u (hs_day w) ∧ u.1 21 s = nI (2 * N) ∧ ∀ i, i < 60 → u.2.1 23 (60 * s + i) = A i
theorem ym_num {i : Nat} (hs : s < 4) (hi : i < 60) (hA : ∀ i, i < 60 → u.2.1 23 (60 * s + i) = A i) : yp (fX9_numberAt u (nI s) (nI i)) (fun x => x = A i) := by
  unfold fX9_numberAt
  rw [show (60 : Int32) * nI s = nI (60 * s) from nI_mul 60 s, nI_add, nI_clamp (show 60 * s + i < 2 ^ 31 by omega)]
  exact yp_gd (fun _ => yp_some (hA i hi))
theorem ym_inL {x : Int64} {n : Nat} (hn : n < 100) : fX9_in x (0 : Int64) ((nI n - (1 : Int32)).toInt64) = some (if 0 ≤ x.toInt ∧ x.toInt < n then 1 else 0) := by
  rw [in_eq]
  have e : (0 : Int64) ≤ x ∧ x ≤ (nI n - (1 : Int32)).toInt64 ↔ 0 ≤ x.toInt ∧ x.toInt < n := by
    rw [Int64.le_iff_toInt_le, Int64.le_iff_toInt_le, Int32.toInt_toInt64, i32_sub1 (nI_pos' (by omega)), nI_toInt (by omega), show (0 : Int64).toInt = 0 by decide]
    omega
  by_cases h : 0 ≤ x.toInt ∧ x.toInt < n
  · rw [if_pos h, if_pos (e.mpr h)]
  · rw [if_neg h, if_neg (fun g => h (e.mp g))]
theorem ym_isPl {x : Int64} (hW : jW w) (hu : u.1 1 = w) : yp (fX9_isPerson u x) (fun r => r = if 0 ≤ x.toInt ∧ x.toInt < sp_n w 5 then 1 else 0) := by
  have c5 := (yl_5 hW).2
  unfold fX9_isPerson
  rw [show sn_I u 1 (5 : Int32).toNatClampNeg = nI (sp_n w 5) from (congrFun hu 5).trans (yl_5 hW).1, ym_inL (by omega)]
  exact yp_gd (fun _ => yp_bs rfl (yp_gd (fun _ => yp_some rfl)))
theorem ym_isMl {x : Int64} (hW : jW w) (hu : u.1 1 = w) : yp (fX9_isMinute u x) (fun r => r = if 0 ≤ x.toInt ∧ x.toInt < sp_n w 0 then 1 else 0) := by
  have c0 := (yl_0 hW).2
  unfold fX9_isMinute
  rw [show sn_I u 1 (0 : Int32).toNatClampNeg = nI (sp_n w 0) from (congrFun hu 0).trans (yl_0 hW).1, ym_inL (by omega)]
  exact yp_gd (fun _ => yp_bs rfl (yp_gd (fun _ => yp_some rfl)))
theorem ym_pairsV (hs : s < 4) (hN : N ≤ 30) (hW : jW w) (hu : u.1 1 = w) (hlen : u.1 21 s = nI (2 * N)) (hA : ∀ i, i < 60 → u.2.1 23 (60 * s + i) = A i) : yp (sn_it (LX9_layPairs_46 u (nI s)) 5000 (0 : Int32)) (fun t => (t = Sum.inl () ∧ ∀ i, i < N → ye_v w A i) ∨ (t = Sum.inr ((-2 : Int32), u) ∧ ¬ ∀ i, i < N → ye_v w A i)) := by
  refine yp_it (fun x : Int32 => ∃ i, i ≤ N ∧ x = nI (2 * i) ∧ ∀ j, j < i → ye_v w A j) (fun x hx => ?_) _ _ (by exact ⟨0, Nat.zero_le _, nI_0.symm, fun j hj => absurd hj (by omega)⟩)
  obtain ⟨i, hi, ex, hv⟩ := hx
  subst ex
  show yp (BX9_layPairs_46 u (nI s) (nI (2 * i))) _
  unfold BX9_layPairs_46
  rw [nI_clamp (show s < 2 ^ 31 by omega), show sn_I u 21 s = nI (2 * N) from hlen]
  refine yp_gd (fun _ => ?_)
  by_cases c : i < N
  · rw [if_neg (nI_ge (show 2 * i < 2 * N by omega) (by omega)), nI_1]
    refine yp_bd _ (ym_num hs (show 2 * i < 60 by omega) hA) (fun x1 h1 => yp_bd _ (ym_isPl hW hu) (fun x2 h2 => ?_))
    rw [h2, h1]
    by_cases d1 : 0 ≤ (A (2 * i)).toInt ∧ (A (2 * i)).toInt < sp_n w 5
    · rw [if_pos d1, if_neg (by decide)]
      refine yp_bd _ (ym_num hs (show 2 * i + 1 < 60 by omega) hA) (fun x3 h3 => yp_bd _ (ym_isMl hW hu) (fun x4 h4 => ?_))
      rw [h4, h3]
      by_cases d2 : 0 ≤ (A (2 * i + 1)).toInt ∧ (A (2 * i + 1)).toInt < sp_n w 0
      · rw [if_pos d2, if_neg (by decide)]
        refine yp_lt (yp_some ⟨i + 1, c, (nI_add _ 2).trans (congrArg nI (by omega)), fun j hj => ?_⟩)
        by_cases e : j = i
        · subst e
          exact ⟨d1, d2⟩
        · exact hv j (by omega)
      · rw [if_neg d2, if_pos rfl]
        exact yp_some (Or.inr ⟨rfl, fun g => d2 (g i c).2⟩)
    · rw [if_neg d1, if_pos rfl]
      exact yp_some (Or.inr ⟨rfl, fun g => d1 (g i c).1⟩)
  · rw [if_pos (nI_le (show 2 * N ≤ 2 * i by omega) (by omega))]
    have e : i = N := by omega
    subst e
    exact yp_some (Or.inl ⟨rfl, hv⟩)
theorem ym_check (hs : s < 4) (hN : N ≤ 30) (c0 : sp_n w 0 ≤ 30) (c5 : sp_n w 5 ≤ 6) {x2 x3 : Int32} (hlen : v.1 21 s = nI (2 * N)) (hA : ∀ i, i < 60 → v.2.1 23 (60 * s + i) = A i) (hv : ∀ i, i < N → ye_v w A i) (h10 : ∀ p, p < sp_n w 5 → v.1 10 p = ye_s w t p) : yp (sn_it (LX9_layPairs_150 v (nI s) x2 x3) 5000 ((1 : Int32), (0 : Int32))) (fun r => r = if ye_ok w (ye_a A) (ye_b A) N t = true then 1 else 0) := by
  refine yp_for N (fun i x => x.2 = nI (2 * i) ∧ x.1 = if ye_all (fun i => sp_bit (ye_s w t (ye_a A i)) (ye_b A i)) i = true then 1 else 0) (fun i x hi hx => ?_) (fun x hx => ?_) (by exact ⟨nI_0.symm, rfl⟩)
  · obtain ⟨x4, x5⟩ := x
    obtain ⟨e5, e4⟩ := hx
    have e5 : x5 = nI (2 * i) := e5
    have e4 : x4 = if ye_all (fun i => sp_bit (ye_s w t (ye_a A i)) (ye_b A i)) i = true then 1 else 0 := e4
    subst e5
    have k1 : ye_all (fun i => sp_bit (ye_s w t (ye_a A i)) (ye_b A i)) (i + 1) = (ye_all (fun i => sp_bit (ye_s w t (ye_a A i)) (ye_b A i)) i && sp_bit (ye_s w t (ye_a A i)) (ye_b A i)) := rfl
    have fin : ∀ x : Int32, (x = if ye_all (fun i => sp_bit (ye_s w t (ye_a A i)) (ye_b A i)) (i + 1) = true then 1 else 0) → yp (BX9_layPairs_201 v (nI s) x2 x3 x4 (nI (2 * i)) x) (yp_sum (fun x : Int32 × Int32 => x.2 = nI (2 * (i + 1)) ∧ x.1 = if ye_all (fun i => sp_bit (ye_s w t (ye_a A i)) (ye_b A i)) (i + 1) = true then 1 else 0) (fun _ => False)) := fun x h => by
      unfold BX9_layPairs_201
      exact yp_lt (yp_some ⟨(nI_add _ 2).trans (congrArg nI (by omega)), h⟩)
    show yp (BX9_layPairs_150 v (nI s) x2 x3 x4 (nI (2 * i))) _
    unfold BX9_layPairs_150 BX9_layPairs_200
    rw [nI_clamp (show s < 2 ^ 31 by omega), show sn_I v 21 s = nI (2 * N) from hlen, if_neg (nI_ge (show 2 * i < 2 * N by omega) (by omega)), nI_1]
    refine yp_gd (fun _ => ?_)
    cases o : ye_all (fun i => sp_bit (ye_s w t (ye_a A i)) (ye_b A i)) i with
    | false =>
      rw [o, if_neg (by decide)] at e4
      rw [o, Bool.false_and] at k1
      rw [if_pos e4]
      exact fin 0 (by rw [k1, if_neg (by decide)])
    | true =>
      rw [o, if_pos rfl] at e4
      rw [o, Bool.true_and] at k1
      have e4 : x4 = 1 := e4
      rw [if_neg (show ¬ x4 = 0 from fun h => absurd (h.symm.trans e4) (by decide))]
      obtain ⟨⟨h1, h2⟩, h3, h4⟩ := hv i hi
      have ea : (A (2 * i)).toInt = (ye_a A i : Int) := by unfold ye_a; omega
      have eb : (A (2 * i + 1)).toInt = (ye_b A i : Int) := by unfold ye_b; omega
      have la : ye_a A i < sp_n w 5 := by omega
      refine yp_bd _ (ym_num hs (show 2 * i < 60 by omega) hA) (fun y1 g1 => yp_gd (fun _ => yp_bd _ (ym_num hs (show 2 * i + 1 < 60 by omega) hA) (fun y2 g2 => ?_)))
      rw [g1, g2, ye_32 ea (by omega), ye_32 eb (by omega), nI_clamp (show ye_a A i < 2 ^ 31 by omega), show sn_I v 10 (ye_a A i) = _ from h10 _ la, yb_m]
      refine yp_bit (fun h => ?_) (fun h => ?_)
      · rw [if_pos rfl]
        exact fin 1 (by rw [k1, h, if_pos rfl])
      · rw [if_neg (by decide)]
        exact fin 0 (by rw [k1, h, if_neg (by decide)])
  · obtain ⟨x4, x5⟩ := x
    obtain ⟨e5, e4⟩ := hx
    have e5 : x5 = nI (2 * N) := e5
    subst e5
    show yp (BX9_layPairs_150 v (nI s) x2 x3 x4 (nI (2 * N))) _
    unfold BX9_layPairs_150
    rw [nI_clamp (show s < 2 ^ 31 by omega), show sn_I v 21 s = nI (2 * N) from hlen, if_pos (nI_le (Nat.le_refl _) (by omega))]
    exact yp_gd (fun _ => yp_some e4)
def ye_R (w : Nat → Int32) (ok : Nat → Bool) (t : Nat) (z : sn_S) : Prop := z.1 0 36 = nI (ye_cnt ok t) ∧ ∀ k, k < t → ok k = true → z.1 19 (ye_cnt ok k) = nI (10 * (k / 9) + (k % 9 + 1)) ∧ ∀ p, p < sp_n w 5 → z.1 20 (6 * ye_cnt ok k + p) = nI (ye_p w k p)
theorem ye_lt {k : Nat} (hk : k < t) (h : ok k = true) : ye_cnt ok k < ye_cnt ok t := by
  have g := ye_mono (ok := ok) t (k + 1) (by omega)
  rw [ye_ct h] at g
  omega
theorem ye_Uc (e0 : ∀ k, k ≠ 36 → v.1 0 k = u.1 0 k) (e : ∀ q, q ≠ 0 → q ≠ 10 → q ≠ 11 → q ≠ 12 → q ≠ 13 → q ≠ 14 → q ≠ 19 → q ≠ 20 → v.1 q = u.1 q) (e2 : v.2 = u.2) (h : ye_U w A s N u) : ye_U w A s N v := by
  obtain ⟨h1, h2, ⟨t1, t2, t3, t4, t5, t6⟩, h4, h5⟩ := h
  have r1 := e 1 (by decide) (by decide) (by decide) (by decide) (by decide) (by decide) (by decide) (by decide)
  have r7 := e 7 (by decide) (by decide) (by decide) (by decide) (by decide) (by decide) (by decide) (by decide)
  have r8 := e 8 (by decide) (by decide) (by decide) (by decide) (by decide) (by decide) (by decide) (by decide)
  have r9 := e 9 (by decide) (by decide) (by decide) (by decide) (by decide) (by decide) (by decide) (by decide)
  have r21 := e 21 (by decide) (by decide) (by decide) (by decide) (by decide) (by decide) (by decide) (by decide)
  refine ⟨r1.trans h1, (e0 22 (by decide)).trans h2, ⟨(congrFun r1 5).trans t1, (congrFun r1 7).trans t2, (e0 19 (by decide)).trans t3, fun k hk => (congrFun r7 k).trans (t4 k hk), fun p hp => ?_, fun k hk => ?_⟩, (congrFun r21 s).trans h4, fun i hi => ?_⟩
  · rw [r1, r8, r9]
    exact t5 p hp
  · rw [r1]
    exact t6 k hk
  · rw [e2]
    exact h5 i hi
theorem ym_write {g : Nat} (hs : s < 4) (c0 : sp_n w 0 ≤ 30) (c5 : sp_n w 5 ≤ 6) (hm : m < 30) (e9 : t / 9 = m) (eg : t % 9 + 1 = g) (hU : ye_U w A s N v) (hR : ye_R w ok t v) (h10 : ∀ p, p < sp_n w 5 → v.1 10 p = ye_s w t p) : yp (BX9_layPairs_209 v (nI s) (nI m) (nI g) (if ok t = true then 1 else 0)) (yp_sum (fun x : sn_S × Int32 => x.2 = nI (g + 1) ∧ ye_U w A s N x.1 ∧ ye_R w ok (t + 1) x.1) (fun _ => False)) := by
  have fin : ∀ y : sn_S, ye_U w A s N y → ye_R w ok (t + 1) y → yp (BX9_layPairs_283 y (nI s) (nI m) (nI g)) (yp_sum (fun x : sn_S × Int32 => x.2 = nI (g + 1) ∧ ye_U w A s N x.1 ∧ ye_R w ok (t + 1) x.1) (fun _ => False)) := fun y h1 h2 => by
    unfold BX9_layPairs_283
    exact yp_lt (yp_some ⟨nI_1 g, h1, h2⟩)
  obtain ⟨n1, n2⟩ := hR
  have cl := ye_cle (ok := ok) t
  have ht : t < 1000 := by omega
  unfold BX9_layPairs_209
  cases o : ok t with
  | false =>
    rw [if_neg (show ¬ false = true by decide), if_pos rfl]
    refine fin v hU ⟨by rw [ye_cf o]; exact n1, fun k hk hok => ?_⟩
    by_cases c : k = t
    · rw [c, o] at hok
      exact absurd hok (by decide)
    · exact n2 k (by omega) hok
  | true =>
    rw [if_pos rfl, if_neg (by decide), show sn_I v 0 36 = nI (ye_cnt ok t) from n1, nI_clamp (show ye_cnt ok t < 2 ^ 31 by omega)]
    refine yp_gd (fun _ => yp_le (fun y ey => ?_))
    have yr0 : ∀ q, q ≠ 19 → y.1 q = v.1 q := fun q h => by rw [ey]; exact pI_ne h
    have y19 : y.1 19 (ye_cnt ok t) = nI (10 * (t / 9) + (t % 9 + 1)) := by
      rw [ey, pI_self, show (10 : Int32) * nI m = nI (10 * m) from nI_mul 10 m, nI_add, e9, eg]
    have y19b : ∀ k, k ≠ ye_cnt ok t → y.1 19 k = v.1 19 k := fun k h => by rw [ey]; exact pI_slot h
    refine yp_bd (fun y2 : sn_S => (∀ q, q ≠ 20 → y2.1 q = y.1 q) ∧ y2.2 = y.2 ∧ (∀ k, k < 6 * ye_cnt ok t → y2.1 20 k = y.1 20 k) ∧ ∀ p, p < sp_n w 5 → y2.1 20 (6 * ye_cnt ok t + p) = nI (ye_p w t p)) (yp_for 6 (fun q x => x.2 = nI q ∧ (∀ q, q ≠ 20 → x.1.1 q = y.1 q) ∧ x.1.2 = y.2 ∧ (∀ k, k < 6 * ye_cnt ok t → x.1.1 20 k = y.1 20 k) ∧ ∀ p, p < q → p < sp_n w 5 → x.1.1 20 (6 * ye_cnt ok t + p) = nI (ye_p w t p)) (fun q x hq hx => ?_) (fun x hx => ?_) (by exact ⟨nI_0.symm, fun _ _ => rfl, rfl, fun _ _ => rfl, fun p hp => absurd hp (by omega)⟩)) (fun y2 hy2 => ?_)
    · obtain ⟨x, x5⟩ := x
      obtain ⟨e5, xr, xl, xo, xp⟩ := hx
      have e5 : x5 = nI q := e5
      subst e5
      have xr : ∀ q, q ≠ 20 → x.1 q = y.1 q := xr
      have xl : x.2 = y.2 := xl
      have xo : ∀ k, k < 6 * ye_cnt ok t → x.1 20 k = y.1 20 k := xo
      have xp : ∀ p, p < q → p < sp_n w 5 → x.1 20 (6 * ye_cnt ok t + p) = nI (ye_p w t p) := xp
      have e36 : sn_I x 0 36 = nI (ye_cnt ok t) := (congrFun (xr 0 (by decide)) 36).trans ((congrFun (yr0 0 (by decide)) 36).trans n1)
      show yp (BX9_layPairs_235 x (nI s) (nI m) (nI g) (nI q)) _
      unfold BX9_layPairs_235
      rw [if_neg (show ¬ (6 : Int32) ≤ nI q from nI_ge (b := 6) hq (by decide)), nI_clamp (show q < 2 ^ 31 by omega), e36, yi_6, nI_add, nI_clamp (show 6 * ye_cnt ok t + q < 2 ^ 31 by omega)]
      refine yp_gd (fun _ => yp_bd _ (yb_mbits _) (fun r hr => yp_gd (fun _ => yp_le (fun x' ex' => yp_lt (yp_some ⟨nI_1 q, fun k hk => ?_, ?_, fun k hk => ?_, fun p hp hp2 => ?_⟩)))))
      · show x'.1 k = _
        rw [ex', pI_ne hk]
        exact xr k hk
      · show x'.2 = _
        rw [ex']
        exact xl
      · show x'.1 20 k = _
        rw [ex', pI_slot (by omega)]
        exact xo k hk
      · show x'.1 20 (6 * ye_cnt ok t + p) = _
        rw [ex']
        by_cases c : p = q
        · subst c
          rw [pI_self, hr, show sn_I x 10 p = ye_s w t p from (congrFun (xr 10 (by decide)) p).trans ((congrFun (yr0 10 (by decide)) p).trans (h10 p hp2))]
          rfl
        · rw [pI_slot (by omega)]
          exact xp p (by omega) hp2
    · obtain ⟨x, x5⟩ := x
      obtain ⟨e5, xr, xl, xo, xp⟩ := hx
      have e5 : x5 = nI 6 := e5
      subst e5
      show yp (BX9_layPairs_235 x (nI s) (nI m) (nI g) (nI 6)) _
      unfold BX9_layPairs_235
      rw [if_pos (show (6 : Int32) ≤ nI 6 by decide)]
      exact yp_some ⟨xr, xl, xo, fun p hp => xp p (by omega) hp⟩
    · obtain ⟨r2, l2, o2, p2⟩ := hy2
      have e36 : sn_I y2 0 36 = nI (ye_cnt ok t) := (congrFun (r2 0 (by decide)) 36).trans ((congrFun (yr0 0 (by decide)) 36).trans n1)
      unfold BX9_layPairs_273
      rw [e36, nI_1]
      refine yp_le (fun y3 e3 => ?_)
      have r3 : ∀ q, q ≠ 0 → y3.1 q = y2.1 q := fun q h => by rw [e3]; exact pI_ne h
      refine fin y3 (ye_Uc (u := v) (fun k hk => ?_) (fun q q0 q1 q2 q3 q4 q5 q6 q7 => (r3 q q0).trans ((r2 q q7).trans (yr0 q q6))) ?_ hU) ⟨?_, fun k hk hok => ?_⟩
      · rw [e3, pI_slot hk, r2 0 (by decide), yr0 0 (by decide)]
      · rw [e3]
        show y2.2 = _
        rw [l2, ey]
        rfl
      · rw [e3, pI_self, ye_ct o]
      · rw [r3 19 (by decide), r3 20 (by decide), r2 19 (by decide)]
        by_cases c : k = t
        · subst c
          exact ⟨y19, p2⟩
        · have lt := ye_lt (ok := ok) (show k < t by omega) hok
          have g := n2 k (by omega) hok
          refine ⟨(y19b _ (by omega)).trans g.1, fun p hp => ?_⟩
          rw [o2 _ (by omega), yr0 20 (by decide)]
          exact g.2 p hp
theorem ym_inner (hs : s < 4) (hN : N ≤ 30) (hW : jW w) (hm : m < sp_n w 0) (hv : ∀ i, i < N → ye_v w A i) (hU : ye_U w A s N u) (hR : ye_R w (ye_ok w (ye_a A) (ye_b A) N) (9 * m) u) : yp (sn_it (LX9_layPairs_114 (nI s) (nI m)) 5000 (u, (1 : Int32))) (fun v => ye_U w A s N v ∧ ye_R w (ye_ok w (ye_a A) (ye_b A) N) (9 * m + 9) v) := by
  have c0 := (yl_0 hW).2
  have c5 := (yl_5 hW).2
  refine yp_for 9 (fun g x => x.2 = nI (g + 1) ∧ ye_U w A s N x.1 ∧ ye_R w (ye_ok w (ye_a A) (ye_b A) N) (9 * m + g) x.1) (fun g x hg hx => ?_) (fun x hx => ?_) (by exact ⟨rfl, hU, hR⟩)
  · obtain ⟨z, x3⟩ := x
    obtain ⟨ex, hU, hR⟩ := hx
    have ex : x3 = nI (g + 1) := ex
    subst ex
    have hU : ye_U w A s N z := hU
    have hR : ye_R w (ye_ok w (ye_a A) (ye_b A) N) (9 * m + g) z := hR
    obtain ⟨u1, u22, ⟨t1, t2, t3, t4, t5, t6⟩, u21, uA⟩ := hU
    have z7 : sn_I z 7 m = hs_dust w m (sp_n w 6) := t4 m (by omega)
    show yp (BX9_layPairs_114 z (nI s) (nI m) (nI (g + 1))) _
    unfold BX9_layPairs_114
    rw [if_neg (show ¬ (9 : Int32) < nI (g + 1) from nI_nlt (a := 9) (by omega) (by decide)), nI_clamp (show m < 2 ^ 31 by omega), z7]
    refine yp_gd (fun _ => yp_gd (fun _ => yp_le (fun y ey => ?_)))
    have yr0 : ∀ q, q ≠ 7 → y.1 q = z.1 q := fun q h => by rw [ey]; exact pI_ne h
    have hT2 : ym_T y (ye_j w m (hs_dust w m (sp_n w 6) + nI (g + 1))) := by
      refine ⟨(congrFun (yr0 1 (by decide)) 5).trans t1, (congrFun (yr0 1 (by decide)) 7).trans t2, (congrFun (yr0 0 (by decide)) 19).trans t3, fun k hk => ?_, fun p hp => ?_, fun k hk => ?_⟩
      · show y.1 7 k = (if k = m then hs_dust w m (sp_n w 6) + nI (g + 1) else hs_dust w k (sp_n w 6))
        by_cases c : k = m
        · rw [if_pos c, c, ey]
          exact pI_self
        · rw [if_neg c, ey]
          exact (pI_slot c).trans (t4 k hk)
      · rw [yr0 1 (by decide), yr0 8 (by decide), yr0 9 (by decide)]
        exact t5 p hp
      · rw [yr0 1 (by decide)]
        exact t6 k hk
    refine yp_bd _ (ym_goAll c0 ((congrFun (yr0 0 (by decide)) 22).trans u22) hT2 (hs_ok hW)) (fun v hv2 => ?_)
    obtain ⟨⟨f1, f2⟩, hLv⟩ := hv2
    have v7 : sn_I v 7 m = hs_dust w m (sp_n w 6) + nI (g + 1) := by
      show v.1 7 m = _
      rw [f1 7 (by omega), ey]
      exact pI_self
    rw [v7, Int32.add_sub_cancel]
    refine yp_gd (fun _ => yp_gd (fun _ => yp_le (fun y2 ey2 => ?_)))
    have r2 : ∀ q, q ≠ 7 → y2.1 q = v.1 q := fun q h => by rw [ey2]; exact pI_ne h
    have r3 : ∀ q, (q < 10 ∨ 14 < q) → y2.1 q = z.1 q := fun q h => by
      by_cases c : q = 7
      · subst c
        funext k
        by_cases d : k = m
        · rw [d, ey2, pI_self]
          exact z7.symm
        · rw [ey2, pI_slot d, f1 7 (by omega), ey, pI_slot d]
      · rw [r2 q c, f1 q h, yr0 q c]
    have l3 : y2.2 = z.2 := by
      rw [ey2]
      show v.2 = _
      rw [f2, ey]
      rfl
    have hU2 : ye_U w A s N y2 := ye_Uc (u := z) (fun k _ => congrFun (r3 0 (by omega)) k) (fun q q0 q1 q2 q3 q4 q5 q6 q7 => r3 q (by omega)) l3 ⟨u1, u22, ⟨t1, t2, t3, t4, t5, t6⟩, u21, uA⟩
    have t9 : (9 * m + g) / 9 = m := by omega
    have tg : (9 * m + g) % 9 + 1 = g + 1 := by omega
    have ed : ye_d w (9 * m + g) = ye_j w m (hs_dust w m (sp_n w 6) + nI (g + 1)) := by
      unfold ye_d
      rw [t9, tg]
    have h10 : ∀ p, p < sp_n w 5 → y2.1 10 p = ye_s w (9 * m + g) p := fun p hp => by
      unfold ye_s
      rw [ed, r2 10 (by decide)]
      have q := (hLv.2 p (by omega)).1
      rw [if_pos (show p < dy_P (ye_j w m (hs_dust w m (sp_n w 6) + nI (g + 1))) from hp)] at q
      exact q
    have hR2 : ye_R w (ye_ok w (ye_a A) (ye_b A) N) (9 * m + g) y2 := by
      unfold ye_R
      rw [r3 0 (by omega), r3 19 (by omega), r3 20 (by omega)]
      exact hR
    refine yp_bd _ (ym_check (t := 9 * m + g) hs hN c0 c5 hU2.2.2.2.1 hU2.2.2.2.2 hv h10) (fun r hr => ?_)
    rw [hr]
    exact ym_write hs c0 c5 (by omega) t9 tg hU2 hR2 h10
  · obtain ⟨z, x3⟩ := x
    obtain ⟨ex, hU, hR⟩ := hx
    have ex : x3 = nI (9 + 1) := ex
    subst ex
    show yp (BX9_layPairs_114 z (nI s) (nI m) (nI (9 + 1))) _
    unfold BX9_layPairs_114
    rw [if_pos (show (9 : Int32) < nI (9 + 1) by decide)]
    exact yp_some ⟨hU, hR⟩
theorem ym_layP (hs : s < 4) (hN : N ≤ 30) (hW : jW w) (hu : τ.1 1 = w) (hH : fX9_isHouse τ = some 1) (hlen : τ.1 21 s = nI (2 * N)) (hA : ∀ i, i < 60 → τ.2.1 23 (60 * s + i) = A i) : yp (fX9_layPairs τ (nI s)) (fun r => (r.1 = 0 ∧ (∀ i, i < N → ye_v w A i) ∧ r.2.1 1 = w ∧ ye_R w (ye_ok w (ye_a A) (ye_b A) N) (9 * sp_n w 0) r.2) ∨ (r.1 = -2 ∧ ¬ ∀ i, i < N → ye_v w A i)) := by
  have c0 := (yl_0 hW).2
  unfold fX9_layPairs
  rw [m_isSlot, if_pos ⟨nI_pos' (by omega), nI_lt (b := 4) hs (by decide)⟩]
  refine yp_bs rfl ?_
  rw [if_neg (by decide), hH]
  refine yp_bs rfl ?_
  rw [if_neg (by decide), nI_clamp (show s < 2 ^ 31 by omega), show sn_I τ 21 s = nI (2 * N) from hlen, if_neg (yi_m (by omega)), yi_m2 (by omega), if_pos (show nI (2 * N % 2) = 0 by rw [show 2 * N % 2 = 0 by omega]; exact nI_0)]
  refine yp_gd (fun _ => yp_gd (fun _ => yp_bd _ (ym_pairsV hs hN hW hu hlen hA) (fun t ht => ?_)))
  rcases ht with ⟨e, hv⟩ | ⟨e, h2⟩
  · subst e
    rw [Sum.elim_inl]
    unfold BX9_layPairs_93
    refine yp_bd _ (ym_asItIs hu hW) (fun z hz => yp_le (fun y ey => ?_))
    have yr0 : ∀ q, q ≠ 0 → y.1 q = z.1 q := fun q h => by rw [ey]; exact pI_ne h
    have y0 : ∀ k, k ≠ 36 → y.1 0 k = z.1 0 k := fun k h => by rw [ey]; exact pI_slot h
    have zT := ya_day hu hW hz
    obtain ⟨a1, a2, a3⟩ := hz.1
    have zU : ye_U w A s N z := ⟨(a1 1 (by decide) (by decide) (by decide) (by decide)).trans hu, hz.2.2.2.2.2.1, zT, (congrFun (a1 21 (by decide) (by decide) (by decide) (by decide)) s).trans hlen, fun i hi => by rw [a2]; exact hA i hi⟩
    have yU : ye_U w A s N y := ye_Uc (u := z) y0 (fun q q0 _ _ _ _ _ _ _ => yr0 q q0) (by rw [ey]; rfl) zU
    have yR : ye_R w (ye_ok w (ye_a A) (ye_b A) N) (9 * 0) y := ⟨by rw [ey, pI_self]; exact nI_0.symm, fun k hk => absurd hk (by omega)⟩
    refine yp_bd (fun v : sn_S => ye_U w A s N v ∧ ye_R w (ye_ok w (ye_a A) (ye_b A) N) (9 * sp_n w 0) v) (yp_for (sp_n w 0) (fun m x => x.2 = nI m ∧ ye_U w A s N x.1 ∧ ye_R w (ye_ok w (ye_a A) (ye_b A) N) (9 * m) x.1) (fun m x hm hx => ?_) (fun x hx => ?_) (by exact ⟨nI_0.symm, yU, yR⟩)) (fun v hv2 => ?_)
    · obtain ⟨z, x2⟩ := x
      obtain ⟨ex, hU, hR⟩ := hx
      have ex : x2 = nI m := ex
      subst ex
      have hU : ye_U w A s N z := hU
      show yp (BX9_layPairs_104 z (nI s) (nI m)) _
      unfold BX9_layPairs_104 fX9_minutes
      refine yp_bd (fun t => t = nI (sp_n w 0)) (yp_gd (fun _ => yp_some ((congrFun hU.1 0).trans (yl_0 hW).1))) (fun t ht => ?_)
      rw [ht, if_neg (nI_ge hm (by omega))]
      refine yp_bd _ (ym_inner hs hN hW hm hv hU hR) (fun v hv2 => ?_)
      unfold BX9_layPairs_289
      exact yp_lt (yp_some ⟨nI_1 m, hv2.1, hv2.2⟩)
    · obtain ⟨z, x2⟩ := x
      obtain ⟨ex, hU, hR⟩ := hx
      have ex : x2 = nI (sp_n w 0) := ex
      subst ex
      have hU : ye_U w A s N z := hU
      show yp (BX9_layPairs_104 z (nI s) (nI (sp_n w 0))) _
      unfold BX9_layPairs_104 fX9_minutes
      refine yp_bd (fun t => t = nI (sp_n w 0)) (yp_gd (fun _ => yp_some ((congrFun hU.1 0).trans (yl_0 hW).1))) (fun t ht => ?_)
      rw [ht, if_pos (nI_le (Nat.le_refl _) (by omega))]
      exact yp_some ⟨hU, hR⟩
    · unfold BX9_layPairs_295
      exact yp_some (Or.inl ⟨rfl, hv, hv2.1.1, hv2.2⟩)
  · subst e
    rw [Sum.elim_inr]
    exact yp_some (Or.inr ⟨rfl, h2⟩)
end
end
section
/-! which, when, gust, ask, leaves -/
def ye_mx (f : Nat → Nat) : Nat → Nat
  | 0 => 0
  | n + 1 => if ye_mx f n < f n then f n else ye_mx f n
theorem ye_mxle {f : Nat → Nat} {B : Nat} (h : ∀ o, f o ≤ B) : ∀ n, ye_mx f n ≤ B := by
  intro n
  induction n with
  | zero => exact Nat.zero_le _
  | succ n ih =>
    show (if ye_mx f n < f n then f n else ye_mx f n) ≤ B
    split
    · exact h n
    · exact ih
section
variable {σ τ u z v : sn_S} {w : Nat → Int32} {ok : Nat → Bool} {N m n p t s T : Nat} {A : Nat → Int64}
def ye_m (w : Nat → Int32) (ok : Nat → Bool) (T p : Nat) : Nat := ye_mx (fun o => ye_c w ok p o T) 31
def ye_A (w : Nat → Int32) (ok : Nat → Bool) (T : Nat) : Nat → Int32 × Nat
  | 0 => (-1, ye_cnt ok T)
  | p + 1 => if ye_m w ok T p < (ye_A w ok T p).2 then (nI p, ye_m w ok T p) else ye_A w ok T p
theorem ye_mle (hT : T < 1000) : ye_m w ok T p < 1000 := Nat.lt_of_le_of_lt (ye_mxle (fun o => ye_ccle (o := o) T) 31) hT
theorem ye_Ale (hT : T < 1000) : ∀ p, (ye_A w ok T p).2 < 1000 := by
  intro p
  induction p with
  | zero => exact Nat.lt_of_le_of_lt (ye_cle T) hT
  | succ p ih =>
    show (if ye_m w ok T p < (ye_A w ok T p).2 then (nI p, ye_m w ok T p) else ye_A w ok T p).2 < 1000
    split
    · exact ye_mle hT
    · exact ih
theorem ye_A2 : ∀ p, p ≤ 6 → ((ye_A w ok T p).1 = -1 ∧ (ye_A w ok T p).2 = ye_cnt ok T) ∨ ∃ q, q < p ∧ (ye_A w ok T p).1 = nI q ∧ (ye_A w ok T p).2 = ye_m w ok T q := by
  intro p
  induction p with
  | zero => exact fun _ => Or.inl ⟨rfl, rfl⟩
  | succ p ih =>
    intro hp
    have k : ye_A w ok T (p + 1) = if ye_m w ok T p < (ye_A w ok T p).2 then (nI p, ye_m w ok T p) else ye_A w ok T p := rfl
    rw [k]
    by_cases c : ye_m w ok T p < (ye_A w ok T p).2
    · rw [if_pos c]
      exact Or.inr ⟨p, by omega, rfl, rfl⟩
    · rw [if_neg c]
      rcases ih (by omega) with h | ⟨q, h1, h2⟩
      · exact Or.inl h
      · exact Or.inr ⟨q, by omega, h2⟩
/-! the class's -/
theorem yc_worst (hT : T < 1000) (hp : p < sp_n w 5) (c5 : sp_n w 5 ≤ 6) (hN : ye_N w ok T z) : yp (fX7_atWorst z (nI p)) (fun r => r = nI (ye_m w ok T p)) := by
  have f56 : ∀ o, o < 31 → sn_I z 56 (31 * p + o) = nI (ye_c w ok p o T) := hN.2.2.2 p hp
  unfold fX7_atWorst
  refine yp_bd (fun r => r = nI (ye_m w ok T p)) (yp_for 31 (fun o x => x.2 = nI o ∧ x.1 = nI (ye_mx (fun o => ye_c w ok p o T) o)) (fun o x ho hx => ?_) (fun x hx => ?_) (by exact ⟨nI_0.symm, nI_0.symm⟩)) (fun r hr => ?_)
  · obtain ⟨x2, x3⟩ := x
    obtain ⟨e3, e2⟩ := hx
    have e3 : x3 = nI o := e3
    have e2 : x2 = nI (ye_mx (fun o => ye_c w ok p o T) o) := e2
    subst e3
    subst e2
    have l1 : ye_mx (fun o => ye_c w ok p o T) o ≤ T := ye_mxle (fun o => ye_ccle (o := o) T) o
    have l2 : ye_c w ok p o T ≤ T := ye_ccle T
    have k : ye_mx (fun o => ye_c w ok p o T) (o + 1) = if ye_mx (fun o => ye_c w ok p o T) o < ye_c w ok p o T then ye_c w ok p o T else ye_mx (fun o => ye_c w ok p o T) o := rfl
    show yp (BX7_atWorst_4 z (nI p) (nI (ye_mx (fun o => ye_c w ok p o T) o)) (nI o)) _
    unfold BX7_atWorst_4
    rw [if_neg (show ¬ (31 : Int32) ≤ nI o from nI_ge (b := 31) ho (by decide)), show (31 : Int32) * nI p = nI (31 * p) from nI_mul 31 p, nI_add, nI_clamp (show 31 * p + o < 2 ^ 31 by omega), f56 o ho]
    refine yp_gd (fun _ => yp_lt (yp_lt (yp_some ⟨nI_1 o, ?_⟩)))
    show (if nI (ye_mx (fun o => ye_c w ok p o T) o) < nI (ye_c w ok p o T) then nI (ye_c w ok p o T) else nI (ye_mx (fun o => ye_c w ok p o T) o)) = _
    rw [k]
    by_cases c : ye_mx (fun o => ye_c w ok p o T) o < ye_c w ok p o T
    · rw [if_pos ((nI_ltI (by omega) (by omega)).mpr c), if_pos c]
    · rw [if_neg (fun h => c ((nI_ltI (by omega) (by omega)).mp h)), if_neg c]
  · obtain ⟨x2, x3⟩ := x
    obtain ⟨e3, e2⟩ := hx
    have e3 : x3 = nI 31 := e3
    subst e3
    show yp (BX7_atWorst_4 z (nI p) x2 (nI 31)) _
    unfold BX7_atWorst_4
    rw [if_pos (show (31 : Int32) ≤ nI 31 by decide)]
    exact yp_some e2
  · unfold BX7_atWorst_32
    exact yp_some hr
theorem yc_whom (hT : T < 1000) (c5 : sp_n w 5 ≤ 6) (hN : ye_N w ok T z) : yp (fX7_whomToAsk z (nI (sp_n w 5))) (fun r => r = (ye_A w ok T (sp_n w 5)).1) := by
  unfold fX7_whomToAsk
  rw [show sn_I z 54 1 = nI (ye_cnt ok T) from hN.1]
  refine yp_lt (yp_bd (fun r => r = (ye_A w ok T (sp_n w 5)).1) (yp_for (sp_n w 5) (fun p x => x.2.2 = nI p ∧ x.1 = (ye_A w ok T p).1 ∧ x.2.1 = nI (ye_A w ok T p).2) (fun p x hp hx => ?_) (fun x hx => ?_) (by exact ⟨nI_0.symm, rfl, rfl⟩)) (fun r hr => ?_))
  · obtain ⟨x2, x3, x4⟩ := x
    obtain ⟨e4, e2, e3⟩ := hx
    have e4 : x4 = nI p := e4
    have e2 : x2 = (ye_A w ok T p).1 := e2
    have e3 : x3 = nI (ye_A w ok T p).2 := e3
    subst e4
    subst e2
    subst e3
    have l1 := ye_Ale (w := w) (ok := ok) hT p
    have l2 := ye_mle (w := w) (ok := ok) (p := p) hT
    have k : ye_A w ok T (p + 1) = if ye_m w ok T p < (ye_A w ok T p).2 then (nI p, ye_m w ok T p) else ye_A w ok T p := rfl
    show yp (BX7_whomToAsk_10 z (nI (sp_n w 5)) (ye_A w ok T p).1 (nI (ye_A w ok T p).2) (nI p)) _
    unfold BX7_whomToAsk_10 BX7_whomToAsk_36
    rw [if_neg (nI_ge hp (by omega))]
    refine yp_bd _ (yc_worst hT hp c5 hN) (fun r hr => ?_)
    rw [hr]
    by_cases c : ye_m w ok T p < (ye_A w ok T p).2
    · rw [if_neg (nI_ge c (by omega))]
      rw [if_pos c] at k
      refine yp_lt (yp_some ⟨nI_1 p, ?_, ?_⟩)
      · show nI p = (ye_A w ok T (p + 1)).1
        rw [k]
      · show nI (ye_m w ok T p) = nI (ye_A w ok T (p + 1)).2
        rw [k]
    · rw [if_pos (nI_le (by omega) (by omega))]
      rw [if_neg c] at k
      refine yp_lt (yp_some ⟨nI_1 p, ?_, ?_⟩)
      · show (ye_A w ok T p).1 = (ye_A w ok T (p + 1)).1
        rw [k]
      · show nI (ye_A w ok T p).2 = nI (ye_A w ok T (p + 1)).2
        rw [k]
  · obtain ⟨x2, x3, x4⟩ := x
    obtain ⟨e4, e2, e3⟩ := hx
    have e4 : x4 = nI (sp_n w 5) := e4
    subst e4
    show yp (BX7_whomToAsk_10 z (nI (sp_n w 5)) x2 x3 (nI (sp_n w 5))) _
    unfold BX7_whomToAsk_10
    rw [if_pos (nI_le (Nat.le_refl _) (by omega))]
    exact yp_some e2
  · unfold BX7_whomToAsk_42
    exact yp_some hr
/-! the reference's -/
theorem ym_often (hT : T < 1000) (hR : ye_R w ok T z) (hp : p < sp_n w 5) (c5 : sp_n w 5 ≤ 6) {x1 x3 : Int32} {o : Nat} (ho : o < 31) : yp (sn_it (LX9_askOf_40 z x1 (nI p) x3 (nI o)) 5000 ((0 : Int32), (0 : Int32))) (fun r => r = nI (ye_c w ok p o T)) := by
  have cl := ye_cle (ok := ok) T
  refine yp_for (ye_cnt ok T) (fun k x => x.2 = nI k ∧ ∃ t, t ≤ T ∧ ye_cnt ok t = k ∧ x.1 = nI (ye_c w ok p o t)) (fun k x hk hx => ?_) (fun x hx => ?_) (by exact ⟨nI_0.symm, 0, Nat.zero_le _, rfl, nI_0.symm⟩)
  · obtain ⟨x5, x6⟩ := x
    obtain ⟨e6, t, ht, hc, e5⟩ := hx
    have e6 : x6 = nI k := e6
    have f5 : x5 = nI (ye_c w ok p o t) := e5
    subst e6
    obtain ⟨t', g1, g2, g3, g4, g5⟩ := ye_next (ok := ok) (f := fun n t => if ye_p w t p = o then n + 1 else n) (x := 0) (T - t) t T (by omega) (by omega)
    have g5 : ye_c w ok p o t' = ye_c w ok p o t := g5
    have e20 : sn_I z 20 (6 * k + p) = nI (ye_p w t' p) := by
      have g := (hR.2 t' g2 g3).2 p hp
      rw [g4, hc] at g
      exact g
    have pl : ye_p w t' p ≤ 30 := yb_pople _ 30
    have k1 : ye_c w ok p o (t' + 1) = if ye_p w t' p = o then ye_c w ok p o t' + 1 else ye_c w ok p o t' := ye_ft g3
    have k2 : ye_cnt ok (t' + 1) = k + 1 := by rw [ye_ct g3, g4, hc]
    show yp (BX9_askOf_40 z x1 (nI p) x3 (nI o) x5 (nI k)) _
    unfold BX9_askOf_40 BX9_askOf_73
    rw [show sn_I z 0 36 = nI (ye_cnt ok T) from hR.1, if_neg (nI_ge hk (by omega)), yi_6, nI_add, nI_clamp (show 6 * k + p < 2 ^ 31 by omega), e20, f5, ← g5]
    refine yp_gd (fun _ => yp_ite (fun c => ?_) (fun c => ?_))
    · have c := (nI_eq (by omega) (by omega)).mp c
      refine yp_lt (yp_lt (yp_some ⟨nI_1 k, t' + 1, by omega, k2, ?_⟩))
      show nI (ye_c w ok p o t') + (1 : Int32) = _
      rw [k1, if_pos c]
      exact nI_1 _
    · have c : ¬ ye_p w t' p = o := fun h => c (by rw [h])
      refine yp_lt (yp_lt (yp_some ⟨nI_1 k, t' + 1, by omega, k2, ?_⟩))
      show nI (ye_c w ok p o t') + (0 : Int32) = _
      rw [k1, if_neg c]
      exact Int32.add_zero _
  · obtain ⟨x5, x6⟩ := x
    obtain ⟨e6, t, ht, hc, e5⟩ := hx
    have e6 : x6 = nI (ye_cnt ok T) := e6
    have f5 : x5 = nI (ye_c w ok p o t) := e5
    subst e6
    have g : ye_c w ok p o t = ye_c w ok p o T := ye_same T t ht hc
    show yp (BX9_askOf_40 z x1 (nI p) x3 (nI o) x5 (nI (ye_cnt ok T))) _
    unfold BX9_askOf_40
    rw [show sn_I z 0 36 = nI (ye_cnt ok T) from hR.1, if_pos (nI_le (Nat.le_refl _) (by omega))]
    exact yp_some (f5.trans (congrArg nI g))
theorem ym_worst (hT : T < 1000) (hR : ye_R w ok T z) (hp : p < sp_n w 5) (c5 : sp_n w 5 ≤ 6) {x1 : Int32} : yp (sn_it (LX9_askOf_27 z x1 (nI p)) 5000 ((0 : Int32), (0 : Int32))) (fun r => r = nI (ye_m w ok T p)) := by
  refine yp_for 31 (fun o x => x.2 = nI o ∧ x.1 = nI (ye_mx (fun o => ye_c w ok p o T) o)) (fun o x ho hx => ?_) (fun x hx => ?_) (by exact ⟨nI_0.symm, nI_0.symm⟩)
  · obtain ⟨x2, x3⟩ := x
    obtain ⟨e3, e2⟩ := hx
    have e3 : x3 = nI o := e3
    have e2 : x2 = nI (ye_mx (fun o => ye_c w ok p o T) o) := e2
    subst e3
    subst e2
    have l1 : ye_mx (fun o => ye_c w ok p o T) o ≤ T := ye_mxle (fun o => ye_ccle (o := o) T) o
    have l2 : ye_c w ok p o T ≤ T := ye_ccle T
    have k : ye_mx (fun o => ye_c w ok p o T) (o + 1) = if ye_mx (fun o => ye_c w ok p o T) o < ye_c w ok p o T then ye_c w ok p o T else ye_mx (fun o => ye_c w ok p o T) o := rfl
    show yp (BX9_askOf_27 z x1 (nI p) (nI (ye_mx (fun o => ye_c w ok p o T) o)) (nI o)) _
    unfold BX9_askOf_27 BX9_askOf_82
    rw [if_neg (show ¬ (30 : Int32) < nI o from nI_nlt (a := 30) (by omega) (by decide))]
    refine yp_bd _ (ym_often hT hR hp c5 ho) (fun r hr => ?_)
    rw [hr]
    refine yp_lt (yp_lt (yp_some ⟨nI_1 o, ?_⟩))
    show (if nI (ye_mx (fun o => ye_c w ok p o T) o) < nI (ye_c w ok p o T) then nI (ye_c w ok p o T) else nI (ye_mx (fun o => ye_c w ok p o T) o)) = _
    rw [k]
    by_cases c : ye_mx (fun o => ye_c w ok p o T) o < ye_c w ok p o T
    · rw [if_pos ((nI_ltI (by omega) (by omega)).mpr c), if_pos c]
    · rw [if_neg (fun h => c ((nI_ltI (by omega) (by omega)).mp h)), if_neg c]
  · obtain ⟨x2, x3⟩ := x
    obtain ⟨e3, e2⟩ := hx
    have e3 : x3 = nI 31 := e3
    subst e3
    show yp (BX9_askOf_27 z x1 (nI p) x2 (nI 31)) _
    unfold BX9_askOf_27
    rw [if_pos (show (30 : Int32) < nI 31 by decide)]
    exact yp_some e2
theorem ym_ask (hT : T < 1000) (hW : jW w) (hu : u.1 1 = w) (hR : ye_R w ok T u) : yp (fX9_askOf u) (fun r => r.1 = (ye_A w ok T (sp_n w 5)).1 ∧ r.2.1 0 37 = nI (ye_A w ok T (sp_n w 5)).2) := by
  have c5 := (yl_5 hW).2
  unfold fX9_askOf
  refine yp_le (fun y ey => ?_)
  have y1 : y.1 1 = w := by rw [ey, pI_ne (by decide)]; exact hu
  have yRc : ∀ (x y : sn_S), (∀ q, q ≠ 0 → x.1 q = y.1 q) → x.1 0 36 = y.1 0 36 → ye_R w ok T y → ye_R w ok T x := fun x y h1 h2 h => by
    unfold ye_R
    rw [h1 19 (by decide), h1 20 (by decide), h2]
    exact h
  have yR : ye_R w ok T y := yRc y u (fun q hq => by rw [ey]; exact pI_ne hq) (by rw [ey]; exact pI_slot (by decide)) hR
  have y37 : y.1 0 37 = nI (ye_cnt ok T) := by rw [ey, pI_self]; exact hR.1
  refine yp_bd (fun r : sn_S × Int32 => r.2 = (ye_A w ok T (sp_n w 5)).1 ∧ r.1.1 0 37 = nI (ye_A w ok T (sp_n w 5)).2) (yp_for (sp_n w 5) (fun p x => x.2.2 = nI p ∧ x.2.1 = (ye_A w ok T p).1 ∧ x.1.1 0 37 = nI (ye_A w ok T p).2 ∧ x.1.1 1 = w ∧ ye_R w ok T x.1) (fun p x hp hx => ?_) (fun x hx => ?_) (by exact ⟨nI_0.symm, rfl, y37, y1, yR⟩)) (fun r hr => ?_)
  · obtain ⟨z, x1, x2⟩ := x
    obtain ⟨e2, e1, z37, z1, zR⟩ := hx
    have e2 : x2 = nI p := e2
    have e1 : x1 = (ye_A w ok T p).1 := e1
    have z37 : z.1 0 37 = nI (ye_A w ok T p).2 := z37
    have z1 : z.1 1 = w := z1
    subst e2
    subst e1
    have l1 := ye_Ale (w := w) (ok := ok) hT p
    have l2 := ye_mle (w := w) (ok := ok) (p := p) hT
    have k : ye_A w ok T (p + 1) = if ye_m w ok T p < (ye_A w ok T p).2 then (nI p, ye_m w ok T p) else ye_A w ok T p := rfl
    show yp (BX9_askOf_12 z (ye_A w ok T p).1 (nI p)) _
    unfold BX9_askOf_12
    rw [show sn_I z 1 (5 : Int32).toNatClampNeg = nI (sp_n w 5) from (congrFun z1 5).trans (yl_5 hW).1, if_neg (nI_ge hp (by omega))]
    refine yp_gd (fun _ => yp_bd _ (ym_worst hT zR hp c5) (fun r hr => ?_))
    rw [hr]
    unfold BX9_askOf_95 BX9_askOf_113
    rw [show sn_I z 0 37 = nI (ye_A w ok T p).2 from z37]
    by_cases c : ye_m w ok T p < (ye_A w ok T p).2
    · rw [if_pos (nI_lt c (by omega))]
      rw [if_pos c] at k
      refine yp_le (fun y2 ey2 => yp_lt (yp_some ⟨nI_1 p, ?_, ?_, ?_, yRc y2 z (fun q hq => by rw [ey2]; exact pI_ne hq) (by rw [ey2]; exact pI_slot (by decide)) zR⟩))
      · show nI p = (ye_A w ok T (p + 1)).1
        rw [k]
      · show y2.1 0 37 = nI (ye_A w ok T (p + 1)).2
        rw [k, ey2, pI_self]
      · show y2.1 1 = w
        rw [ey2, pI_ne (by decide)]
        exact z1
    · rw [if_neg (fun h => c ((nI_ltI (by omega) (by omega)).mp h))]
      rw [if_neg c] at k
      refine yp_lt (yp_some ⟨nI_1 p, ?_, ?_, z1, zR⟩)
      · show (ye_A w ok T p).1 = (ye_A w ok T (p + 1)).1
        rw [k]
      · show z.1 0 37 = nI (ye_A w ok T (p + 1)).2
        rw [k]
        exact z37
  · obtain ⟨z, x1, x2⟩ := x
    obtain ⟨e2, e1, z37, z1, zR⟩ := hx
    have e2 : x2 = nI (sp_n w 5) := e2
    have z1 : z.1 1 = w := z1
    subst e2
    show yp (BX9_askOf_12 z x1 (nI (sp_n w 5))) _
    unfold BX9_askOf_12
    rw [show sn_I z 1 (5 : Int32).toNatClampNeg = nI (sp_n w 5) from (congrFun z1 5).trans (yl_5 hW).1, if_pos (nI_le (Nat.le_refl _) (by omega))]
    exact yp_gd (fun _ => yp_some ⟨e1, z37⟩)
  · unfold BX9_askOf_119
    exact yp_some hr
/-! the answers -/
theorem yz_pairs {a : Int32} {F G : sn_S → Option (Int32 × sn_S)} (hK : zK σ τ) (h : ∀ (w : Nat → Int32) (ok : Nat → Bool) (T : Nat) (z u : sn_S), jW w → T < 1000 → z.1 27 1 = nI (sp_n w 5) → ye_N w ok T z → u.1 1 = w → ye_R w ok T u → yr (F z) (G u) (fun r s => r.1 = s.1)) : yr ((fX8_seek σ a).bind fun t => if t.1 = 0 then F t.2 else some (t.1, t.2)) ((fX9_layPairs τ a).bind fun t => if 0 ≤ t.1 then G t.2 else some (t.1, t.2)) (fun r s => r.1 = s.1) := by
  have hW := hK.2.1.1
  have c0 := (yl_0 hW).2
  have c10 := hW.1.2.2.2.2.2.2.2.2.2.2
  have hS := hK.1.1.2.2.2.2
  have neg : ∀ x : Int32, x ≠ 0 → ¬ 0 ≤ x → yp (fX8_seek σ a) (fun r => r.1 = x) → yp (fX9_layPairs τ a) (fun r => r.1 = x) → yr ((fX8_seek σ a).bind fun t => if t.1 = 0 then F t.2 else some (t.1, t.2)) ((fX9_layPairs τ a).bind fun t => if 0 ≤ t.1 then G t.2 else some (t.1, t.2)) (fun r s => r.1 = s.1) := fun x h0 h1 hx hy => by
    refine yr_eq2 x (yp_bd _ hx (fun t ht => ?_)) (yp_bd _ hy (fun t ht => ?_))
    · rw [if_neg (by rw [ht]; exact h0)]
      exact yp_some ht
    · rw [if_neg (by rw [ht]; exact h1)]
      exact yp_some ht
  have cs := c_isSlot a
  have ms := m_isSlot a
  by_cases hs : 0 ≤ a ∧ a < 4
  · rw [if_pos hs] at cs ms
    obtain ⟨s, hs4, ea⟩ := nI_idx (n := 4) (by decide) hs.1 hs.2
    subst ea
    have cH := yk_hv hK
    have mH : fX9_isHouse τ = some (if 0 < sp_n (τ.1 1) 10 then 1 else 0) := by
      rw [yk_misHouse, c10.1]
      have l := c10.2
      by_cases c : 0 < sp_n (τ.1 1) 10
      · rw [if_neg (nI_nle c (by omega)), if_pos c]
      · have e : sp_n (τ.1 1) 10 = 0 := by omega
        rw [e, if_pos (show nI 0 ≤ 0 by decide), if_neg (by decide)]
    by_cases hh : 0 < sp_n (τ.1 1) 10
    · rw [if_pos hh] at cH mH
      obtain ⟨b1, b2, b3, b4⟩ := hS.1 s hs4
      by_cases hm : σ.1 26 s = -1
      · refine neg (-6) (by decide) (by decide) ?_ ?_
        · unfold fX8_seek
          rw [cs]
          refine yp_bs rfl ?_
          rw [if_neg (by decide), cH]
          refine yp_bs rfl ?_
          rw [if_neg (by decide), c_has σ hs4, if_pos hm]
          refine yp_bs rfl ?_
          rw [if_pos rfl]
          exact yp_some rfl
        · unfold fX9_layPairs
          rw [ms]
          refine yp_bs rfl ?_
          rw [if_neg (by decide), mH]
          refine yp_bs rfl ?_
          rw [if_neg (by decide), nI_clamp (show s < 2 ^ 31 by omega), show sn_I τ 21 s = -1 from b1.symm.trans hm, if_pos rfl]
          exact yp_gd (fun _ => yp_some rfl)
      · have hge : 0 ≤ σ.1 26 s := by
          have q1 := Int32.le_iff_toInt_le.mp b3.1
          have q3 : (σ.1 26 s).toInt ≠ (-1 : Int32).toInt := fun z => hm (Int32.toInt_inj.mp z)
          rw [Int32.le_iff_toInt_le]
          have e1 : (-1 : Int32).toInt = -1 := by decide
          have e0 : (0 : Int32).toInt = 0 := by decide
          omega
        obtain ⟨L, hL, eL⟩ := nI_idx (n := 61) (by decide) hge (Int32.lt_of_le_of_lt b3.2 (by decide))
        have eL2 : τ.1 21 s = nI L := b1.symm.trans eL
        by_cases hodd : L % 2 = 0
        · obtain ⟨N, eN⟩ : ∃ N, L = 2 * N := ⟨L / 2, by omega⟩
          subst eN
          have hA : ∀ i, i < 60 → σ.2.1 (21 + s) i = τ.2.1 23 (60 * s + i) := fun i hi => by
            obtain ⟨d1, d2, d3, d4⟩ := hS.2 i hi
            match s, hs4 with
            | 0, _ => rw [show 60 * 0 + i = i by omega]; exact d1
            | 1, _ => exact d2
            | 2, _ => exact d3
            | 3, _ => exact d4
          have X := yc_seek (A := fun i => τ.2.1 23 (60 * s + i)) (N := N) hs4 (by omega) hW hK.2.2.2 cH eL hA
          have Y := ym_layP (A := fun i => τ.2.1 23 (60 * s + i)) (N := N) hs4 (by omega) hW rfl mH eL2 (fun _ _ => rfl)
          by_cases hv : ∀ i, i < N → ye_v (τ.1 1) (fun i => τ.2.1 23 (60 * s + i)) i
          · intro r t e1 e2
            obtain ⟨x, e3, e4⟩ := sn_bd e1
            obtain ⟨y, e5, e6⟩ := sn_bd e2
            rcases X x e3 with ⟨x0, -, x1, x2⟩ | ⟨-, g⟩
            · rcases Y y e5 with ⟨y0, -, y1, y2⟩ | ⟨-, g⟩
              · rw [if_pos x0] at e4
                rw [if_pos (by rw [y0]; decide)] at e6
                exact h _ _ _ _ _ hW (by omega) x1 x2 y1 y2 r t e4 e6
              · exact absurd hv g
            · exact absurd hv g
          · refine neg (-2) (by decide) (by decide) (yp_w X (fun r hr => ?_)) (yp_w Y (fun r hr => ?_))
            · rcases hr with ⟨-, g, -⟩ | ⟨g, -⟩
              · exact absurd g hv
              · exact g
            · rcases hr with ⟨-, g, -⟩ | ⟨g, -⟩
              · exact absurd g hv
              · exact g
        · have e2 : ¬ nI (L % 2) = 0 := fun e => hodd ((yi_0 (by omega)).mp e)
          refine neg (-2) (by decide) (by decide) ?_ ?_
          · unfold fX8_seek
            rw [cs]
            refine yp_bs rfl ?_
            rw [if_neg (by decide), cH]
            refine yp_bs rfl ?_
            rw [if_neg (by decide), c_has σ hs4, if_neg hm]
            refine yp_bs rfl ?_
            rw [if_neg (by decide), nI_clamp (show s < 2 ^ 31 by omega), show sn_I σ 26 s = nI L from eL, yi_m2 (by omega), if_neg e2]
            exact yp_gd (fun _ => yp_some rfl)
          · unfold fX9_layPairs
            rw [ms]
            refine yp_bs rfl ?_
            rw [if_neg (by decide), mH]
            refine yp_bs rfl ?_
            rw [if_neg (by decide), nI_clamp (show s < 2 ^ 31 by omega), show sn_I τ 21 s = nI L from eL2, if_neg (yi_m (by omega)), yi_m2 (by omega), if_neg e2]
            exact yp_gd (fun _ => yp_gd (fun _ => yp_some rfl))
    · rw [if_neg hh] at cH mH
      refine neg (-2) (by decide) (by decide) ?_ ?_
      · unfold fX8_seek
        rw [cs]
        refine yp_bs rfl ?_
        rw [if_neg (by decide), cH]
        refine yp_bs rfl ?_
        rw [if_pos rfl]
        exact yp_some rfl
      · unfold fX9_layPairs
        rw [ms]
        refine yp_bs rfl ?_
        rw [if_neg (by decide), mH]
        refine yp_bs rfl ?_
        rw [if_pos rfl]
        exact yp_some rfl
  · rw [if_neg hs] at cs ms
    refine neg (-2) (by decide) (by decide) ?_ ?_
    · unfold fX8_seek
      rw [cs]
      refine yp_bs rfl ?_
      rw [if_pos rfl]
      exact yp_some rfl
    · unfold fX9_layPairs
      rw [ms]
      refine yp_bs rfl ?_
      rw [if_pos rfl]
      exact yp_some rfl
theorem yz_51 {a : Int32} (hK : zK σ τ) : yr (fX8_leaves σ a) (fX9_leaves τ a) (fun r s => r.1 = s.1) := by
  unfold fX8_leaves fX9_leaves
  refine yz_pairs (F := fun z => (fX7_whomToAsk z (sn_I z 27 1)).bind fun t => if t = (-1 : Int32) then some ((sn_I z 54 1), z) else (fX7_atWorst z t).bind fun t_7 => some (t_7, z)) (G := fun u => (fX9_askOf u).bind fun t => some ((sn_I t.2 0 37), t.2)) hK (fun w ok T z u hW hT h1 hN hu hR => yr_eq2 (nI (ye_A w ok T (sp_n w 5)).2) ?_ (yp_bd _ (ym_ask hT hW hu hR) (fun r hr => yp_some hr.2)))
  have c5 := (yl_5 hW).2
  rw [show sn_I z 27 1 = nI (sp_n w 5) from h1]
  refine yp_bd _ (yc_whom hT c5 hN) (fun r hr => ?_)
  rw [hr]
  rcases ye_A2 (w := w) (ok := ok) (T := T) (sp_n w 5) c5 with ⟨g1, g2⟩ | ⟨q, hq, g1, g2⟩
  · rw [g1, if_pos rfl, g2]
    exact yp_some hN.1
  · rw [g1, if_neg (yl_ne (by omega)), g2]
    exact yp_bd _ (yc_worst hT hq c5 hN) (fun r hr => yp_some hr)
end
end
section
/-! every call keeps what the two have in common, the houses too -/
theorem zz_0 : st_0 zK zK := by
  intro σ τ a0 a1 a2 a3 a4 hJ
  obtain ⟨r, σ1, τ1, e1, e2, h⟩ := zK_0 σ τ a0 a1 a2 a3 a4 hJ
  exact ⟨r, r, σ1, τ1, e1, e2, h⟩
theorem zz_1 : st_1 zK zK := by
  intro σ τ a0 hJ
  obtain ⟨r, σ1, τ1, e1, e2, h⟩ := zK_1 σ τ a0 hJ
  exact ⟨r, r, σ1, τ1, e1, e2, h⟩
theorem zz_2 : st_2 zK zK := by
  intro σ τ hJ
  obtain ⟨r, σ1, τ1, e1, e2, h⟩ := zK_2 σ τ hJ
  exact ⟨r, r, σ1, τ1, e1, e2, h⟩
theorem zz_3 : st_3 zK zK := by
  intro σ τ a0 hJ
  obtain ⟨r, e1, e2⟩ := zJ_3 σ τ a0 hJ.1
  exact ⟨r, r, e1, e2, hJ⟩
theorem zz_4 : st_4 zK zK := by
  intro σ τ a0 a1 hJ
  obtain ⟨r, e1, e2⟩ := zJ_4 σ τ a0 a1 hJ.1
  exact ⟨r, r, e1, e2, hJ⟩
theorem zz_5 : st_5 zK zK := by
  intro σ τ a0 a1 hJ
  obtain ⟨r, e1, e2⟩ := zJ_5 σ τ a0 a1 hJ.1
  exact ⟨r, r, e1, e2, hJ⟩
theorem zz_6 : st_6 zK zK := by
  intro σ τ a0 hJ
  obtain ⟨r, e1, h1⟩ := zc_20 (zs_rf (key := zs_kC) (kl := zs_lC) hJ.1.1.1) (x1 := a0)
  obtain ⟨r2, e2, h2⟩ := zc_43 (zs_rf (key := zs_kM) (kl := zs_lM) hJ.1.1.2.1) (x1 := a0)
  exact ⟨r, r2.1, r2.2, e1, e2, zK_keep (zs_rf hJ.1.1.1) (h2.1.2) hJ⟩
theorem zz_7 : st_7 zK zK := by
  intro σ τ a0 hJ
  obtain ⟨r, e1, h1⟩ := zc_45 (zs_rf (key := zs_kC) (kl := zs_lC) hJ.1.1.1) (x1 := a0)
  obtain ⟨r2, e2, h2⟩ := zc_96 (zs_rf (key := zs_kM) (kl := zs_lM) hJ.1.1.2.1) (x1 := a0)
  exact ⟨r, r2.1, r2.2, e1, e2, zK_keep (zs_rf hJ.1.1.1) (h2.1.2) hJ⟩
theorem zz_8 : st_8 zK zK := by
  intro σ τ a0 hJ
  obtain ⟨r, e1, h1⟩ := zc_97 (zs_rf (key := zs_kC) (kl := zs_lC) hJ.1.1.1) (x1 := a0)
  obtain ⟨r2, e2, h2⟩ := zc_99 (zs_rf (key := zs_kM) (kl := zs_lM) hJ.1.1.2.1) (x1 := a0)
  exact ⟨r, r2.1, r2.2, e1, e2, zK_keep (zs_rf hJ.1.1.1) (h2.1.2) hJ⟩
theorem zz_9 : st_9 zK zK := by
  intro σ τ a0 hJ
  obtain ⟨r, e1, h1⟩ := zc_100 (zs_rf (key := zs_kC) (kl := zs_lC) hJ.1.1.1) (x1 := a0)
  obtain ⟨r2, e2, h2⟩ := zc_101 (zs_rf (key := zs_kM) (kl := zs_lM) hJ.1.1.2.1) (x1 := a0)
  exact ⟨r, r2.1, r2.2, e1, e2, zK_keep (zs_rf hJ.1.1.1) (h2.1.2) hJ⟩
theorem zz_10 : st_10 zK zK := by
  intro σ τ hJ
  obtain ⟨r, e1, h1⟩ := zc_106 (zs_rf (key := zs_kC) (kl := zs_lC) hJ.1.1.1) 
  obtain ⟨r2, e2, h2⟩ := zc_113 (zs_rf (key := zs_kM) (kl := zs_lM) hJ.1.1.2.1) 
  exact ⟨r, r2.1, r2.2, e1, e2, zK_keep (zs_rf hJ.1.1.1) (h2.2) hJ⟩
theorem zz_11 : st_11 zK zK := by
  intro σ τ a0 hJ
  obtain ⟨r, e1, h1⟩ := zc_114 (zs_rf (key := zs_kC) (kl := zs_lC) hJ.1.1.1) (x1 := a0)
  obtain ⟨r2, e2, h2⟩ := zc_115 (zs_rf (key := zs_kM) (kl := zs_lM) hJ.1.1.2.1) (x1 := a0)
  exact ⟨r, r2.1, r2.2, e1, e2, zK_keep (zs_rf hJ.1.1.1) (h2.1.2) hJ⟩
theorem zz_12 : st_12 zK zK := by
  intro σ τ a0 a1 hJ
  obtain ⟨r, e1, h1⟩ := zc_117 (zs_rf (key := zs_kC) (kl := zs_lC) hJ.1.1.1) (x1 := a0) (x2 := a1)
  obtain ⟨r2, e2, h2⟩ := zc_118 (zs_rf (key := zs_kM) (kl := zs_lM) hJ.1.1.2.1) (x1 := a0) (x2 := a1)
  exact ⟨r, r2.1, r2.2, e1, e2, zK_keep (zs_rf hJ.1.1.1) (h2.1.2) hJ⟩
theorem zz_13 : st_13 zK zK := by
  intro σ τ a0 hJ
  obtain ⟨r, e1, h1⟩ := zc_121 (zs_rf (key := zs_kC) (kl := zs_lC) hJ.1.1.1) (x1 := a0)
  obtain ⟨r2, e2, h2⟩ := zc_124 (zs_rf (key := zs_kM) (kl := zs_lM) hJ.1.1.2.1) (x1 := a0)
  exact ⟨r, r2.1, r2.2, e1, e2, zK_keep (zs_rf hJ.1.1.1) (h2.1.2) hJ⟩
theorem zz_14 : st_14 zK zK := by
  intro σ τ a0 hJ
  obtain ⟨r, e1, h1⟩ := zc_128 (zs_rf (key := zs_kC) (kl := zs_lC) hJ.1.1.1) (x1 := a0)
  obtain ⟨r2, e2, h2⟩ := zc_129 (zs_rf (key := zs_kM) (kl := zs_lM) hJ.1.1.2.1) (x1 := a0)
  exact ⟨r, r2.1, r2.2, e1, e2, zK_keep (zs_rf hJ.1.1.1) (h2.1.2) hJ⟩
theorem zz_15 : st_15 zK zK := by
  intro σ τ a0 hJ
  obtain ⟨r, e1, h1⟩ := zc_130 (zs_rf (key := zs_kC) (kl := zs_lC) hJ.1.1.1) (x1 := a0)
  obtain ⟨r2, e2, h2⟩ := zc_136 (zs_rf (key := zs_kM) (kl := zs_lM) hJ.1.1.2.1) (x1 := a0)
  exact ⟨r, r2.1, r2.2, e1, e2, zK_keep (zs_rf hJ.1.1.1) (h2.1.2) hJ⟩
theorem zz_16 : st_16 zK zK := by
  intro σ τ hJ
  obtain ⟨r, e1, h1⟩ := zc_141 (zs_rf (key := zs_kC) (kl := zs_lC) hJ.1.1.1) 
  obtain ⟨r2, e2, h2⟩ := zc_146 (zs_rf (key := zs_kM) (kl := zs_lM) hJ.1.1.2.1) 
  exact ⟨r, r2.1, r2.2, e1, e2, zK_keep (zs_rf hJ.1.1.1) (h2.2) hJ⟩
theorem zz_17 : st_17 zK zK := by
  intro σ τ hJ
  obtain ⟨r, e1, h1⟩ := zc_149 (zs_rf (key := zs_kC) (kl := zs_lC) hJ.1.1.1) 
  obtain ⟨r2, e2, h2⟩ := zc_154 (zs_rf (key := zs_kM) (kl := zs_lM) hJ.1.1.2.1) 
  exact ⟨r, r2.1, r2.2, e1, e2, zK_keep (zs_rf hJ.1.1.1) (h2.2) hJ⟩
theorem zz_18 : st_18 zK zK := by
  intro σ τ hJ
  obtain ⟨r, e1, h1⟩ := zc_159 (zs_rf (key := zs_kC) (kl := zs_lC) hJ.1.1.1) 
  obtain ⟨r2, e2, h2⟩ := zc_164 (zs_rf (key := zs_kM) (kl := zs_lM) hJ.1.1.2.1) 
  exact ⟨r, r2.1, r2.2, e1, e2, zK_keep (zs_rf hJ.1.1.1) (h2.2) hJ⟩
theorem zz_19 : st_19 zK zK := by
  intro σ τ a0 hJ
  obtain ⟨r, e1, h1⟩ := zc_176 (zs_rf (key := zs_kC) (kl := zs_lC) hJ.1.1.1) (x1 := a0)
  obtain ⟨r2, e2, h2⟩ := zc_186 (zs_rf (key := zs_kM) (kl := zs_lM) hJ.1.1.2.1) (x1 := a0)
  exact ⟨r, r2.1, r2.2, e1, e2, zK_keep (zs_rf hJ.1.1.1) (h2.1.2) hJ⟩
theorem zz_20 : st_20 zK zK := by
  intro σ τ a0 a1 hJ
  obtain ⟨r, e1, h1⟩ := zc_188 (zs_rf (key := zs_kC) (kl := zs_lC) hJ.1.1.1) (x1 := a0) (x2 := a1)
  obtain ⟨r2, e2, h2⟩ := zc_191 (zs_rf (key := zs_kM) (kl := zs_lM) hJ.1.1.2.1) (x1 := a0) (x2 := a1)
  exact ⟨r, r2.1, r2.2, e1, e2, zK_keep (zs_rf hJ.1.1.1) (h2.1.2) hJ⟩
theorem zz_21 : st_21 zK zK := by
  intro σ τ a0 hJ
  obtain ⟨r, e1, h1⟩ := zc_199 (zs_rf (key := zs_kC) (kl := zs_lC) hJ.1.1.1) (x1 := a0)
  obtain ⟨r2, e2, h2⟩ := zc_211 (zs_rf (key := zs_kM) (kl := zs_lM) hJ.1.1.2.1) (x1 := a0)
  exact ⟨r, r2.1, r2.2, e1, e2, zK_keep (zs_rf hJ.1.1.1) (h2.1.2) hJ⟩
theorem zz_22 : st_22 zK zK := by
  intro σ τ hJ
  obtain ⟨r, e1, h1⟩ := zc_215 (zs_rf (key := zs_kC) (kl := zs_lC) hJ.1.1.1) 
  obtain ⟨r2, e2, h2⟩ := zc_220 (zs_rf (key := zs_kM) (kl := zs_lM) hJ.1.1.2.1) 
  exact ⟨r, r2.1, r2.2, e1, e2, zK_keep (zs_rf hJ.1.1.1) (h2.2) hJ⟩
theorem zz_23 : st_23 zK zK := by
  intro σ τ a0 hJ
  obtain ⟨r, e1, h1⟩ := zc_225 (zs_rf (key := zs_kC) (kl := zs_lC) hJ.1.1.1) (x1 := a0)
  obtain ⟨r2, e2, h2⟩ := zc_228 (zs_rf (key := zs_kM) (kl := zs_lM) hJ.1.1.2.1) (x1 := a0)
  exact ⟨r, r2.1, r2.2, e1, e2, zK_keep (zs_rf hJ.1.1.1) (h2.1.2) hJ⟩
theorem zz_24 : st_24 zK zK := by
  intro σ τ a0 hJ
  obtain ⟨r, e1, h1⟩ := zc_238 (zs_rf (key := zs_kC) (kl := zs_lC) hJ.1.1.1) (x1 := a0)
  obtain ⟨r2, e2, h2⟩ := zc_263 (zs_rf (key := zs_kM) (kl := zs_lM) hJ.1.1.2.1) (x1 := a0)
  exact ⟨r.1, r2.1, r.2, r2.2, e1, e2, zK_keep (h1.2) (h2.2) hJ⟩
theorem zz_25 : st_25 zK zK := by
  intro σ τ hJ
  obtain ⟨r, e1, h1⟩ := zc_276 (zs_rf (key := zs_kC) (kl := zs_lC) hJ.1.1.1) 
  obtain ⟨r2, e2, h2⟩ := zc_313 (zs_rf (key := zs_kM) (kl := zs_lM) hJ.1.1.2.1) 
  exact ⟨r.1, r2.1, r.2, r2.2, e1, e2, zK_keep (h1.2) (h2.2) hJ⟩
theorem zz_26 : st_26 zK zK := by
  intro σ τ a0 hJ
  obtain ⟨r, e1, h1⟩ := zc_353 (zs_rf (key := zs_kC) (kl := zs_lC) hJ.1.1.1) (x1 := a0)
  obtain ⟨r2, e2, h2⟩ := zA_70 (zs_rf (key := zs_kM0) (kl := zs_lM) hJ.1.1.2.1) (x1 := a0)
  exact ⟨r.1, r2.1, r.2, r2.2, e1, e2, zK_keep0 (h1.1.2) (h2.1.2) (qb_dull hJ.1.1.2.1 e2) hJ⟩
theorem zz_27 : st_27 zK zK := by
  intro σ τ a0 hJ
  obtain ⟨r, e1, h1⟩ := zc_358 (zs_rf (key := zs_kC) (kl := zs_lC) hJ.1.1.1) (x1 := a0)
  obtain ⟨r2, e2, h2⟩ := zA_79 (zs_rf (key := zs_kM0) (kl := zs_lM) hJ.1.1.2.1) (x1 := a0)
  exact ⟨r.1, r2.1, r.2, r2.2, e1, e2, zK_keep0 (h1.1.2) (h2.1.2) (qb_bears hJ.1.1.2.1 e2) hJ⟩
theorem zz_28 : st_28 zK zK := by
  intro σ τ hJ
  obtain ⟨r, e1, h1⟩ := zc_366 (zs_rf (key := zs_kC) (kl := zs_lC) hJ.1.1.1) 
  obtain ⟨r2, e2, h2⟩ := zA_94 (zs_rf (key := zs_kM0) (kl := zs_lM) hJ.1.1.2.1) 
  exact ⟨r.1, r2.1, r.2, r2.2, e1, e2, zK_keep0 (h1.2) (h2.2) (qb_clean hJ.1.1.2.1 e2) hJ⟩
theorem zz_29 : st_29 zK zK := by
  intro σ τ a0 hJ
  obtain ⟨r, e1, h1⟩ := zc_370 (zs_rf (key := zs_kC) (kl := zs_lC) hJ.1.1.1) (x1 := a0)
  obtain ⟨r2, e2, h2⟩ := zc_378 (zs_rf (key := zs_kM) (kl := zs_lM) hJ.1.1.2.1) (x1 := a0)
  exact ⟨r.1, r2.1, r.2, r2.2, e1, e2, zK_keep (h1.1.2) (h2.1.2) hJ⟩
theorem zz_30 : st_30 zK zK := by
  intro σ τ a0 hJ
  obtain ⟨r, e1, h1⟩ := zc_384 (zs_rf (key := zs_kC) (kl := zs_lC) hJ.1.1.1) (x1 := a0)
  obtain ⟨r2, e2, h2⟩ := zc_397 (zs_rf (key := zs_kM) (kl := zs_lM) hJ.1.1.2.1) (x1 := a0)
  exact ⟨r, r2.1, r2.2, e1, e2, zK_keep (zs_rf hJ.1.1.1) (h2.1.2) hJ⟩
theorem zz_31 : st_31 zK zK := by
  intro σ τ a0 hJ
  obtain ⟨r, e1, h1⟩ := zc_398 (zs_rf (key := zs_kC) (kl := zs_lC) hJ.1.1.1) (x1 := a0)
  obtain ⟨r2, e2, h2⟩ := zc_399 (zs_rf (key := zs_kM) (kl := zs_lM) hJ.1.1.2.1) (x1 := a0)
  exact ⟨r.1, r2.1, r.2, r2.2, e1, e2, zK_keep (h1.1.2) (h2.1.2) hJ⟩
theorem zz_32 : st_32 zK zK := by
  intro σ τ a0 hJ
  obtain ⟨r, e1, h1⟩ := zc_400 (zs_rf (key := zs_kC) (kl := zs_lC) hJ.1.1.1) (x1 := a0)
  obtain ⟨r2, e2, h2⟩ := zc_401 (zs_rf (key := zs_kM) (kl := zs_lM) hJ.1.1.2.1) (x1 := a0)
  exact ⟨r.1, r2.1, r.2, r2.2, e1, e2, zK_keep (h1.1.2) (h2.1.2) hJ⟩
theorem zz_33 : st_33 zK zK := by
  intro σ τ hJ
  obtain ⟨r, e1, h1⟩ := zc_405 (zs_rf (key := zs_kC) (kl := zs_lC) hJ.1.1.1) 
  obtain ⟨r2, e2, h2⟩ := zc_410 (zs_rf (key := zs_kM) (kl := zs_lM) hJ.1.1.2.1) 
  exact ⟨r.1, r2.1, r.2, r2.2, e1, e2, zK_keep (h1.2) (h2.2) hJ⟩
theorem zz_34 : st_34 zK zK := by
  intro σ τ a0 hJ
  obtain ⟨r, e1, h1⟩ := zc_411 (zs_rf (key := zs_kC) (kl := zs_lC) hJ.1.1.1) (x1 := a0)
  obtain ⟨r2, e2, h2⟩ := zc_412 (zs_rf (key := zs_kM) (kl := zs_lM) hJ.1.1.2.1) (x1 := a0)
  exact ⟨r.1, r2.1, r.2, r2.2, e1, e2, zK_keep (h1.2) (h2.2) hJ⟩
theorem zz_35 : st_35 zK zK := by
  intro σ τ hJ
  obtain ⟨r, e1, h1⟩ := zc_416 (zs_rf (key := zs_kC) (kl := zs_lC) hJ.1.1.1) 
  obtain ⟨r2, e2, h2⟩ := zc_420 (zs_rf (key := zs_kM) (kl := zs_lM) hJ.1.1.2.1) 
  exact ⟨r.1, r2.1, r.2, r2.2, e1, e2, zK_keep (h1.2) (h2.2) hJ⟩
theorem zz_36 : st_36 zK zK := by
  intro σ τ hJ
  obtain ⟨r, e1, h1⟩ := zc_425 (zs_rf (key := zs_kC) (kl := zs_lC) hJ.1.1.1) 
  obtain ⟨r2, e2, h2⟩ := zc_430 (zs_rf (key := zs_kM) (kl := zs_lM) hJ.1.1.2.1) 
  exact ⟨r.1, r2.1, r.2, r2.2, e1, e2, zK_keep (h1.2) (h2.2) hJ⟩
theorem zz_37 : st_37 zK zK := by
  intro σ τ hJ
  obtain ⟨r, e1, h1⟩ := zc_434 (zs_rf (key := zs_kC) (kl := zs_lC) hJ.1.1.1) 
  obtain ⟨r2, e2, h2⟩ := zh_reserve (zs_rf (key := zs_kM) (kl := zs_lM) hJ.1.1.2.1)
  exact ⟨r.1, r2.1, r.2, r2.2, e1, e2, zK_keep (h1.2) (h2) hJ⟩
theorem zz_38 : st_38 zK zK := by
  intro σ τ a0 hJ
  obtain ⟨r, e1, h1⟩ := zc_437 (zs_rf (key := zs_kC) (kl := zs_lC) hJ.1.1.1) (x1 := a0)
  obtain ⟨r2, e2, h2⟩ := zc_446 (zs_rf (key := zs_kM) (kl := zs_lM) hJ.1.1.2.1) (x1 := a0)
  exact ⟨r.1, r2.1, r.2, r2.2, e1, e2, zK_keep (h1.2) (h2.2) hJ⟩
theorem zz_39 : st_39 zK zK := by
  intro σ τ hJ
  obtain ⟨r, e1, h1⟩ := zc_457 (zs_rf (key := zs_kC) (kl := zs_lC) hJ.1.1.1) 
  obtain ⟨r2, e2, h2⟩ := zc_463 (zs_rf (key := zs_kM) (kl := zs_lM) hJ.1.1.2.1) 
  exact ⟨r.1, r2.1, r.2, r2.2, e1, e2, zK_keep (h1.2) (h2.2) hJ⟩
theorem zz_40 : st_40 zK zK := by
  intro σ τ a0 hJ
  obtain ⟨r, e1, h1⟩ := zc_471 (zs_rf (key := zs_kC) (kl := zs_lC) hJ.1.1.1) (x1 := a0)
  obtain ⟨r2, e2, h2⟩ := zc_478 (zs_rf (key := zs_kM) (kl := zs_lM) hJ.1.1.2.1) (x1 := a0)
  exact ⟨r, r2.1, r2.2, e1, e2, zK_keep (zs_rf hJ.1.1.1) (h2.1.2) hJ⟩
theorem zz_41 : st_41 zK zK := by
  intro σ τ a0 hJ
  obtain ⟨r, e1, h1⟩ := zc_479 (zs_rf (key := zs_kC) (kl := zs_lC) hJ.1.1.1) (x1 := a0)
  obtain ⟨r2, e2, h2⟩ := zc_480 (zs_rf (key := zs_kM) (kl := zs_lM) hJ.1.1.2.1) (x1 := a0)
  exact ⟨r, r2.1, r2.2, e1, e2, zK_keep (zs_rf hJ.1.1.1) (h2.1.2) hJ⟩
theorem zz_42 : st_42 zK zK := by
  intro σ τ a0 hJ
  obtain ⟨r, e1, h1⟩ := zc_489 (zs_rf (key := zs_kC) (kl := zs_lC) hJ.1.1.1) (x1 := a0)
  obtain ⟨r2, e2, h2⟩ := zr_price hJ.1.1.2.1 a0
  exact ⟨r, r2.1, r2.2, e1, e2, zK_keep (zs_rf hJ.1.1.1) (h2) hJ⟩
theorem zz_43 : st_43 zK zK := by
  intro σ τ a0 hJ
  obtain ⟨r, e1, h1⟩ := zc_511 (zs_rf (key := zs_kC) (kl := zs_lC) hJ.1.1.1) (x1 := a0)
  obtain ⟨r2, e2, h2⟩ := zc_527 (zs_rf (key := zs_kM) (kl := zs_lM) hJ.1.1.2.1) (x1 := a0)
  exact ⟨r.1, r2.1, r.2, r2.2, e1, e2, zK_keep (h1.1.2) (h2.1.2) hJ⟩
theorem zz_44 : st_44 zK zK := by
  intro σ τ a0 hJ
  obtain ⟨r, e1, h1⟩ := zc_529 (zs_rf (key := zs_kC) (kl := zs_lC) hJ.1.1.1) (x1 := a0)
  obtain ⟨r2, e2, h2⟩ := zc_530 (zs_rf (key := zs_kM) (kl := zs_lM) hJ.1.1.2.1) (x1 := a0)
  exact ⟨r.1, r2.1, r.2, r2.2, e1, e2, zK_keep (h1.1.2) (h2.1.2) hJ⟩
theorem zz_45 : st_45 zK zK := by
  intro σ τ a0 hJ
  obtain ⟨r, e1, h1⟩ := zc_543 (zs_rf (key := zs_kC) (kl := zs_lC) hJ.1.1.1) (x1 := a0)
  obtain ⟨r2, e2, h2⟩ := zc_549 (zs_rf (key := zs_kM) (kl := zs_lM) hJ.1.1.2.1) (x1 := a0)
  exact ⟨r.1, r2.1, r.2, r2.2, e1, e2, zK_keep (h1.1.2) (h2.1.2) hJ⟩
theorem zz_46 : st_46 zK zK := by
  intro σ τ a0 hJ
  obtain ⟨r, e1, h1⟩ := zc_550 (zs_rf (key := zs_kC) (kl := zs_lC) hJ.1.1.1) (x1 := a0)
  obtain ⟨r2, e2, h2⟩ := zc_551 (zs_rf (key := zs_kM) (kl := zs_lM) hJ.1.1.2.1) (x1 := a0)
  exact ⟨r.1, r2.1, r.2, r2.2, e1, e2, zK_keep (h1.1.2) (h2.1.2) hJ⟩
theorem zz_47 : st_47 zK zK := by
  intro σ τ a0 hJ
  obtain ⟨r, e1, h1⟩ := zc_579 (zs_rf (key := zs_kC) (kl := zs_lC) hJ.1.1.1) (x1 := a0)
  obtain ⟨r2, e2, h2⟩ := zc_1500 (zs_rf (key := zs_kM) (kl := zs_lM) hJ.1.1.2.1) (x1 := a0)
  exact ⟨r.1, r2.1, r.2, r2.2, e1, e2, zK_keep (h1.1.2) (h2.2) hJ⟩
theorem zz_48 : st_48 zK zK := by
  intro σ τ a0 hJ
  obtain ⟨r, e1, h1⟩ := zc_580 (zs_rf (key := zs_kC) (kl := zs_lC) hJ.1.1.1) (x1 := a0)
  obtain ⟨r2, e2, h2⟩ := zc_1503 (zs_rf (key := zs_kM) (kl := zs_lM) hJ.1.1.2.1) (x1 := a0)
  exact ⟨r.1, r2.1, r.2, r2.2, e1, e2, zK_keep (h1.1.2) (h2.2) hJ⟩
theorem zz_49 : st_49 zK zK := by
  intro σ τ a0 hJ
  obtain ⟨r, e1, h1⟩ := zc_581 (zs_rf (key := zs_kC) (kl := zs_lC) hJ.1.1.1) (x1 := a0)
  obtain ⟨r2, e2, h2⟩ := zc_1504 (zs_rf (key := zs_kM) (kl := zs_lM) hJ.1.1.2.1) (x1 := a0)
  exact ⟨r.1, r2.1, r.2, r2.2, e1, e2, zK_keep (h1.1.2) (h2.2) hJ⟩
theorem zz_50 : st_50 zK zK := by
  intro σ τ a0 hJ
  obtain ⟨r, e1, h1⟩ := zc_590 (zs_rf (key := zs_kC) (kl := zs_lC) hJ.1.1.1) (x1 := a0)
  obtain ⟨r2, e2, h2⟩ := zc_1516 (zs_rf (key := zs_kM) (kl := zs_lM) hJ.1.1.2.1) (x1 := a0)
  exact ⟨r.1, r2.1, r.2, r2.2, e1, e2, zK_keep (h1.1.2) (h2.2) hJ⟩
theorem zz_51 : st_51 zK zK := by
  intro σ τ a0 hJ
  obtain ⟨r, e1, h1⟩ := zc_591 (zs_rf (key := zs_kC) (kl := zs_lC) hJ.1.1.1) (x1 := a0)
  obtain ⟨r2, e2, h2⟩ := zc_1517 (zs_rf (key := zs_kM) (kl := zs_lM) hJ.1.1.2.1) (x1 := a0)
  have q : r.1 = r2.1 := yz_51 hJ _ _ e1 e2
  exact ⟨r.1, r.2, r2.2, e1, (e2.trans (show some r2 = some (r.1, r2.2) by rw [q])), zK_keep (h1.1.2) (h2.2) hJ⟩
theorem zz_52 : st_52 zK zK := by
  intro σ τ a0 a1 hJ
  obtain ⟨r, e1, h1⟩ := zc_606 (zs_rf (key := zs_kC) (kl := zs_lC) hJ.1.1.1) (x1 := a0) (x2 := a1)
  obtain ⟨r2, e2, h2⟩ := zc_642 (zs_rf (key := zs_kM) (kl := zs_lM) hJ.1.1.2.1) (x1 := a0) (x2 := a1)
  exact ⟨r.1, r2.1, r.2, r2.2, e1, e2, zK_keep (h1.1.2) (h2.1.2) hJ⟩
theorem zz_53 : st_53 zK zK := by
  intro σ τ a0 a1 a2 a3 hJ
  obtain ⟨r, e1, h1⟩ := zc_643 (zs_rf (key := zs_kC) (kl := zs_lC) hJ.1.1.1) (x1 := a0) (x2 := a1) (x3 := a2) (x4 := a3)
  obtain ⟨r2, e2, h2⟩ := zc_651 (zs_rf (key := zs_kM) (kl := zs_lM) hJ.1.1.2.1) (x1 := a0) (x2 := a1) (x3 := a2) (x4 := a3)
  exact ⟨r.1, r2.1, r.2, r2.2, e1, e2, zK_keep (h1.1.2) (h2.1.2) hJ⟩
theorem zz_54 : st_54 zK zK := by
  intro σ τ a0 hJ
  obtain ⟨r, e1, h1⟩ := zc_654 (zs_rf (key := zs_kC) (kl := zs_lC) hJ.1.1.1) (x1 := a0)
  obtain ⟨r2, e2, h2⟩ := zc_657 (zs_rf (key := zs_kM) (kl := zs_lM) hJ.1.1.2.1) (x1 := a0)
  exact ⟨r.1, r2.1, r.2, r2.2, e1, e2, zK_keep (h1.1.2) (h2.1.2) hJ⟩
theorem zz_55 : st_55 zK zK := by
  intro σ τ hJ
  obtain ⟨r, e1, h1⟩ := zc_662 (zs_rf (key := zs_kC) (kl := zs_lC) hJ.1.1.1) 
  obtain ⟨r2, e2, h2⟩ := zc_667 (zs_rf (key := zs_kM) (kl := zs_lM) hJ.1.1.2.1) 
  exact ⟨r.1, r2.1, r.2, r2.2, e1, e2, zK_keep (h1.2) (h2.2) hJ⟩
theorem zz_56 : st_56 zK zK := by
  intro σ τ a0 a1 a2 hJ
  obtain ⟨r, e1, h1⟩ := zc_1112 (zs_rf (key := zs_kC) (kl := zs_lC) hJ.1.1.1) (x1 := a0) (x2 := a1) (x3 := a2)
  obtain ⟨r2, e2, h2⟩ := zq_chance hJ.1.1.2.1 a0 a1 a2
  exact ⟨r.1, r2.1, r.2, r2.2, e1, e2, zK_keep (h1.1.2) (h2) hJ⟩
theorem zz_57 : st_57 zK zK := by
  intro σ τ a0 a1 a2 hJ
  obtain ⟨r, e1, h1⟩ := zc_1235 (zs_rf (key := zs_kC) (kl := zs_lC) hJ.1.1.1) (x1 := a0) (x2 := a1) (x3 := a2)
  obtain ⟨r2, e2, h2⟩ := zq_fair hJ.1.1.2.1 a0 a1 a2
  exact ⟨r.1, r2.1, r.2, r2.2, e1, e2, zK_keep (h1.1.2) (h2) hJ⟩
theorem zz_58 : st_58 zK zK := by
  intro σ τ a0 a1 hJ
  obtain ⟨r, e1, h1⟩ := zc_1445 (zs_rf (key := zs_kC) (kl := zs_lC) hJ.1.1.1) (x1 := a0) (x2 := a1)
  obtain ⟨r2, e2, h2⟩ := zq_risk hJ.1.1.2.1 a0 a1
  exact ⟨r.1, r2.1, r.2, r2.2, e1, e2, zK_keep (h1.1.2) (h2) hJ⟩
theorem zz_59 : st_59 zK zK := by
  intro σ τ a0 a1 hJ
  obtain ⟨r, σ1, τ1, e1, e2, h⟩ := zK_59 σ τ a0 a1 hJ
  exact ⟨r, r, σ1, τ1, e1, e2, h⟩
theorem zz_60 : st_60 zK zK := by
  intro σ τ a0 a1 hJ
  obtain ⟨r, σ1, τ1, e1, e2, h⟩ := zK_60 σ τ a0 a1 hJ
  exact ⟨r, r, σ1, τ1, e1, e2, h⟩
theorem zz_61 : st_61 zK zK := by
  intro σ τ hJ
  obtain ⟨r, σ1, τ1, e1, e2, h⟩ := zK_61 σ τ hJ
  exact ⟨r, r, σ1, τ1, e1, e2, h⟩
theorem zz_62 : st_62 zK zK := by
  intro σ τ hJ
  obtain ⟨r, σ1, τ1, e1, e2, h⟩ := zK_62 σ τ hJ
  exact ⟨r, r, σ1, τ1, e1, e2, h⟩
theorem zz_63 : st_63 zK zK := by
  intro σ τ a0 a1 hJ
  obtain ⟨r, e1, h1⟩ := zc_1452 (zs_rf (key := zs_kC) (kl := zs_lC) hJ.1.1.1) (x1 := a0) (x2 := a1)
  obtain ⟨r2, e2, h2⟩ := zc_1460 (zs_rf (key := zs_kM) (kl := zs_lM) hJ.1.1.2.1) (x1 := a0) (x2 := a1)
  exact ⟨r.1, r2.1, r.2, r2.2, e1, e2, zK_keep (h1.1.2) (h2.1.2) hJ⟩
theorem zz_64 : st_64 zK zK := by
  intro σ τ a0 a1 a2 hJ
  obtain ⟨r, e1, h1⟩ := zc_1465 (zs_rf (key := zs_kC) (kl := zs_lC) hJ.1.1.1) (x1 := a0) (x2 := a1) (x3 := a2)
  obtain ⟨r2, e2, h2⟩ := zc_1472 (zs_rf (key := zs_kM) (kl := zs_lM) hJ.1.1.2.1) (x1 := a0) (x2 := a1) (x3 := a2)
  exact ⟨r.1, r2.1, r.2, r2.2, e1, e2, zK_keep (h1.1.2) (h2.1.2) hJ⟩
theorem zz_65 : st_65 zK zK := by
  intro σ τ a0 a1 hJ
  obtain ⟨r, σ1, τ1, e1, e2, h⟩ := zK_65 σ τ a0 a1 hJ
  exact ⟨r, r, σ1, τ1, e1, e2, h⟩
theorem zz_66 : st_66 zK zK := by
  intro σ τ a0 hJ
  obtain ⟨r, e1, e2⟩ := zJ_66 σ τ a0 hJ.1
  exact ⟨r, r, e1, e2, hJ⟩
theorem zz_67 : st_67 zK zK := by
  intro σ τ a0 hJ
  obtain ⟨r, σ1, τ1, e1, e2, h⟩ := zK_67 σ τ a0 hJ
  exact ⟨r, r, σ1, τ1, e1, e2, h⟩
theorem zz_68 : st_68 zK zK := by
  intro σ τ a0 hJ
  obtain ⟨r, σ1, τ1, e1, e2, h⟩ := zK_68 σ τ a0 hJ
  exact ⟨r, r, σ1, τ1, e1, e2, h⟩
theorem zz_69 : st_69 zK zK := by
  intro σ τ a0 a1 a2 hJ
  obtain ⟨r, σ1, τ1, e1, e2, h⟩ := zK_69 σ τ a0 a1 a2 hJ
  exact ⟨r, r, σ1, τ1, e1, e2, h⟩
theorem zz_70 : st_70 zK zK := by
  intro σ τ a0 a1 a2 hJ
  obtain ⟨r, σ1, τ1, e1, e2, h⟩ := zK_70 σ τ a0 a1 a2 hJ
  exact ⟨r, r, σ1, τ1, e1, e2, h⟩
theorem zz_71 : st_71 zK zK := by
  intro σ τ a0 a1 a2 a3 a4 hJ
  obtain ⟨r, σ1, τ1, e1, e2, h⟩ := zK_71 σ τ a0 a1 a2 a3 a4 hJ
  exact ⟨r, r, σ1, τ1, e1, e2, h⟩
theorem zJ_ini : zJ sn_iniX8 sn_iniX9 := by
  have z0 : (0 : Int32).toInt = 0 := by decide
  have H : ∀ (h : Nat) (w : Nat → Int32), (∀ k, sn_iniX8.1 (h + 1) k = 0) → (∀ k, k < 11 → w k = 0) → rr_H h sn_iniX8 w := by
    intro h w h1 hw
    unfold rr_H
    rw [h1 5, h1 6, h1 7, h1 8, h1 9, z0]
    exact ⟨fun k hk => by rw [h1 k, hw k hk], fun i hi => absurd hi (by omega), fun i hi => absurd hi (by omega), fun i hi => absurd hi (by omega), fun i hi => absurd hi (by omega), fun i hi => absurd hi (by omega)⟩
  refine ⟨zj_ini, H 1 _ (fun k => rfl) (fun k _ => rfl), fun j hj => H _ _ (fun k => ?_) (fun k _ => rfl)⟩
  match j, hj with
  | 0, _ => rfl
  | 1, _ => rfl
  | 2, _ => rfl
theorem zK_ini : zK sn_iniX8 sn_iniX9 := by
  refine ⟨zJ_ini, ⟨jW_0 (fun _ => rfl), yH_0 (fun _ => rfl) (fun k => rfl)⟩, fun j hj => ⟨jW_0 (fun _ => rfl), yH_0 (fun _ => rfl) (fun k => ?_)⟩, yD_0 (fun _ => rfl) rfl rfl rfl rfl (fun m => rfl)⟩
  match j, hj with
  | 0, _ => rfl
  | 1, _ => rfl
  | 2, _ => rfl
theorem sn_pure : ∃ J : Nat → sn_S → sn_S → Prop, J 0 sn_iniX8 sn_iniX9 ∧ (∀ k, k + 6 ≤ 3072 → st_all (J k) (J (k + 6))) ∧ ∀ k, k + 6 ≤ 3072 → ∀ σ τ, J k σ τ → J (k + 6) σ τ := by
  refine ⟨fun _ => zK, zK_ini, fun _ _ => ⟨zz_0, zz_1, zz_2, zz_3, zz_4, zz_5, zz_6, zz_7, zz_8, zz_9, zz_10, zz_11, zz_12, zz_13, zz_14, zz_15, zz_16, zz_17, zz_18, zz_19, zz_20, zz_21, zz_22, zz_23, zz_24, zz_25, zz_26, zz_27, zz_28, zz_29, zz_30, zz_31, zz_32, zz_33, zz_34, zz_35, zz_36, zz_37, zz_38, zz_39, zz_40, zz_41, zz_42, zz_43, zz_44, zz_45, zz_46, zz_47, zz_48, zz_49, zz_50, zz_51, zz_52, zz_53, zz_54, zz_55, zz_56, zz_57, zz_58, zz_59, zz_60, zz_61, zz_62, zz_63, zz_64, zz_65, zz_66, zz_67, zz_68, zz_69, zz_70, zz_71⟩, fun _ _ _ _ h => h⟩
end
