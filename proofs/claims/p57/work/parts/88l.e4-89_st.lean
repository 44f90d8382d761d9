section
/-! windows of policies, both sides -/
section
variable {σ τ u : sn_S} {w : Nat → Int32} {q : Nat}
theorem yl_5 (hW : jW w) : w 5 = nI (sp_n w 5) ∧ sp_n w 5 ≤ 6 := hW.1.2.2.2.2.2.1
theorem yl_0 (hW : jW w) : w 0 = nI (sp_n w 0) ∧ sp_n w 0 ≤ 30 := hW.1.1
theorem yM_22 (h : yM τ u w) : u.1 0 22 = nI (sp_n w 0) - 1 := h.2.2.2.2.2.2.1
end
end
section
/-! the ledger, both sides -/
section
variable {σ τ u z : sn_S} {w : Nat → Int32} {q : Nat} {l : Int32}
/-! calls that change the ledger -/
theorem yz_go2 {σ0 : sn_S} {v x0 : Int32} {A : Option (Int32 × sn_S)} {Q : sn_S → Prop} {X : Option (Int32 × sn_S)} {Y : Int32 × sn_S → Option (Int32 × sn_S)} (hA : yp A (fun r => r.1 = v ∧ Q r.2)) (h : v ≠ 0 → ∀ u, Q u → yr X (Y (v, u)) (fun r s => r.1 = s.1)) : yr ((some v).bind fun t => if t = 0 then some (x0, σ0) else X) (A.bind fun t => if t.1 = 0 then some (x0, t.2) else Y t) (fun r s => r.1 = s.1) := by
  intro r s e1 e2
  obtain ⟨⟨v2, u⟩, e3, e4⟩ := sn_bd e2
  obtain ⟨hv, hu⟩ := hA _ e3
  have hv : v2 = v := hv
  subst hv
  have e1 : (if v2 = 0 then some (x0, σ0) else X) = some r := e1
  have e4 : (if v2 = 0 then some (x0, u) else Y (v2, u)) = some s := e4
  by_cases c : v2 = 0
  · rw [if_pos c] at e1 e4
    cases e1
    cases e4
    rfl
  · rw [if_neg c] at e1 e4
    exact h c u hu r s e1 e4
theorem yk_hv (hK : zK σ τ) : fX8_isHouse σ = some (if 0 < sp_n (τ.1 1) 10 then 1 else 0) := by
  have b := hK.2.1.1.1.2.2.2.2.2.2.2.2.2.2
  have l := b.2
  have e10 : σ.1 2 10 = nI (sp_n (τ.1 1) 10) := (hK.2.1.2.1 10 (by decide)).trans b.1
  rw [yk_isHouse, e10]
  by_cases c : 0 < sp_n (τ.1 1) 10
  · rw [if_neg (nI_nle c (by omega)), if_pos c]
  · have : sp_n (τ.1 1) 10 = 0 := by omega
    rw [this, if_pos (show nI 0 ≤ 0 by decide), if_neg (by decide)]
theorem yz_house2 {x0 : Int32} {X : Option (Int32 × sn_S)} {Y : Int32 × sn_S → Option (Int32 × sn_S)} (hK : zK σ τ) (h : ∀ v u, 0 < sp_n (τ.1 1) 10 → yM τ u (τ.1 1) → yr X (Y (v, u)) (fun r s => r.1 = s.1)) : yr ((fX8_isHouse σ).bind fun t => if t = 0 then some (x0, σ) else X) ((fX9_asksHouse τ).bind fun t => if t.1 = 0 then some (x0, t.2) else Y t) (fun r s => r.1 = s.1) := by
  rw [yk_hv hK]
  refine yz_go2 (Q := fun z => yM τ z (τ.1 1)) (ym_asks rfl hK.2.1.1) (fun c u hu => ?_)
  refine h _ u ?_ hu
  by_cases g : 0 < sp_n (τ.1 1) 10
  · exact g
  · rw [if_neg g] at c
    exact absurd rfl c
theorem yr_eq2 {X Y : Option (Int32 × sn_S)} (v : Int32) (hx : yp X (fun r => r.1 = v)) (hy : yp Y (fun s => s.1 = v)) : yr X Y (fun r s => r.1 = s.1) := yr_of hx hy (fun _ _ a b => a.trans b.symm)
end
end
section
/-! a day that is not: copied, changed, lived -/
theorem yp_le {α β : Type} {P : α → Prop} {v : β} {g : β → Option α} (h : ∀ y, y = v → yp (g y) P) : yp (sn_lt v g) P := h v rfl
theorem yc_dcopy {σ : sn_S} {a b : Nat} (hd : b + 10 < a) : yp (fX0_copyFrom σ a b) (fun z => (∀ q, (q < a ∨ a + 10 < q) → z.1 q = σ.1 q) ∧ (∀ k, k < 4 → z.1 a k = σ.1 b k) ∧ (∀ k, k < 30 → z.1 (a + 1) k = σ.1 (b + 1) k) ∧ (∀ k, k < 6 → z.1 (a + 2) k = σ.1 (b + 2) k) ∧ (∀ k, k < 6 → z.1 (a + 3) k = σ.1 (b + 3) k) ∧ (∀ k, k < 6 → z.1 (a + 4) k = σ.1 (b + 4) k) ∧ (∀ k, k < 6 → z.1 (a + 5) k = σ.1 (b + 5) k) ∧ (∀ k, k < 16 → z.1 (a + 6) k = σ.1 (b + 6) k) ∧ (∀ k, k < 180 → z.1 (a + 7) k = σ.1 (b + 7) k) ∧ (∀ k, k < 180 → z.1 (a + 8) k = σ.1 (b + 8) k) ∧ (∀ k, k < 30 → z.1 (a + 9) k = σ.1 (b + 9) k) ∧ (∀ k, k < 6 → z.1 (a + 10) k = σ.1 (b + 10) k)) := by
  unfold fX0_copyFrom
  refine yp_le (fun y1 e1 => yp_le (fun y2 e2 => yp_le (fun y3 e3 => yp_le (fun z0 e4 => ?_))))
  have hb : b ≠ a := by omega
  have r1 : ∀ q, q ≠ a → y1.1 q = σ.1 q := fun q hq => by rw [e1, pI_ne hq]
  have r2 : ∀ q, q ≠ a → y2.1 q = σ.1 q := fun q hq => by rw [e2, pI_ne hq, r1 q hq]
  have r3 : ∀ q, q ≠ a → y3.1 q = σ.1 q := fun q hq => by rw [e3, pI_ne hq, r2 q hq]
  have r0 : ∀ q, q ≠ a → z0.1 q = σ.1 q := fun q hq => by rw [e4, pI_ne hq, r3 q hq]
  have c0 : ∀ k, k < 4 → z0.1 a k = σ.1 b k := fun k hk => by
    match k, hk with
    | 0, _ => rw [e4, pI_slot (by decide), e3, pI_slot (by decide), e2, pI_slot (by decide), e1, pI_self]; rfl
    | 1, _ => rw [e4, pI_slot (by decide), e3, pI_slot (by decide), e2, pI_self]; exact congrFun (r1 b hb) 1
    | 2, _ => rw [e4, pI_slot (by decide), e3, pI_self]; exact congrFun (r2 b hb) 2
    | 3, _ => rw [e4, pI_self]; exact congrFun (r3 b hb) 3
  refine yp_gd (fun _ => yp_le (fun z1 h1 => ?_))
  obtain ⟨p1, q1⟩ := yc_cpy (z := z0) (a := a + 1) (b := b + 1) (L := 30) (by decide)
  rw [← h1] at p1 q1
  refine yp_gd (fun _ => yp_le (fun z2 h2 => ?_))
  obtain ⟨p2, q2⟩ := yc_cpy (z := z1) (a := a + 2) (b := b + 2) (L := 6) (by decide)
  rw [← h2] at p2 q2
  refine yp_gd (fun _ => yp_le (fun z3 h3 => ?_))
  obtain ⟨p3, q3⟩ := yc_cpy (z := z2) (a := a + 3) (b := b + 3) (L := 6) (by decide)
  rw [← h3] at p3 q3
  refine yp_gd (fun _ => yp_le (fun z4 h4 => ?_))
  obtain ⟨p4, q4⟩ := yc_cpy (z := z3) (a := a + 4) (b := b + 4) (L := 6) (by decide)
  rw [← h4] at p4 q4
  refine yp_gd (fun _ => yp_le (fun z5 h5 => ?_))
  obtain ⟨p5, q5⟩ := yc_cpy (z := z4) (a := a + 5) (b := b + 5) (L := 6) (by decide)
  rw [← h5] at p5 q5
  refine yp_gd (fun _ => yp_le (fun z6 h6 => ?_))
  obtain ⟨p6, q6⟩ := yc_cpy (z := z5) (a := a + 6) (b := b + 6) (L := 16) (by decide)
  rw [← h6] at p6 q6
  refine yp_gd (fun _ => yp_le (fun z7 h7 => ?_))
  obtain ⟨p7, q7⟩ := yc_cpy (z := z6) (a := a + 7) (b := b + 7) (L := 180) (by decide)
  rw [← h7] at p7 q7
  refine yp_gd (fun _ => yp_le (fun z8 h8 => ?_))
  obtain ⟨p8, q8⟩ := yc_cpy (z := z7) (a := a + 8) (b := b + 8) (L := 180) (by decide)
  rw [← h8] at p8 q8
  refine yp_gd (fun _ => yp_le (fun z9 h9 => ?_))
  obtain ⟨p9, q9⟩ := yc_cpy (z := z8) (a := a + 9) (b := b + 9) (L := 30) (by decide)
  rw [← h9] at p9 q9
  refine yp_gd (fun _ => yp_le (fun z10 h10 => ?_))
  obtain ⟨p10, q10⟩ := yc_cpy (z := z9) (a := a + 10) (b := b + 10) (L := 6) (by decide)
  rw [← h10] at p10 q10
  refine yp_some ⟨fun q hq => ?_, fun k hk => ?_, fun k hk => ?_, fun k hk => ?_, fun k hk => ?_, fun k hk => ?_, fun k hk => ?_, fun k hk => ?_, fun k hk => ?_, fun k hk => ?_, fun k hk => ?_, fun k hk => ?_⟩
  · rw [p10 q (by omega), p9 q (by omega), p8 q (by omega), p7 q (by omega), p6 q (by omega), p5 q (by omega), p4 q (by omega), p3 q (by omega), p2 q (by omega), p1 q (by omega), r0 q (by omega)]
  · rw [p10 a (by omega), p9 a (by omega), p8 a (by omega), p7 a (by omega), p6 a (by omega), p5 a (by omega), p4 a (by omega), p3 a (by omega), p2 a (by omega), p1 a (by omega), c0 k hk]
  · rw [p10 (a + 1) (by omega), p9 (a + 1) (by omega), p8 (a + 1) (by omega), p7 (a + 1) (by omega), p6 (a + 1) (by omega), p5 (a + 1) (by omega), p4 (a + 1) (by omega), p3 (a + 1) (by omega), p2 (a + 1) (by omega), q1 k, if_pos hk, r0 (b + 1) (by omega)]
  · rw [p10 (a + 2) (by omega), p9 (a + 2) (by omega), p8 (a + 2) (by omega), p7 (a + 2) (by omega), p6 (a + 2) (by omega), p5 (a + 2) (by omega), p4 (a + 2) (by omega), p3 (a + 2) (by omega), q2 k, if_pos hk, p1 (b + 2) (by omega), r0 (b + 2) (by omega)]
  · rw [p10 (a + 3) (by omega), p9 (a + 3) (by omega), p8 (a + 3) (by omega), p7 (a + 3) (by omega), p6 (a + 3) (by omega), p5 (a + 3) (by omega), p4 (a + 3) (by omega), q3 k, if_pos hk, p2 (b + 3) (by omega), p1 (b + 3) (by omega), r0 (b + 3) (by omega)]
  · rw [p10 (a + 4) (by omega), p9 (a + 4) (by omega), p8 (a + 4) (by omega), p7 (a + 4) (by omega), p6 (a + 4) (by omega), p5 (a + 4) (by omega), q4 k, if_pos hk, p3 (b + 4) (by omega), p2 (b + 4) (by omega), p1 (b + 4) (by omega), r0 (b + 4) (by omega)]
  · rw [p10 (a + 5) (by omega), p9 (a + 5) (by omega), p8 (a + 5) (by omega), p7 (a + 5) (by omega), p6 (a + 5) (by omega), q5 k, if_pos hk, p4 (b + 5) (by omega), p3 (b + 5) (by omega), p2 (b + 5) (by omega), p1 (b + 5) (by omega), r0 (b + 5) (by omega)]
  · rw [p10 (a + 6) (by omega), p9 (a + 6) (by omega), p8 (a + 6) (by omega), p7 (a + 6) (by omega), q6 k, if_pos hk, p5 (b + 6) (by omega), p4 (b + 6) (by omega), p3 (b + 6) (by omega), p2 (b + 6) (by omega), p1 (b + 6) (by omega), r0 (b + 6) (by omega)]
  · rw [p10 (a + 7) (by omega), p9 (a + 7) (by omega), p8 (a + 7) (by omega), q7 k, if_pos hk, p6 (b + 7) (by omega), p5 (b + 7) (by omega), p4 (b + 7) (by omega), p3 (b + 7) (by omega), p2 (b + 7) (by omega), p1 (b + 7) (by omega), r0 (b + 7) (by omega)]
  · rw [p10 (a + 8) (by omega), p9 (a + 8) (by omega), q8 k, if_pos hk, p7 (b + 8) (by omega), p6 (b + 8) (by omega), p5 (b + 8) (by omega), p4 (b + 8) (by omega), p3 (b + 8) (by omega), p2 (b + 8) (by omega), p1 (b + 8) (by omega), r0 (b + 8) (by omega)]
  · rw [p10 (a + 9) (by omega), q9 k, if_pos hk, p8 (b + 9) (by omega), p7 (b + 9) (by omega), p6 (b + 9) (by omega), p5 (b + 9) (by omega), p4 (b + 9) (by omega), p3 (b + 9) (by omega), p2 (b + 9) (by omega), p1 (b + 9) (by omega), r0 (b + 9) (by omega)]
  · rw [q10 k, if_pos hk, p9 (b + 10) (by omega), p8 (b + 10) (by omega), p7 (b + 10) (by omega), p6 (b + 10) (by omega), p5 (b + 10) (by omega), p4 (b + 10) (by omega), p3 (b + 10) (by omega), p2 (b + 10) (by omega), p1 (b + 10) (by omega), r0 (b + 10) (by omega)]
def dy_noSet (i : dy_I) (n : Int32) : dy_I := (dy_P i, dy_keen i, dy_lim i, dy_held i, dy_snuf i, dy_dust i, dy_na i, dy_nb i, dy_nN i, n)
section
variable {σ τ u z : sn_S} {w : Nat → Int32}
/-- the trial is told what the day was, and lived as it was -/
theorem yc_trial {a : Nat} (hW : jW w) (hD : yD σ w) (ha : 37 < a) : yp (fX0_copyFrom σ a 27) (fun z => (∀ q, (q < a ∨ a + 10 < q) → z.1 q = σ.1 q) ∧ z.1 a 0 = nI (sp_n w 0) ∧ yd_T a z (hs_day w) ∧ yd_L a z (hs_day w) (sp_n w 0)) := by
  have c5 := (yl_5 hW).2
  have c0 := (yl_0 hW).2
  have c7 := hW.1.2.2.2.2.2.2.2.1.2
  obtain ⟨d0, ⟨t1, t2, t3, t4, t5, t6⟩, l1, l2⟩ := hD
  refine yp_w (yc_dcopy (by omega)) (fun z hz => ?_)
  obtain ⟨hr, h0, h1, h2, h3, h4, h5, h6, h7, h8, h9, h10⟩ := hz
  refine ⟨hr, (h0 0 (by decide)).trans d0, ⟨(h0 1 (by decide)).trans t1, (h0 2 (by decide)).trans t2, (h0 3 (by decide)).trans t3, fun m hm => (h1 m hm).trans (t4 m hm), fun p hp => ?_, fun k hk => ?_⟩, fun m hm => ⟨(h9 m (by omega)).trans (l1 m hm).1, fun p hp => ?_⟩, fun p hp => ?_⟩
  · have g := t5 p hp
    have hp : p < sp_n w 5 := hp
    exact ⟨(h2 p (by omega)).trans g.1, (h3 p (by omega)).trans g.2.1, (h4 p (by omega)).trans g.2.2.1, (h5 p (by omega)).trans g.2.2.2⟩
  · have g := t6 k hk
    have hk : k < sp_n w 7 := hk
    exact ⟨(h6 _ (by omega)).trans g.1, (h6 _ (by omega)).trans g.2⟩
  · have g := (l1 m hm).2 p hp
    have hp : p < sp_n w 5 := hp
    exact ⟨(h7 _ (by omega)).trans g.1, (h8 _ (by omega)).trans g.2⟩
  · have g := l2 p hp
    have hp : p < sp_n w 5 := hp
    exact (h10 p (by omega)).trans g
/-! nets cut -/
def yz_cut (w : Nat → Int32) (n : Int32) : Nat := yz_sum (dy_noSet (hs_day w) n) (sp_n w 0) (sp_n w 5)
theorem yc_without {n : Int32} (hW : jW w) (hD : yD σ w) : yp (fX8_totalWithout σ n) (fun r => r.1 = nI (yz_cut w n) ∧ ∀ q, (q < 38 ∨ 48 < q) → r.2.1 q = σ.1 q) := by
  have c5 := (yl_5 hW).2
  have c0 := (yl_0 hW).2
  unfold fX8_totalWithout
  refine yp_bd _ (yc_trial hW hD (by decide)) (fun z hz => yp_lt ?_)
  obtain ⟨hr, h0, ⟨t1, t2, t3, t4, t5, t6⟩, hl⟩ := hz
  have hT : yd_T 38 (sn_pI z 38 3 n) (dy_noSet (hs_day w) n) := ⟨(pI_slot (by decide)).trans t1, (pI_slot (by decide)).trans t2, pI_self, fun m hm => (congrFun (pI_ne (by decide)) m).trans (t4 m hm), fun p hp => by
    rw [pI_ne (by decide), pI_ne (by decide), pI_ne (by decide), pI_ne (by decide)]
    exact t5 p hp, fun k hk => by
    rw [pI_ne (by decide)]
    exact t6 k hk⟩
  refine yp_bd _ (yc_whole ((pI_slot (by decide)).trans h0) c0 hT (hs_ok hW)) (fun v hv => ?_)
  obtain ⟨hf, hL⟩ := hv
  refine yp_bd _ (yc_total (i := dy_noSet (hs_day w) n) ((congrFun (hf.1 38 (by omega)) 1).trans hT.1) c5 c0 hL.2) (fun t ht => yp_some ⟨ht, fun q hq => ?_⟩)
  exact (hf.1 q (by omega)).trans ((pI_ne (by omega)).trans (hr q (by omega)))
/-- the reference, told of a house, net n cut -/
theorem ym_without {n : Int32} (hW : jW w) (hu : u.1 1 = w) (h22 : u.1 0 22 = nI (sp_n w 0) - 1) (hT : ∃ n, ym_T u (dy_noSet (hs_day w) n)) : yp (fX9_allWithout u n) (fun r => r.1 = nI (yz_cut w n) ∧ r.2.1 1 = w ∧ r.2.1 0 22 = nI (sp_n w 0) - 1 ∧ ∃ n, ym_T r.2 (dy_noSet (hs_day w) n)) := by
  have c5 := (yl_5 hW).2
  have c0 := (yl_0 hW).2
  obtain ⟨n0, t1, t2, t3, t4, t5, t6⟩ := hT
  have hT2 : ym_T (sn_pI u 0 19 n) (dy_noSet (hs_day w) n) := ⟨(congrFun (pI_ne (by decide)) 5).trans t1, (congrFun (pI_ne (by decide)) 7).trans t2, pI_self, fun m hm => (congrFun (pI_ne (by decide)) m).trans (t4 m hm), fun p hp => by
    rw [pI_ne (by decide), pI_ne (by decide), pI_ne (by decide)]
    exact t5 p hp, fun k hk => by
    rw [pI_ne (by decide)]
    exact t6 k hk⟩
  have e22 : (sn_pI u 0 19 n).1 0 22 = nI (sp_n w 0) - 1 := (pI_slot (by decide)).trans h22
  unfold fX9_allWithout
  refine yp_lt (yp_bd _ (ym_goAll c0 e22 hT2 (hs_ok hW)) (fun v hv => ?_))
  obtain ⟨⟨f1, f2⟩, hL⟩ := hv
  have e1 : v.1 1 = w := (f1 1 (by omega)).trans ((pI_ne (by decide)).trans hu)
  refine yp_bd _ (ym_total (i := dy_noSet (hs_day w) n) ((congrFun e1 5).trans (yl_5 hW).1) c5 (fun p hp => ?_)) (fun t ht => yp_some ⟨ht, e1, (congrFun (f1 0 (by omega)) 22).trans e22, n, ym_Tc (fun a ha => f1 a (Or.inl ha)) hT2⟩)
  have g := (hL.2 p (by have : p < sp_n w 5 := hp; omega)).1
  rw [if_pos hp] at g
  exact g
def yz_ls (t0 : Int32) (f : Nat → Int32) : Nat → Int32 × Int32
  | 0 => (-1, t0)
  | n + 1 => if f n < (yz_ls t0 f n).2 then (nI n, f n) else yz_ls t0 f n
theorem yz_55 (hK : zK σ τ) : yr (fX8_cuts σ) (fX9_cuts τ) (fun r s => r.1 = s.1) := by
  have hW := hK.2.1.1
  have c7 := hW.1.2.2.2.2.2.2.2.1
  have l7 := c7.2
  unfold fX8_cuts fX9_cuts
  refine yz_house2 hK (fun v u h10 hM => ?_)
  obtain ⟨f, hf⟩ : ∃ f : Nat → Int32, ∀ k, f k = nI (yz_cut (τ.1 1) (nI k)) := ⟨_, fun _ => rfl⟩
  obtain ⟨t0, ht0⟩ : ∃ t0, t0 = nI (yz_sum (hs_day (τ.1 1)) (sp_n (τ.1 1) 0) (sp_n (τ.1 1) 5)) := ⟨_, rfl⟩
  have k1 : ∀ k, yz_ls t0 f (k + 1) = if f k < (yz_ls t0 f k).2 then (nI k, f k) else yz_ls t0 f k := fun k => rfl
  refine yr_eq2 (yz_ls t0 f (sp_n (τ.1 1) 7)).1 ?_ ?_
  · refine yp_bd _ (yc_total (i := hs_day (τ.1 1)) hK.2.2.2.2.1.1 hW.1.2.2.2.2.2.1.2 hW.1.1.2 (fun p hp => yz_sn hK hp)) (fun t ht => ?_)
    have ht : t = t0 := ht.trans ht0.symm
    subst ht
    refine yp_bd (fun r => r.2 = (yz_ls t f (sp_n (τ.1 1) 7)).1) (yp_for (sp_n (τ.1 1) 7) (fun k s => s.2.2.2 = nI k ∧ s.2.1 = (yz_ls t f k).1 ∧ s.2.2.1 = (yz_ls t f k).2 ∧ ∀ q, (q < 38 ∨ 48 < q) → s.1.1 q = σ.1 q) (fun k s hk hs => ?_) (fun s hs => ?_) ⟨nI_0.symm, rfl, rfl, fun _ _ => rfl⟩) (fun v hv => ?_)
    · obtain ⟨z, b, c, x⟩ := s
      obtain ⟨ex, eb, ec, hz⟩ := hs
      have ex : x = nI k := ex
      have eb : b = _ := eb
      have ec : c = _ := ec
      have hz : ∀ q, (q < 38 ∨ 48 < q) → z.1 q = σ.1 q := hz
      subst ex
      subst eb
      subst ec
      show yp (BX8_cuts_22 z _ _ (nI k)) _
      unfold BX8_cuts_22 BX8_cuts_54
      rw [show sn_I z (1 + 1) (7 : Int32).toNatClampNeg = nI (sp_n (τ.1 1) 7) from (congrFun (hz 2 (by omega)) 7).trans ((hK.2.1.2.1 7 (by decide)).trans c7.1), if_neg (nI_ge hk (by omega))]
      refine yp_gd (fun _ => yp_bd _ (yc_without hW (yD_c (fun q a b => hz q (by omega)) hK.2.2.2)) (fun r hr => ?_))
      rw [hr.1, ← hf k]
      refine yp_ite (fun c => yp_lt (yp_some ⟨nI_1 k, ?_, ?_, fun q hq => (hr.2 q hq).trans (hz q hq)⟩)) (fun c => yp_lt (yp_some ⟨nI_1 k, ?_, ?_, fun q hq => (hr.2 q hq).trans (hz q hq)⟩))
      · rw [k1, if_neg (Int32.not_lt.mpr c)]
      · rw [k1, if_neg (Int32.not_lt.mpr c)]
      · rw [k1, if_pos (Int32.not_le.mp c)]
      · rw [k1, if_pos (Int32.not_le.mp c)]
    · obtain ⟨z, b, c, x⟩ := s
      obtain ⟨ex, eb, ec, hz⟩ := hs
      have ex : x = nI (sp_n (τ.1 1) 7) := ex
      have hz : ∀ q, (q < 38 ∨ 48 < q) → z.1 q = σ.1 q := hz
      subst ex
      show yp (BX8_cuts_22 z b c (nI (sp_n (τ.1 1) 7))) _
      unfold BX8_cuts_22
      rw [show sn_I z (1 + 1) (7 : Int32).toNatClampNeg = nI (sp_n (τ.1 1) 7) from (congrFun (hz 2 (by omega)) 7).trans ((hK.2.1.2.1 7 (by decide)).trans c7.1), if_pos (nI_le (Nat.le_refl _) (by omega))]
      exact yp_gd (fun _ => yp_some eb)
    · unfold BX8_cuts_60
      exact yp_some hv
  · refine yp_bd _ (ym_total (i := hs_day (τ.1 1)) ((congrFun hM.1 5).trans hW.1.2.2.2.2.2.1.1) hW.1.2.2.2.2.2.1.2 (fun p hp => yz_msn hW hM hp)) (fun t ht => ?_)
    have ht : t = t0 := ht.trans ht0.symm
    subst ht
    refine yp_bd (fun r => r.2 = (yz_ls t f (sp_n (τ.1 1) 7)).1) (yp_for (sp_n (τ.1 1) 7) (fun k s => s.2.2.2 = nI k ∧ s.2.1 = (yz_ls t f k).1 ∧ s.2.2.1 = (yz_ls t f k).2 ∧ s.1.1 1 = τ.1 1 ∧ s.1.1 0 22 = nI (sp_n (τ.1 1) 0) - 1 ∧ ∃ n, ym_T s.1 (dy_noSet (hs_day (τ.1 1)) n)) (fun k s hk hs => ?_) (fun s hs => ?_) ⟨nI_0.symm, rfl, rfl, hM.1, yM_22 hM, -1, hM.2.2.2.2.2.2.2.2.2.1⟩) (fun v hv => ?_)
    · obtain ⟨z, b, c, x⟩ := s
      obtain ⟨ex, eb, ec, z1, z22, zT⟩ := hs
      have ex : x = nI k := ex
      have eb : b = _ := eb
      have ec : c = _ := ec
      have z1 : z.1 1 = τ.1 1 := z1
      subst ex
      subst eb
      subst ec
      show yp (BX9_cuts_19 z _ _ (nI k)) _
      unfold BX9_cuts_19 BX9_cuts_51
      rw [show sn_I z 1 (7 : Int32).toNatClampNeg = nI (sp_n (τ.1 1) 7) from (congrFun z1 7).trans c7.1, if_neg (nI_ge hk (by omega))]
      refine yp_gd (fun _ => yp_bd _ (ym_without hW z1 z22 zT) (fun r hr => ?_))
      rw [hr.1, ← hf k]
      refine yp_ite (fun c => yp_lt (yp_some ⟨nI_1 k, ?_, ?_, hr.2⟩)) (fun c => yp_lt (yp_some ⟨nI_1 k, ?_, ?_, hr.2⟩))
      · rw [k1, if_pos c]
      · rw [k1, if_pos c]
      · rw [k1, if_neg c]
      · rw [k1, if_neg c]
    · obtain ⟨z, b, c, x⟩ := s
      obtain ⟨ex, eb, ec, z1, z22, zT⟩ := hs
      have ex : x = nI (sp_n (τ.1 1) 7) := ex
      have z1 : z.1 1 = τ.1 1 := z1
      subst ex
      show yp (BX9_cuts_19 z b c (nI (sp_n (τ.1 1) 7))) _
      unfold BX9_cuts_19
      rw [show sn_I z 1 (7 : Int32).toNatClampNeg = nI (sp_n (τ.1 1) 7) from (congrFun z1 7).trans c7.1, if_pos (nI_le (Nat.le_refl _) (by omega))]
      exact yp_gd (fun _ => yp_some eb)
    · unfold BX9_cuts_57
      exact yp_some hv
end
end
section
/-! every call keeps what the two have in common, the houses too -/
theorem zz_0 : st_0 zK zK := by
  intro σ τ a0 a1 a2 a3 a4 hJ
  obtain ⟨r, σ1, τ1, e1, e2, h⟩ := zK_0 σ τ a0 a1 a2 a3 a4 hJ
  exact ⟨r, r, σ1, τ1, e1, e2, h⟩
theorem zz_1 : st_1 zK zK := by
  intro σ τ a0 hJ
  obtain ⟨r, σ1, τ1, e1, e2, h⟩ := zK_1 σ τ a0 hJ
  exact ⟨r, r, σ1, τ1, e1, e2, h⟩
theorem zz_2 : st_2 zK zK := by
  intro σ τ hJ
  obtain ⟨r, σ1, τ1, e1, e2, h⟩ := zK_2 σ τ hJ
  exact ⟨r, r, σ1, τ1, e1, e2, h⟩
theorem zz_3 : st_3 zK zK := by
  intro σ τ a0 hJ
  obtain ⟨r, e1, e2⟩ := zJ_3 σ τ a0 hJ.1
  exact ⟨r, r, e1, e2, hJ⟩
theorem zz_4 : st_4 zK zK := by
  intro σ τ a0 a1 hJ
  obtain ⟨r, e1, e2⟩ := zJ_4 σ τ a0 a1 hJ.1
  exact ⟨r, r, e1, e2, hJ⟩
theorem zz_5 : st_5 zK zK := by
  intro σ τ a0 a1 hJ
  obtain ⟨r, e1, e2⟩ := zJ_5 σ τ a0 a1 hJ.1
  exact ⟨r, r, e1, e2, hJ⟩
theorem zz_6 : st_6 zK zK := by
  intro σ τ a0 hJ
  obtain ⟨r, e1, h1⟩ := zc_20 (zs_rf (key := zs_kC) (kl := zs_lC) hJ.1.1.1) (x1 := a0)
  obtain ⟨r2, e2, h2⟩ := zc_43 (zs_rf (key := zs_kM) (kl := zs_lM) hJ.1.1.2.1) (x1 := a0)
  exact ⟨r, r2.1, r2.2, e1, e2, zK_keep (zs_rf hJ.1.1.1) (h2.1.2) hJ⟩
theorem zz_7 : st_7 zK zK := by
  intro σ τ a0 hJ
  obtain ⟨r, e1, h1⟩ := zc_45 (zs_rf (key := zs_kC) (kl := zs_lC) hJ.1.1.1) (x1 := a0)
  obtain ⟨r2, e2, h2⟩ := zc_96 (zs_rf (key := zs_kM) (kl := zs_lM) hJ.1.1.2.1) (x1 := a0)
  exact ⟨r, r2.1, r2.2, e1, e2, zK_keep (zs_rf hJ.1.1.1) (h2.1.2) hJ⟩
theorem zz_8 : st_8 zK zK := by
  intro σ τ a0 hJ
  obtain ⟨r, e1, h1⟩ := zc_97 (zs_rf (key := zs_kC) (kl := zs_lC) hJ.1.1.1) (x1 := a0)
  obtain ⟨r2, e2, h2⟩ := zc_99 (zs_rf (key := zs_kM) (kl := zs_lM) hJ.1.1.2.1) (x1 := a0)
  exact ⟨r, r2.1, r2.2, e1, e2, zK_keep (zs_rf hJ.1.1.1) (h2.1.2) hJ⟩
theorem zz_9 : st_9 zK zK := by
  intro σ τ a0 hJ
  obtain ⟨r, e1, h1⟩ := zc_100 (zs_rf (key := zs_kC) (kl := zs_lC) hJ.1.1.1) (x1 := a0)
  obtain ⟨r2, e2, h2⟩ := zc_101 (zs_rf (key := zs_kM) (kl := zs_lM) hJ.1.1.2.1) (x1 := a0)
  exact ⟨r, r2.1, r2.2, e1, e2, zK_keep (zs_rf hJ.1.1.1) (h2.1.2) hJ⟩
theorem zz_10 : st_10 zK zK := by
  intro σ τ hJ
  obtain ⟨r, e1, h1⟩ := zc_106 (zs_rf (key := zs_kC) (kl := zs_lC) hJ.1.1.1) 
  obtain ⟨r2, e2, h2⟩ := zc_113 (zs_rf (key := zs_kM) (kl := zs_lM) hJ.1.1.2.1) 
  exact ⟨r, r2.1, r2.2, e1, e2, zK_keep (zs_rf hJ.1.1.1) (h2.2) hJ⟩
theorem zz_11 : st_11 zK zK := by
  intro σ τ a0 hJ
  obtain ⟨r, e1, h1⟩ := zc_114 (zs_rf (key := zs_kC) (kl := zs_lC) hJ.1.1.1) (x1 := a0)
  obtain ⟨r2, e2, h2⟩ := zc_115 (zs_rf (key := zs_kM) (kl := zs_lM) hJ.1.1.2.1) (x1 := a0)
  exact ⟨r, r2.1, r2.2, e1, e2, zK_keep (zs_rf hJ.1.1.1) (h2.1.2) hJ⟩
theorem zz_12 : st_12 zK zK := by
  intro σ τ a0 a1 hJ
  obtain ⟨r, e1, h1⟩ := zc_117 (zs_rf (key := zs_kC) (kl := zs_lC) hJ.1.1.1) (x1 := a0) (x2 := a1)
  obtain ⟨r2, e2, h2⟩ := zc_118 (zs_rf (key := zs_kM) (kl := zs_lM) hJ.1.1.2.1) (x1 := a0) (x2 := a1)
  exact ⟨r, r2.1, r2.2, e1, e2, zK_keep (zs_rf hJ.1.1.1) (h2.1.2) hJ⟩
theorem zz_13 : st_13 zK zK := by
  intro σ τ a0 hJ
  obtain ⟨r, e1, h1⟩ := zc_121 (zs_rf (key := zs_kC) (kl := zs_lC) hJ.1.1.1) (x1 := a0)
  obtain ⟨r2, e2, h2⟩ := zc_124 (zs_rf (key := zs_kM) (kl := zs_lM) hJ.1.1.2.1) (x1 := a0)
  exact ⟨r, r2.1, r2.2, e1, e2, zK_keep (zs_rf hJ.1.1.1) (h2.1.2) hJ⟩
theorem zz_14 : st_14 zK zK := by
  intro σ τ a0 hJ
  obtain ⟨r, e1, h1⟩ := zc_128 (zs_rf (key := zs_kC) (kl := zs_lC) hJ.1.1.1) (x1 := a0)
  obtain ⟨r2, e2, h2⟩ := zc_129 (zs_rf (key := zs_kM) (kl := zs_lM) hJ.1.1.2.1) (x1 := a0)
  exact ⟨r, r2.1, r2.2, e1, e2, zK_keep (zs_rf hJ.1.1.1) (h2.1.2) hJ⟩
theorem zz_15 : st_15 zK zK := by
  intro σ τ a0 hJ
  obtain ⟨r, e1, h1⟩ := zc_130 (zs_rf (key := zs_kC) (kl := zs_lC) hJ.1.1.1) (x1 := a0)
  obtain ⟨r2, e2, h2⟩ := zc_136 (zs_rf (key := zs_kM) (kl := zs_lM) hJ.1.1.2.1) (x1 := a0)
  exact ⟨r, r2.1, r2.2, e1, e2, zK_keep (zs_rf hJ.1.1.1) (h2.1.2) hJ⟩
theorem zz_16 : st_16 zK zK := by
  intro σ τ hJ
  obtain ⟨r, e1, h1⟩ := zc_141 (zs_rf (key := zs_kC) (kl := zs_lC) hJ.1.1.1) 
  obtain ⟨r2, e2, h2⟩ := zc_146 (zs_rf (key := zs_kM) (kl := zs_lM) hJ.1.1.2.1) 
  exact ⟨r, r2.1, r2.2, e1, e2, zK_keep (zs_rf hJ.1.1.1) (h2.2) hJ⟩
theorem zz_17 : st_17 zK zK := by
  intro σ τ hJ
  obtain ⟨r, e1, h1⟩ := zc_149 (zs_rf (key := zs_kC) (kl := zs_lC) hJ.1.1.1) 
  obtain ⟨r2, e2, h2⟩ := zc_154 (zs_rf (key := zs_kM) (kl := zs_lM) hJ.1.1.2.1) 
  exact ⟨r, r2.1, r2.2, e1, e2, zK_keep (zs_rf hJ.1.1.1) (h2.2) hJ⟩
theorem zz_18 : st_18 zK zK := by
  intro σ τ hJ
  obtain ⟨r, e1, h1⟩ := zc_159 (zs_rf (key := zs_kC) (kl := zs_lC) hJ.1.1.1) 
  obtain ⟨r2, e2, h2⟩ := zc_164 (zs_rf (key := zs_kM) (kl := zs_lM) hJ.1.1.2.1) 
  exact ⟨r, r2.1, r2.2, e1, e2, zK_keep (zs_rf hJ.1.1.1) (h2.2) hJ⟩
theorem zz_19 : st_19 zK zK := by
  intro σ τ a0 hJ
  obtain ⟨r, e1, h1⟩ := zc_176 (zs_rf (key := zs_kC) (kl := zs_lC) hJ.1.1.1) (x1 := a0)
  obtain ⟨r2, e2, h2⟩ := zc_186 (zs_rf (key := zs_kM) (kl := zs_lM) hJ.1.1.2.1) (x1 := a0)
  exact ⟨r, r2.1, r2.2, e1, e2, zK_keep (zs_rf hJ.1.1.1) (h2.1.2) hJ⟩
theorem zz_20 : st_20 zK zK := by
  intro σ τ a0 a1 hJ
  obtain ⟨r, e1, h1⟩ := zc_188 (zs_rf (key := zs_kC) (kl := zs_lC) hJ.1.1.1) (x1 := a0) (x2 := a1)
  obtain ⟨r2, e2, h2⟩ := zc_191 (zs_rf (key := zs_kM) (kl := zs_lM) hJ.1.1.2.1) (x1 := a0) (x2 := a1)
  exact ⟨r, r2.1, r2.2, e1, e2, zK_keep (zs_rf hJ.1.1.1) (h2.1.2) hJ⟩
theorem zz_21 : st_21 zK zK := by
  intro σ τ a0 hJ
  obtain ⟨r, e1, h1⟩ := zc_199 (zs_rf (key := zs_kC) (kl := zs_lC) hJ.1.1.1) (x1 := a0)
  obtain ⟨r2, e2, h2⟩ := zc_211 (zs_rf (key := zs_kM) (kl := zs_lM) hJ.1.1.2.1) (x1 := a0)
  exact ⟨r, r2.1, r2.2, e1, e2, zK_keep (zs_rf hJ.1.1.1) (h2.1.2) hJ⟩
theorem zz_22 : st_22 zK zK := by
  intro σ τ hJ
  obtain ⟨r, e1, h1⟩ := zc_215 (zs_rf (key := zs_kC) (kl := zs_lC) hJ.1.1.1) 
  obtain ⟨r2, e2, h2⟩ := zc_220 (zs_rf (key := zs_kM) (kl := zs_lM) hJ.1.1.2.1) 
  exact ⟨r, r2.1, r2.2, e1, e2, zK_keep (zs_rf hJ.1.1.1) (h2.2) hJ⟩
theorem zz_23 : st_23 zK zK := by
  intro σ τ a0 hJ
  obtain ⟨r, e1, h1⟩ := zc_225 (zs_rf (key := zs_kC) (kl := zs_lC) hJ.1.1.1) (x1 := a0)
  obtain ⟨r2, e2, h2⟩ := zc_228 (zs_rf (key := zs_kM) (kl := zs_lM) hJ.1.1.2.1) (x1 := a0)
  exact ⟨r, r2.1, r2.2, e1, e2, zK_keep (zs_rf hJ.1.1.1) (h2.1.2) hJ⟩
theorem zz_24 : st_24 zK zK := by
  intro σ τ a0 hJ
  obtain ⟨r, e1, h1⟩ := zc_238 (zs_rf (key := zs_kC) (kl := zs_lC) hJ.1.1.1) (x1 := a0)
  obtain ⟨r2, e2, h2⟩ := zc_263 (zs_rf (key := zs_kM) (kl := zs_lM) hJ.1.1.2.1) (x1 := a0)
  exact ⟨r.1, r2.1, r.2, r2.2, e1, e2, zK_keep (h1.2) (h2.2) hJ⟩
theorem zz_25 : st_25 zK zK := by
  intro σ τ hJ
  obtain ⟨r, e1, h1⟩ := zc_276 (zs_rf (key := zs_kC) (kl := zs_lC) hJ.1.1.1) 
  obtain ⟨r2, e2, h2⟩ := zc_313 (zs_rf (key := zs_kM) (kl := zs_lM) hJ.1.1.2.1) 
  exact ⟨r.1, r2.1, r.2, r2.2, e1, e2, zK_keep (h1.2) (h2.2) hJ⟩
theorem zz_26 : st_26 zK zK := by
  intro σ τ a0 hJ
  obtain ⟨r, e1, h1⟩ := zc_353 (zs_rf (key := zs_kC) (kl := zs_lC) hJ.1.1.1) (x1 := a0)
  obtain ⟨r2, e2, h2⟩ := zA_70 (zs_rf (key := zs_kM0) (kl := zs_lM) hJ.1.1.2.1) (x1 := a0)
  exact ⟨r.1, r2.1, r.2, r2.2, e1, e2, zK_keep0 (h1.1.2) (h2.1.2) (qb_dull hJ.1.1.2.1 e2) hJ⟩
theorem zz_27 : st_27 zK zK := by
  intro σ τ a0 hJ
  obtain ⟨r, e1, h1⟩ := zc_358 (zs_rf (key := zs_kC) (kl := zs_lC) hJ.1.1.1) (x1 := a0)
  obtain ⟨r2, e2, h2⟩ := zA_79 (zs_rf (key := zs_kM0) (kl := zs_lM) hJ.1.1.2.1) (x1 := a0)
  exact ⟨r.1, r2.1, r.2, r2.2, e1, e2, zK_keep0 (h1.1.2) (h2.1.2) (qb_bears hJ.1.1.2.1 e2) hJ⟩
theorem zz_28 : st_28 zK zK := by
  intro σ τ hJ
  obtain ⟨r, e1, h1⟩ := zc_366 (zs_rf (key := zs_kC) (kl := zs_lC) hJ.1.1.1) 
  obtain ⟨r2, e2, h2⟩ := zA_94 (zs_rf (key := zs_kM0) (kl := zs_lM) hJ.1.1.2.1) 
  exact ⟨r.1, r2.1, r.2, r2.2, e1, e2, zK_keep0 (h1.2) (h2.2) (qb_clean hJ.1.1.2.1 e2) hJ⟩
theorem zz_29 : st_29 zK zK := by
  intro σ τ a0 hJ
  obtain ⟨r, e1, h1⟩ := zc_370 (zs_rf (key := zs_kC) (kl := zs_lC) hJ.1.1.1) (x1 := a0)
  obtain ⟨r2, e2, h2⟩ := zc_378 (zs_rf (key := zs_kM) (kl := zs_lM) hJ.1.1.2.1) (x1 := a0)
  exact ⟨r.1, r2.1, r.2, r2.2, e1, e2, zK_keep (h1.1.2) (h2.1.2) hJ⟩
theorem zz_30 : st_30 zK zK := by
  intro σ τ a0 hJ
  obtain ⟨r, e1, h1⟩ := zc_384 (zs_rf (key := zs_kC) (kl := zs_lC) hJ.1.1.1) (x1 := a0)
  obtain ⟨r2, e2, h2⟩ := zc_397 (zs_rf (key := zs_kM) (kl := zs_lM) hJ.1.1.2.1) (x1 := a0)
  exact ⟨r, r2.1, r2.2, e1, e2, zK_keep (zs_rf hJ.1.1.1) (h2.1.2) hJ⟩
theorem zz_31 : st_31 zK zK := by
  intro σ τ a0 hJ
  obtain ⟨r, e1, h1⟩ := zc_398 (zs_rf (key := zs_kC) (kl := zs_lC) hJ.1.1.1) (x1 := a0)
  obtain ⟨r2, e2, h2⟩ := zc_399 (zs_rf (key := zs_kM) (kl := zs_lM) hJ.1.1.2.1) (x1 := a0)
  exact ⟨r.1, r2.1, r.2, r2.2, e1, e2, zK_keep (h1.1.2) (h2.1.2) hJ⟩
theorem zz_32 : st_32 zK zK := by
  intro σ τ a0 hJ
  obtain ⟨r, e1, h1⟩ := zc_400 (zs_rf (key := zs_kC) (kl := zs_lC) hJ.1.1.1) (x1 := a0)
  obtain ⟨r2, e2, h2⟩ := zc_401 (zs_rf (key := zs_kM) (kl := zs_lM) hJ.1.1.2.1) (x1 := a0)
  exact ⟨r.1, r2.1, r.2, r2.2, e1, e2, zK_keep (h1.1.2) (h2.1.2) hJ⟩
theorem zz_33 : st_33 zK zK := by
  intro σ τ hJ
  obtain ⟨r, e1, h1⟩ := zc_405 (zs_rf (key := zs_kC) (kl := zs_lC) hJ.1.1.1) 
  obtain ⟨r2, e2, h2⟩ := zc_410 (zs_rf (key := zs_kM) (kl := zs_lM) hJ.1.1.2.1) 
  exact ⟨r.1, r2.1, r.2, r2.2, e1, e2, zK_keep (h1.2) (h2.2) hJ⟩
theorem zz_34 : st_34 zK zK := by
  intro σ τ a0 hJ
  obtain ⟨r, e1, h1⟩ := zc_411 (zs_rf (key := zs_kC) (kl := zs_lC) hJ.1.1.1) (x1 := a0)
  obtain ⟨r2, e2, h2⟩ := zc_412 (zs_rf (key := zs_kM) (kl := zs_lM) hJ.1.1.2.1) (x1 := a0)
  exact ⟨r.1, r2.1, r.2, r2.2, e1, e2, zK_keep (h1.2) (h2.2) hJ⟩
theorem zz_35 : st_35 zK zK := by
  intro σ τ hJ
  obtain ⟨r, e1, h1⟩ := zc_416 (zs_rf (key := zs_kC) (kl := zs_lC) hJ.1.1.1) 
  obtain ⟨r2, e2, h2⟩ := zc_420 (zs_rf (key := zs_kM) (kl := zs_lM) hJ.1.1.2.1) 
  exact ⟨r.1, r2.1, r.2, r2.2, e1, e2, zK_keep (h1.2) (h2.2) hJ⟩
theorem zz_36 : st_36 zK zK := by
  intro σ τ hJ
  obtain ⟨r, e1, h1⟩ := zc_425 (zs_rf (key := zs_kC) (kl := zs_lC) hJ.1.1.1) 
  obtain ⟨r2, e2, h2⟩ := zc_430 (zs_rf (key := zs_kM) (kl := zs_lM) hJ.1.1.2.1) 
  exact ⟨r.1, r2.1, r.2, r2.2, e1, e2, zK_keep (h1.2) (h2.2) hJ⟩
theorem zz_37 : st_37 zK zK := by
  intro σ τ hJ
  obtain ⟨r, e1, h1⟩ := zc_434 (zs_rf (key := zs_kC) (kl := zs_lC) hJ.1.1.1) 
  obtain ⟨r2, e2, h2⟩ := zh_reserve (zs_rf (key := zs_kM) (kl := zs_lM) hJ.1.1.2.1)
  exact ⟨r.1, r2.1, r.2, r2.2, e1, e2, zK_keep (h1.2) (h2) hJ⟩
theorem zz_38 : st_38 zK zK := by
  intro σ τ a0 hJ
  obtain ⟨r, e1, h1⟩ := zc_437 (zs_rf (key := zs_kC) (kl := zs_lC) hJ.1.1.1) (x1 := a0)
  obtain ⟨r2, e2, h2⟩ := zc_446 (zs_rf (key := zs_kM) (kl := zs_lM) hJ.1.1.2.1) (x1 := a0)
  exact ⟨r.1, r2.1, r.2, r2.2, e1, e2, zK_keep (h1.2) (h2.2) hJ⟩
theorem zz_39 : st_39 zK zK := by
  intro σ τ hJ
  obtain ⟨r, e1, h1⟩ := zc_457 (zs_rf (key := zs_kC) (kl := zs_lC) hJ.1.1.1) 
  obtain ⟨r2, e2, h2⟩ := zc_463 (zs_rf (key := zs_kM) (kl := zs_lM) hJ.1.1.2.1) 
  exact ⟨r.1, r2.1, r.2, r2.2, e1, e2, zK_keep (h1.2) (h2.2) hJ⟩
theorem zz_40 : st_40 zK zK := by
  intro σ τ a0 hJ
  obtain ⟨r, e1, h1⟩ := zc_471 (zs_rf (key := zs_kC) (kl := zs_lC) hJ.1.1.1) (x1 := a0)
  obtain ⟨r2, e2, h2⟩ := zc_478 (zs_rf (key := zs_kM) (kl := zs_lM) hJ.1.1.2.1) (x1 := a0)
  exact ⟨r, r2.1, r2.2, e1, e2, zK_keep (zs_rf hJ.1.1.1) (h2.1.2) hJ⟩
theorem zz_41 : st_41 zK zK := by
  intro σ τ a0 hJ
  obtain ⟨r, e1, h1⟩ := zc_479 (zs_rf (key := zs_kC) (kl := zs_lC) hJ.1.1.1) (x1 := a0)
  obtain ⟨r2, e2, h2⟩ := zc_480 (zs_rf (key := zs_kM) (kl := zs_lM) hJ.1.1.2.1) (x1 := a0)
  exact ⟨r, r2.1, r2.2, e1, e2, zK_keep (zs_rf hJ.1.1.1) (h2.1.2) hJ⟩
theorem zz_42 : st_42 zK zK := by
  intro σ τ a0 hJ
  obtain ⟨r, e1, h1⟩ := zc_489 (zs_rf (key := zs_kC) (kl := zs_lC) hJ.1.1.1) (x1 := a0)
  obtain ⟨r2, e2, h2⟩ := zr_price hJ.1.1.2.1 a0
  exact ⟨r, r2.1, r2.2, e1, e2, zK_keep (zs_rf hJ.1.1.1) (h2) hJ⟩
theorem zz_43 : st_43 zK zK := by
  intro σ τ a0 hJ
  obtain ⟨r, e1, h1⟩ := zc_511 (zs_rf (key := zs_kC) (kl := zs_lC) hJ.1.1.1) (x1 := a0)
  obtain ⟨r2, e2, h2⟩ := zc_527 (zs_rf (key := zs_kM) (kl := zs_lM) hJ.1.1.2.1) (x1 := a0)
  exact ⟨r.1, r2.1, r.2, r2.2, e1, e2, zK_keep (h1.1.2) (h2.1.2) hJ⟩
theorem zz_44 : st_44 zK zK := by
  intro σ τ a0 hJ
  obtain ⟨r, e1, h1⟩ := zc_529 (zs_rf (key := zs_kC) (kl := zs_lC) hJ.1.1.1) (x1 := a0)
  obtain ⟨r2, e2, h2⟩ := zc_530 (zs_rf (key := zs_kM) (kl := zs_lM) hJ.1.1.2.1) (x1 := a0)
  exact ⟨r.1, r2.1, r.2, r2.2, e1, e2, zK_keep (h1.1.2) (h2.1.2) hJ⟩
theorem zz_45 : st_45 zK zK := by
  intro σ τ a0 hJ
  obtain ⟨r, e1, h1⟩ := zc_543 (zs_rf (key := zs_kC) (kl := zs_lC) hJ.1.1.1) (x1 := a0)
  obtain ⟨r2, e2, h2⟩ := zc_549 (zs_rf (key := zs_kM) (kl := zs_lM) hJ.1.1.2.1) (x1 := a0)
  exact ⟨r.1, r2.1, r.2, r2.2, e1, e2, zK_keep (h1.1.2) (h2.1.2) hJ⟩
theorem zz_46 : st_46 zK zK := by
  intro σ τ a0 hJ
  obtain ⟨r, e1, h1⟩ := zc_550 (zs_rf (key := zs_kC) (kl := zs_lC) hJ.1.1.1) (x1 := a0)
  obtain ⟨r2, e2, h2⟩ := zc_551 (zs_rf (key := zs_kM) (kl := zs_lM) hJ.1.1.2.1) (x1 := a0)
  exact ⟨r.1, r2.1, r.2, r2.2, e1, e2, zK_keep (h1.1.2) (h2.1.2) hJ⟩
theorem zz_47 : st_47 zK zK := by
  intro σ τ a0 hJ
  obtain ⟨r, e1, h1⟩ := zc_579 (zs_rf (key := zs_kC) (kl := zs_lC) hJ.1.1.1) (x1 := a0)
  obtain ⟨r2, e2, h2⟩ := zc_1500 (zs_rf (key := zs_kM) (kl := zs_lM) hJ.1.1.2.1) (x1 := a0)
  exact ⟨r.1, r2.1, r.2, r2.2, e1, e2, zK_keep (h1.1.2) (h2.2) hJ⟩
theorem zz_48 : st_48 zK zK := by
  intro σ τ a0 hJ
  obtain ⟨r, e1, h1⟩ := zc_580 (zs_rf (key := zs_kC) (kl := zs_lC) hJ.1.1.1) (x1 := a0)
  obtain ⟨r2, e2, h2⟩ := zc_1503 (zs_rf (key := zs_kM) (kl := zs_lM) hJ.1.1.2.1) (x1 := a0)
  exact ⟨r.1, r2.1, r.2, r2.2, e1, e2, zK_keep (h1.1.2) (h2.2) hJ⟩
theorem zz_49 : st_49 zK zK := by
  intro σ τ a0 hJ
  obtain ⟨r, e1, h1⟩ := zc_581 (zs_rf (key := zs_kC) (kl := zs_lC) hJ.1.1.1) (x1 := a0)
  obtain ⟨r2, e2, h2⟩ := zc_1504 (zs_rf (key := zs_kM) (kl := zs_lM) hJ.1.1.2.1) (x1 := a0)
  exact ⟨r.1, r2.1, r.2, r2.2, e1, e2, zK_keep (h1.1.2) (h2.2) hJ⟩
theorem zz_50 : st_50 zK zK := by
  intro σ τ a0 hJ
  obtain ⟨r, e1, h1⟩ := zc_590 (zs_rf (key := zs_kC) (kl := zs_lC) hJ.1.1.1) (x1 := a0)
  obtain ⟨r2, e2, h2⟩ := zc_1516 (zs_rf (key := zs_kM) (kl := zs_lM) hJ.1.1.2.1) (x1 := a0)
  exact ⟨r.1, r2.1, r.2, r2.2, e1, e2, zK_keep (h1.1.2) (h2.2) hJ⟩
theorem zz_51 : st_51 zK zK := by
  intro σ τ a0 hJ
  obtain ⟨r, e1, h1⟩ := zc_591 (zs_rf (key := zs_kC) (kl := zs_lC) hJ.1.1.1) (x1 := a0)
  obtain ⟨r2, e2, h2⟩ := zc_1517 (zs_rf (key := zs_kM) (kl := zs_lM) hJ.1.1.2.1) (x1 := a0)
  exact ⟨r.1, r2.1, r.2, r2.2, e1, e2, zK_keep (h1.1.2) (h2.2) hJ⟩
theorem zz_52 : st_52 zK zK := by
  intro σ τ a0 a1 hJ
  obtain ⟨r, e1, h1⟩ := zc_606 (zs_rf (key := zs_kC) (kl := zs_lC) hJ.1.1.1) (x1 := a0) (x2 := a1)
  obtain ⟨r2, e2, h2⟩ := zc_642 (zs_rf (key := zs_kM) (kl := zs_lM) hJ.1.1.2.1) (x1 := a0) (x2 := a1)
  exact ⟨r.1, r2.1, r.2, r2.2, e1, e2, zK_keep (h1.1.2) (h2.1.2) hJ⟩
theorem zz_53 : st_53 zK zK := by
  intro σ τ a0 a1 a2 a3 hJ
  obtain ⟨r, e1, h1⟩ := zc_643 (zs_rf (key := zs_kC) (kl := zs_lC) hJ.1.1.1) (x1 := a0) (x2 := a1) (x3 := a2) (x4 := a3)
  obtain ⟨r2, e2, h2⟩ := zc_651 (zs_rf (key := zs_kM) (kl := zs_lM) hJ.1.1.2.1) (x1 := a0) (x2 := a1) (x3 := a2) (x4 := a3)
  exact ⟨r.1, r2.1, r.2, r2.2, e1, e2, zK_keep (h1.1.2) (h2.1.2) hJ⟩
theorem zz_54 : st_54 zK zK := by
  intro σ τ a0 hJ
  obtain ⟨r, e1, h1⟩ := zc_654 (zs_rf (key := zs_kC) (kl := zs_lC) hJ.1.1.1) (x1 := a0)
  obtain ⟨r2, e2, h2⟩ := zc_657 (zs_rf (key := zs_kM) (kl := zs_lM) hJ.1.1.2.1) (x1 := a0)
  exact ⟨r.1, r2.1, r.2, r2.2, e1, e2, zK_keep (h1.1.2) (h2.1.2) hJ⟩
theorem zz_55 : st_55 zK zK := by
  intro σ τ hJ
  obtain ⟨r, e1, h1⟩ := zc_662 (zs_rf (key := zs_kC) (kl := zs_lC) hJ.1.1.1) 
  obtain ⟨r2, e2, h2⟩ := zc_667 (zs_rf (key := zs_kM) (kl := zs_lM) hJ.1.1.2.1) 
  have q : r.1 = r2.1 := yz_55 hJ _ _ e1 e2
  exact ⟨r.1, r.2, r2.2, e1, (e2.trans (show some r2 = some (r.1, r2.2) by rw [q])), zK_keep (h1.2) (h2.2) hJ⟩
theorem zz_56 : st_56 zK zK := by
  intro σ τ a0 a1 a2 hJ
  obtain ⟨r, e1, h1⟩ := zc_1112 (zs_rf (key := zs_kC) (kl := zs_lC) hJ.1.1.1) (x1 := a0) (x2 := a1) (x3 := a2)
  obtain ⟨r2, e2, h2⟩ := zq_chance hJ.1.1.2.1 a0 a1 a2
  exact ⟨r.1, r2.1, r.2, r2.2, e1, e2, zK_keep (h1.1.2) (h2) hJ⟩
theorem zz_57 : st_57 zK zK := by
  intro σ τ a0 a1 a2 hJ
  obtain ⟨r, e1, h1⟩ := zc_1235 (zs_rf (key := zs_kC) (kl := zs_lC) hJ.1.1.1) (x1 := a0) (x2 := a1) (x3 := a2)
  obtain ⟨r2, e2, h2⟩ := zq_fair hJ.1.1.2.1 a0 a1 a2
  exact ⟨r.1, r2.1, r.2, r2.2, e1, e2, zK_keep (h1.1.2) (h2) hJ⟩
theorem zz_58 : st_58 zK zK := by
  intro σ τ a0 a1 hJ
  obtain ⟨r, e1, h1⟩ := zc_1445 (zs_rf (key := zs_kC) (kl := zs_lC) hJ.1.1.1) (x1 := a0) (x2 := a1)
  obtain ⟨r2, e2, h2⟩ := zq_risk hJ.1.1.2.1 a0 a1
  exact ⟨r.1, r2.1, r.2, r2.2, e1, e2, zK_keep (h1.1.2) (h2) hJ⟩
theorem zz_59 : st_59 zK zK := by
  intro σ τ a0 a1 hJ
  obtain ⟨r, σ1, τ1, e1, e2, h⟩ := zK_59 σ τ a0 a1 hJ
  exact ⟨r, r, σ1, τ1, e1, e2, h⟩
theorem zz_60 : st_60 zK zK := by
  intro σ τ a0 a1 hJ
  obtain ⟨r, σ1, τ1, e1, e2, h⟩ := zK_60 σ τ a0 a1 hJ
  exact ⟨r, r, σ1, τ1, e1, e2, h⟩
theorem zz_61 : st_61 zK zK := by
  intro σ τ hJ
  obtain ⟨r, σ1, τ1, e1, e2, h⟩ := zK_61 σ τ hJ
  exact ⟨r, r, σ1, τ1, e1, e2, h⟩
theorem zz_62 : st_62 zK zK := by
  intro σ τ hJ
  obtain ⟨r, σ1, τ1, e1, e2, h⟩ := zK_62 σ τ hJ
  exact ⟨r, r, σ1, τ1, e1, e2, h⟩
theorem zz_63 : st_63 zK zK := by
  intro σ τ a0 a1 hJ
  obtain ⟨r, e1, h1⟩ := zc_1452 (zs_rf (key := zs_kC) (kl := zs_lC) hJ.1.1.1) (x1 := a0) (x2 := a1)
  obtain ⟨r2, e2, h2⟩ := zc_1460 (zs_rf (key := zs_kM) (kl := zs_lM) hJ.1.1.2.1) (x1 := a0) (x2 := a1)
  exact ⟨r.1, r2.1, r.2, r2.2, e1, e2, zK_keep (h1.1.2) (h2.1.2) hJ⟩
theorem zz_64 : st_64 zK zK := by
  intro σ τ a0 a1 a2 hJ
  obtain ⟨r, e1, h1⟩ := zc_1465 (zs_rf (key := zs_kC) (kl := zs_lC) hJ.1.1.1) (x1 := a0) (x2 := a1) (x3 := a2)
  obtain ⟨r2, e2, h2⟩ := zc_1472 (zs_rf (key := zs_kM) (kl := zs_lM) hJ.1.1.2.1) (x1 := a0) (x2 := a1) (x3 := a2)
  exact ⟨r.1, r2.1, r.2, r2.2, e1, e2, zK_keep (h1.1.2) (h2.1.2) hJ⟩
theorem zz_65 : st_65 zK zK := by
  intro σ τ a0 a1 hJ
  obtain ⟨r, σ1, τ1, e1, e2, h⟩ := zK_65 σ τ a0 a1 hJ
  exact ⟨r, r, σ1, τ1, e1, e2, h⟩
theorem zz_66 : st_66 zK zK := by
  intro σ τ a0 hJ
  obtain ⟨r, e1, e2⟩ := zJ_66 σ τ a0 hJ.1
  exact ⟨r, r, e1, e2, hJ⟩
theorem zz_67 : st_67 zK zK := by
  intro σ τ a0 hJ
  obtain ⟨r, σ1, τ1, e1, e2, h⟩ := zK_67 σ τ a0 hJ
  exact ⟨r, r, σ1, τ1, e1, e2, h⟩
theorem zz_68 : st_68 zK zK := by
  intro σ τ a0 hJ
  obtain ⟨r, σ1, τ1, e1, e2, h⟩ := zK_68 σ τ a0 hJ
  exact ⟨r, r, σ1, τ1, e1, e2, h⟩
theorem zz_69 : st_69 zK zK := by
  intro σ τ a0 a1 a2 hJ
  obtain ⟨r, σ1, τ1, e1, e2, h⟩ := zK_69 σ τ a0 a1 a2 hJ
  exact ⟨r, r, σ1, τ1, e1, e2, h⟩
theorem zz_70 : st_70 zK zK := by
  intro σ τ a0 a1 a2 hJ
  obtain ⟨r, σ1, τ1, e1, e2, h⟩ := zK_70 σ τ a0 a1 a2 hJ
  exact ⟨r, r, σ1, τ1, e1, e2, h⟩
theorem zz_71 : st_71 zK zK := by
  intro σ τ a0 a1 a2 a3 a4 hJ
  obtain ⟨r, σ1, τ1, e1, e2, h⟩ := zK_71 σ τ a0 a1 a2 a3 a4 hJ
  exact ⟨r, r, σ1, τ1, e1, e2, h⟩
theorem zJ_ini : zJ sn_iniX8 sn_iniX9 := by
  have z0 : (0 : Int32).toInt = 0 := by decide
  have H : ∀ (h : Nat) (w : Nat → Int32), (∀ k, sn_iniX8.1 (h + 1) k = 0) → (∀ k, k < 11 → w k = 0) → rr_H h sn_iniX8 w := by
    intro h w h1 hw
    unfold rr_H
    rw [h1 5, h1 6, h1 7, h1 8, h1 9, z0]
    exact ⟨fun k hk => by rw [h1 k, hw k hk], fun i hi => absurd hi (by omega), fun i hi => absurd hi (by omega), fun i hi => absurd hi (by omega), fun i hi => absurd hi (by omega), fun i hi => absurd hi (by omega)⟩
  refine ⟨zj_ini, H 1 _ (fun k => rfl) (fun k _ => rfl), fun j hj => H _ _ (fun k => ?_) (fun k _ => rfl)⟩
  match j, hj with
  | 0, _ => rfl
  | 1, _ => rfl
  | 2, _ => rfl
theorem zK_ini : zK sn_iniX8 sn_iniX9 := by
  refine ⟨zJ_ini, ⟨jW_0 (fun _ => rfl), yH_0 (fun _ => rfl) (fun k => rfl)⟩, fun j hj => ⟨jW_0 (fun _ => rfl), yH_0 (fun _ => rfl) (fun k => ?_)⟩, yD_0 (fun _ => rfl) rfl rfl rfl rfl (fun m => rfl)⟩
  match j, hj with
  | 0, _ => rfl
  | 1, _ => rfl
  | 2, _ => rfl
theorem sn_pure : ∃ J : Nat → sn_S → sn_S → Prop, J 0 sn_iniX8 sn_iniX9 ∧ (∀ k, k + 6 ≤ 3072 → st_all (J k) (J (k + 6))) ∧ ∀ k, k + 6 ≤ 3072 → ∀ σ τ, J k σ τ → J (k + 6) σ τ := by
  refine ⟨fun _ => zK, zK_ini, fun _ _ => ⟨zz_0, zz_1, zz_2, zz_3, zz_4, zz_5, zz_6, zz_7, zz_8, zz_9, zz_10, zz_11, zz_12, zz_13, zz_14, zz_15, zz_16, zz_17, zz_18, zz_19, zz_20, zz_21, zz_22, zz_23, zz_24, zz_25, zz_26, zz_27, zz_28, zz_29, zz_30, zz_31, zz_32, zz_33, zz_34, zz_35, zz_36, zz_37, zz_38, zz_39, zz_40, zz_41, zz_42, zz_43, zz_44, zz_45, zz_46, zz_47, zz_48, zz_49, zz_50, zz_51, zz_52, zz_53, zz_54, zz_55, zz_56, zz_57, zz_58, zz_59, zz_60, zz_61, zz_62, zz_63, zz_64, zz_65, zz_66, zz_67, zz_68, zz_69, zz_70, zz_71⟩, fun _ _ _ _ h => h⟩
end
