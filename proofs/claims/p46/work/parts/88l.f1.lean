/-! a day that is not: copied, changed, lived -/
theorem yp_le {α β : Type} {P : α → Prop} {v : β} {g : β → Option α} (h : ∀ y, y = v → yp (g y) P) : yp (sn_lt v g) P := h v rfl
theorem yc_dcopy {σ : sn_S} {a b : Nat} (hd : b + 10 < a) : yp (fX0_copyFrom σ a b) (fun z => (∀ q, (q < a ∨ a + 10 < q) → z.1 q = σ.1 q) ∧ (∀ k, k < 4 → z.1 a k = σ.1 b k) ∧ (∀ k, k < 30 → z.1 (a + 1) k = σ.1 (b + 1) k) ∧ (∀ k, k < 6 → z.1 (a + 2) k = σ.1 (b + 2) k) ∧ (∀ k, k < 6 → z.1 (a + 3) k = σ.1 (b + 3) k) ∧ (∀ k, k < 6 → z.1 (a + 4) k = σ.1 (b + 4) k) ∧ (∀ k, k < 6 → z.1 (a + 5) k = σ.1 (b + 5) k) ∧ (∀ k, k < 16 → z.1 (a + 6) k = σ.1 (b + 6) k) ∧ (∀ k, k < 180 → z.1 (a + 7) k = σ.1 (b + 7) k) ∧ (∀ k, k < 180 → z.1 (a + 8) k = σ.1 (b + 8) k) ∧ (∀ k, k < 30 → z.1 (a + 9) k = σ.1 (b + 9) k) ∧ (∀ k, k < 6 → z.1 (a + 10) k = σ.1 (b + 10) k)) := by
  unfold fX0_copyFrom
  refine yp_le (fun y1 e1 => yp_le (fun y2 e2 => yp_le (fun y3 e3 => yp_le (fun z0 e4 => ?_))))
  have hb : b ≠ a := by omega
  have r1 : ∀ q, q ≠ a → y1.1 q = σ.1 q := fun q hq => by rw [e1, pI_ne hq]
  have r2 : ∀ q, q ≠ a → y2.1 q = σ.1 q := fun q hq => by rw [e2, pI_ne hq, r1 q hq]
  have r3 : ∀ q, q ≠ a → y3.1 q = σ.1 q := fun q hq => by rw [e3, pI_ne hq, r2 q hq]
  have r0 : ∀ q, q ≠ a → z0.1 q = σ.1 q := fun q hq => by rw [e4, pI_ne hq, r3 q hq]
  have c0 : ∀ k, k < 4 → z0.1 a k = σ.1 b k := fun k hk => by
    match k, hk with
    | 0, _ => rw [e4, pI_slot (by decide), e3, pI_slot (by decide), e2, pI_slot (by decide), e1, pI_self]; rfl
    | 1, _ => rw [e4, pI_slot (by decide), e3, pI_slot (by decide), e2, pI_self]; exact congrFun (r1 b hb) 1
    | 2, _ => rw [e4, pI_slot (by decide), e3, pI_self]; exact congrFun (r2 b hb) 2
    | 3, _ => rw [e4, pI_self]; exact congrFun (r3 b hb) 3
  refine yp_gd (fun _ => yp_le (fun z1 h1 => ?_))
  obtain ⟨p1, q1⟩ := yc_cpy (z := z0) (a := a + 1) (b := b + 1) (L := 30) (by decide)
  rw [← h1] at p1 q1
  refine yp_gd (fun _ => yp_le (fun z2 h2 => ?_))
  obtain ⟨p2, q2⟩ := yc_cpy (z := z1) (a := a + 2) (b := b + 2) (L := 6) (by decide)
  rw [← h2] at p2 q2
  refine yp_gd (fun _ => yp_le (fun z3 h3 => ?_))
  obtain ⟨p3, q3⟩ := yc_cpy (z := z2) (a := a + 3) (b := b + 3) (L := 6) (by decide)
  rw [← h3] at p3 q3
  refine yp_gd (fun _ => yp_le (fun z4 h4 => ?_))
  obtain ⟨p4, q4⟩ := yc_cpy (z := z3) (a := a + 4) (b := b + 4) (L := 6) (by decide)
  rw [← h4] at p4 q4
  refine yp_gd (fun _ => yp_le (fun z5 h5 => ?_))
  obtain ⟨p5, q5⟩ := yc_cpy (z := z4) (a := a + 5) (b := b + 5) (L := 6) (by decide)
  rw [← h5] at p5 q5
  refine yp_gd (fun _ => yp_le (fun z6 h6 => ?_))
  obtain ⟨p6, q6⟩ := yc_cpy (z := z5) (a := a + 6) (b := b + 6) (L := 16) (by decide)
  rw [← h6] at p6 q6
  refine yp_gd (fun _ => yp_le (fun z7 h7 => ?_))
  obtain ⟨p7, q7⟩ := yc_cpy (z := z6) (a := a + 7) (b := b + 7) (L := 180) (by decide)
  rw [← h7] at p7 q7
  refine yp_gd (fun _ => yp_le (fun z8 h8 => ?_))
  obtain ⟨p8, q8⟩ := yc_cpy (z := z7) (a := a + 8) (b := b + 8) (L := 180) (by decide)
  rw [← h8] at p8 q8
  refine yp_gd (fun _ => yp_le (fun z9 h9 => ?_))
  obtain ⟨p9, q9⟩ := yc_cpy (z := z8) (a := a + 9) (b := b + 9) (L := 30) (by decide)
  rw [← h9] at p9 q9
  refine yp_gd (fun _ => yp_le (fun z10 h10 => ?_))
  obtain ⟨p10, q10⟩ := yc_cpy (z := z9) (a := a + 10) (b := b + 10) (L := 6) (by decide)
  rw [← h10] at p10 q10
  refine yp_some ⟨fun q hq => ?_, fun k hk => ?_, fun k hk => ?_, fun k hk => ?_, fun k hk => ?_, fun k hk => ?_, fun k hk => ?_, fun k hk => ?_, fun k hk => ?_, fun k hk => ?_, fun k hk => ?_, fun k hk => ?_⟩
  · rw [p10 q (by omega), p9 q (by omega), p8 q (by omega), p7 q (by omega), p6 q (by omega), p5 q (by omega), p4 q (by omega), p3 q (by omega), p2 q (by omega), p1 q (by omega), r0 q (by omega)]
  · rw [p10 a (by omega), p9 a (by omega), p8 a (by omega), p7 a (by omega), p6 a (by omega), p5 a (by omega), p4 a (by omega), p3 a (by omega), p2 a (by omega), p1 a (by omega), c0 k hk]
  · rw [p10 (a + 1) (by omega), p9 (a + 1) (by omega), p8 (a + 1) (by omega), p7 (a + 1) (by omega), p6 (a + 1) (by omega), p5 (a + 1) (by omega), p4 (a + 1) (by omega), p3 (a + 1) (by omega), p2 (a + 1) (by omega), q1 k, if_pos hk, r0 (b + 1) (by omega)]
  · rw [p10 (a + 2) (by omega), p9 (a + 2) (by omega), p8 (a + 2) (by omega), p7 (a + 2) (by omega), p6 (a + 2) (by omega), p5 (a + 2) (by omega), p4 (a + 2) (by omega), p3 (a + 2) (by omega), q2 k, if_pos hk, p1 (b + 2) (by omega), r0 (b + 2) (by omega)]
  · rw [p10 (a + 3) (by omega), p9 (a + 3) (by omega), p8 (a + 3) (by omega), p7 (a + 3) (by omega), p6 (a + 3) (by omega), p5 (a + 3) (by omega), p4 (a + 3) (by omega), q3 k, if_pos hk, p2 (b + 3) (by omega), p1 (b + 3) (by omega), r0 (b + 3) (by omega)]
  · rw [p10 (a + 4) (by omega), p9 (a + 4) (by omega), p8 (a + 4) (by omega), p7 (a + 4) (by omega), p6 (a + 4) (by omega), p5 (a + 4) (by omega), q4 k, if_pos hk, p3 (b + 4) (by omega), p2 (b + 4) (by omega), p1 (b + 4) (by omega), r0 (b + 4) (by omega)]
  · rw [p10 (a + 5) (by omega), p9 (a + 5) (by omega), p8 (a + 5) (by omega), p7 (a + 5) (by omega), p6 (a + 5) (by omega), q5 k, if_pos hk, p4 (b + 5) (by omega), p3 (b + 5) (by omega), p2 (b + 5) (by omega), p1 (b + 5) (by omega), r0 (b + 5) (by omega)]
  · rw [p10 (a + 6) (by omega), p9 (a + 6) (by omega), p8 (a + 6) (by omega), p7 (a + 6) (by omega), q6 k, if_pos hk, p5 (b + 6) (by omega), p4 (b + 6) (by omega), p3 (b + 6) (by omega), p2 (b + 6) (by omega), p1 (b + 6) (by omega), r0 (b + 6) (by omega)]
  · rw [p10 (a + 7) (by omega), p9 (a + 7) (by omega), p8 (a + 7) (by omega), q7 k, if_pos hk, p6 (b + 7) (by omega), p5 (b + 7) (by omega), p4 (b + 7) (by omega), p3 (b + 7) (by omega), p2 (b + 7) (by omega), p1 (b + 7) (by omega), r0 (b + 7) (by omega)]
  · rw [p10 (a + 8) (by omega), p9 (a + 8) (by omega), q8 k, if_pos hk, p7 (b + 8) (by omega), p6 (b + 8) (by omega), p5 (b + 8) (by omega), p4 (b + 8) (by omega), p3 (b + 8) (by omega), p2 (b + 8) (by omega), p1 (b + 8) (by omega), r0 (b + 8) (by omega)]
  · rw [p10 (a + 9) (by omega), q9 k, if_pos hk, p8 (b + 9) (by omega), p7 (b + 9) (by omega), p6 (b + 9) (by omega), p5 (b + 9) (by omega), p4 (b + 9) (by omega), p3 (b + 9) (by omega), p2 (b + 9) (by omega), p1 (b + 9) (by omega), r0 (b + 9) (by omega)]
  · rw [q10 k, if_pos hk, p9 (b + 10) (by omega), p8 (b + 10) (by omega), p7 (b + 10) (by omega), p6 (b + 10) (by omega), p5 (b + 10) (by omega), p4 (b + 10) (by omega), p3 (b + 10) (by omega), p2 (b + 10) (by omega), p1 (b + 10) (by omega), r0 (b + 10) (by omega)]
def dy_noSet (i : dy_I) (n : Int32) : dy_I := (dy_P i, dy_keen i, dy_lim i, dy_held i, dy_snuf i, dy_dust i, dy_na i, dy_nb i, dy_nN i, n)
def dy_keenSet (i : dy_I) (p : Nat) (v : Int32) : dy_I := (dy_P i, (fun x => if x = p then v else dy_keen i x), dy_lim i, dy_held i, dy_snuf i, dy_dust i, dy_na i, dy_nb i, dy_nN i, dy_no i)
def dy_limSet (i : dy_I) (p : Nat) (v : Int32) : dy_I := (dy_P i, dy_keen i, (fun x => if x = p then v else dy_lim i x), dy_held i, dy_snuf i, dy_dust i, dy_na i, dy_nb i, dy_nN i, dy_no i)
def dy_heldSet (i : dy_I) (p : Nat) (v : Int32) : dy_I := (dy_P i, dy_keen i, dy_lim i, (fun x => if x = p then v else dy_held i x), dy_snuf i, dy_dust i, dy_na i, dy_nb i, dy_nN i, dy_no i)
def dy_snufSet (i : dy_I) (p : Nat) (v : Int32) : dy_I := (dy_P i, dy_keen i, dy_lim i, dy_held i, (fun x => if x = p then v else dy_snuf i x), dy_dust i, dy_na i, dy_nb i, dy_nN i, dy_no i)
def dy_dustSet (i : dy_I) (f : Nat → Int32) : dy_I := (dy_P i, dy_keen i, dy_lim i, dy_held i, dy_snuf i, f, dy_na i, dy_nb i, dy_nN i, dy_no i)
section
variable {σ τ u z : sn_S} {w : Nat → Int32}
/-- the trial is told what the day was, and lived as it was -/
theorem yc_trial {a : Nat} (hW : jW w) (hD : yD σ w) (ha : 37 < a) : yp (fX0_copyFrom σ a 27) (fun z => (∀ q, (q < a ∨ a + 10 < q) → z.1 q = σ.1 q) ∧ z.1 a 0 = nI (sp_n w 0) ∧ yd_T a z (hs_day w) ∧ yd_L a z (hs_day w) (sp_n w 0)) := by
  have c5 := (yl_5 hW).2
  have c0 := (yl_0 hW).2
  have c7 := hW.1.2.2.2.2.2.2.2.1.2
  obtain ⟨d0, ⟨t1, t2, t3, t4, t5, t6⟩, l1, l2⟩ := hD
  refine yp_w (yc_dcopy (by omega)) (fun z hz => ?_)
  obtain ⟨hr, h0, h1, h2, h3, h4, h5, h6, h7, h8, h9, h10⟩ := hz
  refine ⟨hr, (h0 0 (by decide)).trans d0, ⟨(h0 1 (by decide)).trans t1, (h0 2 (by decide)).trans t2, (h0 3 (by decide)).trans t3, fun m hm => (h1 m hm).trans (t4 m hm), fun p hp => ?_, fun k hk => ?_⟩, fun m hm => ⟨(h9 m (by omega)).trans (l1 m hm).1, fun p hp => ?_⟩, fun p hp => ?_⟩
  · have g := t5 p hp
    have hp : p < sp_n w 5 := hp
    exact ⟨(h2 p (by omega)).trans g.1, (h3 p (by omega)).trans g.2.1, (h4 p (by omega)).trans g.2.2.1, (h5 p (by omega)).trans g.2.2.2⟩
  · have g := t6 k hk
    have hk : k < sp_n w 7 := hk
    exact ⟨(h6 _ (by omega)).trans g.1, (h6 _ (by omega)).trans g.2⟩
  · have g := (l1 m hm).2 p hp
    have hp : p < sp_n w 5 := hp
    exact ⟨(h7 _ (by omega)).trans g.1, (h8 _ (by omega)).trans g.2⟩
  · have g := l2 p hp
    have hp : p < sp_n w 5 := hp
    exact (h10 p (by omega)).trans g
/-! nets cut -/
def yz_cut (w : Nat → Int32) (n : Int32) : Nat := yz_sum (dy_noSet (hs_day w) n) (sp_n w 0) (sp_n w 5)
theorem yc_without {n : Int32} (hW : jW w) (hD : yD σ w) : yp (fX8_totalWithout σ n) (fun r => r.1 = nI (yz_cut w n) ∧ ∀ q, (q < 38 ∨ 48 < q) → r.2.1 q = σ.1 q) := by
  have c5 := (yl_5 hW).2
  have c0 := (yl_0 hW).2
  unfold fX8_totalWithout
  refine yp_bd _ (yc_trial hW hD (by decide)) (fun z hz => yp_lt ?_)
  obtain ⟨hr, h0, ⟨t1, t2, t3, t4, t5, t6⟩, hl⟩ := hz
  have hT : yd_T 38 (sn_pI z 38 3 n) (dy_noSet (hs_day w) n) := ⟨(pI_slot (by decide)).trans t1, (pI_slot (by decide)).trans t2, pI_self, fun m hm => (congrFun (pI_ne (by decide)) m).trans (t4 m hm), fun p hp => by
    rw [pI_ne (by decide), pI_ne (by decide), pI_ne (by decide), pI_ne (by decide)]
    exact t5 p hp, fun k hk => by
    rw [pI_ne (by decide)]
    exact t6 k hk⟩
  refine yp_bd _ (yc_whole ((pI_slot (by decide)).trans h0) c0 hT (hs_ok hW)) (fun v hv => ?_)
  obtain ⟨hf, hL⟩ := hv
  refine yp_bd _ (yc_total (i := dy_noSet (hs_day w) n) ((congrFun (hf.1 38 (by omega)) 1).trans hT.1) c5 c0 hL.2) (fun t ht => yp_some ⟨ht, fun q hq => ?_⟩)
  exact (hf.1 q (by omega)).trans ((pI_ne (by omega)).trans (hr q (by omega)))
/-- the reference, told of a house, net n cut -/
theorem ym_without {n : Int32} (hW : jW w) (hu : u.1 1 = w) (h22 : u.1 0 22 = nI (sp_n w 0) - 1) (hT : ∃ n, ym_T u (dy_noSet (hs_day w) n)) : yp (fX9_allWithout u n) (fun r => r.1 = nI (yz_cut w n) ∧ r.2.1 1 = w ∧ r.2.1 0 22 = nI (sp_n w 0) - 1 ∧ ∃ n, ym_T r.2 (dy_noSet (hs_day w) n)) := by
  have c5 := (yl_5 hW).2
  have c0 := (yl_0 hW).2
  obtain ⟨n0, t1, t2, t3, t4, t5, t6⟩ := hT
  have hT2 : ym_T (sn_pI u 0 19 n) (dy_noSet (hs_day w) n) := ⟨(congrFun (pI_ne (by decide)) 5).trans t1, (congrFun (pI_ne (by decide)) 7).trans t2, pI_self, fun m hm => (congrFun (pI_ne (by decide)) m).trans (t4 m hm), fun p hp => by
    rw [pI_ne (by decide), pI_ne (by decide), pI_ne (by decide)]
    exact t5 p hp, fun k hk => by
    rw [pI_ne (by decide)]
    exact t6 k hk⟩
  have e22 : (sn_pI u 0 19 n).1 0 22 = nI (sp_n w 0) - 1 := (pI_slot (by decide)).trans h22
  unfold fX9_allWithout
  refine yp_lt (yp_bd _ (ym_goAll c0 e22 hT2 (hs_ok hW)) (fun v hv => ?_))
  obtain ⟨⟨f1, f2⟩, hL⟩ := hv
  have e1 : v.1 1 = w := (f1 1 (by omega)).trans ((pI_ne (by decide)).trans hu)
  refine yp_bd _ (ym_total (i := dy_noSet (hs_day w) n) ((congrFun e1 5).trans (yl_5 hW).1) c5 (fun p hp => ?_)) (fun t ht => yp_some ⟨ht, e1, (congrFun (f1 0 (by omega)) 22).trans e22, n, ym_Tc (fun a ha => f1 a (Or.inl ha)) hT2⟩)
  have g := (hL.2 p (by have : p < sp_n w 5 := hp; omega)).1
  rw [if_pos hp] at g
  exact g
theorem yz_54 {a : Int32} (hK : zK σ τ) : yr (fX8_cut σ a) (fX9_cut τ a) (fun r s => r.1 = s.1) := by
  have hW := hK.2.1.1
  have hH := hK.2.1.2
  have c7 := hW.1.2.2.2.2.2.2.2.1
  have e7 : sn_I σ (1 + 1) (7 : Int32).toNatClampNeg = nI (sp_n (τ.1 1) 7) := (hH.1 7 (by decide)).trans c7.1
  unfold fX8_cut fX9_cut
  have l7 := c7.2
  have eN : yp (fX8_isNet σ a) (fun v => v = if 0 ≤ a ∧ a < nI (sp_n (τ.1 1) 7) then 1 else 0) := by
    unfold fX8_isNet
    rw [e7]
    refine yp_ite (fun c => yp_gd (fun _ => yp_some ?_)) (fun c => yp_gd (fun _ => yp_ite (fun c2 => yp_gd (fun _ => yp_some ?_)) (fun c2 => yp_gd (fun _ => yp_some ?_))))
    · rw [if_neg (fun h => Int32.not_lt.mpr h.1 c)]
    · rw [if_neg (fun h => Int32.not_lt.mpr c2 h.2)]
    · rw [if_pos ⟨Int32.not_lt.mp c, Int32.not_le.mp c2⟩]
  by_cases g : 0 ≤ a ∧ a < nI (sp_n (τ.1 1) 7)
  · refine yr_eq2 (nI (yz_cut (τ.1 1) a)) ?_ ?_
    · refine yp_bd _ eN (fun t ht => ?_)
      rw [ht, if_pos g, if_neg (by decide)]
      exact yp_bd _ (yc_without hW hK.2.2.2) (fun r hr => yp_some hr.1)
    · refine yp_bd _ (ym_asItIs rfl hW) (fun u hu => ?_)
      have u1 : u.1 1 = τ.1 1 := hu.1.1 1 (by decide) (by decide) (by decide) (by decide)
      rw [show sn_I u 1 (7 : Int32).toNatClampNeg = nI (sp_n (τ.1 1) 7) from (congrFun u1 7).trans c7.1, show fX9_in a.toInt64 (0 : Int64) (nI (sp_n (τ.1 1) 7) - (1 : Int32)).toInt64 = _ from in_eq32 a 0 (nI (sp_n (τ.1 1) 7) - (1 : Int32)), if_pos ⟨g.1, (i32_le_sub1 (nI_pos' (by omega))).mpr g.2⟩]
      refine yp_gd (fun _ => yp_bs rfl ?_)
      rw [if_neg (by decide)]
      exact yp_bd _ (ym_without hW u1 hu.2.2.2.2.2.1 ⟨-1, ya_day rfl hW hu⟩) (fun r hr => yp_some hr.1)
  · refine yr_eq2 (-2 : Int32) ?_ ?_
    · refine yp_bd _ eN (fun t ht => ?_)
      rw [ht, if_neg g, if_pos rfl]
      exact yp_some rfl
    · refine yp_bd _ (ym_asItIs rfl hW) (fun u hu => ?_)
      have u1 : u.1 1 = τ.1 1 := hu.1.1 1 (by decide) (by decide) (by decide) (by decide)
      rw [show sn_I u 1 (7 : Int32).toNatClampNeg = nI (sp_n (τ.1 1) 7) from (congrFun u1 7).trans c7.1, show fX9_in a.toInt64 (0 : Int64) (nI (sp_n (τ.1 1) 7) - (1 : Int32)).toInt64 = _ from in_eq32 a 0 (nI (sp_n (τ.1 1) 7) - (1 : Int32)), if_neg (fun h => g ⟨h.1, (i32_le_sub1 (nI_pos' (by omega))).mp h.2⟩)]
      refine yp_gd (fun _ => yp_bs rfl ?_)
      rw [if_pos rfl]
      exact yp_some rfl
def yz_ls (t0 : Int32) (f : Nat → Int32) : Nat → Int32 × Int32
  | 0 => (-1, t0)
  | n + 1 => if f n < (yz_ls t0 f n).2 then (nI n, f n) else yz_ls t0 f n
theorem yz_55 (hK : zK σ τ) : yr (fX8_cuts σ) (fX9_cuts τ) (fun r s => r.1 = s.1) := by
  have hW := hK.2.1.1
  have c7 := hW.1.2.2.2.2.2.2.2.1
  have l7 := c7.2
  unfold fX8_cuts fX9_cuts
  refine yz_house2 hK (fun v u h10 hM => ?_)
  obtain ⟨f, hf⟩ : ∃ f : Nat → Int32, ∀ k, f k = nI (yz_cut (τ.1 1) (nI k)) := ⟨_, fun _ => rfl⟩
  obtain ⟨t0, ht0⟩ : ∃ t0, t0 = nI (yz_sum (hs_day (τ.1 1)) (sp_n (τ.1 1) 0) (sp_n (τ.1 1) 5)) := ⟨_, rfl⟩
  have k1 : ∀ k, yz_ls t0 f (k + 1) = if f k < (yz_ls t0 f k).2 then (nI k, f k) else yz_ls t0 f k := fun k => rfl
  refine yr_eq2 (yz_ls t0 f (sp_n (τ.1 1) 7)).1 ?_ ?_
  · refine yp_bd _ (yc_total (i := hs_day (τ.1 1)) hK.2.2.2.2.1.1 hW.1.2.2.2.2.2.1.2 hW.1.1.2 (fun p hp => yz_sn hK hp)) (fun t ht => ?_)
    have ht : t = t0 := ht.trans ht0.symm
    subst ht
    refine yp_bd (fun r => r.2 = (yz_ls t f (sp_n (τ.1 1) 7)).1) (yp_for (sp_n (τ.1 1) 7) (fun k s => s.2.2.2 = nI k ∧ s.2.1 = (yz_ls t f k).1 ∧ s.2.2.1 = (yz_ls t f k).2 ∧ ∀ q, (q < 38 ∨ 48 < q) → s.1.1 q = σ.1 q) (fun k s hk hs => ?_) (fun s hs => ?_) ⟨nI_0.symm, rfl, rfl, fun _ _ => rfl⟩) (fun v hv => ?_)
    · obtain ⟨z, b, c, x⟩ := s
      obtain ⟨ex, eb, ec, hz⟩ := hs
      have ex : x = nI k := ex
      have eb : b = _ := eb
      have ec : c = _ := ec
      have hz : ∀ q, (q < 38 ∨ 48 < q) → z.1 q = σ.1 q := hz
      subst ex
      subst eb
      subst ec
      show yp (BX8_cuts_22 z _ _ (nI k)) _
      unfold BX8_cuts_22 BX8_cuts_54
      rw [show sn_I z (1 + 1) (7 : Int32).toNatClampNeg = nI (sp_n (τ.1 1) 7) from (congrFun (hz 2 (by omega)) 7).trans ((hK.2.1.2.1 7 (by decide)).trans c7.1), if_neg (nI_ge hk (by omega))]
      refine yp_gd (fun _ => yp_bd _ (yc_without hW (yD_c (fun q a b => hz q (by omega)) hK.2.2.2)) (fun r hr => ?_))
      rw [hr.1, ← hf k]
      refine yp_ite (fun c => yp_lt (yp_some ⟨nI_1 k, ?_, ?_, fun q hq => (hr.2 q hq).trans (hz q hq)⟩)) (fun c => yp_lt (yp_some ⟨nI_1 k, ?_, ?_, fun q hq => (hr.2 q hq).trans (hz q hq)⟩))
      · rw [k1, if_neg (Int32.not_lt.mpr c)]
      · rw [k1, if_neg (Int32.not_lt.mpr c)]
      · rw [k1, if_pos (Int32.not_le.mp c)]
      · rw [k1, if_pos (Int32.not_le.mp c)]
    · obtain ⟨z, b, c, x⟩ := s
      obtain ⟨ex, eb, ec, hz⟩ := hs
      have ex : x = nI (sp_n (τ.1 1) 7) := ex
      have hz : ∀ q, (q < 38 ∨ 48 < q) → z.1 q = σ.1 q := hz
      subst ex
      show yp (BX8_cuts_22 z b c (nI (sp_n (τ.1 1) 7))) _
      unfold BX8_cuts_22
      rw [show sn_I z (1 + 1) (7 : Int32).toNatClampNeg = nI (sp_n (τ.1 1) 7) from (congrFun (hz 2 (by omega)) 7).trans ((hK.2.1.2.1 7 (by decide)).trans c7.1), if_pos (nI_le (Nat.le_refl _) (by omega))]
      exact yp_gd (fun _ => yp_some eb)
    · unfold BX8_cuts_60
      exact yp_some hv
  · refine yp_bd _ (ym_total (i := hs_day (τ.1 1)) ((congrFun hM.1 5).trans hW.1.2.2.2.2.2.1.1) hW.1.2.2.2.2.2.1.2 (fun p hp => yz_msn hW hM hp)) (fun t ht => ?_)
    have ht : t = t0 := ht.trans ht0.symm
    subst ht
    refine yp_bd (fun r => r.2 = (yz_ls t f (sp_n (τ.1 1) 7)).1) (yp_for (sp_n (τ.1 1) 7) (fun k s => s.2.2.2 = nI k ∧ s.2.1 = (yz_ls t f k).1 ∧ s.2.2.1 = (yz_ls t f k).2 ∧ s.1.1 1 = τ.1 1 ∧ s.1.1 0 22 = nI (sp_n (τ.1 1) 0) - 1 ∧ ∃ n, ym_T s.1 (dy_noSet (hs_day (τ.1 1)) n)) (fun k s hk hs => ?_) (fun s hs => ?_) ⟨nI_0.symm, rfl, rfl, hM.1, yM_22 hM, -1, hM.2.2.2.2.2.2.2.2.2.1⟩) (fun v hv => ?_)
    · obtain ⟨z, b, c, x⟩ := s
      obtain ⟨ex, eb, ec, z1, z22, zT⟩ := hs
      have ex : x = nI k := ex
      have eb : b = _ := eb
      have ec : c = _ := ec
      have z1 : z.1 1 = τ.1 1 := z1
      subst ex
      subst eb
      subst ec
      show yp (BX9_cuts_19 z _ _ (nI k)) _
      unfold BX9_cuts_19 BX9_cuts_51
      rw [show sn_I z 1 (7 : Int32).toNatClampNeg = nI (sp_n (τ.1 1) 7) from (congrFun z1 7).trans c7.1, if_neg (nI_ge hk (by omega))]
      refine yp_gd (fun _ => yp_bd _ (ym_without hW z1 z22 zT) (fun r hr => ?_))
      rw [hr.1, ← hf k]
      refine yp_ite (fun c => yp_lt (yp_some ⟨nI_1 k, ?_, ?_, hr.2⟩)) (fun c => yp_lt (yp_some ⟨nI_1 k, ?_, ?_, hr.2⟩))
      · rw [k1, if_pos c]
      · rw [k1, if_pos c]
      · rw [k1, if_neg c]
      · rw [k1, if_neg c]
    · obtain ⟨z, b, c, x⟩ := s
      obtain ⟨ex, eb, ec, z1, z22, zT⟩ := hs
      have ex : x = nI (sp_n (τ.1 1) 7) := ex
      have z1 : z.1 1 = τ.1 1 := z1
      subst ex
      show yp (BX9_cuts_19 z b c (nI (sp_n (τ.1 1) 7))) _
      unfold BX9_cuts_19
      rw [show sn_I z 1 (7 : Int32).toNatClampNeg = nI (sp_n (τ.1 1) 7) from (congrFun z1 7).trans c7.1, if_pos (nI_le (Nat.le_refl _) (by omega))]
      exact yp_gd (fun _ => yp_some eb)
    · unfold BX9_cuts_57
      exact yp_some hv
end
