/-! two hold back or not -/
def dy_heldAll (i : dy_I) (f : Nat → Int32) : dy_I := (dy_P i, dy_keen i, dy_lim i, f, dy_snuf i, dy_dust i, dy_na i, dy_nb i, dy_nN i, dy_no i)
theorem yi_d4 {a : Nat} (h : a < 2 ^ 31) : nI a / (4 : Int32) = nI (a / 4) := by
  apply Int32.toInt_inj.mp
  rw [Int32.toInt_div, nI_toInt h, nI_toInt (show a / 4 < 2 ^ 31 by omega), show (4 : Int32).toInt = 4 by decide, Int.tdiv_eq_ediv_of_nonneg (by omega), Int.bmod_eq_of_le (by omega) (by omega)]
  omega
section
variable {σ τ u z : sn_S} {w : Nat → Int32}
def yo_B (w : Nat → Int32) : Int32 := ((1 : Int32) <<< (nI (sp_n w 0) &&& 31)) - 1
def yo_s (w : Nat → Int32) (p : Nat) (x : Bool) (f : Nat → Int32) : Nat → Int32 := if x = true then (fun k => if k = p then yo_B w else f k) else f
def yo_f (w : Nat → Int32) (a b : Nat) (x y : Bool) : Nat → Int32 := yo_s w b y (yo_s w a x (fun k => hs_acts w 0 k (sp_n w 9)))
theorem yo_sym (w : Nat → Int32) {a b : Nat} (h : a ≠ b) (x y : Bool) : yo_f w b a y x = yo_f w a b x y := by
  funext k
  unfold yo_f yo_s
  cases x <;> cases y
  · rfl
  · rfl
  · rfl
  · show (if k = a then yo_B w else if k = b then yo_B w else hs_acts w 0 k (sp_n w 9)) = (if k = b then yo_B w else if k = a then yo_B w else hs_acts w 0 k (sp_n w 9))
    by_cases c : k = a
    · rw [if_pos c, if_neg (fun d => h (c.symm.trans d)), if_pos c]
    · rw [if_neg c, if_neg c]
def yo_l (w : Nat → Int32) (f : Nat → Int32) (p : Nat) (x : Bool) : Nat := 3 * yb_pop (dy_sn (dy_heldAll (hs_day w) f) (sp_n w 0) p) 30 + if x = true then sp_n w 0 / 4 else 0
def yo_T (w : Nat → Int32) (σ z : sn_S) (f : Nat → Int32) : Prop := (∀ q, (q < 38 ∨ 48 < q) → z.1 q = σ.1 q) ∧ z.1 38 0 = nI (sp_n w 0) ∧ yd_T 38 z (dy_heldAll (hs_day w) f)
theorem yo_set {f : Nat → Int32} {p : Nat} (h : yo_T w σ z f) : yo_T w σ (sn_pI z (38 + 4) p (yo_B w)) (yo_s w p true f) := by
  obtain ⟨hr, h0, t1, t2, t3, t4, t5, t6⟩ := h
  have yr0 : ∀ a, a ≠ 42 → (sn_pI z (38 + 4) p (yo_B w)).1 a = z.1 a := fun a ha => pI_ne ha
  refine ⟨fun q hq => (yr0 q (by omega)).trans (hr q hq), (congrFun (yr0 38 (by decide)) 0).trans h0, (congrFun (yr0 38 (by decide)) 1).trans t1, (congrFun (yr0 38 (by decide)) 2).trans t2, (congrFun (yr0 38 (by decide)) 3).trans t3, fun k hk => (congrFun (yr0 39 (by decide)) k).trans (t4 k hk), fun x hx => ?_, fun k hk => ?_⟩
  · have g := t5 x hx
    refine ⟨(congrFun (yr0 40 (by decide)) x).trans g.1, (congrFun (yr0 41 (by decide)) x).trans g.2.1, ?_, (congrFun (yr0 43 (by decide)) x).trans g.2.2.2⟩
    show (sn_pI z (38 + 4) p (yo_B w)).1 (38 + 4) x = (if x = p then yo_B w else f x)
    by_cases e : x = p
    · rw [if_pos e, e]; exact pI_self
    · rw [if_neg e]
      exact (pI_slot e).trans g.2.2.1
  · rw [yr0 44 (by decide)]
    exact t6 k hk
theorem yc_loss60 {f : Nat → Int32} {p : Nat} {x : Int32} (hW : jW w) (hD : yD σ w) (hp : p < sp_n w 5) (h : yo_T w σ z f) : yp (BX8_lossOf_60 z (nI p) x) (fun r => r.1 = nI (yo_l w f p (decide (x = 1))) ∧ ∀ q, (q < 38 ∨ 48 < q) → r.2.1 q = σ.1 q) := by
  have c0 := (yl_0 hW).2
  have c5 := (yl_5 hW).2
  obtain ⟨hr, h0, hT⟩ := h
  unfold BX8_lossOf_60 BX8_lossOf_85
  refine yp_bd _ (yc_whole h0 c0 hT (hs_ok hW)) (fun v hv => ?_)
  obtain ⟨⟨f1, f2⟩, hL⟩ := hv
  have vr : ∀ q, (q < 38 ∨ 48 < q) → v.1 q = σ.1 q := fun q hq => (f1 q (by omega)).trans (hr q hq)
  rw [show sn_I v 27 0 = nI (sp_n w 0) from (congrFun (vr 27 (by omega)) 0).trans hD.1, nI_clamp (show p < 2 ^ 31 by omega), show sn_I v (38 + 10) p = _ from hL.2 p hp, yb_count, yb_pop30 (fun j g1 g2 => yz_sbits c0 j (by omega) g2), yi_d4 (by omega)]
  refine yp_ite (fun c => yp_gd (fun _ => yp_bs rfl (yp_some ⟨?_, vr⟩))) (fun c => yp_gd (fun _ => yp_bs rfl (yp_some ⟨?_, vr⟩)))
  · show (3 : Int32) * nI _ + nI (sp_n w 0 / 4) = _
    unfold yo_l
    rw [yi_3, nI_add, decide_eq_true c, if_pos rfl]
  · show (3 : Int32) * nI _ + (0 : Int32) = _
    unfold yo_l
    rw [yi_3, decide_eq_false c, if_neg (by decide), Nat.add_zero, Int32.add_zero]
theorem yc_loss {a b : Nat} {x y : Int32} (hW : jW w) (hD : yD σ w) (ha : a < sp_n w 5) (hb : b < sp_n w 5) : yp (fX8_lossOf σ (nI a) (nI b) x y) (fun r => r.1 = nI (yo_l w (yo_f w a b (decide (x = 1)) (decide (y = 1))) a (decide (x = 1))) ∧ ∀ q, (q < 38 ∨ 48 < q) → r.2.1 q = σ.1 q) := by
  have c5 := (yl_5 hW).2
  have k35 : ∀ (z : sn_S) (f : Nat → Int32), yo_T w σ z f → yp (BX8_lossOf_35 z (nI a) (nI b) x y) (fun r => r.1 = nI (yo_l w (yo_s w b (decide (y = 1)) f) a (decide (x = 1))) ∧ ∀ q, (q < 38 ∨ 48 < q) → r.2.1 q = σ.1 q) := fun z f h => by
    unfold BX8_lossOf_35 fX8_firstMinutes
    rw [show sn_I z 27 0 = nI (sp_n w 0) from (congrFun (h.1 27 (by omega)) 0).trans hD.1, nI_clamp (show b < 2 ^ 31 by omega)]
    refine yp_ite (fun c => yp_bs rfl (yp_gd (fun _ => yp_lt ?_))) (fun c => ?_)
    · rw [decide_eq_true c]
      exact yc_loss60 hW hD ha (yo_set h)
    · rw [decide_eq_false c]
      exact yc_loss60 hW hD ha h
  unfold fX8_lossOf fX8_firstMinutes
  refine yp_bd _ (yc_trial hW hD (by decide)) (fun z hz => ?_)
  have h0 : yo_T w σ z (fun k => hs_acts w 0 k (sp_n w 9)) := ⟨hz.1, hz.2.1, hz.2.2.1⟩
  rw [show sn_I z 27 0 = nI (sp_n w 0) from (congrFun (hz.1 27 (by omega)) 0).trans hD.1, nI_clamp (show a < 2 ^ 31 by omega)]
  unfold yo_f
  refine yp_ite (fun c => yp_bs rfl (yp_gd (fun _ => yp_lt ?_))) (fun c => ?_)
  · rw [decide_eq_true c]
    have g := k35 _ _ (yo_set (p := a) h0)
    rw [decide_eq_true c] at g
    exact g
  · rw [decide_eq_false c]
    have g := k35 _ _ h0
    rw [decide_eq_false c] at g
    exact g
/-! the reference's -/
def yo_M (w : Nat → Int32) (z : sn_S) (f : Nat → Int32) : Prop := z.1 1 = w ∧ z.1 0 22 = nI (sp_n w 0) - 1 ∧ ym_T z (dy_heldAll (hs_day w) f)
theorem yo_mset {f : Nat → Int32} {p : Nat} (h : yo_M w z f) : yo_M w (sn_pI z 8 p (yo_B w)) (yo_s w p true f) := by
  obtain ⟨h1, h22, t1, t2, t3, t4, t5, t6⟩ := h
  have yr0 : ∀ a, a ≠ 8 → (sn_pI z 8 p (yo_B w)).1 a = z.1 a := fun a ha => pI_ne ha
  refine ⟨(yr0 1 (by decide)).trans h1, (congrFun (yr0 0 (by decide)) 22).trans h22, (congrFun (yr0 1 (by decide)) 5).trans t1, (congrFun (yr0 1 (by decide)) 7).trans t2, (congrFun (yr0 0 (by decide)) 19).trans t3, fun k hk => (congrFun (yr0 7 (by decide)) k).trans (t4 k hk), fun x hx => ?_, fun k hk => ?_⟩
  · have g := t5 x hx
    refine ⟨(congrFun (yr0 1 (by decide)) _).trans g.1, (congrFun (yr0 1 (by decide)) _).trans g.2.1, ?_, (congrFun (yr0 9 (by decide)) x).trans g.2.2.2⟩
    show (sn_pI z 8 p (yo_B w)).1 8 x = (if x = p then yo_B w else f x)
    by_cases e : x = p
    · rw [if_pos e, e]; exact pI_self
    · rw [if_neg e]
      exact (pI_slot e).trans g.2.2.1
  · rw [yr0 1 (by decide)]
    exact t6 k hk
theorem ym_loss41 {f : Nat → Int32} {a b : Nat} {x y t : Int32} (hW : jW w) (ha : a < sp_n w 5) (hb : b < sp_n w 5) (h : yo_M w z f) : yp (BX9_losesBy_41 z (nI a) (nI b) x y t) (fun r => r.1 = nI (if t = 0 then yo_l w f a (decide (x = 1)) else yo_l w f b (decide (y = 1))) ∧ r.2.1 1 = w) := by
  have c0 := (yl_0 hW).2
  have c5 := (yl_5 hW).2
  obtain ⟨h1, h22, hT⟩ := h
  unfold BX9_losesBy_41
  refine yp_bd _ (ym_goAll c0 h22 hT (hs_ok hW)) (fun v hv => ?_)
  obtain ⟨⟨f1, f2⟩, hL⟩ := hv
  have v1 : v.1 1 = w := (f1 1 (by omega)).trans h1
  have k80 : ∀ (n : Nat) (e : Int32), yp (BX9_losesBy_80 v ((3 : Int32) * nI n) e) (fun r => r.1 = nI (3 * n + if decide (e = 1) = true then sp_n w 0 / 4 else 0) ∧ r.2.1 1 = w) := fun n e => by
    unfold BX9_losesBy_80 BX9_losesBy_94 fX9_minutes
    refine yp_ite (fun c => yp_bd (fun t => t = nI (sp_n w 0)) (yp_gd (fun _ => yp_some ((congrFun v1 0).trans (yl_0 hW).1))) (fun t ht => yp_some ⟨?_, v1⟩)) (fun c => yp_some ⟨?_, v1⟩)
    · show (3 : Int32) * nI n + t / 4 = _
      rw [ht, yi_d4 (by omega), yi_3, nI_add, decide_eq_true c, if_pos rfl]
    · show (3 : Int32) * nI n + (0 : Int32) = _
      rw [yi_3, decide_eq_false c, if_neg (by decide), Nat.add_zero, Int32.add_zero]
  have k55 : ∀ (p : Nat) (e : Int32), p < sp_n w 5 → (e = if t = 0 then x else y) → yp (BX9_losesBy_55 v x y t (nI p)) (fun r => r.1 = nI (yo_l w f p (decide (e = 1))) ∧ r.2.1 1 = w) := fun p e hp he => by
    have g := (hL.2 p (by omega)).1
    rw [if_pos (show p < dy_P (dy_heldAll (hs_day w) f) from hp)] at g
    unfold BX9_losesBy_55
    rw [nI_clamp (show p < 2 ^ 31 by omega), show sn_I v 10 p = _ from g]
    refine yp_gd (fun _ => yp_bd _ (yb_mbits _) (fun t2 ht2 => ?_))
    rw [ht2]
    refine yp_ite (fun c => ?_) (fun c => ?_)
    · rw [if_pos c] at he
      rw [he]
      exact k80 _ _
    · rw [if_neg c] at he
      rw [he]
      exact k80 _ _
  refine yp_ite (fun c => ?_) (fun c => ?_)
  · rw [if_pos c]
    exact k55 a x ha (by rw [if_pos c])
  · rw [if_neg c]
    exact k55 b y hb (by rw [if_neg c])
theorem ym_loss {a b : Nat} {x y t : Int32} (hW : jW w) (hu : u.1 1 = w) (ha : a < sp_n w 5) (hb : b < sp_n w 5) : yp (fX9_losesBy u (nI a) (nI b) x y t) (fun r => r.1 = nI (if t = 0 then yo_l w (yo_f w a b (decide (x = 1)) (decide (y = 1))) a (decide (x = 1)) else yo_l w (yo_f w a b (decide (x = 1)) (decide (y = 1))) b (decide (y = 1))) ∧ r.2.1 1 = w) := by
  have c5 := (yl_5 hW).2
  have k27 : ∀ (z : sn_S) (f : Nat → Int32), yo_M w z f → yp (BX9_losesBy_27 z (nI a) (nI b) x y t (yo_B w)) (fun r => r.1 = nI (if t = 0 then yo_l w (yo_s w b (decide (y = 1)) f) a (decide (x = 1)) else yo_l w (yo_s w b (decide (y = 1)) f) b (decide (y = 1))) ∧ r.2.1 1 = w) := fun z f h => by
    unfold BX9_losesBy_27
    rw [nI_clamp (show b < 2 ^ 31 by omega)]
    refine yp_ite (fun c => yp_gd (fun _ => yp_lt ?_)) (fun c => ?_)
    · have g := ym_loss41 (x := x) (y := y) (t := t) hW ha hb (yo_mset (p := b) h)
      rw [decide_eq_true c] at g ⊢
      exact g
    · have g := ym_loss41 (x := x) (y := y) (t := t) hW ha hb h
      rw [decide_eq_false c] at g ⊢
      exact g
  unfold fX9_losesBy fX9_minutes
  refine yp_bd _ (ym_asItIs hu hW) (fun z hz => ?_)
  have z1 : z.1 1 = w := (hz.1.1 1 (by decide) (by decide) (by decide) (by decide)).trans hu
  have h0 : yo_M w z (fun k => hs_acts w 0 k (sp_n w 9)) := ⟨z1, hz.2.2.2.2.2.1, ya_day hu hW hz⟩
  refine yp_bd (fun t => t = nI (sp_n w 0)) (yp_gd (fun _ => yp_some ((congrFun z1 0).trans (yl_0 hW).1))) (fun t3 ht3 => yp_lt ?_)
  rw [ht3, show ((1 : Int32) <<< (nI (sp_n w 0) &&& 31)) - (1 : Int32) = yo_B w from rfl, nI_clamp (show a < 2 ^ 31 by omega)]
  unfold yo_f
  refine yp_ite (fun c => yp_gd (fun _ => yp_lt ?_)) (fun c => ?_)
  · have g := k27 _ _ (yo_mset (p := a) h0)
    rw [decide_eq_true c] at g ⊢
    exact g
  · have g := k27 _ _ h0
    rw [decide_eq_false c] at g ⊢
    exact g
theorem ym_two {a b : Int32} (hW : jW w) (hu : u.1 1 = w) : fX9_areTwo u a b = some (if (0 ≤ a ∧ a < w 5) ∧ (0 ≤ b ∧ b < w 5) ∧ a ≠ b then 1 else 0) := by
  have b5 := yl_5 hW
  have e5 : u.1 1 5 = w 5 := congrFun hu 5
  have i5 : 0 ≤ u.1 1 5 := by rw [e5, b5.1]; exact nI_pos' (by omega)
  unfold fX9_areTwo
  rw [m_isPerson i5, m_isPerson i5, e5]
  by_cases c1 : 0 ≤ a ∧ a < w 5
  · by_cases c2 : 0 ≤ b ∧ b < w 5
    · by_cases c3 : a = b
      · rw [if_pos c1, if_pos c2, if_pos c3, if_neg (show ¬ ((0 ≤ a ∧ a < w 5) ∧ (0 ≤ b ∧ b < w 5) ∧ a ≠ b) from fun h => h.2.2 c3)]; rfl
      · rw [if_pos c1, if_pos c2, if_neg c3, if_pos (show ((0 ≤ a ∧ a < w 5) ∧ (0 ≤ b ∧ b < w 5) ∧ a ≠ b) from ⟨c1, c2, c3⟩)]; rfl
    · rw [if_pos c1, if_neg c2, if_neg (show ¬ ((0 ≤ a ∧ a < w 5) ∧ (0 ≤ b ∧ b < w 5) ∧ a ≠ b) from fun h => c2 h.2.1)]; rfl
  · rw [if_neg c1, if_neg (show ¬ ((0 ≤ a ∧ a < w 5) ∧ (0 ≤ b ∧ b < w 5) ∧ a ≠ b) from fun h => c1 h.1)]; rfl
theorem yz_53 {a b x y : Int32} (hK : zK σ τ) : yr (fX8_loses σ a b x y) (fX9_loses τ a b x y) (fun r s => r.1 = s.1) := by
  obtain ⟨-, ⟨p1, p2, p3⟩, -⟩ := yK_n hK
  have hW := hK.2.1.1
  have one : ∀ v : Int32, (¬ v < 0 ∧ v ≤ 1) ↔ ((0 : Int32) ≤ v ∧ v ≤ 1) := fun v => by rw [Int32.not_lt]
  unfold fX8_loses fX9_loses
  rw [c_isPerson, c_isPerson, p1, ym_two hW rfl, show fX9_in x.toInt64 (0 : Int64) (1 : Int64) = _ from in_eq32 x 0 1, show fX9_in y.toInt64 (0 : Int64) (1 : Int64) = _ from in_eq32 y 0 1]
  by_cases c1 : 0 ≤ a ∧ a < τ.1 1 5
  · by_cases c2 : 0 ≤ b ∧ b < τ.1 1 5
    · by_cases c3 : a = b
      · rw [if_pos c1, if_pos c2, if_pos c3, if_neg (show ¬ ((0 ≤ a ∧ a < τ.1 1 5) ∧ (0 ≤ b ∧ b < τ.1 1 5) ∧ a ≠ b) from fun h => h.2.2 c3)]
        exact yr_eq2 (-2 : Int32) (yp_some rfl) (yp_some rfl)
      · rw [if_pos c1, if_pos c2, if_neg c3, if_pos (show ((0 ≤ a ∧ a < τ.1 1 5) ∧ (0 ≤ b ∧ b < τ.1 1 5) ∧ a ≠ b) from ⟨c1, c2, c3⟩)]
        by_cases c4 : (0 : Int32) ≤ x ∧ x ≤ 1
        · by_cases c5 : (0 : Int32) ≤ y ∧ y ≤ 1
          · rw [if_pos c4, if_pos c5, if_neg (Int32.not_lt.mpr c4.1), if_neg (Int32.not_lt.mpr c4.2), if_neg (Int32.not_lt.mpr c5.1), if_pos c5.2]
            obtain ⟨p, hp, ep⟩ := yK_p (by omega) p2 c1
            obtain ⟨q, hq, eq⟩ := yK_p (by omega) p2 c2
            subst ep
            subst eq
            refine yr_eq2 (nI (yo_l (τ.1 1) (yo_f (τ.1 1) p q (decide (x = 1)) (decide (y = 1))) p (decide (x = 1)))) ?_ ?_
            · exact yp_bs rfl (yp_ite (fun h => absurd (show (1 : Int32) = 0 from h) (by decide)) (fun _ => yp_bs rfl (yp_ite (fun h => absurd (show (1 : Int32) = 0 from h) (by decide)) (fun _ => yp_bd _ (yc_loss hW hK.2.2.2 hp hq) (fun t ht => yp_some ht.1)))))
            · refine yp_bs rfl (yp_ite (fun h => absurd (show (1 : Int32) = 0 from h) (by decide)) (fun _ => yp_bs rfl (yp_ite (fun h => absurd (show (1 : Int32) = 0 from h) (by decide)) (fun _ => yp_bs rfl (yp_ite (fun h => absurd (show (1 : Int32) = 0 from h) (by decide)) (fun _ => yp_bd _ (ym_loss (t := 0) hW rfl hp hq) (fun t ht => yp_some ?_)))))))
              have g := ht.1
              rw [if_pos rfl] at g
              exact g
          · rw [if_pos c4, if_neg c5, if_neg (Int32.not_lt.mpr c4.1), if_neg (Int32.not_lt.mpr c4.2)]
            refine yr_eq2 (-2 : Int32) ?_ (yp_some rfl)
            refine yp_bs rfl (yp_ite (fun h => absurd (show (1 : Int32) = 0 from h) (by decide)) (fun _ => yp_bs rfl (yp_ite (fun h => absurd (show (1 : Int32) = 0 from h) (by decide)) (fun _ => yp_ite (fun _ => yp_some rfl) (fun d1 => yp_ite (fun d2 => ?_) (fun _ => yp_some rfl))))))
            exact absurd ⟨Int32.not_lt.mp d1, d2⟩ c5
        · rw [if_neg c4]
          refine yr_eq2 (-2 : Int32) ?_ (yp_some rfl)
          refine yp_bs rfl (yp_ite (fun h => absurd (show (1 : Int32) = 0 from h) (by decide)) (fun _ => yp_bs rfl (yp_ite (fun h => absurd (show (1 : Int32) = 0 from h) (by decide)) (fun _ => yp_ite (fun _ => yp_some rfl) (fun d1 => yp_ite (fun _ => yp_some rfl) (fun d2 => ?_))))))
          exact absurd ⟨Int32.not_lt.mp d1, Int32.not_lt.mp d2⟩ c4
    · rw [if_pos c1, if_neg c2, if_neg (show ¬ ((0 ≤ a ∧ a < τ.1 1 5) ∧ (0 ≤ b ∧ b < τ.1 1 5) ∧ a ≠ b) from fun h => c2 h.2.1)]
      exact yr_eq2 (-2 : Int32) (yp_some rfl) (yp_some rfl)
  · rw [if_neg c1, if_neg (show ¬ ((0 ≤ a ∧ a < τ.1 1 5) ∧ (0 ≤ b ∧ b < τ.1 1 5) ∧ a ≠ b) from fun h => c1 h.1)]
    exact yr_eq2 (-2 : Int32) (yp_some rfl) (yp_some rfl)
end
