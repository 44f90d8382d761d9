/-! house: both answer alike, and tell the same house -/
section
variable {α β γ δ : Type} {P : α → β → Prop}
end
theorem rr_lt {α β : Type} {e : α} {f : α → Option β} : sn_lt e f = f e := rfl
theorem rr_bs {α β : Type} {a : α} {f : α → Option β} : (some a).bind f = f a := rfl
theorem rm_clear (τ : sn_S) : sn_it LX9_house_30 5000 (τ, (0 : Int32)) = some ((fun a b => if a = 6 ∧ b < 119 then 0 else τ.1 a b), τ.2) := by
  obtain ⟨t, e1, e2⟩ := sn_for (f := LX9_house_30) 119 (fun k s => s = (((fun a b => if a = 6 ∧ b < k then 0 else τ.1 a b), τ.2), nI k)) (fun t => t = ((fun a b => if a = 6 ∧ b < 119 then 0 else τ.1 a b), τ.2))
    (fun k s hk hs => by
      subst hs
      refine ⟨_, ?_, rfl⟩
      unfold LX9_house_30 BX9_house_30
      rw [if_neg (show ¬ (119 : Int32) ≤ nI k from nI_ge (b := 119) hk (by decide))]
      show sn_gd (sn_in (nI k) 119) (some (Sum.inl (sn_pI _ 6 (nI k).toNatClampNeg 0, nI k + 1))) = _
      rw [sn_in_nI hk (by omega), gd_T, nI_clamp (by omega), nI_1]
      refine congrArg (fun z => some (Sum.inl ((z, τ.2), nI (k + 1)))) ?_
      funext a b
      show (if a = 6 ∧ b = k then 0 else if a = 6 ∧ b < k then 0 else τ.1 a b) = _
      by_cases ha : a = 6
      · by_cases hb : b = k
        · rw [if_pos ⟨ha, hb⟩, if_pos ⟨ha, by omega⟩]
        · rw [if_neg (fun h => hb h.2)]
          by_cases hb2 : b < k
          · rw [if_pos ⟨ha, hb2⟩, if_pos ⟨ha, by omega⟩]
          · rw [if_neg (fun h => hb2 h.2), if_neg (fun h => hb2 (by have := h.2; omega))]
      · rw [if_neg (fun h => ha h.1), if_neg (fun h => ha h.1), if_neg (fun h => ha h.1)])
    (fun s hs => by
      subst hs
      refine ⟨_, ?_, rfl⟩
      unfold LX9_house_30 BX9_house_30
      rw [if_pos (show (119 : Int32) ≤ nI 119 from Int32.le_refl _)])
    (n := 5000) (by decide) (s := (τ, (0 : Int32))) (by
      show (τ, (0 : Int32)) = _
      rw [nI_0]
      simp)
  rw [e1, e2]
/-- a house of the program (from row h on) and one of the reference (a row w): the places in use are the same -/
def rr_H (h : Nat) (σ : sn_S) (w : Nat → Int32) : Prop := (∀ k, k < 11 → σ.1 (h + 1) k = w k) ∧ (∀ i : Nat, (i : Int) < 2 * (σ.1 (h + 1) 5).toInt → σ.1 (h + 2) i = w (11 + i)) ∧ (∀ i : Nat, (i : Int) < 2 * (σ.1 (h + 1) 6).toInt → σ.1 (h + 3) i = w (23 + i)) ∧ (∀ i : Nat, (i : Int) < 2 * (σ.1 (h + 1) 7).toInt → σ.1 (h + 4) i = w (33 + i)) ∧ (∀ i : Nat, (i : Int) < 5 * (σ.1 (h + 1) 8).toInt → σ.1 (h + 5) i = w (49 + i)) ∧ ∀ i : Nat, (i : Int) < (σ.1 (h + 1) 9).toInt → w (79 + i) = ((200 : Int32) * σ.1 (h + 6) (3 * i + 1) + (2 : Int32) * σ.1 (h + 6) (3 * i + 2)) + σ.1 (h + 6) (3 * i)
theorem rr_read {σ τ : sn_S} {n : Nat} (hC : zs_SB zs_tC σ) (hM : zs_SB zs_tM τ) (t1 : σ.1 17 1 = nI n) (t7 : τ.1 0 7 = nI n) (t8 : τ.1 0 8 = 0) (t12 : τ.1 0 12 = 0) (t13 : τ.1 0 13 = -1) (h9 : n ≤ 900) (hB : ∀ k, k < n → rc_B σ k = rm_B τ k ∧ -128 ≤ (τ.1 4 k).toInt ∧ (τ.1 4 k).toInt ≤ 127) : rr_ok (fX5_read σ 8) ((sn_it LX9_house_30 5000 (τ, (0 : Int32))).bind fun t_11 => (fX9_advance t_11).bind fun t_1 => sn_it LX9_house_53 5000 t_1) (fun z w => rr_X τ z w n) := by
  obtain ⟨s5, es5, hs5⟩ : ∃ s5 : sn_S, s5 = sn_pI (sn_pI (sn_pI ((fun a b => if a = 8 + 1 ∧ b < 11 then 0 else (sn_pR σ 17 7 (some 8)).1 a b), (sn_pR σ 17 7 (some 8)).2) 17 2 0) 17 3 (-1)) 17 5 0 ∧ fX5_read σ 8 = (fX5_step s5).bind fun t_12 => (sn_it (LX5_read_33 8) 5000 (t_12, (0 : Int32))).bind fun t_14 => BX5_read_88 t_14 8 := by
    refine ⟨_, rfl, ?_⟩
    have e1 : (sn_R (sn_pR σ 17 7 (some 8)) 17 7 == some 8) = true := by
      have : sn_R (sn_pR σ 17 7 (some 8)) 17 7 = some 8 := (sn_R_pR).trans (if_pos ⟨rfl, rfl⟩)
      rw [this]
      rfl
    unfold fX5_read fX2_clear
    show sn_gd (sn_R (sn_pR σ 17 7 (some 8)) 17 7 == some 8) (((fJ7_fill_53178 (sn_pR σ 17 7 (some 8)) (8 + 1) 11 (0 : Int32)).bind fun t_1 => some t_1).bind _) = _
    rw [e1, gd_T, fillI _ _ _ _ (by decide)]
    rfl
  have f9 : ∀ k, k < 11 → s5.1 9 k = 0 := fun k hk => by
    rw [es5, pI_ne (by decide), pI_ne (by decide), pI_ne (by decide)]
    exact if_pos ⟨rfl, hk⟩
  have f18 : s5.1 18 = σ.1 18 := by
    rw [es5, pI_ne (by decide), pI_ne (by decide), pI_ne (by decide)]
    funext k
    show (if 18 = 8 + 1 ∧ k < 11 then (0 : Int32) else σ.1 18 k) = σ.1 18 k
    exact if_neg (fun e => absurd e.1 (by decide))
  have f1 : s5.1 17 1 = nI n := by
    rw [es5, pI_slot (by decide), pI_slot (by decide), pI_slot (by decide)]
    show (if 17 = 8 + 1 ∧ 1 < 11 then (0 : Int32) else σ.1 17 1) = nI n
    rw [if_neg (fun e => absurd e.1 (by decide))]
    exact t1
  have f2 : s5.1 17 2 = 0 := by
    rw [es5, pI_slot (by decide), pI_slot (by decide), pI_self]
  have f3 : s5.1 17 3 = -1 := by
    rw [es5, pI_slot (by decide), pI_self]
  have f5 : s5.1 17 5 = nI 0 := by
    rw [es5, pI_self]
    rfl
  have fR : sn_R s5 17 7 = some 8 := by
    rw [es5]
    show sn_R (sn_pR σ 17 7 (some 8)) 17 7 = some 8
    exact (sn_R_pR).trans (if_pos ⟨rfl, rfl⟩)
  rw [hs5, rm_clear]
  obtain ⟨w, ew⟩ : ∃ w : sn_S, w = ((fun a b => if a = 6 ∧ b < 119 then 0 else τ.1 a b), τ.2) := ⟨_, rfl⟩
  have w6 : ∀ k, k < 119 → w.1 6 k = 0 := fun k hk => by
    rw [ew]
    exact if_pos ⟨rfl, hk⟩
  have wo : ∀ q, q ≠ 6 → w.1 q = τ.1 q := fun q hq => by
    rw [ew]
    funext k
    exact if_neg (fun e => hq e.1)
  have hGw : zm_G τ w := by
    obtain ⟨t, e1, e2⟩ := zm_clear (zs_rf hM)
    rw [rm_clear] at e1
    cases e1
    rw [ew]
    exact e2.1
  rw [← ew]
  show rr_ok _ ((fX9_advance w).bind fun t_1 => sn_it LX9_house_53 5000 t_1) _
  have hBw : ∀ k, k < n → rc_B s5 k = rm_B w k ∧ -128 ≤ (w.1 4 k).toInt ∧ (w.1 4 k).toInt ≤ 127 := fun k hk => by
    unfold rc_B rm_B
    rw [f18, wo 4 (by decide)]
    exact hB k hk
  have tp : rr_tp s5 w n := ⟨f1, by rw [wo 0 (by decide)]; exact t7, h9, hBw⟩
  have hk : rd_k (rc_B s5) n = rd_k (rm_B w) n := rd_kB (fun k hk => (hBw k hk).1)
  have w7 : w.1 0 7 = nI n := tp.2.1
  have w8 : w.1 0 8 = nI 0 := by rw [wo 0 (by decide), t8]; rfl
  have p5 : 0 ≤ (s5.1 17 5).toInt ∧ (s5.1 17 5).toInt ≤ (s5.1 17 1).toInt ∧ (s5.1 17 1).toInt ≤ 900 := by
    rw [f5, f1, nI_toInt (by decide), nI_toInt (by omega)]
    exact ⟨by omega, by omega, by omega⟩
  refine rr_bd (rr_2 (zs_both (rc_step f1 h9 f5 (Nat.zero_le _)) (zk_step p5.1 p5.2.1 p5.2.2)) (zs_both (rm_adv w7 h9 w8 (Nat.zero_le _)) (zm_adv hGw (by rw [w8, w7, nI_toInt (by decide), nI_toInt (by omega)]; omega))) (P := fun s t => rr_N (nI 0) s t n ∧ s.1 9 10 = nI 0 ∧ zm_G τ t ∧ zm_pos t) (fun s t hs ht => ?_)) (fun s t q => ?_)
  · obtain ⟨⟨hf, a1, e1, c1, c2, c3⟩, hzf, hz2, hzp⟩ := hs
    obtain ⟨⟨hm, a2, e2, d1, d2, d3⟩, hv⟩ := ht
    have ea : a1 = a2 := rd_S1 (rd_SB hk c2) d2
    subst ea
    have ee : e1 = e2 := rd_E1 (rd_EB hk c3) d3
    subst ee
    have m12 := hm.2.1 12 (by decide) (by decide) (by decide) (by decide)
    have m13 := hm.2.1 13 (by decide) (by decide) (by decide) (by decide)
    have m7 := hm.2.1 7 (by decide) (by decide) (by decide) (by decide)
    have eB : rm_B t = rm_B w := rm_B_f hm
    have s9 : s.1 9 = s5.1 9 := hf.1.1 9 (by decide)
    have z0 : (0 : Int32).toInt = 0 := by decide
    refine ⟨⟨⟨rr_tpF tp hf.1 hm.1 m7, hzp, rr_R hf.1 fR, ?_, ?_, fun _ => ⟨a1, e1, c1, d1, ?_, ?_, by rw [eB]; exact d2.2.2.2, by rw [eB]; exact d3⟩⟩, ?_, fun _ => ?_⟩, ?_, hv.1, hv.2.1⟩
    · rw [m12, hf.2.1, f2, wo 0 (by decide)]
      exact t12
    · rw [m13, hf.2.2, f3, wo 0 (by decide)]
      exact t13
    · rcases d3 with x | x
      · omega
      · omega
    · have := d2.2.1
      rcases d3 with x | x
      · omega
      · omega
    · rw [hm.1 6 (by decide), w6 10 (by decide)]
      rfl
    · unfold rr_c
      rw [s9, hm.1 6 (by decide), f9 5 (by decide), f9 6 (by decide), f9 7 (by decide), f9 8 (by decide), f9 9 (by decide), z0]
      exact ⟨⟨⟨by decide, by decide⟩, ⟨by decide, by decide⟩, ⟨by decide, by decide⟩, ⟨by decide, by decide⟩, rfl⟩, fun k hk => by rw [f9 k (by omega), w6 k (by omega)], fun i hi => absurd hi (by omega), fun i hi => absurd hi (by omega), fun i hi => absurd hi (by omega), fun i hi => absurd hi (by omega)⟩
    · rw [s9, f9 10 (by decide)]
      rfl
  · refine rr_w (rr_bl (f := fun t_14 => BX5_read_88 t_14 8) (y := sn_it LX9_house_53 5000 t) (Q := fun z => sn_it (LX5_read_33 8) 5000 (s, (0 : Int32)) = some z) ?_ (fun z hz => ?_)) (fun _ _ x => x)
    · obtain ⟨a, b, e1, _, _⟩ := rr_rows q.1 q.2.1 q.2.2.1 q.2.2.2
      exact ⟨a, e1, e1⟩
    · obtain ⟨a, b, e1, e2, x⟩ := rr_rows q.1 q.2.1 q.2.2.1 q.2.2.2
      rw [e1] at hz
      cases hz
      unfold BX5_read_88
      rw [e2]
      exact rr_some x
theorem rr_noses {s z : sn_S} (ez : fX2_copyFrom s 1 8 = some z) (k : Nat) (hk : k < 12) : z.1 3 k = s.1 10 k := by
  have key : zs_ok (fX2_copyFrom s 1 8) (fun z => z.1 3 k = s.1 10 k) := by
    unfold fX2_copyFrom
    refine zs_gd (by decide) (zs_lt (Q := fun z => z.1 10 = s.1 10) (zh_cp_ne (a := 2) (by decide)) (fun z1 m1 => ?_))
    refine zs_gd (by decide) (zs_lt (Q := fun z => z.1 3 k = s.1 10 k) ?_ (fun z2 m2 => ?_))
    · show (zh_cp z1 3 10 12).1 3 k = _
      rw [zh_cp_eq (by decide), if_pos hk, m1]
    refine zs_gd (by decide) (zs_lt (Q := fun z => z.1 3 k = s.1 10 k) ((congrFun (zh_cp_ne (z := z2) (a := 4) (b := 11) (L := 10) (by decide)) k).trans m2) (fun z3 m3 => ?_))
    refine zs_gd (by decide) (zs_lt (Q := fun z => z.1 3 k = s.1 10 k) ((congrFun (zh_cp_ne (z := z3) (a := 5) (b := 12) (L := 16) (by decide)) k).trans m3) (fun z4 m4 => ?_))
    refine zs_gd (by decide) (zs_lt (Q := fun z => z.1 3 k = s.1 10 k) ((congrFun (zh_cp_ne (z := z4) (a := 6) (b := 13) (L := 30) (by decide)) k).trans m4) (fun z5 m5 => ?_))
    exact zs_gd (by decide) (zs_lt (Q := fun z => z.1 3 k = s.1 10 k) ((congrFun (zh_cp_ne (z := z5) (a := 7) (b := 14) (L := 120) (by decide)) k).trans m5) (fun z6 m6 => zs_some m6))
  obtain ⟨z', e, h⟩ := key
  rw [ez] at e
  cases e
  exact h
theorem rm_world (w : sn_S) : ∃ v, sn_it LX9_house_86 5000 (w, (0 : Int32)) = some v ∧ (∀ k, k < 119 → v.1 1 k = w.1 6 k) ∧ ∀ q, q ≠ 1 → v.1 q = w.1 q := by
  obtain ⟨t, e1, e2⟩ := sn_for (f := LX9_house_86) 119 (fun k s => s.2 = nI k ∧ (∀ j, j < k → s.1.1 1 j = w.1 6 j) ∧ ∀ q, q ≠ 1 → s.1.1 q = w.1 q) (fun t => (∀ k, k < 119 → t.1 1 k = w.1 6 k) ∧ ∀ q, q ≠ 1 → t.1 q = w.1 q)
    (fun k s hk hs => by
      obtain ⟨s1, s2⟩ := s
      obtain ⟨h2, h3, h4⟩ := hs
      have h2 : s2 = nI k := h2
      subst h2
      refine ⟨(sn_pI s1 1 k (s1.1 6 k), nI (k + 1)), ?_, rfl, fun j hj => ?_, fun q hq => ?_⟩
      · unfold LX9_house_86 BX9_house_86
        show (if (119 : Int32) ≤ nI k then _ else _) = _
        rw [if_neg (show ¬ (119 : Int32) ≤ nI k from nI_ge (b := 119) hk (by decide))]
        show sn_gd (sn_in (nI k) 119) (sn_gd (sn_in (nI k) 119) (some (Sum.inl (sn_pI s1 1 (nI k).toNatClampNeg (s1.1 6 (nI k).toNatClampNeg), nI k + 1)))) = _
        rw [sn_in_nI hk (by omega), gd_T, gd_T, nI_clamp (by omega), nI_1]
      · show (sn_pI s1 1 k (s1.1 6 k)).1 1 j = _
        by_cases e : j = k
        · subst e
          rw [pI_self, h4 6 (by decide)]
        · rw [pI_slot e]
          exact h3 j (by omega)
      · show (sn_pI s1 1 k (s1.1 6 k)).1 q = _
        rw [pI_ne hq]
        exact h4 q hq)
    (fun s hs => by
      obtain ⟨s1, s2⟩ := s
      obtain ⟨h2, h3, h4⟩ := hs
      have h2 : s2 = nI 119 := h2
      subst h2
      refine ⟨s1, ?_, h3, h4⟩
      unfold LX9_house_86 BX9_house_86
      exact if_pos (show (119 : Int32) ≤ nI 119 from Int32.le_refl _))
    (n := 5000) (by decide) (s := (w, (0 : Int32))) ⟨nI_0.symm, fun j hj => absurd hj (by omega), fun _ _ => rfl⟩
  exact ⟨t, e1, e2⟩
theorem rr_house {σ τ : sn_S} {n : Nat} (hC : zs_SB zs_tC σ) (hM : zs_SB zs_tM τ) (t1 : σ.1 17 1 = nI n) (t5 : τ.1 0 5 = nI n) (h9 : n ≤ 900) (hB : ∀ k, k < n → rc_B σ k = rm_B τ k ∧ -128 ≤ (τ.1 4 k).toInt ∧ (τ.1 4 k).toInt ≤ 127) : ∃ r z w, fX8_house σ = some (r, z) ∧ fX9_house τ = some (r, w) ∧ z.1 17 2 = w.1 0 12 ∧ z.1 17 3 = w.1 0 13 ∧ (z.1 17 2 = 0 → rr_H 1 z (w.1 1)) ∧ (z.1 17 2 ≠ 0 → (∀ q, 2 ≤ q → q ≤ 7 → z.1 q = σ.1 q) ∧ w.1 1 = τ.1 1) := by
  have z0 : (0 : Int32).toInt = 0 := by decide
  obtain ⟨τ0, eτ, fM, o0, k7, k5, k8, k12, k13⟩ : ∃ τ0 : sn_S, fX9_house τ = ((sn_it LX9_house_30 5000 (τ0, (0 : Int32))).bind fun t_11 => BX9_house_49 t_11) ∧ zs_SB zs_tM τ0 ∧ (∀ q, q ≠ 0 → τ0.1 q = τ.1 q) ∧ τ0.1 0 7 = nI n ∧ τ0.1 0 5 = 0 ∧ τ0.1 0 8 = 0 ∧ τ0.1 0 12 = 0 ∧ τ0.1 0 13 = -1 := by
    have b5 := hM.1 0 5
    rw [show zs_tM 0 5 = (0, 900) from rfl] at b5
    refine ⟨sn_pI (sn_pI (sn_pI (sn_pI (sn_pI τ 0 7 (sn_I τ 0 5)) 0 5 0) 0 8 0) 0 12 0) 0 13 (-1), ?_, ?_, fun q hq => by rw [pI_ne hq, pI_ne hq, pI_ne hq, pI_ne hq, pI_ne hq], ?_, ?_, ?_, ?_, ?_⟩
    · unfold fX9_house
      rw [rr_lt, rr_lt, rr_lt, rr_lt, rr_lt]
    · exact zs_sbw (zs_sbw (zs_sbw (zs_sbw (zs_sbw hM b5) (by rw [z0, show zs_tM 0 5 = (0, 900) from rfl]; decide)) (by rw [z0, show zs_tM 0 8 = (0, 900) from rfl]; decide)) (by rw [z0, show zs_tM 0 12 = (0, 3) from rfl]; decide)) (by rw [show zs_tM 0 13 = (-2147483648, 2147483647) from rfl]; exact zs_topI _)
    · rw [pI_slot (by decide), pI_slot (by decide), pI_slot (by decide), pI_slot (by decide), pI_self]
      exact t5
    · rw [pI_slot (by decide), pI_slot (by decide), pI_slot (by decide), pI_self]
    · rw [pI_slot (by decide), pI_slot (by decide), pI_self]
    · rw [pI_slot (by decide), pI_self]
    · rw [pI_self]
  have hR := rr_read (τ := τ0) hC fM t1 k7 k8 k12 k13 h9 (fun k hk => by
    unfold rm_B
    rw [o0 4 (by decide)]
    exact hB k hk)
  obtain ⟨t, w, e1, e2, k, hk, hN, h10, hG⟩ := hR
  obtain ⟨t', e1', hI⟩ := zk_read hC
  rw [e1] at e1'
  cases e1'
  have e3 : fX9_house τ = BX9_house_74 w := by
    rw [eτ]
    rw [rm_clear] at e2 ⊢
    rw [rr_bs] at e2 ⊢
    unfold BX9_house_49
    obtain ⟨a, ea, _⟩ : ∃ a, fX9_advance ((fun a b => if a = 6 ∧ b < 119 then 0 else τ0.1 a b), τ0.2) = some a ∧ True := by
      cases x : fX9_advance ((fun a b => if a = 6 ∧ b < 119 then 0 else τ0.1 a b), τ0.2) with
      | none =>
        exfalso
        have e2' : ((fX9_advance ((fun a b => if a = 6 ∧ b < 119 then 0 else τ0.1 a b), τ0.2)).bind fun t_1 => sn_it LX9_house_53 5000 t_1) = some w := e2
        rw [x] at e2'
        cases e2'
      | some a => exact ⟨a, rfl, trivial⟩
    have e2' : ((fX9_advance ((fun a b => if a = 6 ∧ b < 119 then 0 else τ0.1 a b), τ0.2)).bind fun t_1 => sn_it LX9_house_53 5000 t_1) = some w := e2
    rw [ea] at e2' ⊢
    have e2'' : sn_it LX9_house_53 5000 a = some w := e2'
    rw [rr_bs, e2'', rr_bs]
  have w5 : w.1 0 5 = 0 := (hG.2.1 0 5 rfl).trans k5
  have h12 := hN.1.2.2.2.1
  have h13 := hN.1.2.2.2.2.1
  have tk : ∀ q, 2 ≤ q → q ≤ 7 → t.1 q = σ.1 q := fun q h2 h7 => funext fun j => hI.1.2.1 q j (by
    have : q = 2 ∨ q = 3 ∨ q = 4 ∨ q = 5 ∨ q = 6 ∨ q = 7 := by omega
    rcases this with e | e | e | e | e | e <;> subst e <;> rfl)
  have w1 : w.1 1 = τ.1 1 := (funext fun j => hG.2.1 1 j rfl).trans (o0 1 (by decide))
  by_cases hg : t.1 17 2 = 0
  · have hgm : w.1 0 12 = 0 := h12.trans hg
    have d := hI.2.2.2 hg
    have hc := hN.2.2 hg
    obtain ⟨s, es⟩ : ∃ s : sn_S, s = sn_pI t 17 1 0 := ⟨_, rfl⟩
    have so : ∀ q, q ≠ 17 → s.1 q = t.1 q := fun q hq => by rw [es, pI_ne hq]
    have sSB : zs_SB zs_tC s := by
      rw [es]
      exact zs_sbw hI.1.1 (by rw [show zs_tC 17 1 = (0, 900) from rfl]; decide)
    have dH : zs_H 8 s := zs_H_c (by rw [so _ (by decide)]) (by rw [so _ (by decide)]) (by rw [so _ (by decide)]) (fun k => by rw [so _ (by decide)]) (fun k => by rw [so _ (by decide)]) (fun j => by rw [so _ (by decide)]) d.2
    obtain ⟨z, ez, hm, c1, c3, c4, c5⟩ := zh_hcp s 1 8 (by decide)
    have zSB : zs_SB zs_tC z := zh_hSB (Or.inl rfl) sSB (fun k hk => by rw [so _ (by decide)]; exact d.1 k hk) (fun k => by
      have := sSB.1 14 k
      rw [show zs_tC 14 k = (0, 29) from rfl] at this
      exact this) dH hm c1 c3 c4 c5
    obtain ⟨u, eu, hu⟩ := zP_54 (zs_rf (key := zs_kB) (kl := zs_lC) zSB)
    have uk : ∀ q, 2 ≤ q → q ≤ 7 → u.1 q = z.1 q := fun q h2 h7 => funext fun j => hu.2.1 q j (by
      have : q = 2 ∨ q = 3 ∨ q = 4 ∨ q = 5 ∨ q = 6 ∨ q = 7 := by omega
      rcases this with e | e | e | e | e | e <;> subst e <;> rfl)
    have u2 : ∀ k, k < 11 → u.1 2 k = t.1 9 k := fun k hk => by
      rw [uk 2 (by decide) (by decide)]
      have := c1 k
      rw [if_pos hk, so 9 (by decide)] at this
      exact this
    have noses : ∀ k, k < 12 → u.1 3 k = t.1 10 k := fun k hk => by
      rw [uk 3 (by decide) (by decide)]
      exact (rr_noses ez k hk).trans (by rw [so 10 (by decide)])
    have e4 : fX8_house σ = some (u.1 2 10, u) := by
      unfold fX8_house
      rw [e1, rr_bs, rr_lt, ← es, if_pos (show sn_I s 17 2 = 0 by show s.1 17 2 = 0; rw [es, pI_slot (by decide)]; exact hg), ez, rr_bs, eu, rr_bs]
      rfl
    obtain ⟨v, ev, hv1, hv2⟩ := rm_world w
    have e5 : fX9_house τ = some (v.1 1 10, v) := by
      rw [e3]
      unfold BX9_house_74
      rw [rm_good, if_pos hgm, bd_t1, ev]
      rfl
    have v1 : ∀ k, k < 119 → v.1 1 k = w.1 6 k := hv1
    have l10 : u.1 2 10 = v.1 1 10 := by rw [u2 10 (by decide), v1 10 (by decide), h10, hN.2.1]
    have u17 : ∀ k, k = 2 ∨ k = 3 → u.1 17 k = t.1 17 k := fun k hk => by
      have a1 : u.1 17 k = z.1 17 k := hu.2.1 17 k (by rcases hk with e | e <;> subst e <;> rfl)
      rw [a1, hm.2.1 17 (by omega), es, pI_slot (by omega)]
    have v0 : v.1 0 = w.1 0 := hv2 0 (by decide)
    refine ⟨_, u, v, e4, ?_, ?_, ?_, fun _ => ?_, fun x => absurd ((u17 2 (Or.inl rfl)).trans hg) x⟩
    · rw [e5, l10]
    · rw [u17 2 (Or.inl rfl), v0]
      exact h12.symm
    · rw [u17 3 (Or.inr rfl), v0]
      exact h13.symm
    · obtain ⟨⟨b5, b6, b7, b8, b9⟩, h9', h0, h1, h2, h3⟩ := hc
      have cc : ∀ k, k < 11 → u.1 (1 + 1) k = v.1 1 k := fun k hk => by
        show u.1 2 k = _
        rw [u2 k hk, v1 k (by omega)]
        by_cases x : k = 10
        · subst x
          rw [h10, hN.2.1]
        · exact h9' k (by omega)
      unfold rr_H
      rw [show u.1 (1 + 1) 5 = t.1 9 5 from u2 5 (by decide), show u.1 (1 + 1) 6 = t.1 9 6 from u2 6 (by decide), show u.1 (1 + 1) 7 = t.1 9 7 from u2 7 (by decide), show u.1 (1 + 1) 8 = t.1 9 8 from u2 8 (by decide), show u.1 (1 + 1) 9 = t.1 9 9 from u2 9 (by decide)]
      refine ⟨cc, fun i hi => ?_, fun i hi => ?_, fun i hi => ?_, fun i hi => ?_, fun i hi => ?_⟩
      · show u.1 3 i = _
        rw [noses i (by omega), v1 _ (by omega)]
        exact h0 i hi
      · show u.1 4 i = _
        rw [uk 4 (by decide) (by decide), v1 _ (by omega)]
        exact (c3 i (by omega)).trans ((by rw [so 11 (by decide)] : s.1 (8 + 3) i = t.1 11 i).trans (h1 i hi))
      · show u.1 5 i = _
        rw [uk 5 (by decide) (by decide), v1 _ (by omega)]
        exact (c4 i (by omega)).trans ((by rw [so 12 (by decide)] : s.1 (8 + 4) i = t.1 12 i).trans (h2 i hi))
      · show u.1 6 i = _
        rw [uk 6 (by decide) (by decide), v1 _ (by omega)]
        exact (c5 i (by omega)).trans ((by rw [so 13 (by decide)] : s.1 (8 + 5) i = t.1 13 i).trans (h3 i hi))
      · rw [b9, z0] at hi
        exact absurd hi (by omega)
  · have hb : w.1 0 12 ≠ 0 := by rw [h12]; exact hg
    have e4 : fX8_house σ = some (-4, sn_pI t 17 1 0) := by
      unfold fX8_house
      rw [e1, rr_bs, rr_lt]
      exact if_neg (show ¬ sn_I (sn_pI t 17 1 (0 : Int32)) 17 2 = 0 by show ¬ (sn_pI t 17 1 (0 : Int32)).1 17 2 = 0; rw [pI_slot (by decide)]; exact hg)
    have e5 : fX9_house τ = some (-4, w) := by
      rw [e3]
      unfold BX9_house_74
      rw [rm_good, if_neg hb, bd_t0]
    refine ⟨-4, _, w, e4, e5, ?_, ?_, fun x => ?_, fun _ => ⟨fun q h2 h7 => ?_, w1⟩⟩
    · rw [pI_slot (by decide)]
      exact h12.symm
    · rw [pI_slot (by decide)]
      exact h13.symm
    · rw [pI_slot (by decide)] at x
      exact absurd x hg
    · rw [pI_ne (by omega)]
      exact tk q h2 h7
