/-! all puffs of the first minutes: the class's mean -/
theorem yL_s {z : sn_S} {q k : Nat} {v : Int64} : (sn_pL z q k v).2.1 q k = v := if_pos ⟨rfl, rfl⟩
theorem yL_k {z : sn_S} {q k b : Nat} {v : Int64} (h : b ≠ k) : (sn_pL z q k v).2.1 q b = z.2.1 q b := if_neg (fun g => h g.2)
theorem yL_q {z : sn_S} {a q k b : Nat} {v : Int64} (h : a ≠ q) : (sn_pL z q k v).2.1 a b = z.2.1 a b := if_neg (fun g => h g.1)
section
variable {σ τ u z : sn_S} {w : Nat → Int32} {q n o p : Nat} {l : Int32}
/-- the ledger of any day -/
def yj_LS (L : Nat) (σ z : sn_S) (w : Nat → Int32) (l : Int32) (S H : Nat → Int32) (n : Nat) : Prop := z.2 = σ.2 ∧ (∀ a, a < L ∨ L + 2 < a → z.1 a = σ.1 a) ∧ z.1 L 2 = nI (sp_n w 8) ∧ z.1 L 3 = nI (sp_n w 3 + yn_sum (yl_y w) n) ∧ ∀ q, q < n → z.1 (L + 1) q = nI (yl_v w l q (S (sp_n w (49 + 5 * q))) (H (sp_n w (49 + 5 * q)))) ∧ z.1 (L + 2) q = yl_fst (yl_C w l q (S (sp_n w (49 + 5 * q)))) 30
theorem yc_reckonL {L d : Nat} {S H : Nat → Int32} (hd : d + 10 < L) (hL : 8 < L) (hW : jW w) (hH : yH 1 σ w) (hS : ∀ p, p < sp_n w 5 → σ.1 (d + 10) p = S p ∧ σ.1 (d + 4) p = H p) (hb : ∀ p k, sp_n w 0 ≤ k → k < 32 → sp_bit (S p) k = false) (l : Int32) : yp (fX3_reckon σ L 1 d l) (fun z => yj_LS L σ z w l S H (sp_n w 8)) := by
  have c8 := (yl_8 hW).2
  have c5 := (yl_5 hW).2
  have c0 := (yl_0 hW).2
  obtain ⟨n3, -⟩ : yh_n w 3 999 := hW.1.2.2.2.1
  unfold fX3_reckon
  refine yp_gd (fun _ => yp_lt (yp_gd (fun _ => yp_lt ?_)))
  refine yp_bd (fun z => yj_LS L σ z w l S H (sp_n w 8)) (yp_for (sp_n w 8) (fun n s => s.2 = nI n ∧ yj_LS L σ s.1 w l S H n) (fun n s hn hs => ?_) (fun s hs => ?_) ⟨nI_0.symm, rfl, fun a ha => ?_, ?_, ?_, fun q hq => absurd hq (by omega)⟩) (fun v hv => ?_)
  · obtain ⟨z, x⟩ := s
    obtain ⟨ex, ez, z0, z2, z3, zq⟩ := hs
    have ex : x = nI n := ex
    subst ex
    have ez : z.2 = σ.2 := ez
    have z0 : ∀ a, a < L ∨ L + 2 < a → z.1 a = σ.1 a := z0
    have z2 : z.1 L 2 = nI (sp_n w 8) := z2
    have z3 : z.1 L 3 = nI (sp_n w 3 + yn_sum (yl_y w) n) := z3
    have zq : ∀ q, q < n → z.1 (L + 1) q = nI (yl_v w l q (S (sp_n w (49 + 5 * q))) (H (sp_n w (49 + 5 * q)))) ∧ z.1 (L + 2) q = yl_fst (yl_C w l q (S (sp_n w (49 + 5 * q)))) 30 := zq
    obtain ⟨⟨q1, q2⟩, -, -, -, -, -, ⟨y1, y2⟩⟩ := yl_p hW hn
    have zH : yH 1 z w := yH_c (fun a a1 a2 => z0 a (by omega)) hH
    have zS := hS _ q2
    show yp (BX3_reckon_24 z L 1 d l (nI n)) _
    unfold BX3_reckon_24
    rw [show sn_I z L 2 = _ from z2, if_neg (nI_ge hn (by omega)), nI_clamp (show n < 2 ^ 31 by omega)]
    refine yp_bd _ (yc_of hW zH hn 0 (by decide) nI_0.symm) (fun t2 h2 => ?_)
    rw [h2, show w (49 + 0 + 5 * n) = nI (sp_n w (49 + 5 * n)) from q1, nI_clamp (show sp_n w (49 + 5 * n) < 2 ^ 31 by omega), show sn_I z (d + 10) (sp_n w (49 + 5 * n)) = _ from (congrFun (z0 (d + 10) (by omega)) _).trans zS.1]
    refine yp_gd (fun _ => yp_lt (yp_bd _ (yc_of hW zH hn 4 (by decide) rfl) (fun t7 h7 => yp_lt (yp_gd (fun _ => ?_)))))
    obtain ⟨z9, e9⟩ : ∃ z9, z9 = sn_pI z L 3 (sn_I z L 3 + t7) := ⟨_, rfl⟩
    rw [← e9]
    have z9r : ∀ a, a ≠ L → z9.1 a = z.1 a := fun a ha => by rw [e9]; exact pI_ne ha
    have z9H : yH 1 z9 w := yH_c (fun a a1 a2 => (z9r a (by omega)).trans (z0 a (by omega))) hH
    rw [show sn_I z9 (d + 4) (sp_n w (49 + 5 * n)) = _ from (congrFun ((z9r (d + 4) (by omega)).trans (z0 (d + 4) (by omega))) _).trans zS.2]
    refine yp_bd _ (yc_claim hW z9H hn (hb _)) (fun t12 h12 => yp_gd (fun _ => yp_lt ?_))
    obtain ⟨zF, eF⟩ : ∃ zF, zF = sn_pI z9 (L + 1) n t12 := ⟨_, rfl⟩
    rw [← eF]
    have zFr : ∀ a, a ≠ L + 1 → zF.1 a = z9.1 a := fun a ha => by rw [eF]; exact pI_ne ha
    have zFH : yH 1 zF w := yH_c (fun a a1 a2 => (zFr a (by omega)).trans ((z9r a (by omega)).trans (z0 a (by omega)))) hH
    refine yp_bd _ (yc_count hW zFH hn) (fun t17 h17 => ?_)
    rw [h17]
    refine yp_bd _ (yb_lowest (fun k h1 h2 => yl_Cs (hb _) (by omega) h2)) (fun t19 h19 => yp_gd (fun _ => yp_lt (yp_lt (yp_some ⟨nI_1 n, ?_⟩))))
    have e19 := yb_F1 h19 (yl_F _)
    refine ⟨by show zF.2 = _; rw [eF]; show z9.2 = _; rw [e9]; exact ez, fun a ha => (pI_ne (by omega)).trans ((zFr a (by omega)).trans ((z9r a (by omega)).trans (z0 a ha))), ?_, ?_, fun q hq => ?_⟩
    · refine (congrFun (pI_ne (by omega)) 2).trans ?_
      rw [zFr L (by omega), e9]
      exact (pI_slot (by decide)).trans z2
    · refine (congrFun (pI_ne (by omega)) 3).trans ?_
      rw [zFr L (by omega), e9]
      refine pI_self.trans ?_
      rw [show sn_I z L 3 = _ from z3, h7, show w (49 + 4 + 5 * n) = nI (sp_n w (53 + 5 * n)) from y1, nI_add, Nat.add_assoc]
      rfl
    · by_cases e : q = n
      · subst e
        refine ⟨(congrFun (pI_ne (by omega)) q).trans ?_, pI_self.trans e19⟩
        rw [eF]
        exact pI_self.trans h12
      · refine ⟨(congrFun (pI_ne (by omega)) q).trans ?_, (pI_slot e).trans ?_⟩
        · rw [eF]
          refine (pI_slot e).trans ?_
          rw [z9r (L + 1) (by omega)]
          exact (zq q (by omega)).1
        · rw [zFr (L + 2) (by omega), z9r (L + 2) (by omega)]
          exact (zq q (by omega)).2
  · obtain ⟨z, x⟩ := s
    obtain ⟨ex, hL⟩ := hs
    have ex : x = nI (sp_n w 8) := ex
    subst ex
    have hL : yj_LS L σ z w l S H (sp_n w 8) := hL
    show yp (BX3_reckon_24 z L 1 d l (nI (sp_n w 8))) _
    unfold BX3_reckon_24
    rw [show sn_I z L 2 = _ from hL.2.2.1, if_pos (nI_le (Nat.le_refl _) (by omega))]
    exact yp_some hL
  · exact (pI_ne (by omega)).trans (pI_ne (by omega))
  · exact (pI_slot (by decide)).trans (pI_self.trans (yc_8 hW hH))
  · refine pI_self.trans ((congrFun (pI_ne (by omega)) _).trans ((hH.1 3 (by decide)).trans n3))
  · unfold BX3_reckon_115
    exact yp_some hv
def yj_D (w : Nat → Int32) (b : Nat → Bool) (m : Nat) : Int32 := hs_dust w m (sp_n w 6) + if b m = true then 3 else 0
def yj_j (w : Nat → Int32) (b : Nat → Bool) : dy_I := dy_dustSet (hs_day w) (yj_D w b)
theorem yj_D0 {b : Nat → Bool} {m : Nat} (h : b m = false) : yj_D w b m = hs_dust w m (sp_n w 6) := by
  unfold yj_D
  rw [h, if_neg (by decide), Int32.add_zero]
theorem yj_Dc {b c : Nat → Bool} {m : Nat} (h : b m = c m) : yj_D w b m = yj_D w c m := by
  unfold yj_D
  rw [h]
theorem yj_Lc {q e : Nat} {i : dy_I} (h : ∀ a, q + 7 ≤ a → a ≤ q + 10 → z.1 a = σ.1 a) (hL : yd_L q σ i e) : yd_L q z i e := by
  refine ⟨fun m hm => ?_, fun p hp => ?_⟩
  · rw [h (q + 9) (by omega) (by omega), h (q + 7) (by omega) (by omega), h (q + 8) (by omega) (by omega)]
    exact hL.1 m hm
  · rw [h (q + 10) (by omega) (by omega)]
    exact hL.2 p hp
theorem yj_sh : ∀ n, n < 9 → (1 : Int32) <<< (nI n &&& 31) = nI (2 ^ n) := by decide +kernel
theorem yc_weigh (hn : n ≤ 8) (ho : o ≤ 10) : yp (fX4_weigh σ (nI n) (nI o)) (fun z => z.1 = σ.1 ∧ ∀ k, k ≤ n → z.2.1 58 k = lN (yj_wk o k n)) := by
  unfold fX4_weigh
  refine yp_bd (fun z => z.1 = σ.1 ∧ ∀ k, k ≤ n → z.2.1 58 k = lN (yj_wk o k n)) (yp_for (n + 1) (fun k (s : sn_S × Int32) => s.2 = nI k ∧ s.1.1 = σ.1 ∧ ∀ j, j < k → s.1.2.1 58 j = lN (yj_wk o j n)) (fun k s hk hs => ?_) (fun s hs => ?_) (by exact ⟨nI_0.symm, rfl, fun j hj => absurd hj (by omega)⟩)) (fun v hv => ?_)
  · obtain ⟨z, x⟩ := s
    obtain ⟨ex, z1, zw⟩ := hs
    have ex : x = nI k := ex
    subst ex
    have z1 : z.1 = σ.1 := z1
    have zw : ∀ j, j < k → z.2.1 58 j = lN (yj_wk o j n) := zw
    show yp (BX4_weigh_2 z (nI n) (nI o) (nI k)) _
    unfold BX4_weigh_2
    rw [if_neg (nI_nlt (show k ≤ n by omega) (by omega)), if_neg (show ¬ Int32.ofNat 9 ≤ nI k from nI_ge (show k < 9 by omega) (by omega))]
    refine yp_bd (fun v => v = lN (yj_wk o k n)) (yp_for n (fun m (s : Int64 × Int32) => s.2 = nI m ∧ s.1 = lN (yj_wk o k m)) (fun m s hm hs => ?_) (fun s hs => ?_) (by exact ⟨nI_0.symm, rfl⟩)) (fun v hv => ?_)
    · obtain ⟨v, x⟩ := s
      obtain ⟨ex, ev⟩ := hs
      have ex : x = nI m := ex
      have ev : v = lN (yj_wk o k m) := ev
      subst ex
      subst ev
      show yp (BX4_weigh_22 z (nI n) (nI o) (nI k) (lN (yj_wk o k m)) (nI m)) _
      unfold BX4_weigh_22 BX4_weigh_46
      rw [if_neg (nI_ge hm (by omega))]
      by_cases c : m < k
      · rw [if_neg (nI_ge c (by omega)), nI_l (show o < 2 ^ 31 by omega), lN_mul]
        refine yp_lt (yp_lt (yp_some ⟨nI_1 m, ?_⟩))
        show _ = lN (yj_wk o k m * if m < k then o else 10 - o)
        rw [if_pos c]
      · rw [if_pos (nI_le (show k ≤ m by omega) (by omega)), show (10 : Int32) - nI o = nI (10 - o) from yi_sub ho, nI_l (show 10 - o < 2 ^ 31 by omega), lN_mul]
        refine yp_lt (yp_lt (yp_some ⟨nI_1 m, ?_⟩))
        show _ = lN (yj_wk o k m * if m < k then o else 10 - o)
        rw [if_neg c]
    · obtain ⟨v, x⟩ := s
      obtain ⟨ex, ev⟩ := hs
      have ex : x = nI n := ex
      have ev : v = lN (yj_wk o k n) := ev
      subst ex
      show yp (BX4_weigh_22 z (nI n) (nI o) (nI k) v (nI n)) _
      unfold BX4_weigh_22
      rw [if_pos (nI_le (Nat.le_refl _) (by omega))]
      exact yp_some ev
    · unfold BX4_weigh_55
      rw [nI_clamp (show k < 2 ^ 31 by omega)]
      refine yp_gd (fun _ => yp_lt (yp_lt (yp_some ⟨nI_1 k, z1, fun j hj => ?_⟩)))
      show (if 58 = 58 ∧ j = k then v else z.2.1 58 j) = _
      by_cases e : j = k
      · rw [if_pos ⟨rfl, e⟩, hv, e]
      · rw [if_neg (fun g => e g.2)]
        exact zw j (by omega)
  · obtain ⟨z, x⟩ := s
    obtain ⟨ex, z1, zw⟩ := hs
    have ex : x = nI (n + 1) := ex
    subst ex
    show yp (BX4_weigh_2 z (nI n) (nI o) (nI (n + 1))) _
    unfold BX4_weigh_2
    rw [if_pos (show nI n < nI (n + 1) from nI_lt (by omega) (by omega))]
    exact yp_some ⟨z1, fun k hk => zw k (by omega)⟩
  · unfold BX4_weigh_69
    exact yp_some hv
/-- the dusts from the first that changes on -/
theorem yc_dusts {B f : Nat} {kind idx : Int32} (hW : jW w) (hn : n ≤ 8) (hB : B < 2 ^ n) (hf : f ≤ n) (hd : ∀ m, m < 30 → z.1 28 m = hs_dust w m (sp_n w 6)) : yp (sn_it (LX4_reckon_68 1 27 kind idx (nI n) (nI B) (nI f)) 5000 (z, nI f)) (fun v => (∀ a, a ≠ 60 → v.1 a = z.1 a) ∧ v.2 = z.2 ∧ ∀ j, j < 30 → v.1 60 j = if f ≤ j ∧ j < n then yj_D w (yj_gb n B) j else z.1 60 j) := by
  have h2 : 2 ^ n ≤ 256 := Nat.le_trans (Nat.pow_le_pow_right (by decide) hn) (by decide)
  refine yp_for0 f n hf (fun m (s : sn_S × Int32) => s.2 = nI m ∧ (∀ a, a ≠ 60 → s.1.1 a = z.1 a) ∧ s.1.2 = z.2 ∧ ∀ j, j < 30 → s.1.1 60 j = if f ≤ j ∧ j < m then yj_D w (yj_gb n B) j else z.1 60 j) (fun m s h1 hm hs => ?_) (fun s hs => ?_) (by exact ⟨rfl, fun _ _ => rfl, rfl, fun j hj => by rw [if_neg (by omega)]⟩)
  · obtain ⟨y, x⟩ := s
    obtain ⟨ex, ya, y2, yd⟩ := hs
    have ex : x = nI m := ex
    subst ex
    have ya : ∀ a, a ≠ 60 → y.1 a = z.1 a := ya
    have y2 : y.2 = z.2 := y2
    have yd : ∀ j, j < 30 → y.1 60 j = if f ≤ j ∧ j < m then yj_D w (yj_gb n B) j else z.1 60 j := yd
    show yp (BX4_reckon_68 y 1 27 kind idx (nI n) (nI B) (nI f) (nI m)) _
    unfold BX4_reckon_68 BX4_reckon_111
    rw [if_neg (nI_ge hm (by omega)), yi_s1 (show 1 ≤ n by omega), yi_sub (show m ≤ n - 1 by omega), nI_clamp (show m < 2 ^ 31 by omega), yb_c]
    have eg : yj_gb n B m = sp_bit (nI B) (n - 1 - m) := by
      unfold yj_gb
      rw [decide_eq_true hm, yj_sp (by omega) (by omega)]
      rfl
    have ed : sn_I y (27 + 1) m = hs_dust w m (sp_n w 6) := (congrFun (ya 28 (by decide)) m).trans (hd m (by omega))
    have fin : ∀ t : Int32, t = (if yj_gb n B m = true then 3 else 0) → yp (sn_gd (sn_in (nI m) 30) (sn_lt (sn_pI y (59 + 1) m (sn_I y (27 + 1) m + t)) fun σ_2 => (sn_lt (nI m + 1) fun y_4 => (some (Sum.inl (σ_2, y_4)) : Option ((sn_S × Int32) ⊕ sn_S))))) (yp_sum (fun s : sn_S × Int32 => s.2 = nI (m + 1) ∧ (∀ a, a ≠ 60 → s.1.1 a = z.1 a) ∧ s.1.2 = z.2 ∧ ∀ j, j < 30 → s.1.1 60 j = if f ≤ j ∧ j < m + 1 then yj_D w (yj_gb n B) j else z.1 60 j) (fun _ => False)) := fun t ht => by
      refine yp_gd (fun _ => yp_lt (yp_lt (yp_some ⟨nI_1 m, fun a ha => (pI_ne ha).trans (ya a ha), y2, fun j hj => ?_⟩)))
      by_cases e : j = m
      · subst e
        refine pI_self.trans ?_
        rw [if_pos ⟨h1, by omega⟩, ed, ht]
        rfl
      · refine (pI_slot e).trans ((yd j hj).trans ?_)
        by_cases g : f ≤ j ∧ j < m
        · rw [if_pos g, if_pos (by omega)]
        · rw [if_neg g, if_neg (by omega)]
    refine yp_gd (fun _ => yp_bit (fun c => ?_) (fun c => ?_))
    · rw [if_neg (by decide)]
      exact fin 3 (by rw [eg, c, if_pos rfl])
    · rw [if_pos rfl]
      exact fin 0 (by rw [eg, c, if_neg (by decide)])
  · obtain ⟨y, x⟩ := s
    obtain ⟨ex, ya, y2, yd⟩ := hs
    have ex : x = nI n := ex
    subst ex
    show yp (BX4_reckon_68 y 1 27 kind idx (nI n) (nI B) (nI f) (nI n)) _
    unfold BX4_reckon_68
    rw [if_pos (nI_le (Nat.le_refl _) (by omega))]
    exact yp_some ⟨ya, y2, yd⟩
theorem yj_dl : ∀ B, B < 256 → 0 < B → ∃ l, l < 8 ∧ yj_b B l = true ∧ (∀ j, j < l → yj_b B j = false) ∧ ∀ k, k < 8 → l < k → yj_b (B - 1) k = yj_b B k := by decide +kernel
/-- the first minute that changes -/
theorem yc_from {B : Nat} (hn : n ≤ 8) (hB : B < 2 ^ n) (h0 : 0 < B) : yp (fX8_lowestBit (nI B)) (fun r => ∃ l, l < n ∧ r = nI l ∧ ∀ m, m < n - 1 - l → yj_gb n (B - 1) m = yj_gb n B m) := by
  have h2 : 2 ^ n ≤ 256 := Nat.le_trans (Nat.pow_le_pow_right (by decide) hn) (by decide)
  obtain ⟨l, l1, l2, l3, l4⟩ := yj_dl B (by omega) h0
  have ln : l < n := by
    rcases Nat.lt_or_ge l n with g | g
    · exact g
    · rw [yj_0 (Nat.lt_of_lt_of_le hB (Nat.pow_le_pow_right (by decide) g))] at l2
      cases l2
  refine yp_w (yb_lowest (fun k h1 h3 => ?_)) (fun r hr => ⟨l, ln, ?_, fun m hm => ?_⟩)
  · rw [yj_sp (by omega) h3]
    exact yj_0 (Nat.lt_of_lt_of_le hB (Nat.pow_le_pow_right (by decide) (by omega)))
  · refine yb_F1 hr (Or.inr ⟨l, Nat.zero_le _, by omega, ?_, fun j _ hj => ?_, rfl⟩)
    · rw [yj_sp (by omega) (by omega)]; exact l2
    · rw [yj_sp (by omega) (by omega)]; exact l3 j hj
  · unfold yj_gb
    rw [l4 (n - 1 - m) (by omega) (by omega)]
/-! days that differ in their dusts alone -/
theorem yj_EP {f : Nat} {b c : Nat → Bool} (h : ∀ m, m < f → b m = c m) : dy_EP f (yj_j w b) (yj_j w c) := ⟨rfl, rfl, rfl, fun _ _ => ⟨rfl, rfl⟩, fun m hm => ⟨yj_Dc (h m hm), fun _ _ => ⟨rfl, rfl⟩⟩, fun _ _ => ⟨rfl, rfl⟩⟩
theorem yj_T2 {b c : Nat → Bool} {s : sn_S} (za : ∀ a, a ≠ 60 → z.1 a = s.1 a) (hd : ∀ m, m < 30 → z.1 60 m = yj_D w c m) (hT : yd_T 59 s (yj_j w b)) : yd_T 59 z (yj_j w c) := by
  obtain ⟨t1, t2, t3, t4, t5, t6⟩ := hT
  refine ⟨(congrFun (za 59 (by decide)) 1).trans t1, (congrFun (za 59 (by decide)) 2).trans t2, (congrFun (za 59 (by decide)) 3).trans t3, hd, fun p hp => ?_, fun k hk => ?_⟩
  · rw [za (59 + 2) (by decide), za (59 + 3) (by decide), za (59 + 4) (by decide), za (59 + 5) (by decide)]
    exact t5 p hp
  · rw [za (59 + 6) (by decide)]
    exact t6 k hk
theorem yj_T4 {b : Nat → Bool} {s : sn_S} {m : Nat} (hT : yd_T 59 s (yj_j w b)) (hm : m < 30) : s.1 60 m = yj_D w b m := hT.2.2.2.1 m hm
def yj_R (σ z : sn_S) (w : Nat → Int32) (o n B : Nat) (V : (Nat → Bool) → Nat) : Prop := (∀ a, a < 59 ∨ 72 < a → z.1 a = σ.1 a) ∧ (∀ k, k ≤ n → z.2.1 58 k = lN (yj_wk o k n)) ∧ z.2.1 57 0 = lN (yn_sum (fun C => yj_W o (yj_gb n C) n * V (yj_gb n C)) B) ∧ z.1 59 0 = nI (sp_n w 0) ∧ yd_T 59 z (yj_j w (yj_gb n (B - 1))) ∧ (0 < B → yd_L 59 z (yj_j w (yj_gb n (B - 1))) n)
theorem yj_ok {b : Nat → Bool} (hW : jW w) : dy_ok (yj_j w b) := hs_ok hW
def yj_hV (σ : sn_S) (w : Nat → Int32) (n : Nat) (kind idx : Int32) (V : (Nat → Bool) → Nat) : Prop := ∀ (z : sn_S) (b : Nat → Bool), (∀ a, a < 59 ∨ 72 < a → z.1 a = σ.1 a) → yd_L 59 z (yj_j w b) n → yd_T 59 z (yj_j w b) → yp (fX4_worth z 1 kind idx (nI n)) (fun r => r.1 = lN (V b) ∧ (∀ a, a < 70 ∨ 72 < a → r.2.1 a = z.1 a) ∧ r.2.2 = z.2)
theorem yc_puff {V : (Nat → Bool) → Nat} {kind idx : Int32} {B : Nat} {s : sn_S} (hW : jW w) (hD : yD σ w) (hn : n ≤ 8) (hnM : n ≤ sp_n w 0) (hk : kind ≠ 2) (hV : yj_hV σ w n kind idx V) (hB : B < 2 ^ n) (hR : yj_R σ s w o n B V) : yp (BX4_reckon_34 s 1 27 kind idx (nI n) (nI B)) (yp_sum (fun t : sn_S × Int32 => t.2 = nI (B + 1) ∧ yj_R σ t.1 w o n (B + 1) V) (fun _ => False)) := by
  have c0 := (yl_0 hW).2
  have h2 : 2 ^ n ≤ 256 := Nat.le_trans (Nat.pow_le_pow_right (by decide) hn) (by decide)
  obtain ⟨ra, rw0, rs, r59, rT, rL⟩ := hR
  have core : ∀ f (x : Int32), x = nI f → f ≤ n → (∀ m, m < f → yj_gb n (B - 1) m = yj_gb n B m) → (0 < f → 0 < B) → yp (BX4_reckon_62 s 1 27 kind idx (nI n) (nI B) x) (yp_sum (fun t : sn_S × Int32 => t.2 = nI (B + 1) ∧ yj_R σ t.1 w o n (B + 1) V) (fun _ => False)) := fun f x hx hf hag hf0 => by
    rw [hx]
    unfold BX4_reckon_62
    refine yp_bd _ (yc_dusts hW hn hB hf (fun m hm => (congrFun (ra 28 (by omega)) m).trans (hD.2.1.2.2.2.1 m hm))) (fun z hz => ?_)
    obtain ⟨za, z2, zd⟩ := hz
    have hT : yd_T 59 z (yj_j w (yj_gb n B)) := by
      refine yj_T2 za (fun m hm => ?_) rT
      refine (zd m hm).trans ?_
      by_cases g : f ≤ m ∧ m < n
      · rw [if_pos g]
      · rw [if_neg g]
        refine (yj_T4 rT hm).trans (yj_Dc ?_)
        rcases Nat.lt_or_ge m f with g2 | g2
        · exact hag m g2
        · unfold yj_gb
          rw [decide_eq_false (show ¬ m < n by omega), Bool.false_and, Bool.false_and]
    have hEP : dy_EP f (yj_j w (yj_gb n (B - 1))) (yj_j w (yj_gb n B)) := yj_EP hag
    have hL0 : yd_L0 59 z (yj_j w (yj_gb n B)) f := by
      rcases Nat.eq_zero_or_pos f with g | g
      · subst g
        exact fun m hm => absurd hm (by omega)
      · have h := (rL (hf0 g)).1
        have h1 : yd_L0 59 s (yj_j w (yj_gb n (B - 1))) f := fun m hm => h m (by omega)
        have h3 := yd_L0P hEP (Nat.le_refl _) h1
        intro m hm
        rw [za (59 + 9) (by decide), za (59 + 7) (by decide), za (59 + 8) (by decide)]
        exact h3 m hm
    have hS : ∀ p, p < dy_P (yj_j w (yj_gb n B)) → z.1 (59 + 10) p &&& (((1 : Int32) <<< (nI f &&& 31)) - 1) = dy_sn (yj_j w (yj_gb n B)) f p := by
      intro p hp0
      have hp : p < sp_n w 5 := hp0
      rcases Nat.eq_zero_or_pos f with g | g
      · subst g
        exact yb_and0 _
      · rw [za (59 + 10) (by decide), (rL (hf0 g)).2 p hp, dy_snlow hf (by omega)]
        exact dy_snP hEP (Nat.le_refl _) hp
    unfold BX4_reckon_119
    rw [if_neg hk]
    unfold BX4_reckon_139
    refine yp_bd _ (yc_live ((congrFun (za 59 (by decide)) 0).trans r59) c0 hT (yj_ok hW) hf hnM hL0 hS) (fun y hy => ?_)
    obtain ⟨⟨ya, y2⟩, yL⟩ := hy
    have yT : yd_T 59 y (yj_j w (yj_gb n B)) := yd_Tc (fun a a1 a2 => ya a (by omega)) hT
    have ys : ∀ a, a < 59 ∨ 72 < a → y.1 a = σ.1 a := fun a ha => (ya a (by omega)).trans ((za a (by omega)).trans (ra a ha))
    refine yp_bs (yb_count _) (yp_gd (fun _ => yp_bd _ (hV y _ ys yL yT) (fun r hr => yp_lt (yp_lt (yp_some ⟨nI_1 B, ?_⟩)))))
    obtain ⟨er, rr, r2⟩ := hr
    have epop : yb_pop (nI B) 32 ≤ n := by
      rw [yj_pop (by omega) 32 (by omega), ← yj_dc n (by omega) B hB]
      exact yj_cle _ _
    have ey : y.2 = s.2 := y2.trans z2
    refine ⟨fun a ha => (rr a (by omega)).trans (ys a ha), fun k hk => ?_, ?_, (congrFun (rr 59 (by decide)) 0).trans ((congrFun (ya 59 (by omega)) 0).trans ((congrFun (za 59 (by decide)) 0).trans r59)), ?_, fun _ => ?_⟩
    · refine (yL_q (by decide)).trans ?_
      rw [r2, ey]
      exact rw0 k hk
    · refine yL_s.trans ?_
      show y.2.1 57 0 + y.2.1 58 (nI (yb_pop (nI B) 32)).toNatClampNeg * r.1 = _
      rw [nI_clamp (show yb_pop (nI B) 32 < 2 ^ 31 by omega), ey, rs, rw0 _ epop, er, lN_mul, lN_add, yj_wkW hn hB]
      rfl
    · show yd_T 59 r.2 (yj_j w (yj_gb n (B + 1 - 1)))
      rw [Nat.add_sub_cancel]
      exact yd_Tc (fun a a1 a2 => rr a (by omega)) yT
    · show yd_L 59 r.2 (yj_j w (yj_gb n (B + 1 - 1))) n
      rw [Nat.add_sub_cancel]
      exact yj_Lc (fun a a1 a2 => rr a (by omega)) yL
  unfold BX4_reckon_34
  rw [yj_sh n (by omega), if_neg (nI_ge hB (by omega))]
  rcases Nat.eq_zero_or_pos B with g | g
  · rw [if_pos ((yi_0 (by omega)).mpr g)]
    exact core 0 0 nI_0.symm (Nat.zero_le _) (fun m hm => absurd hm (by omega)) (fun h => absurd h (by omega))
  · rw [if_neg (fun h => absurd ((yi_0 (by omega)).mp h) (by omega))]
    refine yp_bd _ (yc_from hn hB g) (fun t ht => ?_)
    obtain ⟨l, ln, et, hag⟩ := ht
    rw [et, yi_s1 (show 1 ≤ n by omega), yi_sub (show l ≤ n - 1 by omega)]
    exact core (n - 1 - l) _ rfl (by omega) hag (fun _ => g)
def yj_A' (o n : Nat) (V : (Nat → Bool) → Nat) : Nat := yj_T n (fun b => yj_W o b n * V b)
theorem yj_Ale {V : (Nat → Bool) → Nat} (hn : n ≤ 8) (ho : o ≤ 10) (hv : ∀ b, V b ≤ 297) : yj_A' o n V < 2 ^ 35 := by
  have h := yj_Tle (V := 297) n (fun b => yj_W o b n * V b) (fun b => yj_W o b n) (fun b => Nat.mul_le_mul_left _ (hv b))
  rw [yj_10 ho] at h
  have h1 : 10 ^ n ≤ 10 ^ 8 := Nat.pow_le_pow_right (by decide) hn
  have h2 : 10 ^ n * 297 ≤ 10 ^ 8 * 297 := Nat.mul_le_mul_right _ h1
  exact Nat.lt_of_le_of_lt h (Nat.lt_of_le_of_lt h2 (by decide))
theorem yj_10lt (hn : n ≤ 8) : 10 ^ n < 2 ^ 27 := Nat.lt_of_le_of_lt (Nat.pow_le_pow_right (by decide) hn) (by decide : 10 ^ 8 < 2 ^ 27)
theorem yc_copy2 {a b : Nat} : yp (fX0_copyFrom σ a b) (fun z => z.2 = σ.2) := by
  unfold fX0_copyFrom
  refine yp_lt (yp_lt (yp_lt (yp_le (fun z0 e0 => ?_))))
  have k0 : z0.2 = σ.2 := by rw [e0]; rfl
  refine yp_gd (fun _ => yp_le (fun z1 e1 => ?_))
  have k1 : z1.2 = σ.2 := by rw [e1]; exact k0
  refine yp_gd (fun _ => yp_le (fun z2 e2 => ?_))
  have k2 : z2.2 = σ.2 := by rw [e2]; exact k1
  refine yp_gd (fun _ => yp_le (fun z3 e3 => ?_))
  have k3 : z3.2 = σ.2 := by rw [e3]; exact k2
  refine yp_gd (fun _ => yp_le (fun z4 e4 => ?_))
  have k4 : z4.2 = σ.2 := by rw [e4]; exact k3
  refine yp_gd (fun _ => yp_le (fun z5 e5 => ?_))
  have k5 : z5.2 = σ.2 := by rw [e5]; exact k4
  refine yp_gd (fun _ => yp_le (fun z6 e6 => ?_))
  have k6 : z6.2 = σ.2 := by rw [e6]; exact k5
  refine yp_gd (fun _ => yp_le (fun z7 e7 => ?_))
  have k7 : z7.2 = σ.2 := by rw [e7]; exact k6
  refine yp_gd (fun _ => yp_le (fun z8 e8 => ?_))
  have k8 : z8.2 = σ.2 := by rw [e8]; exact k7
  refine yp_gd (fun _ => yp_le (fun z9 e9 => ?_))
  have k9 : z9.2 = σ.2 := by rw [e9]; exact k8
  refine yp_gd (fun _ => yp_le (fun zA eA => ?_))
  have kA : zA.2 = σ.2 := by rw [eA]; exact k9
  exact yp_some kA
theorem yp_and {α : Type} {x : Option α} {P Q : α → Prop} (h : yp x P) (g : yp x Q) : yp x (fun a => P a ∧ Q a) := fun a e => ⟨h a e, g a e⟩
theorem yc_mean {V : (Nat → Bool) → Nat} {kind idx : Int32} {m : Nat} (hW : jW w) (hH : yH 1 σ w) (hD : yD σ w) (hm : m < 8) (hmM : m < sp_n w 0) (hk : kind ≠ 2) (hV : yj_hV σ w (m + 1) kind idx V) (hv : ∀ b, V b ≤ 297) : yp (fX4_reckon σ 1 27 kind idx (nI m)) (fun z => sn_L z 57 0 = lN (yj_A' (sp_n w 4) (m + 1) V / Nat.gcd (yj_A' (sp_n w 4) (m + 1) V) (10 ^ (m + 1))) ∧ sn_L z 57 1 = lN (10 ^ (m + 1) / Nat.gcd (yj_A' (sp_n w 4) (m + 1) V) (10 ^ (m + 1)))) := by
  obtain ⟨o1, o2⟩ : yh_n w 4 10 := hW.1.2.2.2.2.1
  have h256 : 2 ^ (m + 1) ≤ 256 := Nat.le_trans (Nat.pow_le_pow_right (by decide) (show m + 1 ≤ 8 by omega)) (by decide)
  unfold fX4_reckon
  rw [nI_1]
  refine yp_lt (yp_gd (fun _ => ?_))
  rw [show sn_I σ (1 + 1) (4 : Int32).toNatClampNeg = nI (sp_n w 4) from (hH.1 4 (by decide)).trans o1]
  refine yp_bd _ (yc_weigh (show m + 1 ≤ 8 by omega) o2) (fun z1 h1 => ?_)
  obtain ⟨e1, w1⟩ := h1
  have hD1 : yD z1 w := by
    obtain ⟨d0, d1, d2⟩ := hD
    exact ⟨(congrFun (congrFun e1 27) 0).trans d0, yd_Tc (fun a _ _ => congrFun e1 a) d1, yj_Lc (fun a _ _ => congrFun e1 a) d2⟩
  refine yp_bd _ (yp_and (yc_trial hW hD1 (by decide : 37 < 59)) yc_copy2) (fun z2 h2 => yp_lt ?_)
  obtain ⟨⟨ra, r0, rT, -⟩, r2⟩ := h2
  refine yp_bd (fun z => sn_L z 57 0 = lN (yj_A' (sp_n w 4) (m + 1) V)) (yp_for (2 ^ (m + 1)) (fun B (s : sn_S × Int32) => s.2 = nI B ∧ yj_R σ s.1 w (sp_n w 4) (m + 1) B V) (fun B s hB hs => ?_) (fun s hs => ?_) (by
    refine ⟨nI_0.symm, fun a ha => (ra a (by omega)).trans (congrFun e1 a), fun k hk => ?_, ?_, r0, ?_, fun h => absurd h (by omega)⟩
    · refine (yL_q (by decide)).trans ?_
      rw [r2]
      exact w1 k hk
    · rfl
    · show yd_T 59 z2 _
      obtain ⟨t1, t2, t3, t4, t5, t6⟩ := rT
      exact ⟨t1, t2, t3, fun j hj => (t4 j hj).trans (yj_D0 (by unfold yj_gb yj_b; rw [Nat.zero_sub, Nat.zero_div]; exact Bool.and_false _)).symm, t5, t6⟩)) (fun z3 h3 => ?_)
  · obtain ⟨s, x⟩ := s
    obtain ⟨ex, hR⟩ := hs
    have ex : x = nI B := ex
    subst ex
    exact yc_puff hW hD (by omega) (by omega) hk hV hB hR
  · obtain ⟨s, x⟩ := s
    obtain ⟨ex, hR⟩ := hs
    have ex : x = nI (2 ^ (m + 1)) := ex
    subst ex
    show yp (BX4_reckon_34 s 1 27 kind idx (nI (m + 1)) (nI (2 ^ (m + 1)))) _
    unfold BX4_reckon_34
    rw [yj_sh (m + 1) (by omega), if_pos (nI_le (Nat.le_refl _) (by omega))]
    refine yp_some ?_
    refine hR.2.2.1.trans ?_
    exact congrArg lN (yj_B (m + 1) (by omega) (fun b => yj_W (sp_n w 4) b (m + 1) * V b))
  · unfold BX4_reckon_178
    refine yp_lt (yp_bd (fun z => sn_L z 57 0 = lN (yj_A' (sp_n w 4) (m + 1) V) ∧ sn_L z 57 1 = lN (10 ^ (m + 1))) (yp_for (m + 1) (fun k (s : sn_S × Int32) => s.2 = nI k ∧ s.1.2.1 57 0 = lN (yj_A' (sp_n w 4) (m + 1) V) ∧ s.1.2.1 57 1 = lN (10 ^ k)) (fun k s hk hs => ?_) (fun s hs => ?_) (by exact ⟨nI_0.symm, h3, rfl⟩)) (fun z4 h4 => ?_))
    · obtain ⟨s, x⟩ := s
      obtain ⟨ex, s0, s1⟩ := hs
      have ex : x = nI k := ex
      subst ex
      have s0 : s.2.1 57 0 = lN (yj_A' (sp_n w 4) (m + 1) V) := s0
      have s1 : s.2.1 57 1 = lN (10 ^ k) := s1
      show yp (BX4_reckon_186 s 1 27 (nI (m + 1)) (nI k)) _
      unfold BX4_reckon_186
      rw [if_neg (nI_ge hk (by omega))]
      refine yp_lt (yp_lt (yp_some ⟨nI_1 k, s0, ?_⟩))
      show s.2.1 57 1 * (10 : Int64) = _
      rw [s1, Nat.pow_succ]
      exact lN_mul _ 10
    · obtain ⟨s, x⟩ := s
      obtain ⟨ex, s0, s1⟩ := hs
      have ex : x = nI (m + 1) := ex
      subst ex
      show yp (BX4_reckon_186 s 1 27 (nI (m + 1)) (nI (m + 1))) _
      unfold BX4_reckon_186
      rw [if_pos (nI_le (Nat.le_refl _) (by omega))]
      exact yp_some ⟨s0, s1⟩
    · unfold BX4_reckon_211
      exact yp_bd _ (yj_lower (yj_Ale (by omega) o2 hv) (yj_10lt (by omega)) (Nat.pow_pos (by decide)) h4.1 h4.2) (fun t ht => yp_some ht)
/-- what is meant: a sneeze at all, or what a policy pays -/
def yj_V1 (w : Nat → Int32) (n p : Nat) (b : Nat → Bool) : Nat := if dy_sn (yj_j w b) n p = 0 then 0 else 1
def yj_V2 (w : Nat → Int32) (n q : Nat) (b : Nat → Bool) : Nat := yl_v w (w 2) q (dy_sn (yj_j w b) n (sp_n w (49 + 5 * q))) (yHh w (sp_n w (49 + 5 * q)))
theorem yj_V1le {b : Nat → Bool} : yj_V1 w n p b ≤ 297 := by
  unfold yj_V1
  by_cases c : dy_sn (yj_j w b) n p = 0
  · rw [if_pos c]; omega
  · rw [if_neg c]; omega
theorem yc_worth1 (hp : p < sp_n w 5) (hW : jW w) : yj_hV σ w n 0 (nI p) (yj_V1 w n p) := by
  intro z b hz hL hT
  have c5 := (yl_5 hW).2
  unfold fX4_worth
  rw [if_pos rfl, nI_clamp (show p < 2 ^ 31 by omega), show sn_I z (59 + 10) p = dy_sn (yj_j w b) n p from hL.2 p hp]
  refine yp_gd (fun _ => yp_ite (fun c => yp_some ⟨?_, fun _ _ => rfl, rfl⟩) (fun c => yp_some ⟨?_, fun _ _ => rfl, rfl⟩))
  · unfold yj_V1
    rw [if_pos c]
    rfl
  · unfold yj_V1
    rw [if_neg c]
    rfl
theorem yc_worth2 (hq : q < sp_n w 8) (hW : jW w) (hH : yH 1 σ w) (hn : n ≤ sp_n w 0) : yj_hV σ w n 1 (nI q) (yj_V2 w n q) := by
  intro z b hz hL hT
  have c8 := (yl_8 hW).2
  have c0 := (yl_0 hW).2
  have zH : yH 1 z w := yH_c (fun a a1 a2 => hz a (by omega)) hH
  unfold fX4_worth
  rw [if_neg (by decide), show sn_I z (1 + 1) (2 : Int32).toNatClampNeg = w 2 from zH.1 2 (by decide)]
  refine yp_gd (fun _ => yp_bd _ (yc_reckonL (L := 70) (d := 59) (S := fun p => dy_sn (yj_j w b) n p) (H := yHh w) (by decide) (by decide) hW zH (fun p hp => ⟨hL.2 p hp, (hT.2.2.2.2.1 p hp).2.2.1⟩) (fun p k h1 h2 => yz_sbits (show n ≤ 30 by omega) k (by omega) h2) (w 2)) (fun t ht => ?_))
  obtain ⟨e2, ea, -, -, eq⟩ := ht
  rw [if_pos rfl, nI_clamp (show q < 2 ^ 31 by omega), show sn_I t (70 + 1) q = nI (yj_V2 w n q b) from (eq q hq).1, nI_l (show yj_V2 w n q b < 2 ^ 31 from Nat.lt_of_le_of_lt (yl_vle hW hq) (by decide))]
  exact yp_gd (fun _ => yp_some ⟨rfl, ea, e2⟩)
end
