/-! a house with one number changed -/
theorem jW_set {w w' : Nat → Int32} {x v : Nat} (hW : jW w) (e : ∀ k, k ≠ x → w' k = w k) (ex : w' x = nI v) (hx : (x = 1 ∧ v ≤ 9) ∨ ∃ p, p < 6 ∧ ((x = 11 + 2 * p ∧ v ≤ 9) ∨ (x = 12 + 2 * p ∧ 1 ≤ v ∧ v ≤ 99))) : jW w' := by
  obtain ⟨⟨b0, b1, b2, b3, b4, b5, b6, b7, b8, b9, b10⟩, hz, hmm, hno, hg, ht, hp8, ha⟩ := hW
  have l5 := b5.2
  have l6 := b6.2
  have l7 := b7.2
  have l8 := b8.2
  have l9 := b9.2
  have lx : (x = 1 ∨ (11 ≤ x ∧ x ≤ 22)) ∧ v ≤ 99 := by
    rcases hx with ⟨h1, h2⟩ | ⟨p, hp, ⟨h1, h2⟩ | ⟨h1, h2, h3⟩⟩
    · omega
    · omega
    · omega
  have y : ∀ k b, k ≠ x → yh_n w k b → yh_n w' k b := fun k b h1 g => yh_mv (e k h1) g
  have s : ∀ k, k ≠ x → sp_n w' k = sp_n w k := fun k h1 => sp_mv (e k h1)
  have sx : sp_n w' x = v := sp_nI ex (by omega)
  have yx : ∀ b, v ≤ b → yh_n w' x b := fun b hb => ⟨by rw [sx]; exact ex, by rw [sx]; exact hb⟩
  refine ⟨⟨y 0 _ (by omega) b0, ?_, y 2 _ (by omega) b2, y 3 _ (by omega) b3, y 4 _ (by omega) b4, y 5 _ (by omega) b5, y 6 _ (by omega) b6, y 7 _ (by omega) b7, y 8 _ (by omega) b8, y 9 _ (by omega) b9, y 10 _ (by omega) b10⟩, ?_, ?_, fun p hp2 => ?_, fun p hp2 => ?_, fun k hk => ?_, fun k hk => ?_, fun i hi => ?_⟩
  · by_cases c : x = 1
    · rw [← c]
      refine yx 9 ?_
      rcases hx with ⟨h1, h2⟩ | ⟨p, hp, ⟨h1, h2⟩ | ⟨h1, h2, h3⟩⟩
      · exact h2
      · exact h2
      · omega
    · exact y 1 9 (by omega) b1
  · rw [s 10 (by omega), s 0 (by omega), s 5 (by omega), s 7 (by omega), s 8 (by omega)]
    exact hz
  · rw [s 10 (by omega), s 0 (by omega)]
    exact hmm
  · rw [s 5 (by omega)] at hp2
    have g := hno p hp2
    refine ⟨?_, ?_⟩
    · by_cases c : x = 11 + 2 * p
      · rw [← c]
        refine yx 9 ?_
        rcases hx with ⟨h1, h2⟩ | ⟨p3, hp3, ⟨h1, h2⟩ | ⟨h1, h2, h3⟩⟩
        · exact h2
        · exact h2
        · omega
      · exact y _ _ (fun h => c h.symm) g.1
    · by_cases c : x = 12 + 2 * p
      · rw [← c, sx]
        rcases hx with ⟨h1, h2⟩ | ⟨p3, hp3, ⟨h1, h2⟩ | ⟨h1, h2, h3⟩⟩
        · omega
        · omega
        · exact ⟨yx 99 h3, h2⟩
      · exact ⟨y _ _ (fun h => c h.symm) g.2.1, by rw [s _ (fun h => c h.symm)]; exact g.2.2⟩
  · rw [s 6 (by omega)] at hp2
    have g := hg p hp2
    exact ⟨y _ _ (by omega) g.1, y _ _ (by omega) g.2⟩
  · rw [s 7 (by omega)] at hk
    have g := ht k hk
    rw [s 5 (by omega), s (33 + 2 * k) (by omega), s (34 + 2 * k) (by omega), e (33 + 2 * k) (by omega), e (34 + 2 * k) (by omega)]
    exact g
  · rw [s 8 (by omega)] at hk
    obtain ⟨⟨g1, g2⟩, g3, g4, g5, g6, g7, g8⟩ := hp8 k hk
    exact ⟨⟨by rw [s _ (by omega), e _ (by omega)]; exact g1, by rw [s _ (by omega), s 5 (by omega)]; exact g2⟩, y _ _ (by omega) g3, y _ _ (by omega) g4, by rw [s _ (by omega), s _ (by omega)]; exact g5, y _ _ (by omega) g6, by rw [s _ (by omega)]; exact g7, y _ _ (by omega) g8⟩
  · rw [s 9 (by omega)] at hi
    rw [s 5 (by omega), s 0 (by omega), s (79 + i) (by omega), e (79 + i) (by omega)]
    exact ha i hi
theorem hs_actsE {w w' : Nat → Int32} {kind p : Nat} (e : ∀ k, 79 ≤ k → w' k = w k) : ∀ n, hs_acts w' kind p n = hs_acts w kind p n := by
  intro n
  induction n with
  | zero => rfl
  | succ n ih =>
    have h1 : sp_n w' (79 + n) = sp_n w (79 + n) := sp_mv (e _ (by omega))
    show (if sp_n w' (79 + n) % 2 = kind ∧ sp_n w' (79 + n) / 200 = p then hs_acts w' kind p n ||| ((1 : Int32) <<< (nI (sp_n w' (79 + n) % 200 / 2) &&& 31)) else hs_acts w' kind p n) = (if sp_n w (79 + n) % 2 = kind ∧ sp_n w (79 + n) / 200 = p then hs_acts w kind p n ||| ((1 : Int32) <<< (nI (sp_n w (79 + n) % 200 / 2) &&& 31)) else hs_acts w kind p n)
    rw [ih, h1]
theorem yi_4 (a b c d : Int32) : a - b + c + d = a + d - b + c := by
  rw [Int32.sub_eq_add_neg, Int32.sub_eq_add_neg, Int32.add_assoc a (-b) c, Int32.add_assoc a (-b + c) d, Int32.add_comm (-b + c) d, ← Int32.add_assoc a d, ← Int32.add_assoc (a + d)]
theorem hs_dustE {w w' : Nat → Int32} {m : Nat} (e : ∀ k, 23 ≤ k → w' k = w k) : ∀ n, hs_dust w' m n = hs_dust w m n - w 1 + w' 1 := by
  intro n
  induction n with
  | zero =>
    show w' 1 = w 1 - w 1 + w' 1
    rw [Int32.sub_self, Int32.zero_add]
  | succ n ih =>
    have h1 : sp_n w' (24 + 2 * n) = sp_n w (24 + 2 * n) := sp_mv (e _ (by omega))
    have h2 : w' (23 + 2 * n) = w (23 + 2 * n) := e _ (by omega)
    show (if sp_n w' (24 + 2 * n) = m then hs_dust w' m n + w' (23 + 2 * n) else hs_dust w' m n) = (if sp_n w (24 + 2 * n) = m then hs_dust w m n + w (23 + 2 * n) else hs_dust w m n) - w 1 + w' 1
    rw [h1, h2, ih]
    by_cases c : sp_n w (24 + 2 * n) = m
    · rw [if_pos c, if_pos c]
      exact yi_4 _ _ _ _
    · rw [if_neg c, if_neg c]
/-- the greatest number less than n for which g holds -/
def yz_dn (g : Nat → Bool) : Nat → Int32
  | 0 => -1
  | n + 1 => if g n = true then nI n else yz_dn g n
theorem yi_m1 : ∀ n, n < 10 → nI (n + 1) + (-1 : Int32) = nI n := by decide +kernel
section
variable {σ τ u z : sn_S} {w : Nat → Int32}
theorem ym_quietD {x : Nat} {x4 : Int32} {g : Nat → Bool} (hx : x < 119) (hz0 : ∀ k, z.1 1 k = w k) (hq : ∀ (y : sn_S) (n : Nat), n < 10 → (∀ k, k ≠ x → y.1 1 k = w k) → y.1 1 x = nI n → yp (fX9_asksHouse y) (fun t => (∀ k, k ≠ x → t.2.1 1 k = w k) ∧ (x4 = -1 → yp (fX9_allSneezes t.2) (fun v => v = 0 ↔ g n = true)) ∧ (x4 ≠ -1 → (sn_I t.2 10 x4.toNatClampNeg = 0 ↔ g n = true)))) : yp (fX9_quietBy z (nI x) (9 : Int32) (0 : Int32) x4) (fun r => r.1 = yz_dn g 10) := by
  have k1 : ∀ n, yz_dn g (n + 1) = if g n = true then nI n else yz_dn g n := fun n => rfl
  unfold fX9_quietBy
  refine yp_gd (fun _ => yp_lt (yp_ite (fun c => absurd c (by decide)) (fun _ => ?_)))
  generalize sn_I z 1 (nI x).toNatClampNeg = x5
  unfold BX9_quietBy_21
  refine yp_bd (fun r => r.2 = yz_dn g 10) (yp_it (fun s : sn_S × Int32 × Int32 => (∀ k, k ≠ x → s.1.1 1 k = w k) ∧ ((∃ n, n < 10 ∧ s.2.2 = nI n ∧ s.2.1 = -1 ∧ yz_dn g 10 = yz_dn g (n + 1)) ∨ (s.2.1 = yz_dn g 10 ∧ (s.2.1 ≠ -1 ∨ s.2.2 = -1)))) (fun s hs => ?_) _ _ ⟨fun k _ => hz0 k, Or.inl ⟨9, by decide, rfl, rfl, rfl⟩⟩) (fun r hr => ?_)
  · obtain ⟨y, x6, x8⟩ := s
    obtain ⟨hy, h⟩ := hs
    have hy : ∀ k, k ≠ x → y.1 1 k = w k := hy
    show yp (BX9_quietBy_26 y (nI x) 0 x4 x5 x6 (-1) x8) _
    unfold BX9_quietBy_26
    rw [show (0 : Int32) + (-1 : Int32) = -1 by decide]
    rcases h with ⟨n, hn, e8, e6, ed⟩ | ⟨e6, h⟩
    · have e8 : x8 = nI n := e8
      have e6 : x6 = -1 := e6
      subst e8
      subst e6
      have k90 : ∀ (t2 : sn_S) (t0 : Int32), (∀ k, k ≠ x → t2.1 1 k = w k) → ((t0 = 0 ∧ g n = false) ∨ (t0 ≠ 0 ∧ g n = true)) → yp (BX9_quietBy_90 t2 (nI x) 0 x4 x5 (-1) (-1) (nI n) t0) (yp_sum (fun s : sn_S × Int32 × Int32 => (∀ k, k ≠ x → s.1.1 1 k = w k) ∧ ((∃ n, n < 10 ∧ s.2.2 = nI n ∧ s.2.1 = -1 ∧ yz_dn g 10 = yz_dn g (n + 1)) ∨ (s.2.1 = yz_dn g 10 ∧ (s.2.1 ≠ -1 ∨ s.2.2 = -1)))) (fun r : sn_S × Int32 => r.2 = yz_dn g 10)) := fun t2 t0 ht h => by
        unfold BX9_quietBy_90 BX9_quietBy_103
        rcases h with ⟨h1, h2⟩ | ⟨h1, h2⟩
        · rw [if_pos h1]
          refine yp_lt (yp_some ⟨ht, ?_⟩)
          rw [k1 n, h2, if_neg (by decide)] at ed
          match n, hn, ed with
          | 0, _, ed => exact Or.inr ⟨ed.symm, Or.inr (by show nI 0 + (-1 : Int32) = -1; decide)⟩
          | m + 1, hm, ed => exact Or.inl ⟨m, by omega, yi_m1 m (by omega), rfl, ed⟩
        · rw [if_neg h1]
          refine yp_lt (yp_some ⟨ht, Or.inr ⟨?_, Or.inl (yl_ne (by omega))⟩⟩)
          rw [k1 n, h2, if_pos rfl] at ed
          exact ed.symm
      rw [if_neg (yl_ne (show n < 100 by omega)), if_pos rfl, nI_clamp (show x < 2 ^ 31 by omega)]
      refine yp_gd (fun _ => yp_lt (yp_bd _ (hq _ n hn (fun k hk => (pI_slot hk).trans (hy k hk)) pI_self) (fun t ht => ?_)))
      refine yp_ite (fun c => yp_bd _ (ht.2.1 c) (fun t3 ht3 => ?_)) (fun c => yp_gd (fun _ => ?_))
      · refine yp_ite (fun c2 => k90 _ _ ht.1 (Or.inr ⟨by decide, ht3.mp c2⟩)) (fun c2 => k90 _ _ ht.1 (Or.inl ⟨rfl, ?_⟩))
        cases e : g n with
        | false => rfl
        | true => exact absurd (ht3.mpr e) c2
      · refine yp_ite (fun c2 => k90 _ _ ht.1 (Or.inr ⟨by decide, (ht.2.2 c).mp c2⟩)) (fun c2 => k90 _ _ ht.1 (Or.inl ⟨rfl, ?_⟩))
        cases e : g n with
        | false => rfl
        | true => exact absurd ((ht.2.2 c).mpr e) c2
    · have e6 : x6 = yz_dn g 10 := e6
      refine yp_ite (fun _ => yp_some e6) (fun c => ?_)
      rcases h with h | h
      · have h : x6 ≠ -1 := h
        rw [if_neg h]
        exact yp_some e6
      · exact absurd h c
  · unfold BX9_quietBy_115
    exact yp_gd (fun _ => yp_lt (yp_some hr))
/-! how dull a nose would have to be -/
def yux_g (w : Nat → Int32) (p n : Nat) : Bool := decide (dy_sn (dy_keenSet (hs_day w) p (nI n)) (sp_n w 0) p = 0)
theorem yux_EP {w' : Nat → Int32} {p n N : Nat} (e : ∀ k, k ≠ 11 + 2 * p → w' k = w k) (ex : w' (11 + 2 * p) = nI n) (hp : p < 6) : dy_EP N (hs_day w') (dy_keenSet (hs_day w) p (nI n)) := by
  have s : ∀ k, k ≠ 11 + 2 * p → sp_n w' k = sp_n w k := fun k h1 => sp_mv (e k h1)
  have s5 := s 5 (by omega)
  have s6 := s 6 (by omega)
  have s7 := s 7 (by omega)
  have s9 := s 9 (by omega)
  refine ⟨s5, s7, show (-1 : Int32) = -1 from rfl, fun x hx => ⟨?_, ?_⟩, fun m _ => ⟨?_, fun x _ => ⟨?_, ?_⟩⟩, fun k _ => ⟨s (33 + 2 * k) (by omega), s (34 + 2 * k) (by omega)⟩⟩
  · show w' (11 + 2 * x) = (if x = p then nI n else w (11 + 2 * x))
    by_cases c : x = p
    · rw [if_pos c, c, ex]
    · rw [if_neg c, e _ (by omega)]
  · show w' (12 + 2 * x) = w (12 + 2 * x)
    exact e _ (by omega)
  · show hs_dust w' m (sp_n w' 6) = hs_dust w m (sp_n w 6)
    rw [s6, hs_dustE (fun k hk => e k (by omega)), e 1 (by omega), Int32.sub_add_cancel]
  · show sp_bit (hs_acts w' 0 x (sp_n w' 9)) m = sp_bit (hs_acts w 0 x (sp_n w 9)) m
    rw [s9, hs_actsE (fun k hk => e k (by omega))]
  · show sp_bit (hs_acts w' 1 x (sp_n w' 9)) m = sp_bit (hs_acts w 1 x (sp_n w 9)) m
    rw [s9, hs_actsE (fun k hk => e k (by omega))]
theorem yc_dull (hW : jW w) (hD : yD σ w) {p : Nat} (hp : p < sp_n w 5) : yp ((fX0_copyFrom σ 38 27).bind fun t_4 => ((sn_it (LX8_dull_25 (nI p)) 5000 (t_4, (9 : Int32))).bind fun t_6 => Sum.elim (fun v_8 => (BX8_dull_66 v_8)) (fun r_9 => (some r_9)) t_6)) (fun r => r.1 = yz_dn (yux_g w p) 10) := by
  have c0 := (yl_0 hW).2
  have c5 := (yl_5 hW).2
  have k1 : ∀ n, yz_dn (yux_g w p) (n + 1) = if yux_g w p n = true then nI n else yz_dn (yux_g w p) n := fun n => rfl
  refine yp_bd _ (yc_trial hW hD (by decide)) (fun z0 hz0 => ?_)
  obtain ⟨-, h00, ⟨t1, t2, t3, t4, t5, t6⟩, -⟩ := hz0
  refine yp_bd (fun t => (∃ z, t = Sum.inl z ∧ yz_dn (yux_g w p) 10 = -1) ∨ ∃ r, t = Sum.inr r ∧ r.1 = yz_dn (yux_g w p) 10) (yp_it (fun s : sn_S × Int32 => s.1.1 38 0 = nI (sp_n w 0) ∧ (∃ y, yd_T 38 s.1 (dy_keenSet (hs_day w) p y)) ∧ ((∃ n, n < 10 ∧ s.2 = nI n ∧ yz_dn (yux_g w p) 10 = yz_dn (yux_g w p) (n + 1)) ∨ (s.2 = -1 ∧ yz_dn (yux_g w p) 10 = -1))) (fun s hs => ?_) _ _ ⟨h00, ⟨w (11 + 2 * p), t1, t2, t3, t4, fun x hx => ?_, t6⟩, Or.inl ⟨9, by decide, rfl, rfl⟩⟩) (fun t ht => ?_)
  · obtain ⟨z, x2⟩ := s
    obtain ⟨h0, ⟨y, t1, t2, t3, t4, t5, t6⟩, h⟩ := hs
    have h0 : z.1 38 0 = nI (sp_n w 0) := h0
    show yp (BX8_dull_25 z (nI p) x2) _
    unfold BX8_dull_25
    rcases h with ⟨n, hn, e2, ed⟩ | ⟨e2, ed⟩
    · have e2 : x2 = nI n := e2
      subst e2
      rw [if_neg (nI_pos (show n < 2 ^ 31 by omega)), nI_clamp (show p < 2 ^ 31 by omega)]
      refine yp_gd (fun _ => yp_le (fun y2 ey => ?_))
      have yr0 : ∀ a, a ≠ 40 → y2.1 a = z.1 a := fun a ha => by rw [ey]; exact pI_ne ha
      have hT2 : yd_T 38 y2 (dy_keenSet (hs_day w) p (nI n)) := by
        refine ⟨(congrFun (yr0 38 (by decide)) 1).trans t1, (congrFun (yr0 38 (by decide)) 2).trans t2, (congrFun (yr0 38 (by decide)) 3).trans t3, fun k hk => (congrFun (yr0 39 (by decide)) k).trans (t4 k hk), fun x hx => ?_, fun k hk => ?_⟩
        · have g := t5 x hx
          refine ⟨?_, (congrFun (yr0 41 (by decide)) x).trans g.2.1, (congrFun (yr0 42 (by decide)) x).trans g.2.2.1, (congrFun (yr0 43 (by decide)) x).trans g.2.2.2⟩
          show y2.1 40 x = (if x = p then nI n else w (11 + 2 * x))
          by_cases e : x = p
          · rw [if_pos e, e, ey]; exact pI_self
          · have g1 : z.1 40 x = (if x = p then y else w (11 + 2 * x)) := g.1
            rw [if_neg e] at g1
            rw [if_neg e, ey]
            exact (pI_slot e).trans g1
        · rw [yr0 44 (by decide)]
          exact t6 k hk
      refine yp_bd _ (yc_whole ((congrFun (yr0 38 (by decide)) 0).trans h0) c0 hT2 (hs_ok hW)) (fun v hv => yp_gd (fun _ => ?_))
      obtain ⟨⟨f1, f2⟩, hL⟩ := hv
      rw [show sn_I v (38 + 10) p = _ from hL.2 p hp]
      refine yp_ite (fun c => yp_some (Or.inr ⟨_, rfl, ?_⟩)) (fun c => yp_lt (yp_some ⟨(congrFun (f1 38 (by omega)) 0).trans ((congrFun (yr0 38 (by decide)) 0).trans h0), ⟨_, yd_Tc (fun a a1 a2 => f1 a (by omega)) hT2⟩, ?_⟩))
      · have e : yux_g w p n = true := decide_eq_true c
        rw [k1 n, e, if_pos rfl] at ed
        exact ed.symm
      · have e : yux_g w p n = false := decide_eq_false c
        rw [k1 n, e, if_neg (by decide)] at ed
        match n, hn, ed with
        | 0, _, ed => exact Or.inr ⟨by show nI 0 + (-1 : Int32) = -1; decide, ed⟩
        | m + 1, hm, ed => exact Or.inl ⟨m, by omega, yi_m1 m (by omega), ed⟩
    · have e2 : x2 = -1 := e2
      subst e2
      rw [if_pos (by decide)]
      exact yp_some (Or.inl ⟨z, rfl, ed⟩)
  · have g := t5 x hx
    refine ⟨?_, g.2⟩
    show z0.1 40 x = (if x = p then w (11 + 2 * p) else w (11 + 2 * x))
    by_cases e : x = p
    · rw [if_pos e, ← e]; exact g.1
    · rw [if_neg e]; exact g.1
  · rcases ht with ⟨z, e, h⟩ | ⟨r, e, h⟩
    · subst e
      show yp (BX8_dull_66 z) _
      unfold BX8_dull_66
      exact yp_some h.symm
    · subst e
      exact yp_some h
theorem yz_26 {a : Int32} (hK : zK σ τ) : yr (fX8_dull σ a) (fX9_dull τ a) (fun r s => r.1 = s.1) := by
  obtain ⟨-, ⟨p1, p2, p3⟩, -⟩ := yK_n hK
  have hW := hK.2.1.1
  unfold fX8_dull fX9_dull
  rw [c_isPerson, p1, m_isPerson (by rw [p2]; exact nI_pos' (by omega))]
  by_cases cp : 0 ≤ a ∧ a < τ.1 1 5
  · obtain ⟨p, hp, ep⟩ := yK_p (by omega) p2 cp
    subst ep
    rw [if_pos cp]
    refine yr_eq2 (yz_dn (yux_g (τ.1 1) p) 10) (yp_bs rfl ?_) (yp_bs rfl ?_)
    · rw [if_neg (by decide)]
      exact yc_dull hW hK.2.2.2 hp
    · rw [if_neg (by decide), yi_11]
      refine yp_bd _ (ym_quietD (w := τ.1 1) (g := yux_g (τ.1 1) p) (by omega) (fun _ => rfl) (fun y n hn hy ey => ?_)) (fun r hr => yp_some hr)
      have hW2 : jW (y.1 1) := jW_set hW hy ey (Or.inr ⟨p, by omega, Or.inl ⟨rfl, by omega⟩⟩)
      have s5 : sp_n (y.1 1) 5 = sp_n (τ.1 1) 5 := sp_mv (hy 5 (by omega))
      have s0 : sp_n (y.1 1) 0 = sp_n (τ.1 1) 0 := sp_mv (hy 0 (by omega))
      refine yp_w (ym_asks rfl hW2) (fun t ht => ⟨fun k hk => (congrFun ht.2.1 k).trans (hy k hk), fun c => absurd c (yl_ne (by omega)), fun _ => ?_⟩)
      rw [nI_clamp (show p < 2 ^ 31 by omega), show sn_I t.2 10 p = dy_sn (hs_day (y.1 1)) (sp_n (y.1 1) 0) p from yz_msn hW2 ht.2 (by omega), s0, dy_snP (yux_EP (w := τ.1 1) hy ey (by omega)) (Nat.le_refl _) (show p < sp_n (y.1 1) 5 by omega)]
      unfold yux_g
      rw [decide_eq_true_eq]
  · rw [if_neg cp]
    refine yr_eq2 (-2 : Int32) (yp_bs rfl ?_) (yp_bs rfl ?_)
    · rw [if_pos rfl]; exact yp_some rfl
    · rw [if_pos rfl]; exact yp_some rfl
end
