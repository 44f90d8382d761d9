/-! what a policy pays, of a day lived M minutes only (by wip/gen/genh1.py from e4, e5) -/
section
variable {σ τ u z : sn_S} {w : Nat → Int32} {q M : Nat} {l s h : Int32}
def yj_mM (w : Nat → Int32) (M q k : Nat) : Bool := yl_w w q k && decide (k < M)
theorem yj_half {m : Nat} (hw : ∀ k, k < 32 → yj_mM w M q k = (yl_w w q k && decide (k < M))) (hm : m < M) (hM : M ≤ 30) : (h &&& dy_set (yj_mM w M q) 32) &&& yl_A (nI m) = h &&& (yl_A (nI m) &&& dy_set (yl_w w q) 32) := by
  refine yb_ext (fun k hk => ?_)
  have e : sp_bit (yl_A (nI m)) k = decide (k < m) := yb_low m (by omega) k hk
  rw [yb_and _ _ hk, yb_and _ _ hk, yb_and _ _ hk, yb_and _ _ hk, yb_Vb hk, yb_Vb hk, e, hw k hk]
  by_cases g : k < m
  · rw [decide_eq_true g, decide_eq_true (show k < M by omega), Bool.and_true, Bool.and_true, Bool.true_and]
  · rw [decide_eq_false g, Bool.and_false, Bool.false_and, Bool.and_false]
theorem yj_win (c0 : M ≤ 30) (hW : jW w) (hu : u.1 1 = w) (h22 : u.1 0 22 = nI (M) - 1) (hq : q < sp_n w 8) : yp (fX9_windowOf u (nI q)) (fun v => v = dy_set (yj_mM w M q) 32) := by
  obtain ⟨-, ⟨a1, a2⟩, ⟨b1, b2⟩, hab, -⟩ := yl_p hW hq
  unfold fX9_windowOf
  refine yp_bd _ (ym_of hW hu hq 1 (by decide) rfl) (fun t ht => ?_)
  rw [ht, show w (49 + 1 + 5 * q) = nI (sp_n w (50 + 5 * q)) from a1]
  refine yp_bd (fun v => v = dy_set (yj_mM w M q) 32) (yp_it (fun s : Int32 × Int32 => ∃ m, sp_n w (50 + 5 * q) ≤ m ∧ m ≤ sp_n w (51 + 5 * q) + 1 ∧ (m ≤ M ∨ m = sp_n w (50 + 5 * q)) ∧ s.2 = nI m ∧ ∀ k, k < 32 → sp_bit s.1 k = decide (sp_n w (50 + 5 * q) ≤ k ∧ k < m)) (fun s hs => ?_) _ _ ⟨sp_n w (50 + 5 * q), Nat.le_refl _, by omega, Or.inr rfl, rfl, fun k hk => ?_⟩) (fun v hv => ?_)
  · obtain ⟨v, x⟩ := s
    obtain ⟨m, h1, h2, h3, ex, hb⟩ := hs
    have ex : x = nI m := ex
    subst ex
    have hb : ∀ k, k < 32 → sp_bit v k = decide (sp_n w (50 + 5 * q) ≤ k ∧ k < m) := hb
    show yp (BX9_windowOf_9 u (nI q) v (nI m)) _
    unfold BX9_windowOf_9
    refine yp_bd _ (ym_of hW hu hq 2 (by decide) rfl) (fun t ht => ?_)
    rw [ht, show w (49 + 2 + 5 * q) = nI (sp_n w (51 + 5 * q)) from b1, show sn_I u 0 22 = _ from h22]
    refine yp_ite (fun c => yp_some (yb_V fun k hk => ?_)) (fun c => yp_ite (fun c2 => yp_some (yb_V fun k hk => ?_)) (fun c2 => ?_))
    · have c := (nI_ltI (by omega) (by omega)).mp c
      rw [hb k hk]
      unfold yj_mM yl_w
      rw [Bool.eq_iff_iff]
      simp only [Bool.and_eq_true, decide_eq_true_eq]
      omega
    · have c2 := (yi_last c0 (by omega)).mp c2
      rw [hb k hk]
      unfold yj_mM yl_w
      rw [Bool.eq_iff_iff]
      simp only [Bool.and_eq_true, decide_eq_true_eq]
      have c := fun h => c ((nI_ltI (by omega) (by omega)).mpr h)
      omega
    · have c : ¬ sp_n w (51 + 5 * q) < m := fun h => c ((nI_ltI (by omega) (by omega)).mpr h)
      have c2 : ¬ M ≤ m := fun h => c2 ((yi_last c0 (by omega)).mpr h)
      refine yp_lt (yp_lt (yp_some ⟨m + 1, by omega, by omega, Or.inl (by omega), nI_1 m, fun k hk => ?_⟩))
      show sp_bit (v ||| ((1 : Int32) <<< (nI m &&& 31))) k = _
      rw [yb_or1 _ (by omega) hk, hb k hk, Bool.eq_iff_iff]
      simp only [Bool.or_eq_true, decide_eq_true_eq]
      omega
  · show sp_bit 0 k = _
    rw [yb_z k hk, decide_eq_false (by omega)]
  · unfold BX9_windowOf_39
    exact yp_some hv
def yj_X (M : Nat) (u : sn_S) (w : Nat → Int32) (l : Int32) (S H : Nat → Int32) : Prop := u.1 1 = w ∧ (∀ p, p < sp_n w 5 → u.1 10 p = S p ∧ u.1 8 p = H p) ∧ u.1 0 18 = hs_gust w (sp_n w 6) ∧ u.1 0 20 = l ∧ u.1 0 22 = nI (M) - 1
theorem yj_Xfr {S H : Nat → Int32} (h : yl_fr u z) (g : yj_X M u w l S H) : yj_X M z w l S H :=
  ⟨(h.1 1 (by decide) (by decide)).trans g.1, fun p hp => ⟨(congrFun (h.1 10 (by decide) (by decide)) p).trans (g.2.1 p hp).1, (congrFun (h.1 8 (by decide) (by decide)) p).trans (g.2.1 p hp).2⟩, (h.2 18 (by decide)).trans g.2.2.1, (h.2 20 (by decide)).trans g.2.2.2.1, (h.2 22 (by decide)).trans g.2.2.2.2⟩
def yj_I (M : Nat) (w : Nat → Int32) (l : Int32) (q : Nat) (s h x : Int32) (u : sn_S) (t : sn_S × Int32 × Int32 × Int32) : Prop := ∃ n, n ≤ (if l = 2 then 3 else 1) ∧ t.2.2.2 = nI n ∧ yl_fr u t.1 ∧ t.1.1 0 30 = yl_fst (yl_C w l q s) 30 ∧ t.2.2.1 = nI (n * yl_a w l q s h) ∧ (∀ k, k < 32 → sp_bit t.2.1 k = true → sp_bit (yl_C w l q s) k = true) ∧ (n = 0 → t.2.1 = yl_C w l q s) ∧ yb_pop t.2.1 30 + n = yb_pop (yl_C w l q s) 30 ∧ yl_pd (M) x u t.1 (n * yl_a w l q s h)
theorem yj_claimI {S H : Nat → Int32} {x : Int32} {p : Nat} (c0 : M ≤ 30) (hW : jW w) (hq : q < sp_n w 8) (hp : p < sp_n w 5) (hX : yj_X M u w l S H) (hs : ∀ k, M ≤ k → k < 32 → sp_bit (S p) k = false) (t : sn_S × Int32 × Int32 × Int32) (ht : yj_I M w l q (S p) (H p) x u t) : yp (LX9_claimOf_63 (nI q) (nI p) x (nI (if l = 2 then 3 else 1)) t) (yp_sum (yj_I M w l q (S p) (H p) x u) (fun r => yl_fr u r.1 ∧ r.1.1 0 30 = yl_fst (yl_C w l q (S p)) 30 ∧ r.2 = nI (yl_v w l q (S p) (H p)) ∧ yl_pd (M) x u r.1 (yl_v w l q (S p) (H p)))) := by
  have c5 := (yl_5 hW).2
  obtain ⟨-, -, -, -, ⟨s1, s2⟩, -⟩ := yl_p hW hq
  obtain ⟨z, st, sm, x7⟩ := t
  obtain ⟨n, hn, ex, hf, h30, em, hb, h0, hpop, hpd⟩ := ht
  have ex : x7 = nI n := ex
  subst ex
  have em : sm = nI (n * yl_a w l q (S p) (H p)) := em
  have hf : yl_fr u z := hf
  have h30 : z.1 0 30 = yl_fst (yl_C w l q (S p)) 30 := h30
  have hb : ∀ k, k < 32 → sp_bit st k = true → sp_bit (yl_C w l q (S p)) k = true := hb
  have h0 : n = 0 → st = yl_C w l q (S p) := h0
  have hpop : yb_pop st 30 + n = yb_pop (yl_C w l q (S p)) 30 := hpop
  have hpd : yl_pd (M) x u z (n * yl_a w l q (S p) (H p)) := hpd
  have hZ := yj_Xfr hf hX
  have m3 : (if l = 2 then 3 else 1) ≤ 3 := by by_cases c : l = 2 <;> simp [c]
  have stM : ∀ k, M ≤ k → k < 32 → sp_bit st k = false := fun k h1 h2 => by
    cases g : sp_bit st k with
    | false => rfl
    | true =>
      have := hb k h2 g
      rw [yl_Cs hs h1 h2] at this
      cases this
  show yp (BX9_claimOf_63 z (nI q) (nI p) x st sm (nI (if l = 2 then 3 else 1)) (nI n)) _
  unfold BX9_claimOf_63
  have ends : n = min (if l = 2 then 3 else 1) (yb_pop (yl_C w l q (S p)) 30) → yp (some (Sum.inr (z, sm)) : Option ((sn_S × Int32 × Int32 × Int32) ⊕ (sn_S × Int32))) (yp_sum (yj_I M w l q (S p) (H p) x u) (fun r => yl_fr u r.1 ∧ r.1.1 0 30 = yl_fst (yl_C w l q (S p)) 30 ∧ r.2 = nI (yl_v w l q (S p) (H p)) ∧ yl_pd (M) x u r.1 (yl_v w l q (S p) (H p)))) := fun e => by
    have ev : yl_v w l q (S p) (H p) = n * yl_a w l q (S p) (H p) := by
      unfold yl_v
      rw [← e]
    refine yp_some ⟨hf, h30, ?_, ?_⟩
    · rw [ev]; exact em
    · rw [ev]; exact hpd
  refine yp_ite (fun c => ?_) (fun c => yp_ite (fun c2 => ?_) (fun c2 => ?_))
  · have c := (nI_leI (by omega) (by omega)).mp c
    exact ends (by rw [Nat.min_eq_left (by omega)]; omega)
  · have e : yb_pop st 30 = 0 := by
      rw [c2]
      exact yb_popz 30 (fun k hk => yb_z k (by omega))
    exact ends (by rw [Nat.min_eq_right (by omega)]; omega)
  have c : ¬ (if l = 2 then 3 else 1) ≤ n := fun g => c ((nI_leI (by omega) (by omega)).mpr g)
  refine yp_bd _ (yb_firstOf st) (fun r hr => ?_)
  have hm : ∃ m, m < M ∧ sp_bit st m = true ∧ r = nI m := by
    rcases hr with ⟨-, g⟩ | ⟨m, -, m1, m2, -, m4⟩
    · obtain ⟨k, k1, k2, -⟩ := yb_ex c2
      rcases Nat.lt_or_ge k 30 with g2 | g2
      · rw [g k (Nat.zero_le _) g2] at k2; cases k2
      · rw [stM k (by omega) k1] at k2; cases k2
    · refine ⟨m, ?_, m2, m4⟩
      rcases Nat.lt_or_ge m (M) with g | g
      · exact g
      · rw [stM m g (by omega)] at m2; cases m2
  obtain ⟨m, m1, m2, m4⟩ := hm
  have hr0 : n = 0 → nI m = yl_fst (yl_C w l q (S p)) 30 := fun e => by
    rw [← m4]
    rw [h0 e] at hr
    exact yb_F1 hr (yl_F _)
  rw [m4]
  refine yp_lt ?_
  generalize hy : st &&& (((1 : Int32) <<< (nI m &&& 31)) ^^^ (-1 : Int32)) = y
  have yb : ∀ k, k < 32 → sp_bit y k = (sp_bit st k && !decide (k = m)) := fun k hk => by
    rw [← hy, yb_and _ _ hk, yb_xor1 _ hk, yb_1k (by omega) hk]
  have ypop := yb_pop1 m2 yb 30 (by decide)
  rw [if_pos (show m < 30 by omega)] at ypop
  have k152 : yp (BX9_claimOf_152 z (nI q) (nI p) x y sm (nI (if l = 2 then 3 else 1)) (nI n) (nI m) (nI (yl_a w l q (S p) (H p)))) (yp_sum (yj_I M w l q (S p) (H p) x u) (fun r => yl_fr u r.1 ∧ r.1.1 0 30 = yl_fst (yl_C w l q (S p)) 30 ∧ r.2 = nI (yl_v w l q (S p) (H p)) ∧ yl_pd (M) x u r.1 (yl_v w l q (S p) (H p)))) := by
    have es : sm + nI (yl_a w l q (S p) (H p)) = nI ((n + 1) * yl_a w l q (S p) (H p)) := by
      rw [em, nI_add, Nat.succ_mul]
    have hb2 : ∀ k, k < 32 → sp_bit y k = true → sp_bit (yl_C w l q (S p)) k = true := fun k hk g => by
      rw [yb k hk] at g
      exact hb k hk (Bool.and_eq_true _ _ ▸ g).1
    unfold BX9_claimOf_152 BX9_claimOf_177
    refine yp_lt (yp_ite (fun g => yp_lt (yp_some ⟨n + 1, by omega, nI_1 n, hf, h30, es, hb2, fun e => absurd e (by omega), ?_, fun g2 => absurd g g2⟩)) (fun g => yp_gd (fun _ => yp_gd (fun _ => yp_lt (yp_lt (yp_some ⟨n + 1, by omega, nI_1 n, ?_, ?_, es, hb2, fun e => absurd e (by omega), ?_, ?_⟩))))))
    · show yb_pop y 30 + (n + 1) = _
      omega
    · exact yl_frt hf ⟨fun a h1 h2 => pI_ne h2, fun k _ => congrFun (pI_ne (by decide)) k⟩
    · exact (congrFun (pI_ne (by decide)) 30).trans h30
    · show yb_pop y 30 + (n + 1) = _
      omega
    · intro g2 cc hcc
      obtain ⟨c', hc1, hc2⟩ := hpd g2 cc hcc
      refine ⟨fun k => if k = m then c' k + yl_a w l q (S p) (H p) else c' k, fun k hk => ?_, ?_⟩
      · rw [nI_clamp (show m < 2 ^ 31 by omega)]
        by_cases e : k = m
        · subst e
          show (sn_pI z 16 k (sn_I z 16 k + nI (yl_a w l q (S p) (H p)))).1 16 k = nI (if k = k then c' k + yl_a w l q (S p) (H p) else c' k)
          rw [if_pos rfl, pI_self, show sn_I z 16 k = _ from hc1 k hk]
          exact nI_add _ _
        · show (sn_pI z 16 m (sn_I z 16 m + nI (yl_a w l q (S p) (H p)))).1 16 k = nI (if k = m then c' k + yl_a w l q (S p) (H p) else c' k)
          rw [if_neg e, pI_slot e]
          exact hc1 k hk
      · rw [yn_up (f := c') (m := m) (a := yl_a w l q (S p) (H p)) (by rw [if_pos rfl]) (fun k hk => by rw [if_neg hk]), if_pos m1, hc2, Nat.succ_mul]
        omega
  have k127 : yl_a w l q (S p) (H p) = sp_n w (52 + 5 * q) → yp (BX9_claimOf_127 z (nI q) (nI p) x y sm (nI (if l = 2 then 3 else 1)) (nI n) (nI m)) (yp_sum (yj_I M w l q (S p) (H p) x u) (fun r => yl_fr u r.1 ∧ r.1.1 0 30 = yl_fst (yl_C w l q (S p)) 30 ∧ r.2 = nI (yl_v w l q (S p) (H p)) ∧ yl_pd (M) x u r.1 (yl_v w l q (S p) (H p)))) := fun e => by
    unfold BX9_claimOf_127 BX9_claimOf_128
    rw [if_pos rfl]
    refine yp_bd _ (ym_of hW hZ.1 hq 3 (by decide) rfl) (fun t ht => ?_)
    rw [ht, show w (49 + 3 + 5 * q) = nI (sp_n w (52 + 5 * q)) from s1, ← e]
    exact k152
  rw [show sn_I z 0 20 = _ from hZ.2.2.2.1]
  refine yp_ite (fun c3 => yp_gd (fun _ => yp_bd _ (yj_win c0 hW hZ.1 hZ.2.2.2.2 hq) (fun t9 h9 => ?_))) (fun c3 => k127 (by unfold yl_a; rw [if_neg (fun g => c3 g.1)]))
  have c1 : (if l = 2 then 3 else 1) = 1 := by rw [if_neg (fun g => absurd (c3.symm.trans g) (by decide))]
  have n0 : n = 0 := by omega
  have eh : (H p &&& dy_set (yj_mM w M q) 32) &&& yl_A (nI m) = H p &&& (yl_A (yl_fst (yl_C w l q (S p)) 30) &&& dy_set (yl_w w q) 32) := by
    rw [← hr0 n0]
    exact yj_half (M := M) (fun k _ => rfl) m1 c0
  unfold fX9_ahead
  refine yp_bs rfl ?_
  rw [h9, nI_clamp (show p < 2 ^ 31 by omega), show sn_I z 8 p = _ from (hZ.2.1 p hp).2, show ((1 : Int32) <<< (nI m &&& 31)) - (1 : Int32) = yl_A (nI m) from rfl, eh]
  refine yp_ite (fun c4 => k127 (by unfold yl_a; rw [if_neg (fun g => g.2 c4)])) (fun c4 => ?_)
  unfold BX9_claimOf_128
  rw [if_neg (by decide)]
  refine yp_bd _ (ym_of hW hZ.1 hq 3 (by decide) rfl) (fun t ht => ?_)
  have e : yl_a w l q (S p) (H p) = sp_n w (52 + 5 * q) / 2 := by
    unfold yl_a
    rw [if_pos ⟨c3, c4⟩]
  rw [ht, show w (49 + 3 + 5 * q) = nI (sp_n w (52 + 5 * q)) from s1, yi_d2 (by omega), ← e]
  exact k152
theorem yj_claim {S H : Nat → Int32} {x : Int32} {p : Nat} (c0 : M ≤ 30) (hW : jW w) (hq : q < sp_n w 8) (hp : p < sp_n w 5) (hX : yj_X M u w l S H) (hs : ∀ k, M ≤ k → k < 32 → sp_bit (S p) k = false) : yp (fX9_claimOf u (nI q) (nI p) x) (fun r => yl_fr u r.2 ∧ r.2.1 0 30 = yl_fst (yl_C w l q (S p)) 30 ∧ r.1 = nI (yl_v w l q (S p) (H p)) ∧ yl_pd (M) x u r.2 (yl_v w l q (S p) (H p))) := by
  have c5 := (yl_5 hW).2
  have k58 : ∀ (z : sn_S), yl_fr u z → z.1 16 = u.1 16 → z.1 0 30 = yl_fst (yl_C w l q (S p)) 30 → yp (BX9_claimOf_58 z (nI q) (nI p) x (yl_C w l q (S p)) (0 : Int32) (nI (if l = 2 then 3 else 1))) (fun r => yl_fr u r.2 ∧ r.2.1 0 30 = yl_fst (yl_C w l q (S p)) 30 ∧ r.1 = nI (yl_v w l q (S p) (H p)) ∧ yl_pd (M) x u r.2 (yl_v w l q (S p) (H p))) := fun z hf h16 h30 => by
    unfold BX9_claimOf_58
    refine yp_bd _ (yp_it (yj_I M w l q (S p) (H p) x u) (yj_claimI c0 hW hq hp hX hs) _ _ ⟨0, Nat.zero_le _, nI_0.symm, hf, h30, ?_, fun _ _ g => g, fun _ => rfl, rfl, fun _ cc hcc => ⟨cc, fun m hm => ?_, ?_⟩⟩) (fun r hr => ?_)
    · rw [Nat.zero_mul]; exact nI_0.symm
    · rw [show (z, yl_C w l q (S p), (0 : Int32), (0 : Int32)).1 = z from rfl, h16]
      exact hcc m hm
    · rw [Nat.zero_mul]; rfl
    · unfold BX9_claimOf_183
      exact yp_some hr
  have k33 : yp (BX9_claimOf_33 u (nI q) (nI p) x (yl_C w l q (S p))) (fun r => yl_fr u r.2 ∧ r.2.1 0 30 = yl_fst (yl_C w l q (S p)) 30 ∧ r.1 = nI (yl_v w l q (S p) (H p)) ∧ yl_pd (M) x u r.2 (yl_v w l q (S p) (H p))) := by
    unfold BX9_claimOf_33
    refine yp_bd _ (yb_firstOf _) (fun r hr => yp_lt ?_)
    have er : r = yl_fst (yl_C w l q (S p)) 30 := yb_F1 hr (yl_F _)
    have g := k58 (sn_pI u 0 30 r) ⟨fun a h0 h1 => pI_ne h0, fun k h0 => pI_slot h0⟩ (pI_ne (by decide)) (pI_self.trans er)
    rw [show sn_I (sn_pI u 0 30 r) 0 20 = l from (pI_slot (by decide)).trans hX.2.2.2.1]
    refine yp_ite (fun c => ?_) (fun c => ?_)
    · rw [if_pos c] at g; exact g
    · rw [if_neg c] at g; exact g
  unfold fX9_claimOf
  refine yp_gd (fun _ => yp_bd _ (yj_win c0 hW hX.1 hX.2.2.2.2 hq) (fun t ht => yp_lt ?_))
  rw [ht, nI_clamp (show p < 2 ^ 31 by omega), show sn_I u 10 p = _ from (hX.2.1 p hp).1, show sn_I u 0 20 = _ from hX.2.2.2.1, show sn_I u 0 18 = _ from hX.2.2.1]
  have em : ∀ k, k < 32 → (sp_bit (S p) k && yj_mM w M q k) = (sp_bit (S p) k && yl_w w q k) := fun k hk => by
    unfold yj_mM
    by_cases g : k < M
    · rw [decide_eq_true g, Bool.and_true]
    · rw [hs k (by omega) hk]; rfl
  refine yp_ite (fun c => yp_lt ?_) (fun c => ?_)
  · have e : (S p &&& dy_set (yj_mM w M q) 32) &&& (hs_gust w (sp_n w 6) ^^^ (-1 : Int32)) = yl_C w l q (S p) := yb_V (fun k hk => by
      rw [yb_and _ _ hk, yb_and _ _ hk, yb_Vb hk, yb_xor1 _ hk, em k hk, decide_eq_true c]
      rfl)
    rw [e]
    exact k33
  · have e : S p &&& dy_set (yj_mM w M q) 32 = yl_C w l q (S p) := yb_V (fun k hk => by
      rw [yb_and _ _ hk, yb_Vb hk, em k hk, decide_eq_false c]
      exact (Bool.and_true _).symm)
    rw [e]
    exact k33
end
