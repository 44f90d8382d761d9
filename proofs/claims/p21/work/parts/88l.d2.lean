/-! the class lives a day -/
/-- what a day of the class is told (its rows from q on) -/
def yd_T (q : Nat) (σ : sn_S) (i : dy_I) : Prop := σ.1 q 1 = nI (dy_P i) ∧ σ.1 q 2 = nI (dy_nN i) ∧ σ.1 q 3 = dy_no i ∧ (∀ m, m < 30 → σ.1 (q + 1) m = dy_dust i m) ∧ (∀ p, p < dy_P i → σ.1 (q + 2) p = dy_keen i p ∧ σ.1 (q + 3) p = dy_lim i p ∧ σ.1 (q + 4) p = dy_held i p ∧ σ.1 (q + 5) p = dy_snuf i p) ∧ ∀ k, k < dy_nN i → σ.1 (q + 6) (2 * k) = nI (dy_na i k) ∧ σ.1 (q + 6) (2 * k + 1) = nI (dy_nb i k)
theorem yd_Tc {q : Nat} {σ z : sn_S} {i : dy_I} (h : ∀ a, q ≤ a → a < q + 7 → z.1 a = σ.1 a) (hT : yd_T q σ i) : yd_T q z i := by
  unfold yd_T
  rw [h q (by omega) (by omega), h (q + 1) (by omega) (by omega), h (q + 2) (by omega) (by omega), h (q + 3) (by omega) (by omega), h (q + 4) (by omega) (by omega), h (q + 5) (by omega) (by omega), h (q + 6) (by omega) (by omega)]
  exact hT
section
variable {q m : Nat} {σ : sn_S} {i : dy_I}
def yd_n (q m : Nat) (σ z : sn_S) : Prop := (∀ a, a ≠ q + 8 → z.1 a = σ.1 a) ∧ z.2 = σ.2 ∧ ∀ k, k < 6 * m → z.1 (q + 8) k = σ.1 (q + 8) k
theorem yd_nw {z : sn_S} {k : Nat} {v : Int32} (hk : 6 * m ≤ k) (h : yd_n q m σ z) : yd_n q m σ (sn_pI z (q + 8) k v) :=
  ⟨fun a ha => (pI_ne ha).trans (h.1 a ha), h.2.1, fun j hj => (pI_slot (by omega)).trans (h.2.2 j hj)⟩
/-- one net: what comes to its two ends -/
theorem yc_net {z : sn_S} {a b k : Nat} {A : Int32} (hm : m < 30) (ha : a < 6) (hb : b < 6) (hab : a ≠ b) {s t : Int32} (h1 : z.1 (q + 8) (6 * m + a) = s) (h2 : z.1 (q + 8) (6 * m + b) = t) {w : Int32} {E : sn_S → Prop} :
    yp (BX0_tickleByNets_121 z q (nI (6 * m)) A (nI k) (nI a) (nI b) (nI (6 * m) + nI a) (sn_I z (q + 8) (nI (6 * m) + nI a).toNatClampNeg) w) (yp_sum (fun s' => s'.2 = nI (k + 1) ∧ s'.1 = sn_pI (sn_pI z (q + 8) (6 * m + a) (s + w)) (q + 8) (6 * m + b) (t + (if sp_bit A a = true then 5 else 0))) E) := by
  have i1 : (nI (6 * m) + nI a).toNatClampNeg = 6 * m + a := by rw [nI_add, nI_clamp (by omega)]
  have i2 : (nI (6 * m) + nI b).toNatClampNeg = 6 * m + b := by rw [nI_add, nI_clamp (by omega)]
  have e1 : sn_I z (q + 8) (6 * m + a) = s := h1
  have e2 : sn_I (sn_pI z (q + 8) (6 * m + a) (s + w)) (q + 8) (6 * m + b) = t := (pI_slot (by omega)).trans h2
  unfold BX0_tickleByNets_121
  rw [i1, i2, e1]
  refine yp_gd (fun _ => yp_lt (yp_gd (fun _ => ?_)))
  rw [e2, yb_c]
  refine yp_bit (fun c => ?_) (fun c => ?_)
  · rw [if_neg (by decide)]
    unfold BX0_tickleByNets_147 BX0_tickleByNets_149
    rw [i2]
    refine yp_gd (fun _ => yp_lt (yp_lt (yp_some ⟨nI_1 k, ?_⟩)))
    rw [if_pos c]
  · rw [if_pos rfl]
    unfold BX0_tickleByNets_147 BX0_tickleByNets_149
    rw [i2]
    refine yp_gd (fun _ => yp_lt (yp_lt (yp_some ⟨nI_1 k, ?_⟩)))
    rw [if_neg (by rw [c]; decide)]
theorem y5_1 (n : Nat) : (5 : Int32) * nI n + 5 = 5 * nI (n + 1) := by
  rw [yi_5, yi_5]
  exact nI_add _ 5
theorem yc_loop (hm : m < 30) (hT : yd_T q σ i) (ok : dy_ok i) {A : Int32} {z0 : sn_S} (h0 : yd_n q m σ z0) (hz : ∀ p, p < dy_P i → z0.1 (q + 8) (6 * m + p) = 0) : yp (sn_it (LX0_tickleByNets_55 q (nI (6 * m)) A) 5000 (z0, (0 : Int32))) (fun z => yd_n q m σ z ∧ ∀ p, p < dy_P i → z.1 (q + 8) (6 * m + p) = dy_by i A p) := by
  refine yp_for (dy_nN i) (fun k s => s.2 = nI k ∧ yd_n q m σ s.1 ∧ ∀ p, p < dy_P i → s.1.1 (q + 8) (6 * m + p) = 5 * nI (dy_cnt (dy_na i) (dy_nb i) (dy_no i) p A k)) (fun k s hk hs => ?_) (fun s hs => ?_) ⟨nI_0.symm, h0, fun p hp => by rw [hz p hp]; exact (show (5 : Int32) * nI 0 = 0 by decide).symm⟩
  · obtain ⟨z, x⟩ := s
    obtain ⟨ex, hn, hc⟩ := hs
    have ex : x = nI k := ex
    subst ex
    have hn : yd_n q m σ z := hn
    have hc : ∀ p, p < dy_P i → z.1 (q + 8) (6 * m + p) = 5 * nI (dy_cnt (dy_na i) (dy_nb i) (dy_no i) p A k) := hc
    have hN := ok.2.1
    obtain ⟨ha, hb, hab⟩ := ok.2.2 k hk
    have e2 : sn_I z q 2 = nI (dy_nN i) := (congrFun (hn.1 q (by omega)) 2).trans hT.2.1
    have e3 : sn_I z q 3 = dy_no i := (congrFun (hn.1 q (by omega)) 3).trans hT.2.2.1
    have e6 := hT.2.2.2.2.2 k hk
    have ea : sn_I z (q + 6) (2 * k) = nI (dy_na i k) := (congrFun (hn.1 (q + 6) (by omega)) _).trans e6.1
    have eb : sn_I z (q + 6) (2 * k + 1) = nI (dy_nb i k) := (congrFun (hn.1 (q + 6) (by omega)) _).trans e6.2
    show yp (BX0_tickleByNets_55 z q (nI (6 * m)) A (nI k)) _
    unfold BX0_tickleByNets_55
    rw [e2, e3, if_neg (nI_ge hk (by omega))]
    refine yp_ite (fun c => ?_) (fun c => ?_)
    · unfold BX0_tickleByNets_149
      refine yp_lt (yp_some ⟨nI_1 k, hn, fun p hp => ?_⟩)
      show z.1 (q + 8) (6 * m + p) = 5 * nI (dy_cnt (dy_na i) (dy_nb i) (dy_no i) p A k + if _ then 1 else 0)
      rw [if_neg (fun h => h.1 c)]
      exact hc p hp
    · have i0 : ((2 : Int32) * nI k).toNatClampNeg = 2 * k := by rw [yi_2, nI_clamp (by omega)]
      have i1 : ((2 : Int32) * nI k + 1).toNatClampNeg = 2 * k + 1 := by rw [yi_2, nI_1, nI_clamp (by omega)]
      refine yp_gd (fun _ => yp_lt (yp_gd (fun _ => yp_lt (yp_gd (fun _ => ?_)))))
      rw [i0, i1, ea, eb, yb_c]
      have fin : ∀ (w : Int32), (w = if sp_bit A (dy_nb i k) = true then 5 else 0) → yp (BX0_tickleByNets_121 z q (nI (6 * m)) A (nI k) (nI (dy_na i k)) (nI (dy_nb i k)) (nI (6 * m) + nI (dy_na i k)) (sn_I z (q + 8) (nI (6 * m) + nI (dy_na i k)).toNatClampNeg) w) (yp_sum (fun s' : sn_S × Int32 => s'.2 = nI (k + 1) ∧ yd_n q m σ s'.1 ∧ ∀ p, p < dy_P i → s'.1.1 (q + 8) (6 * m + p) = 5 * nI (dy_cnt (dy_na i) (dy_nb i) (dy_no i) p A (k + 1))) (fun _ => False)) := fun w hw => by
        refine yp_w (yc_net (E := fun _ => False) hm ha hb hab rfl rfl) (fun o ho => ?_)
        cases o with
        | inr t => exact ho
        | inl s' =>
          obtain ⟨u, y⟩ := s'
          obtain ⟨ey, eu⟩ := ho
          refine ⟨ey, ?_, fun p hp => ?_⟩
          · rw [show u = _ from eu]
            exact yd_nw (by omega) (yd_nw (by omega) hn)
          · show u.1 (q + 8) (6 * m + p) = 5 * nI (dy_cnt (dy_na i) (dy_nb i) (dy_no i) p A k + if _ then 1 else 0)
            rw [show u = _ from eu]
            by_cases cb : dy_nb i k = p
            · subst cb
              rw [pI_self, hc _ hp]
              by_cases x : sp_bit A (dy_na i k) = true
              · rw [if_pos x, if_pos ⟨c, Or.inr ⟨rfl, x⟩⟩, y5_1]
              · rw [if_neg x, if_neg (fun h => h.2.elim (fun g => hab g.1) (fun g => x g.2)), Int32.add_zero]
                rfl
            · rw [pI_slot (by omega)]
              by_cases ca : dy_na i k = p
              · subst ca
                rw [pI_self, hc _ hp, hw]
                by_cases x : sp_bit A (dy_nb i k) = true
                · rw [if_pos x, if_pos ⟨c, Or.inl ⟨rfl, x⟩⟩, y5_1]
                · rw [if_neg x, if_neg (fun h => h.2.elim (fun g => x g.2) (fun g => cb g.1)), Int32.add_zero]
                  rfl
              · rw [pI_slot (by omega), if_neg (fun h => h.2.elim (fun g => ca g.1) (fun g => cb g.1))]
                exact hc p hp
      refine yp_bit (fun x => ?_) (fun x => ?_)
      · rw [if_neg (by decide)]
        exact fin 5 (by rw [if_pos x])
      · rw [if_pos rfl]
        exact fin 0 (by rw [if_neg (by rw [x]; decide)])
  · obtain ⟨z, x⟩ := s
    obtain ⟨ex, hn, hc⟩ := hs
    have ex : x = nI (dy_nN i) := ex
    subst ex
    have hn : yd_n q m σ z := hn
    have hN := ok.2.1
    have e2 : sn_I z q 2 = nI (dy_nN i) := (congrFun (hn.1 q (by omega)) 2).trans hT.2.1
    show yp (BX0_tickleByNets_55 z q (nI (6 * m)) A (nI (dy_nN i))) _
    unfold BX0_tickleByNets_55
    rw [e2, if_pos (nI_le (Nat.le_refl _) (by omega))]
    exact yp_some ⟨hn, hc⟩
theorem yc_nets (hm : m < 30) (hT : yd_T q σ i) (ok : dy_ok i) : yp (fX0_tickleByNets σ q (nI m)) (fun z => yd_n q m σ z ∧ ∀ p, p < dy_P i → z.1 (q + 8) (6 * m + p) = dy_by i (if m = 0 then 0 else σ.1 (q + 9) (m - 1)) p) := by
  have hP := ok.1
  unfold fX0_tickleByNets
  refine yp_lt ?_
  rw [yi_6]
  refine yp_bd (fun z => yd_n q m σ z ∧ ∀ p, p < dy_P i → z.1 (q + 8) (6 * m + p) = 0) (yp_for (dy_P i) (fun k s => s.2 = nI k ∧ yd_n q m σ s.1 ∧ ∀ p, p < k → s.1.1 (q + 8) (6 * m + p) = 0) (fun k s hk hs => ?_) (fun s hs => ?_) ⟨nI_0.symm, ⟨fun _ _ => rfl, rfl, fun _ _ => rfl⟩, fun p hp => absurd hp (by omega)⟩) (fun z hz => ?_)
  · obtain ⟨z, x⟩ := s
    obtain ⟨ex, hn, hc⟩ := hs
    have ex : x = nI k := ex
    subst ex
    have hn : yd_n q m σ z := hn
    have e1 : sn_I z q 1 = nI (dy_P i) := (congrFun (hn.1 q (by omega)) 1).trans hT.1
    show yp (BX0_tickleByNets_7 z q (nI m) (nI (6 * m)) (nI k)) _
    unfold BX0_tickleByNets_7
    rw [e1, if_neg (nI_ge hk (by omega)), nI_add, nI_clamp (show 6 * m + k < 2 ^ 31 by omega)]
    refine yp_gd (fun _ => yp_lt (yp_lt (yp_some ⟨nI_1 k, yd_nw (by omega) hn, fun p hp => ?_⟩)))
    show (sn_pI z (q + 8) (6 * m + k) 0).1 (q + 8) (6 * m + p) = 0
    by_cases c : p = k
    · subst c
      exact pI_self
    · rw [pI_slot (by omega)]
      exact hc p (by omega)
  · obtain ⟨z, x⟩ := s
    obtain ⟨ex, hn, hc⟩ := hs
    have ex : x = nI (dy_P i) := ex
    subst ex
    have hn : yd_n q m σ z := hn
    have e1 : sn_I z q 1 = nI (dy_P i) := (congrFun (hn.1 q (by omega)) 1).trans hT.1
    show yp (BX0_tickleByNets_7 z q (nI m) (nI (6 * m)) (nI (dy_P i))) _
    unfold BX0_tickleByNets_7
    rw [e1, if_pos (nI_le (Nat.le_refl _) (by omega))]
    exact yp_some ⟨hn, hc⟩
  · obtain ⟨hn, h0⟩ := hz
    have key : ∀ A : Int32, yp (BX0_tickleByNets_46 z q (nI (6 * m)) A) (fun z => yd_n q m σ z ∧ ∀ p, p < dy_P i → z.1 (q + 8) (6 * m + p) = dy_by i A p) := fun A => by
      unfold BX0_tickleByNets_46
      refine yp_ite (fun c => yp_some ⟨hn, fun p hp => ?_⟩) (fun _ => yp_bd _ (yc_loop hm hT ok hn h0) (fun u hu => ?_))
      · rw [h0 p hp, c, dy_by0 ok]
      · unfold BX0_tickleByNets_155
        exact yp_some hu
    unfold BX0_tickleByNets_30
    by_cases c : m = 0
    · subst c
      rw [if_pos nI_0, if_pos rfl]
      exact key 0
    · rw [if_neg (fun z => c ((yi_0 (by omega)).mp z)), if_neg c, yi_s1 (by omega), nI_clamp (show m - 1 < 2 ^ 31 by omega)]
      refine yp_gd (fun _ => ?_)
      have e9 : sn_I z (q + 9) (m - 1) = σ.1 (q + 9) (m - 1) := congrFun (hn.1 (q + 9) (by omega)) _
      rw [e9]
      exact key _
theorem yc_comes {p : Nat} (hm : m < 30) (hp : p < 6) : yp (fX0_comesTo σ q (nI p) (nI m)) (fun v => v = (σ.1 (q + 2) p * σ.1 (q + 1) m + σ.1 (q + 8) (6 * m + p)) + (if sp_bit (σ.1 (q + 5) p) m = true then 40 else 0)) := by
  have key : ∀ w : Int32, yp (BX0_comesTo_19 σ q (nI p) (nI m) w) (fun v => v = (σ.1 (q + 2) p * σ.1 (q + 1) m + σ.1 (q + 8) (6 * m + p)) + w) := fun w => by
    unfold BX0_comesTo_19 fX0_cameAt
    rw [yi_6, nI_add, nI_clamp (show 6 * m + p < 2 ^ 31 by omega), nI_clamp (show m < 2 ^ 31 by omega), nI_clamp (show p < 2 ^ 31 by omega)]
    exact yp_gd (fun _ => yp_gd (fun _ => yp_bd _ (yp_gd (fun _ => yp_eq rfl)) (fun u hu => yp_some (by rw [hu]; rfl))))
  unfold fX0_comesTo
  rw [nI_clamp (show p < 2 ^ 31 by omega), yb_c]
  refine yp_gd (fun _ => yp_bit (fun c => ?_) (fun c => ?_))
  · rw [if_neg (by decide), if_pos (show sp_bit (σ.1 (q + 5) p) m = true from c)]
    exact key 40
  · rw [if_pos rfl, if_neg (show ¬ sp_bit (σ.1 (q + 5) p) m = true by rw [show sp_bit (σ.1 (q + 5) p) m = false from c]; decide)]
    exact key 0
def yd_m (q m : Nat) (σ z : sn_S) : Prop := (∀ a, a ≠ q + 7 → a ≠ q + 9 → a ≠ q + 10 → z.1 a = σ.1 a) ∧ z.2 = σ.2 ∧ (∀ k, k < 6 * m → z.1 (q + 7) k = σ.1 (q + 7) k) ∧ ∀ k, k ≠ m → z.1 (q + 9) k = σ.1 (q + 9) k
theorem yc_min (hm : m < 30) (hT : yd_T q σ i) (ok : dy_ok i) {A : Int32} {t : Nat → Int32} (hA : ∀ p, p < dy_P i → σ.1 (q + 8) (6 * m + p) = dy_by i A p) (ht : ∀ p, p < dy_P i → (if m = 0 then 0 else σ.1 (q + 7) (6 * (m - 1) + p)) = t p) : yp (fX0_liveMinute σ q (nI m)) (fun z => yd_m q m σ z ∧ (∀ p, p < dy_P i → z.1 (q + 7) (6 * m + p) = if dy_does i (t p) A m p = true then 0 else t p + dy_more i A m p) ∧ z.1 (q + 9) m = dy_set (fun p => dy_does i (t p) A m p) (dy_P i) ∧ ∀ p, p < dy_P i → z.1 (q + 10) p = if dy_does i (t p) A m p = true then σ.1 (q + 10) p ||| ((1 : Int32) <<< (nI m &&& 31)) else σ.1 (q + 10) p) := by
  have hP := ok.1
  unfold fX0_liveMinute
  refine yp_lt ?_
  rw [yi_6]
  refine yp_bd (fun s => (yd_m q m σ s.1 ∧ s.1.1 (q + 9) = σ.1 (q + 9)) ∧ (∀ p, p < dy_P i → s.1.1 (q + 7) (6 * m + p) = if dy_does i (t p) A m p = true then 0 else t p + dy_more i A m p) ∧ s.2 = dy_set (fun p => dy_does i (t p) A m p) (dy_P i) ∧ ∀ p, s.1.1 (q + 10) p = if p < dy_P i ∧ dy_does i (t p) A m p = true then σ.1 (q + 10) p ||| ((1 : Int32) <<< (nI m &&& 31)) else σ.1 (q + 10) p)
    (yp_for (dy_P i) (fun k s => s.2.2 = nI k ∧ (yd_m q m σ s.1 ∧ s.1.1 (q + 9) = σ.1 (q + 9)) ∧ (∀ p, p < k → s.1.1 (q + 7) (6 * m + p) = if dy_does i (t p) A m p = true then 0 else t p + dy_more i A m p) ∧ s.2.1 = dy_set (fun p => dy_does i (t p) A m p) k ∧ ∀ p, s.1.1 (q + 10) p = if p < k ∧ dy_does i (t p) A m p = true then σ.1 (q + 10) p ||| ((1 : Int32) <<< (nI m &&& 31)) else σ.1 (q + 10) p) (fun k s hk hs => ?_) (fun s hs => ?_) ⟨nI_0.symm, ⟨⟨fun _ _ _ _ => rfl, rfl, fun _ _ => rfl, fun _ _ => rfl⟩, rfl⟩, fun p hp => absurd hp (by omega), rfl, fun p => by rw [if_neg (fun h => absurd h.1 (by omega))]⟩) (fun s hs => ?_)
  · obtain ⟨z, g, x⟩ := s
    obtain ⟨ex, ⟨hn, h9⟩, h7, hg, h10⟩ := hs
    have ex : x = nI k := ex
    subst ex
    have hg : g = dy_set (fun p => dy_does i (t p) A m p) k := hg
    subst hg
    have hn : yd_m q m σ z := hn
    have h9 : z.1 (q + 9) = σ.1 (q + 9) := h9
    have h7 : ∀ p, p < k → z.1 (q + 7) (6 * m + p) = if dy_does i (t p) A m p = true then 0 else t p + dy_more i A m p := h7
    have h10 : ∀ p, z.1 (q + 10) p = if p < k ∧ dy_does i (t p) A m p = true then σ.1 (q + 10) p ||| ((1 : Int32) <<< (nI m &&& 31)) else σ.1 (q + 10) p := h10
    obtain ⟨d2, d3, d4, d5⟩ := hT.2.2.2.2.1 k hk
    have e1 : sn_I z q 1 = nI (dy_P i) := (congrFun (hn.1 q (by omega) (by omega) (by omega)) 1).trans hT.1
    have e3 : sn_I z (q + 3) k = dy_lim i k := (congrFun (hn.1 (q + 3) (by omega) (by omega) (by omega)) k).trans d3
    have e4 : sn_I z (q + 4) k = dy_held i k := (congrFun (hn.1 (q + 4) (by omega) (by omega) (by omega)) k).trans d4
    have k1 : dy_set (fun p => dy_does i (t p) A m p) (k + 1) = if dy_does i (t k) A m k = true then dy_set (fun p => dy_does i (t p) A m p) k ||| ((1 : Int32) <<< (nI k &&& 31)) else dy_set (fun p => dy_does i (t p) A m p) k := rfl
    have s98 : ∀ (u : sn_S) (g v : Int32), yp (BX0_liveMinute_98 u q (nI m) (nI (6 * m)) g (nI k) v) (yp_sum (fun s' => s'.1 = sn_pI u (q + 7) (6 * m + k) v ∧ s'.2.1 = g ∧ s'.2.2 = nI (k + 1)) (fun _ => False)) := fun u g v => by
      unfold BX0_liveMinute_98
      rw [nI_add, nI_clamp (show 6 * m + k < 2 ^ 31 by omega)]
      exact yp_gd (fun _ => yp_lt (yp_lt (yp_some ⟨rfl, rfl, nI_1 k⟩)))
    have w7 : ∀ (u : sn_S) (v : Int32), (∀ a, a ≠ q + 10 → u.1 a = z.1 a) → u.2 = z.2 → (yd_m q m σ (sn_pI u (q + 7) (6 * m + k) v) ∧ (sn_pI u (q + 7) (6 * m + k) v).1 (q + 9) = σ.1 (q + 9)) ∧ (v = (if dy_does i (t k) A m k = true then 0 else t k + dy_more i A m k) → ∀ p, p < k + 1 → (sn_pI u (q + 7) (6 * m + k) v).1 (q + 7) (6 * m + p) = if dy_does i (t p) A m p = true then 0 else t p + dy_more i A m p) := fun u v hu hu2 => by
      refine ⟨⟨⟨fun a a1 a2 a3 => (pI_ne a1).trans ((hu a a3).trans (hn.1 a a1 a2 a3)), hu2.trans hn.2.1, fun j hj => (pI_slot (by omega)).trans ((congrFun (hu (q + 7) (by omega)) j).trans (hn.2.2.1 j hj)), fun j hj => (congrFun ((pI_ne (by omega)).trans (hu (q + 9) (by omega))) j).trans (hn.2.2.2 j hj)⟩, (pI_ne (by omega)).trans ((hu (q + 9) (by omega)).trans h9)⟩, fun hv p hp => ?_⟩
      by_cases c : p = k
      · subst c
        rw [pI_self]
        exact hv
      · rw [pI_slot (by omega), hu (q + 7) (by omega)]
        exact h7 p (by omega)
    have s46 : ∀ (a b : Int32), b + a = t k + dy_more i A m k → yp (BX0_liveMinute_46 z q (nI m) (nI (6 * m)) (dy_set (fun p => dy_does i (t p) A m p) k) (nI k) b a) (yp_sum (fun s : sn_S × Int32 × Int32 => s.2.2 = nI (k + 1) ∧ (yd_m q m σ s.1 ∧ s.1.1 (q + 9) = σ.1 (q + 9)) ∧ (∀ p, p < k + 1 → s.1.1 (q + 7) (6 * m + p) = if dy_does i (t p) A m p = true then 0 else t p + dy_more i A m p) ∧ s.2.1 = dy_set (fun p => dy_does i (t p) A m p) (k + 1) ∧ ∀ p, s.1.1 (q + 10) p = if p < k + 1 ∧ dy_does i (t p) A m p = true then σ.1 (q + 10) p ||| ((1 : Int32) <<< (nI m &&& 31)) else σ.1 (q + 10) p) (fun _ => False)) := fun a b hab => by
      have noS : ∀ x : Int32, x = t k + dy_more i A m k → dy_does i (t k) A m k = false → yp (BX0_liveMinute_98 z q (nI m) (nI (6 * m)) (dy_set (fun p => dy_does i (t p) A m p) k) (nI k) x) (yp_sum (fun s : sn_S × Int32 × Int32 => s.2.2 = nI (k + 1) ∧ (yd_m q m σ s.1 ∧ s.1.1 (q + 9) = σ.1 (q + 9)) ∧ (∀ p, p < k + 1 → s.1.1 (q + 7) (6 * m + p) = if dy_does i (t p) A m p = true then 0 else t p + dy_more i A m p) ∧ s.2.1 = dy_set (fun p => dy_does i (t p) A m p) (k + 1) ∧ ∀ p, s.1.1 (q + 10) p = if p < k + 1 ∧ dy_does i (t p) A m p = true then σ.1 (q + 10) p ||| ((1 : Int32) <<< (nI m &&& 31)) else σ.1 (q + 10) p) (fun _ => False)) := fun x hx hd => by
        refine yp_w (s98 z _ x) (fun o ho => ?_)
        cases o with
        | inr r => exact ho
        | inl s' =>
          obtain ⟨u, y, w⟩ := s'
          obtain ⟨eu, ey, ew⟩ := ho
          have eu : u = sn_pI z (q + 7) (6 * m + k) x := eu
          have ey : y = _ := ey
          subst eu
          subst ey
          obtain ⟨r1, r2⟩ := w7 z x (fun _ _ => rfl) rfl
          refine ⟨ew, r1, r2 (by rw [hd, if_neg (by decide)]; exact hx), ?_, fun p => ?_⟩
          · rw [k1, if_neg (by rw [hd]; decide)]
          · show (sn_pI z (q + 7) (6 * m + k) x).1 (q + 10) p = _
            rw [pI_ne (by omega), h10 p]
            by_cases c : p = k
            · subst c
              rw [if_neg (fun h => absurd h.1 (by omega)), if_neg (fun h => by rw [hd] at h; exact absurd h.2 (by decide))]
            · by_cases c2 : p < k
              · by_cases c3 : dy_does i (t p) A m p = true
                · rw [if_pos ⟨c2, c3⟩, if_pos ⟨by omega, c3⟩]
                · rw [if_neg (fun h => c3 h.2), if_neg (fun h => c3 h.2)]
              · rw [if_neg (fun h => c2 h.1), if_neg (fun h => by have := h.1; omega)]
      unfold BX0_liveMinute_46
      refine yp_lt (yp_gd (fun _ => ?_))
      rw [nI_clamp (show k < 2 ^ 31 by omega), e3, e4, hab]
      refine yp_ite (fun c => noS _ rfl ?_) (fun c => yp_gd (fun _ => ?_))
      · unfold dy_does
        rw [decide_eq_false (Int32.not_le.mpr c)]
        rfl
      · have c1 : dy_lim i k ≤ t k + dy_more i A m k := Int32.not_lt.mp c
        rw [yb_c]
        refine yp_bit (fun x => ?_) (fun x => ?_)
        · rw [if_neg (by decide)]
          refine noS _ rfl ?_
          unfold dy_does
          rw [x]
          exact Bool.and_false _
        · rw [if_pos rfl]
          have hd : dy_does i (t k) A m k = true := by
            unfold dy_does
            rw [x, decide_eq_true c1]
            rfl
          refine yp_lt (yp_gd (fun _ => yp_gd (fun _ => yp_lt ?_)))
          refine yp_w (s98 (sn_pI z (q + 10) k (sn_I z (q + 10) k ||| ((1 : Int32) <<< (nI m &&& 31)))) _ 0) (fun o ho => ?_)
          cases o with
          | inr r => exact ho
          | inl s' =>
            obtain ⟨u, y, w⟩ := s'
            obtain ⟨eu, ey, ew⟩ := ho
            have eu : u = sn_pI (sn_pI z (q + 10) k (sn_I z (q + 10) k ||| ((1 : Int32) <<< (nI m &&& 31)))) (q + 7) (6 * m + k) 0 := eu
            have ey : y = _ := ey
            subst eu
            subst ey
            obtain ⟨r1, r2⟩ := w7 (sn_pI z (q + 10) k (sn_I z (q + 10) k ||| ((1 : Int32) <<< (nI m &&& 31)))) 0 (fun a ha => pI_ne ha) rfl
            refine ⟨ew, r1, r2 (by rw [hd, if_pos rfl]), ?_, fun p => ?_⟩
            · rw [k1, if_pos hd]
            · show (sn_pI (sn_pI z (q + 10) k (z.1 (q + 10) k ||| ((1 : Int32) <<< (nI m &&& 31)))) (q + 7) (6 * m + k) 0).1 (q + 10) p = _
              rw [pI_ne (by omega)]
              by_cases c : p = k
              · subst c
                rw [pI_self, h10 p, if_neg (fun h => absurd h.1 (by omega)), if_pos ⟨by omega, hd⟩]
              · rw [pI_slot c, h10 p]
                by_cases c2 : p < k
                · by_cases c3 : dy_does i (t p) A m p = true
                  · rw [if_pos ⟨c2, c3⟩, if_pos ⟨by omega, c3⟩]
                  · rw [if_neg (fun h => c3 h.2), if_neg (fun h => c3 h.2)]
                · rw [if_neg (fun h => c2 h.1), if_neg (fun h => by have := h.1; omega)]
    show yp (BX0_liveMinute_10 z q (nI m) (nI (6 * m)) _ (nI k)) _
    unfold BX0_liveMinute_10
    rw [e1, if_neg (nI_ge hk (by omega))]
    refine yp_bd _ (yc_comes hm (by omega)) (fun v hv => ?_)
    have ev : v = dy_more i A m k := by
      rw [hv, congrFun (hn.1 (q + 2) (by omega) (by omega) (by omega)) k, congrFun (hn.1 (q + 1) (by omega) (by omega) (by omega)) m, congrFun (hn.1 (q + 8) (by omega) (by omega) (by omega)) (6 * m + k), congrFun (hn.1 (q + 5) (by omega) (by omega) (by omega)) k, d2, d5, hT.2.2.2.1 m hm, hA k hk]
      rfl
    subst ev
    have htk := ht k hk
    by_cases c : m = 0
    · subst c
      rw [if_pos nI_0]
      refine s46 0 _ ?_
      rw [if_pos rfl] at htk
      rw [← htk]
      exact Int32.add_comm _ _
    · rw [if_neg (fun z => c ((yi_0 (by omega)).mp z)), yi_s6 (show 6 ≤ 6 * m by omega), nI_add, nI_clamp (show 6 * m - 6 + k < 2 ^ 31 by omega)]
      refine yp_gd (fun _ => ?_)
      rw [if_neg c] at htk
      have e7 : sn_I z (q + 7) (6 * m - 6 + k) = t k := by
        rw [← htk, show 6 * m - 6 + k = 6 * (m - 1) + k by omega]
        exact hn.2.2.1 _ (by omega)
      rw [e7]
      exact s46 _ _ (Int32.add_comm _ _)
  · obtain ⟨z, g, x⟩ := s
    obtain ⟨ex, hn, h7, hg, h10⟩ := hs
    have ex : x = nI (dy_P i) := ex
    subst ex
    have e1 : sn_I z q 1 = nI (dy_P i) := (congrFun (hn.1.1 q (by omega) (by omega) (by omega)) 1).trans hT.1
    show yp (BX0_liveMinute_10 z q (nI m) (nI (6 * m)) g (nI (dy_P i))) _
    unfold BX0_liveMinute_10
    rw [e1, if_pos (nI_le (Nat.le_refl _) (by omega))]
    exact yp_some ⟨hn, h7, hg, h10⟩
  · obtain ⟨⟨hn, h9⟩, h7, hg, h10⟩ := hs
    unfold BX0_liveMinute_115
    rw [nI_clamp (show m < 2 ^ 31 by omega)]
    refine yp_gd (fun _ => yp_lt (yp_some ⟨⟨fun a a1 a2 a3 => (pI_ne a2).trans (hn.1 a a1 a2 a3), hn.2.1, fun j hj => (congrFun (pI_ne (by omega)) j).trans (hn.2.2.1 j hj), fun j hj => (pI_slot hj).trans (hn.2.2.2 j hj)⟩, fun p hp => ?_, ?_, fun p hp => ?_⟩))
    · rw [pI_ne (by omega)]
      exact h7 p hp
    · rw [pI_self]
      exact hg
    · rw [pI_ne (by omega), h10 p]
      by_cases c3 : dy_does i (t p) A m p = true
      · rw [if_pos ⟨hp, c3⟩, if_pos c3]
      · rw [if_neg (fun h => c3 h.2), if_neg c3]
end
/-- lived up to minute e -/
def yd_L0 (q : Nat) (σ : sn_S) (i : dy_I) (e : Nat) : Prop := ∀ m, m < e → σ.1 (q + 9) m = dy_who i m ∧ ∀ p, p < dy_P i → σ.1 (q + 7) (6 * m + p) = dy_tick i m p ∧ σ.1 (q + 8) (6 * m + p) = dy_came i m p
def yd_L (q : Nat) (σ : sn_S) (i : dy_I) (e : Nat) : Prop := yd_L0 q σ i e ∧ ∀ p, p < dy_P i → σ.1 (q + 10) p = dy_sn i e p
def yd_fr (q : Nat) (σ z : sn_S) : Prop := (∀ a, (a < q + 7 ∨ q + 10 < a) → z.1 a = σ.1 a) ∧ z.2 = σ.2
theorem yc_live {q f t M : Nat} {σ : sn_S} {i : dy_I} (h0 : σ.1 q 0 = nI M) (hM : M ≤ 30) (hT : yd_T q σ i) (ok : dy_ok i) (hft : f ≤ t) (htM : t ≤ M) (hL : yd_L0 q σ i f) (hS : ∀ p, p < dy_P i → σ.1 (q + 10) p &&& (((1 : Int32) <<< (nI f &&& 31)) - 1) = dy_sn i f p) : yp (fX0_live σ q (nI f) (nI t)) (fun z => yd_fr q σ z ∧ yd_L q z i t) := by
  have hP := ok.1
  unfold fX0_live
  refine yp_bd (fun z => (∀ a, a ≠ q + 10 → z.1 a = σ.1 a) ∧ z.2 = σ.2 ∧ ∀ p, p < dy_P i → z.1 (q + 10) p = dy_sn i f p) (yp_for (dy_P i) (fun k s => s.2 = nI k ∧ (∀ a, a ≠ q + 10 → s.1.1 a = σ.1 a) ∧ s.1.2 = σ.2 ∧ (∀ p, p < k → s.1.1 (q + 10) p = dy_sn i f p) ∧ ∀ p, k ≤ p → s.1.1 (q + 10) p = σ.1 (q + 10) p) (fun k s hk hs => ?_) (fun s hs => ?_) ⟨nI_0.symm, fun _ _ => rfl, rfl, fun p hp => absurd hp (by omega), fun _ _ => rfl⟩) (fun z hz => ?_)
  · obtain ⟨z, x⟩ := s
    obtain ⟨ex, h1, h2, h3, h4⟩ := hs
    have ex : x = nI k := ex
    subst ex
    have h1 : ∀ a, a ≠ q + 10 → z.1 a = σ.1 a := h1
    have h3 : ∀ p, p < k → z.1 (q + 10) p = dy_sn i f p := h3
    have h4 : ∀ p, k ≤ p → z.1 (q + 10) p = σ.1 (q + 10) p := h4
    have e1 : sn_I z q 1 = nI (dy_P i) := (congrFun (h1 q (by omega)) 1).trans hT.1
    show yp (BX0_live_2 z q (nI f) (nI t) (nI k)) _
    unfold BX0_live_2 fX8_firstMinutes
    rw [e1, if_neg (nI_ge hk (by omega)), nI_clamp (show k < 2 ^ 31 by omega)]
    refine yp_gd (fun _ => yp_bs rfl (yp_gd (fun _ => yp_lt (yp_lt (yp_some ⟨nI_1 k, fun a ha => (pI_ne ha).trans (h1 a ha), h2, fun p hp => ?_, fun p hp => ?_⟩)))))
    · by_cases c : p = k
      · subst c
        show (sn_pI z (q + 10) p (z.1 (q + 10) p &&& _)).1 (q + 10) p = _
        rw [pI_self, h4 p (Nat.le_refl _)]
        exact hS p hk
      · show (sn_pI z (q + 10) k _).1 (q + 10) p = _
        rw [pI_slot c]
        exact h3 p (by omega)
    · show (sn_pI z (q + 10) k _).1 (q + 10) p = _
      rw [pI_slot (by omega)]
      exact h4 p (by omega)
  · obtain ⟨z, x⟩ := s
    obtain ⟨ex, h1, h2, h3, h4⟩ := hs
    have ex : x = nI (dy_P i) := ex
    subst ex
    have h1 : ∀ a, a ≠ q + 10 → z.1 a = σ.1 a := h1
    have e1 : sn_I z q 1 = nI (dy_P i) := (congrFun (h1 q (by omega)) 1).trans hT.1
    show yp (BX0_live_2 z q (nI f) (nI t) (nI (dy_P i))) _
    unfold BX0_live_2
    rw [e1, if_pos (nI_le (Nat.le_refl _) (by omega))]
    exact yp_some ⟨h1, h2, h3⟩
  · obtain ⟨h1, h2, h3⟩ := hz
    unfold BX0_live_29
    have last : ∀ u : sn_S, yd_fr q σ u → yd_L q u i t → yp (BX0_live_31 u q (nI t) (nI t)) (yp_sum (fun _ : sn_S × Int32 => False) (fun z => yd_fr q σ z ∧ yd_L q z i t)) := fun u g1 g2 => by
      unfold BX0_live_31
      rw [if_pos (nI_le (Nat.le_refl _) (by omega))]
      exact yp_some ⟨g1, g2⟩
    refine yp_bd (fun z => yd_fr q σ z ∧ yd_L q z i t) (yp_for0 f t hft (fun k s => s.2 = nI k ∧ yd_fr q σ s.1 ∧ yd_L q s.1 i k) (fun k s hk1 hk hs => ?_) (fun s hs => ?_) ⟨rfl, ⟨fun a ha => h1 a (by omega), h2⟩, ⟨fun m hm => ?_, h3⟩⟩) (fun u hu => ?_)
    · obtain ⟨u, x⟩ := s
      obtain ⟨ex, hf, hl⟩ := hs
      have ex : x = nI k := ex
      subst ex
      have hf : yd_fr q σ u := hf
      have hl : yd_L q u i k := hl
      have e0 : sn_I u q 0 = nI M := (congrFun (hf.1 q (by omega)) 0).trans h0
      have hTu : yd_T q u i := yd_Tc (fun a _ ha => hf.1 a (by omega)) hT
      show yp (BX0_live_31 u q (nI t) (nI k)) _
      unfold BX0_live_31
      rw [e0, if_neg (nI_ge hk (by omega)), if_neg (nI_ge (show k < M by omega) (by omega))]
      have eA : (if k = 0 then 0 else u.1 (q + 9) (k - 1)) = (dy_st i k).2 := by
        rw [dy_ahead]
        by_cases c : k = 0
        · rw [if_pos c, if_pos c]
        · rw [if_neg c, if_neg c]
          exact (hl.1 (k - 1) (by omega)).1
      refine yp_bd _ (yc_nets (show k < 30 by omega) hTu ok) (fun v hv => ?_)
      obtain ⟨v1, v2⟩ := hv
      rw [eA] at v2
      have hTv : yd_T q v i := yd_Tc (fun a _ ha => v1.1 a (by omega)) hTu
      have ht : ∀ p, p < dy_P i → (if k = 0 then 0 else v.1 (q + 7) (6 * (k - 1) + p)) = (dy_st i k).1 p := fun p hp => by
        rw [dy_prev]
        by_cases c : k = 0
        · rw [if_pos c, if_pos c]
        · rw [if_neg c, if_neg c, v1.1 (q + 7) (by omega)]
          exact ((hl.1 (k - 1) (by omega)).2 p hp).1
      refine yp_bd _ (yc_min (show k < 30 by omega) hTv ok v2 ht) (fun w hw => ?_)
      obtain ⟨w1, w2, w3, w4⟩ := hw
      refine yp_lt (yp_some ⟨nI_1 k, ⟨fun a ha => (w1.1 a (by omega) (by omega) (by omega)).trans ((v1.1 a (by omega)).trans (hf.1 a ha)), w1.2.1.trans (v1.2.1.trans hf.2)⟩, fun m hm => ?_, fun p hp => ?_⟩)
      · by_cases c : m = k
        · subst c
          exact ⟨w3, fun p hp => ⟨w2 p hp, (congrFun (w1.1 (q + 8) (by omega) (by omega) (by omega)) _).trans (v2 p hp)⟩⟩
        · have g := hl.1 m (by omega)
          refine ⟨?_, fun p hp => ⟨?_, ?_⟩⟩
          · show w.1 (q + 9) m = _
            rw [w1.2.2.2 m c, v1.1 (q + 9) (by omega)]
            exact g.1
          · show w.1 (q + 7) (6 * m + p) = _
            rw [w1.2.2.1 _ (by omega), v1.1 (q + 7) (by omega)]
            exact (g.2 p hp).1
          · show w.1 (q + 8) (6 * m + p) = _
            rw [w1.1 (q + 8) (by omega) (by omega) (by omega), v1.2.2 _ (by omega)]
            exact (g.2 p hp).2
      · show w.1 (q + 10) p = if dy_does i ((dy_st i k).1 p) (dy_st i k).2 k p = true then dy_sn i k p ||| ((1 : Int32) <<< (nI k &&& 31)) else dy_sn i k p
        rw [w4 p hp, v1.1 (q + 10) (by omega), hl.2 p hp]
    · obtain ⟨u, x⟩ := s
      obtain ⟨ex, hf, hl⟩ := hs
      have ex : x = nI t := ex
      subst ex
      exact last u hf hl
    · have g := hL m hm
      rw [h1 (q + 9) (by omega), h1 (q + 7) (by omega), h1 (q + 8) (by omega)]
      exact g
    · unfold BX0_live_60
      exact yp_some hu
theorem yb_and0 (x : Int32) : x &&& (((1 : Int32) <<< (nI 0 &&& 31)) - 1) = 0 := by
  rw [show (((1 : Int32) <<< (nI 0 &&& 31)) - 1) = 0 by decide]
  exact Int32.and_zero
theorem yc_whole {q M : Nat} {σ : sn_S} {i : dy_I} (h0 : σ.1 q 0 = nI M) (hM : M ≤ 30) (hT : yd_T q σ i) (ok : dy_ok i) : yp (fX0_liveWhole σ q) (fun z => yd_fr q σ z ∧ yd_L q z i M) := by
  unfold fX0_liveWhole
  rw [show sn_I σ q 0 = nI M from h0]
  refine yp_bd _ (yc_live (f := 0) (t := M) h0 hM hT ok (Nat.zero_le _) (Nat.le_refl _) (fun m hm => absurd hm (by omega)) (fun p _ => ?_)) (fun u hu => yp_some hu)
  rw [yb_and0]
  rfl
theorem yd_TE {q n : Nat} {σ : sn_S} {i j : dy_I} (h : dy_E n i j) (hT : yd_T q σ i) : yd_T q σ j := by
  obtain ⟨a1, a2, a3, a4, a5, a6⟩ := hT
  refine ⟨by rw [← h.1]; exact a1, by rw [← h.2.1]; exact a2, by rw [← h.2.2.1]; exact a3, fun m hm => by rw [← h.2.2.2.2.1 m]; exact a4 m hm, fun p hp => ?_, fun k hk => ?_⟩
  · rw [← h.1] at hp
    obtain ⟨b1, b2, b3, b4⟩ := h.2.2.2.1 p hp
    rw [← b1, ← b2, ← b3, ← b4]
    exact a5 p hp
  · rw [← h.2.1] at hk
    obtain ⟨b1, b2⟩ := h.2.2.2.2.2 k hk
    rw [← b1, ← b2]
    exact a6 k hk
theorem yd_LE {q n e : Nat} {σ : sn_S} {i j : dy_I} (h : dy_E n i j) (hL : yd_L q σ i e) : yd_L q σ j e := by
  refine ⟨fun m hm => ?_, fun p hp => ?_⟩
  · have g := hL.1 m hm
    have g1 : dy_who j m = dy_who i m := ((dy_stE h (m + 1)).2).symm
    refine ⟨by rw [g1]; exact g.1, fun p hp => ?_⟩
    rw [← h.1] at hp
    have g2 : dy_tick j m p = dy_tick i m p := ((dy_stE h (m + 1)).1 p hp).symm
    have g3 : dy_came j m p = dy_came i m p := by
      unfold dy_came
      rw [← (dy_stE h m).2, dy_byE h]
    rw [g2, g3]
    exact g.2 p hp
  · rw [← h.1] at hp
    rw [← dy_snE h e hp]
    exact hL.2 p hp
