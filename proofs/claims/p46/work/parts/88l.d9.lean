/-! answers: who sneezes when -/
section
variable {σ τ : sn_S}
theorem ym_isP {τ u : sn_S} {w : Nat → Int32} {a : Int32} (hW : jW w) (h : yM τ u w) : fX9_isPerson u a.toInt64 = some (if 0 ≤ a ∧ a < w 5 then 1 else 0) := by
  have b := hW.1.2.2.2.2.2.1
  have l := b.2
  have e : u.1 1 5 = w 5 := congrFun h.1 5
  rw [m_isPerson (by rw [e, b.1]; exact nI_pos' (by omega)), e]
theorem ym_isM {τ u : sn_S} {w : Nat → Int32} {a : Int32} (hW : jW w) (h : yM τ u w) : fX9_isMinute u a.toInt64 = some (if 0 ≤ a ∧ a < w 0 then 1 else 0) := by
  have b := hW.1.1
  have l := b.2
  have e : u.1 1 0 = w 0 := congrFun h.1 0
  rw [m_isMinute (by rw [e, b.1]; exact nI_pos' (by omega)), e]
theorem ym_isQ {τ u : sn_S} {w : Nat → Int32} {a : Int32} (hW : jW w) (h : yM τ u w) : fX9_isPolicy u a = some (if 0 ≤ a ∧ a < w 8 then 1 else 0) := by
  have b := hW.1.2.2.2.2.2.2.2.2.1
  have l := b.2
  have e : u.1 1 8 = w 8 := congrFun h.1 8
  rw [m_isPolicy (by rw [e, b.1]; exact nI_pos' (by omega)), e]
theorem ym_askP {w : Nat → Int32} {a : Int32} (hw : τ.1 1 = w) (hW : jW w) : yp (fX9_asksPerson τ a) (fun r => r.1 = (if 0 ≤ a ∧ a < w 5 then 1 else 0) ∧ yM τ r.2 w) := by
  unfold fX9_asksPerson
  refine yp_bd _ (ym_asks hw hW) (fun r hr => ?_)
  rw [ym_isP hW hr.2]
  exact yp_bs rfl (yp_gd (fun _ => yp_some ⟨rfl, hr.2⟩))
theorem ym_askM {w : Nat → Int32} {a : Int32} (hw : τ.1 1 = w) (hW : jW w) : yp (fX9_asksMinute τ a) (fun r => r.1 = (if 0 ≤ a ∧ a < w 0 then 1 else 0) ∧ yM τ r.2 w) := by
  unfold fX9_asksMinute
  refine yp_bd _ (ym_asks hw hW) (fun r hr => ?_)
  rw [ym_isM hW hr.2]
  exact yp_bs rfl (yp_gd (fun _ => yp_some ⟨rfl, hr.2⟩))
theorem ym_askQ {w : Nat → Int32} {a : Int32} (hw : τ.1 1 = w) (hW : jW w) : yp (fX9_asksPolicy τ a) (fun r => r.1 = (if 0 ≤ a ∧ a < w 8 then 1 else 0) ∧ yM τ r.2 w) := by
  unfold fX9_asksPolicy
  refine yp_bd _ (ym_asks hw hW) (fun r hr => ?_)
  rw [ym_isQ hW hr.2]
  exact yp_bs rfl (yp_gd (fun _ => yp_some ⟨rfl, hr.2⟩))
theorem yz_go {v x0 : Int32} {A : Option (Int32 × sn_S)} {Q : sn_S → Prop} {X : Option Int32} {Y : Int32 × sn_S → Option (Int32 × sn_S)} (hA : yp A (fun r => r.1 = v ∧ Q r.2)) (h : v ≠ 0 → ∀ u, Q u → yr X (Y (v, u)) (fun r s => r = s.1)) : yr ((some v).bind fun t => if t = 0 then some x0 else X) (A.bind fun t => if t.1 = 0 then some (x0, t.2) else Y t) (fun r s => r = s.1) := by
  intro r s e1 e2
  obtain ⟨⟨v2, u⟩, e3, e4⟩ := sn_bd e2
  obtain ⟨hv, hu⟩ := hA _ e3
  have hv : v2 = v := hv
  subst hv
  have e1 : (if v2 = 0 then some x0 else X) = some r := e1
  have e4 : (if v2 = 0 then some (x0, u) else Y (v2, u)) = some s := e4
  by_cases c : v2 = 0
  · rw [if_pos c] at e1 e4
    cases e1
    cases e4
    rfl
  · rw [if_neg c] at e1 e4
    exact h c u hu r s e1 e4
theorem yz_if {a c : Int32} (h : (if 0 ≤ a ∧ a < c then (1 : Int32) else 0) ≠ 0) : 0 ≤ a ∧ a < c := by
  by_cases g : 0 ≤ a ∧ a < c
  · exact g
  · rw [if_neg g] at h
    exact absurd rfl h
theorem yz_pers {a x0 : Int32} {X : Option Int32} {Y : Int32 × sn_S → Option (Int32 × sn_S)} (hK : zK σ τ) (h : ∀ p v u, p < sp_n (τ.1 1) 5 → a = nI p → yM τ u (τ.1 1) → yr X (Y (v, u)) (fun r s => r = s.1)) : yr ((fX8_isPerson σ a).bind fun t => if t = 0 then some x0 else X) ((fX9_asksPerson τ a).bind fun t => if t.1 = 0 then some (x0, t.2) else Y t) (fun r s => r = s.1) := by
  obtain ⟨-, ⟨p1, p2, p3⟩, -⟩ := yK_n hK
  rw [c_isPerson, p1]
  refine yz_go (Q := fun z => yM τ z (τ.1 1)) (ym_askP rfl hK.2.1.1) (fun c u hu => ?_)
  obtain ⟨p, hp, ep⟩ := yK_p (by omega) p2 (yz_if c)
  exact h p _ u hp ep hu
theorem yz_min {a x0 : Int32} {X : Option Int32} {Y : Int32 × sn_S → Option (Int32 × sn_S)} (hK : zK σ τ) (h : ∀ m v u, m < sp_n (τ.1 1) 0 → a = nI m → yM τ u (τ.1 1) → yr X (Y (v, u)) (fun r s => r = s.1)) : yr ((fX8_isMinute σ a).bind fun t => if t = 0 then some x0 else X) ((fX9_asksMinute τ a).bind fun t => if t.1 = 0 then some (x0, t.2) else Y t) (fun r s => r = s.1) := by
  obtain ⟨-, -, ⟨p1, p2, p3⟩⟩ := yK_n hK
  rw [c_isMinute, p1]
  refine yz_go (Q := fun z => yM τ z (τ.1 1)) (ym_askM rfl hK.2.1.1) (fun c u hu => ?_)
  obtain ⟨p, hp, ep⟩ := yK_p (by omega) p2 (yz_if c)
  exact h p _ u hp ep hu
theorem yz_pol {a x0 : Int32} {X : Option Int32} {Y : Int32 × sn_S → Option (Int32 × sn_S)} (hK : zK σ τ) (h : ∀ q v u, q < sp_n (τ.1 1) 8 → a = nI q → yM τ u (τ.1 1) → yr X (Y (v, u)) (fun r s => r = s.1)) : yr ((fX8_isPolicy σ a).bind fun t => if t = 0 then some x0 else X) ((fX9_asksPolicy τ a).bind fun t => if t.1 = 0 then some (x0, t.2) else Y t) (fun r s => r = s.1) := by
  have b := hK.2.1.1.1.2.2.2.2.2.2.2.2.1
  have l := b.2
  rw [c_isPolicy, show σ.1 2 8 = τ.1 1 8 from hK.2.1.2.1 8 (by decide)]
  refine yz_go (Q := fun z => yM τ z (τ.1 1)) (ym_askQ rfl hK.2.1.1) (fun c u hu => ?_)
  obtain ⟨p, hp, ep⟩ := yK_p (by omega) b.1 (yz_if c)
  exact h p _ u hp ep hu
theorem yz_house {x0 : Int32} {X : Option Int32} {Y : Int32 × sn_S → Option (Int32 × sn_S)} (hK : zK σ τ) (h : ∀ v u, 0 < sp_n (τ.1 1) 10 → yM τ u (τ.1 1) → yr X (Y (v, u)) (fun r s => r = s.1)) : yr ((fX8_isHouse σ).bind fun t => if t = 0 then some x0 else X) ((fX9_asksHouse τ).bind fun t => if t.1 = 0 then some (x0, t.2) else Y t) (fun r s => r = s.1) := by
  have b := hK.2.1.1.1.2.2.2.2.2.2.2.2.2.2
  have l := b.2
  have e10 : σ.1 2 10 = nI (sp_n (τ.1 1) 10) := (hK.2.1.2.1 10 (by decide)).trans b.1
  have ev : (if σ.1 2 10 ≤ 0 then (0 : Int32) else 1) = if 0 < sp_n (τ.1 1) 10 then 1 else 0 := by
    rw [e10]
    by_cases c : 0 < sp_n (τ.1 1) 10
    · rw [if_neg (nI_nle c (by omega)), if_pos c]
    · have : sp_n (τ.1 1) 10 = 0 := by omega
      rw [this, if_pos (show nI 0 ≤ 0 by decide), if_neg (by decide)]
  rw [yk_isHouse, ev]
  refine yz_go (Q := fun z => yM τ z (τ.1 1)) (ym_asks rfl hK.2.1.1) (fun c u hu => ?_)
  refine h _ u ?_ hu
  by_cases g : 0 < sp_n (τ.1 1) 10
  · exact g
  · rw [if_neg g] at c
    exact absurd rfl c
theorem yr_eq {X : Option Int32} {Y : Option (Int32 × sn_S)} (v : Int32) (hx : yp X (fun r => r = v)) (hy : yp Y (fun s => s.1 = v)) : yr X Y (fun r s => r = s.1) := yr_of hx hy (fun _ _ a b => a.trans b.symm)
theorem yr_F {X : Option Int32} {Y : Option (Int32 × sn_S)} (x : Int32) (a : Nat) (hx : yp X (fun r => yb_F x a r)) (hy : yp Y (fun s => yb_F x a s.1)) : yr X Y (fun r s => r = s.1) := yr_of hx hy (fun _ _ g h => yb_F1 g h)
/-- what a lived day of a house tells, both sides -/
theorem yz_sn (hK : zK σ τ) {p : Nat} (hp : p < sp_n (τ.1 1) 5) : σ.1 (27 + 10) p = dy_sn (hs_day (τ.1 1)) (sp_n (τ.1 1) 0) p := hK.2.2.2.2.2.2 p hp
theorem yz_who (hK : zK σ τ) {m : Nat} (hm : m < sp_n (τ.1 1) 0) : σ.1 (27 + 9) m = dy_who (hs_day (τ.1 1)) m := (hK.2.2.2.2.2.1 m hm).1
theorem yz_tick (hK : zK σ τ) {p m : Nat} (hm : m < sp_n (τ.1 1) 0) (hp : p < sp_n (τ.1 1) 5) : σ.1 (27 + 7) (6 * m + p) = dy_tick (hs_day (τ.1 1)) m p := ((hK.2.2.2.2.2.1 m hm).2 p hp).1
theorem yz_came (hK : zK σ τ) {p m : Nat} (hm : m < sp_n (τ.1 1) 0) (hp : p < sp_n (τ.1 1) 5) : σ.1 (27 + 8) (6 * m + p) = dy_came (hs_day (τ.1 1)) m p := ((hK.2.2.2.2.2.1 m hm).2 p hp).2
theorem yz_msn {u : sn_S} {w : Nat → Int32} (hW : jW w) (h : yM τ u w) {p : Nat} (hp : p < sp_n w 5) : u.1 10 p = dy_sn (hs_day w) (sp_n w 0) p := by
  have l := hW.1.2.2.2.2.2.1.2
  have := (h.2.1.2 p (by omega)).1
  rw [if_pos (show p < dy_P (hs_day w) from hp)] at this
  exact this
theorem yz_mwho {u : sn_S} {w : Nat → Int32} (h : yM τ u w) {m : Nat} (hm : m < sp_n w 0) : u.1 11 m = dy_who (hs_day w) m := (h.2.1.1 m hm).1
theorem yz_mtick {u : sn_S} {w : Nat → Int32} (h : yM τ u w) {p m : Nat} (hm : m < sp_n w 0) (hp : p < sp_n w 5) : u.1 12 (6 * m + p) = dy_tick (hs_day w) m p := ((h.2.1.1 m hm).2 p hp).1
theorem yz_sbits {i : dy_I} {M p : Nat} (hM : M ≤ 30) : ∀ k, M ≤ k → k < 32 → sp_bit (dy_sn i M p) k = false := fun k hk h32 => by
  unfold dy_sn
  rw [yb_set _ (by omega) k h32, decide_eq_false (by omega)]
  rfl
theorem yz_wbits {i : dy_I} {m : Nat} (hP : dy_P i ≤ 6) : ∀ k, dy_P i ≤ k → k < 32 → sp_bit (dy_who i m) k = false := fun k hk h32 => by
  show sp_bit (dy_set _ (dy_P i)) k = false
  rw [yb_set _ (by omega) k h32, decide_eq_false (by omega)]
  rfl
theorem yz_7 {a : Int32} (hK : zK σ τ) : yr (fX8_dust σ a) (fX9_dust τ a) (fun r s => r = s.1) := by
  unfold fX8_dust fX9_dust
  refine yz_min hK (fun m v u hm ea hM => ?_)
  subst ea
  have l := hK.2.1.1.1.1.2
  rw [nI_clamp (show m < 2 ^ 31 by omega)]
  exact yr_eq (hs_dust (τ.1 1) m (sp_n (τ.1 1) 6)) (yp_gd (fun _ => yp_some (hK.2.2.2.2.1.2.2.2.1 m (by omega)))) (yp_gd (fun _ => yp_some (hM.2.2.2.2.2.2.2.1 m (by omega))))
theorem yz_8 {a : Int32} (hK : zK σ τ) : yr (fX8_sneezes σ a) (fX9_sneezes τ a) (fun r s => r = s.1) := by
  unfold fX8_sneezes fX9_sneezes
  refine yz_pers hK (fun p v u hp ea hM => ?_)
  subst ea
  have l := hK.2.1.1.1.2.2.2.2.2.1.2
  rw [nI_clamp (show p < 2 ^ 31 by omega)]
  exact yr_eq _ (yp_gd (fun _ => yp_some (yz_sn hK hp))) (yp_gd (fun _ => yp_some (yz_msn hK.2.1.1 hM hp)))
theorem yz_9 {a : Int32} (hK : zK σ τ) : yr (fX8_first σ a) (fX9_first τ a) (fun r s => r = s.1) := by
  unfold fX8_first fX9_first
  refine yz_pers hK (fun p v u hp ea hM => ?_)
  subst ea
  have l := hK.2.1.1.1.2.2.2.2.2.1.2
  have l0 := hK.2.1.1.1.1.2
  rw [nI_clamp (show p < 2 ^ 31 by omega)]
  refine yr_F (dy_sn (hs_day (τ.1 1)) (sp_n (τ.1 1) 0) p) 0 (yp_gd (fun _ => ?_)) (yp_gd (fun _ => ?_))
  · rw [show sn_I σ (27 + 10) p = _ from yz_sn hK hp]
    exact yp_bd _ (yb_lowest (fun k h1 h2 => yz_sbits l0 k (by omega) h2)) (fun r hr => yp_some hr)
  · show yp ((fX9_firstOf (sn_I u 10 p)).bind _) _
    rw [show sn_I u 10 p = _ from yz_msn hK.2.1.1 hM hp]
    exact yp_bd _ (yb_firstOf _) (fun r hr => yp_some hr)
theorem yz_11 {a : Int32} (hK : zK σ τ) : yr (fX8_who σ a) (fX9_who τ a) (fun r s => r = s.1) := by
  unfold fX8_who fX9_who
  refine yz_min hK (fun m v u hm ea hM => ?_)
  subst ea
  have l := hK.2.1.1.1.1.2
  rw [nI_clamp (show m < 2 ^ 31 by omega)]
  exact yr_eq _ (yp_gd (fun _ => yp_some (yz_who hK hm))) (yp_gd (fun _ => yp_some (yz_mwho hM hm)))
/-! how often all sneeze -/
def yz_sum (i : dy_I) (M : Nat) : Nat → Nat
  | 0 => 0
  | p + 1 => yz_sum i M p + yb_pop (dy_sn i M p) 30
theorem yc_total {q M : Nat} {i : dy_I} (h1 : σ.1 q 1 = nI (dy_P i)) (hP : dy_P i ≤ 6) (hM : M ≤ 30) (hs : ∀ p, p < dy_P i → σ.1 (q + 10) p = dy_sn i M p) : yp (fX0_total σ q) (fun v => v = nI (yz_sum i M (dy_P i))) := by
  unfold fX0_total
  refine yp_bd (fun v => v = nI (yz_sum i M (dy_P i))) (yp_for (dy_P i) (fun k s => s.2 = nI k ∧ s.1 = nI (yz_sum i M k)) (fun k s hk hs2 => ?_) (fun s hs2 => ?_) ⟨nI_0.symm, nI_0.symm⟩) (fun v hv => ?_)
  · obtain ⟨v, x⟩ := s
    obtain ⟨ex, ev⟩ := hs2
    have ex : x = nI k := ex
    have ev : v = nI (yz_sum i M k) := ev
    subst ex
    subst ev
    show yp (BX0_total_4 σ q _ (nI k)) _
    unfold BX0_total_4
    rw [show sn_I σ q 1 = _ from h1, if_neg (nI_ge hk (by omega)), nI_clamp (show k < 2 ^ 31 by omega), show sn_I σ (q + 10) k = _ from hs k hk, yb_count, yb_pop30 (fun j g1 g2 => yz_sbits hM j (by omega) g2)]
    exact yp_gd (fun _ => yp_bs rfl (yp_lt (yp_lt (yp_some ⟨nI_1 k, nI_add _ _⟩))))
  · obtain ⟨v, x⟩ := s
    obtain ⟨ex, ev⟩ := hs2
    have ex : x = nI (dy_P i) := ex
    subst ex
    show yp (BX0_total_4 σ q v (nI (dy_P i))) _
    unfold BX0_total_4
    rw [show sn_I σ q 1 = _ from h1, if_pos (nI_le (Nat.le_refl _) (by omega))]
    exact yp_some ev
  · unfold BX0_total_30
    exact yp_some hv
theorem ym_total {u : sn_S} {M : Nat} {i : dy_I} (h1 : u.1 1 5 = nI (dy_P i)) (hP : dy_P i ≤ 6) (hs : ∀ p, p < dy_P i → u.1 10 p = dy_sn i M p) : yp (fX9_allSneezes u) (fun v => v = nI (yz_sum i M (dy_P i))) := by
  unfold fX9_allSneezes
  refine yp_bd (fun v => v = nI (yz_sum i M (dy_P i))) (yp_for (dy_P i) (fun k s => s.2 = nI k ∧ s.1 = nI (yz_sum i M k)) (fun k s hk hs2 => ?_) (fun s hs2 => ?_) ⟨nI_0.symm, nI_0.symm⟩) (fun v hv => ?_)
  · obtain ⟨v, x⟩ := s
    obtain ⟨ex, ev⟩ := hs2
    have ex : x = nI k := ex
    have ev : v = nI (yz_sum i M k) := ev
    subst ex
    subst ev
    show yp (BX9_allSneezes_4 u _ (nI k)) _
    unfold BX9_allSneezes_4
    rw [show sn_I u 1 (5 : Int32).toNatClampNeg = _ from h1, if_neg (nI_ge hk (by omega)), nI_clamp (show k < 2 ^ 31 by omega), show sn_I u 10 k = _ from hs k hk]
    refine yp_gd (fun _ => yp_gd (fun _ => yp_bd _ (yb_mbits _) (fun t ht => yp_lt (yp_lt (yp_some ⟨nI_1 k, ?_⟩)))))
    rw [ht]
    exact nI_add _ _
  · obtain ⟨v, x⟩ := s
    obtain ⟨ex, ev⟩ := hs2
    have ex : x = nI (dy_P i) := ex
    subst ex
    show yp (BX9_allSneezes_4 u v (nI (dy_P i))) _
    unfold BX9_allSneezes_4
    rw [show sn_I u 1 (5 : Int32).toNatClampNeg = _ from h1, if_pos (nI_le (Nat.le_refl _) (by omega))]
    exact yp_gd (fun _ => yp_some ev)
  · unfold BX9_allSneezes_32
    exact yp_some hv
theorem yz_10 (hK : zK σ τ) : yr (fX8_all σ) (fX9_all τ) (fun r s => r = s.1) := by
  unfold fX8_all fX9_all
  refine yz_house hK (fun v u h10 hM => ?_)
  have hW := hK.2.1.1
  refine yr_eq (nI (yz_sum (hs_day (τ.1 1)) (sp_n (τ.1 1) 0) (sp_n (τ.1 1) 5))) ?_ ?_
  · exact yp_bd _ (yc_total (i := hs_day (τ.1 1)) hK.2.2.2.2.1.1 hW.1.2.2.2.2.2.1.2 hW.1.1.2 (fun p hp => yz_sn hK hp)) (fun t ht => yp_some ht)
  · exact yp_bd _ (ym_total (i := hs_day (τ.1 1)) ((congrFun hM.1 5).trans hW.1.2.2.2.2.2.1.1) hW.1.2.2.2.2.2.1.2 (fun p hp => yz_msn hW hM hp)) (fun t ht => yp_some ht)
theorem yz_12 {a b : Int32} (hK : zK σ τ) : yr (fX8_tickle σ a b) (fX9_tickle τ a b) (fun r s => r = s.1) := by
  obtain ⟨-, ⟨p1, p2, p3⟩, ⟨m1, m2, m3⟩⟩ := yK_n hK
  have hW := hK.2.1.1
  unfold fX8_tickle fX9_tickle
  rw [c_isPerson, c_isMinute, p1, m1]
  intro r s e1 e2
  obtain ⟨⟨v, u⟩, e3, e4⟩ := sn_bd e2
  obtain ⟨hv, hM⟩ := ym_askM rfl hW _ e3
  have hv : v = _ := hv
  have hM : yM τ u (τ.1 1) := hM
  have e4 : (if v = 0 then some ((-2 : Int32), u) else (fX9_isPerson u a.toInt64).bind _) = some s := e4
  by_cases cp : 0 ≤ a ∧ a < τ.1 1 5
  · rw [if_pos cp] at e1
    have e1 : (if (1 : Int32) = 0 then some (-2 : Int32) else _) = some r := e1
    rw [if_neg (by decide)] at e1
    by_cases cm : 0 ≤ b ∧ b < τ.1 1 0
    · rw [if_pos cm] at e1 hv
      have e1 : (if (1 : Int32) = 0 then some (-2 : Int32) else _) = some r := e1
      rw [if_neg (by decide)] at e1
      rw [hv, if_neg (by decide), ym_isP hW hM, if_pos cp] at e4
      have e4 : (if (1 : Int32) = 0 then some ((-2 : Int32), u) else _) = some s := e4
      rw [if_neg (by decide)] at e4
      obtain ⟨p, hp, ep⟩ := yK_p (by omega) p2 cp
      obtain ⟨m, hm, em⟩ := yK_p (by omega) m2 cm
      subst ep
      subst em
      have f1 : yp ((fX0_tickleAt σ 27 (nI p) (nI m)).bind fun t_7 => some t_7) (fun r => r = dy_tick (hs_day (τ.1 1)) m p) := by
        unfold fX0_tickleAt
        rw [yi_6, nI_add, nI_clamp (by omega)]
        exact yp_bd _ (yp_gd (fun _ => yp_some (yz_tick hK hm hp))) (fun t ht => yp_some ht)
      rw [yi_6, nI_add, nI_clamp (by omega)] at e4
      obtain ⟨_, e5⟩ := sn_gdE e4
      cases e5
      exact (f1 r e1).trans (yz_mtick hM hm hp).symm
    · rw [if_neg cm] at e1 hv
      rw [hv, if_pos rfl] at e4
      have e1 : some (-2 : Int32) = some r := e1
      cases e1
      cases e4
      rfl
  · rw [if_neg cp] at e1
    have e1 : some (-2 : Int32) = some r := e1
    cases e1
    by_cases c : v = 0
    · rw [if_pos c] at e4
      cases e4
      rfl
    · rw [if_neg c, ym_isP hW hM, if_neg cp] at e4
      have e4 : some ((-2 : Int32), u) = some s := e4
      cases e4
      rfl
end
