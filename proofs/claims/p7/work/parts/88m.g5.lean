/-! which gust it was: the reference's -/
theorem yi_d10 {a : Nat} (h : a < 2 ^ 31) : nI a / (10 : Int32) = nI (a / 10) := by
  apply Int32.toInt_inj.mp
  rw [Int32.toInt_div, nI_toInt h, nI_toInt (show a / 10 < 2 ^ 31 by omega), show (10 : Int32).toInt = 10 by decide, Int.tdiv_eq_ediv_of_nonneg (by omega), Int.bmod_eq_of_le (by omega) (by omega)]
  omega
section
variable {σ τ u z v : sn_S} {w : Nat → Int32} {ok : Nat → Bool} {N m n p t s : Nat} {A : Nat → Int64}
def ye_U (w : Nat → Int32) (A : Nat → Int64) (s N : Nat) (u : sn_S) : Prop := u.1 1 = w ∧ u.1 0 22 = nI (sp_n w 0) - 1 ∧ ym_T u (hs_day w) ∧ u.1 21 s = nI (2 * N) ∧ ∀ i, i < 60 → u.2.1 23 (60 * s + i) = A i
theorem ym_num {i : Nat} (hs : s < 4) (hi : i < 60) (hA : ∀ i, i < 60 → u.2.1 23 (60 * s + i) = A i) : yp (fX9_numberAt u (nI s) (nI i)) (fun x => x = A i) := by
  unfold fX9_numberAt
  rw [show (60 : Int32) * nI s = nI (60 * s) from nI_mul 60 s, nI_add, nI_clamp (show 60 * s + i < 2 ^ 31 by omega)]
  exact yp_gd (fun _ => yp_some (hA i hi))
theorem ym_inL {x : Int64} {n : Nat} (hn : n < 100) : fX9_in x (0 : Int64) ((nI n - (1 : Int32)).toInt64) = some (if 0 ≤ x.toInt ∧ x.toInt < n then 1 else 0) := by
  rw [in_eq]
  have e : (0 : Int64) ≤ x ∧ x ≤ (nI n - (1 : Int32)).toInt64 ↔ 0 ≤ x.toInt ∧ x.toInt < n := by
    rw [Int64.le_iff_toInt_le, Int64.le_iff_toInt_le, Int32.toInt_toInt64, i32_sub1 (nI_pos' (by omega)), nI_toInt (by omega), show (0 : Int64).toInt = 0 by decide]
    omega
  by_cases h : 0 ≤ x.toInt ∧ x.toInt < n
  · rw [if_pos h, if_pos (e.mpr h)]
  · rw [if_neg h, if_neg (fun g => h (e.mp g))]
theorem ym_isPl {x : Int64} (hW : jW w) (hu : u.1 1 = w) : yp (fX9_isPerson u x) (fun r => r = if 0 ≤ x.toInt ∧ x.toInt < sp_n w 5 then 1 else 0) := by
  have c5 := (yl_5 hW).2
  unfold fX9_isPerson
  rw [show sn_I u 1 (5 : Int32).toNatClampNeg = nI (sp_n w 5) from (congrFun hu 5).trans (yl_5 hW).1, ym_inL (by omega)]
  exact yp_gd (fun _ => yp_bs rfl (yp_gd (fun _ => yp_some rfl)))
theorem ym_isMl {x : Int64} (hW : jW w) (hu : u.1 1 = w) : yp (fX9_isMinute u x) (fun r => r = if 0 ≤ x.toInt ∧ x.toInt < sp_n w 0 then 1 else 0) := by
  have c0 := (yl_0 hW).2
  unfold fX9_isMinute
  rw [show sn_I u 1 (0 : Int32).toNatClampNeg = nI (sp_n w 0) from (congrFun hu 0).trans (yl_0 hW).1, ym_inL (by omega)]
  exact yp_gd (fun _ => yp_bs rfl (yp_gd (fun _ => yp_some rfl)))
theorem ym_pairsV (hs : s < 4) (hN : N ≤ 30) (hW : jW w) (hu : u.1 1 = w) (hlen : u.1 21 s = nI (2 * N)) (hA : ∀ i, i < 60 → u.2.1 23 (60 * s + i) = A i) : yp (sn_it (LX9_layPairs_46 u (nI s)) 5000 (0 : Int32)) (fun t => (t = Sum.inl () ∧ ∀ i, i < N → ye_v w A i) ∨ (t = Sum.inr ((-2 : Int32), u) ∧ ¬ ∀ i, i < N → ye_v w A i)) := by
  refine yp_it (fun x : Int32 => ∃ i, i ≤ N ∧ x = nI (2 * i) ∧ ∀ j, j < i → ye_v w A j) (fun x hx => ?_) _ _ (by exact ⟨0, Nat.zero_le _, nI_0.symm, fun j hj => absurd hj (by omega)⟩)
  obtain ⟨i, hi, ex, hv⟩ := hx
  subst ex
  show yp (BX9_layPairs_46 u (nI s) (nI (2 * i))) _
  unfold BX9_layPairs_46
  rw [nI_clamp (show s < 2 ^ 31 by omega), show sn_I u 21 s = nI (2 * N) from hlen]
  refine yp_gd (fun _ => ?_)
  by_cases c : i < N
  · rw [if_neg (nI_ge (show 2 * i < 2 * N by omega) (by omega)), nI_1]
    refine yp_bd _ (ym_num hs (show 2 * i < 60 by omega) hA) (fun x1 h1 => yp_bd _ (ym_isPl hW hu) (fun x2 h2 => ?_))
    rw [h2, h1]
    by_cases d1 : 0 ≤ (A (2 * i)).toInt ∧ (A (2 * i)).toInt < sp_n w 5
    · rw [if_pos d1, if_neg (by decide)]
      refine yp_bd _ (ym_num hs (show 2 * i + 1 < 60 by omega) hA) (fun x3 h3 => yp_bd _ (ym_isMl hW hu) (fun x4 h4 => ?_))
      rw [h4, h3]
      by_cases d2 : 0 ≤ (A (2 * i + 1)).toInt ∧ (A (2 * i + 1)).toInt < sp_n w 0
      · rw [if_pos d2, if_neg (by decide)]
        refine yp_lt (yp_some ⟨i + 1, c, (nI_add _ 2).trans (congrArg nI (by omega)), fun j hj => ?_⟩)
        by_cases e : j = i
        · subst e
          exact ⟨d1, d2⟩
        · exact hv j (by omega)
      · rw [if_neg d2, if_pos rfl]
        exact yp_some (Or.inr ⟨rfl, fun g => d2 (g i c).2⟩)
    · rw [if_neg d1, if_pos rfl]
      exact yp_some (Or.inr ⟨rfl, fun g => d1 (g i c).1⟩)
  · rw [if_pos (nI_le (show 2 * N ≤ 2 * i by omega) (by omega))]
    have e : i = N := by omega
    subst e
    exact yp_some (Or.inl ⟨rfl, hv⟩)
theorem ym_check (hs : s < 4) (hN : N ≤ 30) (c0 : sp_n w 0 ≤ 30) (c5 : sp_n w 5 ≤ 6) {x2 x3 : Int32} (hlen : v.1 21 s = nI (2 * N)) (hA : ∀ i, i < 60 → v.2.1 23 (60 * s + i) = A i) (hv : ∀ i, i < N → ye_v w A i) (h10 : ∀ p, p < sp_n w 5 → v.1 10 p = ye_s w t p) : yp (sn_it (LX9_layPairs_150 v (nI s) x2 x3) 5000 ((1 : Int32), (0 : Int32))) (fun r => r = if ye_ok w (ye_a A) (ye_b A) N t = true then 1 else 0) := by
  refine yp_for N (fun i x => x.2 = nI (2 * i) ∧ x.1 = if ye_all (fun i => sp_bit (ye_s w t (ye_a A i)) (ye_b A i)) i = true then 1 else 0) (fun i x hi hx => ?_) (fun x hx => ?_) (by exact ⟨nI_0.symm, rfl⟩)
  · obtain ⟨x4, x5⟩ := x
    obtain ⟨e5, e4⟩ := hx
    have e5 : x5 = nI (2 * i) := e5
    have e4 : x4 = if ye_all (fun i => sp_bit (ye_s w t (ye_a A i)) (ye_b A i)) i = true then 1 else 0 := e4
    subst e5
    have k1 : ye_all (fun i => sp_bit (ye_s w t (ye_a A i)) (ye_b A i)) (i + 1) = (ye_all (fun i => sp_bit (ye_s w t (ye_a A i)) (ye_b A i)) i && sp_bit (ye_s w t (ye_a A i)) (ye_b A i)) := rfl
    have fin : ∀ x : Int32, (x = if ye_all (fun i => sp_bit (ye_s w t (ye_a A i)) (ye_b A i)) (i + 1) = true then 1 else 0) → yp (BX9_layPairs_201 v (nI s) x2 x3 x4 (nI (2 * i)) x) (yp_sum (fun x : Int32 × Int32 => x.2 = nI (2 * (i + 1)) ∧ x.1 = if ye_all (fun i => sp_bit (ye_s w t (ye_a A i)) (ye_b A i)) (i + 1) = true then 1 else 0) (fun _ => False)) := fun x h => by
      unfold BX9_layPairs_201
      exact yp_lt (yp_some ⟨(nI_add _ 2).trans (congrArg nI (by omega)), h⟩)
    show yp (BX9_layPairs_150 v (nI s) x2 x3 x4 (nI (2 * i))) _
    unfold BX9_layPairs_150 BX9_layPairs_200
    rw [nI_clamp (show s < 2 ^ 31 by omega), show sn_I v 21 s = nI (2 * N) from hlen, if_neg (nI_ge (show 2 * i < 2 * N by omega) (by omega)), nI_1]
    refine yp_gd (fun _ => ?_)
    cases o : ye_all (fun i => sp_bit (ye_s w t (ye_a A i)) (ye_b A i)) i with
    | false =>
      rw [o, if_neg (by decide)] at e4
      rw [o, Bool.false_and] at k1
      rw [if_pos e4]
      exact fin 0 (by rw [k1, if_neg (by decide)])
    | true =>
      rw [o, if_pos rfl] at e4
      rw [o, Bool.true_and] at k1
      have e4 : x4 = 1 := e4
      rw [if_neg (show ¬ x4 = 0 from fun h => absurd (h.symm.trans e4) (by decide))]
      obtain ⟨⟨h1, h2⟩, h3, h4⟩ := hv i hi
      have ea : (A (2 * i)).toInt = (ye_a A i : Int) := by unfold ye_a; omega
      have eb : (A (2 * i + 1)).toInt = (ye_b A i : Int) := by unfold ye_b; omega
      have la : ye_a A i < sp_n w 5 := by omega
      refine yp_bd _ (ym_num hs (show 2 * i < 60 by omega) hA) (fun y1 g1 => yp_gd (fun _ => yp_bd _ (ym_num hs (show 2 * i + 1 < 60 by omega) hA) (fun y2 g2 => ?_)))
      rw [g1, g2, ye_32 ea (by omega), ye_32 eb (by omega), nI_clamp (show ye_a A i < 2 ^ 31 by omega), show sn_I v 10 (ye_a A i) = _ from h10 _ la, yb_m]
      refine yp_bit (fun h => ?_) (fun h => ?_)
      · rw [if_pos rfl]
        exact fin 1 (by rw [k1, h, if_pos rfl])
      · rw [if_neg (by decide)]
        exact fin 0 (by rw [k1, h, if_neg (by decide)])
  · obtain ⟨x4, x5⟩ := x
    obtain ⟨e5, e4⟩ := hx
    have e5 : x5 = nI (2 * N) := e5
    subst e5
    show yp (BX9_layPairs_150 v (nI s) x2 x3 x4 (nI (2 * N))) _
    unfold BX9_layPairs_150
    rw [nI_clamp (show s < 2 ^ 31 by omega), show sn_I v 21 s = nI (2 * N) from hlen, if_pos (nI_le (Nat.le_refl _) (by omega))]
    exact yp_gd (fun _ => yp_some e4)
def ye_R (w : Nat → Int32) (ok : Nat → Bool) (t : Nat) (z : sn_S) : Prop := z.1 0 36 = nI (ye_cnt ok t) ∧ ∀ k, k < t → ok k = true → z.1 19 (ye_cnt ok k) = nI (10 * (k / 9) + (k % 9 + 1)) ∧ ∀ p, p < sp_n w 5 → z.1 20 (6 * ye_cnt ok k + p) = nI (ye_p w k p)
theorem ye_lt {k : Nat} (hk : k < t) (h : ok k = true) : ye_cnt ok k < ye_cnt ok t := by
  have g := ye_mono (ok := ok) t (k + 1) (by omega)
  rw [ye_ct h] at g
  omega
theorem ye_Uc (e0 : ∀ k, k ≠ 36 → v.1 0 k = u.1 0 k) (e : ∀ q, q ≠ 0 → q ≠ 10 → q ≠ 11 → q ≠ 12 → q ≠ 13 → q ≠ 14 → q ≠ 19 → q ≠ 20 → v.1 q = u.1 q) (e2 : v.2 = u.2) (h : ye_U w A s N u) : ye_U w A s N v := by
  obtain ⟨h1, h2, ⟨t1, t2, t3, t4, t5, t6⟩, h4, h5⟩ := h
  have r1 := e 1 (by decide) (by decide) (by decide) (by decide) (by decide) (by decide) (by decide) (by decide)
  have r7 := e 7 (by decide) (by decide) (by decide) (by decide) (by decide) (by decide) (by decide) (by decide)
  have r8 := e 8 (by decide) (by decide) (by decide) (by decide) (by decide) (by decide) (by decide) (by decide)
  have r9 := e 9 (by decide) (by decide) (by decide) (by decide) (by decide) (by decide) (by decide) (by decide)
  have r21 := e 21 (by decide) (by decide) (by decide) (by decide) (by decide) (by decide) (by decide) (by decide)
  refine ⟨r1.trans h1, (e0 22 (by decide)).trans h2, ⟨(congrFun r1 5).trans t1, (congrFun r1 7).trans t2, (e0 19 (by decide)).trans t3, fun k hk => (congrFun r7 k).trans (t4 k hk), fun p hp => ?_, fun k hk => ?_⟩, (congrFun r21 s).trans h4, fun i hi => ?_⟩
  · rw [r1, r8, r9]
    exact t5 p hp
  · rw [r1]
    exact t6 k hk
  · rw [e2]
    exact h5 i hi
theorem ym_write {g : Nat} (hs : s < 4) (c0 : sp_n w 0 ≤ 30) (c5 : sp_n w 5 ≤ 6) (hm : m < 30) (e9 : t / 9 = m) (eg : t % 9 + 1 = g) (hU : ye_U w A s N v) (hR : ye_R w ok t v) (h10 : ∀ p, p < sp_n w 5 → v.1 10 p = ye_s w t p) : yp (BX9_layPairs_209 v (nI s) (nI m) (nI g) (if ok t = true then 1 else 0)) (yp_sum (fun x : sn_S × Int32 => x.2 = nI (g + 1) ∧ ye_U w A s N x.1 ∧ ye_R w ok (t + 1) x.1) (fun _ => False)) := by
  have fin : ∀ y : sn_S, ye_U w A s N y → ye_R w ok (t + 1) y → yp (BX9_layPairs_283 y (nI s) (nI m) (nI g)) (yp_sum (fun x : sn_S × Int32 => x.2 = nI (g + 1) ∧ ye_U w A s N x.1 ∧ ye_R w ok (t + 1) x.1) (fun _ => False)) := fun y h1 h2 => by
    unfold BX9_layPairs_283
    exact yp_lt (yp_some ⟨nI_1 g, h1, h2⟩)
  obtain ⟨n1, n2⟩ := hR
  have cl := ye_cle (ok := ok) t
  have ht : t < 1000 := by omega
  unfold BX9_layPairs_209
  cases o : ok t with
  | false =>
    rw [if_neg (show ¬ false = true by decide), if_pos rfl]
    refine fin v hU ⟨by rw [ye_cf o]; exact n1, fun k hk hok => ?_⟩
    by_cases c : k = t
    · rw [c, o] at hok
      exact absurd hok (by decide)
    · exact n2 k (by omega) hok
  | true =>
    rw [if_pos rfl, if_neg (by decide), show sn_I v 0 36 = nI (ye_cnt ok t) from n1, nI_clamp (show ye_cnt ok t < 2 ^ 31 by omega)]
    refine yp_gd (fun _ => yp_le (fun y ey => ?_))
    have yr0 : ∀ q, q ≠ 19 → y.1 q = v.1 q := fun q h => by rw [ey]; exact pI_ne h
    have y19 : y.1 19 (ye_cnt ok t) = nI (10 * (t / 9) + (t % 9 + 1)) := by
      rw [ey, pI_self, show (10 : Int32) * nI m = nI (10 * m) from nI_mul 10 m, nI_add, e9, eg]
    have y19b : ∀ k, k ≠ ye_cnt ok t → y.1 19 k = v.1 19 k := fun k h => by rw [ey]; exact pI_slot h
    refine yp_bd (fun y2 : sn_S => (∀ q, q ≠ 20 → y2.1 q = y.1 q) ∧ y2.2 = y.2 ∧ (∀ k, k < 6 * ye_cnt ok t → y2.1 20 k = y.1 20 k) ∧ ∀ p, p < sp_n w 5 → y2.1 20 (6 * ye_cnt ok t + p) = nI (ye_p w t p)) (yp_for 6 (fun q x => x.2 = nI q ∧ (∀ q, q ≠ 20 → x.1.1 q = y.1 q) ∧ x.1.2 = y.2 ∧ (∀ k, k < 6 * ye_cnt ok t → x.1.1 20 k = y.1 20 k) ∧ ∀ p, p < q → p < sp_n w 5 → x.1.1 20 (6 * ye_cnt ok t + p) = nI (ye_p w t p)) (fun q x hq hx => ?_) (fun x hx => ?_) (by exact ⟨nI_0.symm, fun _ _ => rfl, rfl, fun _ _ => rfl, fun p hp => absurd hp (by omega)⟩)) (fun y2 hy2 => ?_)
    · obtain ⟨x, x5⟩ := x
      obtain ⟨e5, xr, xl, xo, xp⟩ := hx
      have e5 : x5 = nI q := e5
      subst e5
      have xr : ∀ q, q ≠ 20 → x.1 q = y.1 q := xr
      have xl : x.2 = y.2 := xl
      have xo : ∀ k, k < 6 * ye_cnt ok t → x.1 20 k = y.1 20 k := xo
      have xp : ∀ p, p < q → p < sp_n w 5 → x.1 20 (6 * ye_cnt ok t + p) = nI (ye_p w t p) := xp
      have e36 : sn_I x 0 36 = nI (ye_cnt ok t) := (congrFun (xr 0 (by decide)) 36).trans ((congrFun (yr0 0 (by decide)) 36).trans n1)
      show yp (BX9_layPairs_235 x (nI s) (nI m) (nI g) (nI q)) _
      unfold BX9_layPairs_235
      rw [if_neg (show ¬ (6 : Int32) ≤ nI q from nI_ge (b := 6) hq (by decide)), nI_clamp (show q < 2 ^ 31 by omega), e36, yi_6, nI_add, nI_clamp (show 6 * ye_cnt ok t + q < 2 ^ 31 by omega)]
      refine yp_gd (fun _ => yp_bd _ (yb_mbits _) (fun r hr => yp_gd (fun _ => yp_le (fun x' ex' => yp_lt (yp_some ⟨nI_1 q, fun k hk => ?_, ?_, fun k hk => ?_, fun p hp hp2 => ?_⟩)))))
      · show x'.1 k = _
        rw [ex', pI_ne hk]
        exact xr k hk
      · show x'.2 = _
        rw [ex']
        exact xl
      · show x'.1 20 k = _
        rw [ex', pI_slot (by omega)]
        exact xo k hk
      · show x'.1 20 (6 * ye_cnt ok t + p) = _
        rw [ex']
        by_cases c : p = q
        · subst c
          rw [pI_self, hr, show sn_I x 10 p = ye_s w t p from (congrFun (xr 10 (by decide)) p).trans ((congrFun (yr0 10 (by decide)) p).trans (h10 p hp2))]
          rfl
        · rw [pI_slot (by omega)]
          exact xp p (by omega) hp2
    · obtain ⟨x, x5⟩ := x
      obtain ⟨e5, xr, xl, xo, xp⟩ := hx
      have e5 : x5 = nI 6 := e5
      subst e5
      show yp (BX9_layPairs_235 x (nI s) (nI m) (nI g) (nI 6)) _
      unfold BX9_layPairs_235
      rw [if_pos (show (6 : Int32) ≤ nI 6 by decide)]
      exact yp_some ⟨xr, xl, xo, fun p hp => xp p (by omega) hp⟩
    · obtain ⟨r2, l2, o2, p2⟩ := hy2
      have e36 : sn_I y2 0 36 = nI (ye_cnt ok t) := (congrFun (r2 0 (by decide)) 36).trans ((congrFun (yr0 0 (by decide)) 36).trans n1)
      unfold BX9_layPairs_273
      rw [e36, nI_1]
      refine yp_le (fun y3 e3 => ?_)
      have r3 : ∀ q, q ≠ 0 → y3.1 q = y2.1 q := fun q h => by rw [e3]; exact pI_ne h
      refine fin y3 (ye_Uc (u := v) (fun k hk => ?_) (fun q q0 q1 q2 q3 q4 q5 q6 q7 => (r3 q q0).trans ((r2 q q7).trans (yr0 q q6))) ?_ hU) ⟨?_, fun k hk hok => ?_⟩
      · rw [e3, pI_slot hk, r2 0 (by decide), yr0 0 (by decide)]
      · rw [e3]
        show y2.2 = _
        rw [l2, ey]
        rfl
      · rw [e3, pI_self, ye_ct o]
      · rw [r3 19 (by decide), r3 20 (by decide), r2 19 (by decide)]
        by_cases c : k = t
        · subst c
          exact ⟨y19, p2⟩
        · have lt := ye_lt (ok := ok) (show k < t by omega) hok
          have g := n2 k (by omega) hok
          refine ⟨(y19b _ (by omega)).trans g.1, fun p hp => ?_⟩
          rw [o2 _ (by omega), yr0 20 (by decide)]
          exact g.2 p hp
theorem ym_inner (hs : s < 4) (hN : N ≤ 30) (hW : jW w) (hm : m < sp_n w 0) (hv : ∀ i, i < N → ye_v w A i) (hU : ye_U w A s N u) (hR : ye_R w (ye_ok w (ye_a A) (ye_b A) N) (9 * m) u) : yp (sn_it (LX9_layPairs_114 (nI s) (nI m)) 5000 (u, (1 : Int32))) (fun v => ye_U w A s N v ∧ ye_R w (ye_ok w (ye_a A) (ye_b A) N) (9 * m + 9) v) := by
  have c0 := (yl_0 hW).2
  have c5 := (yl_5 hW).2
  refine yp_for 9 (fun g x => x.2 = nI (g + 1) ∧ ye_U w A s N x.1 ∧ ye_R w (ye_ok w (ye_a A) (ye_b A) N) (9 * m + g) x.1) (fun g x hg hx => ?_) (fun x hx => ?_) (by exact ⟨rfl, hU, hR⟩)
  · obtain ⟨z, x3⟩ := x
    obtain ⟨ex, hU, hR⟩ := hx
    have ex : x3 = nI (g + 1) := ex
    subst ex
    have hU : ye_U w A s N z := hU
    have hR : ye_R w (ye_ok w (ye_a A) (ye_b A) N) (9 * m + g) z := hR
    obtain ⟨u1, u22, ⟨t1, t2, t3, t4, t5, t6⟩, u21, uA⟩ := hU
    have z7 : sn_I z 7 m = hs_dust w m (sp_n w 6) := t4 m (by omega)
    show yp (BX9_layPairs_114 z (nI s) (nI m) (nI (g + 1))) _
    unfold BX9_layPairs_114
    rw [if_neg (show ¬ (9 : Int32) < nI (g + 1) from nI_nlt (a := 9) (by omega) (by decide)), nI_clamp (show m < 2 ^ 31 by omega), z7]
    refine yp_gd (fun _ => yp_gd (fun _ => yp_le (fun y ey => ?_)))
    have yr0 : ∀ q, q ≠ 7 → y.1 q = z.1 q := fun q h => by rw [ey]; exact pI_ne h
    have hT2 : ym_T y (ye_j w m (hs_dust w m (sp_n w 6) + nI (g + 1))) := by
      refine ⟨(congrFun (yr0 1 (by decide)) 5).trans t1, (congrFun (yr0 1 (by decide)) 7).trans t2, (congrFun (yr0 0 (by decide)) 19).trans t3, fun k hk => ?_, fun p hp => ?_, fun k hk => ?_⟩
      · show y.1 7 k = (if k = m then hs_dust w m (sp_n w 6) + nI (g + 1) else hs_dust w k (sp_n w 6))
        by_cases c : k = m
        · rw [if_pos c, c, ey]
          exact pI_self
        · rw [if_neg c, ey]
          exact (pI_slot c).trans (t4 k hk)
      · rw [yr0 1 (by decide), yr0 8 (by decide), yr0 9 (by decide)]
        exact t5 p hp
      · rw [yr0 1 (by decide)]
        exact t6 k hk
    refine yp_bd _ (ym_goAll c0 ((congrFun (yr0 0 (by decide)) 22).trans u22) hT2 (hs_ok hW)) (fun v hv2 => ?_)
    obtain ⟨⟨f1, f2⟩, hLv⟩ := hv2
    have v7 : sn_I v 7 m = hs_dust w m (sp_n w 6) + nI (g + 1) := by
      show v.1 7 m = _
      rw [f1 7 (by omega), ey]
      exact pI_self
    rw [v7, Int32.add_sub_cancel]
    refine yp_gd (fun _ => yp_gd (fun _ => yp_le (fun y2 ey2 => ?_)))
    have r2 : ∀ q, q ≠ 7 → y2.1 q = v.1 q := fun q h => by rw [ey2]; exact pI_ne h
    have r3 : ∀ q, (q < 10 ∨ 14 < q) → y2.1 q = z.1 q := fun q h => by
      by_cases c : q = 7
      · subst c
        funext k
        by_cases d : k = m
        · rw [d, ey2, pI_self]
          exact z7.symm
        · rw [ey2, pI_slot d, f1 7 (by omega), ey, pI_slot d]
      · rw [r2 q c, f1 q h, yr0 q c]
    have l3 : y2.2 = z.2 := by
      rw [ey2]
      show v.2 = _
      rw [f2, ey]
      rfl
    have hU2 : ye_U w A s N y2 := ye_Uc (u := z) (fun k _ => congrFun (r3 0 (by omega)) k) (fun q q0 q1 q2 q3 q4 q5 q6 q7 => r3 q (by omega)) l3 ⟨u1, u22, ⟨t1, t2, t3, t4, t5, t6⟩, u21, uA⟩
    have t9 : (9 * m + g) / 9 = m := by omega
    have tg : (9 * m + g) % 9 + 1 = g + 1 := by omega
    have ed : ye_d w (9 * m + g) = ye_j w m (hs_dust w m (sp_n w 6) + nI (g + 1)) := by
      unfold ye_d
      rw [t9, tg]
    have h10 : ∀ p, p < sp_n w 5 → y2.1 10 p = ye_s w (9 * m + g) p := fun p hp => by
      unfold ye_s
      rw [ed, r2 10 (by decide)]
      have q := (hLv.2 p (by omega)).1
      rw [if_pos (show p < dy_P (ye_j w m (hs_dust w m (sp_n w 6) + nI (g + 1))) from hp)] at q
      exact q
    have hR2 : ye_R w (ye_ok w (ye_a A) (ye_b A) N) (9 * m + g) y2 := by
      unfold ye_R
      rw [r3 0 (by omega), r3 19 (by omega), r3 20 (by omega)]
      exact hR
    refine yp_bd _ (ym_check (t := 9 * m + g) hs hN c0 c5 hU2.2.2.2.1 hU2.2.2.2.2 hv h10) (fun r hr => ?_)
    rw [hr]
    exact ym_write hs c0 c5 (by omega) t9 tg hU2 hR2 h10
  · obtain ⟨z, x3⟩ := x
    obtain ⟨ex, hU, hR⟩ := hx
    have ex : x3 = nI (9 + 1) := ex
    subst ex
    show yp (BX9_layPairs_114 z (nI s) (nI m) (nI (9 + 1))) _
    unfold BX9_layPairs_114
    rw [if_pos (show (9 : Int32) < nI (9 + 1) by decide)]
    exact yp_some ⟨hU, hR⟩
theorem ym_layP (hs : s < 4) (hN : N ≤ 30) (hW : jW w) (hu : τ.1 1 = w) (hH : fX9_isHouse τ = some 1) (hlen : τ.1 21 s = nI (2 * N)) (hA : ∀ i, i < 60 → τ.2.1 23 (60 * s + i) = A i) : yp (fX9_layPairs τ (nI s)) (fun r => (r.1 = 0 ∧ (∀ i, i < N → ye_v w A i) ∧ r.2.1 1 = w ∧ ye_R w (ye_ok w (ye_a A) (ye_b A) N) (9 * sp_n w 0) r.2) ∨ (r.1 = -2 ∧ ¬ ∀ i, i < N → ye_v w A i)) := by
  have c0 := (yl_0 hW).2
  unfold fX9_layPairs
  rw [m_isSlot, if_pos ⟨nI_pos' (by omega), nI_lt (b := 4) hs (by decide)⟩]
  refine yp_bs rfl ?_
  rw [if_neg (by decide), hH]
  refine yp_bs rfl ?_
  rw [if_neg (by decide), nI_clamp (show s < 2 ^ 31 by omega), show sn_I τ 21 s = nI (2 * N) from hlen, if_neg (yi_m (by omega)), yi_m2 (by omega), if_pos (show nI (2 * N % 2) = 0 by rw [show 2 * N % 2 = 0 by omega]; exact nI_0)]
  refine yp_gd (fun _ => yp_gd (fun _ => yp_bd _ (ym_pairsV hs hN hW hu hlen hA) (fun t ht => ?_)))
  rcases ht with ⟨e, hv⟩ | ⟨e, h2⟩
  · subst e
    rw [Sum.elim_inl]
    unfold BX9_layPairs_93
    refine yp_bd _ (ym_asItIs hu hW) (fun z hz => yp_le (fun y ey => ?_))
    have yr0 : ∀ q, q ≠ 0 → y.1 q = z.1 q := fun q h => by rw [ey]; exact pI_ne h
    have y0 : ∀ k, k ≠ 36 → y.1 0 k = z.1 0 k := fun k h => by rw [ey]; exact pI_slot h
    have zT := ya_day hu hW hz
    obtain ⟨a1, a2, a3⟩ := hz.1
    have zU : ye_U w A s N z := ⟨(a1 1 (by decide) (by decide) (by decide) (by decide)).trans hu, hz.2.2.2.2.2.1, zT, (congrFun (a1 21 (by decide) (by decide) (by decide) (by decide)) s).trans hlen, fun i hi => by rw [a2]; exact hA i hi⟩
    have yU : ye_U w A s N y := ye_Uc (u := z) y0 (fun q q0 _ _ _ _ _ _ _ => yr0 q q0) (by rw [ey]; rfl) zU
    have yR : ye_R w (ye_ok w (ye_a A) (ye_b A) N) (9 * 0) y := ⟨by rw [ey, pI_self]; exact nI_0.symm, fun k hk => absurd hk (by omega)⟩
    refine yp_bd (fun v : sn_S => ye_U w A s N v ∧ ye_R w (ye_ok w (ye_a A) (ye_b A) N) (9 * sp_n w 0) v) (yp_for (sp_n w 0) (fun m x => x.2 = nI m ∧ ye_U w A s N x.1 ∧ ye_R w (ye_ok w (ye_a A) (ye_b A) N) (9 * m) x.1) (fun m x hm hx => ?_) (fun x hx => ?_) (by exact ⟨nI_0.symm, yU, yR⟩)) (fun v hv2 => ?_)
    · obtain ⟨z, x2⟩ := x
      obtain ⟨ex, hU, hR⟩ := hx
      have ex : x2 = nI m := ex
      subst ex
      have hU : ye_U w A s N z := hU
      show yp (BX9_layPairs_104 z (nI s) (nI m)) _
      unfold BX9_layPairs_104 fX9_minutes
      refine yp_bd (fun t => t = nI (sp_n w 0)) (yp_gd (fun _ => yp_some ((congrFun hU.1 0).trans (yl_0 hW).1))) (fun t ht => ?_)
      rw [ht, if_neg (nI_ge hm (by omega))]
      refine yp_bd _ (ym_inner hs hN hW hm hv hU hR) (fun v hv2 => ?_)
      unfold BX9_layPairs_289
      exact yp_lt (yp_some ⟨nI_1 m, hv2.1, hv2.2⟩)
    · obtain ⟨z, x2⟩ := x
      obtain ⟨ex, hU, hR⟩ := hx
      have ex : x2 = nI (sp_n w 0) := ex
      subst ex
      have hU : ye_U w A s N z := hU
      show yp (BX9_layPairs_104 z (nI s) (nI (sp_n w 0))) _
      unfold BX9_layPairs_104 fX9_minutes
      refine yp_bd (fun t => t = nI (sp_n w 0)) (yp_gd (fun _ => yp_some ((congrFun hU.1 0).trans (yl_0 hW).1))) (fun t ht => ?_)
      rw [ht, if_pos (nI_le (Nat.le_refl _) (by omega))]
      exact yp_some ⟨hU, hR⟩
    · unfold BX9_layPairs_295
      exact yp_some (Or.inl ⟨rfl, hv, hv2.1.1, hv2.2⟩)
  · subst e
    rw [Sum.elim_inr]
    exact yp_some (Or.inr ⟨rfl, h2⟩)
end
