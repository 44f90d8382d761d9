/-! all puffs of the first minutes: the reference's sums; chance, fair -/
section
variable {σ τ u z : sn_S} {w : Nat → Int32} {q n p M : Nat} {l : Int32}
def yqf (u z : sn_S) : Prop := z.2 = u.2 ∧ ∀ a, a ≠ 0 → a ≠ 16 → z.1 a = u.1 a
theorem yqf_0 : yqf u u := ⟨rfl, fun _ _ _ => rfl⟩
theorem yqf_w {k : Nat} {v : Int32} {b : Nat} (hb : b = 0 ∨ b = 16) (h : yqf u z) : yqf u (sn_pI z b k v) := ⟨h.1, fun a h0 h1 => (pI_ne (by omega)).trans (h.2 a h0 h1)⟩
theorem yqf_t {v : sn_S} (h : yqf u z) (g : yqf z v) : yqf u v := ⟨g.1.trans h.1, fun a h0 h1 => (g.2 a h0 h1).trans (h.2 a h0 h1)⟩
theorem yp_T {α : Type} {o : Option α} : yp o (fun _ => True) := fun _ _ => trivial
theorem yq_63 {a b c n s1 s2 s3 : Int32} (hs : yqf u z) : yp (BX9_claimOf_63 z a b c s1 s2 n s3) (yp_sum (fun s : sn_S × Int32 × Int32 × Int32 => yqf u s.1) (fun r : sn_S × Int32 => yqf u r.1)) := by
  have k152 : ∀ y x8 t, yp (BX9_claimOf_152 z a b c y s2 n s3 x8 t) (yp_sum (fun s : sn_S × Int32 × Int32 × Int32 => yqf u s.1) (fun r : sn_S × Int32 => yqf u r.1)) := fun y x8 t => by
    unfold BX9_claimOf_152 BX9_claimOf_177
    exact yp_lt (yp_ite (fun _ => yp_lt (yp_some hs)) (fun _ => yp_gd (fun _ => yp_gd (fun _ => yp_lt (yp_lt (yp_some (yqf_w (Or.inr rfl) hs)))))))
  have k128 : ∀ y x8 t, yp (BX9_claimOf_128 z a b c y s2 n s3 x8 t) (yp_sum (fun s : sn_S × Int32 × Int32 × Int32 => yqf u s.1) (fun r : sn_S × Int32 => yqf u r.1)) := fun y x8 t => by
    unfold BX9_claimOf_128
    exact yp_ite (fun _ => yp_bd _ yp_T (fun t2 _ => k152 _ _ _)) (fun _ => yp_bd _ yp_T (fun t2 _ => k152 _ _ _))
  unfold BX9_claimOf_63
  refine yp_ite (fun _ => yp_some hs) (fun _ => yp_ite (fun _ => yp_some hs) (fun _ => yp_bd _ yp_T (fun t _ => yp_lt (yp_ite (fun _ => yp_gd (fun _ => yp_bd _ yp_T (fun t9 _ => yp_bd _ yp_T (fun t11 _ => yp_ite (fun _ => ?_) (fun _ => k128 _ _ _))))) (fun _ => ?_)))))
  · unfold BX9_claimOf_127
    exact k128 _ _ _
  · unfold BX9_claimOf_127
    exact k128 _ _ _
theorem yq_claim {a b c : Int32} : yp (fX9_claimOf u a b c) (fun r => yqf u r.2) := by
  have k58 : ∀ (z : sn_S) x m, yqf u z → yp (BX9_claimOf_58 z a b c x (0 : Int32) m) (fun r => yqf u r.2) := fun z x m hz => by
    unfold BX9_claimOf_58
    refine yp_bd (fun r => yqf u r.1) (yp_it (fun s => yqf u s.1) (fun s hs => ?_) _ _ (by exact hz)) (fun r hr => ?_)
    · obtain ⟨z, s1, s2, s3⟩ := s
      exact yq_63 hs
    · unfold BX9_claimOf_183
      exact yp_some hr
  have k33 : ∀ x, yp (BX9_claimOf_33 u a b c x) (fun r => yqf u r.2) := fun x => by
    unfold BX9_claimOf_33
    exact yp_bd _ yp_T (fun t _ => yp_lt (yp_ite (fun _ => k58 _ _ _ (yqf_w (Or.inl rfl) yqf_0)) (fun _ => k58 _ _ _ (yqf_w (Or.inl rfl) yqf_0))))
  unfold fX9_claimOf
  exact yp_gd (fun _ => yp_bd _ yp_T (fun t _ => yp_lt (yp_ite (fun _ => yp_lt (k33 _)) (fun _ => k33 _))))
theorem yq_claim_ {a : Int32} : yp (fX9_claimOf_ u a) (fun r => yqf u r.2) := by
  unfold fX9_claimOf_
  exact yp_bd _ yp_T (fun t _ => yp_bd _ yq_claim (fun r hr => yp_some hr))
theorem yq_lay : yp (fX9_layPaid u) (fun z => yqf u z) := by
  unfold fX9_layPaid
  refine yp_bd (fun z : sn_S => yqf u z) (yp_it (fun s : sn_S × Int32 => yqf u s.1) (fun s hs => ?_) _ _ (by exact yqf_0)) (fun z hz => ?_)
  · obtain ⟨z, x⟩ := s
    have hs : yqf u z := hs
    show yp (BX9_layPaid_2 z x) _
    unfold BX9_layPaid_2
    exact yp_ite (fun _ => yp_some hs) (fun _ => yp_gd (fun _ => yp_lt (yp_lt (yp_some (yqf_w (Or.inr rfl) hs)))))
  · unfold BX9_layPaid_21
    refine yp_bd (fun z : sn_S => yqf u z) (yp_it (fun s : sn_S × Int32 => yqf u s.1) (fun s hs => ?_) _ _ (by exact hz)) (fun z hz => ?_)
    · obtain ⟨z, x⟩ := s
      have hs : yqf u z := hs
      show yp (BX9_layPaid_23 z x) _
      unfold BX9_layPaid_23
      exact yp_gd (fun _ => yp_ite (fun _ => yp_some hs) (fun _ => yp_bd _ yp_T (fun t _ => yp_bd _ yq_claim (fun r hr => yp_lt (yp_some (yqf_t hs hr))))))
    · unfold BX9_layPaid_53
      exact yp_some hz
theorem yq_ruin : yp (fX9_ruinOf u) (fun r => yqf u r.2) := by
  unfold fX9_ruinOf
  refine yp_bd _ yq_lay (fun z hz => ?_)
  refine yp_bd (fun t => ∀ r, t = Sum.inr r → r.2 = z) (yp_it (fun _ => True) (fun s _ => ?_) _ _ trivial) (fun t ht => ?_)
  · show yp (BX9_ruinOf_6 z s) _
    unfold BX9_ruinOf_6
    refine yp_ite (fun _ => yp_some (fun r e => ?_)) (fun _ => yp_bd _ yp_T (fun t _ => yp_ite (fun _ => yp_lt (yp_some trivial)) (fun _ => yp_some (fun r e => ?_))))
    · cases e
    · cases e
      rfl
  · cases t with
    | inl v =>
      show yp (BX9_ruinOf_30 z) _
      unfold BX9_ruinOf_30
      exact yp_some hz
    | inr r =>
      refine yp_some ?_
      rw [ht r rfl]
      exact hz
theorem yj_claim_ {S H : Nat → Int32} (c0 : M ≤ 30) (hW : jW w) (hq : q < sp_n w 8) (hX : yj_X M u w l S H) (hs : ∀ k, M ≤ k → k < 32 → sp_bit (S (sp_n w (49 + 5 * q))) k = false) : yp (fX9_claimOf_ u (nI q)) (fun r => r.1 = nI (yl_v w l q (S (sp_n w (49 + 5 * q))) (H (sp_n w (49 + 5 * q))))) := by
  obtain ⟨⟨q1, q2⟩, -⟩ := yl_p hW hq
  unfold fX9_claimOf_
  refine yp_bd _ (ym_of hW hX.1 hq 0 (by decide) nI_0.symm) (fun t ht => ?_)
  rw [ht, show w (49 + 0 + 5 * q) = nI (sp_n w (49 + 5 * q)) from q1]
  exact yp_bd _ (yj_claim c0 hW hq q2 hX hs) (fun r hr => yp_some hr.2.2.1)
/-! one set of puffs -/
def yj_O (z : sn_S) (x : Nat) (a b : Int64) (t : sn_S × Int32) : Prop := t.2 = nI x ∧ t.1.1 1 = z.1 1 ∧ t.1.2.1 0 38 = z.2.1 0 38 ∧ t.1.2.1 0 39 = a ∧ t.1.2.1 0 40 = b
theorem yj_190 {x1 x2 x3 : Int32} {B : Nat} {v t1 t2 : Int64} : yp (BX9_layPuffs_190 z x1 x2 x3 (nI B) v t1 t2) (yp_sum (yj_O z (B + 1) (z.2.1 0 39) (t1 + t2)) (fun _ => False)) := by
  unfold BX9_layPuffs_190
  refine yp_le (fun y ey => yp_bd _ yq_ruin (fun r hr => ?_))
  have y1 : y.1 = z.1 := by rw [ey]; rfl
  have y38 : y.2.1 0 38 = z.2.1 0 38 := by rw [ey]; exact yL_k (by decide)
  have y39 : y.2.1 0 39 = z.2.1 0 39 := by rw [ey]; exact yL_k (by decide)
  have y40 : y.2.1 0 40 = t1 + t2 := by rw [ey]; exact yL_s
  obtain ⟨r2, r1⟩ := hr
  have fin : ∀ t1' t2', yp (BX9_layPuffs_213 r.2 x1 x2 x3 (nI B) t1' t2') (yp_sum (yj_O z (B + 1) (z.2.1 0 39) (t1 + t2)) (fun _ => False)) := fun t1' t2' => by
    unfold BX9_layPuffs_213 BX9_layPuffs_217
    refine yp_lt (yp_lt (yp_some ⟨nI_1 B, (r1 1 (by decide) (by decide)).trans (congrFun y1 1), ?_, ?_, ?_⟩))
    · refine (yL_k (by decide)).trans ?_
      rw [r2]
      exact y38
    · refine (yL_k (by decide)).trans ?_
      rw [r2]
      exact y39
    · refine (yL_k (by decide)).trans ?_
      rw [r2]
      exact y40
  exact yp_ite (fun _ => fin _ _) (fun _ => fin _ _)
theorem yj_158 {x1 x2 : Int32} {B : Nat} {v t1 t2 : Int64} (hW : jW w) (hu : z.1 1 = w) (hq : 0 < sp_n w 8 → q < sp_n w 8) {vl : Nat} (hc : q < sp_n w 8 → ∀ y : sn_S, y.1 = z.1 → yp (fX9_claimOf_ y (nI q)) (fun r => r.1 = nI vl)) (hvl : vl < 2 ^ 31) : yp (BX9_layPuffs_158 z x1 x2 (nI q) (nI B) v t1 t2) (yp_sum (fun t : sn_S × Int32 => t.2 = nI (B + 1) ∧ t.1.1 1 = w ∧ t.1.2.1 0 38 = z.2.1 0 38 ∧ t.1.2.1 0 39 = t1 + t2 ∧ (q < sp_n w 8 → t.1.2.1 0 40 = z.2.1 0 40 + v * lN vl)) (fun _ => False)) := by
  have c8 := (yl_8 hW).2
  unfold BX9_layPuffs_158
  refine yp_le (fun y ey => yp_gd (fun _ => ?_))
  have y1 : y.1 = z.1 := by rw [ey]; rfl
  have yu : y.1 1 = w := (congrFun y1 1).trans hu
  have y38 : y.2.1 0 38 = z.2.1 0 38 := by rw [ey]; exact yL_k (by decide)
  have y39 : y.2.1 0 39 = t1 + t2 := by rw [ey]; exact yL_s
  have y40 : y.2.1 0 40 = z.2.1 0 40 := by rw [ey]; exact yL_k (by decide)
  rw [ym_8 hW yu]
  refine yp_ite (fun c => ?_) (fun c => ?_)
  · refine yp_w yj_190 (fun o ho => ?_)
    cases o with
    | inl t =>
      obtain ⟨h1, h2, h3, h4, h5⟩ := ho
      exact ⟨h1, h2.trans yu, h3.trans y38, h4.trans y39, fun hq8 => absurd c (nI_nle (by omega) (by omega))⟩
    | inr t => exact ho
  · have hq8 : q < sp_n w 8 := by
      refine hq (Nat.pos_of_ne_zero (fun h => c ?_))
      rw [h]
      decide
    refine yp_bd _ (yp_and (hc hq8 y y1) yq_claim_) (fun r hr => ?_)
    obtain ⟨rv, r2, r1⟩ := hr
    rw [rv, nI_l hvl]
    refine yp_w yj_190 (fun o ho => ?_)
    cases o with
    | inl t =>
      obtain ⟨h1, h2, h3, h4, h5⟩ := ho
      rw [r2] at h3 h4
      exact ⟨h1, h2.trans ((r1 1 (by decide) (by decide)).trans yu), h3.trans y38, h4.trans y39, fun _ => h5.trans (congrArg (fun x => x + v * lN vl) y40)⟩
    | inr t => exact ho
def yj_Q (w : Nat → Int32) (n p q B : Nat) (s : sn_S) : Prop := s.1 1 = w ∧ s.2.1 0 38 = lN (yn_sum (fun C => yj_W (sp_n w 4) (yj_fb n C) n) B) ∧ (p < sp_n w 5 → s.2.1 0 39 = lN (yn_sum (fun C => yj_W (sp_n w 4) (yj_fb n C) n * yj_V1 w n p (yj_fb n C)) B)) ∧ (q < sp_n w 8 → s.2.1 0 40 = lN (yn_sum (fun C => yj_W (sp_n w 4) (yj_fb n C) n * yj_V2 w n q (yj_fb n C)) B))
theorem yj_Wle {o : Nat} {b : Nat → Bool} (ho : o ≤ 10) : ∀ n, yj_W o b n ≤ 10 ^ n := by
  intro n
  induction n with
  | zero => exact Nat.le_refl _
  | succ n ih =>
    rw [Nat.pow_succ]
    refine Nat.mul_le_mul ih ?_
    by_cases c : b n = true
    · rw [if_pos c]; exact ho
    · rw [if_neg c]; omega
theorem yj_2m : ∀ m, m < 8 → (2 : Int32) <<< (nI m &&& 31) = nI (2 ^ (m + 1)) := by decide +kernel
theorem yj_fbm {B k : Nat} (hn : n ≤ 8) (hB : B < 2 ^ n) (hk : k < n) : yj_fb n B k = sp_bit (nI B) k := by
  have h2 : 2 ^ n ≤ 256 := Nat.le_trans (Nat.pow_le_pow_right (by decide) hn) (by decide)
  unfold yj_fb
  rw [decide_eq_true hk, yj_sp (by omega) (by omega)]
  rfl
/-- the dusts and the weight -/
theorem ym_dust2 {B m : Nat} {x2 x3 : Int32} {y : sn_S} (hW : jW w) (hm : m < 8) (hB : B < 2 ^ (m + 1)) (hy : y.1 1 = w) (h7 : ∀ j, j < 30 → y.1 7 j = hs_dust w j (sp_n w 6)) : yp (sn_it (LX9_layPuffs_46 (nI m) x2 x3 (nI B)) 5000 (y, (1 : Int64), (0 : Int32))) (fun r => r.2 = lN (yj_W (sp_n w 4) (yj_fb (m + 1) B) (m + 1)) ∧ (∀ a, a ≠ 7 → r.1.1 a = y.1 a) ∧ r.1.2 = y.2 ∧ ∀ j, j < 30 → r.1.1 7 j = yj_D w (yj_fb (m + 1) B) j) := by
  obtain ⟨o1, o2⟩ : yh_n w 4 10 := hW.1.2.2.2.2.1
  refine yp_for (m + 1) (fun k (s : sn_S × Int64 × Int32) => s.2.2 = nI k ∧ s.2.1 = lN (yj_W (sp_n w 4) (yj_fb (m + 1) B) k) ∧ (∀ a, a ≠ 7 → s.1.1 a = y.1 a) ∧ s.1.2 = y.2 ∧ ∀ j, j < 30 → s.1.1 7 j = if j < k then yj_D w (yj_fb (m + 1) B) j else hs_dust w j (sp_n w 6)) (fun k s hk hs => ?_) (fun s hs => ?_) (by exact ⟨nI_0.symm, rfl, fun _ _ => rfl, rfl, fun j hj => by rw [if_neg (by omega)]; exact h7 j hj⟩)
  · obtain ⟨z, v, x⟩ := s
    obtain ⟨ex, ev, za, z2, z7⟩ := hs
    have ex : x = nI k := ex
    have ev : v = lN (yj_W (sp_n w 4) (yj_fb (m + 1) B) k) := ev
    have za : ∀ a, a ≠ 7 → z.1 a = y.1 a := za
    have z2 : z.2 = y.2 := z2
    have z7 : ∀ j, j < 30 → z.1 7 j = if j < k then yj_D w (yj_fb (m + 1) B) j else hs_dust w j (sp_n w 6) := z7
    subst ex
    subst ev
    show yp (BX9_layPuffs_46 z (nI m) x2 x3 (nI B) _ (nI k)) _
    unfold BX9_layPuffs_46
    have eb : yj_fb (m + 1) B k = sp_bit (nI B) k := yj_fbm (by omega) hB hk
    have ed : sn_I z 7 k = hs_dust w k (sp_n w 6) := (z7 k (by omega)).trans (if_neg (by omega))
    rw [if_neg (nI_nlt (show k ≤ m by omega) (by omega)), nI_clamp (show k < 2 ^ 31 by omega), yb_m, ed]
    have fin : ∀ (c : Bool) (t : Int32) (o : Nat), yj_fb (m + 1) B k = c → t = (if c = true then 3 else 0) → o = (if c = true then sp_n w 4 else 10 - sp_n w 4) → ∀ z6 : sn_S, z6 = sn_pI z 7 k (hs_dust w k (sp_n w 6) + t) → yp (BX9_layPuffs_104 z6 (nI m) x2 x3 (nI B) (lN (yj_W (sp_n w 4) (yj_fb (m + 1) B) k)) (nI k) (lN (yj_W (sp_n w 4) (yj_fb (m + 1) B) k)) (lN o)) (yp_sum (fun s : sn_S × Int64 × Int32 => s.2.2 = nI (k + 1) ∧ s.2.1 = lN (yj_W (sp_n w 4) (yj_fb (m + 1) B) (k + 1)) ∧ (∀ a, a ≠ 7 → s.1.1 a = y.1 a) ∧ s.1.2 = y.2 ∧ ∀ j, j < 30 → s.1.1 7 j = if j < k + 1 then yj_D w (yj_fb (m + 1) B) j else hs_dust w j (sp_n w 6)) (fun _ => False)) := fun c t o hc ht ho z6 e6 => by
      unfold BX9_layPuffs_104
      refine yp_lt (yp_lt (yp_some ⟨nI_1 k, ?_, fun a ha => ?_, ?_, fun j hj => ?_⟩))
      · show lN _ * lN o = lN (yj_W (sp_n w 4) (yj_fb (m + 1) B) k * if yj_fb (m + 1) B k = true then sp_n w 4 else 10 - sp_n w 4)
        rw [lN_mul, ho, hc]
      · rw [e6]
        exact (pI_ne ha).trans (za a ha)
      · rw [e6]
        exact z2
      · rw [e6]
        by_cases e : j = k
        · subst e
          refine pI_self.trans ?_
          rw [if_pos (by omega), ht]
          unfold yj_D
          rw [hc]
        · refine (pI_slot e).trans ((z7 j hj).trans ?_)
          by_cases g : j < k
          · rw [if_pos g, if_pos (by omega)]
          · rw [if_neg g, if_neg (by omega)]
    have w4 : ∀ z6 : sn_S, ∀ t : Int32, z6 = sn_pI z 7 k (hs_dust w k (sp_n w 6) + t) → sn_I z6 1 (4 : Int32).toNatClampNeg = nI (sp_n w 4) := fun z6 t e6 => by
      rw [e6]
      exact (congrFun ((pI_ne (by decide)).trans ((za 1 (by decide)).trans hy)) 4).trans o1
    refine yp_gd (fun _ => yp_bit (fun c => yp_gd (fun _ => yp_le (fun z6 e6 => yp_bs rfl ?_))) (fun c => yp_gd (fun _ => yp_le (fun z6 e6 => yp_bs rfl ?_))))
    · rw [if_pos c, if_pos rfl, w4 z6 _ e6, nI_l (show sp_n w 4 < 2 ^ 31 by omega)]
      exact yp_gd (fun _ => fin true _ _ (eb.trans c) (by decide) rfl z6 e6)
    · rw [c, if_neg (show ¬ (if false = true then (1 : Int32) else 0) = 1 by decide), w4 z6 _ e6, show (10 : Int32) - nI (sp_n w 4) = nI (10 - sp_n w 4) from yi_sub o2, nI_l (show 10 - sp_n w 4 < 2 ^ 31 by omega)]
      exact yp_gd (fun _ => fin false _ _ (eb.trans c) (by decide) rfl z6 e6)
  · obtain ⟨z, v, x⟩ := s
    obtain ⟨ex, ev, za, z2, z7⟩ := hs
    have ex : x = nI (m + 1) := ex
    have ev : v = _ := ev
    have z7 : ∀ j, j < 30 → z.1 7 j = if j < m + 1 then yj_D w (yj_fb (m + 1) B) j else hs_dust w j (sp_n w 6) := z7
    subst ex
    show yp (BX9_layPuffs_46 z (nI m) x2 x3 (nI B) v (nI (m + 1))) _
    unfold BX9_layPuffs_46
    rw [if_pos (show nI m < nI (m + 1) from nI_lt (by omega) (by omega))]
    refine yp_some ⟨ev, za, z2, fun j hj => (z7 j hj).trans ?_⟩
    by_cases g : j < m + 1
    · rw [if_pos g]
    · rw [if_neg g]
      exact (yj_D0 (by unfold yj_fb; rw [decide_eq_false g]; rfl)).symm
theorem yj_Tm {b : Nat → Bool} {v : sn_S} (h : ∀ a, a = 1 ∨ a = 8 ∨ a = 9 → v.1 a = z.1 a) (h19 : v.1 0 19 = z.1 0 19) (h7 : ∀ j, j < 30 → v.1 7 j = yj_D w b j) (hT : ym_T z (hs_day w)) : ym_T v (yj_j w b) := by
  obtain ⟨t1, t2, t3, t4, t5, t6⟩ := hT
  refine ⟨(congrFun (h 1 (by decide)) 5).trans t1, (congrFun (h 1 (by decide)) 7).trans t2, h19.trans t3, h7, fun p hp => ?_, fun k hk => ?_⟩
  · rw [h 1 (by decide), h 8 (by decide), h 9 (by decide)]
    exact t5 p hp
  · rw [h 1 (by decide)]
    exact t6 k hk
theorem ym_puff {B m : Nat} {s : sn_S} (hW : jW w) (hm : m < 8) (hp : p < 6) (hq : 0 < sp_n w 8 → q < sp_n w 8) (hB : B < 2 ^ (m + 1)) (hs : yj_Q w (m + 1) p q B s) : yp (BX9_layPuffs_23 s (nI m) (nI p) (nI q) (nI B)) (yp_sum (fun t : sn_S × Int32 => t.2 = nI (B + 1) ∧ yj_Q w (m + 1) p q (B + 1) t.1) (fun _ => False)) := by
  obtain ⟨o1, o2⟩ : yh_n w 4 10 := hW.1.2.2.2.2.1
  have c5 := (yl_5 hW).2
  have h2 : 2 ^ (m + 1) ≤ 256 := Nat.le_trans (Nat.pow_le_pow_right (by decide) (show m + 1 ≤ 8 by omega)) (by decide)
  obtain ⟨s1, s38, s39, s40⟩ := hs
  unfold BX9_layPuffs_23
  rw [yj_2m m hm, if_neg (nI_ge hB (by omega))]
  refine yp_bd _ (ym_asItIs s1 hW) (fun z0 hz0 => yp_le (fun y ey => ?_))
  have z01 : z0.1 1 = w := (hz0.1.1 1 (by decide) (by decide) (by decide) (by decide)).trans s1
  obtain ⟨t1, t2, t3, t4, t5, t6⟩ := ya_day s1 hW hz0
  obtain ⟨⟨-, k2, -⟩, h18, h19, h20, h21, h22, h7, h89⟩ := hz0
  have ya : ∀ a, a ≠ 0 → y.1 a = z0.1 a := fun a ha => by rw [ey]; exact pI_ne ha
  have y0 : ∀ k, k ≠ 22 → y.1 0 k = z0.1 0 k := fun k hk => by rw [ey]; exact pI_slot hk
  have y22 : y.1 0 22 = nI m := by rw [ey]; exact pI_self
  have y2 : y.2 = s.2 := by rw [ey]; exact k2
  refine yp_bd _ (ym_dust2 (x2 := nI p) (x3 := nI q) hW hm hB ((ya 1 (by decide)).trans z01) (fun j hj => (congrFun (ya 7 (by decide)) j).trans (h7 j hj))) (fun r hr => ?_)
  obtain ⟨ev, ra, r2, r7⟩ := hr
  obtain ⟨W, hWW⟩ : ∃ W, W = yj_W (sp_n w 4) (yj_fb (m + 1) B) (m + 1) := ⟨_, rfl⟩
  have W8 : W < 2 ^ 63 := by
    have h := yj_Wle (b := yj_fb (m + 1) B) o2 (m + 1)
    have h1 := yj_10lt (show m + 1 ≤ 8 by omega)
    rw [hWW]
    omega
  rw [ev, ← hWW]
  unfold BX9_layPuffs_113
  have st : ∀ (f : Nat → Nat), yn_sum f (B + 1) = yn_sum f B + f B := fun _ => rfl
  refine yp_ite (fun c => ?_) (fun c => ?_)
  · have c := (yj_lc0 W8).mp c
    rw [hWW] at c
    unfold BX9_layPuffs_217
    refine yp_lt (yp_some ⟨nI_1 B, (ra 1 (by decide)).trans ((ya 1 (by decide)).trans z01), ?_, fun h => ?_, fun h => ?_⟩)
    · show r.1.2.1 0 38 = _
      rw [r2, y2, st, c, Nat.add_zero]
      exact s38
    · show r.1.2.1 0 39 = _
      rw [r2, y2, st, c, Nat.zero_mul, Nat.add_zero]
      exact s39 h
    · show r.1.2.1 0 40 = _
      rw [r2, y2, st, c, Nat.zero_mul, Nat.add_zero]
      exact s40 h
  · have hT : ym_T r.1 (yj_j w (yj_fb (m + 1) B)) := yj_Tm (fun a ha => (ra a (by omega)).trans (ya a (by omega))) ((congrFun (ra 0 (by decide)) 19).trans (y0 19 (by decide))) r7 ⟨t1, t2, t3, t4, t5, t6⟩
    have r22 : r.1.1 0 22 = nI (m + 1) - 1 := by rw [nI_pred]; exact (congrFun (ra 0 (by decide)) 22).trans y22
    refine yp_bd _ (ym_goAll (show m + 1 ≤ 30 by omega) r22 hT (yj_ok hW)) (fun v hv => yp_le (fun zA eA => yp_gd (fun _ => ?_)))
    obtain ⟨⟨f1, f2⟩, hL⟩ := hv
    have f2' : v.2 = s.2 := f2.trans (r2.trans y2)
    have a1 : zA.1 = v.1 := by rw [eA]; rfl
    have au : zA.1 1 = w := (congrFun a1 1).trans ((f1 1 (by omega)).trans ((ra 1 (by decide)).trans ((ya 1 (by decide)).trans z01)))
    have a38 : zA.2.1 0 38 = lN (yn_sum (fun C => yj_W (sp_n w 4) (yj_fb (m + 1) C) (m + 1)) (B + 1)) := by
      rw [eA]
      refine yL_s.trans ?_
      show v.2.1 0 38 + lN W = _
      rw [f2', s38, lN_add, st, hWW]
    have a39 : zA.2.1 0 39 = s.2.1 0 39 := by
      rw [eA]
      refine (yL_k (by decide)).trans ?_
      rw [f2']
    have a40 : zA.2.1 0 40 = s.2.1 0 40 := by
      rw [eA]
      refine (yL_k (by decide)).trans ?_
      rw [f2']
    have a10 : ∀ p, p < sp_n w 5 → zA.1 10 p = dy_sn (yj_j w (yj_fb (m + 1) B)) (m + 1) p := fun p hp => by
      have g := (hL.2 p (by omega)).1
      rw [if_pos (show p < dy_P (yj_j w (yj_fb (m + 1) B)) from hp)] at g
      exact (congrFun (congrFun a1 10) p).trans g
    have a8 : ∀ p, p < sp_n w 5 → zA.1 8 p = yHh w p := fun p hp => (congrFun ((congrFun a1 8).trans ((f1 8 (by omega)).trans ((ra 8 (by decide)).trans (ya 8 (by decide))))) p).trans (h89 p (by omega)).1
    have a0 : ∀ k, k ≠ 22 → zA.1 0 k = z0.1 0 k := fun k hk => (congrFun ((congrFun a1 0).trans ((f1 0 (by omega)).trans (ra 0 (by decide)))) k).trans (y0 k hk)
    have hX : ∀ y : sn_S, y.1 = zA.1 → yj_X (m + 1) y w (w 2) (fun p => dy_sn (yj_j w (yj_fb (m + 1) B)) (m + 1) p) (yHh w) := fun y ey => by
      refine ⟨(congrFun ey 1).trans au, fun p hp => ⟨(congrFun (congrFun ey 10) p).trans (a10 p hp), (congrFun (congrFun ey 8) p).trans (a8 p hp)⟩, ?_, ?_, ?_⟩
      · rw [ey]; exact (a0 18 (by decide)).trans h18
      · rw [ey]; exact (a0 20 (by decide)).trans h20
      · rw [ey, a1, f1 0 (by omega)]; exact r22
    have tail : ∀ e : Int64, (p < sp_n w 5 → e = lN (W * yj_V1 w (m + 1) p (yj_fb (m + 1) B))) → yp (BX9_layPuffs_158 zA (nI m) (nI p) (nI q) (nI B) (lN W) (sn_L zA 0 39) e) (yp_sum (fun t : sn_S × Int32 => t.2 = nI (B + 1) ∧ yj_Q w (m + 1) p q (B + 1) t.1) (fun _ => False)) := fun e he => by
      refine yp_w (yj_158 (vl := if q < sp_n w 8 then yj_V2 w (m + 1) q (yj_fb (m + 1) B) else 0) hW au hq (fun h8 y ey => ?_) ?_) (fun o ho => ?_)
      · rw [if_pos h8]
        exact yj_claim_ (show m + 1 ≤ 30 by omega) hW h8 (hX y ey) (yz_sbits (by omega))
      · by_cases h8 : q < sp_n w 8
        · rw [if_pos h8]
          exact Nat.lt_of_le_of_lt (yl_vle hW h8) (by decide)
        · rw [if_neg h8]
          decide
      · cases o with
        | inl t =>
          obtain ⟨g1, g2, g3, g4, g5⟩ := ho
          refine ⟨g1, g2, g3.trans a38, fun h => ?_, fun h => ?_⟩
          · refine g4.trans ?_
            show zA.2.1 0 39 + e = _
            rw [a39, s39 h, he h, lN_add, st, hWW]
          · refine (g5 h).trans ?_
            rw [a40, s40 h, if_pos h, lN_mul, lN_add, st, hWW]
        | inr t => exact ho
    rw [nI_clamp (show p < 2 ^ 31 by omega)]
    refine yp_ite (fun c2 => tail _ (fun h => ?_)) (fun c2 => tail _ (fun h => ?_))
    · have c2 : zA.1 10 p = 0 := c2
      rw [a10 p h] at c2
      unfold yj_V1
      rw [if_pos c2, Nat.mul_zero]
      rfl
    · have c2 : ¬ zA.1 10 p = 0 := c2
      rw [a10 p h] at c2
      unfold yj_V1
      rw [if_neg c2, Nat.mul_one]
theorem ym_puffs {m : Nat} (hW : jW w) (hu : u.1 1 = w) (hm : m < 8) (hp : p < 6) (hq : 0 < sp_n w 8 → q < sp_n w 8) : yp (fX9_layPuffs u (nI m) (nI p) (nI q)) (fun z => sn_L z 0 38 = lN (10 ^ (m + 1)) ∧ (p < sp_n w 5 → sn_L z 0 39 = lN (yj_A' (sp_n w 4) (m + 1) (yj_V1 w (m + 1) p))) ∧ (q < sp_n w 8 → sn_L z 0 40 = lN (yj_A' (sp_n w 4) (m + 1) (yj_V2 w (m + 1) q)))) := by
  obtain ⟨o1, o2⟩ : yh_n w 4 10 := hW.1.2.2.2.2.1
  have h2 : 2 ^ (m + 1) ≤ 256 := Nat.le_trans (Nat.pow_le_pow_right (by decide) (show m + 1 ≤ 8 by omega)) (by decide)
  unfold fX9_layPuffs
  refine yp_le (fun y1 e1 => yp_le (fun y2 e2 => yp_le (fun y3 e3 => yp_le (fun y4 e4 => ?_))))
  have i1 : y4.1 1 = w := by rw [e4, e3, e2, e1]; exact hu
  have i38 : y4.2.1 0 38 = 0 := by
    rw [e4]
    refine (yL_k (by decide)).trans ?_
    rw [e3]
    refine (yL_k (by decide)).trans ?_
    rw [e2]
    refine (yL_k (by decide)).trans ?_
    rw [e1]
    exact yL_s
  have i39 : y4.2.1 0 39 = 0 := by
    rw [e4]
    refine (yL_k (by decide)).trans ?_
    rw [e3]
    refine (yL_k (by decide)).trans ?_
    rw [e2]
    exact yL_s
  have i40 : y4.2.1 0 40 = 0 := by
    rw [e4]
    refine (yL_k (by decide)).trans ?_
    rw [e3]
    exact yL_s
  refine yp_bd (fun z => yj_Q w (m + 1) p q (2 ^ (m + 1)) z) (yp_for (2 ^ (m + 1)) (fun B (s : sn_S × Int32) => s.2 = nI B ∧ yj_Q w (m + 1) p q B s.1) (fun B s hB hs => ?_) (fun s hs => ?_) (by exact ⟨nI_0.symm, i1, i38, fun _ => i39, fun _ => i40⟩)) (fun z hz => ?_)
  · obtain ⟨s, x⟩ := s
    obtain ⟨ex, hQ⟩ := hs
    have ex : x = nI B := ex
    subst ex
    exact ym_puff hW hm hp hq hB hQ
  · obtain ⟨s, x⟩ := s
    obtain ⟨ex, hQ⟩ := hs
    have ex : x = nI (2 ^ (m + 1)) := ex
    subst ex
    show yp (BX9_layPuffs_23 s (nI m) (nI p) (nI q) (nI (2 ^ (m + 1)))) _
    unfold BX9_layPuffs_23
    rw [yj_2m m hm, if_pos (nI_le (Nat.le_refl _) (by omega))]
    exact yp_some hQ
  · obtain ⟨-, s38, s39, s40⟩ := hz
    unfold BX9_layPuffs_223
    refine yp_some ⟨s38.trans (congrArg lN ?_), fun h => (s39 h).trans (congrArg lN ?_), fun h => (s40 h).trans (congrArg lN ?_)⟩
    · rw [yj_A (m + 1) (by omega) (fun b => yj_W (sp_n w 4) b (m + 1))]
      exact yj_10 o2 _
    · exact yj_A (m + 1) (by omega) (fun b => yj_W (sp_n w 4) b (m + 1) * yj_V1 w (m + 1) p b)
    · exact yj_A (m + 1) (by omega) (fun b => yj_W (sp_n w 4) b (m + 1) * yj_V2 w (m + 1) q b)
/-! what is asked -/
theorem yj_isC {a : Int32} (e : σ.1 2 0 = w 0) : fX8_isPuffMinute σ a = some (if (0 ≤ a ∧ a < w 0) ∧ a ≤ 7 then 1 else 0) := by
  unfold fX8_isPuffMinute
  rw [c_isMinute, e]
  by_cases c : 0 ≤ a ∧ a < w 0
  · rw [if_pos c]
    by_cases g : (7 : Int32) < a
    · have h : ¬ ((0 ≤ a ∧ a < w 0) ∧ a ≤ 7) := fun h => absurd g (Int32.not_lt.mpr h.2)
      show (if (1 : Int32) = 0 then (sn_gd (sn_b01 (0 : Int32)) (some (0 : Int32)) : Option Int32) else if (7 : Int32) < a then sn_gd (sn_b01 (0 : Int32)) (some (0 : Int32)) else sn_gd (sn_b01 (1 : Int32)) (some (1 : Int32))) = _
      rw [if_neg (by decide), if_pos g, if_neg h]
      rfl
    · have h : (0 ≤ a ∧ a < w 0) ∧ a ≤ 7 := ⟨c, Int32.not_lt.mp g⟩
      show (if (1 : Int32) = 0 then (sn_gd (sn_b01 (0 : Int32)) (some (0 : Int32)) : Option Int32) else if (7 : Int32) < a then sn_gd (sn_b01 (0 : Int32)) (some (0 : Int32)) else sn_gd (sn_b01 (1 : Int32)) (some (1 : Int32))) = _
      rw [if_neg (by decide), if_neg g, if_pos h]
      rfl
  · have h : ¬ ((0 ≤ a ∧ a < w 0) ∧ a ≤ 7) := fun h => c h.1
    rw [if_neg c, if_neg h]
    rfl
theorem yj_isM {a b : Int32} (h0 : 0 ≤ τ.1 1 0) : fX9_isPuffs τ a b = some (if ((0 ≤ a ∧ a < τ.1 1 0) ∧ a ≤ 7) ∧ 0 ≤ b ∧ b ≤ 1 then 1 else 0) := by
  unfold fX9_isPuffs
  rw [m_isMinute h0, show fX9_in a.toInt64 (0 : Int64) (7 : Int64) = _ from in_eq32 a 0 7, show fX9_in b.toInt64 (0 : Int64) (1 : Int64) = _ from in_eq32 b 0 1]
  by_cases c : 0 ≤ a ∧ a < τ.1 1 0
  · by_cases g : a ≤ 7
    · have g1 : 0 ≤ a ∧ a ≤ 7 := ⟨c.1, g⟩
      by_cases h : 0 ≤ b ∧ b ≤ 1
      · have k : ((0 ≤ a ∧ a < τ.1 1 0) ∧ a ≤ 7) ∧ 0 ≤ b ∧ b ≤ 1 := ⟨⟨c, g⟩, h⟩
        rw [if_pos c, if_pos g1, if_pos h, if_pos k]
        rfl
      · have k : ¬ (((0 ≤ a ∧ a < τ.1 1 0) ∧ a ≤ 7) ∧ 0 ≤ b ∧ b ≤ 1) := fun x => h x.2
        rw [if_pos c, if_pos g1, if_neg h, if_neg k]
        rfl
    · have g1 : ¬ (0 ≤ a ∧ a ≤ 7) := fun x => g x.2
      have k : ¬ (((0 ≤ a ∧ a < τ.1 1 0) ∧ a ≤ 7) ∧ 0 ≤ b ∧ b ≤ 1) := fun x => g x.1.2
      rw [if_pos c, if_neg g1, if_neg k]
      rfl
  · have k : ¬ (((0 ≤ a ∧ a < τ.1 1 0) ∧ a ≤ 7) ∧ 0 ≤ b ∧ b ≤ 1) := fun x => c x.1.1
    rw [if_neg c, if_neg k]
    rfl
theorem yr_eq3 {X Y : Option (Int64 × sn_S)} (v : Int64) (hx : yp X (fun r => r.1 = v)) (hy : yp Y (fun s => s.1 = v)) : yr X Y (fun r s => r.1 = s.1) := yr_of hx hy (fun _ _ a b => a.trans b.symm)
theorem yj_01 {b : Int32} (h : 0 ≤ b ∧ b ≤ 1) : ∃ t, t < 2 ∧ b = nI t := nI_idx (n := 2) (by decide) h.1 (by
  have h2 := Int32.le_iff_toInt_le.mp h.2
  rw [show (1 : Int32).toInt = 1 by decide] at h2
  rw [Int32.lt_iff_toInt_lt, nI_toInt (by decide)]
  omega)
theorem yj_min {a : Int32} {M : Nat} (hM : M ≤ 30) {c : Int32} (hc : c = nI M) (h : (0 ≤ a ∧ a < c) ∧ a ≤ 7) : ∃ m, m < 8 ∧ m < M ∧ a = nI m := by
  obtain ⟨m, hm, e⟩ := yK_p (show M < 100 by omega) hc h.1
  subst e
  have g : m ≤ 7 := (nI_leI (by omega) (show 7 < 2 ^ 31 by decide)).mp h.2
  exact ⟨m, by omega, hm, rfl⟩
theorem yj_go {X X0 : Option (Int64 × sn_S)} {Y0 : Option (Int64 × sn_S)} {Y : Int32 → Option (Int64 × sn_S)} {P : Int64 × sn_S → Int64 × sn_S → Prop} (h : yr X (Y 1) P) : yr ((some (1 : Int32)).bind fun t => if t = 0 then X0 else X) ((some (1 : Int32)).bind fun t => if t = 0 then Y0 else Y t) P := by
  show yr (if (1 : Int32) = 0 then X0 else X) (if (1 : Int32) = 0 then Y0 else Y 1) P
  rw [if_neg (by decide), if_neg (by decide)]
  exact h
theorem yj_ask {Y : Int32 → Option (Int64 × sn_S)} {R : Option (Int64 × sn_S)} {a b : Int32} (hK : zK σ τ) (h : ∀ m t, m < 8 → m < sp_n (τ.1 1) 0 → t < 2 → a = nI m → b = nI t → yr R (Y 1) (fun r s => r.1 = s.1)) : yr ((fX8_isPuffMinute σ a).bind fun t => if t = 0 then some ((-2 : Int64), σ) else if b < 0 then some ((-2 : Int64), σ) else if b ≤ (1 : Int32) then R else some ((-2 : Int64), σ)) ((fX9_isPuffs τ a b).bind fun t => if t = 0 then some ((-2 : Int64), τ) else Y t) (fun r s => r.1 = s.1) := by
  have hW := hK.2.1.1
  obtain ⟨b0, b30⟩ := yl_0 hW
  have e0 : σ.1 2 0 = τ.1 1 0 := hK.2.1.2.1 0 (by decide)
  rw [yj_isC e0, yj_isM (by rw [b0]; exact nI_pos' (by omega))]
  by_cases c : (0 ≤ a ∧ a < τ.1 1 0) ∧ a ≤ 7
  · by_cases g : 0 ≤ b ∧ b ≤ 1
    · have k : ((0 ≤ a ∧ a < τ.1 1 0) ∧ a ≤ 7) ∧ 0 ≤ b ∧ b ≤ 1 := ⟨c, g⟩
      rw [if_pos c, if_pos k]
      obtain ⟨m, m8, mM, ea⟩ := yj_min b30 b0 c
      obtain ⟨t, ht, eb⟩ := yj_01 g
      refine yj_go ?_
      rw [if_neg (Int32.not_lt.mpr g.1), if_pos g.2]
      exact h m t m8 mM ht ea eb
    · have k : ¬ (((0 ≤ a ∧ a < τ.1 1 0) ∧ a ≤ 7) ∧ 0 ≤ b ∧ b ≤ 1) := fun x => g x.2
      rw [if_pos c, if_neg k]
      refine yr_eq3 (-2 : Int64) (yp_bs rfl (yp_ite (fun _ => yp_some rfl) (fun _ => yp_ite (fun _ => yp_some rfl) (fun d => yp_ite (fun d2 => ?_) (fun _ => yp_some rfl))))) (yp_some rfl)
      exact absurd ⟨Int32.not_lt.mp d, d2⟩ g
  · have k : ¬ (((0 ≤ a ∧ a < τ.1 1 0) ∧ a ≤ 7) ∧ 0 ≤ b ∧ b ≤ 1) := fun x => c x.1
    rw [if_neg c, if_neg k]
    exact yr_eq3 (-2 : Int64) (yp_some rfl) (yp_some rfl)
theorem yj_mean {V : (Nat → Bool) → Nat} {kind idx : Int32} {m t : Nat} (hW : jW w) (hH : yH 1 σ w) (hD : yD σ w) (hm : m < 8) (hmM : m < sp_n w 0) (hk : kind ≠ 2) (hV : yj_hV σ w (m + 1) kind idx V) (hv : ∀ b, V b ≤ 297) (ht : t < 2) : yp ((fX4_reckon σ 1 27 kind idx (nI m)).bind fun t_9 => if nI t = 0 then some ((sn_L t_9 57 0), t_9) else some ((sn_L t_9 57 1), t_9)) (fun r => r.1 = if t = 0 then lN (yj_A' (sp_n w 4) (m + 1) V / Nat.gcd (yj_A' (sp_n w 4) (m + 1) V) (10 ^ (m + 1))) else lN (10 ^ (m + 1) / Nat.gcd (yj_A' (sp_n w 4) (m + 1) V) (10 ^ (m + 1)))) := by
  refine yp_bd _ (yc_mean hW hH hD hm hmM hk hV hv) (fun z hz => ?_)
  obtain ⟨z0, z1⟩ := hz
  by_cases c : t = 0
  · rw [if_pos c, if_pos ((yi_0 (by omega)).mpr c)]
    exact yp_some z0
  · rw [if_neg c, if_neg (fun h => c ((yi_0 (by omega)).mp h))]
    exact yp_some z1
theorem yz_56 {a b c : Int32} (hK : zK σ τ) : yr (fX8_chance σ a b c) (fX9_chance τ a b c) (fun r s => r.1 = s.1) := by
  obtain ⟨-, ⟨p1, p2, p3⟩, -⟩ := yK_n hK
  have hW := hK.2.1.1
  obtain ⟨o1, o2⟩ : yh_n (τ.1 1) 4 10 := hW.1.2.2.2.2.1
  unfold fX8_chance fX9_chance
  rw [c_isPerson, p1, m_isPerson (by rw [p2]; exact nI_pos' (by omega))]
  by_cases cp : 0 ≤ a ∧ a < τ.1 1 5
  · rw [if_pos cp]
    obtain ⟨p, hp, ep⟩ := yK_p (by omega) p2 cp
    subst ep
    refine yj_go ?_
    refine yj_ask (σ := σ) (τ := τ) hK (Y := fun _ => (fX9_layPuffs τ b (nI p) (0 : Int32)).bind fun t_7 => (fX9_part (sn_L t_7 0 39) (sn_L t_7 0 38) c).bind fun t_9 => some (t_9, t_7)) (fun m t m8 mM t2 eb ec => ?_)
    subst eb
    subst ec
    refine yr_eq3 _ (yj_mean hW hK.2.1.2 hK.2.2.2 m8 mM (by decide) (yc_worth1 hp hW) (fun b => yj_V1le) t2) ?_
    refine yp_bd _ (ym_puffs (q := 0) hW rfl m8 (show p < 6 by omega) (fun h => h)) (fun z hz => ?_)
    obtain ⟨z38, z39, -⟩ := hz
    rw [z38, z39 hp]
    exact yp_bd _ (yj_part (Nat.lt_trans (yj_Ale (by omega) o2 (fun b => yj_V1le)) (by decide)) (Nat.lt_trans (yj_10lt (by omega)) (by decide)) (Nat.pow_pos (by decide)) t2) (fun r hr => yp_some hr)
  · rw [if_neg cp]
    exact yr_eq3 (-2 : Int64) (yp_some rfl) (yp_some rfl)
theorem yz_57 {a b c : Int32} (hK : zK σ τ) : yr (fX8_fair σ a b c) (fX9_fair τ a b c) (fun r s => r.1 = s.1) := by
  have hW := hK.2.1.1
  have b8 := yl_8 hW
  have e8 : σ.1 2 8 = τ.1 1 8 := hK.2.1.2.1 8 (by decide)
  obtain ⟨o1, o2⟩ : yh_n (τ.1 1) 4 10 := hW.1.2.2.2.2.1
  unfold fX8_fair fX9_fair
  rw [c_isPolicy, e8, m_isPolicy (by rw [b8.1]; exact nI_pos' (by omega))]
  by_cases cp : 0 ≤ a ∧ a < τ.1 1 8
  · rw [if_pos cp]
    obtain ⟨q, hq, eq⟩ := yK_p (by omega) b8.1 cp
    subst eq
    refine yj_go ?_
    refine yj_ask (σ := σ) (τ := τ) hK (Y := fun _ => (fX9_layPuffs τ b (0 : Int32) (nI q)).bind fun t_7 => (fX9_part (sn_L t_7 0 40) (sn_L t_7 0 38) c).bind fun t_9 => some (t_9, t_7)) (fun m t m8 mM t2 eb ec => ?_)
    subst eb
    subst ec
    have hv : ∀ b, yj_V2 (τ.1 1) (m + 1) q b ≤ 297 := fun b => yl_vle hW hq
    refine yr_eq3 _ (yj_mean hW hK.2.1.2 hK.2.2.2 m8 mM (by decide) (yc_worth2 hq hW hK.2.1.2 (by omega)) hv t2) ?_
    refine yp_bd _ (ym_puffs (p := 0) (q := q) hW rfl m8 (by decide) (fun _ => hq)) (fun z hz => ?_)
    obtain ⟨z38, -, z40⟩ := hz
    rw [z38, z40 hq]
    exact yp_bd _ (yj_part (Nat.lt_trans (yj_Ale (by omega) o2 hv) (by decide)) (Nat.lt_trans (yj_10lt (by omega)) (by decide)) (Nat.pow_pos (by decide)) t2) (fun r hr => yp_some hr)
  · rw [if_neg cp]
    exact yr_eq3 (-2 : Int64) (yp_some rfl) (yp_some rfl)
end
