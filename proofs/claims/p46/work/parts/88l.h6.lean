/-! the fewest minutes to hold back in: the reference goes backward -/
def yo_C (z : sn_S) (k V : Nat) : Prop := z.1 17 k = nI (V / 1073741824) ∧ z.1 18 k = nI (V % 1073741824)
def yo_fr (k : Nat) (z v : sn_S) : Prop := (∀ a, a ≠ 17 → a ≠ 18 → v.1 a = z.1 a) ∧ ∀ j, j ≠ k → v.1 17 j = z.1 17 j ∧ v.1 18 j = z.1 18 j
section
variable {σ τ u z v : sn_S} {w : Nat → Int32} {q p m l k : Nat}
theorem yo_fr0 : yo_fr k z z := ⟨fun _ _ _ => rfl, fun _ _ => ⟨rfl, rfl⟩⟩
theorem yo_fr7 {x : Int32} (h : yo_fr k z v) : yo_fr k z (sn_pI v 17 k x) := ⟨fun a h1 h2 => (pI_ne h1).trans (h.1 a h1 h2), fun j hj => ⟨(pI_slot hj).trans (h.2 j hj).1, (congrFun (pI_ne (by decide)) j).trans (h.2 j hj).2⟩⟩
theorem yo_fr8 {x : Int32} (h : yo_fr k z v) : yo_fr k z (sn_pI v 18 k x) := ⟨fun a h1 h2 => (pI_ne h2).trans (h.1 a h1 h2), fun j hj => ⟨(congrFun (pI_ne (by decide)) j).trans (h.2 j hj).1, (pI_slot hj).trans (h.2 j hj).2⟩⟩
theorem yo_Cp {V : Nat} {x y : Int32} (hx : x = nI (V / 1073741824)) (hy : y = nI (V % 1073741824)) : yo_C (sn_pI (sn_pI z 17 k x) 18 k y) k V := ⟨((congrFun (pI_ne (by decide)) k).trans pI_self).trans hx, pI_self.trans hy⟩
theorem yo_1n : ∀ m, m < 30 → yb_n ((1 : Int32) <<< (nI m &&& 31)) = 2 ^ m := by decide +kernel
theorem yo_nor (x y : Int32) : yb_n (x ||| y) = yb_n x ||| yb_n y := by
  have e : (x ||| y).toBitVec = x.toBitVec ||| y.toBitVec := rfl
  unfold yb_n
  rw [e, BitVec.toNat_or]
theorem yo_nn {B : Nat} (hB : B < 4294967296) : yb_n (nI B) = B := by
  show (BitVec.ofNat 32 B).toNat = B
  rw [BitVec.toNat_ofNat]
  exact Nat.mod_eq_of_lt hB
theorem yo_or {s : Nat} (hm : m < 30) (h1 : s % 2 ^ (m + 1) = 0) (h2 : s + 2 ^ (m + 1) ≤ 1073741824) : nI s ||| ((1 : Int32) <<< (nI m &&& 31)) = nI (s + 2 ^ m) := by
  have p2 : 2 ^ (m + 1) = 2 * 2 ^ m := by rw [Nat.pow_succ, Nat.mul_comm]
  have hp : 0 < 2 ^ m := Nat.pow_pos (by decide)
  have hs : s < 4294967296 := by omega
  refine yb_nI ?_ (by omega)
  rw [yo_nor, yo_nn hs, yo_1n m hm]
  have e : s = 2 ^ (m + 1) * (s / 2 ^ (m + 1)) := (Nat.mul_div_cancel' (Nat.dvd_of_mod_eq_zero h1)).symm
  rw [e]
  exact (Nat.two_pow_add_eq_or_of_lt (by omega) _).symm
theorem ym_since (hm : m < 30) (hl : l ≤ m) (hp : p < 6) (hx : ∀ j, j ≤ m → z.1 13 (6 * j + p) = yo_x w p j) : yp (fX9_tickleSince z (nI p) (nI l) (nI m)) (fun r => r = yo_t (yo_x w p) l (m + 1 - l)) := by
  unfold fX9_tickleSince
  refine yp_bd (fun r => r = yo_t (yo_x w p) l (m + 1 - l)) (yp_for0 l (m + 1) (by omega) (fun k (s : Int32 × Int32) => s.2 = nI k ∧ s.1 = yo_t (yo_x w p) l (k - l)) (fun k s hk1 hk hs => ?_) (fun s hs => ?_) (by exact ⟨rfl, by rw [Nat.sub_self]; rfl⟩)) (fun r hr => ?_)
  · obtain ⟨x, y⟩ := s
    obtain ⟨ey, ex⟩ := hs
    have ey : y = nI k := ey
    have ex : x = _ := ex
    subst ey
    subst ex
    show yp (BX9_tickleSince_6 z (nI p) (nI m) _ (nI k)) _
    unfold BX9_tickleSince_6
    rw [if_neg (nI_nlt (show k ≤ m by omega) (by omega)), yi_6, nI_add, nI_clamp (by omega), show sn_I z 13 (6 * k + p) = yo_x w p k from hx k (by omega), yo_ts _ hk1]
    exact yp_gd (fun _ => yp_lt (yp_lt (yp_some ⟨nI_1 k, rfl⟩)))
  · obtain ⟨x, y⟩ := s
    obtain ⟨ey, ex⟩ := hs
    have ey : y = nI (m + 1) := ey
    subst ey
    show yp (BX9_tickleSince_6 z (nI p) (nI m) x (nI (m + 1))) _
    unfold BX9_tickleSince_6
    rw [if_pos (show nI m < nI (m + 1) from nI_lt (by omega) (by omega))]
    exact yp_some ex
  · unfold BX9_tickleSince_35
    exact yp_some hr
theorem ym_cpy {a b : Nat} (ha : a < 2 ^ 31) (hb : b < 2 ^ 31) : yp (BX9_layHold_180 z (nI a) (nI b)) (fun r => r = sn_pI (sn_pI z 17 a (z.1 17 b)) 18 a (z.1 18 b)) := by
  unfold BX9_layHold_180 BX9_layHold_185
  rw [if_neg (by decide), nI_clamp ha, nI_clamp hb]
  exact yp_gd (fun _ => yp_gd (fun _ => yp_lt (yp_gd (fun _ => yp_gd (fun _ => yp_lt (yp_some rfl))))))
theorem ym_hold1 (hW : jW w) (hz : z.1 1 = w) (hp : yo_p w q = p) (hp5 : p < sp_n w 5) (hm : m < sp_n w 0) (hl : l ≤ m) (hx : ∀ j, j ≤ m → z.1 13 (6 * j + p) = yo_x w p j) (h1 : yo_C z (31 * (m + 1) + l) (yo_D w q (m + 1) l)) (h2 : yo_C z (31 * (m + 1) + (m + 1)) (yo_D w q (m + 1) (m + 1))) : yp (fX9_layHold z (nI p) (dy_set (yl_m w q) 32) (nI m) (nI l)) (fun r => yo_fr (31 * m + l) z r ∧ yo_C r (31 * m + l) (yo_D w q m l)) := by
  have c0 := (yl_0 hW).2
  have c5 := (yl_5 hW).2
  have i1 : ((31 : Int32) * nI m) + nI l = nI (31 * m + l) := by
    rw [show (31 : Int32) * nI m = nI (31 * m) from nI_mul 31 m]
    exact nI_add _ _
  have i3 : ((31 : Int32) * (nI m + (1 : Int32))) + nI l = nI (31 * (m + 1) + l) := by
    rw [nI_1, show (31 : Int32) * nI (m + 1) = nI (31 * (m + 1)) from nI_mul 31 _]
    exact nI_add _ _
  have i28 : (((31 : Int32) * (nI m + (1 : Int32))) + nI m) + (1 : Int32) = nI (31 * (m + 1) + (m + 1)) := by
    rw [nI_1, show (31 : Int32) * nI (m + 1) = nI (31 * (m + 1)) from nI_mul 31 _, nI_add]
    exact nI_1 _
  have st := yo_step (F := yo_F w (yo_p w q)) (W := yl_m w q) (M := sp_n w 0) (m := m) (l := l) hm
  have st : yo_D w q m l = _ := st
  have g1 : yo_g (m + 1) (sp_n w 0 - (m + 1)) (yo_D w q (m + 1) l) := yo_Vok c0 (by omega)
  have g2 : yo_g (m + 1) (sp_n w 0 - (m + 1)) (yo_D w q (m + 1) (m + 1)) := yo_Vok c0 (by omega)
  obtain ⟨n1, n2, n3, n4, n5⟩ := yo_inc (show m < 30 by omega) g1
  have lim : ∀ v : sn_S, yo_fr (31 * m + l) z v → sn_I v 1 (12 + 2 * p) = dy_lim (hs_day w) p := fun v hv => (congrFun ((hv.1 1 (by decide) (by decide)).trans hz) (12 + 2 * p)).trans rfl
  unfold fX9_layHold
  rw [i1, i3, i28, yi_12]
  refine yp_lt (yp_lt (yp_gd (fun _ => yp_gd (fun _ => yp_le (fun z7 e7 => yp_gd (fun _ => yp_gd (fun _ => yp_le (fun z11 e11 => ?_))))))))
  rw [nI_clamp (show 31 * m + l < 2 ^ 31 by omega), nI_clamp (show 31 * (m + 1) + l < 2 ^ 31 by omega)] at e7 e11 ⊢
  have r7 : yo_fr (31 * m + l) z z7 := by rw [e7]; exact yo_fr7 yo_fr0
  have r11 : yo_fr (31 * m + l) z z11 := by rw [e11]; exact yo_fr8 r7
  have c11 : yo_C z11 (31 * m + l) (yo_D w q (m + 1) l) := by
    rw [e11, e7]
    refine yo_Cp h1.1 ?_
    exact (congrFun (pI_ne (by decide)) _).trans h1.2
  have d11 : ∀ V j, j ≠ 31 * m + l → yo_C z j V → yo_C z11 j V := fun V j hj h => ⟨(r11.2 j hj).1.trans h.1, (r11.2 j hj).2.trans h.2⟩
  have s11 := d11 _ (31 * (m + 1) + l) (by omega) h1
  refine yp_bd _ (ym_since (w := w) (show m < 30 by omega) hl (show p < 6 by omega) (fun j hj => (congrFun (r11.1 13 (by decide) (by decide)) _).trans (hx j hj))) (fun t ht => yp_gd (fun _ => ?_))
  rw [ht, nI_clamp (show 12 + 2 * p < 2 ^ 31 by omega), lim z11 r11]
  refine yp_ite (fun c => ?_) (fun c => ?_)
  · have f : yo_F w (yo_p w q) l m = true := by
      rw [hp]
      exact decide_eq_true c
    rw [if_pos f] at st
    refine yp_gd (fun _ => yp_gd (fun _ => yp_le (fun z19 e19 => yp_gd (fun _ => yp_gd (fun _ => yp_le (fun z23 e23 => ?_))))))
    have r23 : yo_fr (31 * m + l) z z23 := by rw [e23, e19]; exact yo_fr8 (yo_fr7 r11)
    have c23 : yo_C z23 (31 * m + l) (yo_D w q (m + 1) l + yo_c m) := by
      rw [e23, e19]
      refine yo_Cp ?_ ?_
      · rw [show sn_I z11 17 (31 * (m + 1) + l) = _ from s11.1, nI_1, n1]
      · rw [show sn_I (sn_pI z11 17 (31 * m + l) (sn_I z11 17 (31 * (m + 1) + l) + (1 : Int32))) 18 (31 * (m + 1) + l) = _ from (congrFun (pI_ne (by decide)) _).trans s11.2, yo_or (by omega) n4 n5, n2]
    have s28 : yo_C z23 (31 * (m + 1) + (m + 1)) (yo_D w q (m + 1) (m + 1)) := ⟨(r23.2 _ (by omega)).1.trans h2.1, (r23.2 _ (by omega)).2.trans h2.2⟩
    rw [yb_m, yb_Vb (show m < 32 by omega)]
    refine yp_bit (fun g => ?_) (fun g => ?_)
    · rw [if_pos rfl]
      rw [if_pos g] at st
      refine yp_some ⟨r23, ?_⟩
      rw [st]
      exact c23
    · rw [if_neg (by decide)]
      rw [if_neg (by rw [g]; decide)] at st
      have st : yo_D w q m l = min (yo_D w q (m + 1) l + yo_c m) (yo_D w q (m + 1) (m + 1)) := st
      obtain ⟨A, hA⟩ : ∃ A, A = yo_D w q (m + 1) l + yo_c m := ⟨_, rfl⟩
      obtain ⟨B, hB⟩ : ∃ B, B = yo_D w q (m + 1) (m + 1) := ⟨_, rfl⟩
      rw [← hA, ← hB] at st
      rw [← hA] at c23
      rw [← hB] at s28
      have bA : A < 32 * 1073741824 := by
        have h := n3.2
        rw [← hA] at h
        exact Nat.lt_of_lt_of_le h (Nat.mul_le_mul_right _ (show sp_n w 0 - (m + 1) + 1 + 1 ≤ 32 by omega))
      have bB : B < 32 * 1073741824 := by
        have h := g2.2
        rw [← hB] at h
        exact Nat.lt_of_lt_of_le h (Nat.mul_le_mul_right _ (show sp_n w 0 - (m + 1) + 1 ≤ 32 by omega))
      have keep : A ≤ B → yp (BX9_layHold_184 z23 (nI (31 * m + l)) (nI (31 * (m + 1) + (m + 1)))) (fun r => yo_fr (31 * m + l) z r ∧ yo_C r (31 * m + l) (yo_D w q m l)) := fun h => by
        unfold BX9_layHold_184 BX9_layHold_185
        rw [if_pos rfl, st, Nat.min_eq_left h]
        exact yp_some ⟨r23, c23⟩
      have copy : B ≤ A → yp (BX9_layHold_180 z23 (nI (31 * m + l)) (nI (31 * (m + 1) + (m + 1)))) (fun r => yo_fr (31 * m + l) z r ∧ yo_C r (31 * m + l) (yo_D w q m l)) := fun h => by
        refine yp_w (ym_cpy (by omega) (by omega)) (fun r hr => ?_)
        rw [hr, st, Nat.min_eq_right h]
        exact ⟨yo_fr8 (yo_fr7 r23), yo_Cp s28.1 s28.2⟩
      refine yp_lt ?_
      rw [nI_clamp (show 31 * (m + 1) + (m + 1) < 2 ^ 31 by omega), show sn_I z23 17 (31 * (m + 1) + (m + 1)) = _ from s28.1, show sn_I z23 18 (31 * (m + 1) + (m + 1)) = _ from s28.2, show sn_I z23 17 (31 * m + l) = _ from c23.1, show sn_I z23 18 (31 * m + l) = _ from c23.2]
      refine yp_gd (fun _ => yp_gd (fun _ => yp_ite (fun c1 => copy ?_) (fun c1 => yp_gd (fun _ => yp_gd (fun _ => yp_ite (fun c2 => yp_gd (fun _ => yp_gd (fun _ => yp_ite (fun c3 => keep ?_) (fun c3 => copy ?_)))) (fun c2 => keep ?_))))))
      · have c1 := (nI_ltI (by omega) (by omega)).mp c1
        omega
      · have c2 := (nI_eq (by omega) (by omega)).mp c2
        have c3 := (nI_leI (by omega) (by omega)).mp c3
        omega
      · have c2 := (nI_eq (by omega) (by omega)).mp c2
        have c3 : ¬ A % 1073741824 ≤ B % 1073741824 := fun h => c3 ((nI_leI (by omega) (by omega)).mpr h)
        omega
      · have c1 : ¬ B / 1073741824 < A / 1073741824 := fun h => c1 ((nI_ltI (by omega) (by omega)).mpr h)
        have c2 : ¬ B / 1073741824 = A / 1073741824 := fun h => c2 ((nI_eq (by omega) (by omega)).mpr h)
        omega
  · have f : ¬ yo_F w (yo_p w q) l m = true := by
      rw [hp]
      exact fun h => c (of_decide_eq_true h)
    rw [if_neg f] at st
    have st : yo_D w q m l = yo_D w q (m + 1) l := st
    refine yp_some ⟨r11, ?_⟩
    rw [st]
    exact c11
/-- the table from a minute on -/
def yo_R (u : sn_S) (w : Nat → Int32) (q k : Nat) (z : sn_S) : Prop := (∀ a, a ≠ 17 → a ≠ 18 → z.1 a = u.1 a) ∧ ∀ m l, k ≤ m → m ≤ sp_n w 0 → l ≤ m → yo_C z (31 * m + l) (yo_D w q m l)
theorem yo_Rf {z v : sn_S} (hl : l ≤ m) (hm : m < 31) (h : yo_fr (31 * m + l) z v) (hR : yo_R u w q (m + 1) z) : yo_R u w q (m + 1) v := by
  refine ⟨fun a h1 h2 => (h.1 a h1 h2).trans (hR.1 a h1 h2), fun m' l' h1 h2 h3 => ?_⟩
  have g := hR.2 m' l' h1 h2 h3
  exact ⟨(h.2 _ (by omega)).1.trans g.1, (h.2 _ (by omega)).2.trans g.2⟩
theorem ym_row (hW : jW w) (hM : yM τ u w) (hq : q < sp_n w 8) (hm : m < sp_n w 0) (hR : yo_R u w q (m + 1) z) : yp (sn_it (LX9_layHolds_67 (nI q) (nI m)) 5000 (z, (0 : Int32))) (fun v => yo_R u w q m v) := by
  have c0 := (yl_0 hW).2
  have c5 := (yl_5 hW).2
  obtain ⟨⟨q1, q2⟩, -⟩ := yl_p hW hq
  refine yp_for (m + 1) (fun l (s : sn_S × Int32) => s.2 = nI l ∧ yo_R u w q (m + 1) s.1 ∧ ∀ j, j < l → yo_C s.1 (31 * m + j) (yo_D w q m j)) (fun l s hl hs => ?_) (fun s hs => ?_) (by exact ⟨nI_0.symm, hR, fun j hj => absurd hj (by omega)⟩)
  · obtain ⟨z, x⟩ := s
    obtain ⟨ex, hR, hj⟩ := hs
    have ex : x = nI l := ex
    have hR : yo_R u w q (m + 1) z := hR
    have hj : ∀ j, j < l → yo_C z (31 * m + j) (yo_D w q m j) := hj
    subst ex
    show yp (BX9_layHolds_67 z (nI q) (nI m) (nI l)) _
    unfold BX9_layHolds_67
    have z1 : z.1 1 = w := (hR.1 1 (by decide) (by decide)).trans hM.1
    rw [if_neg (nI_nlt (show l ≤ m by omega) (by omega))]
    refine yp_bd _ (ym_of hW z1 hq 0 (by decide) nI_0.symm) (fun t2 h2 => yp_bd _ (ym_win hW z1 ((congrFun (hR.1 0 (by decide) (by decide)) 22).trans (yM_22 hM)) hq) (fun t4 h4 => ?_))
    rw [h2, h4, show w (49 + 0 + 5 * q) = nI (yo_p w q) from q1]
    refine yp_bd _ (ym_hold1 (p := yo_p w q) hW z1 rfl q2 hm (show l ≤ m by omega) (fun j hj => ?_) (hR.2 (m + 1) l (Nat.le_refl _) (by omega) (by omega)) (hR.2 (m + 1) (m + 1) (Nat.le_refl _) (by omega) (Nat.le_refl _))) (fun t6 h6 => ?_)
    · exact (congrFun (hR.1 13 (by decide) (by decide)) _).trans ((hM.2.1.1 j (by omega)).2 _ q2).2
    · obtain ⟨hf, hC⟩ := h6
      refine yp_lt (yp_some ⟨nI_1 l, yo_Rf (show l ≤ m by omega) (by omega) hf hR, fun j hj2 => ?_⟩)
      by_cases e : j = l
      · rw [e]
        exact hC
      · have g := hj j (by omega)
        exact ⟨(hf.2 _ (by omega)).1.trans g.1, (hf.2 _ (by omega)).2.trans g.2⟩
  · obtain ⟨z, x⟩ := s
    obtain ⟨ex, hR, hj⟩ := hs
    have ex : x = nI (m + 1) := ex
    have hR : yo_R u w q (m + 1) z := hR
    have hj : ∀ j, j < m + 1 → yo_C z (31 * m + j) (yo_D w q m j) := hj
    subst ex
    show yp (BX9_layHolds_67 z (nI q) (nI m) (nI (m + 1))) _
    unfold BX9_layHolds_67
    rw [if_pos (show nI m < nI (m + 1) from nI_lt (by omega) (by omega))]
    refine yp_some ⟨hR.1, fun m' l' h1 h2 h3 => ?_⟩
    by_cases e : m' = m
    · rw [e]
      exact hj l' (by omega)
    · exact hR.2 m' l' (by omega) h2 h3
theorem yo_m1 (x : Int32) : x + (-1) = x - 1 := (Int32.sub_eq_add_neg x 1).symm
theorem ym_holds (hW : jW w) (hM : yM τ u w) (hq : q < sp_n w 8) : yp ((sn_it (LX9_layHolds_12 (nI q)) 5000 (u, (0 : Int32))).bind fun t_4 => BX9_layHolds_54 t_4 (nI q)) (fun r => r.1 = 1 ∧ yo_C r.2 0 (yo_G w q)) := by
  have c0 := (yl_0 hW).2
  have n0 := (yl_0 hW).1
  refine yp_bd (fun z => yo_R u w q (sp_n w 0) z) (yp_for 31 (fun k (s : sn_S × Int32) => s.2 = nI k ∧ (∀ a, a ≠ 17 → a ≠ 18 → s.1.1 a = u.1 a) ∧ ∀ l, l < k → yo_C s.1 (31 * sp_n w 0 + l) 0) (fun k s hk hs => ?_) (fun s hs => ?_) (by exact ⟨nI_0.symm, fun _ _ _ => rfl, fun l hl => absurd hl (by omega)⟩)) (fun z hz => ?_)
  · obtain ⟨z, x⟩ := s
    obtain ⟨ex, hf, hl⟩ := hs
    have ex : x = nI k := ex
    have hf : ∀ a, a ≠ 17 → a ≠ 18 → z.1 a = u.1 a := hf
    have hl : ∀ l, l < k → yo_C z (31 * sp_n w 0 + l) 0 := hl
    subst ex
    show yp (BX9_layHolds_12 z (nI q) (nI k)) _
    unfold BX9_layHolds_12 fX9_minutes
    have e0 : ∀ v : sn_S, (∀ a, a ≠ 17 → a ≠ 18 → v.1 a = u.1 a) → sn_I v 1 (0 : Int32).toNatClampNeg = nI (sp_n w 0) := fun v hv => (congrFun ((hv 1 (by decide) (by decide)).trans hM.1) 0).trans n0
    have ix : ((31 : Int32) * nI (sp_n w 0)) + nI k = nI (31 * sp_n w 0 + k) := by
      rw [show (31 : Int32) * nI (sp_n w 0) = nI (31 * sp_n w 0) from nI_mul 31 _]
      exact nI_add _ _
    rw [if_neg (show ¬ (31 : Int32) ≤ nI k from nI_ge (b := 31) hk (by decide)), e0 z hf]
    refine yp_bd (fun t => t = nI (sp_n w 0)) (yp_gd (fun _ => yp_some rfl)) (fun t2 h2 => ?_)
    rw [h2, ix, nI_clamp (show 31 * sp_n w 0 + k < 2 ^ 31 by omega)]
    refine yp_gd (fun _ => yp_le (fun z5 e5 => ?_))
    have f5 : ∀ a, a ≠ 17 → a ≠ 18 → z5.1 a = u.1 a := fun a h1 h2 => by rw [e5]; exact (pI_ne h1).trans (hf a h1 h2)
    rw [e0 z5 f5]
    refine yp_bd (fun t => t = nI (sp_n w 0)) (yp_gd (fun _ => yp_some rfl)) (fun t7 h7 => ?_)
    rw [h7, ix, nI_clamp (show 31 * sp_n w 0 + k < 2 ^ 31 by omega)]
    refine yp_gd (fun _ => yp_lt (yp_lt (yp_some ⟨nI_1 k, fun a h1 h2 => (pI_ne h2).trans (f5 a h1 h2), fun l h => ?_⟩)))
    rw [e5]
    by_cases e : l = k
    · rw [e]
      exact yo_Cp rfl rfl
    · have hc := hl l (by omega)
      exact ⟨(congrFun (pI_ne (by decide)) _).trans ((pI_slot (by omega)).trans hc.1), (pI_slot (by omega)).trans ((congrFun (pI_ne (by decide)) _).trans hc.2)⟩
  · obtain ⟨z, x⟩ := s
    obtain ⟨ex, hf, hl⟩ := hs
    have ex : x = nI 31 := ex
    have hf : ∀ a, a ≠ 17 → a ≠ 18 → z.1 a = u.1 a := hf
    have hl : ∀ l, l < 31 → yo_C z (31 * sp_n w 0 + l) 0 := hl
    subst ex
    show yp (BX9_layHolds_12 z (nI q) (nI 31)) _
    unfold BX9_layHolds_12
    rw [if_pos (show (31 : Int32) ≤ nI 31 by decide)]
    refine yp_some ⟨hf, fun m l h1 h2 h3 => ?_⟩
    have e : m = sp_n w 0 := by omega
    rw [e, show yo_D w q (sp_n w 0) l = 0 from yo_end]
    exact hl l (by omega)
  · unfold BX9_layHolds_54 fX9_minutes
    rw [show sn_I z 1 (0 : Int32).toNatClampNeg = nI (sp_n w 0) from (congrFun ((hz.1 1 (by decide) (by decide)).trans hM.1) 0).trans n0]
    refine yp_bd (fun t => t = nI (sp_n w 0)) (yp_gd (fun _ => yp_some rfl)) (fun t1 h1 => ?_)
    rw [h1]
    refine yp_lt (yp_bd (fun z => yo_R u w q 0 z) (yp_it (fun s : sn_S × Int32 => ∃ k, k ≤ sp_n w 0 ∧ s.2 = nI k - 1 ∧ yo_R u w q k s.1) (fun s hs => ?_) _ _ (by exact ⟨sp_n w 0, Nat.le_refl _, rfl, hz⟩)) (fun r hr => ?_))
    · obtain ⟨z, x⟩ := s
      obtain ⟨k, hk, ex, hR⟩ := hs
      have ex : x = nI k - 1 := ex
      have hR : yo_R u w q k z := hR
      subst ex
      show yp (BX9_layHolds_61 z (nI q) (nI k - 1)) _
      unfold BX9_layHolds_61
      rcases Nat.eq_zero_or_pos k with g | g
      · rw [g] at hR ⊢
        rw [if_pos (by decide)]
        exact yp_some hR
      · obtain ⟨m, rfl⟩ : ∃ m, k = m + 1 := ⟨k - 1, by omega⟩
        rw [nI_pred, if_neg (nI_pos (show m < 2 ^ 31 by omega))]
        refine yp_bd _ (ym_row hW hM hq (by omega) hR) (fun t ht => ?_)
        unfold BX9_layHolds_95
        exact yp_lt (yp_some ⟨m, by omega, yo_m1 _, ht⟩)
    · unfold BX9_layHolds_101
      exact yp_gd (fun _ => yp_some ⟨rfl, hr.2 0 0 (Nat.le_refl _) (Nat.zero_le _) (Nat.le_refl _)⟩)
theorem yz_43 {a : Int32} (hK : zK σ τ) : yr (fX8_hold σ a) (fX9_hold τ a) (fun r s => r.1 = s.1) := by
  have hW := hK.2.1.1
  have b8 := yl_8 hW
  have e8 : σ.1 2 8 = τ.1 1 8 := hK.2.1.2.1 8 (by decide)
  unfold fX8_hold fX9_hold fX9_layHolds
  rw [c_isPolicy, e8]
  by_cases cp : 0 ≤ a ∧ a < τ.1 1 8
  · rw [if_pos cp]
    obtain ⟨q, hq, eq⟩ := yK_p (by omega) b8.1 cp
    subst eq
    have hG := yo_Glt (q := q) hW
    have e2 : yo_far = 4611686018427387904 := rfl
    refine yr_eq2 (nI (yo_G (τ.1 1) q / 1073741824)) ?_ ?_
    · refine yp_bs rfl ?_
      rw [if_neg (by decide)]
      refine yp_bd _ (yc_hold hW hK.2.1.2 hK.2.2.2 hq) (fun z hz => ?_)
      unfold fX1_fewest
      rw [hz, show (1073741824 : Int64) = lN 1073741824 from rfl, pk_lDiv (by omega) (by decide) (by decide), lN_i]
      exact yp_bs rfl (yp_some rfl)
    · refine yp_bd (fun t : Int32 × sn_S => t.1 = 1 ∧ yo_C t.2 0 (yo_G (τ.1 1) q)) (yp_bd _ (ym_askQ rfl hW) (fun t1 h1 => ?_)) (fun t ht => ?_)
      · obtain ⟨hv, hM⟩ := h1
        rw [hv, if_pos cp, if_neg (by decide)]
        exact ym_holds hW hM hq
      · obtain ⟨h1, h2⟩ := ht
        rw [h1, if_neg (by decide)]
        exact yp_gd (fun _ => yp_some h2.1)
  · rw [if_neg cp]
    refine yr_eq2 (-2 : Int32) (yp_some rfl) ?_
    refine yp_bd (fun t : Int32 × sn_S => t.1 = 0) (yp_bd _ (ym_askQ rfl hW) (fun t1 h1 => ?_)) (fun t ht => ?_)
    · rw [h1.1, if_neg cp, if_pos rfl]
      exact yp_gd (fun _ => yp_some rfl)
    · rw [ht, if_pos rfl]
      exact yp_some rfl
theorem yz_44 {a : Int32} (hK : zK σ τ) : yr (fX8_holds σ a) (fX9_holds τ a) (fun r s => r.1 = s.1) := by
  have hW := hK.2.1.1
  have b8 := yl_8 hW
  have e8 : σ.1 2 8 = τ.1 1 8 := hK.2.1.2.1 8 (by decide)
  unfold fX8_holds fX9_holds fX9_layHolds
  rw [c_isPolicy, e8]
  by_cases cp : 0 ≤ a ∧ a < τ.1 1 8
  · rw [if_pos cp]
    obtain ⟨q, hq, eq⟩ := yK_p (by omega) b8.1 cp
    subst eq
    have hG := yo_Glt (q := q) hW
    have e2 : yo_far = 4611686018427387904 := rfl
    refine yr_eq2 (nI (yo_G (τ.1 1) q % 1073741824)) ?_ ?_
    · refine yp_bs rfl ?_
      rw [if_neg (by decide)]
      refine yp_bd _ (yc_hold hW hK.2.1.2 hK.2.2.2 hq) (fun z hz => ?_)
      unfold fX1_minutesHeld
      rw [hz, show (1073741824 : Int64) = lN 1073741824 from rfl, pk_lRem (by omega) (by decide) (by decide), lN_i]
      exact yp_bs rfl (yp_some rfl)
    · refine yp_bd (fun t : Int32 × sn_S => t.1 = 1 ∧ yo_C t.2 0 (yo_G (τ.1 1) q)) (yp_bd _ (ym_askQ rfl hW) (fun t1 h1 => ?_)) (fun t ht => ?_)
      · obtain ⟨hv, hM⟩ := h1
        rw [hv, if_pos cp, if_neg (by decide)]
        exact ym_holds hW hM hq
      · obtain ⟨h1, h2⟩ := ht
        rw [h1, if_neg (by decide)]
        exact yp_gd (fun _ => yp_some h2.2)
  · rw [if_neg cp]
    refine yr_eq2 (-2 : Int32) (yp_some rfl) ?_
    refine yp_bd (fun t : Int32 × sn_S => t.1 = 0) (yp_bd _ (ym_askQ rfl hW) (fun t1 h1 => ?_)) (fun t ht => ?_)
    · rw [h1.1, if_neg cp, if_pos rfl]
      exact yp_gd (fun _ => yp_some rfl)
    · rw [ht, if_pos rfl]
      exact yp_some rfl
end
