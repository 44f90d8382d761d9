/-! what one takes -/
section
variable {σ τ u z : sn_S} {w : Nat → Int32} {q : Nat} {l : Int32}
/-- what a policy gains a person -/
def yl_g (w : Nat → Int32) (l : Int32) (p q : Nat) : Int32 := nI (yl_v w l q (yS w p) (yHh w p)) - nI (yl_y w q)
theorem yc_asIf (hW : jW w) (hH : yH 1 σ w) (hD : yD σ w) {p : Nat} (hq : q < sp_n w 8) (hp : p < sp_n w 5) : yp (fX8_claimAsIfOf σ (nI p) (nI q)) (fun v => v = nI (yl_v w (w 2) q (yS w p) (yHh w p))) := by
  have c5 := (yl_5 hW).2
  unfold fX8_claimAsIfOf
  rw [show sn_I σ (1 + 1) (2 : Int32).toNatClampNeg = w 2 from hH.1 2 (by decide), nI_clamp (show p < 2 ^ 31 by omega), show sn_I σ (27 + 10) p = _ from (yc_S hD hp).1, show sn_I σ (27 + 4) p = _ from (yc_S hD hp).2]
  exact yp_gd (fun _ => yp_gd (fun _ => yp_gd (fun _ => yp_bd _ (yc_claim hW hH hq (yl_Sb hW p)) (fun t ht => yp_some ht))))
theorem yc_gain (hW : jW w) (hH : yH 1 σ w) (hD : yD σ w) {p : Nat} (hq : q < sp_n w 8) (hp : p < sp_n w 5) : yp (fX8_gainBy σ (nI p) (nI q)) (fun v => v = yl_g w (w 2) p q) := by
  obtain ⟨-, -, -, -, -, -, ⟨y1, y2⟩⟩ := yl_p hW hq
  unfold fX8_gainBy
  refine yp_bd _ (yc_asIf hW hH hD hq hp) (fun t ht => yp_bd _ (yc_of hW hH hq 4 (by decide) rfl) (fun t2 ht2 => yp_some ?_))
  show t - t2 = _
  rw [ht, ht2, show w (49 + 4 + 5 * q) = nI (sp_n w (53 + 5 * q)) from y1]
  rfl
theorem yc_menu (hW : jW w) (hH : yH 1 σ w) (hD : yD σ w) {p : Nat} (hp : p < sp_n w 5) : yp (fX8_bestOfMenu σ (nI p)) (fun v => v = (yz_wo (yl_g w (w 2) p) (sp_n w 8)).1) := by
  have c8 := (yl_8 hW).2
  obtain ⟨f, hf⟩ : ∃ f : Nat → Int32, f = yl_g w (w 2) p := ⟨_, rfl⟩
  have k1 : ∀ k, yz_wo f (k + 1) = if f k ≤ (yz_wo f k).2 then yz_wo f k else (nI k, f k) := fun k => rfl
  rw [← hf]
  unfold fX8_bestOfMenu
  refine yp_bd (fun v => v = (yz_wo f (sp_n w 8)).1) (yp_for (sp_n w 8) (fun k s => s.2.2 = nI k ∧ s.1 = (yz_wo f k).1 ∧ s.2.1 = (yz_wo f k).2) (fun k s hk hs => ?_) (fun s hs => ?_) ⟨nI_0.symm, rfl, rfl⟩) (fun v hv => ?_)
  · obtain ⟨b, c, x⟩ := s
    obtain ⟨ex, eb, ec⟩ := hs
    have ex : x = nI k := ex
    have eb : b = _ := eb
    have ec : c = _ := ec
    subst ex
    subst eb
    subst ec
    show yp (BX8_bestOfMenu_7 σ (nI p) _ _ (nI k)) _
    unfold BX8_bestOfMenu_7 BX8_bestOfMenu_43
    rw [yc_8 hW hH, if_neg (nI_ge hk (by omega))]
    refine yp_gd (fun _ => yp_bd _ (yc_gain hW hH hD hk hp) (fun t ht => ?_))
    rw [ht, ← hf]
    refine yp_ite (fun c => yp_lt (yp_some ⟨nI_1 k, ?_, ?_⟩)) (fun c => yp_lt (yp_some ⟨nI_1 k, ?_, ?_⟩))
    · rw [k1, if_pos c]
    · rw [k1, if_pos c]
    · rw [k1, if_neg c]
    · rw [k1, if_neg c]
  · obtain ⟨b, c, x⟩ := s
    obtain ⟨ex, eb, ec⟩ := hs
    have ex : x = nI (sp_n w 8) := ex
    subst ex
    show yp (BX8_bestOfMenu_7 σ (nI p) b c (nI (sp_n w 8))) _
    unfold BX8_bestOfMenu_7
    rw [yc_8 hW hH, if_pos (nI_le (Nat.le_refl _) (by omega))]
    exact yp_gd (fun _ => yp_some eb)
  · unfold BX8_bestOfMenu_49
    exact yp_some hv
/-- the reference's: pays x of policy k in place of its own -/
def yl_f2 (u z : sn_S) : Prop := (∀ a, a ≠ 0 → a ≠ 16 → z.1 a = u.1 a) ∧ ∀ k, k ≠ 30 → k ≠ 31 → z.1 0 k = u.1 0 k
theorem yl_f2t {v : sn_S} (h : yl_f2 u z) (g : yl_f2 z v) : yl_f2 u v := ⟨fun a h0 h1 => (g.1 a h0 h1).trans (h.1 a h0 h1), fun k h0 h1 => (g.2 k h0 h1).trans (h.2 k h0 h1)⟩
theorem yX_f2 {S H : Nat → Int32} (h : yl_f2 u z) (g : yX u w l S H) : yX z w l S H :=
  ⟨(h.1 1 (by decide) (by decide)).trans g.1, fun p hp => ⟨(congrFun (h.1 10 (by decide) (by decide)) p).trans (g.2.1 p hp).1, (congrFun (h.1 8 (by decide) (by decide)) p).trans (g.2.1 p hp).2⟩, (h.2 18 (by decide) (by decide)).trans g.2.2.1, (h.2 20 (by decide) (by decide)).trans g.2.2.2.1, (h.2 22 (by decide) (by decide)).trans g.2.2.2.2⟩
theorem yl_fw (h : yl_fr u z) : yl_f2 u z := ⟨h.1, fun k h0 _ => h.2 k h0⟩
theorem ym_takesBy {f : Nat → Int32} {k x : Int32} {p : Nat} (hW : jW w) (hp : p < sp_n w 5) (hX : yX u w l (yS w) (yHh w)) (hf : ∀ q, q < sp_n w 8 → f q = nI (yl_v w l q (yS w p) (yHh w p)) - if nI q = k then x else nI (yl_y w q)) : yp (fX9_takesBy u (nI p) k x) (fun r => yl_f2 u r.2 ∧ r.1 = (yz_wo f (sp_n w 8)).1 ∧ r.2.1 0 31 = (yz_wo f (sp_n w 8)).2) := by
  have c8 := (yl_8 hW).2
  have k1 : ∀ k, yz_wo f (k + 1) = if f k ≤ (yz_wo f k).2 then yz_wo f k else (nI k, f k) := fun k => rfl
  unfold fX9_takesBy
  refine yp_lt (yp_bd (fun r => yl_f2 u r.1 ∧ r.2 = (yz_wo f (sp_n w 8)).1 ∧ r.1.1 0 31 = (yz_wo f (sp_n w 8)).2) (yp_for (sp_n w 8) (fun n s => s.2.2 = nI n ∧ s.2.1 = (yz_wo f n).1 ∧ s.1.1 0 31 = (yz_wo f n).2 ∧ yl_f2 u s.1) (fun n s hn hs => ?_) (fun s hs => ?_) ⟨nI_0.symm, rfl, pI_self, fun a h0 h1 => pI_ne h0, fun j h0 h1 => pI_slot h1⟩) (fun v hv => ?_))
  · obtain ⟨z, b, y⟩ := s
    obtain ⟨ey, eb, e31, hz⟩ := hs
    have ey : y = nI n := ey
    have eb : b = _ := eb
    have e31 : z.1 0 31 = _ := e31
    have hz : yl_f2 u z := hz
    subst ey
    subst eb
    have hZ := yX_f2 hz hX
    obtain ⟨-, -, -, -, -, -, ⟨y1, y2⟩⟩ := yl_p hW hn
    have k48 : ∀ (r : Int32 × sn_S) (t1 : Int32), yl_fr z r.2 → r.2.1 0 31 = z.1 0 31 → r.1 - t1 = f n → yp (BX9_takesBy_48 r.2 (nI p) k x (yz_wo f n).1 (nI n) r.1 t1) (yp_sum (fun s : sn_S × Int32 × Int32 => s.2.2 = nI (n + 1) ∧ s.2.1 = (yz_wo f (n + 1)).1 ∧ s.1.1 0 31 = (yz_wo f (n + 1)).2 ∧ yl_f2 u s.1) (fun _ => False)) := fun r t1 hf2 h31 e => by
      unfold BX9_takesBy_48 BX9_takesBy_73
      refine yp_lt ?_
      rw [e, show sn_I r.2 0 31 = _ from h31.trans e31]
      refine yp_ite (fun c => yp_lt (yp_lt (yp_some ⟨nI_1 n, ?_, ?_, yl_f2t (yl_f2t hz (yl_fw hf2)) ⟨fun a h0 h1 => pI_ne h0, fun j h0 h1 => pI_slot h1⟩⟩))) (fun c => yp_lt (yp_some ⟨nI_1 n, ?_, ?_, yl_f2t hz (yl_fw hf2)⟩))
      · rw [k1, if_neg (Int32.not_le.mpr c)]
      · refine pI_self.trans ?_
        rw [k1, if_neg (Int32.not_le.mpr c)]
      · rw [k1, if_pos (Int32.not_lt.mp c)]
      · rw [k1, if_pos (Int32.not_lt.mp c)]
        exact h31.trans e31
    show yp (BX9_takesBy_11 z (nI p) k x _ (nI n)) _
    unfold BX9_takesBy_11
    rw [ym_8 hW hZ.1, if_neg (nI_ge hn (by omega))]
    refine yp_gd (fun _ => yp_bd _ (ym_claim hW hn hp hZ (yl_Sb hW p)) (fun r hr => yp_ite (fun c => k48 r x hr.1 (hr.1.2 31 (by decide)) ?_) (fun c => yp_bd _ (ym_of hW (yX_fr hr.1 hZ).1 hn 4 (by decide) rfl) (fun t ht => ?_))))
    · rw [hf n hn, if_pos c, hr.2.2.1]
    · rw [ht, show w (49 + 4 + 5 * n) = nI (sp_n w (53 + 5 * n)) from y1]
      refine k48 r _ hr.1 (hr.1.2 31 (by decide)) ?_
      rw [hf n hn, if_neg c, hr.2.2.1]
      rfl
  · obtain ⟨z, b, y⟩ := s
    obtain ⟨ey, eb, e31, hz⟩ := hs
    have ey : y = nI (sp_n w 8) := ey
    have hz : yl_f2 u z := hz
    subst ey
    have hZ := yX_f2 hz hX
    show yp (BX9_takesBy_11 z (nI p) k x b (nI (sp_n w 8))) _
    unfold BX9_takesBy_11
    rw [ym_8 hW hZ.1, if_pos (nI_le (Nat.le_refl _) (by omega))]
    exact yp_gd (fun _ => yp_some ⟨hz, eb, e31⟩)
  · unfold BX9_takesBy_79
    exact yp_some hv
theorem yl_gm (w : Nat → Int32) (l : Int32) (p q : Nat) (hq : q < 6) : yl_g w l p q = nI (yl_v w l q (yS w p) (yHh w p)) - if nI q = (-1 : Int32) then (0 : Int32) else nI (yl_y w q) := by
  rw [if_neg (yl_ne (by omega))]
  rfl
theorem yz_40 {a : Int32} (hK : zK σ τ) : yr (fX8_takes σ a) (fX9_takes_ τ a) (fun r s => r = s.1) := by
  have hW := hK.2.1.1
  have c8 := (yl_8 hW).2
  unfold fX8_takes fX9_takes_
  refine yz_pers hK (fun p v u hp ea hM => ?_)
  subst ea
  refine yr_eq (yz_wo (yl_g (τ.1 1) (τ.1 1 2) p) (sp_n (τ.1 1) 8)).1 ?_ ?_
  · exact yp_bd _ (yc_menu hW hK.2.1.2 hK.2.2.2 hp) (fun t ht => yp_some ht)
  · exact yp_bd _ (ym_takesBy hW hp (ym_X hW hM) (fun q hq => yl_gm _ _ _ _ (by omega))) (fun r hr => yp_some hr.2.1)
theorem yz_wo1 (f : Nat → Int32) : ∀ n, n < 100 → ((yz_wo f n).1 = -1 ∧ (yz_wo f n).2 = 0) ∨ ∃ k, k < n ∧ (yz_wo f n).1 = nI k ∧ (yz_wo f n).2 = f k := by
  intro n
  induction n with
  | zero => intro _; exact Or.inl ⟨rfl, rfl⟩
  | succ n ih =>
    intro hn
    have e : yz_wo f (n + 1) = if f n ≤ (yz_wo f n).2 then yz_wo f n else (nI n, f n) := rfl
    rw [e]
    by_cases c : f n ≤ (yz_wo f n).2
    · rw [if_pos c]
      rcases ih (by omega) with h | ⟨k, h1, h2⟩
      · exact Or.inl h
      · exact Or.inr ⟨k, by omega, h2⟩
    · rw [if_neg c]
      exact Or.inr ⟨n, by omega, rfl, rfl⟩
theorem yz_41 {a : Int32} (hK : zK σ τ) : yr (fX8_gains σ a) (fX9_gains τ a) (fun r s => r = s.1) := by
  have hW := hK.2.1.1
  have c8 := (yl_8 hW).2
  unfold fX8_gains fX9_gains
  refine yz_pers hK (fun p v u hp ea hM => ?_)
  subst ea
  refine yr_eq (yz_wo (yl_g (τ.1 1) (τ.1 1 2) p) (sp_n (τ.1 1) 8)).2 ?_ ?_
  · refine yp_bd _ (yc_menu hW hK.2.1.2 hK.2.2.2 hp) (fun t ht => ?_)
    rw [ht]
    rcases yz_wo1 (yl_g (τ.1 1) (τ.1 1 2) p) (sp_n (τ.1 1) 8) (by omega) with ⟨h1, h2⟩ | ⟨k, hk, h1, h2⟩
    · rw [h1, if_pos rfl]
      exact yp_some h2.symm
    · rw [h1, if_neg (yl_ne (by omega))]
      exact yp_bd _ (yc_gain hW hK.2.1.2 hK.2.2.2 hk hp) (fun t ht => yp_some (ht.trans h2.symm))
  · exact yp_bd _ (ym_takesBy hW hp (ym_X hW hM) (fun q hq => yl_gm _ _ _ _ (by omega))) (fun r hr => yp_some hr.2.2)
end
