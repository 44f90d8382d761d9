/-! price of the reference: it ends -/
theorem zr_it1 {S T : Type} {f : S → Option (S ⊕ T)} {n : Nat} {s : S} {A : S → Prop} {E E2 : T → Prop} (h : zs_ok (f s) (zs_sum A E)) (k : ∀ s', A s' → zs_ok (sn_it f n s') E2) (w : ∀ t, E t → E2 t) : zs_ok (sn_it f (n + 1) s) E2 := by
  obtain ⟨o, e, ho⟩ := h
  unfold sn_it
  rw [e]
  cases o with
  | inl s' => exact k s' ho
  | inr t => exact ⟨t, rfl, w t ho⟩
theorem zr_VM {σ0 σ τ : sn_S} (h : zs_M σ0 σ) (h2 : zs_V σ τ) : zs_M σ0 τ := ⟨h2.1, fun q k hk => (h2.2.1 q k (by
  unfold zs_kV
  cases e1 : Nat.beq q 16 with
  | true =>
    have : q = 16 := Nat.eq_of_beq_eq_true e1
    subst this
    exact absurd hk (by show ¬ (false = true); decide)
  | false =>
    cases e2 : Nat.beq q 0 with
    | false => rfl
    | true =>
      cases e3 : Nat.beq k 30 with
      | false => rfl
      | true =>
        have a1 : q = 0 := Nat.eq_of_beq_eq_true e2
        have a2 : k = 30 := Nat.eq_of_beq_eq_true e3
        subst a1
        subst a2
        exact absurd hk (by decide))).trans (h.2.1 q k hk), fun q hq => (h2.2.2 q rfl).trans (h.2.2 q hq)⟩
theorem zr_31 {σ τ : sn_S} (h : zs_V σ τ) : sn_I τ 0 31 = sn_I σ 0 31 := h.2.1 0 31 rfl
theorem zr_loop {σ0 σ : sn_S} (h : zs_V σ0 σ) {x1 x2 t0 x4 : Int32} (h1 : zs_in x1.toInt 0 5) (h2 : zs_in x2.toInt 0 5) (ht : zs_in t0.toInt 1 3) (h4 : zs_in x4.toInt 0 1073741823) : zs_ok (sn_it (LX9_claimOf_63 x1 x2 (0 : Int32) t0) 5000 (σ, x4, (0 : Int32), (0 : Int32))) (fun t => zs_V σ0 t.1 ∧ zs_in t.2.toInt 0 297) := by
  have z0 : zs_in (0 : Int32).toInt 0 0 := by decide
  refine zr_it1 (n := 4999) (zv_15 h h1 h2 z0 h4 z0 ht z0) (fun s hs => ?_) (fun t ht => ⟨ht.1, zs_w ht.2 (by decide)⟩)
  refine zr_it1 (n := 4998) (zv_23 hs.1 h1 h2 z0 hs.2.1 hs.2.2.1 ht hs.2.2.2) (fun s hs => ?_) (fun t ht => ⟨ht.1, zs_w ht.2 (by decide)⟩)
  refine zr_it1 (n := 4997) (zv_31 hs.1 h1 h2 z0 hs.2.1 hs.2.2.1 ht hs.2.2.2) (fun s hs => ?_) (fun t ht => ⟨ht.1, zs_w ht.2 (by decide)⟩)
  exact zr_it1 (n := 4996) (zv_32 hs.1 h1 h2 z0 hs.2.1 hs.2.2.1 ht hs.2.2.2) (fun s hs => hs.elim) (fun t ht => ⟨ht.1, zs_w ht.2 (by decide)⟩)
theorem zr_58 {σ0 σ : sn_S} (h : zs_V σ0 σ) {x1 x2 t0 x4 : Int32} (h1 : zs_in x1.toInt 0 5) (h2 : zs_in x2.toInt 0 5) (ht : zs_in t0.toInt 1 3) (h4 : zs_in x4.toInt 0 1073741823) : zs_ok (BX9_claimOf_58 σ x1 x2 (0 : Int32) x4 (0 : Int32) t0) (fun r => zs_in r.1.toInt 0 297 ∧ zs_V σ0 r.2) := by
  unfold BX9_claimOf_58
  refine zs_bd_ (zr_loop h h1 h2 ht h4) (fun t ht => ?_)
  unfold BX9_claimOf_183
  exact zs_some ⟨ht.2, ht.1⟩
theorem zr_33 {σ0 σ : sn_S} (h : zs_V σ0 σ) {x1 x2 x4 : Int32} (h1 : zs_in x1.toInt 0 5) (h2 : zs_in x2.toInt 0 5) (h4 : zs_in x4.toInt 0 1073741823) : zs_ok (BX9_claimOf_33 σ x1 x2 (0 : Int32) x4) (fun r => zs_in r.1.toInt 0 297 ∧ zs_V σ0 r.2) := by
  unfold BX9_claimOf_33
  refine zs_bd_ (zo_fot2 h4) (fun t ht => ?_)
  refine zs_lt (Q := fun z => zs_V σ0 z) (zs_wrkt h rfl rfl) (fun y hy => ?_)
  exact zs_ite (fun _ => zr_58 hy h1 h2 (show zs_in (3 : Int32).toInt 1 3 by decide) h4) (fun _ => zr_58 hy h1 h2 (show zs_in (1 : Int32).toInt 1 3 by decide) h4)
theorem zr_claim {σ0 σ : sn_S} (h : zs_V σ0 σ) {x1 x2 : Int32} (h1 : zs_in x1.toInt 0 5) (h2 : zs_in x2.toInt 0 5) : zs_ok (fX9_claimOf σ x1 x2 (0 : Int32)) (fun r => zs_in r.1.toInt 0 297 ∧ zs_V σ0 r.2) := by
  unfold fX9_claimOf
  refine zs_gd (zs_gin h2 (by decide)) ?_
  refine zs_bd_ (zv_5 h h1) (fun t ht => ?_)
  have hs : zs_in (sn_I σ 10 x2.toNatClampNeg).toInt 0 1073741823 := zs_rdu (q := 10) (z := (0, 1073741823)) h.1 (fun _ => rfl)
  refine zs_lt (Q := fun z => zs_in z.toInt 0 1073741823) (zs_and2 hs (by decide)) (fun y hy => ?_)
  refine zs_ite (fun _ => ?_) (fun _ => zr_33 h h1 h2 hy)
  exact zs_lt (Q := fun z => zs_in z.toInt 0 1073741823) (zs_and2 hy (by decide)) (fun w hw => zr_33 h h1 h2 hw)
/-- nobody takes a policy that pays 298 or more -/
theorem zr_73 {σ0 τ : sn_S} (hM : zs_M σ0 τ) (h31 : 0 ≤ (sn_I τ 0 31).toInt) {x1 x2 x3 b x5 : Int32} (hb : b.toInt ≠ x2.toInt) (h5 : zs_in x5.toInt 0 5) : zs_ok (BX9_takesBy_73 τ x1 x2 x3 b x5) (zs_sum (fun s => (zs_M σ0 s.1 ∧ zs_in s.2.2.toInt 0 6 ∧ s.2.1.toInt ≠ x2.toInt ∧ 0 ≤ (sn_I s.1 0 31).toInt) ∧ 6 - s.2.2.toInt < 6 - x5.toInt) (fun t => zs_M σ0 t.1 ∧ t.2.toInt ≠ x2.toInt)) := by
  unfold BX9_takesBy_73
  have e : (x5 + 1).toInt = x5.toInt + 1 := zs_syI 1 (show x5.toInt = x5.toInt + 0 by omega) h5 (show zs_in (1 : Int32).toInt 1 1 by decide) (by decide) (by decide)
  refine zs_lt (Q := fun z => z.toInt = x5.toInt + 1) e (fun z hz => ?_)
  exact zs_some (zs_inl ⟨⟨hM, ⟨by show 0 ≤ z.toInt; omega, by show z.toInt ≤ 6; omega⟩, hb, h31⟩, by show 6 - z.toInt < 6 - x5.toInt; omega⟩)
theorem zr_takes {σ0 σ : sn_S} (h : zs_M σ0 σ) {x1 x2 x3 : Int32} (h1 : zs_in x1.toInt 0 5) (h2 : 0 ≤ x2.toInt) (h3 : 298 ≤ x3.toInt) : zs_ok (fX9_takesBy σ x1 x2 x3) (fun r => r.1.toInt ≠ x2.toInt ∧ zs_M σ0 r.2) := by
  unfold fX9_takesBy
  refine zs_lt (Q := fun z => zs_M σ0 z ∧ sn_I z 0 31 = 0) ⟨zs_wrkt h rfl rfl, pI_self⟩ (fun σ1 hσ1 => ?_)
  refine zs_bd_ (Q := fun t => zs_M σ0 t.1 ∧ t.2.toInt ≠ x2.toInt) ?_ (fun t ht => ?_)
  · refine zs_it (I := fun s => zs_M σ0 s.1 ∧ zs_in s.2.2.toInt 0 6 ∧ s.2.1.toInt ≠ x2.toInt ∧ 0 ≤ (sn_I s.1 0 31).toInt) (m := fun s => 6 - s.2.2.toInt) (fun s hs => ⟨by have := hs.2.1; omega, by have := hs.2.1; omega⟩) (fun s hs => ?_) ⟨hσ1.1, (show zs_in (0 : Int32).toInt 0 6 by decide), ?_, ?_⟩
    · obtain ⟨hM, h6, hne, h31⟩ := hs
      unfold LX9_takesBy_11 BX9_takesBy_11
      refine zs_gd (by decide) ?_
      refine zs_ite (fun _ => zs_some (zs_inr ⟨hM, hne⟩)) (fun c => ?_)
      have h8 : zs_in (sn_I s.1 1 (8 : Int32).toNatClampNeg).toInt 0 6 := zs_rdk (q := 1) (k := (8 : Int32).toNatClampNeg) (z := (0, 6)) hM.1 rfl
      have h5 : zs_in s.2.2.toInt 0 5 := zs_ltl 0 5 (zs_I_len c) h6 h8 (by decide)
      refine zs_bd_ (zr_claim (zs_rf hM.1) h5 h1) (fun t ht => ?_)
      have hM2 := zr_VM hM ht.2
      have e31 := zr_31 ht.2
      refine zs_ite (fun c2 => ?_) (fun c2 => ?_)
      · unfold BX9_takesBy_48
        have ev : (t.1 - x3).toInt < 0 := by
          have hx := zs_topI x3
          have h297 := ht.1
          rw [Int32.toInt_sub, zs_bm ⟨by omega, by omega⟩]
          omega
        refine zs_lt (Q := fun z => z.toInt < 0) ev (fun y hy => ?_)
        refine zs_ite (fun c3 => ?_) (fun _ => zr_73 hM2 (by rw [e31]; exact h31) hne h5)
        have := zs_I_lt c3
        rw [e31] at this
        exact absurd this (by omega)
      · have hx5 := zs_I_eqn c2
        refine zs_bd_ (zc_240 hM2 h5 (show zs_in (4 : Int32).toInt 4 4 by decide)) (fun u hu => ?_)
        unfold BX9_takesBy_48
        refine zs_lt (Q := fun _ => True) trivial (fun y _ => ?_)
        refine zs_ite (fun c3 => ?_) (fun _ => zr_73 hM2 (by rw [e31]; exact h31) hne h5)
        have h3' := zs_I_lt c3
        rw [e31] at h3'
        refine zs_lt (Q := fun z => zs_M σ0 z ∧ sn_I z 0 31 = y) ⟨zs_wrkt hM2 rfl rfl, pI_self⟩ (fun z hz => ?_)
        exact zr_73 hz.1 (by rw [hz.2]; omega) hx5 h5
    · show (-1 : Int32).toInt ≠ x2.toInt
      rw [show (-1 : Int32).toInt = -1 by decide]
      omega
    · show 0 ≤ (sn_I σ1 0 31).toInt
      rw [hσ1.2]
      decide
  · unfold BX9_takesBy_79
    exact zs_some ⟨ht.2, ht.1⟩
theorem zr_taken {σ0 σ : sn_S} (h : zs_M σ0 σ) {x1 x2 : Int32} (h1 : zs_in x1.toInt 0 5) (h2 : 298 ≤ x2.toInt) : zs_ok (fX9_isTaken σ x1 x2) (fun r => r.1 = 0 ∧ zs_M σ0 r.2) := by
  unfold fX9_isTaken
  refine zs_bd_ (Q := zs_sum (fun v => zs_M σ0 v) (fun _ => False)) ?_ (fun t ht => zs_elim ht (fun v hv => ?_) (fun _ hr => hr.elim))
  · refine zs_it (E := zs_sum (fun v => zs_M σ0 v) (fun _ => False)) (I := fun s => zs_M σ0 s.1 ∧ zs_in s.2.toInt 0 6) (m := fun s => 6 - s.2.toInt) (fun s hs => ⟨by have := hs.2; omega, by have := hs.2; omega⟩) (fun s hs => ?_) ⟨h, (show zs_in (0 : Int32).toInt 0 6 by decide)⟩
    obtain ⟨hM, h6⟩ := hs
    unfold LX9_isTaken_2 BX9_isTaken_2
    refine zs_gd (by decide) ?_
    refine zs_ite (fun _ => zs_some (zs_inr (zs_inl hM))) (fun c => ?_)
    have h8 : zs_in (sn_I s.1 1 (5 : Int32).toNatClampNeg).toInt 0 6 := zs_rdk (q := 1) (k := (5 : Int32).toNatClampNeg) (z := (0, 6)) hM.1 rfl
    have h5 : zs_in s.2.toInt 0 5 := zs_ltl 0 5 (zs_I_len c) h6 h8 (by decide)
    refine zs_bd_ (zr_takes hM h5 (by omega) h2) (fun t ht => ?_)
    refine zs_ite (fun c2 => absurd (zs_I_eq c2) ht.1) (fun _ => ?_)
    have e : (s.2 + 1).toInt = s.2.toInt + 1 := zs_syI 1 (show s.2.toInt = s.2.toInt + 0 by omega) h5 (show zs_in (1 : Int32).toInt 1 1 by decide) (by decide) (by decide)
    refine zs_lt (Q := fun z => z.toInt = s.2.toInt + 1) e (fun z hz => ?_)
    exact zs_some (zs_inl ⟨⟨ht.2, ⟨by show 0 ≤ z.toInt; omega, by show z.toInt ≤ 6; omega⟩⟩, by show 6 - z.toInt < 6 - s.2.toInt; omega⟩)
  · unfold BX9_isTaken_31
    exact zs_gd (by decide) (zs_some ⟨rfl, hv⟩)
theorem zr_price {σ : sn_S} (h : zs_SB zs_tM σ) (a : Int32) : zs_ok (fX9_price σ a) (fun r => zs_M σ r.2) := by
  unfold fX9_price
  refine zs_bd_ (zc_239 (zs_rf (key := zs_kM) (kl := zs_lM) h)) (fun t ht => ?_)
  refine zs_ite (fun _ => zs_some ht.1.2) (fun c1 => ?_)
  have f1 := zs_or3 ht.2 (zs_I_eqn c1) (show zs_in (0 : Int32).toInt 0 0 by decide) (by decide)
  refine zs_bd_ (Q := fun t => zs_M σ t.1) ?_ (fun t ht => ?_)
  · refine zs_it (I := fun s => zs_M σ s.1 ∧ zs_in s.2.toInt 0 298) (m := fun s => 298 - s.2.toInt) (fun s hs => ⟨by have := hs.2; omega, by have := hs.2; omega⟩) (fun s hs => ?_) ⟨ht.1.2, (show zs_in (0 : Int32).toInt 0 298 by decide)⟩
    obtain ⟨hM, h298⟩ := hs
    unfold LX9_price_13 BX9_price_13
    by_cases hc : s.2.toInt = 298
    · refine zs_bd_ (zr_taken hM f1 (by omega)) (fun u hu => ?_)
      exact zs_ite (fun _ => zs_some (zs_inr hu.2)) (fun c => absurd hu.1 c)
    · have h297 : zs_in s.2.toInt 0 297 := ⟨h298.1, by have := h298.2; omega⟩
      refine zs_bd_ (zc_1495 hM f1 h297) (fun u hu => ?_)
      refine zs_ite (fun _ => zs_some (zs_inr hu.2)) (fun _ => ?_)
      have e : (s.2 + 1).toInt = s.2.toInt + 1 := zs_syI 1 (show s.2.toInt = s.2.toInt + 0 by omega) h297 (show zs_in (1 : Int32).toInt 1 1 by decide) (by decide) (by decide)
      refine zs_lt (Q := fun z => z.toInt = s.2.toInt + 1) e (fun z hz => ?_)
      exact zs_some (zs_inl ⟨⟨hu.2, ⟨by show 0 ≤ z.toInt; omega, by show z.toInt ≤ 298; omega⟩⟩, by show 298 - z.toInt < 298 - s.2.toInt; omega⟩)
  · unfold BX9_price_28
    exact zs_some ht
