/-! the program's reader -/
theorem zs_okw {α : Type} {o : Option α} {P Q : α → Prop} (h : zs_ok o P) (l : ∀ a, P a → Q a) : zs_ok o Q := by
  obtain ⟨a, e, p⟩ := h
  exact ⟨a, e, l a p⟩
def zk_fr (σ z : sn_S) : Prop := (∀ q, q ≠ 17 → z.1 q = σ.1 q) ∧ z.1 17 1 = σ.1 17 1 ∧ z.2 = σ.2
theorem zk_fr0 {σ : sn_S} : zk_fr σ σ := ⟨fun _ _ => rfl, rfl, rfl⟩
theorem zk_frt {a b c : sn_S} (h : zk_fr a b) (g : zk_fr b c) : zk_fr a c := ⟨fun q hq => (g.1 q hq).trans (h.1 q hq), g.2.1.trans h.2.1, g.2.2.trans h.2.2⟩
theorem zk_frw {σ z : sn_S} {k : Nat} {v : Int32} (hk : k ≠ 1) (h : zk_fr σ z) : zk_fr σ (sn_pI z 17 k v) := ⟨fun q hq => by
  rw [pI_ne hq, h.1 q hq], by
  rw [pI_slot (fun e => hk e.symm)]
  exact h.2.1, h.2.2⟩
def zk_pos (z : sn_S) : Prop := 0 ≤ (z.1 17 4).toInt ∧ (z.1 17 4).toInt ≤ (z.1 17 5).toInt ∧ (z.1 17 5).toInt ≤ (z.1 17 1).toInt ∧ (z.1 17 1).toInt ≤ 900
theorem zk_inc {x : Int32} (h : 0 ≤ x.toInt) (h2 : x.toInt ≤ 5000) : (x + (1 : Int32)).toInt = x.toInt + 1 := by
  rw [Int32.toInt_add, show (1 : Int32).toInt = 1 by decide, zs_bm ⟨by omega, by omega⟩]
theorem zk_k59 {σ : sn_S} {y : Int32} : zs_ok (BX5_kindAt_59 σ y) (fun r => zs_in r.toInt 0 5) := by
  unfold BX5_kindAt_59
  exact zs_ite (fun _ => zs_some (by decide)) (fun _ => zs_some (by decide))
theorem zk_k45 {σ : sn_S} {y : Int32} : zs_ok (BX5_kindAt_45 σ y) (fun r => zs_in r.toInt 0 5) := by
  unfold BX5_kindAt_45
  exact zs_ite (fun _ => zk_k59) (fun _ => zs_ite (fun _ => zk_k59) (fun _ => zs_some (by decide)))
theorem zk_kindAt {σ : sn_S} (hl : (σ.1 17 1).toInt ≤ 900) {x1 : Int32} (hx : 0 ≤ x1.toInt) : zs_ok (fX5_kindAt σ x1) (fun r => zs_in r.toInt 0 5) := by
  unfold fX5_kindAt
  refine zs_ite (fun c => ?_) (fun _ => zs_some (by decide))
  have c1 : x1.toInt < (σ.1 17 1).toInt := zs_I_lt c
  refine zs_gd (zs_gin (a := 0) (b := 899) ⟨hx, by omega⟩ (by decide)) ?_
  refine zs_lt (Q := fun _ => True) trivial (fun y _ => ?_)
  exact zs_ite (fun _ => zs_some (by decide)) (fun _ => zs_ite (fun _ => zs_some (by decide)) (fun _ => zs_ite (fun _ => zk_k45) (fun _ => zs_ite (fun _ => zk_k45) (fun _ => zs_some (by decide)))))
theorem zk_step {σ : sn_S} (h0 : 0 ≤ (σ.1 17 5).toInt) (h1 : (σ.1 17 5).toInt ≤ (σ.1 17 1).toInt) (hl : (σ.1 17 1).toInt ≤ 900) : zs_ok (fX5_step σ) (fun z => zk_fr σ z ∧ z.1 17 2 = σ.1 17 2 ∧ zk_pos z) := by
  unfold fX5_step
  refine zs_lt (Q := fun z => zk_fr σ z ∧ z.1 17 2 = σ.1 17 2 ∧ 0 ≤ (z.1 17 4).toInt ∧ (z.1 17 4).toInt ≤ (σ.1 17 1).toInt) ⟨zk_frw (by decide) zk_fr0, rfl, h0, h1⟩ (fun z1 g1 => ?_)
  refine zs_bd_ (zs_it (E := fun z => zk_fr σ z ∧ z.1 17 2 = σ.1 17 2 ∧ 0 ≤ (z.1 17 4).toInt ∧ (z.1 17 4).toInt ≤ (σ.1 17 1).toInt) (I := fun z => zk_fr σ z ∧ z.1 17 2 = σ.1 17 2 ∧ 0 ≤ (z.1 17 4).toInt ∧ (z.1 17 4).toInt ≤ (σ.1 17 1).toInt) (m := fun z => 900 - (z.1 17 4).toInt) (fun z hz => ⟨by have := hz.2.2; omega, by have := hz.2.2; omega⟩) (fun z hz => ?_) g1) (fun z2 g2 => ?_)
  · unfold LX5_step_8 BX5_step_8
    refine zs_ite (fun _ => zs_some (zs_inr hz)) (fun c => ?_)
    have c1 : (z.1 17 4).toInt < (z.1 17 1).toInt := zs_I_len c
    have e1 := congrArg Int32.toInt hz.1.2.1
    refine zs_bd_ (zk_kindAt (by omega) hz.2.2.1) (fun t _ => zs_ite (fun _ => ?_) (fun _ => zs_some (zs_inr hz)))
    have e2 := zk_inc hz.2.2.1 (by omega)
    refine zs_lt (Q := fun y => y = sn_pI z 17 4 ((sn_I z 17 4) + (1 : Int32))) rfl (fun y hy => ?_)
    subst hy
    exact zs_some (zs_inl ⟨⟨zk_frw (by decide) hz.1, hz.2.1, by show 0 ≤ (z.1 17 4 + (1 : Int32)).toInt; omega, by show (z.1 17 4 + (1 : Int32)).toInt ≤ _; omega⟩, by show 900 - (z.1 17 4 + (1 : Int32)).toInt < 900 - (z.1 17 4).toInt; omega⟩)
  · unfold BX5_step_44
    have e1 := congrArg Int32.toInt g2.1.2.1
    refine zs_bd_ (zk_kindAt (by omega) g2.2.2.1) (fun t _ => ?_)
    refine zs_lt (Q := fun y => y = sn_pI z2 17 6 t) rfl (fun z3 h3 => ?_)
    have f1 : z3.1 17 1 = z2.1 17 1 := by rw [h3]; rfl
    have f2 : z3.1 17 2 = z2.1 17 2 := by rw [h3]; rfl
    have f4 : z3.1 17 4 = z2.1 17 4 := by rw [h3]; rfl
    have g3 : zk_fr σ z3 := by rw [h3]; exact zk_frw (by decide) g2.1
    refine zs_lt (Q := fun y => (z2.1 17 4).toInt ≤ y.toInt ∧ y.toInt ≤ (z2.1 17 1).toInt) ?_ (fun y hy => ?_)
    · show (z2.1 17 4).toInt ≤ (if (z3.1 17 1) < ((z3.1 17 4) + (1 : Int32)) then (z3.1 17 1) else ((z3.1 17 4) + (1 : Int32))).toInt ∧ (if (z3.1 17 1) < ((z3.1 17 4) + (1 : Int32)) then (z3.1 17 1) else ((z3.1 17 4) + (1 : Int32))).toInt ≤ (z2.1 17 1).toInt
      rw [f1, f4]
      have e2 := zk_inc g2.2.2.1 (by omega)
      by_cases c : (z2.1 17 1) < ((z2.1 17 4) + (1 : Int32))
      · rw [if_pos c]
        exact ⟨by omega, by omega⟩
      · rw [if_neg c]
        have := zs_I_ltn c
        exact ⟨by omega, by omega⟩
    · refine zs_lt (Q := fun z => zk_fr σ z ∧ z.1 17 2 = σ.1 17 2 ∧ zk_pos z) ⟨zk_frw (by decide) g3, f2.trans g2.2.1, ?_, ?_, ?_, ?_⟩ (fun z4 g4 => ?_)
      · show 0 ≤ (z3.1 17 4).toInt
        rw [f4]
        exact g2.2.2.1
      · show (z3.1 17 4).toInt ≤ y.toInt
        rw [f4]
        exact hy.1
      · show y.toInt ≤ (z3.1 17 1).toInt
        rw [f1]
        exact hy.2
      · show (z3.1 17 1).toInt ≤ 900
        rw [f1]
        omega
      · have s89 : ∀ w, (zk_fr σ w ∧ w.1 17 2 = σ.1 17 2 ∧ zk_pos w) → zs_ok (BX5_step_89 w) (zs_sum (fun s' => (zk_fr σ s' ∧ s'.1 17 2 = σ.1 17 2 ∧ zk_pos s') ∧ 900 - (s'.1 17 5).toInt < 900 - (w.1 17 5).toInt) (fun z => zk_fr σ z ∧ z.1 17 2 = σ.1 17 2 ∧ zk_pos z)) := by
          intro w hw
          unfold BX5_step_89
          refine zs_ite (fun _ => zs_some (zs_inr hw)) (fun c => ?_)
          have c1 : (w.1 17 5).toInt < (w.1 17 1).toInt := zs_I_len c
          obtain ⟨w1, w2, p1, p2, p3, p4⟩ := hw
          have e2 := zk_inc (x := w.1 17 5) (by omega) (by omega)
          refine zs_bd_ (zk_kindAt p4 (show 0 ≤ (w.1 17 5).toInt by omega)) (fun t _ => zs_ite (fun _ => ?_) (fun _ => zs_some (zs_inr ⟨w1, w2, p1, p2, p3, p4⟩)))
          refine zs_lt (Q := fun y => y = sn_pI w 17 5 ((sn_I w 17 5) + (1 : Int32))) rfl (fun y hy => ?_)
          subst hy
          exact zs_some (zs_inl ⟨⟨zk_frw (by decide) w1, w2, p1, by show (w.1 17 4).toInt ≤ (w.1 17 5 + (1 : Int32)).toInt; omega, by show (w.1 17 5 + (1 : Int32)).toInt ≤ (w.1 17 1).toInt; omega, p4⟩, by show 900 - (w.1 17 5 + (1 : Int32)).toInt < 900 - (w.1 17 5).toInt; omega⟩)
        refine zs_bd_ (zs_it (E := fun z => zk_fr σ z ∧ z.1 17 2 = σ.1 17 2 ∧ zk_pos z) (I := fun z => zk_fr σ z ∧ z.1 17 2 = σ.1 17 2 ∧ zk_pos z) (m := fun z => 900 - (z.1 17 5).toInt) (fun z hz => ⟨by have := hz.2.2; unfold zk_pos at this; omega, by have := hz.2.2; unfold zk_pos at this; omega⟩) (fun z hz => ?_) g4) (fun z5 g5 => ?_)
        · unfold LX5_step_73 BX5_step_73
          exact zs_ite (fun _ => s89 z hz) (fun _ => zs_ite (fun _ => s89 z hz) (fun _ => zs_some (zs_inr hz)))
        · unfold BX5_step_128
          exact zs_some g5
theorem zk_isWord {σ : sn_S} (hp : zk_pos σ) {k : Nat} (hk : k < 16) : zs_ok (fX5_isWord σ k) (fun _ => True) := by
  obtain ⟨p1, p2, p3, p4⟩ := hp
  unfold fX5_isWord
  have b0 : sn_b01 (0 : Int32) = true := by decide
  refine zs_ite (fun _ => ?_) (fun _ => zs_gd b0 (zs_some trivial))
  have e : sn_slen k = some (Int32.ofNat (sn_len.getD k 0)) := by
    unfold sn_slen
    rw [if_pos hk]
  rw [e]
  show zs_ok (if (sn_I σ 17 5 - sn_I σ 17 4) = Int32.ofNat (sn_len.getD k 0) then _ else _) _
  refine zs_ite (fun c => ?_) (fun _ => zs_gd b0 (zs_some trivial))
  have hL : sn_len.getD k 0 < 8 := sn_len8 k hk
  have c2 : (σ.1 17 5).toInt - (σ.1 17 4).toInt = ((sn_len.getD k 0 : Nat) : Int) := by
    have h1 := congrArg Int32.toInt c
    have h2 : (Int32.ofNat (sn_len.getD k 0)).toInt = ((sn_len.getD k 0 : Nat) : Int) := nI_toInt (by omega)
    rw [h2] at h1
    rw [← h1]
    show _ = (σ.1 17 5 - σ.1 17 4).toInt
    rw [Int32.toInt_sub, zs_bm ⟨by omega, by omega⟩]
  refine zs_lt (Q := fun y => y = σ.1 17 4) rfl (fun y hy => ?_)
  refine zs_bd_ (zs_it (E := fun _ => True) (I := fun x : Int32 => (σ.1 17 4).toInt ≤ x.toInt ∧ x.toInt ≤ (σ.1 17 5).toInt) (m := fun x => 900 - x.toInt) (fun x hx => ⟨by omega, by omega⟩) (fun x hx => ?_) (by rw [hy]; exact ⟨Int.le_refl _, p2⟩)) (fun t _ => ?_)
  · unfold LX5_isWord_31 BX5_isWord_31
    refine zs_ite (fun _ => zs_some (zs_inr trivial)) (fun c3 => ?_)
    have c4 : x.toInt < (σ.1 17 5).toInt := zs_I_len c3
    refine zs_gd (zs_gin (a := 0) (b := 899) ⟨by omega, by omega⟩ (by decide)) ?_
    have e5 : (x - sn_I σ 17 4).toInt = x.toInt - (σ.1 17 4).toInt := by
      show (x - σ.1 17 4).toInt = _
      rw [Int32.toInt_sub, zs_bm ⟨by omega, by omega⟩]
    have e6 : ∃ v, sn_sat k (x - sn_I σ 17 4) = some v := by
      unfold sn_sat
      rw [if_pos ⟨hk, zs_gin (a := 0) (b := ((sn_len.getD k 0 : Nat) : Int) - 1) ⟨by omega, by omega⟩ ⟨by omega, by omega⟩⟩]
      exact ⟨_, rfl⟩
    obtain ⟨v, ev⟩ := e6
    rw [ev]
    show zs_ok (if sn_I σ 18 x.toNatClampNeg = v then _ else _) _
    refine zs_ite (fun _ => ?_) (fun _ => zs_gd b0 (zs_some (zs_inr trivial)))
    have e7 := zk_inc (x := x) (by omega) (by omega)
    refine zs_lt (Q := fun y => y = x + 1) rfl (fun y hy2 => ?_)
    subst hy2
    exact zs_some (zs_inl ⟨⟨by omega, by omega⟩, by show 900 - (x + 1).toInt < _; omega⟩)
  · cases t with
    | inl u =>
      show zs_ok (BX5_isWord_66 σ k) _
      unfold BX5_isWord_66
      exact zs_gd (by decide) (zs_some trivial)
    | inr r => exact zs_some trivial
theorem zk_value {σ : sn_S} (hp : zk_pos σ) : zs_ok (fX5_value σ) (fun _ => True) := by
  obtain ⟨p1, p2, p3, p4⟩ := hp
  unfold fX5_value
  refine zs_lt (Q := fun y => y = σ.1 17 4) rfl (fun y hy => ?_)
  refine zs_bd_ (zs_it (E := fun _ => True) (I := fun s : Int32 × Int32 => (σ.1 17 4).toInt ≤ s.2.toInt ∧ s.2.toInt ≤ (σ.1 17 5).toInt) (m := fun s => 900 - s.2.toInt) (fun x hx => ⟨by omega, by omega⟩) (fun x hx => ?_) (by show (σ.1 17 4).toInt ≤ y.toInt ∧ _; rw [hy]; exact ⟨Int.le_refl _, p2⟩)) (fun t _ => ?_)
  · unfold LX5_value_7 BX5_value_7
    refine zs_ite (fun _ => zs_some (zs_inr trivial)) (fun c3 => ?_)
    have c4 : x.2.toInt < (σ.1 17 5).toInt := zs_I_len c3
    refine zs_gd (zs_gin (a := 0) (b := 899) ⟨by omega, by omega⟩ (by decide)) ?_
    refine zs_lt (Q := fun _ => True) trivial (fun w _ => ?_)
    have e7 := zk_inc (x := x.2) (by omega) (by omega)
    refine zs_lt (Q := fun y => y = x.2 + 1) rfl (fun y hy2 => ?_)
    subst hy2
    exact zs_some (zs_inl ⟨⟨by show _ ≤ (x.2 + 1).toInt; omega, by show (x.2 + 1).toInt ≤ _; omega⟩, by show 900 - (x.2 + 1).toInt < _; omega⟩)
  · unfold BX5_value_41
    exact zs_some trivial
theorem zk_blame {σ : sn_S} {x1 : Int32} (hx : x1 ≠ 0) : zs_ok (fX5_blame σ x1) (fun z => zk_fr σ z ∧ z.1 17 2 ≠ 0 ∧ z.1 17 4 = σ.1 17 4 ∧ z.1 17 5 = σ.1 17 5) := by
  unfold fX5_blame
  refine zs_ite (fun _ => ?_) (fun c => zs_some ⟨zk_fr0, c, rfl, rfl⟩)
  refine zs_lt (Q := fun z => zk_fr σ z ∧ z.1 17 2 = x1 ∧ z.1 17 4 = σ.1 17 4 ∧ z.1 17 5 = σ.1 17 5) ⟨zk_frw (by decide) zk_fr0, rfl, rfl, rfl⟩ (fun z h => ?_)
  refine zs_lt (Q := fun z => zk_fr σ z ∧ z.1 17 2 = x1 ∧ z.1 17 4 = σ.1 17 4 ∧ z.1 17 5 = σ.1 17 5) ⟨zk_frw (by decide) h.1, h.2.1, h.2.2.1, h.2.2.2⟩ (fun z h => zs_some ⟨h.1, by rw [h.2.1]; exact hx, h.2.2⟩)
theorem zk_posf {σ z : sn_S} (hp : zk_pos σ) (h1 : z.1 17 1 = σ.1 17 1) (h4 : z.1 17 4 = σ.1 17 4) (h5 : z.1 17 5 = σ.1 17 5) : zk_pos z := by
  unfold zk_pos
  rw [h1, h4, h5]
  exact hp
theorem zk_stepp {σ : sn_S} (hp : zk_pos σ) : zs_ok (fX5_step σ) (fun z => zk_fr σ z ∧ z.1 17 2 = σ.1 17 2 ∧ zk_pos z) := zk_step (by have := hp.1; have := hp.2.1; omega) hp.2.2.1 hp.2.2.2
theorem zk_n44 {σ : sn_S} (hp : zk_pos σ) {x : Int32} : zs_ok (BX5_number_44 σ x) (fun r => r.1 = x ∧ zk_fr σ r.2 ∧ zk_pos r.2 ∧ r.2.1 17 2 = σ.1 17 2) := by
  unfold BX5_number_44
  exact zs_bd_ (zk_stepp hp) (fun t ht => zs_some ⟨rfl, ht.1, ht.2.2, ht.2.1⟩)
theorem zk_n39 {σ : sn_S} (hp : zk_pos σ) {x : Int32} : zs_ok (BX5_number_39 σ x) (fun r => zk_fr σ r.2 ∧ zk_pos r.2 ∧ r.2.1 17 2 ≠ 0) := by
  unfold BX5_number_39
  refine zs_bd_ (zk_blame (by decide)) (fun t ht => ?_)
  exact zs_okw (zk_n44 (zk_posf hp ht.1.2.1 ht.2.2.1 ht.2.2.2)) (fun a ha => ⟨zk_frt ht.1 ha.2.1, ha.2.2.1, by rw [ha.2.2.2]; exact ht.2.1⟩)
theorem zk_number {σ : sn_S} (hp : zk_pos σ) {lo hi but : Int32} : zs_ok (fX5_number σ lo hi but) (fun r => zk_fr σ r.2 ∧ zk_pos r.2 ∧ (r.2.1 17 2 = 0 → σ.1 17 2 = 0 ∧ lo.toInt ≤ r.1.toInt ∧ r.1.toInt ≤ hi.toInt)) := by
  unfold fX5_number
  have bad : ∀ x, zs_ok (BX5_number_39 σ x) (fun r => zk_fr σ r.2 ∧ zk_pos r.2 ∧ (r.2.1 17 2 = 0 → σ.1 17 2 = 0 ∧ lo.toInt ≤ r.1.toInt ∧ r.1.toInt ≤ hi.toInt)) := fun x => zs_okw (zk_n39 hp) (fun a ha => ⟨ha.1, ha.2.1, fun z => absurd z ha.2.2⟩)
  refine zs_ite (fun _ => ?_) (fun _ => ?_)
  · refine zs_bd_ (zk_value hp) (fun t _ => zs_ite (fun _ => bad t) (fun c1 => zs_ite (fun _ => bad t) (fun c2 => zs_ite (fun _ => bad t) (fun _ => ?_))))
    exact zs_okw (zk_n44 hp) (fun a ha => ⟨ha.2.1, ha.2.2.1, fun z => ⟨ha.2.2.2.symm.trans z, by rw [ha.1]; exact zs_I_ltn c1, by rw [ha.1]; exact zs_I_ltn c2⟩⟩)
  · exact zs_bd_ (zk_blame (by decide)) (fun t ht => zs_some ⟨ht.1, zk_posf hp ht.1.2.1 ht.2.2.1 ht.2.2.2, fun z => absurd z ht.2.1⟩)
theorem zk_word {σ : sn_S} (hp : zk_pos σ) {k : Nat} (hk : k < 16) : zs_ok (fX5_word σ k) (fun z => zk_fr σ z ∧ zk_pos z ∧ (z.1 17 2 = 0 → σ.1 17 2 = 0)) := by
  unfold fX5_word
  refine zs_bd_ (zk_isWord hp hk) (fun t _ => zs_ite (fun _ => ?_) (fun _ => ?_))
  · exact zs_bd_ (zk_blame (by decide)) (fun t ht => zs_some ⟨ht.1, zk_posf hp ht.1.2.1 ht.2.2.1 ht.2.2.2, fun z => absurd z ht.2.1⟩)
  · exact zs_bd_ (zk_stepp hp) (fun t ht => zs_some ⟨ht.1, ht.2.2, fun z => ht.2.1.symm.trans z⟩)
theorem zk_sign {σ : sn_S} (hp : zk_pos σ) : zs_ok (fX5_sign σ) (fun z => zk_fr σ z ∧ zk_pos z ∧ (z.1 17 2 = 0 → σ.1 17 2 = 0)) := by
  unfold fX5_sign
  refine zs_ite (fun _ => ?_) (fun _ => ?_)
  · exact zs_bd_ (zk_stepp hp) (fun t ht => zs_some ⟨ht.1, ht.2.2, fun z => ht.2.1.symm.trans z⟩)
  · exact zs_bd_ (zk_blame (by decide)) (fun t ht => zs_some ⟨ht.1, zk_posf hp ht.1.2.1 ht.2.2.1 ht.2.2.2, fun z => absurd z ht.2.1⟩)
/-! what stays at every step of reading -/
def zk_D (z : sn_S) : Prop := (∀ k, k < 11 → (zs_cnt k).1 ≤ (z.1 9 k).toInt ∧ (z.1 9 k).toInt ≤ (zs_cnt k).2) ∧ zs_H 8 z
def zk_k (q k : Nat) : Bool := bif Nat.beq q 17 then (Nat.beq k 1) else (zs_kC q k)
def zk_I (σ0 z : sn_S) : Prop := zs_G zs_tC zk_k zs_lC σ0 z ∧ zk_pos z ∧ sn_R z 17 7 = some 8 ∧ (z.1 17 2 = 0 → zk_D z)
theorem zk_kX17 {q k : Nat} (h : zs_kX q k = true) : q ≠ 17 := fun e => by
  subst e
  cases h
theorem zk_If {σ0 z w : sn_S} (h : zk_I σ0 z) (hf : zk_fr z w) (hp : zk_pos w) (hc : w.1 17 2 = 0 → z.1 17 2 = 0) : zk_I σ0 w := by
  have o : ∀ q k, q ≠ 17 → w.1 q k = z.1 q k := fun q k hq => by rw [hf.1 q hq]
  refine ⟨⟨⟨fun q k => ?_, fun hC => zs_RC_c (fun q k hk => o q k (zk_kX17 hk)) (h.1.1.2 hC)⟩, fun q k hk => ?_, fun q hq => ?_⟩, hp, ?_, fun hz => ?_⟩
  · by_cases e : q = 17
    · subst e
      by_cases e1 : k = 1
      · subst e1
        rw [hf.2.1]
        exact h.1.1.1 17 1
      · have : zs_tC 17 k = (-2147483648, 2147483647) := by
          have e2 : Nat.beq k 1 = false := by
            cases e3 : Nat.beq k 1 with
            | false => rfl
            | true => exact absurd (Nat.eq_of_beq_eq_true e3) e1
          show (bif Nat.beq k 1 then (0, 900) else ((-2147483648 : Int), (2147483647 : Int))) = _
          rw [e2]
          rfl
        rw [this]
        exact zs_topI _
    · rw [o q k e]
      exact h.1.1.1 q k
  · by_cases e : q = 17
    · subst e
      have e1 : k = 1 := Nat.eq_of_beq_eq_true hk
      subst e1
      rw [hf.2.1]
      exact h.1.2.1 17 1 rfl
    · rw [o q k e]
      exact h.1.2.1 q k hk
  · rw [show w.2.1 = z.2.1 from by rw [hf.2.2]]
    exact h.1.2.2 q hq
  · show w.2.2 17 7 = _
    rw [hf.2.2]
    exact h.2.2.1
  · have d := h.2.2.2 (hc hz)
    exact ⟨fun k hk => by rw [o 9 k (by decide)]; exact d.1 k hk, zs_H_c (o _ _ (by decide)) (o _ _ (by decide)) (o _ _ (by decide)) (fun k => o _ _ (by decide)) (fun k => o _ _ (by decide)) (fun j => o _ _ (by decide)) d.2⟩
theorem zk_Iw {σ0 z : sn_S} {q k : Nat} {v : Int32} (h : zk_I σ0 z) (hq : q = 9 ∨ q = 10 ∨ q = 11 ∨ q = 12 ∨ q = 13) (ht : (zs_tC q k).1 ≤ v.toInt ∧ v.toInt ≤ (zs_tC q k).2) (hD : z.1 17 2 = 0 → zk_D z → zk_D (sn_pI z q k v)) : zk_I σ0 (sn_pI z q k v) := by
  have q17 : q ≠ 17 := by omega
  have e : ∀ j, (sn_pI z q k v).1 17 j = z.1 17 j := fun j => by rw [pI_ne (fun e => q17 e.symm)]
  refine ⟨zs_wr h.1 ht ?_, ?_, h.2.2.1, fun hz => ?_⟩
  · rcases hq with e | e | e | e | e <;> subst e <;> rfl
  · exact zk_posf h.2.1 (e 1) (e 4) (e 5)
  · rw [e 2] at hz
    exact hD hz (h.2.2.2 hz)
def zk_Q (σ0 : sn_S) (ck n : Nat) (X : sn_S → Prop) (z : sn_S) : Prop := zk_I σ0 z ∧ z.1 9 ck = nI n ∧ (z.1 17 2 = 0 → X z)
section
variable {σ0 σ : sn_S} {ck n : Nat} {X : sn_S → Prop}
theorem zk_Qf {z w : sn_S} (hX : ∀ a b, zk_fr a b → X a → X b) (h : zk_Q σ0 ck n X z) (hf : zk_fr z w) (hp : zk_pos w) (hc : w.1 17 2 = 0 → z.1 17 2 = 0) : zk_Q σ0 ck n X w := ⟨zk_If h.1 hf hp hc, by rw [hf.1 9 (by decide)]; exact h.2.1, fun hz => hX _ _ hf (h.2.2 (hc hz))⟩
theorem zk_Qword (hX : ∀ a b, zk_fr a b → X a → X b) (h : zk_Q σ0 ck n X σ) {k : Nat} (hk : k < 16) : zs_ok (fX5_word σ k) (zk_Q σ0 ck n X) := zs_okw (zk_word h.1.2.1 hk) (fun a ha => zk_Qf hX h ha.1 ha.2.1 ha.2.2)
theorem zk_Qsign (hX : ∀ a b, zk_fr a b → X a → X b) (h : zk_Q σ0 ck n X σ) : zs_ok (fX5_sign σ) (zk_Q σ0 ck n X) := zs_okw (zk_sign h.1.2.1) (fun a ha => zk_Qf hX h ha.1 ha.2.1 ha.2.2)
theorem zk_Qnum (hX : ∀ a b, zk_fr a b → X a → X b) (h : zk_Q σ0 ck n X σ) {lo hi but : Int32} : zs_ok (fX5_number σ lo hi but) (fun r => zk_Q σ0 ck n X r.2 ∧ (r.2.1 17 2 = 0 → lo.toInt ≤ r.1.toInt ∧ r.1.toInt ≤ hi.toInt)) := zs_okw (zk_number h.1.2.1) (fun a ha => ⟨zk_Qf hX h ha.1 ha.2.1 (fun z => (ha.2.2 z).1), fun z => (ha.2.2 z).2⟩)
theorem zk_R (h : zk_Q σ0 ck n X σ) : (sn_R σ 17 7 == some 8) = true := by
  rw [h.1.2.2.1]
  rfl
theorem zk_TX : ∀ a b : sn_S, zk_fr a b → True → True := fun _ _ _ _ => trivial
end
theorem zk_If0 {σ0 z w : sn_S} (hG : zs_G zs_tC zk_k zs_lC σ0 z) (hR : sn_R z 17 7 = some 8) (hD : z.1 17 2 = 0 → zk_D z) (hf : zk_fr z w) (hp : zk_pos w) (hc : w.1 17 2 = 0 → z.1 17 2 = 0) : zk_I σ0 w := by
  have o : ∀ q k, q ≠ 17 → w.1 q k = z.1 q k := fun q k hq => by rw [hf.1 q hq]
  refine ⟨⟨⟨fun q k => ?_, fun hC => zs_RC_c (fun q k hk => o q k (zk_kX17 hk)) (hG.1.2 hC)⟩, fun q k hk => ?_, fun q hq => ?_⟩, hp, ?_, fun hz => ?_⟩
  · by_cases e : q = 17
    · subst e
      by_cases e1 : k = 1
      · subst e1
        rw [hf.2.1]
        exact hG.1.1 17 1
      · have : zs_tC 17 k = (-2147483648, 2147483647) := by
          have e2 : Nat.beq k 1 = false := by
            cases e3 : Nat.beq k 1 with
            | false => rfl
            | true => exact absurd (Nat.eq_of_beq_eq_true e3) e1
          show (bif Nat.beq k 1 then (0, 900) else ((-2147483648 : Int), (2147483647 : Int))) = _
          rw [e2]
          rfl
        rw [this]
        exact zs_topI _
    · rw [o q k e]
      exact hG.1.1 q k
  · by_cases e : q = 17
    · subst e
      have e1 : k = 1 := Nat.eq_of_beq_eq_true hk
      subst e1
      rw [hf.2.1]
      exact hG.2.1 17 1 rfl
    · rw [o q k e]
      exact hG.2.1 q k hk
  · rw [show w.2.1 = z.2.1 from by rw [hf.2.2]]
    exact hG.2.2 q hq
  · show w.2.2 17 7 = _
    rw [hf.2.2]
    exact hR
  · have d := hD (hc hz)
    exact ⟨fun k hk => by rw [o 9 k (by decide)]; exact d.1 k hk, zs_H_c (o _ _ (by decide)) (o _ _ (by decide)) (o _ _ (by decide)) (fun k => o _ _ (by decide)) (fun k => o _ _ (by decide)) (fun j => o _ _ (by decide)) d.2⟩
/-! the first row -/
section
variable {σ0 σ z : sn_S}
theorem zk_IR (h : zk_I σ0 σ) : (sn_R σ 17 7 == some 8) = true := by
  rw [h.2.2.1]
  rfl
theorem zk_Iword (h : zk_I σ0 σ) {k : Nat} (hk : k < 16) : zs_ok (fX5_word σ k) (fun z => zk_I σ0 z) := zs_okw (zk_word h.2.1 hk) (fun a ha => zk_If h ha.1 ha.2.1 ha.2.2)
theorem zk_Isign (h : zk_I σ0 σ) : zs_ok (fX5_sign σ) (fun z => zk_I σ0 z) := zs_okw (zk_sign h.2.1) (fun a ha => zk_If h ha.1 ha.2.1 ha.2.2)
theorem zk_Iblame (h : zk_I σ0 σ) {x : Int32} (hx : x ≠ 0) : zs_ok (fX5_blame σ x) (fun z => zk_I σ0 z) := zs_okw (zk_blame hx) (fun a ha => zk_If h ha.1 (zk_posf h.2.1 ha.1.2.1 ha.2.2.1 ha.2.2.2) (fun z => absurd z ha.2.1))
theorem zk_Inum (h : zk_I σ0 σ) {lo hi but : Int32} : zs_ok (fX5_number σ lo hi but) (fun r => zk_I σ0 r.2 ∧ (r.2.1 17 2 = 0 → lo.toInt ≤ r.1.toInt ∧ r.1.toInt ≤ hi.toInt)) := zs_okw (zk_number h.2.1) (fun a ha => ⟨zk_If h ha.1 ha.2.1 (fun z => (ha.2.2 z).1), fun z => (ha.2.2 z).2⟩)
theorem zk_bw {lo hi : Int32} {v a b : Int} (h : lo.toInt ≤ v ∧ v ≤ hi.toInt) (hl : a ≤ lo.toInt ∧ hi.toInt ≤ b) : a ≤ v ∧ v ≤ b := ⟨by omega, by omega⟩
theorem zk_D9 {i : Nat} {v : Int32} (hi : i ≠ 6 ∧ i ≠ 7 ∧ i ≠ 8) (hv : (zs_cnt i).1 ≤ v.toInt ∧ v.toInt ≤ (zs_cnt i).2) (d : zk_D z) : zk_D (sn_pI z 9 i v) := by
  refine ⟨fun k hk => ?_, zs_H_c (pI_slot (fun e => hi.1 e.symm)) (pI_slot (fun e => hi.2.1 e.symm)) (pI_slot (fun e => hi.2.2 e.symm)) (fun k => by rw [pI_ne (by decide)]) (fun k => by rw [pI_ne (by decide)]) (fun k => by rw [pI_ne (by decide)]) d.2⟩
  by_cases e : k = i
  · subst e
    rw [pI_self]
    exact hv
  · rw [pI_slot e]
    exact d.1 k hk
theorem zk_I9 {i : Nat} {v : Int32} (h : zk_I σ0 z) (ht : zs_tC 9 i = (-2147483648, 2147483647)) (hi : i ≠ 6 ∧ i ≠ 7 ∧ i ≠ 8) (hv : z.1 17 2 = 0 → (zs_cnt i).1 ≤ v.toInt ∧ v.toInt ≤ (zs_cnt i).2) : zk_I σ0 (sn_pI z 9 i v) := zk_Iw h (Or.inl rfl) (by rw [ht]; exact zs_topI v) (fun hz d => zk_D9 hi (hv hz) d)
theorem zk_readHouse (h : zk_I σ0 σ) : zs_ok (fX5_readHouse σ) (fun z => zk_I σ0 z) := by
  unfold fX5_readHouse
  refine zs_bd_ (zk_Iword h (by decide)) (fun t1 h1 => ?_)
  refine zs_bd_ (zk_Iword h1 (by decide)) (fun t2 h2 => ?_)
  refine zs_gd (zk_IR h2) (zs_bd_ (zk_Inum h2) (fun r3 h3 => zs_gd (by decide) ?_))
  refine zs_lt (Q := fun z => zk_I σ0 z) (zk_I9 h3.1 rfl (by decide) (fun z => zk_bw (h3.2 z) (by decide))) (fun s3 g3 => ?_)
  refine zs_bd_ (zk_Iword g3 (by decide)) (fun t4 h4 => ?_)
  refine zs_gd (zk_IR h4) (zs_bd_ (zk_Inum h4) (fun r5 h5 => zs_gd (by decide) ?_))
  refine zs_lt (Q := fun z => zk_I σ0 z) (zk_I9 h5.1 rfl (by decide) (fun z => zk_bw (h5.2 z) (by decide))) (fun s5 g5 => ?_)
  refine zs_bd_ (zk_Iword g5 (by decide)) (fun t6 h6 => ?_)
  refine zs_gd (zk_IR h6) (zs_bd_ (zk_Inum h6) (fun r7 h7 => zs_gd (by decide) ?_))
  refine zs_lt (Q := fun z => zk_I σ0 z) (zk_I9 h7.1 rfl (by decide) (fun z => zk_bw (h7.2 z) (by decide))) (fun s7 g7 => ?_)
  refine zs_bd_ (zk_Iword g7 (by decide)) (fun t8 h8 => ?_)
  refine zs_gd (zk_IR h8) (zs_bd_ (zk_Inum h8) (fun r9 h9 => zs_gd (by decide) ?_))
  refine zs_lt (Q := fun z => zk_I σ0 z) (zk_I9 h9.1 rfl (by decide) (fun z => zk_bw (h9.2 z) (by decide))) (fun s9 g9 => ?_)
  refine zs_bd_ (zk_Iword g9 (by decide)) (fun t10 h10 => ?_)
  refine zs_gd (zk_IR h10) (zs_bd_ (zk_Inum h10) (fun r11 h11 => zs_gd (by decide) ?_))
  refine zs_lt (Q := fun z => zk_I σ0 z) (zk_I9 h11.1 rfl (by decide) (fun z => zk_bw (h11.2 z) (by decide))) (fun s11 g11 => ?_)
  exact zs_bd_ (zk_Isign g11) (fun t12 h12 => zs_some h12)
/-! the rows behind it -/
theorem zk_Qw {ck n q k : Nat} {v : Int32} {X X' : sn_S → Prop} (h : zk_Q σ0 ck n X z) (hq : q = 10 ∨ q = 11 ∨ q = 12 ∨ q = 13) (hD : zk_D z → zk_D (sn_pI z q k v)) (hX : z.1 17 2 = 0 → X z → X' (sn_pI z q k v)) : zk_Q σ0 ck n X' (sn_pI z q k v) := by
  refine ⟨zk_Iw h.1 (Or.inr hq) ?_ (fun _ d => hD d), ?_, fun hz => ?_⟩
  · have : zs_tC q k = (-2147483648, 2147483647) := by rcases hq with e | e | e | e <;> subst e <;> rfl
    rw [this]
    exact zs_topI v
  · rw [pI_ne (show 9 ≠ q by omega)]
    exact h.2.1
  · rw [pI_ne (show 17 ≠ q by omega)] at hz
    exact hX hz (h.2.2 hz)
theorem zk_D10 {i : Nat} {v : Int32} (d : zk_D z) : zk_D (sn_pI z 10 i v) :=
  ⟨fun k hk => by rw [pI_ne (by decide)]; exact d.1 k hk, zs_H_c (by rw [pI_ne (by decide)]) (by rw [pI_ne (by decide)]) (by rw [pI_ne (by decide)]) (fun k => by rw [pI_ne (by decide)]) (fun k => by rw [pI_ne (by decide)]) (fun k => by rw [pI_ne (by decide)]) d.2⟩
theorem zk_ltn {n j : Nat} {x : Int32} (hx : x = nI n) (hn : n < 100) (h : (j : Int) < x.toInt) : j < n := by
  rw [hx, nI_toInt (by omega)] at h
  omega
theorem zk_D11 {n i : Nat} {v : Int32} (hn : n < 100) (hc : z.1 9 6 = nI n) (hi : ∀ j, j < n → i ≠ 2 * j + 1) (d : zk_D z) : zk_D (sn_pI z 11 i v) := by
  refine ⟨fun k hk => by rw [pI_ne (by decide)]; exact d.1 k hk, fun j hj hl => ?_, zs_Ru_c (by rw [pI_ne (by decide)]) (fun j _ => by rw [pI_ne (by decide)]) d.2.2.1, zs_Ru_c (by rw [pI_ne (by decide)]) (fun j _ => by rw [pI_ne (by decide)]) d.2.2.2.1, zs_Ru_c (by rw [pI_ne (by decide)]) (fun j _ => by rw [pI_ne (by decide)]) d.2.2.2.2⟩
  rw [pI_ne (by decide)] at hl
  have h1 := zk_ltn hc hn hl
  have e : (sn_pI z 11 i v).1 (8 + 3) (2 * j + 1) = z.1 11 (2 * j + 1) := pI_slot (fun e => hi j h1 e.symm)
  rw [e]
  exact d.2.1 j hj hl
theorem zk_D12 {n i : Nat} {v : Int32} (hn : n < 100) (hc : z.1 9 7 = nI n) (hi : ∀ j, j < n → i ≠ 2 * j + 0 ∧ i ≠ 2 * j + 1) (d : zk_D z) : zk_D (sn_pI z 12 i v) := by
  refine ⟨fun k hk => by rw [pI_ne (by decide)]; exact d.1 k hk, zs_Ru_c (by rw [pI_ne (by decide)]) (fun j _ => by rw [pI_ne (by decide)]) d.2.1, fun j hj hl => ?_, fun j hj hl => ?_, zs_Ru_c (by rw [pI_ne (by decide)]) (fun j _ => by rw [pI_ne (by decide)]) d.2.2.2.2⟩
  · rw [pI_ne (by decide)] at hl
    have h1 := zk_ltn hc hn hl
    have e : (sn_pI z 12 i v).1 (8 + 4) (2 * j + 0) = z.1 12 (2 * j + 0) := pI_slot (fun e => (hi j h1).1 e.symm)
    rw [e]
    exact d.2.2.1 j hj hl
  · rw [pI_ne (by decide)] at hl
    have h1 := zk_ltn hc hn hl
    have e : (sn_pI z 12 i v).1 (8 + 4) (2 * j + 1) = z.1 12 (2 * j + 1) := pI_slot (fun e => (hi j h1).2 e.symm)
    rw [e]
    exact d.2.2.2.1 j hj hl
theorem zk_D13 {n i : Nat} {v : Int32} (hn : n < 100) (hc : z.1 9 8 = nI n) (hi : ∀ j, j < n → i ≠ 5 * j + 0) (d : zk_D z) : zk_D (sn_pI z 13 i v) := by
  refine ⟨fun k hk => by rw [pI_ne (by decide)]; exact d.1 k hk, zs_Ru_c (by rw [pI_ne (by decide)]) (fun j _ => by rw [pI_ne (by decide)]) d.2.1, zs_Ru_c (by rw [pI_ne (by decide)]) (fun j _ => by rw [pI_ne (by decide)]) d.2.2.1, zs_Ru_c (by rw [pI_ne (by decide)]) (fun j _ => by rw [pI_ne (by decide)]) d.2.2.2.1, fun j hj hl => ?_⟩
  rw [pI_ne (by decide)] at hl
  have h1 := zk_ltn hc hn hl
  have e : (sn_pI z 13 i v).1 (8 + 5) (5 * j + 0) = z.1 13 (5 * j + 0) := pI_slot (fun e => hi j h1 e.symm)
  rw [e]
  exact d.2.2.2.2 j hj hl
theorem zk_2n (n : Nat) : (2 : Int32) * nI n = nI (2 * n) := nI_mul 2 n
theorem zk_5n (n : Nat) : (5 : Int32) * nI n = nI (5 * n) := nI_mul 5 n
theorem zk_readNose {n : Nat} (h : zk_I σ0 σ) (hn : σ.1 9 5 = nI n) (hb : n ≤ 6) : zs_ok (fX5_readNose σ (nI n)) (fun z => zk_I σ0 z) := by
  unfold fX5_readNose
  refine zs_ite (fun c => ?_) (fun _ => zs_bd_ (zk_Iblame h (by decide)) (fun t ht => zs_some ht))
  have c1 := zs_I_lt c
  rw [nI_toInt (by omega), show (6 : Int32).toInt = 6 by decide] at c1
  have hQ : zk_Q σ0 5 n (fun _ => True) σ := ⟨h, hn, fun _ => trivial⟩
  have e1 := zk_2n n
  have e2 : nI (2 * n) + (1 : Int32) = nI (2 * n + 1) := nI_1 _
  have e3 : nI n + (1 : Int32) = nI (n + 1) := nI_1 _
  rw [e1, e2, e3]
  refine zs_bd_ (zk_Qword zk_TX hQ (by decide)) (fun t1 h1 => ?_)
  refine zs_gd (zk_R h1) (zs_bd_ (zk_Qnum zk_TX h1) (fun r2 h2 => zs_gd (sn_in_nI (by omega) (by decide)) ?_))
  refine zs_lt (Q := zk_Q σ0 5 n (fun _ => True)) (zk_Qw h2.1 (Or.inl rfl) zk_D10 (fun _ _ => trivial)) (fun s3 h3 => ?_)
  refine zs_bd_ (zk_Qword zk_TX h3 (by decide)) (fun t4 h4 => ?_)
  refine zs_gd (zk_R h4) (zs_bd_ (zk_Qnum zk_TX h4) (fun r5 h5 => zs_gd (sn_in_nI (by omega) (by decide)) ?_))
  refine zs_lt (Q := zk_Q σ0 5 n (fun _ => True)) (zk_Qw h5.1 (Or.inl rfl) zk_D10 (fun _ _ => trivial)) (fun s6 h6 => ?_)
  refine zs_bd_ (zk_Qsign zk_TX h6) (fun t7 h7 => zs_gd (zk_R h7) (zs_gd (by decide) ?_))
  refine zs_lt (Q := fun z => zk_I σ0 z) (zk_Iw h7.1 (Or.inl rfl) ?_ (fun hz d => zk_D9 (by decide) ?_ d)) (fun s8 h8 => zs_some h8)
  · rw [nI_toInt (by omega), show zs_tC 9 (5 : Int32).toNatClampNeg = (0, 6) from rfl]
    exact ⟨by omega, by omega⟩
  · rw [nI_toInt (by omega), show zs_cnt (5 : Int32).toNatClampNeg = (0, 6) from rfl]
    exact ⟨by omega, by omega⟩
theorem zk_readGust {n : Nat} (h : zk_I σ0 σ) (hn : σ.1 9 6 = nI n) (hb : n ≤ 5) : zs_ok (fX5_readGust σ (nI n)) (fun z => zk_I σ0 z) := by
  unfold fX5_readGust
  refine zs_ite (fun c => ?_) (fun _ => zs_bd_ (zk_Iblame h (by decide)) (fun t ht => zs_some ht))
  have c1 := zs_I_lt c
  rw [nI_toInt (by omega), show (5 : Int32).toInt = 5 by decide] at c1
  have hQ : zk_Q σ0 6 n (fun _ => True) σ := ⟨h, hn, fun _ => trivial⟩
  have hX : ∀ a b : sn_S, zk_fr a b → (0 ≤ (a.1 11 (2 * n + 1)).toInt ∧ (a.1 11 (2 * n + 1)).toInt ≤ 29) → (0 ≤ (b.1 11 (2 * n + 1)).toInt ∧ (b.1 11 (2 * n + 1)).toInt ≤ 29) := fun a b hf hx => by
    rw [hf.1 11 (by decide)]
    exact hx
  have e1 := zk_2n n
  have e2 : nI (2 * n) + (1 : Int32) = nI (2 * n + 1) := nI_1 _
  have e3 : nI n + (1 : Int32) = nI (n + 1) := nI_1 _
  rw [e1, e2, e3]
  refine zs_bd_ (zk_Qword zk_TX hQ (by decide)) (fun t1 h1 => ?_)
  refine zs_gd (zk_R h1) (zs_bd_ (zk_Qnum zk_TX h1) (fun r2 h2 => zs_gd (sn_in_nI (by omega) (by decide)) ?_))
  rw [nI_clamp (show 2 * n < 2 ^ 31 by omega), nI_clamp (show 2 * n + 1 < 2 ^ 31 by omega)]
  refine zs_lt (Q := zk_Q σ0 6 n (fun _ => True)) (zk_Qw h2.1 (Or.inr (Or.inl rfl)) (zk_D11 (by omega) h2.1.2.1 (fun j hj => by omega)) (fun _ _ => trivial)) (fun s3 h3 => ?_)
  refine zs_bd_ (zk_Qword zk_TX h3 (by decide)) (fun t4 h4 => ?_)
  refine zs_gd (zk_R h4) (zs_bd_ (zk_Qnum zk_TX h4) (fun r5 h5 => zs_gd (sn_in_nI (by omega) (by decide)) ?_))
  refine zs_lt (Q := zk_Q σ0 6 n (fun z => 0 ≤ (z.1 11 (2 * n + 1)).toInt ∧ (z.1 11 (2 * n + 1)).toInt ≤ 29)) (zk_Qw h5.1 (Or.inr (Or.inl rfl)) (zk_D11 (by omega) h5.1.2.1 (fun j hj => by omega)) (fun hz _ => by rw [pI_self]; exact zk_bw (h5.2 hz) (by decide))) (fun s6 h6 => ?_)
  refine zs_bd_ (zk_Qsign hX h6) (fun t7 h7 => zs_gd (zk_R h7) (zs_gd (by decide) ?_))
  refine zs_lt (Q := fun z => zk_I σ0 z) (zk_Iw h7.1 (Or.inl rfl) ?_ (fun hz d => ?_)) (fun s8 h8 => zs_some h8)
  · rw [nI_toInt (by omega), show zs_tC 9 (6 : Int32).toNatClampNeg = (0, 5) from rfl]
    exact ⟨by omega, by omega⟩
  · show zk_D (sn_pI t7 9 6 (nI (n + 1)))
    refine ⟨fun k hk => ?_, fun j hj hl => ?_, zs_Ru_c (pI_slot (by decide)) (fun j _ => by rw [pI_ne (by decide)]) d.2.2.1, zs_Ru_c (pI_slot (by decide)) (fun j _ => by rw [pI_ne (by decide)]) d.2.2.2.1, zs_Ru_c (pI_slot (by decide)) (fun j _ => by rw [pI_ne (by decide)]) d.2.2.2.2⟩
    · by_cases e : k = 6
      · subst e
        rw [pI_self, nI_toInt (by omega), show zs_cnt 6 = (0, 5) from rfl]
        exact ⟨by omega, by omega⟩
      · rw [pI_slot e]
        exact d.1 k hk
    · have h1 := zk_ltn (n := n + 1) pI_self (by omega) hl
      rw [pI_ne (by decide)]
      by_cases e : j = n
      · subst e
        exact h7.2.2 hz
      · exact d.2.1 j hj (by rw [show t7.1 (8 + 1) 6 = nI n from h7.2.1, nI_toInt (by omega)]; omega)
theorem zk_hi5 {t : sn_S} (h : zk_I σ0 t) : ((sn_I t (8 + 1) (5 : Int32).toNatClampNeg) - (1 : Int32)).toInt ≤ 5 := by
  have hb : zs_in (sn_I t (8 + 1) (5 : Int32).toNatClampNeg).toInt 0 6 := zs_rdk (q := 9) (k := (5 : Int32).toNatClampNeg) (z := (0, 6)) h.1.1 rfl
  have := zs_subI (-1) 5 hb (show zs_in (1 : Int32).toInt 1 1 by decide) (by decide)
  exact this.2
theorem zk_bw5 {lo hi : Int32} {v : Int} (h : lo.toInt ≤ v ∧ v ≤ hi.toInt) (hl : 0 ≤ lo.toInt) (h5 : hi.toInt ≤ 5) : 0 ≤ v ∧ v ≤ 5 := ⟨by omega, by omega⟩
theorem zk_readNet {n : Nat} (h : zk_I σ0 σ) (hn : σ.1 9 7 = nI n) (hb : n ≤ 8) : zs_ok (fX5_readNet σ (nI n)) (fun z => zk_I σ0 z) := by
  unfold fX5_readNet
  refine zs_ite (fun c => ?_) (fun _ => zs_bd_ (zk_Iblame h (by decide)) (fun t ht => zs_some ht))
  have c1 := zs_I_lt c
  rw [nI_toInt (by omega), show (8 : Int32).toInt = 8 by decide] at c1
  have hQ : zk_Q σ0 7 n (fun _ => True) σ := ⟨h, hn, fun _ => trivial⟩
  have e1 := zk_2n n
  have e2 : nI (2 * n) + (1 : Int32) = nI (2 * n + 1) := nI_1 _
  have e3 : nI n + (1 : Int32) = nI (n + 1) := nI_1 _
  have hX1 : ∀ a b : sn_S, zk_fr a b → (0 ≤ (a.1 12 (2 * n)).toInt ∧ (a.1 12 (2 * n)).toInt ≤ 5) → (0 ≤ (b.1 12 (2 * n)).toInt ∧ (b.1 12 (2 * n)).toInt ≤ 5) := fun a b hf hx => by
    rw [hf.1 12 (by decide)]
    exact hx
  have hX2 : ∀ a b : sn_S, zk_fr a b → ((0 ≤ (a.1 12 (2 * n)).toInt ∧ (a.1 12 (2 * n)).toInt ≤ 5) ∧ (0 ≤ (a.1 12 (2 * n + 1)).toInt ∧ (a.1 12 (2 * n + 1)).toInt ≤ 5)) → ((0 ≤ (b.1 12 (2 * n)).toInt ∧ (b.1 12 (2 * n)).toInt ≤ 5) ∧ (0 ≤ (b.1 12 (2 * n + 1)).toInt ∧ (b.1 12 (2 * n + 1)).toInt ≤ 5)) := fun a b hf hx => by
    rw [hf.1 12 (by decide)]
    exact hx
  rw [e1, e2, e3]
  refine zs_bd_ (zk_Qword zk_TX hQ (by decide)) (fun t1 h1 => ?_)
  refine zs_gd (zk_R h1) (zs_gd (by decide) (zs_bd_ (zk_Qnum zk_TX h1) (fun r2 h2 => zs_gd (zk_R h2.1) (zs_gd (sn_in_nI (by omega) (by decide)) ?_))))
  rw [nI_clamp (show 2 * n < 2 ^ 31 by omega), nI_clamp (show 2 * n + 1 < 2 ^ 31 by omega)]
  refine zs_lt (Q := zk_Q σ0 7 n (fun z => 0 ≤ (z.1 12 (2 * n)).toInt ∧ (z.1 12 (2 * n)).toInt ≤ 5)) (zk_Qw h2.1 (Or.inr (Or.inr (Or.inl rfl))) (zk_D12 (by omega) h2.1.2.1 (fun j hj => ⟨by omega, by omega⟩)) (fun hz _ => by rw [pI_self]; exact zk_bw5 (h2.2 hz) (by decide) (zk_hi5 h1.1))) (fun s3 h3 => ?_)
  refine zs_gd (zk_R h3) (zs_gd (zk_R h3) (zs_gd (by decide) (zs_bd_ (zk_Qnum hX1 h3) (fun r5 h5 => zs_gd (sn_in_nI (by omega) (by decide)) ?_))))
  refine zs_lt (Q := zk_Q σ0 7 n (fun z => (0 ≤ (z.1 12 (2 * n)).toInt ∧ (z.1 12 (2 * n)).toInt ≤ 5) ∧ (0 ≤ (z.1 12 (2 * n + 1)).toInt ∧ (z.1 12 (2 * n + 1)).toInt ≤ 5))) (zk_Qw h5.1 (Or.inr (Or.inr (Or.inl rfl))) (zk_D12 (by omega) h5.1.2.1 (fun j hj => ⟨by omega, by omega⟩)) (fun hz hx => ⟨by rw [pI_slot (by omega)]; exact hx, by rw [pI_self]; exact zk_bw5 (h5.2 hz) (by decide) (zk_hi5 h3.1)⟩)) (fun s6 h6 => ?_)
  refine zs_bd_ (zk_Qsign hX2 h6) (fun t7 h7 => zs_gd (zk_R h7) (zs_gd (by decide) ?_))
  refine zs_lt (Q := fun z => zk_I σ0 z) (zk_Iw h7.1 (Or.inl rfl) ?_ (fun hz d => ?_)) (fun s8 h8 => zs_some h8)
  · rw [nI_toInt (by omega), show zs_tC 9 (7 : Int32).toNatClampNeg = (0, 8) from rfl]
    exact ⟨by omega, by omega⟩
  · show zk_D (sn_pI t7 9 7 (nI (n + 1)))
    refine ⟨fun k hk => ?_, zs_Ru_c (pI_slot (by decide)) (fun j _ => by rw [pI_ne (by decide)]) d.2.1, fun j hj hl => ?_, fun j hj hl => ?_, zs_Ru_c (pI_slot (by decide)) (fun j _ => by rw [pI_ne (by decide)]) d.2.2.2.2⟩
    · by_cases e : k = 7
      · subst e
        rw [pI_self, nI_toInt (by omega), show zs_cnt 7 = (0, 8) from rfl]
        exact ⟨by omega, by omega⟩
      · rw [pI_slot e]
        exact d.1 k hk
    · have h1 := zk_ltn (n := n + 1) pI_self (by omega) hl
      rw [pI_ne (by decide)]
      by_cases e : j = n
      · subst e
        exact (h7.2.2 hz).1
      · exact d.2.2.1 j hj (by rw [show t7.1 (8 + 1) 7 = nI n from h7.2.1, nI_toInt (by omega)]; omega)
    · have h1 := zk_ltn (n := n + 1) pI_self (by omega) hl
      rw [pI_ne (by decide)]
      by_cases e : j = n
      · subst e
        exact (h7.2.2 hz).2
      · exact d.2.2.2.1 j hj (by rw [show t7.1 (8 + 1) 7 = nI n from h7.2.1, nI_toInt (by omega)]; omega)
theorem zk_readPolicy {n : Nat} (h : zk_I σ0 σ) (hn : σ.1 9 8 = nI n) (hb : n ≤ 6) : zs_ok (fX5_readPolicy σ (nI n)) (fun z => zk_I σ0 z) := by
  unfold fX5_readPolicy
  refine zs_ite (fun c => ?_) (fun _ => zs_bd_ (zk_Iblame h (by decide)) (fun t ht => zs_some ht))
  have c1 := zs_I_lt c
  rw [nI_toInt (by omega), show (6 : Int32).toInt = 6 by decide] at c1
  have hQ : zk_Q σ0 8 n (fun _ => True) σ := ⟨h, hn, fun _ => trivial⟩
  have hX : ∀ a b : sn_S, zk_fr a b → (0 ≤ (a.1 13 (5 * n + 0)).toInt ∧ (a.1 13 (5 * n + 0)).toInt ≤ 5) → (0 ≤ (b.1 13 (5 * n + 0)).toInt ∧ (b.1 13 (5 * n + 0)).toInt ≤ 5) := fun a b hf hx => by
    rw [hf.1 13 (by decide)]
    exact hx
  refine zs_lt (Q := fun y => y = nI (5 * n)) (zk_5n n) (fun y hy => ?_)
  subst hy
  rw [show nI (5 * n) + (0 : Int32) = nI (5 * n + 0) from nI_add _ 0, show nI (5 * n) + (1 : Int32) = nI (5 * n + 1) from nI_add _ 1, show nI (5 * n) + (2 : Int32) = nI (5 * n + 2) from nI_add _ 2, show nI (5 * n) + (3 : Int32) = nI (5 * n + 3) from nI_add _ 3, show nI (5 * n) + (4 : Int32) = nI (5 * n + 4) from nI_add _ 4, show nI n + (1 : Int32) = nI (n + 1) from nI_1 _]
  have wr : ∀ (i : Nat) (z : sn_S) (v : Int32), 1 ≤ i → i ≤ 4 → zk_Q σ0 8 n (fun z => 0 ≤ (z.1 13 (5 * n + 0)).toInt ∧ (z.1 13 (5 * n + 0)).toInt ≤ 5) z → zk_Q σ0 8 n (fun z => 0 ≤ (z.1 13 (5 * n + 0)).toInt ∧ (z.1 13 (5 * n + 0)).toInt ≤ 5) (sn_pI z 13 (nI (5 * n + i)).toNatClampNeg v) := by
    intro i z v i1 i4 hz
    rw [nI_clamp (by omega)]
    exact zk_Qw hz (Or.inr (Or.inr (Or.inr rfl))) (zk_D13 (by omega) hz.2.1 (fun j hj => by omega)) (fun _ hx => by rw [pI_slot (by omega)]; exact hx)
  refine zs_bd_ (zk_Qword zk_TX hQ (by decide)) (fun t1 h1 => ?_)
  refine zs_gd (zk_R h1) (zs_gd (zk_R h1) (zs_gd (by decide) (zs_bd_ (zk_Qnum zk_TX h1) (fun r2 h2 => zs_gd (sn_in_nI (by omega) (by decide)) ?_))))
  refine zs_lt (Q := zk_Q σ0 8 n (fun z => 0 ≤ (z.1 13 (5 * n + 0)).toInt ∧ (z.1 13 (5 * n + 0)).toInt ≤ 5)) ?_ (fun s3 h3 => ?_)
  · rw [nI_clamp (show 5 * n + 0 < 2 ^ 31 by omega)]
    exact zk_Qw h2.1 (Or.inr (Or.inr (Or.inr rfl))) (zk_D13 (by omega) h2.1.2.1 (fun j hj => by omega)) (fun hz _ => by rw [pI_self]; exact zk_bw5 (h2.2 hz) (by decide) (zk_hi5 h1.1))
  refine zs_bd_ (zk_Qword hX h3 (by decide)) (fun t4 h4 => ?_)
  refine zs_bd_ (zk_Qnum hX h4) (fun r5 h5 => zs_gd (zk_R h5.1) (zs_gd (sn_in_nI (by omega) (by decide)) ?_))
  refine zs_lt (wr 1 _ _ (by decide) (by decide) h5.1) (fun s6 h6 => ?_)
  refine zs_bd_ (zk_Qword hX h6 (by decide)) (fun t7 h7 => ?_)
  refine zs_gd (zk_R h7) (zs_bd_ (zk_Qnum hX h7) (fun r8 h8 => zs_gd (sn_in_nI (by omega) (by decide)) ?_))
  refine zs_lt (wr 2 _ _ (by decide) (by decide) h8.1) (fun s9 h9 => ?_)
  refine zs_bd_ (zk_Qword hX h9 (by decide)) (fun t10 h10 => ?_)
  refine zs_gd (zk_R h10) (zs_bd_ (zk_Qnum hX h10) (fun r11 h11 => zs_gd (sn_in_nI (by omega) (by decide)) ?_))
  refine zs_lt (wr 3 _ _ (by decide) (by decide) h11.1) (fun s12 h12 => ?_)
  refine zs_bd_ (zk_Qword hX h12 (by decide)) (fun t13 h13 => ?_)
  refine zs_gd (zk_R h13) (zs_bd_ (zk_Qnum hX h13) (fun r14 h14 => zs_gd (sn_in_nI (by omega) (by decide)) ?_))
  refine zs_lt (wr 4 _ _ (by decide) (by decide) h14.1) (fun s15 h15 => ?_)
  refine zs_bd_ (zk_Qsign hX h15) (fun t16 h16 => zs_gd (zk_R h16) (zs_gd (by decide) ?_))
  refine zs_lt (Q := fun z => zk_I σ0 z) (zk_Iw h16.1 (Or.inl rfl) ?_ (fun hz d => ?_)) (fun s17 h17 => zs_some h17)
  · rw [nI_toInt (by omega), show zs_tC 9 (8 : Int32).toNatClampNeg = (0, 6) from rfl]
    exact ⟨by omega, by omega⟩
  · show zk_D (sn_pI t16 9 8 (nI (n + 1)))
    refine ⟨fun k hk => ?_, zs_Ru_c (pI_slot (by decide)) (fun j _ => by rw [pI_ne (by decide)]) d.2.1, zs_Ru_c (pI_slot (by decide)) (fun j _ => by rw [pI_ne (by decide)]) d.2.2.1, zs_Ru_c (pI_slot (by decide)) (fun j _ => by rw [pI_ne (by decide)]) d.2.2.2.1, fun j hj hl => ?_⟩
    · by_cases e : k = 8
      · subst e
        rw [pI_self, nI_toInt (by omega), show zs_cnt 8 = (0, 6) from rfl]
        exact ⟨by omega, by omega⟩
      · rw [pI_slot e]
        exact d.1 k hk
    · have h1 := zk_ltn (n := n + 1) pI_self (by omega) hl
      rw [pI_ne (by decide)]
      by_cases e : j = n
      · subst e
        exact h16.2.2 hz
      · exact d.2.2.2.2 j hj (by rw [show t16.1 (8 + 1) 8 = nI n from h16.2.1, nI_toInt (by omega)]; omega)
theorem zk_cnt {k : Nat} {b : Int} (h : zk_I σ0 σ) (hk : zs_tC 9 k = (0, b)) (hb : b < 100) : ∃ n : Nat, (n : Int) ≤ b ∧ σ.1 9 k = nI n := by
  have h1 := h.1.1.1 9 k
  rw [hk] at h1
  obtain ⟨j, j1, j2⟩ := zs_val (x := σ.1 9 k) (a := 0) (b := b) h1 ⟨by decide, by omega⟩
  exact ⟨j, by omega, j2⟩
theorem zk_readLine (h : zk_I σ0 σ) : zs_ok (fX5_readLine σ) (fun z => zk_I σ0 z) := by
  obtain ⟨n5, b5, e5⟩ := zk_cnt (k := 5) h rfl (by decide)
  obtain ⟨n6, b6, e6⟩ := zk_cnt (k := 6) h rfl (by decide)
  obtain ⟨n7, b7, e7⟩ := zk_cnt (k := 7) h rfl (by decide)
  obtain ⟨n8, b8, e8⟩ := zk_cnt (k := 8) h rfl (by decide)
  have f5 : sn_I σ (8 + 1) (5 : Int32).toNatClampNeg = nI n5 := e5
  have f6 : sn_I σ (8 + 1) (6 : Int32).toNatClampNeg = nI n6 := e6
  have f7 : sn_I σ (8 + 1) (7 : Int32).toNatClampNeg = nI n7 := e7
  have f8 : sn_I σ (8 + 1) (8 : Int32).toNatClampNeg = nI n8 := e8
  unfold fX5_readLine
  rw [f5, f6, f7, f8]
  refine zs_bd_ (zk_isWord h.2.1 (by decide)) (fun _ _ => zs_ite (fun _ => ?_) (fun _ => zs_gd (zk_IR h) (zs_gd (by decide) (zs_bd_ (zk_readNose h e5 (by omega)) (fun _ ht => zs_some ht)))))
  refine zs_bd_ (zk_isWord h.2.1 (by decide)) (fun _ _ => zs_ite (fun _ => ?_) (fun _ => zs_gd (zk_IR h) (zs_gd (by decide) (zs_bd_ (zk_readGust h e6 (by omega)) (fun _ ht => zs_some ht)))))
  refine zs_bd_ (zk_isWord h.2.1 (by decide)) (fun _ _ => zs_ite (fun _ => ?_) (fun _ => zs_gd (zk_IR h) (zs_gd (by decide) (zs_bd_ (zk_readNet h e7 (by omega)) (fun _ ht => zs_some ht)))))
  refine zs_bd_ (zk_isWord h.2.1 (by decide)) (fun _ _ => zs_ite (fun _ => ?_) (fun _ => zs_gd (zk_IR h) (zs_gd (by decide) (zs_bd_ (zk_readPolicy h e8 (by omega)) (fun _ ht => zs_some ht)))))
  exact zs_bd_ (zk_Iblame h (by decide)) (fun _ ht => zs_some ht)
end
/-! a house copied -/
theorem zh_hcp (σ : sn_S) (a b : Nat) (hd : b + 6 < a ∨ a + 6 < b) : ∃ z, fX2_copyFrom σ a b = some z ∧ zh_mix σ a b 6 z ∧ (∀ k, z.1 (a + 1) k = if k < 11 then σ.1 (b + 1) k else σ.1 (a + 1) k) ∧ (∀ k, k < 10 → z.1 (a + 3) k = σ.1 (b + 3) k) ∧ (∀ k, k < 16 → z.1 (a + 4) k = σ.1 (b + 4) k) ∧ ∀ k, k < 30 → z.1 (a + 5) k = σ.1 (b + 5) k := by
  have key : zs_ok (fX2_copyFrom σ a b) (fun z => zh_mix σ a b 6 z ∧ (∀ k, z.1 (a + 1) k = if k < 11 then σ.1 (b + 1) k else σ.1 (a + 1) k) ∧ (∀ k, k < 10 → z.1 (a + 3) k = σ.1 (b + 3) k) ∧ (∀ k, k < 16 → z.1 (a + 4) k = σ.1 (b + 4) k) ∧ ∀ k, k < 30 → z.1 (a + 5) k = σ.1 (b + 5) k) := by
    unfold fX2_copyFrom
    refine zs_gd (by decide) (zs_lt (Q := fun z => zh_mix σ a b 6 z ∧ (∀ k, z.1 (a + 1) k = if k < 11 then σ.1 (b + 1) k else σ.1 (a + 1) k)) ⟨zh_mixc (i := 1) (L := 11) hd (by decide) (by decide) zh_mix0, fun k => zh_cp_eq (by decide)⟩ (fun z1 m1 => ?_))
    refine zs_gd (by decide) (zs_lt (Q := fun z => zh_mix σ a b 6 z ∧ (∀ k, z.1 (a + 1) k = if k < 11 then σ.1 (b + 1) k else σ.1 (a + 1) k)) ⟨zh_mixc (i := 2) (L := 12) hd (by decide) (by decide) m1.1, fun k => ?_⟩ (fun z2 m2 => ?_))
    · show (zh_cp z1 (a + 2) (b + 2) 12).1 (a + 1) k = _
      rw [zh_cp_ne (by omega)]
      exact m1.2 k
    refine zs_gd (by decide) (zs_lt (Q := fun z => zh_mix σ a b 6 z ∧ (∀ k, z.1 (a + 1) k = if k < 11 then σ.1 (b + 1) k else σ.1 (a + 1) k) ∧ (∀ k, k < 10 → z.1 (a + 3) k = σ.1 (b + 3) k)) ⟨zh_mixc (i := 3) (L := 10) hd (by decide) (by decide) m2.1, fun k => ?_, fun k hk => ?_⟩ (fun z3 m3 => ?_))
    · show (zh_cp z2 (a + 3) (b + 3) 10).1 (a + 1) k = _
      rw [zh_cp_ne (by omega)]
      exact m2.2 k
    · show (zh_cp z2 (a + 3) (b + 3) 10).1 (a + 3) k = _
      rw [zh_cp_eq (by decide), if_pos hk, m2.1.2.1 (b + 3) (by omega)]
    refine zs_gd (by decide) (zs_lt (Q := fun z => zh_mix σ a b 6 z ∧ (∀ k, z.1 (a + 1) k = if k < 11 then σ.1 (b + 1) k else σ.1 (a + 1) k) ∧ (∀ k, k < 10 → z.1 (a + 3) k = σ.1 (b + 3) k) ∧ (∀ k, k < 16 → z.1 (a + 4) k = σ.1 (b + 4) k)) ⟨zh_mixc (i := 4) (L := 16) hd (by decide) (by decide) m3.1, fun k => ?_, fun k hk => ?_, fun k hk => ?_⟩ (fun z4 m4 => ?_))
    · show (zh_cp z3 (a + 4) (b + 4) 16).1 (a + 1) k = _
      rw [zh_cp_ne (by omega)]
      exact m3.2.1 k
    · show (zh_cp z3 (a + 4) (b + 4) 16).1 (a + 3) k = _
      rw [zh_cp_ne (by omega)]
      exact m3.2.2 k hk
    · show (zh_cp z3 (a + 4) (b + 4) 16).1 (a + 4) k = _
      rw [zh_cp_eq (by decide), if_pos hk, m3.1.2.1 (b + 4) (by omega)]
    refine zs_gd (by decide) (zs_lt (Q := fun z => zh_mix σ a b 6 z ∧ (∀ k, z.1 (a + 1) k = if k < 11 then σ.1 (b + 1) k else σ.1 (a + 1) k) ∧ (∀ k, k < 10 → z.1 (a + 3) k = σ.1 (b + 3) k) ∧ (∀ k, k < 16 → z.1 (a + 4) k = σ.1 (b + 4) k) ∧ ∀ k, k < 30 → z.1 (a + 5) k = σ.1 (b + 5) k) ⟨zh_mixc (i := 5) (L := 30) hd (by decide) (by decide) m4.1, fun k => ?_, fun k hk => ?_, fun k hk => ?_, fun k hk => ?_⟩ (fun z5 m5 => ?_))
    · show (zh_cp z4 (a + 5) (b + 5) 30).1 (a + 1) k = _
      rw [zh_cp_ne (by omega)]
      exact m4.2.1 k
    · show (zh_cp z4 (a + 5) (b + 5) 30).1 (a + 3) k = _
      rw [zh_cp_ne (by omega)]
      exact m4.2.2.1 k hk
    · show (zh_cp z4 (a + 5) (b + 5) 30).1 (a + 4) k = _
      rw [zh_cp_ne (by omega)]
      exact m4.2.2.2 k hk
    · show (zh_cp z4 (a + 5) (b + 5) 30).1 (a + 5) k = _
      rw [zh_cp_eq (by decide), if_pos hk, m4.1.2.1 (b + 5) (by omega)]
    refine zs_gd (by decide) (zs_lt (Q := fun z => zh_mix σ a b 6 z ∧ (∀ k, z.1 (a + 1) k = if k < 11 then σ.1 (b + 1) k else σ.1 (a + 1) k) ∧ (∀ k, k < 10 → z.1 (a + 3) k = σ.1 (b + 3) k) ∧ (∀ k, k < 16 → z.1 (a + 4) k = σ.1 (b + 4) k) ∧ ∀ k, k < 30 → z.1 (a + 5) k = σ.1 (b + 5) k) ⟨zh_mixc (i := 6) (L := 120) hd (by decide) (by decide) m5.1, fun k => ?_, fun k hk => ?_, fun k hk => ?_, fun k hk => ?_⟩ (fun z6 m6 => zs_some m6))
    · show (zh_cp z5 (a + 6) (b + 6) 120).1 (a + 1) k = _
      rw [zh_cp_ne (by omega)]
      exact m5.2.1 k
    · show (zh_cp z5 (a + 6) (b + 6) 120).1 (a + 3) k = _
      rw [zh_cp_ne (by omega)]
      exact m5.2.2.1 k hk
    · show (zh_cp z5 (a + 6) (b + 6) 120).1 (a + 4) k = _
      rw [zh_cp_ne (by omega)]
      exact m5.2.2.2.1 k hk
    · show (zh_cp z5 (a + 6) (b + 6) 120).1 (a + 5) k = _
      rw [zh_cp_ne (by omega)]
      exact m5.2.2.2.2 k hk
  obtain ⟨z, e, h⟩ := key
  exact ⟨z, e, h⟩
theorem zh_tab {a : Nat} (ha : a = 1 ∨ a = 73 ∨ a = 80 ∨ a = 87) (k : Nat) : zs_tC a k = (-2147483648, 2147483647) ∧ zs_tC (a + 1) k = zs_cnt k ∧ zs_tC (a + 2) k = (-2147483648, 2147483647) ∧ zs_tC (a + 3) k = (-2147483648, 2147483647) ∧ zs_tC (a + 4) k = (-2147483648, 2147483647) ∧ zs_tC (a + 5) k = (-2147483648, 2147483647) ∧ zs_tC (a + 6) k = (0, 29) := by
  rcases ha with e | e | e | e <;> subst e <;> exact ⟨rfl, rfl, rfl, rfl, rfl, rfl, rfl⟩
theorem zh_hSB {σ z : sn_S} {a b : Nat} (ha : a = 1 ∨ a = 73 ∨ a = 80 ∨ a = 87) (h : zs_SB zs_tC σ) (hb1 : ∀ k, k < 11 → (zs_cnt k).1 ≤ (σ.1 (b + 1) k).toInt ∧ (σ.1 (b + 1) k).toInt ≤ (zs_cnt k).2) (hb6 : ∀ k, 0 ≤ (σ.1 (b + 6) k).toInt ∧ (σ.1 (b + 6) k).toInt ≤ 29) (hH : zs_H b σ)
    (hm : zh_mix σ a b 6 z) (c1 : ∀ k, z.1 (a + 1) k = if k < 11 then σ.1 (b + 1) k else σ.1 (a + 1) k) (c3 : ∀ k, k < 10 → z.1 (a + 3) k = σ.1 (b + 3) k) (c4 : ∀ k, k < 16 → z.1 (a + 4) k = σ.1 (b + 4) k) (c5 : ∀ k, k < 30 → z.1 (a + 5) k = σ.1 (b + 5) k) : zs_SB zs_tC z := by
  have o : ∀ q k, q < a ∨ a + 6 < q → z.1 q k = σ.1 q k := fun q k hq => by rw [hm.2.1 q hq]
  obtain ⟨⟨r1, r2, r3, r4⟩, d1, d2, d3⟩ := h.2 rfl
  have hHz : zs_H a z := ⟨zh_Ru_mv (by rw [c1, if_pos (by decide)]) (fun j hj => c3 _ (by omega)) hH.1, zh_Ru_mv (by rw [c1, if_pos (by decide)]) (fun j hj => c4 _ (by omega)) hH.2.1, zh_Ru_mv (by rw [c1, if_pos (by decide)]) (fun j hj => c4 _ (by omega)) hH.2.2.1, zh_Ru_mv (by rw [c1, if_pos (by decide)]) (fun j hj => c5 _ (by omega)) hH.2.2.2⟩
  have other : ∀ {g : Nat}, (g + 6 < a ∨ a + 6 < g) → zs_H g σ → zs_H g z := fun hg hh => zs_H_c (o _ _ (by omega)) (o _ _ (by omega)) (o _ _ (by omega)) (fun k => o _ _ (by omega)) (fun k => o _ _ (by omega)) (fun j => o _ _ (by omega)) hh
  have day : ∀ {g : Nat}, (g + 6 < a ∨ a + 6 < g) → zs_D g σ → zs_D g z := fun hg hh => zs_D_c (o _ _ (by omega)) (fun k => o _ _ (by omega)) hh
  refine ⟨fun q k => ?_, fun _ => ⟨?_, day (by omega) d1, day (by omega) d2, day (by omega) d3⟩⟩
  · by_cases hq : q < a ∨ a + 6 < q
    · rw [o q k hq]
      exact h.1 q k
    · obtain ⟨t0, t1, t2, t3, t4, t5, t6⟩ := zh_tab ha k
      have e : q = a ∨ q = a + 1 ∨ q = a + 2 ∨ q = a + 3 ∨ q = a + 4 ∨ q = a + 5 ∨ q = a + 6 := by omega
      rcases e with e | e | e | e | e | e | e <;> subst e
      · rw [t0]; exact zs_topI _
      · rw [t1, c1]
        by_cases hk : k < 11
        · rw [if_pos hk]
          exact hb1 k hk
        · rw [if_neg hk]
          have := h.1 (a + 1) k
          rw [t1] at this
          exact this
      · rw [t2]; exact zs_topI _
      · rw [t3]; exact zs_topI _
      · rw [t4]; exact zs_topI _
      · rw [t5]; exact zs_topI _
      · rw [t6]
        rcases hm.2.2 6 (by decide) k with g | g
        · rw [g]
          have := h.1 (a + 6) k
          rw [t6] at this
          exact this
        · rw [g]
          exact hb6 k
  · rcases ha with e | e | e | e <;> subst e
    · exact ⟨hHz, other (by decide) r2, other (by decide) r3, other (by decide) r4⟩
    · exact ⟨other (by decide) r1, hHz, other (by decide) r3, other (by decide) r4⟩
    · exact ⟨other (by decide) r1, other (by decide) r2, hHz, other (by decide) r4⟩
    · exact ⟨other (by decide) r1, other (by decide) r2, other (by decide) r3, hHz⟩
theorem zs_k0 {q k : Nat} (h : zs_kC0 q k = true) : q = 16 ∨ q = 17 ∨ q = 18 ∨ q = 25 ∨ q = 26 := by
  by_cases hn : q = 16 ∨ q = 17 ∨ q = 18 ∨ q = 25 ∨ q = 26
  · exact hn
  · exfalso
    have e : ∀ j, q ≠ j → Nat.beq q j = false := fun j hj => by
      cases e : Nat.beq q j with
      | false => rfl
      | true => exact absurd (Nat.eq_of_beq_eq_true e) hj
    unfold zs_kC0 at h
    rw [e 16 (by omega), e 17 (by omega), e 18 (by omega), e 25 (by omega), e 26 (by omega)] at h
    cases h
theorem zs_k0C {q k : Nat} (h : zs_kC0 q k = true) : zs_kA q k = true ∧ zs_kC q k = true := by
  rcases zs_k0 h with e | e | e | e | e <;> subst e <;> exact ⟨h, h⟩
theorem zs_a0 {σ0 σ : sn_S} (h : zs_A σ0 σ) : zs_C0 σ0 σ := ⟨h.1, fun q k hk => h.2.1 q k (zs_k0C hk).1, h.2.2⟩
theorem zs_kCB {q k : Nat} (h : zs_kB q k = true) : zs_kC q k = true := by
  unfold zs_kC
  cases (Nat.ble 27 q && Nat.ble q 37)
  · exact h
  · rfl
theorem zs_bC {σ0 σ : sn_S} (h : zs_C σ0 σ) : zs_B σ0 σ := ⟨h.1, fun q k hk => h.2.1 q k (zs_kCB hk), h.2.2⟩
theorem zs_k0B {q k : Nat} (h : zs_kC0 q k = true) : zs_kB q k = true := by
  rcases zs_k0 h with e | e | e | e | e <;> subst e <;> exact h
theorem zs_b0 {σ0 σ : sn_S} (h : zs_B σ0 σ) : zs_C0 σ0 σ := ⟨h.1, fun q k hk => h.2.1 q k (zs_k0B hk), h.2.2⟩
theorem zs_k0M {q k : Nat} (h : zs_kM0 q k = true) : zs_kM q k = true := by
  unfold zs_kM
  cases (Nat.beq q 1 || Nat.beq q 2)
  · exact h
  · rfl
theorem zs_m0 {σ0 σ : sn_S} (h : zs_M σ0 σ) : zs_M0 σ0 σ := ⟨h.1, fun q k hk => h.2.1 q k (zs_k0M hk), h.2.2⟩
theorem zs_c0t {a b c : sn_S} (h : zs_C0 a b) (g : zs_B b c) : zs_C0 a c := ⟨g.1, fun q k hk => ((zs_b0 g).2.1 q k hk).trans (h.2.1 q k hk), fun q hq => (g.2.2 q hq).trans (h.2.2 q hq)⟩
/-- a kept house is laid over another -/
theorem zh_hC {σ : sn_S} (h : zs_SB zs_tC σ) {a b : Nat} (ha : a = 1 ∨ a = 73 ∨ a = 80 ∨ a = 87) (hb : b = 1 ∨ b = 73 ∨ b = 80 ∨ b = 87) (hab : a ≠ b) : ∃ z, zs_C0 σ z ∧ fX2_copyFrom σ a b = some z := by
  obtain ⟨z, e, hm, c1, c3, c4, c5⟩ := zh_hcp σ a b (by omega)
  obtain ⟨⟨r1, r2, r3, r4⟩, d1, d2, d3⟩ := h.2 rfl
  have hH : zs_H b σ := by
    rcases hb with e | e | e | e <;> subst e
    · exact r1
    · exact r2
    · exact r3
    · exact r4
  refine ⟨z, ⟨zh_hSB ha h (fun k _ => ?_) (fun k => ?_) hH hm c1 c3 c4 c5, fun q k hk => ?_, fun q _ => ?_⟩, e⟩
  · have := h.1 (b + 1) k
    rw [(zh_tab hb k).2.1] at this
    exact this
  · have := h.1 (b + 6) k
    rw [(zh_tab hb k).2.2.2.2.2.2] at this
    exact this
  · have := zs_k0 hk
    rw [hm.2.1 q (by omega)]
  · rw [hm.1]
/-! the program reads a house -/
theorem fillI (σ : sn_S) (q n : Nat) (v : Int32) (hn : n < 5000) : fJ7_fill_53178 σ q n v = some ((fun a b => if a = q ∧ b < n then v else σ.1 a b), σ.2) := by
  unfold fJ7_fill_53178
  show ((sn_it (LJ7_fill_53178_5 q n v (Int32.ofNat n)) 5000 (σ, (0 : Int32))).bind _) = _
  obtain ⟨t, e1, e2⟩ := sn_for (f := LJ7_fill_53178_5 q n v (Int32.ofNat n)) n (fun k s => s = (((fun a b => if a = q ∧ b < k then v else σ.1 a b), σ.2), nI k)) (fun t => t = ((fun a b => if a = q ∧ b < n then v else σ.1 a b), σ.2))
    (fun k s hk hs => by
      subst hs
      refine ⟨_, ?_, rfl⟩
      unfold LJ7_fill_53178_5 BJ7_fill_53178_5
      rw [if_neg (show ¬ Int32.ofNat n ≤ nI k from nI_ge hk (by omega))]
      show sn_gd (sn_in (nI k) n) (some (Sum.inl (sn_pI _ q (nI k).toNatClampNeg v, nI k + 1))) = _
      rw [sn_in_nI hk (by omega), gd_T, nI_clamp (by omega), nI_1]
      refine congrArg (fun z => some (Sum.inl ((z, σ.2), nI (k + 1)))) ?_
      funext a b
      show (if a = q ∧ b = k then v else if a = q ∧ b < k then v else σ.1 a b) = _
      by_cases ha : a = q
      · by_cases hb : b = k
        · rw [if_pos ⟨ha, hb⟩, if_pos ⟨ha, by omega⟩]
        · rw [if_neg (fun h => hb h.2)]
          by_cases hb2 : b < k
          · rw [if_pos ⟨ha, hb2⟩, if_pos ⟨ha, by omega⟩]
          · rw [if_neg (fun h => hb2 h.2), if_neg (fun h => hb2 (by have := h.2; omega))]
      · rw [if_neg (fun h => ha h.1), if_neg (fun h => ha h.1), if_neg (fun h => ha h.1)])
    (fun s hs => by
      subst hs
      refine ⟨_, ?_, rfl⟩
      unfold LJ7_fill_53178_5 BJ7_fill_53178_5
      rw [if_pos (show Int32.ofNat n ≤ nI n from Int32.le_refl _)])
    hn (s := (σ, (0 : Int32))) (by
      show (σ, (0 : Int32)) = _
      rw [nI_0]
      simp)
  rw [e1, e2]
  rfl
theorem zk_read {σ : sn_S} (h : zs_SB zs_tC σ) : zs_ok (fX5_read σ 8) (fun z => zk_I σ z) := by
  unfold fX5_read
  refine zs_lt (Q := fun z => zs_G zs_tC zk_k zs_lC σ z ∧ sn_R z 17 7 = some 8) ⟨zs_wrR (zs_rf h), by
    show (if 17 = 17 ∧ 7 = 7 then some 8 else σ.2.2 17 7) = some 8
    rw [if_pos ⟨rfl, rfl⟩]⟩ (fun s1 g1 => ?_)
  refine zs_gd (by rw [g1.2]; rfl) ?_
  refine zs_bd_ (Q := fun z => zs_G zs_tC zk_k zs_lC σ z ∧ sn_R z 17 7 = some 8 ∧ ∀ k, k < 11 → z.1 9 k = 0) ?_ (fun s2 g2 => ?_)
  · unfold fX2_clear
    rw [fillI s1 (8 + 1) 11 0 (by decide)]
    show zs_ok (some ((fun a b => if a = 8 + 1 ∧ b < 11 then (0 : Int32) else s1.1 a b), s1.2)) _
    have o : ∀ q k, q ≠ 9 → ((fun a b => if a = 8 + 1 ∧ b < 11 then (0 : Int32) else s1.1 a b) : Nat → Nat → Int32) q k = s1.1 q k := fun q k hq => if_neg (fun e => hq e.1)
    refine zs_some ⟨⟨⟨fun q k => ?_, fun hC => zs_RC_c (fun q k hk => o q k (fun e => by subst e; cases hk)) (g1.1.1.2 hC)⟩, fun q k hk => ?_, g1.1.2.2⟩, g1.2, fun k hk => if_pos ⟨rfl, hk⟩⟩
    · show (zs_tC q k).1 ≤ (if q = 8 + 1 ∧ k < 11 then (0 : Int32) else s1.1 q k).toInt ∧ (if q = 8 + 1 ∧ k < 11 then (0 : Int32) else s1.1 q k).toInt ≤ (zs_tC q k).2
      by_cases e : q = 8 + 1 ∧ k < 11
      · rw [if_pos e, e.1]
        have : ∀ k, k < 11 → (zs_tC (8 + 1) k).1 ≤ (0 : Int32).toInt ∧ (0 : Int32).toInt ≤ (zs_tC (8 + 1) k).2 := by decide +kernel
        exact this k e.2
      · rw [if_neg e]
        exact g1.1.1.1 q k
    · show (if q = 8 + 1 ∧ k < 11 then (0 : Int32) else s1.1 q k) = _
      rw [if_neg (fun e => by rw [e.1] at hk; cases hk)]
      exact g1.1.2.1 q k hk
  refine zs_lt (Q := fun z => zs_G zs_tC zk_k zs_lC σ z ∧ sn_R z 17 7 = some 8 ∧ ∀ k, k < 11 → z.1 9 k = 0) ⟨zs_wrkt g2.1 rfl rfl, g2.2.1, g2.2.2⟩ (fun s3 g3 => ?_)
  refine zs_lt (Q := fun z => zs_G zs_tC zk_k zs_lC σ z ∧ sn_R z 17 7 = some 8 ∧ ∀ k, k < 11 → z.1 9 k = 0) ⟨zs_wrkt g3.1 rfl rfl, g3.2.1, g3.2.2⟩ (fun s4 g4 => ?_)
  refine zs_lt (Q := fun z => zs_G zs_tC zk_k zs_lC σ z ∧ sn_R z 17 7 = some 8 ∧ (∀ k, k < 11 → z.1 9 k = 0) ∧ z.1 17 5 = 0) ⟨zs_wrkt g4.1 rfl rfl, g4.2.1, g4.2.2, rfl⟩ (fun s5 g5 => ?_)
  have l1 := g5.1.1.1 17 1
  rw [show zs_tC 17 1 = (0, 900) from rfl] at l1
  have z0 : (s5.1 17 5).toInt = 0 := by rw [g5.2.2.2]; decide
  have hD : s5.1 17 2 = 0 → zk_D s5 := fun _ => by
    have e0 : (0 : Int32).toInt = 0 := by decide
    have v : ∀ k, k < 11 → (s5.1 9 k).toInt = 0 := fun k hk => by rw [g5.2.2.1 k hk]; exact e0
    have c : ∀ k, k < 11 → (zs_cnt k).1 ≤ 0 ∧ 0 ≤ (zs_cnt k).2 := by decide +kernel
    exact ⟨fun k hk => by rw [v k hk]; exact c k hk, fun j _ hj => by have hj : (j : Int) < (s5.1 9 6).toInt := hj; have := v 6 (by decide); omega, fun j _ hj => by have hj : (j : Int) < (s5.1 9 7).toInt := hj; have := v 7 (by decide); omega, fun j _ hj => by have hj : (j : Int) < (s5.1 9 7).toInt := hj; have := v 7 (by decide); omega, fun j _ hj => by have hj : (j : Int) < (s5.1 9 8).toInt := hj; have := v 8 (by decide); omega⟩
  refine zs_bd_ (zk_step (σ := s5) (by omega) (by have := l1.1; omega) l1.2) (fun s6 g6 => ?_)
  have hI : zk_I σ s6 := zk_If0 g5.1 g5.2.1 hD g6.1 g6.2.2 (fun z => g6.2.1.symm.trans z)
  refine zs_bd_ (zs_it (E := fun z => zk_I σ z) (I := fun s : sn_S × Int32 => zk_I σ s.1 ∧ zs_in s.2.toInt 0 900) (m := fun s => 900 - s.2.toInt) (fun s hs => ⟨by have := hs.2; omega, by have := hs.2; omega⟩) (fun s hs => ?_) ⟨hI, (show zs_in (0 : Int32).toInt 0 900 by decide)⟩) (fun s7 g7 => ?_)
  · obtain ⟨w, x⟩ := s
    have hw : zk_I σ w := hs.1
    have hx : zs_in x.toInt 0 900 := hs.2
    have b69 : ∀ u, zk_I σ u → ¬ (900 : Int32) ≤ x → zs_ok (BX5_read_69 u 8 x) (zs_sum (fun s' : sn_S × Int32 => (zk_I σ s'.1 ∧ zs_in s'.2.toInt 0 900) ∧ 900 - s'.2.toInt < 900 - x.toInt) (fun z => zk_I σ z)) := by
      intro u hu c
      have c1 : x.toInt < 900 := zs_I_len c
      have e1 := zk_inc (x := x) hx.1 (by omega)
      unfold BX5_read_69
      refine zs_gd (zk_IR hu) (zs_gd (by decide) ?_)
      refine zs_lt (Q := fun z => zk_I σ z) (zk_I9 hu rfl (by decide) (fun _ => by rw [show zs_cnt (10 : Int32).toNatClampNeg = (0, 900) from rfl]; exact ⟨by have := hx.1; show 0 ≤ (x + (1 : Int32)).toInt; omega, by show (x + (1 : Int32)).toInt ≤ 900; omega⟩)) (fun v hv => ?_)
      refine zs_lt (Q := fun y => y = x + 1) rfl (fun y hy => ?_)
      subst hy
      exact zs_some (zs_inl ⟨⟨hv, by show zs_in (x + 1).toInt 0 900; exact ⟨by have := hx.1; omega, by omega⟩⟩, by show 900 - (x + 1).toInt < 900 - x.toInt; omega⟩)
    unfold LX5_read_33 BX5_read_33
    refine zs_ite (fun _ => zs_some (zs_inr hw)) (fun c => zs_ite (fun _ => ?_) (fun _ => zs_some (zs_inr hw)))
    refine zs_ite (fun _ => zs_some (zs_inr hw)) (fun _ => zs_ite (fun _ => ?_) (fun _ => ?_))
    · exact zs_bd_ (zk_readHouse hw) (fun u hu => b69 u hu c)
    · exact zs_bd_ (zk_readLine hw) (fun u hu => b69 u hu c)
  · unfold BX5_read_88
    exact zs_some g7
