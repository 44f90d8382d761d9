/-! the reference's reader -/
def zm_k0 (q k : Nat) : Bool := bif Nat.beq q 0 then (Nat.beq k 5 || Nat.beq k 7) else (Nat.beq q 2 || Nat.beq q 3 || Nat.beq q 4 || Nat.beq q 21 || Nat.beq q 22)
def zm_k (q k : Nat) : Bool := bif Nat.beq q 1 then true else (zm_k0 q k)
abbrev zm_G := zs_G zs_tM zm_k zs_lM
abbrev zm_G0 := zs_G zs_tM zm_k0 zs_lM
theorem zm_w0 {a b : sn_S} (h : zm_G a b) : zm_G0 a b := ⟨h.1, fun q k hk => h.2.1 q k (by
  unfold zm_k
  cases Nat.beq q 1
  · exact hk
  · rfl), h.2.2⟩
def zm_pos (z : sn_S) : Prop := (z.1 0 9).toInt ≤ (z.1 0 8).toInt ∧ (z.1 0 8).toInt ≤ (z.1 0 7).toInt ∧ (z.1 0 10 ≠ 0 → (z.1 0 9).toInt < (z.1 0 7).toInt) ∧ (z.1 0 10 = 3 → (z.1 0 9).toInt < (z.1 0 8).toInt)
def zm_P (σ0 σ z : sn_S) : Prop := zm_G σ0 z ∧ zm_pos z ∧ (σ.1 0 9).toInt ≤ (z.1 0 9).toInt ∧ ∀ q, q ≠ 0 → z.1 q = σ.1 q
section
variable {σ0 σ z w s : sn_S}
theorem zm_Pt (a : zm_P σ0 σ z) (b : zm_P σ0 z w) : zm_P σ0 σ w := ⟨b.1, b.2.1, Int.le_trans a.2.2.1 b.2.2.1, fun q hq => (b.2.2.2 q hq).trans (a.2.2.2 q hq)⟩
theorem zm_P0 (h : zm_G σ0 σ) (hp : zm_pos σ) : zm_P σ0 σ σ := ⟨h, hp, Int.le_refl _, fun _ _ => rfl⟩
theorem zm_b {k : Nat} (h : zm_G σ0 z) (hk : zs_tM 0 k = (0, 900)) : 0 ≤ (z.1 0 k).toInt ∧ (z.1 0 k).toInt ≤ 900 := by
  have := h.1.1 0 k
  rw [hk] at this
  exact this
theorem zm_see (h : zm_G σ0 σ) {x : Int32} (hx : 0 ≤ x.toInt) : zs_ok (fX9_see σ x) (fun v => v ≠ -1 → x.toInt < (σ.1 0 7).toInt) := by
  unfold fX9_see
  refine zs_ite (fun _ => zs_some (fun e => absurd rfl e)) (fun c => ?_)
  have c1 : x.toInt < (σ.1 0 7).toInt := zs_I_len c
  have b7 := zm_b (k := 7) h rfl
  exact zs_gd (zs_gin (a := 0) (b := 899) ⟨hx, by omega⟩ (by decide)) (zs_some (fun _ => c1))
theorem zm_in (a b c : Int32) : zs_ok (fX9_in a.toInt64 b.toInt64 c.toInt64) (fun r => r ≠ 0 → b.toInt ≤ a.toInt ∧ a.toInt ≤ c.toInt) := by
  rw [in_eq32]
  by_cases e : b ≤ a ∧ a ≤ c
  · rw [if_pos e]
    exact zs_some (fun _ => ⟨Int32.le_iff_toInt_le.mp e.1, Int32.le_iff_toInt_le.mp e.2⟩)
  · rw [if_neg e]
    exact zs_some (fun e => absurd rfl e)
theorem zm_in1 (a : Int32) : zs_ok (fX9_in a.toInt64 (97 : Int64) (122 : Int64)) (fun r => r ≠ 0 → a ≠ -1) := zs_okw (zm_in a 97 122) (fun r h e e2 => by
  have := (h e).1
  rw [e2] at this
  exact absurd this (by decide))
theorem zm_in2 (a : Int32) : zs_ok (fX9_in a.toInt64 (48 : Int64) (57 : Int64)) (fun r => r ≠ 0 → a ≠ -1) := zs_okw (zm_in a 48 57) (fun r h e e2 => by
  have := (h e).1
  rw [e2] at this
  exact absurd this (by decide))
/-- between two of its places -/
def zm_A (σ0 σ z : sn_S) : Prop := zm_G σ0 z ∧ (σ.1 0 8).toInt ≤ (z.1 0 8).toInt ∧ (z.1 0 8).toInt ≤ (z.1 0 7).toInt ∧ (∀ q, q ≠ 0 → z.1 q = σ.1 q) ∧ z.1 0 12 = σ.1 0 12
theorem zm_o {v : Int32} {k : Nat} (h : ∀ q, q ≠ 0 → z.1 q = σ.1 q) : ∀ q, q ≠ 0 → (sn_pI z 0 k v).1 q = σ.1 q := fun q hq => by rw [pI_ne hq, h q hq]
theorem zm_mv (h : zm_A σ0 σ z) (hlt : (z.1 0 8).toInt < (z.1 0 7).toInt) : zm_A σ0 σ (sn_pI z 0 8 ((sn_I z 0 8) + (1 : Int32))) ∧ ((sn_I z 0 8) + (1 : Int32)).toInt = (z.1 0 8).toInt + 1 := by
  have b7 := zm_b (k := 7) h.1 rfl
  have b8 := zm_b (k := 8) h.1 rfl
  have e := zk_inc (x := z.1 0 8) b8.1 (by omega)
  have e2 : ((sn_I z 0 8) + (1 : Int32)).toInt = (z.1 0 8).toInt + 1 := e
  refine ⟨⟨zs_wrk (z := (0, 900)) (a := 0) (b := 900) h.1 rfl ⟨by omega, by omega⟩ (by decide) rfl, ?_, ?_, zm_o h.2.2.2.1, h.2.2.2.2⟩, e2⟩
  · show (σ.1 0 8).toInt ≤ ((sn_I z 0 8) + (1 : Int32)).toInt
    have := h.2.1
    omega
  · show ((sn_I z 0 8) + (1 : Int32)).toInt ≤ (z.1 0 7).toInt
    omega
theorem zm_m (h : zm_A σ0 σ z) : 0 ≤ 900 - (z.1 0 8).toInt ∧ 900 - (z.1 0 8).toInt < 4999 := by
  have b8 := zm_b (k := 8) h.1 rfl
  exact ⟨by omega, by omega⟩
theorem zm_skip (h : zm_A σ0 σ z) : zs_ok (sn_it LX9_advance_0 5000 z) (fun t => zm_A σ0 σ t) := by
  refine zs_it (I := fun s => zm_A σ0 σ s) (m := fun s => 900 - (s.1 0 8).toInt) (fun s hs => zm_m hs) (fun s hs => ?_) h
  have b8 := zm_b (k := 8) hs.1 rfl
  have mv : (s.1 0 8).toInt < (s.1 0 7).toInt → zs_ok (BX9_advance_26 s) (zs_sum (fun s' => zm_A σ0 σ s' ∧ 900 - (s'.1 0 8).toInt < 900 - (s.1 0 8).toInt) (fun t => zm_A σ0 σ t)) := by
    intro hlt
    have g := zm_mv hs hlt
    unfold BX9_advance_26
    refine zs_lt (Q := fun y => y = sn_pI s 0 8 ((sn_I s 0 8) + (1 : Int32))) rfl (fun y hy => ?_)
    subst hy
    exact zs_some (zs_inl ⟨g.1, by show 900 - ((sn_I s 0 8) + (1 : Int32)).toInt < _; have := g.2; omega⟩)
  unfold LX9_advance_0 BX9_advance_0
  refine zs_bd_ (zm_see hs.1 b8.1) (fun t ht => zs_ite (fun c => mv (ht (by rw [c]; decide))) (fun _ => ?_))
  exact zs_bd_ (zm_see hs.1 b8.1) (fun t ht => zs_ite (fun c => mv (ht (by rw [c]; decide))) (fun _ => zs_some (zs_inr hs)))
/-- behind a token's first place -/
def zm_B (σ0 σ z : sn_S) : Prop := zm_A σ0 σ z ∧ (σ.1 0 8).toInt ≤ (z.1 0 9).toInt ∧ (z.1 0 9).toInt ≤ (z.1 0 8).toInt ∧ (z.1 0 9).toInt < (z.1 0 7).toInt
theorem zm_Bmv (h : zm_B σ0 σ z) (hlt : (z.1 0 8).toInt < (z.1 0 7).toInt) : zm_B σ0 σ (sn_pI z 0 8 ((sn_I z 0 8) + (1 : Int32))) ∧ ((sn_I z 0 8) + (1 : Int32)).toInt = (z.1 0 8).toInt + 1 := by
  have g := zm_mv h.1 hlt
  refine ⟨⟨g.1, h.2.1, ?_, h.2.2.2⟩, g.2⟩
  show (z.1 0 9).toInt ≤ ((sn_I z 0 8) + (1 : Int32)).toInt
  have := g.2
  have := h.2.2.1
  omega
theorem zm_B11 {v : Int32} (h : zm_B σ0 σ z) : zm_B σ0 σ (sn_pI z 0 11 v) := ⟨⟨zs_wrkt h.1.1 rfl rfl, h.1.2.1, h.1.2.2.1, zm_o h.1.2.2.2.1, h.1.2.2.2.2⟩, h.2⟩
theorem zm_word (h : zm_B σ0 σ z) : zs_ok (sn_it LX9_advance_83 5000 z) (fun t => zm_B σ0 σ t) := by
  refine zs_it (I := fun s => zm_B σ0 σ s) (m := fun s => 900 - (s.1 0 8).toInt) (fun s hs => zm_m hs.1) (fun s hs => ?_) h
  have b8 := zm_b (k := 8) hs.1.1 rfl
  unfold LX9_advance_83 BX9_advance_83
  refine zs_bd_ (zm_see hs.1.1 b8.1) (fun t ht => zs_bd_ (zm_in1 t) (fun u hu => zs_ite (fun _ => zs_some (zs_inr hs)) (fun c => ?_)))
  have g := zm_Bmv hs (ht (hu c))
  refine zs_lt (Q := fun y => y = sn_pI s 0 8 ((sn_I s 0 8) + (1 : Int32))) rfl (fun y hy => ?_)
  subst hy
  exact zs_some (zs_inl ⟨g.1, by show 900 - ((sn_I s 0 8) + (1 : Int32)).toInt < _; have := g.2; omega⟩)
theorem zm_digits (h : zm_B σ0 σ z) : zs_ok (sn_it LX9_advance_144 5000 z) (fun t => zm_B σ0 σ t) := by
  refine zs_it (I := fun s => zm_B σ0 σ s) (m := fun s => 900 - (s.1 0 8).toInt) (fun s hs => zm_m hs.1) (fun s hs => ?_) h
  have b8 := zm_b (k := 8) hs.1.1 rfl
  unfold LX9_advance_144 BX9_advance_144
  refine zs_bd_ (zm_see hs.1.1 b8.1) (fun t ht => zs_bd_ (zm_in2 t) (fun u hu => zs_ite (fun _ => zs_some (zs_inr hs)) (fun c => ?_)))
  refine zs_bd_ (zm_see hs.1.1 b8.1) (fun t6 _ => ?_)
  refine zs_lt (Q := fun _ => True) trivial (fun y8 _ => ?_)
  refine zs_lt (Q := fun y => zm_B σ0 σ y ∧ y.1 0 8 = s.1 0 8 ∧ y.1 0 7 = s.1 0 7) ⟨zm_B11 hs, rfl, rfl⟩ (fun s1 h1 => ?_)
  have g := zm_Bmv h1.1 (by rw [h1.2.1, h1.2.2]; exact ht (hu c))
  refine zs_lt (Q := fun y => y = sn_pI s1 0 8 ((sn_I s1 0 8) + (1 : Int32))) rfl (fun y hy => ?_)
  subst hy
  refine zs_some (zs_inl ⟨g.1, ?_⟩)
  show 900 - ((sn_I s1 0 8) + (1 : Int32)).toInt < 900 - (s.1 0 8).toInt
  have h2 := g.2
  rw [h1.2.1] at h2
  omega
def zm_V (σ0 σ z : sn_S) : Prop := zm_G σ0 z ∧ zm_pos z ∧ (σ.1 0 8).toInt ≤ (z.1 0 9).toInt ∧ (∀ q, q ≠ 0 → z.1 q = σ.1 q) ∧ z.1 0 12 = σ.1 0 12
theorem zm_226 (h : zm_B σ0 σ z) (hlt : (z.1 0 8).toInt < (z.1 0 7).toInt) {t : Int32} : zs_ok (BX9_advance_226 z t) (fun u => zm_V σ0 σ u) := by
  unfold BX9_advance_226
  refine zs_lt (Q := fun y => zm_B σ0 σ y ∧ (y.1 0 8).toInt < (y.1 0 7).toInt) ⟨⟨⟨zs_wrkt h.1.1 rfl rfl, h.1.2.1, h.1.2.2.1, zm_o h.1.2.2.2.1, h.1.2.2.2.2⟩, h.2⟩, hlt⟩ (fun s1 h1 => ?_)
  have g := zm_Bmv h1.1 h1.2
  refine zs_lt (Q := fun y => y = sn_pI s1 0 8 ((sn_I s1 0 8) + (1 : Int32))) rfl (fun y hy => ?_)
  subst hy
  have k1 := h1.1.2.2.1
  have k2 := g.2
  exact zs_some ⟨g.1.1.1, ⟨g.1.2.2.1, g.1.1.2.2.1, fun _ => g.1.2.2.2, fun _ => by show (s1.1 0 9).toInt < ((sn_I s1 0 8) + (1 : Int32)).toInt; omega⟩, g.1.2.1, g.1.1.2.2.2.1, g.1.1.2.2.2.2⟩
theorem zm_tok (h : zm_B σ0 σ z) {t : Int32} (ht : t ≠ 3) : zm_V σ0 σ (sn_pI z 0 10 t) := ⟨zs_wrkt h.1.1 rfl rfl, ⟨h.2.2.1, h.1.2.2.1, fun _ => h.2.2.2, fun e => absurd e ht⟩, h.2.1, zm_o h.1.2.2.2.1, h.1.2.2.2.2⟩
theorem zm_adv (h : zm_G σ0 σ) (h8 : (σ.1 0 8).toInt ≤ (σ.1 0 7).toInt) : zs_ok (fX9_advance σ) (fun z => zm_V σ0 σ z) := by
  unfold fX9_advance
  refine zs_bd_ (zm_skip (σ := σ) ⟨h, Int.le_refl _, h8, fun _ _ => rfl, rfl⟩) (fun z1 g1 => ?_)
  unfold BX9_advance_39
  have b8 := zm_b (k := 8) g1.1 rfl
  refine zs_lt (Q := fun y => zm_A σ0 σ y ∧ y.1 0 9 = y.1 0 8) ⟨⟨zs_wrk (z := (0, 900)) (a := 0) (b := 900) g1.1 rfl b8 (by decide) rfl, g1.2.1, g1.2.2.1, zm_o g1.2.2.2.1, g1.2.2.2.2⟩, rfl⟩ (fun z2 g2 => ?_)
  have c8 := zm_b (k := 8) g2.1.1 rfl
  refine zs_bd_ (zm_see g2.1.1 c8.1) (fun t ht => zs_ite (fun _ => ?_) (fun c => ?_))
  · refine zs_lt (Q := fun u => zm_V σ0 σ u) ⟨zs_wrkt g2.1.1 rfl rfl, ⟨?_, g2.1.2.2.1, fun e => absurd rfl e, fun e => absurd (show (0 : Int32) = 3 from e) (by decide)⟩, ?_, zm_o g2.1.2.2.2.1, g2.1.2.2.2.2⟩ (fun u hu => zs_some hu)
    · show (z2.1 0 9).toInt ≤ (z2.1 0 8).toInt
      rw [g2.2]
      exact Int.le_refl _
    · show (σ.1 0 8).toInt ≤ (z2.1 0 9).toInt
      rw [g2.2]
      exact g2.1.2.1
  · have hlt : (z2.1 0 8).toInt < (z2.1 0 7).toInt := ht c
    have hB : zm_B σ0 σ z2 := ⟨g2.1, by rw [g2.2]; exact g2.1.2.1, by rw [g2.2]; exact Int.le_refl _, by rw [g2.2]; exact hlt⟩
    refine zs_bd_ (zm_in1 t) (fun t6 _ => zs_ite (fun _ => ?_) (fun _ => ?_))
    · refine zs_bd_ (zm_in2 t) (fun t9 _ => zs_ite (fun _ => ?_) (fun _ => ?_))
      · exact zs_ite (fun _ => zm_226 hB hlt) (fun _ => zm_226 hB hlt)
      · refine zs_lt (Q := fun y => zm_B σ0 σ y) (zm_B11 hB) (fun z3 g3 => zs_bd_ (zm_digits g3) (fun z4 g4 => ?_))
        unfold BX9_advance_206
        exact zs_lt (Q := fun u => zm_V σ0 σ u) (zm_tok g4 (by decide)) (fun u hu => zs_some hu)
    · refine zs_bd_ (zm_word hB) (fun z4 g4 => ?_)
      unfold BX9_advance_117
      exact zs_lt (Q := fun u => zm_V σ0 σ u) (zm_tok g4 (by decide)) (fun u hu => zs_some hu)
theorem zm_VP (hp : zm_pos σ) (h : zm_V σ0 σ z) : zm_P σ0 σ z := ⟨h.1, h.2.1, Int.le_trans hp.1 h.2.2.1, h.2.2.2.1⟩
theorem zm_good : zs_ok (fX9_good σ) (fun t => (t = 0 → σ.1 0 12 ≠ 0) ∧ (t ≠ 0 → σ.1 0 12 = 0)) := by
  unfold fX9_good
  exact zs_ite (fun c => zs_gd (by decide) (zs_some ⟨fun e => absurd e (by decide), fun _ => c⟩)) (fun c => zs_gd (by decide) (zs_some ⟨fun _ => c, fun e => absurd rfl e⟩))
theorem zm_errs (h : zm_G σ0 σ) (hp : zm_pos σ) {x : Int32} (hx : zs_in x.toInt 1 3) : zs_ok (fX9_errs σ x) (fun z => zm_P σ0 σ z ∧ z.1 0 12 ≠ 0) := by
  unfold fX9_errs
  refine zs_bd_ zm_good (fun t ht => zs_ite (fun c => zs_some ⟨zm_P0 h hp, ht.1 c⟩) (fun _ => ?_))
  have hx0 : x ≠ 0 := fun e => by
    rw [e] at hx
    exact absurd hx (by decide)
  refine zs_lt (Q := fun z => zm_P σ0 σ z ∧ z.1 0 12 ≠ 0) ⟨⟨zs_wrk (z := (0, 3)) h rfl hx (by decide) rfl, hp, Int.le_refl _, zm_o (fun _ _ => rfl)⟩, hx0⟩ (fun z1 g1 => ?_)
  exact zs_lt (Q := fun z => zm_P σ0 σ z ∧ z.1 0 12 ≠ 0) ⟨⟨zs_wrkt g1.1.1 rfl rfl, g1.1.2.1, g1.1.2.2.1, zm_o g1.1.2.2.2⟩, g1.2⟩ (fun z2 g2 => zs_some g2)
theorem zm_is36 (h : zm_G σ0 σ) {k : Nat} (hk : k < 16) {t : Int32} (ht : t = 0 ∨ (t = 1 ∧ (σ.1 0 9).toInt + ((sn_len.getD k 0 : Nat) : Int) ≤ 900)) : zs_ok (BX9_is_36 σ k t) (fun r => zs_in r.toInt 0 1) := by
  have hL : sn_len.getD k 0 < 8 := sn_len8 k hk
  have b9 := zm_b (k := 9) h rfl
  have es : sn_slen k = some (Int32.ofNat (sn_len.getD k 0)) := by
    unfold sn_slen
    rw [if_pos hk]
  have eL : (Int32.ofNat (sn_len.getD k 0)).toInt = ((sn_len.getD k 0 : Nat) : Int) := nI_toInt (by omega)
  unfold BX9_is_36
  refine zs_bd_ (zs_it (E := fun r : Int32 => zs_in r.toInt 0 1) (I := fun s : Int32 × Int32 => zs_in s.1.toInt 0 1 ∧ 0 ≤ s.2.toInt ∧ s.2.toInt ≤ ((sn_len.getD k 0 : Nat) : Int) ∧ (s.1 ≠ 0 → (σ.1 0 9).toInt + ((sn_len.getD k 0 : Nat) : Int) ≤ 900)) (m := fun s => 100 - s.2.toInt) (fun s hs => ⟨by have := hs.2; omega, by have := hs.2; omega⟩) (fun s hs => ?_) ?_) (fun r hr => ?_)
  · unfold LX9_is_39 BX9_is_39
    rw [es]
    show zs_ok (if Int32.ofNat (sn_len.getD k 0) ≤ s.2 then _ else _) _
    refine zs_ite (fun _ => zs_some (zs_inr hs.1)) (fun c => zs_ite (fun _ => zs_some (zs_inr hs.1)) (fun c2 => ?_))
    have c1 := zs_I_len c
    rw [eL] at c1
    have h9 := hs.2.2.2 c2
    have e5 : (sn_I σ 0 9 + s.2).toInt = (σ.1 0 9).toInt + s.2.toInt := by
      show (σ.1 0 9 + s.2).toInt = _
      rw [Int32.toInt_add, zs_bm ⟨by omega, by omega⟩]
    have e6 : ∃ v, sn_sat k s.2 = some v := by
      unfold sn_sat
      rw [if_pos ⟨hk, zs_gin (a := 0) (b := ((sn_len.getD k 0 : Nat) : Int) - 1) ⟨by omega, by omega⟩ ⟨by omega, by omega⟩⟩]
      exact ⟨_, rfl⟩
    obtain ⟨v, ev⟩ := e6
    refine zs_gd (zs_gin (a := 0) (b := 899) ⟨by omega, by omega⟩ (by decide)) ?_
    rw [ev]
    have e7 := zk_inc (x := s.2) hs.2.1 (by omega)
    have nx : ∀ t0 : Int32, zs_in t0.toInt 0 1 → zs_ok (BX9_is_75 σ k s.1 s.2 t0) (zs_sum (fun s' : Int32 × Int32 => (zs_in s'.1.toInt 0 1 ∧ 0 ≤ s'.2.toInt ∧ s'.2.toInt ≤ ((sn_len.getD k 0 : Nat) : Int) ∧ (s'.1 ≠ 0 → (σ.1 0 9).toInt + ((sn_len.getD k 0 : Nat) : Int) ≤ 900)) ∧ 100 - s'.2.toInt < 100 - s.2.toInt) (fun r : Int32 => zs_in r.toInt 0 1)) := by
      intro t0 h0
      unfold BX9_is_75
      refine zs_lt (Q := fun y => y = s.2 + 1) rfl (fun y hy => ?_)
      subst hy
      exact zs_some (zs_inl ⟨⟨h0, by show 0 ≤ (s.2 + 1).toInt; omega, by show (s.2 + 1).toInt ≤ _; omega, fun _ => h9⟩, by show 100 - (s.2 + 1).toInt < _; omega⟩)
    show zs_ok (if sn_I σ 4 (sn_I σ 0 9 + s.2).toNatClampNeg = v then _ else _) _
    exact zs_ite (fun _ => nx 1 (by decide)) (fun _ => nx 0 (by decide))
  · have z0 : (0 : Int32).toInt = 0 := by decide
    refine ⟨?_, (show (0 : Int) ≤ (0 : Int32).toInt by decide), (show (0 : Int32).toInt ≤ ((sn_len.getD k 0 : Nat) : Int) by omega), fun e => ?_⟩
    · rcases ht with e | e
      · show zs_in t.toInt 0 1
        rw [e]
        decide
      · show zs_in t.toInt 0 1
        rw [e.1]
        decide
    · rcases ht with e2 | e2
      · exact absurd e2 e
      · exact e2.2
  · unfold BX9_is_82
    exact zs_gd (zs_b01 hr (by decide)) (zs_some hr)
theorem zm_is (h : zm_G σ0 σ) (hp : zm_pos σ) {k : Nat} (hk : k < 16) : zs_ok (fX9_is σ k) (fun r => zs_in r.toInt 0 1) := by
  have z35 : zs_ok (BX9_is_35 σ k) (fun r => zs_in r.toInt 0 1) := by
    unfold BX9_is_35
    exact zm_is36 h hk (Or.inl rfl)
  have hL : sn_len.getD k 0 < 8 := sn_len8 k hk
  have es : sn_slen k = some (Int32.ofNat (sn_len.getD k 0)) := by
    unfold sn_slen
    rw [if_pos hk]
  unfold fX9_is
  refine zs_bd_ zm_good (fun t _ => zs_ite (fun _ => z35) (fun _ => zs_ite (fun _ => ?_) (fun _ => z35)))
  rw [es]
  show zs_ok (if (sn_I σ 0 8 - sn_I σ 0 9) = Int32.ofNat (sn_len.getD k 0) then _ else _) _
  refine zs_ite (fun c => zm_is36 h hk (Or.inr ⟨rfl, ?_⟩)) (fun _ => z35)
  have b9 := zm_b (k := 9) h rfl
  have b8 := zm_b (k := 8) h rfl
  have h1 := congrArg Int32.toInt c
  have h2 : (Int32.ofNat (sn_len.getD k 0)).toInt = ((sn_len.getD k 0 : Nat) : Int) := nI_toInt (by omega)
  rw [h2] at h1
  have h3 : (sn_I σ 0 8 - sn_I σ 0 9).toInt = (σ.1 0 8).toInt - (σ.1 0 9).toInt := by
    show (σ.1 0 8 - σ.1 0 9).toInt = _
    rw [Int32.toInt_sub, zs_bm ⟨by omega, by omega⟩]
  omega
theorem zm_advP (h : zm_G σ0 σ) (hp : zm_pos σ) : zs_ok (fX9_advance σ) (fun z => zm_P σ0 σ z) := zs_okw (zm_adv h hp.2.1) (fun _ hv => zm_VP hp hv)
theorem zm_takes (h : zm_G σ0 σ) (hp : zm_pos σ) {k : Nat} (hk : k < 16) : zs_ok (fX9_takes σ k) (fun r => zm_P σ0 σ r.2) := by
  unfold fX9_takes
  refine zs_bd_ (zm_is h hp hk) (fun t ht => zs_ite (fun _ => zs_gd (zs_b01 ht (by decide)) (zs_some (zm_P0 h hp))) (fun _ => ?_))
  exact zs_bd_ (zm_advP h hp) (fun u hu => zs_gd (zs_b01 ht (by decide)) (zs_some hu))
theorem zm_needs (h : zm_G σ0 σ) (hp : zm_pos σ) {k : Nat} (hk : k < 16) : zs_ok (fX9_needs σ k) (fun z => zm_P σ0 σ z) := by
  unfold fX9_needs
  refine zs_bd_ (zm_takes h hp hk) (fun t ht => zs_ite (fun _ => ?_) (fun _ => zs_some ht))
  exact zs_bd_ (zm_errs ht.1 ht.2.1 (by decide)) (fun u hu => zs_some (zm_Pt ht hu.1))
theorem zm_n47 (h : zm_G σ0 σ) (hp : zm_pos σ) {lo hi : Int} (hv : σ.1 0 12 = 0 → lo ≤ (σ.1 0 11).toInt ∧ (σ.1 0 11).toInt ≤ hi) : zs_ok (BX9_number_47 σ) (fun r => zm_P σ0 σ r.2 ∧ (r.1.toInt = 0 ∨ (lo ≤ r.1.toInt ∧ r.1.toInt ≤ hi))) := by
  unfold BX9_number_47
  refine zs_bd_ zm_good (fun t ht => zs_ite (fun _ => zs_some ⟨zm_P0 h hp, Or.inl (show (0 : Int32).toInt = 0 by decide)⟩) (fun c => ?_))
  refine zs_lt (Q := fun y => y = σ.1 0 11) rfl (fun y hy => zs_bd_ (zm_advP h hp) (fun u hu => zs_some ⟨hu, Or.inr ?_⟩))
  show lo ≤ y.toInt ∧ y.toInt ≤ hi
  rw [hy]
  exact hv (ht.2 c)
theorem zm_n20 (h : zm_G σ0 σ) (hp : zm_pos σ) {lo hi : Int32} : zs_ok (BX9_number_20 σ lo hi) (fun r => zm_P σ0 σ r.2 ∧ (r.1.toInt = 0 ∨ (lo.toInt ≤ r.1.toInt ∧ r.1.toInt ≤ hi.toInt))) := by
  unfold BX9_number_20
  refine zs_bd_ zm_good (fun t ht => zs_ite (fun c => zm_n47 h hp (fun e => absurd e (ht.1 c))) (fun c => ?_))
  refine zs_bd_ (zm_in (sn_I σ 0 11) lo hi) (fun u hu => zs_ite (fun _ => ?_) (fun c2 => zm_n47 h hp (fun _ => hu c2)))
  refine zs_bd_ (zm_errs h hp (by decide)) (fun z hz => ?_)
  exact zs_okw (zm_n47 (lo := lo.toInt) (hi := hi.toInt) hz.1.1 hz.1.2.1 (fun e => absurd e hz.2)) (fun r hr => ⟨zm_Pt hz.1 hr.1, hr.2⟩)
theorem zm_number (h : zm_G σ0 σ) (hp : zm_pos σ) {lo hi : Int32} : zs_ok (fX9_number σ lo hi) (fun r => zm_P σ0 σ r.2 ∧ (r.1.toInt = 0 ∨ (lo.toInt ≤ r.1.toInt ∧ r.1.toInt ≤ hi.toInt))) := by
  unfold fX9_number
  refine zs_bd_ zm_good (fun t _ => zs_ite (fun _ => zm_n20 h hp) (fun _ => zs_ite (fun _ => zm_n20 h hp) (fun _ => ?_)))
  refine zs_bd_ (zm_errs h hp (by decide)) (fun z hz => ?_)
  exact zs_okw (zm_n20 hz.1.1 hz.1.2.1) (fun r hr => ⟨zm_Pt hz.1 hr.1, hr.2⟩)
theorem zm_told (h : zm_G σ0 σ) (hp : zm_pos σ) {k : Nat} (hk : k < 16) {lo hi : Int32} : zs_ok (fX9_told σ k lo hi) (fun r => zm_P σ0 σ r.2 ∧ (r.1.toInt = 0 ∨ (lo.toInt ≤ r.1.toInt ∧ r.1.toInt ≤ hi.toInt))) := by
  unfold fX9_told
  refine zs_bd_ (zm_needs h hp hk) (fun t ht => zs_bd_ (zm_number ht.1 ht.2.1) (fun u hu => zs_some ⟨zm_Pt ht hu.1, hu.2⟩))
end
/-! the reference's rows -/
def zm_L (σ0 s z : sn_S) : Prop := zm_G σ0 z ∧ zm_pos z ∧ (s.1 0 9).toInt ≤ (z.1 0 9).toInt ∧ ∀ k, 5 ≤ k → k ≤ 10 → z.1 6 k = s.1 6 k
def zm_E (σ0 s z : sn_S) : Prop := zm_G σ0 z ∧ zm_pos z ∧ (s.1 0 9).toInt ≤ (z.1 0 9).toInt ∧ z.1 6 10 = s.1 6 10
def zm_F (k c : Nat) (lim : Int32) (z : sn_S) : Prop := z.1 0 12 = 0 → ∀ v, fX9_is z k = some v → v ≠ 0 → z.1 6 c ≠ lim
def zm_W (z : sn_S) : Prop := z.1 0 12 = 0 → ∀ v6 v7 v8 v9, fX9_is z 6 = some v6 → fX9_is z 7 = some v7 → fX9_is z 8 = some v8 → fX9_is z 9 = some v9 → v6 = 0 → v7 = 0 → v8 = 0 → v9 ≠ 0
section
variable {σ0 σ z w s : sn_S}
theorem zm_Lp (h : zm_L σ0 s z) (p : zm_P σ0 z w) : zm_L σ0 s w := ⟨p.1, p.2.1, Int.le_trans h.2.2.1 p.2.2.1, fun k a b => by rw [p.2.2.2 6 (by decide)]; exact h.2.2.2 k a b⟩
theorem zm_LE (h : zm_L σ0 s z) : zm_E σ0 s z := ⟨h.1, h.2.1, h.2.2.1, h.2.2.2 10 (by decide) (by decide)⟩
theorem zm_pos6 {i : Nat} {v : Int32} (h : zm_pos z) : zm_pos (sn_pI z 6 i v) := by
  unfold zm_pos
  rw [pI_ne (show (0 : Nat) ≠ 6 by decide)]
  exact h
theorem zm_Lw {i : Nat} {v : Int32} (h : zm_L σ0 s z) (hi : ¬ (5 ≤ i ∧ i ≤ 10)) (hb : (zs_tM 6 i).1 ≤ v.toInt ∧ v.toInt ≤ (zs_tM 6 i).2) : zm_L σ0 s (sn_pI z 6 i v) := ⟨zs_wr h.1 hb rfl, zm_pos6 h.2.1, by
  rw [pI_ne (show (0 : Nat) ≠ 6 by decide)]
  exact h.2.2.1, fun k a b => by
  rw [pI_slot (fun e => hi ⟨by omega, by omega⟩)]
  exact h.2.2.2 k a b⟩
theorem zm_Ec {c : Nat} {v : Int32} (h : zm_L σ0 s z) (hc : c ≠ 10) (hb : (zs_tM 6 c).1 ≤ v.toInt ∧ v.toInt ≤ (zs_tM 6 c).2) : zm_E σ0 s (sn_pI z 6 c v) := ⟨zs_wr h.1 hb rfl, zm_pos6 h.2.1, by
  rw [pI_ne (show (0 : Nat) ≠ 6 by decide)]
  exact h.2.2.1, by
  rw [pI_slot (fun e => hc e.symm)]
  exact h.2.2.2 10 (by decide) (by decide)⟩
theorem zm_vb {lo hi : Int32} {v a b : Int} (h : v = 0 ∨ (lo.toInt ≤ v ∧ v ≤ hi.toInt)) (hl : a ≤ 0 ∧ 0 ≤ b ∧ a ≤ lo.toInt ∧ hi.toInt ≤ b) : a ≤ v ∧ v ≤ b := ⟨by omega, by omega⟩
theorem zm_readFirst (h : zm_L σ0 s σ) : zs_ok (fX9_readFirst σ) (fun z => zm_E σ0 s z) := by
  unfold fX9_readFirst
  refine zs_bd_ (zm_needs h.1 h.2.1 (by decide)) (fun t1 p1 => ?_)
  have h1 := zm_Lp h p1
  refine zs_bd_ (zm_told h1.1 h1.2.1 (by decide)) (fun r2 p2 => zs_gd (by decide) ?_)
  refine zs_lt (Q := fun z => zm_L σ0 s z) (zm_Lw (zm_Lp h1 p2.1) (by decide) (zm_vb p2.2 (by decide))) (fun z2 h2 => ?_)
  refine zs_bd_ (zm_told h2.1 h2.2.1 (by decide)) (fun r3 p3 => zs_gd (by decide) ?_)
  refine zs_lt (Q := fun z => zm_L σ0 s z) (zm_Lw (zm_Lp h2 p3.1) (by decide) (zm_vb p3.2 (by decide))) (fun z3 h3 => ?_)
  refine zs_bd_ (zm_told h3.1 h3.2.1 (by decide)) (fun r4 p4 => zs_gd (by decide) ?_)
  refine zs_lt (Q := fun z => zm_L σ0 s z) (zm_Lw (zm_Lp h3 p4.1) (by decide) (zm_vb p4.2 (by decide))) (fun z4 h4 => ?_)
  refine zs_bd_ (zm_told h4.1 h4.2.1 (by decide)) (fun r5 p5 => zs_gd (by decide) ?_)
  refine zs_lt (Q := fun z => zm_L σ0 s z) (zm_Lw (zm_Lp h4 p5.1) (by decide) (zm_vb p5.2 (by decide))) (fun z5 h5 => ?_)
  refine zs_bd_ (zm_told h5.1 h5.2.1 (by decide)) (fun r6 p6 => zs_gd (by decide) ?_)
  exact zs_lt (Q := fun z => zm_L σ0 s z) (zm_Lw (zm_Lp h5 p6.1) (by decide) (zm_vb p6.2 (by decide))) (fun z6 h6 => zs_some (zm_LE h6))
theorem zm_hi5 (h : zm_G σ0 z) : ((sn_I z 6 (5 : Int32).toNatClampNeg) - (1 : Int32)).toInt ≤ 5 := by
  have hb : zs_in (sn_I z 6 (5 : Int32).toNatClampNeg).toInt 0 6 := zs_rdk (q := 6) (k := (5 : Int32).toNatClampNeg) (z := (0, 6)) h.1 rfl
  exact (zs_subI (-1) 5 hb (show zs_in (1 : Int32).toInt 1 1 by decide) (by decide)).2
theorem zm_tp : ∀ n, n < 6 → zs_tM 6 (49 + 5 * n + 0) = (0, 5) ∧ zs_tM 6 (49 + 5 * n + 1) = (0, 29) ∧ zs_tM 6 (49 + 5 * n + 2) = (0, 29) ∧ zs_tM 6 (49 + 5 * n + 3) = (0, 99) ∧ zs_tM 6 (49 + 5 * n + 4) = (0, 99) := by decide +kernel
theorem zm_tn : ∀ n, n < 8 → zs_tM 6 (33 + 2 * n) = (0, 5) ∧ zs_tM 6 (33 + 2 * n + 1) = (0, 5) := by decide +kernel
theorem zm_tg : ∀ n, n < 5 → zs_tM 6 (23 + 2 * n) = (0, 29) ∧ zs_tM 6 (23 + 2 * n + 1) = (0, 29) := by decide +kernel
theorem zm_to : ∀ n, n < 6 → zs_tM 6 (11 + 2 * n) = (0, 99) ∧ zs_tM 6 (11 + 2 * n + 1) = (0, 99) := by decide +kernel
theorem zm_readPolicy {n : Nat} (h : zm_L σ0 s σ) (hn : s.1 6 8 = nI n) (h5 : n < 6) : zs_ok (fX9_readPolicy σ) (fun z => zm_E σ0 s z) := by
  obtain ⟨q0, q1, q2, q3, q4⟩ := zm_tp n h5
  have ec : ∀ z, zm_L σ0 s z → sn_I z 6 (8 : Int32).toNatClampNeg = nI n := fun z hz => (hz.2.2.2 8 (by decide) (by decide)).trans hn
  unfold fX9_readPolicy
  rw [ec σ h]
  refine zs_gd (by decide) ?_
  refine zs_lt (Q := fun y => y = nI (49 + 5 * n)) (by rw [zk_5n]; exact nI_add 49 (5 * n)) (fun y hy => ?_)
  subst hy
  rw [show nI (49 + 5 * n) + (0 : Int32) = nI (49 + 5 * n + 0) from nI_add _ 0, show nI (49 + 5 * n) + (1 : Int32) = nI (49 + 5 * n + 1) from nI_add _ 1, show nI (49 + 5 * n) + (2 : Int32) = nI (49 + 5 * n + 2) from nI_add _ 2, show nI (49 + 5 * n) + (3 : Int32) = nI (49 + 5 * n + 3) from nI_add _ 3, show nI (49 + 5 * n) + (4 : Int32) = nI (49 + 5 * n + 4) from nI_add _ 4]
  rw [nI_clamp (show 49 + 5 * n + 0 < 2 ^ 31 by omega), nI_clamp (show 49 + 5 * n + 1 < 2 ^ 31 by omega), nI_clamp (show 49 + 5 * n + 2 < 2 ^ 31 by omega), nI_clamp (show 49 + 5 * n + 3 < 2 ^ 31 by omega), nI_clamp (show 49 + 5 * n + 4 < 2 ^ 31 by omega)]
  refine zs_gd (by decide) (zs_bd_ (zm_number h.1 h.2.1) (fun r1 p1 => zs_gd (sn_in_nI (by omega) (by decide)) ?_))
  refine zs_lt (Q := fun z => zm_L σ0 s z) (zm_Lw (zm_Lp h p1.1) (by omega) (by rw [q0]; exact zm_vb p1.2 ⟨by decide, by decide, by decide, zm_hi5 h.1⟩)) (fun z1 h1 => ?_)
  refine zs_bd_ (zm_told h1.1 h1.2.1 (by decide)) (fun r2 p2 => zs_gd (sn_in_nI (by omega) (by decide)) ?_)
  refine zs_lt (Q := fun z => zm_L σ0 s z) (zm_Lw (zm_Lp h1 p2.1) (by omega) (by rw [q1]; exact zm_vb p2.2 (by decide))) (fun z2 h2 => ?_)
  have lo2 : 0 ≤ (sn_I z2 6 (49 + 5 * n + 1)).toInt := by
    have := h2.1.1.1 6 (49 + 5 * n + 1)
    rw [q1] at this
    exact this.1
  refine zs_gd (sn_in_nI (by omega) (by decide)) (zs_bd_ (zm_told h2.1 h2.2.1 (by decide)) (fun r3 p3 => zs_gd (sn_in_nI (by omega) (by decide)) ?_))
  refine zs_lt (Q := fun z => zm_L σ0 s z) (zm_Lw (zm_Lp h2 p3.1) (by omega) (by rw [q2]; exact zm_vb p3.2 ⟨by decide, by decide, lo2, by decide⟩)) (fun z3 h3 => ?_)
  refine zs_bd_ (zm_told h3.1 h3.2.1 (by decide)) (fun r4 p4 => zs_gd (sn_in_nI (by omega) (by decide)) ?_)
  refine zs_lt (Q := fun z => zm_L σ0 s z) (zm_Lw (zm_Lp h3 p4.1) (by omega) (by rw [q3]; exact zm_vb p4.2 (by decide))) (fun z4 h4 => ?_)
  refine zs_bd_ (zm_told h4.1 h4.2.1 (by decide)) (fun r5 p5 => zs_gd (sn_in_nI (by omega) (by decide)) ?_)
  refine zs_lt (Q := fun z => zm_L σ0 s z) (zm_Lw (zm_Lp h4 p5.1) (by omega) (by rw [q4]; exact zm_vb p5.2 (by decide))) (fun z5 h5 => ?_)
  refine zs_gd (by decide) (zs_gd (by decide) (zs_lt (Q := fun z => zm_E σ0 s z) (zm_Ec h5 (by decide) ?_) (fun z6 h6 => zs_some h6)))
  rw [ec z5 h5, show zs_tM 6 (8 : Int32).toNatClampNeg = (0, 6) from rfl, show nI n + (1 : Int32) = nI (n + 1) from nI_1 _, nI_toInt (by omega)]
  exact ⟨by omega, by omega⟩
theorem zm_67 {n : Nat} {y5 : Int32} (h : zm_L σ0 s z) (hn : s.1 6 7 = nI n) (h7 : n < 8) (hy : y5.toInt ≤ 5) : zs_ok (BX9_readNet_67 z (nI (33 + 2 * n)) y5) (fun z => zm_E σ0 s z) := by
  have ec : ∀ z, zm_L σ0 s z → sn_I z 6 (7 : Int32).toNatClampNeg = nI n := fun z hz => (hz.2.2.2 7 (by decide) (by decide)).trans hn
  unfold BX9_readNet_67
  rw [show nI (33 + 2 * n) + (1 : Int32) = nI (33 + 2 * n + 1) from nI_1 _, nI_clamp (show 33 + 2 * n + 1 < 2 ^ 31 by omega)]
  refine zs_bd_ (zm_number h.1 h.2.1) (fun r1 p1 => zs_gd (sn_in_nI (by omega) (by decide)) ?_)
  refine zs_lt (Q := fun z => zm_L σ0 s z) (zm_Lw (zm_Lp h p1.1) (by omega) (by rw [(zm_tn n h7).2]; exact zm_vb p1.2 ⟨by decide, by decide, by decide, hy⟩)) (fun z1 h1 => ?_)
  refine zs_gd (by decide) (zs_gd (by decide) (zs_lt (Q := fun z => zm_E σ0 s z) (zm_Ec h1 (by decide) ?_) (fun z6 h6 => zs_some h6)))
  rw [ec z1 h1, show zs_tM 6 (7 : Int32).toNatClampNeg = (0, 8) from rfl, show nI n + (1 : Int32) = nI (n + 1) from nI_1 _, nI_toInt (by omega)]
  exact ⟨by omega, by omega⟩
theorem zm_readNet {n : Nat} (h : zm_L σ0 s σ) (hn : s.1 6 7 = nI n) (h7 : n < 8) : zs_ok (fX9_readNet σ) (fun z => zm_E σ0 s z) := by
  have ec : sn_I σ 6 (7 : Int32).toNatClampNeg = nI n := (h.2.2.2 7 (by decide) (by decide)).trans hn
  unfold fX9_readNet
  rw [ec]
  refine zs_gd (by decide) ?_
  refine zs_lt (Q := fun y => y = nI (33 + 2 * n)) (by rw [zk_2n]; exact nI_add 33 (2 * n)) (fun y hy => ?_)
  subst hy
  rw [nI_clamp (show 33 + 2 * n < 2 ^ 31 by omega)]
  refine zs_gd (by decide) ?_
  refine zs_lt (Q := fun y : Int32 => y.toInt ≤ 5) (zm_hi5 h.1) (fun y5 hy5 => ?_)
  refine zs_bd_ (zm_number h.1 h.2.1) (fun r1 p1 => zs_gd (sn_in_nI (by omega) (by decide)) ?_)
  refine zs_lt (Q := fun z => zm_L σ0 s z) (zm_Lw (zm_Lp h p1.1) (by omega) (by rw [(zm_tn n h7).1]; exact zm_vb p1.2 ⟨by decide, by decide, by decide, hy5⟩)) (fun z1 h1 => ?_)
  refine zs_bd_ zm_good (fun t _ => zs_ite (fun _ => zm_67 h1 hn h7 hy5) (fun _ => zs_ite (fun _ => zs_gd (sn_in_nI (by omega) (by decide)) ?_) (fun _ => zm_67 h1 hn h7 hy5)))
  refine zs_ite (fun _ => ?_) (fun _ => zm_67 h1 hn h7 hy5)
  exact zs_bd_ (zm_errs h1.1 h1.2.1 (by decide)) (fun u hu => zm_67 (zm_Lp h1 hu.1) hn h7 hy5)
theorem zm_tk (h : zm_G σ0 z) (hp : zm_pos z) {k : Nat} (hk : k < 16) : zs_ok (fX9_takes z k) (fun r => fX9_is z k = some r.1 ∧ (r.1 = 0 → r.2 = z) ∧ zm_P σ0 z r.2) := by
  obtain ⟨v, e, hv⟩ := zm_is h hp hk
  unfold fX9_takes
  refine zs_bd_ (Q := fun t => t = v) ⟨v, e, rfl⟩ (fun t ht => ?_)
  subst ht
  refine zs_ite (fun _ => zs_gd (zs_b01 hv (by decide)) (zs_some ⟨e, fun _ => rfl, zm_P0 h hp⟩)) (fun c => ?_)
  exact zs_bd_ (zm_advP h hp) (fun u hu => zs_gd (zs_b01 hv (by decide)) (zs_some ⟨e, fun e0 => absurd e0 c, hu⟩))
theorem zm_cn {c : Nat} {b : Int} (h : zm_L σ0 s z) (h5 : 5 ≤ c ∧ c ≤ 10) (hc : zs_tM 6 c = (0, b)) (hb : b < 1000) : ∃ n : Nat, (n : Int) ≤ b ∧ s.1 6 c = nI n ∧ z.1 6 c = nI n := by
  have h1 := h.1.1.1 6 c
  rw [hc] at h1
  obtain ⟨j, j1, j2⟩ := zs_val (x := z.1 6 c) (a := 0) (b := b) h1 ⟨by decide, by omega⟩
  exact ⟨j, by omega, (h.2.2.2 c h5.1 h5.2).symm.trans j2, j2⟩
theorem zm_143 (h : zm_L σ0 s z) (f6 : zm_F 6 5 6 z) (f7 : zm_F 7 6 5 z) (f8 : zm_F 8 7 8 z) (f9 : zm_F 9 8 6 z) (hw : zm_W z) : zs_ok (BX9_readNext_143 z) (fun z => zm_E σ0 s z) := by
  obtain ⟨n5, b5, c5, d5⟩ := zm_cn (c := 5) h (by decide) rfl (by decide)
  obtain ⟨n6, b6, c6, d6⟩ := zm_cn (c := 6) h (by decide) rfl (by decide)
  obtain ⟨n7, b7, c7, d7⟩ := zm_cn (c := 7) h (by decide) rfl (by decide)
  obtain ⟨n8, b8, c8, d8⟩ := zm_cn (c := 8) h (by decide) rfl (by decide)
  unfold BX9_readNext_143
  refine zs_bd_ zm_good (fun t ht => zs_ite (fun _ => zs_some (zm_LE h)) (fun c => ?_))
  have g := ht.2 c
  refine zs_bd_ (zm_tk h.1 h.2.1 (by decide)) (fun r6 p6 => zs_ite (fun k6 => ?_) (fun k6 => ?_))
  · rw [p6.2.1 k6]
    refine zs_bd_ (zm_tk h.1 h.2.1 (by decide)) (fun r7 p7 => zs_ite (fun k7 => ?_) (fun k7 => ?_))
    · rw [p7.2.1 k7]
      refine zs_bd_ (zm_tk h.1 h.2.1 (by decide)) (fun r8 p8 => zs_ite (fun k8 => ?_) (fun k8 => ?_))
      · rw [p8.2.1 k8]
        have k9 : n8 < 6 := by
          obtain ⟨v9, e9, _⟩ := zm_is h.1 h.2.1 (k := 9) (by decide)
          have h9 := hw g _ _ _ _ p6.1 p7.1 p8.1 e9 k6 k7 k8
          have h10 := f9 g v9 e9 h9
          rw [d8] at h10
          have : n8 ≠ 6 := fun e => h10 (by rw [e]; rfl)
          omega
        refine zs_bd_ (zm_advP h.1 h.2.1) (fun u hu => zs_bd_ (zm_readPolicy (zm_Lp h hu) c8 k9) (fun v hv => zs_some hv))
      · have k9 : n7 < 8 := by
          have h10 := f8 g _ p8.1 k8
          rw [d7] at h10
          have : n7 ≠ 8 := fun e => h10 (by rw [e]; rfl)
          omega
        exact zs_bd_ (zm_readNet (zm_Lp h p8.2.2) c7 k9) (fun v hv => zs_some hv)
    · have k9 : n6 < 5 := by
        have h10 := f7 g _ p7.1 k7
        rw [d6] at h10
        have : n6 ≠ 5 := fun e => h10 (by rw [e]; rfl)
        omega
      have h0 := zm_Lp h p7.2.2
      have ec : ∀ z, zm_L σ0 s z → sn_I z 6 (6 : Int32).toNatClampNeg = nI n6 := fun z hz => (hz.2.2.2 6 (by decide) (by decide)).trans c6
      refine zs_gd (by decide) ?_
      refine zs_lt (Q := fun y => y = nI (23 + 2 * n6)) (by rw [ec _ h0, zk_2n]; exact nI_add 23 (2 * n6)) (fun y hy => ?_)
      subst hy
      rw [show nI (23 + 2 * n6) + (1 : Int32) = nI (23 + 2 * n6 + 1) from nI_1 _, nI_clamp (show 23 + 2 * n6 < 2 ^ 31 by omega), nI_clamp (show 23 + 2 * n6 + 1 < 2 ^ 31 by omega)]
      refine zs_bd_ (zm_number h0.1 h0.2.1) (fun r1 p1 => zs_gd (sn_in_nI (by omega) (by decide)) ?_)
      refine zs_lt (Q := fun z => zm_L σ0 s z) (zm_Lw (zm_Lp h0 p1.1) (by omega) (by rw [(zm_tg n6 k9).1]; exact zm_vb p1.2 (by decide))) (fun z1 h1 => ?_)
      refine zs_bd_ (zm_told h1.1 h1.2.1 (by decide)) (fun r2 p2 => zs_gd (sn_in_nI (by omega) (by decide)) ?_)
      refine zs_lt (Q := fun z => zm_L σ0 s z) (zm_Lw (zm_Lp h1 p2.1) (by omega) (by rw [(zm_tg n6 k9).2]; exact zm_vb p2.2 (by decide))) (fun z2 h2 => ?_)
      refine zs_gd (by decide) (zs_gd (by decide) (zs_lt (Q := fun z => zm_E σ0 s z) (zm_Ec h2 (by decide) ?_) (fun z6 h6 => zs_some h6)))
      rw [ec z2 h2, show zs_tM 6 (6 : Int32).toNatClampNeg = (0, 5) from rfl, show nI n6 + (1 : Int32) = nI (n6 + 1) from nI_1 _, nI_toInt (by omega)]
      exact ⟨by omega, by omega⟩
  · have k9 : n5 < 6 := by
      have h10 := f6 g _ p6.1 k6
      rw [d5] at h10
      have : n5 ≠ 6 := fun e => h10 (by rw [e]; rfl)
      omega
    have h0 := zm_Lp h p6.2.2
    have ec : ∀ z, zm_L σ0 s z → sn_I z 6 (5 : Int32).toNatClampNeg = nI n5 := fun z hz => (hz.2.2.2 5 (by decide) (by decide)).trans c5
    refine zs_gd (by decide) ?_
    refine zs_lt (Q := fun y => y = nI (11 + 2 * n5)) (by rw [ec _ h0, zk_2n]; exact nI_add 11 (2 * n5)) (fun y hy => ?_)
    subst hy
    rw [show nI (11 + 2 * n5) + (1 : Int32) = nI (11 + 2 * n5 + 1) from nI_1 _, nI_clamp (show 11 + 2 * n5 < 2 ^ 31 by omega), nI_clamp (show 11 + 2 * n5 + 1 < 2 ^ 31 by omega)]
    refine zs_bd_ (zm_number h0.1 h0.2.1) (fun r1 p1 => zs_gd (sn_in_nI (by omega) (by decide)) ?_)
    refine zs_lt (Q := fun z => zm_L σ0 s z) (zm_Lw (zm_Lp h0 p1.1) (by omega) (by rw [(zm_to n5 k9).1]; exact zm_vb p1.2 (by decide))) (fun z1 h1 => ?_)
    refine zs_bd_ (zm_told h1.1 h1.2.1 (by decide)) (fun r2 p2 => zs_gd (sn_in_nI (by omega) (by decide)) ?_)
    refine zs_lt (Q := fun z => zm_L σ0 s z) (zm_Lw (zm_Lp h1 p2.1) (by omega) (by rw [(zm_to n5 k9).2]; exact zm_vb p2.2 (by decide))) (fun z2 h2 => ?_)
    refine zs_gd (by decide) (zs_gd (by decide) (zs_lt (Q := fun z => zm_E σ0 s z) (zm_Ec h2 (by decide) ?_) (fun z6 h6 => zs_some h6)))
    rw [ec z2 h2, show zs_tM 6 (5 : Int32).toNatClampNeg = (0, 6) from rfl, show nI n5 + (1 : Int32) = nI (n5 + 1) from nI_1 _, nI_toInt (by omega)]
    exact ⟨by omega, by omega⟩
theorem zm_isq (h : zm_G σ0 z) (hp : zm_pos z) {k : Nat} (hk : k < 16) : zs_ok (fX9_is z k) (fun t => fX9_is z k = some t) := by
  obtain ⟨v, e, _⟩ := zm_is h hp hk
  exact ⟨v, e, e⟩
theorem zm_F0 {k c : Nat} {lim t : Int32} (e : fX9_is z k = some t) (ht : t = 0) : zm_F k c lim z := fun _ v e2 hv => by
  rw [e] at e2
  cases e2
  exact absurd ht hv
theorem zm_Fn {k c : Nat} {lim : Int32} (hz : z.1 0 12 ≠ 0) : zm_F k c lim z := fun g => absurd g hz
theorem zm_Wn (hz : z.1 0 12 ≠ 0) : zm_W z := fun g => absurd g hz
theorem zm_138 (h : zm_L σ0 s z) : zs_ok (BX9_readNext_138 z) (fun z => zm_E σ0 s z) := by
  unfold BX9_readNext_138
  exact zs_bd_ (zm_errs h.1 h.2.1 (by decide)) (fun u hu => zm_143 (zm_Lp h hu.1) (zm_Fn hu.2) (zm_Fn hu.2) (zm_Fn hu.2) (zm_Fn hu.2) (zm_Wn hu.2))
theorem zm_117 (h : zm_L σ0 s z) (f6 : zm_F 6 5 6 z) (f7 : zm_F 7 6 5 z) (f8 : zm_F 8 7 8 z) (hw : zm_W z) : zs_ok (BX9_readNext_117 z) (fun z => zm_E σ0 s z) := by
  unfold BX9_readNext_117
  refine zs_bd_ (zm_isq h.1 h.2.1 (by decide)) (fun t e => zs_ite (fun c => zm_143 h f6 f7 f8 (zm_F0 e c) hw) (fun _ => zs_gd (by decide) ?_))
  exact zs_ite (fun _ => zm_138 h) (fun c => zm_143 h f6 f7 f8 (fun _ _ _ _ => c) hw)
theorem zm_96 (h : zm_L σ0 s z) (f6 : zm_F 6 5 6 z) (f7 : zm_F 7 6 5 z) (hw : zm_W z) : zs_ok (BX9_readNext_96 z) (fun z => zm_E σ0 s z) := by
  unfold BX9_readNext_96
  refine zs_bd_ (zm_isq h.1 h.2.1 (by decide)) (fun t e => zs_ite (fun c => zm_117 h f6 f7 (zm_F0 e c) hw) (fun _ => zs_gd (by decide) ?_))
  exact zs_ite (fun _ => zm_138 h) (fun c => zm_117 h f6 f7 (fun _ _ _ _ => c) hw)
theorem zm_91 (h : zm_L σ0 s z) : zs_ok (BX9_readNext_91 z) (fun z => zm_E σ0 s z) := by
  unfold BX9_readNext_91
  exact zs_bd_ (zm_errs h.1 h.2.1 (by decide)) (fun u hu => zm_96 (zm_Lp h hu.1) (zm_Fn hu.2) (zm_Fn hu.2) (zm_Wn hu.2))
theorem zm_71 (h : zm_L σ0 s z) (f6 : zm_F 6 5 6 z) (hw : zm_W z) : zs_ok (BX9_readNext_71 z) (fun z => zm_E σ0 s z) := by
  unfold BX9_readNext_71
  refine zs_bd_ (zm_isq h.1 h.2.1 (by decide)) (fun t e => zs_ite (fun c => zm_96 h f6 (zm_F0 e c) hw) (fun _ => zs_gd (by decide) ?_))
  exact zs_ite (fun _ => zm_91 h) (fun c => zm_96 h f6 (fun _ _ _ _ => c) hw)
theorem zm_51 (h : zm_L σ0 s z) (hw : zm_W z) : zs_ok (BX9_readNext_51 z) (fun z => zm_E σ0 s z) := by
  unfold BX9_readNext_51
  refine zs_bd_ (zm_isq h.1 h.2.1 (by decide)) (fun t e => zs_ite (fun c => zm_71 h (zm_F0 e c) hw) (fun _ => zs_gd (by decide) ?_))
  exact zs_ite (fun _ => zm_91 h) (fun c => zm_71 h (fun _ _ _ _ => c) hw)
theorem zm_36 (h : zm_L σ0 s z) (hw : zm_W z) : zs_ok (BX9_readNext_36 z) (fun z => zm_E σ0 s z) := by
  unfold BX9_readNext_36 BX9_readNext_41
  exact zs_ite (fun c => absurd c (by decide)) (fun _ => zm_51 h hw)
theorem zm_eqv {k : Nat} {a b : Int32} (e : fX9_is z k = some a) (e2 : fX9_is z k = some b) : b = a := by
  rw [e] at e2
  cases e2
  rfl
theorem zm_readNext (h : zm_L σ0 s z) : zs_ok (fX9_readNext z) (fun z => zm_E σ0 s z) := by
  unfold fX9_readNext
  refine zs_bd_ (zm_isq h.1 h.2.1 (by decide)) (fun t6 e6 => zs_ite (fun c6 => ?_) (fun c6 => zm_36 h (fun _ v6 v7 v8 v9 k6 k7 k8 k9 z6 z7 z8 => absurd ((zm_eqv k6 e6).trans z6) c6)))
  refine zs_bd_ (zm_isq h.1 h.2.1 (by decide)) (fun t7 e7 => zs_ite (fun c7 => ?_) (fun c7 => zm_36 h (fun _ v6 v7 v8 v9 k6 k7 k8 k9 z6 z7 z8 => absurd ((zm_eqv k7 e7).trans z7) c7)))
  refine zs_bd_ (zm_isq h.1 h.2.1 (by decide)) (fun t8 e8 => zs_ite (fun c8 => ?_) (fun c8 => zm_36 h (fun _ v6 v7 v8 v9 k6 k7 k8 k9 z6 z7 z8 => absurd ((zm_eqv k8 e8).trans z8) c8)))
  refine zs_bd_ (zm_isq h.1 h.2.1 (by decide)) (fun t9 e9 => zs_ite (fun c9 => ?_) (fun c9 => zm_36 h (fun _ v6 v7 v8 v9 k6 k7 k8 k9 z6 z7 z8 z9 => c9 ((zm_eqv k9 e9).trans z9))))
  unfold BX9_readNext_41
  refine zs_ite (fun _ => ?_) (fun c => absurd rfl c)
  exact zs_bd_ (zm_errs h.1 h.2.1 (by decide)) (fun u hu => zm_51 (zm_Lp h hu.1) (zm_Wn hu.2))
/-- behind a row: one row more, and on the tape it has gone on -/
def zm_H (σ0 s w : sn_S) : Prop := zm_G σ0 w ∧ zm_pos w ∧ (w.1 6 10).toInt = (s.1 6 10).toInt + 1 ∧ (w.1 0 12 = 0 → (s.1 0 9).toInt + 1 ≤ (w.1 0 9).toInt)
theorem zm_52 (hs : 0 ≤ (s.1 6 10).toInt ∧ (s.1 6 10).toInt ≤ 899) (h : zm_E σ0 s z) (ho : z.1 0 12 = 0 → (s.1 0 9).toInt + 1 ≤ (z.1 0 9).toInt) : zs_ok (BX9_readLine_52 z) (fun w => zm_H σ0 s w) := by
  unfold BX9_readLine_52
  have e := zk_inc (x := z.1 6 10) (by rw [h.2.2.2]; exact hs.1) (by rw [h.2.2.2]; omega)
  rw [h.2.2.2] at e
  have e2 : ((sn_I z 6 (10 : Int32).toNatClampNeg) + (1 : Int32)).toInt = (s.1 6 10).toInt + 1 := by
    rw [show sn_I z 6 (10 : Int32).toNatClampNeg = s.1 6 10 from h.2.2.2]
    exact e
  refine zs_gd (by decide) (zs_gd (by decide) (zs_lt (Q := fun w => zm_H σ0 s w) ⟨zs_wr h.1 ?_ rfl, zm_pos6 h.2.1, e2, ?_⟩ (fun w hw => zs_some hw)))
  · rw [show zs_tM 6 (10 : Int32).toNatClampNeg = (0, 900) from rfl]
    exact ⟨by omega, by omega⟩
  · rw [pI_ne (show (0 : Nat) ≠ 6 by decide)]
    exact ho
theorem zm_41 (hs : 0 ≤ (s.1 6 10).toInt ∧ (s.1 6 10).toInt ≤ 899) (h : zm_E σ0 s z) (h3 : z.1 0 12 = 0 → z.1 0 10 = 3) : zs_ok (BX9_readLine_41 z) (fun w => zm_H σ0 s w) := by
  unfold BX9_readLine_41
  refine zs_bd_ zm_good (fun t ht => zs_ite (fun c => zm_52 hs h (fun g => absurd g (ht.1 c))) (fun c => ?_))
  have lt := h.2.1.2.2.2 (h3 (ht.2 c))
  refine zs_bd_ (zm_adv h.1 h.2.1.2.1) (fun u hu => zm_52 hs ⟨hu.1, hu.2.1, ?_, by rw [hu.2.2.2.1 6 (by decide)]; exact h.2.2.2⟩ (fun _ => ?_))
  · have h1 := h.2.2.1
    have h2 := hu.2.2.1
    omega
  · have h1 := h.2.2.1
    have h2 := hu.2.2.1
    omega
theorem zm_21 (hs : 0 ≤ (s.1 6 10).toInt ∧ (s.1 6 10).toInt ≤ 899) (h : zm_E σ0 s z) : zs_ok (BX9_readLine_21 z) (fun w => zm_H σ0 s w) := by
  unfold BX9_readLine_21
  refine zs_bd_ zm_good (fun t ht => zs_ite (fun c => zm_41 hs h (fun g => absurd g (ht.1 c))) (fun _ => zs_ite (fun c3 => zm_41 hs h (fun _ => c3)) (fun _ => ?_)))
  exact zs_bd_ (zm_errs h.1 h.2.1 (by decide)) (fun u hu => zm_41 hs ⟨hu.1.1, hu.1.2.1, Int.le_trans h.2.2.1 hu.1.2.2.1, by rw [hu.1.2.2.2 6 (by decide)]; exact h.2.2.2⟩ (fun g => absurd g hu.2))
theorem zm_readLine (h : zm_G σ0 s) (hp : zm_pos s) (hs : 0 ≤ (s.1 6 10).toInt ∧ (s.1 6 10).toInt ≤ 899) : zs_ok (fX9_readLine s) (fun w => zm_H σ0 s w) := by
  have hL : zm_L σ0 s s := ⟨h, hp, Int.le_refl _, fun _ _ _ => rfl⟩
  unfold fX9_readLine
  refine zs_gd (by decide) (zs_ite (fun _ => ?_) (fun _ => ?_))
  · exact zs_bd_ (zm_readFirst hL) (fun u hu => zm_21 hs hu)
  · exact zs_bd_ (zm_readNext hL) (fun u hu => zm_21 hs hu)
theorem zm_zero : ∀ k, (zs_tM 6 k).1 ≤ 0 ∧ 0 ≤ (zs_tM 6 k).2 := fun k => by
  have hc : (zs_cnt k).1 ≤ 0 ∧ 0 ≤ (zs_cnt k).2 := by
    unfold zs_cnt
    repeat' first | exact zs_bif (P := fun p : Int × Int => p.1 ≤ 0 ∧ 0 ≤ p.2) (by decide) (by decide) | refine zs_bif (P := fun p : Int × Int => p.1 ≤ 0 ∧ 0 ≤ p.2) (by decide) ?_
  have hp : ∀ j, (zs_pol j).1 ≤ 0 ∧ 0 ≤ (zs_pol j).2 := fun j => by
    unfold zs_pol
    exact zs_bif (P := fun p : Int × Int => p.1 ≤ 0 ∧ 0 ≤ p.2) (by decide) (zs_bif (P := fun p : Int × Int => p.1 ≤ 0 ∧ 0 ≤ p.2) (by decide) (by decide))
  show (zs_row k).1 ≤ 0 ∧ 0 ≤ (zs_row k).2
  unfold zs_row
  exact zs_bif (P := fun p : Int × Int => p.1 ≤ 0 ∧ 0 ≤ p.2) hc (zs_bif (P := fun p : Int × Int => p.1 ≤ 0 ∧ 0 ≤ p.2) (by decide) (zs_bif (P := fun p : Int × Int => p.1 ≤ 0 ∧ 0 ≤ p.2) (by decide) (zs_bif (P := fun p : Int × Int => p.1 ≤ 0 ∧ 0 ≤ p.2) (by decide) (zs_bif (P := fun p : Int × Int => p.1 ≤ 0 ∧ 0 ≤ p.2) (hp _) (by decide)))))
theorem zm_clear (h : zm_G σ0 σ) : zs_ok (sn_it LX9_house_30 5000 (σ, (0 : Int32))) (fun t => zm_G σ0 t ∧ (∀ q, q ≠ 6 → t.1 q = σ.1 q) ∧ t.1 6 10 = 0) := by
  refine zs_it (I := fun s : sn_S × Int32 => zm_G σ0 s.1 ∧ (∀ q, q ≠ 6 → s.1.1 q = σ.1 q) ∧ zs_in s.2.toInt 0 119 ∧ (10 < s.2.toInt → s.1.1 6 10 = 0)) (m := fun s => 119 - s.2.toInt) (fun s hs => ⟨by have := hs.2.2.1; omega, by have := hs.2.2.1; omega⟩) (fun s hs => ?_) ⟨h, fun _ _ => rfl, (show zs_in (0 : Int32).toInt 0 119 by decide), fun e => absurd e (by show ¬ (10 : Int) < (0 : Int32).toInt; decide)⟩
  obtain ⟨z, x⟩ := s
  have h1 : zm_G σ0 z := hs.1
  have h2 : ∀ q, q ≠ 6 → z.1 q = σ.1 q := hs.2.1
  have h3 : zs_in x.toInt 0 119 := hs.2.2.1
  have h4 : 10 < x.toInt → z.1 6 10 = 0 := hs.2.2.2
  unfold LX9_house_30 BX9_house_30
  refine zs_ite (fun c => zs_some (zs_inr ⟨h1, h2, h4 ?_⟩)) (fun c => ?_)
  · have c1 : (119 : Int32).toInt ≤ x.toInt := zs_I_le c
    rw [show (119 : Int32).toInt = 119 by decide] at c1
    omega
  · have c1 := zs_I_len c
    have c2 : x.toInt < 119 := c1
    refine zs_gd (zs_gin (a := 0) (b := 118) (show zs_in x.toInt 0 118 from ⟨h3.1, by omega⟩) (by decide)) ?_
    refine zs_lt (Q := fun y => y = sn_pI z 6 x.toNatClampNeg (0 : Int32)) rfl (fun y hy => ?_)
    have e1 := zk_inc (x := x) h3.1 (by omega)
    refine zs_lt (Q := fun v => v = x + 1) rfl (fun v hv => ?_)
    subst hv
    refine zs_some (zs_inl ⟨⟨?_, fun q hq => ?_, ?_, fun e => ?_⟩, by show 119 - (x + 1).toInt < 119 - x.toInt; omega⟩)
    · show zm_G σ0 y
      rw [hy]
      refine zs_wr h1 ?_ rfl
      have := zm_zero x.toNatClampNeg
      rw [show (0 : Int32).toInt = 0 by decide]
      exact this
    · show y.1 q = _
      rw [hy, pI_ne hq, h2 q hq]
    · show zs_in (x + 1).toInt 0 119
      exact ⟨by have := h3.1; omega, by omega⟩
    · show y.1 6 10 = 0
      have e : 10 < (x + 1).toInt := e
      rw [hy]
      by_cases e5 : 10 = x.toNatClampNeg
      · rw [← e5, pI_self]
      · rw [pI_slot e5]
        refine h4 ?_
        have e6 : x.toNatClampNeg = x.toInt.toNat := rfl
        omega
theorem zm_world (h : zm_G0 σ0 σ) : zs_ok (sn_it LX9_house_86 5000 (σ, (0 : Int32))) (fun t => zm_G0 σ0 t) := by
  refine zs_it (I := fun s : sn_S × Int32 => zm_G0 σ0 s.1 ∧ zs_in s.2.toInt 0 119) (m := fun s => 119 - s.2.toInt) (fun s hs => ⟨by have := hs.2; omega, by have := hs.2; omega⟩) (fun s hs => ?_) ⟨h, (show zs_in (0 : Int32).toInt 0 119 by decide)⟩
  obtain ⟨z, x⟩ := s
  have h1 : zm_G0 σ0 z := hs.1
  have h3 : zs_in x.toInt 0 119 := hs.2
  unfold LX9_house_86 BX9_house_86
  refine zs_ite (fun c => zs_some (zs_inr h1)) (fun c => ?_)
  have c1 := zs_I_len c
  have c2 : x.toInt < 119 := c1
  refine zs_gd (zs_gin (a := 0) (b := 118) (show zs_in x.toInt 0 118 from ⟨h3.1, by omega⟩) (by decide)) (zs_gd (zs_gin (a := 0) (b := 118) (show zs_in x.toInt 0 118 from ⟨h3.1, by omega⟩) (by decide)) ?_)
  refine zs_lt (Q := fun y => zm_G0 σ0 y) (zs_wrcp (q2 := 6) h1 (fun _ => rfl) (fun _ => rfl)) (fun y hy => ?_)
  have e1 := zk_inc (x := x) h3.1 (by omega)
  refine zs_lt (Q := fun v => v = x + 1) rfl (fun v hv => ?_)
  subst hv
  exact zs_some (zs_inl ⟨⟨hy, by show zs_in (x + 1).toInt 0 119; exact ⟨by have := h3.1; omega, by omega⟩⟩, by show 119 - (x + 1).toInt < 119 - x.toInt; omega⟩)
theorem zm_house {τ : sn_S} (h : zs_SB zs_tM τ) : ∃ r z, fX9_house τ = some (r, z) ∧ zs_SB zs_tM z ∧ z.1 0 5 = 0 ∧ z.1 3 = τ.1 3 ∧ z.1 21 = τ.1 21 ∧ z.1 22 = τ.1 22 ∧ z.2.1 23 = τ.2.1 23 ∧ z.1 2 = τ.1 2 := by
  have b5 := h.1 0 5
  rw [show zs_tM 0 5 = (0, 900) from rfl] at b5
  have z0 : (0 : Int32).toInt = 0 := by decide
  have key : zs_ok (fX9_house τ) (fun r => zs_SB zs_tM r.2 ∧ r.2.1 0 5 = 0 ∧ r.2.1 3 = τ.1 3 ∧ r.2.1 21 = τ.1 21 ∧ r.2.1 22 = τ.1 22 ∧ r.2.2.1 23 = τ.2.1 23 ∧ r.2.1 2 = τ.1 2) := by
    unfold fX9_house
    refine zs_lt (Q := fun z => zs_SB zs_tM z ∧ (∀ q, q ≠ 0 → z.1 q = τ.1 q) ∧ z.2 = τ.2) ⟨zs_sbw h b5, fun q hq => pI_ne hq, rfl⟩ (fun z1 g1 => ?_)
    refine zs_lt (Q := fun z => zs_SB zs_tM z ∧ (∀ q, q ≠ 0 → z.1 q = τ.1 q) ∧ z.2 = τ.2 ∧ z.1 0 5 = 0) ⟨zs_sbw g1.1 (by rw [z0, show zs_tM 0 5 = (0, 900) from rfl]; decide), fun q hq => (pI_ne hq).trans (g1.2.1 q hq), g1.2.2, rfl⟩ (fun z2 g2 => ?_)
    refine zs_lt (Q := fun z => zs_SB zs_tM z ∧ (∀ q, q ≠ 0 → z.1 q = τ.1 q) ∧ z.2 = τ.2 ∧ z.1 0 5 = 0 ∧ z.1 0 8 = 0) ⟨zs_sbw g2.1 (by rw [z0, show zs_tM 0 8 = (0, 900) from rfl]; decide), fun q hq => (pI_ne hq).trans (g2.2.1 q hq), g2.2.2.1, g2.2.2.2, rfl⟩ (fun z3 g3 => ?_)
    refine zs_lt (Q := fun z => zs_SB zs_tM z ∧ (∀ q, q ≠ 0 → z.1 q = τ.1 q) ∧ z.2 = τ.2 ∧ z.1 0 5 = 0 ∧ z.1 0 8 = 0) ⟨zs_sbw g3.1 (by rw [z0, show zs_tM 0 12 = (0, 3) from rfl]; decide), fun q hq => (pI_ne hq).trans (g3.2.1 q hq), g3.2.2.1, g3.2.2.2.1, g3.2.2.2.2⟩ (fun z4 g4 => ?_)
    refine zs_lt (Q := fun z => zs_SB zs_tM z ∧ (∀ q, q ≠ 0 → z.1 q = τ.1 q) ∧ z.2 = τ.2 ∧ z.1 0 5 = 0 ∧ z.1 0 8 = 0) ⟨zs_sbw g4.1 (by rw [show zs_tM 0 13 = (-2147483648, 2147483647) from rfl]; exact zs_topI _), fun q hq => (pI_ne hq).trans (g4.2.1 q hq), g4.2.2.1, g4.2.2.2.1, g4.2.2.2.2⟩ (fun σ0 g0 => ?_)
    have fin : ∀ z, zm_G0 σ0 z → (zs_SB zs_tM z ∧ z.1 0 5 = 0 ∧ z.1 3 = τ.1 3 ∧ z.1 21 = τ.1 21 ∧ z.1 22 = τ.1 22 ∧ z.2.1 23 = τ.2.1 23 ∧ z.1 2 = τ.1 2) := fun z hz => ⟨hz.1, (hz.2.1 0 5 rfl).trans g0.2.2.2.1, funext fun k => (hz.2.1 3 k rfl).trans (by rw [g0.2.1 3 (by decide)]), funext fun k => (hz.2.1 21 k rfl).trans (by rw [g0.2.1 21 (by decide)]), funext fun k => (hz.2.1 22 k rfl).trans (by rw [g0.2.1 22 (by decide)]), (hz.2.2 23 rfl).trans (by rw [g0.2.2.1]), funext fun k => (hz.2.1 2 k rfl).trans (by rw [g0.2.1 2 (by decide)])⟩
    refine zs_bd_ (zm_clear (zs_rf g0.1)) (fun s1 h1 => ?_)
    unfold BX9_house_49
    have p8 : (s1.1 0 8).toInt = 0 := by rw [h1.2.1 0 (by decide), g0.2.2.2.2]; exact z0
    have b7 := zm_b (k := 7) h1.1 rfl
    refine zs_bd_ (zm_adv h1.1 (by omega)) (fun s2 h2 => ?_)
    have l0 : (s2.1 6 10).toInt = 0 := by rw [h2.2.2.2.1 6 (by decide), h1.2.2]; exact z0
    have b9 := zm_b (k := 9) h2.1 rfl
    refine zs_bd_ (zs_it (E := fun z => zm_G σ0 z) (I := fun z => zm_G σ0 z ∧ zm_pos z ∧ (z.1 0 12 = 0 → (z.1 6 10).toInt ≤ (z.1 0 9).toInt)) (m := fun z => 900 - (z.1 6 10).toInt) (fun z hz => ?_) (fun z hz => ?_) ⟨h2.1, h2.2.1, fun _ => by omega⟩) (fun s3 h3 => ?_)
    · have := hz.1.1.1 6 10
      rw [show zs_tM 6 10 = (0, 900) from rfl] at this
      have h1 : 0 ≤ (z.1 6 10).toInt := this.1
      have h2 : (z.1 6 10).toInt ≤ 900 := this.2
      exact ⟨by omega, by omega⟩
    · unfold LX9_house_53 BX9_house_53
      refine zs_bd_ zm_good (fun t ht => zs_ite (fun _ => zs_some (zs_inr hz.1)) (fun c => zs_ite (fun _ => zs_some (zs_inr hz.1)) (fun c2 => ?_)))
      have k1 := hz.2.2 (ht.2 c)
      have k2 := hz.2.1.2.2.1 c2
      have k7 := zm_b (k := 7) hz.1 rfl
      have this := hz.1.1.1 6 10
      rw [show zs_tM 6 10 = (0, 900) from rfl] at this
      have k0 : 0 ≤ (z.1 6 10).toInt := this.1
      refine zs_bd_ (zm_readLine hz.1 hz.2.1 ⟨k0, by omega⟩) (fun u hu => zs_some (zs_inl ⟨⟨hu.1, hu.2.1, fun g => ?_⟩, ?_⟩))
      · have := hu.2.2.2 g
        have := hu.2.2.1
        omega
      · show 900 - (u.1 6 10).toInt < 900 - (z.1 6 10).toInt
        have := hu.2.2.1
        omega
    · unfold BX9_house_74
      refine zs_bd_ zm_good (fun t ht => zs_ite (fun _ => zs_some (fin s3 (zm_w0 h3))) (fun _ => zs_bd_ (zm_world (zm_w0 h3)) (fun s4 h4 => ?_)))
      unfold BX9_house_110
      exact zs_gd (by decide) (zs_some (fin s4 h4))
  obtain ⟨⟨r, z⟩, e, h1⟩ := key
  exact ⟨r, z, e, h1⟩
end
