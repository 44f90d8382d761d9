/-! the reference's side -/
abbrev rm_B (τ : sn_S) : Nat → Int := fun k => (τ.1 4 k &&& (255 : Int32)).toInt
def rd_t (k : Nat) : Nat := if k = 5 then 4 else k
def rm_f (τ z : sn_S) : Prop := (∀ q, q ≠ 0 → z.1 q = τ.1 q) ∧ (∀ k, k ≠ 8 → k ≠ 9 → k ≠ 10 → k ≠ 11 → z.1 0 k = τ.1 0 k) ∧ z.2 = τ.2
theorem rm_f0 {τ : sn_S} : rm_f τ τ := ⟨fun _ _ => rfl, fun _ _ _ _ _ => rfl, rfl⟩
theorem rm_fw {τ z : sn_S} {k : Nat} {v : Int32} (hk : k = 8 ∨ k = 9 ∨ k = 10 ∨ k = 11) (h : rm_f τ z) : rm_f τ (sn_pI z 0 k v) := ⟨fun q hq => by rw [pI_ne hq, h.1 q hq], fun j h1 h2 h3 h4 => by
  rw [pI_slot (by omega)]
  exact h.2.1 j h1 h2 h3 h4, h.2.2⟩
theorem rm_B_f {τ z : sn_S} (h : rm_f τ z) : rm_B z = rm_B τ := by
  unfold rm_B
  rw [h.1 4 (by decide)]
theorem rm_byte (τ : sn_S) (k : Nat) : 0 ≤ rm_B τ k ∧ rm_B τ k ≤ 255 := zs_and (x := τ.1 4 k) (show zs_in (255 : Int32).toInt 255 255 by decide) (by decide)
theorem rm_v {τ : sn_S} {n j : Nat} (hn : τ.1 0 7 = nI n) (h9 : n ≤ 900) (hj : j ≤ n) : ∃ v, fX9_see τ (nI j) = some v ∧ ((v = 32 ∨ v = 10) ↔ rd_k (rm_B τ) n j = 4) ∧ (v = -1 ↔ rd_k (rm_B τ) n j = 0) ∧ ((97 ≤ v.toInt ∧ v.toInt ≤ 122) ↔ rd_k (rm_B τ) n j = 1) ∧ ((48 ≤ v.toInt ∧ v.toInt ≤ 57) ↔ rd_k (rm_B τ) n j = 2) ∧ (v = 59 ↔ rd_k (rm_B τ) n j = 3) ∧ (j < n → v.toInt = rm_B τ j) := by
  have e32 : (32 : Int32).toInt = 32 := by decide
  have e10 : (10 : Int32).toInt = 10 := by decide
  have e59 : (59 : Int32).toInt = 59 := by decide
  have e1 : (-1 : Int32).toInt = -1 := by decide
  have kc := rd_kc (rm_B τ) n j
  have hb := rm_byte τ j
  unfold fX9_see
  rw [show sn_I τ 0 7 = nI n from hn]
  by_cases h : j < n
  · rw [if_neg (fun x => absurd ((nI_leI (by omega) (by omega)).mp x) (by omega)), sn_in_nI (by omega) (by decide), gd_T, nI_clamp (by omega)]
    have ev : (sn_I τ 4 j &&& (255 : Int32)).toInt = rm_B τ j := rfl
    refine ⟨_, rfl, ?_, ?_, ?_, ?_, ?_, fun _ => ev⟩
    · rw [rI_eq, rI_eq, ev, e32, e10]
      omega
    · rw [rI_eq, ev, e1]
      omega
    · rw [ev]
      omega
    · rw [ev]
      omega
    · rw [rI_eq, ev, e59]
      omega
  · rw [if_pos ((nI_leI (by omega) (by omega)).mpr (by omega))]
    have ev : (-1 : Int32).toInt = -1 := by decide
    refine ⟨_, rfl, ?_, ?_, ?_, ?_, ?_, fun x => absurd x h⟩
    · rw [rI_eq, rI_eq, ev, e32, e10]
      omega
    · rw [rI_eq, ev]
      omega
    · rw [ev]
      omega
    · rw [ev]
      omega
    · rw [rI_eq, ev, e59]
      omega
theorem rm_in1 (v : Int32) : fX9_in v.toInt64 (97 : Int64) (122 : Int64) = some (if 97 ≤ v.toInt ∧ v.toInt ≤ 122 then 1 else 0) := by
  have e : fX9_in v.toInt64 (97 : Int64) (122 : Int64) = some (if (97 : Int32) ≤ v ∧ v ≤ (122 : Int32) then 1 else 0) := in_eq32 v 97 122
  rw [e]
  have e97 : (97 : Int32).toInt = 97 := by decide
  have e122 : (122 : Int32).toInt = 122 := by decide
  by_cases c : 97 ≤ v.toInt ∧ v.toInt ≤ 122
  · rw [if_pos c, if_pos ⟨Int32.le_iff_toInt_le.mpr (by omega), Int32.le_iff_toInt_le.mpr (by omega)⟩]
  · rw [if_neg c, if_neg (fun x => c ⟨by have := zs_I_le x.1; omega, by have := zs_I_le x.2; omega⟩)]
theorem rm_in2 (v : Int32) : fX9_in v.toInt64 (48 : Int64) (57 : Int64) = some (if 48 ≤ v.toInt ∧ v.toInt ≤ 57 then 1 else 0) := by
  have e : fX9_in v.toInt64 (48 : Int64) (57 : Int64) = some (if (48 : Int32) ≤ v ∧ v ≤ (57 : Int32) then 1 else 0) := in_eq32 v 48 57
  rw [e]
  have e97 : (48 : Int32).toInt = 48 := by decide
  have e122 : (57 : Int32).toInt = 57 := by decide
  by_cases c : 48 ≤ v.toInt ∧ v.toInt ≤ 57
  · rw [if_pos c, if_pos ⟨Int32.le_iff_toInt_le.mpr (by omega), Int32.le_iff_toInt_le.mpr (by omega)⟩]
  · rw [if_neg c, if_neg (fun x => c ⟨by have := zs_I_le x.1; omega, by have := zs_I_le x.2; omega⟩)]
/-- a token of the reference: a .. e, its kind, its number -/
def rm_T (τ : sn_S) (n a e : Nat) : Prop := τ.1 0 9 = nI a ∧ τ.1 0 8 = nI e ∧ τ.1 0 10 = nI (rd_t (rd_k (rm_B τ) n a)) ∧ (rd_k (rm_B τ) n a = 2 → τ.1 0 11 = nI (min 99999 (rd_num (rm_B τ) a (e - a))))
theorem rm_skip {τ : sn_S} {n p : Nat} (hn : τ.1 0 7 = nI n) (h9 : n ≤ 900) (hp : τ.1 0 8 = nI p) (hpn : p ≤ n) : zs_ok (sn_it LX9_advance_0 5000 τ) (fun z => rm_f τ z ∧ ∃ a, z.1 0 8 = nI a ∧ rd_S (rm_B τ) n p a) := by
  refine zs_it (I := fun z => rm_f τ z ∧ ∃ j, z.1 0 8 = nI j ∧ p ≤ j ∧ j ≤ n ∧ ∀ i, p ≤ i → i < j → rd_k (rm_B τ) n i = 4) (m := fun z => 900 - (z.1 0 8).toInt) (fun z hz => ?_) (fun z hz => ?_) ⟨rm_f0, p, hp, Nat.le_refl _, hpn, fun i h1 h2 => absurd h1 (by omega)⟩
  · obtain ⟨_, j, e, h1, h2, _⟩ := hz
    rw [e, nI_toInt (by omega)]
    exact ⟨by omega, by omega⟩
  · obtain ⟨hf, j, e, h1, h2, h3⟩ := hz
    obtain ⟨v, ev, v4, v0, _, _, _, _⟩ := rm_v (τ := z) (n := n) (j := j) ((hf.2.1 7 (by decide) (by decide) (by decide) (by decide)).trans hn) h9 h2
    rw [rm_B_f hf] at v4 v0
    have mv : rd_k (rm_B τ) n j = 4 → zs_ok (BX9_advance_26 z) (zs_sum (fun s' => (rm_f τ s' ∧ ∃ j, s'.1 0 8 = nI j ∧ p ≤ j ∧ j ≤ n ∧ ∀ i, p ≤ i → i < j → rd_k (rm_B τ) n i = 4) ∧ 900 - (s'.1 0 8).toInt < 900 - (z.1 0 8).toInt) (fun z => rm_f τ z ∧ ∃ a, z.1 0 8 = nI a ∧ rd_S (rm_B τ) n p a)) := by
      intro k4
      have lj : j < n := by
        rcases rd_kc (rm_B τ) n j with k | k
        · omega
        · exact k.1
      unfold BX9_advance_26
      rw [show sn_I z 0 8 = nI j from e]
      refine zs_lt (Q := fun y => y = sn_pI z 0 8 (nI j + (1 : Int32))) rfl (fun y hy => ?_)
      subst hy
      refine zs_some (zs_inl ⟨⟨rm_fw (Or.inl rfl) hf, j + 1, nI_1 j, by omega, by omega, fun i i1 i2 => ?_⟩, ?_⟩)
      · by_cases x : i = j
        · rw [x]
          exact k4
        · exact h3 i i1 (by omega)
      · show 900 - (nI j + 1).toInt < 900 - (z.1 0 8).toInt
        rw [e, nI_1, nI_toInt (by omega), nI_toInt (by omega)]
        omega
    unfold LX9_advance_0 BX9_advance_0
    rw [show sn_I z 0 8 = nI j from e]
    refine zs_bd_ (Q := fun t => t = v) ⟨v, ev, rfl⟩ (fun t ht => ?_)
    subst ht
    refine zs_ite (fun c => mv (v4.mp (Or.inl c))) (fun c => ?_)
    refine zs_bd_ (Q := fun u => u = t) ⟨t, ev, rfl⟩ (fun u hu => ?_)
    subst hu
    exact zs_ite (fun c2 => mv (v4.mp (Or.inr c2))) (fun c2 => zs_some (zs_inr ⟨hf, j, e, h1, h2, h3, fun k4 => (v4.mpr k4).elim c c2⟩))
theorem rm_word {τ z : sn_S} {n a : Nat} (hn : τ.1 0 7 = nI n) (h9 : n ≤ 900) (hf : rm_f τ z) (h8 : z.1 0 8 = nI a) (k1 : rd_k (rm_B τ) n a = 1) : zs_ok (sn_it LX9_advance_83 5000 z) (fun y => rm_f τ y ∧ y.1 0 9 = z.1 0 9 ∧ ∃ e, y.1 0 8 = nI e ∧ rd_E (rm_B τ) n a e) := by
  have la : a < n := by
    rcases rd_kc (rm_B τ) n a with k | k
    · omega
    · exact k.1
  refine zs_it (I := fun y => rm_f τ y ∧ y.1 0 9 = z.1 0 9 ∧ ∃ j, y.1 0 8 = nI j ∧ a ≤ j ∧ j ≤ n ∧ ∀ i, a ≤ i → i < j → rd_k (rm_B τ) n i = 1) (m := fun z => 900 - (z.1 0 8).toInt) (fun y hy => ?_) (fun y hy => ?_) ⟨hf, rfl, a, h8, Nat.le_refl _, by omega, fun i h1 h2 => absurd h1 (by omega)⟩
  · obtain ⟨_, _, j, e, h1, h2, _⟩ := hy
    rw [e, nI_toInt (by omega)]
    exact ⟨by omega, by omega⟩
  · obtain ⟨hf, h90, j, e, h1, h2, h3⟩ := hy
    obtain ⟨v, ev, _, _, v1, _, _, _⟩ := rm_v (τ := y) (n := n) (j := j) ((hf.2.1 7 (by decide) (by decide) (by decide) (by decide)).trans hn) h9 h2
    rw [rm_B_f hf] at v1
    unfold LX9_advance_83 BX9_advance_83
    rw [show sn_I y 0 8 = nI j from e]
    refine zs_bd_ (Q := fun t => t = v) ⟨v, ev, rfl⟩ (fun t ht => ?_)
    subst ht
    rw [rm_in1]
    by_cases c : 97 ≤ t.toInt ∧ t.toInt ≤ 122
    · rw [if_pos c]
      refine zs_bd_ (Q := fun u => u = 1) ⟨1, rfl, rfl⟩ (fun u hu => zs_ite (fun x => absurd (hu.symm.trans x) (by decide)) (fun _ => ?_))
      have k1 := v1.mp c
      have lj : j < n := by
        rcases rd_kc (rm_B τ) n j with k | k
        · omega
        · exact k.1
      refine zs_lt (Q := fun w => w = sn_pI y 0 8 (nI j + (1 : Int32))) rfl (fun w hw => ?_)
      subst hw
      refine zs_some (zs_inl ⟨⟨rm_fw (Or.inl rfl) hf, h90, j + 1, nI_1 j, by omega, by omega, fun i i1 i2 => ?_⟩, ?_⟩)
      · by_cases x : i = j
        · rw [x]
          exact k1
        · exact h3 i i1 (by omega)
      · show 900 - (nI j + 1).toInt < 900 - (y.1 0 8).toInt
        rw [e, nI_1, nI_toInt (by omega), nI_toInt (by omega)]
        omega
    · rw [if_neg c]
      refine zs_bd_ (Q := fun u => u = 0) ⟨0, rfl, rfl⟩ (fun u hu => zs_ite (fun _ => ?_) (fun x => absurd hu x))
      have nk : rd_k (rm_B τ) n j ≠ 1 := fun x => c (v1.mpr x)
      have lj : a < j := by
        by_cases x : j = a
        · rw [x] at nk
          exact absurd k1 nk
        · omega
      refine zs_some (zs_inr ⟨hf, h90, j, e, Or.inr ⟨la, lj, h2, fun _ => ?_, fun x => absurd (Or.inl k1) x⟩⟩)
      rw [k1]
      exact ⟨h3, nk⟩
theorem rm_digits {τ z : sn_S} {n a : Nat} (hn : τ.1 0 7 = nI n) (h9 : n ≤ 900) (hf : rm_f τ z) (h8 : z.1 0 8 = nI a) (h11 : z.1 0 11 = nI 0) (k1 : rd_k (rm_B τ) n a = 2) : zs_ok (sn_it LX9_advance_144 5000 z) (fun y => rm_f τ y ∧ y.1 0 9 = z.1 0 9 ∧ ∃ e, y.1 0 8 = nI e ∧ rd_E (rm_B τ) n a e ∧ y.1 0 11 = nI (min 99999 (rd_num (rm_B τ) a (e - a)))) := by
  have la : a < n := by
    rcases rd_kc (rm_B τ) n a with k | k
    · omega
    · exact k.1
  refine zs_it (I := fun y => rm_f τ y ∧ y.1 0 9 = z.1 0 9 ∧ ∃ j, y.1 0 8 = nI j ∧ a ≤ j ∧ j ≤ n ∧ (∀ i, a ≤ i → i < j → rd_k (rm_B τ) n i = 2) ∧ y.1 0 11 = nI (min 99999 (rd_num (rm_B τ) a (j - a)))) (m := fun z => 900 - (z.1 0 8).toInt) (fun y hy => ?_) (fun y hy => ?_) ⟨hf, rfl, a, h8, Nat.le_refl _, by omega, fun i h1 h2 => absurd h1 (by omega), by rw [Nat.sub_self]; exact h11⟩
  · obtain ⟨_, _, j, e, h1, h2, _⟩ := hy
    rw [e, nI_toInt (by omega)]
    exact ⟨by omega, by omega⟩
  · obtain ⟨hf, h90, j, e, h1, h2, h3, h11⟩ := hy
    obtain ⟨v, ev, _, _, _, v1, _, vB⟩ := rm_v (τ := y) (n := n) (j := j) ((hf.2.1 7 (by decide) (by decide) (by decide) (by decide)).trans hn) h9 h2
    rw [rm_B_f hf] at v1 vB
    unfold LX9_advance_144 BX9_advance_144
    rw [show sn_I y 0 8 = nI j from e]
    refine zs_bd_ (Q := fun t => t = v) ⟨v, ev, rfl⟩ (fun t ht => ?_)
    subst ht
    rw [rm_in2]
    by_cases c : 48 ≤ t.toInt ∧ t.toInt ≤ 57
    · rw [if_pos c]
      refine zs_bd_ (Q := fun u => u = 1) ⟨1, rfl, rfl⟩ (fun u hu => zs_ite (fun x => absurd (hu.symm.trans x) (by decide)) (fun _ => ?_))
      have k1 := v1.mp c
      have lj : j < n := by
        rcases rd_kc (rm_B τ) n j with k | k
        · omega
        · exact k.1
      refine zs_bd_ (Q := fun u => u = t) ⟨t, ev, rfl⟩ (fun t6 ht6 => ?_)
      subst ht6
      refine zs_lt (Q := fun w => w = nI (min 99999 (rd_num (rm_B τ) a (j + 1 - a)))) ?_ (fun w hw => ?_)
      · rw [show sn_I y 0 11 = nI (min 99999 (rd_num (rm_B τ) a (j - a))) from h11]
        have hN : min 99999 (rd_num (rm_B τ) a (j - a)) ≤ 99999 := Nat.min_le_left _ _
        have hB := vB lj
        have es : rd_num (rm_B τ) a (j + 1 - a) = 10 * rd_num (rm_B τ) a (j - a) + (rm_B τ j - 48).toNat := by
          have e1 : j + 1 - a = (j - a) + 1 := by omega
          have e2 : a + (j - a) = j := by omega
          rw [e1]
          show 10 * rd_num (rm_B τ) a (j - a) + (rm_B τ (a + (j - a)) - 48).toNat = _
          rw [e2]
        have hc := rd_cap 99999 (rd_num (rm_B τ) a (j - a)) (rm_B τ j - 48).toNat
        rw [es]
        generalize min 99999 (rd_num (rm_B τ) a (j - a)) = N at hN hc ⊢
        have ea : (((10 : Int32) * nI N) + t6) - (48 : Int32) = nI (10 * N + (rm_B τ j - 48).toNat) := by
          apply Int32.toInt_inj.mp
          rw [Int32.toInt_sub, Int32.toInt_add, Int32.toInt_mul, nI_toInt (by omega), nI_toInt (by omega), show (10 : Int32).toInt = 10 by decide, show (48 : Int32).toInt = 48 by decide, zs_bm (X := 10 * (N : Int)) ⟨by omega, by omega⟩, zs_bm (X := 10 * (N : Int) + t6.toInt) ⟨by omega, by omega⟩, zs_bm ⟨by omega, by omega⟩]
          omega
        rw [ea, ← hc]
        by_cases l : 10 * N + (rm_B τ j - 48).toNat < 99999
        · rw [if_pos (show nI (10 * N + (rm_B τ j - 48).toNat) < (99999 : Int32) from (nI_ltI (b := 99999) (by omega) (by decide)).mpr l), Nat.min_eq_right (by omega)]
        · rw [if_neg (show ¬ nI (10 * N + (rm_B τ j - 48).toNat) < (99999 : Int32) from fun x => l ((nI_ltI (b := 99999) (by omega) (by decide)).mp x)), Nat.min_eq_left (by omega)]
          rfl
      · subst hw
        refine zs_lt (Q := fun w => rm_f τ w ∧ w.1 0 9 = z.1 0 9 ∧ w.1 0 8 = nI j ∧ w.1 0 11 = nI (min 99999 (rd_num (rm_B τ) a (j + 1 - a)))) ⟨rm_fw (Or.inr (Or.inr (Or.inr rfl))) hf, h90, e, rfl⟩ (fun w1 g1 => ?_)
        rw [show sn_I w1 0 8 = nI j from g1.2.2.1]
        refine zs_lt (Q := fun w => w = sn_pI w1 0 8 (nI j + (1 : Int32))) rfl (fun w hw => ?_)
        subst hw
        refine zs_some (zs_inl ⟨⟨rm_fw (Or.inl rfl) g1.1, g1.2.1, j + 1, nI_1 j, by omega, by omega, fun i i1 i2 => ?_, g1.2.2.2⟩, ?_⟩)
        · by_cases x : i = j
          · rw [x]
            exact k1
          · exact h3 i i1 (by omega)
        · show 900 - (nI j + 1).toInt < 900 - (y.1 0 8).toInt
          rw [e, nI_1, nI_toInt (by omega), nI_toInt (by omega)]
          omega
    · rw [if_neg c]
      refine zs_bd_ (Q := fun u => u = 0) ⟨0, rfl, rfl⟩ (fun u hu => zs_ite (fun _ => ?_) (fun x => absurd hu x))
      have nk : rd_k (rm_B τ) n j ≠ 2 := fun x => c (v1.mpr x)
      have lj : a < j := by
        by_cases x : j = a
        · rw [x] at nk
          exact absurd k1 nk
        · omega
      refine zs_some (zs_inr ⟨hf, h90, j, e, Or.inr ⟨la, lj, h2, fun _ => ?_, fun x => absurd (Or.inr k1) x⟩, h11⟩)
      rw [k1]
      exact ⟨h3, nk⟩
theorem rm_adv {τ : sn_S} {n p : Nat} (hn : τ.1 0 7 = nI n) (h9 : n ≤ 900) (hp : τ.1 0 8 = nI p) (hpn : p ≤ n) : zs_ok (fX9_advance τ) (fun z => rm_f τ z ∧ ∃ a e, rm_T z n a e ∧ rd_S (rm_B τ) n p a ∧ rd_E (rm_B τ) n a e) := by
  unfold fX9_advance
  refine zs_bd_ (rm_skip hn h9 hp hpn) (fun z1 g1 => ?_)
  obtain ⟨hf, a, e8, hS⟩ := g1
  have han := hS.2.1
  have k5 := rd_k5 (rm_B τ) n a
  have k4 := hS.2.2.2
  unfold BX9_advance_39
  rw [show sn_I z1 0 8 = nI a from e8]
  refine zs_lt (Q := fun z => rm_f τ z ∧ z.1 0 8 = nI a ∧ z.1 0 9 = nI a) ⟨rm_fw (Or.inr (Or.inl rfl)) hf, e8, rfl⟩ (fun z2 g2 => ?_)
  obtain ⟨hf2, f8, f9⟩ := g2
  obtain ⟨v, ev, v4, v0, v1, v2, v3, vB⟩ := rm_v (τ := z2) (n := n) (j := a) ((hf2.2.1 7 (by decide) (by decide) (by decide) (by decide)).trans hn) h9 han
  rw [rm_B_f hf2] at v4 v0 v1 v2 v3 vB
  have fin : ∀ z e, rm_f τ z → z.1 0 9 = nI a → z.1 0 8 = nI e → z.1 0 10 = nI (rd_t (rd_k (rm_B τ) n a)) → (rd_k (rm_B τ) n a = 2 → z.1 0 11 = nI (min 99999 (rd_num (rm_B τ) a (e - a)))) → rd_E (rm_B τ) n a e → (rm_f τ z ∧ ∃ a e, rm_T z n a e ∧ rd_S (rm_B τ) n p a ∧ rd_E (rm_B τ) n a e) := fun z e h1 h2 h3 h4 h5 h6 => ⟨h1, a, e, ⟨h2, h3, by rw [rm_B_f h1]; exact h4, by rw [rm_B_f h1]; exact h5⟩, hS, h6⟩
  rw [show sn_I z2 0 8 = nI a from f8]
  refine zs_bd_ (Q := fun t => t = v) ⟨v, ev, rfl⟩ (fun t ht => ?_)
  subst ht
  refine zs_ite (fun c0 => ?_) (fun c0 => ?_)
  · have k0 := v0.mp c0
    have ea : a = n := by
      rcases rd_kc (rm_B τ) n a with k | k
      · omega
      · omega
    exact zs_lt (Q := fun z => rm_f τ z ∧ ∃ a e, rm_T z n a e ∧ rd_S (rm_B τ) n p a ∧ rd_E (rm_B τ) n a e) (fin _ a (rm_fw (Or.inr (Or.inr (Or.inl rfl))) hf2) f9 f8 (by rw [k0]; rfl) (fun x => absurd (k0.symm.trans x) (by decide)) (Or.inl ⟨ea, rfl⟩)) (fun z hz => zs_some hz)
  · have la : a < n := by
      rcases rd_kc (rm_B τ) n a with k | k
      · exact absurd (v0.mpr k.1) c0
      · exact k.1
    rw [rm_in1]
    by_cases c1 : 97 ≤ t.toInt ∧ t.toInt ≤ 122
    · rw [if_pos c1]
      refine zs_bd_ (Q := fun u => u = 1) ⟨1, rfl, rfl⟩ (fun u hu => zs_ite (fun x => absurd (hu.symm.trans x) (by decide)) (fun _ => ?_))
      have k1 := v1.mp c1
      refine zs_bd_ (rm_word hn h9 hf2 f8 k1) (fun z3 g3 => ?_)
      obtain ⟨h1, h2, e, h3, h4⟩ := g3
      unfold BX9_advance_117
      exact zs_lt (Q := fun z => rm_f τ z ∧ ∃ a e, rm_T z n a e ∧ rd_S (rm_B τ) n p a ∧ rd_E (rm_B τ) n a e) (fin _ e (rm_fw (Or.inr (Or.inr (Or.inl rfl))) h1) (h2.trans f9) h3 (by rw [k1]; rfl) (fun x => absurd (k1.symm.trans x) (by decide)) h4) (fun z hz => zs_some hz)
    · rw [if_neg c1]
      refine zs_bd_ (Q := fun u => u = 0) ⟨0, rfl, rfl⟩ (fun u hu => zs_ite (fun _ => ?_) (fun x => absurd hu x))
      rw [rm_in2]
      have n1 : rd_k (rm_B τ) n a ≠ 1 := fun x => c1 (v1.mpr x)
      by_cases c2 : 48 ≤ t.toInt ∧ t.toInt ≤ 57
      · rw [if_pos c2]
        refine zs_bd_ (Q := fun u => u = 1) ⟨1, rfl, rfl⟩ (fun u hu => zs_ite (fun x => absurd (hu.symm.trans x) (by decide)) (fun _ => ?_))
        have k2 := v2.mp c2
        refine zs_lt (Q := fun z => rm_f τ z ∧ z.1 0 8 = nI a ∧ z.1 0 9 = nI a ∧ z.1 0 11 = nI 0) ⟨rm_fw (Or.inr (Or.inr (Or.inr rfl))) hf2, f8, f9, rfl⟩ (fun z3 g3 => ?_)
        refine zs_bd_ (rm_digits hn h9 g3.1 g3.2.1 g3.2.2.2 k2) (fun z4 g4 => ?_)
        obtain ⟨h1, h2, e, h3, h4, h5⟩ := g4
        unfold BX9_advance_206
        exact zs_lt (Q := fun z => rm_f τ z ∧ ∃ a e, rm_T z n a e ∧ rd_S (rm_B τ) n p a ∧ rd_E (rm_B τ) n a e) (fin _ e (rm_fw (Or.inr (Or.inr (Or.inl rfl))) h1) (h2.trans g3.2.2.1) h3 (by rw [k2]; rfl) (fun _ => h5) h4) (fun z hz => zs_some hz)
      · rw [if_neg c2]
        refine zs_bd_ (Q := fun u => u = 0) ⟨0, rfl, rfl⟩ (fun u hu => zs_ite (fun _ => ?_) (fun x => absurd hu x))
        have n2 : rd_k (rm_B τ) n a ≠ 2 := fun x => c2 (v2.mpr x)
        have n0 : rd_k (rm_B τ) n a ≠ 0 := fun x => c0 (v0.mpr x)
        have go : ∀ w : Int32, w = nI (rd_t (rd_k (rm_B τ) n a)) → zs_ok (BX9_advance_226 z2 w) (fun z => rm_f τ z ∧ ∃ a e, rm_T z n a e ∧ rd_S (rm_B τ) n p a ∧ rd_E (rm_B τ) n a e) := by
          intro w hw
          unfold BX9_advance_226
          refine zs_lt (Q := fun z => rm_f τ z ∧ z.1 0 8 = nI a ∧ z.1 0 9 = nI a ∧ z.1 0 10 = w) ⟨rm_fw (Or.inr (Or.inr (Or.inl rfl))) hf2, f8, f9, rfl⟩ (fun z3 g3 => ?_)
          rw [show sn_I z3 0 8 = nI a from g3.2.1]
          exact zs_lt (Q := fun z => rm_f τ z ∧ ∃ a e, rm_T z n a e ∧ rd_S (rm_B τ) n p a ∧ rd_E (rm_B τ) n a e) (fin _ (a + 1) (rm_fw (Or.inl rfl) g3.1) g3.2.2.1 (nI_1 a) (g3.2.2.2.trans hw) (fun x => absurd x n2) (Or.inr ⟨la, by omega, by omega, fun x => x.elim (fun x => absurd x n1) (fun x => absurd x n2), fun _ => rfl⟩)) (fun z hz => zs_some hz)
        refine zs_ite (fun c3 => go 3 ?_) (fun c3 => go 4 ?_)
        · rw [v3.mp c3]
          rfl
        · have : rd_k (rm_B τ) n a = 5 := by
            have n3 : rd_k (rm_B τ) n a ≠ 3 := fun x => c3 (v3.mpr x)
            omega
          rw [this]
          rfl
