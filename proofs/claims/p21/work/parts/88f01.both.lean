/-! what both readers see: bytes by a function, n of them -/
def rd_k (B : Nat → Int) (n i : Nat) : Nat := if i < n then (if B i = 32 ∨ B i = 10 then 4 else if 97 ≤ B i ∧ B i ≤ 122 then 1 else if 48 ≤ B i ∧ B i ≤ 57 then 2 else if B i = 59 then 3 else 5) else 0
theorem rd_kc (B : Nat → Int) (n i : Nat) : (rd_k B n i = 0 ∧ n ≤ i) ∨ (i < n ∧ ((rd_k B n i = 4 ∧ (B i = 32 ∨ B i = 10)) ∨ (rd_k B n i = 1 ∧ 97 ≤ B i ∧ B i ≤ 122) ∨ (rd_k B n i = 2 ∧ 48 ≤ B i ∧ B i ≤ 57) ∨ (rd_k B n i = 3 ∧ B i = 59) ∨ (rd_k B n i = 5 ∧ ¬ (B i = 32 ∨ B i = 10) ∧ ¬ (97 ≤ B i ∧ B i ≤ 122) ∧ ¬ (48 ≤ B i ∧ B i ≤ 57) ∧ B i ≠ 59))) := by
  unfold rd_k
  by_cases h : i < n
  · rw [if_pos h]
    right
    refine ⟨h, ?_⟩
    by_cases h4 : B i = 32 ∨ B i = 10
    · rw [if_pos h4]
      exact Or.inl ⟨rfl, h4⟩
    · rw [if_neg h4]
      by_cases h1 : 97 ≤ B i ∧ B i ≤ 122
      · rw [if_pos h1]
        exact Or.inr (Or.inl ⟨rfl, h1⟩)
      · rw [if_neg h1]
        by_cases h2 : 48 ≤ B i ∧ B i ≤ 57
        · rw [if_pos h2]
          exact Or.inr (Or.inr (Or.inl ⟨rfl, h2⟩))
        · rw [if_neg h2]
          by_cases h3 : B i = 59
          · rw [if_pos h3]
            exact Or.inr (Or.inr (Or.inr (Or.inl ⟨rfl, h3⟩)))
          · rw [if_neg h3]
            exact Or.inr (Or.inr (Or.inr (Or.inr ⟨rfl, h4, h1, h2, h3⟩)))
  · rw [if_neg h]
    exact Or.inl ⟨rfl, by omega⟩
theorem rd_k5 (B : Nat → Int) (n i : Nat) : rd_k B n i ≤ 5 := by
  rcases rd_kc B n i with h | h
  · omega
  · omega
/-- the first place behind blanks -/
def rd_S (B : Nat → Int) (n p a : Nat) : Prop := p ≤ a ∧ a ≤ n ∧ (∀ j, p ≤ j → j < a → rd_k B n j = 4) ∧ rd_k B n a ≠ 4
/-- where a token ends -/
def rd_E (B : Nat → Int) (n a e : Nat) : Prop := (a = n ∧ e = a) ∨ (a < n ∧ a < e ∧ e ≤ n ∧ ((rd_k B n a = 1 ∨ rd_k B n a = 2) → (∀ j, a ≤ j → j < e → rd_k B n j = rd_k B n a) ∧ rd_k B n e ≠ rd_k B n a) ∧ (¬ (rd_k B n a = 1 ∨ rd_k B n a = 2) → e = a + 1))
theorem rd_S1 {B : Nat → Int} {n p a a' : Nat} (h : rd_S B n p a) (h' : rd_S B n p a') : a = a' := by
  by_cases e : a = a'
  · exact e
  · exfalso
    by_cases l : a < a'
    · exact h.2.2.2 (h'.2.2.1 a h.1 l)
    · exact h'.2.2.2 (h.2.2.1 a' h'.1 (by omega))
theorem rd_E1 {B : Nat → Int} {n a e e' : Nat} (h : rd_E B n a e) (h' : rd_E B n a e') : e = e' := by
  rcases h with h | h
  · rcases h' with h' | h'
    · omega
    · omega
  · rcases h' with h' | h'
    · omega
    · by_cases c : rd_k B n a = 1 ∨ rd_k B n a = 2
      · have h1 := h.2.2.2.1 c
        have h2 := h'.2.2.2.1 c
        by_cases l : e < e'
        · exact absurd (h2.1 e (by omega) l) h1.2
        · by_cases l2 : e' < e
          · exact absurd (h1.1 e' (by omega) l2) h2.2
          · omega
      · rw [h.2.2.2.2 c, h'.2.2.2.2 c]
def rd_num (B : Nat → Int) (a : Nat) : Nat → Nat
  | 0 => 0
  | k + 1 => 10 * rd_num B a k + (B (a + k) - 48).toNat
theorem rd_cap (C N d : Nat) : min C (10 * min C N + d) = min C (10 * N + d) := by
  by_cases h : N ≤ C
  · rw [Nat.min_eq_right h]
  · rw [Nat.min_eq_left (show C ≤ N by omega), Nat.min_eq_left (show C ≤ 10 * C + d by omega), Nat.min_eq_left (show C ≤ 10 * N + d by omega)]
/-! the program's side -/
abbrev rc_B (σ : sn_S) : Nat → Int := fun k => (σ.1 18 k).toInt
theorem rI_eq {x c : Int32} : x = c ↔ x.toInt = c.toInt := Int32.toInt_inj.symm
theorem rc_k59 {σ : sn_S} {y : Int32} : BX5_kindAt_59 σ y = some (if y.toInt = 59 then 3 else 5) := by
  unfold BX5_kindAt_59
  by_cases h : y = 59
  · rw [if_pos h, if_pos (show y.toInt = 59 by rw [h]; decide)]
  · rw [if_neg h, if_neg (fun e => h (rI_eq.mpr (by rw [e]; decide)))]
theorem rc_k45 {σ : sn_S} {y : Int32} : BX5_kindAt_45 σ y = some (if 48 ≤ y.toInt ∧ y.toInt ≤ 57 then 2 else if y.toInt = 59 then 3 else 5) := by
  have e48 : (48 : Int32).toInt = 48 := by decide
  have e57 : (57 : Int32).toInt = 57 := by decide
  unfold BX5_kindAt_45
  rw [rc_k59]
  by_cases h : y < 48
  · have h1 := zs_I_lt h
    rw [if_pos h, if_neg (show ¬ (48 ≤ y.toInt ∧ y.toInt ≤ 57) by omega)]
  · have h1 := zs_I_ltn h
    rw [if_neg h]
    by_cases g : 57 < y
    · have g1 := zs_I_lt g
      rw [if_pos g, if_neg (show ¬ (48 ≤ y.toInt ∧ y.toInt ≤ 57) by omega)]
    · have g1 := zs_I_ltn g
      rw [if_neg g, if_pos (show 48 ≤ y.toInt ∧ y.toInt ≤ 57 by omega)]
theorem rc_kd {σ : sn_S} (y : Int32) : (if y = 32 then some (4 : Int32) else if y = 10 then some 4 else if y < 97 then BX5_kindAt_45 σ y else if 122 < y then BX5_kindAt_45 σ y else some 1) = some (nI (if y.toInt = 32 ∨ y.toInt = 10 then 4 else if 97 ≤ y.toInt ∧ y.toInt ≤ 122 then 1 else if 48 ≤ y.toInt ∧ y.toInt ≤ 57 then 2 else if y.toInt = 59 then 3 else 5)) := by
  have e97 : (97 : Int32).toInt = 97 := by decide
  have e122 : (122 : Int32).toInt = 122 := by decide
  rw [rc_k45]
  by_cases c1 : y = 32
  · rw [if_pos c1, if_pos (Or.inl (by rw [c1]; decide))]
    rfl
  · rw [if_neg c1]
    by_cases c2 : y = 10
    · rw [if_pos c2, if_pos (Or.inr (by rw [c2]; decide))]
      rfl
    · rw [if_neg c2, if_neg (show ¬ (y.toInt = 32 ∨ y.toInt = 10) from fun e => e.elim (fun e => c1 (rI_eq.mpr (by rw [e]; decide))) (fun e => c2 (rI_eq.mpr (by rw [e]; decide))))]
      have t : ∀ (P : Prop) [Decidable P] (a b : Nat), nI (if P then a else b) = if P then nI a else nI b := fun P _ a b => by split <;> rfl
      by_cases c3 : y < 97
      · have h3 := zs_I_lt c3
        rw [if_pos c3, if_neg (show ¬ (97 ≤ y.toInt ∧ y.toInt ≤ 122) by omega), t, t]
        rfl
      · have h3 := zs_I_ltn c3
        rw [if_neg c3]
        by_cases c4 : 122 < y
        · have h4 := zs_I_lt c4
          rw [if_pos c4, if_neg (show ¬ (97 ≤ y.toInt ∧ y.toInt ≤ 122) by omega), t, t]
          rfl
        · have h4 := zs_I_ltn c4
          rw [if_neg c4, if_pos (show 97 ≤ y.toInt ∧ y.toInt ≤ 122 by omega)]
          rfl
theorem rc_kind {σ : sn_S} {n i : Nat} (hn : σ.1 17 1 = nI n) (h9 : n ≤ 900) (hi : i ≤ 900) : fX5_kindAt σ (nI i) = some (nI (rd_k (rc_B σ) n i)) := by
  unfold fX5_kindAt rd_k
  rw [show sn_I σ 17 1 = nI n from hn]
  by_cases h : i < n
  · rw [if_pos ((nI_ltI (by omega) (by omega)).mpr h), if_pos h, sn_in_nI (by omega) (by decide), gd_T, nI_clamp (by omega)]
    exact rc_kd (σ.1 18 i)
  · rw [if_neg (fun e => h ((nI_ltI (by omega) (by omega)).mp e)), if_neg h]
    rfl
def rc_f (σ z : sn_S) : Prop := zk_fr σ z ∧ z.1 17 2 = σ.1 17 2 ∧ z.1 17 3 = σ.1 17 3
theorem rc_f0 {σ : sn_S} : rc_f σ σ := ⟨zk_fr0, rfl, rfl⟩
theorem rc_B_f {σ z : sn_S} (h : zk_fr σ z) : rc_B z = rc_B σ := by
  unfold rc_B
  rw [h.1 18 (by decide)]
/-- a token of the program: a .. e, its kind -/
def rc_T (σ : sn_S) (n a e : Nat) : Prop := σ.1 17 4 = nI a ∧ σ.1 17 5 = nI e ∧ σ.1 17 6 = nI (rd_k (rc_B σ) n a)
theorem rc_step {σ : sn_S} {n p : Nat} (hn : σ.1 17 1 = nI n) (h9 : n ≤ 900) (hp : σ.1 17 5 = nI p) (hpn : p ≤ n) : zs_ok (fX5_step σ) (fun z => rc_f σ z ∧ ∃ a e, rc_T z n a e ∧ rd_S (rc_B σ) n p a ∧ rd_E (rc_B σ) n a e) := by
  unfold fX5_step
  refine zs_lt (Q := fun z => rc_f σ z ∧ z.1 17 4 = nI p) ⟨⟨zk_frw (by decide) zk_fr0, rfl, rfl⟩, hp⟩ (fun z1 g1 => ?_)
  refine zs_bd_ (zs_it (E := fun z => rc_f σ z ∧ ∃ a, z.1 17 4 = nI a ∧ rd_S (rc_B σ) n p a) (I := fun z => rc_f σ z ∧ ∃ j, z.1 17 4 = nI j ∧ p ≤ j ∧ j ≤ n ∧ ∀ i, p ≤ i → i < j → rd_k (rc_B σ) n i = 4) (m := fun z => 900 - (z.1 17 4).toInt) (fun z hz => ?_) (fun z hz => ?_) ⟨g1.1, p, g1.2, Nat.le_refl _, hpn, fun i h1 h2 => absurd h1 (by omega)⟩) (fun z2 g2 => ?_)
  · obtain ⟨_, j, e, h1, h2, _⟩ := hz
    rw [e, nI_toInt (by omega)]
    exact ⟨by omega, by omega⟩
  · obtain ⟨hf, j, e, h1, h2, h3⟩ := hz
    have ek := rc_kind (σ := z) (n := n) (i := j) (hf.1.2.1.trans hn) h9 (by omega)
    rw [rc_B_f hf.1] at ek
    unfold LX5_step_8 BX5_step_8
    rw [show sn_I z 17 4 = nI j from e, show sn_I z 17 1 = nI n from hf.1.2.1.trans hn]
    refine zs_ite (fun c => zs_some (zs_inr ⟨hf, j, e, h1, h2, h3, ?_⟩)) (fun c => ?_)
    · have c1 := (nI_leI (by omega) (by omega)).mp c
      rcases rd_kc (rc_B σ) n j with k | k
      · omega
      · omega
    · have c1 : j < n := by
        by_cases x : j < n
        · exact x
        · exact absurd ((nI_leI (by omega) (by omega)).mpr (by omega)) c
      refine zs_bd_ (Q := fun t => t = nI (rd_k (rc_B σ) n j)) ⟨_, ek, rfl⟩ (fun t ht => ?_)
      subst ht
      have k5 := rd_k5 (rc_B σ) n j
      refine zs_ite (fun c2 => ?_) (fun c2 => zs_some (zs_inr ⟨hf, j, e, h1, h2, h3, fun e4 => c2 (by rw [e4]; rfl)⟩))
      have c3 : rd_k (rc_B σ) n j = 4 := (nI_eq (b := 4) (by omega) (by decide)).mp c2
      refine zs_lt (Q := fun y => y = sn_pI z 17 4 (nI j + (1 : Int32))) rfl (fun y hy => ?_)
      subst hy
      refine zs_some (zs_inl ⟨⟨⟨zk_frw (by decide) hf.1, hf.2⟩, j + 1, nI_1 j, by omega, by omega, fun i i1 i2 => ?_⟩, ?_⟩)
      · by_cases x : i = j
        · rw [x]
          exact c3
        · exact h3 i i1 (by omega)
      · show 900 - (nI j + 1).toInt < 900 - (z.1 17 4).toInt
        rw [e, nI_1, nI_toInt (by omega), nI_toInt (by omega)]
        omega
  · obtain ⟨hf, a, e, hS⟩ := g2
    have ha := hS.2.1
    have en : z2.1 17 1 = nI n := hf.1.2.1.trans hn
    have ek := rc_kind (σ := z2) (n := n) (i := a) en h9 (by omega)
    rw [rc_B_f hf.1] at ek
    have k5 := rd_k5 (rc_B σ) n a
    unfold BX5_step_44
    rw [show sn_I z2 17 4 = nI a from e]
    refine zs_bd_ (Q := fun t => t = nI (rd_k (rc_B σ) n a)) ⟨_, ek, rfl⟩ (fun t ht => ?_)
    subst ht
    refine zs_lt (Q := fun z => rc_f σ z ∧ z.1 17 4 = nI a ∧ z.1 17 6 = nI (rd_k (rc_B σ) n a)) ⟨⟨zk_frw (by decide) hf.1, hf.2⟩, e, rfl⟩ (fun z3 g3 => ?_)
    have en3 : z3.1 17 1 = nI n := g3.1.1.2.1.trans hn
    refine zs_lt (Q := fun y => y = nI (min (a + 1) n)) ?_ (fun y hy => ?_)
    · show (if sn_I z3 17 1 < sn_I z3 17 4 + (1 : Int32) then sn_I z3 17 1 else sn_I z3 17 4 + (1 : Int32)) = _
      rw [show sn_I z3 17 1 = nI n from en3, show sn_I z3 17 4 = nI a from g3.2.1, nI_1]
      by_cases c : n < a + 1
      · rw [if_pos ((nI_ltI (by omega) (by omega)).mpr c), Nat.min_eq_right (by omega)]
      · rw [if_neg (fun x => c ((nI_ltI (by omega) (by omega)).mp x)), Nat.min_eq_left (by omega)]
    subst hy
    refine zs_lt (Q := fun z => rc_f σ z ∧ z.1 17 4 = nI a ∧ z.1 17 6 = nI (rd_k (rc_B σ) n a) ∧ z.1 17 5 = nI (min (a + 1) n)) ⟨⟨zk_frw (by decide) g3.1.1, g3.1.2⟩, g3.2.1, g3.2.2, rfl⟩ (fun z4 g4 => ?_)
    have fin : ∀ z e, rc_f σ z → z.1 17 4 = nI a → z.1 17 6 = nI (rd_k (rc_B σ) n a) → z.1 17 5 = nI e → rd_E (rc_B σ) n a e → (rc_f σ z ∧ ∃ a e, rc_T z n a e ∧ rd_S (rc_B σ) n p a ∧ rd_E (rc_B σ) n a e) := fun z e h1 h2 h3 h4 h5 => ⟨h1, a, e, ⟨h2, h4, by rw [rc_B_f h1.1]; exact h3⟩, hS, h5⟩
    by_cases ck : rd_k (rc_B σ) n a = 1 ∨ rd_k (rc_B σ) n a = 2
    · have lan : a < n := by
        rcases rd_kc (rc_B σ) n a with k | k
        · omega
        · exact k.1
      rw [Nat.min_eq_left (by omega)] at g4
      refine zs_bd_ (zs_it (E := fun z => rc_f σ z ∧ ∃ a e, rc_T z n a e ∧ rd_S (rc_B σ) n p a ∧ rd_E (rc_B σ) n a e) (I := fun z => rc_f σ z ∧ z.1 17 4 = nI a ∧ z.1 17 6 = nI (rd_k (rc_B σ) n a) ∧ ∃ j, z.1 17 5 = nI j ∧ a < j ∧ j ≤ n ∧ ∀ i, a ≤ i → i < j → rd_k (rc_B σ) n i = rd_k (rc_B σ) n a) (m := fun z => 900 - (z.1 17 5).toInt) (fun z hz => ?_) (fun z hz => ?_) ⟨g4.1, g4.2.1, g4.2.2.1, a + 1, g4.2.2.2, by omega, by omega, fun i i1 i2 => by rw [show i = a by omega]⟩) (fun z5 g5 => ?_)
      · obtain ⟨_, _, _, j, e, h1, h2, _⟩ := hz
        rw [e, nI_toInt (by omega)]
        exact ⟨by omega, by omega⟩
      · obtain ⟨hf, h4, h6, j, e5, j1, j2, j3⟩ := hz
        have s89 : zs_ok (BX5_step_89 z) (zs_sum (fun s' => (rc_f σ s' ∧ s'.1 17 4 = nI a ∧ s'.1 17 6 = nI (rd_k (rc_B σ) n a) ∧ ∃ j, s'.1 17 5 = nI j ∧ a < j ∧ j ≤ n ∧ ∀ i, a ≤ i → i < j → rd_k (rc_B σ) n i = rd_k (rc_B σ) n a) ∧ 900 - (s'.1 17 5).toInt < 900 - (z.1 17 5).toInt) (fun z => rc_f σ z ∧ ∃ a e, rc_T z n a e ∧ rd_S (rc_B σ) n p a ∧ rd_E (rc_B σ) n a e)) := by
          have ek := rc_kind (σ := z) (n := n) (i := j) (hf.1.2.1.trans hn) h9 (by omega)
          rw [rc_B_f hf.1] at ek
          unfold BX5_step_89
          rw [show sn_I z 17 5 = nI j from e5, show sn_I z 17 1 = nI n from hf.1.2.1.trans hn, show sn_I z 17 6 = nI (rd_k (rc_B σ) n a) from h6]
          have kj := rd_k5 (rc_B σ) n j
          refine zs_ite (fun c => zs_some (zs_inr (fin z j hf h4 h6 e5 (Or.inr ⟨lan, j1, j2, fun _ => ⟨j3, ?_⟩, fun c2 => absurd ck c2⟩)))) (fun c => ?_)
          · have c1 := (nI_leI (by omega) (by omega)).mp c
            rcases rd_kc (rc_B σ) n j with k | k
            · omega
            · omega
          · have c1 : j < n := by
              by_cases x : j < n
              · exact x
              · exact absurd ((nI_leI (by omega) (by omega)).mpr (by omega)) c
            refine zs_bd_ (Q := fun t => t = nI (rd_k (rc_B σ) n j)) ⟨_, ek, rfl⟩ (fun t ht => ?_)
            subst ht
            refine zs_ite (fun c2 => ?_) (fun c2 => zs_some (zs_inr (fin z j hf h4 h6 e5 (Or.inr ⟨lan, j1, j2, fun _ => ⟨j3, fun x => c2 (by rw [x])⟩, fun c2 => absurd ck c2⟩))))
            have c3 := (nI_eq (by omega) (by omega)).mp c2
            refine zs_lt (Q := fun y => y = sn_pI z 17 5 (nI j + (1 : Int32))) rfl (fun y hy => ?_)
            subst hy
            refine zs_some (zs_inl ⟨⟨⟨zk_frw (by decide) hf.1, hf.2⟩, h4, h6, j + 1, nI_1 j, by omega, by omega, fun i i1 i2 => ?_⟩, ?_⟩)
            · by_cases x : i = j
              · rw [x]
                exact c3
              · exact j3 i i1 (by omega)
            · show 900 - (nI j + 1).toInt < 900 - (z.1 17 5).toInt
              rw [e5, nI_1, nI_toInt (by omega), nI_toInt (by omega)]
              omega
        unfold LX5_step_73 BX5_step_73
        refine zs_ite (fun _ => s89) (fun c1 => zs_ite (fun _ => s89) (fun c2 => ?_))
        exfalso
        rw [show sn_I z 17 6 = nI (rd_k (rc_B σ) n a) from h6] at c1 c2
        rcases ck with k | k
        · exact c1 (by rw [k]; rfl)
        · exact c2 (by rw [k]; rfl)
      · unfold BX5_step_128
        exact zs_some g5
    · refine zs_bd_ (Q := fun u => u = z4) ⟨z4, ?_, rfl⟩ (fun u hu => ?_)
      · show sn_it LX5_step_73 (4999 + 1) z4 = some z4
        unfold sn_it LX5_step_73 BX5_step_73
        have n1 : ¬ sn_I z4 17 6 = 1 := fun x => ck (Or.inl ((nI_eq (b := 1) (by omega) (by decide)).mp (g4.2.2.1.symm.trans x)))
        have n2 : ¬ sn_I z4 17 6 = 2 := fun x => ck (Or.inr ((nI_eq (b := 2) (by omega) (by decide)).mp (g4.2.2.1.symm.trans x)))
        rw [if_neg n1, if_neg n2]
      · unfold BX5_step_128
        rw [hu]
        refine zs_some (fin z4 (min (a + 1) n) g4.1 g4.2.1 g4.2.2.1 g4.2.2.2 ?_)
        by_cases x : a = n
        · left
          exact ⟨x, by omega⟩
        · right
          exact ⟨by omega, by omega, by omega, fun c => absurd c ck, fun _ => by omega⟩
