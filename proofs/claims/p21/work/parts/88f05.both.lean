/-! numbers, the sign -/
section
variable {σ τ : sn_S} {n a e : Nat}
theorem rd_dig {B : Nat → Int} {j : Nat} (h : rd_k B n j = 2) : 48 ≤ B j ∧ B j ≤ 57 := by
  rcases rd_kc B n j with k | k
  · omega
  · omega
theorem rc_value (hn : n ≤ 900) (hT : rc_T σ n a e) (hE : rd_E (rc_B σ) n a e) (k2 : rd_k (rc_B σ) n a = 2) : fX5_value σ = some (nI (min 1000000 (rd_num (rc_B σ) a (e - a)))) := by
  have hE2 : a < n ∧ a < e ∧ e ≤ n ∧ ∀ j, a ≤ j → j < e → rd_k (rc_B σ) n j = 2 := by
    rcases hE with x | x
    · rcases rd_kc (rc_B σ) n a with k | k
      · omega
      · omega
    · refine ⟨x.1, x.2.1, x.2.2.1, ?_⟩
      have := (x.2.2.2.1 (Or.inr k2)).1
      rw [k2] at this
      exact this
  obtain ⟨lan, lae, len, hd⟩ := hE2
  have key : zs_ok (fX5_value σ) (fun v => v = nI (min 1000000 (rd_num (rc_B σ) a (e - a)))) := by
    unfold fX5_value
    rw [show sn_I σ 17 4 = nI a from hT.1]
    refine zs_lt (Q := fun y => y = nI a) rfl (fun y hy => ?_)
    subst hy
    refine zs_bd_ (zs_it (E := fun v : Int32 => v = nI (min 1000000 (rd_num (rc_B σ) a (e - a)))) (I := fun s : Int32 × Int32 => ∃ j, s.2 = nI j ∧ a ≤ j ∧ j ≤ e ∧ s.1 = nI (min 1000000 (rd_num (rc_B σ) a (j - a)))) (m := fun s => 900 - s.2.toInt) (fun x hx => ?_) (fun x hx => ?_) ⟨a, rfl, Nat.le_refl _, by omega, by rw [Nat.sub_self]; rfl⟩) (fun t ht => ?_)
    · obtain ⟨j, ex, h1, h2, _⟩ := hx
      rw [ex, nI_toInt (by omega)]
      exact ⟨by omega, by omega⟩
    · obtain ⟨v, x2⟩ := x
      obtain ⟨j, ex, h1, h2, h3⟩ := hx
      have ex : x2 = nI j := ex
      have h3 : v = nI (min 1000000 (rd_num (rc_B σ) a (j - a))) := h3
      subst ex
      subst h3
      unfold LX5_value_7 BX5_value_7
      rw [show sn_I σ 17 5 = nI e from hT.2.1]
      show zs_ok (if nI e ≤ nI j then _ else _) _
      refine zs_ite (fun c => zs_some (zs_inr ?_)) (fun c => ?_)
      · have := (nI_leI (by omega) (by omega)).mp c
        have ej : j = e := by omega
        subst ej
        rfl
      · have lj : j < e := by
          by_cases x : j < e
          · exact x
          · exact absurd ((nI_leI (by omega) (by omega)).mpr (by omega)) c
        have hB := rd_dig (hd j h1 lj)
        show zs_ok (sn_gd (sn_in (nI j) 900) _) _
        refine zs_gd (sn_in_nI (by omega) (by decide)) ?_
        refine zs_lt (Q := fun w => w = nI (min 1000000 (rd_num (rc_B σ) a (j + 1 - a)))) ?_ (fun w hw => ?_)
        · rw [nI_clamp (by omega)]
          have hN : min 1000000 (rd_num (rc_B σ) a (j - a)) ≤ 1000000 := Nat.min_le_left _ _
          have es : rd_num (rc_B σ) a (j + 1 - a) = 10 * rd_num (rc_B σ) a (j - a) + (rc_B σ j - 48).toNat := by
            have e1 : j + 1 - a = (j - a) + 1 := by omega
            have e2 : a + (j - a) = j := by omega
            rw [e1]
            show 10 * rd_num (rc_B σ) a (j - a) + (rc_B σ (a + (j - a)) - 48).toNat = _
            rw [e2]
          have hc := rd_cap 1000000 (rd_num (rc_B σ) a (j - a)) (rc_B σ j - 48).toNat
          rw [es]
          show (if (((10 : Int32) * nI (min 1000000 (rd_num (rc_B σ) a (j - a)))) + σ.1 18 j) - (48 : Int32) < (1000000 : Int32) then (((10 : Int32) * nI (min 1000000 (rd_num (rc_B σ) a (j - a)))) + σ.1 18 j) - (48 : Int32) else (1000000 : Int32)) = _
          generalize min 1000000 (rd_num (rc_B σ) a (j - a)) = N at hN hc ⊢
          have eB : (σ.1 18 j).toInt = rc_B σ j := rfl
          have ea : (((10 : Int32) * nI N) + σ.1 18 j) - (48 : Int32) = nI (10 * N + (rc_B σ j - 48).toNat) := by
            apply Int32.toInt_inj.mp
            rw [Int32.toInt_sub, Int32.toInt_add, Int32.toInt_mul, eB, nI_toInt (by omega), nI_toInt (by omega), show (10 : Int32).toInt = 10 by decide, show (48 : Int32).toInt = 48 by decide, zs_bm (X := 10 * (N : Int)) ⟨by omega, by omega⟩, zs_bm (X := 10 * (N : Int) + rc_B σ j) ⟨by omega, by omega⟩, zs_bm ⟨by omega, by omega⟩]
            omega
          rw [ea, ← hc]
          by_cases l : 10 * N + (rc_B σ j - 48).toNat < 1000000
          · rw [if_pos (show nI (10 * N + (rc_B σ j - 48).toNat) < (1000000 : Int32) from (nI_ltI (b := 1000000) (by omega) (by decide)).mpr l), Nat.min_eq_right (by omega)]
          · rw [if_neg (show ¬ nI (10 * N + (rc_B σ j - 48).toNat) < (1000000 : Int32) from fun x => l ((nI_ltI (b := 1000000) (by omega) (by decide)).mp x)), Nat.min_eq_left (by omega)]
            rfl
        · subst hw
          refine zs_lt (Q := fun y => y = nI j + 1) rfl (fun y hy => ?_)
          subst hy
          refine zs_some (zs_inl ⟨⟨j + 1, nI_1 _, by omega, by omega, rfl⟩, ?_⟩)
          show 900 - (nI j + 1).toInt < 900 - (nI j).toInt
          rw [nI_1, nI_toInt (by omega), nI_toInt (by omega)]
          omega
    · unfold BX5_value_41
      exact zs_some ht
  obtain ⟨v, e1, e2⟩ := key
  rw [e1, e2]
theorem rm_47bad (h : τ.1 0 12 ≠ 0) : BX9_number_47 τ = some (0, τ) := by
  unfold BX9_number_47
  rw [rm_good, if_neg h]
  rfl
theorem rm_20bad {lo hi : Int32} (h : τ.1 0 12 ≠ 0) : BX9_number_20 τ lo hi = some (0, τ) := by
  unfold BX9_number_20
  rw [rm_good, if_neg h, rm_47bad h]
  rfl
theorem rm_numbad {lo hi : Int32} (h : τ.1 0 12 ≠ 0) : fX9_number τ lo hi = some (0, τ) := by
  unfold fX9_number
  rw [rm_good, if_neg h, rm_20bad h]
  rfl
/-- the program's number behind a fault -/
theorem rc_numF (hp : zk_pos σ) (hg : σ.1 17 2 ≠ 0) {lo hi but : Int32} : zs_ok (fX5_number σ lo hi but) (fun r => rc_f σ r.2 ∧ zk_pos r.2) := by
  have s44 : ∀ v, zs_ok (BX5_number_44 σ v) (fun r => rc_f σ r.2 ∧ zk_pos r.2) := fun v => by
    unfold BX5_number_44
    exact zs_bd_ (rc_stepF hp) (fun z hz => zs_some hz)
  have s39 : ∀ v, zs_ok (BX5_number_39 σ v) (fun r => rc_f σ r.2 ∧ zk_pos r.2) := fun v => by
    unfold BX5_number_39
    rw [rc_blame, if_neg hg]
    exact s44 v
  unfold fX5_number
  refine zs_ite (fun _ => zs_bd_ (zk_value hp) (fun t _ => zs_ite (fun _ => s39 t) (fun _ => zs_ite (fun _ => s39 t) (fun _ => zs_ite (fun _ => s39 t) (fun _ => s44 t))))) (fun _ => ?_)
  rw [rc_blame, if_neg hg]
  exact zs_some ⟨rc_f0, hp⟩
theorem rr_keep {n : Nat} {z : sn_S} (h : rr_L σ τ n) (hg : σ.1 17 2 ≠ 0) (hf : rc_f σ z) (hz : zk_pos z) : rr_L z τ n ∧ rr_F σ τ z τ := by
  obtain ⟨ht, hp, hr, h12, h13, hs⟩ := h
  exact ⟨⟨rr_tpF ht hf.1 (fun _ _ => rfl) rfl, hz, rr_R hf.1 hr, by rw [hf.2.1]; exact h12, by rw [hf.2.2]; exact h13, fun e => absurd (hf.2.1.symm.trans e) hg⟩, hf.1, fun _ _ => rfl, fun _ _ _ _ _ _ _ => rfl, rfl, fun e => hf.2.1.symm.trans e⟩
/-- a number out of its bounds: both find fault 2 -/
theorem rr_39 (h : rr_L σ τ n) {v : Int32} : rr_ok (BX5_number_39 σ v) (fX9_errs τ 2) (fun r τ' => rr_L r.2 τ' n ∧ rr_F σ τ r.2 τ' ∧ r.2.1 17 2 ≠ 0) := by
  unfold BX5_number_39
  obtain ⟨s, t, e1, e2, q1, q2, q3⟩ := rr_blame h (x := 2) (by decide)
  rw [e1, e2]
  show rr_ok (BX5_number_44 s v) (some t) _
  unfold BX5_number_44
  refine rr_bl (rc_stepF q1.2.1) (fun z hz => ?_)
  have k := rr_keep q1 q3 hz.1 hz.2
  exact rr_some ⟨k.1, rr_Ft q2 k.2, fun e => q3 (hz.1.2.1.symm.trans e)⟩
theorem rr_num (h : rr_L σ τ n) {lo hi but : Int32} (hlo : 0 ≤ lo.toInt) (hhi : hi.toInt ≤ 999) (hbut : ∀ v, σ.1 17 2 = 0 → σ.1 17 6 = 2 → fX5_value σ = some v → v ≠ but) : rr_ok (fX5_number σ lo hi but) (fX9_number τ lo hi) (fun r r' => rr_L r.2 r'.2 n ∧ rr_F σ τ r.2 r'.2 ∧ (r.2.1 17 2 = 0 → r.1 = r'.1 ∧ lo.toInt ≤ r.1.toInt ∧ r.1.toInt ≤ hi.toInt)) := by
  by_cases hg : σ.1 17 2 = 0
  · have h' := h
    obtain ⟨ht, hp, hr, h12, h13, hs⟩ := h'
    obtain ⟨a, e, tc, tm, lae, len, k4, hE⟩ := hs hg
    have hn9 := ht.2.2.1
    have hB : ∀ k, k < n → rc_B σ k = rm_B τ k := fun k hk => (ht.2.2.2 k hk).1
    have hkk : rd_k (rc_B σ) n = rd_k (rm_B τ) n := rd_kB hB
    have k5 := rd_k5 (rm_B τ) n a
    have hgm : τ.1 0 12 = 0 := h12.trans hg
    have ht5 : rd_t (rd_k (rm_B τ) n a) ≤ 5 := by unfold rd_t; split <;> omega
    unfold fX5_number fX9_number
    rw [rm_good, if_pos hgm, bd_t1]
    by_cases k2 : rd_k (rm_B τ) n a = 2
    · have k2c : rd_k (rc_B σ) n a = 2 := by rw [hkk]; exact k2
      have c6 : σ.1 17 6 = 2 := by rw [tc.2.2, k2c]; rfl
      rw [if_pos (show sn_I σ 17 6 = 2 from c6), if_pos (show sn_I τ 0 10 = 2 by show τ.1 0 10 = 2; rw [tm.2.2.1, k2]; rfl)]
      have hEc : rd_E (rc_B σ) n a e := rd_EB hkk.symm hE
      have hv := rc_value hn9 tc hEc k2c
      have hvb := hbut _ hg c6 hv
      have hw := tm.2.2.2 k2
      have hN : rd_num (rc_B σ) a (e - a) = rd_num (rm_B τ) a (e - a) := rd_numB hB (e - a) (by omega)
      rw [hN] at hv hvb
      rw [hv]
      unfold BX9_number_20
      rw [rm_good, if_pos hgm, bd_t1, show sn_I τ 0 11 = nI (min 99999 (rd_num (rm_B τ) a (e - a))) from hw]
      generalize rd_num (rm_B τ) a (e - a) = N at hvb hw ⊢
      have v1 : (nI (min 1000000 N)).toInt = ((min 1000000 N : Nat) : Int) := nI_toInt (by have := Nat.min_le_left 1000000 N; omega)
      have w1 : (nI (min 99999 N)).toInt = ((min 99999 N : Nat) : Int) := nI_toInt (by have := Nat.min_le_left 99999 N; omega)
      show rr_ok (if nI (min 1000000 N) < lo then BX5_number_39 σ (nI (min 1000000 N)) else if hi < nI (min 1000000 N) then BX5_number_39 σ (nI (min 1000000 N)) else if nI (min 1000000 N) = but then BX5_number_39 σ (nI (min 1000000 N)) else BX5_number_44 σ (nI (min 1000000 N))) ((fX9_in (nI (min 99999 N)).toInt64 lo.toInt64 hi.toInt64).bind fun t_4 => if t_4 = 0 then (fX9_errs τ 2).bind fun t_7 => BX9_number_47 t_7 else BX9_number_47 τ) _
      rw [in_eq32]
      have bad : rr_ok (BX5_number_39 σ (nI (min 1000000 N))) ((fX9_errs τ 2).bind fun t_7 => BX9_number_47 t_7) (fun r r' => rr_L r.2 r'.2 n ∧ rr_F σ τ r.2 r'.2 ∧ (r.2.1 17 2 = 0 → r.1 = r'.1 ∧ lo.toInt ≤ r.1.toInt ∧ r.1.toInt ≤ hi.toInt)) := by
        obtain ⟨s, t, e1, e2, q1, q2, q3⟩ := rr_39 h (v := nI (min 1000000 N))
        rw [e1, e2]
        show rr_ok (some s) (BX9_number_47 t) _
        rw [rm_47bad (by rw [q1.2.2.2.1]; exact q3)]
        exact rr_some ⟨q1, q2, fun x => absurd x q3⟩
      by_cases cin : lo.toInt ≤ ((min 99999 N : Nat) : Int) ∧ ((min 99999 N : Nat) : Int) ≤ hi.toInt
      · have eN : min 1000000 N = min 99999 N := by
          have h1 : min 99999 N ≤ 999 := by omega
          by_cases x : N ≤ 99999
          · rw [Nat.min_eq_right x, Nat.min_eq_right (by omega)]
          · rw [Nat.min_eq_left (by omega)] at h1
            omega
        rw [eN] at v1 hvb ⊢
        rw [if_neg (fun x => by have := zs_I_lt x; omega), if_neg (fun x => by have := zs_I_lt x; omega), if_neg hvb, if_pos (⟨Int32.le_iff_toInt_le.mpr (by omega), Int32.le_iff_toInt_le.mpr (by omega)⟩ : lo ≤ nI (min 99999 N) ∧ nI (min 99999 N) ≤ hi)]
        rw [bd_t1]
        unfold BX5_number_44 BX9_number_47
        rw [rm_good, if_pos hgm, bd_t1]
        refine rr_lr (fun y => y = nI (min 99999 N)) hw (fun y hy => ?_)
        subst hy
        exact rr_bd (rr_step h hg) (fun s t q => rr_some ⟨q.1, q.2, fun _ => ⟨rfl, by show lo.toInt ≤ (nI (min 99999 N)).toInt; omega, by show (nI (min 99999 N)).toInt ≤ hi.toInt; omega⟩⟩)
      · have nin : ¬ (lo ≤ nI (min 99999 N) ∧ nI (min 99999 N) ≤ hi) := fun x => cin ⟨by have := zs_I_le x.1; omega, by have := zs_I_le x.2; omega⟩
        rw [if_neg nin, bd_t0]
        by_cases c1 : nI (min 1000000 N) < lo
        · rw [if_pos c1]
          exact bad
        · rw [if_neg c1]
          by_cases c2 : hi < nI (min 1000000 N)
          · rw [if_pos c2]
            exact bad
          · exfalso
            have d1 := zs_I_ltn c1
            have d2 := zs_I_ltn c2
            apply cin
            have h1 : min 1000000 N ≤ 999 := by omega
            have eN : min 1000000 N = min 99999 N := by
              by_cases x : N ≤ 99999
              · rw [Nat.min_eq_right x, Nat.min_eq_right (by omega)]
              · by_cases y : N ≤ 1000000
                · rw [Nat.min_eq_right y] at h1
                  omega
                · rw [Nat.min_eq_left (by omega)] at h1
                  omega
            rw [← eN]
            omega
    · have c6 : ¬ sn_I σ 17 6 = 2 := fun x => k2 (by
        have x2 : nI (rd_k (rc_B σ) n a) = nI 2 := tc.2.2.symm.trans x
        rw [hkk] at x2
        exact (nI_eq (by omega) (by decide)).mp x2)
      have c10 : ¬ sn_I τ 0 10 = 2 := fun x => k2 (by
        have x2 : nI (rd_t (rd_k (rm_B τ) n a)) = nI 2 := tm.2.2.1.symm.trans x
        have x3 := (nI_eq (by omega) (by decide)).mp x2
        unfold rd_t at x3
        split at x3
        · omega
        · exact x3)
      rw [if_neg c6, if_neg c10]
      obtain ⟨s, t, e1, e2, q1, q2, q3⟩ := rr_blame h (x := 1) (by decide)
      rw [e1, e2]
      show rr_ok (some ((0 : Int32), s)) (BX9_number_20 t lo hi) _
      rw [rm_20bad (by rw [q1.2.2.2.1]; exact q3)]
      exact rr_some ⟨q1, q2, fun x => absurd x q3⟩
  · have hb : τ.1 0 12 ≠ 0 := by rw [h.2.2.2.1]; exact hg
    rw [rm_numbad hb]
    obtain ⟨r, e1, q1, q2⟩ := rc_numF h.2.1 hg (lo := lo) (hi := hi) (but := but)
    rw [e1]
    have k := rr_keep h hg q1 q2
    exact rr_some ⟨k.1, k.2, fun x => absurd (q1.2.1.symm.trans x) hg⟩
theorem rr_num1 (h : rr_L σ τ n) {lo hi : Int32} (hlo : 0 ≤ lo.toInt) (hhi : hi.toInt ≤ 999) : rr_ok (fX5_number σ lo hi (-1)) (fX9_number τ lo hi) (fun r r' => rr_L r.2 r'.2 n ∧ rr_F σ τ r.2 r'.2 ∧ (r.2.1 17 2 = 0 → r.1 = r'.1 ∧ lo.toInt ≤ r.1.toInt ∧ r.1.toInt ≤ hi.toInt)) := by
  refine rr_num h hlo hhi (fun v hg c6 hv e1 => ?_)
  obtain ⟨ht, hp, hr, h12, h13, hs⟩ := h
  obtain ⟨a, e, tc, tm, lae, len, k4, hE⟩ := hs hg
  have hkk : rd_k (rc_B σ) n = rd_k (rm_B τ) n := rd_kB (fun k hk => (ht.2.2.2 k hk).1)
  have k5 := rd_k5 (rc_B σ) n a
  have k2 : rd_k (rc_B σ) n a = 2 := (nI_eq (b := 2) (by omega) (by decide)).mp (tc.2.2.symm.trans c6)
  have := rc_value ht.2.2.1 tc (rd_EB hkk.symm hE) k2
  rw [hv] at this
  have h2 : v = nI (min 1000000 (rd_num (rc_B σ) a (e - a))) := Option.some.inj this
  have h3 := congrArg Int32.toInt h2
  rw [e1, nI_toInt (by have := Nat.min_le_left 1000000 (rd_num (rc_B σ) a (e - a)); omega), show (-1 : Int32).toInt = -1 by decide] at h3
  omega
theorem rm_52 : BX9_readLine_52 τ = some (sn_pI τ 6 10 (τ.1 6 10 + (1 : Int32))) := rfl
/-- the row's end -/
theorem rr_sign (h : rr_L σ τ n) : rr_ok (fX5_sign σ) (BX9_readLine_21 τ) (fun σ' w => ∃ τ', w = sn_pI τ' 6 10 (τ'.1 6 10 + (1 : Int32)) ∧ rr_L σ' τ' n ∧ rr_F σ τ σ' τ') := by
  by_cases hg : σ.1 17 2 = 0
  · have h' := h
    obtain ⟨ht, hp, hr, h12, h13, hs⟩ := h'
    obtain ⟨a, e, tc, tm, lae, len, k4, hE⟩ := hs hg
    have hkk : rd_k (rc_B σ) n = rd_k (rm_B τ) n := rd_kB (fun k hk => (ht.2.2.2 k hk).1)
    have k5 := rd_k5 (rm_B τ) n a
    have hgm : τ.1 0 12 = 0 := h12.trans hg
    have ht5 : rd_t (rd_k (rm_B τ) n a) ≤ 5 := by unfold rd_t; split <;> omega
    unfold fX5_sign BX9_readLine_21
    rw [rm_good, if_pos hgm, bd_t1]
    by_cases k3 : rd_k (rm_B τ) n a = 3
    · rw [if_pos (show sn_I σ 17 6 = 3 by show σ.1 17 6 = 3; rw [tc.2.2, hkk, k3]; rfl), if_pos (show sn_I τ 0 10 = 3 by show τ.1 0 10 = 3; rw [tm.2.2.1, k3]; rfl)]
      unfold BX9_readLine_41
      rw [rm_good, if_pos hgm, bd_t1]
      exact rr_bd (rr_step h hg) (fun s t q => by
        rw [rm_52]
        exact rr_some ⟨t, rfl, q.1, q.2⟩)
    · have c6 : ¬ sn_I σ 17 6 = 3 := fun x => k3 (by
        have x2 : nI (rd_k (rc_B σ) n a) = nI 3 := tc.2.2.symm.trans x
        rw [hkk] at x2
        exact (nI_eq (by omega) (by decide)).mp x2)
      have c10 : ¬ sn_I τ 0 10 = 3 := fun x => k3 (by
        have x2 : nI (rd_t (rd_k (rm_B τ) n a)) = nI 3 := tm.2.2.1.symm.trans x
        have x3 := (nI_eq (by omega) (by decide)).mp x2
        unfold rd_t at x3
        split at x3
        · omega
        · exact x3)
      rw [if_neg c6, if_neg c10]
      obtain ⟨s, t, e1, e2, q1, q2, q3⟩ := rr_blame h (x := 1) (by decide)
      rw [e1, e2]
      show rr_ok (some s) (BX9_readLine_41 t) _
      unfold BX9_readLine_41
      rw [rm_good, if_neg (show ¬ t.1 0 12 = 0 by rw [q1.2.2.2.1]; exact q3)]
      show rr_ok (some s) (BX9_readLine_52 t) _
      rw [rm_52]
      exact rr_some ⟨t, rfl, q1, q2⟩
  · have hb : τ.1 0 12 ≠ 0 := by rw [h.2.2.2.1]; exact hg
    have e2 : BX9_readLine_21 τ = some (sn_pI τ 6 10 (τ.1 6 10 + (1 : Int32))) := by
      unfold BX9_readLine_21
      rw [rm_good, if_neg hb]
      show BX9_readLine_41 τ = _
      unfold BX9_readLine_41
      rw [rm_good, if_neg hb]
      rfl
    rw [e2]
    unfold fX5_sign
    refine rr_il (fun _ => rr_bl (rc_stepF h.2.1) (fun z hz => ?_)) (fun _ => ?_)
    · have k := rr_keep h hg hz.1 hz.2
      exact rr_some ⟨τ, rfl, k.1, k.2⟩
    · rw [rc_blame, if_neg hg]
      exact rr_some ⟨τ, rfl, h, rr_F0⟩
end
