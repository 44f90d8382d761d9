/-! words -/
def rd_L (k : Nat) : Nat := sn_len.getD k 0
def rd_c (k i : Nat) : Int32 := (sn_byt.getD k []).getD i 0
theorem rd_letters : ∀ k, k < 16 → ∀ i, i < rd_L k → 97 ≤ (rd_c k i).toInt ∧ (rd_c k i).toInt ≤ 122 := by
  have : ∀ k, k < 16 → ∀ i, i < 8 → i < rd_L k → 97 ≤ (rd_c k i).toInt ∧ (rd_c k i).toInt ≤ 122 := by decide +kernel
  exact fun k hk i hi => this k hk i (by have := sn_len8 k hk; show i < 8; have h2 : i < sn_len.getD k 0 := hi; omega) hi
theorem rd_sat {k i : Nat} (hk : k < 16) (hi : i < rd_L k) : sn_sat k (nI i) = some (rd_c k i) := by
  have hL : rd_L k < 8 := sn_len8 k hk
  unfold sn_sat
  rw [if_pos ⟨hk, sn_in_nI hi (show rd_L k < 2 ^ 31 by omega)⟩, nI_clamp (by omega)]
  rfl
theorem rd_len {k : Nat} (hk : k < 16) : sn_slen k = some (nI (rd_L k)) := by
  unfold sn_slen
  rw [if_pos hk]
  rfl
def rd_W (B : Nat → Int) (a e k : Nat) : Prop := e = a + rd_L k ∧ ∀ i, i < rd_L k → B (a + i) = (rd_c k i).toInt
section
variable {σ τ : sn_S} {n a e k : Nat}
theorem rc_isWord (hk : k < 16) (hn : n ≤ 900) (hT : rc_T σ n a e) (hae : a ≤ e) (hen : e ≤ n) : zs_ok (fX5_isWord σ k) (fun r => (r = 1 ∧ rd_k (rc_B σ) n a = 1 ∧ rd_W (rc_B σ) a e k) ∨ (r = 0 ∧ ¬ (rd_k (rc_B σ) n a = 1 ∧ rd_W (rc_B σ) a e k))) := by
  have hL : rd_L k < 8 := sn_len8 k hk
  have k5 := rd_k5 (rc_B σ) n a
  unfold fX5_isWord
  rw [show sn_I σ 17 6 = nI (rd_k (rc_B σ) n a) from hT.2.2, show sn_I σ 17 5 = nI e from hT.2.1, show sn_I σ 17 4 = nI a from hT.1, rd_len hk]
  refine zs_ite (fun c => ?_) (fun c => zs_gd (by decide) (zs_some (Or.inr ⟨rfl, fun x => c (by rw [x.1]; rfl)⟩)))
  have k1 : rd_k (rc_B σ) n a = 1 := (nI_eq (b := 1) (by omega) (by decide)).mp c
  show zs_ok (if nI e - nI a = nI (rd_L k) then _ else _) _
  have es : nI e - nI a = nI (e - a) := by
    apply Int32.toInt_inj.mp
    rw [Int32.toInt_sub, nI_toInt (by omega), nI_toInt (by omega), nI_toInt (by omega), zs_bm ⟨by omega, by omega⟩]
    omega
  rw [es]
  refine zs_ite (fun c2 => ?_) (fun c2 => zs_gd (by decide) (zs_some (Or.inr ⟨rfl, fun x => c2 (by rw [x.2.1, Nat.add_sub_cancel_left])⟩)))
  have hl : e - a = rd_L k := (nI_eq (by omega) (by omega)).mp c2
  refine zs_lt (Q := fun y => y = nI a) rfl (fun y hy => ?_)
  subst hy
  refine zs_bd_ (zs_it (E := fun t : Unit ⊕ Int32 => (t = .inl () ∧ ∀ i, i < rd_L k → rc_B σ (a + i) = (rd_c k i).toInt) ∨ (t = .inr 0 ∧ ∃ i, i < rd_L k ∧ rc_B σ (a + i) ≠ (rd_c k i).toInt)) (I := fun x : Int32 => ∃ j, x = nI (a + j) ∧ j ≤ rd_L k ∧ ∀ i, i < j → rc_B σ (a + i) = (rd_c k i).toInt) (m := fun x => 900 - x.toInt) (fun x hx => ?_) (fun x hx => ?_) ⟨0, rfl, by omega, fun i hi => absurd hi (by omega)⟩) (fun t ht => ?_)
  · obtain ⟨j, ex, h1, _⟩ := hx
    rw [ex, nI_toInt (by omega)]
    exact ⟨by omega, by omega⟩
  · obtain ⟨j, ex, h1, h2⟩ := hx
    subst ex
    unfold LX5_isWord_31 BX5_isWord_31
    rw [show sn_I σ 17 5 = nI e from hT.2.1, show sn_I σ 17 4 = nI a from hT.1]
    refine zs_ite (fun c3 => zs_some (zs_inr (Or.inl ⟨rfl, fun i hi => h2 i ?_⟩))) (fun c3 => ?_)
    · have := (nI_leI (by omega) (by omega)).mp c3
      omega
    · have lj : j < rd_L k := by
        by_cases x : j < rd_L k
        · exact x
        · exact absurd ((nI_leI (by omega) (by omega)).mpr (by omega)) c3
      have ej : nI (a + j) - nI a = nI j := by
        apply Int32.toInt_inj.mp
        rw [Int32.toInt_sub, nI_toInt (by omega), nI_toInt (by omega), nI_toInt (by omega), zs_bm ⟨by omega, by omega⟩]
        omega
      rw [ej, rd_sat hk lj, nI_clamp (by omega)]
      refine zs_gd (sn_in_nI (by omega) (by decide)) ?_
      show zs_ok (if σ.1 18 (a + j) = rd_c k j then _ else _) _
      refine zs_ite (fun c4 => ?_) (fun c4 => zs_gd (by decide) (zs_some (zs_inr (Or.inr ⟨rfl, j, lj, fun x => c4 (rI_eq.mpr x)⟩))))
      refine zs_lt (Q := fun y => y = nI (a + j) + 1) rfl (fun y hy => ?_)
      subst hy
      refine zs_some (zs_inl ⟨⟨j + 1, nI_1 _, by omega, fun i hi => ?_⟩, ?_⟩)
      · by_cases x : i = j
        · rw [x]
          exact rI_eq.mp c4
        · exact h2 i (by omega)
      · show 900 - (nI (a + j) + 1).toInt < 900 - (nI (a + j)).toInt
        rw [nI_1, nI_toInt (by omega), nI_toInt (by omega)]
        omega
  · rcases ht with ⟨e1, e2⟩ | ⟨e1, i, e2, e3⟩
    · rw [e1]
      show zs_ok (BX5_isWord_66 σ k) _
      unfold BX5_isWord_66
      exact zs_gd (by decide) (zs_some (Or.inl ⟨rfl, k1, by omega, e2⟩))
    · rw [e1]
      exact zs_some (Or.inr ⟨rfl, fun x => e3 (x.2.2 i e2)⟩)
theorem rm_raw {x c : Int32} (hx : -128 ≤ x.toInt ∧ x.toInt ≤ 127) (hc : 97 ≤ c.toInt ∧ c.toInt ≤ 122) : x = c ↔ (x &&& (255 : Int32)).toInt = c.toInt := by
  have key : ∀ j, j < 256 → ((nI j - 128) &&& (255 : Int32)).toInt = if 128 ≤ j then (j : Int) - 128 else (j : Int) + 128 := by decide +kernel
  have e : x = nI (x.toInt + 128).toNat - 128 := by
    apply Int32.toInt_inj.mp
    rw [Int32.toInt_sub, nI_toInt (by omega), show (128 : Int32).toInt = 128 by decide, zs_bm ⟨by omega, by omega⟩]
    omega
  have h1 := key (x.toInt + 128).toNat (by omega)
  rw [← e] at h1
  rw [h1, rI_eq]
  by_cases g : 128 ≤ (x.toInt + 128).toNat
  · rw [if_pos g]
    omega
  · rw [if_neg g]
    omega
theorem rm_is0 (hk : k < 16) : fX9_is τ k = (if τ.1 0 12 = 0 then (if τ.1 0 10 = 1 then (if τ.1 0 8 - τ.1 0 9 = nI (rd_L k) then BX9_is_36 τ k 1 else BX9_is_36 τ k 0) else BX9_is_36 τ k 0) else BX9_is_36 τ k 0) := by
  unfold fX9_is BX9_is_35
  rw [rm_good, rd_len hk]
  by_cases h : τ.1 0 12 = 0
  · rw [if_pos h, if_pos h]
    rfl
  · rw [if_neg h, if_neg h]
    rfl
theorem rm_is36z (hk : k < 16) : BX9_is_36 τ k 0 = some 0 := by
  have hL : rd_L k < 8 := sn_len8 k hk
  have h0 : ∀ k, k < 16 → 0 < rd_L k := by decide +kernel
  have h1 := h0 k hk
  have st : LX9_is_39 τ k ((0 : Int32), (0 : Int32)) = some (Sum.inr 0) := by
    unfold LX9_is_39 BX9_is_39
    rw [rd_len hk]
    show (if nI (rd_L k) ≤ (0 : Int32) then _ else _) = _
    rw [if_neg (nI_nle h1 (by omega))]
    exact if_pos rfl
  have e : sn_it (LX9_is_39 τ k) (4999 + 1) ((0 : Int32), (0 : Int32)) = some 0 := by
    unfold sn_it
    rw [st]
  unfold BX9_is_36
  show (sn_it (LX9_is_39 τ k) (4999 + 1) ((0 : Int32), (0 : Int32))).bind _ = _
  rw [e]
  rfl
theorem rm_isbad (hk : k < 16) (h : τ.1 0 12 ≠ 0) : fX9_is τ k = some 0 := by
  rw [rm_is0 hk, if_neg h, rm_is36z hk]
theorem rm_is (hk : k < 16) (hn : n ≤ 900) (hT : rm_T τ n a e) (hae : a ≤ e) (hen : e ≤ n) (h5 : rd_k (rm_B τ) n a ≤ 5) (hraw : ∀ k, k < n → -128 ≤ (τ.1 4 k).toInt ∧ (τ.1 4 k).toInt ≤ 127) (hg : τ.1 0 12 = 0) : zs_ok (fX9_is τ k) (fun r => (r = 1 ∧ rd_k (rm_B τ) n a = 1 ∧ rd_W (rm_B τ) a e k) ∨ (r = 0 ∧ ¬ (rd_k (rm_B τ) n a = 1 ∧ rd_W (rm_B τ) a e k))) := by
  have hL : rd_L k < 8 := sn_len8 k hk
  have ht : rd_t (rd_k (rm_B τ) n a) ≤ 5 := by unfold rd_t; split <;> omega
  rw [rm_is0 hk, if_pos hg, hT.2.2.1, hT.2.1, hT.1]
  have es : nI e - nI a = nI (e - a) := by
    apply Int32.toInt_inj.mp
    rw [Int32.toInt_sub, nI_toInt (by omega), nI_toInt (by omega), nI_toInt (by omega), zs_bm ⟨by omega, by omega⟩]
    omega
  rw [es]
  refine zs_ite (fun c => ?_) (fun c => ⟨0, rm_is36z hk, Or.inr ⟨rfl, fun x => c (by rw [x.1]; rfl)⟩⟩)
  have k1 : rd_k (rm_B τ) n a = 1 := by
    have := (nI_eq (b := 1) (by omega) (by decide)).mp c
    unfold rd_t at this
    split at this
    · omega
    · exact this
  refine zs_ite (fun c2 => ?_) (fun c2 => ⟨0, rm_is36z hk, Or.inr ⟨rfl, fun x => c2 (by rw [x.2.1, Nat.add_sub_cancel_left])⟩⟩)
  have hl : e - a = rd_L k := (nI_eq (by omega) (by omega)).mp c2
  unfold BX9_is_36
  refine zs_bd_ (zs_it (E := fun t : Int32 => (t = 1 ∧ ∀ i, i < rd_L k → rm_B τ (a + i) = (rd_c k i).toInt) ∨ (t = 0 ∧ ∃ i, i < rd_L k ∧ rm_B τ (a + i) ≠ (rd_c k i).toInt)) (I := fun s : Int32 × Int32 => ∃ j, s.2 = nI j ∧ j ≤ rd_L k ∧ ((s.1 = 1 ∧ ∀ i, i < j → rm_B τ (a + i) = (rd_c k i).toInt) ∨ (s.1 = 0 ∧ ∃ i, i < rd_L k ∧ rm_B τ (a + i) ≠ (rd_c k i).toInt))) (m := fun s => 100 - s.2.toInt) (fun x hx => ?_) (fun x hx => ?_) ⟨0, rfl, by omega, Or.inl ⟨rfl, fun i hi => absurd hi (by omega)⟩⟩) (fun t ht => ?_)
  · obtain ⟨j, ex, h1, _⟩ := hx
    rw [ex, nI_toInt (by omega)]
    exact ⟨by omega, by omega⟩
  · obtain ⟨y, x2⟩ := x
    obtain ⟨j, ex, h1, h2⟩ := hx
    have ex : x2 = nI j := ex
    subst ex
    unfold LX9_is_39 BX9_is_39
    rw [rd_len hk, show sn_I τ 0 9 = nI a from hT.1]
    show zs_ok (if nI (rd_L k) ≤ nI j then _ else _) _
    refine zs_ite (fun c3 => zs_some (zs_inr ?_)) (fun c3 => ?_)
    · have := (nI_leI (by omega) (by omega)).mp c3
      rcases h2 with ⟨e1, e2⟩ | ⟨e1, e2⟩
      · exact Or.inl ⟨e1, fun i hi => e2 i (by omega)⟩
      · exact Or.inr ⟨e1, e2⟩
    · have lj : j < rd_L k := by
        by_cases x : j < rd_L k
        · exact x
        · exact absurd ((nI_leI (by omega) (by omega)).mpr (by omega)) c3
      refine zs_ite (fun c4 => zs_some (zs_inr ?_)) (fun c4 => ?_)
      · have c4 : y = 0 := c4
        rcases h2 with ⟨e1, e2⟩ | ⟨e1, e2⟩
        · have e1 : y = 1 := e1
          exact absurd (e1.symm.trans c4) (by decide)
        · exact Or.inr ⟨e1, e2⟩
      · have e1 : ∀ i, i < j → rm_B τ (a + i) = (rd_c k i).toInt := by
          rcases h2 with ⟨e1, e2⟩ | ⟨e1, e2⟩
          · exact e2
          · exact absurd e1 c4
        have ea : nI a + nI j = nI (a + j) := nI_add a j
        show zs_ok (sn_gd (sn_in (nI a + nI j) 900) ((sn_sat k (nI j)).bind _)) _
        rw [ea, rd_sat hk lj, nI_clamp (by omega)]
        refine zs_gd (sn_in_nI (by omega) (by decide)) ?_
        have hc := rm_raw (hraw (a + j) (by omega)) (rd_letters k hk j lj)
        have nx : ∀ t0 : Int32, ((t0 = 1 ∧ ∀ i, i < j + 1 → rm_B τ (a + i) = (rd_c k i).toInt) ∨ (t0 = 0 ∧ ∃ i, i < rd_L k ∧ rm_B τ (a + i) ≠ (rd_c k i).toInt)) → zs_ok (BX9_is_75 τ k y (nI j) t0) (zs_sum (fun s' : Int32 × Int32 => (∃ j, s'.2 = nI j ∧ j ≤ rd_L k ∧ ((s'.1 = 1 ∧ ∀ i, i < j → rm_B τ (a + i) = (rd_c k i).toInt) ∨ (s'.1 = 0 ∧ ∃ i, i < rd_L k ∧ rm_B τ (a + i) ≠ (rd_c k i).toInt))) ∧ 100 - s'.2.toInt < 100 - (nI j).toInt) (fun t : Int32 => (t = 1 ∧ ∀ i, i < rd_L k → rm_B τ (a + i) = (rd_c k i).toInt) ∨ (t = 0 ∧ ∃ i, i < rd_L k ∧ rm_B τ (a + i) ≠ (rd_c k i).toInt))) := by
          intro t0 h0
          unfold BX9_is_75
          refine zs_lt (Q := fun y => y = nI j + 1) rfl (fun y hy => ?_)
          subst hy
          refine zs_some (zs_inl ⟨⟨j + 1, nI_1 _, by omega, h0⟩, ?_⟩)
          show 100 - (nI j + 1).toInt < 100 - (nI j).toInt
          rw [nI_1, nI_toInt (by omega), nI_toInt (by omega)]
          omega
        show zs_ok (if τ.1 4 (a + j) = rd_c k j then _ else _) _
        refine zs_ite (fun c5 => nx 1 (Or.inl ⟨rfl, fun i hi => ?_⟩)) (fun c5 => nx 0 (Or.inr ⟨rfl, j, lj, fun x => c5 (hc.mpr x)⟩))
        by_cases x : i = j
        · rw [x]
          exact hc.mp c5
        · exact e1 i (by omega)
  · unfold BX9_is_82
    rcases ht with ⟨e1, e2⟩ | ⟨e1, i, e2, e3⟩
    · rw [e1]
      exact zs_gd (by decide) (zs_some (Or.inl ⟨rfl, k1, by omega, e2⟩))
    · rw [e1]
      exact zs_gd (by decide) (zs_some (Or.inr ⟨rfl, fun x => e3 (x.2.2 i e2)⟩))
/-- in step both know the same words -/
theorem rr_isW (hk : k < 16) (h : rr_L σ τ n) (hg : σ.1 17 2 = 0) : ∃ v : Int32, (v = 0 ∨ v = 1) ∧ fX5_isWord σ k = some v ∧ fX9_is τ k = some v := by
  obtain ⟨ht, hp, hr, h12, h13, hs⟩ := h
  obtain ⟨a, e, tc, tm, lae, len, k4, hE⟩ := hs hg
  have hn9 := ht.2.2.1
  have hB : ∀ k, k < n → rc_B σ k = rm_B τ k := fun k hk => (ht.2.2.2 k hk).1
  have hkk : rd_k (rc_B σ) n = rd_k (rm_B τ) n := rd_kB hB
  have k5 := rd_k5 (rm_B τ) n a
  obtain ⟨v, e1, q1⟩ := rc_isWord hk hn9 tc lae len
  obtain ⟨w, e2, q2⟩ := rm_is hk hn9 tm lae len k5 (fun k hk => (ht.2.2.2 k hk).2) (h12.trans hg)
  have hW : rd_W (rc_B σ) a e k ↔ rd_W (rm_B τ) a e k := by
    unfold rd_W
    constructor
    · intro x
      exact ⟨x.1, fun i hi => by rw [← hB (a + i) (by omega)]; exact x.2 i hi⟩
    · intro x
      exact ⟨x.1, fun i hi => by rw [hB (a + i) (by omega)]; exact x.2 i hi⟩
  rw [hkk, hW] at q1
  rcases q1 with ⟨p1, p2⟩ | ⟨p1, p2⟩
  · rcases q2 with ⟨r1, r2⟩ | ⟨r1, r2⟩
    · exact ⟨1, Or.inr rfl, by rw [e1, p1], by rw [e2, r1]⟩
    · exact absurd p2 r2
  · rcases q2 with ⟨r1, r2⟩ | ⟨r1, r2⟩
    · exact absurd r2 p2
    · exact ⟨0, Or.inl rfl, by rw [e1, p1], by rw [e2, r1]⟩
theorem rr_word (hk : k < 16) (h : rr_L σ τ n) : rr_ok (fX5_word σ k) (fX9_needs τ k) (fun σ' τ' => rr_L σ' τ' n ∧ rr_F σ τ σ' τ') := by
  by_cases hg : σ.1 17 2 = 0
  · obtain ⟨v, hv, e1, e2⟩ := rr_isW hk h hg
    unfold fX5_word fX9_needs fX9_takes
    rw [e1, e2]
    rcases hv with c | c
    · subst c
      show rr_ok ((fX5_blame σ 1).bind fun t_4 => some t_4) ((fX9_errs τ 1).bind fun t_4 => some t_4) _
      exact rr_bd (rr_blame h (by decide)) (fun a b q => rr_some ⟨q.1, q.2.1⟩)
    · subst c
      show rr_ok ((fX5_step σ).bind fun t_6 => some t_6) (((fX9_advance τ).bind fun t_5 => sn_gd (sn_b01 1) (some ((1 : Int32), t_5))).bind fun t_1 => if t_1.1 = 0 then (fX9_errs t_1.2 1).bind fun t_4 => some t_4 else some t_1.2) _
      obtain ⟨s, t, q1, q2, q3⟩ := rr_step h hg
      rw [q1, q2]
      exact rr_some q3
  · obtain ⟨ht, hp, hr, h12, h13, hs⟩ := h
    have hb : τ.1 0 12 ≠ 0 := by rw [h12]; exact hg
    have en : fX9_needs τ k = some τ := by
      unfold fX9_needs fX9_takes
      rw [rm_isbad hk hb]
      show (fX9_errs τ 1).bind _ = _
      rw [rm_errs, if_neg hb]
      rfl
    rw [en]
    have keep : ∀ z, rc_f σ z → zk_pos z → rr_ok (some z) (some τ) (fun σ' τ' => rr_L σ' τ' n ∧ rr_F σ τ σ' τ') := fun z hf hz => rr_some ⟨⟨rr_tpF ht hf.1 (fun _ _ => rfl) rfl, hz, rr_R hf.1 hr, by rw [hf.2.1]; exact h12, by rw [hf.2.2]; exact h13, fun e => absurd (hf.2.1.symm.trans e) hg⟩, hf.1, fun _ _ => rfl, fun _ _ _ _ _ _ _ => rfl, rfl, fun e => hf.2.1.symm.trans e⟩
    unfold fX5_word
    refine rr_bl (zk_isWord hp hk) (fun t _ => rr_il (fun _ => ?_) (fun _ => ?_))
    · rw [rc_blame, if_neg hg]
      exact keep σ rc_f0 hp
    · exact rr_bl (rc_stepF hp) (fun z hz => keep z hz.1 hz.2)
end
