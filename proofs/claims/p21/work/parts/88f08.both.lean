section
variable {σ τ : sn_S} {n m : Nat} {l : Int32} {α β : Type} {P : α → β → Prop}
theorem rr_numG (h : rr_L σ τ n) {lo lo' hi : Int32} (hlo : σ.1 17 2 = 0 → lo = lo' ∧ 0 ≤ lo.toInt) (hhi : hi.toInt ≤ 999) : rr_ok (fX5_number σ lo hi (-1)) (fX9_number τ lo' hi) (fun r r' => rr_L r.2 r'.2 n ∧ rr_F σ τ r.2 r'.2 ∧ (r.2.1 17 2 = 0 → r.1 = r'.1)) := by
  by_cases hg : σ.1 17 2 = 0
  · rw [← (hlo hg).1]
    exact rr_w (rr_num1 h (hlo hg).2 hhi) (fun a b q => ⟨q.1, q.2.1, fun x => (q.2.2 x).1⟩)
  · rw [rm_numbad (show τ.1 0 12 ≠ 0 by rw [h.2.2.2.1]; exact hg)]
    obtain ⟨r, e1, q1, q2⟩ := rc_numF h.2.1 hg (lo := lo) (hi := hi) (but := -1)
    rw [e1]
    have k := rr_keep h hg q1 q2
    exact rr_some ⟨k.1, k.2, fun x => absurd (q1.2.1.symm.trans x) hg⟩
theorem rr_tellG {k : Nat} (hk : k < 16) (h : rr_L σ τ n) {lo lo' hi : Int32} (hlo : σ.1 17 2 = 0 → lo = lo' ∧ 0 ≤ lo.toInt) (hhi : hi.toInt ≤ 999) {f : Int32 × sn_S → Option α} {g : Int32 × sn_S → Option β}
    (K : ∀ r r', rr_L r.2 r'.2 n → rr_F σ τ r.2 r'.2 → (r.2.1 17 2 = 0 → r.1 = r'.1) → rr_ok (f r) (g r') P) : rr_ok ((fX5_word σ k).bind fun t => sn_gd (sn_R t 17 7 == some 8) ((fX5_number t lo hi (-1)).bind f)) ((fX9_told τ k lo' hi).bind g) P := by
  unfold fX9_told
  refine rr_Bb (rr_bd (rr_word hk h) (fun s t q => rr_gl (by rw [q.1.2.2.1]; rfl) (rr_Bb ?_)))
  exact rr_bd (rr_numG q.1 (fun x => hlo (q.2.2.2.2.2 x)) hhi) (fun r r' q2 => K r r' q2.1 (rr_Ft q.2 q2.2.1) q2.2.2)
/-- a net's second end: not the first -/
theorem rr_net2 {hi one : Int32} {y : Nat} (hy : y < 119) (h : rr_L σ τ n) (h5 : hi.toInt ≤ 5) (ho : σ.1 17 2 = 0 → τ.1 6 y = one ∧ 0 ≤ one.toInt ∧ one.toInt ≤ 5) {f : Int32 × sn_S → Option α} {G : Int32 × sn_S → Option sn_S} {g : sn_S → Option β} {R67 : sn_S → Option sn_S} (h67 : ∀ z, R67 z = (fX9_number z 0 hi).bind G)
    (K : ∀ r r', rr_L r.2 r'.2 n → rr_F σ τ r.2 r'.2 → (r.2.1 17 2 = 0 → r.1 = r'.1) → rr_ok (f r) ((G r').bind g) P) :
    rr_ok ((fX5_number σ 0 hi one).bind f) (((fX9_good τ).bind fun t => if t = 0 then R67 τ else if sn_I τ 0 10 = 2 then sn_gd (sn_in (nI y) 119) (if sn_I τ 0 11 = sn_I τ 6 y then (fX9_errs τ 2).bind fun t => R67 t else R67 τ) else R67 τ).bind g) P := by
  have z0 : (0 : Int32).toInt = 0 := by decide
  by_cases hc : σ.1 17 2 = 0 ∧ σ.1 17 6 = 2 ∧ τ.1 0 11 = one
  · obtain ⟨hg, c6, c11⟩ := hc
    have h' := h
    obtain ⟨ht, hp, hr, h12, h13, hs⟩ := h'
    obtain ⟨a, e, tc, tm, lae, len, k4, hE⟩ := hs hg
    have hB : ∀ k, k < n → rc_B σ k = rm_B τ k := fun k hk => (ht.2.2.2 k hk).1
    have hkk : rd_k (rc_B σ) n = rd_k (rm_B τ) n := rd_kB hB
    have k5 := rd_k5 (rc_B σ) n a
    have k2 : rd_k (rc_B σ) n a = 2 := (nI_eq (b := 2) (by omega) (by decide)).mp (tc.2.2.symm.trans c6)
    have k2m : rd_k (rm_B τ) n a = 2 := by rw [← hkk]; exact k2
    have hv := rc_value ht.2.2.1 tc (rd_EB hkk.symm hE) k2
    have hw := tm.2.2.2 k2m
    have hN : rd_num (rc_B σ) a (e - a) = rd_num (rm_B τ) a (e - a) := rd_numB hB (e - a) (by omega)
    rw [hN] at hv
    have hone := ho hg
    have eW : nI (min 99999 (rd_num (rm_B τ) a (e - a))) = one := hw.symm.trans c11
    have eV : nI (min 1000000 (rd_num (rm_B τ) a (e - a))) = one := by
      have h1 := congrArg Int32.toInt eW
      generalize rd_num (rm_B τ) a (e - a) = N at h1 eW ⊢
      rw [nI_toInt (by have := Nat.min_le_left 99999 N; omega)] at h1
      have h2 : min 99999 N ≤ 5 := by omega
      have h3 : N ≤ 99999 := by
        by_cases x : N ≤ 99999
        · exact x
        · rw [Nat.min_eq_left (by omega)] at h2
          omega
      rw [← eW, Nat.min_eq_right h3, Nat.min_eq_right (by omega)]
    have hgm : τ.1 0 12 = 0 := h12.trans hg
    have eL : fX5_number σ 0 hi one = BX5_number_39 σ one := by
      unfold fX5_number
      rw [if_pos (show sn_I σ 17 6 = 2 from c6), hv, eV]
      show (if one < 0 then BX5_number_39 σ one else if hi < one then BX5_number_39 σ one else if one = one then BX5_number_39 σ one else BX5_number_44 σ one) = _
      by_cases d1 : one < 0
      · rw [if_pos d1]
      · rw [if_neg d1]
        by_cases d2 : hi < one
        · rw [if_pos d2]
        · rw [if_neg d2, if_pos rfl]
    obtain ⟨s, t, q1, q2, q3, q4, q5⟩ := rr_39 h (v := one)
    have eR : ((fX9_good τ).bind fun t => if t = 0 then R67 τ else if sn_I τ 0 10 = 2 then sn_gd (sn_in (nI y) 119) (if sn_I τ 0 11 = sn_I τ 6 y then (fX9_errs τ 2).bind fun t => R67 t else R67 τ) else R67 τ) = R67 t := by
      rw [rm_good, if_pos hgm, bd_t1, if_pos (show sn_I τ 0 10 = 2 by show τ.1 0 10 = 2; rw [tm.2.2.1, k2m]; rfl), sn_in_nI hy (by decide), gd_T, if_pos (show sn_I τ 0 11 = sn_I τ 6 y from c11.trans hone.1.symm), q2]
      rfl
    rw [eL, eR, q1, h67, rm_numbad (by rw [q3.2.2.2.1]; exact q5)]
    show rr_ok (f s) ((G ((0 : Int32), t)).bind g) P
    exact K s ((0 : Int32), t) q3 q4 (fun x => absurd x q5)
  · have eR : ((fX9_good τ).bind fun t => if t = 0 then R67 τ else if sn_I τ 0 10 = 2 then sn_gd (sn_in (nI y) 119) (if sn_I τ 0 11 = sn_I τ 6 y then (fX9_errs τ 2).bind fun t => R67 t else R67 τ) else R67 τ) = R67 τ := by
      rw [rm_good]
      by_cases hgm : τ.1 0 12 = 0
      · rw [if_pos hgm]
        rw [bd_t1]
        by_cases c10 : sn_I τ 0 10 = 2
        · rw [if_pos c10, sn_in_nI hy (by decide), gd_T]
          have hg : σ.1 17 2 = 0 := h.2.2.2.1.symm.trans hgm
          refine if_neg (fun x => hc ⟨hg, ?_, ?_⟩)
          · obtain ⟨a, e, tc, tm, lae, len, k4, hE⟩ := h.2.2.2.2.2 hg
            have hkk : rd_k (rc_B σ) n = rd_k (rm_B τ) n := rd_kB (fun k hk => (h.1.2.2.2 k hk).1)
            have k5 := rd_k5 (rm_B τ) n a
            have ht5 : rd_t (rd_k (rm_B τ) n a) ≤ 5 := by unfold rd_t; split <;> omega
            have x2 : nI (rd_t (rd_k (rm_B τ) n a)) = nI 2 := tm.2.2.1.symm.trans c10
            have x3 := (nI_eq (by omega) (by decide)).mp x2
            have x4 : rd_k (rm_B τ) n a = 2 := by
              unfold rd_t at x3
              split at x3
              · omega
              · exact x3
            rw [tc.2.2, hkk, x4]
            rfl
          · have x : τ.1 0 11 = τ.1 6 y := x
            exact x.trans (ho hg).1
        · rw [if_neg c10]
      · rw [if_neg hgm]
        rfl
    rw [eR, h67]
    refine rr_Bb (rr_bd (rr_num h (by decide) (by omega) (fun v hg c6 hv e1 => hc ⟨hg, c6, ?_⟩)) (fun r r' q => K r r' q.1 q.2.1 (fun x => (q.2.2 x).1)))
    obtain ⟨a, e, tc, tm, lae, len, k4, hE⟩ := h.2.2.2.2.2 hg
    have hB : ∀ k, k < n → rc_B σ k = rm_B τ k := fun k hk => (h.1.2.2.2 k hk).1
    have hkk : rd_k (rc_B σ) n = rd_k (rm_B τ) n := rd_kB hB
    have k5 := rd_k5 (rc_B σ) n a
    have k2 : rd_k (rc_B σ) n a = 2 := (nI_eq (b := 2) (by omega) (by decide)).mp (tc.2.2.symm.trans c6)
    have hv2 := rc_value h.1.2.2.1 tc (rd_EB hkk.symm hE) k2
    rw [hv] at hv2
    have h2 : v = nI (min 1000000 (rd_num (rc_B σ) a (e - a))) := Option.some.inj hv2
    have hN : rd_num (rc_B σ) a (e - a) = rd_num (rm_B τ) a (e - a) := rd_numB hB (e - a) (by omega)
    have hw := tm.2.2.2 (by rw [← hkk]; exact k2)
    rw [hw]
    rw [hN, e1] at h2
    have h3 := congrArg Int32.toInt h2
    have hone := ho hg
    generalize rd_num (rm_B τ) a (e - a) = N at h2 h3 ⊢
    rw [nI_toInt (by have := Nat.min_le_left 1000000 N; omega)] at h3
    have h4 : min 1000000 N ≤ 5 := by omega
    have h5 : N ≤ 1000000 := by
      by_cases x : N ≤ 1000000
      · exact x
      · rw [Nat.min_eq_left (by omega)] at h4
        omega
    rw [Nat.min_eq_right h5] at h4 h2
    rw [h2, Nat.min_eq_right (by omega)]
theorem rr_net (h : rr_N l σ τ n) (hg : σ.1 17 2 = 0) (hm : σ.1 9 7 = nI m) (h6 : m < 8) (e0 : fX9_is τ 6 = some 0) (e0' : fX9_is τ 7 = some 0) (e1 : fX5_isWord σ 8 = some 1) (e2 : fX9_is τ 8 = some 1) : rr_ok (fX5_readNet σ (nI m)) ((BX9_readNext_143 τ).bind fun t => BX9_readLine_21 t) (fun σ' τ' => rr_N (l + 1) σ' τ' n) := by
  obtain ⟨s, t, ew, et, _, qL, qF⟩ := rr_begin h.1 hg e1 e2
  have hgm : τ.1 0 12 = 0 := h.1.2.2.2.1.trans hg
  have c0 := h.2.2 hg
  have t7 : t.1 6 7 = nI m := by rw [qF.2.1 6 (by decide), ← c0.2.1 7 (by decide)]; exact hm
  have t5 : t.1 6 5 = σ.1 9 5 := by rw [qF.2.1 6 (by decide), ← c0.2.1 5 (by decide)]
  have M0 : rr_M l 12 33 (2 * m) 0 s t n := rr_MF (by decide) (rr_M0 h) qL qF
  have s9 : s.1 9 = σ.1 9 := qF.1.1 9 (by decide)
  have hi5 : (σ.1 9 5 - (1 : Int32)).toInt ≤ 5 ∧ -1 ≤ (σ.1 9 5 - (1 : Int32)).toInt := by
    have b5 := c0.1.1
    rw [Int32.toInt_sub, show (1 : Int32).toInt = 1 by decide, zs_bm ⟨by omega, by omega⟩]
    omega
  have e6 : fX9_takes τ 6 = some (0, τ) := by
    unfold fX9_takes
    rw [e0]
    rfl
  have e7 : fX9_takes τ 7 = some (0, τ) := by
    unfold fX9_takes
    rw [e0']
    rfl
  unfold fX5_readNet BX9_readNext_143
  rw [if_pos (show nI m < 8 from (nI_ltI (b := 8) (by omega) (by decide)).mpr h6), ew, rm_good, if_pos hgm, zk_2n m, show nI (2 * m) + (1 : Int32) = nI (2 * m + 1) from nI_1 _]
  refine rr_Bb (rr_br (Q := fun u => u = 1) ⟨1, rfl, rfl⟩ (fun u hu => ?_))
  subst hu
  refine rr_Bi (fun c => absurd c (by decide)) (fun _ => ?_)
  rw [e6]
  refine rr_Bb (rr_br (Q := fun u => u = ((0 : Int32), τ)) ⟨_, rfl, rfl⟩ (fun u hu => ?_))
  subst hu
  refine rr_Bi (fun _ => ?_) (fun c => absurd (show (0 : Int32) = 0 from rfl) c)
  show rr_ok _ (((fX9_takes τ 7).bind _).bind _) _
  rw [e7]
  refine rr_Bb (rr_br (Q := fun u => u = ((0 : Int32), τ)) ⟨_, rfl, rfl⟩ (fun u hu => ?_))
  subst hu
  refine rr_Bi (fun _ => ?_) (fun c => absurd (show (0 : Int32) = 0 from rfl) c)
  show rr_ok _ (((fX9_takes τ 8).bind _).bind _) _
  rw [et]
  refine rr_Bb (rr_br (Q := fun u => u = ((1 : Int32), t)) ⟨_, rfl, rfl⟩ (fun u hu => ?_))
  subst hu
  refine rr_Bi (fun c => absurd (show (1 : Int32) = 0 from c) (by decide)) (fun _ => rr_Bb ?_)
  unfold fX9_readNet
  refine rr_Bg (by decide) (rr_Bl (fun y => y = nI (33 + 2 * m)) (by show (33 : Int32) + ((2 : Int32) * t.1 6 7) = _; rw [t7, zk_2n]; exact nI_add 33 (2 * m)) (fun y hy => ?_))
  subst hy
  refine rr_Bg (by decide) (rr_Bl (fun y => y = σ.1 9 5 - (1 : Int32)) (by show t.1 6 5 - (1 : Int32) = _; rw [t5]) (fun y5 hy5 => ?_))
  subst hy5
  rw [nI_clamp (show 2 * m < 2 ^ 31 by omega), nI_clamp (show 2 * m + 1 < 2 ^ 31 by omega), nI_clamp (show 33 + 2 * m < 2 ^ 31 by omega)]
  refine rr_bl (Q := fun u => u = s) ⟨s, rfl, rfl⟩ (fun u hu => ?_)
  subst hu
  rw [show sn_I u (8 + 1) (5 : Int32).toNatClampNeg = σ.1 9 5 from by show u.1 9 5 = _; rw [s9]]
  refine rr_gl (by rw [qL.2.2.1]; rfl) (rr_gl (by decide) (rr_Bb (rr_bd (rr_num1 qL (by decide) (by omega)) (fun r r' q2 => ?_))))
  have M1 := rr_MF (by decide) M0 q2.1 q2.2.1
  have r9 : r.2.1 9 = σ.1 9 := by rw [q2.2.1.1.1 9 (by decide), s9]
  refine rr_gl (by rw [q2.1.2.2.1]; rfl) (rr_gl (sn_in_nI (by omega) (by decide)) (rr_ll (fun z => z = sn_pI r.2 12 (2 * m + 0) r.1) rfl (fun z hz => ?_)))
  refine rr_Bg (sn_in_nI (by omega) (by decide)) (rr_Bl (fun w => w = sn_pI r'.2 6 (33 + 2 * m + 0) r'.1) rfl (fun w hw => ?_))
  have M2 : rr_M l 12 33 (2 * m) 1 z w n := by
    rw [hz, hw]
    exact rr_Mw M1 (fun _ => rr_g12 (by rw [r9]; exact hm) h6 (by decide)) (by decide) (by decide) (fun x => (q2.2.2 x).1)
  have z9 : z.1 9 = σ.1 9 := by rw [hz, pI_ne (by decide)]; exact r9
  have zf : z.1 17 2 = r.2.1 17 2 := by rw [hz, pI_ne (by decide)]
  refine rr_gl (by rw [M2.1.2.2.1]; rfl) (rr_gl (by rw [M2.1.2.2.1]; rfl) (rr_gl (by decide) ?_))
  rw [show sn_I z (8 + 1) (5 : Int32).toNatClampNeg = σ.1 9 5 from by show z.1 9 5 = _; rw [z9]]
  refine rr_net2 (y := 33 + 2 * m) (R67 := fun x => BX9_readNet_67 x (nI (33 + 2 * m)) (σ.1 9 5 - (1 : Int32))) (by omega) M2.1 hi5.1 (fun x => ?_) (fun x => rfl) (fun a b k1 k2 k3 => ?_)
  · have q3 := q2.2.2 (zf.symm.trans x)
    refine ⟨?_, ?_, ?_⟩
    · rw [hw, show 33 + 2 * m + 0 = 33 + 2 * m from rfl, pI_self, q3.1]
    · have h1 := q3.2.1
      rw [show (0 : Int32).toInt = 0 by decide] at h1
      exact h1
    · have h1 := q3.2.2
      have h2 := hi5.1
      omega
  · have M3 := rr_MF (by decide) M2 k1 k2
    have a9 : a.2.1 9 = σ.1 9 := by rw [k2.1.1 9 (by decide)]; exact z9
    rw [show nI (33 + 2 * m) + (1 : Int32) = nI (33 + 2 * m + 1) from nI_1 _, nI_clamp (show 33 + 2 * m + 1 < 2 ^ 31 by omega)]
    refine rr_gl (sn_in_nI (by omega) (by decide)) (rr_ll (fun z => z = sn_pI a.2 12 (2 * m + 1) a.1) rfl (fun z2 hz2 => ?_))
    refine rr_Bg (sn_in_nI (by omega) (by decide)) (rr_Bl (fun w => w = sn_pI b.2 6 (33 + 2 * m + 1) b.1) rfl (fun w2 hw2 => ?_))
    have M4 : rr_M l 12 33 (2 * m) 2 z2 w2 n := by
      rw [hz2, hw2]
      exact rr_Mw M3 (fun _ => rr_g12 (by rw [a9]; exact hm) h6 (by decide)) (by decide) (by decide) k3
    have y9 : z2.1 9 7 = nI m := by rw [hz2, pI_ne (by decide), a9]; exact hm
    refine rr_Bg (by decide) (rr_Bg (by decide) (rr_Bl (fun w => w = sn_pI w2 6 7 (w2.1 6 7 + (1 : Int32))) rfl (fun w3 hw3 => ?_)))
    subst hw3
    exact rr_fin (c := 7) M4 (Or.inr (Or.inr (Or.inl ⟨rfl, rfl, rfl, rfl, h6⟩))) rfl y9
theorem rr_policy (h : rr_N l σ τ n) (hg : σ.1 17 2 = 0) (hm : σ.1 9 8 = nI m) (h6 : m < 6) (e0 : fX9_is τ 6 = some 0) (e0' : fX9_is τ 7 = some 0) (e0'' : fX9_is τ 8 = some 0) (e1 : fX5_isWord σ 9 = some 1) (e2 : fX9_is τ 9 = some 1) : rr_ok (fX5_readPolicy σ (nI m)) ((BX9_readNext_143 τ).bind fun t => BX9_readLine_21 t) (fun σ' τ' => rr_N (l + 1) σ' τ' n) := by
  obtain ⟨s, t, ew, et, ea, qL, qF⟩ := rr_begin h.1 hg e1 e2
  have hgm : τ.1 0 12 = 0 := h.1.2.2.2.1.trans hg
  have c0 := h.2.2 hg
  have t7 : t.1 6 8 = nI m := by rw [qF.2.1 6 (by decide), ← c0.2.1 8 (by decide)]; exact hm
  have t5 : t.1 6 5 = σ.1 9 5 := by rw [qF.2.1 6 (by decide), ← c0.2.1 5 (by decide)]
  have M0 : rr_M l 13 49 (5 * m) 0 s t n := rr_MF (by decide) (rr_M0 h) qL qF
  have s9 : s.1 9 = σ.1 9 := qF.1.1 9 (by decide)
  have hi5 : (σ.1 9 5 - (1 : Int32)).toInt ≤ 5 ∧ -1 ≤ (σ.1 9 5 - (1 : Int32)).toInt := by
    have b5 := c0.1.1
    rw [Int32.toInt_sub, show (1 : Int32).toInt = 1 by decide, zs_bm ⟨by omega, by omega⟩]
    omega
  have e6 : fX9_takes τ 6 = some (0, τ) := by
    unfold fX9_takes
    rw [e0]
    rfl
  have e7 : fX9_takes τ 7 = some (0, τ) := by
    unfold fX9_takes
    rw [e0']
    rfl
  have e8 : fX9_takes τ 8 = some (0, τ) := by
    unfold fX9_takes
    rw [e0'']
    rfl
  unfold fX5_readPolicy BX9_readNext_143
  rw [if_pos (show nI m < 6 from (nI_ltI (b := 6) (by omega) (by decide)).mpr h6), ew, rm_good, if_pos hgm]
  refine rr_ll (fun y => y = nI (5 * m)) (zk_5n m) (fun y hy => ?_)
  subst hy
  rw [show nI (5 * m) + (0 : Int32) = nI (5 * m + 0) from nI_add _ 0, show nI (5 * m) + (1 : Int32) = nI (5 * m + 1) from nI_add _ 1, show nI (5 * m) + (2 : Int32) = nI (5 * m + 2) from nI_add _ 2, show nI (5 * m) + (3 : Int32) = nI (5 * m + 3) from nI_add _ 3, show nI (5 * m) + (4 : Int32) = nI (5 * m + 4) from nI_add _ 4]
  refine rr_Bb (rr_br (Q := fun u => u = 1) ⟨1, rfl, rfl⟩ (fun u hu => ?_))
  subst hu
  refine rr_Bi (fun c => absurd c (by decide)) (fun _ => ?_)
  rw [e6]
  refine rr_Bb (rr_br (Q := fun u => u = ((0 : Int32), τ)) ⟨_, rfl, rfl⟩ (fun u hu => ?_))
  subst hu
  refine rr_Bi (fun _ => ?_) (fun c => absurd (show (0 : Int32) = 0 from rfl) c)
  show rr_ok _ (((fX9_takes τ 7).bind _).bind _) _
  rw [e7]
  refine rr_Bb (rr_br (Q := fun u => u = ((0 : Int32), τ)) ⟨_, rfl, rfl⟩ (fun u hu => ?_))
  subst hu
  refine rr_Bi (fun _ => ?_) (fun c => absurd (show (0 : Int32) = 0 from rfl) c)
  show rr_ok _ (((fX9_takes τ 8).bind _).bind _) _
  rw [e8]
  refine rr_Bb (rr_br (Q := fun u => u = ((0 : Int32), τ)) ⟨_, rfl, rfl⟩ (fun u hu => ?_))
  subst hu
  refine rr_Bi (fun _ => ?_) (fun c => absurd (show (0 : Int32) = 0 from rfl) c)
  show rr_ok _ (((fX9_advance τ).bind _).bind _) _
  rw [ea]
  refine rr_Bb (rr_br (Q := fun u => u = t) ⟨_, rfl, rfl⟩ (fun u hu => ?_))
  subst hu
  refine rr_Bb ?_
  unfold fX9_readPolicy
  refine rr_Bg (by decide) (rr_Bl (fun y => y = nI (49 + 5 * m)) (by show (49 : Int32) + ((5 : Int32) * u.1 6 8) = _; rw [t7, zk_5n]; exact nI_add 49 (5 * m)) (fun y hy => ?_))
  subst hy
  rw [show nI (49 + 5 * m) + (0 : Int32) = nI (49 + 5 * m + 0) from nI_add _ 0, show nI (49 + 5 * m) + (1 : Int32) = nI (49 + 5 * m + 1) from nI_add _ 1, show nI (49 + 5 * m) + (2 : Int32) = nI (49 + 5 * m + 2) from nI_add _ 2, show nI (49 + 5 * m) + (3 : Int32) = nI (49 + 5 * m + 3) from nI_add _ 3, show nI (49 + 5 * m) + (4 : Int32) = nI (49 + 5 * m + 4) from nI_add _ 4]
  rw [nI_clamp (show 49 + 5 * m + 0 < 2 ^ 31 by omega), nI_clamp (show 49 + 5 * m + 1 < 2 ^ 31 by omega), nI_clamp (show 49 + 5 * m + 2 < 2 ^ 31 by omega), nI_clamp (show 49 + 5 * m + 3 < 2 ^ 31 by omega), nI_clamp (show 49 + 5 * m + 4 < 2 ^ 31 by omega)]
  rw [nI_clamp (show 5 * m + 0 < 2 ^ 31 by omega), nI_clamp (show 5 * m + 1 < 2 ^ 31 by omega), nI_clamp (show 5 * m + 2 < 2 ^ 31 by omega), nI_clamp (show 5 * m + 3 < 2 ^ 31 by omega), nI_clamp (show 5 * m + 4 < 2 ^ 31 by omega)]
  rw [show sn_I u 6 (5 : Int32).toNatClampNeg = σ.1 9 5 from t5]
  refine rr_bl (Q := fun u => u = s) ⟨s, rfl, rfl⟩ (fun v hv => ?_)
  subst hv
  rw [show sn_I v (8 + 1) (5 : Int32).toNatClampNeg = σ.1 9 5 from by show v.1 9 5 = _; rw [s9]]
  refine rr_gl (by rw [qL.2.2.1]; rfl) (rr_gl (by rw [qL.2.2.1]; rfl) (rr_gl (by decide) (rr_Bg (by decide) (rr_Bb (rr_bd (rr_num1 qL (by decide) (by omega)) (fun r r' q2 => ?_))))))
  have M1 := rr_MF (by decide) M0 q2.1 q2.2.1
  have r9 : r.2.1 9 8 = nI m := by rw [q2.2.1.1.1 9 (by decide), s9]; exact hm
  refine rr_gl (sn_in_nI (by omega) (by decide)) (rr_ll (fun z => z = sn_pI r.2 13 (5 * m + 0) r.1) rfl (fun z hz => ?_))
  refine rr_Bg (sn_in_nI (by omega) (by decide)) (rr_Bl (fun w => w = sn_pI r'.2 6 (49 + 5 * m + 0) r'.1) rfl (fun w hw => ?_))
  have M2 : rr_M l 13 49 (5 * m) 1 z w n := by
    rw [hz, hw]
    exact rr_Mw M1 (fun _ => rr_g13 r9 h6 (by decide)) (by decide) (by decide) (fun x => (q2.2.2 x).1)
  have z9 : z.1 9 8 = nI m := by rw [hz, pI_ne (by decide)]; exact r9
  refine rr_Bb (rr_tell2 (by decide) M2.1 (by decide) (by decide) (fun a b k1 k2 k3 => ?_))
  have M3 := rr_MF (by decide) M2 k1 k2
  have a9 : a.2.1 9 8 = nI m := by rw [k2.1.1 9 (by decide)]; exact z9
  refine rr_gl (by rw [k1.2.2.1]; rfl) (rr_gl (sn_in_nI (by omega) (by decide)) (rr_ll (fun z => z = sn_pI a.2 13 (5 * m + 1) a.1) rfl (fun z2 hz2 => ?_)))
  refine rr_Bg (sn_in_nI (by omega) (by decide)) (rr_Bl (fun w => w = sn_pI b.2 6 (49 + 5 * m + 1) b.1) rfl (fun w2 hw2 => ?_))
  have M4 : rr_M l 13 49 (5 * m) 2 z2 w2 n := by
    rw [hz2, hw2]
    exact rr_Mw M3 (fun _ => rr_g13 a9 h6 (by decide)) (by decide) (by decide) (fun x => (k3 x).1)
  have y9 : z2.1 9 8 = nI m := by rw [hz2, pI_ne (by decide)]; exact a9
  refine rr_Bg (sn_in_nI (by omega) (by decide)) ?_
  have w2v : sn_I w2 6 (49 + 5 * m + 1) = b.1 := by rw [hw2]; exact pI_self
  rw [w2v]
  have zf2 : z2.1 17 2 = a.2.1 17 2 := by rw [hz2, pI_ne (by decide)]
  refine rr_Bb (rr_tellG (by decide) M4.1 (fun x => ⟨(k3 (zf2.symm.trans x)).1, ?_⟩) (by decide) (fun a3 b3 p1 p2 p3 => ?_))
  · have k4 := (k3 (zf2.symm.trans x)).2.1
    rw [show (0 : Int32).toInt = 0 by decide] at k4
    exact k4
  have M5 := rr_MF (by decide) M4 p1 p2
  have x9 : a3.2.1 9 8 = nI m := by rw [p2.1.1 9 (by decide)]; exact y9
  refine rr_gl (sn_in_nI (by omega) (by decide)) (rr_ll (fun z => z = sn_pI a3.2 13 (5 * m + 2) a3.1) rfl (fun z3 hz3 => ?_))
  refine rr_Bg (sn_in_nI (by omega) (by decide)) (rr_Bl (fun w => w = sn_pI b3.2 6 (49 + 5 * m + 2) b3.1) rfl (fun w3 hw3 => ?_))
  have M6 : rr_M l 13 49 (5 * m) 3 z3 w3 n := by
    rw [hz3, hw3]
    exact rr_Mw M5 (fun _ => rr_g13 x9 h6 (by decide)) (by decide) (by decide) p3
  have v9 : z3.1 9 8 = nI m := by rw [hz3, pI_ne (by decide)]; exact x9
  refine rr_Bb (rr_tell (by decide) M6.1 (by decide) (by decide) (fun a4 b4 p1 p2 p3 => ?_))
  have M7 := rr_MF (by decide) M6 p1 p2
  have u9 : a4.2.1 9 8 = nI m := by rw [p2.1.1 9 (by decide)]; exact v9
  refine rr_gl (sn_in_nI (by omega) (by decide)) (rr_ll (fun z => z = sn_pI a4.2 13 (5 * m + 3) a4.1) rfl (fun z4 hz4 => ?_))
  refine rr_Bg (sn_in_nI (by omega) (by decide)) (rr_Bl (fun w => w = sn_pI b4.2 6 (49 + 5 * m + 3) b4.1) rfl (fun w4 hw4 => ?_))
  have M8 : rr_M l 13 49 (5 * m) 4 z4 w4 n := by
    rw [hz4, hw4]
    exact rr_Mw M7 (fun _ => rr_g13 u9 h6 (by decide)) (by decide) (by decide) (fun x => (p3 x).1)
  have t9 : z4.1 9 8 = nI m := by rw [hz4, pI_ne (by decide)]; exact u9
  refine rr_Bb (rr_tell (by decide) M8.1 (by decide) (by decide) (fun a5 b5 p1 p2 p3 => ?_))
  have M9 := rr_MF (by decide) M8 p1 p2
  have u9 : a5.2.1 9 8 = nI m := by rw [p2.1.1 9 (by decide)]; exact t9
  refine rr_gl (sn_in_nI (by omega) (by decide)) (rr_ll (fun z => z = sn_pI a5.2 13 (5 * m + 4) a5.1) rfl (fun z5 hz5 => ?_))
  refine rr_Bg (sn_in_nI (by omega) (by decide)) (rr_Bl (fun w => w = sn_pI b5.2 6 (49 + 5 * m + 4) b5.1) rfl (fun w5 hw5 => ?_))
  have M10 : rr_M l 13 49 (5 * m) 5 z5 w5 n := by
    rw [hz5, hw5]
    exact rr_Mw M9 (fun _ => rr_g13 u9 h6 (by decide)) (by decide) (by decide) (fun x => (p3 x).1)
  have o9 : z5.1 9 8 = nI m := by rw [hz5, pI_ne (by decide)]; exact u9
  refine rr_Bg (by decide) (rr_Bg (by decide) (rr_Bl (fun w => w = sn_pI w5 6 8 (w5.1 6 8 + (1 : Int32))) rfl (fun w6 hw6 => ?_)))
  subst hw6
  exact rr_fin (c := 8) M10 (Or.inr (Or.inr (Or.inr ⟨rfl, rfl, rfl, rfl, h6⟩))) rfl o9
end
