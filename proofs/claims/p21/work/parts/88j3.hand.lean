/-! every call by hand: the houses stay alike -/
theorem zJ_0 : ∀ (σ τ : sn_S) (a b c d e : Int32), zJ σ τ → ∃ r σ1 τ1, fX8_feed σ a b c d e = some (r, σ1) ∧ fX9_feed τ a b c d e = some (r, τ1) ∧ zJ σ1 τ1 := by
  intro σ τ a b c d e h
  obtain ⟨r, σ1, τ1, e1, e2, hJ⟩ := zj_0 σ τ a b c d e h.1
  obtain ⟨n, hn, n1⟩ := zh_n (t := zs_tC) (q := 17) (k := 1) h.1.1 rfl
  have n2 : τ.1 0 5 = nI n := by rw [← h.1.2.2.1.1]; exact n1
  have C : ∀ q, (2 ≤ q ∧ q ≤ 7) ∨ (73 ≤ q ∧ q ≤ 93) → σ1.1 q = σ.1 q := by
    intro q hq
    rcases zh_cfeed h.1.1 n1 hn a b c d e with ⟨g1, g2⟩ | ⟨g1, s1, g2, g3, g4, g5, g6⟩
    · rw [g2] at e1
      cases e1
      rfl
    · rw [g2] at e1
      cases e1
      exact funext fun k => g5 q k (by omega) (fun x => by omega)
  have M : ∀ q, q = 1 ∨ q = 2 → τ1.1 q = τ.1 q := by
    intro q hq
    rcases zh_mfeed h.1.2.1 n2 hn a b c d e with ⟨g1, g2⟩ | ⟨g1, s1, g2, g3, g4, g5, g6⟩
    · rw [g2] at e2
      cases e2
      rfl
    · rw [g2] at e2
      cases e2
      exact funext fun k => g5 q k (by omega) (by omega) (fun x => by omega)
  exact ⟨r, σ1, τ1, e1, e2, hJ, zh_Jc h.1.1 C (M 1 (Or.inl rfl)) (M 2 (Or.inr rfl)) h.2⟩
theorem zJ_1 : ∀ (σ τ : sn_S) (a : Int32), zJ σ τ → ∃ r σ1 τ1, fX8_end σ a = some (r, σ1) ∧ fX9_end τ a = some (r, τ1) ∧ zJ σ1 τ1 := by
  intro σ τ a h
  obtain ⟨r, σ1, τ1, e1, e2, hJ⟩ := zj_1 σ τ a h.1
  have C : ∀ q, (2 ≤ q ∧ q ≤ 7) ∨ (73 ≤ q ∧ q ≤ 93) → σ1.1 q = σ.1 q := by
    intro q hq
    rw [zh_cend] at e1
    by_cases c : 0 ≤ a ∧ a ≤ σ.1 17 1
    · rw [if_pos c] at e1
      cases e1
      exact pI_ne (by omega)
    · rw [if_neg c] at e1
      cases e1
      rfl
  have M : ∀ q, q = 1 ∨ q = 2 → τ1.1 q = τ.1 q := by
    intro q hq
    rw [zh_mend] at e2
    by_cases c : 0 ≤ a ∧ a ≤ τ.1 0 5
    · rw [if_pos c] at e2
      cases e2
      exact pI_ne (by omega)
    · rw [if_neg c] at e2
      cases e2
      rfl
  exact ⟨r, σ1, τ1, e1, e2, hJ, zh_Jc h.1.1 C (M 1 (Or.inl rfl)) (M 2 (Or.inr rfl)) h.2⟩
theorem zJ_at {j : Nat} (hj : j < 3) : sn_at sn_rs15 (nI j) = 73 + 7 * j := by
  match j, hj with
  | 0, _ => rfl
  | 1, _ => rfl
  | 2, _ => rfl
theorem zJ_cp {σ : sn_S} (h : zs_SB zs_tC σ) {j : Nat} (hj : j < 3) : (∃ t, zs_C0 σ t ∧ fX2_copyFrom σ (73 + 7 * j) 1 = some t) ∧ ∃ t, zs_C0 σ t ∧ fX2_copyFrom σ 1 (73 + 7 * j) = some t := by
  have key : ∀ a, (a = 73 ∨ a = 80 ∨ a = 87) → (∃ t, zs_C0 σ t ∧ fX2_copyFrom σ a 1 = some t) ∧ ∃ t, zs_C0 σ t ∧ fX2_copyFrom σ 1 a = some t := by
    intro a ha
    rcases ha with e | e | e <;> subst e
    · exact ⟨zh_hC h (a := 73) (b := 1) (by decide) (by decide) (by decide), zh_hC h (a := 1) (b := 73) (by decide) (by decide) (by decide)⟩
    · exact ⟨zh_hC h (a := 80) (b := 1) (by decide) (by decide) (by decide), zh_hC h (a := 1) (b := 80) (by decide) (by decide) (by decide)⟩
    · exact ⟨zh_hC h (a := 87) (b := 1) (by decide) (by decide) (by decide), zh_hC h (a := 1) (b := 87) (by decide) (by decide) (by decide)⟩
  exact key (73 + 7 * j) (by omega)
theorem zJ_67 : ∀ (σ τ : sn_S) (a : Int32), zJ σ τ → ∃ r σ1 τ1, fX8_image σ a = some (r, σ1) ∧ fX9_image τ a = some (r, τ1) ∧ zJ σ1 τ1 := by
  intro σ τ a h
  obtain ⟨r, σ1, τ1, e1, e2, hJ⟩ := zj_67 σ τ a h.1
  refine ⟨r, σ1, τ1, e1, e2, hJ, ?_⟩
  rcases zh_k3 a with ⟨j, hj, rfl⟩ | ⟨g1, g2⟩
  · obtain ⟨h1, h2, h3, h4, h5, h6⟩ := zh_j3 hj
    obtain ⟨z, ez, hm, c1, c3, c4, c5⟩ := zh_hcp σ (73 + 7 * j) 1 (by omega)
    obtain ⟨key, -⟩ := zJ_cp h.1.1 hj
    obtain ⟨z', hz, ez'⟩ := key
    rw [ez] at ez'
    cases ez'
    have f1 : fX8_image σ (nI j) = some (0, sn_pI z 16 j (vp_nar .boolean 1)) := by
      unfold fX8_image
      rw [if_neg h5, if_pos h6, h3, gd_T, zJ_at hj, ez, rr_bs, gd_T, rr_lt, h4]
    obtain ⟨t, et, t2, t3, t4, _⟩ := rm_image τ hj
    have f2 : fX9_image τ (nI j) = some (0, sn_pI t 3 j (vp_nar .boolean 1)) := by
      unfold fX9_image
      rw [zh_in02, if_pos h2, bd_t1, et, rr_bs]
      unfold BX9_image_46
      rw [h3, gd_T, rr_lt, h4]
    rw [f1] at e1
    cases e1
    rw [f2] at e2
    cases e2
    refine ⟨rr_Hc (zh_cbS h.1.1 (Or.inl rfl)) (fun q g1 g2 => (pI_ne (by omega)).trans (hm.2.1 q (by omega))) (fun k hk => by rw [pI_ne (by decide), t2 1 (by decide)]) h.2.1, fun i hi => ?_⟩
    by_cases e : j = i
    · subst e
      exact rr_Hc (zh_cbS hz.1 (zh_3 hj)) (fun q g1 g2 => pI_ne (by omega)) (fun k hk => by
        show (sn_pI t 3 j _).1 2 (119 * j + k) = τ.1 1 k
        rw [pI_ne (by decide)]
        exact t3 k hk) (rc_copyH (by omega) (zh_cbS h.1.1 (Or.inl rfl)) ez h.2.1)
    · exact rr_Hc (zh_cbS h.1.1 (zh_3 hi)) (fun q g1 g2 => (pI_ne (by omega)).trans (hm.2.1 q (by omega))) (fun k hk => by
        show (sn_pI t 3 j _).1 2 (119 * i + k) = τ.1 2 (119 * i + k)
        rw [pI_ne (by decide)]
        exact t4 _ (by omega)) (h.2.2 i hi)
  · rw [zh_cimage0 g2] at e1
    cases e1
    rw [zh_mimage0 g1] at e2
    cases e2
    exact h.2
theorem zJ_68 : ∀ (σ τ : sn_S) (a : Int32), zJ σ τ → ∃ r σ1 τ1, fX8_back σ a = some (r, σ1) ∧ fX9_back τ a = some (r, τ1) ∧ zJ σ1 τ1 := by
  intro σ τ a h
  obtain ⟨r, σ1, τ1, e1, e2, hJ⟩ := zj_68 σ τ a h.1
  refine ⟨r, σ1, τ1, e1, e2, hJ, ?_⟩
  rcases zh_k3 a with ⟨j, hj, rfl⟩ | ⟨g1, g2⟩
  · obtain ⟨h1, h2, h3, h4, h5, h6⟩ := zh_j3 hj
    have hk : sn_I σ 16 j = sn_I τ 3 j := h.1.2.2.2.1 j hj
    by_cases c : sn_I σ 16 j = 0
    · have f1 : fX8_back σ (nI j) = some (-6, σ) := by
        unfold fX8_back
        rw [if_neg h5, if_pos h6, h3, gd_T, h4, if_pos c]
      have f2 : fX9_back τ (nI j) = some (-6, τ) := by
        unfold fX9_back
        rw [zh_in02, if_pos h2, bd_t1, h3, gd_T, h4, if_pos (hk.symm.trans c)]
      rw [f1] at e1
      cases e1
      rw [f2] at e2
      cases e2
      exact h.2
    · obtain ⟨z, ez, hm, c1, c3, c4, c5⟩ := zh_hcp σ 1 (73 + 7 * j) (by omega)
      obtain ⟨-, key⟩ := zJ_cp h.1.1 hj
      obtain ⟨z', hz, ez'⟩ := key
      rw [ez] at ez'
      cases ez'
      obtain ⟨u, eu, hu⟩ := zP_54 (zs_rf (key := zs_kB) (kl := zs_lC) hz.1)
      have f1 : fX8_back σ (nI j) = some (0, u) := by
        unfold fX8_back
        rw [if_neg h5, if_pos h6, h3, gd_T, h4, if_neg c, gd_T, zJ_at hj, ez, rr_bs, eu, rr_bs]
      obtain ⟨t, et, t2, t3, _⟩ := rm_back τ hj
      have f2 : fX9_back τ (nI j) = some (0, t) := by
        unfold fX9_back
        rw [zh_in02, if_pos h2, bd_t1, h3, gd_T, h4, if_neg (fun x => c (hk.trans x)), et, rr_bs]
        rfl
      have Hz : zh_J z t := ⟨rr_Hc (zh_cbS hz.1 (Or.inl rfl)) (fun _ _ _ => rfl) (fun k hk => t3 k hk) (rc_copyH (a := 1) (by omega) (zh_cbS h.1.1 (zh_3 hj)) ez (h.2.2 j hj)), fun i hi => rr_Hc (zh_cbS h.1.1 (zh_3 hi)) (fun q g1 g2 => hm.2.1 q (by omega)) (fun k _ => by
        show t.1 2 _ = τ.1 2 _
        rw [t2 2 (by decide)]) (h.2.2 i hi)⟩
      have fin : zh_J u t := zh_Jc hz.1 (fun q hq => funext fun k => hu.2.1 q k (zs_kCh hq)) rfl rfl Hz
      rw [f1] at e1
      cases e1
      rw [f2] at e2
      cases e2
      exact fin
  · rw [zh_cback0 g2] at e1
    cases e1
    rw [zh_mback0 g1] at e2
    cases e2
    exact h.2
theorem zJ_rows {σ σ' τ τ' : sn_S} (hS : jS (σ'.1 26) (σ'.1 25) (σ'.2.1 21) (σ'.2.1 22) (σ'.2.1 23) (σ'.2.1 24) (τ'.1 21) (τ'.1 22) (τ'.2.1 23)) (c1 : ∀ q, q ≠ 25 → q ≠ 26 → σ'.1 q = σ.1 q) (m1 : ∀ q, q ≠ 21 → q ≠ 22 → τ'.1 q = τ.1 q) (bC : zs_SB zs_tC σ') (bM : zs_SB zs_tM τ') (h : zJ σ τ) : zJ σ' τ' :=
  ⟨zj_rows hS c1 m1 bC bM h.1, zh_Jc h.1.1 (fun q hq => c1 q (by omega) (by omega)) (m1 1 (by decide) (by decide)) (m1 2 (by decide) (by decide)) h.2⟩
theorem zJ_3 : ∀ (σ τ : sn_S) (a : Int32), zJ σ τ → ∃ r, fX8_fault σ a = some r ∧ fX9_fault τ a = some r := fun σ τ a h => zj_3 σ τ a h.1
theorem zk_kh {q k : Nat} (h1 : 73 ≤ q) (h2 : q ≤ 93) : zk_k q k = true := by
  unfold zk_k
  cases x : Nat.beq q 17 with
  | true => exact absurd (Nat.eq_of_beq_eq_true x) (by omega)
  | false => exact zs_kCB (zs_kCh (Or.inr ⟨h1, h2⟩))
theorem zk_houseH {σ z : sn_S} {r : Int32} (h : zs_SB zs_tC σ) (e : fX8_house σ = some (r, z)) : ∀ q, 73 ≤ q → q ≤ 93 → z.1 q = σ.1 q := by
  have key : zs_ok (fX8_house σ) (fun r => ∀ q, 73 ≤ q → q ≤ 93 → r.2.1 q = σ.1 q) := by
    unfold fX8_house
    refine zs_bd_ (zk_read h) (fun t ht => ?_)
    have kq : ∀ q, 73 ≤ q → q ≤ 93 → t.1 q = σ.1 q := fun q a b => funext fun k => ht.1.2.1 q k (zk_kh a b)
    refine zs_lt (Q := fun z => z = sn_pI t 17 1 (0 : Int32)) rfl (fun s hs => ?_)
    have sSB : zs_SB zs_tC s := by
      rw [hs]
      exact zs_sbw ht.1.1 (by rw [show zs_tC 17 1 = (0, 900) from rfl]; decide)
    have so : ∀ q, q ≠ 17 → s.1 q = t.1 q := fun q hq => by rw [hs, pI_ne hq]
    refine zs_ite (fun c => ?_) (fun _ => zs_some (fun q a b => (so q (by omega)).trans (kq q a b)))
    have c2 : t.1 17 2 = 0 := by
      have c3 : s.1 17 2 = 0 := c
      rw [hs, pI_slot (by decide)] at c3
      exact c3
    have d := ht.2.2.2 c2
    have dH : zs_H 8 s := zs_H_c (by rw [so _ (by decide)]) (by rw [so _ (by decide)]) (by rw [so _ (by decide)]) (fun k => by rw [so _ (by decide)]) (fun k => by rw [so _ (by decide)]) (fun j => by rw [so _ (by decide)]) d.2
    obtain ⟨z, e, hm, c1, c3, c4, c5⟩ := zh_hcp s 1 8 (by decide)
    have zSB : zs_SB zs_tC z := zh_hSB (Or.inl rfl) sSB (fun k hk => by rw [so _ (by decide)]; exact d.1 k hk) (fun k => by
      have := sSB.1 14 k
      rw [show zs_tC 14 k = (0, 29) from rfl] at this
      exact this) dH hm c1 c3 c4 c5
    refine zs_bd_ (Q := fun u => u = z) ⟨z, e, rfl⟩ (fun u hu => ?_)
    subst hu
    refine zs_bd_ (zP_54 (zs_rf zSB)) (fun w hw => zs_gd (by decide) (zs_some (fun q a b => ?_)))
    show w.1 q = σ.1 q
    rw [show w.1 q = u.1 q from funext fun k => hw.2.1 q k (zs_kCh (Or.inr ⟨a, b⟩)), hm.2.1 q (by omega), so q (by omega)]
    exact kq q a b
  obtain ⟨r', e2, hr⟩ := key
  rw [e] at e2
  cases e2
  exact hr
theorem zJ_2 : ∀ (σ τ : sn_S), zJ σ τ → ∃ r σ1 τ1, fX8_house σ = some (r, σ1) ∧ fX9_house τ = some (r, τ1) ∧ zJ σ1 τ1 := by
  intro σ τ h
  obtain ⟨r, σ1, τ1, e1, e2, hJ⟩ := zj_2 σ τ h.1
  obtain ⟨n, hn, e0⟩ := zh_n (t := zs_tC) (q := 17) (k := 1) h.1.1 rfl
  obtain ⟨r3, z3, w3, f1, f2, f3, f4, f5, f6⟩ := rr_house h.1.1 h.1.2.1 e0 (by rw [← h.1.2.2.1.1]; exact e0) hn (fun k hk => h.1.2.2.1.2.2.2 k (by rw [e0, nI_toInt (by omega)]; omega))
  rw [e1] at f1
  cases f1
  rw [e2] at f2
  cases f2
  obtain ⟨r2, w, g1, b2, d1, d2, d3, d4, d5, d6⟩ := zm_house h.1.2.1
  rw [e2] at g1
  cases g1
  refine ⟨r, σ1, τ1, e1, e2, hJ, ?_, fun j hj => rr_Hc (zh_cbS h.1.1 (zh_3 hj)) (fun q a b => zk_houseH h.1.1 e1 q (by omega) (by omega)) (fun k _ => by rw [d6]) (h.2.2 j hj)⟩
  by_cases c : σ1.1 17 2 = 0
  · exact f5 c
  · exact rr_Hc (zh_cbS h.1.1 (Or.inl rfl)) (fun q a b => (f6 c).1 q (by omega) (by omega)) (fun k _ => by rw [(f6 c).2]) h.2.1
