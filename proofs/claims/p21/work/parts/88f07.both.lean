/-! the rows, both sides at once -/
theorem rd_excl : ∀ k, k < 4 → ∀ j, j < 4 → k = j ∨ ¬ (rd_L (6 + k) = rd_L (6 + j) ∧ ∀ i, i < 8 → i < rd_L (6 + k) → (rd_c (6 + k) i).toInt = (rd_c (6 + j) i).toInt) := by decide +kernel
theorem rd_W1 {B : Nat → Int} {a e k j : Nat} (hk : k < 10 ∧ 6 ≤ k) (hj : j < 10 ∧ 6 ≤ j) (h : rd_W B a e k) (g : rd_W B a e j) : k = j := by
  by_cases c : k = j
  · exact c
  · exfalso
    have e1 := h.1
    have e2 := g.1
    obtain ⟨k', rfl⟩ : ∃ k', k = 6 + k' := ⟨k - 6, by omega⟩
    obtain ⟨j', rfl⟩ : ∃ j', j = 6 + j' := ⟨j - 6, by omega⟩
    rcases rd_excl k' (by omega) j' (by omega) with x | x
    · exact c (by rw [x])
    · exact x ⟨by omega, fun i _ x1 => (h.2 i x1).symm.trans (g.2 i (by omega))⟩
section
variable {σ τ : sn_S} {n m : Nat} {l : Int32} {α β γ δ : Type} {P : α → β → Prop}
theorem rr_words (h : rr_L σ τ n) (hg : σ.1 17 2 = 0) : ∃ a e, ∀ k, k < 16 → ∃ v : Int32, (v = 0 ∨ (v = 1 ∧ rd_W (rm_B τ) a e k)) ∧ fX5_isWord σ k = some v ∧ fX9_is τ k = some v := by
  obtain ⟨ht, hp, hr, h12, h13, hs⟩ := h
  obtain ⟨a, e, tc, tm, lae, len, k4, hE⟩ := hs hg
  refine ⟨a, e, fun k hk => ?_⟩
  have hn9 := ht.2.2.1
  have hB : ∀ k, k < n → rc_B σ k = rm_B τ k := fun k hk => (ht.2.2.2 k hk).1
  have hkk : rd_k (rc_B σ) n = rd_k (rm_B τ) n := rd_kB hB
  have k5 := rd_k5 (rm_B τ) n a
  obtain ⟨v, e1, q1⟩ := rc_isWord hk hn9 tc lae len
  obtain ⟨w, e2, q2⟩ := rm_is hk hn9 tm lae len k5 (fun k hk => (ht.2.2.2 k hk).2) (h12.trans hg)
  have hW : rd_W (rc_B σ) a e k ↔ rd_W (rm_B τ) a e k := by
    unfold rd_W
    constructor
    · intro x
      exact ⟨x.1, fun i hi => by rw [← hB (a + i) (by omega)]; exact x.2 i hi⟩
    · intro x
      exact ⟨x.1, fun i hi => by rw [hB (a + i) (by omega)]; exact x.2 i hi⟩
  rw [hkk, hW] at q1
  rcases q1 with ⟨p1, p2⟩ | ⟨p1, p2⟩
  · rcases q2 with ⟨r1, r2⟩ | ⟨r1, r2⟩
    · exact ⟨1, Or.inr ⟨rfl, p2.2⟩, by rw [e1, p1], by rw [e2, r1]⟩
    · exact absurd p2 r2
  · rcases q2 with ⟨r1, r2⟩ | ⟨r1, r2⟩
    · exact absurd r2 p2
    · exact ⟨0, Or.inl rfl, by rw [e1, p1], by rw [e2, r1]⟩
theorem rm_143bad (h : τ.1 0 12 ≠ 0) : BX9_readNext_143 τ = some τ := by
  unfold BX9_readNext_143
  rw [rm_good, if_neg h]
  rfl
theorem rm_117bad (h : τ.1 0 12 ≠ 0) : BX9_readNext_117 τ = some τ := by
  unfold BX9_readNext_117
  rw [rm_isbad (by decide) h]
  exact rm_143bad h
theorem rm_96bad (h : τ.1 0 12 ≠ 0) : BX9_readNext_96 τ = some τ := by
  unfold BX9_readNext_96
  rw [rm_isbad (by decide) h]
  exact rm_117bad h
theorem rm_51bad (h : τ.1 0 12 ≠ 0) : BX9_readNext_51 τ = some τ := by
  unfold BX9_readNext_51
  rw [rm_isbad (by decide) h]
  show BX9_readNext_71 τ = some τ
  unfold BX9_readNext_71
  rw [rm_isbad (by decide) h]
  exact rm_96bad h
theorem rm_21bad (h : τ.1 0 12 ≠ 0) : BX9_readLine_21 τ = some (sn_pI τ 6 10 (τ.1 6 10 + (1 : Int32))) := by
  unfold BX9_readLine_21
  rw [rm_good, if_neg h]
  show BX9_readLine_41 τ = _
  unfold BX9_readLine_41
  rw [rm_good, if_neg h]
  rfl
theorem rr_Lw6 {j : Nat} {w : Int32} (h : rr_L σ τ n) : rr_L σ (sn_pI τ 6 j w) n := by
  have := rr_Lw (q := 10) (i := 0) (v := σ.1 10 0) (j := j) (w := w) (by decide) (by decide) h
  have e : sn_pI σ 10 0 (σ.1 10 0) = σ := by
    refine Prod.ext ?_ rfl
    funext x y
    show (if x = 10 ∧ y = 0 then σ.1 10 0 else σ.1 x y) = _
    by_cases z : x = 10 ∧ y = 0
    · rw [if_pos z, z.1, z.2]
    · rw [if_neg z]
  rw [e] at this
  exact this
/-- a row ends at a fault -/
theorem rr_bad (h : rr_L σ τ n) (hg : σ.1 17 2 ≠ 0) (hl : τ.1 6 10 = l) : rr_ok (some σ) (BX9_readLine_21 τ) (fun σ' τ' => rr_N (l + 1) σ' τ' n) := by
  rw [rm_21bad (by rw [h.2.2.2.1]; exact hg)]
  exact rr_some ⟨rr_Lw6 h, by rw [pI_self, hl], fun x => absurd x hg⟩
theorem rr_tell {k : Nat} (hk : k < 16) (h : rr_L σ τ n) {lo hi : Int32} (hlo : 0 ≤ lo.toInt) (hhi : hi.toInt ≤ 999) {f : Int32 × sn_S → Option α} {g : Int32 × sn_S → Option β}
    (K : ∀ r r', rr_L r.2 r'.2 n → rr_F σ τ r.2 r'.2 → (r.2.1 17 2 = 0 → r.1 = r'.1 ∧ lo.toInt ≤ r.1.toInt ∧ r.1.toInt ≤ hi.toInt) → rr_ok (f r) (g r') P) : rr_ok ((fX5_word σ k).bind fun t => sn_gd (sn_R t 17 7 == some 8) ((fX5_number t lo hi (-1)).bind f)) ((fX9_told τ k lo hi).bind g) P := by
  unfold fX9_told
  refine rr_Bb (rr_bd (rr_word hk h) (fun s t q => rr_gl (by rw [q.1.2.2.1]; rfl) (rr_Bb ?_)))
  exact rr_bd (rr_num1 q.1 hlo hhi) (fun r r' q2 => K r r' q2.1 (rr_Ft q.2 q2.2.1) q2.2.2)
theorem rr_tell2 {k : Nat} (hk : k < 16) (h : rr_L σ τ n) {lo hi : Int32} (hlo : 0 ≤ lo.toInt) (hhi : hi.toInt ≤ 999) {f : Int32 × sn_S → Option α} {g : Int32 × sn_S → Option β}
    (K : ∀ r r', rr_L r.2 r'.2 n → rr_F σ τ r.2 r'.2 → (r.2.1 17 2 = 0 → r.1 = r'.1 ∧ lo.toInt ≤ r.1.toInt ∧ r.1.toInt ≤ hi.toInt) → rr_ok (f r) (g r') P) : rr_ok ((fX5_word σ k).bind fun t => (fX5_number t lo hi (-1)).bind f) ((fX9_told τ k lo hi).bind g) P := by
  unfold fX9_told
  refine rr_Bb (rr_bd (rr_word hk h) (fun s t q => rr_Bb ?_))
  exact rr_bd (rr_num1 q.1 hlo hhi) (fun r r' q2 => K r r' q2.1 (rr_Ft q.2 q2.2.1) q2.2.2)
/-- the word that begins a row -/
theorem rr_begin {k : Nat} (h : rr_L σ τ n) (hg : σ.1 17 2 = 0) (e1 : fX5_isWord σ k = some 1) (e2 : fX9_is τ k = some 1) : ∃ s t, fX5_word σ k = some s ∧ fX9_takes τ k = some (1, t) ∧ fX9_advance τ = some t ∧ rr_L s t n ∧ rr_F σ τ s t := by
  obtain ⟨s, t, q1, q2, q3, q4⟩ := rr_step h hg
  refine ⟨s, t, ?_, ?_, q2, q3, q4⟩
  · unfold fX5_word
    rw [e1]
    show (fX5_step σ).bind _ = _
    rw [q1]
    rfl
  · unfold fX9_takes
    rw [e2]
    show (fX9_advance τ).bind _ = _
    rw [q2]
    rfl
theorem rr_M0 {q b i0 : Nat} (h : rr_N l σ τ n) : rr_M l q b i0 0 σ τ n := ⟨h.1, h.2.1, fun x => ⟨h.2.2 x, fun t ht => absurd ht (by omega)⟩⟩
theorem rr_g10 {p : Nat} (hc : σ.1 9 5 = nI m) (hm : m < 6) (hp : p < 2) : rr_reg 10 11 (2 * m + p) σ := Or.inl ⟨rfl, rfl, by omega, by rw [hc, nI_toInt (by omega)]; omega⟩
theorem rr_g11 {p : Nat} (hc : σ.1 9 6 = nI m) (hm : m < 5) (hp : p < 2) : rr_reg 11 23 (2 * m + p) σ := Or.inr (Or.inl ⟨rfl, rfl, by omega, by rw [hc, nI_toInt (by omega)]; omega⟩)
theorem rr_g12 {p : Nat} (hc : σ.1 9 7 = nI m) (hm : m < 8) (hp : p < 2) : rr_reg 12 33 (2 * m + p) σ := Or.inr (Or.inr (Or.inl ⟨rfl, rfl, by omega, by rw [hc, nI_toInt (by omega)]; omega⟩))
theorem rr_g13 {p : Nat} (hc : σ.1 9 8 = nI m) (hm : m < 6) (hp : p < 5) : rr_reg 13 49 (5 * m + p) σ := Or.inr (Or.inr (Or.inr ⟨rfl, rfl, by omega, by rw [hc, nI_toInt (by omega)]; omega⟩))
theorem rr_nose (h : rr_N l σ τ n) (hg : σ.1 17 2 = 0) (hm : σ.1 9 5 = nI m) (h6 : m < 6) (e1 : fX5_isWord σ 6 = some 1) (e2 : fX9_is τ 6 = some 1) : rr_ok (fX5_readNose σ (nI m)) ((BX9_readNext_143 τ).bind fun t => BX9_readLine_21 t) (fun σ' τ' => rr_N (l + 1) σ' τ' n) := by
  obtain ⟨s, t, ew, et, _, qL, qF⟩ := rr_begin h.1 hg e1 e2
  have hgm : τ.1 0 12 = 0 := h.1.2.2.2.1.trans hg
  have c0 := h.2.2 hg
  have t5 : t.1 6 5 = nI m := by rw [qF.2.1 6 (by decide), ← c0.2.1 5 (by decide)]; exact hm
  have M0 : rr_M l 10 11 (2 * m) 0 s t n := rr_MF (by decide) (rr_M0 h) qL qF
  have s9 : s.1 9 = σ.1 9 := qF.1.1 9 (by decide)
  unfold fX5_readNose BX9_readNext_143
  rw [if_pos (show nI m < 6 from (nI_ltI (b := 6) (by omega) (by decide)).mpr h6), ew, rm_good, if_pos hgm, zk_2n m, show nI (2 * m) + (1 : Int32) = nI (2 * m + 1) from nI_1 _]
  refine rr_Bb (rr_br (Q := fun u => u = 1) ⟨1, rfl, rfl⟩ (fun u hu => ?_))
  subst hu
  refine rr_Bi (fun c => absurd c (by decide)) (fun _ => ?_)
  rw [et]
  refine rr_Bb (rr_br (Q := fun u => u = ((1 : Int32), t)) ⟨_, rfl, rfl⟩ (fun u hu => ?_))
  subst hu
  refine rr_Bi (fun c => absurd (show (1 : Int32) = 0 from c) (by decide)) (fun _ => ?_)
  refine rr_Bg (by decide) (rr_Bl (fun y => y = nI (11 + 2 * m)) (by show (11 : Int32) + ((2 : Int32) * t.1 6 5) = _; rw [t5, zk_2n]; exact nI_add 11 (2 * m)) (fun y hy => ?_))
  subst hy
  rw [show nI (11 + 2 * m) + (1 : Int32) = nI (11 + 2 * m + 1) from nI_1 _, nI_clamp (show 11 + 2 * m < 2 ^ 31 by omega), nI_clamp (show 11 + 2 * m + 1 < 2 ^ 31 by omega), nI_clamp (show 2 * m < 2 ^ 31 by omega), nI_clamp (show 2 * m + 1 < 2 ^ 31 by omega)]
  refine rr_bl (Q := fun u => u = s) ⟨s, rfl, rfl⟩ (fun u hu => ?_)
  subst hu
  refine rr_gl (by rw [qL.2.2.1]; rfl) (rr_Bb (rr_bd (rr_num1 qL (by decide) (by decide)) (fun r r' q2 => ?_)))
  have M1 := rr_MF (by decide) M0 q2.1 q2.2.1
  have r9 : r.2.1 9 5 = nI m := by rw [q2.2.1.1.1 9 (by decide), s9]; exact hm
  refine rr_gl (sn_in_nI (by omega) (by decide)) (rr_ll (fun z => z = sn_pI r.2 10 (2 * m + 0) r.1) rfl (fun z hz => ?_))
  refine rr_Bg (sn_in_nI (by omega) (by decide)) (rr_Bl (fun w => w = sn_pI r'.2 6 (11 + 2 * m + 0) r'.1) rfl (fun w hw => ?_))
  have M2 : rr_M l 10 11 (2 * m) 1 z w n := by
    rw [hz, hw]
    exact rr_Mw M1 (fun _ => rr_g10 r9 h6 (by decide)) (by decide) (by decide) (fun x => (q2.2.2 x).1)
  have z9 : z.1 9 5 = nI m := by rw [hz, pI_ne (by decide)]; exact r9
  refine rr_Bb (rr_tell (by decide) M2.1 (by decide) (by decide) (fun a b k1 k2 k3 => ?_))
  have M3 := rr_MF (by decide) M2 k1 k2
  have a9 : a.2.1 9 5 = nI m := by rw [k2.1.1 9 (by decide)]; exact z9
  refine rr_gl (sn_in_nI (by omega) (by decide)) (rr_ll (fun z => z = sn_pI a.2 10 (2 * m + 1) a.1) rfl (fun z2 hz2 => ?_))
  refine rr_Bg (sn_in_nI (by omega) (by decide)) (rr_Bl (fun w => w = sn_pI b.2 6 (11 + 2 * m + 1) b.1) rfl (fun w2 hw2 => ?_))
  have M4 : rr_M l 10 11 (2 * m) 2 z2 w2 n := by
    rw [hz2, hw2]
    exact rr_Mw M3 (fun _ => rr_g10 a9 h6 (by decide)) (by decide) (by decide) (fun x => (k3 x).1)
  have y9 : z2.1 9 5 = nI m := by rw [hz2, pI_ne (by decide)]; exact a9
  refine rr_Bg (by decide) (rr_Bg (by decide) (rr_Bl (fun w => w = sn_pI w2 6 5 (w2.1 6 5 + (1 : Int32))) rfl (fun w3 hw3 => ?_)))
  subst hw3
  exact rr_fin (c := 5) M4 (Or.inl ⟨rfl, rfl, rfl, rfl, h6⟩) rfl y9
theorem rr_gust (h : rr_N l σ τ n) (hg : σ.1 17 2 = 0) (hm : σ.1 9 6 = nI m) (h6 : m < 5) (e0 : fX9_is τ 6 = some 0) (e1 : fX5_isWord σ 7 = some 1) (e2 : fX9_is τ 7 = some 1) : rr_ok (fX5_readGust σ (nI m)) ((BX9_readNext_143 τ).bind fun t => BX9_readLine_21 t) (fun σ' τ' => rr_N (l + 1) σ' τ' n) := by
  obtain ⟨s, t, ew, et, _, qL, qF⟩ := rr_begin h.1 hg e1 e2
  have hgm : τ.1 0 12 = 0 := h.1.2.2.2.1.trans hg
  have c0 := h.2.2 hg
  have t5 : t.1 6 6 = nI m := by rw [qF.2.1 6 (by decide), ← c0.2.1 6 (by decide)]; exact hm
  have M0 : rr_M l 11 23 (2 * m) 0 s t n := rr_MF (by decide) (rr_M0 h) qL qF
  have s9 : s.1 9 = σ.1 9 := qF.1.1 9 (by decide)
  have e6 : fX9_takes τ 6 = some (0, τ) := by
    unfold fX9_takes
    rw [e0]
    rfl
  unfold fX5_readGust BX9_readNext_143
  rw [if_pos (show nI m < 5 from (nI_ltI (b := 5) (by omega) (by decide)).mpr h6), ew, rm_good, if_pos hgm, zk_2n m, show nI (2 * m) + (1 : Int32) = nI (2 * m + 1) from nI_1 _]
  refine rr_Bb (rr_br (Q := fun u => u = 1) ⟨1, rfl, rfl⟩ (fun u hu => ?_))
  subst hu
  refine rr_Bi (fun c => absurd c (by decide)) (fun _ => ?_)
  rw [e6]
  refine rr_Bb (rr_br (Q := fun u => u = ((0 : Int32), τ)) ⟨_, rfl, rfl⟩ (fun u hu => ?_))
  subst hu
  refine rr_Bi (fun _ => ?_) (fun c => absurd (show (0 : Int32) = 0 from rfl) c)
  show rr_ok _ (((fX9_takes τ 7).bind _).bind _) _
  rw [et]
  refine rr_Bb (rr_br (Q := fun u => u = ((1 : Int32), t)) ⟨_, rfl, rfl⟩ (fun u hu => ?_))
  subst hu
  refine rr_Bi (fun c => absurd (show (1 : Int32) = 0 from c) (by decide)) (fun _ => ?_)
  refine rr_Bg (by decide) (rr_Bl (fun y => y = nI (23 + 2 * m)) (by show (23 : Int32) + ((2 : Int32) * t.1 6 6) = _; rw [t5, zk_2n]; exact nI_add 23 (2 * m)) (fun y hy => ?_))
  subst hy
  rw [show nI (23 + 2 * m) + (1 : Int32) = nI (23 + 2 * m + 1) from nI_1 _, nI_clamp (show 23 + 2 * m < 2 ^ 31 by omega), nI_clamp (show 23 + 2 * m + 1 < 2 ^ 31 by omega), nI_clamp (show 2 * m < 2 ^ 31 by omega), nI_clamp (show 2 * m + 1 < 2 ^ 31 by omega)]
  refine rr_bl (Q := fun u => u = s) ⟨s, rfl, rfl⟩ (fun u hu => ?_)
  subst hu
  refine rr_gl (by rw [qL.2.2.1]; rfl) (rr_Bb (rr_bd (rr_num1 qL (by decide) (by decide)) (fun r r' q2 => ?_)))
  have M1 := rr_MF (by decide) M0 q2.1 q2.2.1
  have r9 : r.2.1 9 6 = nI m := by rw [q2.2.1.1.1 9 (by decide), s9]; exact hm
  refine rr_gl (sn_in_nI (by omega) (by decide)) (rr_ll (fun z => z = sn_pI r.2 11 (2 * m + 0) r.1) rfl (fun z hz => ?_))
  refine rr_Bg (sn_in_nI (by omega) (by decide)) (rr_Bl (fun w => w = sn_pI r'.2 6 (23 + 2 * m + 0) r'.1) rfl (fun w hw => ?_))
  have M2 : rr_M l 11 23 (2 * m) 1 z w n := by
    rw [hz, hw]
    exact rr_Mw M1 (fun _ => rr_g11 r9 h6 (by decide)) (by decide) (by decide) (fun x => (q2.2.2 x).1)
  have z9 : z.1 9 6 = nI m := by rw [hz, pI_ne (by decide)]; exact r9
  refine rr_Bb (rr_tell (by decide) M2.1 (by decide) (by decide) (fun a b k1 k2 k3 => ?_))
  have M3 := rr_MF (by decide) M2 k1 k2
  have a9 : a.2.1 9 6 = nI m := by rw [k2.1.1 9 (by decide)]; exact z9
  refine rr_gl (sn_in_nI (by omega) (by decide)) (rr_ll (fun z => z = sn_pI a.2 11 (2 * m + 1) a.1) rfl (fun z2 hz2 => ?_))
  refine rr_Bg (sn_in_nI (by omega) (by decide)) (rr_Bl (fun w => w = sn_pI b.2 6 (23 + 2 * m + 1) b.1) rfl (fun w2 hw2 => ?_))
  have M4 : rr_M l 11 23 (2 * m) 2 z2 w2 n := by
    rw [hz2, hw2]
    exact rr_Mw M3 (fun _ => rr_g11 a9 h6 (by decide)) (by decide) (by decide) (fun x => (k3 x).1)
  have y9 : z2.1 9 6 = nI m := by rw [hz2, pI_ne (by decide)]; exact a9
  refine rr_Bg (by decide) (rr_Bg (by decide) (rr_Bl (fun w => w = sn_pI w2 6 6 (w2.1 6 6 + (1 : Int32))) rfl (fun w3 hw3 => ?_)))
  subst hw3
  exact rr_fin (c := 6) M4 (Or.inr (Or.inl ⟨rfl, rfl, rfl, rfl, h6⟩)) rfl y9
end
