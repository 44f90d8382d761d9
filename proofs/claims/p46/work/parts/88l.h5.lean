/-! the fewest minutes to hold back in: what is meant, backward over all minutes; the class goes forward -/
def yo_c (m : Nat) : Nat := 1073741824 + 2 ^ m
/-- the cost of the last n of M minutes, by the minute behind the latest sneeze -/
def yo_v (F : Nat → Nat → Bool) (W : Nat → Bool) (M : Nat) : Nat → Nat → Nat
  | 0, _ => 0
  | n + 1, l => if F l (M - (n + 1)) = true then (if W (M - (n + 1)) = true then yo_v F W M n l + yo_c (M - (n + 1)) else min (yo_v F W M n l + yo_c (M - (n + 1))) (yo_v F W M n (M - (n + 1) + 1))) else yo_v F W M n l
def yo_V (F : Nat → Nat → Bool) (W : Nat → Bool) (M m l : Nat) : Nat := yo_v F W M (M - m) l
section
variable {F : Nat → Nat → Bool} {W : Nat → Bool} {M m l n V : Nat}
theorem yo_step (hm : m < M) : yo_V F W M m l = if F l m = true then (if W m = true then yo_V F W M (m + 1) l + yo_c m else min (yo_V F W M (m + 1) l + yo_c m) (yo_V F W M (m + 1) (m + 1))) else yo_V F W M (m + 1) l := by
  obtain ⟨n, hn⟩ : ∃ n, M - m = n + 1 := ⟨M - m - 1, by omega⟩
  have e : M - (n + 1) = m := by omega
  have e2 : M - (m + 1) = n := by omega
  unfold yo_V
  rw [hn, e2]
  show (if F l (M - (n + 1)) = true then (if W (M - (n + 1)) = true then yo_v F W M n l + yo_c (M - (n + 1)) else min (yo_v F W M n l + yo_c (M - (n + 1))) (yo_v F W M n (M - (n + 1) + 1))) else yo_v F W M n l) = _
  rw [e]
theorem yo_end : yo_V F W M M l = 0 := by
  unfold yo_V
  rw [Nat.sub_self]
  rfl
theorem yo_v0 : ∀ n, n ≤ M → (∀ m, M - n ≤ m → m < M → W m = false) → ∀ l, yo_v F W M n l = 0 := by
  intro n
  induction n with
  | zero => intro _ _ l; rfl
  | succ n ih =>
    intro hn h l
    have ih := ih (by omega) (fun m h1 h2 => h m (by omega) h2)
    show (if F l (M - (n + 1)) = true then (if W (M - (n + 1)) = true then yo_v F W M n l + yo_c (M - (n + 1)) else min (yo_v F W M n l + yo_c (M - (n + 1))) (yo_v F W M n (M - (n + 1) + 1))) else yo_v F W M n l) = 0
    rw [h (M - (n + 1)) (Nat.le_refl _) (by omega), ih l, ih (M - (n + 1) + 1)]
    by_cases c : F l (M - (n + 1)) = true
    · rw [if_pos c, if_neg (by decide), Nat.min_eq_right (Nat.zero_le _)]
    · rw [if_neg c]
theorem yo_V0 (hm : m ≤ M) (h : ∀ j, m ≤ j → j < M → W j = false) : yo_V F W M m l = 0 := yo_v0 (M - m) (by omega) (fun j h1 h2 => h j (by omega) h2) l
/-! a set as one number: how many, then which -/
def yo_g (m n V : Nat) : Prop := V % 2 ^ m = 0 ∧ V < (n + 1) * 1073741824
theorem yo_inc (hm : m < 30) (h : yo_g (m + 1) n V) : (V + yo_c m) / 1073741824 = V / 1073741824 + 1 ∧ (V + yo_c m) % 1073741824 = V % 1073741824 + 2 ^ m ∧ yo_g m (n + 1) (V + yo_c m) ∧ V % 1073741824 % 2 ^ (m + 1) = 0 ∧ V % 1073741824 + 2 ^ (m + 1) ≤ 1073741824 := by
  obtain ⟨h1, h2⟩ := h
  obtain ⟨R, hR⟩ : ∃ R, 1073741824 = 2 ^ (m + 1) * R := ⟨2 ^ (29 - m), (show (1073741824 : Nat) = 2 ^ 30 from rfl).trans (by rw [← Nat.pow_add, show m + 1 + (29 - m) = 30 by omega])⟩
  obtain ⟨t, ht⟩ : ∃ t, V = 2 ^ (m + 1) * t := ⟨V / 2 ^ (m + 1), (Nat.mul_div_cancel' (Nat.dvd_of_mod_eq_zero h1)).symm⟩
  have hx : V % 1073741824 = 2 ^ (m + 1) * (t % R) := by
    rw [hR, ht, Nat.mul_mod_mul_left]
  have hR0 : 0 < R := by
    rcases Nat.eq_zero_or_pos R with e | e
    · rw [e, Nat.mul_zero] at hR
      exact absurd hR (by decide)
    · exact e
  have hlt : t % R < R := Nat.mod_lt _ hR0
  have hle : V % 1073741824 + 2 ^ (m + 1) ≤ 1073741824 := by
    have g : 2 ^ (m + 1) * (t % R + 1) ≤ 2 ^ (m + 1) * R := Nat.mul_le_mul_left _ hlt
    rw [← hR, Nat.mul_add, Nat.mul_one, ← hx] at g
    exact g
  have p2 : 2 ^ (m + 1) = 2 * 2 ^ m := by rw [Nat.pow_succ, Nat.mul_comm]
  have hp : 0 < 2 ^ m := Nat.pow_pos (by decide)
  have d1 : 2 ^ m ∣ V := Nat.dvd_trans (Nat.pow_dvd_pow 2 (Nat.le_succ m)) (Nat.dvd_of_mod_eq_zero h1)
  have d2 : 2 ^ m ∣ 1073741824 := show 2 ^ m ∣ 2 ^ 30 from Nat.pow_dvd_pow 2 (by omega)
  have d3 : (V + yo_c m) % 2 ^ m = 0 := Nat.mod_eq_zero_of_dvd (Nat.dvd_add d1 (Nat.dvd_add d2 (Nat.dvd_refl _)))
  have d4 : V % 1073741824 % 2 ^ (m + 1) = 0 := by rw [hx]; exact Nat.mul_mod_right _ _
  refine ⟨?_, ?_, ⟨d3, ?_⟩, d4, hle⟩
  · rw [p2] at hle
    unfold yo_c
    generalize 2 ^ m = P at hle hp ⊢
    clear hx d1 d2 d3 d4 ht hR hlt h1 p2
    omega
  · rw [p2] at hle
    unfold yo_c
    generalize 2 ^ m = P at hle hp ⊢
    clear hx d1 d2 d3 d4 ht hR hlt h1 p2
    omega
  · rw [p2] at hle
    unfold yo_c
    generalize 2 ^ m = P at hle hp ⊢
    clear hx d1 d2 d3 d4 ht hR hlt h1 p2
    omega
theorem yo_gs (h : yo_g (m + 1) n V) : yo_g m (n + 1) V := by
  obtain ⟨h1, h2⟩ := h
  have h3 : V < (n + 1 + 1) * 1073741824 := by
    have e : (n + 1 + 1) * 1073741824 = (n + 1) * 1073741824 + 1073741824 := by rw [Nat.add_mul (n + 1) 1, Nat.one_mul]
    rw [e]
    exact Nat.lt_of_lt_of_le h2 (Nat.le_add_right _ _)
  exact ⟨Nat.mod_eq_zero_of_dvd (Nat.dvd_trans (Nat.pow_dvd_pow 2 (Nat.le_succ m)) (Nat.dvd_of_mod_eq_zero h1)), h3⟩
theorem yo_ok (hM : M ≤ 30) : ∀ n, n ≤ M → ∀ l, yo_g (M - n) n (yo_v F W M n l) := by
  intro n
  induction n with
  | zero => exact fun _ l => ⟨Nat.zero_mod _, by show 0 < (0 + 1) * 1073741824; decide⟩
  | succ n ih =>
    intro hn l
    obtain ⟨m, em⟩ : ∃ m, m = M - (n + 1) := ⟨_, rfl⟩
    have e1 : M - n = m + 1 := by omega
    have ih := ih (by omega)
    rw [e1] at ih
    show yo_g (M - (n + 1)) (n + 1) (if F l (M - (n + 1)) = true then (if W (M - (n + 1)) = true then yo_v F W M n l + yo_c (M - (n + 1)) else min (yo_v F W M n l + yo_c (M - (n + 1))) (yo_v F W M n (M - (n + 1) + 1))) else yo_v F W M n l)
    rw [← em]
    have a1 := (yo_inc (show m < 30 by omega) (ih l)).2.2.1
    by_cases c : F l m = true
    · rw [if_pos c]
      by_cases g : W m = true
      · rw [if_pos g]
        exact a1
      · rw [if_neg g]
        rcases Nat.le_total (yo_v F W M n l + yo_c m) (yo_v F W M n (m + 1)) with x | x
        · rw [Nat.min_eq_left x]
          exact a1
        · rw [Nat.min_eq_right x]
          exact yo_gs (ih _)
    · rw [if_neg c]
      exact yo_gs (ih l)
theorem yo_Vok (hM : M ≤ 30) (hm : m ≤ M) : yo_g m (M - m) (yo_V F W M m l) := by
  have h := yo_ok (F := F) (W := W) hM (M - m) (by omega) l
  rw [show M - (M - m) = m by omega] at h
  exact h
/-! forward -/
def yo_K (G a : Nat) (D : Nat → Nat) (lo : Nat) (fr : Nat → Nat) (bs av : Nat) : Prop := G ≤ bs ∧ (∀ t, lo ≤ t → t ≤ a → G ≤ fr t + D t) ∧ G ≤ av ∧ (bs = G ∨ (∃ t, lo ≤ t ∧ t ≤ a ∧ fr t + D t = G) ∨ av = G)
def yo_u (fr : Nat → Nat) (k v : Nat) : Nat → Nat := fun t => if t = k then v else fr t
theorem yo_split {G a lo bs S A B k : Nat} {D fr : Nat → Nat} (h1 : lo ≤ k) (h2 : k ≤ a) (hB : B = D k) (h : yo_K G a D lo fr bs (S + min A B)) : yo_K G a D lo (yo_u fr k (min S (fr k))) bs (S + A) := by
  obtain ⟨b0, bt, ba, be⟩ := h
  have hk := bt k h1 h2
  rw [← hB] at hk
  refine ⟨b0, fun t t1 t2 => ?_, by omega, ?_⟩
  · show G ≤ (if t = k then min S (fr k) else fr t) + D t
    by_cases e : t = k
    · rw [if_pos e, e, ← hB]
      omega
    · rw [if_neg e]
      exact bt t t1 t2
  · rcases be with e | ⟨t, t1, t2, e⟩ | e
    · exact Or.inl e
    · refine Or.inr (Or.inl ⟨t, t1, t2, ?_⟩)
      show (if t = k then min S (fr k) else fr t) + D t = G
      by_cases g : t = k
      · rw [if_pos g, g, ← hB]
        rw [g, ← hB] at e
        omega
      · rw [if_neg g]
        exact e
    · by_cases g : A ≤ B
      · exact Or.inr (Or.inr (by omega))
      · refine Or.inr (Or.inl ⟨k, h1, h2, ?_⟩)
        show (if k = k then min S (fr k) else fr k) + D k = G
        rw [if_pos rfl, ← hB]
        omega
theorem yo_skip {G a lo bs av R : Nat} {D fr : Nat → Nat} (hR : G < R) (hf : fr lo = R) (h : yo_K G a D lo fr bs av) : yo_K G a D (lo + 1) fr bs av := by
  obtain ⟨b0, bt, ba, be⟩ := h
  refine ⟨b0, fun t t1 t2 => bt t (by omega) t2, ba, ?_⟩
  rcases be with e | ⟨t, t1, t2, e⟩ | e
  · exact Or.inl e
  · refine Or.inr (Or.inl ⟨t, ?_, t2, e⟩)
    rcases Nat.lt_or_ge lo t with g | g
    · exact g
    · have g2 : t = lo := by omega
      rw [g2, hf] at e
      omega
  · exact Or.inr (Or.inr e)
theorem yo_take {G a lo bs R : Nat} {D fr : Nat → Nat} (hR : G < R) (ha : lo ≤ a) (h : yo_K G a D lo fr bs R) : yo_K G a D (lo + 1) fr bs (fr lo + D lo) := by
  obtain ⟨b0, bt, ba, be⟩ := h
  refine ⟨b0, fun t t1 t2 => bt t (by omega) t2, bt lo (Nat.le_refl _) ha, ?_⟩
  rcases be with e | ⟨t, t1, t2, e⟩ | e
  · exact Or.inl e
  · rcases Nat.lt_or_ge lo t with g | g
    · exact Or.inr (Or.inl ⟨t, g, t2, e⟩)
    · have g2 : t = lo := by omega
      rw [g2] at e
      exact Or.inr (Or.inr e)
  · omega
theorem yo_best {G a lo bs S R : Nat} {D fr : Nat → Nat} (hR : G < R) (h : yo_K G a D lo fr bs S) : yo_K G a D lo fr (min S bs) R := by
  obtain ⟨b0, bt, ba, be⟩ := h
  refine ⟨by omega, bt, by omega, ?_⟩
  rcases be with e | e | e
  · exact Or.inl (by omega)
  · exact Or.inr (Or.inl e)
  · exact Or.inl (by omega)
end
/-! what comes to him, and when he tickles enough -/
def yo_x (w : Nat → Int32) (p m : Nat) : Int32 := dy_more (hs_day w) (dy_st (hs_day w) m).2 m p
def yo_t (x : Nat → Int32) (s : Nat) : Nat → Int32
  | 0 => 0
  | n + 1 => yo_t x s n + x (s + n)
def yo_F (w : Nat → Int32) (p s m : Nat) : Bool := decide (dy_lim (hs_day w) p ≤ yo_t (yo_x w p) s (m + 1 - s))
def yo_a (w : Nat → Int32) (q : Nat) : Nat := sp_n w (50 + 5 * q)
def yo_L (w : Nat → Int32) (q : Nat) : Nat := min (sp_n w (51 + 5 * q) + 1) (sp_n w 0)
def yo_p (w : Nat → Int32) (q : Nat) : Nat := sp_n w (49 + 5 * q)
def yo_D (w : Nat → Int32) (q m l : Nat) : Nat := yo_V (yo_F w (yo_p w q)) (yl_m w q) (sp_n w 0) m l
def yo_G (w : Nat → Int32) (q : Nat) : Nat := yo_D w q 0 0
def yo_far : Nat := 4611686018427387904
def yo_B (fr : Nat → Nat) (z : sn_S) : Prop := ∀ t, t < 31 → z.2.1 53 t = lN (fr t) ∧ (fr t = yo_far ∨ fr t < (t + 1) * 2147483648)
theorem yo_Ls {z : sn_S} {q k : Nat} {v : Int64} : (sn_pL z q k v).2.1 q k = v := if_pos ⟨rfl, rfl⟩
theorem yo_Lk {z : sn_S} {q k b : Nat} {v : Int64} (h : b ≠ k) : (sn_pL z q k v).2.1 q b = z.2.1 q b := if_neg (fun g => h g.2)
theorem yo_Lq {z : sn_S} {a q k b : Nat} {v : Int64} (h : a ≠ q) : (sn_pL z q k v).2.1 a b = z.2.1 a b := if_neg (fun g => h g.1)
section
variable {σ z : sn_S} {w : Nat → Int32} {q s m : Nat}
theorem yo_cL : ∀ m, m < 30 → (1073741824 : Int64) + ((1 : Int64) <<< ((nI m).toInt64 &&& 63)) = lN (yo_c m) := by decide +kernel
theorem yo_cle (hm : m < 30) : yo_c m < 2147483648 := by
  have h : 2 ^ m ≤ 2 ^ 29 := Nat.pow_le_pow_right (by decide) (by omega)
  have h2 : (2 : Nat) ^ 29 = 536870912 := by decide
  unfold yo_c
  omega
theorem yo_min {a b : Nat} (ha : a < 2 ^ 63) (hb : b < 2 ^ 63) : (if lN a < lN b then lN a else lN b) = lN (min a b) := by
  by_cases c : a < b
  · rw [if_pos ((pk_lLT ha hb).mpr c), Nat.min_eq_left (by omega)]
  · rw [if_neg (fun h => c ((pk_lLT ha hb).mp h)), Nat.min_eq_right (by omega)]
theorem yo_lc {a b : Nat} (ha : a < 2 ^ 63) (hb : b < 2 ^ 63) : lg_cmp (lN a) (lN b) = 0 ↔ a = b := by
  constructor
  · intro h
    exact (pk_lEQ ha hb).mp (Int64.toInt_inj.mp (zs_lg_eq h))
  · intro h
    rw [h]
    exact lw_cmp0 (lN b)
theorem yo_ts (x : Nat → Int32) (h : s ≤ m) : yo_t x s (m - s) + x m = yo_t x s (m + 1 - s) := by
  rw [show m + 1 - s = (m - s) + 1 by omega]
  show _ = yo_t x s (m - s) + x (s + (m - s))
  rw [show s + (m - s) = m by omega]
theorem yo_Glt (hW : jW w) : yo_G w q < yo_far := by
  have h := (yo_Vok (F := yo_F w (yo_p w q)) (W := yl_m w q) (l := 0) (yl_0 hW).2 (Nat.zero_le _)).2
  have c0 := (yl_0 hW).2
  have e : yo_G w q = yo_V (yo_F w (yo_p w q)) (yl_m w q) (sp_n w 0) 0 0 := rfl
  have e2 : yo_far = 4611686018427387904 := rfl
  rw [← e] at h
  omega
theorem yo_Wm (h1 : m < yo_L w q) : yl_m w q m = decide (yo_a w q ≤ m) := by
  have h2 : m < sp_n w (51 + 5 * q) + 1 ∧ m < sp_n w 0 := by unfold yo_L at h1; omega
  unfold yl_m yl_w yo_a
  rw [Bool.eq_iff_iff]
  simp only [Bool.and_eq_true, decide_eq_true_eq]
  omega
theorem yo_W0 (h1 : yo_L w q ≤ m) (h2 : m < sp_n w 0) : yl_m w q m = false := by
  have h3 : sp_n w (51 + 5 * q) < m := by unfold yo_L at h1; omega
  unfold yl_m yl_w
  rw [decide_eq_false (by omega), Bool.false_and]
theorem yo_Wa (h0 : yo_L w q ≤ yo_a w q) (h2 : m < sp_n w 0) : yl_m w q m = false := by
  rcases Nat.lt_or_ge m (yo_L w q) with g | g
  · rw [yo_Wm g, decide_eq_false (by omega)]
  · exact yo_W0 g h2
theorem yo_LM : yo_L w q ≤ sp_n w 0 := Nat.min_le_right _ _
/-- what holds in the loop of a beginning -/
def yo_I (σ : sn_S) (w : Nat → Int32) (q s m : Nat) (z : sn_S) (x : Int64) : Prop := z.1 = σ.1 ∧ ∃ (fr : Nat → Nat) (bs S : Nat), yo_B fr z ∧ z.2.1 52 1 = lN bs ∧ bs ≤ yo_far ∧ x = lN S ∧ S < (m + 1) * 2147483648 ∧ yo_K (yo_G w q) (yo_a w q) (fun t => yo_D w q t t) (s + 1) fr bs (S + yo_D w q m s)
def yo_J (σ : sn_S) (w : Nat → Int32) (q s : Nat) (z : sn_S) : Prop := z.1 = σ.1 ∧ ∃ (fr : Nat → Nat) (bs : Nat), yo_B fr z ∧ z.2.1 52 1 = lN bs ∧ bs ≤ yo_far ∧ yo_K (yo_G w q) (yo_a w q) (fun t => yo_D w q t t) s fr bs yo_far
theorem yc_comesx {p : Nat} (hD : yD σ w) (hW : jW w) (hp : p < sp_n w 5) (hm : m < sp_n w 0) (hz : z.1 = σ.1) : yp (fX0_comesTo z 27 (nI p) (nI m)) (fun v => v = yo_x w p m) := by
  have c0 := (yl_0 hW).2
  have c5 := (yl_5 hW).2
  obtain ⟨-, ⟨-, -, -, t4, t5, -⟩, ⟨l1, -⟩⟩ := hD
  obtain ⟨k1, k2, k3, k4⟩ := t5 p hp
  refine yp_w (yc_comes (q := 27) (show m < 30 by omega) (show p < 6 by omega)) (fun v hv => ?_)
  rw [hv, hz, k1, k4, t4 m (by omega), (((l1 m hm).2 p hp).2 : σ.1 (27 + 8) (6 * m + p) = _)]
  rfl
theorem yc_goOnI {p : Nat} {z : sn_S} {x : Int64} {t : Int32} (hD : yD σ w) (hW : jW w) (hp : p < sp_n w 5) (ep : p = yo_p w q) (hs : s ≤ m) (hm : m ≤ yo_L w q) (ha : yo_a w q < yo_L w q) (ht : t = yo_t (yo_x w p) s (m - s)) (hI : yo_I σ w q s m z x) : yp (BX1_goOn_14 z 27 (nI p) (nI (yo_a w q)) (nI (yo_L w q) - 1) x t (nI m)) (yp_sum (fun r : sn_S × Int64 × Int32 × Int32 => ∃ m', s ≤ m' ∧ m' ≤ yo_L w q ∧ r.2.2.2 = nI m' ∧ r.2.2.1 = yo_t (yo_x w p) s (m' - s) ∧ yo_I σ w q s m' r.1 r.2.1) (fun r : sn_S × Int64 => yo_I σ w q s (yo_L w q) r.1 r.2)) := by
  have c0 := (yl_0 hW).2
  have c5 := (yl_5 hW).2
  have hLM : yo_L w q ≤ sp_n w 0 := yo_LM
  unfold BX1_goOn_14
  refine yp_ite (fun c => ?_) (fun c => ?_)
  · have c := (yi_last (M := yo_L w q) (by omega) (by omega)).mp c
    have e : m = yo_L w q := by omega
    rw [← e]
    exact yp_some hI
  · have hmL : m < yo_L w q := by
      rcases Nat.lt_or_ge m (yo_L w q) with g | g
      · exact g
      · exact absurd ((yi_last (M := yo_L w q) (by omega) (by omega)).mpr g) c
    obtain ⟨z1, fr, bs, S, hB, hb, hb2, ex, hS, hK⟩ := hI
    refine yp_bd _ (yc_comesx hD hW hp (show m < sp_n w 0 by omega) z1) (fun v hv => yp_lt (yp_gd (fun _ => ?_)))
    rw [hv, ht, yo_ts _ hs, ex, nI_clamp (show p < 2 ^ 31 by omega), show sn_I z (27 + 3) p = dy_lim (hs_day w) p from (congrFun (congrFun z1 30) p).trans (hD.2.1.2.2.2.2.1 p hp).2.1]
    have st := yo_step (F := yo_F w (yo_p w q)) (W := yl_m w q) (M := sp_n w 0) (m := m) (l := s) (by omega)
    rw [yo_Wm hmL] at st
    have st : yo_D w q m s = _ := st
    have hc := yo_cle (show m < 30 by omega)
    have n87 : ∀ (z' : sn_S) (S' : Nat), yo_I σ w q s (m + 1) z' (lN S') → yp (BX1_goOn_87 z' 27 (nI p) (nI (yo_a w q)) (nI (yo_L w q) - 1) (lN S') (yo_t (yo_x w p) s (m + 1 - s)) (nI m)) (yp_sum (fun r : sn_S × Int64 × Int32 × Int32 => ∃ m', s ≤ m' ∧ m' ≤ yo_L w q ∧ r.2.2.2 = nI m' ∧ r.2.2.1 = yo_t (yo_x w p) s (m' - s) ∧ yo_I σ w q s m' r.1 r.2.1) (fun r : sn_S × Int64 => yo_I σ w q s (yo_L w q) r.1 r.2)) := fun z' S' hI' => by
      unfold BX1_goOn_87
      exact yp_lt (yp_some ⟨m + 1, by omega, hmL, nI_1 m, rfl, hI'⟩)
    have n74 : ∀ (z' : sn_S), yo_I σ w q s (m + 1) z' (lN (S + yo_c m)) → yp (BX1_goOn_74 z' 27 (nI p) (nI (yo_a w q)) (nI (yo_L w q) - 1) (lN S) (yo_t (yo_x w p) s (m + 1 - s)) (nI m)) (yp_sum (fun r : sn_S × Int64 × Int32 × Int32 => ∃ m', s ≤ m' ∧ m' ≤ yo_L w q ∧ r.2.2.2 = nI m' ∧ r.2.2.1 = yo_t (yo_x w p) s (m' - s) ∧ yo_I σ w q s m' r.1 r.2.1) (fun r : sn_S × Int64 => yo_I σ w q s (yo_L w q) r.1 r.2)) := fun z' hI' => by
      unfold BX1_goOn_74
      rw [yo_cL m (by omega), lN_add]
      exact yp_lt (n87 z' _ hI')
    refine yp_ite (fun c1 => ?_) (fun c1 => ?_)
    · have f : ¬ yo_F w (yo_p w q) s m = true := by
        rw [← ep]
        exact fun h => absurd (of_decide_eq_true h) (Int32.not_le.mpr c1)
      rw [if_neg f] at st
      have st : yo_D w q m s = yo_D w q (m + 1) s := st
      rw [st] at hK
      have hS2 : S < (m + 1 + 1) * 2147483648 := by
        have e : (m + 1 + 1) * 2147483648 = (m + 1) * 2147483648 + 2147483648 := by rw [Nat.add_mul (m + 1) 1, Nat.one_mul]
        rw [e]
        exact Nat.lt_of_lt_of_le hS (Nat.le_add_right _ _)
      exact n87 z S ⟨z1, fr, bs, S, hB, hb, hb2, rfl, hS2, hK⟩
    · have f : yo_F w (yo_p w q) s m = true := by
        rw [← ep]
        exact decide_eq_true (Int32.not_lt.mp c1)
      rw [if_pos f] at st
      refine yp_ite (fun c2 => ?_) (fun c2 => ?_)
      · have c2 : yo_a w q ≤ m := (nI_leI (by omega) (by omega)).mp c2
        rw [decide_eq_true c2, if_pos rfl] at st
        have st : yo_D w q m s = yo_D w q (m + 1) s + yo_c m := st
        rw [st, show S + (yo_D w q (m + 1) s + yo_c m) = S + yo_c m + yo_D w q (m + 1) s by omega] at hK
        exact n74 z ⟨z1, fr, bs, S + yo_c m, hB, hb, hb2, rfl, by omega, hK⟩
      · have c2 : m < yo_a w q := by
          rcases Nat.lt_or_ge m (yo_a w q) with g | g
          · exact g
          · exact absurd ((nI_leI (by omega) (by omega)).mpr g) c2
        rw [decide_eq_false (by omega), if_neg (by decide)] at st
        have st : yo_D w q m s = min (yo_D w q (m + 1) s + yo_c m) (yo_D w q (m + 1) (m + 1)) := st
        rw [st] at hK
        have hK2 := yo_split (k := m + 1) (by omega) (by omega) rfl hK
        rw [show S + (yo_D w q (m + 1) s + yo_c m) = S + yo_c m + yo_D w q (m + 1) s by omega] at hK2
        have hf := hB (m + 1) (by omega)
        have e2 : yo_far = 4611686018427387904 := rfl
        rw [nI_1, nI_clamp (show m + 1 < 2 ^ 31 by omega), show sn_L z 53 (m + 1) = lN (fr (m + 1)) from hf.1, yo_min (show S < 2 ^ 63 by omega) (show fr (m + 1) < 2 ^ 63 by rcases hf.2 with g | g <;> omega)]
        refine yp_gd (fun _ => yp_lt (yp_gd (fun _ => yp_le (fun y ey => ?_))))
        refine n74 y ⟨by rw [ey]; exact z1, yo_u fr (m + 1) (min S (fr (m + 1))), bs, S + yo_c m, fun t ht => ?_, ?_, hb2, rfl, by omega, hK2⟩
        · show y.2.1 53 t = lN (if t = m + 1 then min S (fr (m + 1)) else fr t) ∧ ((if t = m + 1 then min S (fr (m + 1)) else fr t) = yo_far ∨ (if t = m + 1 then min S (fr (m + 1)) else fr t) < (t + 1) * 2147483648)
          rw [ey]
          by_cases e : t = m + 1
          · rw [if_pos e]
            refine ⟨by rw [e]; exact yo_Ls, Or.inr ?_⟩
            omega
          · rw [if_neg e]
            exact ⟨(yo_Lk e).trans (hB t ht).1, (hB t ht).2⟩
        · rw [ey]
          exact (yo_Lq (by decide)).trans hb
theorem yc_goOn (hD : yD σ w) (hW : jW w) (hq : q < sp_n w 8) (ha : yo_a w q < yo_L w q) (hs : s ≤ yo_a w q) {fr : Nat → Nat} {bs : Nat} (z1 : z.1 = σ.1) (hB : yo_B fr z) (hb : z.2.1 52 1 = lN bs) (hb2 : bs ≤ yo_far) (hK : yo_K (yo_G w q) (yo_a w q) (fun t => yo_D w q t t) s fr bs yo_far) (hf : ¬ fr s = yo_far) : yp (fX1_goOn z 27 (nI (yo_p w q)) (nI s) (nI (yo_a w q)) (nI (yo_L w q) - 1)) (fun v => yo_J σ w q (s + 1) v) := by
  have c0 := (yl_0 hW).2
  have hLM : yo_L w q ≤ sp_n w 0 := yo_LM
  have hp : yo_p w q < sp_n w 5 := (yl_p hW hq).1.2
  have hGl := yo_Glt (q := q) hW
  have fs := hB s (by omega)
  have e2 : yo_far = 4611686018427387904 := rfl
  unfold fX1_goOn
  rw [nI_clamp (show s < 2 ^ 31 by omega), show sn_L z 53 s = lN (fr s) from fs.1]
  have fs2 : fr s < (s + 1) * 2147483648 := by
    rcases fs.2 with g | g
    · exact absurd g hf
    · exact g
  refine yp_gd (fun _ => yp_lt (yp_bd (fun r : sn_S × Int64 => yo_I σ w q s (yo_L w q) r.1 r.2) (yp_it (fun r : sn_S × Int64 × Int32 × Int32 => ∃ m', s ≤ m' ∧ m' ≤ yo_L w q ∧ r.2.2.2 = nI m' ∧ r.2.2.1 = yo_t (yo_x w (yo_p w q)) s (m' - s) ∧ yo_I σ w q s m' r.1 r.2.1) (fun r hr => ?_) _ _ (by exact ⟨s, Nat.le_refl _, by omega, rfl, by rw [Nat.sub_self]; rfl, z1, fr, bs, fr s, hB, hb, hb2, rfl, fs2, yo_take hGl hs hK⟩)) (fun r hr => ?_)))
  · obtain ⟨z', x, t, y⟩ := r
    obtain ⟨m, m1, m2, e1, et, hI⟩ := hr
    have e1 : y = nI m := e1
    have et : t = yo_t (yo_x w (yo_p w q)) s (m - s) := et
    subst e1
    exact yc_goOnI hD hW hp rfl m1 m2 ha et hI
  · obtain ⟨z', x⟩ := r
    obtain ⟨y1, fr', bs', S, hB', hb', hb2', ex, hS, hK'⟩ := hr
    have ex : x = lN S := ex
    have y1 : z'.1 = σ.1 := y1
    have hb' : z'.2.1 52 1 = lN bs' := hb'
    show yp (BX1_goOn_93 z' 27 x) _
    unfold BX1_goOn_93
    have dz : yo_D w q (yo_L w q) s = 0 := yo_V0 hLM (fun j h1 h2 => yo_W0 h1 h2)
    rw [dz, Nat.add_zero] at hK'
    rw [ex, show sn_L z' 52 1 = lN bs' from hb', yo_min (show S < 2 ^ 63 by omega) (show bs' < 2 ^ 63 by omega)]
    refine yp_lt (yp_le (fun y ey => yp_some ⟨by rw [ey]; exact y1, fr', min S bs', fun t ht => ?_, ?_, by omega, yo_best hGl hK'⟩))
    · rw [ey]
      exact ⟨(yo_Lq (by decide)).trans (hB' t ht).1, (hB' t ht).2⟩
    · rw [ey]
      exact yo_Ls
theorem yc_fillL (σ : sn_S) (q n : Nat) (v : Int64) (hn : n < 5000) : yp (fJ7_fill_d0a16 σ q n v) (fun z => z.1 = σ.1 ∧ (∀ a k, a ≠ q → z.2.1 a k = σ.2.1 a k) ∧ ∀ k, k < n → z.2.1 q k = v) := by
  unfold fJ7_fill_d0a16
  refine yp_lt (yp_bd (fun z : sn_S => z.1 = σ.1 ∧ (∀ a k, a ≠ q → z.2.1 a k = σ.2.1 a k) ∧ ∀ k, k < n → z.2.1 q k = v) (yp_for n (fun k (s : sn_S × Int32) => s.2 = nI k ∧ s.1.1 = σ.1 ∧ (∀ a k, a ≠ q → s.1.2.1 a k = σ.2.1 a k) ∧ ∀ j, j < k → s.1.2.1 q j = v) (fun k s hk hs => ?_) (fun s hs => ?_) (by exact ⟨nI_0.symm, rfl, fun _ _ _ => rfl, fun j hj => absurd hj (by omega)⟩)) (fun u hu => ?_))
  · obtain ⟨z, x⟩ := s
    obtain ⟨ex, h1, h2, h3⟩ := hs
    have ex : x = nI k := ex
    have h1 : z.1 = σ.1 := h1
    have h2 : ∀ a k, a ≠ q → z.2.1 a k = σ.2.1 a k := h2
    have h3 : ∀ j, j < k → z.2.1 q j = v := h3
    subst ex
    show yp (BJ7_fill_d0a16_6 z q n v (nI k) (Int32.ofNat n)) _
    unfold BJ7_fill_d0a16_6
    rw [if_neg (show ¬ Int32.ofNat n ≤ nI k from nI_ge hk (by omega)), nI_clamp (show k < 2 ^ 31 by omega)]
    refine yp_gd (fun _ => yp_lt (yp_lt (yp_some ⟨nI_1 k, h1, fun a j ha => (yo_Lq ha).trans (h2 a j ha), fun j hj => ?_⟩)))
    by_cases c : j = k
    · rw [c]
      exact yo_Ls
    · exact (yo_Lk c).trans (h3 j (by omega))
  · obtain ⟨z, x⟩ := s
    obtain ⟨ex, h1, h2, h3⟩ := hs
    have ex : x = nI n := ex
    subst ex
    show yp (BJ7_fill_d0a16_6 z q n v (nI n) (Int32.ofNat n)) _
    unfold BJ7_fill_d0a16_6
    rw [if_pos (show Int32.ofNat n ≤ nI n from Int32.le_refl _)]
    exact yp_some ⟨h1, h2, h3⟩
  · unfold BJ7_fill_d0a16_22
    exact yp_some hu
theorem yo_last (hW : jW w) (hq : q < sp_n w 8) : (if nI (sp_n w 0) - (1 : Int32) < nI (sp_n w (51 + 5 * q)) then nI (sp_n w 0) - (1 : Int32) else nI (sp_n w (51 + 5 * q))) = nI (yo_L w q) - 1 := by
  have c0 := (yl_0 hW).2
  obtain ⟨-, -, ⟨t1, t2⟩, -⟩ := yl_p hW hq
  by_cases c : sp_n w 0 ≤ sp_n w (51 + 5 * q)
  · rw [if_pos ((yi_last c0 (by omega)).mpr c)]
    unfold yo_L
    rw [Nat.min_eq_right (by omega)]
  · rw [if_neg (fun h => c ((yi_last c0 (by omega)).mp h))]
    unfold yo_L
    rw [Nat.min_eq_left (by omega), nI_pred]
theorem yc_hold (hW : jW w) (hH : yH 1 σ w) (hD : yD σ w) (hq : q < sp_n w 8) : yp (fX1_reckon σ 1 27 (nI q)) (fun z => sn_L z 52 1 = lN (yo_G w q)) := by
  have c0 := (yl_0 hW).2
  have c8 := (yl_8 hW).2
  have hLM : yo_L w q ≤ sp_n w 0 := yo_LM
  have hGl := yo_Glt (q := q) hW
  have e2 : yo_far = 4611686018427387904 := rfl
  obtain ⟨⟨q1, q2⟩, ⟨f1, f2⟩, ⟨t1, t2⟩, -⟩ := yl_p hW hq
  unfold fX1_reckon
  refine yp_bd _ (yc_of hW hH hq 1 (by decide) rfl) (fun v1 h1 => yp_bd _ (yc_of hW hH hq 2 (by decide) rfl) (fun v2 h2 => ?_))
  rw [h1, h2, show w (49 + 1 + 5 * q) = nI (yo_a w q) from f1, show w (49 + 2 + 5 * q) = nI (sp_n w (51 + 5 * q)) from t1, show sn_I σ 27 0 = nI (sp_n w 0) from hD.1, yo_last hW hq]
  have f2 : yo_a w q ≤ 29 := f2
  refine yp_lt (yp_le (fun z7 e7 => yp_ite (fun c => yp_le (fun z10 e10 => ?_)) (fun c => ?_)))
  · have ha : yo_a w q < yo_L w q := by
      rcases Nat.lt_or_ge (yo_a w q) (yo_L w q) with g | g
      · exact g
      · exact absurd ((yi_last (M := yo_L w q) (by omega) (by omega)).mpr g) (Int32.not_lt.mpr c)
    refine yp_bd _ (yc_fillL z10 53 31 _ (by decide)) (fun z12 h12 => yp_gd (fun _ => yp_le (fun z15 e15 => ?_)))
    obtain ⟨g1, g2, g3⟩ := h12
    have i1 : z15.1 = σ.1 := by rw [e15]; show z12.1 = _; rw [g1, e10]; show z7.1 = _; rw [e7]; rfl
    have ib : z15.2.1 52 1 = lN yo_far := by
      rw [e15]
      refine (yo_Lq (by decide)).trans ((g2 52 1 (by decide)).trans ?_)
      rw [e10]
      exact yo_Ls
    have iB : yo_B (fun t => if t = 0 then 0 else yo_far) z15 := fun t ht => by
      show z15.2.1 53 t = lN (if t = 0 then 0 else yo_far) ∧ ((if t = 0 then 0 else yo_far) = yo_far ∨ (if t = 0 then 0 else yo_far) < (t + 1) * 2147483648)
      rw [e15]
      by_cases e : t = 0
      · rw [if_pos e, e]
        exact ⟨yo_Ls, Or.inr (by decide)⟩
      · rw [if_neg e]
        exact ⟨(yo_Lk e).trans (g3 t ht), Or.inl rfl⟩
    have iK : yo_K (yo_G w q) (yo_a w q) (fun t => yo_D w q t t) 0 (fun t => if t = 0 then 0 else yo_far) yo_far yo_far := by
      refine ⟨by omega, fun t _ _ => ?_, by omega, Or.inr (Or.inl ⟨0, Nat.le_refl _, Nat.zero_le _, ?_⟩)⟩
      · show yo_G w q ≤ (if t = 0 then 0 else yo_far) + yo_D w q t t
        by_cases e : t = 0
        · rw [if_pos e, e, Nat.zero_add]
          exact Nat.le_refl _
        · rw [if_neg e]
          omega
      · show (if 0 = 0 then 0 else yo_far) + yo_D w q 0 0 = yo_G w q
        rw [if_pos rfl, Nat.zero_add]
        rfl
    refine yp_bd (fun z : sn_S => yo_J σ w q (yo_a w q + 1) z) (yp_for (yo_a w q + 1) (fun s (r : sn_S × Int32) => r.2 = nI s ∧ yo_J σ w q s r.1) (fun s r hs hr => ?_) (fun r hr => ?_) (by exact ⟨nI_0.symm, i1, _, _, iB, ib, Nat.le_refl _, iK⟩)) (fun z hz => ?_)
    · obtain ⟨z, x⟩ := r
      obtain ⟨ex, z1, fr, bs, hB, hb, hb2, hK⟩ := hr
      have ex : x = nI s := ex
      have z1 : z.1 = σ.1 := z1
      have hb : z.2.1 52 1 = lN bs := hb
      subst ex
      show yp (BX1_reckon_65 z 1 27 (nI q) (nI (yo_a w q)) (nI (yo_L w q) - 1) (nI s)) _
      unfold BX1_reckon_65
      have fs := hB s (by omega)
      rw [if_neg (nI_nlt (show s ≤ yo_a w q by omega) (by omega)), nI_clamp (show s < 2 ^ 31 by omega), show sn_L z 53 s = lN (fr s) from fs.1, show (4611686018427387904 : Int64) = lN yo_far from rfl]
      have fb : fr s < 2 ^ 63 := by rcases fs.2 with g | g <;> omega
      refine yp_gd (fun _ => yp_ite (fun c3 => ?_) (fun c3 => ?_))
      · have c3 : fr s = yo_far := (yo_lc fb (show yo_far < 2 ^ 63 by omega)).mp c3
        unfold BX1_reckon_103
        exact yp_lt (yp_some ⟨nI_1 s, z1, fr, bs, hB, hb, hb2, yo_skip hGl c3 hK⟩)
      · have c3 : ¬ fr s = yo_far := fun h => c3 ((yo_lc fb (show yo_far < 2 ^ 63 by omega)).mpr h)
        have zH : yH 1 z w := yH_c (fun a _ _ => congrFun z1 a) hH
        refine yp_bd _ (yc_of hW zH hq 0 (by decide) nI_0.symm) (fun v hv => ?_)
        rw [hv, show w (49 + 0 + 5 * q) = nI (yo_p w q) from q1]
        refine yp_bd _ (yc_goOn hD hW hq ha (by omega) z1 hB hb hb2 hK c3) (fun y hy => ?_)
        unfold BX1_reckon_103
        exact yp_lt (yp_some ⟨nI_1 s, hy⟩)
    · obtain ⟨z, x⟩ := r
      obtain ⟨ex, hJ⟩ := hr
      have ex : x = nI (yo_a w q + 1) := ex
      subst ex
      show yp (BX1_reckon_65 z 1 27 (nI q) (nI (yo_a w q)) (nI (yo_L w q) - 1) (nI (yo_a w q + 1))) _
      unfold BX1_reckon_65
      rw [if_pos (show nI (yo_a w q) < nI (yo_a w q + 1) from nI_lt (by omega) (by omega))]
      exact yp_some hJ
    · unfold BX1_reckon_109
      obtain ⟨-, fr, bs, -, hb, -, b0, -, b2, be⟩ := hz
      refine yp_some (hb.trans (congrArg lN ?_))
      rcases be with e | ⟨t, x1, x2, -⟩ | e
      · exact e
      · omega
      · omega
  · have ha : yo_L w q ≤ yo_a w q := by
      rcases Nat.lt_or_ge (yo_a w q) (yo_L w q) with g | g
      · exact absurd (Int32.not_lt.mp (fun h => absurd ((yi_last (M := yo_L w q) (by omega) (by omega)).mp h) (by omega))) c
      · exact g
    have e0 : yo_G w q = 0 := yo_V0 (Nat.zero_le _) (fun j _ h2 => yo_Wa ha h2)
    rw [e0]
    refine yp_some ?_
    rw [e7]
    exact yo_Ls
end
