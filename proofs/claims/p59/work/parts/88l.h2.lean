/-! sums over all sets of the first n minutes, told forward and backward; weights; the greatest number that divides both -/
section
def yj_b (B k : Nat) : Bool := decide (B / 2 ^ k % 2 = 1)
theorem yj_n (B : Nat) (hB : B < 4294967296) : yb_n (nI B) = B := by
  show (BitVec.ofNat 32 B).toNat = B
  rw [BitVec.toNat_ofNat]
  exact Nat.mod_eq_of_lt hB
theorem yj_sp {B k : Nat} (hB : B < 4294967296) (hk : k < 32) : sp_bit (nI B) k = yj_b B k := by
  have h := yb_bitn (nI B) hk
  rw [yj_n B hB] at h
  unfold yj_b
  cases g : sp_bit (nI B) k with
  | false =>
    rw [g] at h
    rw [← h]
    rfl
  | true =>
    rw [g] at h
    rw [← h]
    rfl
def yj_up (b : Nat → Bool) (n : Nat) (e : Bool) (m : Nat) : Bool := if m = n then e else b m
def yj_T : Nat → ((Nat → Bool) → Nat) → Nat
  | 0, g => g (fun _ => false)
  | n + 1, g => yj_T n (fun b => g (yj_up b n false)) + yj_T n (fun b => g (yj_up b n true))
def yj_fb (n B m : Nat) : Bool := decide (m < n) && yj_b B m
def yj_gb (n B m : Nat) : Bool := decide (m < n) && yj_b B (n - 1 - m)
theorem yn_sumE {f g : Nat → Nat} : ∀ n, (∀ k, k < n → f k = g k) → yn_sum f n = yn_sum g n := by
  intro n
  induction n with
  | zero => intro _; rfl
  | succ n ih =>
    intro h
    show yn_sum f n + f n = yn_sum g n + g n
    rw [ih (fun k hk => h k (by omega)), h n (by omega)]
theorem yn_sumA (f : Nat → Nat) (a : Nat) : ∀ n, yn_sum f (a + n) = yn_sum f a + yn_sum (fun k => f (a + k)) n := by
  intro n
  induction n with
  | zero => rfl
  | succ n ih =>
    show yn_sum f (a + n) + f (a + n) = yn_sum f a + (yn_sum (fun k => f (a + k)) n + f (a + n))
    rw [ih, Nat.add_assoc]
theorem yn_sum2 (f : Nat → Nat) : ∀ n, yn_sum f (2 * n) = yn_sum (fun k => f (2 * k)) n + yn_sum (fun k => f (2 * k + 1)) n := by
  intro n
  induction n with
  | zero => rfl
  | succ n ih =>
    show yn_sum f (2 * n) + f (2 * n) + f (2 * n + 1) = (yn_sum (fun k => f (2 * k)) n + f (2 * n)) + (yn_sum (fun k => f (2 * k + 1)) n + f (2 * n + 1))
    rw [ih]
    omega
theorem yj_dA : ∀ n, n < 8 → ∀ B, B < 2 ^ n → yj_b (2 ^ n + B) n = true ∧ ∀ m, m < n → yj_b (2 ^ n + B) m = yj_b B m := by decide +kernel
theorem yj_dB : ∀ C, C < 128 → yj_b (2 * C) 0 = false ∧ yj_b (2 * C + 1) 0 = true ∧ ∀ k, k < 8 → yj_b (2 * C) (k + 1) = yj_b C k ∧ yj_b (2 * C + 1) (k + 1) = yj_b C k := by decide +kernel
theorem yj_0 {B n : Nat} (h : B < 2 ^ n) : yj_b B n = false := by
  unfold yj_b
  rw [Nat.div_eq_of_lt h]
  rfl
theorem yj_2n {n : Nat} (h : n < 8) : 2 ^ n ≤ 128 := Nat.le_trans (Nat.pow_le_pow_right (by decide) (show n ≤ 7 by omega)) (by decide)
theorem yj_f0 {n B : Nat} (hB : B < 2 ^ n) : yj_fb (n + 1) B = yj_up (yj_fb n B) n false := by
  funext m
  unfold yj_up yj_fb
  by_cases e : m = n
  · subst e
    rw [if_pos rfl, yj_0 hB, Bool.and_false]
  · rw [if_neg e]
    by_cases g : m < n
    · rw [decide_eq_true g, decide_eq_true (show m < n + 1 by omega)]
    · rw [decide_eq_false g, decide_eq_false (show ¬ m < n + 1 by omega)]
theorem yj_f1 {n B : Nat} (hn : n < 8) (hB : B < 2 ^ n) : yj_fb (n + 1) (2 ^ n + B) = yj_up (yj_fb n B) n true := by
  have h := yj_dA n hn B hB
  funext m
  unfold yj_up yj_fb
  by_cases e : m = n
  · subst e
    rw [if_pos rfl, h.1, decide_eq_true (show m < m + 1 by omega)]
    rfl
  · rw [if_neg e]
    by_cases g : m < n
    · rw [decide_eq_true g, decide_eq_true (show m < n + 1 by omega), h.2 m g]
    · rw [decide_eq_false g, decide_eq_false (show ¬ m < n + 1 by omega)]
      rfl
theorem yj_g0 {n B : Nat} (hn : n < 8) (hB : B < 2 ^ n) : yj_gb (n + 1) (2 * B) = yj_up (yj_gb n B) n false := by
  have h := yj_dB B (Nat.lt_of_lt_of_le hB (yj_2n hn))
  funext m
  unfold yj_up yj_gb
  by_cases e : m = n
  · subst e
    rw [if_pos rfl, show m + 1 - 1 - m = 0 by omega, h.1, Bool.and_false]
  · rw [if_neg e]
    by_cases g : m < n
    · rw [decide_eq_true g, decide_eq_true (show m < n + 1 by omega), show n + 1 - 1 - m = (n - 1 - m) + 1 by omega, (h.2.2 (n - 1 - m) (by omega)).1]
    · rw [decide_eq_false g, decide_eq_false (show ¬ m < n + 1 by omega)]
      rfl
theorem yj_g1 {n B : Nat} (hn : n < 8) (hB : B < 2 ^ n) : yj_gb (n + 1) (2 * B + 1) = yj_up (yj_gb n B) n true := by
  have h := yj_dB B (Nat.lt_of_lt_of_le hB (yj_2n hn))
  funext m
  unfold yj_up yj_gb
  by_cases e : m = n
  · subst e
    rw [if_pos rfl, show m + 1 - 1 - m = 0 by omega, h.2.1, decide_eq_true (show m < m + 1 by omega)]
    rfl
  · rw [if_neg e]
    by_cases g : m < n
    · rw [decide_eq_true g, decide_eq_true (show m < n + 1 by omega), show n + 1 - 1 - m = (n - 1 - m) + 1 by omega, (h.2.2 (n - 1 - m) (by omega)).2]
    · rw [decide_eq_false g, decide_eq_false (show ¬ m < n + 1 by omega)]
      rfl
theorem yj_A : ∀ n, n ≤ 8 → ∀ g : (Nat → Bool) → Nat, yn_sum (fun B => g (yj_fb n B)) (2 ^ n) = yj_T n g := by
  intro n
  induction n with
  | zero =>
    intro _ g
    show 0 + g (yj_fb 0 0) = g (fun _ => false)
    rw [Nat.zero_add]
    exact congrArg g (funext fun m => by unfold yj_fb; rw [decide_eq_false (show ¬ m < 0 by omega)]; rfl)
  | succ n ih =>
    intro hn g
    have i0 := ih (by omega) (fun b => g (yj_up b n false))
    have i1 := ih (by omega) (fun b => g (yj_up b n true))
    rw [show 2 ^ (n + 1) = 2 ^ n + 2 ^ n from by rw [Nat.pow_succ]; omega, yn_sumA]
    show _ = yj_T n (fun b => g (yj_up b n false)) + yj_T n (fun b => g (yj_up b n true))
    rw [← i0, ← i1]
    rw [yn_sumE (f := fun B => g (yj_fb (n + 1) B)) (g := fun B => g (yj_up (yj_fb n B) n false)) _ (fun B hB => congrArg g (yj_f0 hB)),
      yn_sumE (f := fun B => g (yj_fb (n + 1) (2 ^ n + B))) (g := fun B => g (yj_up (yj_fb n B) n true)) _ (fun B hB => congrArg g (yj_f1 (by omega) hB))]
theorem yj_B : ∀ n, n ≤ 8 → ∀ g : (Nat → Bool) → Nat, yn_sum (fun B => g (yj_gb n B)) (2 ^ n) = yj_T n g := by
  intro n
  induction n with
  | zero =>
    intro _ g
    show 0 + g (yj_gb 0 0) = g (fun _ => false)
    rw [Nat.zero_add]
    exact congrArg g (funext fun m => by unfold yj_gb; rw [decide_eq_false (show ¬ m < 0 by omega)]; rfl)
  | succ n ih =>
    intro hn g
    have i0 := ih (by omega) (fun b => g (yj_up b n false))
    have i1 := ih (by omega) (fun b => g (yj_up b n true))
    rw [show 2 ^ (n + 1) = 2 * 2 ^ n from by rw [Nat.pow_succ]; omega, yn_sum2]
    show _ = yj_T n (fun b => g (yj_up b n false)) + yj_T n (fun b => g (yj_up b n true))
    rw [← i0, ← i1]
    rw [yn_sumE (f := fun B => g (yj_gb (n + 1) (2 * B))) (g := fun B => g (yj_up (yj_gb n B) n false)) _ (fun B hB => congrArg g (yj_g0 (by omega) hB)),
      yn_sumE (f := fun B => g (yj_gb (n + 1) (2 * B + 1))) (g := fun B => g (yj_up (yj_gb n B) n true)) _ (fun B hB => congrArg g (yj_g1 (by omega) hB))]
theorem yj_Tmul (c : Nat) : ∀ n (g : (Nat → Bool) → Nat), yj_T n (fun b => g b * c) = yj_T n g * c := by
  intro n
  induction n with
  | zero => intro g; rfl
  | succ n ih =>
    intro g
    show yj_T n (fun b => g (yj_up b n false) * c) + yj_T n (fun b => g (yj_up b n true) * c) = (yj_T n (fun b => g (yj_up b n false)) + yj_T n (fun b => g (yj_up b n true))) * c
    rw [ih (fun b => g (yj_up b n false)), ih (fun b => g (yj_up b n true)), Nat.add_mul]
theorem yj_TE {g h : (Nat → Bool) → Nat} (n : Nat) (e : ∀ b, g b = h b) : yj_T n g = yj_T n h := by rw [show g = h from funext e]
theorem yj_Tle {V : Nat} : ∀ n (g h : (Nat → Bool) → Nat), (∀ b, g b ≤ h b * V) → yj_T n g ≤ yj_T n h * V := by
  intro n
  induction n with
  | zero => intro g h e; exact e _
  | succ n ih =>
    intro g h e
    show yj_T n _ + yj_T n _ ≤ (yj_T n _ + yj_T n _) * V
    rw [Nat.add_mul]
    exact Nat.add_le_add (ih _ _ (fun b => e _)) (ih _ _ (fun b => e _))
def yj_W (o : Nat) (b : Nat → Bool) : Nat → Nat
  | 0 => 1
  | n + 1 => yj_W o b n * if b n = true then o else 10 - o
theorem yj_We {o : Nat} {b c : Nat → Bool} : ∀ n, (∀ k, k < n → b k = c k) → yj_W o b n = yj_W o c n := by
  intro n
  induction n with
  | zero => intro _; rfl
  | succ n ih =>
    intro h
    show yj_W o b n * _ = yj_W o c n * _
    rw [ih (fun k hk => h k (by omega)), h n (by omega)]
theorem yj_Wup {o : Nat} {b : Nat → Bool} {n : Nat} {e : Bool} : yj_W o (yj_up b n e) (n + 1) = yj_W o b n * if e = true then o else 10 - o := by
  show yj_W o (yj_up b n e) n * (if yj_up b n e n = true then o else 10 - o) = _
  rw [show yj_up b n e n = e from if_pos rfl, yj_We n (fun k hk => show yj_up b n e k = b k from if_neg (by omega))]
theorem yj_10 {o : Nat} (ho : o ≤ 10) : ∀ n, yj_T n (fun b => yj_W o b n) = 10 ^ n := by
  intro n
  induction n with
  | zero => rfl
  | succ n ih =>
    show yj_T n (fun b => yj_W o (yj_up b n false) (n + 1)) + yj_T n (fun b => yj_W o (yj_up b n true) (n + 1)) = _
    rw [yj_TE n (fun b => yj_Wup (o := o) (b := b) (n := n) (e := false)), yj_TE n (fun b => yj_Wup (o := o) (b := b) (n := n) (e := true)), yj_Tmul, yj_Tmul, ih, if_neg (by decide), if_pos rfl, ← Nat.mul_add, Nat.sub_add_cancel ho, Nat.pow_succ]
def yj_wk (o k : Nat) : Nat → Nat
  | 0 => 1
  | n + 1 => yj_wk o k n * if n < k then o else 10 - o
def yj_c (b : Nat → Bool) : Nat → Nat
  | 0 => 0
  | n + 1 => yj_c b n + if b n = true then 1 else 0
theorem yj_cle (b : Nat → Bool) : ∀ n, yj_c b n ≤ n := by
  intro n
  induction n with
  | zero => exact Nat.le_refl _
  | succ n ih =>
    show yj_c b n + (if b n = true then 1 else 0) ≤ n + 1
    by_cases g : b n = true
    · rw [if_pos g]; omega
    · rw [if_neg g]; omega
theorem yj_wkp (o k : Nat) : ∀ n, yj_wk o k n = o ^ (min k n) * (10 - o) ^ (n - k) := by
  intro n
  induction n with
  | zero =>
    rw [Nat.min_zero, Nat.zero_sub]
    rfl
  | succ n ih =>
    show yj_wk o k n * (if n < k then o else 10 - o) = _
    rw [ih]
    by_cases g : n < k
    · rw [if_pos g, Nat.min_eq_right (by omega), Nat.min_eq_right (by omega), show n - k = 0 by omega, show n + 1 - k = 0 by omega, Nat.pow_succ, Nat.pow_zero, Nat.mul_one, Nat.mul_one]
    · rw [if_neg g, Nat.min_eq_left (by omega), Nat.min_eq_left (by omega), show n + 1 - k = (n - k) + 1 by omega, Nat.pow_succ, Nat.mul_assoc]
theorem yj_Wp (o : Nat) (b : Nat → Bool) : ∀ n, yj_W o b n = o ^ (yj_c b n) * (10 - o) ^ (n - yj_c b n) := by
  intro n
  induction n with
  | zero => rfl
  | succ n ih =>
    have hc := yj_cle b n
    show yj_W o b n * (if b n = true then o else 10 - o) = o ^ (yj_c b n + if b n = true then 1 else 0) * (10 - o) ^ (n + 1 - (yj_c b n + if b n = true then 1 else 0))
    rw [ih]
    by_cases g : b n = true
    · rw [if_pos g, if_pos g, show n + 1 - (yj_c b n + 1) = n - yj_c b n by omega, Nat.pow_succ, Nat.mul_assoc, Nat.mul_assoc, Nat.mul_comm o]
    · rw [if_neg g, if_neg g, Nat.add_zero, show n + 1 - yj_c b n = (n - yj_c b n) + 1 by omega, Nat.pow_succ, Nat.mul_assoc]
theorem yj_dc : ∀ n, n < 9 → ∀ B, B < 2 ^ n → yj_c (yj_gb n B) n = yj_c (yj_b B) 32 := by decide +kernel
theorem yj_pop {B : Nat} (hB : B < 4294967296) : ∀ n, n ≤ 32 → yb_pop (nI B) n = yj_c (yj_b B) n := by
  intro n
  induction n with
  | zero => intro _; rfl
  | succ n ih =>
    intro h
    show yb_pop (nI B) n + _ = yj_c (yj_b B) n + _
    rw [ih (by omega), yj_sp hB (by omega)]
theorem yj_wkW {o n B : Nat} (hn : n ≤ 8) (hB : B < 2 ^ n) : yj_wk o (yb_pop (nI B) 32) n = yj_W o (yj_gb n B) n := by
  have h2 : 2 ^ n ≤ 256 := Nat.le_trans (Nat.pow_le_pow_right (by decide) hn) (by decide)
  have e : yb_pop (nI B) 32 = yj_c (yj_gb n B) n := by rw [yj_pop (by omega) 32 (by omega), yj_dc n (by omega) B hB]
  have hc := yj_cle (yj_gb n B) n
  rw [e, yj_wkp, yj_Wp, Nat.min_eq_left hc]
/-! the greatest number that divides both -/
theorem yj_step {a b P k : Nat} (h0 : 0 < a) (hm : k = 0 ∧ a * b = P ∨ a ≤ b ∧ 0 < k ∧ a * b * 2 ^ (k - 1) ≤ P) : b % a * a * 2 ^ k ≤ P := by
  have hl : b % a < a := Nat.mod_lt _ h0
  rcases hm with ⟨e, hP⟩ | ⟨hab, hk, hP⟩
  · subst e
    rw [Nat.pow_zero, Nat.mul_one, ← hP, Nat.mul_comm]
    exact Nat.mul_le_mul_left _ (Nat.mod_le _ _)
  · have h2 : 2 * (b % a) ≤ b := by
      have e := Nat.div_add_mod b a
      have q : 1 ≤ b / a := Nat.div_pos hab h0
      have : a * 1 ≤ a * (b / a) := Nat.mul_le_mul_left _ q
      omega
    have e : b % a * a * 2 ^ k = 2 * (b % a) * a * 2 ^ (k - 1) := by
      obtain ⟨j, rfl⟩ : ∃ j, k = j + 1 := ⟨k - 1, by omega⟩
      rw [Nat.pow_succ, Nat.add_sub_cancel, Nat.mul_comm (2 ^ j) 2, ← Nat.mul_assoc, Nat.mul_comm (b % a * a) 2, ← Nat.mul_assoc 2]
    rw [e]
    refine Nat.le_trans (Nat.mul_le_mul_right _ (Nat.mul_le_mul_right _ h2)) ?_
    rw [Nat.mul_comm b a]
    exact hP
theorem yj_fin {a b P : Nat} (hP : P < 2 ^ 63) (hab : a ≤ b) (h : a * b * 2 ^ 99 ≤ P) : a = 0 := by
  rcases Nat.eq_zero_or_pos a with e | e
  · exact e
  · exfalso
    have h1 : 1 ≤ a * b := Nat.mul_pos e (by omega)
    have h2 : 1 * 2 ^ 99 ≤ a * b * 2 ^ 99 := Nat.mul_le_mul_right _ h1
    have h3 : (2 : Nat) ^ 63 ≤ 1 * 2 ^ 99 := by decide
    omega
theorem yj_lc0 {a : Nat} (ha : a < 2 ^ 63) : lg_cmp (lN a) (0 : Int64) = 0 ↔ a = 0 := by
  constructor
  · intro h
    exact (pk_lEQ ha (show 0 < 2 ^ 63 by decide)).mp (Int64.toInt_inj.mp (zs_lg_eq h))
  · intro h
    rw [h]
    exact lw_cmp0 (lN 0)
theorem yj_low {A B : Nat} (σ : sn_S) (hA : A < 2 ^ 35) (hB : B < 2 ^ 27) : yp (sn_it (LX4_lower_13 σ) 5000 (lN A, lN B, (0 : Int32))) (fun r => r = lN (Nat.gcd A B)) := by
  have hP : A * B < 2 ^ 63 := Nat.lt_of_le_of_lt (Nat.mul_le_mul (Nat.le_of_lt hA) (Nat.le_of_lt hB)) (by decide)
  refine yp_it (fun s : Int64 × Int64 × Int32 => ∃ k a b, s.1 = lN a ∧ s.2.1 = lN b ∧ s.2.2 = nI k ∧ k ≤ 100 ∧ a < 2 ^ 35 ∧ b < 2 ^ 35 ∧ Nat.gcd a b = Nat.gcd A B ∧ (k = 0 ∧ a * b = A * B ∨ a ≤ b ∧ 0 < k ∧ a * b * 2 ^ (k - 1) ≤ A * B)) (fun s hs => ?_) _ _ (by exact ⟨0, A, B, rfl, rfl, nI_0.symm, by omega, hA, Nat.lt_trans hB (by decide), rfl, Or.inl ⟨rfl, rfl⟩⟩)
  obtain ⟨x1, x3, x5⟩ := s
  obtain ⟨k, a, b, e1, e2, e3, hk, ha, hb, hg, hm⟩ := hs
  have e1 : x1 = lN a := e1
  have e2 : x3 = lN b := e2
  have e3 : x5 = nI k := e3
  subst e1
  subst e2
  subst e3
  show yp (BX4_lower_13 σ (lN a) (lN b) (nI k)) _
  unfold BX4_lower_13
  have ha63 : a < 2 ^ 63 := Nat.lt_trans ha (by decide)
  have hb63 : b < 2 ^ 63 := Nat.lt_trans hb (by decide)
  have fin : a = 0 → lN b = lN (Nat.gcd A B) := fun h => by rw [← hg, h, Nat.gcd_zero_left]
  refine yp_ite (fun c => ?_) (fun c => yp_ite (fun c2 => ?_) (fun c2 => ?_))
  · have c : 100 ≤ k := (nI_leI (show 100 < 2 ^ 31 by decide) (by omega)).mp c
    have ek : k = 100 := by omega
    subst ek
    refine yp_some (fin ?_)
    rcases hm with ⟨g, -⟩ | ⟨h1, -, h2⟩
    · exact absurd g (by decide)
    · exact yj_fin hP h1 h2
  · exact yp_some (fin ((yj_lc0 ha63).mp c2))
  · have h0 : 0 < a := Nat.pos_of_ne_zero (fun h => c2 ((yj_lc0 ha63).mpr h))
    have c : ¬ 100 ≤ k := fun h => c ((nI_leI (show 100 < 2 ^ 31 by decide) (by omega)).mpr h)
    have hl : b % a < a := Nat.mod_lt _ h0
    refine yp_gd (fun _ => yp_lt (yp_lt (yp_some ⟨k + 1, b % a, a, pk_lRem hb63 h0 ha63, rfl, nI_1 k, by omega, Nat.lt_trans hl ha, ha, ?_, Or.inr ⟨Nat.le_of_lt hl, by omega, ?_⟩⟩)))
    · rw [← Nat.gcd_rec]
      exact hg
    · rw [Nat.add_sub_cancel]
      exact yj_step h0 hm
theorem yj_div {A B : Nat} (hA : A < 2 ^ 63) (hB : B < 2 ^ 63) : yp (fX9_divisor (lN A) (lN B)) (fun r => r = lN (Nat.gcd A B)) := by
  unfold fX9_divisor
  refine yp_bd (fun r => r = lN (Nat.gcd A B)) (yp_it (fun s : Int64 × Int64 => ∃ a b, s.1 = lN a ∧ s.2 = lN b ∧ a < 2 ^ 63 ∧ b < 2 ^ 63 ∧ Nat.gcd a b = Nat.gcd A B) (fun s hs => ?_) _ _ (by exact ⟨A, B, rfl, rfl, hA, hB, rfl⟩)) (fun r hr => ?_)
  · obtain ⟨x4, x6⟩ := s
    obtain ⟨a, b, e1, e2, ha, hb, hg⟩ := hs
    have e1 : x4 = lN a := e1
    have e2 : x6 = lN b := e2
    subst e1
    subst e2
    show yp (BX9_divisor_6 (lN a) (lN b)) _
    unfold BX9_divisor_6
    refine yp_ite (fun c => ?_) (fun c => ?_)
    · have e : b = 0 := (yj_lc0 hb).mp c
      refine yp_some ?_
      show lN a = _
      rw [← hg, e, Nat.gcd_zero_right]
    · have h0 : 0 < b := Nat.pos_of_ne_zero (fun h => c ((yj_lc0 hb).mpr h))
      have hl : a % b < b := Nat.mod_lt _ h0
      refine yp_gd (fun _ => yp_lt (yp_some ⟨b, a % b, rfl, pk_lRem ha h0 hb, hb, by omega, ?_⟩))
      rw [Nat.gcd_comm, ← Nat.gcd_rec, Nat.gcd_comm]
      exact hg
  · unfold BX9_divisor_31
    exact yp_some hr
theorem yj_part {A B what : Nat} (hA : A < 2 ^ 63) (hB : B < 2 ^ 63) (h0 : 0 < B) (hw : what < 2) : yp (fX9_part (lN A) (lN B) (nI what)) (fun r => r = if what = 0 then lN (A / Nat.gcd A B) else lN (B / Nat.gcd A B)) := by
  have hG : 0 < Nat.gcd A B := Nat.gcd_pos_of_pos_right _ h0
  have hG63 : Nat.gcd A B < 2 ^ 63 := Nat.lt_of_le_of_lt (Nat.gcd_le_right _ h0) hB
  unfold fX9_part BX9_part_10
  by_cases c : what = 0
  · subst c
    rw [if_pos (show nI 0 = 0 from nI_0), if_pos rfl]
    refine yp_bd _ (yj_div hA hB) (fun t ht => yp_gd (fun _ => yp_some ?_))
    rw [ht]
    exact pk_lDiv hA hG hG63
  · rw [if_neg (fun h => c ((yi_0 (by omega)).mp h)), if_neg c]
    refine yp_bd _ (yj_div hA hB) (fun t ht => yp_gd (fun _ => yp_some ?_))
    rw [ht]
    exact pk_lDiv hB hG hG63
theorem yj_lower {σ : sn_S} {A B : Nat} (hA : A < 2 ^ 35) (hB : B < 2 ^ 27) (h0 : 0 < B) (e1 : sn_L σ 57 0 = lN A) (e2 : sn_L σ 57 1 = lN B) : yp (fX4_lower σ) (fun z => sn_L z 57 0 = lN (A / Nat.gcd A B) ∧ sn_L z 57 1 = lN (B / Nat.gcd A B)) := by
  have hA63 : A < 2 ^ 63 := Nat.lt_trans hA (by decide)
  have hB63 : B < 2 ^ 63 := Nat.lt_trans hB (by decide)
  have hG : 0 < Nat.gcd A B := Nat.gcd_pos_of_pos_right _ h0
  have hG63 : Nat.gcd A B < 2 ^ 63 := Nat.lt_of_le_of_lt (Nat.gcd_le_right _ h0) hB63
  unfold fX4_lower
  rw [e1, e2]
  refine yp_lt (yp_lt (yp_bd _ (yj_low σ hA hB) (fun t ht => ?_)))
  rw [ht]
  unfold BX4_lower_42
  refine yp_ite (fun c => yp_some ?_) (fun c => ?_)
  · have c := zs_lg_le c
    rw [pk_lT hG63, show (1 : Int64).toInt = 1 by decide] at c
    have g : Nat.gcd A B = 1 := by omega
    rw [g, Nat.div_one, Nat.div_one]
    exact ⟨e1, e2⟩
  · refine yp_gd (fun _ => yp_lt (yp_gd (fun _ => yp_lt (yp_some ⟨?_, ?_⟩))))
    · rw [sn_L_pL, if_neg (by decide), sn_L_pL, if_pos ⟨rfl, rfl⟩, e1]
      exact pk_lDiv hA63 hG hG63
    · rw [sn_L_pL, if_pos ⟨rfl, rfl⟩, sn_L_pL, if_neg (by decide), e2]
      exact pk_lDiv hB63 hG hG63
end
