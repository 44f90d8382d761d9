/-! which gust it was: sums over the gusts that could have been -/
theorem ye_32 {x : Int64} {n : Nat} (hx : x.toInt = (n : Int)) (hn : n < 2 ^ 31) : x.toInt32 = nI n := by
  apply Int32.toInt_inj.mp
  rw [Int64.toInt_toInt32, hx, nI_toInt hn]
  exact Int.bmod_eq_of_le (by omega) (by omega)
def ye_nd (a b : Nat → Nat) (p k : Nat) : Nat → Bool
  | 0 => false
  | n + 1 => ye_nd a b p k n || (decide (p = a n) && decide (k = b n))
theorem ye_ndE {a b : Nat → Nat} {p k : Nat} : ∀ n, ye_nd a b p k n = true ↔ ∃ i, i < n ∧ a i = p ∧ b i = k := by
  intro n
  induction n with
  | zero => exact ⟨fun h => absurd (show false = true from h) (by decide), fun ⟨i, hi, _⟩ => absurd hi (by omega)⟩
  | succ n ih =>
    show (ye_nd a b p k n || (decide (p = a n) && decide (k = b n))) = true ↔ _
    rw [Bool.or_eq_true, Bool.and_eq_true, decide_eq_true_eq, decide_eq_true_eq, ih]
    constructor
    · rintro (⟨i, hi, e1, e2⟩ | ⟨e1, e2⟩)
      · exact ⟨i, by omega, e1, e2⟩
      · exact ⟨n, by omega, e1.symm, e2.symm⟩
    · rintro ⟨i, hi, e1, e2⟩
      by_cases c : i = n
      · subst c
        exact Or.inr ⟨e1.symm, e2.symm⟩
      · exact Or.inl ⟨i, by omega, e1, e2⟩
def ye_all (f : Nat → Bool) : Nat → Bool
  | 0 => true
  | n + 1 => ye_all f n && f n
theorem ye_allE {f : Nat → Bool} : ∀ n, ye_all f n = true ↔ ∀ i, i < n → f i = true := by
  intro n
  induction n with
  | zero => exact ⟨fun _ i hi => absurd hi (by omega), fun _ => rfl⟩
  | succ n ih =>
    show (ye_all f n && f n) = true ↔ _
    rw [Bool.and_eq_true, ih]
    constructor
    · intro h i hi
      by_cases c : i = n
      · subst c; exact h.2
      · exact h.1 i (by omega)
    · exact fun h => ⟨fun i hi => h i (by omega), h n (by omega)⟩
def ye_fold {α : Type} (ok : Nat → Bool) (f : α → Nat → α) (x : α) : Nat → α
  | 0 => x
  | t + 1 => if ok t = true then f (ye_fold ok f x t) t else ye_fold ok f x t
def ye_cnt (ok : Nat → Bool) : Nat → Nat
  | 0 => 0
  | t + 1 => if ok t = true then ye_cnt ok t + 1 else ye_cnt ok t
section
variable {α : Type} {ok : Nat → Bool} {f : α → Nat → α} {x : α} {t : Nat}
theorem ye_ft (h : ok t = true) : ye_fold ok f x (t + 1) = f (ye_fold ok f x t) t := by
  show (if ok t = true then f (ye_fold ok f x t) t else ye_fold ok f x t) = _
  rw [if_pos h]
theorem ye_ff (h : ok t = false) : ye_fold ok f x (t + 1) = ye_fold ok f x t := by
  show (if ok t = true then f (ye_fold ok f x t) t else ye_fold ok f x t) = _
  rw [if_neg (by rw [h]; decide)]
theorem ye_ct (h : ok t = true) : ye_cnt ok (t + 1) = ye_cnt ok t + 1 := by
  show (if ok t = true then ye_cnt ok t + 1 else ye_cnt ok t) = _
  rw [if_pos h]
theorem ye_cf (h : ok t = false) : ye_cnt ok (t + 1) = ye_cnt ok t := by
  show (if ok t = true then ye_cnt ok t + 1 else ye_cnt ok t) = _
  rw [if_neg (by rw [h]; decide)]
theorem ye_mono : ∀ T t, t ≤ T → ye_cnt ok t ≤ ye_cnt ok T := by
  intro T
  induction T with
  | zero =>
    intro t h
    rw [show t = 0 by omega]
    exact Nat.le_refl _
  | succ T ih =>
    intro t h
    by_cases c : t = T + 1
    · rw [c]
      exact Nat.le_refl _
    · have g := ih t (by omega)
      cases e : ok T with
      | true => rw [ye_ct e]; omega
      | false => rw [ye_cf e]; omega
theorem ye_same : ∀ T t, t ≤ T → ye_cnt ok t = ye_cnt ok T → ye_fold ok f x t = ye_fold ok f x T := by
  intro T
  induction T with
  | zero =>
    intro t h _
    rw [show t = 0 by omega]
  | succ T ih =>
    intro t h c
    by_cases e : t = T + 1
    · rw [e]
    · have m := ye_mono (ok := ok) T t (by omega)
      cases o : ok T with
      | true => rw [ye_ct o] at c; omega
      | false =>
        rw [ye_cf o] at c
        rw [ye_ff o]
        exact ih t (by omega) c
theorem ye_next : ∀ d t T, t + d = T → ye_cnt ok t < ye_cnt ok T → ∃ t', t ≤ t' ∧ t' < T ∧ ok t' = true ∧ ye_cnt ok t' = ye_cnt ok t ∧ ye_fold ok f x t' = ye_fold ok f x t := by
  intro d
  induction d with
  | zero =>
    intro t T h c
    rw [show t = T by omega] at c
    omega
  | succ d ih =>
    intro t T h c
    cases o : ok t with
    | true => exact ⟨t, Nat.le_refl _, by omega, o, rfl, rfl⟩
    | false =>
      have k1 : ye_cnt ok (t + 1) = ye_cnt ok t := ye_cf o
      obtain ⟨t', h1, h2, h3, h4, h5⟩ := ih (t + 1) T (by omega) (by omega)
      exact ⟨t', by omega, h2, h3, h4.trans k1, h5.trans (ye_ff o)⟩
theorem ye_none : ∀ T t0, t0 ≤ T → (∀ t, t0 ≤ t → t < T → ok t = false) → ye_cnt ok t0 = ye_cnt ok T := by
  intro T
  induction T with
  | zero =>
    intro t0 h _
    rw [show t0 = 0 by omega]
  | succ T ih =>
    intro t0 h g
    by_cases e : t0 = T + 1
    · rw [e]
    · rw [ye_cf (g T (by omega) (by omega))]
      exact ih t0 (by omega) (fun t h1 h2 => g t h1 (by omega))
end
section
variable {σ τ u z : sn_S} {w : Nat → Int32} {ok : Nat → Bool} {a b : Nat → Nat} {N m n p t : Nat}
def ye_j (w : Nat → Int32) (m : Nat) (y : Int32) : dy_I := dy_dustSet (hs_day w) (fun k => if k = m then y else hs_dust w k (sp_n w 6))
def ye_d (w : Nat → Int32) (t : Nat) : dy_I := ye_j w (t / 9) (hs_dust w (t / 9) (sp_n w 6) + nI (t % 9 + 1))
def ye_s (w : Nat → Int32) (t p : Nat) : Int32 := dy_sn (ye_d w t) (sp_n w 0) p
def ye_ok (w : Nat → Int32) (a b : Nat → Nat) (N t : Nat) : Bool := ye_all (fun i => sp_bit (ye_s w t (a i)) (b i)) N
def ye_p (w : Nat → Int32) (t p : Nat) : Nat := yb_pop (ye_s w t p) 30
def ye_c (w : Nat → Int32) (ok : Nat → Bool) (p o : Nat) : Nat → Nat := ye_fold ok (fun n t => if ye_p w t p = o then n + 1 else n) 0
def ye_w (ok : Nat → Bool) : Nat → Int32 := ye_fold ok (fun x t => x ||| ((1 : Int32) <<< (nI (t / 9) &&& 31))) 0
def ye_f (ok : Nat → Bool) : Nat → Int32 := ye_fold ok (fun x t => if x = -1 then nI (10 * (t / 9) + (t % 9 + 1)) else x) (-1)
theorem yi_m {k : Nat} (h : k < 2 ^ 31) : nI k ≠ -1 := fun e => by
  have g : (nI k).toInt = (-1 : Int32).toInt := congrArg Int32.toInt e
  rw [nI_toInt h, show (-1 : Int32).toInt = -1 by decide] at g
  omega
theorem ye_f1 : ∀ t, t < 1000 → ((ye_cnt ok t = 0 → ye_f ok t = -1) ∧ (ye_cnt ok t ≠ 0 → ye_f ok t ≠ -1)) := by
  intro t
  induction t with
  | zero => exact fun _ => ⟨fun _ => rfl, fun h => absurd rfl h⟩
  | succ t ih =>
    intro h
    have ih := ih (by omega)
    cases o : ok t with
    | true =>
      rw [ye_ct o]
      refine ⟨fun h => absurd h (by omega), fun _ => ?_⟩
      have e : ye_f ok (t + 1) = if ye_f ok t = -1 then nI (10 * (t / 9) + (t % 9 + 1)) else ye_f ok t := ye_ft o
      rw [e]
      by_cases c : ye_f ok t = -1
      · rw [if_pos c]
        exact yi_m (by omega)
      · rw [if_neg c]
        exact c
    | false =>
      have e : ye_f ok (t + 1) = ye_f ok t := ye_ff o
      rw [ye_cf o, e]
      exact ih
theorem ye_cle : ∀ t, ye_cnt ok t ≤ t := by
  intro t
  induction t with
  | zero => exact Nat.le_refl _
  | succ t ih =>
    cases o : ok t with
    | true => rw [ye_ct o]; omega
    | false => rw [ye_cf o]; omega
theorem ye_ccle {o : Nat} : ∀ t, ye_c w ok p o t ≤ t := by
  intro t
  induction t with
  | zero => exact Nat.le_refl _
  | succ t ih =>
    cases e : ok t with
    | true =>
      have k : ye_c w ok p o (t + 1) = if ye_p w t p = o then ye_c w ok p o t + 1 else ye_c w ok p o t := ye_ft e
      rw [k]
      split
      · omega
      · omega
    | false =>
      have k : ye_c w ok p o (t + 1) = ye_c w ok p o t := ye_ff e
      rw [k]
      omega
theorem ye_EP {y : Int32} : dy_EP m (hs_day w) (ye_j w m y) := by
  refine ⟨rfl, rfl, rfl, fun _ _ => ⟨rfl, rfl⟩, fun k hk => ⟨?_, fun _ _ => ⟨rfl, rfl⟩⟩, fun _ _ => ⟨rfl, rfl⟩⟩
  show hs_dust w k (sp_n w 6) = (if k = m then y else hs_dust w k (sp_n w 6))
  rw [if_neg (by omega)]
theorem ye_low {k : Nat} {y : Int32} (c0 : sp_n w 0 ≤ 30) (hk : k < m) (hm : m ≤ sp_n w 0) (hp : p < sp_n w 5) : sp_bit (dy_sn (ye_j w m y) (sp_n w 0) p) k = sp_bit (dy_sn (hs_day w) (sp_n w 0) p) k := by
  have l : ∀ i : dy_I, sp_bit (dy_sn i (sp_n w 0) p) k = sp_bit (dy_sn i m p) k := fun i => by
    have e : sp_bit (dy_sn i (sp_n w 0) p &&& (((1 : Int32) <<< (nI m &&& 31)) - 1)) k = sp_bit (dy_sn i m p) k := by rw [dy_snlow hm c0]
    rw [yb_and _ _ (by omega), yb_low m (by omega) k (by omega), decide_eq_true hk, Bool.and_true] at e
    exact e
  rw [l, l, dy_snP (ye_EP (w := w) (m := m) (y := y)) (Nat.le_refl _) hp]
def ye_C (w : Nat → Int32) (nd S : Nat → Nat → Bool) (n : Nat) : Prop := ∀ p, p < sp_n w 5 → ∀ k, k < n → nd p k = true → S p k = true
theorem ye_Cok (ha : ∀ i, i < N → a i < sp_n w 5 ∧ b i < sp_n w 0) : ye_C w (fun p k => ye_nd a b p k N) (fun p k => sp_bit (ye_s w t p) k) (sp_n w 0) ↔ ye_ok w a b N t = true := by
  unfold ye_ok
  rw [ye_allE]
  constructor
  · intro h i hi
    exact h (a i) (ha i hi).1 (b i) (ha i hi).2 ((ye_ndE N).mpr ⟨i, hi, rfl, rfl⟩)
  · intro h p _ k _ hn
    obtain ⟨i, hi, e1, e2⟩ := (ye_ndE N).mp hn
    subst e1
    subst e2
    exact h i hi
/-- no gust from minute m on could have been, if a sneeze told of ahead of m is none -/
theorem ye_late (c0 : sp_n w 0 ≤ 30) (hm : m ≤ sp_n w 0) (ha : ∀ i, i < N → a i < sp_n w 5 ∧ b i < sp_n w 0) (h : ¬ ye_C w (fun p k => ye_nd a b p k N) (fun p k => sp_bit (dy_sn (hs_day w) (sp_n w 0) p) k) m) : ∀ t, 9 * m ≤ t → t < 9 * sp_n w 0 → ye_ok w a b N t = false := fun t h1 h2 => by
  cases c : ye_ok w a b N t with
  | false => rfl
  | true =>
    refine absurd (fun p hp k hk hn => ?_) h
    have g : sp_bit (ye_s w t p) k = true := (ye_Cok ha).mpr c p hp k (by omega) hn
    show sp_bit (dy_sn (hs_day w) (sp_n w 0) p) k = true
    rw [← g]
    exact (ye_low c0 (show k < t / 9 by omega) (by omega) hp).symm
/-! the class: what is noted -/
def ye_N (w : Nat → Int32) (ok : Nat → Bool) (t : Nat) (z : sn_S) : Prop := z.1 54 1 = nI (ye_cnt ok t) ∧ z.1 54 2 = ye_w ok t ∧ z.1 54 3 = ye_f ok t ∧ ∀ p, p < sp_n w 5 → ∀ o, o < 31 → z.1 56 (31 * p + o) = nI (ye_c w ok p o t)
theorem ye_Nc (e4 : u.1 54 = z.1 54) (e6 : u.1 56 = z.1 56) (h : ye_N w ok t z) : ye_N w ok t u := by
  unfold ye_N
  rw [e4, e6]
  exact h
theorem ye_Nt {T : Nat} (hT : t ≤ T) (h : ∀ k, t ≤ k → k < T → ok k = false) (hN : ye_N w ok t z) : ye_N w ok T z := by
  have c := ye_none T t hT h
  obtain ⟨n1, n2, n3, n4⟩ := hN
  have w2 : ye_w ok t = ye_w ok T := ye_same T t hT c
  have w3 : ye_f ok t = ye_f ok T := ye_same T t hT c
  refine ⟨by rw [← c]; exact n1, by rw [← w2]; exact n2, by rw [← w3]; exact n3, fun p hp o ho => ?_⟩
  have w4 : ye_c w ok p o t = ye_c w ok p o T := ye_same T t hT c
  rw [← w4]
  exact n4 p hp o ho
theorem yc_meets {nd S : Nat → Nat → Bool} (hn : n ≤ 30) (hP : sp_n w 5 ≤ 6) (h1 : z.1 38 1 = nI (sp_n w 5)) (h55 : ∀ p, p < 6 → ∀ k, k < 32 → sp_bit (z.1 55 p) k = nd p k) (h48 : ∀ p, p < sp_n w 5 → ∀ k, k < n → sp_bit (z.1 48 p) k = S p k) : yp (fX7_meets z 38 (((1 : Int32) <<< (nI n &&& 31)) - 1)) (fun r => (r = 1 ∧ ye_C w nd S n) ∨ (r = 0 ∧ ¬ ye_C w nd S n)) := by
  unfold fX7_meets
  refine yp_bd (fun t : Unit ⊕ Int32 => (t = Sum.inl () ∧ ye_C w nd S n) ∨ (t = Sum.inr 0 ∧ ¬ ye_C w nd S n)) (yp_it (fun s : Int32 => ∃ q, q ≤ sp_n w 5 ∧ s = nI q ∧ ∀ p, p < q → ∀ k, k < n → nd p k = true → S p k = true) (fun s hs => ?_) _ _ (by exact ⟨0, Nat.zero_le _, nI_0.symm, fun p hp => absurd hp (by omega)⟩)) (fun t ht => ?_)
  · obtain ⟨q, hq, es, h⟩ := hs
    subst es
    show yp (BX7_meets_2 z 38 _ (nI q)) _
    unfold BX7_meets_2
    rw [show sn_I z 38 1 = nI (sp_n w 5) from h1]
    by_cases c : q < sp_n w 5
    · have e5 : ∀ k, k < 32 → sp_bit (sn_I z 55 q) k = nd q k := h55 q (by omega)
      have e8 : ∀ k, k < n → sp_bit (sn_I z (38 + 10) q) k = S q k := h48 q c
      rw [if_neg (nI_ge c (by omega)), nI_clamp (show q < 2 ^ 31 by omega)]
      refine yp_gd (fun _ => yp_gd (fun _ => ?_))
      have e : (sn_I z 55 q &&& (((1 : Int32) <<< (nI n &&& 31)) - 1)) &&& (sn_I z (38 + 10) q ^^^ (-1 : Int32)) = 0 ↔ ∀ k, k < n → nd q k = true → S q k = true := by
        constructor
        · intro e k hk hnd
          have b0 : sp_bit ((sn_I z 55 q &&& (((1 : Int32) <<< (nI n &&& 31)) - 1)) &&& (sn_I z (38 + 10) q ^^^ (-1 : Int32))) k = sp_bit 0 k := by rw [e]
          rw [yb_and _ _ (by omega), yb_and _ _ (by omega), yb_xor1 _ (by omega), yb_low n (by omega) k (by omega), yb_z k (by omega), decide_eq_true hk, Bool.and_true, e5 k (by omega), hnd, Bool.true_and, e8 k hk] at b0
          cases d : S q k with
          | true => rfl
          | false =>
            rw [d] at b0
            exact absurd b0 (by decide)
        · intro g
          refine yb_ext (fun k hk => ?_)
          rw [yb_and _ _ hk, yb_and _ _ hk, yb_xor1 _ hk, yb_low n (by omega) k hk, yb_z k hk, e5 k hk]
          by_cases d : k < n
          · rw [e8 k d]
            cases e1 : nd q k with
            | false => rw [Bool.false_and, Bool.false_and]
            | true => rw [g k d e1, Bool.not_true, Bool.and_false]
          · rw [decide_eq_false d, Bool.and_false, Bool.false_and]
      refine yp_ite (fun c2 => yp_lt (yp_some ?_)) (fun c2 => yp_gd (fun _ => yp_some ?_))
      · refine ⟨q + 1, c, nI_1 q, fun p hp => ?_⟩
        by_cases d : p = q
        · subst d
          exact e.mp c2
        · exact h p (by omega)
      · exact Or.inr ⟨rfl, fun g => c2 (e.mpr (g q c))⟩
    · rw [if_pos (nI_le (show sp_n w 5 ≤ q by omega) (by omega))]
      exact yp_some (Or.inl ⟨rfl, fun p hp => h p (by omega)⟩)
  · rcases ht with ⟨e, h⟩ | ⟨e, h⟩
    · subst e
      show yp (BX7_meets_38 z 38) _
      unfold BX7_meets_38
      exact yp_gd (fun _ => yp_some (Or.inl ⟨rfl, h⟩))
    · subst e
      exact yp_some (Or.inr ⟨rfl, h⟩)
theorem yc_note (c0 : sp_n w 0 ≤ 30) (c5 : sp_n w 5 ≤ 6) (hm : m < 30) (e9 : t / 9 = m) {g : Nat} (eg : t % 9 + 1 = g) (hok : ok t = true) (h1 : z.1 38 1 = nI (sp_n w 5)) (h48 : ∀ p, p < sp_n w 5 → z.1 48 p = ye_s w t p) (hN : ye_N w ok t z) : yp (fX7_note z 38 (nI m) (nI g)) (fun v => (∀ a, a ≠ 54 → a ≠ 56 → v.1 a = z.1 a) ∧ ye_N w ok (t + 1) v) := by
  obtain ⟨n1, n2, n3, n4⟩ := hN
  have cl := ye_cle (ok := ok) t
  have ht : t < 1000 := by omega
  have k2 : ye_w ok (t + 1) = ye_w ok t ||| ((1 : Int32) <<< (nI m &&& 31)) := by
    have k : ye_w ok (t + 1) = ye_w ok t ||| ((1 : Int32) <<< (nI (t / 9) &&& 31)) := ye_ft hok
    rw [k, e9]
  have k3 : ye_f ok (t + 1) = if ye_f ok t = -1 then nI (10 * m + g) else ye_f ok t := by
    have k : ye_f ok (t + 1) = if ye_f ok t = -1 then nI (10 * (t / 9) + (t % 9 + 1)) else ye_f ok t := ye_ft hok
    rw [k, e9, eg]
  have k4 : ∀ p o, ye_c w ok p o (t + 1) = if ye_p w t p = o then ye_c w ok p o t + 1 else ye_c w ok p o t := fun p o => ye_ft hok
  have key : ∀ y : sn_S, (∀ a, a ≠ 54 → y.1 a = z.1 a) → y.1 54 1 = nI (ye_cnt ok t) → y.1 54 2 = ye_w ok t → y.1 54 3 = ye_f ok (t + 1) → yp (BX7_note_17 y 38 (nI m)) (fun v => (∀ a, a ≠ 54 → a ≠ 56 → v.1 a = z.1 a) ∧ ye_N w ok (t + 1) v) := fun y yr y1 y2 y3 => by
    unfold BX7_note_17
    refine yp_le (fun v1 ev1 => yp_le (fun v2 ev2 => ?_))
    have r2 : ∀ a, a ≠ 54 → v2.1 a = z.1 a := fun a ha => by rw [ev2, pI_ne ha, ev1, pI_ne ha]; exact yr a ha
    have a1 : v2.1 54 1 = nI (ye_cnt ok (t + 1)) := by
      rw [ev2, pI_slot (by decide), ev1, pI_self, ye_ct hok, show sn_I y 54 1 = nI (ye_cnt ok t) from y1]
      exact nI_1 _
    have a2 : v2.1 54 2 = ye_w ok (t + 1) := by
      rw [ev2, pI_self, k2, ev1]
      show (sn_pI y 54 1 _).1 54 2 ||| _ = _
      rw [pI_slot (by decide), y2]
    have a3 : v2.1 54 3 = ye_f ok (t + 1) := by
      rw [ev2, pI_slot (by decide), ev1, pI_slot (by decide)]
      exact y3
    refine yp_bd (fun v : sn_S => (∀ a, a ≠ 54 → a ≠ 56 → v.1 a = z.1 a) ∧ ye_N w ok (t + 1) v) (yp_for (sp_n w 5) (fun q s => s.2 = nI q ∧ (∀ a, a ≠ 56 → s.1.1 a = v2.1 a) ∧ (∀ p, p < q → ∀ o, o < 31 → s.1.1 56 (31 * p + o) = nI (ye_c w ok p o (t + 1))) ∧ ∀ p, q ≤ p → p < sp_n w 5 → ∀ o, o < 31 → s.1.1 56 (31 * p + o) = nI (ye_c w ok p o t)) (fun q s hq hs => ?_) (fun s hs => ?_) (by exact ⟨nI_0.symm, fun _ _ => rfl, fun p hp => absurd hp (by omega), fun p _ hp o ho => (congrFun (r2 56 (by decide)) _).trans (n4 p hp o ho)⟩)) (fun v hv => ?_)
    · obtain ⟨v, x4⟩ := s
      obtain ⟨ex, vr, vd, vt⟩ := hs
      have ex : x4 = nI q := ex
      subst ex
      have vr : ∀ a, a ≠ 56 → v.1 a = v2.1 a := vr
      have vd : ∀ p, p < q → ∀ o, o < 31 → v.1 56 (31 * p + o) = nI (ye_c w ok p o (t + 1)) := vd
      have vt : ∀ p, q ≤ p → p < sp_n w 5 → ∀ o, o < 31 → v.1 56 (31 * p + o) = nI (ye_c w ok p o t) := vt
      have b1 : sn_I v 38 1 = nI (sp_n w 5) := (congrFun (vr 38 (by decide)) 1).trans ((congrFun (r2 38 (by decide)) 1).trans h1)
      have b8 : sn_I v (38 + 10) q = ye_s w t q := (congrFun (vr 48 (by decide)) q).trans ((congrFun (r2 48 (by decide)) q).trans (h48 q hq))
      have pl : ye_p w t q ≤ 30 := yb_pople _ 30
      show yp (BX7_note_42 v 38 (nI q)) _
      unfold BX7_note_42
      rw [b1, if_neg (nI_ge hq (by omega)), nI_clamp (show q < 2 ^ 31 by omega), b8, yb_count, yb_pop30 (x := ye_s w t q) (fun j g1 g2 => yz_sbits c0 j (by omega) g2)]
      refine yp_gd (fun _ => yp_bs rfl ?_)
      rw [show (31 : Int32) * nI q = nI (31 * q) from nI_mul 31 q, show yb_pop (ye_s w t q) 30 = ye_p w t q from rfl, nI_add, nI_clamp (show 31 * q + ye_p w t q < 2 ^ 31 by omega)]
      refine yp_gd (fun _ => yp_gd (fun _ => yp_le (fun v' ev' => yp_lt (yp_some ⟨nI_1 q, fun a ha => ?_, fun p hp o ho => ?_, fun p hp hp2 o ho => ?_⟩))))
      · show v'.1 a = _
        rw [ev', pI_ne ha]
        exact vr a ha
      · show v'.1 56 (31 * p + o) = _
        rw [ev', k4]
        by_cases c : p = q
        · subst c
          by_cases d : ye_p w t p = o
          · rw [if_pos d, ← d, pI_self, show sn_I v 56 (31 * p + ye_p w t p) = _ from vt p (Nat.le_refl _) hq _ (by omega)]
            exact nI_1 _
          · rw [if_neg d, pI_slot (by omega)]
            exact vt p (Nat.le_refl _) hq o ho
        · rw [← k4, pI_slot (by omega)]
          exact vd p (by omega) o ho
      · show v'.1 56 (31 * p + o) = _
        rw [ev', pI_slot (by omega)]
        exact vt p (by omega) hp2 o ho
    · obtain ⟨v, x4⟩ := s
      obtain ⟨ex, vr, vd, -⟩ := hs
      have ex : x4 = nI (sp_n w 5) := ex
      subst ex
      have vr : ∀ a, a ≠ 56 → v.1 a = v2.1 a := vr
      have b1 : sn_I v 38 1 = nI (sp_n w 5) := (congrFun (vr 38 (by decide)) 1).trans ((congrFun (r2 38 (by decide)) 1).trans h1)
      show yp (BX7_note_42 v 38 (nI (sp_n w 5))) _
      unfold BX7_note_42
      rw [b1, if_pos (nI_le (Nat.le_refl _) (by omega))]
      exact yp_some ⟨fun a h4 h6 => (vr a h6).trans (r2 a h4), (congrFun (vr 54 (by decide)) 1).trans a1, (congrFun (vr 54 (by decide)) 2).trans a2, (congrFun (vr 54 (by decide)) 3).trans a3, vd⟩
    · unfold BX7_note_82
      exact yp_some hv
  have hf := ye_f1 (ok := ok) t ht
  unfold fX7_note
  rw [show sn_I z 54 1 = nI (ye_cnt ok t) from n1]
  refine yp_ite (fun c => yp_le (fun y ey => ?_)) (fun c => ?_)
  · have c := (yi_0 (by omega)).mp c
    refine key y (fun a ha => by rw [ey]; exact pI_ne ha) ?_ ?_ ?_
    · rw [ey, pI_slot (by decide)]
      exact n1
    · rw [ey, pI_slot (by decide)]
      exact n2
    · rw [ey, pI_self, k3, if_pos (hf.1 c), show (10 : Int32) * nI m = nI (10 * m) from nI_mul 10 m, nI_add]
  · have c : ¬ ye_cnt ok t = 0 := fun h => c ((yi_0 (by omega)).mpr h)
    refine key z (fun _ _ => rfl) n1 n2 ?_
    rw [k3, if_neg (hf.2 c)]
    exact n3
end
