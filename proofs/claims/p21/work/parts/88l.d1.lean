/-! what a pure function answers, if it answers: rules -/
def yp {α : Type} (o : Option α) (P : α → Prop) : Prop := ∀ a, o = some a → P a
def yp_sum {α β : Type} (A : α → Prop) (B : β → Prop) : α ⊕ β → Prop
  | .inl a => A a
  | .inr b => B b
section
variable {α β : Type} {P : α → Prop}
theorem yp_some {a : α} (h : P a) : yp (some a) P := fun b e => by cases e; exact h
theorem yp_gd {b : Bool} {k : Option α} (h : b = true → yp k P) : yp (sn_gd b k) P := fun a e => h (sn_gdE e).1 a (sn_gdE e).2
theorem yp_lt {v : β} {g : β → Option α} (h : yp (g v) P) : yp (sn_lt v g) P := h
theorem yp_ite {c : Prop} [Decidable c] {x y : Option α} (ht : c → yp x P) (he : ¬ c → yp y P) : yp (if c then x else y) P := by
  by_cases h : c
  · rw [if_pos h]; exact ht h
  · rw [if_neg h]; exact he h
theorem yp_bd {x : Option β} {f : β → Option α} (Q : β → Prop) (hx : yp x Q) (h : ∀ a, Q a → yp (f a) P) : yp (x.bind f) P := fun a e => by
  obtain ⟨b, e1, e2⟩ := sn_bd e
  exact h b (hx b e1) a e2
theorem yp_bs {b : β} {x : Option β} {f : β → Option α} (e : x = some b) (h : yp (f b) P) : yp (x.bind f) P := by
  subst e
  exact h
theorem yp_w {Q : α → Prop} {o : Option α} (h : yp o Q) (l : ∀ a, Q a → P a) : yp o P := fun a e => l a (h a e)
theorem yp_eq {v : α} {o : Option α} (e : o = some v) : yp o (fun u => u = v) := fun a e2 => by
  rw [e] at e2
  exact (Option.some.inj e2).symm
theorem yp_bit {b : Bool} {f : Int32 → Option α} (h1 : b = true → yp (f 1) P) (h0 : b = false → yp (f 0) P) : yp ((some (if b = true then (1 : Int32) else 0)).bind f) P := by
  cases b with
  | true => exact h1 rfl
  | false => exact h0 rfl
end
theorem yp_it {S T : Type} {f : S → Option (S ⊕ T)} (I : S → Prop) {E : T → Prop} (step : ∀ s, I s → yp (f s) (yp_sum I E)) : ∀ (n : Nat) (s : S), I s → yp (sn_it f n s) E := by
  intro n
  induction n with
  | zero => intro s _ a e; cases e
  | succ n ih =>
    intro s hI a e
    unfold sn_it at e
    cases hf : f s with
    | none => rw [hf] at e; cases e
    | some o =>
      rw [hf] at e
      have ho := step s hI o hf
      cases o with
      | inl s' => exact ih s' ho a e
      | inr t => cases e; exact ho
theorem yp_for0 {S T : Type} {f : S → Option (S ⊕ T)} (K N : Nat) (hKN : K ≤ N) (I : Nat → S → Prop) {E : T → Prop} (step : ∀ k s, K ≤ k → k < N → I k s → yp (f s) (yp_sum (I (k + 1)) (fun _ => False))) (last : ∀ s, I N s → yp (f s) (yp_sum (fun _ => False) E)) {n : Nat} {s : S} (h0 : I K s) : yp (sn_it f n s) E := by
  refine yp_it (fun s => ∃ k, K ≤ k ∧ k ≤ N ∧ I k s) (fun s hs => ?_) n s ⟨K, Nat.le_refl _, hKN, h0⟩
  obtain ⟨k, hK, hk, hI⟩ := hs
  rcases Nat.lt_or_ge k N with c | c
  · refine yp_w (step k s hK c hI) (fun o ho => ?_)
    cases o with
    | inl s' => exact ⟨k + 1, by omega, c, ho⟩
    | inr t => exact ho.elim
  · have e : k = N := by omega
    subst e
    refine yp_w (last s hI) (fun o ho => ?_)
    cases o with
    | inl s' => exact ho.elim
    | inr t => exact ho
theorem yp_for {S T : Type} {f : S → Option (S ⊕ T)} (N : Nat) (I : Nat → S → Prop) {E : T → Prop} (step : ∀ k s, k < N → I k s → yp (f s) (yp_sum (I (k + 1)) (fun _ => False))) (last : ∀ s, I N s → yp (f s) (yp_sum (fun _ => False) E)) {n : Nat} {s : S} (h0 : I 0 s) : yp (sn_it f n s) E :=
  yp_for0 0 N (Nat.zero_le _) I (fun k s _ h1 h2 => step k s h1 h2) last h0
/-! both at once -/
def yr {α β : Type} (x : Option α) (y : Option β) (P : α → β → Prop) : Prop := ∀ a b, x = some a → y = some b → P a b
theorem yr_of {α β : Type} {x : Option α} {y : Option β} {P : α → β → Prop} {A : α → Prop} {B : β → Prop} (hx : yp x A) (hy : yp y B) (h : ∀ a b, A a → B b → P a b) : yr x y P := fun a b e1 e2 => h a b (hx a e1) (hy b e2)
/-! numbers that name places -/
theorem yi_2 (k : Nat) : (2 : Int32) * nI k = nI (2 * k) := nI_mul 2 k
theorem yi_3 (k : Nat) : (3 : Int32) * nI k = nI (3 * k) := nI_mul 3 k
theorem yi_5 (k : Nat) : (5 : Int32) * nI k = nI (5 * k) := nI_mul 5 k
theorem yi_6 (k : Nat) : (6 : Int32) * nI k = nI (6 * k) := nI_mul 6 k
theorem yi_sub {a b : Nat} (h : b ≤ a) : nI a - nI b = nI (a - b) := by
  have h1 : nI a = nI (a - b) + nI b := by rw [nI_add]; exact congrArg nI (by omega)
  rw [h1]
  exact Int32.add_sub_cancel _ _
theorem yi_s1 {a : Nat} (h : 1 ≤ a) : nI a - (1 : Int32) = nI (a - 1) := yi_sub h
theorem yi_s6 {a : Nat} (h : 6 ≤ a) : nI a - (6 : Int32) = nI (a - 6) := yi_sub h
theorem yi_0 {m : Nat} (hm : m < 2 ^ 31) : nI m = 0 ↔ m = 0 := by
  rw [← nI_0]
  exact nI_eq hm (by decide)
/-! bits -/
def sp_bit (s : Int32) (k : Nat) : Bool := ((s >>> (nI k &&& 31)) &&& 1) == 1
theorem yb_1 (y : Int32) : y &&& 1 = 0 ∨ y &&& 1 = 1 := by
  have h1 : (y &&& 1).toBitVec = y.toBitVec &&& 1 := rfl
  rcases Bool.eq_false_or_eq_true (y.toBitVec.getLsbD 0) with h2 | h2
  · right
    apply Int32.toBitVec_inj.mp
    rw [h1]
    apply BitVec.eq_of_getLsbD_eq
    intro i hi
    match i with
    | 0 => simp [h2]
    | i + 1 => simp [BitVec.getLsbD_one]
  · left
    apply Int32.toBitVec_inj.mp
    rw [h1]
    apply BitVec.eq_of_getLsbD_eq
    intro i hi
    match i with
    | 0 =>
      simp
      exact h2
    | i + 1 => simp [BitVec.getLsbD_one]
theorem yb_if (x : Int32) (k : Nat) : (x >>> (nI k &&& 31)) &&& 1 = if sp_bit x k = true then 1 else 0 := by
  unfold sp_bit
  generalize x >>> (nI k &&& 31) = y
  rcases yb_1 y with h | h
  · rw [h, if_neg (by decide)]
  · rw [h, if_pos (by decide)]
theorem yb_m (x : Int32) (k : Nat) : fX9_bit x (nI k) = some (if sp_bit x k = true then 1 else 0) := by
  unfold fX9_bit
  rw [yb_if]
theorem yb_c (x : Int32) (k : Nat) : fX8_hasBit x (nI k) = some (if sp_bit x k = true then 1 else 0) := by
  unfold fX8_hasBit
  rw [yb_if]
  cases sp_bit x k with
  | true => rfl
  | false => rfl
theorem yb_z : ∀ k, k < 32 → sp_bit 0 k = false := by decide +kernel
/-! a day, as both tell it -/
def sp_n (w : Nat → Int32) (k : Nat) : Nat := (w k).toNatClampNeg
/-- over how many of the first n nets somebody of a set is beside p, but for the net no -/
def dy_cnt (na nb : Nat → Nat) (no : Int32) (p : Nat) (set : Int32) : Nat → Nat
  | 0 => 0
  | n + 1 => dy_cnt na nb no p set n + if ¬ nI n = no ∧ ((na n = p ∧ sp_bit set (nb n) = true) ∨ (nb n = p ∧ sp_bit set (na n) = true)) then 1 else 0
/-- what holds in a day: persons, keen, holds, held back, snuffed, dust by minute, the nets' ends, how many nets, the net that is cut -/
abbrev dy_I : Type := Nat × (Nat → Int32) × (Nat → Int32) × (Nat → Int32) × (Nat → Int32) × (Nat → Int32) × (Nat → Nat) × (Nat → Nat) × Nat × Int32
def dy_P (i : dy_I) : Nat := i.1
def dy_keen (i : dy_I) : Nat → Int32 := i.2.1
def dy_lim (i : dy_I) : Nat → Int32 := i.2.2.1
def dy_held (i : dy_I) : Nat → Int32 := i.2.2.2.1
def dy_snuf (i : dy_I) : Nat → Int32 := i.2.2.2.2.1
def dy_dust (i : dy_I) : Nat → Int32 := i.2.2.2.2.2.1
def dy_na (i : dy_I) : Nat → Nat := i.2.2.2.2.2.2.1
def dy_nb (i : dy_I) : Nat → Nat := i.2.2.2.2.2.2.2.1
def dy_nN (i : dy_I) : Nat := i.2.2.2.2.2.2.2.2.1
def dy_no (i : dy_I) : Int32 := i.2.2.2.2.2.2.2.2.2
/-- the set of the persons less than n for whom f holds -/
def dy_set (f : Nat → Bool) : Nat → Int32
  | 0 => 0
  | n + 1 => if f n = true then dy_set f n ||| ((1 : Int32) <<< (nI n &&& 31)) else dy_set f n
def dy_by (i : dy_I) (ahead : Int32) (p : Nat) : Int32 := 5 * nI (dy_cnt (dy_na i) (dy_nb i) (dy_no i) p ahead (dy_nN i))
def dy_more (i : dy_I) (ahead : Int32) (m p : Nat) : Int32 := dy_keen i p * dy_dust i m + dy_by i ahead p + (if sp_bit (dy_snuf i p) m = true then 40 else 0)
def dy_does (i : dy_I) (t : Int32) (ahead : Int32) (m p : Nat) : Bool := decide (dy_lim i p ≤ t + dy_more i ahead m p) && !sp_bit (dy_held i p) m
/-- behind m minutes: by person the tickle, and who sneezed in the last -/
def dy_st (i : dy_I) : Nat → (Nat → Int32) × Int32
  | 0 => (fun _ => 0, 0)
  | m + 1 => (fun p => if dy_does i ((dy_st i m).1 p) (dy_st i m).2 m p = true then 0 else (dy_st i m).1 p + dy_more i (dy_st i m).2 m p, dy_set (fun p => dy_does i ((dy_st i m).1 p) (dy_st i m).2 m p) (dy_P i))
def dy_tick (i : dy_I) (m p : Nat) : Int32 := (dy_st i (m + 1)).1 p
def dy_who (i : dy_I) (m : Nat) : Int32 := (dy_st i (m + 1)).2
def dy_came (i : dy_I) (m p : Nat) : Int32 := dy_by i (dy_st i m).2 p
/-- the minutes less than n in which p sneezes -/
def dy_sn (i : dy_I) (n p : Nat) : Int32 := dy_set (fun m => dy_does i ((dy_st i m).1 p) (dy_st i m).2 m p) n
/-- what came by nets in the first n minutes -/
def dy_all (i : dy_I) (p : Nat) : Nat → Int32
  | 0 => 0
  | n + 1 => dy_all i p n + dy_came i n p
def dy_ok (i : dy_I) : Prop := dy_P i ≤ 6 ∧ dy_nN i ≤ 8 ∧ ∀ k, k < dy_nN i → dy_na i k < 6 ∧ dy_nb i k < 6 ∧ dy_na i k ≠ dy_nb i k
theorem dy_ahead (i : dy_I) (m : Nat) : (dy_st i m).2 = if m = 0 then 0 else dy_who i (m - 1) := by
  match m with
  | 0 => rfl
  | m + 1 => rfl
theorem dy_prev (i : dy_I) (m p : Nat) : (dy_st i m).1 p = if m = 0 then 0 else dy_tick i (m - 1) p := by
  match m with
  | 0 => rfl
  | m + 1 => rfl
theorem dy_cnt0 (na nb : Nat → Nat) (no : Int32) (p : Nat) : ∀ n, (∀ k, k < n → na k < 6 ∧ nb k < 6) → dy_cnt na nb no p 0 n = 0 := by
  intro n
  induction n with
  | zero => intro _; rfl
  | succ n ih =>
    intro h
    show dy_cnt na nb no p 0 n + _ = 0
    rw [ih (fun k hk => h k (by omega)), if_neg]
    rintro ⟨-, ⟨-, x⟩ | ⟨-, x⟩⟩
    · rw [yb_z _ (by have := h n (by omega); omega)] at x
      cases x
    · rw [yb_z _ (by have := h n (by omega); omega)] at x
      cases x
theorem dy_by0 {i : dy_I} (ok : dy_ok i) (p : Nat) : dy_by i 0 p = 0 := by
  unfold dy_by
  rw [dy_cnt0 _ _ _ _ _ (fun k hk => ⟨(ok.2.2 k hk).1, (ok.2.2 k hk).2.1⟩)]
  decide
/-- two days alike in what is asked of them, n minutes -/
def dy_E (n : Nat) (i j : dy_I) : Prop := dy_P i = dy_P j ∧ dy_nN i = dy_nN j ∧ dy_no i = dy_no j ∧ (∀ p, p < dy_P i → dy_keen i p = dy_keen j p ∧ dy_lim i p = dy_lim j p ∧ dy_held i p = dy_held j p ∧ dy_snuf i p = dy_snuf j p) ∧ (∀ m, dy_dust i m = dy_dust j m) ∧ ∀ k, k < dy_nN i → dy_na i k = dy_na j k ∧ dy_nb i k = dy_nb j k
theorem dy_cntE {na nb na' nb' : Nat → Nat} {no : Int32} {p : Nat} {s : Int32} : ∀ n, (∀ k, k < n → na k = na' k ∧ nb k = nb' k) → dy_cnt na nb no p s n = dy_cnt na' nb' no p s n := by
  intro n
  induction n with
  | zero => intro _; rfl
  | succ n ih =>
    intro h
    show dy_cnt na nb no p s n + (if _ then 1 else 0) = dy_cnt na' nb' no p s n + (if _ then 1 else 0)
    rw [ih (fun k hk => h k (by omega)), (h n (by omega)).1, (h n (by omega)).2]
theorem dy_byE {n : Nat} {i j : dy_I} (h : dy_E n i j) (s : Int32) (p : Nat) : dy_by i s p = dy_by j s p := by
  unfold dy_by
  rw [← h.2.1, ← h.2.2.1, dy_cntE _ h.2.2.2.2.2]
theorem dy_moreE {n : Nat} {i j : dy_I} (h : dy_E n i j) (s : Int32) (m : Nat) {p : Nat} (hp : p < dy_P i) : dy_more i s m p = dy_more j s m p := by
  unfold dy_more
  rw [dy_byE h, (h.2.2.2.1 p hp).1, (h.2.2.2.1 p hp).2.2.2, h.2.2.2.2.1 m]
theorem dy_doesE {n : Nat} {i j : dy_I} (h : dy_E n i j) (t s : Int32) (m : Nat) {p : Nat} (hp : p < dy_P i) : dy_does i t s m p = dy_does j t s m p := by
  unfold dy_does
  rw [dy_moreE h s m hp, (h.2.2.2.1 p hp).2.1, (h.2.2.2.1 p hp).2.2.1]
theorem dy_setE {f g : Nat → Bool} : ∀ n, (∀ k, k < n → f k = g k) → dy_set f n = dy_set g n := by
  intro n
  induction n with
  | zero => intro _; rfl
  | succ n ih =>
    intro h
    show (if f n = true then _ else _) = (if g n = true then _ else _)
    rw [ih (fun k hk => h k (by omega)), h n (by omega)]
theorem dy_stE {n : Nat} {i j : dy_I} (h : dy_E n i j) : ∀ m, (∀ p, p < dy_P i → (dy_st i m).1 p = (dy_st j m).1 p) ∧ (dy_st i m).2 = (dy_st j m).2 := by
  intro m
  induction m with
  | zero => exact ⟨fun _ _ => rfl, rfl⟩
  | succ m ih =>
    refine ⟨fun p hp => ?_, ?_⟩
    · show (if dy_does i ((dy_st i m).1 p) (dy_st i m).2 m p = true then 0 else (dy_st i m).1 p + dy_more i (dy_st i m).2 m p) = (if dy_does j ((dy_st j m).1 p) (dy_st j m).2 m p = true then 0 else (dy_st j m).1 p + dy_more j (dy_st j m).2 m p)
      rw [ih.1 p hp, ih.2, dy_doesE h _ _ _ hp, dy_moreE h _ _ hp]
    · show dy_set (fun p => dy_does i ((dy_st i m).1 p) (dy_st i m).2 m p) (dy_P i) = dy_set (fun p => dy_does j ((dy_st j m).1 p) (dy_st j m).2 m p) (dy_P j)
      rw [← h.1]
      exact dy_setE _ (fun p hp => by rw [ih.1 p hp, ih.2, dy_doesE h _ _ _ hp])
theorem dy_snE {n : Nat} {i j : dy_I} (h : dy_E n i j) (m : Nat) {p : Nat} (hp : p < dy_P i) : dy_sn i m p = dy_sn j m p := dy_setE _ (fun k _ => by rw [(dy_stE h k).1 p hp, (dy_stE h k).2, dy_doesE h _ _ _ hp])
