section
/-! what a pure function answers, if it answers: rules -/
def yp {α : Type} (o : Option α) (P : α → Prop) : Prop := ∀ a, o = some a → P a
def yp_sum {α β : Type} (A : α → Prop) (B : β → Prop) : α ⊕ β → Prop
  | .inl a => A a
  | .inr b => B b
section
variable {α β : Type} {P : α → Prop}
theorem yp_some {a : α} (h : P a) : yp (some a) P := fun b e => by cases e; exact h
theorem yp_gd {b : Bool} {k : Option α} (h : b = true → yp k P) : yp (sn_gd b k) P := fun a e => h (sn_gdE e).1 a (sn_gdE e).2
theorem yp_lt {v : β} {g : β → Option α} (h : yp (g v) P) : yp (sn_lt v g) P := h
theorem yp_ite {c : Prop} [Decidable c] {x y : Option α} (ht : c → yp x P) (he : ¬ c → yp y P) : yp (if c then x else y) P := by
  by_cases h : c
  · rw [if_pos h]; exact ht h
  · rw [if_neg h]; exact he h
theorem yp_bd {x : Option β} {f : β → Option α} (Q : β → Prop) (hx : yp x Q) (h : ∀ a, Q a → yp (f a) P) : yp (x.bind f) P := fun a e => by
  obtain ⟨b, e1, e2⟩ := sn_bd e
  exact h b (hx b e1) a e2
theorem yp_bs {b : β} {x : Option β} {f : β → Option α} (e : x = some b) (h : yp (f b) P) : yp (x.bind f) P := by
  subst e
  exact h
theorem yp_w {Q : α → Prop} {o : Option α} (h : yp o Q) (l : ∀ a, Q a → P a) : yp o P := fun a e => l a (h a e)
theorem yp_eq {v : α} {o : Option α} (e : o = some v) : yp o (fun u => u = v) := fun a e2 => by
  rw [e] at e2
  exact (Option.some.inj e2).symm
theorem yp_bit {b : Bool} {f : Int32 → Option α} (h1 : b = true → yp (f 1) P) (h0 : b = false → yp (f 0) P) : yp ((some (if b = true then (1 : Int32) else 0)).bind f) P := by
  cases b with
  | true => exact h1 rfl
  | false => exact h0 rfl
end
theorem yp_it {S T : Type} {f : S → Option (S ⊕ T)} (I : S → Prop) {E : T → Prop} (step : ∀ s, I s → yp (f s) (yp_sum I E)) : ∀ (n : Nat) (s : S), I s → yp (sn_it f n s) E := by
  intro n
  induction n with
  | zero => intro s _ a e; cases e
  | succ n ih =>
    intro s hI a e
    unfold sn_it at e
    cases hf : f s with
    | none => rw [hf] at e; cases e
    | some o =>
      rw [hf] at e
      have ho := step s hI o hf
      cases o with
      | inl s' => exact ih s' ho a e
      | inr t => cases e; exact ho
theorem yp_for0 {S T : Type} {f : S → Option (S ⊕ T)} (K N : Nat) (hKN : K ≤ N) (I : Nat → S → Prop) {E : T → Prop} (step : ∀ k s, K ≤ k → k < N → I k s → yp (f s) (yp_sum (I (k + 1)) (fun _ => False))) (last : ∀ s, I N s → yp (f s) (yp_sum (fun _ => False) E)) {n : Nat} {s : S} (h0 : I K s) : yp (sn_it f n s) E := by
  refine yp_it (fun s => ∃ k, K ≤ k ∧ k ≤ N ∧ I k s) (fun s hs => ?_) n s ⟨K, Nat.le_refl _, hKN, h0⟩
  obtain ⟨k, hK, hk, hI⟩ := hs
  rcases Nat.lt_or_ge k N with c | c
  · refine yp_w (step k s hK c hI) (fun o ho => ?_)
    cases o with
    | inl s' => exact ⟨k + 1, by omega, c, ho⟩
    | inr t => exact ho.elim
  · have e : k = N := by omega
    subst e
    refine yp_w (last s hI) (fun o ho => ?_)
    cases o with
    | inl s' => exact ho.elim
    | inr t => exact ho
theorem yp_for {S T : Type} {f : S → Option (S ⊕ T)} (N : Nat) (I : Nat → S → Prop) {E : T → Prop} (step : ∀ k s, k < N → I k s → yp (f s) (yp_sum (I (k + 1)) (fun _ => False))) (last : ∀ s, I N s → yp (f s) (yp_sum (fun _ => False) E)) {n : Nat} {s : S} (h0 : I 0 s) : yp (sn_it f n s) E :=
  yp_for0 0 N (Nat.zero_le _) I (fun k s _ h1 h2 => step k s h1 h2) last h0
/-! both at once -/
def yr {α β : Type} (x : Option α) (y : Option β) (P : α → β → Prop) : Prop := ∀ a b, x = some a → y = some b → P a b
theorem yr_of {α β : Type} {x : Option α} {y : Option β} {P : α → β → Prop} {A : α → Prop} {B : β → Prop} (hx : yp x A) (hy : yp y B) (h : ∀ a b, A a → B b → P a b) : yr x y P := fun a b e1 e2 => h a b (hx a e1) (hy b e2)
/-! numbers that name places -/
theorem yi_2 (k : Nat) : (2 : Int32) * nI k = nI (2 * k) := nI_mul 2 k
theorem yi_3 (k : Nat) : (3 : Int32) * nI k = nI (3 * k) := nI_mul 3 k
theorem yi_5 (k : Nat) : (5 : Int32) * nI k = nI (5 * k) := nI_mul 5 k
theorem yi_6 (k : Nat) : (6 : Int32) * nI k = nI (6 * k) := nI_mul 6 k
theorem yi_sub {a b : Nat} (h : b ≤ a) : nI a - nI b = nI (a - b) := by
  have h1 : nI a = nI (a - b) + nI b := by rw [nI_add]; exact congrArg nI (by omega)
  rw [h1]
  exact Int32.add_sub_cancel _ _
theorem yi_s1 {a : Nat} (h : 1 ≤ a) : nI a - (1 : Int32) = nI (a - 1) := yi_sub h
theorem yi_s6 {a : Nat} (h : 6 ≤ a) : nI a - (6 : Int32) = nI (a - 6) := yi_sub h
theorem yi_0 {m : Nat} (hm : m < 2 ^ 31) : nI m = 0 ↔ m = 0 := by
  rw [← nI_0]
  exact nI_eq hm (by decide)
/-! bits -/
def sp_bit (s : Int32) (k : Nat) : Bool := ((s >>> (nI k &&& 31)) &&& 1) == 1
theorem yb_1 (y : Int32) : y &&& 1 = 0 ∨ y &&& 1 = 1 := by
  have h1 : (y &&& 1).toBitVec = y.toBitVec &&& 1 := rfl
  rcases Bool.eq_false_or_eq_true (y.toBitVec.getLsbD 0) with h2 | h2
  · right
    apply Int32.toBitVec_inj.mp
    rw [h1]
    apply BitVec.eq_of_getLsbD_eq
    intro i hi
    match i with
    | 0 => simp [h2]
    | i + 1 => simp [BitVec.getLsbD_one]
  · left
    apply Int32.toBitVec_inj.mp
    rw [h1]
    apply BitVec.eq_of_getLsbD_eq
    intro i hi
    match i with
    | 0 =>
      simp
      exact h2
    | i + 1 => simp [BitVec.getLsbD_one]
theorem yb_if (x : Int32) (k : Nat) : (x >>> (nI k &&& 31)) &&& 1 = if sp_bit x k = true then 1 else 0 := by
  unfold sp_bit
  generalize x >>> (nI k &&& 31) = y
  rcases yb_1 y with h | h
  · rw [h, if_neg (by decide)]
  · rw [h, if_pos (by decide)]
theorem yb_m (x : Int32) (k : Nat) : fX9_bit x (nI k) = some (if sp_bit x k = true then 1 else 0) := by
  unfold fX9_bit
  rw [yb_if]
theorem yb_c (x : Int32) (k : Nat) : fX8_hasBit x (nI k) = some (if sp_bit x k = true then 1 else 0) := by
  unfold fX8_hasBit
  rw [yb_if]
  cases sp_bit x k with
  | true => rfl
  | false => rfl
theorem yb_z : ∀ k, k < 32 → sp_bit 0 k = false := by decide +kernel
/-! a day, as both tell it -/
def sp_n (w : Nat → Int32) (k : Nat) : Nat := (w k).toNatClampNeg
/-- over how many of the first n nets somebody of a set is beside p, but for the net no -/
def dy_cnt (na nb : Nat → Nat) (no : Int32) (p : Nat) (set : Int32) : Nat → Nat
  | 0 => 0
  | n + 1 => dy_cnt na nb no p set n + if ¬ nI n = no ∧ ((na n = p ∧ sp_bit set (nb n) = true) ∨ (nb n = p ∧ sp_bit set (na n) = true)) then 1 else 0
/-- what holds in a day: persons, keen, holds, held back, snuffed, dust by minute, the nets' ends, how many nets, the net that is cut -/
abbrev dy_I : Type := Nat × (Nat → Int32) × (Nat → Int32) × (Nat → Int32) × (Nat → Int32) × (Nat → Int32) × (Nat → Nat) × (Nat → Nat) × Nat × Int32
def dy_P (i : dy_I) : Nat := i.1
def dy_keen (i : dy_I) : Nat → Int32 := i.2.1
def dy_lim (i : dy_I) : Nat → Int32 := i.2.2.1
def dy_held (i : dy_I) : Nat → Int32 := i.2.2.2.1
def dy_snuf (i : dy_I) : Nat → Int32 := i.2.2.2.2.1
def dy_dust (i : dy_I) : Nat → Int32 := i.2.2.2.2.2.1
def dy_na (i : dy_I) : Nat → Nat := i.2.2.2.2.2.2.1
def dy_nb (i : dy_I) : Nat → Nat := i.2.2.2.2.2.2.2.1
def dy_nN (i : dy_I) : Nat := i.2.2.2.2.2.2.2.2.1
def dy_no (i : dy_I) : Int32 := i.2.2.2.2.2.2.2.2.2
/-- the set of the persons less than n for whom f holds -/
def dy_set (f : Nat → Bool) : Nat → Int32
  | 0 => 0
  | n + 1 => if f n = true then dy_set f n ||| ((1 : Int32) <<< (nI n &&& 31)) else dy_set f n
def dy_by (i : dy_I) (ahead : Int32) (p : Nat) : Int32 := 5 * nI (dy_cnt (dy_na i) (dy_nb i) (dy_no i) p ahead (dy_nN i))
def dy_more (i : dy_I) (ahead : Int32) (m p : Nat) : Int32 := dy_keen i p * dy_dust i m + dy_by i ahead p + (if sp_bit (dy_snuf i p) m = true then 40 else 0)
def dy_does (i : dy_I) (t : Int32) (ahead : Int32) (m p : Nat) : Bool := decide (dy_lim i p ≤ t + dy_more i ahead m p) && !sp_bit (dy_held i p) m
/-- behind m minutes: by person the tickle, and who sneezed in the last -/
def dy_st (i : dy_I) : Nat → (Nat → Int32) × Int32
  | 0 => (fun _ => 0, 0)
  | m + 1 => (fun p => if dy_does i ((dy_st i m).1 p) (dy_st i m).2 m p = true then 0 else (dy_st i m).1 p + dy_more i (dy_st i m).2 m p, dy_set (fun p => dy_does i ((dy_st i m).1 p) (dy_st i m).2 m p) (dy_P i))
def dy_tick (i : dy_I) (m p : Nat) : Int32 := (dy_st i (m + 1)).1 p
def dy_who (i : dy_I) (m : Nat) : Int32 := (dy_st i (m + 1)).2
def dy_came (i : dy_I) (m p : Nat) : Int32 := dy_by i (dy_st i m).2 p
/-- the minutes less than n in which p sneezes -/
def dy_sn (i : dy_I) (n p : Nat) : Int32 := dy_set (fun m => dy_does i ((dy_st i m).1 p) (dy_st i m).2 m p) n
/-- what came by nets in the first n minutes -/
def dy_all (i : dy_I) (p : Nat) : Nat → Int32
  | 0 => 0
  | n + 1 => dy_all i p n + dy_came i n p
def dy_ok (i : dy_I) : Prop := dy_P i ≤ 6 ∧ dy_nN i ≤ 8 ∧ ∀ k, k < dy_nN i → dy_na i k < 6 ∧ dy_nb i k < 6 ∧ dy_na i k ≠ dy_nb i k
theorem dy_ahead (i : dy_I) (m : Nat) : (dy_st i m).2 = if m = 0 then 0 else dy_who i (m - 1) := by
  match m with
  | 0 => rfl
  | m + 1 => rfl
theorem dy_prev (i : dy_I) (m p : Nat) : (dy_st i m).1 p = if m = 0 then 0 else dy_tick i (m - 1) p := by
  match m with
  | 0 => rfl
  | m + 1 => rfl
theorem dy_cnt0 (na nb : Nat → Nat) (no : Int32) (p : Nat) : ∀ n, (∀ k, k < n → na k < 6 ∧ nb k < 6) → dy_cnt na nb no p 0 n = 0 := by
  intro n
  induction n with
  | zero => intro _; rfl
  | succ n ih =>
    intro h
    show dy_cnt na nb no p 0 n + _ = 0
    rw [ih (fun k hk => h k (by omega)), if_neg]
    rintro ⟨-, ⟨-, x⟩ | ⟨-, x⟩⟩
    · rw [yb_z _ (by have := h n (by omega); omega)] at x
      cases x
    · rw [yb_z _ (by have := h n (by omega); omega)] at x
      cases x
theorem dy_by0 {i : dy_I} (ok : dy_ok i) (p : Nat) : dy_by i 0 p = 0 := by
  unfold dy_by
  rw [dy_cnt0 _ _ _ _ _ (fun k hk => ⟨(ok.2.2 k hk).1, (ok.2.2 k hk).2.1⟩)]
  decide
/-- two days alike in what is asked of them, n minutes -/
def dy_E (n : Nat) (i j : dy_I) : Prop := dy_P i = dy_P j ∧ dy_nN i = dy_nN j ∧ dy_no i = dy_no j ∧ (∀ p, p < dy_P i → dy_keen i p = dy_keen j p ∧ dy_lim i p = dy_lim j p ∧ dy_held i p = dy_held j p ∧ dy_snuf i p = dy_snuf j p) ∧ (∀ m, dy_dust i m = dy_dust j m) ∧ ∀ k, k < dy_nN i → dy_na i k = dy_na j k ∧ dy_nb i k = dy_nb j k
theorem dy_cntE {na nb na' nb' : Nat → Nat} {no : Int32} {p : Nat} {s : Int32} : ∀ n, (∀ k, k < n → na k = na' k ∧ nb k = nb' k) → dy_cnt na nb no p s n = dy_cnt na' nb' no p s n := by
  intro n
  induction n with
  | zero => intro _; rfl
  | succ n ih =>
    intro h
    show dy_cnt na nb no p s n + (if _ then 1 else 0) = dy_cnt na' nb' no p s n + (if _ then 1 else 0)
    rw [ih (fun k hk => h k (by omega)), (h n (by omega)).1, (h n (by omega)).2]
theorem dy_byE {n : Nat} {i j : dy_I} (h : dy_E n i j) (s : Int32) (p : Nat) : dy_by i s p = dy_by j s p := by
  unfold dy_by
  rw [← h.2.1, ← h.2.2.1, dy_cntE _ h.2.2.2.2.2]
theorem dy_moreE {n : Nat} {i j : dy_I} (h : dy_E n i j) (s : Int32) (m : Nat) {p : Nat} (hp : p < dy_P i) : dy_more i s m p = dy_more j s m p := by
  unfold dy_more
  rw [dy_byE h, (h.2.2.2.1 p hp).1, (h.2.2.2.1 p hp).2.2.2, h.2.2.2.2.1 m]
theorem dy_doesE {n : Nat} {i j : dy_I} (h : dy_E n i j) (t s : Int32) (m : Nat) {p : Nat} (hp : p < dy_P i) : dy_does i t s m p = dy_does j t s m p := by
  unfold dy_does
  rw [dy_moreE h s m hp, (h.2.2.2.1 p hp).2.1, (h.2.2.2.1 p hp).2.2.1]
theorem dy_setE {f g : Nat → Bool} : ∀ n, (∀ k, k < n → f k = g k) → dy_set f n = dy_set g n := by
  intro n
  induction n with
  | zero => intro _; rfl
  | succ n ih =>
    intro h
    show (if f n = true then _ else _) = (if g n = true then _ else _)
    rw [ih (fun k hk => h k (by omega)), h n (by omega)]
theorem dy_stE {n : Nat} {i j : dy_I} (h : dy_E n i j) : ∀ m, (∀ p, p < dy_P i → (dy_st i m).1 p = (dy_st j m).1 p) ∧ (dy_st i m).2 = (dy_st j m).2 := by
  intro m
  induction m with
  | zero => exact ⟨fun _ _ => rfl, rfl⟩
  | succ m ih =>
    refine ⟨fun p hp => ?_, ?_⟩
    · show (if dy_does i ((dy_st i m).1 p) (dy_st i m).2 m p = true then 0 else (dy_st i m).1 p + dy_more i (dy_st i m).2 m p) = (if dy_does j ((dy_st j m).1 p) (dy_st j m).2 m p = true then 0 else (dy_st j m).1 p + dy_more j (dy_st j m).2 m p)
      rw [ih.1 p hp, ih.2, dy_doesE h _ _ _ hp, dy_moreE h _ _ hp]
    · show dy_set (fun p => dy_does i ((dy_st i m).1 p) (dy_st i m).2 m p) (dy_P i) = dy_set (fun p => dy_does j ((dy_st j m).1 p) (dy_st j m).2 m p) (dy_P j)
      rw [← h.1]
      exact dy_setE _ (fun p hp => by rw [ih.1 p hp, ih.2, dy_doesE h _ _ _ hp])
theorem dy_snE {n : Nat} {i j : dy_I} (h : dy_E n i j) (m : Nat) {p : Nat} (hp : p < dy_P i) : dy_sn i m p = dy_sn j m p := dy_setE _ (fun k _ => by rw [(dy_stE h k).1 p hp, (dy_stE h k).2, dy_doesE h _ _ _ hp])
end
section
/-! the class lives a day -/
/-- what a day of the class is told (its rows from q on) -/
def yd_T (q : Nat) (σ : sn_S) (i : dy_I) : Prop := σ.1 q 1 = nI (dy_P i) ∧ σ.1 q 2 = nI (dy_nN i) ∧ σ.1 q 3 = dy_no i ∧ (∀ m, m < 30 → σ.1 (q + 1) m = dy_dust i m) ∧ (∀ p, p < dy_P i → σ.1 (q + 2) p = dy_keen i p ∧ σ.1 (q + 3) p = dy_lim i p ∧ σ.1 (q + 4) p = dy_held i p ∧ σ.1 (q + 5) p = dy_snuf i p) ∧ ∀ k, k < dy_nN i → σ.1 (q + 6) (2 * k) = nI (dy_na i k) ∧ σ.1 (q + 6) (2 * k + 1) = nI (dy_nb i k)
theorem yd_Tc {q : Nat} {σ z : sn_S} {i : dy_I} (h : ∀ a, q ≤ a → a < q + 7 → z.1 a = σ.1 a) (hT : yd_T q σ i) : yd_T q z i := by
  unfold yd_T
  rw [h q (by omega) (by omega), h (q + 1) (by omega) (by omega), h (q + 2) (by omega) (by omega), h (q + 3) (by omega) (by omega), h (q + 4) (by omega) (by omega), h (q + 5) (by omega) (by omega), h (q + 6) (by omega) (by omega)]
  exact hT
section
variable {q m : Nat} {σ : sn_S} {i : dy_I}
def yd_n (q m : Nat) (σ z : sn_S) : Prop := (∀ a, a ≠ q + 8 → z.1 a = σ.1 a) ∧ z.2 = σ.2 ∧ ∀ k, k < 6 * m → z.1 (q + 8) k = σ.1 (q + 8) k
theorem yd_nw {z : sn_S} {k : Nat} {v : Int32} (hk : 6 * m ≤ k) (h : yd_n q m σ z) : yd_n q m σ (sn_pI z (q + 8) k v) :=
  ⟨fun a ha => (pI_ne ha).trans (h.1 a ha), h.2.1, fun j hj => (pI_slot (by omega)).trans (h.2.2 j hj)⟩
/-- one net: what comes to its two ends -/
theorem yc_net {z : sn_S} {a b k : Nat} {A : Int32} (hm : m < 30) (ha : a < 6) (hb : b < 6) (hab : a ≠ b) {s t : Int32} (h1 : z.1 (q + 8) (6 * m + a) = s) (h2 : z.1 (q + 8) (6 * m + b) = t) {w : Int32} {E : sn_S → Prop} :
    yp (BX0_tickleByNets_121 z q (nI (6 * m)) A (nI k) (nI a) (nI b) (nI (6 * m) + nI a) (sn_I z (q + 8) (nI (6 * m) + nI a).toNatClampNeg) w) (yp_sum (fun s' => s'.2 = nI (k + 1) ∧ s'.1 = sn_pI (sn_pI z (q + 8) (6 * m + a) (s + w)) (q + 8) (6 * m + b) (t + (if sp_bit A a = true then 5 else 0))) E) := by
  have i1 : (nI (6 * m) + nI a).toNatClampNeg = 6 * m + a := by rw [nI_add, nI_clamp (by omega)]
  have i2 : (nI (6 * m) + nI b).toNatClampNeg = 6 * m + b := by rw [nI_add, nI_clamp (by omega)]
  have e1 : sn_I z (q + 8) (6 * m + a) = s := h1
  have e2 : sn_I (sn_pI z (q + 8) (6 * m + a) (s + w)) (q + 8) (6 * m + b) = t := (pI_slot (by omega)).trans h2
  unfold BX0_tickleByNets_121
  rw [i1, i2, e1]
  refine yp_gd (fun _ => yp_lt (yp_gd (fun _ => ?_)))
  rw [e2, yb_c]
  refine yp_bit (fun c => ?_) (fun c => ?_)
  · rw [if_neg (by decide)]
    unfold BX0_tickleByNets_147 BX0_tickleByNets_149
    rw [i2]
    refine yp_gd (fun _ => yp_lt (yp_lt (yp_some ⟨nI_1 k, ?_⟩)))
    rw [if_pos c]
  · rw [if_pos rfl]
    unfold BX0_tickleByNets_147 BX0_tickleByNets_149
    rw [i2]
    refine yp_gd (fun _ => yp_lt (yp_lt (yp_some ⟨nI_1 k, ?_⟩)))
    rw [if_neg (by rw [c]; decide)]
theorem y5_1 (n : Nat) : (5 : Int32) * nI n + 5 = 5 * nI (n + 1) := by
  rw [yi_5, yi_5]
  exact nI_add _ 5
theorem yc_loop (hm : m < 30) (hT : yd_T q σ i) (ok : dy_ok i) {A : Int32} {z0 : sn_S} (h0 : yd_n q m σ z0) (hz : ∀ p, p < dy_P i → z0.1 (q + 8) (6 * m + p) = 0) : yp (sn_it (LX0_tickleByNets_55 q (nI (6 * m)) A) 5000 (z0, (0 : Int32))) (fun z => yd_n q m σ z ∧ ∀ p, p < dy_P i → z.1 (q + 8) (6 * m + p) = dy_by i A p) := by
  refine yp_for (dy_nN i) (fun k s => s.2 = nI k ∧ yd_n q m σ s.1 ∧ ∀ p, p < dy_P i → s.1.1 (q + 8) (6 * m + p) = 5 * nI (dy_cnt (dy_na i) (dy_nb i) (dy_no i) p A k)) (fun k s hk hs => ?_) (fun s hs => ?_) ⟨nI_0.symm, h0, fun p hp => by rw [hz p hp]; exact (show (5 : Int32) * nI 0 = 0 by decide).symm⟩
  · obtain ⟨z, x⟩ := s
    obtain ⟨ex, hn, hc⟩ := hs
    have ex : x = nI k := ex
    subst ex
    have hn : yd_n q m σ z := hn
    have hc : ∀ p, p < dy_P i → z.1 (q + 8) (6 * m + p) = 5 * nI (dy_cnt (dy_na i) (dy_nb i) (dy_no i) p A k) := hc
    have hN := ok.2.1
    obtain ⟨ha, hb, hab⟩ := ok.2.2 k hk
    have e2 : sn_I z q 2 = nI (dy_nN i) := (congrFun (hn.1 q (by omega)) 2).trans hT.2.1
    have e3 : sn_I z q 3 = dy_no i := (congrFun (hn.1 q (by omega)) 3).trans hT.2.2.1
    have e6 := hT.2.2.2.2.2 k hk
    have ea : sn_I z (q + 6) (2 * k) = nI (dy_na i k) := (congrFun (hn.1 (q + 6) (by omega)) _).trans e6.1
    have eb : sn_I z (q + 6) (2 * k + 1) = nI (dy_nb i k) := (congrFun (hn.1 (q + 6) (by omega)) _).trans e6.2
    show yp (BX0_tickleByNets_55 z q (nI (6 * m)) A (nI k)) _
    unfold BX0_tickleByNets_55
    rw [e2, e3, if_neg (nI_ge hk (by omega))]
    refine yp_ite (fun c => ?_) (fun c => ?_)
    · unfold BX0_tickleByNets_149
      refine yp_lt (yp_some ⟨nI_1 k, hn, fun p hp => ?_⟩)
      show z.1 (q + 8) (6 * m + p) = 5 * nI (dy_cnt (dy_na i) (dy_nb i) (dy_no i) p A k + if _ then 1 else 0)
      rw [if_neg (fun h => h.1 c)]
      exact hc p hp
    · have i0 : ((2 : Int32) * nI k).toNatClampNeg = 2 * k := by rw [yi_2, nI_clamp (by omega)]
      have i1 : ((2 : Int32) * nI k + 1).toNatClampNeg = 2 * k + 1 := by rw [yi_2, nI_1, nI_clamp (by omega)]
      refine yp_gd (fun _ => yp_lt (yp_gd (fun _ => yp_lt (yp_gd (fun _ => ?_)))))
      rw [i0, i1, ea, eb, yb_c]
      have fin : ∀ (w : Int32), (w = if sp_bit A (dy_nb i k) = true then 5 else 0) → yp (BX0_tickleByNets_121 z q (nI (6 * m)) A (nI k) (nI (dy_na i k)) (nI (dy_nb i k)) (nI (6 * m) + nI (dy_na i k)) (sn_I z (q + 8) (nI (6 * m) + nI (dy_na i k)).toNatClampNeg) w) (yp_sum (fun s' : sn_S × Int32 => s'.2 = nI (k + 1) ∧ yd_n q m σ s'.1 ∧ ∀ p, p < dy_P i → s'.1.1 (q + 8) (6 * m + p) = 5 * nI (dy_cnt (dy_na i) (dy_nb i) (dy_no i) p A (k + 1))) (fun _ => False)) := fun w hw => by
        refine yp_w (yc_net (E := fun _ => False) hm ha hb hab rfl rfl) (fun o ho => ?_)
        cases o with
        | inr t => exact ho
        | inl s' =>
          obtain ⟨u, y⟩ := s'
          obtain ⟨ey, eu⟩ := ho
          refine ⟨ey, ?_, fun p hp => ?_⟩
          · rw [show u = _ from eu]
            exact yd_nw (by omega) (yd_nw (by omega) hn)
          · show u.1 (q + 8) (6 * m + p) = 5 * nI (dy_cnt (dy_na i) (dy_nb i) (dy_no i) p A k + if _ then 1 else 0)
            rw [show u = _ from eu]
            by_cases cb : dy_nb i k = p
            · subst cb
              rw [pI_self, hc _ hp]
              by_cases x : sp_bit A (dy_na i k) = true
              · rw [if_pos x, if_pos ⟨c, Or.inr ⟨rfl, x⟩⟩, y5_1]
              · rw [if_neg x, if_neg (fun h => h.2.elim (fun g => hab g.1) (fun g => x g.2)), Int32.add_zero]
                rfl
            · rw [pI_slot (by omega)]
              by_cases ca : dy_na i k = p
              · subst ca
                rw [pI_self, hc _ hp, hw]
                by_cases x : sp_bit A (dy_nb i k) = true
                · rw [if_pos x, if_pos ⟨c, Or.inl ⟨rfl, x⟩⟩, y5_1]
                · rw [if_neg x, if_neg (fun h => h.2.elim (fun g => x g.2) (fun g => cb g.1)), Int32.add_zero]
                  rfl
              · rw [pI_slot (by omega), if_neg (fun h => h.2.elim (fun g => ca g.1) (fun g => cb g.1))]
                exact hc p hp
      refine yp_bit (fun x => ?_) (fun x => ?_)
      · rw [if_neg (by decide)]
        exact fin 5 (by rw [if_pos x])
      · rw [if_pos rfl]
        exact fin 0 (by rw [if_neg (by rw [x]; decide)])
  · obtain ⟨z, x⟩ := s
    obtain ⟨ex, hn, hc⟩ := hs
    have ex : x = nI (dy_nN i) := ex
    subst ex
    have hn : yd_n q m σ z := hn
    have hN := ok.2.1
    have e2 : sn_I z q 2 = nI (dy_nN i) := (congrFun (hn.1 q (by omega)) 2).trans hT.2.1
    show yp (BX0_tickleByNets_55 z q (nI (6 * m)) A (nI (dy_nN i))) _
    unfold BX0_tickleByNets_55
    rw [e2, if_pos (nI_le (Nat.le_refl _) (by omega))]
    exact yp_some ⟨hn, hc⟩
theorem yc_nets (hm : m < 30) (hT : yd_T q σ i) (ok : dy_ok i) : yp (fX0_tickleByNets σ q (nI m)) (fun z => yd_n q m σ z ∧ ∀ p, p < dy_P i → z.1 (q + 8) (6 * m + p) = dy_by i (if m = 0 then 0 else σ.1 (q + 9) (m - 1)) p) := by
  have hP := ok.1
  unfold fX0_tickleByNets
  refine yp_lt ?_
  rw [yi_6]
  refine yp_bd (fun z => yd_n q m σ z ∧ ∀ p, p < dy_P i → z.1 (q + 8) (6 * m + p) = 0) (yp_for (dy_P i) (fun k s => s.2 = nI k ∧ yd_n q m σ s.1 ∧ ∀ p, p < k → s.1.1 (q + 8) (6 * m + p) = 0) (fun k s hk hs => ?_) (fun s hs => ?_) ⟨nI_0.symm, ⟨fun _ _ => rfl, rfl, fun _ _ => rfl⟩, fun p hp => absurd hp (by omega)⟩) (fun z hz => ?_)
  · obtain ⟨z, x⟩ := s
    obtain ⟨ex, hn, hc⟩ := hs
    have ex : x = nI k := ex
    subst ex
    have hn : yd_n q m σ z := hn
    have e1 : sn_I z q 1 = nI (dy_P i) := (congrFun (hn.1 q (by omega)) 1).trans hT.1
    show yp (BX0_tickleByNets_7 z q (nI m) (nI (6 * m)) (nI k)) _
    unfold BX0_tickleByNets_7
    rw [e1, if_neg (nI_ge hk (by omega)), nI_add, nI_clamp (show 6 * m + k < 2 ^ 31 by omega)]
    refine yp_gd (fun _ => yp_lt (yp_lt (yp_some ⟨nI_1 k, yd_nw (by omega) hn, fun p hp => ?_⟩)))
    show (sn_pI z (q + 8) (6 * m + k) 0).1 (q + 8) (6 * m + p) = 0
    by_cases c : p = k
    · subst c
      exact pI_self
    · rw [pI_slot (by omega)]
      exact hc p (by omega)
  · obtain ⟨z, x⟩ := s
    obtain ⟨ex, hn, hc⟩ := hs
    have ex : x = nI (dy_P i) := ex
    subst ex
    have hn : yd_n q m σ z := hn
    have e1 : sn_I z q 1 = nI (dy_P i) := (congrFun (hn.1 q (by omega)) 1).trans hT.1
    show yp (BX0_tickleByNets_7 z q (nI m) (nI (6 * m)) (nI (dy_P i))) _
    unfold BX0_tickleByNets_7
    rw [e1, if_pos (nI_le (Nat.le_refl _) (by omega))]
    exact yp_some ⟨hn, hc⟩
  · obtain ⟨hn, h0⟩ := hz
    have key : ∀ A : Int32, yp (BX0_tickleByNets_46 z q (nI (6 * m)) A) (fun z => yd_n q m σ z ∧ ∀ p, p < dy_P i → z.1 (q + 8) (6 * m + p) = dy_by i A p) := fun A => by
      unfold BX0_tickleByNets_46
      refine yp_ite (fun c => yp_some ⟨hn, fun p hp => ?_⟩) (fun _ => yp_bd _ (yc_loop hm hT ok hn h0) (fun u hu => ?_))
      · rw [h0 p hp, c, dy_by0 ok]
      · unfold BX0_tickleByNets_155
        exact yp_some hu
    unfold BX0_tickleByNets_30
    by_cases c : m = 0
    · subst c
      rw [if_pos nI_0, if_pos rfl]
      exact key 0
    · rw [if_neg (fun z => c ((yi_0 (by omega)).mp z)), if_neg c, yi_s1 (by omega), nI_clamp (show m - 1 < 2 ^ 31 by omega)]
      refine yp_gd (fun _ => ?_)
      have e9 : sn_I z (q + 9) (m - 1) = σ.1 (q + 9) (m - 1) := congrFun (hn.1 (q + 9) (by omega)) _
      rw [e9]
      exact key _
theorem yc_comes {p : Nat} (hm : m < 30) (hp : p < 6) : yp (fX0_comesTo σ q (nI p) (nI m)) (fun v => v = (σ.1 (q + 2) p * σ.1 (q + 1) m + σ.1 (q + 8) (6 * m + p)) + (if sp_bit (σ.1 (q + 5) p) m = true then 40 else 0)) := by
  have key : ∀ w : Int32, yp (BX0_comesTo_19 σ q (nI p) (nI m) w) (fun v => v = (σ.1 (q + 2) p * σ.1 (q + 1) m + σ.1 (q + 8) (6 * m + p)) + w) := fun w => by
    unfold BX0_comesTo_19 fX0_cameAt
    rw [yi_6, nI_add, nI_clamp (show 6 * m + p < 2 ^ 31 by omega), nI_clamp (show m < 2 ^ 31 by omega), nI_clamp (show p < 2 ^ 31 by omega)]
    exact yp_gd (fun _ => yp_gd (fun _ => yp_bd _ (yp_gd (fun _ => yp_eq rfl)) (fun u hu => yp_some (by rw [hu]; rfl))))
  unfold fX0_comesTo
  rw [nI_clamp (show p < 2 ^ 31 by omega), yb_c]
  refine yp_gd (fun _ => yp_bit (fun c => ?_) (fun c => ?_))
  · rw [if_neg (by decide), if_pos (show sp_bit (σ.1 (q + 5) p) m = true from c)]
    exact key 40
  · rw [if_pos rfl, if_neg (show ¬ sp_bit (σ.1 (q + 5) p) m = true by rw [show sp_bit (σ.1 (q + 5) p) m = false from c]; decide)]
    exact key 0
def yd_m (q m : Nat) (σ z : sn_S) : Prop := (∀ a, a ≠ q + 7 → a ≠ q + 9 → a ≠ q + 10 → z.1 a = σ.1 a) ∧ z.2 = σ.2 ∧ (∀ k, k < 6 * m → z.1 (q + 7) k = σ.1 (q + 7) k) ∧ ∀ k, k ≠ m → z.1 (q + 9) k = σ.1 (q + 9) k
theorem yc_min (hm : m < 30) (hT : yd_T q σ i) (ok : dy_ok i) {A : Int32} {t : Nat → Int32} (hA : ∀ p, p < dy_P i → σ.1 (q + 8) (6 * m + p) = dy_by i A p) (ht : ∀ p, p < dy_P i → (if m = 0 then 0 else σ.1 (q + 7) (6 * (m - 1) + p)) = t p) : yp (fX0_liveMinute σ q (nI m)) (fun z => yd_m q m σ z ∧ (∀ p, p < dy_P i → z.1 (q + 7) (6 * m + p) = if dy_does i (t p) A m p = true then 0 else t p + dy_more i A m p) ∧ z.1 (q + 9) m = dy_set (fun p => dy_does i (t p) A m p) (dy_P i) ∧ ∀ p, p < dy_P i → z.1 (q + 10) p = if dy_does i (t p) A m p = true then σ.1 (q + 10) p ||| ((1 : Int32) <<< (nI m &&& 31)) else σ.1 (q + 10) p) := by
  have hP := ok.1
  unfold fX0_liveMinute
  refine yp_lt ?_
  rw [yi_6]
  refine yp_bd (fun s => (yd_m q m σ s.1 ∧ s.1.1 (q + 9) = σ.1 (q + 9)) ∧ (∀ p, p < dy_P i → s.1.1 (q + 7) (6 * m + p) = if dy_does i (t p) A m p = true then 0 else t p + dy_more i A m p) ∧ s.2 = dy_set (fun p => dy_does i (t p) A m p) (dy_P i) ∧ ∀ p, s.1.1 (q + 10) p = if p < dy_P i ∧ dy_does i (t p) A m p = true then σ.1 (q + 10) p ||| ((1 : Int32) <<< (nI m &&& 31)) else σ.1 (q + 10) p)
    (yp_for (dy_P i) (fun k s => s.2.2 = nI k ∧ (yd_m q m σ s.1 ∧ s.1.1 (q + 9) = σ.1 (q + 9)) ∧ (∀ p, p < k → s.1.1 (q + 7) (6 * m + p) = if dy_does i (t p) A m p = true then 0 else t p + dy_more i A m p) ∧ s.2.1 = dy_set (fun p => dy_does i (t p) A m p) k ∧ ∀ p, s.1.1 (q + 10) p = if p < k ∧ dy_does i (t p) A m p = true then σ.1 (q + 10) p ||| ((1 : Int32) <<< (nI m &&& 31)) else σ.1 (q + 10) p) (fun k s hk hs => ?_) (fun s hs => ?_) ⟨nI_0.symm, ⟨⟨fun _ _ _ _ => rfl, rfl, fun _ _ => rfl, fun _ _ => rfl⟩, rfl⟩, fun p hp => absurd hp (by omega), rfl, fun p => by rw [if_neg (fun h => absurd h.1 (by omega))]⟩) (fun s hs => ?_)
  · obtain ⟨z, g, x⟩ := s
    obtain ⟨ex, ⟨hn, h9⟩, h7, hg, h10⟩ := hs
    have ex : x = nI k := ex
    subst ex
    have hg : g = dy_set (fun p => dy_does i (t p) A m p) k := hg
    subst hg
    have hn : yd_m q m σ z := hn
    have h9 : z.1 (q + 9) = σ.1 (q + 9) := h9
    have h7 : ∀ p, p < k → z.1 (q + 7) (6 * m + p) = if dy_does i (t p) A m p = true then 0 else t p + dy_more i A m p := h7
    have h10 : ∀ p, z.1 (q + 10) p = if p < k ∧ dy_does i (t p) A m p = true then σ.1 (q + 10) p ||| ((1 : Int32) <<< (nI m &&& 31)) else σ.1 (q + 10) p := h10
    obtain ⟨d2, d3, d4, d5⟩ := hT.2.2.2.2.1 k hk
    have e1 : sn_I z q 1 = nI (dy_P i) := (congrFun (hn.1 q (by omega) (by omega) (by omega)) 1).trans hT.1
    have e3 : sn_I z (q + 3) k = dy_lim i k := (congrFun (hn.1 (q + 3) (by omega) (by omega) (by omega)) k).trans d3
    have e4 : sn_I z (q + 4) k = dy_held i k := (congrFun (hn.1 (q + 4) (by omega) (by omega) (by omega)) k).trans d4
    have k1 : dy_set (fun p => dy_does i (t p) A m p) (k + 1) = if dy_does i (t k) A m k = true then dy_set (fun p => dy_does i (t p) A m p) k ||| ((1 : Int32) <<< (nI k &&& 31)) else dy_set (fun p => dy_does i (t p) A m p) k := rfl
    have s98 : ∀ (u : sn_S) (g v : Int32), yp (BX0_liveMinute_98 u q (nI m) (nI (6 * m)) g (nI k) v) (yp_sum (fun s' => s'.1 = sn_pI u (q + 7) (6 * m + k) v ∧ s'.2.1 = g ∧ s'.2.2 = nI (k + 1)) (fun _ => False)) := fun u g v => by
      unfold BX0_liveMinute_98
      rw [nI_add, nI_clamp (show 6 * m + k < 2 ^ 31 by omega)]
      exact yp_gd (fun _ => yp_lt (yp_lt (yp_some ⟨rfl, rfl, nI_1 k⟩)))
    have w7 : ∀ (u : sn_S) (v : Int32), (∀ a, a ≠ q + 10 → u.1 a = z.1 a) → u.2 = z.2 → (yd_m q m σ (sn_pI u (q + 7) (6 * m + k) v) ∧ (sn_pI u (q + 7) (6 * m + k) v).1 (q + 9) = σ.1 (q + 9)) ∧ (v = (if dy_does i (t k) A m k = true then 0 else t k + dy_more i A m k) → ∀ p, p < k + 1 → (sn_pI u (q + 7) (6 * m + k) v).1 (q + 7) (6 * m + p) = if dy_does i (t p) A m p = true then 0 else t p + dy_more i A m p) := fun u v hu hu2 => by
      refine ⟨⟨⟨fun a a1 a2 a3 => (pI_ne a1).trans ((hu a a3).trans (hn.1 a a1 a2 a3)), hu2.trans hn.2.1, fun j hj => (pI_slot (by omega)).trans ((congrFun (hu (q + 7) (by omega)) j).trans (hn.2.2.1 j hj)), fun j hj => (congrFun ((pI_ne (by omega)).trans (hu (q + 9) (by omega))) j).trans (hn.2.2.2 j hj)⟩, (pI_ne (by omega)).trans ((hu (q + 9) (by omega)).trans h9)⟩, fun hv p hp => ?_⟩
      by_cases c : p = k
      · subst c
        rw [pI_self]
        exact hv
      · rw [pI_slot (by omega), hu (q + 7) (by omega)]
        exact h7 p (by omega)
    have s46 : ∀ (a b : Int32), b + a = t k + dy_more i A m k → yp (BX0_liveMinute_46 z q (nI m) (nI (6 * m)) (dy_set (fun p => dy_does i (t p) A m p) k) (nI k) b a) (yp_sum (fun s : sn_S × Int32 × Int32 => s.2.2 = nI (k + 1) ∧ (yd_m q m σ s.1 ∧ s.1.1 (q + 9) = σ.1 (q + 9)) ∧ (∀ p, p < k + 1 → s.1.1 (q + 7) (6 * m + p) = if dy_does i (t p) A m p = true then 0 else t p + dy_more i A m p) ∧ s.2.1 = dy_set (fun p => dy_does i (t p) A m p) (k + 1) ∧ ∀ p, s.1.1 (q + 10) p = if p < k + 1 ∧ dy_does i (t p) A m p = true then σ.1 (q + 10) p ||| ((1 : Int32) <<< (nI m &&& 31)) else σ.1 (q + 10) p) (fun _ => False)) := fun a b hab => by
      have noS : ∀ x : Int32, x = t k + dy_more i A m k → dy_does i (t k) A m k = false → yp (BX0_liveMinute_98 z q (nI m) (nI (6 * m)) (dy_set (fun p => dy_does i (t p) A m p) k) (nI k) x) (yp_sum (fun s : sn_S × Int32 × Int32 => s.2.2 = nI (k + 1) ∧ (yd_m q m σ s.1 ∧ s.1.1 (q + 9) = σ.1 (q + 9)) ∧ (∀ p, p < k + 1 → s.1.1 (q + 7) (6 * m + p) = if dy_does i (t p) A m p = true then 0 else t p + dy_more i A m p) ∧ s.2.1 = dy_set (fun p => dy_does i (t p) A m p) (k + 1) ∧ ∀ p, s.1.1 (q + 10) p = if p < k + 1 ∧ dy_does i (t p) A m p = true then σ.1 (q + 10) p ||| ((1 : Int32) <<< (nI m &&& 31)) else σ.1 (q + 10) p) (fun _ => False)) := fun x hx hd => by
        refine yp_w (s98 z _ x) (fun o ho => ?_)
        cases o with
        | inr r => exact ho
        | inl s' =>
          obtain ⟨u, y, w⟩ := s'
          obtain ⟨eu, ey, ew⟩ := ho
          have eu : u = sn_pI z (q + 7) (6 * m + k) x := eu
          have ey : y = _ := ey
          subst eu
          subst ey
          obtain ⟨r1, r2⟩ := w7 z x (fun _ _ => rfl) rfl
          refine ⟨ew, r1, r2 (by rw [hd, if_neg (by decide)]; exact hx), ?_, fun p => ?_⟩
          · rw [k1, if_neg (by rw [hd]; decide)]
          · show (sn_pI z (q + 7) (6 * m + k) x).1 (q + 10) p = _
            rw [pI_ne (by omega), h10 p]
            by_cases c : p = k
            · subst c
              rw [if_neg (fun h => absurd h.1 (by omega)), if_neg (fun h => by rw [hd] at h; exact absurd h.2 (by decide))]
            · by_cases c2 : p < k
              · by_cases c3 : dy_does i (t p) A m p = true
                · rw [if_pos ⟨c2, c3⟩, if_pos ⟨by omega, c3⟩]
                · rw [if_neg (fun h => c3 h.2), if_neg (fun h => c3 h.2)]
              · rw [if_neg (fun h => c2 h.1), if_neg (fun h => by have := h.1; omega)]
      unfold BX0_liveMinute_46
      refine yp_lt (yp_gd (fun _ => ?_))
      rw [nI_clamp (show k < 2 ^ 31 by omega), e3, e4, hab]
      refine yp_ite (fun c => noS _ rfl ?_) (fun c => yp_gd (fun _ => ?_))
      · unfold dy_does
        rw [decide_eq_false (Int32.not_le.mpr c)]
        rfl
      · have c1 : dy_lim i k ≤ t k + dy_more i A m k := Int32.not_lt.mp c
        rw [yb_c]
        refine yp_bit (fun x => ?_) (fun x => ?_)
        · rw [if_neg (by decide)]
          refine noS _ rfl ?_
          unfold dy_does
          rw [x]
          exact Bool.and_false _
        · rw [if_pos rfl]
          have hd : dy_does i (t k) A m k = true := by
            unfold dy_does
            rw [x, decide_eq_true c1]
            rfl
          refine yp_lt (yp_gd (fun _ => yp_gd (fun _ => yp_lt ?_)))
          refine yp_w (s98 (sn_pI z (q + 10) k (sn_I z (q + 10) k ||| ((1 : Int32) <<< (nI m &&& 31)))) _ 0) (fun o ho => ?_)
          cases o with
          | inr r => exact ho
          | inl s' =>
            obtain ⟨u, y, w⟩ := s'
            obtain ⟨eu, ey, ew⟩ := ho
            have eu : u = sn_pI (sn_pI z (q + 10) k (sn_I z (q + 10) k ||| ((1 : Int32) <<< (nI m &&& 31)))) (q + 7) (6 * m + k) 0 := eu
            have ey : y = _ := ey
            subst eu
            subst ey
            obtain ⟨r1, r2⟩ := w7 (sn_pI z (q + 10) k (sn_I z (q + 10) k ||| ((1 : Int32) <<< (nI m &&& 31)))) 0 (fun a ha => pI_ne ha) rfl
            refine ⟨ew, r1, r2 (by rw [hd, if_pos rfl]), ?_, fun p => ?_⟩
            · rw [k1, if_pos hd]
            · show (sn_pI (sn_pI z (q + 10) k (z.1 (q + 10) k ||| ((1 : Int32) <<< (nI m &&& 31)))) (q + 7) (6 * m + k) 0).1 (q + 10) p = _
              rw [pI_ne (by omega)]
              by_cases c : p = k
              · subst c
                rw [pI_self, h10 p, if_neg (fun h => absurd h.1 (by omega)), if_pos ⟨by omega, hd⟩]
              · rw [pI_slot c, h10 p]
                by_cases c2 : p < k
                · by_cases c3 : dy_does i (t p) A m p = true
                  · rw [if_pos ⟨c2, c3⟩, if_pos ⟨by omega, c3⟩]
                  · rw [if_neg (fun h => c3 h.2), if_neg (fun h => c3 h.2)]
                · rw [if_neg (fun h => c2 h.1), if_neg (fun h => by have := h.1; omega)]
    show yp (BX0_liveMinute_10 z q (nI m) (nI (6 * m)) _ (nI k)) _
    unfold BX0_liveMinute_10
    rw [e1, if_neg (nI_ge hk (by omega))]
    refine yp_bd _ (yc_comes hm (by omega)) (fun v hv => ?_)
    have ev : v = dy_more i A m k := by
      rw [hv, congrFun (hn.1 (q + 2) (by omega) (by omega) (by omega)) k, congrFun (hn.1 (q + 1) (by omega) (by omega) (by omega)) m, congrFun (hn.1 (q + 8) (by omega) (by omega) (by omega)) (6 * m + k), congrFun (hn.1 (q + 5) (by omega) (by omega) (by omega)) k, d2, d5, hT.2.2.2.1 m hm, hA k hk]
      rfl
    subst ev
    have htk := ht k hk
    by_cases c : m = 0
    · subst c
      rw [if_pos nI_0]
      refine s46 0 _ ?_
      rw [if_pos rfl] at htk
      rw [← htk]
      exact Int32.add_comm _ _
    · rw [if_neg (fun z => c ((yi_0 (by omega)).mp z)), yi_s6 (show 6 ≤ 6 * m by omega), nI_add, nI_clamp (show 6 * m - 6 + k < 2 ^ 31 by omega)]
      refine yp_gd (fun _ => ?_)
      rw [if_neg c] at htk
      have e7 : sn_I z (q + 7) (6 * m - 6 + k) = t k := by
        rw [← htk, show 6 * m - 6 + k = 6 * (m - 1) + k by omega]
        exact hn.2.2.1 _ (by omega)
      rw [e7]
      exact s46 _ _ (Int32.add_comm _ _)
  · obtain ⟨z, g, x⟩ := s
    obtain ⟨ex, hn, h7, hg, h10⟩ := hs
    have ex : x = nI (dy_P i) := ex
    subst ex
    have e1 : sn_I z q 1 = nI (dy_P i) := (congrFun (hn.1.1 q (by omega) (by omega) (by omega)) 1).trans hT.1
    show yp (BX0_liveMinute_10 z q (nI m) (nI (6 * m)) g (nI (dy_P i))) _
    unfold BX0_liveMinute_10
    rw [e1, if_pos (nI_le (Nat.le_refl _) (by omega))]
    exact yp_some ⟨hn, h7, hg, h10⟩
  · obtain ⟨⟨hn, h9⟩, h7, hg, h10⟩ := hs
    unfold BX0_liveMinute_115
    rw [nI_clamp (show m < 2 ^ 31 by omega)]
    refine yp_gd (fun _ => yp_lt (yp_some ⟨⟨fun a a1 a2 a3 => (pI_ne a2).trans (hn.1 a a1 a2 a3), hn.2.1, fun j hj => (congrFun (pI_ne (by omega)) j).trans (hn.2.2.1 j hj), fun j hj => (pI_slot hj).trans (hn.2.2.2 j hj)⟩, fun p hp => ?_, ?_, fun p hp => ?_⟩))
    · rw [pI_ne (by omega)]
      exact h7 p hp
    · rw [pI_self]
      exact hg
    · rw [pI_ne (by omega), h10 p]
      by_cases c3 : dy_does i (t p) A m p = true
      · rw [if_pos ⟨hp, c3⟩, if_pos c3]
      · rw [if_neg (fun h => c3 h.2), if_neg c3]
end
/-- lived up to minute e -/
def yd_L0 (q : Nat) (σ : sn_S) (i : dy_I) (e : Nat) : Prop := ∀ m, m < e → σ.1 (q + 9) m = dy_who i m ∧ ∀ p, p < dy_P i → σ.1 (q + 7) (6 * m + p) = dy_tick i m p ∧ σ.1 (q + 8) (6 * m + p) = dy_came i m p
def yd_L (q : Nat) (σ : sn_S) (i : dy_I) (e : Nat) : Prop := yd_L0 q σ i e ∧ ∀ p, p < dy_P i → σ.1 (q + 10) p = dy_sn i e p
def yd_fr (q : Nat) (σ z : sn_S) : Prop := (∀ a, (a < q + 7 ∨ q + 10 < a) → z.1 a = σ.1 a) ∧ z.2 = σ.2
theorem yc_live {q f t M : Nat} {σ : sn_S} {i : dy_I} (h0 : σ.1 q 0 = nI M) (hM : M ≤ 30) (hT : yd_T q σ i) (ok : dy_ok i) (hft : f ≤ t) (htM : t ≤ M) (hL : yd_L0 q σ i f) (hS : ∀ p, p < dy_P i → σ.1 (q + 10) p &&& (((1 : Int32) <<< (nI f &&& 31)) - 1) = dy_sn i f p) : yp (fX0_live σ q (nI f) (nI t)) (fun z => yd_fr q σ z ∧ yd_L q z i t) := by
  have hP := ok.1
  unfold fX0_live
  refine yp_bd (fun z => (∀ a, a ≠ q + 10 → z.1 a = σ.1 a) ∧ z.2 = σ.2 ∧ ∀ p, p < dy_P i → z.1 (q + 10) p = dy_sn i f p) (yp_for (dy_P i) (fun k s => s.2 = nI k ∧ (∀ a, a ≠ q + 10 → s.1.1 a = σ.1 a) ∧ s.1.2 = σ.2 ∧ (∀ p, p < k → s.1.1 (q + 10) p = dy_sn i f p) ∧ ∀ p, k ≤ p → s.1.1 (q + 10) p = σ.1 (q + 10) p) (fun k s hk hs => ?_) (fun s hs => ?_) ⟨nI_0.symm, fun _ _ => rfl, rfl, fun p hp => absurd hp (by omega), fun _ _ => rfl⟩) (fun z hz => ?_)
  · obtain ⟨z, x⟩ := s
    obtain ⟨ex, h1, h2, h3, h4⟩ := hs
    have ex : x = nI k := ex
    subst ex
    have h1 : ∀ a, a ≠ q + 10 → z.1 a = σ.1 a := h1
    have h3 : ∀ p, p < k → z.1 (q + 10) p = dy_sn i f p := h3
    have h4 : ∀ p, k ≤ p → z.1 (q + 10) p = σ.1 (q + 10) p := h4
    have e1 : sn_I z q 1 = nI (dy_P i) := (congrFun (h1 q (by omega)) 1).trans hT.1
    show yp (BX0_live_2 z q (nI f) (nI t) (nI k)) _
    unfold BX0_live_2 fX8_firstMinutes
    rw [e1, if_neg (nI_ge hk (by omega)), nI_clamp (show k < 2 ^ 31 by omega)]
    refine yp_gd (fun _ => yp_bs rfl (yp_gd (fun _ => yp_lt (yp_lt (yp_some ⟨nI_1 k, fun a ha => (pI_ne ha).trans (h1 a ha), h2, fun p hp => ?_, fun p hp => ?_⟩)))))
    · by_cases c : p = k
      · subst c
        show (sn_pI z (q + 10) p (z.1 (q + 10) p &&& _)).1 (q + 10) p = _
        rw [pI_self, h4 p (Nat.le_refl _)]
        exact hS p hk
      · show (sn_pI z (q + 10) k _).1 (q + 10) p = _
        rw [pI_slot c]
        exact h3 p (by omega)
    · show (sn_pI z (q + 10) k _).1 (q + 10) p = _
      rw [pI_slot (by omega)]
      exact h4 p (by omega)
  · obtain ⟨z, x⟩ := s
    obtain ⟨ex, h1, h2, h3, h4⟩ := hs
    have ex : x = nI (dy_P i) := ex
    subst ex
    have h1 : ∀ a, a ≠ q + 10 → z.1 a = σ.1 a := h1
    have e1 : sn_I z q 1 = nI (dy_P i) := (congrFun (h1 q (by omega)) 1).trans hT.1
    show yp (BX0_live_2 z q (nI f) (nI t) (nI (dy_P i))) _
    unfold BX0_live_2
    rw [e1, if_pos (nI_le (Nat.le_refl _) (by omega))]
    exact yp_some ⟨h1, h2, h3⟩
  · obtain ⟨h1, h2, h3⟩ := hz
    unfold BX0_live_29
    have last : ∀ u : sn_S, yd_fr q σ u → yd_L q u i t → yp (BX0_live_31 u q (nI t) (nI t)) (yp_sum (fun _ : sn_S × Int32 => False) (fun z => yd_fr q σ z ∧ yd_L q z i t)) := fun u g1 g2 => by
      unfold BX0_live_31
      rw [if_pos (nI_le (Nat.le_refl _) (by omega))]
      exact yp_some ⟨g1, g2⟩
    refine yp_bd (fun z => yd_fr q σ z ∧ yd_L q z i t) (yp_for0 f t hft (fun k s => s.2 = nI k ∧ yd_fr q σ s.1 ∧ yd_L q s.1 i k) (fun k s hk1 hk hs => ?_) (fun s hs => ?_) ⟨rfl, ⟨fun a ha => h1 a (by omega), h2⟩, ⟨fun m hm => ?_, h3⟩⟩) (fun u hu => ?_)
    · obtain ⟨u, x⟩ := s
      obtain ⟨ex, hf, hl⟩ := hs
      have ex : x = nI k := ex
      subst ex
      have hf : yd_fr q σ u := hf
      have hl : yd_L q u i k := hl
      have e0 : sn_I u q 0 = nI M := (congrFun (hf.1 q (by omega)) 0).trans h0
      have hTu : yd_T q u i := yd_Tc (fun a _ ha => hf.1 a (by omega)) hT
      show yp (BX0_live_31 u q (nI t) (nI k)) _
      unfold BX0_live_31
      rw [e0, if_neg (nI_ge hk (by omega)), if_neg (nI_ge (show k < M by omega) (by omega))]
      have eA : (if k = 0 then 0 else u.1 (q + 9) (k - 1)) = (dy_st i k).2 := by
        rw [dy_ahead]
        by_cases c : k = 0
        · rw [if_pos c, if_pos c]
        · rw [if_neg c, if_neg c]
          exact (hl.1 (k - 1) (by omega)).1
      refine yp_bd _ (yc_nets (show k < 30 by omega) hTu ok) (fun v hv => ?_)
      obtain ⟨v1, v2⟩ := hv
      rw [eA] at v2
      have hTv : yd_T q v i := yd_Tc (fun a _ ha => v1.1 a (by omega)) hTu
      have ht : ∀ p, p < dy_P i → (if k = 0 then 0 else v.1 (q + 7) (6 * (k - 1) + p)) = (dy_st i k).1 p := fun p hp => by
        rw [dy_prev]
        by_cases c : k = 0
        · rw [if_pos c, if_pos c]
        · rw [if_neg c, if_neg c, v1.1 (q + 7) (by omega)]
          exact ((hl.1 (k - 1) (by omega)).2 p hp).1
      refine yp_bd _ (yc_min (show k < 30 by omega) hTv ok v2 ht) (fun w hw => ?_)
      obtain ⟨w1, w2, w3, w4⟩ := hw
      refine yp_lt (yp_some ⟨nI_1 k, ⟨fun a ha => (w1.1 a (by omega) (by omega) (by omega)).trans ((v1.1 a (by omega)).trans (hf.1 a ha)), w1.2.1.trans (v1.2.1.trans hf.2)⟩, fun m hm => ?_, fun p hp => ?_⟩)
      · by_cases c : m = k
        · subst c
          exact ⟨w3, fun p hp => ⟨w2 p hp, (congrFun (w1.1 (q + 8) (by omega) (by omega) (by omega)) _).trans (v2 p hp)⟩⟩
        · have g := hl.1 m (by omega)
          refine ⟨?_, fun p hp => ⟨?_, ?_⟩⟩
          · show w.1 (q + 9) m = _
            rw [w1.2.2.2 m c, v1.1 (q + 9) (by omega)]
            exact g.1
          · show w.1 (q + 7) (6 * m + p) = _
            rw [w1.2.2.1 _ (by omega), v1.1 (q + 7) (by omega)]
            exact (g.2 p hp).1
          · show w.1 (q + 8) (6 * m + p) = _
            rw [w1.1 (q + 8) (by omega) (by omega) (by omega), v1.2.2 _ (by omega)]
            exact (g.2 p hp).2
      · show w.1 (q + 10) p = if dy_does i ((dy_st i k).1 p) (dy_st i k).2 k p = true then dy_sn i k p ||| ((1 : Int32) <<< (nI k &&& 31)) else dy_sn i k p
        rw [w4 p hp, v1.1 (q + 10) (by omega), hl.2 p hp]
    · obtain ⟨u, x⟩ := s
      obtain ⟨ex, hf, hl⟩ := hs
      have ex : x = nI t := ex
      subst ex
      exact last u hf hl
    · have g := hL m hm
      rw [h1 (q + 9) (by omega), h1 (q + 7) (by omega), h1 (q + 8) (by omega)]
      exact g
    · unfold BX0_live_60
      exact yp_some hu
theorem yb_and0 (x : Int32) : x &&& (((1 : Int32) <<< (nI 0 &&& 31)) - 1) = 0 := by
  rw [show (((1 : Int32) <<< (nI 0 &&& 31)) - 1) = 0 by decide]
  exact Int32.and_zero
theorem yc_whole {q M : Nat} {σ : sn_S} {i : dy_I} (h0 : σ.1 q 0 = nI M) (hM : M ≤ 30) (hT : yd_T q σ i) (ok : dy_ok i) : yp (fX0_liveWhole σ q) (fun z => yd_fr q σ z ∧ yd_L q z i M) := by
  unfold fX0_liveWhole
  rw [show sn_I σ q 0 = nI M from h0]
  refine yp_bd _ (yc_live (f := 0) (t := M) h0 hM hT ok (Nat.zero_le _) (Nat.le_refl _) (fun m hm => absurd hm (by omega)) (fun p _ => ?_)) (fun u hu => yp_some hu)
  rw [yb_and0]
  rfl
theorem yd_TE {q n : Nat} {σ : sn_S} {i j : dy_I} (h : dy_E n i j) (hT : yd_T q σ i) : yd_T q σ j := by
  obtain ⟨a1, a2, a3, a4, a5, a6⟩ := hT
  refine ⟨by rw [← h.1]; exact a1, by rw [← h.2.1]; exact a2, by rw [← h.2.2.1]; exact a3, fun m hm => by rw [← h.2.2.2.2.1 m]; exact a4 m hm, fun p hp => ?_, fun k hk => ?_⟩
  · rw [← h.1] at hp
    obtain ⟨b1, b2, b3, b4⟩ := h.2.2.2.1 p hp
    rw [← b1, ← b2, ← b3, ← b4]
    exact a5 p hp
  · rw [← h.2.1] at hk
    obtain ⟨b1, b2⟩ := h.2.2.2.2.2 k hk
    rw [← b1, ← b2]
    exact a6 k hk
theorem yd_LE {q n e : Nat} {σ : sn_S} {i j : dy_I} (h : dy_E n i j) (hL : yd_L q σ i e) : yd_L q σ j e := by
  refine ⟨fun m hm => ?_, fun p hp => ?_⟩
  · have g := hL.1 m hm
    have g1 : dy_who j m = dy_who i m := ((dy_stE h (m + 1)).2).symm
    refine ⟨by rw [g1]; exact g.1, fun p hp => ?_⟩
    rw [← h.1] at hp
    have g2 : dy_tick j m p = dy_tick i m p := ((dy_stE h (m + 1)).1 p hp).symm
    have g3 : dy_came j m p = dy_came i m p := by
      unfold dy_came
      rw [← (dy_stE h m).2, dy_byE h]
    rw [g2, g3]
    exact g.2 p hp
  · rw [← h.1] at hp
    rw [← dy_snE h e hp]
    exact hL.2 p hp
end
section
/-! the reference lives a day -/
def ym_T (τ : sn_S) (i : dy_I) : Prop := τ.1 1 5 = nI (dy_P i) ∧ τ.1 1 7 = nI (dy_nN i) ∧ τ.1 0 19 = dy_no i ∧ (∀ m, m < 30 → τ.1 7 m = dy_dust i m) ∧ (∀ p, p < dy_P i → τ.1 1 (11 + 2 * p) = dy_keen i p ∧ τ.1 1 (12 + 2 * p) = dy_lim i p ∧ τ.1 8 p = dy_held i p ∧ τ.1 9 p = dy_snuf i p) ∧ ∀ k, k < dy_nN i → τ.1 1 (33 + 2 * k) = nI (dy_na i k) ∧ τ.1 1 (34 + 2 * k) = nI (dy_nb i k)
theorem ym_Tc {τ z : sn_S} {i : dy_I} (h : ∀ a, a < 10 → z.1 a = τ.1 a) (hT : ym_T τ i) : ym_T z i := by
  unfold ym_T
  rw [h 1 (by omega), h 0 (by omega), h 7 (by omega), h 8 (by omega), h 9 (by omega)]
  exact hT
theorem yi_11 (k : Nat) : (11 : Int32) + (2 : Int32) * nI k = nI (11 + 2 * k) := by rw [yi_2]; exact nI_add 11 _
theorem yi_12 (k : Nat) : ((11 : Int32) + (2 : Int32) * nI k) + 1 = nI (12 + 2 * k) := by
  rw [yi_11, nI_1]
  exact congrArg nI (by omega)
theorem yi_33 (k : Nat) : (33 : Int32) + (2 : Int32) * nI k = nI (33 + 2 * k) := by rw [yi_2]; exact nI_add 33 _
theorem yi_34 (k : Nat) : ((33 : Int32) + (2 : Int32) * nI k) + 1 = nI (34 + 2 * k) := by
  rw [yi_33, nI_1]
  exact congrArg nI (by omega)
section
variable {τ : sn_S} {i : dy_I} {m : Nat}
theorem ym_nets (hT : ym_T τ i) (ok : dy_ok i) {p : Nat} (hp : p < 6) (A : Int32) : yp (fX9_netsTo τ (nI p) A) (fun v => v = nI (dy_cnt (dy_na i) (dy_nb i) (dy_no i) p A (dy_nN i))) := by
  have hN := ok.2.1
  unfold fX9_netsTo
  refine yp_bd (fun v => v = nI (dy_cnt (dy_na i) (dy_nb i) (dy_no i) p A (dy_nN i))) (yp_for (dy_nN i) (fun k s => s.2 = nI k ∧ s.1 = nI (dy_cnt (dy_na i) (dy_nb i) (dy_no i) p A k)) (fun k s hk hs => ?_) (fun s hs => ?_) ⟨nI_0.symm, nI_0.symm⟩) (fun v hv => ?_)
  · obtain ⟨c, x⟩ := s
    obtain ⟨ex, ec⟩ := hs
    have ex : x = nI k := ex
    have ec : c = nI (dy_cnt (dy_na i) (dy_nb i) (dy_no i) p A k) := ec
    subst ex
    subst ec
    obtain ⟨ha, hb, hab⟩ := ok.2.2 k hk
    obtain ⟨ea, eb⟩ := hT.2.2.2.2.2 k hk
    have e7 : sn_I τ 1 (7 : Int32).toNatClampNeg = nI (dy_nN i) := hT.2.1
    have e19 : sn_I τ 0 19 = dy_no i := hT.2.2.1
    have fa : sn_I τ 1 (33 + 2 * k) = nI (dy_na i k) := ea
    have fb : sn_I τ 1 (34 + 2 * k) = nI (dy_nb i k) := eb
    have l91 : ∀ c : Int32, yp (BX9_netsTo_91 τ (nI p) A c (nI k)) (yp_sum (fun s' => s'.2 = nI (k + 1) ∧ s'.1 = c) (fun _ => False)) := fun c => by
      unfold BX9_netsTo_91
      exact yp_lt (yp_some ⟨nI_1 k, rfl⟩)
    have k1 : ∀ b : Bool, (b = true ↔ ¬ nI k = dy_no i ∧ ((dy_na i k = p ∧ sp_bit A (dy_nb i k) = true) ∨ (dy_nb i k = p ∧ sp_bit A (dy_na i k) = true))) → dy_cnt (dy_na i) (dy_nb i) (dy_no i) p A (k + 1) = dy_cnt (dy_na i) (dy_nb i) (dy_no i) p A k + (if b = true then 1 else 0) := fun b hb => by
      show dy_cnt (dy_na i) (dy_nb i) (dy_no i) p A k + (if _ then 1 else 0) = _
      by_cases c : b = true
      · rw [if_pos c, if_pos (hb.mp c)]
      · rw [if_neg c, if_neg (fun x => c (hb.mpr x))]
    have no : (¬ (¬ nI k = dy_no i ∧ ((dy_na i k = p ∧ sp_bit A (dy_nb i k) = true) ∨ (dy_nb i k = p ∧ sp_bit A (dy_na i k) = true)))) → yp (BX9_netsTo_91 τ (nI p) A (nI (dy_cnt (dy_na i) (dy_nb i) (dy_no i) p A k)) (nI k)) (yp_sum (fun s' => s'.2 = nI (k + 1) ∧ s'.1 = nI (dy_cnt (dy_na i) (dy_nb i) (dy_no i) p A (k + 1))) (fun _ => False)) := fun hc => by
      have e := k1 false ⟨fun x => absurd x (by decide), fun x => absurd x hc⟩
      rw [if_neg (by decide)] at e
      rw [e]
      exact l91 _
    have yes : (¬ nI k = dy_no i ∧ ((dy_na i k = p ∧ sp_bit A (dy_nb i k) = true) ∨ (dy_nb i k = p ∧ sp_bit A (dy_na i k) = true))) → yp (BX9_netsTo_88 τ (nI p) A (nI (dy_cnt (dy_na i) (dy_nb i) (dy_no i) p A k)) (nI k)) (yp_sum (fun s' => s'.2 = nI (k + 1) ∧ s'.1 = nI (dy_cnt (dy_na i) (dy_nb i) (dy_no i) p A (k + 1))) (fun _ => False)) := fun hc => by
      have e := k1 true ⟨fun _ => hc, fun _ => rfl⟩
      rw [if_pos rfl] at e
      rw [e]
      unfold BX9_netsTo_88
      refine yp_lt ?_
      rw [nI_1]
      exact l91 _
    show yp (BX9_netsTo_5 τ (nI p) A _ (nI k)) _
    unfold BX9_netsTo_5
    rw [e7, if_neg (nI_ge hk (by omega)), yi_34, yi_33, nI_clamp (show 33 + 2 * k < 2 ^ 31 by omega), nI_clamp (show 34 + 2 * k < 2 ^ 31 by omega), fa, fb, e19]
    refine yp_gd (fun _ => yp_gd (fun _ => yp_lt (yp_gd (fun _ => yp_lt (yp_ite (fun c => ?_) (fun c => ?_))))))
    · exact no (fun h => h.1 c)
    · have l72 : ¬ (dy_na i k = p ∧ sp_bit A (dy_nb i k) = true) → yp (BX9_netsTo_72 τ (nI p) A (nI (dy_cnt (dy_na i) (dy_nb i) (dy_no i) p A k)) (nI k) (nI (dy_na i k)) (nI (dy_nb i k))) (yp_sum (fun s' => s'.2 = nI (k + 1) ∧ s'.1 = nI (dy_cnt (dy_na i) (dy_nb i) (dy_no i) p A (k + 1))) (fun _ => False)) := fun h1 => by
        unfold BX9_netsTo_72
        refine yp_ite (fun c2 => ?_) (fun c2 => no (fun h => h.2.elim h1 (fun g => c2 (by rw [g.1]))))
        have c2 := (nI_eq (by omega) (by omega)).mp c2
        rw [yb_m]
        refine yp_bit (fun x => ?_) (fun x => ?_)
        · rw [if_pos rfl]
          exact yes ⟨c, Or.inr ⟨c2, x⟩⟩
        · rw [if_neg (by decide)]
          exact no (fun h => h.2.elim h1 (fun g => by rw [x] at g; exact absurd g.2 (by decide)))
      refine yp_ite (fun c2 => ?_) (fun c2 => l72 (fun h => c2 (by rw [h.1])))
      have c2 := (nI_eq (by omega) (by omega)).mp c2
      rw [yb_m]
      refine yp_bit (fun x => ?_) (fun x => ?_)
      · rw [if_pos rfl]
        exact yes ⟨c, Or.inl ⟨c2, x⟩⟩
      · rw [if_neg (by decide)]
        exact l72 (fun h => by rw [x] at h; exact absurd h.2 (by decide))
  · obtain ⟨c, x⟩ := s
    obtain ⟨ex, ec⟩ := hs
    have ex : x = nI (dy_nN i) := ex
    subst ex
    have e7 : sn_I τ 1 (7 : Int32).toNatClampNeg = nI (dy_nN i) := hT.2.1
    show yp (BX9_netsTo_5 τ (nI p) A c (nI (dy_nN i))) _
    unfold BX9_netsTo_5
    rw [e7, if_pos (nI_le (Nat.le_refl _) (by omega))]
    exact yp_gd (fun _ => yp_some ec)
  · unfold BX9_netsTo_97
    exact yp_some hv
/-- what a minute leaves as it was -/
def ym_m (m : Nat) (τ z : sn_S) : Prop := (∀ a, a < 10 ∨ 14 < a → z.1 a = τ.1 a) ∧ z.2 = τ.2 ∧ (∀ k, k < 6 * m → z.1 12 k = τ.1 12 k ∧ z.1 13 k = τ.1 13 k) ∧ ∀ k, k ≠ m → z.1 11 k = τ.1 11 k
def ym_I (i : dy_I) (m k : Nat) (A : Int32) (t : Nat → Int32) (τ z : sn_S) : Prop := ym_m m τ z ∧ (∀ p, p < k → z.1 12 (6 * m + p) = (if dy_does i (t p) A m p = true then 0 else t p + dy_more i A m p) ∧ z.1 13 (6 * m + p) = dy_more i A m p) ∧ z.1 11 m = dy_set (fun p => dy_does i (t p) A m p) k ∧ (∀ p, z.1 10 p = if p < k ∧ dy_does i (t p) A m p = true then τ.1 10 p ||| ((1 : Int32) <<< (nI m &&& 31)) else τ.1 10 p) ∧ ∀ p, z.1 14 p = if p < k then τ.1 14 p + dy_by i A p else τ.1 14 p
theorem ym_end {k : Nat} {A : Int32} {t : Nat → Int32} {z u : sn_S} {w : Int32} (hm : m < 30) (hk : k < 6) (hI : ym_I i m k A t τ z) (hu : u = sn_pI (sn_pI z 14 k (z.1 14 k + dy_by i A k)) 13 (6 * m + k) (dy_more i A m k)) {x1 x2 x7 : Int32} (h7 : x7 = if dy_does i (t k) A m k = true then 1 else 0) (hw : w = if dy_does i (t k) A m k = true then 0 else t k + dy_more i A m k) : yp (BX9_goMinute_192 u (nI m) x2 (nI k) x7 (nI (6 * m + k)) w) (yp_sum (fun s' => s'.2 = nI (k + 1) ∧ ym_I i m (k + 1) A t τ s'.1) (fun _ => False)) := by
  obtain ⟨hn, hp, hg, h10, h14⟩ := hI
  have k1 : dy_set (fun p => dy_does i (t p) A m p) (k + 1) = if dy_does i (t k) A m k = true then dy_set (fun p => dy_does i (t p) A m p) k ||| ((1 : Int32) <<< (nI k &&& 31)) else dy_set (fun p => dy_does i (t p) A m p) k := rfl
  have base : ∀ v : sn_S, (∀ a, a ≠ 10 → a ≠ 11 → v.1 a = (sn_pI u 12 (6 * m + k) w).1 a) → v.2 = u.2 → (∀ j, j ≠ m → v.1 11 j = z.1 11 j) → v.1 11 m = dy_set (fun p => dy_does i (t p) A m p) (k + 1) → (∀ p, v.1 10 p = if p < k + 1 ∧ dy_does i (t p) A m p = true then τ.1 10 p ||| ((1 : Int32) <<< (nI m &&& 31)) else τ.1 10 p) → ym_I i m (k + 1) A t τ v := fun v v1 v2 v3 v4 v5 => by
    refine ⟨⟨fun a ha => ?_, ?_, fun j hj => ⟨?_, ?_⟩, fun j hj => (v3 j hj).trans (hn.2.2.2 j hj)⟩, fun p hp2 => ?_, v4, v5, fun p => ?_⟩
    · rw [v1 a (by omega) (by omega), pI_ne (by omega), hu, pI_ne (by omega), pI_ne (by omega)]
      exact hn.1 a ha
    · rw [v2, hu]
      exact hn.2.1
    · rw [v1 12 (by decide) (by decide), pI_slot (by omega), hu, pI_ne (by decide), pI_ne (by decide)]
      exact (hn.2.2.1 j hj).1
    · rw [v1 13 (by decide) (by decide), pI_ne (by decide), hu, pI_slot (by omega), pI_ne (by decide)]
      exact (hn.2.2.1 j hj).2
    · by_cases c : p = k
      · subst c
        refine ⟨?_, ?_⟩
        · rw [v1 12 (by decide) (by decide), pI_self]
          exact hw
        · rw [v1 13 (by decide) (by decide), pI_ne (by decide), hu, pI_self]
      · have g := hp p (by omega)
        refine ⟨?_, ?_⟩
        · rw [v1 12 (by decide) (by decide), pI_slot (by omega), hu, pI_ne (by decide), pI_ne (by decide)]
          exact g.1
        · rw [v1 13 (by decide) (by decide), pI_ne (by decide), hu, pI_slot (by omega), pI_ne (by decide)]
          exact g.2
    · rw [v1 14 (by decide) (by decide), pI_ne (by decide), hu, pI_ne (by decide)]
      by_cases c : p = k
      · subst c
        rw [pI_self, if_pos (by omega), h14 p, if_neg (by omega)]
      · rw [pI_slot c, h14 p]
        by_cases c2 : p < k
        · rw [if_pos c2, if_pos (by omega)]
        · rw [if_neg c2, if_neg (by omega)]
  have u11 : u.1 11 = z.1 11 := by rw [hu, pI_ne (by decide), pI_ne (by decide)]
  have u10 : u.1 10 = z.1 10 := by rw [hu, pI_ne (by decide), pI_ne (by decide)]
  unfold BX9_goMinute_192
  rw [nI_clamp (show 6 * m + k < 2 ^ 31 by omega), nI_clamp (show m < 2 ^ 31 by omega), nI_clamp (show k < 2 ^ 31 by omega)]
  refine yp_gd (fun _ => yp_lt ?_)
  by_cases c : dy_does i (t k) A m k = true
  · rw [if_pos c] at h7
    rw [h7, if_neg (by decide)]
    refine yp_gd (fun _ => yp_gd (fun _ => yp_lt (yp_gd (fun _ => yp_gd (fun _ => yp_lt ?_)))))
    unfold BX9_goMinute_225
    refine yp_lt (yp_some ⟨nI_1 k, base _ (fun a a1 a2 => (pI_ne a1).trans (pI_ne a2)) rfl (fun j hj => ?_) ?_ (fun p => ?_)⟩)
    · rw [pI_ne (by decide), pI_slot hj, pI_ne (by decide), u11]
    · rw [pI_ne (by decide), pI_self, k1, if_pos c]
      show (sn_pI u 12 (6 * m + k) w).1 11 m ||| _ = _
      rw [pI_ne (by decide), u11, hg]
    · show (sn_pI (sn_pI (sn_pI u 12 (6 * m + k) w) 11 m _) 10 k ((sn_pI (sn_pI u 12 (6 * m + k) w) 11 m _).1 10 k ||| _)).1 10 p = _
      by_cases e : p = k
      · subst e
        rw [pI_self, pI_ne (by decide), pI_ne (by decide), u10, h10 p, if_neg (fun h => absurd h.1 (by omega)), if_pos ⟨by omega, c⟩]
      · rw [pI_slot e, pI_ne (by decide), pI_ne (by decide), u10, h10 p]
        by_cases c2 : p < k
        · by_cases c3 : dy_does i (t p) A m p = true
          · rw [if_pos ⟨c2, c3⟩, if_pos ⟨by omega, c3⟩]
          · rw [if_neg (fun h => c3 h.2), if_neg (fun h => c3 h.2)]
        · rw [if_neg (fun h => c2 h.1), if_neg (fun h => by have := h.1; omega)]
  · rw [if_neg c] at h7
    rw [h7, if_pos rfl]
    unfold BX9_goMinute_225
    refine yp_lt (yp_some ⟨nI_1 k, base _ (fun a _ _ => rfl) rfl (fun j hj => ?_) ?_ (fun p => ?_)⟩)
    · rw [pI_ne (by decide), u11]
    · rw [pI_ne (by decide), u11, k1, if_neg c, hg]
    · rw [pI_ne (by decide), u10, h10 p]
      by_cases e : p = k
      · subst e
        rw [if_neg (fun h => absurd h.1 (by omega)), if_neg (fun h => c h.2)]
      · by_cases c2 : p < k
        · by_cases c3 : dy_does i (t p) A m p = true
          · rw [if_pos ⟨c2, c3⟩, if_pos ⟨by omega, c3⟩]
          · rw [if_neg (fun h => c3 h.2), if_neg (fun h => c3 h.2)]
        · rw [if_neg (fun h => c2 h.1), if_neg (fun h => by have := h.1; omega)]
theorem ym_person {k : Nat} {A : Int32} {t : Nat → Int32} {z : sn_S} (hm : m < 30) (hk : k < dy_P i) (hT : ym_T τ i) (ok : dy_ok i) (ht : (if m = 0 then 0 else τ.1 12 (6 * (m - 1) + k)) = t k) (hI : ym_I i m k A t τ z) : yp (BX9_goMinute_26 z (nI m) A (nI k)) (yp_sum (fun s' => s'.2 = nI (k + 1) ∧ ym_I i m (k + 1) A t τ s'.1) (fun _ => False)) := by
  have hP := ok.1
  have hn := hI.1
  have hTz : ym_T z i := ym_Tc (fun a ha => hn.1 a (Or.inl ha)) hT
  obtain ⟨d1, d2, d3, d4⟩ := hTz.2.2.2.2.1 k hk
  have e5 : sn_I z 1 (5 : Int32).toNatClampNeg = nI (dy_P i) := hTz.1
  have f1 : sn_I z 1 (11 + 2 * k) = dy_keen i k := d1
  have f7 : sn_I z 7 m = dy_dust i m := hTz.2.2.2.1 m hm
  have f9 : sn_I z 9 k = dy_snuf i k := d4
  unfold BX9_goMinute_26
  rw [e5, if_neg (nI_ge hk (by omega)), yi_11, nI_clamp (show 11 + 2 * k < 2 ^ 31 by omega), nI_clamp (show m < 2 ^ 31 by omega), nI_clamp (show k < 2 ^ 31 by omega), f1, f7, f9]
  refine yp_gd (fun _ => yp_bd _ (ym_nets hTz ok (show k < 6 by omega) A) (fun v hv => yp_lt ?_))
  rw [hv, show (5 : Int32) * nI (dy_cnt (dy_na i) (dy_nb i) (dy_no i) k A (dy_nN i)) = dy_by i A k from rfl, yb_m]
  refine yp_gd (fun _ => yp_gd (fun _ => yp_gd (fun _ => ?_)))
  refine yp_bs rfl (yp_lt ?_)
  have em : dy_keen i k * dy_dust i m + dy_by i A k + (40 : Int32) * (if sp_bit (dy_snuf i k) m = true then 1 else 0) = dy_more i A m k := by
    unfold dy_more
    by_cases c : sp_bit (dy_snuf i k) m = true
    · rw [if_pos c, if_pos c]
      rfl
    · rw [if_neg c, if_neg c]
      rfl
  rw [em]
  have key : yp (BX9_goMinute_104 z (nI m) A (nI k) (dy_by i A k) (dy_more i A m k) (t k)) (yp_sum (fun s' => s'.2 = nI (k + 1) ∧ ym_I i m (k + 1) A t τ s'.1) (fun _ => False)) := by
    have l145 : ∀ x0 : Int32, (x0 = if dy_does i (t k) A m k = true then 1 else 0) → yp (BX9_goMinute_145 z (nI m) A (nI k) (dy_by i A k) (dy_more i A m k) (t k + dy_more i A m k) x0) (yp_sum (fun s' => s'.2 = nI (k + 1) ∧ ym_I i m (k + 1) A t τ s'.1) (fun _ => False)) := fun x0 hx => by
      unfold BX9_goMinute_145
      rw [yi_6, nI_add, nI_clamp (show 6 * m + k < 2 ^ 31 by omega), nI_clamp (show k < 2 ^ 31 by omega)]
      refine yp_gd (fun _ => yp_gd (fun _ => yp_lt (yp_gd (fun _ => yp_lt (yp_ite (fun c => ?_) (fun c => ?_))))))
      · have hd : ¬ dy_does i (t k) A m k = true := fun h => by
          rw [if_pos h] at hx
          rw [hx] at c
          exact absurd c (by decide)
        exact ym_end (τ := τ) hm (by omega) hI rfl (x1 := 0) hx (by rw [if_neg hd])
      · have hd : dy_does i (t k) A m k = true := by
          by_cases h : dy_does i (t k) A m k = true
          · exact h
          · rw [if_neg h] at hx
            exact absurd hx c
        exact ym_end (τ := τ) hm (by omega) hI rfl (x1 := 0) hx (by rw [if_pos hd])
    have f12 : sn_I z 1 (12 + 2 * k) = dy_lim i k := d2
    have f8 : sn_I z 8 k = dy_held i k := d3
    unfold BX9_goMinute_104 BX9_goMinute_144
    rw [yi_12, nI_clamp (show 12 + 2 * k < 2 ^ 31 by omega), nI_clamp (show k < 2 ^ 31 by omega), f12, f8, yb_m]
    refine yp_lt (yp_gd (fun _ => yp_ite (fun c => ?_) (fun c => yp_gd (fun _ => ?_))))
    · refine l145 0 ?_
      rw [if_neg]
      unfold dy_does
      rw [decide_eq_false (Int32.not_le.mpr c)]
      exact Bool.false_ne_true
    · have c1 : dy_lim i k ≤ t k + dy_more i A m k := Int32.not_lt.mp c
      refine yp_bit (fun x => ?_) (fun x => ?_)
      · rw [if_neg (by decide)]
        refine l145 0 ?_
        rw [if_neg]
        unfold dy_does
        rw [x, Bool.not_true, Bool.and_false]
        decide
      · rw [if_pos rfl]
        refine l145 1 ?_
        rw [if_pos]
        unfold dy_does
        rw [x, decide_eq_true c1]
        rfl
  by_cases c : m = 0
  · rw [if_pos c] at ht
    rw [if_pos ((yi_0 (by omega)).mpr c), ht]
    exact key
  · rw [if_neg c] at ht
    rw [if_neg (fun z => c ((yi_0 (by omega)).mp z)), yi_s1 (by omega), yi_6, nI_add, nI_clamp (show 6 * (m - 1) + k < 2 ^ 31 by omega)]
    refine yp_gd (fun _ => ?_)
    rw [show sn_I z 12 (6 * (m - 1) + k) = t k from ((hn.2.2.1 _ (by omega)).1).trans ht]
    exact key
theorem ym_min (hm : m < 30) (hT : ym_T τ i) (ok : dy_ok i) {A : Int32} {t : Nat → Int32} (hA : (if m = 0 then 0 else τ.1 11 (m - 1)) = A) (ht : ∀ p, p < dy_P i → (if m = 0 then 0 else τ.1 12 (6 * (m - 1) + p)) = t p) : yp (fX9_goMinute τ (nI m)) (fun z => ym_I i m (dy_P i) A t τ z) := by
  have hP := ok.1
  have key : ∀ B, B = A → yp (BX9_goMinute_23 (sn_pI τ 11 m 0) (nI m) B) (fun z => ym_I i m (dy_P i) A t τ z) := fun B hB => by
    subst hB
    unfold BX9_goMinute_23
    refine yp_bd (fun z => ym_I i m (dy_P i) B t τ z) (yp_for (dy_P i) (fun k s => s.2 = nI k ∧ ym_I i m k B t τ s.1) (fun k s hk hs => ?_) (fun s hs => ?_) ⟨nI_0.symm, ⟨⟨fun a ha => pI_ne (by omega), rfl, fun _ _ => ⟨rfl, rfl⟩, fun k hk => pI_slot hk⟩, fun p hp => absurd hp (by omega), pI_self, fun p => by rw [if_neg (fun h => absurd h.1 (by omega)), pI_ne (by decide)], fun p => by rw [if_neg (by omega), pI_ne (by decide)]⟩⟩) (fun z hz => ?_)
    · obtain ⟨z, x⟩ := s
      obtain ⟨ex, hI⟩ := hs
      have ex : x = nI k := ex
      subst ex
      exact ym_person hm hk hT ok (ht k hk) hI
    · obtain ⟨z, x⟩ := s
      obtain ⟨ex, hI⟩ := hs
      have ex : x = nI (dy_P i) := ex
      subst ex
      have e5 : sn_I z 1 (5 : Int32).toNatClampNeg = nI (dy_P i) := (congrFun (hI.1.1 1 (by omega)) 5).trans hT.1
      show yp (BX9_goMinute_26 z (nI m) B (nI (dy_P i))) _
      unfold BX9_goMinute_26
      rw [e5, if_pos (nI_le (Nat.le_refl _) (by omega))]
      exact yp_gd (fun _ => yp_some hI)
    · unfold BX9_goMinute_231
      exact yp_some hz
  unfold fX9_goMinute
  rw [nI_clamp (show m < 2 ^ 31 by omega)]
  refine yp_gd (fun _ => yp_lt ?_)
  by_cases c : m = 0
  · rw [if_pos c] at hA
    rw [if_pos ((yi_0 (by omega)).mpr c)]
    exact key 0 hA
  · rw [if_neg c] at hA
    rw [if_neg (fun z => c ((yi_0 (by omega)).mp z)), yi_s1 (by omega), nI_clamp (show m - 1 < 2 ^ 31 by omega)]
    refine yp_gd (fun _ => key _ ?_)
    rw [← hA]
    exact pI_slot (by omega)
end
/-- lived, M minutes -/
def ym_L (τ : sn_S) (i : dy_I) (M : Nat) : Prop := (∀ m, m < M → τ.1 11 m = dy_who i m ∧ ∀ p, p < dy_P i → τ.1 12 (6 * m + p) = dy_tick i m p ∧ τ.1 13 (6 * m + p) = dy_more i (dy_st i m).2 m p) ∧ ∀ p, p < 6 → τ.1 10 p = (if p < dy_P i then dy_sn i M p else 0) ∧ τ.1 14 p = (if p < dy_P i then dy_all i p M else 0)
theorem yi_last {M k : Nat} (hM : M ≤ 30) (hk : k ≤ 30) : (nI M - (1 : Int32) < nI k) ↔ M ≤ k := by
  rw [Int32.lt_iff_toInt_lt, i32_sub1 (nI_pos' (by omega)), nI_toInt (by omega), nI_toInt (by omega)]
  omega
def ym_fr (τ z : sn_S) : Prop := (∀ a, a < 10 ∨ 14 < a → z.1 a = τ.1 a) ∧ z.2 = τ.2
theorem ym_goAll {τ : sn_S} {i : dy_I} {M : Nat} (hM : M ≤ 30) (h22 : τ.1 0 22 = nI M - 1) (hT : ym_T τ i) (ok : dy_ok i) : yp (fX9_goAll τ) (fun z => ym_fr τ z ∧ ym_L z i M) := by
  have hP := ok.1
  unfold fX9_goAll
  refine yp_bd (fun z => (∀ a, a ≠ 10 → a ≠ 14 → z.1 a = τ.1 a) ∧ z.2 = τ.2 ∧ ∀ p, p < 6 → z.1 10 p = 0 ∧ z.1 14 p = 0) (yp_for 6 (fun k s => s.2 = nI k ∧ (∀ a, a ≠ 10 → a ≠ 14 → s.1.1 a = τ.1 a) ∧ s.1.2 = τ.2 ∧ ∀ p, p < k → s.1.1 10 p = 0 ∧ s.1.1 14 p = 0) (fun k s hk hs => ?_) (fun s hs => ?_) ⟨nI_0.symm, fun _ _ _ => rfl, rfl, fun p hp => absurd hp (by omega)⟩) (fun z hz => ?_)
  · obtain ⟨z, x⟩ := s
    obtain ⟨ex, h1, h2, h3⟩ := hs
    have ex : x = nI k := ex
    subst ex
    show yp (BX9_goAll_2 z (nI k)) _
    unfold BX9_goAll_2
    rw [if_neg (show ¬ (6 : Int32) ≤ nI k from nI_ge (b := 6) hk (by decide)), nI_clamp (show k < 2 ^ 31 by omega)]
    refine yp_gd (fun _ => yp_lt (yp_gd (fun _ => yp_lt (yp_lt (yp_some ⟨nI_1 k, fun a a1 a2 => (pI_ne a2).trans ((pI_ne a1).trans (h1 a a1 a2)), h2, fun p hp => ?_⟩)))))
    show (sn_pI (sn_pI z 10 k 0) 14 k 0).1 10 p = 0 ∧ (sn_pI (sn_pI z 10 k 0) 14 k 0).1 14 p = 0
    rw [pI_ne (by decide)]
    by_cases c : p = k
    · subst c
      exact ⟨pI_self, pI_self⟩
    · rw [pI_slot c, pI_slot c, pI_ne (by decide)]
      exact h3 p (by omega)
  · obtain ⟨z, x⟩ := s
    obtain ⟨ex, h1, h2, h3⟩ := hs
    have ex : x = nI 6 := ex
    subst ex
    show yp (BX9_goAll_2 z (nI 6)) _
    unfold BX9_goAll_2
    rw [if_pos (show (6 : Int32) ≤ nI 6 by decide)]
    exact yp_some ⟨h1, h2, h3⟩
  · obtain ⟨h1, h2, h3⟩ := hz
    unfold BX9_goAll_28
    refine yp_bd (fun z => ym_fr τ z ∧ ym_L z i M) (yp_for M (fun k s => s.2 = nI k ∧ ym_fr τ s.1 ∧ ym_L s.1 i k) (fun k s hk hs => ?_) (fun s hs => ?_) ⟨nI_0.symm, ⟨fun a ha => h1 a (by omega) (by omega), h2⟩, fun m hm => absurd hm (by omega), fun p hp => ?_⟩) (fun u hu => ?_)
    · obtain ⟨u, x⟩ := s
      obtain ⟨ex, hf, hl⟩ := hs
      have ex : x = nI k := ex
      subst ex
      have hf : ym_fr τ u := hf
      have hl : ym_L u i k := hl
      have e0 : sn_I u 0 22 = nI M - 1 := (congrFun (hf.1 0 (by omega)) 22).trans h22
      have hTu : ym_T u i := ym_Tc (fun a ha => hf.1 a (Or.inl ha)) hT
      show yp (BX9_goAll_30 u (nI k)) _
      unfold BX9_goAll_30
      rw [e0, if_neg (fun c => absurd ((yi_last hM (by omega)).mp c) (by omega))]
      have eA : (if k = 0 then 0 else u.1 11 (k - 1)) = (dy_st i k).2 := by
        rw [dy_ahead]
        by_cases c : k = 0
        · rw [if_pos c, if_pos c]
        · rw [if_neg c, if_neg c]
          exact (hl.1 (k - 1) (by omega)).1
      have ht : ∀ p, p < dy_P i → (if k = 0 then 0 else u.1 12 (6 * (k - 1) + p)) = (dy_st i k).1 p := fun p hp => by
        rw [dy_prev]
        by_cases c : k = 0
        · rw [if_pos c, if_pos c]
        · rw [if_neg c, if_neg c]
          exact ((hl.1 (k - 1) (by omega)).2 p hp).1
      refine yp_bd _ (ym_min (show k < 30 by omega) hTu ok eA ht) (fun w hw => ?_)
      obtain ⟨w1, w2, w3, w4, w5⟩ := hw
      refine yp_lt (yp_some ⟨nI_1 k, ⟨fun a ha => (w1.1 a ha).trans (hf.1 a ha), w1.2.1.trans hf.2⟩, fun m hm => ?_, fun p hp => ?_⟩)
      · by_cases c : m = k
        · subst c
          exact ⟨w3, fun p hp => w2 p hp⟩
        · have g := hl.1 m (by omega)
          refine ⟨?_, fun p hp => ⟨?_, ?_⟩⟩
          · show w.1 11 m = _
            rw [w1.2.2.2 m c]
            exact g.1
          · show w.1 12 (6 * m + p) = _
            rw [(w1.2.2.1 _ (by omega)).1]
            exact (g.2 p hp).1
          · show w.1 13 (6 * m + p) = _
            rw [(w1.2.2.1 _ (by omega)).2]
            exact (g.2 p hp).2
      · have g := hl.2 p hp
        show w.1 10 p = _ ∧ w.1 14 p = _
        rw [w4 p, w5 p, g.1, g.2]
        by_cases c : p < dy_P i
        · rw [if_pos c, if_pos c, if_pos c, if_pos c, if_pos c]
          refine ⟨?_, rfl⟩
          show (if _ then dy_sn i k p ||| ((1 : Int32) <<< (nI k &&& 31)) else dy_sn i k p) = if dy_does i ((dy_st i k).1 p) (dy_st i k).2 k p = true then dy_sn i k p ||| ((1 : Int32) <<< (nI k &&& 31)) else dy_sn i k p
          by_cases d : dy_does i ((dy_st i k).1 p) (dy_st i k).2 k p = true
          · rw [if_pos ⟨c, d⟩, if_pos d]
          · rw [if_neg (fun h => d h.2), if_neg d]
        · rw [if_neg c, if_neg c, if_neg c, if_neg c, if_neg c, if_neg (fun h => c h.1)]
          exact ⟨rfl, rfl⟩
    · obtain ⟨u, x⟩ := s
      obtain ⟨ex, hf, hl⟩ := hs
      have ex : x = nI M := ex
      subst ex
      have hf : ym_fr τ u := hf
      have e0 : sn_I u 0 22 = nI M - 1 := (congrFun (hf.1 0 (by omega)) 22).trans h22
      show yp (BX9_goAll_30 u (nI M)) _
      unfold BX9_goAll_30
      rw [e0, if_pos ((yi_last hM hM).mpr (Nat.le_refl _))]
      exact yp_some ⟨hf, hl⟩
    · have g := h3 p hp
      show z.1 10 p = _ ∧ z.1 14 p = _
      rw [g.1, g.2]
      by_cases c : p < dy_P i
      · rw [if_pos c, if_pos c]
        exact ⟨rfl, rfl⟩
      · rw [if_neg c, if_neg c]
        exact ⟨rfl, rfl⟩
    · unfold BX9_goAll_49
      exact yp_some hu
end
section
/-! a house as the reference's row of numbers w -/
def yh_n (w : Nat → Int32) (k : Nat) (b : Nat) : Prop := w k = nI (sp_n w k) ∧ sp_n w k ≤ b
/-- a row of numbers that is a house, or none (no lines: nothing else either) -/
def jW (w : Nat → Int32) : Prop :=
  (yh_n w 0 30 ∧ yh_n w 1 9 ∧ yh_n w 2 3 ∧ yh_n w 3 999 ∧ yh_n w 4 10 ∧ yh_n w 5 6 ∧ yh_n w 6 5 ∧ yh_n w 7 8 ∧ yh_n w 8 6 ∧ yh_n w 9 40 ∧ yh_n w 10 900) ∧
  (sp_n w 10 = 0 → sp_n w 0 = 0 ∧ sp_n w 5 = 0 ∧ sp_n w 7 = 0 ∧ sp_n w 8 = 0) ∧ (0 < sp_n w 10 → 0 < sp_n w 0) ∧
  (∀ p, p < sp_n w 5 → yh_n w (11 + 2 * p) 9 ∧ yh_n w (12 + 2 * p) 99 ∧ 1 ≤ sp_n w (12 + 2 * p)) ∧
  (∀ g, g < sp_n w 6 → yh_n w (23 + 2 * g) 9 ∧ yh_n w (24 + 2 * g) 29) ∧
  (∀ k, k < sp_n w 7 → w (33 + 2 * k) = nI (sp_n w (33 + 2 * k)) ∧ sp_n w (33 + 2 * k) < sp_n w 5 ∧ w (34 + 2 * k) = nI (sp_n w (34 + 2 * k)) ∧ sp_n w (34 + 2 * k) < sp_n w 5 ∧ sp_n w (33 + 2 * k) ≠ sp_n w (34 + 2 * k)) ∧
  (∀ k, k < sp_n w 8 → (w (49 + 5 * k) = nI (sp_n w (49 + 5 * k)) ∧ sp_n w (49 + 5 * k) < sp_n w 5) ∧ yh_n w (50 + 5 * k) 29 ∧ yh_n w (51 + 5 * k) 29 ∧ sp_n w (50 + 5 * k) ≤ sp_n w (51 + 5 * k) ∧ yh_n w (52 + 5 * k) 99 ∧ 1 ≤ sp_n w (52 + 5 * k) ∧ yh_n w (53 + 5 * k) 99) ∧
  (∀ i, i < sp_n w 9 → w (79 + i) = nI (sp_n w (79 + i)) ∧ sp_n w (79 + i) / 200 < sp_n w 5 ∧ sp_n w (79 + i) % 200 / 2 < sp_n w 0)
/-- a house of the class (its rows from h on) is that row of numbers -/
def yH (h : Nat) (σ : sn_S) (w : Nat → Int32) : Prop :=
  (∀ k, k < 11 → σ.1 (h + 1) k = w k) ∧ (∀ i, i < 2 * sp_n w 5 → σ.1 (h + 2) i = w (11 + i)) ∧ (∀ i, i < 2 * sp_n w 6 → σ.1 (h + 3) i = w (23 + i)) ∧ (∀ i, i < 2 * sp_n w 7 → σ.1 (h + 4) i = w (33 + i)) ∧ (∀ i, i < 5 * sp_n w 8 → σ.1 (h + 5) i = w (49 + i)) ∧
  ∀ i, i < sp_n w 9 → σ.1 (h + 6) (3 * i) = nI (sp_n w (79 + i) % 2) ∧ σ.1 (h + 6) (3 * i + 1) = nI (sp_n w (79 + i) / 200) ∧ σ.1 (h + 6) (3 * i + 2) = nI (sp_n w (79 + i) % 200 / 2)
/-- dust of a house by minute, what is held back and snuffed by its acts, minutes of its gusts -/
def hs_dust (w : Nat → Int32) (m : Nat) : Nat → Int32
  | 0 => w 1
  | g + 1 => if sp_n w (24 + 2 * g) = m then hs_dust w m g + w (23 + 2 * g) else hs_dust w m g
def hs_acts (w : Nat → Int32) (kind p : Nat) : Nat → Int32
  | 0 => 0
  | n + 1 => if sp_n w (79 + n) % 2 = kind ∧ sp_n w (79 + n) / 200 = p then hs_acts w kind p n ||| ((1 : Int32) <<< (nI (sp_n w (79 + n) % 200 / 2) &&& 31)) else hs_acts w kind p n
def hs_gust (w : Nat → Int32) : Nat → Int32
  | 0 => 0
  | g + 1 => hs_gust w g ||| ((1 : Int32) <<< (nI (sp_n w (24 + 2 * g)) &&& 31))
def hs_day (w : Nat → Int32) : dy_I :=
  (sp_n w 5, (fun p => w (11 + 2 * p)), (fun p => w (12 + 2 * p)), (fun p => hs_acts w 0 p (sp_n w 9)), (fun p => hs_acts w 1 p (sp_n w 9)), (fun m => hs_dust w m (sp_n w 6)), (fun k => sp_n w (33 + 2 * k)), (fun k => sp_n w (34 + 2 * k)), sp_n w 7, -1)
theorem hs_ok {w : Nat → Int32} (h : jW w) : dy_ok (hs_day w) := by
  obtain ⟨b, -, -, -, -, hn, -, -⟩ := h
  have b5 : sp_n w 5 ≤ 6 := b.2.2.2.2.2.1.2
  have b7 : sp_n w 7 ≤ 8 := b.2.2.2.2.2.2.2.1.2
  refine ⟨b5, b7, fun k hk => ?_⟩
  have g := hn k hk
  exact ⟨Nat.lt_of_lt_of_le g.2.1 b5, Nat.lt_of_lt_of_le g.2.2.2.1 b5, g.2.2.2.2⟩
theorem yi_d2 {a : Nat} (h : a < 2 ^ 31) : nI a / (2 : Int32) = nI (a / 2) := by
  apply Int32.toInt_inj.mp
  rw [Int32.toInt_div, nI_toInt h, nI_toInt (show a / 2 < 2 ^ 31 by omega), show (2 : Int32).toInt = 2 by decide, Int.tdiv_eq_ediv_of_nonneg (by omega), Int.bmod_eq_of_le (by omega) (by omega)]
  omega
theorem yi_d100 {a : Nat} (h : a < 2 ^ 31) : nI a / (100 : Int32) = nI (a / 100) := by
  apply Int32.toInt_inj.mp
  rw [Int32.toInt_div, nI_toInt h, nI_toInt (show a / 100 < 2 ^ 31 by omega), show (100 : Int32).toInt = 100 by decide, Int.tdiv_eq_ediv_of_nonneg (by omega), Int.bmod_eq_of_le (by omega) (by omega)]
  omega
theorem yi_d200 {a : Nat} (h : a < 2 ^ 31) : nI a / (200 : Int32) = nI (a / 200) := by
  apply Int32.toInt_inj.mp
  rw [Int32.toInt_div, nI_toInt h, nI_toInt (show a / 200 < 2 ^ 31 by omega), show (200 : Int32).toInt = 200 by decide, Int.tdiv_eq_ediv_of_nonneg (by omega), Int.bmod_eq_of_le (by omega) (by omega)]
  omega
theorem yi_m2 {a : Nat} (h : a < 2 ^ 31) : nI a - nI a / (2 : Int32) * (2 : Int32) = nI (a % 2) := by
  rw [yi_d2 h, show nI (a / 2) * (2 : Int32) = nI (a / 2 * 2) from nI_mul _ 2, yi_sub (by omega)]
  exact congrArg nI (by omega)
theorem yi_m100 {a : Nat} (h : a < 2 ^ 31) : nI a - nI a / (100 : Int32) * (100 : Int32) = nI (a % 100) := by
  rw [yi_d100 h, show nI (a / 100) * (100 : Int32) = nI (a / 100 * 100) from nI_mul _ 100, yi_sub (by omega)]
  exact congrArg nI (by omega)
theorem yi_23 (k : Nat) : (23 : Int32) + (2 : Int32) * nI k = nI (23 + 2 * k) := by rw [yi_2]; exact nI_add 23 _
theorem yi_24 (k : Nat) : ((23 : Int32) + (2 : Int32) * nI k) + 1 = nI (24 + 2 * k) := by
  rw [yi_23, nI_1]
  exact congrArg nI (by omega)
/-! the class is told of a house -/
theorem yc_fill (σ : sn_S) (q n : Nat) (v : Int32) (hn : n < 5000) : yp (fJ7_fill_53178 σ q n v) (fun z => (∀ a, a ≠ q → z.1 a = σ.1 a) ∧ z.2 = σ.2 ∧ ∀ k, k < n → z.1 q k = v) := by
  unfold fJ7_fill_53178
  refine yp_lt (yp_bd (fun z : sn_S => (∀ a, a ≠ q → z.1 a = σ.1 a) ∧ z.2 = σ.2 ∧ ∀ k, k < n → z.1 q k = v) (yp_for n (fun k s => s.2 = nI k ∧ (∀ a, a ≠ q → s.1.1 a = σ.1 a) ∧ s.1.2 = σ.2 ∧ ∀ j, j < k → s.1.1 q j = v) (fun k s hk hs => ?_) (fun s hs => ?_) ⟨nI_0.symm, fun _ _ => rfl, rfl, fun j hj => absurd hj (by omega)⟩) (fun u hu => ?_))
  · obtain ⟨z, x⟩ := s
    obtain ⟨ex, h1, h2, h3⟩ := hs
    have ex : x = nI k := ex
    subst ex
    show yp (BJ7_fill_53178_5 z q n v (nI k) (Int32.ofNat n)) _
    unfold BJ7_fill_53178_5
    rw [if_neg (show ¬ Int32.ofNat n ≤ nI k from nI_ge hk (by omega)), nI_clamp (show k < 2 ^ 31 by omega)]
    refine yp_gd (fun _ => yp_lt (yp_lt (yp_some ⟨nI_1 k, fun a ha => (pI_ne ha).trans (h1 a ha), h2, fun j hj => ?_⟩)))
    show (sn_pI z q k v).1 q j = v
    by_cases c : j = k
    · subst c
      exact pI_self
    · rw [pI_slot c]
      exact h3 j (by omega)
  · obtain ⟨z, x⟩ := s
    obtain ⟨ex, h1, h2, h3⟩ := hs
    have ex : x = nI n := ex
    subst ex
    show yp (BJ7_fill_53178_5 z q n v (nI n) (Int32.ofNat n)) _
    unfold BJ7_fill_53178_5
    rw [if_pos (show Int32.ofNat n ≤ nI n from Int32.le_refl _)]
    exact yp_some ⟨h1, h2, h3⟩
  · unfold BJ7_fill_53178_20
    exact yp_some hu
theorem yc_cpy {z : sn_S} {a b L : Nat} (hL : L < 2 ^ 31) : (∀ q, q ≠ a → (sn_wI z a (va_cpy (sn_I z b) (sn_I z a) (0 : Int32).toNatClampNeg (0 : Int32).toNatClampNeg (Int32.ofNat L).toNatClampNeg)).1 q = z.1 q) ∧ (∀ k, (sn_wI z a (va_cpy (sn_I z b) (sn_I z a) (0 : Int32).toNatClampNeg (0 : Int32).toNatClampNeg (Int32.ofNat L).toNatClampNeg)).1 a k = if k < L then z.1 b k else z.1 a k) := by
  refine ⟨fun q hq => if_neg hq, fun k => ?_⟩
  have e : (sn_wI z a (va_cpy (sn_I z b) (sn_I z a) (0 : Int32).toNatClampNeg (0 : Int32).toNatClampNeg (Int32.ofNat L).toNatClampNeg)).1 a = va_cpy (sn_I z b) (sn_I z a) (0 : Int32).toNatClampNeg (0 : Int32).toNatClampNeg (Int32.ofNat L).toNatClampNeg := if_pos rfl
  rw [e]
  have e1 : (Int32.ofNat L).toNatClampNeg = L := nI_clamp hL
  have e0 : (0 : Int32).toNatClampNeg = 0 := rfl
  rw [e1, e0]
  unfold va_cpy
  rw [Nat.zero_add, Nat.zero_add, Nat.sub_zero]
  by_cases c : k < L
  · rw [if_pos ⟨Nat.zero_le _, c⟩, if_pos c]
    rfl
  · rw [if_neg (fun h => c h.2), if_neg c]
    rfl
theorem yc_acts {h : Nat} {σ : sn_S} {w : Nat → Int32} (hW : jW w) (hH : yH h σ w) {kind p : Nat} (hk : kind < 2) (hp : p < 6) : yp (fX2_minutesOfActs σ h (nI kind) (nI p)) (fun v => v = hs_acts w kind p (sp_n w 9)) := by
  obtain ⟨b9, h9⟩ : yh_n w 9 40 := hW.1.2.2.2.2.2.2.2.2.2.1
  have e9 : sn_I σ (h + 1) (9 : Int32).toNatClampNeg = nI (sp_n w 9) := (hH.1 9 (by decide)).trans b9
  unfold fX2_minutesOfActs
  refine yp_bd (fun v => v = hs_acts w kind p (sp_n w 9)) (yp_for (sp_n w 9) (fun k s => s.2 = nI k ∧ s.1 = hs_acts w kind p k) (fun k s hk2 hs => ?_) (fun s hs => ?_) ⟨nI_0.symm, rfl⟩) (fun v hv => ?_)
  · obtain ⟨v, x⟩ := s
    obtain ⟨ex, ev⟩ := hs
    have ex : x = nI k := ex
    have ev : v = hs_acts w kind p k := ev
    subst ex
    subst ev
    obtain ⟨a0, a1, a2⟩ := hH.2.2.2.2.2 k hk2
    obtain ⟨c0, c1, c2⟩ := hW.2.2.2.2.2.2.2 k hk2
    have c5 : sp_n w 5 ≤ 6 := hW.1.2.2.2.2.2.1.2
    have c3 : sp_n w 0 ≤ 30 := hW.1.1.2
    have f0 : sn_I σ (h + 6) (3 * k) = nI (sp_n w (79 + k) % 2) := a0
    have f1 : sn_I σ (h + 6) (3 * k + 1) = nI (sp_n w (79 + k) / 200) := a1
    have f2 : sn_I σ (h + 6) (3 * k + 2) = nI (sp_n w (79 + k) % 200 / 2) := a2
    have k1 : hs_acts w kind p (k + 1) = if sp_n w (79 + k) % 2 = kind ∧ sp_n w (79 + k) / 200 = p then hs_acts w kind p k ||| ((1 : Int32) <<< (nI (sp_n w (79 + k) % 200 / 2) &&& 31)) else hs_acts w kind p k := rfl
    have l61 : ∀ v : Int32, v = hs_acts w kind p (k + 1) → yp (BX2_minutesOfActs_61 σ h (nI kind) (nI p) v (nI k)) (yp_sum (fun s' => s'.2 = nI (k + 1) ∧ s'.1 = hs_acts w kind p (k + 1)) (fun _ => False)) := fun v hv => by
      unfold BX2_minutesOfActs_61
      exact yp_lt (yp_some ⟨nI_1 k, hv⟩)
    show yp (BX2_minutesOfActs_5 σ h (nI kind) (nI p) _ (nI k)) _
    unfold BX2_minutesOfActs_5
    rw [e9, if_neg (nI_ge hk2 (by omega)), yi_3, show nI (3 * k) + (1 : Int32) = nI (3 * k + 1) from nI_1 _, show nI (3 * k) + (2 : Int32) = nI (3 * k + 2) from nI_add _ 2, nI_clamp (show 3 * k < 2 ^ 31 by omega), nI_clamp (show 3 * k + 1 < 2 ^ 31 by omega), nI_clamp (show 3 * k + 2 < 2 ^ 31 by omega), f0, f1, f2]
    refine yp_gd (fun _ => yp_gd (fun _ => yp_ite (fun c => ?_) (fun c => ?_)))
    · have c := (nI_eq (by omega) (by omega)).mp c
      refine yp_gd (fun _ => yp_ite (fun d => ?_) (fun d => ?_))
      · have d := (nI_eq (by omega) (by omega)).mp d
        refine yp_gd (fun _ => yp_lt (l61 _ ?_))
        rw [k1, if_pos ⟨c, d⟩]
      · exact l61 _ (by rw [k1, if_neg (fun g => d (congrArg nI g.2))])
    · exact l61 _ (by rw [k1, if_neg (fun g => c (congrArg nI g.1))])
  · obtain ⟨v, x⟩ := s
    obtain ⟨ex, ev⟩ := hs
    have ex : x = nI (sp_n w 9) := ex
    subst ex
    show yp (BX2_minutesOfActs_5 σ h (nI kind) (nI p) v (nI (sp_n w 9))) _
    unfold BX2_minutesOfActs_5
    rw [e9, if_pos (nI_le (Nat.le_refl _) (by omega))]
    exact yp_gd (fun _ => yp_some ev)
  · unfold BX2_minutesOfActs_67
    exact yp_some hv
theorem yH_c {h : Nat} {σ z : sn_S} {w : Nat → Int32} (e : ∀ a, h + 1 ≤ a → a ≤ h + 6 → z.1 a = σ.1 a) (hH : yH h σ w) : yH h z w := by
  unfold yH
  rw [e (h + 1) (by omega) (by omega), e (h + 2) (by omega) (by omega), e (h + 3) (by omega) (by omega), e (h + 4) (by omega) (by omega), e (h + 5) (by omega) (by omega), e (h + 6) (by omega) (by omega)]
  exact hH
def yt_P (w : Nat → Int32) (k : Nat) (z : sn_S) : Prop := ∀ p, p < k → z.1 29 p = w (11 + 2 * p) ∧ z.1 30 p = w (12 + 2 * p) ∧ z.1 31 p = hs_acts w 0 p (sp_n w 9) ∧ z.1 32 p = hs_acts w 1 p (sp_n w 9)
theorem yc_persons {σ : sn_S} {w : Nat → Int32} (hW : jW w) (hH : yH 1 σ w) {z0 : sn_S} (g0 : ∀ a, a < 27 → z0.1 a = σ.1 a) (h1 : z0.1 27 1 = nI (sp_n w 5)) : yp (sn_it (LX0_tellFrom_56 27 1) 5000 (z0, (0 : Int32))) (fun z => (∀ a, a < 29 ∨ 32 < a → z.1 a = z0.1 a) ∧ z.2 = z0.2 ∧ yt_P w (sp_n w 5) z) := by
  have c5 : sp_n w 5 ≤ 6 := hW.1.2.2.2.2.2.1.2
  refine yp_for (sp_n w 5) (fun k s => s.2 = nI k ∧ (∀ a, a < 29 ∨ 32 < a → s.1.1 a = z0.1 a) ∧ s.1.2 = z0.2 ∧ yt_P w k s.1) (fun k s hk hs => ?_) (fun s hs => ?_) ⟨nI_0.symm, fun _ _ => rfl, rfl, fun p hp => absurd hp (by omega)⟩
  · obtain ⟨z, x⟩ := s
    obtain ⟨ex, f1, f2, f3⟩ := hs
    have ex : x = nI k := ex
    subst ex
    have f1 : ∀ a, a < 29 ∨ 32 < a → z.1 a = z0.1 a := f1
    have f2 : z.2 = z0.2 := f2
    have f3 : yt_P w k z := f3
    have e1 : sn_I z 27 1 = nI (sp_n w 5) := (congrFun (f1 27 (by omega)) 1).trans h1
    have n0 : w (11 + 2 * k) = σ.1 3 (2 * k) := (hH.2.1 (2 * k) (by omega)).symm
    have n1 : w (12 + 2 * k) = σ.1 3 (2 * k + 1) := by
      have := hH.2.1 (2 * k + 1) (by omega)
      rw [show 11 + (2 * k + 1) = 12 + 2 * k by omega] at this
      exact this.symm
    have hz : ∀ u : sn_S, (∀ a, a < 29 → u.1 a = z.1 a) → yH 1 u w := fun u hu => yH_c (fun a a1 a2 => (hu a (by omega)).trans ((f1 a (by omega)).trans (g0 a (by omega)))) hH
    show yp (BX0_tellFrom_56 z 27 1 (nI k)) _
    unfold BX0_tellFrom_56
    rw [e1, if_neg (nI_ge hk (by omega)), yi_2, show nI (2 * k) + (1 : Int32) = nI (2 * k + 1) from nI_1 _, nI_clamp (show k < 2 ^ 31 by omega), nI_clamp (show 2 * k < 2 ^ 31 by omega), nI_clamp (show 2 * k + 1 < 2 ^ 31 by omega)]
    refine yp_gd (fun _ => yp_gd (fun _ => yp_lt (yp_gd (fun _ => yp_gd (fun _ => yp_lt ?_)))))
    have e30 : sn_I (sn_pI z (27 + 2) k (sn_I z (1 + 2) (2 * k))) (1 + 2) (2 * k + 1) = w (12 + 2 * k) := by
      show (sn_pI z (27 + 2) k (sn_I z (1 + 2) (2 * k))).1 3 (2 * k + 1) = _
      rw [pI_ne (by decide), f1 3 (by omega), g0 3 (by omega), n1]
    have e29 : sn_I z (1 + 2) (2 * k) = w (11 + 2 * k) := by
      show z.1 3 (2 * k) = _
      rw [f1 3 (by omega), g0 3 (by omega), n0]
    rw [e30, e29]
    refine yp_bd _ (yc_acts hW (hz _ (fun a ha => (pI_ne (by omega)).trans (pI_ne (by omega)))) (kind := 0) (by decide) (show k < 6 by omega)) (fun v hv => ?_)
    subst hv
    refine yp_gd (fun _ => yp_lt ?_)
    refine yp_bd _ (yc_acts hW (hz _ (fun a ha => (pI_ne (by omega)).trans ((pI_ne (by omega)).trans (pI_ne (by omega))))) (kind := 1) (by decide) (show k < 6 by omega)) (fun v hv => ?_)
    subst hv
    refine yp_gd (fun _ => yp_lt (yp_lt (yp_some ⟨nI_1 k, fun a ha => ?_, f2, fun p hp => ?_⟩)))
    · exact (pI_ne (by omega)).trans ((pI_ne (by omega)).trans ((pI_ne (by omega)).trans ((pI_ne (by omega)).trans (f1 a ha))))
    · show (sn_pI (sn_pI (sn_pI (sn_pI z 29 k (w (11 + 2 * k))) 30 k (w (12 + 2 * k))) 31 k (hs_acts w 0 k (sp_n w 9))) 32 k (hs_acts w 1 k (sp_n w 9))).1 29 p = _ ∧ (sn_pI (sn_pI (sn_pI (sn_pI z 29 k (w (11 + 2 * k))) 30 k (w (12 + 2 * k))) 31 k (hs_acts w 0 k (sp_n w 9))) 32 k (hs_acts w 1 k (sp_n w 9))).1 30 p = _ ∧ (sn_pI (sn_pI (sn_pI (sn_pI z 29 k (w (11 + 2 * k))) 30 k (w (12 + 2 * k))) 31 k (hs_acts w 0 k (sp_n w 9))) 32 k (hs_acts w 1 k (sp_n w 9))).1 31 p = _ ∧ (sn_pI (sn_pI (sn_pI (sn_pI z 29 k (w (11 + 2 * k))) 30 k (w (12 + 2 * k))) 31 k (hs_acts w 0 k (sp_n w 9))) 32 k (hs_acts w 1 k (sp_n w 9))).1 32 p = _
      rw [pI_ne (show 29 ≠ 32 by decide), pI_ne (show 29 ≠ 31 by decide), pI_ne (show 29 ≠ 30 by decide), pI_ne (show 30 ≠ 32 by decide), pI_ne (show 30 ≠ 31 by decide), pI_ne (show 31 ≠ 32 by decide)]
      by_cases c : p = k
      · subst c
        rw [pI_self, pI_self, pI_self, pI_self]
        exact ⟨rfl, rfl, rfl, rfl⟩
      · rw [pI_slot c, pI_slot c, pI_slot c, pI_slot c, pI_ne (show 30 ≠ 29 by decide), pI_ne (show 31 ≠ 30 by decide), pI_ne (show 31 ≠ 29 by decide), pI_ne (show 32 ≠ 31 by decide), pI_ne (show 32 ≠ 30 by decide), pI_ne (show 32 ≠ 29 by decide)]
        exact f3 p (by omega)
  · obtain ⟨z, x⟩ := s
    obtain ⟨ex, f1, f2, f3⟩ := hs
    have ex : x = nI (sp_n w 5) := ex
    subst ex
    have f1 : ∀ a, a < 29 ∨ 32 < a → z.1 a = z0.1 a := f1
    have e1 : sn_I z 27 1 = nI (sp_n w 5) := (congrFun (f1 27 (by omega)) 1).trans h1
    show yp (BX0_tellFrom_56 z 27 1 (nI (sp_n w 5))) _
    unfold BX0_tellFrom_56
    rw [e1, if_pos (nI_le (Nat.le_refl _) (by omega))]
    exact yp_some ⟨f1, f2, f3⟩
theorem yc_gusts {σ : sn_S} {w : Nat → Int32} (hW : jW w) (hH : yH 1 σ w) {z0 : sn_S} (g0 : ∀ a, a < 27 → z0.1 a = σ.1 a) (h1 : ∀ m, m < 30 → z0.1 28 m = w 1) : yp (sn_it (LX0_tellFrom_139 27 1) 5000 (z0, (0 : Int32))) (fun z => (∀ a, a ≠ 28 → z.1 a = z0.1 a) ∧ z.2 = z0.2 ∧ ∀ m, m < 30 → z.1 28 m = hs_dust w m (sp_n w 6)) := by
  obtain ⟨b6, c6⟩ : yh_n w 6 5 := hW.1.2.2.2.2.2.2.1
  refine yp_for (sp_n w 6) (fun k s => s.2 = nI k ∧ (∀ a, a ≠ 28 → s.1.1 a = z0.1 a) ∧ s.1.2 = z0.2 ∧ ∀ m, m < 30 → s.1.1 28 m = hs_dust w m k) (fun k s hk hs => ?_) (fun s hs => ?_) ⟨nI_0.symm, fun _ _ => rfl, rfl, h1⟩
  · obtain ⟨z, x⟩ := s
    obtain ⟨ex, f1, f2, f3⟩ := hs
    have ex : x = nI k := ex
    subst ex
    have f1 : ∀ a, a ≠ 28 → z.1 a = z0.1 a := f1
    have f3 : ∀ m, m < 30 → z.1 28 m = hs_dust w m k := f3
    have e6 : sn_I z (1 + 1) (6 : Int32).toNatClampNeg = nI (sp_n w 6) := ((congrFun ((f1 2 (by decide)).trans (g0 2 (by omega))) 6).trans (hH.1 6 (by decide))).trans b6
    obtain ⟨⟨-, -⟩, ⟨w1, w2⟩⟩ := hW.2.2.2.2.1 k hk
    have a1 : sn_I z (1 + 3) (2 * k + 1) = nI (sp_n w (24 + 2 * k)) := by
      have := hH.2.2.1 (2 * k + 1) (by omega)
      rw [show 23 + (2 * k + 1) = 24 + 2 * k by omega] at this
      exact ((congrFun ((f1 4 (by decide)).trans (g0 4 (by omega))) (2 * k + 1)).trans this).trans w1
    have a0 : sn_I z (1 + 3) (2 * k) = w (23 + 2 * k) := (congrFun ((f1 4 (by decide)).trans (g0 4 (by omega))) (2 * k)).trans (hH.2.2.1 (2 * k) (by omega))
    show yp (BX0_tellFrom_139 z 27 1 (nI k)) _
    unfold BX0_tellFrom_139
    rw [e6, if_neg (nI_ge hk (by omega)), yi_2, show nI (2 * k) + (1 : Int32) = nI (2 * k + 1) from nI_1 _, nI_clamp (show 2 * k < 2 ^ 31 by omega), nI_clamp (show 2 * k + 1 < 2 ^ 31 by omega), a1, a0, nI_clamp (show sp_n w (24 + 2 * k) < 2 ^ 31 by omega)]
    refine yp_gd (fun _ => yp_gd (fun _ => yp_gd (fun _ => yp_gd (fun _ => yp_gd (fun _ => yp_lt (yp_lt (yp_some ⟨nI_1 k, fun a ha => (pI_ne ha).trans (f1 a ha), f2, fun m hm => ?_⟩)))))))
    show (sn_pI z 28 (sp_n w (24 + 2 * k)) (z.1 28 (sp_n w (24 + 2 * k)) + w (23 + 2 * k))).1 28 m = if sp_n w (24 + 2 * k) = m then hs_dust w m k + w (23 + 2 * k) else hs_dust w m k
    by_cases c : sp_n w (24 + 2 * k) = m
    · subst c
      rw [pI_self, if_pos rfl, f3 _ hm]
    · rw [pI_slot (fun e => c e.symm), if_neg c]
      exact f3 m hm
  · obtain ⟨z, x⟩ := s
    obtain ⟨ex, f1, f2, f3⟩ := hs
    have ex : x = nI (sp_n w 6) := ex
    subst ex
    have f1 : ∀ a, a ≠ 28 → z.1 a = z0.1 a := f1
    have e6 : sn_I z (1 + 1) (6 : Int32).toNatClampNeg = nI (sp_n w 6) := ((congrFun ((f1 2 (by decide)).trans (g0 2 (by omega))) 6).trans (hH.1 6 (by decide))).trans b6
    show yp (BX0_tellFrom_139 z 27 1 (nI (sp_n w 6))) _
    unfold BX0_tellFrom_139
    rw [e6, if_pos (nI_le (Nat.le_refl _) (by omega))]
    exact yp_gd (fun _ => yp_some ⟨f1, f2, f3⟩)
theorem yc_tell {σ : sn_S} {w : Nat → Int32} (hW : jW w) (hH : yH 1 σ w) : yp (fX0_tellFrom σ 27 1) (fun z => (∀ a, a < 27 ∨ 33 < a → z.1 a = σ.1 a) ∧ z.2 = σ.2 ∧ z.1 27 0 = nI (sp_n w 0) ∧ yd_T 27 z (hs_day w)) := by
  have c0 : σ.1 2 0 = nI (sp_n w 0) := (hH.1 0 (by decide)).trans hW.1.1.1
  have c5 : σ.1 2 5 = nI (sp_n w 5) := (hH.1 5 (by decide)).trans hW.1.2.2.2.2.2.1.1
  have c7 : σ.1 2 7 = nI (sp_n w 7) := (hH.1 7 (by decide)).trans hW.1.2.2.2.2.2.2.2.1.1
  have b5 : sp_n w 5 ≤ 6 := hW.1.2.2.2.2.2.1.2
  have b7 : sp_n w 7 ≤ 8 := hW.1.2.2.2.2.2.2.2.1.2
  unfold fX0_tellFrom
  refine yp_gd (fun _ => yp_lt (yp_gd (fun _ => yp_lt (yp_gd (fun _ => yp_lt (yp_lt (yp_gd (fun _ => yp_lt ?_))))))))
  obtain ⟨u, hu⟩ : ∃ u : sn_S, u = sn_pI (sn_pI (sn_pI (sn_pI σ 27 0 (sn_I σ (1 + 1) (0 : Int32).toNatClampNeg)) 27 1 (sn_I (sn_pI σ 27 0 (sn_I σ (1 + 1) (0 : Int32).toNatClampNeg)) (1 + 1) (5 : Int32).toNatClampNeg)) 27 2 (sn_I (sn_pI (sn_pI σ 27 0 (sn_I σ (1 + 1) (0 : Int32).toNatClampNeg)) 27 1 (sn_I (sn_pI σ 27 0 (sn_I σ (1 + 1) (0 : Int32).toNatClampNeg)) (1 + 1) (5 : Int32).toNatClampNeg)) (1 + 1) (7 : Int32).toNatClampNeg)) 27 3 (-1) := ⟨_, rfl⟩
  rw [← hu]
  have u0 : ∀ a, a ≠ 27 → u.1 a = σ.1 a := fun a ha => by rw [hu, pI_ne ha, pI_ne ha, pI_ne ha, pI_ne ha]
  have u2 : u.2 = σ.2 := by rw [hu]; rfl
  have v0 : u.1 27 0 = nI (sp_n w 0) := by
    rw [hu, pI_slot (by decide), pI_slot (by decide), pI_slot (by decide), pI_self]
    exact c0
  have v1 : u.1 27 1 = nI (sp_n w 5) := by
    rw [hu, pI_slot (by decide), pI_slot (by decide), pI_self]
    exact (congrFun (pI_ne (show 2 ≠ 27 by decide)) 5).trans c5
  have v2 : u.1 27 2 = nI (sp_n w 7) := by
    rw [hu, pI_slot (by decide), pI_self]
    exact (congrFun ((pI_ne (show 2 ≠ 27 by decide)).trans (pI_ne (show 2 ≠ 27 by decide))) 7).trans c7
  have v3 : u.1 27 3 = -1 := by rw [hu, pI_self]
  clear hu
  obtain ⟨y1, y2⟩ := yc_cpy (z := u) (a := 27 + 6) (b := 1 + 4) (L := 16) (by decide)
  refine yp_bd _ (yc_persons hW hH (fun a ha => (y1 a (by omega)).trans (u0 a (by omega))) ((congrFun (y1 27 (by decide)) 1).trans v1)) (fun z hz => ?_)
  obtain ⟨z1, z2, z3⟩ := hz
  unfold BX0_tellFrom_124
  refine yp_gd (fun _ => yp_bd _ (yc_fill _ _ _ _ (by decide)) (fun v hv => ?_))
  obtain ⟨w1, w2, w3⟩ := hv
  have e1 : sn_I z (1 + 1) (1 : Int32).toNatClampNeg = w 1 := (congrFun ((z1 2 (by omega)).trans ((y1 2 (by decide)).trans (u0 2 (by decide)))) 1).trans (hH.1 1 (by decide))
  rw [e1] at w3
  refine yp_bd _ (yc_gusts hW hH (fun a ha => (w1 a (by omega)).trans ((z1 a (by omega)).trans ((y1 a (by omega)).trans (u0 a (by omega))))) w3) (fun t ht => ?_)
  obtain ⟨t1, t2, t3⟩ := ht
  unfold BX0_tellFrom_182
  have f27 : t.1 27 = u.1 27 := (t1 27 (by decide)).trans ((w1 27 (by decide)).trans ((z1 27 (by omega)).trans (y1 27 (by decide))))
  have fp : ∀ a, 29 ≤ a → a ≤ 32 → t.1 a = z.1 a := fun a a1 a2 => (t1 a (by omega)).trans (w1 a (by omega))
  have f33 : ∀ k, k < 16 → t.1 33 k = σ.1 5 k := fun k hk => by
    rw [t1 33 (by decide), w1 33 (by decide), z1 33 (by omega), show (33 : Nat) = 27 + 6 from rfl, y2 k, if_pos hk]
    exact congrFun (u0 5 (by decide)) k
  refine yp_some ⟨fun a ha => (t1 a (by omega)).trans ((w1 a (by omega)).trans ((z1 a (by omega)).trans ((y1 a (by omega)).trans (u0 a (by omega))))), t2.trans (w2.trans (z2.trans u2)), (congrFun f27 0).trans v0, (congrFun f27 1).trans v1, (congrFun f27 2).trans v2, (congrFun f27 3).trans v3, t3, fun p hp => ?_, fun k hk => ?_⟩
  · have hp : p < sp_n w 5 := hp
    show t.1 29 p = _ ∧ t.1 30 p = _ ∧ t.1 31 p = _ ∧ t.1 32 p = _
    rw [fp 29 (by decide) (by decide), fp 30 (by decide) (by decide), fp 31 (by decide) (by decide), fp 32 (by decide) (by decide)]
    exact z3 p hp
  · have hk : k < sp_n w 7 := hk
    have g := hW.2.2.2.2.2.1 k hk
    have h0 := hH.2.2.2.1 (2 * k) (by omega)
    have h1 := hH.2.2.2.1 (2 * k + 1) (by omega)
    rw [show 33 + (2 * k + 1) = 34 + 2 * k by omega] at h1
    exact ⟨(f33 (2 * k) (by omega)).trans (h0.trans g.1), (f33 (2 * k + 1) (by omega)).trans (h1.trans g.2.2.1)⟩
/-- the day of the class is the one of its house -/
def yD (σ : sn_S) (w : Nat → Int32) : Prop := σ.1 27 0 = nI (sp_n w 0) ∧ yd_T 27 σ (hs_day w) ∧ yd_L 27 σ (hs_day w) (sp_n w 0)
theorem yc_anew {σ : sn_S} {w : Nat → Int32} (hW : jW w) (hH : yH 1 σ w) : yp (fX8_liveAnew σ) (fun z => (∀ a, a < 27 ∨ 37 < a → z.1 a = σ.1 a) ∧ z.2 = σ.2 ∧ yD z w) := by
  unfold fX8_liveAnew
  refine yp_bd _ (yc_tell hW hH) (fun z hz => ?_)
  obtain ⟨z1, z2, z3, z4⟩ := hz
  refine yp_bd _ (yc_whole z3 hW.1.1.2 z4 (hs_ok hW)) (fun u hu => yp_some ⟨fun a ha => (hu.1.1 a (by omega)).trans (z1 a (by omega)), hu.1.2.trans z2, ?_, ?_, hu.2⟩)
  · exact (congrFun (hu.1.1 27 (by omega)) 0).trans z3
  · exact yd_Tc (fun a _ ha => hu.1.1 a (by omega)) z4
/-! the reference goes through a house as it is -/
def ya_0 (τ z : sn_S) : Prop := (∀ a, a ≠ 0 → a ≠ 7 → a ≠ 8 → a ≠ 9 → z.1 a = τ.1 a) ∧ z.2 = τ.2 ∧ ∀ k, k < 18 ∨ 22 < k → z.1 0 k = τ.1 0 k
theorem ym_dusts {τ z0 : sn_S} : yp (sn_it (LX9_asItIs_42) 5000 (z0, (0 : Int32))) (fun z => (∀ a, a ≠ 7 → z.1 a = z0.1 a) ∧ z.2 = z0.2 ∧ ∀ m, m < 30 → z.1 7 m = z0.1 1 1) := by
  refine yp_for 30 (fun k s => s.2 = nI k ∧ (∀ a, a ≠ 7 → s.1.1 a = z0.1 a) ∧ s.1.2 = z0.2 ∧ ∀ m, m < k → s.1.1 7 m = z0.1 1 1) (fun k s hk hs => ?_) (fun s hs => ?_) ⟨nI_0.symm, fun _ _ => rfl, rfl, fun m hm => absurd hm (by omega)⟩
  · obtain ⟨z, x⟩ := s
    obtain ⟨ex, f1, f2, f3⟩ := hs
    have ex : x = nI k := ex
    subst ex
    have f1 : ∀ a, a ≠ 7 → z.1 a = z0.1 a := f1
    show yp (BX9_asItIs_42 z (nI k)) _
    unfold BX9_asItIs_42
    rw [if_neg (show ¬ (30 : Int32) ≤ nI k from nI_ge (b := 30) hk (by decide)), nI_clamp (show k < 2 ^ 31 by omega)]
    refine yp_gd (fun _ => yp_gd (fun _ => yp_lt (yp_lt (yp_some ⟨nI_1 k, fun a ha => (pI_ne ha).trans (f1 a ha), f2, fun m hm => ?_⟩))))
    show (sn_pI z 7 k (z.1 1 1)).1 7 m = _
    by_cases c : m = k
    · subst c
      rw [pI_self, f1 1 (by decide)]
    · rw [pI_slot c]
      exact f3 m (by omega)
  · obtain ⟨z, x⟩ := s
    obtain ⟨ex, f1, f2, f3⟩ := hs
    have ex : x = nI 30 := ex
    subst ex
    show yp (BX9_asItIs_42 z (nI 30)) _
    unfold BX9_asItIs_42
    rw [if_pos (show (30 : Int32) ≤ nI 30 by decide)]
    exact yp_some ⟨f1, f2, f3⟩
theorem ym_gusts {w : Nat → Int32} (hW : jW w) {z0 : sn_S} (h1 : z0.1 1 = w) (h7 : ∀ m, m < 30 → z0.1 7 m = w 1) (h18 : z0.1 0 18 = 0) : yp (sn_it (LX9_asItIs_68) 5000 (z0, (0 : Int32))) (fun z => (∀ a, a ≠ 0 → a ≠ 7 → z.1 a = z0.1 a) ∧ z.2 = z0.2 ∧ (∀ k, k ≠ 18 → z.1 0 k = z0.1 0 k) ∧ (∀ m, m < 30 → z.1 7 m = hs_dust w m (sp_n w 6)) ∧ z.1 0 18 = hs_gust w (sp_n w 6)) := by
  obtain ⟨b6, c6⟩ : yh_n w 6 5 := hW.1.2.2.2.2.2.2.1
  refine yp_for (sp_n w 6) (fun k s => s.2 = nI k ∧ (∀ a, a ≠ 0 → a ≠ 7 → s.1.1 a = z0.1 a) ∧ s.1.2 = z0.2 ∧ (∀ k, k ≠ 18 → s.1.1 0 k = z0.1 0 k) ∧ (∀ m, m < 30 → s.1.1 7 m = hs_dust w m k) ∧ s.1.1 0 18 = hs_gust w k) (fun k s hk hs => ?_) (fun s hs => ?_) ⟨nI_0.symm, fun _ _ _ => rfl, rfl, fun _ _ => rfl, h7, h18⟩
  · obtain ⟨z, x⟩ := s
    obtain ⟨ex, f1, f2, f3, f4, f5⟩ := hs
    have ex : x = nI k := ex
    subst ex
    have f1 : ∀ a, a ≠ 0 → a ≠ 7 → z.1 a = z0.1 a := f1
    have f3 : ∀ k, k ≠ 18 → z.1 0 k = z0.1 0 k := f3
    have f4 : ∀ m, m < 30 → z.1 7 m = hs_dust w m k := f4
    have f5 : z.1 0 18 = hs_gust w k := f5
    have ew : z.1 1 = w := (f1 1 (by decide) (by decide)).trans h1
    have e6 : sn_I z 1 (6 : Int32).toNatClampNeg = nI (sp_n w 6) := (congrFun ew 6).trans b6
    obtain ⟨⟨-, -⟩, ⟨w1, w2⟩⟩ := hW.2.2.2.2.1 k hk
    have a1 : sn_I z 1 (24 + 2 * k) = nI (sp_n w (24 + 2 * k)) := (congrFun ew _).trans w1
    have a0 : sn_I z 1 (23 + 2 * k) = w (23 + 2 * k) := congrFun ew _
    show yp (BX9_asItIs_68 z (nI k)) _
    unfold BX9_asItIs_68
    rw [e6, if_neg (nI_ge hk (by omega)), yi_24, yi_23, nI_clamp (show 24 + 2 * k < 2 ^ 31 by omega), nI_clamp (show 23 + 2 * k < 2 ^ 31 by omega), a1, a0]
    refine yp_gd (fun _ => yp_gd (fun _ => yp_lt (yp_gd (fun _ => yp_gd (fun _ => yp_gd (fun _ => ?_))))))
    rw [nI_clamp (show sp_n w (24 + 2 * k) < 2 ^ 31 by omega)]
    refine yp_lt (yp_lt (yp_lt (yp_some ⟨nI_1 k, fun a a1 a2 => (pI_ne a1).trans ((pI_ne a2).trans (f1 a a1 a2)), f2, fun j hj => ?_, fun m hm => ?_, ?_⟩)))
    · show (sn_pI (sn_pI z 7 _ _) 0 18 _).1 0 j = _
      rw [pI_slot hj, pI_ne (by decide)]
      exact f3 j hj
    · show (sn_pI (sn_pI z 7 (sp_n w (24 + 2 * k)) (z.1 7 (sp_n w (24 + 2 * k)) + w (23 + 2 * k))) 0 18 _).1 7 m = if sp_n w (24 + 2 * k) = m then hs_dust w m k + w (23 + 2 * k) else hs_dust w m k
      rw [pI_ne (by decide)]
      by_cases c : sp_n w (24 + 2 * k) = m
      · subst c
        rw [pI_self, if_pos rfl, f4 _ hm]
      · rw [pI_slot (fun e => c e.symm), if_neg c]
        exact f4 m hm
    · show (sn_pI (sn_pI z 7 _ _) 0 18 ((sn_pI z 7 _ _).1 0 18 ||| ((1 : Int32) <<< (nI (sp_n w (24 + 2 * k)) &&& 31)))).1 0 18 = hs_gust w k ||| ((1 : Int32) <<< (nI (sp_n w (24 + 2 * k)) &&& 31))
      rw [pI_self, pI_ne (by decide), f5]
  · obtain ⟨z, x⟩ := s
    obtain ⟨ex, f1, f2, f3, f4, f5⟩ := hs
    have ex : x = nI (sp_n w 6) := ex
    subst ex
    have f1 : ∀ a, a ≠ 0 → a ≠ 7 → z.1 a = z0.1 a := f1
    have ew : z.1 1 = w := (f1 1 (by decide) (by decide)).trans h1
    have e6 : sn_I z 1 (6 : Int32).toNatClampNeg = nI (sp_n w 6) := (congrFun ew 6).trans b6
    show yp (BX9_asItIs_68 z (nI (sp_n w 6))) _
    unfold BX9_asItIs_68
    rw [e6, if_pos (nI_le (Nat.le_refl _) (by omega))]
    exact yp_gd (fun _ => yp_some ⟨f1, f2, f3, f4, f5⟩)
theorem ym_clear {z0 : sn_S} : yp (sn_it (LX9_asItIs_133) 5000 (z0, (0 : Int32))) (fun z => (∀ a, a ≠ 8 → a ≠ 9 → z.1 a = z0.1 a) ∧ z.2 = z0.2 ∧ ∀ p, p < 6 → z.1 8 p = 0 ∧ z.1 9 p = 0) := by
  refine yp_for 6 (fun k s => s.2 = nI k ∧ (∀ a, a ≠ 8 → a ≠ 9 → s.1.1 a = z0.1 a) ∧ s.1.2 = z0.2 ∧ ∀ p, p < k → s.1.1 8 p = 0 ∧ s.1.1 9 p = 0) (fun k s hk hs => ?_) (fun s hs => ?_) ⟨nI_0.symm, fun _ _ _ => rfl, rfl, fun m hm => absurd hm (by omega)⟩
  · obtain ⟨z, x⟩ := s
    obtain ⟨ex, f1, f2, f3⟩ := hs
    have ex : x = nI k := ex
    subst ex
    show yp (BX9_asItIs_133 z (nI k)) _
    unfold BX9_asItIs_133
    rw [if_neg (show ¬ (6 : Int32) ≤ nI k from nI_ge (b := 6) hk (by decide)), nI_clamp (show k < 2 ^ 31 by omega)]
    refine yp_gd (fun _ => yp_lt (yp_gd (fun _ => yp_lt (yp_lt (yp_some ⟨nI_1 k, fun a a1 a2 => (pI_ne a2).trans ((pI_ne a1).trans (f1 a a1 a2)), f2, fun p hp => ?_⟩)))))
    show (sn_pI (sn_pI z 8 k 0) 9 k 0).1 8 p = 0 ∧ (sn_pI (sn_pI z 8 k 0) 9 k 0).1 9 p = 0
    rw [pI_ne (show 8 ≠ 9 by decide)]
    by_cases c : p = k
    · subst c
      exact ⟨pI_self, pI_self⟩
    · rw [pI_slot c, pI_slot c, pI_ne (show 9 ≠ 8 by decide)]
      exact f3 p (by omega)
  · obtain ⟨z, x⟩ := s
    obtain ⟨ex, f1, f2, f3⟩ := hs
    have ex : x = nI 6 := ex
    subst ex
    show yp (BX9_asItIs_133 z (nI 6)) _
    unfold BX9_asItIs_133
    rw [if_pos (show (6 : Int32) ≤ nI 6 by decide)]
    exact yp_some ⟨f1, f2, f3⟩
theorem ym_acts {w : Nat → Int32} (hW : jW w) {z0 : sn_S} (h1 : z0.1 1 = w) (h89 : ∀ p, p < 6 → z0.1 8 p = 0 ∧ z0.1 9 p = 0) : yp (sn_it (LX9_asItIs_161) 5000 (z0, (0 : Int32))) (fun z => (∀ a, a ≠ 8 → a ≠ 9 → z.1 a = z0.1 a) ∧ z.2 = z0.2 ∧ ∀ p, p < 6 → z.1 8 p = hs_acts w 0 p (sp_n w 9) ∧ z.1 9 p = hs_acts w 1 p (sp_n w 9)) := by
  obtain ⟨b9, c9⟩ : yh_n w 9 40 := hW.1.2.2.2.2.2.2.2.2.2.1
  have c5 : sp_n w 5 ≤ 6 := hW.1.2.2.2.2.2.1.2
  refine yp_for (sp_n w 9) (fun k s => s.2 = nI k ∧ (∀ a, a ≠ 8 → a ≠ 9 → s.1.1 a = z0.1 a) ∧ s.1.2 = z0.2 ∧ ∀ p, p < 6 → s.1.1 8 p = hs_acts w 0 p k ∧ s.1.1 9 p = hs_acts w 1 p k) (fun k s hk hs => ?_) (fun s hs => ?_) ⟨nI_0.symm, fun _ _ _ => rfl, rfl, h89⟩
  · obtain ⟨z, x⟩ := s
    obtain ⟨ex, f1, f2, f3⟩ := hs
    have ex : x = nI k := ex
    subst ex
    have f1 : ∀ a, a ≠ 8 → a ≠ 9 → z.1 a = z0.1 a := f1
    have f2 : z.2 = z0.2 := f2
    have f3 : ∀ p, p < 6 → z.1 8 p = hs_acts w 0 p k ∧ z.1 9 p = hs_acts w 1 p k := f3
    have ew : z.1 1 = w := (f1 1 (by decide) (by decide)).trans h1
    have e9 : sn_I z 1 (9 : Int32).toNatClampNeg = nI (sp_n w 9) := (congrFun ew 9).trans b9
    obtain ⟨d0, d1, d2⟩ := hW.2.2.2.2.2.2.2 k hk
    have c0 : sp_n w 0 ≤ 30 := hW.1.1.2
    have ea : sn_I z 1 (79 + k) = nI (sp_n w (79 + k)) := (congrFun ew _).trans d0
    obtain ⟨a, ha⟩ : ∃ a, a = sp_n w (79 + k) := ⟨_, rfl⟩
    rw [← ha] at d1 d2 ea
    have ab : a < 1200 := by omega
    have k1 : ∀ kind p, hs_acts w kind p (k + 1) = if a % 2 = kind ∧ a / 200 = p then hs_acts w kind p k ||| ((1 : Int32) <<< (nI (a % 200 / 2) &&& 31)) else hs_acts w kind p k := fun kind p => by
      rw [ha]
      rfl
    have l232 : ∀ u : sn_S, (∀ b, b ≠ 8 → b ≠ 9 → u.1 b = z.1 b) → u.2 = z.2 → (∀ p, p < 6 → u.1 8 p = hs_acts w 0 p (k + 1) ∧ u.1 9 p = hs_acts w 1 p (k + 1)) → yp (BX9_asItIs_232 u (nI k)) (yp_sum (fun s : sn_S × Int32 => s.2 = nI (k + 1) ∧ (∀ a, a ≠ 8 → a ≠ 9 → s.1.1 a = z0.1 a) ∧ s.1.2 = z0.2 ∧ ∀ p, p < 6 → s.1.1 8 p = hs_acts w 0 p (k + 1) ∧ s.1.1 9 p = hs_acts w 1 p (k + 1)) (fun _ => False)) := fun u u1 u2 u3 => by
      unfold BX9_asItIs_232
      exact yp_lt (yp_some ⟨nI_1 k, fun b b1 b2 => (u1 b b1 b2).trans (f1 b b1 b2), u2.trans f2, u3⟩)
    show yp (BX9_asItIs_161 z (nI k)) _
    unfold BX9_asItIs_161
    rw [e9, if_neg (nI_ge hk (by omega)), show (79 : Int32) + nI k = nI (79 + k) from nI_add 79 k, nI_clamp (show 79 + k < 2 ^ 31 by omega), ea]
    refine yp_gd (fun _ => yp_gd (fun _ => yp_lt ?_))
    rw [yi_d200 (by omega), yi_m2 (by omega), yi_d2 (by omega), yi_m100 (show a / 2 < 2 ^ 31 by omega), show a / 2 % 100 = a % 200 / 2 by omega]
    refine yp_lt (yp_lt ?_)
    rw [nI_clamp (show a / 200 < 2 ^ 31 by omega)]
    refine yp_ite (fun c => ?_) (fun c => ?_)
    · have c : a % 2 = 1 := (nI_eq (b := 1) (by omega) (by decide)).mp c
      refine yp_gd (fun _ => yp_gd (fun _ => yp_lt (l232 _ (fun b _ b2 => pI_ne b2) rfl (fun p hp => ⟨?_, ?_⟩))))
      · rw [pI_ne (by decide), k1 0 p, if_neg (fun h => by omega)]
        exact (f3 p hp).1
      · show (sn_pI z 9 (a / 200) (z.1 9 (a / 200) ||| _)).1 9 p = _
        rw [k1 1 p]
        by_cases e : p = a / 200
        · subst e
          rw [pI_self, if_pos ⟨c, rfl⟩, (f3 _ hp).2]
        · rw [pI_slot e, if_neg (fun h => e h.2.symm)]
          exact (f3 p hp).2
    · have c : a % 2 = 0 := by
        have : a % 2 ≠ 1 := fun h => c (by rw [h]; rfl)
        omega
      refine yp_gd (fun _ => yp_gd (fun _ => yp_lt (l232 _ (fun b b1 _ => pI_ne b1) rfl (fun p hp => ⟨?_, ?_⟩))))
      · show (sn_pI z 8 (a / 200) (z.1 8 (a / 200) ||| _)).1 8 p = _
        rw [k1 0 p]
        by_cases e : p = a / 200
        · subst e
          rw [pI_self, if_pos ⟨c, rfl⟩, (f3 _ hp).1]
        · rw [pI_slot e, if_neg (fun h => e h.2.symm)]
          exact (f3 p hp).1
      · rw [pI_ne (by decide), k1 1 p, if_neg (fun h => by omega)]
        exact (f3 p hp).2
  · obtain ⟨z, x⟩ := s
    obtain ⟨ex, f1, f2, f3⟩ := hs
    have ex : x = nI (sp_n w 9) := ex
    subst ex
    have f1 : ∀ a, a ≠ 8 → a ≠ 9 → z.1 a = z0.1 a := f1
    have ew : z.1 1 = w := (f1 1 (by decide) (by decide)).trans h1
    have e9 : sn_I z 1 (9 : Int32).toNatClampNeg = nI (sp_n w 9) := (congrFun ew 9).trans b9
    show yp (BX9_asItIs_161 z (nI (sp_n w 9))) _
    unfold BX9_asItIs_161
    rw [e9, if_pos (nI_le (Nat.le_refl _) (by omega))]
    exact yp_gd (fun _ => yp_some ⟨f1, f2, f3⟩)
/-- as it is -/
def ya_T (τ z : sn_S) (w : Nat → Int32) : Prop := ya_0 τ z ∧ z.1 0 18 = hs_gust w (sp_n w 6) ∧ z.1 0 19 = -1 ∧ z.1 0 20 = w 2 ∧ z.1 0 21 = w 3 ∧ z.1 0 22 = nI (sp_n w 0) - 1 ∧ (∀ m, m < 30 → z.1 7 m = hs_dust w m (sp_n w 6)) ∧ ∀ p, p < 6 → z.1 8 p = hs_acts w 0 p (sp_n w 9) ∧ z.1 9 p = hs_acts w 1 p (sp_n w 9)
theorem ym_asItIs {τ : sn_S} {w : Nat → Int32} (hw : τ.1 1 = w) (hW : jW w) : yp (fX9_asItIs τ) (fun z => ya_T τ z w) := by
  have b0 : w 0 = nI (sp_n w 0) := hW.1.1.1
  unfold fX9_asItIs fX9_minutes
  refine yp_lt (yp_lt (yp_gd (fun _ => yp_lt (yp_gd (fun _ => yp_lt (yp_bd _ (yp_gd (fun _ => yp_eq rfl)) (fun v hv => yp_lt ?_)))))))
  obtain ⟨u, hu⟩ : ∃ u : sn_S, u = sn_pI (sn_pI (sn_pI (sn_pI (sn_pI τ 0 18 0) 0 19 (-1)) 0 20 (sn_I (sn_pI (sn_pI τ 0 18 0) 0 19 (-1)) 1 (2 : Int32).toNatClampNeg)) 0 21 (sn_I (sn_pI (sn_pI (sn_pI τ 0 18 0) 0 19 (-1)) 0 20 (sn_I (sn_pI (sn_pI τ 0 18 0) 0 19 (-1)) 1 (2 : Int32).toNatClampNeg)) 1 (3 : Int32).toNatClampNeg)) 0 22 (v - 1) := ⟨_, rfl⟩
  rw [← hu]
  have u0 : ∀ a, a ≠ 0 → u.1 a = τ.1 a := fun a ha => by rw [hu, pI_ne ha, pI_ne ha, pI_ne ha, pI_ne ha, pI_ne ha]
  have u2 : u.2 = τ.2 := by rw [hu]; rfl
  have uk : ∀ k, k < 18 ∨ 22 < k → u.1 0 k = τ.1 0 k := fun k hk => by rw [hu, pI_slot (by omega), pI_slot (by omega), pI_slot (by omega), pI_slot (by omega), pI_slot (by omega)]
  have v18 : u.1 0 18 = 0 := by rw [hu, pI_slot (by decide), pI_slot (by decide), pI_slot (by decide), pI_slot (by decide), pI_self]
  have v19 : u.1 0 19 = -1 := by rw [hu, pI_slot (by decide), pI_slot (by decide), pI_slot (by decide), pI_self]
  have v20 : u.1 0 20 = w 2 := by
    rw [hu, pI_slot (by decide), pI_slot (by decide), pI_self]
    exact (congrFun ((pI_ne (show 1 ≠ 0 by decide)).trans (pI_ne (show 1 ≠ 0 by decide))) 2).trans (congrFun hw 2)
  have v21 : u.1 0 21 = w 3 := by
    rw [hu, pI_slot (by decide), pI_self]
    exact (congrFun ((pI_ne (show 1 ≠ 0 by decide)).trans ((pI_ne (show 1 ≠ 0 by decide)).trans (pI_ne (show 1 ≠ 0 by decide)))) 3).trans (congrFun hw 3)
  have ev : v = nI (sp_n w 0) := hv.trans ((congrFun ((pI_ne (show 1 ≠ 0 by decide)).trans ((pI_ne (show 1 ≠ 0 by decide)).trans ((pI_ne (show 1 ≠ 0 by decide)).trans (pI_ne (show 1 ≠ 0 by decide))))) 0).trans ((congrFun hw 0).trans b0))
  have v22 : u.1 0 22 = nI (sp_n w 0) - 1 := by rw [hu, pI_self, ev]
  clear hu
  have uw : u.1 1 = w := (u0 1 (by decide)).trans hw
  refine yp_bd _ (ym_dusts (τ := τ)) (fun a ha => ?_)
  obtain ⟨a1, a2, a3⟩ := ha
  have aw : a.1 1 = w := (a1 1 (by decide)).trans uw
  rw [uw] at a3
  unfold BX9_asItIs_66
  refine yp_bd _ (ym_gusts hW aw a3 ((congrFun (a1 0 (by decide)) 18).trans v18)) (fun b hb => ?_)
  obtain ⟨b1, b2, b3, b4, b5⟩ := hb
  unfold BX9_asItIs_131
  refine yp_bd _ ym_clear (fun c hc => ?_)
  obtain ⟨c1, c2, c3⟩ := hc
  have cw : c.1 1 = w := (c1 1 (by decide) (by decide)).trans ((b1 1 (by decide) (by decide)).trans aw)
  unfold BX9_asItIs_159
  refine yp_bd _ (ym_acts hW cw c3) (fun d hd => ?_)
  obtain ⟨d1, d2, d3⟩ := hd
  unfold BX9_asItIs_238
  have d0 : d.1 0 = b.1 0 := (d1 0 (by decide) (by decide)).trans (c1 0 (by decide) (by decide))
  have d7 : d.1 7 = b.1 7 := (d1 7 (by decide) (by decide)).trans (c1 7 (by decide) (by decide))
  have z0 : ∀ k, k ≠ 18 → d.1 0 k = u.1 0 k := fun k hk => by rw [d0, b3 k hk, a1 0 (by decide)]
  refine yp_some ⟨⟨fun k k0 k7 k8 k9 => ?_, d2.trans (c2.trans (b2.trans (a2.trans u2))), fun k hk => ?_⟩, ?_, (z0 19 (by decide)).trans v19, (z0 20 (by decide)).trans v20, (z0 21 (by decide)).trans v21, (z0 22 (by decide)).trans v22, fun m hm => ?_, d3⟩
  · rw [d1 k k8 k9, c1 k k8 k9, b1 k k0 k7, a1 k k7, u0 k k0]
  · rw [z0 k (by omega)]
    exact uk k hk
  · rw [d0]
    exact b5
  · rw [d7]
    exact b4 m hm
theorem ya_day {τ z : sn_S} {w : Nat → Int32} (hw : τ.1 1 = w) (hW : jW w) (h : ya_T τ z w) : ym_T z (hs_day w) := by
  obtain ⟨h0, h18, h19, h20, h21, h22, h7, h89⟩ := h
  have ew : z.1 1 = w := (h0.1 1 (by decide) (by decide) (by decide) (by decide)).trans hw
  have c5 : sp_n w 5 ≤ 6 := hW.1.2.2.2.2.2.1.2
  refine ⟨(congrFun ew 5).trans hW.1.2.2.2.2.2.1.1, (congrFun ew 7).trans hW.1.2.2.2.2.2.2.2.1.1, h19, h7, fun p hp => ?_, fun k hk => ?_⟩
  · have hp : p < sp_n w 5 := hp
    exact ⟨congrFun ew _, congrFun ew _, (h89 p (by omega)).1, (h89 p (by omega)).2⟩
  · have g := hW.2.2.2.2.2.1 k hk
    exact ⟨(congrFun ew _).trans g.1, (congrFun ew _).trans g.2.2.1⟩
/-- the reference behind asksHouse: as it is, and gone through -/
def yM (τ z : sn_S) (w : Nat → Int32) : Prop := z.1 1 = w ∧ ym_L z (hs_day w) (sp_n w 0) ∧ z.1 0 18 = hs_gust w (sp_n w 6) ∧ z.1 0 19 = -1 ∧ z.1 0 20 = w 2 ∧ z.1 0 21 = w 3 ∧ z.1 0 22 = nI (sp_n w 0) - 1 ∧ (∀ m, m < 30 → z.1 7 m = hs_dust w m (sp_n w 6)) ∧ (∀ p, p < 6 → z.1 8 p = hs_acts w 0 p (sp_n w 9) ∧ z.1 9 p = hs_acts w 1 p (sp_n w 9)) ∧ ym_T z (hs_day w) ∧ (∀ a, a ≠ 0 → (a < 7 ∨ 14 < a) → z.1 a = τ.1 a) ∧ z.2 = τ.2 ∧ ∀ k, k < 18 ∨ 22 < k → z.1 0 k = τ.1 0 k
theorem ym_goes {τ z : sn_S} {w : Nat → Int32} (hw : τ.1 1 = w) (hW : jW w) (h : ya_T τ z w) : yp (fX9_goAll z) (fun u => yM τ u w) := by
  refine yp_w (ym_goAll hW.1.1.2 h.2.2.2.2.2.1 (ya_day hw hW h) (hs_ok hW)) (fun u hu => ?_)
  obtain ⟨⟨f1, f2⟩, f3⟩ := hu
  obtain ⟨h0, h18, h19, h20, h21, h22, h7, h89⟩ := h
  have e0 : u.1 0 = z.1 0 := f1 0 (by omega)
  refine ⟨(f1 1 (by omega)).trans ((h0.1 1 (by decide) (by decide) (by decide) (by decide)).trans hw), f3, ?_, ?_, ?_, ?_, ?_, ?_, ?_, ym_Tc (fun a ha => f1 a (Or.inl ha)) (ya_day hw hW ⟨h0, h18, h19, h20, h21, h22, h7, h89⟩), fun a a0 ha => (f1 a (by omega)).trans (h0.1 a a0 (by omega) (by omega) (by omega)), f2.trans h0.2.1, fun k hk => ?_⟩
  · rw [e0]; exact h18
  · rw [e0]; exact h19
  · rw [e0]; exact h20
  · rw [e0]; exact h21
  · rw [e0]; exact h22
  · rw [f1 7 (by omega)]; exact h7
  · rw [f1 8 (by omega), f1 9 (by omega)]; exact h89
  · rw [e0]; exact h0.2.2 k hk
theorem ym_asks {τ : sn_S} {w : Nat → Int32} (hw : τ.1 1 = w) (hW : jW w) : yp (fX9_asksHouse τ) (fun r => r.1 = (if 0 < sp_n w 10 then 1 else 0) ∧ yM τ r.2 w) := by
  obtain ⟨b, c⟩ : yh_n w 10 900 := hW.1.2.2.2.2.2.2.2.2.2.2
  unfold fX9_asksHouse
  refine yp_bd _ (ym_asItIs hw hW) (fun z hz => yp_bd _ (ym_goes hw hW hz) (fun u hu => ?_))
  have e : sn_I u 1 (10 : Int32).toNatClampNeg = nI (sp_n w 10) := (congrFun hu.1 10).trans b
  refine yp_bd (fun v => v = (if 0 < sp_n w 10 then 1 else 0)) ?_ (fun v hv => yp_gd (fun _ => yp_some ⟨hv, hu⟩))
  unfold fX9_isHouse
  rw [e]
  refine yp_gd (fun _ => yp_ite (fun h => yp_gd (fun _ => yp_some ?_)) (fun h => yp_gd (fun _ => yp_some ?_)))
  · rw [if_neg]
    intro g
    exact absurd h (nI_nle g (by omega))
  · rw [if_pos]
    by_cases g : 0 < sp_n w 10
    · exact g
    · have : sp_n w 10 = 0 := by omega
      rw [this] at h
      exact absurd (show nI 0 ≤ 0 by decide) h
end
section
/-! what is read without a fault lies within the bounds of a house -/
def yq (σ z : sn_S) : Prop := (∀ q, q ≠ 17 → z.1 q = σ.1 q) ∧ (z.1 17 2 = 0 → σ.1 17 2 = 0)
theorem yq_rf {σ : sn_S} : yq σ σ := ⟨fun _ _ => rfl, fun h => h⟩
theorem yq_tr {a b c : sn_S} (h : yq a b) (g : yq b c) : yq a c := ⟨fun q hq => (g.1 q hq).trans (h.1 q hq), fun x => h.2 (g.2 x)⟩
theorem yq_17 {σ z : sn_S} {k : Nat} {v : Int32} (hk : k ≠ 2) (h : yq σ z) : yq σ (sn_pI z 17 k v) := ⟨fun q hq => (pI_ne hq).trans (h.1 q hq), fun x => h.2 (by
  rw [pI_slot (fun e => hk e.symm)] at x
  exact x)⟩
theorem yq_blame {σ : sn_S} {x : Int32} (hx : x ≠ 0) : yp (fX5_blame σ x) (fun z => yq σ z ∧ z.1 17 2 ≠ 0) := by
  unfold fX5_blame
  refine yp_ite (fun c => yp_lt (yp_lt (yp_some ⟨⟨fun q hq => (pI_ne hq).trans (pI_ne hq), fun _ => c⟩, ?_⟩))) (fun c => yp_some ⟨yq_rf, c⟩)
  rw [pI_slot (by decide), pI_self]
  exact hx
theorem yq_step {σ : sn_S} : yp (fX5_step σ) (fun z => yq σ z) := by
  unfold fX5_step
  refine yp_lt (yp_bd (fun z => yq σ z) (yp_it (fun z => yq σ z) (fun z hz => ?_) _ _ (yq_17 (by decide) yq_rf)) (fun z hz => ?_))
  · show yp (BX5_step_8 z) _
    unfold BX5_step_8
    exact yp_ite (fun _ => yp_some hz) (fun _ => yp_bd (fun _ => True) (fun _ _ => trivial) (fun t _ => yp_ite (fun _ => yp_lt (yp_some (yq_17 (by decide) hz))) (fun _ => yp_some hz)))
  · unfold BX5_step_44
    refine yp_bd (fun _ => True) (fun _ _ => trivial) (fun t _ => yp_lt (yp_lt (yp_lt ?_)))
    refine yp_bd (fun z => yq σ z) (yp_it (fun z => yq σ z) (fun u hu => ?_) _ _ (yq_17 (by decide) (yq_17 (by decide) hz))) (fun u hu => ?_)
    · have k89 : yp (BX5_step_89 u) (yp_sum (fun z => yq σ z) (fun z => yq σ z)) := by
        unfold BX5_step_89
        exact yp_ite (fun _ => yp_some hu) (fun _ => yp_bd (fun _ => True) (fun _ _ => trivial) (fun t _ => yp_ite (fun _ => yp_lt (yp_some (yq_17 (by decide) hu))) (fun _ => yp_some hu)))
      show yp (BX5_step_73 u) _
      unfold BX5_step_73
      exact yp_ite (fun _ => k89) (fun _ => yp_ite (fun _ => k89) (fun _ => yp_some hu))
    · unfold BX5_step_128
      exact yp_some hu
theorem yq_word {σ : sn_S} {k : Nat} : yp (fX5_word σ k) (fun z => yq σ z) := by
  unfold fX5_word
  exact yp_bd (fun _ => True) (fun _ _ => trivial) (fun t _ => yp_ite (fun _ => yp_bd _ (yq_blame (by decide)) (fun z hz => yp_some hz.1)) (fun _ => yp_bd _ yq_step (fun z hz => yp_some hz)))
theorem yq_sign {σ : sn_S} : yp (fX5_sign σ) (fun z => yq σ z) := by
  unfold fX5_sign
  exact yp_ite (fun _ => yp_bd _ yq_step (fun z hz => yp_some hz)) (fun _ => yp_bd _ (yq_blame (by decide)) (fun z hz => yp_some hz.1))
theorem yq_num {σ : sn_S} {lo hi but : Int32} : yp (fX5_number σ lo hi but) (fun r => yq σ r.2 ∧ (r.2.1 17 2 = 0 → lo ≤ r.1 ∧ r.1 ≤ hi ∧ r.1 ≠ but)) := by
  have l44 : ∀ (z : sn_S) (v : Int32), yp (BX5_number_44 z v) (fun r => yq z r.2 ∧ r.1 = v) := fun z v => by
    unfold BX5_number_44
    exact yp_bd _ yq_step (fun u hu => yp_some ⟨hu, rfl⟩)
  have l39 : ∀ v : Int32, yp (BX5_number_39 σ v) (fun r => yq σ r.2 ∧ (r.2.1 17 2 = 0 → lo ≤ r.1 ∧ r.1 ≤ hi ∧ r.1 ≠ but)) := fun v => by
    unfold BX5_number_39
    exact yp_bd _ (yq_blame (by decide)) (fun u hu => yp_w (l44 u v) (fun r hr => ⟨yq_tr hu.1 hr.1, fun x => absurd (hr.1.2 x) hu.2⟩))
  unfold fX5_number
  refine yp_ite (fun _ => yp_bd (fun _ => True) (fun _ _ => trivial) (fun t _ => ?_)) (fun _ => yp_bd _ (yq_blame (by decide)) (fun u hu => yp_some ⟨hu.1, fun x => absurd x hu.2⟩))
  exact yp_ite (fun _ => l39 t) (fun c1 => yp_ite (fun _ => l39 t) (fun c2 => yp_ite (fun _ => l39 t) (fun c3 => yp_w (l44 σ t) (fun r hr => ⟨hr.1, fun _ => by
    rw [hr.2]
    exact ⟨Int32.not_lt.mp c1, Int32.not_lt.mp c2, c3⟩⟩))))
/-- rows but the reader's own -/
def yq_r (u z : sn_S) : Prop := ∀ q, q ≠ 17 → z.1 q = u.1 q
theorem yq_rw {u z : sn_S} {q k : Nat} {v : Int32} (h : yq_r u z) : yq_r (sn_pI u q k v) (sn_pI z q k v) := fun a ha => by
  funext b
  show (if a = q ∧ b = k then v else z.1 a b) = if a = q ∧ b = k then v else u.1 a b
  rw [h a ha]
theorem yq_rq {u z y : sn_S} (h : yq_r u z) (g : yq z y) : yq_r u y := fun q hq => (g.1 q hq).trans (h q hq)
theorem yq_f {z : sn_S} {q k : Nat} {v : Int32} (hq : q ≠ 17) (x : (sn_pI z q k v).1 17 2 = 0) : z.1 17 2 = 0 := by
  rw [pI_ne (fun e => hq e.symm)] at x
  exact x
section
variable {σ : sn_S} {n : Nat}
theorem yq_nose (hb : n < 100) : yp (fX5_readNose σ (nI n)) (fun z => z.1 17 2 = 0 → σ.1 17 2 = 0 ∧ n < 6 ∧ ∃ a b : Int32, ((0 ≤ a ∧ a ≤ 9) ∧ 1 ≤ b ∧ b ≤ 99) ∧ yq_r (sn_pI (sn_pI (sn_pI σ 10 (2 * n) a) 10 (2 * n + 1) b) 9 5 (nI (n + 1))) z) := by
  unfold fX5_readNose
  refine yp_ite (fun c => ?_) (fun _ => yp_bd _ (yq_blame (by decide)) (fun u hu => yp_some (fun x => absurd x hu.2)))
  have c1 : n < 6 := (nI_ltI (b := 6) (by omega) (by decide)).mp c
  rw [yi_2, show nI (2 * n) + (1 : Int32) = nI (2 * n + 1) from nI_1 _, show nI n + (1 : Int32) = nI (n + 1) from nI_1 _, nI_clamp (show 2 * n < 2 ^ 31 by omega), nI_clamp (show 2 * n + 1 < 2 ^ 31 by omega)]
  refine yp_bd _ yq_word (fun t2 h2 => yp_gd (fun _ => yp_bd _ yq_num (fun r5 h5 => yp_gd (fun _ => yp_lt ?_))))
  refine yp_bd _ yq_word (fun t10 h10 => yp_gd (fun _ => yp_bd _ yq_num (fun r13 h13 => yp_gd (fun _ => yp_lt ?_))))
  refine yp_bd _ yq_sign (fun t18 h18 => yp_gd (fun _ => yp_gd (fun _ => yp_lt (yp_some (fun x => ?_)))))
  have x18 := yq_f (by decide) x
  have x13 := yq_f (by decide) (h18.2 x18)
  have x10 := h13.1.2 x13
  have x5 := yq_f (by decide) (h10.2 x10)
  refine ⟨h2.2 (h5.1.2 x5), c1, r5.1, r13.1, ⟨⟨(h5.2 x5).1, (h5.2 x5).2.1⟩, (h13.2 x13).1, (h13.2 x13).2.1⟩, ?_⟩
  exact yq_rw (yq_rq (yq_rw (yq_rq (yq_rq (yq_rw (yq_rq h2.1 h5.1)) h10) h13.1)) h18)
theorem yq_gust (hb : n < 100) : yp (fX5_readGust σ (nI n)) (fun z => z.1 17 2 = 0 → σ.1 17 2 = 0 ∧ n < 5 ∧ ∃ a b : Int32, ((1 ≤ a ∧ a ≤ 9) ∧ 0 ≤ b ∧ b ≤ 29) ∧ yq_r (sn_pI (sn_pI (sn_pI σ 11 (2 * n) a) 11 (2 * n + 1) b) 9 6 (nI (n + 1))) z) := by
  unfold fX5_readGust
  refine yp_ite (fun c => ?_) (fun _ => yp_bd _ (yq_blame (by decide)) (fun u hu => yp_some (fun x => absurd x hu.2)))
  have c1 : n < 5 := (nI_ltI (b := 5) (by omega) (by decide)).mp c
  rw [yi_2, show nI (2 * n) + (1 : Int32) = nI (2 * n + 1) from nI_1 _, show nI n + (1 : Int32) = nI (n + 1) from nI_1 _, nI_clamp (show 2 * n < 2 ^ 31 by omega), nI_clamp (show 2 * n + 1 < 2 ^ 31 by omega)]
  refine yp_bd _ yq_word (fun t2 h2 => yp_gd (fun _ => yp_bd _ yq_num (fun r5 h5 => yp_gd (fun _ => yp_lt ?_))))
  refine yp_bd _ yq_word (fun t10 h10 => yp_gd (fun _ => yp_bd _ yq_num (fun r13 h13 => yp_gd (fun _ => yp_lt ?_))))
  refine yp_bd _ yq_sign (fun t18 h18 => yp_gd (fun _ => yp_gd (fun _ => yp_lt (yp_some (fun x => ?_)))))
  have x18 := yq_f (by decide) x
  have x13 := yq_f (by decide) (h18.2 x18)
  have x10 := h13.1.2 x13
  have x5 := yq_f (by decide) (h10.2 x10)
  refine ⟨h2.2 (h5.1.2 x5), c1, r5.1, r13.1, ⟨⟨(h5.2 x5).1, (h5.2 x5).2.1⟩, (h13.2 x13).1, (h13.2 x13).2.1⟩, ?_⟩
  exact yq_rw (yq_rq (yq_rw (yq_rq (yq_rq (yq_rw (yq_rq h2.1 h5.1)) h10) h13.1)) h18)
theorem yq_net (hb : n < 100) : yp (fX5_readNet σ (nI n)) (fun z => z.1 17 2 = 0 → σ.1 17 2 = 0 ∧ n < 8 ∧ ∃ a b : Int32, ((0 ≤ a ∧ a ≤ σ.1 9 5 - 1) ∧ (0 ≤ b ∧ b ≤ σ.1 9 5 - 1) ∧ b ≠ a) ∧ yq_r (sn_pI (sn_pI (sn_pI σ 12 (2 * n) a) 12 (2 * n + 1) b) 9 7 (nI (n + 1))) z) := by
  unfold fX5_readNet
  refine yp_ite (fun c => ?_) (fun _ => yp_bd _ (yq_blame (by decide)) (fun u hu => yp_some (fun x => absurd x hu.2)))
  have c1 : n < 8 := (nI_ltI (b := 8) (by omega) (by decide)).mp c
  rw [yi_2, show nI (2 * n) + (1 : Int32) = nI (2 * n + 1) from nI_1 _, show nI n + (1 : Int32) = nI (n + 1) from nI_1 _, nI_clamp (show 2 * n < 2 ^ 31 by omega), nI_clamp (show 2 * n + 1 < 2 ^ 31 by omega)]
  refine yp_bd _ yq_word (fun t2 h2 => yp_gd (fun _ => yp_gd (fun _ => yp_bd _ yq_num (fun r6 h6 => yp_gd (fun _ => yp_gd (fun _ => yp_lt ?_))))))
  refine yp_gd (fun _ => yp_gd (fun _ => yp_gd (fun _ => yp_bd _ yq_num (fun r15 h15 => yp_gd (fun _ => yp_lt ?_)))))
  refine yp_bd _ yq_sign (fun t20 h20 => yp_gd (fun _ => yp_gd (fun _ => yp_lt (yp_some (fun x => ?_)))))
  have x20 := yq_f (by decide) x
  have x15 := yq_f (by decide) (h20.2 x20)
  have x6 := yq_f (by decide) (h15.1.2 x15)
  have e1 : sn_I t2 (8 + 1) (5 : Int32).toNatClampNeg = σ.1 9 5 := congrFun (h2.1 9 (by decide)) 5
  have e2 : sn_I (sn_pI r6.2 (8 + 4) (2 * n) r6.1) (8 + 1) (5 : Int32).toNatClampNeg = σ.1 9 5 := (congrFun (pI_ne (show 9 ≠ 12 by decide)) 5).trans ((congrFun (h6.1.1 9 (by decide)) 5).trans (congrFun (h2.1 9 (by decide)) 5))
  have b6 := h6.2 x6
  have b15 := h15.2 x15
  rw [e1] at b6
  rw [e2] at b15
  refine ⟨h2.2 (h6.1.2 x6), c1, r6.1, r15.1, ⟨⟨b6.1, b6.2.1⟩, ⟨b15.1, b15.2.1⟩, b15.2.2⟩, ?_⟩
  exact yq_rw (yq_rq (yq_rw (yq_rq (yq_rw (yq_rq h2.1 h6.1)) h15.1)) h20)
theorem yq_policy (hb : n < 100) : yp (fX5_readPolicy σ (nI n)) (fun z => z.1 17 2 = 0 → σ.1 17 2 = 0 ∧ n < 6 ∧ ∃ a b c d e : Int32, ((0 ≤ a ∧ a ≤ σ.1 9 5 - 1) ∧ (0 ≤ b ∧ b ≤ 29) ∧ (b ≤ c ∧ c ≤ 29) ∧ (1 ≤ d ∧ d ≤ 99) ∧ 0 ≤ e ∧ e ≤ 99) ∧ yq_r (sn_pI (sn_pI (sn_pI (sn_pI (sn_pI (sn_pI σ 13 (5 * n) a) 13 (5 * n + 1) b) 13 (5 * n + 2) c) 13 (5 * n + 3) d) 13 (5 * n + 4) e) 9 8 (nI (n + 1))) z) := by
  unfold fX5_readPolicy
  refine yp_ite (fun c => yp_lt ?_) (fun _ => yp_bd _ (yq_blame (by decide)) (fun u hu => yp_some (fun x => absurd x hu.2)))
  have c1 : n < 6 := (nI_ltI (b := 6) (by omega) (by decide)).mp c
  rw [yi_5, show nI (5 * n) + (0 : Int32) = nI (5 * n) from Int32.add_zero _, show nI (5 * n) + (1 : Int32) = nI (5 * n + 1) from nI_1 _, show nI (5 * n) + (2 : Int32) = nI (5 * n + 2) from nI_add _ 2, show nI (5 * n) + (3 : Int32) = nI (5 * n + 3) from nI_add _ 3, show nI (5 * n) + (4 : Int32) = nI (5 * n + 4) from nI_add _ 4, show nI n + (1 : Int32) = nI (n + 1) from nI_1 _, nI_clamp (show 5 * n < 2 ^ 31 by omega), nI_clamp (show 5 * n + 1 < 2 ^ 31 by omega), nI_clamp (show 5 * n + 2 < 2 ^ 31 by omega), nI_clamp (show 5 * n + 3 < 2 ^ 31 by omega), nI_clamp (show 5 * n + 4 < 2 ^ 31 by omega)]
  refine yp_bd _ yq_word (fun t4 h4 => yp_gd (fun _ => yp_gd (fun _ => yp_gd (fun _ => yp_bd _ yq_num (fun r9 h9 => yp_gd (fun _ => yp_lt ?_))))))
  refine yp_bd _ yq_word (fun t14 h14 => yp_bd _ yq_num (fun r16 h16 => yp_gd (fun _ => yp_gd (fun _ => yp_lt ?_))))
  refine yp_bd _ yq_word (fun t22 h22 => yp_gd (fun _ => yp_bd _ yq_num (fun r25 h25 => yp_gd (fun _ => yp_lt ?_))))
  refine yp_bd _ yq_word (fun t30 h30 => yp_gd (fun _ => yp_bd _ yq_num (fun r33 h33 => yp_gd (fun _ => yp_lt ?_))))
  refine yp_bd _ yq_word (fun t38 h38 => yp_gd (fun _ => yp_bd _ yq_num (fun r41 h41 => yp_gd (fun _ => yp_lt ?_))))
  refine yp_bd _ yq_sign (fun t46 h46 => yp_gd (fun _ => yp_gd (fun _ => yp_lt (yp_some (fun x => ?_)))))
  have x46 := yq_f (by decide) x
  have x41 := yq_f (by decide) (h46.2 x46)
  have x33 := yq_f (by decide) (h38.2 (h41.1.2 x41))
  have x25 := yq_f (by decide) (h30.2 (h33.1.2 x33))
  have x16 := yq_f (by decide) (h22.2 (h25.1.2 x25))
  have x9 := yq_f (by decide) (h14.2 (h16.1.2 x16))
  have e1 : sn_I t4 (8 + 1) (5 : Int32).toNatClampNeg = σ.1 9 5 := congrFun (h4.1 9 (by decide)) 5
  have b9 := h9.2 x9
  rw [e1] at b9
  refine ⟨h4.2 (h9.1.2 x9), c1, r9.1, r16.1, r25.1, r33.1, r41.1, ⟨⟨b9.1, b9.2.1⟩, ⟨(h16.2 x16).1, (h16.2 x16).2.1⟩, ⟨(h25.2 x25).1, (h25.2 x25).2.1⟩, ⟨(h33.2 x33).1, (h33.2 x33).2.1⟩, (h41.2 x41).1, (h41.2 x41).2.1⟩, ?_⟩
  exact yq_rw (yq_rq (yq_rw (yq_rq (yq_rq (yq_rw (yq_rq (yq_rq (yq_rw (yq_rq (yq_rq (yq_rw (yq_rq (yq_rq (yq_rw (yq_rq h4.1 h9.1)) h14) h16.1)) h22) h25.1)) h30) h33.1)) h38) h41.1)) h46)
theorem yq_house : yp (fX5_readHouse σ) (fun z => z.1 17 2 = 0 → σ.1 17 2 = 0 ∧ ∃ a b c d e : Int32, ((1 ≤ a ∧ a ≤ 30) ∧ (0 ≤ b ∧ b ≤ 9) ∧ (0 ≤ c ∧ c ≤ 3) ∧ (0 ≤ d ∧ d ≤ 999) ∧ 0 ≤ e ∧ e ≤ 10) ∧ yq_r (sn_pI (sn_pI (sn_pI (sn_pI (sn_pI σ 9 0 a) 9 1 b) 9 2 c) 9 3 d) 9 4 e) z) := by
  unfold fX5_readHouse
  refine yp_bd _ yq_word (fun t1 h1 => yp_bd _ yq_word (fun t3 h3 => yp_gd (fun _ => yp_bd _ yq_num (fun r6 h6 => yp_gd (fun _ => yp_lt ?_)))))
  refine yp_bd _ yq_word (fun t11 h11 => yp_gd (fun _ => yp_bd _ yq_num (fun r14 h14 => yp_gd (fun _ => yp_lt ?_))))
  refine yp_bd _ yq_word (fun t19 h19 => yp_gd (fun _ => yp_bd _ yq_num (fun r22 h22 => yp_gd (fun _ => yp_lt ?_))))
  refine yp_bd _ yq_word (fun t27 h27 => yp_gd (fun _ => yp_bd _ yq_num (fun r30 h30 => yp_gd (fun _ => yp_lt ?_))))
  refine yp_bd _ yq_word (fun t35 h35 => yp_gd (fun _ => yp_bd _ yq_num (fun r38 h38 => yp_gd (fun _ => yp_lt ?_))))
  refine yp_bd _ yq_sign (fun t43 h43 => yp_some (fun x => ?_))
  have x38 := yq_f (by decide) (h43.2 x)
  have x30 := yq_f (by decide) (h35.2 (h38.1.2 x38))
  have x22 := yq_f (by decide) (h27.2 (h30.1.2 x30))
  have x14 := yq_f (by decide) (h19.2 (h22.1.2 x22))
  have x6 := yq_f (by decide) (h11.2 (h14.1.2 x14))
  refine ⟨h1.2 (h3.2 (h6.1.2 x6)), r6.1, r14.1, r22.1, r30.1, r38.1, ⟨⟨(h6.2 x6).1, (h6.2 x6).2.1⟩, ⟨(h14.2 x14).1, (h14.2 x14).2.1⟩, ⟨(h22.2 x22).1, (h22.2 x22).2.1⟩, ⟨(h30.2 x30).1, (h30.2 x30).2.1⟩, (h38.2 x38).1, (h38.2 x38).2.1⟩, ?_⟩
  exact yq_rq (yq_rw (yq_rq (yq_rq (yq_rw (yq_rq (yq_rq (yq_rw (yq_rq (yq_rq (yq_rw (yq_rq (yq_rq (yq_rw (yq_rq (yq_rq h1.1 h3) h6.1)) h11) h14.1)) h19) h22.1)) h27) h30.1)) h35) h38.1)) h43
end
/-! the draft, line by line -/
theorem yv {v : Int32} {b : Nat} (h : 0 ≤ v) (h2 : v ≤ nI b) (hb : b < 2 ^ 31) : v = nI v.toNatClampNeg ∧ v.toNatClampNeg ≤ b := by
  have e := nI_ofc h
  refine ⟨e, ?_⟩
  have h3 : v.toNatClampNeg < 2 ^ 31 := by
    have h4 : v.toInt < 2 ^ 31 := Int32.toInt_lt v
    have h5 : v.toNatClampNeg = v.toInt.toNat := rfl
    omega
  rw [e] at h2
  exact (nI_leI h3 hb).mp h2
theorem yv1 {v : Int32} {b : Nat} (h : 1 ≤ v) (h2 : v ≤ nI b) (hb : b < 2 ^ 31) : v = nI v.toNatClampNeg ∧ v.toNatClampNeg ≤ b ∧ 1 ≤ v.toNatClampNeg := by
  obtain ⟨e1, e2⟩ := yv (Int32.le_trans (by decide) h) h2 hb
  refine ⟨e1, e2, ?_⟩
  rw [e1] at h
  exact (nI_leI (a := 1) (by decide) (by omega)).mp h
def yB (h : Nat) (σ : sn_S) : Prop :=
  (yh_n (σ.1 (h + 1)) 5 6 ∧ yh_n (σ.1 (h + 1)) 6 5 ∧ yh_n (σ.1 (h + 1)) 7 8 ∧ yh_n (σ.1 (h + 1)) 8 6 ∧ σ.1 (h + 1) 9 = 0) ∧
  (∀ p, p < sp_n (σ.1 (h + 1)) 5 → yh_n (σ.1 (h + 2)) (2 * p) 9 ∧ yh_n (σ.1 (h + 2)) (2 * p + 1) 99 ∧ 1 ≤ sp_n (σ.1 (h + 2)) (2 * p + 1)) ∧
  (∀ g, g < sp_n (σ.1 (h + 1)) 6 → yh_n (σ.1 (h + 3)) (2 * g) 9 ∧ yh_n (σ.1 (h + 3)) (2 * g + 1) 29) ∧
  (∀ k, k < sp_n (σ.1 (h + 1)) 7 → σ.1 (h + 4) (2 * k) = nI (sp_n (σ.1 (h + 4)) (2 * k)) ∧ sp_n (σ.1 (h + 4)) (2 * k) < sp_n (σ.1 (h + 1)) 5 ∧ σ.1 (h + 4) (2 * k + 1) = nI (sp_n (σ.1 (h + 4)) (2 * k + 1)) ∧ sp_n (σ.1 (h + 4)) (2 * k + 1) < sp_n (σ.1 (h + 1)) 5 ∧ sp_n (σ.1 (h + 4)) (2 * k) ≠ sp_n (σ.1 (h + 4)) (2 * k + 1)) ∧
  ∀ k, k < sp_n (σ.1 (h + 1)) 8 → (σ.1 (h + 5) (5 * k) = nI (sp_n (σ.1 (h + 5)) (5 * k)) ∧ sp_n (σ.1 (h + 5)) (5 * k) < sp_n (σ.1 (h + 1)) 5) ∧ yh_n (σ.1 (h + 5)) (5 * k + 1) 29 ∧ yh_n (σ.1 (h + 5)) (5 * k + 2) 29 ∧ sp_n (σ.1 (h + 5)) (5 * k + 1) ≤ sp_n (σ.1 (h + 5)) (5 * k + 2) ∧ yh_n (σ.1 (h + 5)) (5 * k + 3) 99 ∧ 1 ≤ sp_n (σ.1 (h + 5)) (5 * k + 3) ∧ yh_n (σ.1 (h + 5)) (5 * k + 4) 99
theorem yh_of {w : Nat → Int32} {k b : Nat} {v : Int32} (e : w k = v) (h : 0 ≤ v) (h2 : v ≤ nI b) (hb : b < 2 ^ 31) : yh_n w k b := by
  unfold yh_n sp_n
  rw [e]
  exact yv h h2 hb
theorem yh_mv {w w' : Nat → Int32} {k k' b : Nat} (e : w' k' = w k) (h : yh_n w k b) : yh_n w' k' b := by
  unfold yh_n sp_n
  rw [e]
  exact h
theorem sp_mv {w w' : Nat → Int32} {k k' : Nat} (e : w' k' = w k) : sp_n w' k' = sp_n w k := by
  unfold sp_n
  rw [e]
theorem sp_nI {w : Nat → Int32} {k n : Nat} (e : w k = nI n) (hn : n < 2 ^ 31) : sp_n w k = n := by
  unfold sp_n
  rw [e, nI_clamp hn]
/-- a last person, below one less than the count -/
theorem yv_p {v c : Int32} {P : Nat} (hc : c = nI P) (hP : P < 100) (h : 0 ≤ v) (h2 : v ≤ c - 1) : v = nI v.toNatClampNeg ∧ v.toNatClampNeg < P := by
  subst hc
  have e := nI_ofc h
  refine ⟨e, ?_⟩
  have h3 := (i32_le_sub1 (nI_pos' (by omega))).mp h2
  rw [e] at h3
  have h4 : v.toNatClampNeg < 2 ^ 31 := by
    have h4 : v.toInt < 2 ^ 31 := Int32.toInt_lt v
    have h5 : v.toNatClampNeg = v.toInt.toNat := rfl
    omega
  exact (nI_ltI h4 (by omega)).mp h3
section
variable {σ z : sn_S} {n : Nat}
theorem yB_nose (hB : yB 8 σ) (hc : σ.1 9 5 = nI n) (hn : n < 6) {a b : Int32} (hb : (0 ≤ a ∧ a ≤ 9) ∧ 1 ≤ b ∧ b ≤ 99) (hz : yq_r (sn_pI (sn_pI (sn_pI σ 10 (2 * n) a) 10 (2 * n + 1) b) 9 5 (nI (n + 1))) z) : yB 8 z := by
  obtain ⟨⟨c5, c6, c7, c8, c9⟩, hn5, hg, hnt, hp⟩ := hB
  have en : sp_n (σ.1 9) 5 = n := sp_nI hc (by omega)
  have z9 : ∀ k, k ≠ 5 → z.1 9 k = σ.1 9 k := fun k hk => by rw [hz 9 (by decide), pI_slot hk, pI_ne (by decide), pI_ne (by decide)]
  have z95 : z.1 9 5 = nI (n + 1) := by rw [hz 9 (by decide), pI_self]
  have z10 : ∀ k, k ≠ 2 * n → k ≠ 2 * n + 1 → z.1 10 k = σ.1 10 k := fun k h1 h2 => by rw [hz 10 (by decide), pI_ne (by decide), pI_slot h2, pI_slot h1]
  have za : z.1 10 (2 * n) = a := by rw [hz 10 (by decide), pI_ne (by decide), pI_slot (by omega), pI_self]
  have zb : z.1 10 (2 * n + 1) = b := by rw [hz 10 (by decide), pI_ne (by decide), pI_self]
  have zo : ∀ q, q = 11 ∨ q = 12 ∨ q = 13 → z.1 q = σ.1 q := fun q hq => by rw [hz q (by omega), pI_ne (by omega), pI_ne (by omega), pI_ne (by omega)]
  have e5 : sp_n (z.1 9) 5 = n + 1 := sp_nI z95 (by omega)
  have e6 : sp_n (z.1 9) 6 = sp_n (σ.1 9) 6 := sp_mv (z9 6 (by decide))
  have e7 : sp_n (z.1 9) 7 = sp_n (σ.1 9) 7 := sp_mv (z9 7 (by decide))
  have e8 : sp_n (z.1 9) 8 = sp_n (σ.1 9) 8 := sp_mv (z9 8 (by decide))
  refine ⟨⟨⟨by show z.1 9 5 = nI (sp_n (z.1 9) 5); rw [e5]; exact z95, by show sp_n (z.1 9) 5 ≤ 6; omega⟩, yh_mv (z9 6 (by decide)) c6, yh_mv (z9 7 (by decide)) c7, yh_mv (z9 8 (by decide)) c8, (z9 9 (by decide)).trans c9⟩, fun p hp2 => ?_, ?_, ?_, ?_⟩
  · have hp2 : p < sp_n (z.1 9) 5 := hp2
    show yh_n (z.1 10) (2 * p) 9 ∧ yh_n (z.1 10) (2 * p + 1) 99 ∧ 1 ≤ sp_n (z.1 10) (2 * p + 1)
    by_cases c : p = n
    · subst c
      obtain ⟨b1, b2, b3⟩ := yv1 (b := 99) hb.2.1 hb.2.2 (by decide)
      have s : sp_n (z.1 10) (2 * p + 1) = b.toNatClampNeg := by unfold sp_n; rw [zb]
      exact ⟨yh_of za hb.1.1 hb.1.2 (by decide), yh_of zb (Int32.le_trans (by decide) hb.2.1) hb.2.2 (by decide), by rw [s]; exact b3⟩
    · have g := hn5 p (by show p < sp_n (σ.1 9) 5; omega)
      exact ⟨yh_mv (z10 _ (by omega) (by omega)) g.1, yh_mv (z10 _ (by omega) (by omega)) g.2.1, by rw [sp_mv (z10 (2 * p + 1) (by omega) (by omega))]; exact g.2.2⟩
  · show ∀ g, g < sp_n (z.1 9) 6 → yh_n (z.1 11) (2 * g) 9 ∧ yh_n (z.1 11) (2 * g + 1) 29
    rw [e6, zo 11 (by omega)]
    exact hg
  · show ∀ k, k < sp_n (z.1 9) 7 → z.1 12 (2 * k) = nI (sp_n (z.1 12) (2 * k)) ∧ sp_n (z.1 12) (2 * k) < sp_n (z.1 9) 5 ∧ z.1 12 (2 * k + 1) = nI (sp_n (z.1 12) (2 * k + 1)) ∧ sp_n (z.1 12) (2 * k + 1) < sp_n (z.1 9) 5 ∧ sp_n (z.1 12) (2 * k) ≠ sp_n (z.1 12) (2 * k + 1)
    rw [e7, e5, zo 12 (by omega)]
    intro k hk
    obtain ⟨g1, g2, g3, g4, g5⟩ := hnt k hk
    have g2 : sp_n (σ.1 12) (2 * k) < sp_n (σ.1 9) 5 := g2
    have g4 : sp_n (σ.1 12) (2 * k + 1) < sp_n (σ.1 9) 5 := g4
    exact ⟨g1, by omega, g3, by omega, g5⟩
  · show ∀ k, k < sp_n (z.1 9) 8 → (z.1 13 (5 * k) = nI (sp_n (z.1 13) (5 * k)) ∧ sp_n (z.1 13) (5 * k) < sp_n (z.1 9) 5) ∧ _
    rw [e8, e5, show z.1 (8 + 5) = σ.1 13 from zo 13 (by omega)]
    intro k hk
    obtain ⟨⟨g1, g2⟩, g3⟩ := hp k hk
    have g2 : sp_n (σ.1 13) (5 * k) < sp_n (σ.1 9) 5 := g2
    exact ⟨⟨g1, by omega⟩, g3⟩
theorem yB_gust (hB : yB 8 σ) (hc : σ.1 9 6 = nI n) (hn : n < 5) {a b : Int32} (hb : (1 ≤ a ∧ a ≤ 9) ∧ 0 ≤ b ∧ b ≤ 29) (hz : yq_r (sn_pI (sn_pI (sn_pI σ 11 (2 * n) a) 11 (2 * n + 1) b) 9 6 (nI (n + 1))) z) : yB 8 z := by
  obtain ⟨⟨c5, c6, c7, c8, c9⟩, hn5, hg, hnt, hp⟩ := hB
  have en : sp_n (σ.1 9) 6 = n := sp_nI hc (by omega)
  have z9 : ∀ k, k ≠ 6 → z.1 9 k = σ.1 9 k := fun k hk => by rw [hz 9 (by decide), pI_slot hk, pI_ne (by decide), pI_ne (by decide)]
  have z96 : z.1 9 6 = nI (n + 1) := by rw [hz 9 (by decide), pI_self]
  have z11 : ∀ k, k ≠ 2 * n → k ≠ 2 * n + 1 → z.1 11 k = σ.1 11 k := fun k h1 h2 => by rw [hz 11 (by decide), pI_ne (by decide), pI_slot h2, pI_slot h1]
  have za : z.1 11 (2 * n) = a := by rw [hz 11 (by decide), pI_ne (by decide), pI_slot (by omega), pI_self]
  have zb : z.1 11 (2 * n + 1) = b := by rw [hz 11 (by decide), pI_ne (by decide), pI_self]
  have zo : ∀ q, q = 10 ∨ q = 12 ∨ q = 13 → z.1 q = σ.1 q := fun q hq => by rw [hz q (by omega), pI_ne (by omega), pI_ne (by omega), pI_ne (by omega)]
  have e5 : sp_n (z.1 9) 5 = sp_n (σ.1 9) 5 := sp_mv (z9 5 (by decide))
  have e6 : sp_n (z.1 9) 6 = n + 1 := sp_nI z96 (by omega)
  have e7 : sp_n (z.1 9) 7 = sp_n (σ.1 9) 7 := sp_mv (z9 7 (by decide))
  have e8 : sp_n (z.1 9) 8 = sp_n (σ.1 9) 8 := sp_mv (z9 8 (by decide))
  refine ⟨⟨yh_mv (z9 5 (by decide)) c5, ⟨by show z.1 9 6 = nI (sp_n (z.1 9) 6); rw [e6]; exact z96, by show sp_n (z.1 9) 6 ≤ 5; omega⟩, yh_mv (z9 7 (by decide)) c7, yh_mv (z9 8 (by decide)) c8, (z9 9 (by decide)).trans c9⟩, ?_, fun p hp2 => ?_, ?_, ?_⟩
  · show ∀ p, p < sp_n (z.1 9) 5 → yh_n (z.1 10) (2 * p) 9 ∧ yh_n (z.1 10) (2 * p + 1) 99 ∧ 1 ≤ sp_n (z.1 10) (2 * p + 1)
    rw [e5, zo 10 (by omega)]
    exact hn5
  · have hp2 : p < sp_n (z.1 9) 6 := hp2
    show yh_n (z.1 11) (2 * p) 9 ∧ yh_n (z.1 11) (2 * p + 1) 29
    by_cases c : p = n
    · subst c
      exact ⟨yh_of za (Int32.le_trans (by decide) hb.1.1) hb.1.2 (by decide), yh_of zb hb.2.1 hb.2.2 (by decide)⟩
    · have g := hg p (by show p < sp_n (σ.1 9) 6; omega)
      exact ⟨yh_mv (z11 _ (by omega) (by omega)) g.1, yh_mv (z11 _ (by omega) (by omega)) g.2⟩
  · show ∀ k, k < sp_n (z.1 9) 7 → z.1 12 (2 * k) = nI (sp_n (z.1 12) (2 * k)) ∧ sp_n (z.1 12) (2 * k) < sp_n (z.1 9) 5 ∧ z.1 12 (2 * k + 1) = nI (sp_n (z.1 12) (2 * k + 1)) ∧ sp_n (z.1 12) (2 * k + 1) < sp_n (z.1 9) 5 ∧ sp_n (z.1 12) (2 * k) ≠ sp_n (z.1 12) (2 * k + 1)
    rw [e7, e5, zo 12 (by omega)]
    exact hnt
  · show ∀ k, k < sp_n (z.1 9) 8 → (z.1 13 (5 * k) = nI (sp_n (z.1 13) (5 * k)) ∧ sp_n (z.1 13) (5 * k) < sp_n (z.1 9) 5) ∧ _
    rw [e8, e5, show z.1 (8 + 5) = σ.1 13 from zo 13 (by omega)]
    exact hp
theorem yB_net (hB : yB 8 σ) (hc : σ.1 9 7 = nI n) (hn : n < 8) {a b : Int32} (hb : (0 ≤ a ∧ a ≤ σ.1 9 5 - 1) ∧ (0 ≤ b ∧ b ≤ σ.1 9 5 - 1) ∧ b ≠ a) (hz : yq_r (sn_pI (sn_pI (sn_pI σ 12 (2 * n) a) 12 (2 * n + 1) b) 9 7 (nI (n + 1))) z) : yB 8 z := by
  obtain ⟨⟨c5, c6, c7, c8, c9⟩, hn5, hg, hnt, hp⟩ := hB
  have en : sp_n (σ.1 9) 7 = n := sp_nI hc (by omega)
  have z9 : ∀ k, k ≠ 7 → z.1 9 k = σ.1 9 k := fun k hk => by rw [hz 9 (by decide), pI_slot hk, pI_ne (by decide), pI_ne (by decide)]
  have z97 : z.1 9 7 = nI (n + 1) := by rw [hz 9 (by decide), pI_self]
  have z12 : ∀ k, k ≠ 2 * n → k ≠ 2 * n + 1 → z.1 12 k = σ.1 12 k := fun k h1 h2 => by rw [hz 12 (by decide), pI_ne (by decide), pI_slot h2, pI_slot h1]
  have za : z.1 12 (2 * n) = a := by rw [hz 12 (by decide), pI_ne (by decide), pI_slot (by omega), pI_self]
  have zb : z.1 12 (2 * n + 1) = b := by rw [hz 12 (by decide), pI_ne (by decide), pI_self]
  have zo : ∀ q, q = 10 ∨ q = 11 ∨ q = 13 → z.1 q = σ.1 q := fun q hq => by rw [hz q (by omega), pI_ne (by omega), pI_ne (by omega), pI_ne (by omega)]
  have e5 : sp_n (z.1 9) 5 = sp_n (σ.1 9) 5 := sp_mv (z9 5 (by decide))
  have e6 : sp_n (z.1 9) 6 = sp_n (σ.1 9) 6 := sp_mv (z9 6 (by decide))
  have e7 : sp_n (z.1 9) 7 = n + 1 := sp_nI z97 (by omega)
  have e8 : sp_n (z.1 9) 8 = sp_n (σ.1 9) 8 := sp_mv (z9 8 (by decide))
  have b5 : sp_n (σ.1 9) 5 ≤ 6 := c5.2
  refine ⟨⟨yh_mv (z9 5 (by decide)) c5, yh_mv (z9 6 (by decide)) c6, ⟨by show z.1 9 7 = nI (sp_n (z.1 9) 7); rw [e7]; exact z97, by show sp_n (z.1 9) 7 ≤ 8; omega⟩, yh_mv (z9 8 (by decide)) c8, (z9 9 (by decide)).trans c9⟩, ?_, ?_, fun k hk => ?_, ?_⟩
  · show ∀ p, p < sp_n (z.1 9) 5 → yh_n (z.1 10) (2 * p) 9 ∧ yh_n (z.1 10) (2 * p + 1) 99 ∧ 1 ≤ sp_n (z.1 10) (2 * p + 1)
    rw [e5, zo 10 (by omega)]
    exact hn5
  · show ∀ g, g < sp_n (z.1 9) 6 → yh_n (z.1 11) (2 * g) 9 ∧ yh_n (z.1 11) (2 * g + 1) 29
    rw [e6, zo 11 (by omega)]
    exact hg
  · have hk : k < sp_n (z.1 9) 7 := hk
    show z.1 12 (2 * k) = nI (sp_n (z.1 12) (2 * k)) ∧ sp_n (z.1 12) (2 * k) < sp_n (z.1 9) 5 ∧ z.1 12 (2 * k + 1) = nI (sp_n (z.1 12) (2 * k + 1)) ∧ sp_n (z.1 12) (2 * k + 1) < sp_n (z.1 9) 5 ∧ sp_n (z.1 12) (2 * k) ≠ sp_n (z.1 12) (2 * k + 1)
    rw [e5]
    by_cases c : k = n
    · subst c
      obtain ⟨a1, a2⟩ := yv_p c5.1 (show sp_n (σ.1 9) 5 < 100 by omega) hb.1.1 hb.1.2
      obtain ⟨b1, b2⟩ := yv_p c5.1 (show sp_n (σ.1 9) 5 < 100 by omega) hb.2.1.1 hb.2.1.2
      have sa : sp_n (z.1 12) (2 * k) = a.toNatClampNeg := by unfold sp_n; rw [za]
      have sb : sp_n (z.1 12) (2 * k + 1) = b.toNatClampNeg := by unfold sp_n; rw [zb]
      rw [sa, sb, za, zb]
      exact ⟨a1, a2, b1, b2, fun e => hb.2.2 (by rw [a1, b1, e])⟩
    · have g := hnt k (by show k < sp_n (σ.1 9) 7; omega)
      rw [sp_mv (z12 (2 * k) (by omega) (by omega)), sp_mv (z12 (2 * k + 1) (by omega) (by omega)), z12 (2 * k) (by omega) (by omega), z12 (2 * k + 1) (by omega) (by omega)]
      exact g
  · show ∀ k, k < sp_n (z.1 9) 8 → (z.1 13 (5 * k) = nI (sp_n (z.1 13) (5 * k)) ∧ sp_n (z.1 13) (5 * k) < sp_n (z.1 9) 5) ∧ _
    rw [e8, e5, show z.1 (8 + 5) = σ.1 13 from zo 13 (by omega)]
    exact hp
theorem yB_policy (hB : yB 8 σ) (hc : σ.1 9 8 = nI n) (hn : n < 6) {a b c d e : Int32} (hb : (0 ≤ a ∧ a ≤ σ.1 9 5 - 1) ∧ (0 ≤ b ∧ b ≤ 29) ∧ (b ≤ c ∧ c ≤ 29) ∧ (1 ≤ d ∧ d ≤ 99) ∧ 0 ≤ e ∧ e ≤ 99) (hz : yq_r (sn_pI (sn_pI (sn_pI (sn_pI (sn_pI (sn_pI σ 13 (5 * n) a) 13 (5 * n + 1) b) 13 (5 * n + 2) c) 13 (5 * n + 3) d) 13 (5 * n + 4) e) 9 8 (nI (n + 1))) z) : yB 8 z := by
  obtain ⟨⟨c5, c6, c7, c8, c9⟩, hn5, hg, hnt, hp⟩ := hB
  have en : sp_n (σ.1 9) 8 = n := sp_nI hc (by omega)
  have z9 : ∀ k, k ≠ 8 → z.1 9 k = σ.1 9 k := fun k hk => by rw [hz 9 (by decide), pI_slot hk, pI_ne (by decide), pI_ne (by decide), pI_ne (by decide), pI_ne (by decide), pI_ne (by decide)]
  have z98 : z.1 9 8 = nI (n + 1) := by rw [hz 9 (by decide), pI_self]
  have z13 : ∀ k, k < 5 * n → z.1 13 k = σ.1 13 k := fun k h1 => by rw [hz 13 (by decide), pI_ne (by decide), pI_slot (by omega), pI_slot (by omega), pI_slot (by omega), pI_slot (by omega), pI_slot (by omega)]
  have za : z.1 13 (5 * n) = a := by rw [hz 13 (by decide), pI_ne (by decide), pI_slot (by omega), pI_slot (by omega), pI_slot (by omega), pI_slot (by omega), pI_self]
  have zb : z.1 13 (5 * n + 1) = b := by rw [hz 13 (by decide), pI_ne (by decide), pI_slot (by omega), pI_slot (by omega), pI_slot (by omega), pI_self]
  have zc : z.1 13 (5 * n + 2) = c := by rw [hz 13 (by decide), pI_ne (by decide), pI_slot (by omega), pI_slot (by omega), pI_self]
  have zd : z.1 13 (5 * n + 3) = d := by rw [hz 13 (by decide), pI_ne (by decide), pI_slot (by omega), pI_self]
  have ze : z.1 13 (5 * n + 4) = e := by rw [hz 13 (by decide), pI_ne (by decide), pI_self]
  have zo : ∀ q, q = 10 ∨ q = 11 ∨ q = 12 → z.1 q = σ.1 q := fun q hq => by rw [hz q (by omega), pI_ne (by omega), pI_ne (by omega), pI_ne (by omega), pI_ne (by omega), pI_ne (by omega), pI_ne (by omega)]
  have e5 : sp_n (z.1 9) 5 = sp_n (σ.1 9) 5 := sp_mv (z9 5 (by decide))
  have e6 : sp_n (z.1 9) 6 = sp_n (σ.1 9) 6 := sp_mv (z9 6 (by decide))
  have e7 : sp_n (z.1 9) 7 = sp_n (σ.1 9) 7 := sp_mv (z9 7 (by decide))
  have e8 : sp_n (z.1 9) 8 = n + 1 := sp_nI z98 (by omega)
  have b5 : sp_n (σ.1 9) 5 ≤ 6 := c5.2
  refine ⟨⟨yh_mv (z9 5 (by decide)) c5, yh_mv (z9 6 (by decide)) c6, yh_mv (z9 7 (by decide)) c7, ⟨by show z.1 9 8 = nI (sp_n (z.1 9) 8); rw [e8]; exact z98, by show sp_n (z.1 9) 8 ≤ 6; omega⟩, (z9 9 (by decide)).trans c9⟩, ?_, ?_, ?_, fun k hk => ?_⟩
  · show ∀ p, p < sp_n (z.1 9) 5 → yh_n (z.1 10) (2 * p) 9 ∧ yh_n (z.1 10) (2 * p + 1) 99 ∧ 1 ≤ sp_n (z.1 10) (2 * p + 1)
    rw [e5, zo 10 (by omega)]
    exact hn5
  · show ∀ g, g < sp_n (z.1 9) 6 → yh_n (z.1 11) (2 * g) 9 ∧ yh_n (z.1 11) (2 * g + 1) 29
    rw [e6, zo 11 (by omega)]
    exact hg
  · show ∀ k, k < sp_n (z.1 9) 7 → z.1 12 (2 * k) = nI (sp_n (z.1 12) (2 * k)) ∧ sp_n (z.1 12) (2 * k) < sp_n (z.1 9) 5 ∧ z.1 12 (2 * k + 1) = nI (sp_n (z.1 12) (2 * k + 1)) ∧ sp_n (z.1 12) (2 * k + 1) < sp_n (z.1 9) 5 ∧ sp_n (z.1 12) (2 * k) ≠ sp_n (z.1 12) (2 * k + 1)
    rw [e7, e5, zo 12 (by omega)]
    exact hnt
  · have hk : k < sp_n (z.1 9) 8 := hk
    show (z.1 13 (5 * k) = nI (sp_n (z.1 13) (5 * k)) ∧ sp_n (z.1 13) (5 * k) < sp_n (z.1 9) 5) ∧ yh_n (z.1 13) (5 * k + 1) 29 ∧ yh_n (z.1 13) (5 * k + 2) 29 ∧ sp_n (z.1 13) (5 * k + 1) ≤ sp_n (z.1 13) (5 * k + 2) ∧ yh_n (z.1 13) (5 * k + 3) 99 ∧ 1 ≤ sp_n (z.1 13) (5 * k + 3) ∧ yh_n (z.1 13) (5 * k + 4) 99
    rw [e5]
    by_cases cc : k = n
    · subst cc
      obtain ⟨a1, a2⟩ := yv_p c5.1 (show sp_n (σ.1 9) 5 < 100 by omega) hb.1.1 hb.1.2
      obtain ⟨d1, d2, d3⟩ := yv1 (b := 99) hb.2.2.2.1.1 hb.2.2.2.1.2 (by decide)
      have c0 : (0 : Int32) ≤ c := Int32.le_trans hb.2.1.1 hb.2.2.1.1
      obtain ⟨f1, f2⟩ := yv (b := 29) hb.2.1.1 hb.2.1.2 (by decide)
      obtain ⟨g1, g2⟩ := yv (b := 29) c0 hb.2.2.1.2 (by decide)
      have sa : sp_n (z.1 13) (5 * k) = a.toNatClampNeg := by unfold sp_n; rw [za]
      have sb : sp_n (z.1 13) (5 * k + 1) = b.toNatClampNeg := by unfold sp_n; rw [zb]
      have sc : sp_n (z.1 13) (5 * k + 2) = c.toNatClampNeg := by unfold sp_n; rw [zc]
      have sd : sp_n (z.1 13) (5 * k + 3) = d.toNatClampNeg := by unfold sp_n; rw [zd]
      have hbc := hb.2.2.1.1
      rw [f1, g1] at hbc
      refine ⟨⟨by rw [sa, za]; exact a1, by rw [sa]; exact a2⟩, yh_of zb hb.2.1.1 hb.2.1.2 (by decide), yh_of zc c0 hb.2.2.1.2 (by decide), ?_, yh_of zd (Int32.le_trans (by decide) hb.2.2.2.1.1) hb.2.2.2.1.2 (by decide), by rw [sd]; exact d3, yh_of ze hb.2.2.2.2.1 hb.2.2.2.2.2 (by decide)⟩
      rw [sb, sc]
      exact (nI_leI (by omega) (by omega)).mp hbc
    · obtain ⟨⟨g1, g2⟩, g3, g4, g5, g6, g7, g8⟩ := hp k (by show k < sp_n (σ.1 9) 8; omega)
      have m : ∀ j, j < 5 → z.1 13 (5 * k + j) = σ.1 13 (5 * k + j) := fun j hj => z13 _ (by omega)
      exact ⟨⟨by rw [sp_mv (z13 (5 * k) (by omega)), z13 (5 * k) (by omega)]; exact g1, by rw [sp_mv (z13 (5 * k) (by omega))]; exact g2⟩, yh_mv (m 1 (by decide)) g3, yh_mv (m 2 (by decide)) g4, by rw [sp_mv (m 1 (by decide)), sp_mv (m 2 (by decide))]; exact g5, yh_mv (m 3 (by decide)) g6, by rw [sp_mv (m 3 (by decide))]; exact g7, yh_mv (m 4 (by decide)) g8⟩
/-- the first row of the counts -/
def yF (c : Nat → Int32) (x : Nat) : Prop := (x = 0 → ∀ k, k < 11 → c k = 0) ∧ (0 < x → yh_n c 0 30 ∧ 1 ≤ sp_n c 0 ∧ yh_n c 1 9 ∧ yh_n c 2 3 ∧ yh_n c 3 999 ∧ yh_n c 4 10) ∧ c 10 = nI x
theorem yF_z {c : Nat → Int32} (h : ∀ k, k < 11 → c k = 0) : yF c 0 := ⟨fun _ => h, fun x => absurd x (by decide), (h 10 (by decide)).trans nI_0.symm⟩
theorem yF_c {c c' : Nat → Int32} {x : Nat} (hx : 0 < x) (h : ∀ k, k < 5 ∨ k = 10 → c' k = c k) (hF : yF c x) : yF c' x := by
  obtain ⟨g0, g1, g2, g3, g4, g5⟩ := hF.2.1 hx
  exact ⟨fun e => absurd e (by omega), fun _ => ⟨yh_mv (h 0 (by decide)) g0, by rw [sp_mv (h 0 (by decide))]; exact g1, yh_mv (h 1 (by decide)) g2, yh_mv (h 2 (by decide)) g3, yh_mv (h 3 (by decide)) g4, yh_mv (h 4 (by decide)) g5⟩, (h 10 (by decide)).trans hF.2.2⟩
theorem yB_0 {h : Nat} (e : ∀ k, k < 11 → σ.1 (h + 1) k = 0) : yB h σ := by
  have z : ∀ k, k < 11 → sp_n (σ.1 (h + 1)) k = 0 := fun k hk => by unfold sp_n; rw [e k hk]; rfl
  have y : ∀ k b, k < 11 → yh_n (σ.1 (h + 1)) k b := fun k b hk => ⟨by rw [z k hk, e k hk, nI_0], by rw [z k hk]; omega⟩
  refine ⟨⟨y 5 6 (by decide), y 6 5 (by decide), y 7 8 (by decide), y 8 6 (by decide), e 9 (by decide)⟩, fun p hp => ?_, fun p hp => ?_, fun p hp => ?_, fun p hp => ?_⟩
  · rw [z 5 (by decide)] at hp; exact absurd hp (by omega)
  · rw [z 6 (by decide)] at hp; exact absurd hp (by omega)
  · rw [z 7 (by decide)] at hp; exact absurd hp (by omega)
  · rw [z 8 (by decide)] at hp; exact absurd hp (by omega)
/-- a row of the house that leaves the draft within its bounds -/
def yI (z : sn_S) (x : Nat) : Prop := z.1 17 2 = 0 → yB 8 z ∧ yF (z.1 9) x
theorem yI_first (h : yI σ 0) : yp (fX5_readHouse σ) (fun z => z.1 17 2 = 0 → yB 8 z ∧ yh_n (z.1 9) 0 30 ∧ 1 ≤ sp_n (z.1 9) 0 ∧ yh_n (z.1 9) 1 9 ∧ yh_n (z.1 9) 2 3 ∧ yh_n (z.1 9) 3 999 ∧ yh_n (z.1 9) 4 10) := by
  refine yp_w yq_house (fun z hz x => ?_)
  obtain ⟨x0, a, b, c, d, e, ⟨ba, bb, bc, bd, be⟩, hr⟩ := hz x
  obtain ⟨dB, dF⟩ := h x0
  have z0 : ∀ k, 5 ≤ k → z.1 9 k = σ.1 9 k := fun k hk => by rw [hr 9 (by decide), pI_slot (by omega), pI_slot (by omega), pI_slot (by omega), pI_slot (by omega), pI_slot (by omega)]
  have zo : ∀ q, q ≠ 9 → q ≠ 17 → z.1 q = σ.1 q := fun q h1 h2 => by rw [hr q h2, pI_ne h1, pI_ne h1, pI_ne h1, pI_ne h1, pI_ne h1]
  have za : z.1 9 0 = a := by rw [hr 9 (by decide), pI_slot (by decide), pI_slot (by decide), pI_slot (by decide), pI_slot (by decide), pI_self]
  have zb : z.1 9 1 = b := by rw [hr 9 (by decide), pI_slot (by decide), pI_slot (by decide), pI_slot (by decide), pI_self]
  have zc : z.1 9 2 = c := by rw [hr 9 (by decide), pI_slot (by decide), pI_slot (by decide), pI_self]
  have zd : z.1 9 3 = d := by rw [hr 9 (by decide), pI_slot (by decide), pI_self]
  have ze : z.1 9 4 = e := by rw [hr 9 (by decide), pI_self]
  obtain ⟨a1, a2, a3⟩ := yv1 (b := 30) ba.1 ba.2 (by decide)
  have sa : sp_n (z.1 9) 0 = a.toNatClampNeg := by unfold sp_n; rw [za]
  refine ⟨?_, yh_of za (Int32.le_trans (by decide) ba.1) ba.2 (by decide), by rw [sa]; exact a3, yh_of zb bb.1 bb.2 (by decide), yh_of zc bc.1 bc.2 (by decide), yh_of zd bd.1 bd.2 (by decide), yh_of ze be.1 be.2 (by decide)⟩
  obtain ⟨⟨c5, c6, c7, c8, c9⟩, hn5, hg, hnt, hp⟩ := dB
  have e5 : sp_n (z.1 9) 5 = sp_n (σ.1 9) 5 := sp_mv (z0 5 (by decide))
  have e6 : sp_n (z.1 9) 6 = sp_n (σ.1 9) 6 := sp_mv (z0 6 (by decide))
  have e7 : sp_n (z.1 9) 7 = sp_n (σ.1 9) 7 := sp_mv (z0 7 (by decide))
  have e8 : sp_n (z.1 9) 8 = sp_n (σ.1 9) 8 := sp_mv (z0 8 (by decide))
  unfold yB
  rw [show sp_n (z.1 (8 + 1)) 5 = sp_n (σ.1 (8 + 1)) 5 from e5, show sp_n (z.1 (8 + 1)) 6 = sp_n (σ.1 (8 + 1)) 6 from e6, show sp_n (z.1 (8 + 1)) 7 = sp_n (σ.1 (8 + 1)) 7 from e7, show sp_n (z.1 (8 + 1)) 8 = sp_n (σ.1 (8 + 1)) 8 from e8, zo (8 + 2) (by decide) (by decide), zo (8 + 3) (by decide) (by decide), zo (8 + 4) (by decide) (by decide), zo (8 + 5) (by decide) (by decide)]
  exact ⟨⟨yh_mv (z0 5 (by decide)) c5, yh_mv (z0 6 (by decide)) c6, yh_mv (z0 7 (by decide)) c7, yh_mv (z0 8 (by decide)) c8, (z0 9 (by decide)).trans c9⟩, hn5, hg, hnt, hp⟩
theorem yI_cnt {k b : Nat} (h : yh_n (σ.1 9) k b) (hb : b < 100) : ∃ n, n < 100 ∧ σ.1 9 k = nI n := ⟨sp_n (σ.1 9) k, by have := h.2; omega, h.1⟩
theorem yI_line {x : Nat} (hx : 0 < x) (h0 : σ.1 17 2 = 0) (h : yI σ x) : yp (fX5_readLine σ) (fun z => yI z x) := by
  obtain ⟨dB, dF⟩ := h h0
  obtain ⟨n5, l5, c5⟩ := yI_cnt dB.1.1 (by decide)
  obtain ⟨n6, l6, c6⟩ := yI_cnt dB.1.2.1 (by decide)
  obtain ⟨n7, l7, c7⟩ := yI_cnt dB.1.2.2.1 (by decide)
  obtain ⟨n8, l8, c8⟩ := yI_cnt dB.1.2.2.2.1 (by decide)
  have f5 : sn_I σ (8 + 1) (5 : Int32).toNatClampNeg = nI n5 := c5
  have f6 : sn_I σ (8 + 1) (6 : Int32).toNatClampNeg = nI n6 := c6
  have f7 : sn_I σ (8 + 1) (7 : Int32).toNatClampNeg = nI n7 := c7
  have f8 : sn_I σ (8 + 1) (8 : Int32).toNatClampNeg = nI n8 := c8
  unfold fX5_readLine
  rw [f5, f6, f7, f8]
  refine yp_bd (fun _ => True) (fun _ _ => trivial) (fun _ _ => yp_ite (fun _ => ?_) (fun _ => yp_gd (fun _ => yp_gd (fun _ => yp_bd _ (yq_nose l5) (fun z hz => yp_some (fun e => ?_))))))
  · refine yp_bd (fun _ => True) (fun _ _ => trivial) (fun _ _ => yp_ite (fun _ => ?_) (fun _ => yp_gd (fun _ => yp_gd (fun _ => yp_bd _ (yq_gust l6) (fun z hz => yp_some (fun e => ?_))))))
    · refine yp_bd (fun _ => True) (fun _ _ => trivial) (fun _ _ => yp_ite (fun _ => ?_) (fun _ => yp_gd (fun _ => yp_gd (fun _ => yp_bd _ (yq_net l7) (fun z hz => yp_some (fun e => ?_))))))
      · refine yp_bd (fun _ => True) (fun _ _ => trivial) (fun _ _ => yp_ite (fun _ => yp_bd _ (yq_blame (by decide)) (fun z hz => yp_some (fun e => absurd e hz.2))) (fun _ => yp_gd (fun _ => yp_gd (fun _ => yp_bd _ (yq_policy l8) (fun z hz => yp_some (fun e => ?_))))))
        obtain ⟨_, hn, a, b, c, d, e, hb, hr⟩ := hz e
        refine ⟨yB_policy dB c8 hn hb hr, yF_c hx (fun k hk => ?_) dF⟩
        rw [hr 9 (by decide), pI_slot (by omega), pI_ne (by decide), pI_ne (by decide), pI_ne (by decide), pI_ne (by decide), pI_ne (by decide)]
      · obtain ⟨_, hn, a, b, hb, hr⟩ := hz e
        refine ⟨yB_net dB c7 hn hb hr, yF_c hx (fun k hk => ?_) dF⟩
        rw [hr 9 (by decide), pI_slot (by omega), pI_ne (by decide), pI_ne (by decide)]
    · obtain ⟨_, hn, a, b, hb, hr⟩ := hz e
      refine ⟨yB_gust dB c6 hn hb hr, yF_c hx (fun k hk => ?_) dF⟩
      rw [hr 9 (by decide), pI_slot (by omega), pI_ne (by decide), pI_ne (by decide)]
  · obtain ⟨_, hn, a, b, hb, hr⟩ := hz e
    refine ⟨yB_nose dB c5 hn hb hr, yF_c hx (fun k hk => ?_) dF⟩
    rw [hr 9 (by decide), pI_slot (by omega), pI_ne (by decide), pI_ne (by decide)]
theorem yI_read : yp (fX5_read σ 8) (fun z => z.1 17 2 = 0 → yB 8 z ∧ ∃ x, x ≤ 900 ∧ yF (z.1 9) x) := by
  unfold fX5_read fX2_clear
  refine yp_lt (yp_gd (fun _ => yp_bd (fun z : sn_S => ∀ k, k < 11 → z.1 9 k = 0) (yp_bd _ (yc_fill _ _ _ _ (by decide)) (fun z hz => yp_some hz.2.2)) (fun z hz => yp_lt (yp_lt (yp_lt ?_)))))
  refine yp_bd _ yq_step (fun t ht => ?_)
  have t9 : ∀ k, k < 11 → t.1 9 k = 0 := fun k hk => by
    rw [ht.1 9 (by decide), pI_ne (by decide), pI_ne (by decide), pI_ne (by decide)]
    exact hz k hk
  refine yp_bd (fun z => z.1 17 2 = 0 → yB 8 z ∧ ∃ x, x ≤ 900 ∧ yF (z.1 9) x) (yp_it (fun s : sn_S × Int32 => ∃ x, x ≤ 900 ∧ s.2 = nI x ∧ yI s.1 x) (fun s hs => ?_) _ _ ⟨0, by decide, nI_0.symm, fun _ => ⟨yB_0 t9, yF_z t9⟩⟩) (fun u hu => ?_)
  · obtain ⟨u, y⟩ := s
    obtain ⟨x, hx, ey, hI⟩ := hs
    have ey : y = nI x := ey
    subst ey
    have hI : yI u x := hI
    have out : yp (some (Sum.inr u : (sn_S × Int32) ⊕ sn_S)) (yp_sum (fun s : sn_S × Int32 => ∃ x, x ≤ 900 ∧ s.2 = nI x ∧ yI s.1 x) (fun z => z.1 17 2 = 0 → yB 8 z ∧ ∃ x, x ≤ 900 ∧ yF (z.1 9) x)) := yp_some (fun e => ⟨(hI e).1, x, hx, (hI e).2⟩)
    show yp (BX5_read_33 u 8 (nI x)) _
    unfold BX5_read_33
    refine yp_ite (fun _ => out) (fun c => yp_ite (fun c0 => yp_ite (fun _ => out) (fun _ => ?_)) (fun _ => out))
    have hlt : x < 900 := by
      rcases Nat.lt_or_ge x 900 with g | g
      · exact g
      · exact absurd (nI_le (a := 900) g (by omega)) c
    have l69 : ∀ v : sn_S, (v.1 17 2 = 0 → yB 8 v ∧ yh_n (v.1 9) 0 30 ∧ 1 ≤ sp_n (v.1 9) 0 ∧ yh_n (v.1 9) 1 9 ∧ yh_n (v.1 9) 2 3 ∧ yh_n (v.1 9) 3 999 ∧ yh_n (v.1 9) 4 10) → yp (BX5_read_69 v 8 (nI x)) (yp_sum (fun s : sn_S × Int32 => ∃ x, x ≤ 900 ∧ s.2 = nI x ∧ yI s.1 x) (fun z => z.1 17 2 = 0 → yB 8 z ∧ ∃ x, x ≤ 900 ∧ yF (z.1 9) x)) := fun v hv => by
      unfold BX5_read_69
      refine yp_gd (fun _ => yp_gd (fun _ => yp_lt (yp_lt (yp_some ⟨x + 1, hlt, nI_1 x, fun e => ?_⟩))))
      obtain ⟨d1, d2, d3, d4, d5, d6, d7⟩ := hv (yq_f (by decide) e)
      have k9 : ∀ k, k ≠ 10 → (sn_pI v (8 + 1) (10 : Int32).toNatClampNeg (nI x + (1 : Int32))).1 9 k = v.1 9 k := fun k hk => pI_slot hk
      have ko : ∀ q, q ≠ 9 → (sn_pI v (8 + 1) (10 : Int32).toNatClampNeg (nI x + (1 : Int32))).1 q = v.1 q := fun q hq => pI_ne hq
      refine ⟨?_, fun z => absurd z (by omega), fun _ => ⟨yh_mv (k9 0 (by decide)) d2, by rw [sp_mv (k9 0 (by decide))]; exact d3, yh_mv (k9 1 (by decide)) d4, yh_mv (k9 2 (by decide)) d5, yh_mv (k9 3 (by decide)) d6, yh_mv (k9 4 (by decide)) d7⟩, ?_⟩
      · obtain ⟨⟨c5, c6, c7, c8, c9⟩, hn5, hg, hnt, hp⟩ := d1
        show yB 8 (sn_pI v (8 + 1) (10 : Int32).toNatClampNeg (nI x + (1 : Int32)))
        unfold yB
        rw [show sp_n ((sn_pI v (8 + 1) (10 : Int32).toNatClampNeg (nI x + (1 : Int32))).1 (8 + 1)) 5 = sp_n (v.1 (8 + 1)) 5 from sp_mv (k9 5 (by decide)), show sp_n ((sn_pI v (8 + 1) (10 : Int32).toNatClampNeg (nI x + (1 : Int32))).1 (8 + 1)) 6 = sp_n (v.1 (8 + 1)) 6 from sp_mv (k9 6 (by decide)), show sp_n ((sn_pI v (8 + 1) (10 : Int32).toNatClampNeg (nI x + (1 : Int32))).1 (8 + 1)) 7 = sp_n (v.1 (8 + 1)) 7 from sp_mv (k9 7 (by decide)), show sp_n ((sn_pI v (8 + 1) (10 : Int32).toNatClampNeg (nI x + (1 : Int32))).1 (8 + 1)) 8 = sp_n (v.1 (8 + 1)) 8 from sp_mv (k9 8 (by decide)), ko (8 + 2) (by decide), ko (8 + 3) (by decide), ko (8 + 4) (by decide), ko (8 + 5) (by decide)]
        exact ⟨⟨yh_mv (k9 5 (by decide)) c5, yh_mv (k9 6 (by decide)) c6, yh_mv (k9 7 (by decide)) c7, yh_mv (k9 8 (by decide)) c8, (k9 9 (by decide)).trans c9⟩, hn5, hg, hnt, hp⟩
      · show (sn_pI v 9 10 (nI x + (1 : Int32))).1 9 10 = nI (x + 1)
        rw [pI_self]
        exact nI_1 x
    refine yp_ite (fun c2 => ?_) (fun c2 => ?_)
    · have x0 : x = 0 := (yi_0 (by omega)).mp c2
      subst x0
      exact yp_bd _ (yI_first hI) (fun v hv => l69 v hv)
    · have x0 : 0 < x := by
        have : x ≠ 0 := fun z => c2 ((yi_0 (by omega)).mpr z)
        omega
      exact yp_bd _ (yI_line x0 c0 hI) (fun v hv => l69 v (fun e => ⟨(hv e).1, (hv e).2.2.1 x0⟩))
  · unfold BX5_read_88
    exact yp_some hu
end
end
section
/-! houses copied; a house read is a row of the reference -/
theorem yc_hcopy {σ : sn_S} {a b : Nat} (hd : b + 6 < a ∨ a + 6 < b) : yp (fX2_copyFrom σ a b) (fun z => (∀ q, (q ≤ a ∨ a + 6 < q) → z.1 q = σ.1 q) ∧ z.2 = σ.2 ∧ (∀ k, k < 11 → z.1 (a + 1) k = σ.1 (b + 1) k) ∧ (∀ k, k < 12 → z.1 (a + 2) k = σ.1 (b + 2) k) ∧ (∀ k, k < 10 → z.1 (a + 3) k = σ.1 (b + 3) k) ∧ (∀ k, k < 16 → z.1 (a + 4) k = σ.1 (b + 4) k) ∧ (∀ k, k < 30 → z.1 (a + 5) k = σ.1 (b + 5) k) ∧ ∀ k, k < 120 → z.1 (a + 6) k = σ.1 (b + 6) k) := by
  unfold fX2_copyFrom
  refine yp_gd (fun _ => yp_lt ?_)
  obtain ⟨p1, q1⟩ := yc_cpy (z := σ) (a := a + 1) (b := b + 1) (L := 11) (by decide)
  have s1 : (sn_wI σ (a + 1) (va_cpy (sn_I σ (b + 1)) (sn_I σ (a + 1)) (0 : Int32).toNatClampNeg (0 : Int32).toNatClampNeg (Int32.ofNat 11).toNatClampNeg)).2 = σ.2 := rfl
  generalize sn_wI σ (a + 1) (va_cpy (sn_I σ (b + 1)) (sn_I σ (a + 1)) (0 : Int32).toNatClampNeg (0 : Int32).toNatClampNeg (Int32.ofNat 11).toNatClampNeg) = z1 at p1 q1 s1 ⊢
  refine yp_gd (fun _ => yp_lt ?_)
  obtain ⟨p2, q2⟩ := yc_cpy (z := z1) (a := a + 2) (b := b + 2) (L := 12) (by decide)
  have s2 : (sn_wI z1 (a + 2) (va_cpy (sn_I z1 (b + 2)) (sn_I z1 (a + 2)) (0 : Int32).toNatClampNeg (0 : Int32).toNatClampNeg (Int32.ofNat 12).toNatClampNeg)).2 = z1.2 := rfl
  generalize sn_wI z1 (a + 2) (va_cpy (sn_I z1 (b + 2)) (sn_I z1 (a + 2)) (0 : Int32).toNatClampNeg (0 : Int32).toNatClampNeg (Int32.ofNat 12).toNatClampNeg) = z2 at p2 q2 s2 ⊢
  refine yp_gd (fun _ => yp_lt ?_)
  obtain ⟨p3, q3⟩ := yc_cpy (z := z2) (a := a + 3) (b := b + 3) (L := 10) (by decide)
  have s3 : (sn_wI z2 (a + 3) (va_cpy (sn_I z2 (b + 3)) (sn_I z2 (a + 3)) (0 : Int32).toNatClampNeg (0 : Int32).toNatClampNeg (Int32.ofNat 10).toNatClampNeg)).2 = z2.2 := rfl
  generalize sn_wI z2 (a + 3) (va_cpy (sn_I z2 (b + 3)) (sn_I z2 (a + 3)) (0 : Int32).toNatClampNeg (0 : Int32).toNatClampNeg (Int32.ofNat 10).toNatClampNeg) = z3 at p3 q3 s3 ⊢
  refine yp_gd (fun _ => yp_lt ?_)
  obtain ⟨p4, q4⟩ := yc_cpy (z := z3) (a := a + 4) (b := b + 4) (L := 16) (by decide)
  have s4 : (sn_wI z3 (a + 4) (va_cpy (sn_I z3 (b + 4)) (sn_I z3 (a + 4)) (0 : Int32).toNatClampNeg (0 : Int32).toNatClampNeg (Int32.ofNat 16).toNatClampNeg)).2 = z3.2 := rfl
  generalize sn_wI z3 (a + 4) (va_cpy (sn_I z3 (b + 4)) (sn_I z3 (a + 4)) (0 : Int32).toNatClampNeg (0 : Int32).toNatClampNeg (Int32.ofNat 16).toNatClampNeg) = z4 at p4 q4 s4 ⊢
  refine yp_gd (fun _ => yp_lt ?_)
  obtain ⟨p5, q5⟩ := yc_cpy (z := z4) (a := a + 5) (b := b + 5) (L := 30) (by decide)
  have s5 : (sn_wI z4 (a + 5) (va_cpy (sn_I z4 (b + 5)) (sn_I z4 (a + 5)) (0 : Int32).toNatClampNeg (0 : Int32).toNatClampNeg (Int32.ofNat 30).toNatClampNeg)).2 = z4.2 := rfl
  generalize sn_wI z4 (a + 5) (va_cpy (sn_I z4 (b + 5)) (sn_I z4 (a + 5)) (0 : Int32).toNatClampNeg (0 : Int32).toNatClampNeg (Int32.ofNat 30).toNatClampNeg) = z5 at p5 q5 s5 ⊢
  refine yp_gd (fun _ => yp_lt ?_)
  obtain ⟨p6, q6⟩ := yc_cpy (z := z5) (a := a + 6) (b := b + 6) (L := 120) (by decide)
  have s6 : (sn_wI z5 (a + 6) (va_cpy (sn_I z5 (b + 6)) (sn_I z5 (a + 6)) (0 : Int32).toNatClampNeg (0 : Int32).toNatClampNeg (Int32.ofNat 120).toNatClampNeg)).2 = z5.2 := rfl
  generalize sn_wI z5 (a + 6) (va_cpy (sn_I z5 (b + 6)) (sn_I z5 (a + 6)) (0 : Int32).toNatClampNeg (0 : Int32).toNatClampNeg (Int32.ofNat 120).toNatClampNeg) = z6 at p6 q6 s6 ⊢
  refine yp_some ⟨fun q hq => ?_, ?_, fun k hk => ?_, fun k hk => ?_, fun k hk => ?_, fun k hk => ?_, fun k hk => ?_, fun k hk => ?_⟩
  · rw [p6 q (by omega), p5 q (by omega), p4 q (by omega), p3 q (by omega), p2 q (by omega), p1 q (by omega)]
  · rw [s6, s5, s4, s3, s2, s1]
  · rw [p6 (a + 1) (by omega), p5 (a + 1) (by omega), p4 (a + 1) (by omega), p3 (a + 1) (by omega), p2 (a + 1) (by omega), q1 k, if_pos hk]
  · rw [p6 (a + 2) (by omega), p5 (a + 2) (by omega), p4 (a + 2) (by omega), p3 (a + 2) (by omega), q2 k, if_pos hk, p1 (b + 2) (by omega)]
  · rw [p6 (a + 3) (by omega), p5 (a + 3) (by omega), p4 (a + 3) (by omega), q3 k, if_pos hk, p2 (b + 3) (by omega), p1 (b + 3) (by omega)]
  · rw [p6 (a + 4) (by omega), p5 (a + 4) (by omega), q4 k, if_pos hk, p3 (b + 4) (by omega), p2 (b + 4) (by omega), p1 (b + 4) (by omega)]
  · rw [p6 (a + 5) (by omega), q5 k, if_pos hk, p4 (b + 5) (by omega), p3 (b + 5) (by omega), p2 (b + 5) (by omega), p1 (b + 5) (by omega)]
  · rw [q6 k, if_pos hk, p5 (b + 6) (by omega), p4 (b + 6) (by omega), p3 (b + 6) (by omega), p2 (b + 6) (by omega), p1 (b + 6) (by omega)]
theorem yB_mv {a b : Nat} {σ z : sn_S} (e1 : ∀ k, k < 11 → z.1 (a + 1) k = σ.1 (b + 1) k) (e2 : ∀ k, k < 12 → z.1 (a + 2) k = σ.1 (b + 2) k) (e3 : ∀ k, k < 10 → z.1 (a + 3) k = σ.1 (b + 3) k) (e4 : ∀ k, k < 16 → z.1 (a + 4) k = σ.1 (b + 4) k) (e5 : ∀ k, k < 30 → z.1 (a + 5) k = σ.1 (b + 5) k) (h : yB b σ) : yB a z := by
  obtain ⟨⟨c5, c6, c7, c8, c9⟩, hn5, hg, hnt, hp⟩ := h
  have f5 : sp_n (z.1 (a + 1)) 5 = sp_n (σ.1 (b + 1)) 5 := sp_mv (e1 5 (by decide))
  have f6 : sp_n (z.1 (a + 1)) 6 = sp_n (σ.1 (b + 1)) 6 := sp_mv (e1 6 (by decide))
  have f7 : sp_n (z.1 (a + 1)) 7 = sp_n (σ.1 (b + 1)) 7 := sp_mv (e1 7 (by decide))
  have f8 : sp_n (z.1 (a + 1)) 8 = sp_n (σ.1 (b + 1)) 8 := sp_mv (e1 8 (by decide))
  have b5 := c5.2
  have b6 := c6.2
  have b7 := c7.2
  have b8 := c8.2
  refine ⟨⟨yh_mv (e1 5 (by decide)) c5, yh_mv (e1 6 (by decide)) c6, yh_mv (e1 7 (by decide)) c7, yh_mv (e1 8 (by decide)) c8, (e1 9 (by decide)).trans c9⟩, fun p hp2 => ?_, fun p hp2 => ?_, fun k hk => ?_, fun k hk => ?_⟩
  · rw [f5] at hp2
    have g := hn5 p hp2
    exact ⟨yh_mv (e2 _ (by omega)) g.1, yh_mv (e2 _ (by omega)) g.2.1, by rw [sp_mv (e2 (2 * p + 1) (by omega))]; exact g.2.2⟩
  · rw [f6] at hp2
    have g := hg p hp2
    exact ⟨yh_mv (e3 _ (by omega)) g.1, yh_mv (e3 _ (by omega)) g.2⟩
  · rw [f7] at hk
    rw [f5, sp_mv (e4 (2 * k) (by omega)), sp_mv (e4 (2 * k + 1) (by omega)), e4 (2 * k) (by omega), e4 (2 * k + 1) (by omega)]
    exact hnt k hk
  · rw [f8] at hk
    rw [f5]
    obtain ⟨⟨g1, g2⟩, g3, g4, g5, g6, g7, g8⟩ := hp k hk
    exact ⟨⟨by rw [sp_mv (e5 (5 * k) (by omega)), e5 (5 * k) (by omega)]; exact g1, by rw [sp_mv (e5 (5 * k) (by omega))]; exact g2⟩, yh_mv (e5 _ (by omega)) g3, yh_mv (e5 _ (by omega)) g4, by rw [sp_mv (e5 (5 * k + 1) (by omega)), sp_mv (e5 (5 * k + 2) (by omega))]; exact g5, yh_mv (e5 _ (by omega)) g6, by rw [sp_mv (e5 (5 * k + 3) (by omega))]; exact g7, yh_mv (e5 _ (by omega)) g8⟩
theorem yH_mv {a b : Nat} {σ z : sn_S} {w : Nat → Int32} (hW : jW w) (e1 : ∀ k, k < 11 → z.1 (a + 1) k = σ.1 (b + 1) k) (e2 : ∀ k, k < 12 → z.1 (a + 2) k = σ.1 (b + 2) k) (e3 : ∀ k, k < 10 → z.1 (a + 3) k = σ.1 (b + 3) k) (e4 : ∀ k, k < 16 → z.1 (a + 4) k = σ.1 (b + 4) k) (e5 : ∀ k, k < 30 → z.1 (a + 5) k = σ.1 (b + 5) k) (e6 : ∀ k, k < 120 → z.1 (a + 6) k = σ.1 (b + 6) k) (h : yH b σ w) : yH a z w := by
  obtain ⟨h1, h2, h3, h4, h5, h6⟩ := h
  have b5 : sp_n w 5 ≤ 6 := hW.1.2.2.2.2.2.1.2
  have b6 : sp_n w 6 ≤ 5 := hW.1.2.2.2.2.2.2.1.2
  have b7 : sp_n w 7 ≤ 8 := hW.1.2.2.2.2.2.2.2.1.2
  have b8 : sp_n w 8 ≤ 6 := hW.1.2.2.2.2.2.2.2.2.1.2
  have b9 : sp_n w 9 ≤ 40 := hW.1.2.2.2.2.2.2.2.2.2.1.2
  refine ⟨fun k hk => (e1 k hk).trans (h1 k hk), fun k hk => (e2 k (by omega)).trans (h2 k hk), fun k hk => (e3 k (by omega)).trans (h3 k hk), fun k hk => (e4 k (by omega)).trans (h4 k hk), fun k hk => (e5 k (by omega)).trans (h5 k hk), fun k hk => ?_⟩
  rw [e6 (3 * k) (by omega), e6 (3 * k + 1) (by omega), e6 (3 * k + 2) (by omega)]
  exact h6 k hk
theorem yW_of {h : Nat} {σ : sn_S} {w : Nat → Int32} {x : Nat} (hR : rr_H h σ w) (hB : yB h σ) (hF : yF (σ.1 (h + 1)) x) (hx : x ≤ 900) : jW w ∧ yH h σ w := by
  obtain ⟨h1, h2, h3, h4, h5, h6⟩ := hR
  obtain ⟨⟨c5, c6, c7, c8, c9⟩, hn5, hg, hnt, hp⟩ := hB
  have s : ∀ k, k < 11 → sp_n w k = sp_n (σ.1 (h + 1)) k := fun k hk => sp_mv (h1 k hk).symm
  have t : ∀ k b, k < 11 → yh_n (σ.1 (h + 1)) k b → yh_n w k b := fun k b hk g => yh_mv (h1 k hk).symm g
  have iN : ∀ k, yh_n (σ.1 (h + 1)) k 900 → (σ.1 (h + 1) k).toInt = (sp_n (σ.1 (h + 1)) k : Int) := fun k g => by
    obtain ⟨g1, g2⟩ := g
    generalize sp_n (σ.1 (h + 1)) k = n at g1 g2 ⊢
    rw [g1, nI_toInt (by omega)]
  have i5 := iN 5 ⟨c5.1, by have := c5.2; omega⟩
  have i6 := iN 6 ⟨c6.1, by have := c6.2; omega⟩
  have i7 := iN 7 ⟨c7.1, by have := c7.2; omega⟩
  have i8 := iN 8 ⟨c8.1, by have := c8.2; omega⟩
  have s10 : sp_n w 10 = x := sp_nI ((h1 10 (by decide)).symm.trans hF.2.2) (by omega)
  have s9 : sp_n w 9 = 0 := by
    rw [s 9 (by decide)]
    unfold sp_n
    rw [c9]
    rfl
  have y10 : yh_n w 10 900 := ⟨by rw [s10, ← h1 10 (by decide)]; exact hF.2.2, by omega⟩
  have y9 : yh_n w 9 40 := ⟨by rw [s9, ← h1 9 (by decide), c9, nI_0], by omega⟩
  have zero : x = 0 → ∀ k, k < 11 → sp_n w k = 0 ∧ w k = 0 := fun e k hk => by
    have g := hF.1 e k hk
    rw [h1 k hk] at g
    refine ⟨?_, g⟩
    unfold sp_n
    rw [g]
    rfl
  have yz : ∀ k b, x = 0 → k < 11 → yh_n w k b := fun k b e hk => ⟨by rw [(zero e k hk).1, (zero e k hk).2, nI_0], by rw [(zero e k hk).1]; omega⟩
  have n2 : ∀ i, i < 2 * sp_n (σ.1 (h + 1)) 5 → w (11 + i) = σ.1 (h + 2) i := fun i hi => (h2 i (by rw [i5]; omega)).symm
  have n3 : ∀ i, i < 2 * sp_n (σ.1 (h + 1)) 6 → w (23 + i) = σ.1 (h + 3) i := fun i hi => (h3 i (by rw [i6]; omega)).symm
  have n4 : ∀ i, i < 2 * sp_n (σ.1 (h + 1)) 7 → w (33 + i) = σ.1 (h + 4) i := fun i hi => (h4 i (by rw [i7]; omega)).symm
  have n5 : ∀ i, i < 5 * sp_n (σ.1 (h + 1)) 8 → w (49 + i) = σ.1 (h + 5) i := fun i hi => (h5 i (by rw [i8]; omega)).symm
  refine ⟨⟨?_, fun e => ?_, fun e => ?_, fun p hp2 => ?_, fun p hp2 => ?_, fun k hk => ?_, fun k hk => ?_, fun i hi => absurd hi (by omega)⟩, h1, fun i hi => (n2 i (by rw [← s 5 (by decide)]; exact hi)).symm, fun i hi => (n3 i (by rw [← s 6 (by decide)]; exact hi)).symm, fun i hi => (n4 i (by rw [← s 7 (by decide)]; exact hi)).symm, fun i hi => (n5 i (by rw [← s 8 (by decide)]; exact hi)).symm, fun i hi => absurd hi (by omega)⟩
  · rcases Nat.eq_zero_or_pos x with e | e
    · exact ⟨yz 0 _ e (by decide), yz 1 _ e (by decide), yz 2 _ e (by decide), yz 3 _ e (by decide), yz 4 _ e (by decide), t 5 _ (by decide) c5, t 6 _ (by decide) c6, t 7 _ (by decide) c7, t 8 _ (by decide) c8, y9, y10⟩
    · obtain ⟨g0, g1, g2, g3, g4, g5⟩ := hF.2.1 e
      exact ⟨t 0 _ (by decide) g0, t 1 _ (by decide) g2, t 2 _ (by decide) g3, t 3 _ (by decide) g4, t 4 _ (by decide) g5, t 5 _ (by decide) c5, t 6 _ (by decide) c6, t 7 _ (by decide) c7, t 8 _ (by decide) c8, y9, y10⟩
  · rw [s10] at e
    exact ⟨(zero e 0 (by decide)).1, (zero e 5 (by decide)).1, (zero e 7 (by decide)).1, (zero e 8 (by decide)).1⟩
  · rw [s10] at e
    rw [s 0 (by decide)]
    exact (hF.2.1 e).2.1
  · rw [s 5 (by decide)] at hp2
    have g := hn5 p hp2
    have e0 := n2 (2 * p) (by omega)
    have e1 := n2 (2 * p + 1) (by omega)
    rw [show 11 + (2 * p + 1) = 12 + 2 * p by omega] at e1
    exact ⟨yh_mv e0 g.1, yh_mv e1 g.2.1, by rw [sp_mv e1]; exact g.2.2⟩
  · rw [s 6 (by decide)] at hp2
    have g := hg p hp2
    have e0 := n3 (2 * p) (by omega)
    have e1 := n3 (2 * p + 1) (by omega)
    rw [show 23 + (2 * p + 1) = 24 + 2 * p by omega] at e1
    exact ⟨yh_mv e0 g.1, yh_mv e1 g.2⟩
  · rw [s 7 (by decide)] at hk
    have g := hnt k hk
    have e0 := n4 (2 * k) (by omega)
    have e1 := n4 (2 * k + 1) (by omega)
    rw [show 33 + (2 * k + 1) = 34 + 2 * k by omega] at e1
    rw [s 5 (by decide), sp_mv e0, sp_mv e1, e0, e1]
    exact g
  · rw [s 8 (by decide)] at hk
    obtain ⟨⟨g1, g2⟩, g3, g4, g5, g6, g7, g8⟩ := hp k hk
    have e0 := n5 (5 * k) (by omega)
    have e1 := n5 (5 * k + 1) (by omega)
    have e2 := n5 (5 * k + 2) (by omega)
    have e3 := n5 (5 * k + 3) (by omega)
    have e4 := n5 (5 * k + 4) (by omega)
    rw [show 49 + (5 * k + 1) = 50 + 5 * k by omega] at e1
    rw [show 49 + (5 * k + 2) = 51 + 5 * k by omega] at e2
    rw [show 49 + (5 * k + 3) = 52 + 5 * k by omega] at e3
    rw [show 49 + (5 * k + 4) = 53 + 5 * k by omega] at e4
    exact ⟨⟨by rw [sp_mv e0, e0]; exact g1, by rw [s 5 (by decide), sp_mv e0]; exact g2⟩, yh_mv e1 g3, yh_mv e2 g4, by rw [sp_mv e1, sp_mv e2]; exact g5, yh_mv e3 g6, by rw [sp_mv e3]; exact g7, yh_mv e4 g8⟩
end
section
/-! bits of a number: how many, which is the first -/
theorem yb_sh : ∀ k, k < 32 → ((nI k &&& 31).toBitVec.smod 32).toNat = k := by decide +kernel
theorem yb_tb (x : Int32) {k : Nat} (hk : k < 32) : sp_bit x k = x.toBitVec.getLsbD k := by
  have e1 : (x >>> (nI k &&& 31)).toBitVec = x.toBitVec.sshiftRight ((nI k &&& 31).toBitVec.smod 32).toNat := rfl
  have e2 : (x >>> (nI k &&& 31)).toBitVec.getLsbD 0 = x.toBitVec.getLsbD k := by
    rw [e1, yb_sh k hk, BitVec.getLsbD_sshiftRight]
    simp [hk]
  have e3 : ∀ y : Int32, ((y &&& 1) == 1) = y.toBitVec.getLsbD 0 := fun y => by
    have h : (y &&& 1).toBitVec.getLsbD 0 = y.toBitVec.getLsbD 0 := by
      have e : (y &&& 1).toBitVec = y.toBitVec &&& 1#32 := rfl
      rw [e, BitVec.getLsbD_and]
      simp
    rcases yb_1 y with g | g
    · rw [g] at h ⊢
      rw [← h]
      rfl
    · rw [g] at h ⊢
      rw [← h]
      rfl
  unfold sp_bit
  rw [e3, e2]
theorem yb_ext {x y : Int32} (h : ∀ k, k < 32 → sp_bit x k = sp_bit y k) : x = y := by
  apply Int32.toBitVec_inj.mp
  apply BitVec.eq_of_getLsbD_eq
  intro k hk
  rw [← yb_tb x hk, ← yb_tb y hk]
  exact h k hk
theorem yb_one : ∀ k, k < 32 → ((1 : Int32) <<< (nI k &&& 31)).toBitVec = BitVec.twoPow 32 k := by decide +kernel
theorem yb_or1 (x : Int32) {k j : Nat} (hk : k < 32) (hj : j < 32) : sp_bit (x ||| ((1 : Int32) <<< (nI k &&& 31))) j = (sp_bit x j || decide (j = k)) := by
  have e : (x ||| ((1 : Int32) <<< (nI k &&& 31))).toBitVec = x.toBitVec ||| ((1 : Int32) <<< (nI k &&& 31)).toBitVec := rfl
  rw [yb_tb _ hj, yb_tb _ hj, e, BitVec.getLsbD_or, yb_one k hk, BitVec.getLsbD_twoPow]
  simp [hk, eq_comm]
theorem yb_and (x y : Int32) {j : Nat} (hj : j < 32) : sp_bit (x &&& y) j = (sp_bit x j && sp_bit y j) := by
  have e : (x &&& y).toBitVec = x.toBitVec &&& y.toBitVec := rfl
  rw [yb_tb _ hj, yb_tb _ hj, yb_tb _ hj, e, BitVec.getLsbD_and]
theorem yb_1k {k j : Nat} (hk : k < 32) (hj : j < 32) : sp_bit ((1 : Int32) <<< (nI k &&& 31)) j = decide (j = k) := by
  rw [yb_tb _ hj, yb_one k hk, BitVec.getLsbD_twoPow]
  simp [hk, eq_comm]
/-- the first n bits -/
theorem yb_low : ∀ n, n < 31 → ∀ j, j < 32 → sp_bit (((1 : Int32) <<< (nI n &&& 31)) - 1) j = decide (j < n) := by decide +kernel
theorem yb_set {f : Nat → Bool} : ∀ n, n ≤ 32 → ∀ j, j < 32 → sp_bit (dy_set f n) j = (decide (j < n) && f j) := by
  intro n
  induction n with
  | zero =>
    intro _ j hj
    show sp_bit 0 j = _
    rw [yb_z j hj]
    simp
  | succ n ih =>
    intro hn j hj
    show sp_bit (if f n = true then dy_set f n ||| ((1 : Int32) <<< (nI n &&& 31)) else dy_set f n) j = _
    by_cases c : f n = true
    · rw [if_pos c, yb_or1 _ (by omega) hj, ih (by omega) j hj]
      by_cases e : j = n
      · subst e
        simp [c]
      · have : (j < n + 1) ↔ (j < n) := by omega
        simp [e, this]
    · rw [if_neg c, ih (by omega) j hj]
      by_cases e : j = n
      · subst e
        simp [c]
      · have : (j < n + 1) ↔ (j < n) := by omega
        simp [this]
def yb_pop (x : Int32) : Nat → Nat
  | 0 => 0
  | n + 1 => yb_pop x n + (if sp_bit x n = true then 1 else 0)
theorem yb_pople (x : Int32) : ∀ n, yb_pop x n ≤ n := by
  intro n
  induction n with
  | zero => exact Nat.le_refl _
  | succ n ih =>
    show yb_pop x n + (if _ then 1 else 0) ≤ n + 1
    split <;> omega
/-! the class's count of bits, by half bytes -/
theorem yn_and {a b c d : Nat} (ha : a < 16) (hc : c < 16) : (16 * b + a) &&& (16 * d + c) = 16 * (b &&& d) + (a &&& c) := by
  have h1 : ((16 * b + a) &&& (16 * d + c)) / 16 = b &&& d := by
    have h := @Nat.shiftRight_and_distrib (i := 4) (a := 16 * b + a) (b := 16 * d + c)
    rw [Nat.shiftRight_eq_div_pow, Nat.shiftRight_eq_div_pow, Nat.shiftRight_eq_div_pow] at h
    rw [show (2 : Nat) ^ 4 = 16 by decide] at h
    rw [h, show (16 * b + a) / 16 = b by omega, show (16 * d + c) / 16 = d by omega]
  have h2 : ((16 * b + a) &&& (16 * d + c)) % 16 = a &&& c := by
    have h := Nat.and_mod_two_pow (n := 4) (a := 16 * b + a) (b := 16 * d + c)
    rw [show (2 : Nat) ^ 4 = 16 by decide, show (16 * b + a) % 16 = a by omega, show (16 * d + c) % 16 = c by omega] at h
    exact h
  omega
def yn_8 (a b c d e f g h : Nat) : Nat := 16 * (16 * (16 * (16 * (16 * (16 * (16 * h + g) + f) + e) + d) + c) + b) + a
theorem yn_and8 {a b c d e f g h a' b' c' d' e' f' g' h' : Nat} (h1 : a < 16 ∧ b < 16 ∧ c < 16 ∧ d < 16 ∧ e < 16 ∧ f < 16 ∧ g < 16) (h2 : a' < 16 ∧ b' < 16 ∧ c' < 16 ∧ d' < 16 ∧ e' < 16 ∧ f' < 16 ∧ g' < 16) : yn_8 a b c d e f g h &&& yn_8 a' b' c' d' e' f' g' h' = yn_8 (a &&& a') (b &&& b') (c &&& c') (d &&& d') (e &&& e') (f &&& f') (g &&& g') (h &&& h') := by
  unfold yn_8
  rw [yn_and h1.1 h2.1, yn_and h1.2.1 h2.2.1, yn_and h1.2.2.1 h2.2.2.1, yn_and h1.2.2.2.1 h2.2.2.2.1, yn_and h1.2.2.2.2.1 h2.2.2.2.2.1, yn_and h1.2.2.2.2.2.1 h2.2.2.2.2.2.1, yn_and h1.2.2.2.2.2.2 h2.2.2.2.2.2.2]
def yn_p (d : Nat) : Nat := d % 2 + d / 2 % 2 + d / 4 % 2 + d / 8 % 2
def yn_s (d : Nat) : Nat := d - ((d / 2) &&& 5)
theorem yn_5 : ∀ d, d < 16 → ∀ b, b < 2 → ((d / 2 + 8 * b) &&& 5) = ((d / 2) &&& 5) ∧ ((d / 2) &&& 5) ≤ d ∧ yn_s d < 16 ∧ (yn_s d &&& 3) + yn_s d / 4 = yn_p d ∧ yn_p d ≤ 4 := by decide +kernel
theorem yn_3 : ∀ s, s < 16 → ∀ b, b < 4 → ((s / 4 + 4 * b) &&& 3) = s / 4 := by decide +kernel
theorem yn_15 : ∀ s, s < 16 → (s &&& 15) = s ∧ (s &&& 0) = 0 := by decide +kernel
theorem yn_split (N : Nat) (hN : N < 4294967296) : N = yn_8 (N % 16) (N / 16 % 16) (N / 256 % 16) (N / 4096 % 16) (N / 65536 % 16) (N / 1048576 % 16) (N / 16777216 % 16) (N / 268435456) := by
  unfold yn_8
  omega
def yn_cnt (N : Nat) : Nat :=
  let y1 := N - ((N / 2) &&& 1431655765)
  let y3 := (y1 &&& 858993459) + ((y1 / 4) &&& 858993459)
  let y5 := (y3 + y3 / 16) &&& 252645135
  let y7 := y5 + y5 / 256
  (y7 + y7 / 65536) % 64
theorem yn_cnt8 {a b c d e f g h : Nat} (ha : a < 16) (hb : b < 16) (hc : c < 16) (hd : d < 16) (he : e < 16) (hf : f < 16) (hg : g < 16) (hh : h < 16) : yn_cnt (yn_8 a b c d e f g h) = yn_p a + yn_p b + yn_p c + yn_p d + yn_p e + yn_p f + yn_p g + yn_p h := by
  have e1 : yn_8 a b c d e f g h / 2 = yn_8 (a / 2 + 8 * (b % 2)) (b / 2 + 8 * (c % 2)) (c / 2 + 8 * (d % 2)) (d / 2 + 8 * (e % 2)) (e / 2 + 8 * (f % 2)) (f / 2 + 8 * (g % 2)) (g / 2 + 8 * (h % 2)) (h / 2 + 8 * 0) := by
    unfold yn_8
    omega
  have m5 : 1431655765 = yn_8 5 5 5 5 5 5 5 5 := by decide
  have m3 : 858993459 = yn_8 3 3 3 3 3 3 3 3 := by decide
  have mf : 252645135 = yn_8 15 0 15 0 15 0 15 0 := by decide
  have fa := yn_5 a ha
  have fb := yn_5 b hb
  have fc := yn_5 c hc
  have fd := yn_5 d hd
  have fe := yn_5 e he
  have ff := yn_5 f hf
  have fg := yn_5 g hg
  have fh := yn_5 h hh
  have e2 : yn_8 a b c d e f g h - ((yn_8 a b c d e f g h / 2) &&& 1431655765) = yn_8 (yn_s a) (yn_s b) (yn_s c) (yn_s d) (yn_s e) (yn_s f) (yn_s g) (yn_s h) := by
    rw [e1, m5, yn_and8 (by omega) (by omega), (fa (b % 2) (by omega)).1, (fb (c % 2) (by omega)).1, (fc (d % 2) (by omega)).1, (fd (e % 2) (by omega)).1, (fe (f % 2) (by omega)).1, (ff (g % 2) (by omega)).1, (fg (h % 2) (by omega)).1, (fh 0 (by omega)).1]
    have q1 := (fa 0 (by omega)).2.1
    have q2 := (fb 0 (by omega)).2.1
    have q3 := (fc 0 (by omega)).2.1
    have q4 := (fd 0 (by omega)).2.1
    have q5 := (fe 0 (by omega)).2.1
    have q6 := (ff 0 (by omega)).2.1
    have q7 := (fg 0 (by omega)).2.1
    have q8 := (fh 0 (by omega)).2.1
    unfold yn_8 yn_s
    omega
  have sa := (fa 0 (by omega)).2.2
  have sb := (fb 0 (by omega)).2.2
  have sc := (fc 0 (by omega)).2.2
  have sd := (fd 0 (by omega)).2.2
  have se := (fe 0 (by omega)).2.2
  have sf := (ff 0 (by omega)).2.2
  have sg := (fg 0 (by omega)).2.2
  have sh := (fh 0 (by omega)).2.2
  unfold yn_cnt
  simp only
  rw [e2]
  generalize yn_s a = s1 at sa ⊢
  generalize yn_s b = s2 at sb ⊢
  generalize yn_s c = s3 at sc ⊢
  generalize yn_s d = s4 at sd ⊢
  generalize yn_s e = s5 at se ⊢
  generalize yn_s f = s6 at sf ⊢
  generalize yn_s g = s7 at sg ⊢
  generalize yn_s h = s8 at sh ⊢
  have e3 : yn_8 s1 s2 s3 s4 s5 s6 s7 s8 / 4 = yn_8 (s1 / 4 + 4 * (s2 % 4)) (s2 / 4 + 4 * (s3 % 4)) (s3 / 4 + 4 * (s4 % 4)) (s4 / 4 + 4 * (s5 % 4)) (s5 / 4 + 4 * (s6 % 4)) (s6 / 4 + 4 * (s7 % 4)) (s7 / 4 + 4 * (s8 % 4)) (s8 / 4 + 4 * 0) := by
    unfold yn_8
    omega
  have e4 : (yn_8 s1 s2 s3 s4 s5 s6 s7 s8 &&& 858993459) + ((yn_8 s1 s2 s3 s4 s5 s6 s7 s8 / 4) &&& 858993459) = yn_8 (yn_p a) (yn_p b) (yn_p c) (yn_p d) (yn_p e) (yn_p f) (yn_p g) (yn_p h) := by
    rw [e3, m3, yn_and8 (by omega) (by omega), yn_and8 (by omega) (by omega), yn_3 s1 (by omega) _ (by omega), yn_3 s2 (by omega) _ (by omega), yn_3 s3 (by omega) _ (by omega), yn_3 s4 (by omega) _ (by omega), yn_3 s5 (by omega) _ (by omega), yn_3 s6 (by omega) _ (by omega), yn_3 s7 (by omega) _ (by omega), yn_3 s8 (by omega) _ (by omega)]
    rw [← sa.2.1, ← sb.2.1, ← sc.2.1, ← sd.2.1, ← se.2.1, ← sf.2.1, ← sg.2.1, ← sh.2.1]
    unfold yn_8
    omega
  rw [e4]
  have pa := sa.2.2
  have pb := sb.2.2
  have pc := sc.2.2
  have pd := sd.2.2
  have pe := se.2.2
  have pf := sf.2.2
  have pg := sg.2.2
  have ph := sh.2.2
  generalize yn_p a = p1 at pa ⊢
  generalize yn_p b = p2 at pb ⊢
  generalize yn_p c = p3 at pc ⊢
  generalize yn_p d = p4 at pd ⊢
  generalize yn_p e = p5 at pe ⊢
  generalize yn_p f = p6 at pf ⊢
  generalize yn_p g = p7 at pg ⊢
  generalize yn_p h = p8 at ph ⊢
  have e5 : yn_8 p1 p2 p3 p4 p5 p6 p7 p8 + yn_8 p1 p2 p3 p4 p5 p6 p7 p8 / 16 = yn_8 (p1 + p2) (p2 + p3) (p3 + p4) (p4 + p5) (p5 + p6) (p6 + p7) (p7 + p8) p8 := by
    unfold yn_8
    omega
  have e6 : (yn_8 p1 p2 p3 p4 p5 p6 p7 p8 + yn_8 p1 p2 p3 p4 p5 p6 p7 p8 / 16) &&& 252645135 = yn_8 (p1 + p2) 0 (p3 + p4) 0 (p5 + p6) 0 (p7 + p8) 0 := by
    rw [e5, mf, yn_and8 (by omega) (by omega), (yn_15 (p1 + p2) (by omega)).1, (yn_15 (p2 + p3) (by omega)).2, (yn_15 (p3 + p4) (by omega)).1, (yn_15 (p4 + p5) (by omega)).2, (yn_15 (p5 + p6) (by omega)).1, (yn_15 (p6 + p7) (by omega)).2, (yn_15 (p7 + p8) (by omega)).1, (yn_15 p8 (by omega)).2]
  rw [e6]
  have e7 : yn_8 (p1 + p2) 0 (p3 + p4) 0 (p5 + p6) 0 (p7 + p8) 0 = (p1 + p2) + 256 * (p3 + p4) + 65536 * (p5 + p6) + 16777216 * (p7 + p8) := by
    unfold yn_8
    omega
  rw [e7]
  have a1 : ((p1 + p2) + 256 * (p3 + p4) + 65536 * (p5 + p6) + 16777216 * (p7 + p8)) / 256 = (p3 + p4) + 256 * (p5 + p6) + 65536 * (p7 + p8) := by omega
  rw [a1]
  have a2 : (((p1 + p2) + 256 * (p3 + p4) + 65536 * (p5 + p6) + 16777216 * (p7 + p8)) + ((p3 + p4) + 256 * (p5 + p6) + 65536 * (p7 + p8))) / 65536 = (p5 + p6) + (p7 + p8) + 256 * (p7 + p8) := by omega
  rw [a2]
  omega
def yb_n (x : Int32) : Nat := x.toBitVec.toNat
theorem yb_nlt (x : Int32) : yb_n x < 4294967296 := x.toBitVec.isLt
theorem yb_nand (x y : Int32) : yb_n (x &&& y) = yb_n x &&& yb_n y := by
  have e : (x &&& y).toBitVec = x.toBitVec &&& y.toBitVec := rfl
  unfold yb_n
  rw [e, BitVec.toNat_and]
theorem yb_nsub {x y : Int32} (h : yb_n y ≤ yb_n x) : yb_n (x - y) = yb_n x - yb_n y := by
  have e : (x - y).toBitVec = x.toBitVec - y.toBitVec := rfl
  have h1 := yb_nlt x
  unfold yb_n at h h1 ⊢
  rw [e, BitVec.toNat_sub]
  omega
theorem yb_nadd {x y : Int32} (h : yb_n x + yb_n y < 4294967296) : yb_n (x + y) = yb_n x + yb_n y := by
  have e : (x + y).toBitVec = x.toBitVec + y.toBitVec := rfl
  unfold yb_n at h ⊢
  rw [e, BitVec.toNat_add]
  omega
theorem yb_nshr (x : Int32) (c : UInt32) (k : Nat) (hc : (c.toBitVec % 32).toNat = k) : yb_n ((x.toUInt32 >>> c).toInt32) = yb_n x / 2 ^ k := by
  have e : ((x.toUInt32 >>> c).toInt32).toBitVec = x.toBitVec.ushiftRight (c.toBitVec % 32).toNat := rfl
  unfold yb_n
  rw [e, hc]
  show (x.toBitVec >>> k).toNat = _
  rw [BitVec.toNat_ushiftRight, Nat.shiftRight_eq_div_pow]
theorem yb_nI {x : Int32} {k : Nat} (h : yb_n x = k) (hk : k < 4294967296) : x = nI k := by
  apply Int32.toBitVec_inj.mp
  apply BitVec.eq_of_toNat_eq
  have e : (nI k).toBitVec.toNat = k % 2 ^ 32 := rfl
  rw [e]
  unfold yb_n at h
  rw [h]
  omega
theorem yn_63 (a : Nat) : a &&& 63 = a % 64 := Nat.and_two_pow_sub_one_eq_mod a 6
theorem yb_fcnt (x : Int32) : fJ6_bitCount_0f7a4 x = some (nI (yn_cnt (yb_n x))) := by
  have hx := yb_nlt x
  have b1 : (yb_n x / 2) &&& 1431655765 ≤ yb_n x / 2 := Nat.and_le_left
  have hF : ∀ y1 y3 y5 y7 y9 : Int32, y1 = x - (((x.toUInt32 >>> ((1 : Int32).toUInt32 &&& Int32.toUInt32 31)).toInt32) &&& (1431655765 : Int32)) → y3 = (y1 &&& (858993459 : Int32)) + (((y1.toUInt32 >>> ((2 : Int32).toUInt32 &&& Int32.toUInt32 31)).toInt32) &&& (858993459 : Int32)) → y5 = ((y3 + ((y3.toUInt32 >>> ((4 : Int32).toUInt32 &&& Int32.toUInt32 31)).toInt32)) &&& (252645135 : Int32)) → y7 = y5 + ((y5.toUInt32 >>> ((8 : Int32).toUInt32 &&& Int32.toUInt32 31)).toInt32) → y9 = y7 + ((y7.toUInt32 >>> ((16 : Int32).toUInt32 &&& Int32.toUInt32 31)).toInt32) → fJ6_bitCount_0f7a4 x = some (y9 &&& (63 : Int32)) := by
    intro y1 y3 y5 y7 y9 h1 h3 h5 h7 h9
    rw [h9, h7, h5, h3, h1]
    rfl
  obtain ⟨y1, h1⟩ : ∃ y1 : Int32, y1 = x - (((x.toUInt32 >>> ((1 : Int32).toUInt32 &&& Int32.toUInt32 31)).toInt32) &&& (1431655765 : Int32)) := ⟨_, rfl⟩
  obtain ⟨y3, h3⟩ : ∃ y3 : Int32, y3 = (y1 &&& (858993459 : Int32)) + (((y1.toUInt32 >>> ((2 : Int32).toUInt32 &&& Int32.toUInt32 31)).toInt32) &&& (858993459 : Int32)) := ⟨_, rfl⟩
  obtain ⟨y5, h5⟩ : ∃ y5 : Int32, y5 = ((y3 + ((y3.toUInt32 >>> ((4 : Int32).toUInt32 &&& Int32.toUInt32 31)).toInt32)) &&& (252645135 : Int32)) := ⟨_, rfl⟩
  obtain ⟨y7, h7⟩ : ∃ y7 : Int32, y7 = y5 + ((y5.toUInt32 >>> ((8 : Int32).toUInt32 &&& Int32.toUInt32 31)).toInt32) := ⟨_, rfl⟩
  obtain ⟨y9, h9⟩ : ∃ y9 : Int32, y9 = y7 + ((y7.toUInt32 >>> ((16 : Int32).toUInt32 &&& Int32.toUInt32 31)).toInt32) := ⟨_, rfl⟩
  rw [hF y1 y3 y5 y7 y9 h1 h3 h5 h7 h9]
  have n1 : yb_n y1 = yb_n x - ((yb_n x / 2) &&& 1431655765) := by
    have e : yb_n (((x.toUInt32 >>> ((1 : Int32).toUInt32 &&& Int32.toUInt32 31)).toInt32) &&& (1431655765 : Int32)) = (yb_n x / 2) &&& 1431655765 := by
      rw [yb_nand, yb_nshr x _ 1 (by decide)]
      rfl
    rw [h1, yb_nsub (by rw [e]; omega), e]
  have l1 : yb_n y1 &&& 858993459 ≤ 858993459 := Nat.and_le_right
  have l2 : (yb_n y1 / 4) &&& 858993459 ≤ 858993459 := Nat.and_le_right
  have n3 : yb_n y3 = (yb_n y1 &&& 858993459) + ((yb_n y1 / 4) &&& 858993459) := by
    have a1 : yb_n (y1 &&& (858993459 : Int32)) = yb_n y1 &&& 858993459 := yb_nand _ _
    have a2 : yb_n (((y1.toUInt32 >>> ((2 : Int32).toUInt32 &&& Int32.toUInt32 31)).toInt32) &&& (858993459 : Int32)) = (yb_n y1 / 4) &&& 858993459 := by
      rw [yb_nand, yb_nshr y1 _ 2 (by decide)]
      rfl
    rw [h3, yb_nadd (by rw [a1, a2]; omega), a1, a2]
  have s4 : yb_n ((y3.toUInt32 >>> ((4 : Int32).toUInt32 &&& Int32.toUInt32 31)).toInt32) = yb_n y3 / 16 := yb_nshr y3 _ 4 (by decide)
  have n5 : yb_n y5 = (yb_n y3 + yb_n y3 / 16) &&& 252645135 := by
    rw [h5, yb_nand, yb_nadd (by rw [s4]; omega), s4]
    rfl
  have l5 : yb_n y5 ≤ 252645135 := by
    rw [n5]
    exact Nat.and_le_right
  have s8 : yb_n ((y5.toUInt32 >>> ((8 : Int32).toUInt32 &&& Int32.toUInt32 31)).toInt32) = yb_n y5 / 256 := yb_nshr y5 _ 8 (by decide)
  have n7 : yb_n y7 = yb_n y5 + yb_n y5 / 256 := by
    rw [h7, yb_nadd (by rw [s8]; omega), s8]
  have s16 : yb_n ((y7.toUInt32 >>> ((16 : Int32).toUInt32 &&& Int32.toUInt32 31)).toInt32) = yb_n y7 / 65536 := yb_nshr y7 _ 16 (by decide)
  have n9 : yb_n y9 = yb_n y7 + yb_n y7 / 65536 := by
    rw [h9, yb_nadd (by rw [s16]; omega), s16]
  have fin : yb_n (y9 &&& (63 : Int32)) = yn_cnt (yb_n x) := by
    rw [yb_nand, show yb_n (63 : Int32) = 63 from rfl, yn_63, n9, n7, n5, n3, n1]
    rfl
  have lt : yn_cnt (yb_n x) < 4294967296 := by
    have : yb_n (y9 &&& (63 : Int32)) < 4294967296 := yb_nlt _
    omega
  rw [yb_nI fin lt]
theorem yb_bitn (x : Int32) {k : Nat} (hk : k < 32) : (if sp_bit x k = true then 1 else 0) = yb_n x / 2 ^ k % 2 := by
  rw [yb_tb x hk, show x.toBitVec.getLsbD k = (yb_n x).testBit k from rfl, Nat.testBit_eq_decide_div_mod_eq]
  have h : yb_n x / 2 ^ k % 2 = 0 ∨ yb_n x / 2 ^ k % 2 = 1 := by omega
  rcases h with h | h
  · rw [h]
    rfl
  · rw [h]
    rfl
theorem yb_pop4 (x : Int32) {k : Nat} (hk : k + 4 ≤ 32) : yb_pop x (k + 4) = yb_pop x k + yn_p (yb_n x / 2 ^ k % 16) := by
  show yb_pop x k + (if sp_bit x k = true then 1 else 0) + (if sp_bit x (k + 1) = true then 1 else 0) + (if sp_bit x (k + 2) = true then 1 else 0) + (if sp_bit x (k + 3) = true then 1 else 0) = _
  rw [yb_bitn x (show k < 32 by omega), yb_bitn x (show k + 1 < 32 by omega), yb_bitn x (show k + 2 < 32 by omega), yb_bitn x (show k + 3 < 32 by omega), Nat.pow_add, Nat.pow_add, Nat.pow_add, ← Nat.div_div_eq_div_mul, ← Nat.div_div_eq_div_mul, ← Nat.div_div_eq_div_mul]
  generalize yb_n x / 2 ^ k = M
  unfold yn_p
  rw [show (2 : Nat) ^ 1 = 2 by decide, show (2 : Nat) ^ 2 = 4 by decide, show (2 : Nat) ^ 3 = 8 by decide]
  omega
theorem yb_count (x : Int32) : fJ6_bitCount_0f7a4 x = some (nI (yb_pop x 32)) := by
  have e : yn_cnt (yb_n x) = yb_pop x 32 := by
    have hx := yb_nlt x
    have h0 : yb_pop x 4 = yb_pop x 0 + yn_p (yb_n x / 2 ^ 0 % 16) := yb_pop4 x (k := 0) (by decide)
    have h1 : yb_pop x 8 = yb_pop x 4 + yn_p (yb_n x / 2 ^ 4 % 16) := yb_pop4 x (k := 4) (by decide)
    have h2 : yb_pop x 12 = yb_pop x 8 + yn_p (yb_n x / 2 ^ 8 % 16) := yb_pop4 x (k := 8) (by decide)
    have h3 : yb_pop x 16 = yb_pop x 12 + yn_p (yb_n x / 2 ^ 12 % 16) := yb_pop4 x (k := 12) (by decide)
    have h4 : yb_pop x 20 = yb_pop x 16 + yn_p (yb_n x / 2 ^ 16 % 16) := yb_pop4 x (k := 16) (by decide)
    have h5 : yb_pop x 24 = yb_pop x 20 + yn_p (yb_n x / 2 ^ 20 % 16) := yb_pop4 x (k := 20) (by decide)
    have h6 : yb_pop x 28 = yb_pop x 24 + yn_p (yb_n x / 2 ^ 24 % 16) := yb_pop4 x (k := 24) (by decide)
    have h7 : yb_pop x 32 = yb_pop x 28 + yn_p (yb_n x / 2 ^ 28 % 16) := yb_pop4 x (k := 28) (by decide)
    have hz : yb_pop x 0 = 0 := rfl
    rw [show (2 : Nat) ^ 0 = 1 by decide] at h0
    rw [show (2 : Nat) ^ 4 = 16 by decide] at h1
    rw [show (2 : Nat) ^ 8 = 256 by decide] at h2
    rw [show (2 : Nat) ^ 12 = 4096 by decide] at h3
    rw [show (2 : Nat) ^ 16 = 65536 by decide] at h4
    rw [show (2 : Nat) ^ 20 = 1048576 by decide] at h5
    rw [show (2 : Nat) ^ 24 = 16777216 by decide] at h6
    rw [show (2 : Nat) ^ 28 = 268435456 by decide] at h7
    have hs := yn_split (yb_n x) hx
    have h8 : yb_n x / 268435456 % 16 = yb_n x / 268435456 := by omega
    rw [Nat.div_one] at h0
    rw [h8] at h7
    generalize hN : yb_n x = N at *
    have key := yn_cnt8 (a := N % 16) (b := N / 16 % 16) (c := N / 256 % 16) (d := N / 4096 % 16) (e := N / 65536 % 16) (f := N / 1048576 % 16) (g := N / 16777216 % 16) (h := N / 268435456) (by omega) (by omega) (by omega) (by omega) (by omega) (by omega) (by omega) (by omega)
    rw [← hs] at key
    rw [key]
    omega
  rw [yb_fcnt, e]
theorem yb_pop30 {x : Int32} (h : ∀ k, 30 ≤ k → k < 32 → sp_bit x k = false) : yb_pop x 32 = yb_pop x 30 := by
  show yb_pop x 30 + (if sp_bit x 30 = true then 1 else 0) + (if sp_bit x 31 = true then 1 else 0) = _
  rw [h 30 (by decide) (by decide), h 31 (by decide) (by decide)]
  rfl
/-! the first bit -/
/-- r is the first bit of x from a on, below 30; -1: there is none -/
def yb_F (x : Int32) (a : Nat) (r : Int32) : Prop := (r = -1 ∧ ∀ k, a ≤ k → k < 30 → sp_bit x k = false) ∨ ∃ k, a ≤ k ∧ k < 30 ∧ sp_bit x k = true ∧ (∀ j, a ≤ j → j < k → sp_bit x j = false) ∧ r = nI k
theorem yb_F1 {x : Int32} {a : Nat} {r s : Int32} (h : yb_F x a r) (g : yb_F x a s) : r = s := by
  rcases h with ⟨e, h⟩ | ⟨k, h1, h2, h3, h4, e⟩
  · rcases g with ⟨e2, _⟩ | ⟨j, g1, g2, g3, _, _⟩
    · rw [e, e2]
    · rw [h j g1 g2] at g3
      cases g3
  · rcases g with ⟨_, g⟩ | ⟨j, g1, g2, g3, g4, e2⟩
    · rw [g k h1 h2] at h3
      cases h3
    · have : k = j := by
        rcases Nat.lt_trichotomy k j with c | c | c
        · rw [g4 k h1 c] at h3
          cases h3
        · exact c
        · rw [h4 j g1 c] at g3
          cases g3
      rw [e, e2, this]
theorem yb_popz {x : Int32} : ∀ n, (∀ k, k < n → sp_bit x k = false) → yb_pop x n = 0 := by
  intro n
  induction n with
  | zero => intro _; rfl
  | succ n ih =>
    intro h
    show yb_pop x n + (if _ then 1 else 0) = 0
    rw [ih (fun k hk => h k (by omega)), h n (by omega)]
    rfl
theorem yb_popm {x : Int32} {m : Nat} (hm : m ≤ 32) (h : ∀ j, j < 32 → sp_bit x j = decide (j < m)) : ∀ n, n ≤ 32 → yb_pop x n = min n m := by
  intro n
  induction n with
  | zero => intro _; rw [Nat.zero_min]; rfl
  | succ n ih =>
    intro hn
    show yb_pop x n + (if sp_bit x n = true then 1 else 0) = _
    rw [ih (by omega), h n (by omega)]
    by_cases c : n < m
    · rw [decide_eq_true c, if_pos rfl]
      omega
    · rw [decide_eq_false c, if_neg (by decide)]
      omega
theorem yb_least {x : Int32} {k : Nat} (hk : k < 32) (h1 : sp_bit x k = true) (h2 : ∀ j, j < k → sp_bit x j = false) : fJ6_bitCount_0f7a4 ((x &&& (-x)) - (1 : Int32)) = some (nI k) := by
  have e : (x &&& (-x)).toBitVec = BitVec.twoPow 32 k := by
    have e0 : (x &&& (-x)).toBitVec = x.toBitVec &&& (-x.toBitVec) := rfl
    rw [e0]
    apply BitVec.eq_of_getLsbD_eq
    intro i hi
    rw [BitVec.getLsbD_and, BitVec.getLsbD_neg, BitVec.getLsbD_twoPow, ← yb_tb x hi]
    rcases Nat.lt_trichotomy i k with c | c | c
    · rw [h2 i c]
      simp [hk]
      omega
    · subst c
      have : ¬ ∃ j, j < i ∧ x.toBitVec.getLsbD j = true := by
        rintro ⟨j, j1, j2⟩
        rw [← yb_tb x (by omega), h2 j j1] at j2
        cases j2
      rw [h1, decide_eq_false this]
      simp [hk]
    · have : ∃ j, j < i ∧ x.toBitVec.getLsbD j = true := ⟨k, c, by rw [← yb_tb x hk]; exact h1⟩
      rw [decide_eq_true this]
      cases sp_bit x i with
      | false => simp [hk]; omega
      | true => simp [hk, hi]; omega
  have n : yb_n ((x &&& (-x)) - (1 : Int32)) = 2 ^ k - 1 := by
    have h3 : yb_n (x &&& (-x)) = 2 ^ k := by
      unfold yb_n
      rw [e, BitVec.toNat_twoPow]
      exact Nat.mod_eq_of_lt (Nat.pow_lt_pow_right (by decide) hk)
    have h4 : 0 < 2 ^ k := Nat.two_pow_pos k
    rw [yb_nsub (by rw [h3]; show 1 ≤ 2 ^ k; omega), h3]
    rfl
  have b : ∀ j, j < 32 → sp_bit ((x &&& (-x)) - (1 : Int32)) j = decide (j < k) := fun j hj => by
    rw [yb_tb _ hj, show ((x &&& (-x)) - (1 : Int32)).toBitVec.getLsbD j = (yb_n ((x &&& (-x)) - (1 : Int32))).testBit j from rfl, n, Nat.testBit_two_pow_sub_one]
  rw [yb_count, yb_popm (by omega) b 32 (Nat.le_refl _), Nat.min_eq_right (by omega)]
theorem yb_ex {x : Int32} (h : x ≠ 0) : ∃ k, k < 32 ∧ sp_bit x k = true ∧ ∀ j, j < k → sp_bit x j = false := by
  have key : ∀ n, n ≤ 32 → (∃ k, k < n ∧ sp_bit x k = true ∧ ∀ j, j < k → sp_bit x j = false) ∨ ∀ j, j < n → sp_bit x j = false := by
    intro n
    induction n with
    | zero => intro _; exact Or.inr (fun j hj => absurd hj (by omega))
    | succ n ih =>
      intro hn
      rcases ih (by omega) with ⟨k, k1, k2⟩ | g
      · exact Or.inl ⟨k, by omega, k2⟩
      · cases c : sp_bit x n with
        | true => exact Or.inl ⟨n, by omega, c, g⟩
        | false =>
          refine Or.inr (fun j hj => ?_)
          by_cases e : j = n
          · rw [e]; exact c
          · exact g j (by omega)
  rcases key 32 (Nat.le_refl _) with g | g
  · exact g
  · exact absurd (yb_ext (fun k hk => by rw [g k hk, yb_z k hk])) h
/-- the class's lowest bit, of a number below 2^30 -/
theorem yb_lowest {x : Int32} (h : ∀ k, 30 ≤ k → k < 32 → sp_bit x k = false) : yp (fX8_lowestBit x) (fun r => yb_F x 0 r) := by
  unfold fX8_lowestBit
  refine yp_ite (fun c => yp_some (Or.inl ⟨rfl, fun k _ hk => ?_⟩)) (fun c => ?_)
  · rw [c, yb_z k (by omega)]
  · obtain ⟨k, k1, k2, k3⟩ := yb_ex c
    have k4 : k < 30 := by
      rcases Nat.lt_or_ge k 30 with g | g
      · exact g
      · rw [h k g k1] at k2
        cases k2
    rw [yb_least k1 k2 k3]
    exact yp_bd _ (yp_eq rfl) (fun v hv => yp_some (Or.inr ⟨k, Nat.zero_le _, k4, k2, fun j _ hj => k3 j hj, hv⟩))
/-- the reference's -/
theorem yb_firstOf (x : Int32) : yp (fX9_firstOf x) (fun r => yb_F x 0 r) := by
  unfold fX9_firstOf
  refine yp_bd (fun t => (t = Sum.inl () ∧ ∀ k, k < 30 → sp_bit x k = false) ∨ ∃ k, k < 30 ∧ sp_bit x k = true ∧ (∀ j, j < k → sp_bit x j = false) ∧ t = Sum.inr (nI k)) (yp_it (fun s => ∃ k, k ≤ 30 ∧ s = nI k ∧ ∀ j, j < k → sp_bit x j = false) (fun s hs => ?_) _ _ ⟨0, by decide, nI_0.symm, fun j hj => absurd hj (by omega)⟩) (fun t ht => ?_)
  · obtain ⟨k, hk, e, h⟩ := hs
    subst e
    show yp (BX9_firstOf_2 x (nI k)) _
    unfold BX9_firstOf_2
    refine yp_ite (fun c => yp_some (Or.inl ⟨rfl, ?_⟩)) (fun c => ?_)
    · have : k = 30 := by
        rcases Nat.lt_or_ge k 30 with g | g
        · exact absurd c (nI_ge (b := 30) g (by decide))
        · omega
      subst this
      exact h
    · have k30 : k < 30 := by
        rcases Nat.lt_or_ge k 30 with g | g
        · exact g
        · exact absurd (nI_le (a := 30) g (by omega)) c
      rw [yb_m]
      refine yp_bit (fun b => ?_) (fun b => ?_)
      · rw [if_pos rfl]
        exact yp_some (Or.inr ⟨k, k30, b, h, rfl⟩)
      · rw [if_neg (by decide)]
        refine yp_lt (yp_some ⟨k + 1, k30, nI_1 k, fun j hj => ?_⟩)
        by_cases e : j = k
        · rw [e]; exact b
        · exact h j (by omega)
  · rcases ht with ⟨e, h⟩ | ⟨k, k1, k2, k3, e⟩
    · subst e
      show yp (BX9_firstOf_25) _
      unfold BX9_firstOf_25
      exact yp_some (Or.inl ⟨rfl, fun k _ hk => h k hk⟩)
    · subst e
      exact yp_some (Or.inr ⟨k, Nat.zero_le _, k1, k2, fun j _ hj => k3 j hj, rfl⟩)
end
section
/-! what is alike between two calls, the day too -/
theorem zs_kCd {q k : Nat} (h1 : 27 ≤ q) (h2 : q ≤ 37) : zs_kC q k = true := by
  unfold zs_kC
  rw [show Nat.ble 27 q = true from Nat.ble_eq.mpr h1, show Nat.ble q 37 = true from Nat.ble_eq.mpr h2]
  rfl
def yw (τ : sn_S) (j : Nat) : Nat → Int32 := fun k => τ.1 2 (119 * j + k)
def zK (σ τ : sn_S) : Prop := zJ σ τ ∧ (jW (τ.1 1) ∧ yH 1 σ (τ.1 1)) ∧ (∀ j, j < 3 → jW (yw τ j) ∧ yH (73 + 7 * j) σ (yw τ j)) ∧ yD σ (τ.1 1)
theorem yD_c {σ σ' : sn_S} {w : Nat → Int32} (h : ∀ q, 27 ≤ q → q ≤ 37 → σ'.1 q = σ.1 q) (hD : yD σ w) : yD σ' w := by
  unfold yD yd_T yd_L yd_L0
  rw [h 27 (by omega) (by omega), h (27 + 1) (by omega) (by omega), h (27 + 2) (by omega) (by omega), h (27 + 3) (by omega) (by omega), h (27 + 4) (by omega) (by omega), h (27 + 5) (by omega) (by omega), h (27 + 6) (by omega) (by omega), h (27 + 7) (by omega) (by omega), h (27 + 8) (by omega) (by omega), h (27 + 9) (by omega) (by omega), h (27 + 10) (by omega) (by omega)]
  exact hD
theorem yw_c {τ τ' : sn_S} (m2 : τ'.1 2 = τ.1 2) (j : Nat) : yw τ' j = yw τ j := by
  unfold yw
  rw [m2]
theorem zK_c {σ σ' τ τ' : sn_S} (hJ : zJ σ' τ') (hc : ∀ q, (2 ≤ q ∧ q ≤ 7) ∨ (27 ≤ q ∧ q ≤ 37) ∨ (73 ≤ q ∧ q ≤ 93) → σ'.1 q = σ.1 q) (m1 : τ'.1 1 = τ.1 1) (m2 : τ'.1 2 = τ.1 2) (h : zK σ τ) : zK σ' τ' := by
  obtain ⟨_, ⟨w1, w2⟩, hi, hD⟩ := h
  refine ⟨hJ, ⟨by rw [m1]; exact w1, by rw [m1]; exact yH_c (fun a a1 a2 => hc a (by omega)) w2⟩, fun j hj => ?_, ?_⟩
  · rw [yw_c m2 j]
    exact ⟨(hi j hj).1, yH_c (fun a a1 a2 => hc a (by omega)) (hi j hj).2⟩
  · rw [m1]
    exact yD_c (fun q a b => hc q (by omega)) hD
theorem zK_keep {σ σ' τ τ' : sn_S} (hC : zs_C σ σ') (hM : zs_M τ τ') (h : zK σ τ) : zK σ' τ' :=
  zK_c (zJ_keep (zs_bC hC) hM h.1) (fun q hq => funext fun k => hC.2.1 q k (by
    rcases hq with e | e | e
    · exact zs_kCB (zs_kCh (Or.inl e))
    · exact zs_kCd e.1 e.2
    · exact zs_kCB (zs_kCh (Or.inr e)))) (funext fun k => hM.2.1 1 k rfl) (funext fun k => hM.2.1 2 k rfl) h
theorem zK_keep0 {σ σ' τ τ' : sn_S} (hC : zs_C σ σ') (hM : zs_M0 τ τ') (m : τ'.1 1 = τ.1 1 ∧ τ'.1 2 = τ.1 2) (h : zK σ τ) : zK σ' τ' :=
  zK_c (zJ_keep0 (zs_bC hC) hM m h.1) (fun q hq => funext fun k => hC.2.1 q k (by
    rcases hq with e | e | e
    · exact zs_kCB (zs_kCh (Or.inl e))
    · exact zs_kCd e.1 e.2
    · exact zs_kCB (zs_kCh (Or.inr e)))) m.1 m.2 h
theorem sp_0 {w : Nat → Int32} (z : ∀ k, w k = 0) (k : Nat) : sp_n w k = 0 := by
  unfold sp_n
  rw [z k]
  rfl
theorem jW_0 {w : Nat → Int32} (z : ∀ k, w k = 0) : jW w := by
  have y : ∀ k b, yh_n w k b := fun k b => ⟨by rw [sp_0 z k, z k, nI_0], by rw [sp_0 z k]; omega⟩
  refine ⟨⟨y _ _, y _ _, y _ _, y _ _, y _ _, y _ _, y _ _, y _ _, y _ _, y _ _, y _ _⟩, fun _ => ⟨sp_0 z _, sp_0 z _, sp_0 z _, sp_0 z _⟩, fun h => ?_, fun p hp => ?_, fun p hp => ?_, fun p hp => ?_, fun p hp => ?_, fun p hp => ?_⟩
  · rw [sp_0 z] at h; exact absurd h (by omega)
  · rw [sp_0 z] at hp; exact absurd hp (by omega)
  · rw [sp_0 z] at hp; exact absurd hp (by omega)
  · rw [sp_0 z] at hp; exact absurd hp (by omega)
  · rw [sp_0 z] at hp; exact absurd hp (by omega)
  · rw [sp_0 z] at hp; exact absurd hp (by omega)
theorem yH_0 {h : Nat} {σ : sn_S} {w : Nat → Int32} (z : ∀ k, w k = 0) (c : ∀ k, σ.1 (h + 1) k = 0) : yH h σ w := by
  refine ⟨fun k _ => by rw [c k, z k], fun p hp => ?_, fun p hp => ?_, fun p hp => ?_, fun p hp => ?_, fun p hp => ?_⟩
  · rw [sp_0 z] at hp; exact absurd hp (by omega)
  · rw [sp_0 z] at hp; exact absurd hp (by omega)
  · rw [sp_0 z] at hp; exact absurd hp (by omega)
  · rw [sp_0 z] at hp; exact absurd hp (by omega)
  · rw [sp_0 z] at hp; exact absurd hp (by omega)
theorem yD_0 {σ : sn_S} {w : Nat → Int32} (z : ∀ k, w k = 0) (c0 : σ.1 27 0 = 0) (c1 : σ.1 27 1 = 0) (c2 : σ.1 27 2 = 0) (c3 : σ.1 27 3 = -1) (c4 : ∀ m, σ.1 28 m = 0) : yD σ w := by
  have P : dy_P (hs_day w) = 0 := sp_0 z 5
  have N : dy_nN (hs_day w) = 0 := sp_0 z 7
  refine ⟨by rw [sp_0 z, c0, nI_0], ⟨by rw [P, c1, nI_0], by rw [N, c2, nI_0], c3, fun m _ => ?_, fun p hp => ?_, fun k hk => ?_⟩, fun m hm => ?_, fun p hp => ?_⟩
  · show σ.1 28 m = hs_dust w m (sp_n w 6)
    rw [sp_0 z, c4 m]
    exact (z 1).symm
  · rw [P] at hp; exact absurd hp (by omega)
  · rw [N] at hk; exact absurd hk (by omega)
  · rw [sp_0 z] at hm; exact absurd hm (by omega)
  · rw [P] at hp; exact absurd hp (by omega)
/-! which rows a day writes -/
section
variable {σ : sn_S} {q : Nat}
def yf (q : Nat) (σ z : sn_S) : Prop := ∀ a, a < q ∨ q + 10 < a → z.1 a = σ.1 a
theorem yf_w {z : sn_S} {i k : Nat} {v : Int32} (hi : i ≤ 10) (h : yf q σ z) : yf q σ (sn_pI z (q + i) k v) := fun a ha => (pI_ne (by omega)).trans (h a ha)
theorem yf_0 {z : sn_S} {k : Nat} {v : Int32} (h : yf q σ z) : yf q σ (sn_pI z q k v) := fun a ha => (pI_ne (by omega)).trans (h a ha)
theorem yf_nets {x : Int32} : yp (fX0_tickleByNets σ q x) (fun z => yf q σ z) := by
  unfold fX0_tickleByNets
  refine yp_lt (yp_bd (fun z => yf q σ z) (yp_it (fun s : sn_S × Int32 => yf q σ s.1) (fun s hs => ?_) _ _ (fun _ _ => rfl)) (fun z hz => ?_))
  · unfold LX0_tickleByNets_7 BX0_tickleByNets_7
    exact yp_ite (fun _ => yp_some hs) (fun _ => yp_gd (fun _ => yp_lt (yp_lt (yp_some (yf_w (by decide) hs)))))
  · have k46 : ∀ t, yp (BX0_tickleByNets_46 z q ((6 : Int32) * x) t) (fun z => yf q σ z) := fun t => by
      unfold BX0_tickleByNets_46
      refine yp_ite (fun _ => yp_some hz) (fun _ => yp_bd (fun z => yf q σ z) (yp_it (fun s : sn_S × Int32 => yf q σ s.1) (fun s hs => ?_) _ _ hz) (fun u hu => ?_))
      · have k149 : ∀ (u : sn_S) (a b c : Int32), yf q σ u → yp (BX0_tickleByNets_149 u q a b c) (yp_sum (fun s : sn_S × Int32 => yf q σ s.1) (fun z => yf q σ z)) := fun u a b c hu => by
          unfold BX0_tickleByNets_149
          exact yp_lt (yp_some hu)
        have k147 : ∀ (u : sn_S) (a b c d e f : Int32), yf q σ u → yp (BX0_tickleByNets_147 u q a b c d e f) (yp_sum (fun s : sn_S × Int32 => yf q σ s.1) (fun z => yf q σ z)) := fun u a b c d e f hu => by
          unfold BX0_tickleByNets_147
          exact yp_gd (fun _ => yp_lt (k149 _ _ _ _ (yf_w (by decide) hu)))
        have k121 : ∀ (u : sn_S) (a b c d e f g h : Int32), yf q σ u → yp (BX0_tickleByNets_121 u q a b c d e f g h) (yp_sum (fun s : sn_S × Int32 => yf q σ s.1) (fun z => yf q σ z)) := fun u a b c d e f g h hu => by
          unfold BX0_tickleByNets_121
          exact yp_gd (fun _ => yp_lt (yp_gd (fun _ => yp_bd (fun _ => True) (fun _ _ => trivial) (fun t _ => yp_ite (fun _ => k147 _ _ _ _ _ _ _ (yf_w (by decide) hu)) (fun _ => k147 _ _ _ _ _ _ _ (yf_w (by decide) hu))))))
        unfold LX0_tickleByNets_55 BX0_tickleByNets_55
        exact yp_ite (fun _ => yp_some hs) (fun _ => yp_ite (fun _ => k149 _ _ _ _ hs) (fun _ => yp_gd (fun _ => yp_lt (yp_gd (fun _ => yp_lt (yp_gd (fun _ => yp_bd (fun _ => True) (fun _ _ => trivial) (fun t _ => yp_ite (fun _ => k121 _ _ _ _ _ _ _ _ _ hs) (fun _ => k121 _ _ _ _ _ _ _ _ _ hs)))))))))
      · unfold BX0_tickleByNets_155
        exact yp_some hu
    unfold BX0_tickleByNets_30
    exact yp_ite (fun _ => k46 _) (fun _ => yp_gd (fun _ => k46 _))
theorem yf_min {x : Int32} : yp (fX0_liveMinute σ q x) (fun z => yf q σ z) := by
  unfold fX0_liveMinute
  refine yp_lt (yp_bd (fun s : sn_S × Int32 => yf q σ s.1) (yp_it (fun s : sn_S × Int32 × Int32 => yf q σ s.1) (fun s hs => ?_) _ _ (fun _ _ => rfl)) (fun z hz => ?_))
  · have k98 : ∀ (u : sn_S) (a b c d e : Int32), yf q σ u → yp (BX0_liveMinute_98 u q a b c d e) (yp_sum (fun s : sn_S × Int32 × Int32 => yf q σ s.1) (fun s : sn_S × Int32 => yf q σ s.1)) := fun u a b c d e hu => by
      unfold BX0_liveMinute_98
      exact yp_gd (fun _ => yp_lt (yp_lt (yp_some (yf_w (by decide) hu))))
    have k46 : ∀ (a b c d e f : Int32), yp (BX0_liveMinute_46 s.1 q a b c d e f) (yp_sum (fun s : sn_S × Int32 × Int32 => yf q σ s.1) (fun s : sn_S × Int32 => yf q σ s.1)) := fun a b c d e f => by
      unfold BX0_liveMinute_46
      exact yp_lt (yp_gd (fun _ => yp_ite (fun _ => k98 _ _ _ _ _ _ hs) (fun _ => yp_gd (fun _ => yp_bd (fun _ => True) (fun _ _ => trivial) (fun t _ => yp_ite (fun _ => yp_lt (yp_gd (fun _ => yp_gd (fun _ => yp_lt (k98 _ _ _ _ _ _ (yf_w (by decide) hs)))))) (fun _ => k98 _ _ _ _ _ _ hs))))))
    unfold LX0_liveMinute_10 BX0_liveMinute_10
    exact yp_ite (fun _ => yp_some hs) (fun _ => yp_bd (fun _ => True) (fun _ _ => trivial) (fun t _ => yp_ite (fun _ => k46 _ _ _ _ _ _) (fun _ => yp_gd (fun _ => k46 _ _ _ _ _ _))))
  · unfold BX0_liveMinute_115
    exact yp_gd (fun _ => yp_lt (yp_some (yf_w (by decide) hz)))
theorem yf_live {x y : Int32} : yp (fX0_live σ q x y) (fun z => yf q σ z) := by
  unfold fX0_live
  refine yp_bd (fun z => yf q σ z) (yp_it (fun s : sn_S × Int32 => yf q σ s.1) (fun s hs => ?_) _ _ (fun _ _ => rfl)) (fun z hz => ?_)
  · unfold LX0_live_2 BX0_live_2
    exact yp_ite (fun _ => yp_some hs) (fun _ => yp_gd (fun _ => yp_bd (fun _ => True) (fun _ _ => trivial) (fun t _ => yp_gd (fun _ => yp_lt (yp_lt (yp_some (yf_w (by decide) hs)))))))
  · unfold BX0_live_29
    refine yp_bd (fun z => yf q σ z) (yp_it (fun s : sn_S × Int32 => yf q σ s.1) (fun s hs => ?_) _ _ hz) (fun u hu => ?_)
    · unfold LX0_live_31 BX0_live_31
      refine yp_ite (fun _ => yp_some hs) (fun _ => yp_ite (fun _ => yp_some hs) (fun _ => yp_bd _ yf_nets (fun v hv => yp_bd _ yf_min (fun w hw => yp_lt (yp_some ?_)))))
      exact fun a ha => (hw a ha).trans ((hv a ha).trans (hs a ha))
    · unfold BX0_live_60
      exact yp_some hu
theorem yf_whole : yp (fX0_liveWhole σ q) (fun z => yf q σ z) := by
  unfold fX0_liveWhole
  exact yp_bd _ yf_live (fun z hz => yp_some hz)
theorem yf_tell : yp (fX0_tellFrom σ q 1) (fun z => yf q σ z) := by
  unfold fX0_tellFrom
  refine yp_gd (fun _ => yp_lt (yp_gd (fun _ => yp_lt (yp_gd (fun _ => yp_lt (yp_lt (yp_gd (fun _ => yp_lt ?_))))))))
  refine yp_bd (fun z => yf q σ z) (yp_it (fun s : sn_S × Int32 => yf q σ s.1) (fun s hs => ?_) _ _ (fun a ha => ?_)) (fun z hz => ?_)
  · unfold LX0_tellFrom_56 BX0_tellFrom_56
    exact yp_ite (fun _ => yp_some hs) (fun _ => yp_gd (fun _ => yp_gd (fun _ => yp_lt (yp_gd (fun _ => yp_gd (fun _ => yp_lt (yp_bd (fun _ => True) (fun _ _ => trivial) (fun t _ => yp_gd (fun _ => yp_lt (yp_bd (fun _ => True) (fun _ _ => trivial) (fun t2 _ => yp_gd (fun _ => yp_lt (yp_lt (yp_some (yf_w (by decide) (yf_w (by decide) (yf_w (by decide) (yf_w (by decide) hs))))))))))))))))))
  · exact ((yc_cpy (L := 16) (by decide)).1 a (by omega)).trans (yf_0 (yf_0 (yf_0 (yf_0 (fun _ _ => rfl)))) a ha)
  · unfold BX0_tellFrom_124
    refine yp_gd (fun _ => yp_bd _ (yc_fill _ _ _ _ (by decide)) (fun u hu => ?_))
    refine yp_bd (fun z => yf q σ z) (yp_it (fun s : sn_S × Int32 => yf q σ s.1) (fun s hs => ?_) _ _ (fun a ha => (hu.1 a (by omega)).trans (hz a ha))) (fun v hv => ?_)
    · unfold LX0_tellFrom_139 BX0_tellFrom_139
      exact yp_gd (fun _ => yp_ite (fun _ => yp_some hs) (fun _ => yp_gd (fun _ => yp_gd (fun _ => yp_gd (fun _ => yp_gd (fun _ => yp_lt (yp_lt (yp_some (yf_w (by decide) hs)))))))))
    · unfold BX0_tellFrom_182
      exact yp_some hv
theorem yf_anew : yp (fX8_liveAnew σ) (fun z => yf 27 σ z) := by
  unfold fX8_liveAnew
  exact yp_bd _ yf_tell (fun z hz => yp_bd _ yf_whole (fun u hu => yp_some (fun a ha => (hu a ha).trans (hz a ha))))
end
/-! calls that leave houses and day as they are -/
section
variable {σ τ : sn_S}
theorem yk_feed {a b c d e : Int32} : yp (fX8_feed σ a b c d e) (fun r => ∀ q, q ≠ 17 → q ≠ 18 → r.2.1 q = σ.1 q) := by
  have put : ∀ (u : sn_S) (x : Int32), yp (fX5_put u x) (fun z => ∀ q, q ≠ 17 → q ≠ 18 → z.1 q = u.1 q) := fun u x => by
    unfold fX5_put
    refine yp_bd (fun z : sn_S => ∀ q, q ≠ 17 → q ≠ 18 → z.1 q = u.1 q) (yp_it (fun s : sn_S × Int32 => ∀ q, q ≠ 17 → q ≠ 18 → s.1.1 q = u.1 q) (fun s hs => ?_) _ _ (fun _ _ _ => rfl)) (fun z hz => ?_)
    · unfold LX5_put_3 BX5_put_3
      exact yp_ite (fun _ => yp_some hs) (fun _ => yp_ite (fun _ => yp_some hs) (fun _ => yp_gd (fun _ => yp_lt (yp_lt (yp_lt (yp_some (fun q h1 h2 => (pI_ne h1).trans ((pI_ne h2).trans (hs q h1 h2)))))))))
    · unfold BX5_put_49
      exact yp_some hz
  unfold fX8_feed
  refine yp_ite (fun _ => ?_) (fun _ => yp_some (fun _ _ _ => rfl))
  refine yp_bd _ (put _ _) (fun z1 h1 => yp_bd _ (put _ _) (fun z2 h2 => yp_bd _ (put _ _) (fun z3 h3 => yp_bd _ (put _ _) (fun z4 h4 => yp_bd _ (put _ _) (fun z5 h5 => yp_some (fun q a b => ?_))))))
  rw [show z5.1 q = z4.1 q from h5 q a b, h4 q a b, h3 q a b, h2 q a b, h1 q a b]
theorem yk_mfeed {a b c d e : Int32} : yp (fX9_feed τ a b c d e) (fun r => ∀ q, q ≠ 0 → q ≠ 4 → q ≠ 5 → r.2.1 q = τ.1 q) := by
  unfold fX9_feed
  refine yp_ite (fun _ => ?_) (fun _ => yp_some (fun _ _ _ _ => rfl))
  refine yp_gd (fun _ => yp_lt (yp_gd (fun _ => yp_lt (yp_gd (fun _ => yp_lt (yp_gd (fun _ => yp_lt (yp_gd (fun _ => yp_lt ?_)))))))))
  refine yp_bd (fun z : sn_S => ∀ q, q ≠ 0 → q ≠ 4 → q ≠ 5 → z.1 q = τ.1 q) (yp_it (fun s : sn_S × Int32 => ∀ q, q ≠ 0 → q ≠ 4 → q ≠ 5 → s.1.1 q = τ.1 q) (fun s hs => ?_) _ _ (fun q h0 h4 h5 => ?_)) (fun z hz => ?_)
  · unfold LX9_feed_55 BX9_feed_55
    exact yp_ite (fun _ => yp_some hs) (fun _ => yp_gd (fun _ => yp_gd (fun _ => yp_lt (yp_lt (yp_some (fun q h0 h4 h5 => (pI_ne h4).trans (hs q h0 h4 h5)))))))
  · exact (pI_ne h5).trans ((pI_ne h5).trans ((pI_ne h5).trans ((pI_ne h5).trans (pI_ne h5))))
  · unfold BX9_feed_101
    exact yp_lt (yp_some (fun q h0 h4 h5 => (pI_ne h0).trans (hz q h0 h4 h5)))
theorem yk_end {a : Int32} : yp (fX8_end σ a) (fun r => ∀ q, q ≠ 17 → r.2.1 q = σ.1 q) := by
  unfold fX8_end
  exact yp_ite (fun _ => yp_some (fun _ _ => rfl)) (fun _ => yp_ite (fun _ => yp_lt (yp_some (fun q h => pI_ne h))) (fun _ => yp_some (fun _ _ => rfl)))
theorem yk_mend {a : Int32} : yp (fX9_end τ a) (fun r => ∀ q, q ≠ 0 → r.2.1 q = τ.1 q) := by
  unfold fX9_end
  exact yp_bd (fun _ => True) (fun _ _ => trivial) (fun t _ => yp_ite (fun _ => yp_some (fun _ _ => rfl)) (fun _ => yp_lt (yp_some (fun q h => pI_ne h))))
theorem yk_row {a b c : Int32} : yp (fX8_row σ a b c) (fun r => ∀ q, q ≠ 25 → q ≠ 26 → r.2.1 q = σ.1 q) := by
  unfold fX8_row fX6_make
  refine yp_bd (fun _ => True) (fun _ _ => trivial) (fun t _ => yp_ite (fun _ => yp_some (fun _ _ _ => rfl)) (fun _ => yp_ite (fun _ => yp_some (fun _ _ _ => rfl)) (fun _ => yp_ite (fun _ => yp_some (fun _ _ _ => rfl)) (fun _ => yp_ite (fun _ => yp_ite (fun _ => ?_) (fun _ => yp_some (fun _ _ _ => rfl))) (fun _ => yp_some (fun _ _ _ => rfl))))))
  refine yp_bd (fun z : sn_S => ∀ q, q ≠ 25 → q ≠ 26 → z.1 q = σ.1 q) (yp_gd (fun _ => yp_lt (yp_gd (fun _ => yp_lt (yp_gd (fun _ => ?_)))))) (fun z hz => yp_some hz)
  rw [fillL _ _ _ _ (by decide)]
  exact yp_bs rfl (yp_some (fun q h1 h2 => (pI_ne h2).trans (pI_ne h1)))
theorem yk_mrow {a b c : Int32} : yp (fX9_row τ a b c) (fun r => ∀ q, q ≠ 21 → q ≠ 22 → r.2.1 q = τ.1 q) := by
  unfold fX9_row
  refine yp_bd (fun _ => True) (fun _ _ => trivial) (fun t _ => yp_ite (fun _ => yp_some (fun _ _ _ => rfl)) (fun _ => yp_bd (fun _ => True) (fun _ _ => trivial) (fun t2 _ => yp_ite (fun _ => yp_some (fun _ _ _ => rfl)) (fun _ => yp_ite (fun _ => yp_ite (fun _ => ?_) (fun _ => yp_some (fun _ _ _ => rfl))) (fun _ => yp_some (fun _ _ _ => rfl))))))
  refine yp_gd (fun _ => yp_lt (yp_gd (fun _ => yp_lt ?_)))
  refine yp_bd (fun z : sn_S => ∀ q, q ≠ 21 → q ≠ 22 → z.1 q = τ.1 q) (yp_it (fun s : sn_S × Int32 => ∀ q, q ≠ 21 → q ≠ 22 → s.1.1 q = τ.1 q) (fun s hs => ?_) _ _ (fun q h1 h2 => (pI_ne h2).trans (pI_ne h1))) (fun z hz => ?_)
  · unfold LX9_row_52 BX9_row_52
    exact yp_ite (fun _ => yp_some hs) (fun _ => yp_gd (fun _ => yp_lt (yp_lt (yp_some hs))))
  · unfold BX9_row_78
    exact yp_some hz
theorem yk_write {a b : Int32} {c : Int64} : yp (fX8_write σ a b c) (fun r => r.2.1 = σ.1) := by
  unfold fX8_write fX6_put
  refine yp_bd (fun _ => True) (fun _ _ => trivial) (fun t _ => yp_ite (fun _ => yp_some rfl) (fun _ => yp_bd (fun _ => True) (fun _ _ => trivial) (fun t2 _ => yp_ite (fun _ => yp_some rfl) (fun _ => yp_ite (fun _ => yp_some rfl) (fun _ => yp_gd (fun _ => yp_ite (fun _ => ?_) (fun _ => yp_some rfl)))))))
  refine yp_bd (fun z : sn_S => z.1 = σ.1) (yp_gd (fun _ => yp_ite (fun _ => yp_gd (fun _ => yp_gd (fun _ => yp_lt (yp_some rfl)))) (fun _ => yp_ite (fun _ => yp_gd (fun _ => yp_gd (fun _ => yp_lt (yp_some rfl)))) (fun _ => yp_ite (fun _ => yp_gd (fun _ => yp_gd (fun _ => yp_lt (yp_some rfl)))) (fun _ => yp_gd (fun _ => yp_gd (fun _ => yp_lt (yp_some rfl)))))))) (fun z hz => yp_some hz)
theorem yk_mwrite {a b : Int32} {c : Int64} : yp (fX9_write τ a b c) (fun r => r.2.1 = τ.1) := by
  unfold fX9_write
  exact yp_bd (fun _ => True) (fun _ _ => trivial) (fun t _ => yp_ite (fun _ => yp_some rfl) (fun _ => yp_gd (fun _ => yp_ite (fun _ => yp_some rfl) (fun _ => yp_gd (fun _ => yp_bd (fun _ => True) (fun _ _ => trivial) (fun t2 _ => yp_ite (fun _ => yp_some rfl) (fun _ => yp_gd (fun _ => yp_bd (fun _ => True) (fun _ _ => trivial) (fun t3 _ => yp_gd (fun _ => yp_lt (yp_some rfl)))))))))))
theorem yk_paste {a b c d e : Int32} : yp (fX8_paste σ a b c d e) (fun r => r.2.1 = σ.1) := by
  unfold fX8_paste
  refine yp_bd (fun _ => True) (fun _ _ => trivial) (fun t _ => yp_ite (fun _ => yp_some rfl) (fun _ => yp_bd (fun _ => True) (fun _ _ => trivial) (fun t _ => yp_ite (fun _ => yp_some rfl) (fun _ => yp_bd (fun _ => True) (fun _ _ => trivial) (fun t _ => yp_ite (fun _ => yp_some rfl) (fun _ => yp_bd (fun _ => True) (fun _ _ => trivial) (fun t _ => yp_ite (fun _ => yp_some rfl) (fun _ => ?_))))))))
  refine yp_gd (fun _ => yp_gd (fun _ => yp_ite (fun _ => yp_bd (fun _ => True) (fun _ _ => trivial) (fun t _ => yp_ite (fun _ => yp_some rfl) (fun _ => yp_bd (fun _ => True) (fun _ _ => trivial) (fun t _ => yp_ite (fun _ => yp_some rfl) (fun _ => ?_))))) (fun _ => yp_some rfl)))
  exact yp_gd (fun _ => yp_gd (fun _ => yp_gd (fun _ => yp_lt (yp_some rfl))))
theorem yk_mpaste {a b c d e : Int32} : yp (fX9_paste τ a b c d e) (fun r => r.2.1 = τ.1) := by
  unfold fX9_paste
  refine yp_bd (fun _ => True) (fun _ _ => trivial) (fun t _ => yp_ite (fun _ => yp_some rfl) (fun _ => yp_bd (fun _ => True) (fun _ _ => trivial) (fun t _ => yp_ite (fun _ => yp_some rfl) (fun _ => yp_gd (fun _ => yp_ite (fun _ => yp_some rfl) (fun _ => yp_gd (fun _ => yp_ite (fun _ => yp_some rfl) (fun _ => ?_))))))))
  refine yp_gd (fun _ => yp_gd (fun _ => yp_ite (fun _ => yp_ite (fun _ => yp_some rfl) (fun _ => yp_ite (fun _ => yp_some rfl) (fun _ => yp_ite (fun _ => yp_some rfl) (fun _ => yp_gd (fun _ => yp_ite (fun _ => yp_some rfl) (fun _ => yp_gd (fun _ => yp_ite (fun _ => ?_) (fun _ => yp_some rfl)))))))) (fun _ => yp_some rfl)))
  refine yp_bd (fun z : sn_S => z.1 = τ.1) (yp_it (fun s : sn_S × Int32 => s.1.1 = τ.1) (fun s hs => ?_) _ _ rfl) (fun z hz => ?_)
  · unfold LX9_paste_113 BX9_paste_113
    exact yp_ite (fun _ => yp_some hs) (fun _ => yp_gd (fun _ => yp_gd (fun _ => yp_lt (yp_lt (yp_some hs)))))
  · unfold BX9_paste_147
    refine yp_bd (fun z : sn_S => z.1 = τ.1) (yp_it (fun s : sn_S × Int32 => s.1.1 = τ.1) (fun s hs => ?_) _ _ hz) (fun u hu => ?_)
    · unfold LX9_paste_150 BX9_paste_150
      exact yp_ite (fun _ => yp_some hs) (fun _ => yp_gd (fun _ => yp_gd (fun _ => yp_lt (yp_lt (yp_some hs)))))
    · unfold BX9_paste_185
      exact yp_some hu
end
theorem zK_0 : ∀ (σ τ : sn_S) (a b c d e : Int32), zK σ τ → ∃ r σ1 τ1, fX8_feed σ a b c d e = some (r, σ1) ∧ fX9_feed τ a b c d e = some (r, τ1) ∧ zK σ1 τ1 := by
  intro σ τ a b c d e h
  obtain ⟨r, σ1, τ1, e1, e2, hJ⟩ := zJ_0 σ τ a b c d e h.1
  have f := yk_feed _ e1
  have g := yk_mfeed _ e2
  exact ⟨r, σ1, τ1, e1, e2, zK_c hJ (fun q hq => f q (by omega) (by omega)) (g 1 (by decide) (by decide) (by decide)) (g 2 (by decide) (by decide) (by decide)) h⟩
theorem zK_1 : ∀ (σ τ : sn_S) (a : Int32), zK σ τ → ∃ r σ1 τ1, fX8_end σ a = some (r, σ1) ∧ fX9_end τ a = some (r, τ1) ∧ zK σ1 τ1 := by
  intro σ τ a h
  obtain ⟨r, σ1, τ1, e1, e2, hJ⟩ := zJ_1 σ τ a h.1
  have f := yk_end _ e1
  have g := yk_mend _ e2
  exact ⟨r, σ1, τ1, e1, e2, zK_c hJ (fun q hq => f q (by omega)) (g 1 (by decide)) (g 2 (by decide)) h⟩
theorem zK_69 : ∀ (σ τ : sn_S) (a b c : Int32), zK σ τ → ∃ r σ1 τ1, fX8_row σ a b c = some (r, σ1) ∧ fX9_row τ a b c = some (r, τ1) ∧ zK σ1 τ1 := by
  intro σ τ a b c h
  obtain ⟨r, σ1, τ1, e1, e2, hJ⟩ := zJ_69 σ τ a b c h.1
  have f := yk_row _ e1
  have g := yk_mrow _ e2
  exact ⟨r, σ1, τ1, e1, e2, zK_c hJ (fun q hq => f q (by omega) (by omega)) (g 1 (by decide) (by decide)) (g 2 (by decide) (by decide)) h⟩
theorem zK_70 : ∀ (σ τ : sn_S) (a b : Int32) (c : Int64), zK σ τ → ∃ r σ1 τ1, fX8_write σ a b c = some (r, σ1) ∧ fX9_write τ a b c = some (r, τ1) ∧ zK σ1 τ1 := by
  intro σ τ a b c h
  obtain ⟨r, σ1, τ1, e1, e2, hJ⟩ := zJ_70 σ τ a b c h.1
  have f : σ1.1 = σ.1 := yk_write _ e1
  have g : τ1.1 = τ.1 := yk_mwrite _ e2
  exact ⟨r, σ1, τ1, e1, e2, zK_c hJ (fun q hq => by rw [f]) (by rw [g]) (by rw [g]) h⟩
theorem zK_71 : ∀ (σ τ : sn_S) (a b c d e : Int32), zK σ τ → ∃ r σ1 τ1, fX8_paste σ a b c d e = some (r, σ1) ∧ fX9_paste τ a b c d e = some (r, τ1) ∧ zK σ1 τ1 := by
  intro σ τ a b c d e h
  obtain ⟨r, σ1, τ1, e1, e2, hJ⟩ := zJ_71 σ τ a b c d e h.1
  have f : σ1.1 = σ.1 := yk_paste _ e1
  have g : τ1.1 = τ.1 := yk_mpaste _ e2
  exact ⟨r, σ1, τ1, e1, e2, zK_c hJ (fun q hq => by rw [f]) (by rw [g]) (by rw [g]) h⟩
end
section
/-! the calls that change a house or its day -/
theorem jW_c {w w' : Nat → Int32} (e : ∀ k, k < 119 → w' k = w k) (h : jW w) : jW w' := by
  obtain ⟨⟨b0, b1, b2, b3, b4, b5, b6, b7, b8, b9, b10⟩, hz, hm, hn, hg, ht, hp, ha⟩ := h
  have y : ∀ k b, k < 119 → yh_n w k b → yh_n w' k b := fun k b hk g => yh_mv (e k hk) g
  have s : ∀ k, k < 119 → sp_n w' k = sp_n w k := fun k hk => sp_mv (e k hk)
  have l5 := b5.2
  have l6 := b6.2
  have l7 := b7.2
  have l8 := b8.2
  have l9 := b9.2
  refine ⟨⟨y 0 _ (by decide) b0, y 1 _ (by decide) b1, y 2 _ (by decide) b2, y 3 _ (by decide) b3, y 4 _ (by decide) b4, y 5 _ (by decide) b5, y 6 _ (by decide) b6, y 7 _ (by decide) b7, y 8 _ (by decide) b8, y 9 _ (by decide) b9, y 10 _ (by decide) b10⟩, ?_, ?_, fun p hp2 => ?_, fun p hp2 => ?_, fun k hk => ?_, fun k hk => ?_, fun i hi => ?_⟩
  · rw [s 10 (by decide), s 0 (by decide), s 5 (by decide), s 7 (by decide), s 8 (by decide)]
    exact hz
  · rw [s 10 (by decide), s 0 (by decide)]
    exact hm
  · rw [s 5 (by decide)] at hp2
    have g := hn p hp2
    exact ⟨y _ _ (by omega) g.1, y _ _ (by omega) g.2.1, by rw [s _ (by omega)]; exact g.2.2⟩
  · rw [s 6 (by decide)] at hp2
    have g := hg p hp2
    exact ⟨y _ _ (by omega) g.1, y _ _ (by omega) g.2⟩
  · rw [s 7 (by decide)] at hk
    have g := ht k hk
    rw [s 5 (by decide), s (33 + 2 * k) (by omega), s (34 + 2 * k) (by omega), e (33 + 2 * k) (by omega), e (34 + 2 * k) (by omega)]
    exact g
  · rw [s 8 (by decide)] at hk
    obtain ⟨⟨g1, g2⟩, g3, g4, g5, g6, g7, g8⟩ := hp k hk
    exact ⟨⟨by rw [s _ (by omega), e _ (by omega)]; exact g1, by rw [s _ (by omega), s 5 (by decide)]; exact g2⟩, y _ _ (by omega) g3, y _ _ (by omega) g4, by rw [s _ (by omega), s _ (by omega)]; exact g5, y _ _ (by omega) g6, by rw [s _ (by omega)]; exact g7, y _ _ (by omega) g8⟩
  · rw [s 9 (by decide)] at hi
    have g := ha i hi
    rw [s (79 + i) (by omega), e (79 + i) (by omega), s 5 (by decide), s 0 (by decide)]
    exact g
theorem yH_w {h : Nat} {σ : sn_S} {w w' : Nat → Int32} (hW : jW w) (e : ∀ k, k < 119 → w' k = w k) (hH : yH h σ w) : yH h σ w' := by
  have s : ∀ k, k < 119 → sp_n w' k = sp_n w k := fun k hk => sp_mv (e k hk)
  have l5 := hW.1.2.2.2.2.2.1.2
  have l6 := hW.1.2.2.2.2.2.2.1.2
  have l7 := hW.1.2.2.2.2.2.2.2.1.2
  have l8 := hW.1.2.2.2.2.2.2.2.2.1.2
  have l9 := hW.1.2.2.2.2.2.2.2.2.2.1.2
  obtain ⟨h1, h2, h3, h4, h5, h6⟩ := hH
  unfold yH
  rw [s 5 (by decide), s 6 (by decide), s 7 (by decide), s 8 (by decide), s 9 (by decide)]
  exact ⟨fun k hk => (h1 k hk).trans (e k (by omega)).symm, fun i hi => (h2 i hi).trans (e _ (by omega)).symm, fun i hi => (h3 i hi).trans (e _ (by omega)).symm, fun i hi => (h4 i hi).trans (e _ (by omega)).symm, fun i hi => (h5 i hi).trans (e _ (by omega)).symm, fun i hi => by rw [s (79 + i) (by omega)]; exact h6 i hi⟩
def yCp (a b : Nat) (σ z : sn_S) : Prop := (∀ k, k < 11 → z.1 (a + 1) k = σ.1 (b + 1) k) ∧ (∀ k, k < 12 → z.1 (a + 2) k = σ.1 (b + 2) k) ∧ (∀ k, k < 10 → z.1 (a + 3) k = σ.1 (b + 3) k) ∧ (∀ k, k < 16 → z.1 (a + 4) k = σ.1 (b + 4) k) ∧ (∀ k, k < 30 → z.1 (a + 5) k = σ.1 (b + 5) k) ∧ ∀ k, k < 120 → z.1 (a + 6) k = σ.1 (b + 6) k
theorem yk_i {j k : Nat} (hj : j < 3) (hk : k < 3) (e : nI j = nI k) : j = k := (nI_eq (by omega) (by omega)).mp e
theorem yk_3 {a : Int32} (h0 : ¬ a < 0) (h3 : a < 3) : ∃ j, j < 3 ∧ a = nI j := nI_idx (n := 3) (by decide) (Int32.not_lt.mp h0) h3
section
variable {σ τ : sn_S} {a b : Int32}
theorem yk_image : yp (fX8_image σ a) (fun r => (r.1 ≠ 0 ∧ r.2 = σ) ∨ ∃ j, j < 3 ∧ a = nI j ∧ r.1 = 0 ∧ (∀ q, (q ≤ 73 + 7 * j ∨ 73 + 7 * j + 6 < q) → q ≠ 16 → r.2.1 q = σ.1 q) ∧ yCp (73 + 7 * j) 1 σ r.2) := by
  unfold fX8_image
  refine yp_ite (fun _ => yp_some (Or.inl ⟨by first | (show (-2 : Int32) ≠ 0; decide) | (show (-6 : Int32) ≠ 0; decide) | (show (1 : Int32) ≠ 0; decide), rfl⟩)) (fun c0 => yp_ite (fun c3 => ?_) (fun _ => yp_some (Or.inl ⟨by first | (show (-2 : Int32) ≠ 0; decide) | (show (-6 : Int32) ≠ 0; decide) | (show (1 : Int32) ≠ 0; decide), rfl⟩)))
  obtain ⟨j, hj, ej⟩ := yk_3 c0 c3
  subst ej
  rw [zJ_at hj]
  refine yp_gd (fun _ => yp_bd _ (yc_hcopy (by omega)) (fun z hz => yp_gd (fun _ => yp_lt (yp_some (Or.inr ⟨j, hj, rfl, rfl, fun q hq h16 => (pI_ne h16).trans (hz.1 q hq), ?_⟩)))))
  obtain ⟨z1, z2, p1, p2, p3, p4, p5, p6⟩ := hz
  have o : ∀ q, q ≠ 16 → (sn_pI z 16 (nI j).toNatClampNeg (vp_nar .boolean (1 : Int32))).1 q = z.1 q := fun q hq => pI_ne hq
  exact ⟨fun k hk => by rw [o _ (by omega)]; exact p1 k hk, fun k hk => by rw [o _ (by omega)]; exact p2 k hk, fun k hk => by rw [o _ (by omega)]; exact p3 k hk, fun k hk => by rw [o _ (by omega)]; exact p4 k hk, fun k hk => by rw [o _ (by omega)]; exact p5 k hk, fun k hk => by rw [o _ (by omega)]; exact p6 k hk⟩
theorem yk_in02 : fX9_in a.toInt64 (0 : Int64) (2 : Int64) = some (if (0 : Int32) ≤ a ∧ a ≤ (2 : Int32) then 1 else 0) := in_eq32 a 0 2
theorem yk_02 (h : (0 : Int32) ≤ a ∧ a ≤ 2) : ∃ j, j < 3 ∧ a = nI j := by
  obtain ⟨e1, e2⟩ := yv (b := 2) h.1 h.2 (by decide)
  exact ⟨a.toNatClampNeg, by omega, e1⟩
theorem yk_mimage : yp (fX9_image τ a) (fun r => (r.1 ≠ 0 ∧ r.2 = τ) ∨ ∃ j, j < 3 ∧ a = nI j ∧ r.1 = 0 ∧ r.2.1 1 = τ.1 1 ∧ (∀ k, k < 119 → r.2.1 2 (119 * j + k) = τ.1 1 k) ∧ ∀ k, (k < 119 * j ∨ 119 * j + 119 ≤ k) → r.2.1 2 k = τ.1 2 k) := by
  unfold fX9_image
  rw [yk_in02]
  refine yp_bs rfl (yp_ite (fun _ => yp_some (Or.inl ⟨by first | (show (-2 : Int32) ≠ 0; decide) | (show (-6 : Int32) ≠ 0; decide) | (show (1 : Int32) ≠ 0; decide), rfl⟩)) (fun c => ?_))
  have c2 : (0 : Int32) ≤ a ∧ a ≤ 2 := by
    by_cases g : (0 : Int32) ≤ a ∧ a ≤ 2
    · exact g
    · rw [if_neg g] at c
      exact absurd rfl c
  obtain ⟨j, hj, ej⟩ := yk_02 c2
  subst ej
  refine yp_bd (fun z : sn_S => z.1 1 = τ.1 1 ∧ (∀ k, k < 119 → z.1 2 (119 * j + k) = τ.1 1 k) ∧ ∀ k, (k < 119 * j ∨ 119 * j + 119 ≤ k) → z.1 2 k = τ.1 2 k) (yp_for 119 (fun i s => s.2 = nI i ∧ s.1.1 1 = τ.1 1 ∧ (∀ k, k < i → s.1.1 2 (119 * j + k) = τ.1 1 k) ∧ ∀ k, (k < 119 * j ∨ 119 * j + 119 ≤ k) → s.1.1 2 k = τ.1 2 k) (fun i s hi hs => ?_) (fun s hs => ?_) ⟨nI_0.symm, rfl, fun k hk => absurd hk (by omega), fun _ _ => rfl⟩) (fun z hz => ?_)
  · obtain ⟨z, x⟩ := s
    obtain ⟨ex, f1, f2, f3⟩ := hs
    have ex : x = nI i := ex
    subst ex
    have f1 : z.1 1 = τ.1 1 := f1
    have f2 : ∀ k, k < i → z.1 2 (119 * j + k) = τ.1 1 k := f2
    have f3 : ∀ k, (k < 119 * j ∨ 119 * j + 119 ≤ k) → z.1 2 k = τ.1 2 k := f3
    have e1 : sn_I z 1 i = τ.1 1 i := congrFun f1 i
    show yp (BX9_image_17 z (nI j) (nI i)) _
    unfold BX9_image_17
    rw [if_neg (show ¬ (119 : Int32) ≤ nI i from nI_ge (b := 119) hi (by decide)), show (119 : Int32) * nI j = nI (119 * j) from nI_mul 119 j, nI_add, nI_clamp (show i < 2 ^ 31 by omega), nI_clamp (show 119 * j + i < 2 ^ 31 by omega), e1]
    refine yp_gd (fun _ => yp_gd (fun _ => yp_lt (yp_lt (yp_some ⟨nI_1 i, (pI_ne (by decide)).trans f1, fun k hk => ?_, fun k hk => ?_⟩))))
    · show (sn_pI z 2 (119 * j + i) (τ.1 1 i)).1 2 (119 * j + k) = _
      by_cases c : k = i
      · subst c
        exact pI_self
      · rw [pI_slot (by omega)]
        exact f2 k (by omega)
    · show (sn_pI z 2 (119 * j + i) (τ.1 1 i)).1 2 k = _
      rw [pI_slot (by omega)]
      exact f3 k hk
  · obtain ⟨z, x⟩ := s
    obtain ⟨ex, f1, f2, f3⟩ := hs
    have ex : x = nI 119 := ex
    subst ex
    show yp (BX9_image_17 z (nI j) (nI 119)) _
    unfold BX9_image_17
    rw [if_pos (show (119 : Int32) ≤ nI 119 by decide)]
    exact yp_some ⟨f1, f2, f3⟩
  · unfold BX9_image_46
    refine yp_gd (fun _ => yp_lt (yp_some (Or.inr ⟨j, hj, rfl, rfl, (pI_ne (by decide)).trans hz.1, fun k hk => ?_, fun k hk => ?_⟩)))
    · show (sn_pI z 3 _ _).1 2 (119 * j + k) = _
      rw [pI_ne (by decide)]
      exact hz.2.1 k hk
    · show (sn_pI z 3 _ _).1 2 k = _
      rw [pI_ne (by decide)]
      exact hz.2.2 k hk
theorem yk_back : yp (fX8_back σ a) (fun r => (r.1 ≠ 0 ∧ r.2 = σ) ∨ ∃ j z, j < 3 ∧ a = nI j ∧ r.1 = 0 ∧ (∀ q, (q ≤ 1 ∨ 7 < q) → z.1 q = σ.1 q) ∧ yCp 1 (73 + 7 * j) σ z ∧ fX8_liveAnew z = some r.2) := by
  unfold fX8_back
  refine yp_ite (fun _ => yp_some (Or.inl ⟨by first | (show (-2 : Int32) ≠ 0; decide) | (show (-6 : Int32) ≠ 0; decide) | (show (1 : Int32) ≠ 0; decide), rfl⟩)) (fun c0 => yp_ite (fun c3 => ?_) (fun _ => yp_some (Or.inl ⟨by first | (show (-2 : Int32) ≠ 0; decide) | (show (-6 : Int32) ≠ 0; decide) | (show (1 : Int32) ≠ 0; decide), rfl⟩)))
  obtain ⟨j, hj, ej⟩ := yk_3 c0 c3
  subst ej
  rw [zJ_at hj]
  refine yp_gd (fun _ => yp_ite (fun _ => yp_some (Or.inl ⟨by first | (show (-2 : Int32) ≠ 0; decide) | (show (-6 : Int32) ≠ 0; decide) | (show (1 : Int32) ≠ 0; decide), rfl⟩)) (fun _ => yp_gd (fun _ => yp_bd _ (yc_hcopy (by omega)) (fun z hz => ?_))))
  refine yp_bd (fun u => fX8_liveAnew z = some u) (fun u hu => hu) (fun u hu => yp_some (Or.inr ⟨j, z, hj, rfl, rfl, fun q hq => hz.1 q (by omega), ?_, hu⟩))
  exact hz.2.2
theorem yk_mback : yp (fX9_back τ a) (fun r => (r.1 ≠ 0 ∧ r.2 = τ) ∨ ∃ j, j < 3 ∧ a = nI j ∧ r.1 = 0 ∧ r.2.1 2 = τ.1 2 ∧ ∀ k, k < 119 → r.2.1 1 k = τ.1 2 (119 * j + k)) := by
  unfold fX9_back
  rw [yk_in02]
  refine yp_bs rfl (yp_ite (fun _ => yp_some (Or.inl ⟨by first | (show (-2 : Int32) ≠ 0; decide) | (show (-6 : Int32) ≠ 0; decide) | (show (1 : Int32) ≠ 0; decide), rfl⟩)) (fun c => ?_))
  have c2 : (0 : Int32) ≤ a ∧ a ≤ 2 := by
    by_cases g : (0 : Int32) ≤ a ∧ a ≤ 2
    · exact g
    · rw [if_neg g] at c
      exact absurd rfl c
  obtain ⟨j, hj, ej⟩ := yk_02 c2
  subst ej
  refine yp_gd (fun _ => yp_ite (fun _ => yp_some (Or.inl ⟨by first | (show (-2 : Int32) ≠ 0; decide) | (show (-6 : Int32) ≠ 0; decide) | (show (1 : Int32) ≠ 0; decide), rfl⟩)) (fun _ => ?_))
  refine yp_bd (fun z : sn_S => z.1 2 = τ.1 2 ∧ ∀ k, k < 119 → z.1 1 k = τ.1 2 (119 * j + k)) (yp_for 119 (fun i s => s.2 = nI i ∧ s.1.1 2 = τ.1 2 ∧ ∀ k, k < i → s.1.1 1 k = τ.1 2 (119 * j + k)) (fun i s hi hs => ?_) (fun s hs => ?_) ⟨nI_0.symm, rfl, fun k hk => absurd hk (by omega)⟩) (fun z hz => ?_)
  · obtain ⟨z, x⟩ := s
    obtain ⟨ex, f1, f2⟩ := hs
    have ex : x = nI i := ex
    subst ex
    have f1 : z.1 2 = τ.1 2 := f1
    have f2 : ∀ k, k < i → z.1 1 k = τ.1 2 (119 * j + k) := f2
    have e1 : sn_I z 2 (119 * j + i) = τ.1 2 (119 * j + i) := congrFun f1 _
    show yp (BX9_back_29 z (nI j) (nI i)) _
    unfold BX9_back_29
    rw [if_neg (show ¬ (119 : Int32) ≤ nI i from nI_ge (b := 119) hi (by decide)), show (119 : Int32) * nI j = nI (119 * j) from nI_mul 119 j, nI_add, nI_clamp (show i < 2 ^ 31 by omega), nI_clamp (show 119 * j + i < 2 ^ 31 by omega), e1]
    refine yp_gd (fun _ => yp_gd (fun _ => yp_lt (yp_lt (yp_some ⟨nI_1 i, (pI_ne (by decide)).trans f1, fun k hk => ?_⟩))))
    show (sn_pI z 1 i (τ.1 2 (119 * j + i))).1 1 k = _
    by_cases c : k = i
    · subst c
      exact pI_self
    · rw [pI_slot c]
      exact f2 k (by omega)
  · obtain ⟨z, x⟩ := s
    obtain ⟨ex, f1, f2⟩ := hs
    have ex : x = nI 119 := ex
    subst ex
    show yp (BX9_back_29 z (nI j) (nI 119)) _
    unfold BX9_back_29
    rw [if_pos (show (119 : Int32) ≤ nI 119 by decide)]
    exact yp_some ⟨f1, f2⟩
  · unfold BX9_back_58
    exact yp_some (Or.inr ⟨j, hj, rfl, rfl, hz.1, hz.2⟩)
end
theorem zK_67 : ∀ (σ τ : sn_S) (a : Int32), zK σ τ → ∃ r σ1 τ1, fX8_image σ a = some (r, σ1) ∧ fX9_image τ a = some (r, τ1) ∧ zK σ1 τ1 := by
  intro σ τ a h
  obtain ⟨r, σ1, τ1, e1, e2, hJ⟩ := zJ_67 σ τ a h.1
  refine ⟨r, σ1, τ1, e1, e2, ?_⟩
  have f := yk_image _ e1
  have g := yk_mimage _ e2
  rcases g with ⟨g1, g2⟩ | ⟨j, hj, ej, g1, g2, g3, g4⟩
  · rcases f with ⟨f1, f2⟩ | ⟨i, hi, ei, f0, f1, f2⟩
    · have f2 : σ1 = σ := f2
      have g2 : τ1 = τ := g2
      rw [f2, g2]
      exact h
    · exact absurd f0 g1
  · rcases f with ⟨f1, f2⟩ | ⟨i, hi, ei, f0, f1, f2⟩
    · exact absurd g1 f1
    · have eij : i = j := yk_i hi hj (ei.symm.trans ej)
      subst eij
      obtain ⟨_, ⟨w1, w2⟩, him, hD⟩ := h
      have f1 : ∀ q, (q ≤ 73 + 7 * i ∨ 73 + 7 * i + 6 < q) → q ≠ 16 → σ1.1 q = σ.1 q := f1
      have g2 : τ1.1 1 = τ.1 1 := g2
      have g3 : ∀ k, k < 119 → τ1.1 2 (119 * i + k) = τ.1 1 k := g3
      have g4 : ∀ k, (k < 119 * i ∨ 119 * i + 119 ≤ k) → τ1.1 2 k = τ.1 2 k := g4
      refine ⟨hJ, ⟨by rw [g2]; exact w1, by rw [g2]; exact yH_c (fun q a1 a2 => f1 q (by omega) (by omega)) w2⟩, fun l hl => ?_, ?_⟩
      · by_cases e : l = i
        · subst e
          have ew : ∀ k, k < 119 → yw τ1 l k = τ.1 1 k := g3
          obtain ⟨p1, p2, p3, p4, p5, p6⟩ := f2
          exact ⟨jW_c ew w1, yH_w w1 ew (yH_mv w1 p1 p2 p3 p4 p5 p6 w2)⟩
        · have ew : ∀ k, k < 119 → yw τ1 l k = yw τ l k := fun k hk => g4 _ (by omega)
          exact ⟨jW_c ew (him l hl).1, yH_w (him l hl).1 ew (yH_c (fun q a1 a2 => f1 q (by omega) (by omega)) (him l hl).2)⟩
      · rw [g2]
        exact yD_c (fun q a1 a2 => f1 q (by omega) (by omega)) hD
theorem zK_68 : ∀ (σ τ : sn_S) (a : Int32), zK σ τ → ∃ r σ1 τ1, fX8_back σ a = some (r, σ1) ∧ fX9_back τ a = some (r, τ1) ∧ zK σ1 τ1 := by
  intro σ τ a h
  obtain ⟨r, σ1, τ1, e1, e2, hJ⟩ := zJ_68 σ τ a h.1
  refine ⟨r, σ1, τ1, e1, e2, ?_⟩
  have f := yk_back _ e1
  have g := yk_mback _ e2
  rcases g with ⟨g1, g2⟩ | ⟨j, hj, ej, g1, g2, g3⟩
  · rcases f with ⟨f1, f2⟩ | ⟨i, z, hi, ei, f0, f1, f2, f3⟩
    · have f2 : σ1 = σ := f2
      have g2 : τ1 = τ := g2
      rw [f2, g2]
      exact h
    · exact absurd f0 g1
  · rcases f with ⟨f1, f2⟩ | ⟨i, z, hi, ei, f0, f1, f2, f3⟩
    · exact absurd g1 f1
    · have eij : i = j := yk_i hi hj (ei.symm.trans ej)
      subst eij
      obtain ⟨_, ⟨w1, w2⟩, him, hD⟩ := h
      have g2 : τ1.1 2 = τ.1 2 := g2
      have ew : ∀ k, k < 119 → τ1.1 1 k = yw τ i k := g3
      obtain ⟨p1, p2, p3, p4, p5, p6⟩ := f2
      have hW := jW_c ew (him i hi).1
      have hH : yH 1 z (τ1.1 1) := yH_w (him i hi).1 ew (yH_mv (a := 1) (him i hi).1 p1 p2 p3 p4 p5 p6 (him i hi).2)
      obtain ⟨u1, u2, u3⟩ := yc_anew hW hH _ f3
      have u1 : ∀ q, q < 27 ∨ 37 < q → σ1.1 q = z.1 q := u1
      refine ⟨hJ, ⟨hW, yH_c (fun q a1 a2 => u1 q (by omega)) hH⟩, fun l hl => ?_, u3⟩
      rw [yw_c g2 l]
      exact ⟨(him l hl).1, yH_c (fun q a1 a2 => (u1 q (by omega)).trans (f1 q (by omega))) (him l hl).2⟩
/-! a house is told -/
theorem yk_house {σ : sn_S} (h : zs_SB zs_tC σ) : yp (fX8_house σ) (fun r => (∀ q, 73 ≤ q → q ≤ 93 → r.2.1 q = σ.1 q) ∧ ((r.2.1 17 2 ≠ 0 ∧ ∀ q, (2 ≤ q ∧ q ≤ 7) ∨ (27 ≤ q ∧ q ≤ 37) → r.2.1 q = σ.1 q) ∨ (r.2.1 17 2 = 0 ∧ ∃ z x, yB 1 z ∧ yF (z.1 2) x ∧ x ≤ 900 ∧ fX8_liveAnew z = some r.2))) := by
  obtain ⟨t, et, ht⟩ := zk_read h
  have hk : ∀ q, (2 ≤ q ∧ q ≤ 7) ∨ (27 ≤ q ∧ q ≤ 37) ∨ (73 ≤ q ∧ q ≤ 93) → t.1 q = σ.1 q := fun q hq => funext fun k => ht.1.2.1 q k (by
    unfold zk_k
    rw [show Nat.beq q 17 = false by
      cases e : Nat.beq q 17 with
      | false => rfl
      | true => exact absurd (Nat.eq_of_beq_eq_true e) (by omega)]
    rcases hq with e | e | e
    · exact zs_kCB (zs_kCh (Or.inl e))
    · exact zs_kCd e.1 e.2
    · exact zs_kCB (zs_kCh (Or.inr e)))
  have hB := yI_read _ et
  unfold fX8_house
  rw [et]
  refine yp_bs rfl (yp_lt (yp_ite (fun c => ?_) (fun c => ?_)))
  · have c0 : t.1 17 2 = 0 := by
      have c3 : (sn_pI t 17 1 (0 : Int32)).1 17 2 = 0 := c
      rw [pI_slot (by decide)] at c3
      exact c3
    obtain ⟨b1, x, b3, b2⟩ := hB c0
    refine yp_bd _ (yc_hcopy (a := 1) (b := 8) (by decide)) (fun z hz => ?_)
    obtain ⟨z1, z2, p1, p2, p3, p4, p5, p6⟩ := hz
    have o : ∀ q, q ≠ 17 → (sn_pI t 17 1 (0 : Int32)).1 q = t.1 q := fun q hq => pI_ne hq
    have q1 : ∀ k, k < 11 → z.1 (1 + 1) k = t.1 (8 + 1) k := fun k hk => by rw [p1 k hk, o _ (by decide)]
    refine yp_bd (fun u => fX8_liveAnew z = some u) (fun u hu => hu) (fun u hu => yp_gd (fun _ => yp_some ⟨fun q a b => ?_, Or.inr ⟨?_, z, x, ?_, ?_, b3, hu⟩⟩))
    · show u.1 q = σ.1 q
      rw [yf_anew _ hu q (by omega), z1 q (by omega), o q (by omega)]
      exact hk q (by omega)
    · show u.1 17 2 = 0
      rw [yf_anew _ hu 17 (by omega), z1 17 (by omega), pI_slot (by decide)]
      exact c0
    · exact yB_mv (a := 1) (b := 8) q1 (fun k hk => by rw [p2 k hk, o _ (by decide)]) (fun k hk => by rw [p3 k hk, o _ (by decide)]) (fun k hk => by rw [p4 k hk, o _ (by decide)]) (fun k hk => by rw [p5 k hk, o _ (by decide)]) b1
    · obtain ⟨f1, f2, f3⟩ := b2
      have q1 : ∀ k, k < 11 → z.1 2 k = t.1 9 k := q1
      refine ⟨fun e k hk => (q1 k hk).trans (f1 e k hk), fun e => ?_, (q1 10 (by decide)).trans f3⟩
      obtain ⟨g0, g1, g2, g3, g4, g5⟩ := f2 e
      exact ⟨yh_mv (q1 0 (by decide)) g0, by rw [sp_mv (q1 0 (by decide))]; exact g1, yh_mv (q1 1 (by decide)) g2, yh_mv (q1 2 (by decide)) g3, yh_mv (q1 3 (by decide)) g4, yh_mv (q1 4 (by decide)) g5⟩
  · refine yp_some ⟨fun q a b => (pI_ne (by omega)).trans (hk q (by omega)), Or.inl ⟨?_, fun q hq => (pI_ne (by omega)).trans (hk q (by omega))⟩⟩
    exact c
theorem rr_Hq {h : Nat} {σ z : sn_S} {w : Nat → Int32} (e : ∀ a, h + 1 ≤ a → a ≤ h + 6 → z.1 a = σ.1 a) (H : rr_H h σ w) : rr_H h z w := by
  unfold rr_H
  rw [e (h + 1) (by omega) (by omega), e (h + 2) (by omega) (by omega), e (h + 3) (by omega) (by omega), e (h + 4) (by omega) (by omega), e (h + 5) (by omega) (by omega), e (h + 6) (by omega) (by omega)]
  exact H
theorem zK_2 : ∀ (σ τ : sn_S), zK σ τ → ∃ r σ1 τ1, fX8_house σ = some (r, σ1) ∧ fX9_house τ = some (r, τ1) ∧ zK σ1 τ1 := by
  intro σ τ hK
  have h := hK.1
  obtain ⟨r, σ1, τ1, e1, e2, hJ⟩ := zJ_2 σ τ h
  obtain ⟨n, hn, e0⟩ := zh_n (t := zs_tC) (q := 17) (k := 1) h.1.1 rfl
  obtain ⟨r3, z3, w3, f1, f2, f3, f4, f5, f6⟩ := rr_house h.1.1 h.1.2.1 e0 (by rw [← h.1.2.2.1.1]; exact e0) hn (fun k hk => h.1.2.2.1.2.2.2 k (by rw [e0, nI_toInt (by omega)]; omega))
  rw [e1] at f1
  cases f1
  rw [e2] at f2
  cases f2
  obtain ⟨r2, w, g1, b2, d1, d2, d3, d4, d5, d6⟩ := zm_house h.1.2.1
  rw [e2] at g1
  cases g1
  refine ⟨r, σ1, τ1, e1, e2, ?_⟩
  obtain ⟨k1, k2⟩ := yk_house h.1.1 _ e1
  have k1 : ∀ q, 73 ≤ q → q ≤ 93 → σ1.1 q = σ.1 q := k1
  rcases k2 with ⟨c, k2⟩ | ⟨c, z, x, bB, bF, bx, eu⟩
  · have c : ¬ σ1.1 17 2 = 0 := c
    have k2 : ∀ q, (2 ≤ q ∧ q ≤ 7) ∨ (27 ≤ q ∧ q ≤ 37) → σ1.1 q = σ.1 q := k2
    exact zK_c hJ (fun q hq => by
      rcases hq with e | e | e
      · exact k2 q (Or.inl e)
      · exact k2 q (Or.inr e)
      · exact k1 q e.1 e.2) (f6 c).2 d6 hK
  · have fa : ∀ q, q < 27 ∨ 27 + 10 < q → σ1.1 q = z.1 q := yf_anew _ eu
    have hR : rr_H 1 z (τ1.1 1) := rr_Hq (fun a a1 a2 => (fa a (by omega)).symm) hJ.2.1
    obtain ⟨hW, hH⟩ := yW_of hR bB bF bx
    obtain ⟨u1, u2, u3⟩ := yc_anew hW hH _ eu
    refine ⟨hJ, ⟨hW, yH_c (fun q a1 a2 => fa q (by omega)) hH⟩, fun j hj => ?_, u3⟩
    rw [yw_c d6 j]
    exact ⟨(hK.2.2.1 j hj).1, yH_c (fun q a1 a2 => k1 q (by omega) (by omega)) (hK.2.2.1 j hj).2⟩
end
section
/-! acts -/
theorem yA_W {τ : sn_S} {n p m k : Nat} (hW : jW (τ.1 1)) (hn : τ.1 1 9 = nI n) (hlt : n < 40) (hp : p < sp_n (τ.1 1) 5) (hm : m < sp_n (τ.1 1) 0) (hk : k < 2) {x : Int32} (hx : x = nI (200 * p + 2 * m + k)) : jW ((am_w τ n x).1 1) := by
  obtain ⟨⟨b0, b1, b2, b3, b4, b5, b6, b7, b8, b9, b10⟩, hz, hmm, hno, hg, ht, hp8, ha⟩ := hW
  have l0 := b0.2
  have l5 := b5.2
  have l6 := b6.2
  have l7 := b7.2
  have l8 := b8.2
  have sn : sp_n (τ.1 1) 9 = n := sp_nI hn (by omega)
  have e : ∀ j, j ≠ 9 → j ≠ 79 + n → (am_w τ n x).1 1 j = τ.1 1 j := fun j h1 h2 => by
    unfold am_w
    rw [pI_slot h1, pI_slot h2]
  have e9 : (am_w τ n x).1 1 9 = nI (n + 1) := by
    unfold am_w
    rw [pI_self]
  have ex : (am_w τ n x).1 1 (79 + n) = x := by
    unfold am_w
    rw [pI_slot (by omega), pI_self]
  generalize (am_w τ n x).1 1 = w at e e9 ex ⊢
  have y : ∀ k b, k ≠ 9 → k < 79 → yh_n (τ.1 1) k b → yh_n w k b := fun k b h1 h2 g => yh_mv (e k h1 (by omega)) g
  have s : ∀ k, k ≠ 9 → k < 79 → sp_n w k = sp_n (τ.1 1) k := fun k h1 h2 => sp_mv (e k h1 (by omega))
  have s9 : sp_n w 9 = n + 1 := sp_nI e9 (by omega)
  refine ⟨⟨y 0 _ (by decide) (by decide) b0, y 1 _ (by decide) (by decide) b1, y 2 _ (by decide) (by decide) b2, y 3 _ (by decide) (by decide) b3, y 4 _ (by decide) (by decide) b4, y 5 _ (by decide) (by decide) b5, y 6 _ (by decide) (by decide) b6, y 7 _ (by decide) (by decide) b7, y 8 _ (by decide) (by decide) b8, ⟨by rw [s9]; exact e9, by omega⟩, y 10 _ (by decide) (by decide) b10⟩, ?_, ?_, fun p hp2 => ?_, fun p hp2 => ?_, fun k hk => ?_, fun k hk => ?_, fun i hi => ?_⟩
  · rw [s 10 (by decide) (by decide), s 0 (by decide) (by decide), s 5 (by decide) (by decide), s 7 (by decide) (by decide), s 8 (by decide) (by decide)]
    exact hz
  · rw [s 10 (by decide) (by decide), s 0 (by decide) (by decide)]
    exact hmm
  · rw [s 5 (by decide) (by decide)] at hp2
    have g := hno p hp2
    exact ⟨y _ _ (by omega) (by omega) g.1, y _ _ (by omega) (by omega) g.2.1, by rw [s _ (by omega) (by omega)]; exact g.2.2⟩
  · rw [s 6 (by decide) (by decide)] at hp2
    have g := hg p hp2
    exact ⟨y _ _ (by omega) (by omega) g.1, y _ _ (by omega) (by omega) g.2⟩
  · rw [s 7 (by decide) (by decide)] at hk
    have g := ht k hk
    rw [s 5 (by decide) (by decide), s (33 + 2 * k) (by omega) (by omega), s (34 + 2 * k) (by omega) (by omega), e (33 + 2 * k) (by omega) (by omega), e (34 + 2 * k) (by omega) (by omega)]
    exact g
  · rw [s 8 (by decide) (by decide)] at hk
    obtain ⟨⟨g1, g2⟩, g3, g4, g5, g6, g7, g8⟩ := hp8 k hk
    exact ⟨⟨by rw [s _ (by omega) (by omega), e _ (by omega) (by omega)]; exact g1, by rw [s _ (by omega) (by omega), s 5 (by decide) (by decide)]; exact g2⟩, y _ _ (by omega) (by omega) g3, y _ _ (by omega) (by omega) g4, by rw [s _ (by omega) (by omega), s _ (by omega) (by omega)]; exact g5, y _ _ (by omega) (by omega) g6, by rw [s _ (by omega) (by omega)]; exact g7, y _ _ (by omega) (by omega) g8⟩
  · rw [s9] at hi
    rw [s 5 (by decide) (by decide), s 0 (by decide) (by decide)]
    by_cases c : i = n
    · subst c
      have sx : sp_n w (79 + i) = 200 * p + 2 * m + k := sp_nI (ex.trans hx) (by omega)
      rw [sx]
      exact ⟨ex.trans hx, by omega, by omega⟩
    · have g := ha i (by omega)
      rw [sp_mv (e (79 + i) (by omega) (by omega)), e (79 + i) (by omega) (by omega)]
      exact g
theorem yA_H {σ τ : sn_S} {n p m k : Nat} (hW : jW (τ.1 1)) (hH : yH 1 σ (τ.1 1)) (hn : τ.1 1 9 = nI n) (hlt : n < 40) (hp : p < sp_n (τ.1 1) 5) (hm : m < sp_n (τ.1 1) 0) (hk : k < 2) {x : Int32} (hx : x = nI (200 * p + 2 * m + k)) : yH 1 (ac_w σ n (nI k) (nI p) (nI m)) ((am_w τ n x).1 1) := by
  obtain ⟨⟨b0, b1, b2, b3, b4, b5, b6, b7, b8, b9, b10⟩, -⟩ := hW
  have l0 := b0.2
  have l5 := b5.2
  have l6 := b6.2
  have l7 := b7.2
  have l8 := b8.2
  obtain ⟨h1, h2, h3, h4, h5, h6⟩ := hH
  have sn : sp_n (τ.1 1) 9 = n := sp_nI hn (by omega)
  have e : ∀ j, j ≠ 9 → j ≠ 79 + n → (am_w τ n x).1 1 j = τ.1 1 j := fun j h1 h2 => by
    unfold am_w
    rw [pI_slot h1, pI_slot h2]
  have e9 : (am_w τ n x).1 1 9 = nI (n + 1) := by
    unfold am_w
    rw [pI_self]
  have ex : (am_w τ n x).1 1 (79 + n) = x := by
    unfold am_w
    rw [pI_slot (by omega), pI_self]
  generalize (am_w τ n x).1 1 = w at e e9 ex ⊢
  have s : ∀ k, k ≠ 9 → k < 79 → sp_n w k = sp_n (τ.1 1) k := fun k h1 h2 => sp_mv (e k h1 (by omega))
  have s9 : sp_n w 9 = n + 1 := sp_nI e9 (by omega)
  have c2 : ∀ j, j ≠ 9 → (ac_w σ n (nI k) (nI p) (nI m)).1 2 j = σ.1 2 j := fun j hj => by
    unfold ac_w
    rw [pI_slot hj, pI_ne (by decide), pI_ne (by decide), pI_ne (by decide)]
  have c9 : (ac_w σ n (nI k) (nI p) (nI m)).1 2 9 = nI (n + 1) := by
    unfold ac_w
    rw [pI_self]
  have cq : ∀ q, q ≠ 2 → q ≠ 7 → (ac_w σ n (nI k) (nI p) (nI m)).1 q = σ.1 q := fun q h2 h7 => by
    unfold ac_w
    rw [pI_ne h2, pI_ne h7, pI_ne h7, pI_ne h7]
  have c7 : ∀ i, i < 3 * n → (ac_w σ n (nI k) (nI p) (nI m)).1 7 i = σ.1 7 i := fun i hi => by
    unfold ac_w
    rw [pI_ne (by decide), pI_slot (by omega), pI_slot (by omega), pI_slot (by omega)]
  have d0 : (ac_w σ n (nI k) (nI p) (nI m)).1 7 (3 * n) = nI k := by
    unfold ac_w
    rw [pI_ne (by decide), pI_slot (by omega), pI_slot (by omega), pI_self]
  have d1 : (ac_w σ n (nI k) (nI p) (nI m)).1 7 (3 * n + 1) = nI p := by
    unfold ac_w
    rw [pI_ne (by decide), pI_slot (by omega), pI_self]
  have d2 : (ac_w σ n (nI k) (nI p) (nI m)).1 7 (3 * n + 2) = nI m := by
    unfold ac_w
    rw [pI_ne (by decide), pI_self]
  generalize ac_w σ n (nI k) (nI p) (nI m) = z at c2 c9 cq c7 d0 d1 d2 ⊢
  unfold yH
  rw [s 5 (by decide) (by decide), s 6 (by decide) (by decide), s 7 (by decide) (by decide), s 8 (by decide) (by decide), s9]
  refine ⟨fun j hj => ?_, fun i hi => ?_, fun i hi => ?_, fun i hi => ?_, fun i hi => ?_, fun i hi => ?_⟩
  · show z.1 2 j = _
    by_cases c : j = 9
    · rw [c, c9, e9]
    · rw [c2 j c, e j c (by omega)]
      exact h1 j hj
  · show z.1 3 i = _
    rw [cq 3 (by decide) (by decide), e _ (by omega) (by omega)]
    exact h2 i hi
  · show z.1 4 i = _
    rw [cq 4 (by decide) (by decide), e _ (by omega) (by omega)]
    exact h3 i hi
  · show z.1 5 i = _
    rw [cq 5 (by decide) (by decide), e _ (by omega) (by omega)]
    exact h4 i hi
  · show z.1 6 i = _
    rw [cq 6 (by decide) (by decide), e _ (by omega) (by omega)]
    exact h5 i hi
  · show z.1 7 (3 * i) = _ ∧ z.1 7 (3 * i + 1) = _ ∧ z.1 7 (3 * i + 2) = _
    by_cases c : i = n
    · subst c
      have sx : sp_n w (79 + i) = 200 * p + 2 * m + k := sp_nI (ex.trans hx) (by omega)
      rw [d0, d1, d2, sx]
      exact ⟨congrArg nI (by omega), congrArg nI (by omega), congrArg nI (by omega)⟩
    · have g := h6 i (by omega)
      rw [c7 _ (by omega), c7 _ (by omega), c7 _ (by omega), sp_mv (e (79 + i) (by omega) (by omega))]
      exact g
/-- fewer acts -/
theorem yA_less {τ : sn_S} {j : Nat} (hW : jW (τ.1 1)) (hj : j ≤ sp_n (τ.1 1) 9) : jW ((sn_pI τ 1 9 (nI j)).1 1) ∧ ∀ σ, yH 1 σ (τ.1 1) → yH 1 (sn_pI σ 2 9 (nI j)) ((sn_pI τ 1 9 (nI j)).1 1) := by
  obtain ⟨⟨b0, b1, b2, b3, b4, b5, b6, b7, b8, b9, b10⟩, hz, hmm, hno, hg, ht, hp8, ha⟩ := hW
  have l9 := b9.2
  have e : ∀ k, k ≠ 9 → (sn_pI τ 1 9 (nI j)).1 1 k = τ.1 1 k := fun k h1 => pI_slot h1
  have e9 : (sn_pI τ 1 9 (nI j)).1 1 9 = nI j := pI_self
  generalize (sn_pI τ 1 9 (nI j)).1 1 = w at e e9 ⊢
  have y : ∀ k b, k ≠ 9 → yh_n (τ.1 1) k b → yh_n w k b := fun k b h1 g => yh_mv (e k h1) g
  have s : ∀ k, k ≠ 9 → sp_n w k = sp_n (τ.1 1) k := fun k h1 => sp_mv (e k h1)
  have s9 : sp_n w 9 = j := sp_nI e9 (by omega)
  refine ⟨⟨⟨y 0 _ (by decide) b0, y 1 _ (by decide) b1, y 2 _ (by decide) b2, y 3 _ (by decide) b3, y 4 _ (by decide) b4, y 5 _ (by decide) b5, y 6 _ (by decide) b6, y 7 _ (by decide) b7, y 8 _ (by decide) b8, ⟨by rw [s9]; exact e9, by omega⟩, y 10 _ (by decide) b10⟩, ?_, ?_, fun p hp2 => ?_, fun p hp2 => ?_, fun k hk => ?_, fun k hk => ?_, fun i hi => ?_⟩, fun σ hH => ?_⟩
  · rw [s 10 (by decide), s 0 (by decide), s 5 (by decide), s 7 (by decide), s 8 (by decide)]
    exact hz
  · rw [s 10 (by decide), s 0 (by decide)]
    exact hmm
  · rw [s 5 (by decide)] at hp2
    have g := hno p hp2
    exact ⟨y _ _ (by omega) g.1, y _ _ (by omega) g.2.1, by rw [s _ (by omega)]; exact g.2.2⟩
  · rw [s 6 (by decide)] at hp2
    have g := hg p hp2
    exact ⟨y _ _ (by omega) g.1, y _ _ (by omega) g.2⟩
  · rw [s 7 (by decide)] at hk
    have g := ht k hk
    rw [s 5 (by decide), s (33 + 2 * k) (by omega), s (34 + 2 * k) (by omega), e (33 + 2 * k) (by omega), e (34 + 2 * k) (by omega)]
    exact g
  · rw [s 8 (by decide)] at hk
    obtain ⟨⟨g1, g2⟩, g3, g4, g5, g6, g7, g8⟩ := hp8 k hk
    exact ⟨⟨by rw [s _ (by omega), e _ (by omega)]; exact g1, by rw [s _ (by omega), s 5 (by decide)]; exact g2⟩, y _ _ (by omega) g3, y _ _ (by omega) g4, by rw [s _ (by omega), s _ (by omega)]; exact g5, y _ _ (by omega) g6, by rw [s _ (by omega)]; exact g7, y _ _ (by omega) g8⟩
  · rw [s9] at hi
    rw [s 5 (by decide), s 0 (by decide), s (79 + i) (by omega), e (79 + i) (by omega)]
    exact ha i (by omega)
  · obtain ⟨h1, h2, h3, h4, h5, h6⟩ := hH
    unfold yH
    rw [s 5 (by decide), s 6 (by decide), s 7 (by decide), s 8 (by decide), s9]
    refine ⟨fun k hk => ?_, fun i hi => ?_, fun i hi => ?_, fun i hi => ?_, fun i hi => ?_, fun i hi => ?_⟩
    · show (sn_pI σ 2 9 (nI j)).1 2 k = _
      by_cases c : k = 9
      · rw [c, pI_self, e9]
      · rw [pI_slot c, e k c]
        exact h1 k hk
    · rw [pI_ne (by decide), e _ (by omega)]
      exact h2 i hi
    · rw [pI_ne (by decide), e _ (by omega)]
      exact h3 i hi
    · rw [pI_ne (by decide), e _ (by omega)]
      exact h4 i hi
    · rw [pI_ne (by decide), e _ (by omega)]
      exact h5 i hi
    · rw [pI_ne (by decide), s (79 + i) (by omega)]
      exact h6 i (by omega)
/-! another pays -/
section
variable {w0 w : Nat → Int32} {q v : Nat}
theorem yA_rW (e : ∀ k, k ≠ 53 + 5 * q → w k = w0 k) (ex : w (53 + 5 * q) = nI v) (hW : jW w0) (hq : q < sp_n w0 8) (hv : v ≤ 99) : jW w := by
  obtain ⟨⟨b0, b1, b2, b3, b4, b5, b6, b7, b8, b9, b10⟩, hz, hmm, hno, hg, ht, hp8, ha⟩ := hW
  have l5 := b5.2
  have l6 := b6.2
  have l7 := b7.2
  have l8 := b8.2
  have l9 := b9.2
  have y : ∀ k b, k ≠ 53 + 5 * q → yh_n w0 k b → yh_n w k b := fun k b h1 g => yh_mv (e k h1) g
  have s : ∀ k, k ≠ 53 + 5 * q → sp_n w k = sp_n w0 k := fun k h1 => sp_mv (e k h1)
  have sx : sp_n w (53 + 5 * q) = v := sp_nI ex (by omega)
  refine ⟨⟨y 0 _ (by omega) b0, y 1 _ (by omega) b1, y 2 _ (by omega) b2, y 3 _ (by omega) b3, y 4 _ (by omega) b4, y 5 _ (by omega) b5, y 6 _ (by omega) b6, y 7 _ (by omega) b7, y 8 _ (by omega) b8, y 9 _ (by omega) b9, y 10 _ (by omega) b10⟩, ?_, ?_, fun p hp2 => ?_, fun p hp2 => ?_, fun k hk => ?_, fun k hk => ?_, fun i hi => ?_⟩
  · rw [s 10 (by omega), s 0 (by omega), s 5 (by omega), s 7 (by omega), s 8 (by omega)]
    exact hz
  · rw [s 10 (by omega), s 0 (by omega)]
    exact hmm
  · rw [s 5 (by omega)] at hp2
    have g := hno p hp2
    exact ⟨y _ _ (by omega) g.1, y _ _ (by omega) g.2.1, by rw [s _ (by omega)]; exact g.2.2⟩
  · rw [s 6 (by omega)] at hp2
    have g := hg p hp2
    exact ⟨y _ _ (by omega) g.1, y _ _ (by omega) g.2⟩
  · rw [s 7 (by omega)] at hk
    have g := ht k hk
    rw [s 5 (by omega), s (33 + 2 * k) (by omega), s (34 + 2 * k) (by omega), e (33 + 2 * k) (by omega), e (34 + 2 * k) (by omega)]
    exact g
  · rw [s 8 (by omega)] at hk
    obtain ⟨⟨g1, g2⟩, g3, g4, g5, g6, g7, g8⟩ := hp8 k hk
    refine ⟨⟨by rw [s _ (by omega), e _ (by omega)]; exact g1, by rw [s _ (by omega), s 5 (by omega)]; exact g2⟩, y _ _ (by omega) g3, y _ _ (by omega) g4, by rw [s _ (by omega), s _ (by omega)]; exact g5, y _ _ (by omega) g6, by rw [s _ (by omega)]; exact g7, ?_⟩
    by_cases c : k = q
    · subst c
      exact ⟨by rw [sx]; exact ex, by rw [sx]; exact hv⟩
    · exact y _ _ (by omega) g8
  · rw [s 9 (by omega)] at hi
    rw [s 5 (by omega), s 0 (by omega), s (79 + i) (by omega), e (79 + i) (by omega)]
    exact ha i hi
theorem yA_rH {σ : sn_S} (e : ∀ k, k ≠ 53 + 5 * q → w k = w0 k) (ex : w (53 + 5 * q) = nI v) (hW : jW w0) (hq : q < sp_n w0 8) (hH : yH 1 σ w0) : yH 1 (sn_pI σ 6 (5 * q + 4) (nI v)) w := by
  have l5 := hW.1.2.2.2.2.2.1.2
  have l6 := hW.1.2.2.2.2.2.2.1.2
  have l7 := hW.1.2.2.2.2.2.2.2.1.2
  have l8 := hW.1.2.2.2.2.2.2.2.2.1.2
  have l9 := hW.1.2.2.2.2.2.2.2.2.2.1.2
  have y : ∀ k b, k ≠ 53 + 5 * q → yh_n w0 k b → yh_n w k b := fun k b h1 g => yh_mv (e k h1) g
  have s : ∀ k, k ≠ 53 + 5 * q → sp_n w k = sp_n w0 k := fun k h1 => sp_mv (e k h1)
  obtain ⟨h1, h2, h3, h4, h5, h6⟩ := hH
  unfold yH
  rw [s 5 (by omega), s 6 (by omega), s 7 (by omega), s 8 (by omega), s 9 (by omega)]
  refine ⟨fun k hk => ?_, fun i hi => ?_, fun i hi => ?_, fun i hi => ?_, fun i hi => ?_, fun i hi => ?_⟩
  · rw [pI_ne (by decide), e _ (by omega)]
    exact h1 k hk
  · rw [pI_ne (by decide), e _ (by omega)]
    exact h2 i hi
  · rw [pI_ne (by decide), e _ (by omega)]
    exact h3 i hi
  · rw [pI_ne (by decide), e _ (by omega)]
    exact h4 i hi
  · show (sn_pI σ 6 (5 * q + 4) (nI v)).1 6 i = _
    by_cases c : i = 5 * q + 4
    · rw [c, pI_self, show 49 + (5 * q + 4) = 53 + 5 * q by omega]
      exact ex.symm
    · rw [pI_slot c, e _ (by omega)]
      exact h5 i hi
  · rw [pI_ne (by decide), s (79 + i) (by omega)]
    exact h6 i hi
theorem yA_r1 {m : Nat} (e : ∀ k, k ≠ 53 + 5 * q → w k = w0 k) : ∀ g, g ≤ 5 → hs_dust w m g = hs_dust w0 m g := by
  intro g
  induction g with
  | zero => intro _; exact e 1 (by omega)
  | succ g ih =>
    intro hg2
    show (if sp_n w (24 + 2 * g) = m then hs_dust w m g + w (23 + 2 * g) else hs_dust w m g) = if sp_n w0 (24 + 2 * g) = m then hs_dust w0 m g + w0 (23 + 2 * g) else hs_dust w0 m g
    have h1 : sp_n w (24 + 2 * g) = sp_n w0 (24 + 2 * g) := sp_mv (e _ (by omega))
    have h2 : w (23 + 2 * g) = w0 (23 + 2 * g) := e _ (by omega)
    rw [ih (by omega), h1, h2]
theorem yA_r2 {kind p : Nat} (hq : q < 6) (e : ∀ k, k ≠ 53 + 5 * q → w k = w0 k) : ∀ g, g ≤ 40 → hs_acts w kind p g = hs_acts w0 kind p g := by
  intro g
  induction g with
  | zero => intro _; rfl
  | succ g ih =>
    intro hg2
    have h1 : sp_n w (79 + g) = sp_n w0 (79 + g) := sp_mv (e _ (by omega))
    show (if sp_n w (79 + g) % 2 = kind ∧ sp_n w (79 + g) / 200 = p then hs_acts w kind p g ||| ((1 : Int32) <<< (nI (sp_n w (79 + g) % 200 / 2) &&& 31)) else hs_acts w kind p g) = (if sp_n w0 (79 + g) % 2 = kind ∧ sp_n w0 (79 + g) / 200 = p then hs_acts w0 kind p g ||| ((1 : Int32) <<< (nI (sp_n w0 (79 + g) % 200 / 2) &&& 31)) else hs_acts w0 kind p g)
    rw [ih (by omega), h1]
theorem yA_rE (e : ∀ k, k ≠ 53 + 5 * q → w k = w0 k) (hW : jW w0) (hq : q < sp_n w0 8) : dy_E (sp_n w0 0) (hs_day w0) (hs_day w) := by
  have l5 := hW.1.2.2.2.2.2.1.2
  have l6 := hW.1.2.2.2.2.2.2.1.2
  have l7 := hW.1.2.2.2.2.2.2.2.1.2
  have l8 := hW.1.2.2.2.2.2.2.2.2.1.2
  have l9 := hW.1.2.2.2.2.2.2.2.2.2.1.2
  have s : ∀ k, k ≠ 53 + 5 * q → sp_n w k = sp_n w0 k := fun k h1 => sp_mv (e k h1)
  have s5 := s 5 (by omega)
  have s6 := s 6 (by omega)
  have s7 := s 7 (by omega)
  have s9 := s 9 (by omega)
  refine ⟨s5.symm, s7.symm, show (-1 : Int32) = -1 from rfl, fun p hp => ?_, fun m => ?_, fun k hk => ?_⟩
  · have hp : p < sp_n w0 5 := hp
    refine ⟨?_, ?_, ?_, ?_⟩
    · show w0 (11 + 2 * p) = w (11 + 2 * p)
      exact (e _ (by omega)).symm
    · show w0 (12 + 2 * p) = w (12 + 2 * p)
      exact (e _ (by omega)).symm
    · show hs_acts w0 0 p (sp_n w0 9) = hs_acts w 0 p (sp_n w 9)
      rw [s9, yA_r2 (by omega) e _ l9]
    · show hs_acts w0 1 p (sp_n w0 9) = hs_acts w 1 p (sp_n w 9)
      rw [s9, yA_r2 (by omega) e _ l9]
  · show hs_dust w0 m (sp_n w0 6) = hs_dust w m (sp_n w 6)
    rw [s6, yA_r1 e _ l6]
  · have hk : k < sp_n w0 7 := hk
    exact ⟨(s (33 + 2 * k) (by omega)).symm, (s (34 + 2 * k) (by omega)).symm⟩
theorem yA_rD {σ : sn_S} (e : ∀ k, k ≠ 53 + 5 * q → w k = w0 k) (hW : jW w0) (hq : q < sp_n w0 8) (hD : yD σ w0) : yD σ w := by
  have s0 : sp_n w 0 = sp_n w0 0 := sp_mv (e 0 (by omega))
  have ed := yA_rE e hW hq
  obtain ⟨q1, q2, q3⟩ := hD
  refine ⟨by rw [s0]; exact q1, yd_TE ed q2, ?_⟩
  rw [s0]
  exact yd_LE ed q3
end
theorem yA_rate {τ : sn_S} {q v : Nat} (hW : jW (τ.1 1)) (hq : q < sp_n (τ.1 1) 8) (hv : v ≤ 99) : jW ((sn_pI τ 1 (53 + 5 * q) (nI v)).1 1) ∧ (∀ σ, yH 1 σ (τ.1 1) → yH 1 (sn_pI σ 6 (5 * q + 4) (nI v)) ((sn_pI τ 1 (53 + 5 * q) (nI v)).1 1)) ∧ ∀ σ, yD σ (τ.1 1) → yD σ ((sn_pI τ 1 (53 + 5 * q) (nI v)).1 1) := by
  have e : ∀ k, k ≠ 53 + 5 * q → (sn_pI τ 1 (53 + 5 * q) (nI v)).1 1 k = τ.1 1 k := fun k h1 => pI_slot h1
  have ex : (sn_pI τ 1 (53 + 5 * q) (nI v)).1 1 (53 + 5 * q) = nI v := pI_self
  exact ⟨yA_rW e ex hW hq hv, fun σ hH => yA_rH e ex hW hq hH, fun σ hD => yA_rD e hW hq hD⟩
section
variable {σ τ : sn_S} {a b : Int32} {n : Nat}
theorem yk_stifle (hn : σ.1 2 9 = nI n) (h40 : n ≤ 40) : yp (fX8_stifle σ a b) (fun r => (¬ ((0 ≤ a ∧ a < σ.1 2 5) ∧ (0 ≤ b ∧ b < σ.1 2 0) ∧ n < 40) ∧ r.2 = σ ∧ r.1 = (if (0 ≤ a ∧ a < σ.1 2 5) ∧ (0 ≤ b ∧ b < σ.1 2 0) then -5 else -2)) ∨ (((0 ≤ a ∧ a < σ.1 2 5) ∧ (0 ≤ b ∧ b < σ.1 2 0) ∧ n < 40) ∧ fX8_liveAnew (ac_w σ n 0 a b) = some r.2 ∧ fX0_tickleAt r.2 27 a b = some r.1)) := by
  unfold fX8_stifle
  rw [c_isPerson, c_isMinute]
  refine yp_bs rfl (yp_ite (fun c => ?_) (fun c => yp_bs rfl (yp_ite (fun c2 => ?_) (fun c2 => ?_))))
  · by_cases cp : 0 ≤ a ∧ a < σ.1 2 5
    · rw [if_pos cp] at c
      exact absurd c (by decide)
    · exact yp_some (Or.inl ⟨fun h => cp h.1, rfl, by rw [if_neg (fun h => cp h.1)]⟩)
  · by_cases cm : 0 ≤ b ∧ b < σ.1 2 0
    · rw [if_pos cm] at c2
      exact absurd c2 (by decide)
    · exact yp_some (Or.inl ⟨fun h => cm h.2.1, rfl, by rw [if_neg (fun h => cm h.2)]⟩)
  · have cp : 0 ≤ a ∧ a < σ.1 2 5 := by
      by_cases cp : 0 ≤ a ∧ a < σ.1 2 5
      · exact cp
      · rw [if_neg cp] at c
        exact absurd rfl c
    have cm : 0 ≤ b ∧ b < σ.1 2 0 := by
      by_cases cm : 0 ≤ b ∧ b < σ.1 2 0
      · exact cm
      · rw [if_neg cm] at c2
        exact absurd rfl c2
    by_cases cn : n < 40
    · rw [rc_act hn cn]
      refine yp_bs rfl (yp_ite (fun x => absurd (show (1 : Int32) = 0 from x) (by decide)) (fun _ => ?_))
      exact yp_bd (fun u => fX8_liveAnew (ac_w σ n 0 a b) = some u) (fun u hu => hu) (fun u hu => yp_bd (fun t => fX0_tickleAt u 27 a b = some t) (fun t ht => ht) (fun t ht => yp_some (Or.inr ⟨⟨cp, cm, cn⟩, hu, ht⟩)))
    · rw [rc_act0 hn cn h40]
      exact yp_bs rfl (yp_ite (fun _ => yp_some (Or.inl ⟨fun h => cn h.2.2, rfl, by rw [if_pos ⟨cp, cm⟩]⟩)) (fun x => absurd (show (0 : Int32) = 0 from rfl) x))
theorem yk_sniff (hn : σ.1 2 9 = nI n) (h40 : n ≤ 40) : yp (fX8_sniff σ a b) (fun r => (¬ ((0 ≤ a ∧ a < σ.1 2 5) ∧ (0 ≤ b ∧ b < σ.1 2 0) ∧ n < 40) ∧ r.2 = σ ∧ r.1 = (if (0 ≤ a ∧ a < σ.1 2 5) ∧ (0 ≤ b ∧ b < σ.1 2 0) then -5 else -2)) ∨ (((0 ≤ a ∧ a < σ.1 2 5) ∧ (0 ≤ b ∧ b < σ.1 2 0) ∧ n < 40) ∧ fX8_liveAnew (ac_w σ n 1 a b) = some r.2 ∧ ∃ t, fX8_hasBit (sn_I r.2 (27 + 10) a.toNatClampNeg) b = some t ∧ r.1 = (if t = 0 then 0 else 1))) := by
  unfold fX8_sniff
  rw [c_isPerson, c_isMinute]
  refine yp_bs rfl (yp_ite (fun c => ?_) (fun c => yp_bs rfl (yp_ite (fun c2 => ?_) (fun c2 => ?_))))
  · by_cases cp : 0 ≤ a ∧ a < σ.1 2 5
    · rw [if_pos cp] at c
      exact absurd c (by decide)
    · exact yp_some (Or.inl ⟨fun h => cp h.1, rfl, by rw [if_neg (fun h => cp h.1)]⟩)
  · by_cases cm : 0 ≤ b ∧ b < σ.1 2 0
    · rw [if_pos cm] at c2
      exact absurd c2 (by decide)
    · exact yp_some (Or.inl ⟨fun h => cm h.2.1, rfl, by rw [if_neg (fun h => cm h.2)]⟩)
  · have cp : 0 ≤ a ∧ a < σ.1 2 5 := by
      by_cases cp : 0 ≤ a ∧ a < σ.1 2 5
      · exact cp
      · rw [if_neg cp] at c
        exact absurd rfl c
    have cm : 0 ≤ b ∧ b < σ.1 2 0 := by
      by_cases cm : 0 ≤ b ∧ b < σ.1 2 0
      · exact cm
      · rw [if_neg cm] at c2
        exact absurd rfl c2
    by_cases cn : n < 40
    · rw [rc_act hn cn]
      refine yp_bs rfl (yp_ite (fun x => absurd (show (1 : Int32) = 0 from x) (by decide)) (fun _ => ?_))
      refine yp_bd (fun u => fX8_liveAnew (ac_w σ n 1 a b) = some u) (fun u hu => hu) (fun u hu => yp_gd (fun _ => yp_bd (fun t => fX8_hasBit (sn_I u (27 + 10) a.toNatClampNeg) b = some t) (fun t ht => ht) (fun t ht => yp_ite (fun z => yp_some (Or.inr ⟨⟨cp, cm, cn⟩, hu, t, ht, ?_⟩)) (fun z => yp_some (Or.inr ⟨⟨cp, cm, cn⟩, hu, t, ht, ?_⟩)))))
      · rw [if_pos z]
      · rw [if_neg z]
    · rw [rc_act0 hn cn h40]
      exact yp_bs rfl (yp_ite (fun _ => yp_some (Or.inl ⟨fun h => cn h.2.2, rfl, by rw [if_pos ⟨cp, cm⟩]⟩)) (fun x => absurd (show (0 : Int32) = 0 from rfl) x))
theorem yk_mstifle (hn : τ.1 1 9 = nI n) (h40 : n ≤ 40) (h5 : 0 ≤ τ.1 1 5) (h0 : 0 ≤ τ.1 1 0) : yp (fX9_stifle τ a b) (fun r => (¬ ((0 ≤ a ∧ a < τ.1 1 5) ∧ (0 ≤ b ∧ b < τ.1 1 0) ∧ n < 40) ∧ r.2 = τ ∧ r.1 = (if (0 ≤ a ∧ a < τ.1 1 5) ∧ (0 ≤ b ∧ b < τ.1 1 0) then -5 else -2)) ∨ (((0 ≤ a ∧ a < τ.1 1 5) ∧ (0 ≤ b ∧ b < τ.1 1 0) ∧ n < 40) ∧ (∃ t, fX9_asksHouse (am_w τ n ((200 : Int32) * a + (2 : Int32) * b)) = some (t, r.2)) ∧ r.1 = sn_I r.2 12 (((6 : Int32) * b) + a).toNatClampNeg)) := by
  unfold fX9_stifle
  rw [m_isPerson h5, m_isMinute h0]
  refine yp_bs rfl (yp_ite (fun c => ?_) (fun c => yp_bs rfl (yp_ite (fun c2 => ?_) (fun c2 => ?_))))
  · by_cases cp : 0 ≤ a ∧ a < τ.1 1 5
    · rw [if_pos cp] at c
      exact absurd c (by decide)
    · exact yp_some (Or.inl ⟨fun h => cp h.1, rfl, by rw [if_neg (fun h => cp h.1)]⟩)
  · by_cases cm : 0 ≤ b ∧ b < τ.1 1 0
    · rw [if_pos cm] at c2
      exact absurd c2 (by decide)
    · exact yp_some (Or.inl ⟨fun h => cm h.2.1, rfl, by rw [if_neg (fun h => cm h.2)]⟩)
  · have cp : 0 ≤ a ∧ a < τ.1 1 5 := by
      by_cases cp : 0 ≤ a ∧ a < τ.1 1 5
      · exact cp
      · rw [if_neg cp] at c
        exact absurd rfl c
    have cm : 0 ≤ b ∧ b < τ.1 1 0 := by
      by_cases cm : 0 ≤ b ∧ b < τ.1 1 0
      · exact cm
      · rw [if_neg cm] at c2
        exact absurd rfl c2
    by_cases cn : n < 40
    · rw [rm_act hn cn]
      refine yp_bd (fun r => r.1 = 0 ∧ ∃ t, fX9_asksHouse (am_w τ n ((200 : Int32) * a + (2 : Int32) * b)) = some (t, r.2)) (yp_bd (fun t => fX9_asksHouse (am_w τ n ((200 : Int32) * a + (2 : Int32) * b)) = some t) (fun t ht => ht) (fun t ht => yp_some ⟨rfl, t.1, ht⟩)) (fun r hr => ?_)
      rw [if_pos (show (0 : Int32) ≤ r.1 by rw [hr.1]; decide)]
      exact yp_gd (fun _ => yp_some (Or.inr ⟨⟨cp, cm, cn⟩, hr.2, rfl⟩))
    · rw [rm_act0 hn cn h40]
      exact yp_bs rfl (yp_ite (fun x => absurd (show (0 : Int32) ≤ -5 from x) (by decide)) (fun _ => yp_some (Or.inl ⟨fun h => cn h.2.2, rfl, by rw [if_pos ⟨cp, cm⟩]⟩)))
theorem yk_msniff (hn : τ.1 1 9 = nI n) (h40 : n ≤ 40) (h5 : 0 ≤ τ.1 1 5) (h0 : 0 ≤ τ.1 1 0) : yp (fX9_sniff τ a b) (fun r => (¬ ((0 ≤ a ∧ a < τ.1 1 5) ∧ (0 ≤ b ∧ b < τ.1 1 0) ∧ n < 40) ∧ r.2 = τ ∧ r.1 = (if (0 ≤ a ∧ a < τ.1 1 5) ∧ (0 ≤ b ∧ b < τ.1 1 0) then -5 else -2)) ∨ (((0 ≤ a ∧ a < τ.1 1 5) ∧ (0 ≤ b ∧ b < τ.1 1 0) ∧ n < 40) ∧ (∃ t, fX9_asksHouse (am_w τ n (((200 : Int32) * a + (2 : Int32) * b) + (1 : Int32))) = some (t, r.2)) ∧ fX9_bit (sn_I r.2 10 a.toNatClampNeg) b = some r.1)) := by
  unfold fX9_sniff
  rw [m_isPerson h5, m_isMinute h0]
  refine yp_bs rfl (yp_ite (fun c => ?_) (fun c => yp_bs rfl (yp_ite (fun c2 => ?_) (fun c2 => ?_))))
  · by_cases cp : 0 ≤ a ∧ a < τ.1 1 5
    · rw [if_pos cp] at c
      exact absurd c (by decide)
    · exact yp_some (Or.inl ⟨fun h => cp h.1, rfl, by rw [if_neg (fun h => cp h.1)]⟩)
  · by_cases cm : 0 ≤ b ∧ b < τ.1 1 0
    · rw [if_pos cm] at c2
      exact absurd c2 (by decide)
    · exact yp_some (Or.inl ⟨fun h => cm h.2.1, rfl, by rw [if_neg (fun h => cm h.2)]⟩)
  · have cp : 0 ≤ a ∧ a < τ.1 1 5 := by
      by_cases cp : 0 ≤ a ∧ a < τ.1 1 5
      · exact cp
      · rw [if_neg cp] at c
        exact absurd rfl c
    have cm : 0 ≤ b ∧ b < τ.1 1 0 := by
      by_cases cm : 0 ≤ b ∧ b < τ.1 1 0
      · exact cm
      · rw [if_neg cm] at c2
        exact absurd rfl c2
    by_cases cn : n < 40
    · rw [rm_act hn cn]
      refine yp_bd (fun r => r.1 = 0 ∧ ∃ t, fX9_asksHouse (am_w τ n (((200 : Int32) * a + (2 : Int32) * b) + (1 : Int32))) = some (t, r.2)) (yp_bd (fun t => fX9_asksHouse (am_w τ n (((200 : Int32) * a + (2 : Int32) * b) + (1 : Int32))) = some t) (fun t ht => ht) (fun t ht => yp_some ⟨rfl, t.1, ht⟩)) (fun r hr => ?_)
      rw [if_pos (show (0 : Int32) ≤ r.1 by rw [hr.1]; decide)]
      exact yp_gd (fun _ => yp_bd (fun v => fX9_bit (sn_I r.2 10 a.toNatClampNeg) b = some v) (fun v hv => hv) (fun v hv => yp_some (Or.inr ⟨⟨cp, cm, cn⟩, hr.2, hv⟩)))
    · rw [rm_act0 hn cn h40]
      exact yp_bs rfl (yp_ite (fun x => absurd (show (0 : Int32) ≤ -5 from x) (by decide)) (fun _ => yp_some (Or.inl ⟨fun h => cn h.2.2, rfl, by rw [if_pos ⟨cp, cm⟩]⟩)))
end
/-- one act more on both sides: what the two have in common then -/
theorem zK_more {σ τ u t : sn_S} {p m n k : Nat} (h : zK σ τ) (hJ : zJ u t) (hn : τ.1 1 9 = nI n) (hlt : n < 40) (hp : p < sp_n (τ.1 1) 5) (hm : m < sp_n (τ.1 1) 0) (hk : k < 2) {x v : Int32} (hx : x = nI (200 * p + 2 * m + k)) (hu : fX8_liveAnew (ac_w σ n (nI k) (nI p) (nI m)) = some u) (ht : fX9_asksHouse (am_w τ n x) = some (v, t)) : zK u t ∧ yM (am_w τ n x) t ((am_w τ n x).1 1) := by
  obtain ⟨_, ⟨w1, w2⟩, him, hD⟩ := h
  have hW := yA_W w1 hn hlt hp hm hk hx
  have hH := yA_H (σ := σ) w1 w2 hn hlt hp hm hk hx
  obtain ⟨u1, u2, u3⟩ := yc_anew hW hH _ hu
  have hM : yM (am_w τ n x) t ((am_w τ n x).1 1) := (ym_asks rfl hW _ ht).2
  have e1 : t.1 1 = (am_w τ n x).1 1 := hM.1
  have e2 : t.1 2 = τ.1 2 := by
    rw [hM.2.2.2.2.2.2.2.2.2.2.1 2 (by decide) (by decide)]
    unfold am_w
    rw [pI_ne (by decide), pI_ne (by decide)]
  refine ⟨⟨hJ, ⟨by rw [e1]; exact hW, by rw [e1]; exact yH_c (fun q a1 a2 => u1 q (by omega)) hH⟩, fun j hj => ?_, by rw [e1]; exact u3⟩, hM⟩
  rw [yw_c e2 j]
  refine ⟨(him j hj).1, yH_c (fun q a1 a2 => ?_) (him j hj).2⟩
  rw [u1 q (by omega)]
  unfold ac_w
  rw [pI_ne (by omega), pI_ne (by omega), pI_ne (by omega), pI_ne (by omega)]
/-- the two's numbers of persons, minutes, acts -/
theorem yK_n {σ τ : sn_S} (h : zK σ τ) : (σ.1 2 9 = nI (sp_n (τ.1 1) 9) ∧ τ.1 1 9 = nI (sp_n (τ.1 1) 9) ∧ sp_n (τ.1 1) 9 ≤ 40) ∧ (σ.1 2 5 = τ.1 1 5 ∧ τ.1 1 5 = nI (sp_n (τ.1 1) 5) ∧ sp_n (τ.1 1) 5 ≤ 6) ∧ (σ.1 2 0 = τ.1 1 0 ∧ τ.1 1 0 = nI (sp_n (τ.1 1) 0) ∧ sp_n (τ.1 1) 0 ≤ 30) := by
  obtain ⟨_, ⟨w1, w2⟩, _⟩ := h
  have b9 := w1.1.2.2.2.2.2.2.2.2.2.1
  have b5 := w1.1.2.2.2.2.2.1
  have b0 := w1.1.1
  exact ⟨⟨(w2.1 9 (by decide)).trans b9.1, b9.1, b9.2⟩, ⟨w2.1 5 (by decide), b5.1, b5.2⟩, w2.1 0 (by decide), b0.1, b0.2⟩
theorem yK_p {a : Int32} {n : Nat} (hn : n < 100) {c : Int32} (hc : c = nI n) (h : 0 ≤ a ∧ a < c) : ∃ p, p < n ∧ a = nI p := by
  subst hc
  exact nI_idx (by omega) h.1 h.2
theorem yA_x {p m : Nat} : (200 : Int32) * nI p + (2 : Int32) * nI m = nI (200 * p + 2 * m + 0) := by
  rw [show (200 : Int32) * nI p = nI (200 * p) from nI_mul 200 p, yi_2, nI_add]
  rfl
theorem yA_x1 {p m : Nat} : ((200 : Int32) * nI p + (2 : Int32) * nI m) + (1 : Int32) = nI (200 * p + 2 * m + 1) := by
  rw [yA_x]
  exact nI_1 _
/-- behind an act: the tickle, the sneeze in its minute -/
theorem zK_59 : ∀ (σ τ : sn_S) (a b : Int32), zK σ τ → ∃ r σ1 τ1, fX8_stifle σ a b = some (r, σ1) ∧ fX9_stifle τ a b = some (r, τ1) ∧ zK σ1 τ1 := by
  intro σ τ a b h
  obtain ⟨r, r2, σ1, τ1, e1, e2, hJ⟩ := zJ_59 σ τ a b h.1
  obtain ⟨⟨n1, n2, n3⟩, ⟨p1, p2, p3⟩, ⟨m1, m2, m3⟩⟩ := yK_n h
  have f := yk_stifle n1 n3 _ e1
  have g := yk_mstifle n2 n3 (by rw [p2]; exact nI_pos' (by omega)) (by rw [m2]; exact nI_pos' (by omega)) _ e2
  rw [p1, m1] at f
  rcases f with ⟨f1, f2, f3⟩ | ⟨f1, f2, f3⟩
  · rcases g with ⟨g1, g2, g3⟩ | ⟨g1, g2⟩
    · have f2 : σ1 = σ := f2
      have g2 : τ1 = τ := g2
      have er : r = r2 := f3.trans g3.symm
      subst er
      exact ⟨r, σ1, τ1, e1, e2, by rw [f2, show τ1 = τ from g2]; exact h⟩
    · exact absurd g1 f1
  · rcases g with ⟨g1, g2⟩ | ⟨g1, ⟨t, g2⟩, g3⟩
    · exact absurd f1 g1
    · obtain ⟨p, hp, ep⟩ := yK_p (by omega) p2 f1.1
      obtain ⟨m, hm, em⟩ := yK_p (by omega) m2 f1.2.1
      subst ep
      subst em
      have f2 : fX8_liveAnew (ac_w σ (sp_n (τ.1 1) 9) (nI 0) (nI p) (nI m)) = some σ1 := f2
      obtain ⟨k1, k2⟩ := zK_more h hJ n2 f1.2.2 hp hm (k := 0) (by decide) yA_x f2 g2
      have hW1 := k1.2.1.1
      have c5 : sp_n (τ1.1 1) 5 = sp_n (τ.1 1) 5 := by
        have : τ1.1 1 5 = τ.1 1 5 := by
          rw [k2.1]
          unfold am_w
          rw [pI_slot (by decide), pI_slot (by omega)]
        exact sp_mv this
      have c0 : sp_n (τ1.1 1) 0 = sp_n (τ.1 1) 0 := by
        have : τ1.1 1 0 = τ.1 1 0 := by
          rw [k2.1]
          unfold am_w
          rw [pI_slot (by decide), pI_slot (by omega)]
        exact sp_mv this
      have er : r = r2 := by
        unfold fX0_tickleAt at f3
        rw [yi_6, nI_add] at f3
        obtain ⟨_, f4⟩ := sn_gdE f3
        have f5 : r = sn_I σ1 (27 + 7) (nI (6 * m + p)).toNatClampNeg := (Option.some.inj f4).symm
        rw [yi_6, nI_add, nI_clamp (by omega)] at g3
        rw [nI_clamp (by omega)] at f5
        have d1 : σ1.1 (27 + 7) (6 * m + p) = dy_tick (hs_day (τ1.1 1)) m p := ((k1.2.2.2.2.2.1 m (by omega)).2 p (show p < sp_n (τ1.1 1) 5 by omega)).1
        have d2 : τ1.1 12 (6 * m + p) = dy_tick (hs_day (τ1.1 1)) m p := by
          have := ((k2.2.1.1 m (by rw [← k2.1]; omega)).2 p (by show p < sp_n ((am_w τ (sp_n (τ.1 1) 9) _).1 1) 5; rw [← k2.1]; omega)).1
          rw [← k2.1] at this
          exact this
        exact f5.trans (d1.trans (d2.symm.trans g3.symm))
      subst er
      exact ⟨r, σ1, τ1, e1, e2, k1⟩
theorem zK_60 : ∀ (σ τ : sn_S) (a b : Int32), zK σ τ → ∃ r σ1 τ1, fX8_sniff σ a b = some (r, σ1) ∧ fX9_sniff τ a b = some (r, τ1) ∧ zK σ1 τ1 := by
  intro σ τ a b h
  obtain ⟨r, r2, σ1, τ1, e1, e2, hJ⟩ := zJ_60 σ τ a b h.1
  obtain ⟨⟨n1, n2, n3⟩, ⟨p1, p2, p3⟩, ⟨m1, m2, m3⟩⟩ := yK_n h
  have f := yk_sniff n1 n3 _ e1
  have g := yk_msniff n2 n3 (by rw [p2]; exact nI_pos' (by omega)) (by rw [m2]; exact nI_pos' (by omega)) _ e2
  rw [p1, m1] at f
  rcases f with ⟨f1, f2, f3⟩ | ⟨f1, f2, t0, f3, f4⟩
  · rcases g with ⟨g1, g2, g3⟩ | ⟨g1, g2⟩
    · have f2 : σ1 = σ := f2
      have g2 : τ1 = τ := g2
      have er : r = r2 := f3.trans g3.symm
      subst er
      exact ⟨r, σ1, τ1, e1, e2, by rw [f2, show τ1 = τ from g2]; exact h⟩
    · exact absurd g1 f1
  · rcases g with ⟨g1, g2⟩ | ⟨g1, ⟨t, g2⟩, g3⟩
    · exact absurd f1 g1
    · obtain ⟨p, hp, ep⟩ := yK_p (by omega) p2 f1.1
      obtain ⟨m, hm, em⟩ := yK_p (by omega) m2 f1.2.1
      subst ep
      subst em
      have f2 : fX8_liveAnew (ac_w σ (sp_n (τ.1 1) 9) (nI 1) (nI p) (nI m)) = some σ1 := f2
      obtain ⟨k1, k2⟩ := zK_more h hJ n2 f1.2.2 hp hm (k := 1) (by decide) yA_x1 f2 g2
      have c5 : sp_n (τ1.1 1) 5 = sp_n (τ.1 1) 5 := by
        have : τ1.1 1 5 = τ.1 1 5 := by
          rw [k2.1]
          unfold am_w
          rw [pI_slot (by decide), pI_slot (by omega)]
        exact sp_mv this
      have er : r = r2 := by
        rw [nI_clamp (show p < 2 ^ 31 by omega)] at f3 g3
        have d1 : sn_I σ1 (27 + 10) p = dy_sn (hs_day (τ1.1 1)) (sp_n (τ1.1 1) 0) p := k1.2.2.2.2.2.2 p (show p < sp_n (τ1.1 1) 5 by omega)
        have d2 : sn_I τ1 10 p = dy_sn (hs_day (τ1.1 1)) (sp_n (τ1.1 1) 0) p := by
          have := (k2.2.1.2 p (by omega)).1
          rw [← k2.1, if_pos (show p < dy_P (hs_day (τ1.1 1)) from (show p < sp_n (τ1.1 1) 5 by omega))] at this
          exact this
        rw [d1, yb_c] at f3
        rw [d2, yb_m] at g3
        have f3 := Option.some.inj f3
        have g3 := Option.some.inj g3
        have f4 : r = if t0 = 0 then 0 else 1 := f4
        have g3 : _ = r2 := g3
        rw [f4, ← f3, ← g3]
        by_cases c : sp_bit (dy_sn (hs_day (τ1.1 1)) (sp_n (τ1.1 1) 0) p) m = true
        · rw [if_pos c, if_neg (by decide)]
        · rw [if_neg c, if_pos rfl]
      subst er
      exact ⟨r, σ1, τ1, e1, e2, k1⟩
section
variable {σ τ : sn_S} {a b : Int32}
theorem yk_isHouse : fX8_isHouse σ = some (if σ.1 2 10 ≤ 0 then 0 else 1) := by
  unfold fX8_isHouse
  show (if σ.1 2 10 ≤ 0 then _ else _) = _
  by_cases c : σ.1 2 10 ≤ 0
  · rw [if_pos c, if_pos c]
    rfl
  · rw [if_neg c, if_neg c]
    rfl
theorem yk_misHouse : fX9_isHouse τ = some (if τ.1 1 10 ≤ 0 then 0 else 1) := by
  unfold fX9_isHouse
  show (if τ.1 1 10 ≤ 0 then _ else _) = _
  by_cases c : τ.1 1 10 ≤ 0
  · rw [if_pos c, if_pos c]
    rfl
  · rw [if_neg c, if_neg c]
    rfl
theorem yk_undo : yp (fX8_undo σ) (fun r => (¬ (¬ σ.1 2 10 ≤ 0 ∧ 1 ≤ σ.1 2 9) ∧ r.2 = σ) ∨ ((¬ σ.1 2 10 ≤ 0 ∧ 1 ≤ σ.1 2 9) ∧ fX8_liveAnew (sn_pI σ 2 9 (σ.1 2 9 - 1)) = some r.2)) := by
  unfold fX8_undo
  rw [yk_isHouse]
  refine yp_bs rfl (yp_ite (fun c => yp_some (Or.inl ⟨fun h => ?_, rfl⟩)) (fun c => yp_gd (fun _ => yp_ite (fun d => ?_) (fun d => yp_some (Or.inl ⟨fun h => d h.2, rfl⟩)))))
  · rw [if_neg h.1] at c
    exact absurd c (by decide)
  · have c2 : ¬ σ.1 2 10 ≤ 0 := fun z => by
      rw [if_pos z] at c
      exact absurd rfl c
    exact yp_gd (fun _ => yp_gd (fun _ => yp_lt (yp_bd (fun u => fX8_liveAnew (sn_pI σ 2 9 (σ.1 2 9 - 1)) = some u) (fun u hu => hu) (fun u hu => yp_gd (fun _ => yp_some (Or.inr ⟨⟨c2, d⟩, hu⟩))))))
theorem yk_mundo : yp (fX9_undo τ) (fun r => (¬ (¬ τ.1 1 10 ≤ 0 ∧ ¬ τ.1 1 9 = 0) ∧ r.2 = τ) ∨ ((¬ τ.1 1 10 ≤ 0 ∧ ¬ τ.1 1 9 = 0) ∧ r.2 = sn_pI τ 1 9 (τ.1 1 9 - 1))) := by
  unfold fX9_undo
  rw [yk_misHouse]
  refine yp_bs rfl (yp_ite (fun c => yp_some (Or.inl ⟨fun h => ?_, rfl⟩)) (fun c => yp_gd (fun _ => yp_ite (fun d => yp_some (Or.inl ⟨fun h => h.2 d, rfl⟩)) (fun d => ?_))))
  · rw [if_neg h.1] at c
    exact absurd c (by decide)
  · have c2 : ¬ τ.1 1 10 ≤ 0 := fun z => by
      rw [if_pos z] at c
      exact absurd rfl c
    exact yp_gd (fun _ => yp_gd (fun _ => yp_lt (yp_gd (fun _ => yp_some (Or.inr ⟨⟨c2, d⟩, rfl⟩)))))
theorem yk_anew : yp (fX8_anew σ) (fun r => (σ.1 2 10 ≤ 0 ∧ r.2 = σ) ∨ (¬ σ.1 2 10 ≤ 0 ∧ fX8_liveAnew (sn_pI σ 2 9 0) = some r.2)) := by
  unfold fX8_anew
  rw [yk_isHouse]
  refine yp_bs rfl (yp_ite (fun c => yp_some (Or.inl ⟨?_, rfl⟩)) (fun c => yp_gd (fun _ => yp_lt (yp_gd (fun _ => yp_lt (yp_bd (fun u => fX8_liveAnew (sn_pI σ 2 9 0) = some u) (fun u hu => hu) (fun u hu => yp_some (Or.inr ⟨?_, hu⟩))))))))
  · by_cases z : σ.1 2 10 ≤ 0
    · exact z
    · rw [if_neg z] at c
      exact absurd c (by decide)
  · intro z
    rw [if_pos z] at c
    exact absurd rfl c
theorem yk_manew : yp (fX9_anew τ) (fun r => (τ.1 1 10 ≤ 0 ∧ r.2 = τ) ∨ (¬ τ.1 1 10 ≤ 0 ∧ r.2 = sn_pI τ 1 9 0)) := by
  unfold fX9_anew
  rw [yk_misHouse]
  refine yp_bs rfl (yp_ite (fun c => yp_some (Or.inl ⟨?_, rfl⟩)) (fun c => yp_gd (fun _ => yp_lt (yp_gd (fun _ => yp_lt (yp_some (Or.inr ⟨?_, rfl⟩)))))))
  · by_cases z : τ.1 1 10 ≤ 0
    · exact z
    · rw [if_neg z] at c
      exact absurd c (by decide)
  · intro z
    rw [if_pos z] at c
    exact absurd rfl c
theorem yk_rate : yp (fX8_rate σ a b) (fun r => (¬ ((0 ≤ a ∧ a < σ.1 2 8) ∧ (0 ≤ b ∧ b ≤ 99) ∧ σ.1 2 9 ≤ 0) ∧ r.2 = σ) ∨ (((0 ≤ a ∧ a < σ.1 2 8) ∧ (0 ≤ b ∧ b ≤ 99) ∧ σ.1 2 9 ≤ 0) ∧ r.2 = sn_pI σ 6 (((5 : Int32) * a) + (4 : Int32)).toNatClampNeg b)) := by
  unfold fX8_rate
  rw [c_isPolicy]
  refine yp_bs rfl (yp_ite (fun c => yp_some (Or.inl ⟨fun h => ?_, rfl⟩)) (fun c => yp_ite (fun d => yp_some (Or.inl ⟨fun h => absurd d (Int32.not_lt.mpr h.2.1.1), rfl⟩)) (fun d => yp_ite (fun e => yp_gd (fun _ => yp_ite (fun f => ?_) (fun f => yp_some (Or.inl ⟨fun h => f h.2.2, rfl⟩)))) (fun e => yp_some (Or.inl ⟨fun h => e h.2.1.2, rfl⟩)))))
  · rw [if_pos h.1] at c
    exact absurd c (by decide)
  · have c2 : 0 ≤ a ∧ a < σ.1 2 8 := by
      by_cases z : 0 ≤ a ∧ a < σ.1 2 8
      · exact z
      · rw [if_neg z] at c
        exact absurd rfl c
    exact yp_bd (fun _ => True) (fun _ _ => trivial) (fun t _ => yp_gd (fun _ => yp_lt (yp_some (Or.inr ⟨⟨c2, ⟨Int32.not_lt.mp d, e⟩, f⟩, rfl⟩))))
theorem yk_mrate (h8 : 0 ≤ τ.1 1 8) : yp (fX9_rate τ a b) (fun r => (¬ ((0 ≤ a ∧ a < τ.1 1 8) ∧ (0 ≤ b ∧ b ≤ 99) ∧ τ.1 1 9 ≤ 0) ∧ r.2 = τ) ∨ (((0 ≤ a ∧ a < τ.1 1 8) ∧ (0 ≤ b ∧ b ≤ 99) ∧ τ.1 1 9 ≤ 0) ∧ r.2 = sn_pI τ 1 (((49 : Int32) + ((5 : Int32) * a)) + (4 : Int32)).toNatClampNeg b)) := by
  unfold fX9_rate
  have e9 : fX9_in b.toInt64 (0 : Int64) (99 : Int64) = some (if (0 : Int32) ≤ b ∧ b ≤ (99 : Int32) then 1 else 0) := in_eq32 b 0 99
  rw [m_isPolicy h8, e9]
  refine yp_bs rfl (yp_ite (fun c => yp_some (Or.inl ⟨fun h => ?_, rfl⟩)) (fun c => yp_bs rfl (yp_ite (fun d => yp_some (Or.inl ⟨fun h => ?_, rfl⟩)) (fun d => yp_gd (fun _ => yp_ite (fun f => ?_) (fun f => yp_some (Or.inl ⟨fun h => f h.2.2, rfl⟩)))))))
  · rw [if_pos h.1] at c
    exact absurd c (by decide)
  · rw [if_pos h.2.1] at d
    exact absurd d (by decide)
  · have c2 : 0 ≤ a ∧ a < τ.1 1 8 := by
      by_cases z : 0 ≤ a ∧ a < τ.1 1 8
      · exact z
      · rw [if_neg z] at c
        exact absurd rfl c
    have d2 : (0 : Int32) ≤ b ∧ b ≤ 99 := by
      by_cases z : (0 : Int32) ≤ b ∧ b ≤ 99
      · exact z
      · rw [if_neg z] at d
        exact absurd rfl d
    exact yp_bd (fun _ => True) (fun _ _ => trivial) (fun t _ => yp_gd (fun _ => yp_lt (yp_some (Or.inr ⟨⟨c2, d2, f⟩, rfl⟩))))
end
/-- fewer acts on both sides -/
theorem zK_less {σ τ u : sn_S} {j : Nat} (h : zK σ τ) (hJ : zJ u (sn_pI τ 1 9 (nI j))) (hj : j ≤ sp_n (τ.1 1) 9) (hu : fX8_liveAnew (sn_pI σ 2 9 (nI j)) = some u) : zK u (sn_pI τ 1 9 (nI j)) := by
  obtain ⟨_, ⟨w1, w2⟩, him, hD⟩ := h
  obtain ⟨hW, hH⟩ := yA_less w1 hj
  obtain ⟨u1, u2, u3⟩ := yc_anew hW (hH σ w2) _ hu
  refine ⟨hJ, ⟨hW, yH_c (fun q a1 a2 => u1 q (by omega)) (hH σ w2)⟩, fun i hi => ?_, u3⟩
  rw [yw_c (show (sn_pI τ 1 9 (nI j)).1 2 = τ.1 2 from pI_ne (by decide)) i]
  exact ⟨(him i hi).1, yH_c (fun q a1 a2 => (u1 q (by omega)).trans (pI_ne (by omega))) (him i hi).2⟩
theorem zK_61 : ∀ (σ τ : sn_S), zK σ τ → ∃ r σ1 τ1, fX8_undo σ = some (r, σ1) ∧ fX9_undo τ = some (r, τ1) ∧ zK σ1 τ1 := by
  intro σ τ h
  obtain ⟨r, σ1, τ1, e1, e2, hJ⟩ := zJ_61 σ τ h.1
  refine ⟨r, σ1, τ1, e1, e2, ?_⟩
  obtain ⟨⟨n1, n2, n3⟩, -⟩ := yK_n h
  have f := yk_undo _ e1
  have g := yk_mundo _ e2
  have e10 : σ.1 2 10 = τ.1 1 10 := h.2.1.2.1 10 (by decide)
  rw [e10, n1] at f
  rw [n2] at g
  have z0 : (1 ≤ nI (sp_n (τ.1 1) 9)) ↔ ¬ nI (sp_n (τ.1 1) 9) = 0 := by
    rw [yi_0 (by omega), show (1 : Int32) = nI 1 from rfl, nI_leI (by decide) (by omega)]
    omega
  rcases f with ⟨f1, f2⟩ | ⟨f1, f2⟩
  · rcases g with ⟨g1, g2⟩ | ⟨g1, g2⟩
    · have f2 : σ1 = σ := f2
      have g2 : τ1 = τ := g2
      rw [f2, g2]
      exact h
    · exact absurd ⟨g1.1, z0.mpr g1.2⟩ f1
  · rcases g with ⟨g1, g2⟩ | ⟨g1, g2⟩
    · exact absurd ⟨f1.1, z0.mp f1.2⟩ g1
    · have g2 : τ1 = _ := g2
      subst g2
      have l1 : 1 ≤ sp_n (τ.1 1) 9 := by
        have := f1.2
        rw [show (1 : Int32) = nI 1 from rfl, nI_leI (by decide) (by omega)] at this
        exact this
      rw [yi_s1 l1] at f2 hJ ⊢
      exact zK_less h hJ (by omega) f2
theorem zK_62 : ∀ (σ τ : sn_S), zK σ τ → ∃ r σ1 τ1, fX8_anew σ = some (r, σ1) ∧ fX9_anew τ = some (r, τ1) ∧ zK σ1 τ1 := by
  intro σ τ h
  obtain ⟨r, σ1, τ1, e1, e2, hJ⟩ := zJ_62 σ τ h.1
  refine ⟨r, σ1, τ1, e1, e2, ?_⟩
  have f := yk_anew _ e1
  have g := yk_manew _ e2
  have e10 : σ.1 2 10 = τ.1 1 10 := h.2.1.2.1 10 (by decide)
  rw [e10] at f
  rcases f with ⟨f1, f2⟩ | ⟨f1, f2⟩
  · rcases g with ⟨g1, g2⟩ | ⟨g1, g2⟩
    · have f2 : σ1 = σ := f2
      have g2 : τ1 = τ := g2
      rw [f2, g2]
      exact h
    · exact absurd f1 g1
  · rcases g with ⟨g1, g2⟩ | ⟨g1, g2⟩
    · exact absurd g1 f1
    · have g2 : τ1 = _ := g2
      subst g2
      rw [← nI_0] at f2 hJ ⊢
      exact zK_less h hJ (Nat.zero_le _) f2
theorem zK_65 : ∀ (σ τ : sn_S) (a b : Int32), zK σ τ → ∃ r σ1 τ1, fX8_rate σ a b = some (r, σ1) ∧ fX9_rate τ a b = some (r, τ1) ∧ zK σ1 τ1 := by
  intro σ τ a b h
  obtain ⟨r, σ1, τ1, e1, e2, hJ⟩ := zJ_65 σ τ a b h.1
  refine ⟨r, σ1, τ1, e1, e2, ?_⟩
  obtain ⟨⟨n1, n2, n3⟩, -⟩ := yK_n h
  have b8 := h.2.1.1.1.2.2.2.2.2.2.2.2.1
  have l8 := b8.2
  have f := yk_rate _ e1
  have g := yk_mrate (by rw [b8.1]; exact nI_pos' (by omega)) _ e2
  have e8 : σ.1 2 8 = τ.1 1 8 := h.2.1.2.1 8 (by decide)
  rw [e8, n1] at f
  rw [n2] at g
  rcases f with ⟨f1, f2⟩ | ⟨f1, f2⟩
  · rcases g with ⟨g1, g2⟩ | ⟨g1, g2⟩
    · have f2 : σ1 = σ := f2
      have g2 : τ1 = τ := g2
      rw [f2, g2]
      exact h
    · exact absurd g1 f1
  · rcases g with ⟨g1, g2⟩ | ⟨g1, g2⟩
    · exact absurd f1 g1
    · obtain ⟨q, hq, eq⟩ := yK_p (by omega) b8.1 f1.1
      obtain ⟨ev, lv⟩ := yv (b := 99) f1.2.1.1 f1.2.1.2 (by decide)
      generalize b.toNatClampNeg = v at ev lv
      subst eq
      subst ev
      have f2 : σ1 = _ := f2
      have g2 : τ1 = _ := g2
      rw [yi_5, show nI (5 * q) + (4 : Int32) = nI (5 * q + 4) from nI_add _ 4, nI_clamp (by omega)] at f2
      rw [yi_5, show (49 : Int32) + nI (5 * q) = nI (49 + 5 * q) from nI_add 49 _, show nI (49 + 5 * q) + (4 : Int32) = nI (49 + 5 * q + 4) from nI_add _ 4, nI_clamp (by omega), show 49 + 5 * q + 4 = 53 + 5 * q by omega] at g2
      subst f2
      subst g2
      obtain ⟨_, ⟨w1, w2⟩, him, hD⟩ := h
      obtain ⟨hW, hH, hD2⟩ := yA_rate (q := q) (v := v) w1 hq lv
      refine ⟨hJ, ⟨hW, hH σ w2⟩, fun i hi => ?_, yD_c (fun c a1 a2 => pI_ne (by omega)) (hD2 σ hD)⟩
      rw [yw_c (show (sn_pI τ 1 (53 + 5 * q) (nI v)).1 2 = τ.1 2 from pI_ne (by decide)) i]
      exact ⟨(him i hi).1, yH_c (fun c a1 a2 => pI_ne (by omega)) (him i hi).2⟩
end
section
/-! answers: who sneezes when -/
section
variable {σ τ : sn_S}
theorem yz_sbits {i : dy_I} {M p : Nat} (hM : M ≤ 30) : ∀ k, M ≤ k → k < 32 → sp_bit (dy_sn i M p) k = false := fun k hk h32 => by
  unfold dy_sn
  rw [yb_set _ (by omega) k h32, decide_eq_false (by omega)]
  rfl
/-! how often all sneeze -/
end
end
