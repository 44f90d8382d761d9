/-! what a pure function answers lies within bounds, and it answers: rules of an interval analysis whose run is a proof -/
abbrev zs_in (X a b : Int) : Prop := a ≤ X ∧ X ≤ b
def zs_ok {α : Type} (o : Option α) (P : α → Prop) : Prop := ∃ a, o = some a ∧ P a
def zs_sum {α β : Type} (A : α → Prop) (B : β → Prop) : α ⊕ β → Prop
  | .inl a => A a
  | .inr b => B b
section
variable {α β : Type} {P : α → Prop}
theorem zs_some {a : α} (h : P a) : zs_ok (some a) P := ⟨a, rfl, h⟩
theorem zs_inl {A : α → Prop} {B : β → Prop} {a : α} (h : A a) : zs_sum A B (.inl a) := h
theorem zs_inr {A : α → Prop} {B : β → Prop} {b : β} (h : B b) : zs_sum A B (.inr b) := h
theorem zs_sumw {A A2 : α → Prop} {B B2 : β → Prop} {x : α ⊕ β} (h : zs_sum A B x) (l : ∀ v, A v → A2 v) (r : ∀ v, B v → B2 v) : zs_sum A2 B2 x := by
  cases x with
  | inl a => exact l a h
  | inr b => exact r b h
theorem zs_gd {g : Bool} {x : Option α} (hg : g = true) (h : zs_ok x P) : zs_ok (sn_gd g x) P := by
  subst hg
  exact h
theorem zs_lt {τ : Type} {e : τ} {f : τ → Option α} {Q : τ → Prop} (he : Q e) (h : ∀ y, Q y → zs_ok (f y) P) : zs_ok (sn_lt e f) P := h e he
theorem zs_ite {c : Prop} [Decidable c] {x y : Option α} (ht : c → zs_ok x P) (he : ¬ c → zs_ok y P) : zs_ok (if c then x else y) P := by
  by_cases h : c
  · rw [if_pos h]; exact ht h
  · rw [if_neg h]; exact he h
theorem zs_bd_ {τ : Type} {x : Option τ} {f : τ → Option α} {Q : τ → Prop} (hx : zs_ok x Q) (h : ∀ a, Q a → zs_ok (f a) P) : zs_ok (x.bind f) P := by
  obtain ⟨a, e, q⟩ := hx
  subst e
  exact h a q
theorem zs_elim {τ υ : Type} {A : τ → Prop} {B : υ → Prop} {x : τ ⊕ υ} {f : τ → Option α} {g : υ → Option α} (hx : zs_sum A B x) (hf : ∀ v, A v → zs_ok (f v) P) (hg : ∀ v, B v → zs_ok (g v) P) : zs_ok (Sum.elim f g x) P := by
  cases x with
  | inl a => exact hf a hx
  | inr b => exact hg b hx
theorem zs_it {S T : Type} {f : S → Option (S ⊕ T)} {E : T → Prop} (I : S → Prop) (m : S → Int) (hb : ∀ s, I s → 0 ≤ m s ∧ m s < 4999) (step : ∀ s, I s → zs_ok (f s) (zs_sum (fun s' => I s' ∧ m s' < m s) E)) {s0 : S} (h0 : I s0) : zs_ok (sn_it f 5000 s0) E := by
  have key : ∀ (n : Nat) (s : S), I s → (m s).toNat < n → ∃ t, sn_it f n s = some t ∧ E t := by
    intro n
    induction n with
    | zero => intro s _ h; exact absurd h (by omega)
    | succ n ih =>
      intro s hI hm
      obtain ⟨o, e, ho⟩ := step s hI
      unfold sn_it
      rw [e]
      cases o with
      | inl s' =>
        obtain ⟨h1, h2⟩ : I s' ∧ m s' < m s := ho
        have := hb s hI
        have := hb s' h1
        exact ih s' h1 (by omega)
      | inr t => exact ⟨t, rfl, ho⟩
  exact key 5000 s0 h0 (by have := hb s0 h0; omega)
end
/-! whole numbers -/
section
variable {X Y a b c d lo hi v : Int}
theorem zs_w {a' b' : Int} (p : zs_in X a b) (h : a' ≤ a ∧ b ≤ b') : zs_in X a' b' := ⟨by omega, by omega⟩
theorem zs_pt (h : X = v) : zs_in X v v := ⟨by omega, by omega⟩
theorem zs_ptr (h : zs_in X v v) : X = v := by omega
theorem zs_or2 {F : Prop} (pc : X = v ∨ F) (p : zs_in X a b) (h : v < a ∨ b < v) : F := by
  rcases pc with e | f
  · exact absurd e (by omega)
  · exact f
theorem zs_or3 {F : Prop} (pc : X = v ∨ F) (ne : X ≠ Y) (q : zs_in Y c d) (h : c = d ∧ c = v) : F := by
  rcases pc with e | f
  · exact absurd e (by omega)
  · exact f
theorem zs_botne (pf : X ≠ Y) (p : zs_in X a b) (q : zs_in Y c d) (h : a = b ∧ b = c ∧ c = d) : False := by omega
theorem zs_nel (lo hi : Int) (pf : X ≠ Y) (p : zs_in X a b) (q : zs_in Y c d) (h : c = d ∧ a = c ∧ lo ≤ a + 1 ∧ b ≤ hi) : zs_in X lo hi := ⟨by omega, by omega⟩
theorem zs_neh (lo hi : Int) (pf : X ≠ Y) (p : zs_in X a b) (q : zs_in Y c d) (h : c = d ∧ b = c ∧ lo ≤ a ∧ b - 1 ≤ hi) : zs_in X lo hi := ⟨by omega, by omega⟩
theorem zs_ltl (lo hi : Int) (pf : X < Y) (p : zs_in X a b) (q : zs_in Y c d) (h : lo ≤ a ∧ (b ≤ hi ∨ d - 1 ≤ hi)) : zs_in X lo hi := ⟨by omega, by omega⟩
theorem zs_ltr (lo hi : Int) (pf : X < Y) (p : zs_in X a b) (q : zs_in Y c d) (h : (lo ≤ c ∨ lo ≤ a + 1) ∧ d ≤ hi) : zs_in Y lo hi := ⟨by omega, by omega⟩
theorem zs_lel (lo hi : Int) (pf : X ≤ Y) (p : zs_in X a b) (q : zs_in Y c d) (h : lo ≤ a ∧ (b ≤ hi ∨ d ≤ hi)) : zs_in X lo hi := ⟨by omega, by omega⟩
theorem zs_ler (lo hi : Int) (pf : X ≤ Y) (p : zs_in X a b) (q : zs_in Y c d) (h : (lo ≤ c ∨ lo ≤ a) ∧ d ≤ hi) : zs_in Y lo hi := ⟨by omega, by omega⟩
theorem zs_eql (lo hi : Int) (pf : X = Y) (p : zs_in X a b) (q : zs_in Y c d) (h : (lo ≤ a ∨ lo ≤ c) ∧ (b ≤ hi ∨ d ≤ hi)) : zs_in X lo hi := ⟨by omega, by omega⟩
theorem zs_eqr (lo hi : Int) (pf : X = Y) (p : zs_in X a b) (q : zs_in Y c d) (h : (lo ≤ a ∨ lo ≤ c) ∧ (b ≤ hi ∨ d ≤ hi)) : zs_in Y lo hi := ⟨by omega, by omega⟩
theorem zs_botlt (pf : X < Y) (p : zs_in X a b) (q : zs_in Y c d) (h : d ≤ a) : False := by omega
theorem zs_botle (pf : X ≤ Y) (p : zs_in X a b) (q : zs_in Y c d) (h : d < a) : False := by omega
theorem zs_botr (pf : X = Y) (p : zs_in X a b) (q : zs_in Y c d) (h : b < c ∨ d < a) : False := by omega
theorem zs_mono (a c d Y : Int) (h1 : c ≤ Y) (h2 : Y ≤ d) : (a * c ≤ a * Y ∧ a * Y ≤ a * d) ∨ (a * d ≤ a * Y ∧ a * Y ≤ a * c) := by
  rcases Int.le_total 0 a with h | h
  · exact Or.inl ⟨Int.mul_le_mul_of_nonneg_left h1 h, Int.mul_le_mul_of_nonneg_left h2 h⟩
  · exact Or.inr ⟨Int.mul_le_mul_of_nonpos_left h h2, Int.mul_le_mul_of_nonpos_left h h1⟩
theorem zs_prod (lo hi : Int) (p : zs_in X a b) (q : zs_in Y c d) (h : (lo ≤ a * c ∧ lo ≤ a * d ∧ lo ≤ b * c ∧ lo ≤ b * d) ∧ (a * c ≤ hi ∧ a * d ≤ hi ∧ b * c ≤ hi ∧ b * d ≤ hi)) : zs_in (X * Y) lo hi := by
  have h1 := zs_mono a c d Y q.1 q.2
  have h2 := zs_mono b c d Y q.1 q.2
  have h3 := zs_mono Y a b X p.1 p.2
  rw [Int.mul_comm Y a, Int.mul_comm Y b, Int.mul_comm Y X] at h3
  generalize X * Y = z at h3 ⊢
  generalize a * Y = z1 at h1 h3
  generalize b * Y = z2 at h2 h3
  generalize a * c = w1 at h h1
  generalize a * d = w2 at h h1
  generalize b * c = w3 at h h2
  generalize b * d = w4 at h h2
  exact ⟨by omega, by omega⟩
end
/-! numbers of 32 and 64 bits -/
theorem zs_topI (x : Int32) : zs_in x.toInt (-2147483648) 2147483647 := by
  have h1 := Int32.le_toInt x
  have h2 := Int32.toInt_lt x
  exact ⟨by omega, by omega⟩
theorem zs_topL (x : Int64) : zs_in x.toInt (-9223372036854775808) 9223372036854775807 := by
  have h1 := Int64.le_toInt x
  have h2 := Int64.toInt_lt x
  exact ⟨by omega, by omega⟩
section
variable {x y z : Int32} {u w : Int64} {a b c d lo hi : Int}
theorem zs_bm {X : Int} (h : zs_in X (-2147483648) 2147483647) : X.bmod (2 ^ 32) = X := Int.bmod_eq_of_le (by omega) (by omega)
theorem zs_bmL {X : Int} (h : zs_in X (-9223372036854775808) 9223372036854775807) : X.bmod (2 ^ 64) = X := Int.bmod_eq_of_le (by omega) (by omega)
theorem zs_addI (lo hi : Int) (p : zs_in x.toInt a b) (q : zs_in y.toInt c d) (h : (lo ≤ a + c ∧ b + d ≤ hi) ∧ -2147483648 ≤ a + c ∧ b + d ≤ 2147483647) : zs_in (x + y).toInt lo hi := by
  rw [Int32.toInt_add, zs_bm ⟨by omega, by omega⟩]
  exact ⟨by omega, by omega⟩
theorem zs_subI (lo hi : Int) (p : zs_in x.toInt a b) (q : zs_in y.toInt c d) (h : (lo ≤ a - d ∧ b - c ≤ hi) ∧ -2147483648 ≤ a - d ∧ b - c ≤ 2147483647) : zs_in (x - y).toInt lo hi := by
  rw [Int32.toInt_sub, zs_bm ⟨by omega, by omega⟩]
  exact ⟨by omega, by omega⟩
theorem zs_mulI (lo hi : Int) (p : zs_in x.toInt a b) (q : zs_in y.toInt c d) (h : ((lo ≤ a * c ∧ lo ≤ a * d ∧ lo ≤ b * c ∧ lo ≤ b * d) ∧ (a * c ≤ hi ∧ a * d ≤ hi ∧ b * c ≤ hi ∧ b * d ≤ hi)) ∧ -2147483648 ≤ lo ∧ hi ≤ 2147483647) : zs_in (x * y).toInt lo hi := by
  have h1 := zs_prod lo hi p q h.1
  rw [Int32.toInt_mul, zs_bm ⟨by omega, by omega⟩]
  exact h1
theorem zs_addL (lo hi : Int) (p : zs_in u.toInt a b) (q : zs_in w.toInt c d) (h : (lo ≤ a + c ∧ b + d ≤ hi) ∧ -9223372036854775808 ≤ a + c ∧ b + d ≤ 9223372036854775807) : zs_in (u + w).toInt lo hi := by
  rw [Int64.toInt_add, zs_bmL ⟨by omega, by omega⟩]
  exact ⟨by omega, by omega⟩
theorem zs_addlI (lo hi : Int) {l h' : Int} (p : zs_in x.toInt a b) (q : zs_in y.toInt c d) (r : zs_in (x + y).toInt l h') (h : (-2147483648 ≤ a + c ∧ b + d ≤ 2147483647) ∧ lo ≤ l - d ∧ h' - c ≤ hi) : zs_in x.toInt lo hi := by
  rw [Int32.toInt_add, zs_bm ⟨by omega, by omega⟩] at r
  exact ⟨by omega, by omega⟩
theorem zs_sublI (lo hi : Int) {l h' : Int} (p : zs_in x.toInt a b) (q : zs_in y.toInt c d) (r : zs_in (x - y).toInt l h') (h : (-2147483648 ≤ a - d ∧ b - c ≤ 2147483647) ∧ lo ≤ l + c ∧ h' + d ≤ hi) : zs_in x.toInt lo hi := by
  rw [Int32.toInt_sub, zs_bm ⟨by omega, by omega⟩] at r
  exact ⟨by omega, by omega⟩
theorem zs_quot {X : Int} (p : zs_in X a b) (h : 0 ≤ a ∧ 0 < c) : zs_in (X.tdiv c) (a / c) (b / c) := by
  rw [Int.tdiv_eq_ediv_of_nonneg (by omega)]
  exact ⟨Int.ediv_le_ediv h.2 p.1, Int.ediv_le_ediv h.2 p.2⟩
theorem zs_divI (lo hi : Int) (p : zs_in x.toInt a b) (q : zs_in y.toInt c c) (h : (0 ≤ a ∧ 0 < c) ∧ (lo ≤ a / c ∧ b / c ≤ hi) ∧ -2147483648 ≤ lo ∧ hi ≤ 2147483647) : zs_in (x / y).toInt lo hi := by
  have h1 := zs_quot p h.1
  rw [Int32.toInt_div, zs_ptr q, zs_bm ⟨by omega, by omega⟩]
  exact ⟨by omega, by omega⟩
theorem zs_mod (hi : Int) (p : zs_in x.toInt a b) (q : zs_in y.toInt c c) (h : 0 ≤ a ∧ 0 < c ∧ c - 1 ≤ hi) : zs_in (x - x / y * y).toInt 0 hi := by
  have hx := zs_topI x
  have hy := zs_topI y
  have e := zs_ptr q
  have h1 := zs_quot (a := 0) (b := x.toInt) (c := c) ⟨by omega, Int.le_refl _⟩ ⟨Int.le_refl 0, h.2.1⟩
  have h2 : x.toInt.tdiv c = x.toInt / c := Int.tdiv_eq_ediv_of_nonneg (by omega)
  have h3 := Int.emod_nonneg x.toInt (show c ≠ 0 by omega)
  have h4 := Int.emod_lt_of_pos x.toInt h.2.1
  have h5 := Int.mul_ediv_add_emod x.toInt c
  have h6 : 0 ≤ x.toInt / c := Int.ediv_nonneg (by omega) (by omega)
  have h7 : x.toInt / c ≤ x.toInt := Int.ediv_le_self _ (by omega)
  have h8 : x.toInt / c * c = c * (x.toInt / c) := Int.mul_comm _ _
  rw [Int32.toInt_sub, Int32.toInt_mul, Int32.toInt_div, e, h2, zs_bm (X := x.toInt / c) ⟨by omega, by omega⟩, h8]
  generalize c * (x.toInt / c) = k at h5 ⊢
  rw [zs_bm (X := k) ⟨by omega, by omega⟩, zs_bm (X := x.toInt - k) ⟨by omega, by omega⟩]
  exact ⟨by omega, by omega⟩
theorem zs_64 (p : zs_in x.toInt a b) : zs_in x.toInt64.toInt a b := by
  rw [Int32.toInt_toInt64]
  exact p
theorem zs_64r (p : zs_in x.toInt64.toInt a b) : zs_in x.toInt a b := by
  rw [Int32.toInt_toInt64] at p
  exact p
theorem zs_32 (p : zs_in u.toInt a b) (h : -2147483648 ≤ a ∧ b ≤ 2147483647) : zs_in u.toInt32.toInt a b := by
  rw [Int64.toInt_toInt32, zs_bm ⟨by omega, by omega⟩]
  exact p
theorem zs_max (lo hi : Int) (p : zs_in x.toInt a b) (q : zs_in y.toInt c d) (h : (lo ≤ a ∨ lo ≤ c) ∧ b ≤ hi ∧ d ≤ hi) : zs_in (if x < y then y else x).toInt lo hi := by
  by_cases e : x < y
  · rw [if_pos e]
    have := Int32.lt_iff_toInt_lt.mp e
    exact ⟨by omega, by omega⟩
  · rw [if_neg e]
    have : ¬ x.toInt < y.toInt := fun z => e (Int32.lt_iff_toInt_lt.mpr z)
    exact ⟨by omega, by omega⟩
theorem zs_min (lo hi : Int) (p : zs_in x.toInt a b) (q : zs_in y.toInt c d) (h : lo ≤ a ∧ lo ≤ c ∧ (b ≤ hi ∨ d ≤ hi)) : zs_in (if x < y then x else y).toInt lo hi := by
  by_cases e : x < y
  · rw [if_pos e]
    have := Int32.lt_iff_toInt_lt.mp e
    exact ⟨by omega, by omega⟩
  · rw [if_neg e]
    have : ¬ x.toInt < y.toInt := fun z => e (Int32.lt_iff_toInt_lt.mpr z)
    exact ⟨by omega, by omega⟩
theorem zs_nat {x : Int32} (h : 0 ≤ x.toInt) : x.toInt = (x.toBitVec.toNat : Int) ∧ x.toBitVec.toNat < 2147483648 := by
  have h1 : x.toInt = x.toBitVec.toInt := rfl
  have h2 := x.toBitVec.isLt
  rw [h1, BitVec.toInt_eq_toNat_cond] at h ⊢
  by_cases e : 2 * x.toBitVec.toNat < 2 ^ 32
  · rw [if_pos e]
    exact ⟨rfl, by omega⟩
  · rw [if_neg e] at h
    exact absurd h (by omega)
theorem zs_ofnat {x : Int32} (h : x.toBitVec.toNat < 2147483648) : x.toInt = (x.toBitVec.toNat : Int) := by
  have h1 : x.toInt = x.toBitVec.toInt := rfl
  rw [h1, BitVec.toInt_eq_toNat_cond, if_pos (by omega)]
theorem zs_and (q : zs_in y.toInt c d) (h : 0 ≤ c) : zs_in (x &&& y).toInt 0 d := by
  obtain ⟨e1, e2⟩ := zs_nat (x := y) (by omega)
  have e3 : (x &&& y).toBitVec.toNat = x.toBitVec.toNat &&& y.toBitVec.toNat := by rw [Int32.toBitVec_and, BitVec.toNat_and]
  have e4 : x.toBitVec.toNat &&& y.toBitVec.toNat ≤ y.toBitVec.toNat := Nat.and_le_right
  rw [zs_ofnat (by omega)]
  exact ⟨by omega, by omega⟩
theorem zs_and2 (p : zs_in x.toInt a b) (h : 0 ≤ a) : zs_in (x &&& y).toInt 0 b := by
  obtain ⟨e1, e2⟩ := zs_nat (x := x) (by omega)
  have e3 : (x &&& y).toBitVec.toNat = x.toBitVec.toNat &&& y.toBitVec.toNat := by rw [Int32.toBitVec_and, BitVec.toNat_and]
  have e4 : x.toBitVec.toNat &&& y.toBitVec.toNat ≤ x.toBitVec.toNat := Nat.and_le_left
  rw [zs_ofnat (by omega)]
  exact ⟨by omega, by omega⟩
theorem zs_or (n : Nat) (hi : Int) (p : zs_in x.toInt a b) (q : zs_in y.toInt c d) (h : 0 ≤ a ∧ 0 ≤ c ∧ b < 2 ^ n ∧ d < 2 ^ n ∧ hi = 2 ^ n - 1 ∧ n ≤ 30) : zs_in (x ||| y).toInt 0 hi := by
  obtain ⟨e1, e2⟩ := zs_nat (x := x) (by omega)
  obtain ⟨f1, f2⟩ := zs_nat (x := y) (by omega)
  have hn : ((2 ^ n : Nat) : Int) = 2 ^ n := by simp
  have e3 : (x ||| y).toBitVec.toNat = x.toBitVec.toNat ||| y.toBitVec.toNat := by rw [Int32.toBitVec_or, BitVec.toNat_or]
  have e4 : x.toBitVec.toNat ||| y.toBitVec.toNat < 2 ^ n := Nat.or_lt_two_pow (by omega) (by omega)
  have e5 : (2 : Nat) ^ n ≤ 2 ^ 30 := Nat.pow_le_pow_right (by decide) h.2.2.2.2.2
  rw [zs_ofnat (by omega)]
  exact ⟨by omega, by omega⟩
theorem zs_cases (p : zs_in x.toInt a b) (P : Int32 → Prop) (h : 0 ≤ a ∧ b < 2147483648 ∧ ∀ j : Nat, j < (b + 1).toNat → a ≤ (j : Int) → P (nI j)) : P x := by
  have e : x = nI x.toInt.toNat := by
    apply Int32.toInt_inj.mp
    rw [nI_toInt (by omega)]
    omega
  rw [e]
  exact h.2.2 _ (by omega) (by omega)
theorem zs_range (p : zs_in x.toInt a b) (P : Nat → Prop) (h : 0 ≤ a ∧ ∀ k : Nat, k < (b + 1).toNat → a ≤ (k : Int) → P k) : P x.toNatClampNeg := by
  have e : x.toNatClampNeg = x.toInt.toNat := rfl
  rw [e]
  exact h.2 _ (by omega) (by omega)
theorem zs_val (p : zs_in x.toInt a b) (h : 0 ≤ a ∧ b < 2147483648) : ∃ j : Nat, j < (b + 1).toNat ∧ x = nI j := by
  refine ⟨x.toInt.toNat, by omega, ?_⟩
  apply Int32.toInt_inj.mp
  rw [nI_toInt (by omega)]
  omega
theorem zs_I_lt (h : x < y) : x.toInt < y.toInt := Int32.lt_iff_toInt_lt.mp h
theorem zs_I_ltn (h : ¬ x < y) : y.toInt ≤ x.toInt := Int.not_lt.mp (fun z => h (Int32.lt_iff_toInt_lt.mpr z))
theorem zs_I_le (h : x ≤ y) : x.toInt ≤ y.toInt := Int32.le_iff_toInt_le.mp h
theorem zs_I_len (h : ¬ x ≤ y) : y.toInt < x.toInt := Int.not_le.mp (fun z => h (Int32.le_iff_toInt_le.mpr z))
theorem zs_I_eq (h : x = y) : x.toInt = y.toInt := congrArg _ h
theorem zs_I_eqn (h : ¬ x = y) : x.toInt ≠ y.toInt := fun z => h (Int32.toInt_inj.mp z)
theorem zs_lgc : (lg_cmp u w < 0 ↔ u.toInt < w.toInt) ∧ (0 < lg_cmp u w ↔ w.toInt < u.toInt) ∧ (lg_cmp u w = 0 ↔ u.toInt = w.toInt) ∧ (lg_cmp u w ≤ 0 ↔ u.toInt ≤ w.toInt) ∧ (0 ≤ lg_cmp u w ↔ w.toInt ≤ u.toInt) := by
  unfold lg_cmp
  by_cases h1 : u > w
  · have h2 : w.toInt < u.toInt := Int64.lt_iff_toInt_lt.mp h1
    rw [if_pos h1]
    refine ⟨⟨fun h => absurd h (by decide), fun h => by omega⟩, ⟨fun _ => h2, fun _ => by decide⟩, ⟨fun h => absurd h (by decide), fun h => by omega⟩, ⟨fun h => absurd h (by decide), fun h => by omega⟩, ⟨fun _ => by omega, fun _ => by decide⟩⟩
  · have h2 : ¬ w.toInt < u.toInt := fun z => h1 (Int64.lt_iff_toInt_lt.mpr z)
    rw [if_neg h1]
    by_cases h3 : u = w
    · have h4 : u.toInt = w.toInt := congrArg _ h3
      rw [if_pos h3]
      refine ⟨⟨fun h => absurd h (by decide), fun h => by omega⟩, ⟨fun h => absurd h (by decide), fun h => by omega⟩, ⟨fun _ => h4, fun _ => by decide⟩, ⟨fun _ => by omega, fun _ => by decide⟩, ⟨fun _ => by omega, fun _ => by decide⟩⟩
    · have h4 : u.toInt ≠ w.toInt := fun z => h3 (Int64.toInt_inj.mp z)
      rw [if_neg h3]
      refine ⟨⟨fun _ => by omega, fun _ => by decide⟩, ⟨fun h => absurd h (by decide), fun h => by omega⟩, ⟨fun h => absurd h (by decide), fun h => by omega⟩, ⟨fun _ => by omega, fun _ => by decide⟩, ⟨fun h => absurd h (by decide), fun h => by omega⟩⟩
theorem zs_lg_lt (h : lg_cmp u w < 0) : u.toInt < w.toInt := zs_lgc.1.mp h
theorem zs_lg_ltn (h : ¬ lg_cmp u w < 0) : w.toInt ≤ u.toInt := Int.not_lt.mp (fun z => h (zs_lgc.1.mpr z))
theorem zs_lg_le (h : lg_cmp u w ≤ 0) : u.toInt ≤ w.toInt := zs_lgc.2.2.2.1.mp h
theorem zs_lg_len (h : ¬ lg_cmp u w ≤ 0) : w.toInt < u.toInt := Int.not_le.mp (fun z => h (zs_lgc.2.2.2.1.mpr z))
theorem zs_lg_eq (h : lg_cmp u w = 0) : u.toInt = w.toInt := zs_lgc.2.2.1.mp h
theorem zs_lg_eqn (h : ¬ lg_cmp u w = 0) : u.toInt ≠ w.toInt := fun z => h (zs_lgc.2.2.1.mpr z)
theorem zs_lg_ltf (h : 0 < lg_cmp u w) : w.toInt < u.toInt := zs_lgc.2.1.mp h
theorem zs_lg_ltfn (h : ¬ 0 < lg_cmp u w) : u.toInt ≤ w.toInt := Int.not_lt.mp (fun z => h (zs_lgc.2.1.mpr z))
theorem zs_lg_lef (h : 0 ≤ lg_cmp u w) : w.toInt ≤ u.toInt := zs_lgc.2.2.2.2.mp h
theorem zs_lg_lefn (h : ¬ 0 ≤ lg_cmp u w) : u.toInt < w.toInt := Int.not_le.mp (fun z => h (zs_lgc.2.2.2.2.mpr z))
theorem zs_gin {n : Nat} (p : zs_in x.toInt a b) (h : 0 ≤ a ∧ b < (n : Int)) : sn_in x n = true := by
  unfold sn_in
  have e : x.toNatClampNeg = x.toInt.toNat := rfl
  have h0 : 0 ≤ x := Int32.le_iff_toInt_le.mpr (by
    show (0 : Int32).toInt ≤ x.toInt
    have : (0 : Int32).toInt = 0 := by decide
    omega)
  simp only [Bool.and_eq_true, decide_eq_true_eq]
  exact ⟨h0, by omega⟩
theorem zs_b01 (p : zs_in x.toInt a b) (h : 0 ≤ a ∧ b ≤ 1) : sn_b01 x = true := by
  have : x.toInt = 0 ∨ x.toInt = 1 := by omega
  rcases this with e | e
  · have : x = 0 := Int32.toInt_inj.mp (by rw [e]; decide)
    subst this
    decide
  · have : x = 1 := Int32.toInt_inj.mp (by rw [e]; decide)
    subst this
    decide
theorem zs_nzL (p : zs_in u.toInt a b) (h : 0 < a ∨ b < 0) : (u != 0) = true := by
  have : u ≠ 0 := fun z => by
    subst z
    have : (0 : Int64).toInt = 0 := by decide
    omega
  simpa using this
theorem zs_nzqL (h : u.toInt ≠ w.toInt) : (u != w) = true := by
  have : u ≠ w := fun z => h (congrArg _ z)
  simpa using this
theorem zs_eqv {v : Int32} (h : zs_in x.toInt a b) (h2 : v.toInt = a ∧ a = b) : x = v := Int32.toInt_inj.mp (by omega)
theorem zs_syI {k o c : Int} (off : Int) (hc : x.toInt = c + o) (p : zs_in x.toInt a b) (q : zs_in y.toInt k k) (h1 : -2147483648 ≤ a + k ∧ b + k ≤ 2147483647) (h2 : o + k = off) : (x + y).toInt = c + off := by
  rw [Int32.toInt_add, zs_bm ⟨by omega, by omega⟩]
  omega
theorem zs_linx {k : Int} (q : zs_in y.toInt k k) (p : zs_in x.toInt a b) (h : k = 6 ∧ -2147483648 ≤ 6 * a ∧ 6 * b ≤ 2147483647) : (y * x).toInt = 6 * x.toInt := by
  rw [Int32.toInt_mul, zs_ptr q, h.1, zs_bm ⟨by omega, by omega⟩]
theorem zs_linv {k : Int} (e : z = y * x) (q : zs_in y.toInt k k) (p : zs_in x.toInt a b) (h : k = 6 ∧ -2147483648 ≤ 6 * a ∧ 6 * b ≤ 2147483647) : z.toInt = 6 * x.toInt := by
  rw [e]
  exact zs_linx q p h
theorem zs_lin (lo hi : Int) {X Y : Int} (hl : Y = 6 * X) (p : zs_in X a b) (h : lo ≤ 6 * a ∧ 6 * b ≤ hi) : zs_in Y lo hi := ⟨by omega, by omega⟩
end
/-! what a house and a day tell of themselves: the places in use -/
def zs_Ru (cq ck rq s o m : Nat) (hi : Int) (σ : sn_S) : Prop := ∀ j : Nat, j < m → (j : Int) < (σ.1 cq ck).toInt → 0 ≤ (σ.1 rq (s * j + o)).toInt ∧ (σ.1 rq (s * j + o)).toInt ≤ hi
def zs_H (h : Nat) (σ : sn_S) : Prop := zs_Ru (h + 1) 6 (h + 3) 2 1 5 29 σ ∧ zs_Ru (h + 1) 7 (h + 4) 2 0 8 5 σ ∧ zs_Ru (h + 1) 7 (h + 4) 2 1 8 5 σ ∧ zs_Ru (h + 1) 8 (h + 5) 5 0 6 5 σ
def zs_D (d : Nat) (σ : sn_S) : Prop := zs_Ru d 2 (d + 6) 2 0 8 5 σ ∧ zs_Ru d 2 (d + 6) 2 1 8 5 σ
def zs_RC (σ : sn_S) : Prop := (zs_H 1 σ ∧ zs_H 73 σ ∧ zs_H 80 σ ∧ zs_H 87 σ) ∧ zs_D 27 σ ∧ zs_D 38 σ ∧ zs_D 59 σ
def zs_kX (q k : Nat) : Bool := bif (Nat.beq q 2 || Nat.beq q 74 || Nat.beq q 81 || Nat.beq q 88) then (Nat.beq k 6 || Nat.beq k 7 || Nat.beq k 8) else (bif (Nat.beq q 4 || Nat.beq q 5 || Nat.beq q 76 || Nat.beq q 77 || Nat.beq q 83 || Nat.beq q 84 || Nat.beq q 90 || Nat.beq q 91 || Nat.beq q 33 || Nat.beq q 44 || Nat.beq q 65) then true else (bif (Nat.beq q 6 || Nat.beq q 78 || Nat.beq q 85 || Nat.beq q 92) then (Nat.beq (k % 5) 0) else (bif (Nat.beq q 27 || Nat.beq q 38 || Nat.beq q 59) then (Nat.beq k 2) else false)))
section
variable {σ τ : sn_S} {cq ck rq s o m : Nat} {hi : Int}
theorem zs_Ru_c (h1 : τ.1 cq ck = σ.1 cq ck) (h2 : ∀ j, j < m → τ.1 rq (s * j + o) = σ.1 rq (s * j + o)) (h : zs_Ru cq ck rq s o m hi σ) : zs_Ru cq ck rq s o m hi τ := fun j hj hc => by
  rw [h2 j hj]
  exact h j hj (by rw [← h1]; exact hc)
theorem zs_m5 (j : Nat) : Nat.beq ((5 * j + 0) % 5) 0 = true := by
  have : (5 * j + 0) % 5 = 0 := by omega
  rw [this]
  rfl
theorem zs_H_c {a : Nat} (h6 : τ.1 (a + 1) 6 = σ.1 (a + 1) 6) (h7 : τ.1 (a + 1) 7 = σ.1 (a + 1) 7) (h8 : τ.1 (a + 1) 8 = σ.1 (a + 1) 8) (h3 : ∀ k, τ.1 (a + 3) k = σ.1 (a + 3) k) (h4 : ∀ k, τ.1 (a + 4) k = σ.1 (a + 4) k) (h5 : ∀ j, τ.1 (a + 5) (5 * j + 0) = σ.1 (a + 5) (5 * j + 0)) (h : zs_H a σ) : zs_H a τ :=
  ⟨zs_Ru_c h6 (fun _ _ => h3 _) h.1, zs_Ru_c h7 (fun _ _ => h4 _) h.2.1, zs_Ru_c h7 (fun _ _ => h4 _) h.2.2.1, zs_Ru_c h8 (fun _ _ => h5 _) h.2.2.2⟩
theorem zs_D_c {a : Nat} (h2 : τ.1 a 2 = σ.1 a 2) (h6 : ∀ k, τ.1 (a + 6) k = σ.1 (a + 6) k) (h : zs_D a σ) : zs_D a τ := ⟨zs_Ru_c h2 (fun _ _ => h6 _) h.1, zs_Ru_c h2 (fun _ _ => h6 _) h.2⟩
theorem zs_RC_c (e : ∀ q k, zs_kX q k = true → τ.1 q k = σ.1 q k) (h : zs_RC σ) : zs_RC τ := by
  obtain ⟨⟨h1, h2, h3, h4⟩, d1, d2, d3⟩ := h
  exact ⟨⟨zs_H_c (e 2 6 rfl) (e 2 7 rfl) (e 2 8 rfl) (fun k => e 4 k rfl) (fun k => e 5 k rfl) (fun j => e 6 _ (zs_m5 j)) h1,
    zs_H_c (e 74 6 rfl) (e 74 7 rfl) (e 74 8 rfl) (fun k => e 76 k rfl) (fun k => e 77 k rfl) (fun j => e 78 _ (zs_m5 j)) h2,
    zs_H_c (e 81 6 rfl) (e 81 7 rfl) (e 81 8 rfl) (fun k => e 83 k rfl) (fun k => e 84 k rfl) (fun j => e 85 _ (zs_m5 j)) h3,
    zs_H_c (e 88 6 rfl) (e 88 7 rfl) (e 88 8 rfl) (fun k => e 90 k rfl) (fun k => e 91 k rfl) (fun j => e 92 _ (zs_m5 j)) h4⟩,
    zs_D_c (e 27 2 rfl) (fun k => e 33 k rfl) d1, zs_D_c (e 38 2 rfl) (fun k => e 44 k rfl) d2, zs_D_c (e 59 2 rfl) (fun k => e 65 k rfl) d3⟩
end
/-! states within a table of bounds, some cells of which are kept -/
abbrev zs_T : Type := Nat → Nat → Int × Int
/-- a table whose cell (1000, 0) is 0 asks for the places in use besides -/
def zs_isC (t : zs_T) : Bool := (t 1000 0).2 == 0
def zs_fr (t : zs_T) (key : Nat → Nat → Bool) (q k : Nat) : Bool := key q k || (zs_isC t && zs_kX q k)
def zs_SB (t : zs_T) (σ : sn_S) : Prop := (∀ q k, (t q k).1 ≤ (σ.1 q k).toInt ∧ (σ.1 q k).toInt ≤ (t q k).2) ∧ (zs_isC t = true → zs_RC σ)
def zs_KE (key : Nat → Nat → Bool) (kl : Nat → Bool) (σ0 σ : sn_S) : Prop := (∀ q k, key q k = true → σ.1 q k = σ0.1 q k) ∧ ∀ q, kl q = true → σ.2.1 q = σ0.2.1 q
abbrev zs_G (t : zs_T) (key : Nat → Nat → Bool) (kl : Nat → Bool) (σ0 σ : sn_S) : Prop := zs_SB t σ ∧ zs_KE key kl σ0 σ
abbrev zs_bd (p : Int × Int) (lo hi : Int) : Prop := lo ≤ p.1 ∧ p.2 ≤ hi
abbrev zs_wb (p : Int × Int) (a b : Int) : Prop := p.1 ≤ a ∧ b ≤ p.2
section
variable {t : zs_T} {key : Nat → Nat → Bool} {kl : Nat → Bool} {σ0 σ : sn_S} {q k : Nat} {z : Int × Int} {v : Int32} {a b : Int}
theorem zs_fr1 (h : zs_fr t key q k = false) : key q k = false := by
  unfold zs_fr at h
  cases e : key q k with
  | false => rfl
  | true => rw [e, Bool.true_or] at h; cases h
theorem zs_fr2 (h : zs_fr t key q k = false) (hC : zs_isC t = true) : zs_kX q k = false := by
  unfold zs_fr at h
  rw [hC, Bool.true_and] at h
  cases e : zs_kX q k with
  | false => rfl
  | true => rw [e, Bool.or_true] at h; cases h
theorem zs_rf (h : zs_SB t σ) : zs_G t key kl σ σ := ⟨h, fun _ _ _ => rfl, fun _ _ => rfl⟩
theorem zs_rdu (h : zs_SB t σ) (hq : ∀ k, t q k = z) : zs_in (sn_I σ q k).toInt z.1 z.2 := by
  have := h.1 q k
  rw [hq k] at this
  exact this
theorem zs_rdk (h : zs_SB t σ) (hq : t q k = z) : zs_in (sn_I σ q k).toInt z.1 z.2 := by
  have := h.1 q k
  rw [hq] at this
  exact this
theorem zs_rdb {lo hi : Int} (h : zs_SB t σ) (hb : zs_bd (t q k) lo hi) : zs_in (sn_I σ q k).toInt lo hi := by
  have := h.1 q k
  show lo ≤ (σ.1 q k).toInt ∧ (σ.1 q k).toInt ≤ hi
  exact ⟨by omega, by omega⟩
theorem zs_wr (h : zs_G t key kl σ0 σ) (hv : (t q k).1 ≤ v.toInt ∧ v.toInt ≤ (t q k).2) (hf : zs_fr t key q k = false) : zs_G t key kl σ0 (sn_pI σ q k v) := by
  have hk := zs_fr1 hf
  refine ⟨⟨fun q1 k1 => ?_, fun hC => zs_RC_c (fun q1 k1 h1 => ?_) (h.1.2 hC)⟩, fun q1 k1 h1 => ?_, h.2.2⟩
  · show (t q1 k1).1 ≤ (if q1 = q ∧ k1 = k then v else σ.1 q1 k1).toInt ∧ (if q1 = q ∧ k1 = k then v else σ.1 q1 k1).toInt ≤ (t q1 k1).2
    by_cases e : q1 = q ∧ k1 = k
    · rw [if_pos e, e.1, e.2]
      exact hv
    · rw [if_neg e]
      exact h.1.1 q1 k1
  · show (if q1 = q ∧ k1 = k then v else σ.1 q1 k1) = _
    by_cases e : q1 = q ∧ k1 = k
    · rw [e.1, e.2, zs_fr2 hf hC] at h1
      cases h1
    · rw [if_neg e]
  · show (if q1 = q ∧ k1 = k then v else σ.1 q1 k1) = _
    by_cases e : q1 = q ∧ k1 = k
    · rw [e.1, e.2, hk] at h1
      cases h1
    · rw [if_neg e]
      exact h.2.1 q1 k1 h1
theorem zs_wru (h : zs_G t key kl σ0 σ) (hq : ∀ k, t q k = z) (p : zs_in v.toInt a b) (hz : z.1 ≤ a ∧ b ≤ z.2) (hk : ∀ k, zs_fr t key q k = false) : zs_G t key kl σ0 (sn_pI σ q k v) := zs_wr h (by rw [hq]; omega) (hk k)
theorem zs_wrt (h : zs_G t key kl σ0 σ) (hq : ∀ k, t q k = (-2147483648, 2147483647)) (hk : ∀ k, zs_fr t key q k = false) : zs_G t key kl σ0 (sn_pI σ q k v) := zs_wr h (by rw [hq]; exact zs_topI v) (hk k)
theorem zs_wrk (h : zs_G t key kl σ0 σ) (hq : t q k = z) (p : zs_in v.toInt a b) (hz : z.1 ≤ a ∧ b ≤ z.2) (hk : zs_fr t key q k = false) : zs_G t key kl σ0 (sn_pI σ q k v) := zs_wr h (by rw [hq]; omega) hk
theorem zs_wrkt (h : zs_G t key kl σ0 σ) (hq : t q k = (-2147483648, 2147483647)) (hk : zs_fr t key q k = false) : zs_G t key kl σ0 (sn_pI σ q k v) := zs_wr h (by rw [hq]; exact zs_topI v) hk
theorem zs_wrb (h : zs_G t key kl σ0 σ) (p : zs_in v.toInt a b) (hb : zs_wb (t q k) a b ∧ zs_fr t key q k = false) : zs_G t key kl σ0 (sn_pI σ q k v) := zs_wr h (by omega) hb.2
theorem zs_wrL {x : Int64} (h : zs_G t key kl σ0 σ) (hk : kl q = false) : zs_G t key kl σ0 (sn_pL σ q k x) := by
  refine ⟨⟨h.1.1, fun hC => zs_RC_c (fun _ _ _ => rfl) (h.1.2 hC)⟩, h.2.1, fun q1 h1 => ?_⟩
  funext k1
  show (if q1 = q ∧ k1 = k then x else σ.2.1 q1 k1) = _
  rw [if_neg (fun e => by rw [e.1, hk] at h1; cases h1), h.2.2 q1 h1]
theorem zs_wrR {x : Option Nat} (h : zs_G t key kl σ0 σ) : zs_G t key kl σ0 (sn_pR σ q k x) := ⟨⟨h.1.1, fun hC => zs_RC_c (fun _ _ _ => rfl) (h.1.2 hC)⟩, h.2.1, h.2.2⟩
theorem zs_wrcp {q2 : Nat} (h : zs_G t key kl σ0 σ) (hq : ∀ k, t q2 k = t q k) (hk : ∀ k, zs_fr t key q k = false) : zs_G t key kl σ0 (sn_pI σ q k (sn_I σ q2 k)) := zs_wr h (by rw [← hq]; exact h.1.1 q2 k) (hk k)
theorem zs_sbw (h : zs_SB t σ) (hv : (t q k).1 ≤ v.toInt ∧ v.toInt ≤ (t q k).2) (hf : (zs_isC t && zs_kX q k) = false := by rfl) : zs_SB t (sn_pI σ q k v) := (zs_wr (key := fun _ _ => false) (kl := fun _ => false) (σ0 := σ) ⟨h, fun _ _ _ => rfl, fun _ _ => rfl⟩ hv hf).1
theorem zs_bif {α : Type} {P : α → Prop} {c : Bool} {a b : α} (ha : P a) (hb : P b) : P (bif c then a else b) := by
  cases c
  · exact hb
  · exact ha
/-- a place in use, read -/
theorem zs_use {cq ck rq s o m : Nat} {hi : Int} {x i : Int32} (R : zs_Ru cq ck rq s o m hi σ) (hx : zs_in x.toInt a b) (hm : 0 ≤ a ∧ b < (m : Int)) (hlt : x.toInt < (sn_I σ cq ck).toInt) (hi' : i.toInt = (s : Int) * x.toInt + (o : Int)) : zs_in (sn_I σ rq i.toNatClampNeg).toInt 0 hi := by
  have e1 : i.toNatClampNeg = i.toInt.toNat := rfl
  have e3 : (s : Int) * x.toInt = ((s * x.toInt.toNat : Nat) : Int) := by
    rw [Int.natCast_mul]
    congr 1
    omega
  have e2 : i.toNatClampNeg = s * x.toInt.toNat + o := by
    rw [e1, hi', e3]
    omega
  have := R x.toInt.toNat (by omega) (by show ((x.toInt.toNat : Nat) : Int) < (σ.1 cq ck).toInt; have : (sn_I σ cq ck).toInt = (σ.1 cq ck).toInt := rfl; omega)
  rw [e2]
  exact this
theorem zs_i20 {x : Int32} (hx : zs_in x.toInt a b) (h : 0 ≤ a ∧ b ≤ 1000) : ((2 : Int32) * x).toInt = ((2 : Nat) : Int) * x.toInt + ((0 : Nat) : Int) := by
  rw [Int32.toInt_mul, show (2 : Int32).toInt = 2 by decide, zs_bm ⟨by omega, by omega⟩]
  omega
theorem zs_i21 {x : Int32} (hx : zs_in x.toInt a b) (h : 0 ≤ a ∧ b ≤ 1000) : ((2 : Int32) * x + (1 : Int32)).toInt = ((2 : Nat) : Int) * x.toInt + ((1 : Nat) : Int) := by
  rw [Int32.toInt_add, Int32.toInt_mul, show (2 : Int32).toInt = 2 by decide, show (1 : Int32).toInt = 1 by decide, zs_bm (X := 2 * x.toInt) ⟨by omega, by omega⟩, zs_bm ⟨by omega, by omega⟩]
  omega
theorem zs_i50 {x : Int32} (hx : zs_in x.toInt a b) (h : 0 ≤ a ∧ b ≤ 1000) : ((5 : Int32) * x + (0 : Int32)).toInt = ((5 : Nat) : Int) * x.toInt + ((0 : Nat) : Int) := by
  rw [Int32.toInt_add, Int32.toInt_mul, show (5 : Int32).toInt = 5 by decide, show (0 : Int32).toInt = 0 by decide, zs_bm (X := 5 * x.toInt) ⟨by omega, by omega⟩, zs_bm ⟨by omega, by omega⟩]
  omega
end
/-! the tables -/
def zs_cnt (k : Nat) : Int × Int := bif Nat.beq k 0 then (0, 30) else (bif Nat.beq k 1 then (0, 9) else (bif Nat.beq k 2 then (0, 3) else (bif Nat.beq k 3 then (0, 999) else (bif Nat.beq k 4 then (0, 10) else (bif Nat.beq k 5 then (0, 6) else (bif Nat.beq k 6 then (0, 5) else (bif Nat.beq k 7 then (0, 8) else (bif Nat.beq k 8 then (0, 6) else (bif Nat.beq k 9 then (0, 40) else (bif Nat.beq k 10 then (0, 900) else (0, 999)))))))))))
def zs_pol (k : Nat) : Int × Int := bif Nat.beq (k % 5) 0 then (0, 5) else (bif Nat.ble (k % 5) 2 then (0, 29) else (0, 99))
def zs_row (k : Nat) : Int × Int := bif Nat.ble k 10 then (zs_cnt k) else (bif Nat.ble k 22 then (0, 99) else (bif Nat.ble k 32 then (0, 29) else (bif Nat.ble k 48 then (0, 5) else (bif Nat.ble k 78 then (zs_pol (k - 49)) else (0, 1199)))))
def zs_tC (q k : Nat) : Int × Int := bif (Nat.beq q 2 || Nat.beq q 74 || Nat.beq q 81 || Nat.beq q 88) then (zs_cnt k) else (bif (Nat.beq q 7 || Nat.beq q 14 || Nat.beq q 79 || Nat.beq q 86 || Nat.beq q 93) then (0, 29) else (bif Nat.beq q 9 then (bif Nat.beq k 5 then (0, 6) else (bif Nat.beq k 6 then (0, 5) else (bif Nat.beq k 7 then (0, 8) else (bif Nat.beq k 8 then (0, 6) else ((-2147483648), 2147483647))))) else (bif Nat.beq q 16 then (0, 1) else (bif Nat.beq q 17 then (bif Nat.beq k 1 then (0, 900) else ((-2147483648), 2147483647)) else (bif Nat.beq q 25 then (0, 3) else (bif Nat.beq q 26 then ((-1), 60) else (bif (Nat.beq q 27 || Nat.beq q 38 || Nat.beq q 59) then (bif Nat.beq k 0 then (0, 30) else (bif Nat.beq k 1 then (0, 6) else (bif Nat.beq k 2 then (0, 8) else ((-2147483648), 2147483647)))) else (bif (Nat.beq q 37 || Nat.beq q 48 || Nat.beq q 69) then (0, 1073741823) else (bif (Nat.beq q 49 || Nat.beq q 70) then (bif Nat.beq k 2 then (0, 6) else ((-2147483648), 2147483647)) else (bif (Nat.beq q 51 || Nat.beq q 72) then ((-1), 63) else (bif Nat.beq q 1000 then (0, 0) else ((-2147483648), 2147483647))))))))))))
def zs_tM (q k : Nat) : Int × Int := bif Nat.beq q 0 then (bif Nat.beq k 5 then (0, 900) else (bif Nat.beq k 7 then (0, 900) else (bif Nat.beq k 8 then (0, 900) else (bif Nat.beq k 9 then (0, 900) else (bif Nat.beq k 12 then (0, 3) else (bif Nat.beq k 21 then (0, 1000) else (bif Nat.beq k 22 then ((-1), 29) else (bif Nat.beq k 36 then (0, 270) else ((-2147483648), 2147483647))))))))) else (bif (Nat.beq q 1 || Nat.beq q 6) then (zs_row k) else (bif Nat.beq q 2 then (zs_row (k % 119)) else (bif Nat.beq q 3 then (0, 1) else (bif Nat.beq q 10 then (0, 1073741823) else (bif Nat.beq q 19 then (0, 299) else (bif Nat.beq q 21 then ((-1), 60) else (bif Nat.beq q 22 then (0, 3) else ((-2147483648), 2147483647))))))))
def zs_kC0 (q k : Nat) : Bool := bif (Nat.beq q 16 || Nat.beq q 18 || Nat.beq q 25 || Nat.beq q 26) then true else (bif Nat.beq q 17 then (Nat.beq k 1 || Nat.beq k 2 || Nat.beq k 3) else false)
def zs_lC (q : Nat) : Bool := Nat.beq q 21 || Nat.beq q 22 || Nat.beq q 23 || Nat.beq q 24
def zs_kA (q k : Nat) : Bool := bif Nat.beq q 2 then (bif Nat.beq k 9 then false else true) else (bif (Nat.beq q 3 || Nat.beq q 4 || Nat.beq q 5) then true else (bif Nat.beq q 6 then (bif Nat.beq (k % 5) 4 then false else true) else (bif (Nat.ble 73 q && Nat.ble q 93) then true else (zs_kC0 q k))))
def zs_kB (q k : Nat) : Bool := bif (Nat.beq q 2 || Nat.beq q 6 || Nat.beq q 7) then true else (zs_kA q k)
def zs_kC (q k : Nat) : Bool := bif (Nat.ble 27 q && Nat.ble q 37) then true else (zs_kB q k)
def zs_kM0 (q k : Nat) : Bool := bif (Nat.beq q 3 || Nat.beq q 4 || Nat.beq q 21 || Nat.beq q 22) then true else (bif Nat.beq q 0 then (Nat.beq k 5 || Nat.beq k 12 || Nat.beq k 13) else false)
def zs_lM (q : Nat) : Bool := Nat.beq q 23
def zs_kM (q k : Nat) : Bool := bif (Nat.beq q 1 || Nat.beq q 2) then true else (zs_kM0 q k)
abbrev zs_C := zs_G zs_tC zs_kC zs_lC
abbrev zs_C0 := zs_G zs_tC zs_kC0 zs_lC
abbrev zs_B := zs_G zs_tC zs_kB zs_lC
abbrev zs_A := zs_G zs_tC zs_kA zs_lC
abbrev zs_M0 := zs_G zs_tM zs_kM0 zs_lM
abbrev zs_M := zs_G zs_tM zs_kM zs_lM
theorem zs_im {x1 x2 : Int32} (h1 : zs_in x1.toInt 0 2) (h2 : zs_in x2.toInt 0 118) : zs_tM 2 ((119 : Int32) * x1 + x2).toNatClampNeg = zs_tM 1 x2.toNatClampNeg := by
  have e : ((119 : Int32) * x1 + x2).toInt = 119 * x1.toInt + x2.toInt := by
    rw [Int32.toInt_add, Int32.toInt_mul, show (119 : Int32).toInt = 119 from by decide, zs_bm (X := 119 * x1.toInt) ⟨by omega, by omega⟩, zs_bm ⟨by omega, by omega⟩]
  have e1 : ((119 : Int32) * x1 + x2).toNatClampNeg = ((119 : Int32) * x1 + x2).toInt.toNat := rfl
  have e2 : x2.toNatClampNeg = x2.toInt.toNat := rfl
  have e3 : ((119 : Int32) * x1 + x2).toNatClampNeg % 119 = x2.toNatClampNeg := by rw [e1, e2, e]; omega
  show zs_row (((119 : Int32) * x1 + x2).toNatClampNeg % 119) = zs_row x2.toNatClampNeg
  rw [e3]
theorem zs_wrim2 {σ0 σ : sn_S} {x1 x2 : Int32} (h : zs_M0 σ0 σ) (h1 : zs_in x1.toInt 0 2) (h2 : zs_in x2.toInt 0 118) : zs_M0 σ0 (sn_pI σ 2 ((119 : Int32) * x1 + x2).toNatClampNeg (sn_I σ 1 x2.toNatClampNeg)) := zs_wr h (by rw [zs_im h1 h2]; exact h.1.1 1 _) rfl
theorem zs_wrim1 {σ0 σ : sn_S} {x1 x2 : Int32} (h : zs_M0 σ0 σ) (h1 : zs_in x1.toInt 0 2) (h2 : zs_in x2.toInt 0 118) : zs_M0 σ0 (sn_pI σ 1 x2.toNatClampNeg (sn_I σ 2 ((119 : Int32) * x1 + x2).toNatClampNeg)) := zs_wr h (by rw [← zs_im h1 h2]; exact h.1.1 2 _) rfl
theorem zlI_m100000 : zs_in (-100000 : Int32).toInt (-100000) (-100000) := by decide
theorem zlI_m6 : zs_in (-6 : Int32).toInt (-6) (-6) := by decide
theorem zlI_m5 : zs_in (-5 : Int32).toInt (-5) (-5) := by decide
theorem zlI_m2 : zs_in (-2 : Int32).toInt (-2) (-2) := by decide
theorem zlI_m1 : zs_in (-1 : Int32).toInt (-1) (-1) := by decide
theorem zlI_0 : zs_in (0 : Int32).toInt 0 0 := by decide
theorem zlL_0 : zs_in (0 : Int64).toInt 0 0 := by decide
theorem zlI_1 : zs_in (1 : Int32).toInt 1 1 := by decide
theorem zlL_1 : zs_in (1 : Int64).toInt 1 1 := by decide
theorem zlI_2 : zs_in (2 : Int32).toInt 2 2 := by decide
theorem zlL_2 : zs_in (2 : Int64).toInt 2 2 := by decide
theorem zlI_3 : zs_in (3 : Int32).toInt 3 3 := by decide
theorem zlL_3 : zs_in (3 : Int64).toInt 3 3 := by decide
theorem zlI_4 : zs_in (4 : Int32).toInt 4 4 := by decide
theorem zlI_5 : zs_in (5 : Int32).toInt 5 5 := by decide
theorem zlI_6 : zs_in (6 : Int32).toInt 6 6 := by decide
theorem zlI_7 : zs_in (7 : Int32).toInt 7 7 := by decide
theorem zlI_8 : zs_in (8 : Int32).toInt 8 8 := by decide
theorem zlI_9 : zs_in (9 : Int32).toInt 9 9 := by decide
theorem zlI_10 : zs_in (10 : Int32).toInt 10 10 := by decide
theorem zlI_11 : zs_in (11 : Int32).toInt 11 11 := by decide
theorem zlI_20 : zs_in (20 : Int32).toInt 20 20 := by decide
theorem zlL_20 : zs_in (20 : Int64).toInt 20 20 := by decide
theorem zlI_23 : zs_in (23 : Int32).toInt 23 23 := by decide
theorem zlI_30 : zs_in (30 : Int32).toInt 30 30 := by decide
theorem zlI_31 : zs_in (31 : Int32).toInt 31 31 := by decide
theorem zlI_33 : zs_in (33 : Int32).toInt 33 33 := by decide
theorem zlI_40 : zs_in (40 : Int32).toInt 40 40 := by decide
theorem zlI_49 : zs_in (49 : Int32).toInt 49 49 := by decide
theorem zlI_79 : zs_in (79 : Int32).toInt 79 79 := by decide
theorem zlI_99 : zs_in (99 : Int32).toInt 99 99 := by decide
theorem zlL_99 : zs_in (99 : Int64).toInt 99 99 := by decide
theorem zlI_100 : zs_in (100 : Int32).toInt 100 100 := by decide
theorem zlI_186 : zs_in (186 : Int32).toInt 186 186 := by decide
theorem zlI_200 : zs_in (200 : Int32).toInt 200 200 := by decide
theorem zlI_999 : zs_in (999 : Int32).toInt 999 999 := by decide
theorem zlI_1000000000 : zs_in (1000000000 : Int32).toInt 1000000000 1000000000 := by decide
theorem zlI_2000000000 : zs_in (2000000000 : Int32).toInt 2000000000 2000000000 := by decide
theorem zlL_2000000000 : zs_in (2000000000 : Int64).toInt 2000000000 2000000000 := by decide
theorem zlL_4611686018427387904 : zs_in (4611686018427387904 : Int64).toInt 4611686018427387904 4611686018427387904 := by decide
