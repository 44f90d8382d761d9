/-! what class and reference have in common: a house as the reference's row of numbers w, a day by what holds in it -/
def sp_bit (s : Int32) (k : Nat) : Bool := ((s >>> (nI k &&& 31)) &&& 1) == 1
def sp_n (w : Nat → Int32) (k : Nat) : Nat := (w k).toNatClampNeg
/-- over how many of the first n nets somebody of a set is beside p, but for the net no -/
def dy_cnt (na nb : Nat → Nat) (no : Int32) (p : Nat) (set : Int32) : Nat → Nat
  | 0 => 0
  | n + 1 => dy_cnt na nb no p set n + if ¬ nI n = no ∧ ((na n = p ∧ sp_bit set (nb n) = true) ∨ (nb n = p ∧ sp_bit set (na n) = true)) then 1 else 0
/-- what holds in a day: persons, keen, holds, held back, snuffed, dust by minute, the nets' ends, how many nets, the net that is cut -/
abbrev dy_I : Type := Nat × (Nat → Int32) × (Nat → Int32) × (Nat → Int32) × (Nat → Int32) × (Nat → Int32) × (Nat → Nat) × (Nat → Nat) × Nat × Int32
def dy_P (i : dy_I) : Nat := i.1
def dy_keen (i : dy_I) : Nat → Int32 := i.2.1
def dy_lim (i : dy_I) : Nat → Int32 := i.2.2.1
def dy_held (i : dy_I) : Nat → Int32 := i.2.2.2.1
def dy_snuf (i : dy_I) : Nat → Int32 := i.2.2.2.2.1
def dy_dust (i : dy_I) : Nat → Int32 := i.2.2.2.2.2.1
def dy_na (i : dy_I) : Nat → Nat := i.2.2.2.2.2.2.1
def dy_nb (i : dy_I) : Nat → Nat := i.2.2.2.2.2.2.2.1
def dy_nN (i : dy_I) : Nat := i.2.2.2.2.2.2.2.2.1
def dy_no (i : dy_I) : Int32 := i.2.2.2.2.2.2.2.2.2
/-- the set of the persons less than n for whom f holds -/
def dy_set (f : Nat → Bool) : Nat → Int32
  | 0 => 0
  | n + 1 => if f n = true then dy_set f n ||| ((1 : Int32) <<< (nI n &&& 31)) else dy_set f n
def dy_by (i : dy_I) (ahead : Int32) (p : Nat) : Int32 := 5 * nI (dy_cnt (dy_na i) (dy_nb i) (dy_no i) p ahead (dy_nN i))
def dy_more (i : dy_I) (ahead : Int32) (m p : Nat) : Int32 := dy_keen i p * dy_dust i m + dy_by i ahead p + (if sp_bit (dy_snuf i p) m = true then 40 else 0)
def dy_does (i : dy_I) (t : Int32) (ahead : Int32) (m p : Nat) : Bool := decide (dy_lim i p ≤ t + dy_more i ahead m p) && !sp_bit (dy_held i p) m
/-- behind m minutes: by person the tickle, and who sneezed in the last -/
def dy_st (i : dy_I) : Nat → (Nat → Int32) × Int32
  | 0 => (fun _ => 0, 0)
  | m + 1 => (fun p => if dy_does i ((dy_st i m).1 p) (dy_st i m).2 m p = true then 0 else (dy_st i m).1 p + dy_more i (dy_st i m).2 m p, dy_set (fun p => dy_does i ((dy_st i m).1 p) (dy_st i m).2 m p) (dy_P i))
def dy_tick (i : dy_I) (m p : Nat) : Int32 := (dy_st i (m + 1)).1 p
def dy_who (i : dy_I) (m : Nat) : Int32 := (dy_st i (m + 1)).2
def dy_came (i : dy_I) (m p : Nat) : Int32 := dy_by i (dy_st i m).2 p
/-- the minutes less than n in which p sneezes -/
def dy_sn (i : dy_I) (n p : Nat) : Int32 := dy_set (fun m => dy_does i ((dy_st i m).1 p) (dy_st i m).2 m p) n
/-- dust of a house by minute, what is held back and snuffed by its acts -/
def hs_dust (w : Nat → Int32) (m : Nat) : Nat → Int32
  | 0 => w 1
  | g + 1 => if sp_n w (24 + 2 * g) = m then hs_dust w m g + w (23 + 2 * g) else hs_dust w m g
def hs_acts (w : Nat → Int32) (kind p : Nat) : Nat → Int32
  | 0 => 0
  | n + 1 => if sp_n w (79 + n) % 2 = kind ∧ sp_n w (79 + n) / 200 = p then hs_acts w kind p n ||| ((1 : Int32) <<< (nI (sp_n w (79 + n) % 200 / 2) &&& 31)) else hs_acts w kind p n
def hs_day (w : Nat → Int32) : dy_I :=
  (sp_n w 5, (fun p => w (11 + 2 * p)), (fun p => w (12 + 2 * p)), (fun p => hs_acts w 0 p (sp_n w 9)), (fun p => hs_acts w 1 p (sp_n w 9)), (fun m => hs_dust w m (sp_n w 6)), (fun k => sp_n w (33 + 2 * k)), (fun k => sp_n w (34 + 2 * k)), sp_n w 7, -1)
/-- a row of numbers that is a house, or none (no lines: nothing else either) -/
def jW (w : Nat → Int32) : Prop :=
  (∀ k, k < 11 → w k = nI (sp_n w k)) ∧ (sp_n w 0 ≤ 30 ∧ sp_n w 1 ≤ 9 ∧ sp_n w 2 ≤ 3 ∧ sp_n w 3 ≤ 999 ∧ sp_n w 4 ≤ 10 ∧ sp_n w 5 ≤ 6 ∧ sp_n w 6 ≤ 5 ∧ sp_n w 7 ≤ 8 ∧ sp_n w 8 ≤ 6 ∧ sp_n w 9 ≤ 40 ∧ sp_n w 10 ≤ 900) ∧
  (sp_n w 10 = 0 → ∀ k, k < 10 → sp_n w k = 0) ∧ (0 < sp_n w 10 → 0 < sp_n w 0) ∧
  (∀ p, p < sp_n w 5 → w (11 + 2 * p) = nI (sp_n w (11 + 2 * p)) ∧ sp_n w (11 + 2 * p) ≤ 9 ∧ w (12 + 2 * p) = nI (sp_n w (12 + 2 * p)) ∧ 1 ≤ sp_n w (12 + 2 * p) ∧ sp_n w (12 + 2 * p) ≤ 99) ∧
  (∀ g, g < sp_n w 6 → w (23 + 2 * g) = nI (sp_n w (23 + 2 * g)) ∧ 1 ≤ sp_n w (23 + 2 * g) ∧ sp_n w (23 + 2 * g) ≤ 9 ∧ w (24 + 2 * g) = nI (sp_n w (24 + 2 * g)) ∧ sp_n w (24 + 2 * g) ≤ 29) ∧
  (∀ k, k < sp_n w 7 → w (33 + 2 * k) = nI (sp_n w (33 + 2 * k)) ∧ sp_n w (33 + 2 * k) < sp_n w 5 ∧ w (34 + 2 * k) = nI (sp_n w (34 + 2 * k)) ∧ sp_n w (34 + 2 * k) < sp_n w 5 ∧ sp_n w (33 + 2 * k) ≠ sp_n w (34 + 2 * k)) ∧
  (∀ k, k < sp_n w 8 → (∀ j, j < 5 → w (49 + 5 * k + j) = nI (sp_n w (49 + 5 * k + j))) ∧ sp_n w (49 + 5 * k) < sp_n w 5 ∧ sp_n w (50 + 5 * k) ≤ sp_n w (51 + 5 * k) ∧ sp_n w (51 + 5 * k) ≤ 29 ∧ 1 ≤ sp_n w (52 + 5 * k) ∧ sp_n w (52 + 5 * k) ≤ 99 ∧ sp_n w (53 + 5 * k) ≤ 99) ∧
  (∀ i, i < sp_n w 9 → w (79 + i) = nI (sp_n w (79 + i)) ∧ sp_n w (79 + i) / 200 < sp_n w 5 ∧ sp_n w (79 + i) % 200 / 2 < sp_n w 0)
/-- a house of the class, by its arrays, is that row of numbers -/
def jH (c no gu ne po ac w : Nat → Int32) : Prop :=
  (∀ k, k < 11 → c k = w k) ∧ (∀ i, i < 2 * sp_n w 5 → no i = w (11 + i)) ∧ (∀ i, i < 2 * sp_n w 6 → gu i = w (23 + i)) ∧ (∀ i, i < 2 * sp_n w 7 → ne i = w (33 + i)) ∧ (∀ i, i < 5 * sp_n w 8 → po i = w (49 + i)) ∧
  ∀ i, i < sp_n w 9 → ac (3 * i) = nI (sp_n w (79 + i) % 2) ∧ ac (3 * i + 1) = nI (sp_n w (79 + i) / 200) ∧ ac (3 * i + 2) = nI (sp_n w (79 + i) % 200 / 2)
/-- what a day of the class is told -/
def jDin (o dust keen lim held snuf nets : Nat → Int32) (i : dy_I) (M : Nat) : Prop :=
  o 0 = nI M ∧ o 1 = nI (dy_P i) ∧ o 2 = nI (dy_nN i) ∧ o 3 = dy_no i ∧ (∀ m, m < 30 → dust m = dy_dust i m) ∧ (∀ p, p < dy_P i → keen p = dy_keen i p ∧ lim p = dy_lim i p ∧ held p = dy_held i p ∧ snuf p = dy_snuf i p) ∧ ∀ k, k < dy_nN i → nets (2 * k) = nI (dy_na i k) ∧ nets (2 * k + 1) = nI (dy_nb i k)
/-- and that it is lived -/
def jDout (tick came who sn : Nat → Int32) (i : dy_I) (M : Nat) : Prop :=
  (∀ m, m < M → who m = dy_who i m ∧ ∀ p, p < dy_P i → tick (6 * m + p) = dy_tick i m p ∧ came (6 * m + p) = dy_came i m p) ∧ ∀ p, p < dy_P i → sn p = dy_sn i M p
def jT (n : Int32) (by' tape : Nat → Int32) (n2 : Int32) : Prop := n = n2 ∧ (0 ≤ n ∧ n ≤ 900) ∧ ∀ i, i < 900 → by' i = tape i &&& 255
def jS (le wi : Nat → Int32) (r0 r1 r2 r3 : Nat → Int64) (many width : Nat → Int32) (num : Nat → Int64) : Prop :=
  (∀ s, s < 4 → le s = many s ∧ wi s = width s ∧ (-1 ≤ le s ∧ le s ≤ 60) ∧ (0 ≤ wi s ∧ wi s ≤ 3)) ∧ ∀ i, i < 60 → r0 i = num i ∧ r1 i = num (60 + i) ∧ r2 i = num (120 + i) ∧ r3 i = num (180 + i)
/-- what the class's and the reference's states have to do with each other between two calls -/
def J (σ τ : sn_S) : Prop :=
  jT (σ.1 17 1) (σ.1 18) (τ.1 4) (τ.1 0 5) ∧ (σ.1 17 2 = τ.1 0 12 ∧ σ.1 17 3 = τ.1 0 13) ∧ jS (σ.1 26) (σ.1 25) (σ.2.1 21) (σ.2.1 22) (σ.2.1 23) (σ.2.1 24) (τ.1 21) (τ.1 22) (τ.2.1 23) ∧
  jW (τ.1 1) ∧ jH (σ.1 2) (σ.1 3) (σ.1 4) (σ.1 5) (σ.1 6) (σ.1 7) (τ.1 1) ∧
  (jDin (σ.1 27) (σ.1 28) (σ.1 29) (σ.1 30) (σ.1 31) (σ.1 32) (σ.1 33) (hs_day (τ.1 1)) (sp_n (τ.1 1) 0) ∧ jDout (σ.1 34) (σ.1 35) (σ.1 36) (σ.1 37) (hs_day (τ.1 1)) (sp_n (τ.1 1) 0)) ∧
  ∀ k, k < 3 → σ.1 16 k = τ.1 3 k ∧ (σ.1 16 k = 0 ∨ (σ.1 16 k = 1 ∧ jW (fun i => τ.1 2 (119 * k + i)) ∧ jH (σ.1 (60 + 7 * k)) (σ.1 (61 + 7 * k)) (σ.1 (62 + 7 * k)) (σ.1 (63 + 7 * k)) (σ.1 (64 + 7 * k)) (σ.1 (65 + 7 * k)) (fun i => τ.1 2 (119 * k + i))))
/-- a state of the class that differs in nothing that J speaks of -/
def jC (σ σ' : sn_S) : Prop := (∀ q, (2 ≤ q ∧ q ≤ 7) ∨ q = 16 ∨ q = 17 ∨ q = 18 ∨ (21 ≤ q ∧ q ≤ 37) ∨ (60 ≤ q ∧ q ≤ 79) → σ'.1 q = σ.1 q) ∧ ∀ q, 21 ≤ q ∧ q ≤ 24 → σ'.2.1 q = σ.2.1 q
def jM (τ τ' : sn_S) : Prop := (∀ q, (1 ≤ q ∧ q ≤ 4) ∨ q = 21 ∨ q = 22 → τ'.1 q = τ.1 q) ∧ (τ'.1 0 5 = τ.1 0 5 ∧ τ'.1 0 12 = τ.1 0 12 ∧ τ'.1 0 13 = τ.1 0 13) ∧ τ'.2.1 23 = τ.2.1 23
theorem jC_rf {σ : sn_S} : jC σ σ := ⟨fun _ _ => rfl, fun _ _ => rfl⟩
theorem jM_rf {τ : sn_S} : jM τ τ := ⟨fun _ _ => rfl, ⟨rfl, rfl, rfl⟩, rfl⟩
theorem jC_tr {a b c : sn_S} (h1 : jC a b) (h2 : jC b c) : jC a c := ⟨fun q hq => (h2.1 q hq).trans (h1.1 q hq), fun q hq => (h2.2 q hq).trans (h1.2 q hq)⟩
theorem jM_tr {a b c : sn_S} (h1 : jM a b) (h2 : jM b c) : jM a c := ⟨fun q hq => (h2.1 q hq).trans (h1.1 q hq), ⟨h2.2.1.1.trans h1.2.1.1, h2.2.1.2.1.trans h1.2.1.2.1, h2.2.1.2.2.trans h1.2.1.2.2⟩, h2.2.2.trans h1.2.2⟩
theorem J_frame {σ σ' τ τ' : sn_S} (hC : jC σ σ') (hM : jM τ τ') (h : J σ τ) : J σ' τ' := by
  obtain ⟨c1, c2⟩ := hC
  obtain ⟨m1, ⟨m2, m3, m4⟩, m5⟩ := hM
  unfold J at h ⊢
  rw [c1 2 (by omega), c1 3 (by omega), c1 4 (by omega), c1 5 (by omega), c1 6 (by omega), c1 7 (by omega), c1 16 (by omega), c1 17 (by omega), c1 18 (by omega), c1 25 (by omega), c1 26 (by omega), c1 27 (by omega), c1 28 (by omega), c1 29 (by omega), c1 30 (by omega), c1 31 (by omega), c1 32 (by omega), c1 33 (by omega), c1 34 (by omega), c1 35 (by omega), c1 36 (by omega), c1 37 (by omega),
    c2 21 (by omega), c2 22 (by omega), c2 23 (by omega), c2 24 (by omega), m1 1 (by omega), m1 2 (by omega), m1 3 (by omega), m1 4 (by omega), m1 21 (by omega), m1 22 (by omega), m2, m3, m4, m5]
  refine ⟨h.1, h.2.1, h.2.2.1, h.2.2.2.1, h.2.2.2.2.1, h.2.2.2.2.2.1, fun k hk => ?_⟩
  rw [c1 (60 + 7 * k) (by omega), c1 (61 + 7 * k) (by omega), c1 (62 + 7 * k) (by omega), c1 (63 + 7 * k) (by omega), c1 (64 + 7 * k) (by omega), c1 (65 + 7 * k) (by omega)]
  exact h.2.2.2.2.2.2 k hk
theorem pI_ne {σ : sn_S} {q k a : Nat} {v : Int32} (h : a ≠ q) : (sn_pI σ q k v).1 a = σ.1 a := by
  funext b
  show (if a = q ∧ b = k then v else σ.1 a b) = _
  rw [if_neg (fun z => h z.1)]
theorem pI_slot {σ : sn_S} {q k b : Nat} {v : Int32} (h : b ≠ k) : (sn_pI σ q k v).1 q b = σ.1 q b := by
  show (if q = q ∧ b = k then v else σ.1 q b) = _
  rw [if_neg (fun z => h z.2)]
theorem pI_self {σ : sn_S} {q k : Nat} {v : Int32} : (sn_pI σ q k v).1 q k = v := by
  show (if q = q ∧ k = k then v else σ.1 q k) = _
  rw [if_pos ⟨rfl, rfl⟩]
/-- where the tape alone has changed -/
theorem J_tape {σ σ' τ τ' : sn_S} (hT : jT (σ'.1 17 1) (σ'.1 18) (τ'.1 4) (τ'.1 0 5)) (c1 : ∀ q, q ≠ 17 → q ≠ 18 → σ'.1 q = σ.1 q) (c2 : σ'.1 17 2 = σ.1 17 2 ∧ σ'.1 17 3 = σ.1 17 3) (c3 : σ'.2.1 = σ.2.1) (m1 : ∀ q, q ≠ 0 → q ≠ 4 → τ'.1 q = τ.1 q) (m2 : τ'.1 0 12 = τ.1 0 12 ∧ τ'.1 0 13 = τ.1 0 13) (m3 : τ'.2.1 = τ.2.1) (h : J σ τ) : J σ' τ' := by
  unfold J at h ⊢
  obtain ⟨-, h2, h3, h4, h5, h6, h7⟩ := h
  refine ⟨hT, ?_, ?_, ?_, ?_, ?_, fun k hk => ?_⟩
  · rw [c2.1, c2.2, m2.1, m2.2]
    exact h2
  · rw [c1 26 (by decide) (by decide), c1 25 (by decide) (by decide), c3, m1 21 (by decide) (by decide), m1 22 (by decide) (by decide), m3]
    exact h3
  · rw [m1 1 (by decide) (by decide)]
    exact h4
  · rw [m1 1 (by decide) (by decide), c1 2 (by decide) (by decide), c1 3 (by decide) (by decide), c1 4 (by decide) (by decide), c1 5 (by decide) (by decide), c1 6 (by decide) (by decide), c1 7 (by decide) (by decide)]
    exact h5
  · rw [m1 1 (by decide) (by decide), c1 27 (by decide) (by decide), c1 28 (by decide) (by decide), c1 29 (by decide) (by decide), c1 30 (by decide) (by decide), c1 31 (by decide) (by decide), c1 32 (by decide) (by decide), c1 33 (by decide) (by decide), c1 34 (by decide) (by decide), c1 35 (by decide) (by decide), c1 36 (by decide) (by decide), c1 37 (by decide) (by decide)]
    exact h6
  · rw [c1 16 (by decide) (by decide), c1 (60 + 7 * k) (by omega) (by omega), c1 (61 + 7 * k) (by omega) (by omega), c1 (62 + 7 * k) (by omega) (by omega), c1 (63 + 7 * k) (by omega) (by omega), c1 (64 + 7 * k) (by omega) (by omega), c1 (65 + 7 * k) (by omega) (by omega), m1 2 (by decide) (by decide), m1 3 (by decide) (by decide)]
    exact h7 k hk
/-- where the rows of numbers alone have changed -/
theorem J_rows {σ σ' τ τ' : sn_S} (hS : jS (σ'.1 26) (σ'.1 25) (σ'.2.1 21) (σ'.2.1 22) (σ'.2.1 23) (σ'.2.1 24) (τ'.1 21) (τ'.1 22) (τ'.2.1 23)) (c1 : ∀ q, q ≠ 25 → q ≠ 26 → σ'.1 q = σ.1 q) (m1 : ∀ q, q ≠ 21 → q ≠ 22 → τ'.1 q = τ.1 q) (h : J σ τ) : J σ' τ' := by
  unfold J at h ⊢
  obtain ⟨h1, h2, -, h4, h5, h6, h7⟩ := h
  refine ⟨?_, ?_, hS, ?_, ?_, ?_, fun k hk => ?_⟩
  · rw [c1 17 (by decide) (by decide), c1 18 (by decide) (by decide), m1 4 (by decide) (by decide), m1 0 (by decide) (by decide)]
    exact h1
  · rw [c1 17 (by decide) (by decide), m1 0 (by decide) (by decide)]
    exact h2
  · rw [m1 1 (by decide) (by decide)]
    exact h4
  · rw [m1 1 (by decide) (by decide), c1 2 (by decide) (by decide), c1 3 (by decide) (by decide), c1 4 (by decide) (by decide), c1 5 (by decide) (by decide), c1 6 (by decide) (by decide), c1 7 (by decide) (by decide)]
    exact h5
  · rw [m1 1 (by decide) (by decide), c1 27 (by decide) (by decide), c1 28 (by decide) (by decide), c1 29 (by decide) (by decide), c1 30 (by decide) (by decide), c1 31 (by decide) (by decide), c1 32 (by decide) (by decide), c1 33 (by decide) (by decide), c1 34 (by decide) (by decide), c1 35 (by decide) (by decide), c1 36 (by decide) (by decide), c1 37 (by decide) (by decide)]
    exact h6
  · rw [c1 16 (by decide) (by decide), c1 (60 + 7 * k) (by omega) (by omega), c1 (61 + 7 * k) (by omega) (by omega), c1 (62 + 7 * k) (by omega) (by omega), c1 (63 + 7 * k) (by omega) (by omega), c1 (64 + 7 * k) (by omega) (by omega), c1 (65 + 7 * k) (by omega) (by omega), m1 2 (by decide) (by decide), m1 3 (by decide) (by decide)]
    exact h7 k hk
/-! the reference's small methods -/
theorem in_eq (x a b : Int64) : fX9_in x a b = some (if a ≤ x ∧ x ≤ b then 1 else 0) := by
  unfold fX9_in
  by_cases h1 : x < a
  · rw [if_pos ((lg_lt x a).mpr h1), if_neg (fun h => absurd h1 (Int64.not_lt.mpr h.1))]
    rfl
  · rw [if_neg (fun h => h1 ((lg_lt x a).mp h))]
    have hs : (0 < lg_cmp x b) ↔ b < x := by
      unfold lg_cmp
      by_cases g1 : x > b
      · rw [if_pos g1]; exact ⟨fun _ => g1, fun _ => by decide⟩
      · rw [if_neg g1]
        by_cases g2 : x = b
        · rw [if_pos g2]; exact ⟨fun h => absurd h (by decide), fun h => absurd h g1⟩
        · rw [if_neg g2]; exact ⟨fun h => absurd h (by decide), fun h => absurd h g1⟩
    by_cases h2 : b < x
    · rw [if_pos (hs.mpr h2), if_neg (fun h => absurd h2 (Int64.not_lt.mpr h.2))]
      rfl
    · rw [if_neg (fun h => h2 (hs.mp h)), if_pos ⟨Int64.not_lt.mp h1, Int64.not_lt.mp h2⟩]
      rfl
theorem in_eq32 (x a b : Int32) : fX9_in x.toInt64 a.toInt64 b.toInt64 = some (if a ≤ x ∧ x ≤ b then 1 else 0) := by
  rw [in_eq]
  have h : ∀ u v : Int32, u.toInt64 ≤ v.toInt64 ↔ u ≤ v := fun u v => by
    rw [Int64.le_iff_toInt_le, Int32.toInt_toInt64, Int32.toInt_toInt64, Int32.le_iff_toInt_le]
  simp only [h]
theorem st3 : st_3 J := by
  intro σ τ a hJ
  refine ⟨if a = 0 then τ.1 0 12 else if a = 1 then τ.1 0 13 else -1, ?_, ?_, hJ⟩
  · unfold fX8_fault sn_I
    rw [hJ.2.1.1, hJ.2.1.2]
    split
    · rfl
    · split <;> rfl
  · unfold fX9_fault sn_I
    split
    · rfl
    · split <;> rfl
theorem st1 : st_1 J := by
  intro σ τ a hJ
  have hJ' := hJ
  obtain ⟨⟨t1, t2, t3⟩, hr⟩ := hJ'
  have e9 : fX9_in a.toInt64 (0 : Int64) ((sn_I τ 0 5).toInt64) = some (if (0 : Int32) ≤ a ∧ a ≤ τ.1 0 5 then 1 else 0) := in_eq32 a 0 (τ.1 0 5)
  by_cases h1 : a < 0
  · refine ⟨-1, σ, τ, ?_, ?_, hJ⟩
    · unfold fX8_end
      rw [if_pos h1]
    · unfold fX9_end
      rw [e9, if_neg (fun h => absurd h1 (Int32.not_lt.mpr h.1))]
      rfl
  · by_cases h2 : a ≤ τ.1 0 5
    · refine ⟨a, sn_pI σ 17 1 a, sn_pI τ 0 5 a, ?_, ?_, ?_⟩
      · unfold fX8_end
        rw [if_neg h1, if_pos (show a ≤ sn_I σ 17 1 by show a ≤ σ.1 17 1; rw [t1]; exact h2)]
        rfl
      · unfold fX9_end
        rw [e9, if_pos ⟨Int32.not_lt.mp h1, h2⟩]
        rfl
      · have hle : a ≤ 900 := Int32.le_trans h2 (by rw [← t1]; exact t2.2)
        exact J_tape ⟨by rw [pI_self, pI_self], ⟨by rw [pI_self]; exact Int32.not_lt.mp h1, by rw [pI_self]; exact hle⟩, fun i hi => by rw [pI_ne (by decide), pI_ne (by decide)]; exact t3 i hi⟩ (fun q q1 _ => pI_ne q1) ⟨pI_slot (by decide), pI_slot (by decide)⟩ rfl (fun q q1 _ => pI_ne q1) ⟨pI_slot (by decide), pI_slot (by decide)⟩ rfl hJ
    · refine ⟨-1, σ, τ, ?_, ?_, hJ⟩
      · unfold fX8_end
        rw [if_neg h1, if_neg (show ¬ a ≤ sn_I σ 17 1 by show ¬ a ≤ σ.1 17 1; rw [t1]; exact h2)]
      · unfold fX9_end
        rw [e9, if_neg (fun h => h2 h.2)]
        rfl
