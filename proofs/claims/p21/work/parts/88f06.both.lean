/-! what was read, on both sides -/
section
variable {α β γ δ : Type} {P : α → β → Prop}
theorem rr_Bb {x : Option α} {y : Option γ} {f : γ → Option δ} {g : δ → Option β} (h : rr_ok x (y.bind fun a => (f a).bind g) P) : rr_ok x ((y.bind f).bind g) P := by
  rw [Option.bind_assoc]
  exact h
theorem rr_Bg {x : Option α} {b : Bool} {y : Option δ} {g : δ → Option β} (hb : b = true) (h : rr_ok x (y.bind g) P) : rr_ok x ((sn_gd b y).bind g) P := by
  subst hb
  exact h
theorem rr_Bl {x : Option α} {v : γ} {f : γ → Option δ} {g : δ → Option β} (Q : γ → Prop) (hv : Q v) (h : ∀ a, Q a → rr_ok x ((f a).bind g) P) : rr_ok x ((sn_lt v f).bind g) P := h v hv
theorem rr_Bi {x : Option α} {c : Prop} [Decidable c] {y y' : Option δ} {g : δ → Option β} (ht : c → rr_ok x (y.bind g) P) (he : ¬ c → rr_ok x (y'.bind g) P) : rr_ok x ((if c then y else y').bind g) P := by
  by_cases h : c
  · rw [if_pos h]; exact ht h
  · rw [if_neg h]; exact he h
end
def rr_c (σ τ : sn_S) : Prop := ((0 ≤ (σ.1 9 5).toInt ∧ (σ.1 9 5).toInt ≤ 6) ∧ (0 ≤ (σ.1 9 6).toInt ∧ (σ.1 9 6).toInt ≤ 5) ∧ (0 ≤ (σ.1 9 7).toInt ∧ (σ.1 9 7).toInt ≤ 8) ∧ (0 ≤ (σ.1 9 8).toInt ∧ (σ.1 9 8).toInt ≤ 6) ∧ σ.1 9 9 = 0) ∧ (∀ k, k < 10 → σ.1 9 k = τ.1 6 k) ∧ (∀ i : Nat, (i : Int) < 2 * (σ.1 9 5).toInt → σ.1 10 i = τ.1 6 (11 + i)) ∧ (∀ i : Nat, (i : Int) < 2 * (σ.1 9 6).toInt → σ.1 11 i = τ.1 6 (23 + i)) ∧ (∀ i : Nat, (i : Int) < 2 * (σ.1 9 7).toInt → σ.1 12 i = τ.1 6 (33 + i)) ∧ ∀ i : Nat, (i : Int) < 5 * (σ.1 9 8).toInt → σ.1 13 i = τ.1 6 (49 + i)
def rr_N (l : Int32) (σ τ : sn_S) (n : Nat) : Prop := rr_L σ τ n ∧ τ.1 6 10 = l ∧ (σ.1 17 2 = 0 → rr_c σ τ)
def rr_M (l : Int32) (q b i0 p : Nat) (σ τ : sn_S) (n : Nat) : Prop := rr_L σ τ n ∧ τ.1 6 10 = l ∧ (σ.1 17 2 = 0 → rr_c σ τ ∧ ∀ t, t < p → σ.1 q (i0 + t) = τ.1 6 (b + i0 + t))
section
variable {σ τ σ' τ' : sn_S} {n : Nat} {l : Int32} {q b i0 p : Nat}
theorem rr_cF (hs : ∀ q, q ≠ 17 → σ'.1 q = σ.1 q) (ht : ∀ q, q ≠ 0 → τ'.1 q = τ.1 q) (h : rr_c σ τ) : rr_c σ' τ' := by
  unfold rr_c at h ⊢
  rw [hs 9 (by decide), hs 10 (by decide), hs 11 (by decide), hs 12 (by decide), hs 13 (by decide), ht 6 (by decide)]
  exact h
theorem rr_NF (h : rr_N l σ τ n) (hL : rr_L σ' τ' n) (hF : rr_F σ τ σ' τ') : rr_N l σ' τ' n := ⟨hL, by rw [hF.2.1 6 (by decide)]; exact h.2.1, fun x => rr_cF hF.1.1 hF.2.1 (h.2.2 (hF.2.2.2.2 x))⟩
theorem rr_MF (hq : q ≠ 17) (h : rr_M l q b i0 p σ τ n) (hL : rr_L σ' τ' n) (hF : rr_F σ τ σ' τ') : rr_M l q b i0 p σ' τ' n := ⟨hL, by rw [hF.2.1 6 (by decide)]; exact h.2.1, fun x => ⟨rr_cF hF.1.1 hF.2.1 (h.2.2 (hF.2.2.2.2 x)).1, fun t ht => by rw [hF.1.1 q hq, hF.2.1 6 (by decide)]; exact (h.2.2 (hF.2.2.2.2 x)).2 t ht⟩⟩
theorem rr_Lw {q i j : Nat} {v w : Int32} (hq : q ≠ 17) (hq2 : q ≠ 18) (h : rr_L σ τ n) : rr_L (sn_pI σ q i v) (sn_pI τ 6 j w) n := by
  have a : ∀ r, r ≠ q → (sn_pI σ q i v).1 r = σ.1 r := fun r hr => pI_ne hr
  have c : ∀ r, r ≠ 6 → (sn_pI τ 6 j w).1 r = τ.1 r := fun r hr => pI_ne hr
  obtain ⟨ht, hp, hr, h12, h13, hs⟩ := h
  have eB : rc_B (sn_pI σ q i v) = rc_B σ := by
    unfold rc_B
    rw [a 18 (fun e => hq2 e.symm)]
  have eM : rm_B (sn_pI τ 6 j w) = rm_B τ := by
    unfold rm_B
    rw [c 4 (by decide)]
  refine ⟨⟨?_, ?_, ht.2.2.1, fun k hk => ?_⟩, ?_, hr, ?_, ?_, fun x => ?_⟩
  · rw [a 17 (fun e => hq e.symm)]
    exact ht.1
  · rw [c 0 (by decide)]
    exact ht.2.1
  · rw [eB, eM, c 4 (by decide)]
    exact ht.2.2.2 k hk
  · unfold zk_pos
    rw [a 17 (fun e => hq e.symm)]
    exact hp
  · rw [c 0 (by decide), a 17 (fun e => hq e.symm)]
    exact h12
  · rw [c 0 (by decide), a 17 (fun e => hq e.symm)]
    exact h13
  · rw [a 17 (fun e => hq e.symm)] at x
    obtain ⟨a1, e1, tc, tm, l1, l2, l3, l4⟩ := hs x
    refine ⟨a1, e1, ?_, ?_, l1, l2, by rw [eM]; exact l3, by rw [eM]; exact l4⟩
    · unfold rc_T
      rw [a 17 (fun e => hq e.symm), eB]
      exact tc
    · unfold rm_T
      rw [c 0 (by decide), eM]
      exact tm
def rr_reg (q b i : Nat) (σ : sn_S) : Prop := (q = 10 ∧ b = 11 ∧ i < 12 ∧ 2 * (σ.1 9 5).toInt ≤ (i : Int)) ∨ (q = 11 ∧ b = 23 ∧ i < 10 ∧ 2 * (σ.1 9 6).toInt ≤ (i : Int)) ∨ (q = 12 ∧ b = 33 ∧ i < 16 ∧ 2 * (σ.1 9 7).toInt ≤ (i : Int)) ∨ (q = 13 ∧ b = 49 ∧ i < 30 ∧ 5 * (σ.1 9 8).toInt ≤ (i : Int))
theorem rr_cw {i : Nat} {v w : Int32} (hg : rr_reg q b i σ) (h : rr_c σ τ) : rr_c (sn_pI σ q i v) (sn_pI τ 6 (b + i) w) := by
  obtain ⟨⟨b5, b6, b7, b8⟩, hk, h0, h1, h2, h3⟩ := h
  have hq : q = 10 ∨ q = 11 ∨ q = 12 ∨ q = 13 := by unfold rr_reg at hg; omega
  have e9 : (sn_pI σ q i v).1 9 = σ.1 9 := pI_ne (by omega)
  have cell : ∀ (q' j b' : Nat), (q' = q → j ≠ i) → (b' + j ≠ b + i) → σ.1 q' j = τ.1 6 (b' + j) → (sn_pI σ q i v).1 q' j = (sn_pI τ 6 (b + i) w).1 6 (b' + j) := by
    intro q' j b' a1 a2 e
    rw [pI_slot a2, ← e]
    by_cases x : q' = q
    · subst x
      exact pI_slot (a1 rfl)
    · rw [pI_ne x]
  unfold rr_c
  rw [e9]
  unfold rr_reg at hg
  refine ⟨⟨b5, b6, b7, b8⟩, fun k hk2 => ?_, fun j hj => ?_, fun j hj => ?_, fun j hj => ?_, fun j hj => ?_⟩
  · rw [pI_slot (by omega)]
    exact hk k hk2
  · exact cell 10 j 11 (fun x => by omega) (by omega) (h0 j hj)
  · exact cell 11 j 23 (fun x => by omega) (by omega) (h1 j hj)
  · exact cell 12 j 33 (fun x => by omega) (by omega) (h2 j hj)
  · exact cell 13 j 49 (fun x => by omega) (by omega) (h3 j hj)
theorem rr_Mw {v w : Int32} (h : rr_M l q b i0 p σ τ n) (hg : σ.1 17 2 = 0 → rr_reg q b (i0 + p) σ) (hq : q = 10 ∨ q = 11 ∨ q = 12 ∨ q = 13) (hb : 11 ≤ b) (hv : σ.1 17 2 = 0 → v = w) : rr_M l q b i0 (p + 1) (sn_pI σ q (i0 + p) v) (sn_pI τ 6 (b + i0 + p) w) n := by
  have e : b + i0 + p = b + (i0 + p) := by omega
  refine ⟨rr_Lw (by omega) (by omega) h.1, by rw [pI_slot (by omega)]; exact h.2.1, fun x => ?_⟩
  rw [pI_ne (show 17 ≠ q by omega)] at x
  rw [e]
  refine ⟨rr_cw (hg x) (h.2.2 x).1, fun t ht => ?_⟩
  by_cases c : t = p
  · subst c
    rw [pI_self, show b + i0 + t = b + (i0 + t) by omega, pI_self]
    exact hv x
  · rw [pI_slot (show i0 + t ≠ i0 + p by omega), pI_slot (show b + i0 + t ≠ b + (i0 + p) by omega)]
    exact (h.2.2 x).2 t (by omega)
/-- the row's end: sign and count -/
theorem rr_fin {c w m : Nat} (h : rr_M l q b i0 w σ τ n) (hcase : (c = 5 ∧ q = 10 ∧ b = 11 ∧ w = 2 ∧ m < 6) ∨ (c = 6 ∧ q = 11 ∧ b = 23 ∧ w = 2 ∧ m < 5) ∨ (c = 7 ∧ q = 12 ∧ b = 33 ∧ w = 2 ∧ m < 8) ∨ (c = 8 ∧ q = 13 ∧ b = 49 ∧ w = 5 ∧ m < 6)) (hi : i0 = w * m) (hc : σ.1 9 c = nI m) : rr_ok ((fX5_sign σ).bind fun t => sn_gd (sn_R t 17 7 == some 8) (sn_gd (sn_in (nI c) 11) (sn_lt (sn_pI t 9 c (nI m + (1 : Int32))) fun s => some s))) (BX9_readLine_21 (sn_pI τ 6 c (τ.1 6 c + (1 : Int32)))) (fun σ' τ' => rr_N (l + 1) σ' τ' n) := by
  have hL1 : rr_L σ (sn_pI τ 6 c (τ.1 6 c + (1 : Int32))) n := by
    have := rr_Lw (q := 10) (i := 0) (v := σ.1 10 0) (j := c) (w := τ.1 6 c + (1 : Int32)) (by decide) (by decide) h.1
    have e : sn_pI σ 10 0 (σ.1 10 0) = σ := by
      refine Prod.ext ?_ rfl
      funext x y
      show (if x = 10 ∧ y = 0 then σ.1 10 0 else σ.1 x y) = _
      by_cases z : x = 10 ∧ y = 0
      · rw [if_pos z, z.1, z.2]
      · rw [if_neg z]
    rw [e] at this
    exact this
  obtain ⟨s, w1, e1, e2, t, ew, qL, qF⟩ := rr_sign hL1
  rw [e1, e2]
  show rr_ok (sn_gd (sn_R s 17 7 == some 8) _) _ _
  refine rr_gl (by rw [qL.2.2.1]; rfl) (rr_gl (sn_in_nI (by omega) (by decide)) (rr_ll (fun z => z = sn_pI s 9 c (nI m + (1 : Int32))) rfl (fun z hz => ?_)))
  subst hz
  subst ew
  have t6 : t.1 6 = (sn_pI τ 6 c (τ.1 6 c + (1 : Int32))).1 6 := qF.2.1 6 (by decide)
  have l10 : t.1 6 10 = l := by
    rw [t6, pI_slot (by omega)]
    exact h.2.1
  refine rr_some ⟨rr_Lw (by decide) (by decide) qL, by rw [pI_self, l10], fun x => ?_⟩
  rw [pI_ne (by decide)] at x
  have x0 := qF.2.2.2.2 x
  obtain ⟨⟨⟨b5, b6, b7, b8⟩, hk, h0, h1, h2, h3⟩, hn⟩ := h.2.2 x0
  have s9 : ∀ k, (sn_pI s 9 c (nI m + (1 : Int32))).1 9 k = if k = c then nI (m + 1) else σ.1 9 k := fun k => by
    by_cases z : k = c
    · rw [if_pos z, z, pI_self, nI_1]
    · rw [if_neg z, pI_slot z, qF.1.1 9 (by decide)]
  have so : ∀ r, r ≠ 9 → r ≠ 17 → (sn_pI s 9 c (nI m + (1 : Int32))).1 r = σ.1 r := fun r h9 h17 => by rw [pI_ne h9, qF.1.1 r h17]
  have t6c : ∀ k, k ≠ 10 → (sn_pI t 6 10 (t.1 6 10 + (1 : Int32))).1 6 k = if k = c then nI (m + 1) else τ.1 6 k := fun k hk2 => by
    rw [pI_slot hk2, t6]
    by_cases z : k = c
    · rw [if_pos z, z, pI_self, ← hk c (by omega), hc, nI_1]
    · rw [if_neg z, pI_slot z]
  have em : (nI (m + 1)).toInt = (m : Int) + 1 := by
    rw [nI_toInt (by omega)]
    omega
  have em0 : (σ.1 9 c).toInt = (m : Int) := by
    rw [hc, nI_toInt (by omega)]
  unfold rr_c
  rw [s9 5, s9 6, s9 7, s9 8, s9 9]
  have cellA : ∀ (q' b' j : Nat), q' ≠ 9 → q' ≠ 17 → b' + j ≠ 10 → b' + j ≠ c → σ.1 q' j = τ.1 6 (b' + j) → (sn_pI s 9 c (nI m + (1 : Int32))).1 q' j = (sn_pI t 6 10 (t.1 6 10 + (1 : Int32))).1 6 (b' + j) := by
    intro q' b' j a1 a2 a3 a4 e
    rw [so q' a1 a2, t6c _ a3, if_neg a4]
    exact e
  have cnt : ∀ k, k < 10 → (sn_pI s 9 c (nI m + (1 : Int32))).1 9 k = (sn_pI t 6 10 (t.1 6 10 + (1 : Int32))).1 6 k := fun k hk2 => by
    rw [s9, t6c k (by omega)]
    by_cases z : k = c
    · rw [if_pos z, if_pos z]
    · rw [if_neg z, if_neg z]
      exact hk k hk2
  have hnew : ∀ j : Nat, w * m ≤ j → j < w * m + w → σ.1 q j = τ.1 6 (b + j) := by
    intro j j1 j2
    have := hn (j - w * m) (by omega)
    rw [hi, show w * m + (j - w * m) = j by omega, show b + w * m + (j - w * m) = b + j by omega] at this
    exact this
  rcases hcase with ⟨c1, c2, c3, c4, c5⟩ | ⟨c1, c2, c3, c4, c5⟩ | ⟨c1, c2, c3, c4, c5⟩ | ⟨c1, c2, c3, c4, c5⟩ <;> subst c1 <;> subst c2 <;> subst c3 <;> subst c4
  · rw [if_pos rfl, if_neg (by decide), if_neg (by decide), if_neg (by decide), if_neg (by decide), em]
    refine ⟨⟨⟨by omega, by omega⟩, b6, b7, b8⟩, cnt, fun j hj => ?_, fun j hj => cellA 11 23 j (by decide) (by decide) (by omega) (by omega) (h1 j hj), fun j hj => cellA 12 33 j (by decide) (by decide) (by omega) (by omega) (h2 j hj), fun j hj => cellA 13 49 j (by decide) (by decide) (by omega) (by omega) (h3 j hj)⟩
    refine cellA 10 11 j (by decide) (by decide) (by omega) (by omega) ?_
    by_cases z : j < 2 * m
    · exact h0 j (by omega)
    · exact hnew j (by omega) (by omega)
  · rw [if_neg (by decide), if_pos rfl, if_neg (by decide), if_neg (by decide), if_neg (by decide), em]
    refine ⟨⟨b5, ⟨by omega, by omega⟩, b7, b8⟩, cnt, fun j hj => cellA 10 11 j (by decide) (by decide) (by omega) (by omega) (h0 j hj), fun j hj => ?_, fun j hj => cellA 12 33 j (by decide) (by decide) (by omega) (by omega) (h2 j hj), fun j hj => cellA 13 49 j (by decide) (by decide) (by omega) (by omega) (h3 j hj)⟩
    refine cellA 11 23 j (by decide) (by decide) (by omega) (by omega) ?_
    by_cases z : j < 2 * m
    · exact h1 j (by omega)
    · exact hnew j (by omega) (by omega)
  · rw [if_neg (by decide), if_neg (by decide), if_pos rfl, if_neg (by decide), if_neg (by decide), em]
    refine ⟨⟨b5, b6, ⟨by omega, by omega⟩, b8⟩, cnt, fun j hj => cellA 10 11 j (by decide) (by decide) (by omega) (by omega) (h0 j hj), fun j hj => cellA 11 23 j (by decide) (by decide) (by omega) (by omega) (h1 j hj), fun j hj => ?_, fun j hj => cellA 13 49 j (by decide) (by decide) (by omega) (by omega) (h3 j hj)⟩
    refine cellA 12 33 j (by decide) (by decide) (by omega) (by omega) ?_
    by_cases z : j < 2 * m
    · exact h2 j (by omega)
    · exact hnew j (by omega) (by omega)
  · rw [if_neg (by decide), if_neg (by decide), if_neg (by decide), if_pos rfl, if_neg (by decide), em]
    refine ⟨⟨b5, b6, b7, ⟨by omega, by omega⟩, b8.2⟩, cnt, fun j hj => cellA 10 11 j (by decide) (by decide) (by omega) (by omega) (h0 j hj), fun j hj => cellA 11 23 j (by decide) (by decide) (by omega) (by omega) (h1 j hj), fun j hj => cellA 12 33 j (by decide) (by decide) (by omega) (by omega) (h2 j hj), fun j hj => ?_⟩
    refine cellA 13 49 j (by decide) (by decide) (by omega) (by omega) ?_
    by_cases z : j < 5 * m
    · exact h3 j (by omega)
    · exact hnew j (by omega) (by omega)
end
