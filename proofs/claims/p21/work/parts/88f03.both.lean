/-! both sides at once -/
def rr_ok {α β : Type} (x : Option α) (y : Option β) (P : α → β → Prop) : Prop := ∃ a b, x = some a ∧ y = some b ∧ P a b
section
variable {α β γ δ : Type} {P : α → β → Prop}
theorem rr_some {a : α} {b : β} (h : P a b) : rr_ok (some a) (some b) P := ⟨a, b, rfl, rfl, h⟩
theorem rr_w {x : Option α} {y : Option β} {Q : α → β → Prop} (h : rr_ok x y Q) (l : ∀ a b, Q a b → P a b) : rr_ok x y P := by
  obtain ⟨a, b, e1, e2, q⟩ := h
  exact ⟨a, b, e1, e2, l a b q⟩
theorem rr_bd {x : Option γ} {y : Option δ} {f : γ → Option α} {g : δ → Option β} {Q : γ → δ → Prop} (h : rr_ok x y Q) (k : ∀ a b, Q a b → rr_ok (f a) (g b) P) : rr_ok (x.bind f) (y.bind g) P := by
  obtain ⟨a, b, e1, e2, q⟩ := h
  subst e1
  subst e2
  exact k a b q
theorem rr_bl {x : Option γ} {y : Option β} {f : γ → Option α} {Q : γ → Prop} (h : zs_ok x Q) (k : ∀ a, Q a → rr_ok (f a) y P) : rr_ok (x.bind f) y P := by
  obtain ⟨a, e, q⟩ := h
  subst e
  exact k a q
theorem rr_br {x : Option α} {y : Option δ} {g : δ → Option β} {Q : δ → Prop} (h : zs_ok y Q) (k : ∀ b, Q b → rr_ok x (g b) P) : rr_ok x (y.bind g) P := by
  obtain ⟨a, e, q⟩ := h
  subst e
  exact k a q
theorem rr_gl {b : Bool} {x : Option α} {y : Option β} (hb : b = true) (h : rr_ok x y P) : rr_ok (sn_gd b x) y P := by
  subst hb
  exact h
theorem rr_il {c : Prop} [Decidable c] {x x' : Option α} {y : Option β} (ht : c → rr_ok x y P) (he : ¬ c → rr_ok x' y P) : rr_ok (if c then x else x') y P := by
  by_cases h : c
  · rw [if_pos h]; exact ht h
  · rw [if_neg h]; exact he h
theorem rr_ll {v : γ} {f : γ → Option α} {y : Option β} (Q : γ → Prop) (hv : Q v) (h : ∀ a, Q a → rr_ok (f a) y P) : rr_ok (sn_lt v f) y P := h v hv
theorem rr_lr {v : γ} {f : γ → Option β} {x : Option α} (Q : γ → Prop) (hv : Q v) (h : ∀ a, Q a → rr_ok x (f a) P) : rr_ok x (sn_lt v f) P := h v hv
theorem rr_2 {x : Option α} {y : Option β} {Q : α → Prop} {R : β → Prop} (h : zs_ok x Q) (g : zs_ok y R) (l : ∀ a b, Q a → R b → P a b) : rr_ok x y P := by
  obtain ⟨a, e, q⟩ := h
  obtain ⟨b, e2, r⟩ := g
  exact ⟨a, b, e, e2, l a b q r⟩
theorem zs_both {x : Option α} {Q R : α → Prop} (h : zs_ok x Q) (g : zs_ok x R) : zs_ok x (fun a => Q a ∧ R a) := by
  obtain ⟨a, e, q⟩ := h
  obtain ⟨b, e2, r⟩ := g
  rw [e] at e2
  cases e2
  exact ⟨a, e, q, r⟩
end
theorem bd_t1 {β : Type} {f g : Int32 → Option β} : ((some (1 : Int32)).bind fun t => if t = 0 then f t else g t) = g 1 := rfl
theorem bd_t0 {β : Type} {f g : Int32 → Option β} : ((some (0 : Int32)).bind fun t => if t = 0 then f t else g t) = f 0 := rfl
/-! the tape on both sides -/
def rr_tp (σ τ : sn_S) (n : Nat) : Prop := σ.1 17 1 = nI n ∧ τ.1 0 7 = nI n ∧ n ≤ 900 ∧ ∀ k, k < n → rc_B σ k = rm_B τ k ∧ -128 ≤ (τ.1 4 k).toInt ∧ (τ.1 4 k).toInt ≤ 127
theorem rd_kB {B B' : Nat → Int} {n : Nat} (h : ∀ k, k < n → B k = B' k) : rd_k B n = rd_k B' n := by
  funext i
  unfold rd_k
  by_cases c : i < n
  · rw [if_pos c, if_pos c, h i c]
  · rw [if_neg c, if_neg c]
theorem rd_SB {B B' : Nat → Int} {n p a : Nat} (h : rd_k B n = rd_k B' n) (g : rd_S B n p a) : rd_S B' n p a := by
  unfold rd_S at g ⊢
  rw [← h]
  exact g
theorem rd_EB {B B' : Nat → Int} {n a e : Nat} (h : rd_k B n = rd_k B' n) (g : rd_E B n a e) : rd_E B' n a e := by
  unfold rd_E at g ⊢
  rw [← h]
  exact g
theorem rd_numB {B B' : Nat → Int} {n a : Nat} (h : ∀ k, k < n → B k = B' k) : ∀ k, a + k ≤ n → rd_num B a k = rd_num B' a k
  | 0, _ => rfl
  | k + 1, hk => by
    show 10 * rd_num B a k + (B (a + k) - 48).toNat = 10 * rd_num B' a k + (B' (a + k) - 48).toNat
    rw [rd_numB h k (by omega), h (a + k) (by omega)]
/-- in step: one token, a .. e -/
def rr_sy (σ τ : sn_S) (n : Nat) : Prop := ∃ a e, rc_T σ n a e ∧ rm_T τ n a e ∧ a ≤ e ∧ e ≤ n ∧ rd_k (rm_B τ) n a ≠ 4 ∧ rd_E (rm_B τ) n a e
def rr_L (σ τ : sn_S) (n : Nat) : Prop := rr_tp σ τ n ∧ zk_pos σ ∧ sn_R σ 17 7 = some 8 ∧ τ.1 0 12 = σ.1 17 2 ∧ τ.1 0 13 = σ.1 17 3 ∧ (σ.1 17 2 = 0 → rr_sy σ τ n)
/-- what an operation leaves -/
def rr_F (σ τ σ' τ' : sn_S) : Prop := zk_fr σ σ' ∧ (∀ q, q ≠ 0 → τ'.1 q = τ.1 q) ∧ (∀ k, k ≠ 8 → k ≠ 9 → k ≠ 10 → k ≠ 11 → k ≠ 12 → k ≠ 13 → τ'.1 0 k = τ.1 0 k) ∧ τ'.2 = τ.2 ∧ (σ'.1 17 2 = 0 → σ.1 17 2 = 0)
section
variable {σ τ σ' τ' : sn_S} {n : Nat}
theorem rr_F0 : rr_F σ τ σ τ := ⟨zk_fr0, fun _ _ => rfl, fun _ _ _ _ _ _ _ => rfl, rfl, fun h => h⟩
theorem rr_Ft {a b c a' b' c' : sn_S} (h : rr_F a a' b b') (g : rr_F b b' c c') : rr_F a a' c c' := ⟨zk_frt h.1 g.1, fun q hq => (g.2.1 q hq).trans (h.2.1 q hq), fun k h1 h2 h3 h4 h5 h6 => (g.2.2.1 k h1 h2 h3 h4 h5 h6).trans (h.2.2.1 k h1 h2 h3 h4 h5 h6), g.2.2.2.1.trans h.2.2.2.1, fun x => h.2.2.2.2 (g.2.2.2.2 x)⟩
theorem rr_tpF (h : rr_tp σ τ n) (hs : zk_fr σ σ') (ht : ∀ q, q ≠ 0 → τ'.1 q = τ.1 q) (h7 : τ'.1 0 7 = τ.1 0 7) : rr_tp σ' τ' n := by
  refine ⟨hs.2.1.trans h.1, h7.trans h.2.1, h.2.2.1, fun k hk => ?_⟩
  have := h.2.2.2 k hk
  unfold rc_B rm_B at this ⊢
  rw [hs.1 18 (by decide), ht 4 (by decide)]
  exact this
theorem rr_R (h : zk_fr σ σ') (hr : sn_R σ 17 7 = some 8) : sn_R σ' 17 7 = some 8 := by
  show σ'.2.2 17 7 = _
  rw [h.2.2]
  exact hr
/-- both go on a token -/
theorem rr_step (h : rr_L σ τ n) (hg : σ.1 17 2 = 0) : rr_ok (fX5_step σ) (fX9_advance τ) (fun σ' τ' => rr_L σ' τ' n ∧ rr_F σ τ σ' τ') := by
  obtain ⟨ht, hp, hr, h12, h13, hs⟩ := h
  obtain ⟨a, e, tc, tm, lae, len, k4, hE⟩ := hs hg
  have hn9 := ht.2.2.1
  have hk : rd_k (rc_B σ) n = rd_k (rm_B τ) n := rd_kB (fun k hk => (ht.2.2.2 k hk).1)
  refine rr_2 (zs_both (rc_step ht.1 hn9 tc.2.1 len) (zk_stepp hp)) (rm_adv ht.2.1 hn9 tm.2.1 len) (fun s t hs ht' => ?_)
  obtain ⟨⟨hf, a1, e1, c1, c2, c3⟩, hzf, hz2, hzp⟩ := hs
  obtain ⟨hm, a2, e2, d1, d2, d3⟩ := ht'
  have ea : a1 = a2 := rd_S1 (rd_SB hk c2) d2
  subst ea
  have ee : e1 = e2 := rd_E1 (rd_EB hk c3) d3
  subst ee
  have m12 := hm.2.1 12 (by decide) (by decide) (by decide) (by decide)
  have m13 := hm.2.1 13 (by decide) (by decide) (by decide) (by decide)
  have m7 := hm.2.1 7 (by decide) (by decide) (by decide) (by decide)
  have eB : rm_B t = rm_B τ := rm_B_f hm
  refine ⟨⟨rr_tpF ht hf.1 hm.1 m7, hzp, rr_R hf.1 hr, by rw [m12, hf.2.1]; exact h12, by rw [m13, hf.2.2]; exact h13, fun _ => ⟨a1, e1, c1, d1, ?_, ?_, by rw [eB]; exact d2.2.2.2, by rw [eB]; exact d3⟩⟩, hf.1, hm.1, fun k h8 h9 h10 h11 _ _ => hm.2.1 k h8 h9 h10 h11, hm.2.2, fun _ => hg⟩
  · rcases d3 with x | x
    · omega
    · omega
  · have := d2.2.1
    rcases d3 with x | x
    · omega
    · omega
/-- the program goes on behind a fault -/
theorem rc_stepF (hp : zk_pos σ) : zs_ok (fX5_step σ) (fun z => rc_f σ z ∧ zk_pos z) := by
  obtain ⟨p1, p2, p3, p4⟩ := hp
  have v1 := zs_val (x := σ.1 17 1) (a := 0) (b := 900) ⟨by omega, p4⟩ (by decide)
  have v5 := zs_val (x := σ.1 17 5) (a := 0) (b := 900) ⟨by omega, by omega⟩ (by decide)
  obtain ⟨n, hn, e1⟩ := v1
  obtain ⟨p, hp5, e5⟩ := v5
  have hpn : p ≤ n := by
    rw [e1, e5, nI_toInt (by omega), nI_toInt (by omega)] at p3
    omega
  exact zs_okw (zs_both (rc_step e1 (by omega) e5 hpn) (zk_stepp ⟨p1, p2, p3, p4⟩)) (fun z hz => ⟨hz.1.1, hz.2.2.2⟩)
theorem rc_blame {x : Int32} : fX5_blame σ x = some (if σ.1 17 2 = 0 then sn_pI (sn_pI σ 17 2 x) 17 3 (σ.1 17 4) else σ) := by
  unfold fX5_blame
  by_cases h : σ.1 17 2 = 0
  · rw [if_pos (show sn_I σ 17 2 = 0 from h), if_pos h]
    show some (sn_pI (sn_pI σ 17 2 x) 17 3 ((sn_pI σ 17 2 x).1 17 4)) = _
    rw [pI_slot (by decide)]
  · rw [if_neg (show ¬ sn_I σ 17 2 = 0 from h), if_neg h]
theorem rm_good : fX9_good τ = some (if τ.1 0 12 = 0 then 1 else 0) := by
  unfold fX9_good
  by_cases h : τ.1 0 12 = 0
  · rw [if_pos (show sn_I τ 0 12 = 0 from h), if_pos h]
    rfl
  · rw [if_neg (show ¬ sn_I τ 0 12 = 0 from h), if_neg h]
    rfl
theorem rm_errs {x : Int32} : fX9_errs τ x = some (if τ.1 0 12 = 0 then sn_pI (sn_pI τ 0 12 x) 0 13 (τ.1 0 9) else τ) := by
  unfold fX9_errs
  rw [rm_good]
  by_cases h : τ.1 0 12 = 0
  · rw [if_pos h, if_pos h]
    show some (sn_pI (sn_pI τ 0 12 x) 0 13 ((sn_pI τ 0 12 x).1 0 9)) = _
    rw [pI_slot (by decide)]
  · rw [if_neg h, if_neg h]
    rfl
/-- both find the same fault -/
theorem rr_blame (h : rr_L σ τ n) {x : Int32} (hx : x ≠ 0) : rr_ok (fX5_blame σ x) (fX9_errs τ x) (fun σ' τ' => rr_L σ' τ' n ∧ rr_F σ τ σ' τ' ∧ σ'.1 17 2 ≠ 0) := by
  obtain ⟨ht, hp, hr, h12, h13, hs⟩ := h
  rw [rc_blame, rm_errs, h12]
  by_cases c : σ.1 17 2 = 0
  · rw [if_pos c, if_pos c]
    obtain ⟨a, e, tc, tm, _⟩ := hs c
    have f1 : zk_fr σ (sn_pI (sn_pI σ 17 2 x) 17 3 (σ.1 17 4)) := zk_frw (by decide) (zk_frw (by decide) zk_fr0)
    have g2 : (sn_pI (sn_pI σ 17 2 x) 17 3 (σ.1 17 4)).1 17 2 = x := by rw [pI_slot (by decide), pI_self]
    have m0 : ∀ q, q ≠ 0 → (sn_pI (sn_pI τ 0 12 x) 0 13 (τ.1 0 9)).1 q = τ.1 q := fun q hq => by rw [pI_ne hq, pI_ne hq]
    have mk : ∀ k, k ≠ 12 → k ≠ 13 → (sn_pI (sn_pI τ 0 12 x) 0 13 (τ.1 0 9)).1 0 k = τ.1 0 k := fun k h1 h2 => by rw [pI_slot h2, pI_slot h1]
    refine rr_some ⟨⟨rr_tpF ht f1 m0 (mk 7 (by decide) (by decide)), zk_posf hp f1.2.1 (by rw [pI_slot (by decide), pI_slot (by decide)]) (by rw [pI_slot (by decide), pI_slot (by decide)]), rr_R f1 hr, ?_, ?_, fun e => absurd (g2.symm.trans e) hx⟩, ⟨f1, m0, fun k _ _ _ _ a b => mk k a b, rfl, fun e => absurd (g2.symm.trans e) hx⟩, fun e => hx (g2.symm.trans e)⟩
    · rw [g2, pI_slot (by decide), pI_self]
    · rw [pI_self, pI_self, tc.1, tm.1]
  · rw [if_neg c, if_neg c]
    exact rr_some ⟨⟨ht, hp, hr, h12, h13, hs⟩, rr_F0, c⟩
end
