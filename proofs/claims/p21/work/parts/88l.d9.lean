/-! answers: who sneezes when -/
section
variable {σ τ : sn_S}
theorem ym_isP {τ u : sn_S} {w : Nat → Int32} {a : Int32} (hW : jW w) (h : yM τ u w) : fX9_isPerson u a.toInt64 = some (if 0 ≤ a ∧ a < w 5 then 1 else 0) := by
  have b := hW.1.2.2.2.2.2.1
  have l := b.2
  have e : u.1 1 5 = w 5 := congrFun h.1 5
  rw [m_isPerson (by rw [e, b.1]; exact nI_pos' (by omega)), e]
theorem ym_askP {w : Nat → Int32} {a : Int32} (hw : τ.1 1 = w) (hW : jW w) : yp (fX9_asksPerson τ a) (fun r => r.1 = (if 0 ≤ a ∧ a < w 5 then 1 else 0) ∧ yM τ r.2 w) := by
  unfold fX9_asksPerson
  refine yp_bd _ (ym_asks hw hW) (fun r hr => ?_)
  rw [ym_isP hW hr.2]
  exact yp_bs rfl (yp_gd (fun _ => yp_some ⟨rfl, hr.2⟩))
theorem yz_go {v x0 : Int32} {A : Option (Int32 × sn_S)} {Q : sn_S → Prop} {X : Option Int32} {Y : Int32 × sn_S → Option (Int32 × sn_S)} (hA : yp A (fun r => r.1 = v ∧ Q r.2)) (h : v ≠ 0 → ∀ u, Q u → yr X (Y (v, u)) (fun r s => r = s.1)) : yr ((some v).bind fun t => if t = 0 then some x0 else X) (A.bind fun t => if t.1 = 0 then some (x0, t.2) else Y t) (fun r s => r = s.1) := by
  intro r s e1 e2
  obtain ⟨⟨v2, u⟩, e3, e4⟩ := sn_bd e2
  obtain ⟨hv, hu⟩ := hA _ e3
  have hv : v2 = v := hv
  subst hv
  have e1 : (if v2 = 0 then some x0 else X) = some r := e1
  have e4 : (if v2 = 0 then some (x0, u) else Y (v2, u)) = some s := e4
  by_cases c : v2 = 0
  · rw [if_pos c] at e1 e4
    cases e1
    cases e4
    rfl
  · rw [if_neg c] at e1 e4
    exact h c u hu r s e1 e4
theorem yz_if {a c : Int32} (h : (if 0 ≤ a ∧ a < c then (1 : Int32) else 0) ≠ 0) : 0 ≤ a ∧ a < c := by
  by_cases g : 0 ≤ a ∧ a < c
  · exact g
  · rw [if_neg g] at h
    exact absurd rfl h
theorem yz_pers {a x0 : Int32} {X : Option Int32} {Y : Int32 × sn_S → Option (Int32 × sn_S)} (hK : zK σ τ) (h : ∀ p v u, p < sp_n (τ.1 1) 5 → a = nI p → yM τ u (τ.1 1) → yr X (Y (v, u)) (fun r s => r = s.1)) : yr ((fX8_isPerson σ a).bind fun t => if t = 0 then some x0 else X) ((fX9_asksPerson τ a).bind fun t => if t.1 = 0 then some (x0, t.2) else Y t) (fun r s => r = s.1) := by
  obtain ⟨-, ⟨p1, p2, p3⟩, -⟩ := yK_n hK
  rw [c_isPerson, p1]
  refine yz_go (Q := fun z => yM τ z (τ.1 1)) (ym_askP rfl hK.2.1.1) (fun c u hu => ?_)
  obtain ⟨p, hp, ep⟩ := yK_p (by omega) p2 (yz_if c)
  exact h p _ u hp ep hu
/-- what a lived day of a house tells, both sides -/
theorem yz_sn (hK : zK σ τ) {p : Nat} (hp : p < sp_n (τ.1 1) 5) : σ.1 (27 + 10) p = dy_sn (hs_day (τ.1 1)) (sp_n (τ.1 1) 0) p := hK.2.2.2.2.2.2 p hp
theorem yz_msn {u : sn_S} {w : Nat → Int32} (hW : jW w) (h : yM τ u w) {p : Nat} (hp : p < sp_n w 5) : u.1 10 p = dy_sn (hs_day w) (sp_n w 0) p := by
  have l := hW.1.2.2.2.2.2.1.2
  have := (h.2.1.2 p (by omega)).1
  rw [if_pos (show p < dy_P (hs_day w) from hp)] at this
  exact this
theorem yz_sbits {i : dy_I} {M p : Nat} (hM : M ≤ 30) : ∀ k, M ≤ k → k < 32 → sp_bit (dy_sn i M p) k = false := fun k hk h32 => by
  unfold dy_sn
  rw [yb_set _ (by omega) k h32, decide_eq_false (by omega)]
  rfl
/-! how often all sneeze -/
end
