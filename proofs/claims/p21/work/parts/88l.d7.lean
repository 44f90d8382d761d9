/-! bits of a number: how many, which is the first -/
theorem yb_sh : ∀ k, k < 32 → ((nI k &&& 31).toBitVec.smod 32).toNat = k := by decide +kernel
theorem yb_tb (x : Int32) {k : Nat} (hk : k < 32) : sp_bit x k = x.toBitVec.getLsbD k := by
  have e1 : (x >>> (nI k &&& 31)).toBitVec = x.toBitVec.sshiftRight ((nI k &&& 31).toBitVec.smod 32).toNat := rfl
  have e2 : (x >>> (nI k &&& 31)).toBitVec.getLsbD 0 = x.toBitVec.getLsbD k := by
    rw [e1, yb_sh k hk, BitVec.getLsbD_sshiftRight]
    simp [hk]
  have e3 : ∀ y : Int32, ((y &&& 1) == 1) = y.toBitVec.getLsbD 0 := fun y => by
    have h : (y &&& 1).toBitVec.getLsbD 0 = y.toBitVec.getLsbD 0 := by
      have e : (y &&& 1).toBitVec = y.toBitVec &&& 1#32 := rfl
      rw [e, BitVec.getLsbD_and]
      simp
    rcases yb_1 y with g | g
    · rw [g] at h ⊢
      rw [← h]
      rfl
    · rw [g] at h ⊢
      rw [← h]
      rfl
  unfold sp_bit
  rw [e3, e2]
theorem yb_one : ∀ k, k < 32 → ((1 : Int32) <<< (nI k &&& 31)).toBitVec = BitVec.twoPow 32 k := by decide +kernel
theorem yb_or1 (x : Int32) {k j : Nat} (hk : k < 32) (hj : j < 32) : sp_bit (x ||| ((1 : Int32) <<< (nI k &&& 31))) j = (sp_bit x j || decide (j = k)) := by
  have e : (x ||| ((1 : Int32) <<< (nI k &&& 31))).toBitVec = x.toBitVec ||| ((1 : Int32) <<< (nI k &&& 31)).toBitVec := rfl
  rw [yb_tb _ hj, yb_tb _ hj, e, BitVec.getLsbD_or, yb_one k hk, BitVec.getLsbD_twoPow]
  simp [hk, eq_comm]
theorem yb_set {f : Nat → Bool} : ∀ n, n ≤ 32 → ∀ j, j < 32 → sp_bit (dy_set f n) j = (decide (j < n) && f j) := by
  intro n
  induction n with
  | zero =>
    intro _ j hj
    show sp_bit 0 j = _
    rw [yb_z j hj]
    simp
  | succ n ih =>
    intro hn j hj
    show sp_bit (if f n = true then dy_set f n ||| ((1 : Int32) <<< (nI n &&& 31)) else dy_set f n) j = _
    by_cases c : f n = true
    · rw [if_pos c, yb_or1 _ (by omega) hj, ih (by omega) j hj]
      by_cases e : j = n
      · subst e
        simp [c]
      · have : (j < n + 1) ↔ (j < n) := by omega
        simp [e, this]
    · rw [if_neg c, ih (by omega) j hj]
      by_cases e : j = n
      · subst e
        simp [c]
      · have : (j < n + 1) ↔ (j < n) := by omega
        simp [this]
/-! the class's count of bits, by half bytes -/
/-! the first bit -/
/-- r is the first bit of x from a on, below 30; -1: there is none -/
def yb_F (x : Int32) (a : Nat) (r : Int32) : Prop := (r = -1 ∧ ∀ k, a ≤ k → k < 30 → sp_bit x k = false) ∨ ∃ k, a ≤ k ∧ k < 30 ∧ sp_bit x k = true ∧ (∀ j, a ≤ j → j < k → sp_bit x j = false) ∧ r = nI k
