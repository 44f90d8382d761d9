/-! words of bits: how many, the lowest -/
def zo_bcv (x : Int32) (n : Nat) : Bool := match fJ6_bitCount_0f7a4 x with
  | some r => decide (0 ≤ r.toInt ∧ r.toInt ≤ (n : Int))
  | none => false
theorem zo_bcs {x : Int32} {n : Nat} (h : zo_bcv x n = true) : zs_ok (fJ6_bitCount_0f7a4 x) (fun r => zs_in r.toInt 0 n) := by
  unfold zo_bcv at h
  cases e : fJ6_bitCount_0f7a4 x with
  | none => rw [e] at h; cases h
  | some r =>
    rw [e] at h
    exact ⟨r, rfl, by simpa using h⟩
theorem zo_bc8 : ∀ n, n < 9 → ∀ j, j < 2 ^ n → zo_bcv (nI j) n = true := by decide +kernel
theorem zo_bct {x0 : Int32} : zs_ok (fJ6_bitCount_0f7a4 x0) (fun r => zs_in r.toInt 0 63) := by
  unfold fJ6_bitCount_0f7a4
  exact ⟨_, rfl, zs_and (d := 63) (c := 63) (by decide) (by decide)⟩
/-- the first bit that is set -/
theorem zo_first (P : Nat → Prop) (n : Nat) (h : ∃ k, k < n ∧ P k) : ∃ k, k < n ∧ P k ∧ ∀ j, j < k → ¬ P j := by
  induction n with
  | zero => obtain ⟨k, h1, _⟩ := h; omega
  | succ n ih =>
    by_cases h2 : ∃ k, k < n ∧ P k
    · obtain ⟨k, a, b, c⟩ := ih h2
      exact ⟨k, by omega, b, c⟩
    · obtain ⟨k, h1, h3⟩ := h
      refine ⟨k, h1, h3, fun j hj hp => h2 ⟨j, by omega, hp⟩⟩
theorem zo_twoPow (x : BitVec 32) (n : Nat) (hn : n ≤ 32) (h0 : x ≠ 0) (h1 : x.toNat < 2 ^ n) : ∃ k, k < n ∧ x &&& -x = BitVec.twoPow 32 k := by
  have hex : ∃ k, k < n ∧ x.getLsbD k = true := by
    apply Classical.byContradiction
    intro hne
    apply h0
    apply BitVec.eq_of_getLsbD_eq
    intro i hi
    have hz : BitVec.getLsbD (0 : BitVec 32) i = false := by simp
    rw [hz]
    by_cases h : i < n
    · cases e : x.getLsbD i with
      | false => rfl
      | true => exact absurd ⟨i, h, e⟩ hne
    · have : x.toNat < 2 ^ i := Nat.lt_of_lt_of_le h1 (Nat.pow_le_pow_right (by decide) (by omega))
      exact Nat.testBit_lt_two_pow this
  obtain ⟨k, k1, k2, k3⟩ := zo_first (fun k => x.getLsbD k = true) n hex
  refine ⟨k, k1, ?_⟩
  apply BitVec.eq_of_getLsbD_eq
  intro i hi
  rw [BitVec.getLsbD_and, BitVec.getLsbD_neg, BitVec.getLsbD_twoPow]
  have e1 : decide (i < 32) = true := by simpa using hi
  by_cases hik : i = k
  · subst hik
    have e2 : decide (∃ j, j < i ∧ x.getLsbD j = true) = false := by
      rw [decide_eq_false_iff_not]
      rintro ⟨j, j1, j2⟩
      exact k3 j j1 j2
    simp [k2, e1, e2]
  · by_cases hlt : i < k
    · have e3 : x.getLsbD i = false := by simpa using k3 i hlt
      simp [e3]
      omega
    · have e4 : ∃ j, j < i ∧ x.getLsbD j = true := ⟨k, by omega, k2⟩
      simp [e1, e4]
      omega
theorem zo_pow8 : ∀ k, k < 31 → zo_bcv (nI (2 ^ k) - 1) k = true ∧ zo_bcv (nI (2 ^ k) - 1) k = true := by decide +kernel
theorem zo_lowv {x : Int32} (n : Nat) (hn : n ≤ 31) (h0 : x ≠ 0) (h1 : x.toBitVec.toNat < 2 ^ n) : zs_ok (fX8_lowestBit x) (fun r => zs_in r.toInt 0 (n - 1)) := by
  obtain ⟨k, k1, k2⟩ := zo_twoPow x.toBitVec n (by omega) (fun z => h0 (by
    have : x = Int32.ofBitVec x.toBitVec := rfl
    rw [this, z]
    rfl)) h1
  have e : x &&& -x = nI (2 ^ k) := by
    have : (x &&& -x).toBitVec = (nI (2 ^ k)).toBitVec := by
      rw [Int32.toBitVec_and, Int32.toBitVec_neg, k2]
      apply BitVec.eq_of_toNat_eq
      rw [BitVec.toNat_twoPow]
      show 2 ^ k % 2 ^ 32 = 2 ^ k % 2 ^ 32
      rfl
    exact Int32.toBitVec_inj.mp this
  unfold fX8_lowestBit
  rw [if_neg h0, e]
  obtain ⟨r, e1, e2⟩ := zo_bcs (zo_pow8 k (by omega)).1
  rw [e1]
  exact ⟨r, rfl, ⟨by omega, by omega⟩⟩
theorem zo_low (n : Nat) (m : Int) {lo hi : Int} (hd : 0 ≤ lo ∧ hi < 2 ^ n ∧ n ≤ 31 ∧ ((n : Int) - 1 = m)) {x0 : Int32} (h : zs_in x0.toInt lo hi) : zs_ok (fX8_lowestBit x0) (fun r => zs_in r.toInt (-1) m) := by
  by_cases e : x0 = 0
  · unfold fX8_lowestBit
    rw [if_pos e]
    have e2 : (-1 : Int32).toInt = -1 := by decide
    exact ⟨-1, rfl, by show zs_in (-1 : Int32).toInt (-1) m; rw [e2]; exact ⟨by omega, by omega⟩⟩
  · obtain ⟨e1, e2⟩ := zs_nat (x := x0) (by omega)
    have hp : ((2 ^ n : Nat) : Int) = 2 ^ n := by simp
    obtain ⟨r, f1, f2⟩ := zo_lowv n hd.2.2.1 e (by omega)
    exact ⟨r, f1, ⟨by omega, by omega⟩⟩
theorem zo_low1 (n : Nat) (m : Int) {lo hi : Int} (hd : 0 < lo ∧ hi < 2 ^ n ∧ n ≤ 31 ∧ ((n : Int) - 1 = m)) {x0 : Int32} (h : zs_in x0.toInt lo hi) : zs_ok (fX8_lowestBit x0) (fun r => zs_in r.toInt 0 m) := by
  have e : x0 ≠ 0 := fun z => by
    have : x0.toInt = 0 := by rw [z]; decide
    omega
  obtain ⟨e1, e2⟩ := zs_nat (x := x0) (by omega)
  have hp : ((2 ^ n : Nat) : Int) = 2 ^ n := by simp
  obtain ⟨r, f1, f2⟩ := zo_lowv n hd.2.2.1 e (by omega)
  exact ⟨r, f1, ⟨by omega, by omega⟩⟩
theorem zo_lowt {x0 : Int32} : zs_ok (fX8_lowestBit x0) (fun r => zs_in r.toInt (-1) 63) := by
  unfold fX8_lowestBit
  refine zs_ite (fun _ => zs_some (by decide)) (fun _ => ?_)
  exact zs_bd_ zo_bct (fun t ht => zs_some (zs_w ht (by decide)))
/-! the reference's first bit -/
theorem zo_bitv {n : Nat} (h : n < 2 ^ 31) {j : Nat} (hj : j < 31) : fX9_bit (nI n) (nI j) = some (nI (n / 2 ^ j % 2)) := by
  unfold fX9_bit
  have hs : ∀ j, j < 31 → (((nI j &&& 31 : Int32)).toBitVec.smod 32).toNat = j := by decide +kernel
  rw [pk_shrN h (nI j &&& 31) j (hs j hj)]
  have hlt : n / 2 ^ j < 2 ^ 32 := Nat.lt_of_le_of_lt (Nat.div_le_self _ _) (by omega)
  have := pk_andN hlt (m := 1) 1 (by decide)
  rw [this]
theorem zo_fol {n : Nat} (h : n < 2 ^ 31) : zs_ok (fX9_firstOf (nI n)) (fun r => zs_in r.toInt (-1) 29 ∧ (r.toInt = -1 → ∀ j, j < 30 → n / 2 ^ j % 2 = 0)) := by
  unfold fX9_firstOf
  obtain ⟨t, e1, e2⟩ := sn_it_rule (f := LX9_firstOf_2 (nI n)) (fun s => ∃ k, k ≤ 30 ∧ s = nI k ∧ ∀ j, j < k → n / 2 ^ j % 2 = 0) (fun s => 31 - s.toInt.toNat) (fun t => match t with | .inl _ => ∀ j, j < 30 → n / 2 ^ j % 2 = 0 | .inr r => zs_in r.toInt 0 29)
    (fun s hs => by
      obtain ⟨k, k1, rfl, k2⟩ := hs
      unfold LX9_firstOf_2 BX9_firstOf_2
      by_cases h30 : (30 : Int32) ≤ nI k
      · right
        rw [if_pos h30]
        refine ⟨_, rfl, ?_⟩
        have : k = 30 := by
          have h2 := Int32.le_iff_toInt_le.mp h30
          rw [nI_toInt (by omega)] at h2
          have h3 : (30 : Int32).toInt = 30 := by decide
          omega
        subst this
        exact k2
      · rw [if_neg h30]
        have hk : k < 30 := by
          have h2 : ¬ (30 : Int32).toInt ≤ (nI k).toInt := fun z => h30 (Int32.le_iff_toInt_le.mpr z)
          rw [nI_toInt (by omega)] at h2
          have h3 : (30 : Int32).toInt = 30 := by decide
          omega
        rw [zo_bitv h (by omega)]
        by_cases hb : n / 2 ^ k % 2 = 1
        · right
          refine ⟨.inr (nI k), ?_, ?_⟩
          · show (if nI (n / 2 ^ k % 2) = 1 then _ else _) = _
            rw [hb]
            rfl
          · show zs_in (nI k).toInt 0 29
            rw [nI_toInt (by omega)]
            exact ⟨by omega, by omega⟩
        · left
          have hb0 : n / 2 ^ k % 2 = 0 := by omega
          refine ⟨nI (k + 1), ?_, ⟨k + 1, by omega, rfl, fun j hj => ?_⟩, ?_⟩
          · show (if nI (n / 2 ^ k % 2) = 1 then _ else some (Sum.inl (nI k + 1))) = _
            rw [hb0, nI_1]
            rfl
          · by_cases e : j = k
            · rw [e]; exact hb0
            · exact k2 j (by omega)
          · rw [nI_toInt (by omega), nI_toInt (by omega)]
            omega) 5000 0 ⟨0, by omega, nI_0.symm, fun j hj => by omega⟩ (by decide)
  rw [show ((0 : Int32)) = 0 from rfl] at e1
  rw [e1]
  cases t with
  | inl u => exact ⟨-1, rfl, by decide, fun _ => e2⟩
  | inr r => exact ⟨r, rfl, zs_w e2 (by decide), fun z => absurd z (by have : zs_in r.toInt 0 29 := e2; omega)⟩
theorem zo_fo1 {lo hi : Int} (hd : 0 < lo ∧ hi < 2 ^ 30) {x0 : Int32} (h : zs_in x0.toInt lo hi) : zs_ok (fX9_firstOf x0) (fun r => zs_in r.toInt 0 29) := by
  obtain ⟨j, j1, rfl⟩ := zs_val h ⟨by omega, by omega⟩
  have hj : j < 2 ^ 30 := by omega
  rw [nI_toInt (by omega)] at h
  obtain ⟨r, e, f1, f2⟩ := zo_fol (n := j) (by omega)
  refine ⟨r, e, ?_⟩
  by_cases z : r.toInt = -1
  · exfalso
    have h0 : j = 0 := by
      apply Nat.eq_of_testBit_eq
      intro i
      rw [Nat.zero_testBit, Nat.testBit_eq_decide_div_mod_eq]
      by_cases hi30 : i < 30
      · rw [f2 z i hi30]; rfl
      · have : j / 2 ^ i = 0 := Nat.div_eq_of_lt (Nat.lt_of_lt_of_le hj (Nat.pow_le_pow_right (by decide) (by omega)))
        rw [this]; rfl
    omega
  · exact ⟨by omega, f1.2⟩
/-! how many bits: at most as many as there are places -/
theorem zo_and8 (u m : Nat) : u &&& m = (u % 256 &&& m % 256) + 256 * (u / 256 &&& m / 256) := by
  have h1 := Nat.div_add_mod (u &&& m) 256
  have h2 : (u &&& m) % 2 ^ 8 = (u % 2 ^ 8) &&& (m % 2 ^ 8) := Nat.and_mod_two_pow
  have h3 : (u &&& m) / 2 ^ 8 = (u / 2 ^ 8) &&& (m / 2 ^ 8) := Nat.and_div_two_pow
  have h2' : (u &&& m) % 256 = (u % 256) &&& (m % 256) := h2
  have h3' : (u &&& m) / 256 = (u / 256) &&& (m / 256) := h3
  rw [← h2', ← h3']
  omega
theorem zo_andM {u u0 u1 u2 u3 b M : Nat} (hu : u = u0 + 256 * u1 + 65536 * u2 + 16777216 * u3) (h0 : u0 < 256) (h1 : u1 < 256) (h2 : u2 < 256) (h3 : u3 < 256) (hM : M = b + 256 * b + 65536 * b + 16777216 * b) (hb : b < 256) :
    u &&& M = (u0 &&& b) + 256 * (u1 &&& b) + 65536 * (u2 &&& b) + 16777216 * (u3 &&& b) := by
  rw [zo_and8 u M, show u % 256 = u0 by omega, show M % 256 = b by omega, show u / 256 = u1 + 256 * u2 + 65536 * u3 by omega, show M / 256 = b + 256 * b + 65536 * b by omega]
  rw [zo_and8 (u1 + 256 * u2 + 65536 * u3) (b + 256 * b + 65536 * b), show (u1 + 256 * u2 + 65536 * u3) % 256 = u1 by omega, show (b + 256 * b + 65536 * b) % 256 = b by omega, show (u1 + 256 * u2 + 65536 * u3) / 256 = u2 + 256 * u3 by omega, show (b + 256 * b + 65536 * b) / 256 = b + 256 * b by omega]
  rw [zo_and8 (u2 + 256 * u3) (b + 256 * b), show (u2 + 256 * u3) % 256 = u2 by omega, show (b + 256 * b) % 256 = b by omega, show (u2 + 256 * u3) / 256 = u3 by omega, show (b + 256 * b) / 256 = b by omega]
  generalize u0 &&& b = w0
  generalize u1 &&& b = w1
  generalize u2 &&& b = w2
  generalize u3 &&& b = w3
  omega
def zo_p (a : Nat) : Nat := a - (a / 2 &&& 85)
def zo_q (a : Nat) : Nat := (zo_p a &&& 51) + (zo_p a / 4 &&& 51)
def zo_c (a : Nat) : Nat := (zo_q a + zo_q a / 16) &&& 15
theorem zo_d1 : ∀ a, a < 256 → ∀ t, t < 2 → (a / 2 + 128 * t) &&& 85 = a / 2 &&& 85 := by decide +kernel
theorem zo_d2 : ∀ a, a < 256 → (a / 2 &&& 85) ≤ a ∧ zo_p a < 256 := by decide +kernel
theorem zo_d3 : ∀ a, a < 256 → ∀ t, t < 4 → (a / 4 + 64 * t) &&& 51 = a / 4 &&& 51 := by decide +kernel
theorem zo_d4 : ∀ a, a < 256 → zo_q a ≤ 68 ∧ zo_q a % 16 ≤ 4 ∧ zo_c a ≤ 8 ∧ (a < 64 → zo_c a ≤ 6) := by decide +kernel
theorem zo_d5 : ∀ q, q < 69 → ∀ t, t < 5 → (q + q / 16 + 16 * t) &&& 15 = (q + q / 16) &&& 15 := by decide +kernel
theorem zo_nand {n m : Nat} (hn : n < 2 ^ 32) (hm : m < 2 ^ 32) : nI n &&& nI m = nI (n &&& m) := by
  apply Int32.toBitVec_inj.mp
  rw [Int32.toBitVec_and]
  apply BitVec.eq_of_toNat_eq
  have h1 : n &&& m < 2 ^ 32 := Nat.lt_of_le_of_lt Nat.and_le_left hn
  rw [BitVec.toNat_and, pk_tn hn, pk_tn hm, pk_tn h1]
theorem zo_ush {n : Nat} (hn : n < 2 ^ 32) : ((nI n).toUInt32 >>> ((1 : Int32).toUInt32 &&& Int32.toUInt32 31)).toInt32 = nI (n / 2) ∧ ((nI n).toUInt32 >>> ((2 : Int32).toUInt32 &&& Int32.toUInt32 31)).toInt32 = nI (n / 4) ∧ ((nI n).toUInt32 >>> ((4 : Int32).toUInt32 &&& Int32.toUInt32 31)).toInt32 = nI (n / 16) ∧ ((nI n).toUInt32 >>> ((8 : Int32).toUInt32 &&& Int32.toUInt32 31)).toInt32 = nI (n / 256) ∧ ((nI n).toUInt32 >>> ((16 : Int32).toUInt32 &&& Int32.toUInt32 31)).toInt32 = nI (n / 65536) :=
  ⟨pk_ushrN hn 1 1 (by decide), pk_ushrN hn 2 2 (by decide), pk_ushrN hn 4 4 (by decide), pk_ushrN hn 8 8 (by decide), pk_ushrN hn 16 16 (by decide)⟩
theorem zo_sum {v c0 c1 c2 c3 : Nat} (h : v = c0 + 256 * c1 + 65536 * c2 + 16777216 * c3) (h0 : c0 ≤ 8) (h1 : c1 ≤ 8) (h2 : c2 ≤ 8) (h3 : c3 ≤ 6) : (v + v / 256 + (v + v / 256) / 65536) % 64 = c0 + c1 + c2 + c3 := by
  have e1 : v / 256 = c1 + 256 * c2 + 65536 * c3 := by omega
  rw [e1]
  have e2 : (v + (c1 + 256 * c2 + 65536 * c3)) / 65536 = (c2 + c3) + 256 * c3 := by omega
  rw [e2]
  omega
theorem zo_bc30 {n : Nat} (hn : n < 2 ^ 30) : ∃ k, k ≤ 30 ∧ fJ6_bitCount_0f7a4 (nI n) = some (nI k) := by
  obtain ⟨a, b, c, d, hu, ha, hb, hc, hd⟩ : ∃ a b c d, n = a + 256 * b + 65536 * c + 16777216 * d ∧ a < 256 ∧ b < 256 ∧ c < 256 ∧ d < 64 := ⟨n % 256, n / 256 % 256, n / 65536 % 256, n / 16777216, by omega, by omega, by omega, by omega, by omega⟩
  have hd' : d < 256 := by omega
  have pa := zo_d2 a ha
  have pb := zo_d2 b hb
  have pc := zo_d2 c hc
  have pd := zo_d2 d hd'
  -- first step
  have e1 : n / 2 &&& 1431655765 = (a / 2 &&& 85) + 256 * (b / 2 &&& 85) + 65536 * (c / 2 &&& 85) + 16777216 * (d / 2 &&& 85) := by
    rw [zo_andM (u := n / 2) (u0 := a / 2 + 128 * (b % 2)) (u1 := b / 2 + 128 * (c % 2)) (u2 := c / 2 + 128 * (d % 2)) (u3 := d / 2) (b := 85) (by omega) (by omega) (by omega) (by omega) (by omega) rfl (by decide), zo_d1 a ha _ (by omega), zo_d1 b hb _ (by omega), zo_d1 c hc _ (by omega)]
  have y1 : n - (n / 2 &&& 1431655765) = zo_p a + 256 * zo_p b + 65536 * zo_p c + 16777216 * zo_p d := by
    rw [e1]
    unfold zo_p
    omega
  have s1 : (n / 2 &&& 1431655765) ≤ n := by rw [e1]; omega
  generalize hy1 : n - (n / 2 &&& 1431655765) = v1 at y1
  have b1 : v1 < 2 ^ 32 := by omega
  -- second step
  have e2 : v1 &&& 858993459 = (zo_p a &&& 51) + 256 * (zo_p b &&& 51) + 65536 * (zo_p c &&& 51) + 16777216 * (zo_p d &&& 51) := zo_andM y1 pa.2 pb.2 pc.2 pd.2 rfl (by decide)
  have e3 : v1 / 4 &&& 858993459 = (zo_p a / 4 &&& 51) + 256 * (zo_p b / 4 &&& 51) + 65536 * (zo_p c / 4 &&& 51) + 16777216 * (zo_p d / 4 &&& 51) := by
    rw [zo_andM (u := v1 / 4) (u0 := zo_p a / 4 + 64 * (zo_p b % 4)) (u1 := zo_p b / 4 + 64 * (zo_p c % 4)) (u2 := zo_p c / 4 + 64 * (zo_p d % 4)) (u3 := zo_p d / 4) (b := 51) (by omega) (by omega) (by omega) (by omega) (by omega) rfl (by decide), zo_d3 _ pa.2 _ (by omega), zo_d3 _ pb.2 _ (by omega), zo_d3 _ pc.2 _ (by omega)]
  have qa := zo_d4 a ha
  have qb := zo_d4 b hb
  have qc := zo_d4 c hc
  have qd := zo_d4 d hd'
  have y3 : (v1 &&& 858993459) + (v1 / 4 &&& 858993459) = zo_q a + 256 * zo_q b + 65536 * zo_q c + 16777216 * zo_q d := by
    rw [e2, e3]
    unfold zo_q
    omega
  generalize hy3 : (v1 &&& 858993459) + (v1 / 4 &&& 858993459) = v3 at y3
  have b3 : v3 < 2 ^ 32 := by omega
  -- third step
  have y5 : (v3 + v3 / 16) &&& 252645135 = zo_c a + 256 * zo_c b + 65536 * zo_c c + 16777216 * zo_c d := by
    rw [zo_andM (u := v3 + v3 / 16) (u0 := zo_q a + zo_q a / 16 + 16 * (zo_q b % 16)) (u1 := zo_q b + zo_q b / 16 + 16 * (zo_q c % 16)) (u2 := zo_q c + zo_q c / 16 + 16 * (zo_q d % 16)) (u3 := zo_q d + zo_q d / 16) (b := 15) (by omega) (by omega) (by omega) (by omega) (by omega) rfl (by decide), zo_d5 _ (by omega) _ (by omega), zo_d5 _ (by omega) _ (by omega), zo_d5 _ (by omega) _ (by omega)]
    rfl
  have b4 : v3 + v3 / 16 < 2 ^ 32 := by omega
  generalize hy5 : (v3 + v3 / 16) &&& 252645135 = v5 at y5
  have b5 : v5 < 2 ^ 28 := by omega
  refine ⟨zo_c a + zo_c b + zo_c c + zo_c d, by have := qd.2.2.2 hd; omega, ?_⟩
  unfold fJ6_bitCount_0f7a4 sn_lt
  have k1 : (1431655765 : Int32) = nI 1431655765 := rfl
  have k2 : (858993459 : Int32) = nI 858993459 := rfl
  have k4 : (252645135 : Int32) = nI 252645135 := rfl
  have k6 : (63 : Int32) = nI 63 := rfl
  have hn2 : n < 2 ^ 32 := by omega
  dsimp only
  rw [(zo_ush hn2).1, k1, zo_nand (by omega) (by decide), pk_sub s1, hy1, (zo_ush b1).2.1, k2, zo_nand b1 (by decide), zo_nand (by omega) (by decide), nI_add, hy3, (zo_ush b3).2.2.1, nI_add, k4, zo_nand b4 (by decide), hy5, (zo_ush (show v5 < 2 ^ 32 by omega)).2.2.2.1, nI_add]
  have b7 : v5 + v5 / 256 < 2 ^ 32 := by omega
  rw [(zo_ush b7).2.2.2.2, nI_add, k6, zo_nand (by omega) (by decide)]
  have h63 : ∀ x : Nat, x &&& 63 = x % 64 := fun x => Nat.and_two_pow_sub_one_eq_mod x 6
  rw [h63]
  exact congrArg (fun z => some (nI z)) (zo_sum y5 qa.2.2.1 qb.2.2.1 qc.2.2.1 (qd.2.2.2 hd))
theorem zo_bc (n : Nat) (m : Int) {lo hi : Int} (hd : 0 ≤ lo ∧ hi < 2 ^ n ∧ (n < 9 ∨ n = 30) ∧ ((n : Int) = m)) {x0 : Int32} (h : zs_in x0.toInt lo hi) : zs_ok (fJ6_bitCount_0f7a4 x0) (fun r => zs_in r.toInt 0 m) := by
  have hp : ((2 ^ n : Nat) : Int) = 2 ^ n := by simp
  have hle : (2 : Nat) ^ n ≤ 2 ^ 30 := Nat.pow_le_pow_right (by decide) (by omega)
  have hx := zs_topI x0
  obtain ⟨j, j1, rfl⟩ := zs_val h ⟨by omega, by omega⟩
  have hj : j < 2 ^ n := by omega
  rcases hd.2.2.1 with h8 | h30
  · obtain ⟨r, e, q⟩ := zo_bcs (zo_bc8 n h8 j hj)
    exact ⟨r, e, ⟨by omega, by omega⟩⟩
  · subst h30
    obtain ⟨k, k1, e⟩ := zo_bc30 hj
    refine ⟨_, e, ?_⟩
    show zs_in (nI k).toInt 0 m
    rw [nI_toInt (by omega)]
    exact ⟨by omega, by omega⟩
theorem zo_fot {x0 : Int32} : zs_ok (fX9_firstOf x0) (fun r => zs_in r.toInt (-1) 29) := by
  unfold fX9_firstOf
  refine zs_bd_ (zs_it (E := fun t => zs_sum (fun _ : Unit => True) (fun r : Int32 => zs_in r.toInt 0 29) t) (I := fun s => zs_in s.toInt 0 30) (m := fun s => 30 - s.toInt) (fun s hs => ⟨by have := hs; omega, by have := hs; omega⟩) (fun s hs => ?_) (s0 := 0) (by decide)) (fun t ht => zs_elim ht (fun _ _ => zs_some (by decide)) (fun r hr => zs_some (zs_w hr (by decide))))
  unfold LX9_firstOf_2 BX9_firstOf_2
  refine zs_ite (fun _ => zs_some (zs_inr (zs_inl trivial))) (fun c => ?_)
  have h1 := zs_I_len c
  have h2 : zs_in s.toInt 0 29 := zs_ltl 0 29 h1 hs (show zs_in (30 : Int32).toInt 30 30 by decide) (by decide)
  unfold fX9_bit
  show zs_ok (if _ = (1 : Int32) then _ else _) _
  refine zs_ite (fun _ => zs_some (zs_inr (zs_inr h2))) (fun _ => ?_)
  have h3 : zs_in (s + 1).toInt 1 30 := zs_addI 1 30 h2 (show zs_in (1 : Int32).toInt 1 1 by decide) (by decide)
  have h4 : (s + 1).toInt = s.toInt + 1 := by
    rw [Int32.toInt_add, show (1 : Int32).toInt = 1 by decide, zs_bm ⟨by omega, by omega⟩]
  exact zs_some (zs_inl ⟨zs_w h3 (by decide), by show 30 - (s + 1).toInt < 30 - s.toInt; omega⟩)
theorem zo_fot2 {x0 : Int32} {a b : Int} (h : zs_in x0.toInt a b) : zs_ok (fX9_firstOf x0) (fun r => zs_in r.toInt (-1) 29) := zo_fot
/-! whose a policy is: of those there are -/
abbrev zs_Ws (σ0 : sn_S) (x : Int32) : Prop := Nonempty (PLift (x.toInt < (σ0.1 2 8).toInt))
theorem zs_Wlt {σ0 : sn_S} {x : Int32} (w : zs_Ws σ0 x) : x.toInt < (σ0.1 2 8).toInt := w.elim (fun p => p.down)
theorem zo_whose {σ0 σ : sn_S} {x1 : Int32} [w : zs_Ws σ0 x1] (h_σ : zs_C σ0 σ) (h_x1 : zs_in x1.toInt 0 5) : zs_ok (fX2_ofPolicy σ 1 x1 (0 : Int32)) (fun r => zs_in (r).toInt 0 5) := by
  unfold fX2_ofPolicy
  have e8 : σ.1 2 8 = σ0.1 2 8 := h_σ.2.1 2 8 rfl
  have hl : x1.toInt < (sn_I σ 2 8).toInt := by
    show x1.toInt < (σ.1 2 8).toInt
    rw [e8]
    exact zs_Wlt w
  refine zs_gd (zs_gin (zs_addI 0 25 (zs_mulI 0 25 (by decide : zs_in (5 : Int32).toInt 5 5) h_x1 (by decide)) (by decide : zs_in (0 : Int32).toInt 0 0) (by decide)) (by decide)) ?_
  exact zs_some (zs_use (h_σ.1.2 rfl).1.1.2.2.2 h_x1 (by decide) hl (zs_i50 h_x1 (by decide)))
theorem zo_isPolicyG {key : Nat → Nat → Bool} {kl : Nat → Bool} (hk : key 2 8 = true) {σ0 σ : sn_S} (h_σ : zs_G zs_tC key kl σ0 σ) {x1 : Int32} : zs_ok (fX8_isPolicy σ x1) (fun r => (zs_in (r).toInt 0 1) ∧ ((r).toInt = 0 ∨ zs_in (x1).toInt 0 5) ∧ ((r).toInt = 0 ∨ zs_Ws σ0 x1)) := by
  have e8 : σ.1 2 8 = σ0.1 2 8 := h_σ.2.1 2 8 hk
  have b8 := zs_rdk (q := 2) (k := (8 : Int32).toNatClampNeg) (z := (0, 6)) h_σ.1 rfl
  unfold fX8_isPolicy
  refine zs_ite (fun _ => zs_gd (by decide) (zs_some ⟨by decide, Or.inl (by decide), Or.inl (by decide)⟩)) (fun c => ?_)
  refine zs_gd (by decide) (zs_ite (fun _ => zs_gd (by decide) (zs_some ⟨by decide, Or.inl (by decide), Or.inl (by decide)⟩)) (fun c2 => zs_gd (by decide) (zs_some ⟨by decide, Or.inr ?_, Or.inr ?_⟩)))
  · have h1 := zs_I_ltn c
    have h2 : x1.toInt < (sn_I σ 2 (8 : Int32).toNatClampNeg).toInt := zs_I_len c2
    have h0 : (0 : Int32).toInt = 0 := by decide
    exact ⟨by omega, by omega⟩
  · have h2 : x1.toInt < (σ.1 2 8).toInt := zs_I_len c2
    exact ⟨⟨by rw [← e8]; exact h2⟩⟩
theorem zo_isPolicy {σ0 σ : sn_S} (h_σ : zs_C σ0 σ) {x1 : Int32} : zs_ok (fX8_isPolicy σ x1) (fun r => (zs_in (r).toInt 0 1) ∧ ((r).toInt = 0 ∨ zs_in (x1).toInt 0 5) ∧ ((r).toInt = 0 ∨ zs_Ws σ0 x1)) := zo_isPolicyG rfl h_σ
theorem zoA_isPolicy {σ0 σ : sn_S} (h_σ : zs_A σ0 σ) {x1 : Int32} : zs_ok (fX8_isPolicy σ x1) (fun r => (zs_in (r).toInt 0 1) ∧ ((r).toInt = 0 ∨ zs_in (x1).toInt 0 5) ∧ ((r).toInt = 0 ∨ zs_Ws σ0 x1)) := zo_isPolicyG rfl h_σ
/-! rows laid over rows -/
def zh_cp (z : sn_S) (a b L : Nat) : sn_S := sn_wI z a (va_cpy (sn_I z b) (sn_I z a) (0 : Int32).toNatClampNeg (0 : Int32).toNatClampNeg (Int32.ofNat L).toNatClampNeg)
theorem zh_cp_ne {z : sn_S} {a b L q : Nat} (h : q ≠ a) : (zh_cp z a b L).1 q = z.1 q := by
  show (if q = a then _ else z.1 q) = _
  rw [if_neg h]
theorem zh_cp_eq {z : sn_S} {a b L k : Nat} (hL : L < 2 ^ 31) : (zh_cp z a b L).1 a k = if k < L then z.1 b k else z.1 a k := by
  have e : (Int32.ofNat L).toNatClampNeg = L := nI_clamp hL
  show (if a = a then va_cpy (sn_I z b) (sn_I z a) 0 0 (Int32.ofNat L).toNatClampNeg else z.1 a) k = _
  rw [if_pos rfl, e]
  unfold va_cpy
  by_cases h : k < L
  · rw [if_pos h, if_pos ⟨Nat.zero_le _, by omega⟩]
    show z.1 b (0 + (k - 0)) = _
    rw [Nat.zero_add, Nat.sub_zero]
  · rw [if_neg h, if_neg (fun z => h (by omega))]
    rfl
/-- z: σ with the rows a .. a + n laid over by those of b in part -/
def zh_mix (σ : sn_S) (a b n : Nat) (z : sn_S) : Prop := z.2 = σ.2 ∧ (∀ q, q < a ∨ a + n < q → z.1 q = σ.1 q) ∧ ∀ i, i ≤ n → ∀ k, z.1 (a + i) k = σ.1 (a + i) k ∨ z.1 (a + i) k = σ.1 (b + i) k
theorem zh_mix0 {σ : sn_S} {a b n : Nat} : zh_mix σ a b n σ := ⟨rfl, fun _ _ => rfl, fun _ _ _ => Or.inl rfl⟩
theorem zh_mixp {σ z : sn_S} {a b n i k : Nat} (hd : b + n < a ∨ a + n < b) (hi : i ≤ n) (h : zh_mix σ a b n z) : zh_mix σ a b n (sn_pI z (a + i) k (sn_I z (b + i) k)) := by
  refine ⟨h.1, fun q hq => ?_, fun j hj l => ?_⟩
  · funext l
    show (if q = a + i ∧ l = k then _ else z.1 q l) = _
    rw [if_neg (fun e => by have := e.1; omega), h.2.1 q hq]
  · show (if a + j = a + i ∧ l = k then z.1 (b + i) k else z.1 (a + j) l) = _ ∨ (if a + j = a + i ∧ l = k then z.1 (b + i) k else z.1 (a + j) l) = _
    by_cases e : a + j = a + i ∧ l = k
    · rw [if_pos e]
      right
      have e1 : j = i := by omega
      rw [e1, e.2, h.2.1 (b + i) (by omega)]
    · rw [if_neg e]
      exact h.2.2 j hj l
theorem zh_mixc {σ z : sn_S} {a b n i L : Nat} (hd : b + n < a ∨ a + n < b) (hi : i ≤ n) (hL : L < 2 ^ 31) (h : zh_mix σ a b n z) : zh_mix σ a b n (zh_cp z (a + i) (b + i) L) := by
  refine ⟨h.1, fun q hq => ?_, fun j hj l => ?_⟩
  · rw [zh_cp_ne (by omega), h.2.1 q hq]
  · by_cases e : j = i
    · rw [e, zh_cp_eq hL]
      by_cases e2 : l < L
      · rw [if_pos e2]
        right
        rw [h.2.1 (b + i) (by omega)]
      · rw [if_neg e2]
        exact h.2.2 i hi l
    · rw [zh_cp_ne (by omega)]
      exact h.2.2 j hj l
theorem zh_mix_b {σ z : sn_S} {t : zs_T} {a b n : Nat} (h : zh_mix σ a b n z) (hb : ∀ q k, (t q k).1 ≤ (σ.1 q k).toInt ∧ (σ.1 q k).toInt ≤ (t q k).2) (ht : ∀ i, i ≤ n → ∀ k, (t (a + i) k).1 ≤ (σ.1 (b + i) k).toInt ∧ (σ.1 (b + i) k).toInt ≤ (t (a + i) k).2) (q k : Nat) : (t q k).1 ≤ (z.1 q k).toInt ∧ (z.1 q k).toInt ≤ (t q k).2 := by
  by_cases hq : q < a ∨ a + n < q
  · rw [h.2.1 q hq]
    exact hb q k
  · have e : q = a + (q - a) := by omega
    have := h.2.2 (q - a) (by omega) k
    rw [← e] at this
    rcases this with g | g
    · rw [g]
      exact hb q k
    · rw [g]
      have h1 := ht (q - a) (by omega) k
      rw [← e] at h1
      exact h1
theorem zh_Ru_mv {σ z : sn_S} {cq ck rq cq' rq' s o m : Nat} {hi : Int} (h1 : z.1 cq ck = σ.1 cq' ck) (h2 : ∀ j, j < m → z.1 rq (s * j + o) = σ.1 rq' (s * j + o)) (h : zs_Ru cq' ck rq' s o m hi σ) : zs_Ru cq ck rq s o m hi z := fun j hj hc => by
  rw [h2 j hj]
  exact h j hj (by rw [← h1]; exact hc)
theorem zh_Ru_mv' {σ z : sn_S} {cq ck rq cq' ck' rq' s o m : Nat} {hi : Int} (h1 : z.1 cq ck = σ.1 cq' ck') (h2 : ∀ j, j < m → z.1 rq (s * j + o) = σ.1 rq' (s * j + o)) (h : zs_Ru cq' ck' rq' s o m hi σ) : zs_Ru cq ck rq s o m hi z := fun j hj hc => by
  rw [h2 j hj]
  exact h j hj (by rw [← h1]; exact hc)
/-! a day copied, the nets told to it -/
theorem zh_dcp (σ : sn_S) (a b : Nat) (hd : b + 10 < a ∨ a + 10 < b) : ∃ z, fX0_copyFrom σ a b = some z ∧ zh_mix σ a b 10 z ∧ z.1 a 2 = σ.1 b 2 ∧ ∀ k, k < 16 → z.1 (a + 6) k = σ.1 (b + 6) k := by
  have key : zs_ok (fX0_copyFrom σ a b) (fun z => zh_mix σ a b 10 z ∧ z.1 a 2 = σ.1 b 2 ∧ ∀ k, k < 16 → z.1 (a + 6) k = σ.1 (b + 6) k) := by
    unfold fX0_copyFrom
    refine zs_lt (Q := fun z => zh_mix σ a b 10 z) (zh_mixp (i := 0) hd (by decide) zh_mix0) (fun z1 m1 => ?_)
    refine zs_lt (Q := fun z => zh_mix σ a b 10 z) (zh_mixp (i := 0) hd (by decide) m1) (fun z2 m2 => ?_)
    refine zs_lt (Q := fun z => zh_mix σ a b 10 z ∧ z.1 a 2 = σ.1 b 2) ⟨zh_mixp (i := 0) hd (by decide) m2, ?_⟩ (fun z3 m3 => ?_)
    · show (if a = a ∧ 2 = 2 then z2.1 b 2 else _) = _
      rw [if_pos ⟨rfl, rfl⟩, m2.2.1 b (by omega)]
    refine zs_lt (Q := fun z => zh_mix σ a b 10 z ∧ z.1 a 2 = σ.1 b 2) ⟨zh_mixp (i := 0) hd (by decide) m3.1, ?_⟩ (fun z4 m4 => ?_)
    · show (if a = a ∧ 2 = 3 then _ else z3.1 a 2) = _
      rw [if_neg (fun e => absurd e.2 (by decide))]
      exact m3.2
    have row : ∀ (i L : Nat) (z : sn_S), 1 ≤ i → i ≤ 10 → L < 2 ^ 31 → (zh_mix σ a b 10 z ∧ z.1 a 2 = σ.1 b 2) → (zh_mix σ a b 10 (zh_cp z (a + i) (b + i) L) ∧ (zh_cp z (a + i) (b + i) L).1 a 2 = σ.1 b 2) := by
      intro i L z h1 h10 hL hz
      exact ⟨zh_mixc hd h10 hL hz.1, by rw [zh_cp_ne (by omega)]; exact hz.2⟩
    refine zs_gd (by decide) (zs_lt (Q := fun z => zh_mix σ a b 10 z ∧ z.1 a 2 = σ.1 b 2) (row 1 30 z4 (by decide) (by decide) (by decide) m4) (fun z5 m5 => ?_))
    refine zs_gd (by decide) (zs_lt (Q := fun z => zh_mix σ a b 10 z ∧ z.1 a 2 = σ.1 b 2) (row 2 6 z5 (by decide) (by decide) (by decide) m5) (fun z6 m6 => ?_))
    refine zs_gd (by decide) (zs_lt (Q := fun z => zh_mix σ a b 10 z ∧ z.1 a 2 = σ.1 b 2) (row 3 6 z6 (by decide) (by decide) (by decide) m6) (fun z7 m7 => ?_))
    refine zs_gd (by decide) (zs_lt (Q := fun z => zh_mix σ a b 10 z ∧ z.1 a 2 = σ.1 b 2) (row 4 6 z7 (by decide) (by decide) (by decide) m7) (fun z8 m8 => ?_))
    refine zs_gd (by decide) (zs_lt (Q := fun z => zh_mix σ a b 10 z ∧ z.1 a 2 = σ.1 b 2) (row 5 6 z8 (by decide) (by decide) (by decide) m8) (fun z9 m9 => ?_))
    have row6 : ∀ (i L : Nat) (z : sn_S), 7 ≤ i → i ≤ 10 → L < 2 ^ 31 → (zh_mix σ a b 10 z ∧ z.1 a 2 = σ.1 b 2 ∧ ∀ k, k < 16 → z.1 (a + 6) k = σ.1 (b + 6) k) → (zh_mix σ a b 10 (zh_cp z (a + i) (b + i) L) ∧ (zh_cp z (a + i) (b + i) L).1 a 2 = σ.1 b 2 ∧ ∀ k, k < 16 → (zh_cp z (a + i) (b + i) L).1 (a + 6) k = σ.1 (b + 6) k) := by
      intro i L z h1 h10 hL hz
      exact ⟨zh_mixc hd h10 hL hz.1, by rw [zh_cp_ne (by omega)]; exact hz.2.1, fun k hk => by rw [zh_cp_ne (by omega)]; exact hz.2.2 k hk⟩
    refine zs_gd (by decide) (zs_lt (Q := fun z => zh_mix σ a b 10 z ∧ z.1 a 2 = σ.1 b 2 ∧ ∀ k, k < 16 → z.1 (a + 6) k = σ.1 (b + 6) k) ⟨(row 6 16 z9 (by decide) (by decide) (by decide) m9).1, (row 6 16 z9 (by decide) (by decide) (by decide) m9).2, fun k hk => ?_⟩ (fun z10 m10 => ?_))
    · show (zh_cp z9 (a + 6) (b + 6) 16).1 (a + 6) k = _
      rw [zh_cp_eq (by decide), if_pos hk, m9.1.2.1 (b + 6) (by omega)]
    refine zs_gd (by decide) (zs_lt (Q := fun z => zh_mix σ a b 10 z ∧ z.1 a 2 = σ.1 b 2 ∧ ∀ k, k < 16 → z.1 (a + 6) k = σ.1 (b + 6) k) (row6 7 180 z10 (by decide) (by decide) (by decide) m10) (fun z11 m11 => ?_))
    refine zs_gd (by decide) (zs_lt (Q := fun z => zh_mix σ a b 10 z ∧ z.1 a 2 = σ.1 b 2 ∧ ∀ k, k < 16 → z.1 (a + 6) k = σ.1 (b + 6) k) (row6 8 180 z11 (by decide) (by decide) (by decide) m11) (fun z12 m12 => ?_))
    refine zs_gd (by decide) (zs_lt (Q := fun z => zh_mix σ a b 10 z ∧ z.1 a 2 = σ.1 b 2 ∧ ∀ k, k < 16 → z.1 (a + 6) k = σ.1 (b + 6) k) (row6 9 30 z12 (by decide) (by decide) (by decide) m12) (fun z13 m13 => ?_))
    exact zs_gd (by decide) (zs_lt (Q := fun z => zh_mix σ a b 10 z ∧ z.1 a 2 = σ.1 b 2 ∧ ∀ k, k < 16 → z.1 (a + 6) k = σ.1 (b + 6) k) (row6 10 6 z13 (by decide) (by decide) (by decide) m13) (fun z14 m14 => zs_some m14))
  obtain ⟨z, e, h⟩ := key
  exact ⟨z, e, h⟩
theorem zh_dD {σ z : sn_S} {a b : Nat} (h2 : z.1 a 2 = σ.1 b 2) (h6 : ∀ k, k < 16 → z.1 (a + 6) k = σ.1 (b + 6) k) (h : zs_D b σ) : zs_D a z := ⟨zh_Ru_mv h2 (fun j hj => h6 _ (by omega)) h.1, zh_Ru_mv h2 (fun j hj => h6 _ (by omega)) h.2⟩
theorem zh_days (i : Nat) (hi : i ≤ 10) (k : Nat) : zs_tC (38 + i) k = zs_tC (27 + i) k ∧ zs_tC (59 + i) k = zs_tC (27 + i) k ∧ zs_kC (38 + i) k = false ∧ zs_kC (59 + i) k = false := by
  have : i = 0 ∨ i = 1 ∨ i = 2 ∨ i = 3 ∨ i = 4 ∨ i = 5 ∨ i = 6 ∨ i = 7 ∨ i = 8 ∨ i = 9 ∨ i = 10 := by omega
  rcases this with e | e | e | e | e | e | e | e | e | e | e <;> subst e <;> exact ⟨rfl, rfl, rfl, rfl⟩
theorem zo_dc {σ0 σ z : sn_S} {a : Nat} (h : zs_C σ0 σ) (ha : a = 38 ∨ a = 59) (hm : zh_mix σ a 27 10 z) (h2 : z.1 a 2 = σ.1 27 2) (h6 : ∀ k, k < 16 → z.1 (a + 6) k = σ.1 (27 + 6) k) : zs_C σ0 z := by
  have hD := zh_dD h2 h6 (h.1.2 rfl).2.1
  obtain ⟨⟨c1, c2, c3, c4⟩, d1, d2, d3⟩ := h.1.2 rfl
  have out : ∀ q, q < a ∨ a + 10 < q → z.1 q = σ.1 q := hm.2.1
  have o2 : ∀ q k, q < a ∨ a + 10 < q → z.1 q k = σ.1 q k := fun q k hq => by rw [out q hq]
  refine ⟨⟨zh_mix_b hm h.1.1 (fun i hi k => ?_), fun _ => ⟨⟨?_, ?_, ?_, ?_⟩, ?_, ?_, ?_⟩⟩, fun q k hk => ?_, fun q hq => ?_⟩
  · have e : zs_tC (a + i) k = zs_tC (27 + i) k := by
      rcases ha with e | e <;> subst e
      · exact (zh_days i hi k).1
      · exact (zh_days i hi k).2.1
    rw [e]
    exact h.1.1 _ _
  · exact zs_H_c (o2 _ _ (by omega)) (o2 _ _ (by omega)) (o2 _ _ (by omega)) (fun k => o2 _ _ (by omega)) (fun k => o2 _ _ (by omega)) (fun j => o2 _ _ (by omega)) c1
  · exact zs_H_c (o2 _ _ (by omega)) (o2 _ _ (by omega)) (o2 _ _ (by omega)) (fun k => o2 _ _ (by omega)) (fun k => o2 _ _ (by omega)) (fun j => o2 _ _ (by omega)) c2
  · exact zs_H_c (o2 _ _ (by omega)) (o2 _ _ (by omega)) (o2 _ _ (by omega)) (fun k => o2 _ _ (by omega)) (fun k => o2 _ _ (by omega)) (fun j => o2 _ _ (by omega)) c3
  · exact zs_H_c (o2 _ _ (by omega)) (o2 _ _ (by omega)) (o2 _ _ (by omega)) (fun k => o2 _ _ (by omega)) (fun k => o2 _ _ (by omega)) (fun j => o2 _ _ (by omega)) c4
  · exact zs_D_c (o2 _ _ (by omega)) (fun k => o2 _ _ (by omega)) d1
  · rcases ha with e | e <;> subst e
    · exact hD
    · exact zs_D_c (o2 _ _ (by omega)) (fun k => o2 _ _ (by omega)) d2
  · rcases ha with e | e <;> subst e
    · exact zs_D_c (o2 _ _ (by omega)) (fun k => o2 _ _ (by omega)) d3
    · exact hD
  · by_cases hq : q < a ∨ a + 10 < q
    · rw [out q hq]
      exact h.2.1 q k hk
    · exfalso
      have e : q = a + (q - a) := by omega
      rw [e] at hk
      rcases ha with e | e <;> subst e
      · rw [(zh_days _ (by omega) k).2.2.1] at hk
        cases hk
      · rw [(zh_days _ (by omega) k).2.2.2] at hk
        cases hk
  · rw [hm.1]
    exact h.2.2 q hq
theorem zo_dcopy {σ0 σ : sn_S} (h_σ : zs_C σ0 σ) {a : Nat} (ha : a = 38 ∨ a = 59 := by first | exact Or.inl rfl | exact Or.inr rfl) : zs_ok (fX0_copyFrom σ a 27) (fun r => zs_C σ0 r) := by
  obtain ⟨z, e, hm, h2, h6⟩ := zh_dcp σ a 27 (by omega)
  exact ⟨z, e, zo_dc h_σ ha hm h2 h6⟩
theorem zo_tellG {key : Nat → Nat → Bool} {kl : Nat → Bool} (h27 : ∀ k, key 27 k = false) (h33 : ∀ k, key 33 k = false) {σ0 σ : sn_S} (h : zs_G zs_tC key kl σ0 σ) : zs_G zs_tC key kl σ0 (sn_wI (sn_pI (sn_pI σ 27 2 (sn_I σ (1 + 1) (7 : Int32).toNatClampNeg)) 27 3 (-1 : Int32)) (27 + 6) (va_cpy (sn_I (sn_pI (sn_pI σ 27 2 (sn_I σ (1 + 1) (7 : Int32).toNatClampNeg)) 27 3 (-1 : Int32)) (1 + 4)) (sn_I (sn_pI (sn_pI σ 27 2 (sn_I σ (1 + 1) (7 : Int32).toNatClampNeg)) 27 3 (-1 : Int32)) (27 + 6)) (0 : Int32).toNatClampNeg (0 : Int32).toNatClampNeg (Int32.ofNat 16).toNatClampNeg)) := by
  generalize hz : sn_pI (sn_pI σ 27 2 (sn_I σ (1 + 1) (7 : Int32).toNatClampNeg)) 27 3 (-1 : Int32) = z
  show zs_G zs_tC key kl σ0 (zh_cp z 33 5 16)
  have z2 : z.1 27 2 = σ.1 2 7 := by rw [← hz]; rfl
  have z3 : z.1 27 3 = -1 := by rw [← hz]; rfl
  have zo : ∀ q k, ¬ (q = 27 ∧ (k = 2 ∨ k = 3)) → z.1 q k = σ.1 q k := fun q k hq => by
    rw [← hz]
    show (if q = 27 ∧ k = 3 then _ else if q = 27 ∧ k = 2 then _ else σ.1 q k) = _
    rw [if_neg (fun e => hq ⟨e.1, Or.inr e.2⟩), if_neg (fun e => hq ⟨e.1, Or.inl e.2⟩)]
  have zl : z.2 = σ.2 := by rw [← hz]; rfl
  have co : ∀ q k, q ≠ 33 → ¬ (q = 27 ∧ (k = 2 ∨ k = 3)) → (zh_cp z 33 5 16).1 q k = σ.1 q k := fun q k h1 h2 => by rw [zh_cp_ne h1, zo q k h2]
  have c33 : ∀ k, (zh_cp z 33 5 16).1 33 k = if k < 16 then σ.1 5 k else σ.1 33 k := fun k => by
    rw [zh_cp_eq (by decide), zo 5 k (fun e => absurd e.1 (by decide)), zo 33 k (fun e => absurd e.1 (by decide))]
  obtain ⟨⟨c1, c2, c3, c4⟩, d1, d2, d3⟩ := h.1.2 rfl
  have n27 : ∀ {q : Nat} (k : Nat), q ≠ 27 → ¬ (q = 27 ∧ (k = 2 ∨ k = 3)) := fun k hq e => hq e.1
  refine ⟨⟨fun q k => ?_, fun _ => ⟨⟨?_, ?_, ?_, ?_⟩, ?_, ?_, ?_⟩⟩, fun q k hk => ?_, fun q hq => ?_⟩
  · by_cases e33 : q = 33
    · subst e33
      rw [c33 k]
      by_cases hk : k < 16
      · rw [if_pos hk]
        exact h.1.1 5 k
      · rw [if_neg hk]
        exact h.1.1 33 k
    · by_cases e27 : q = 27 ∧ (k = 2 ∨ k = 3)
      · obtain ⟨e1, e2⟩ := e27
        subst e1
        rw [zh_cp_ne e33]
        rcases e2 with e2 | e2 <;> subst e2
        · rw [z2]
          exact h.1.1 2 7
        · rw [z3]
          exact ⟨by decide, by decide⟩
      · rw [co q k e33 e27]
        exact h.1.1 q k
  · exact zs_H_c (co _ _ (by decide) (n27 _ (by decide))) (co _ _ (by decide) (n27 _ (by decide))) (co _ _ (by decide) (n27 _ (by decide))) (fun k => co _ _ (by decide) (n27 _ (by decide))) (fun k => co _ _ (by decide) (n27 _ (by decide))) (fun j => co _ _ (by decide) (n27 _ (by decide))) c1
  · exact zs_H_c (co _ _ (by decide) (n27 _ (by decide))) (co _ _ (by decide) (n27 _ (by decide))) (co _ _ (by decide) (n27 _ (by decide))) (fun k => co _ _ (by decide) (n27 _ (by decide))) (fun k => co _ _ (by decide) (n27 _ (by decide))) (fun j => co _ _ (by decide) (n27 _ (by decide))) c2
  · exact zs_H_c (co _ _ (by decide) (n27 _ (by decide))) (co _ _ (by decide) (n27 _ (by decide))) (co _ _ (by decide) (n27 _ (by decide))) (fun k => co _ _ (by decide) (n27 _ (by decide))) (fun k => co _ _ (by decide) (n27 _ (by decide))) (fun j => co _ _ (by decide) (n27 _ (by decide))) c3
  · exact zs_H_c (co _ _ (by decide) (n27 _ (by decide))) (co _ _ (by decide) (n27 _ (by decide))) (co _ _ (by decide) (n27 _ (by decide))) (fun k => co _ _ (by decide) (n27 _ (by decide))) (fun k => co _ _ (by decide) (n27 _ (by decide))) (fun j => co _ _ (by decide) (n27 _ (by decide))) c4
  · have e2 : (zh_cp z 33 5 16).1 27 2 = σ.1 2 7 := by rw [zh_cp_ne (by decide)]; exact z2
    exact ⟨zh_Ru_mv' e2 (fun j hj => by rw [c33, if_pos (by omega)]) c1.2.1, zh_Ru_mv' e2 (fun j hj => by rw [c33, if_pos (by omega)]) c1.2.2.1⟩
  · exact zs_D_c (co _ _ (by decide) (n27 _ (by decide))) (fun k => co _ _ (by decide) (n27 _ (by decide))) d2
  · exact zs_D_c (co _ _ (by decide) (n27 _ (by decide))) (fun k => co _ _ (by decide) (n27 _ (by decide))) d3
  · by_cases e33 : q = 33
    · subst e33
      rw [h33] at hk
      cases hk
    · by_cases e27 : q = 27 ∧ (k = 2 ∨ k = 3)
      · rw [e27.1, h27] at hk
        cases hk
      · rw [co q k e33 e27]
        exact h.2.1 q k hk
  · show z.2.1 q = _
    rw [zl]
    exact h.2.2 q hq
theorem zoB_tell {σ0 σ : sn_S} (h : zs_B σ0 σ) : zs_B σ0 (sn_wI (sn_pI (sn_pI σ 27 2 (sn_I σ (1 + 1) (7 : Int32).toNatClampNeg)) 27 3 (-1 : Int32)) (27 + 6) (va_cpy (sn_I (sn_pI (sn_pI σ 27 2 (sn_I σ (1 + 1) (7 : Int32).toNatClampNeg)) 27 3 (-1 : Int32)) (1 + 4)) (sn_I (sn_pI (sn_pI σ 27 2 (sn_I σ (1 + 1) (7 : Int32).toNatClampNeg)) 27 3 (-1 : Int32)) (27 + 6)) (0 : Int32).toNatClampNeg (0 : Int32).toNatClampNeg (Int32.ofNat 16).toNatClampNeg)) := zo_tellG (fun _ => rfl) (fun _ => rfl) h
theorem zoA_tell {σ0 σ : sn_S} (h : zs_A σ0 σ) : zs_A σ0 (sn_wI (sn_pI (sn_pI σ 27 2 (sn_I σ (1 + 1) (7 : Int32).toNatClampNeg)) 27 3 (-1 : Int32)) (27 + 6) (va_cpy (sn_I (sn_pI (sn_pI σ 27 2 (sn_I σ (1 + 1) (7 : Int32).toNatClampNeg)) 27 3 (-1 : Int32)) (1 + 4)) (sn_I (sn_pI (sn_pI σ 27 2 (sn_I σ (1 + 1) (7 : Int32).toNatClampNeg)) 27 3 (-1 : Int32)) (27 + 6)) (0 : Int32).toNatClampNeg (0 : Int32).toNatClampNeg (Int32.ofNat 16).toNatClampNeg)) := zo_tellG (fun _ => rfl) (fun _ => rfl) h
