/-! bits of a number: how many, which is the first -/
theorem yb_sh : ∀ k, k < 32 → ((nI k &&& 31).toBitVec.smod 32).toNat = k := by decide +kernel
theorem yb_tb (x : Int32) {k : Nat} (hk : k < 32) : sp_bit x k = x.toBitVec.getLsbD k := by
  have e1 : (x >>> (nI k &&& 31)).toBitVec = x.toBitVec.sshiftRight ((nI k &&& 31).toBitVec.smod 32).toNat := rfl
  have e2 : (x >>> (nI k &&& 31)).toBitVec.getLsbD 0 = x.toBitVec.getLsbD k := by
    rw [e1, yb_sh k hk, BitVec.getLsbD_sshiftRight]
    simp [hk]
  have e3 : ∀ y : Int32, ((y &&& 1) == 1) = y.toBitVec.getLsbD 0 := fun y => by
    have h : (y &&& 1).toBitVec.getLsbD 0 = y.toBitVec.getLsbD 0 := by
      have e : (y &&& 1).toBitVec = y.toBitVec &&& 1#32 := rfl
      rw [e, BitVec.getLsbD_and]
      simp
    rcases yb_1 y with g | g
    · rw [g] at h ⊢
      rw [← h]
      rfl
    · rw [g] at h ⊢
      rw [← h]
      rfl
  unfold sp_bit
  rw [e3, e2]
theorem yb_ext {x y : Int32} (h : ∀ k, k < 32 → sp_bit x k = sp_bit y k) : x = y := by
  apply Int32.toBitVec_inj.mp
  apply BitVec.eq_of_getLsbD_eq
  intro k hk
  rw [← yb_tb x hk, ← yb_tb y hk]
  exact h k hk
theorem yb_one : ∀ k, k < 32 → ((1 : Int32) <<< (nI k &&& 31)).toBitVec = BitVec.twoPow 32 k := by decide +kernel
theorem yb_or1 (x : Int32) {k j : Nat} (hk : k < 32) (hj : j < 32) : sp_bit (x ||| ((1 : Int32) <<< (nI k &&& 31))) j = (sp_bit x j || decide (j = k)) := by
  have e : (x ||| ((1 : Int32) <<< (nI k &&& 31))).toBitVec = x.toBitVec ||| ((1 : Int32) <<< (nI k &&& 31)).toBitVec := rfl
  rw [yb_tb _ hj, yb_tb _ hj, e, BitVec.getLsbD_or, yb_one k hk, BitVec.getLsbD_twoPow]
  simp [hk, eq_comm]
theorem yb_and (x y : Int32) {j : Nat} (hj : j < 32) : sp_bit (x &&& y) j = (sp_bit x j && sp_bit y j) := by
  have e : (x &&& y).toBitVec = x.toBitVec &&& y.toBitVec := rfl
  rw [yb_tb _ hj, yb_tb _ hj, yb_tb _ hj, e, BitVec.getLsbD_and]
theorem yb_or (x y : Int32) {j : Nat} (hj : j < 32) : sp_bit (x ||| y) j = (sp_bit x j || sp_bit y j) := by
  have e : (x ||| y).toBitVec = x.toBitVec ||| y.toBitVec := rfl
  rw [yb_tb _ hj, yb_tb _ hj, yb_tb _ hj, e, BitVec.getLsbD_or]
theorem yb_not (x : Int32) {j : Nat} (hj : j < 32) : sp_bit (~~~x) j = !sp_bit x j := by
  have e : (~~~x).toBitVec = ~~~x.toBitVec := rfl
  rw [yb_tb _ hj, yb_tb _ hj, e, BitVec.getLsbD_not]
  simp [hj]
theorem yb_1k {k j : Nat} (hk : k < 32) (hj : j < 32) : sp_bit ((1 : Int32) <<< (nI k &&& 31)) j = decide (j = k) := by
  rw [yb_tb _ hj, yb_one k hk, BitVec.getLsbD_twoPow]
  simp [hk, eq_comm]
/-- the first n bits -/
theorem yb_low : ∀ n, n < 31 → ∀ j, j < 32 → sp_bit (((1 : Int32) <<< (nI n &&& 31)) - 1) j = decide (j < n) := by decide +kernel
theorem yb_set {f : Nat → Bool} : ∀ n, n ≤ 32 → ∀ j, j < 32 → sp_bit (dy_set f n) j = (decide (j < n) && f j) := by
  intro n
  induction n with
  | zero =>
    intro _ j hj
    show sp_bit 0 j = _
    rw [yb_z j hj]
    simp
  | succ n ih =>
    intro hn j hj
    show sp_bit (if f n = true then dy_set f n ||| ((1 : Int32) <<< (nI n &&& 31)) else dy_set f n) j = _
    by_cases c : f n = true
    · rw [if_pos c, yb_or1 _ (by omega) hj, ih (by omega) j hj]
      by_cases e : j = n
      · subst e
        simp [c]
      · have : (j < n + 1) ↔ (j < n) := by omega
        simp [e, this]
    · rw [if_neg c, ih (by omega) j hj]
      by_cases e : j = n
      · subst e
        simp [c]
      · have : (j < n + 1) ↔ (j < n) := by omega
        simp [this]
def yb_pop (x : Int32) : Nat → Nat
  | 0 => 0
  | n + 1 => yb_pop x n + (if sp_bit x n = true then 1 else 0)
theorem yb_pople (x : Int32) : ∀ n, yb_pop x n ≤ n := by
  intro n
  induction n with
  | zero => exact Nat.le_refl _
  | succ n ih =>
    show yb_pop x n + (if _ then 1 else 0) ≤ n + 1
    split <;> omega
theorem yb_mbits (x : Int32) : yp (fX9_bits x) (fun v => v = nI (yb_pop x 30)) := by
  unfold fX9_bits
  refine yp_bd (fun v => v = nI (yb_pop x 30)) (yp_for 30 (fun k s => s.2 = nI k ∧ s.1 = nI (yb_pop x k)) (fun k s hk hs => ?_) (fun s hs => ?_) ⟨nI_0.symm, nI_0.symm⟩) (fun v hv => ?_)
  · obtain ⟨v, y⟩ := s
    obtain ⟨ey, ev⟩ := hs
    have ey : y = nI k := ey
    have ev : v = nI (yb_pop x k) := ev
    subst ey
    subst ev
    show yp (BX9_bits_4 x _ (nI k)) _
    unfold BX9_bits_4
    rw [if_neg (show ¬ (30 : Int32) ≤ nI k from nI_ge (b := 30) hk (by decide)), yb_if]
    refine yp_lt (yp_lt (yp_some ⟨nI_1 k, ?_⟩))
    show nI (yb_pop x k) + (if sp_bit x k = true then 1 else 0) = nI (yb_pop x k + (if sp_bit x k = true then 1 else 0))
    by_cases c : sp_bit x k = true
    · rw [if_pos c, if_pos c]
      exact nI_1 _
    · rw [if_neg c, if_neg c]
      exact Int32.add_zero _
  · obtain ⟨v, y⟩ := s
    obtain ⟨ey, ev⟩ := hs
    have ey : y = nI 30 := ey
    subst ey
    show yp (BX9_bits_4 x v (nI 30)) _
    unfold BX9_bits_4
    rw [if_pos (show (30 : Int32) ≤ nI 30 by decide)]
    exact yp_some ev
  · unfold BX9_bits_24
    exact yp_some hv
/-! the class's count of bits, by half bytes -/
theorem yn_and {a b c d : Nat} (ha : a < 16) (hc : c < 16) : (16 * b + a) &&& (16 * d + c) = 16 * (b &&& d) + (a &&& c) := by
  have h1 : ((16 * b + a) &&& (16 * d + c)) / 16 = b &&& d := by
    have h := @Nat.shiftRight_and_distrib (i := 4) (a := 16 * b + a) (b := 16 * d + c)
    rw [Nat.shiftRight_eq_div_pow, Nat.shiftRight_eq_div_pow, Nat.shiftRight_eq_div_pow] at h
    rw [show (2 : Nat) ^ 4 = 16 by decide] at h
    rw [h, show (16 * b + a) / 16 = b by omega, show (16 * d + c) / 16 = d by omega]
  have h2 : ((16 * b + a) &&& (16 * d + c)) % 16 = a &&& c := by
    have h := Nat.and_mod_two_pow (n := 4) (a := 16 * b + a) (b := 16 * d + c)
    rw [show (2 : Nat) ^ 4 = 16 by decide, show (16 * b + a) % 16 = a by omega, show (16 * d + c) % 16 = c by omega] at h
    exact h
  omega
def yn_8 (a b c d e f g h : Nat) : Nat := 16 * (16 * (16 * (16 * (16 * (16 * (16 * h + g) + f) + e) + d) + c) + b) + a
theorem yn_and8 {a b c d e f g h a' b' c' d' e' f' g' h' : Nat} (h1 : a < 16 ∧ b < 16 ∧ c < 16 ∧ d < 16 ∧ e < 16 ∧ f < 16 ∧ g < 16) (h2 : a' < 16 ∧ b' < 16 ∧ c' < 16 ∧ d' < 16 ∧ e' < 16 ∧ f' < 16 ∧ g' < 16) : yn_8 a b c d e f g h &&& yn_8 a' b' c' d' e' f' g' h' = yn_8 (a &&& a') (b &&& b') (c &&& c') (d &&& d') (e &&& e') (f &&& f') (g &&& g') (h &&& h') := by
  unfold yn_8
  rw [yn_and h1.1 h2.1, yn_and h1.2.1 h2.2.1, yn_and h1.2.2.1 h2.2.2.1, yn_and h1.2.2.2.1 h2.2.2.2.1, yn_and h1.2.2.2.2.1 h2.2.2.2.2.1, yn_and h1.2.2.2.2.2.1 h2.2.2.2.2.2.1, yn_and h1.2.2.2.2.2.2 h2.2.2.2.2.2.2]
def yn_p (d : Nat) : Nat := d % 2 + d / 2 % 2 + d / 4 % 2 + d / 8 % 2
def yn_s (d : Nat) : Nat := d - ((d / 2) &&& 5)
theorem yn_5 : ∀ d, d < 16 → ∀ b, b < 2 → ((d / 2 + 8 * b) &&& 5) = ((d / 2) &&& 5) ∧ ((d / 2) &&& 5) ≤ d ∧ yn_s d < 16 ∧ (yn_s d &&& 3) + yn_s d / 4 = yn_p d ∧ yn_p d ≤ 4 := by decide +kernel
theorem yn_3 : ∀ s, s < 16 → ∀ b, b < 4 → ((s / 4 + 4 * b) &&& 3) = s / 4 := by decide +kernel
theorem yn_15 : ∀ s, s < 16 → (s &&& 15) = s ∧ (s &&& 0) = 0 := by decide +kernel
theorem yn_split (N : Nat) (hN : N < 4294967296) : N = yn_8 (N % 16) (N / 16 % 16) (N / 256 % 16) (N / 4096 % 16) (N / 65536 % 16) (N / 1048576 % 16) (N / 16777216 % 16) (N / 268435456) := by
  unfold yn_8
  omega
def yn_cnt (N : Nat) : Nat :=
  let y1 := N - ((N / 2) &&& 1431655765)
  let y3 := (y1 &&& 858993459) + ((y1 / 4) &&& 858993459)
  let y5 := (y3 + y3 / 16) &&& 252645135
  let y7 := y5 + y5 / 256
  (y7 + y7 / 65536) % 64
theorem yn_cnt8 {a b c d e f g h : Nat} (ha : a < 16) (hb : b < 16) (hc : c < 16) (hd : d < 16) (he : e < 16) (hf : f < 16) (hg : g < 16) (hh : h < 16) : yn_cnt (yn_8 a b c d e f g h) = yn_p a + yn_p b + yn_p c + yn_p d + yn_p e + yn_p f + yn_p g + yn_p h := by
  have e1 : yn_8 a b c d e f g h / 2 = yn_8 (a / 2 + 8 * (b % 2)) (b / 2 + 8 * (c % 2)) (c / 2 + 8 * (d % 2)) (d / 2 + 8 * (e % 2)) (e / 2 + 8 * (f % 2)) (f / 2 + 8 * (g % 2)) (g / 2 + 8 * (h % 2)) (h / 2 + 8 * 0) := by
    unfold yn_8
    omega
  have m5 : 1431655765 = yn_8 5 5 5 5 5 5 5 5 := by decide
  have m3 : 858993459 = yn_8 3 3 3 3 3 3 3 3 := by decide
  have mf : 252645135 = yn_8 15 0 15 0 15 0 15 0 := by decide
  have fa := yn_5 a ha
  have fb := yn_5 b hb
  have fc := yn_5 c hc
  have fd := yn_5 d hd
  have fe := yn_5 e he
  have ff := yn_5 f hf
  have fg := yn_5 g hg
  have fh := yn_5 h hh
  have e2 : yn_8 a b c d e f g h - ((yn_8 a b c d e f g h / 2) &&& 1431655765) = yn_8 (yn_s a) (yn_s b) (yn_s c) (yn_s d) (yn_s e) (yn_s f) (yn_s g) (yn_s h) := by
    rw [e1, m5, yn_and8 (by omega) (by omega), (fa (b % 2) (by omega)).1, (fb (c % 2) (by omega)).1, (fc (d % 2) (by omega)).1, (fd (e % 2) (by omega)).1, (fe (f % 2) (by omega)).1, (ff (g % 2) (by omega)).1, (fg (h % 2) (by omega)).1, (fh 0 (by omega)).1]
    have q1 := (fa 0 (by omega)).2.1
    have q2 := (fb 0 (by omega)).2.1
    have q3 := (fc 0 (by omega)).2.1
    have q4 := (fd 0 (by omega)).2.1
    have q5 := (fe 0 (by omega)).2.1
    have q6 := (ff 0 (by omega)).2.1
    have q7 := (fg 0 (by omega)).2.1
    have q8 := (fh 0 (by omega)).2.1
    unfold yn_8 yn_s
    omega
  have sa := (fa 0 (by omega)).2.2
  have sb := (fb 0 (by omega)).2.2
  have sc := (fc 0 (by omega)).2.2
  have sd := (fd 0 (by omega)).2.2
  have se := (fe 0 (by omega)).2.2
  have sf := (ff 0 (by omega)).2.2
  have sg := (fg 0 (by omega)).2.2
  have sh := (fh 0 (by omega)).2.2
  unfold yn_cnt
  simp only
  rw [e2]
  generalize yn_s a = s1 at sa ⊢
  generalize yn_s b = s2 at sb ⊢
  generalize yn_s c = s3 at sc ⊢
  generalize yn_s d = s4 at sd ⊢
  generalize yn_s e = s5 at se ⊢
  generalize yn_s f = s6 at sf ⊢
  generalize yn_s g = s7 at sg ⊢
  generalize yn_s h = s8 at sh ⊢
  have e3 : yn_8 s1 s2 s3 s4 s5 s6 s7 s8 / 4 = yn_8 (s1 / 4 + 4 * (s2 % 4)) (s2 / 4 + 4 * (s3 % 4)) (s3 / 4 + 4 * (s4 % 4)) (s4 / 4 + 4 * (s5 % 4)) (s5 / 4 + 4 * (s6 % 4)) (s6 / 4 + 4 * (s7 % 4)) (s7 / 4 + 4 * (s8 % 4)) (s8 / 4 + 4 * 0) := by
    unfold yn_8
    omega
  have e4 : (yn_8 s1 s2 s3 s4 s5 s6 s7 s8 &&& 858993459) + ((yn_8 s1 s2 s3 s4 s5 s6 s7 s8 / 4) &&& 858993459) = yn_8 (yn_p a) (yn_p b) (yn_p c) (yn_p d) (yn_p e) (yn_p f) (yn_p g) (yn_p h) := by
    rw [e3, m3, yn_and8 (by omega) (by omega), yn_and8 (by omega) (by omega), yn_3 s1 (by omega) _ (by omega), yn_3 s2 (by omega) _ (by omega), yn_3 s3 (by omega) _ (by omega), yn_3 s4 (by omega) _ (by omega), yn_3 s5 (by omega) _ (by omega), yn_3 s6 (by omega) _ (by omega), yn_3 s7 (by omega) _ (by omega), yn_3 s8 (by omega) _ (by omega)]
    rw [← sa.2.1, ← sb.2.1, ← sc.2.1, ← sd.2.1, ← se.2.1, ← sf.2.1, ← sg.2.1, ← sh.2.1]
    unfold yn_8
    omega
  rw [e4]
  have pa := sa.2.2
  have pb := sb.2.2
  have pc := sc.2.2
  have pd := sd.2.2
  have pe := se.2.2
  have pf := sf.2.2
  have pg := sg.2.2
  have ph := sh.2.2
  generalize yn_p a = p1 at pa ⊢
  generalize yn_p b = p2 at pb ⊢
  generalize yn_p c = p3 at pc ⊢
  generalize yn_p d = p4 at pd ⊢
  generalize yn_p e = p5 at pe ⊢
  generalize yn_p f = p6 at pf ⊢
  generalize yn_p g = p7 at pg ⊢
  generalize yn_p h = p8 at ph ⊢
  have e5 : yn_8 p1 p2 p3 p4 p5 p6 p7 p8 + yn_8 p1 p2 p3 p4 p5 p6 p7 p8 / 16 = yn_8 (p1 + p2) (p2 + p3) (p3 + p4) (p4 + p5) (p5 + p6) (p6 + p7) (p7 + p8) p8 := by
    unfold yn_8
    omega
  have e6 : (yn_8 p1 p2 p3 p4 p5 p6 p7 p8 + yn_8 p1 p2 p3 p4 p5 p6 p7 p8 / 16) &&& 252645135 = yn_8 (p1 + p2) 0 (p3 + p4) 0 (p5 + p6) 0 (p7 + p8) 0 := by
    rw [e5, mf, yn_and8 (by omega) (by omega), (yn_15 (p1 + p2) (by omega)).1, (yn_15 (p2 + p3) (by omega)).2, (yn_15 (p3 + p4) (by omega)).1, (yn_15 (p4 + p5) (by omega)).2, (yn_15 (p5 + p6) (by omega)).1, (yn_15 (p6 + p7) (by omega)).2, (yn_15 (p7 + p8) (by omega)).1, (yn_15 p8 (by omega)).2]
  rw [e6]
  have e7 : yn_8 (p1 + p2) 0 (p3 + p4) 0 (p5 + p6) 0 (p7 + p8) 0 = (p1 + p2) + 256 * (p3 + p4) + 65536 * (p5 + p6) + 16777216 * (p7 + p8) := by
    unfold yn_8
    omega
  rw [e7]
  have a1 : ((p1 + p2) + 256 * (p3 + p4) + 65536 * (p5 + p6) + 16777216 * (p7 + p8)) / 256 = (p3 + p4) + 256 * (p5 + p6) + 65536 * (p7 + p8) := by omega
  rw [a1]
  have a2 : (((p1 + p2) + 256 * (p3 + p4) + 65536 * (p5 + p6) + 16777216 * (p7 + p8)) + ((p3 + p4) + 256 * (p5 + p6) + 65536 * (p7 + p8))) / 65536 = (p5 + p6) + (p7 + p8) + 256 * (p7 + p8) := by omega
  rw [a2]
  omega
def yb_n (x : Int32) : Nat := x.toBitVec.toNat
theorem yb_nlt (x : Int32) : yb_n x < 4294967296 := x.toBitVec.isLt
theorem yb_nand (x y : Int32) : yb_n (x &&& y) = yb_n x &&& yb_n y := by
  have e : (x &&& y).toBitVec = x.toBitVec &&& y.toBitVec := rfl
  unfold yb_n
  rw [e, BitVec.toNat_and]
theorem yb_nsub {x y : Int32} (h : yb_n y ≤ yb_n x) : yb_n (x - y) = yb_n x - yb_n y := by
  have e : (x - y).toBitVec = x.toBitVec - y.toBitVec := rfl
  have h1 := yb_nlt x
  unfold yb_n at h h1 ⊢
  rw [e, BitVec.toNat_sub]
  omega
theorem yb_nadd {x y : Int32} (h : yb_n x + yb_n y < 4294967296) : yb_n (x + y) = yb_n x + yb_n y := by
  have e : (x + y).toBitVec = x.toBitVec + y.toBitVec := rfl
  unfold yb_n at h ⊢
  rw [e, BitVec.toNat_add]
  omega
theorem yb_nshr (x : Int32) (c : UInt32) (k : Nat) (hc : (c.toBitVec % 32).toNat = k) : yb_n ((x.toUInt32 >>> c).toInt32) = yb_n x / 2 ^ k := by
  have e : ((x.toUInt32 >>> c).toInt32).toBitVec = x.toBitVec.ushiftRight (c.toBitVec % 32).toNat := rfl
  unfold yb_n
  rw [e, hc]
  show (x.toBitVec >>> k).toNat = _
  rw [BitVec.toNat_ushiftRight, Nat.shiftRight_eq_div_pow]
theorem yb_nI {x : Int32} {k : Nat} (h : yb_n x = k) (hk : k < 4294967296) : x = nI k := by
  apply Int32.toBitVec_inj.mp
  apply BitVec.eq_of_toNat_eq
  have e : (nI k).toBitVec.toNat = k % 2 ^ 32 := rfl
  rw [e]
  unfold yb_n at h
  rw [h]
  omega
theorem yn_andle (a b : Nat) : a &&& b ≤ a := Nat.and_le_left
theorem yn_63 (a : Nat) : a &&& 63 = a % 64 := Nat.and_two_pow_sub_one_eq_mod a 6
theorem yb_fcnt (x : Int32) : fJ6_bitCount_0f7a4 x = some (nI (yn_cnt (yb_n x))) := by
  have hx := yb_nlt x
  have b1 : (yb_n x / 2) &&& 1431655765 ≤ yb_n x / 2 := Nat.and_le_left
  have hF : ∀ y1 y3 y5 y7 y9 : Int32, y1 = x - (((x.toUInt32 >>> ((1 : Int32).toUInt32 &&& Int32.toUInt32 31)).toInt32) &&& (1431655765 : Int32)) → y3 = (y1 &&& (858993459 : Int32)) + (((y1.toUInt32 >>> ((2 : Int32).toUInt32 &&& Int32.toUInt32 31)).toInt32) &&& (858993459 : Int32)) → y5 = ((y3 + ((y3.toUInt32 >>> ((4 : Int32).toUInt32 &&& Int32.toUInt32 31)).toInt32)) &&& (252645135 : Int32)) → y7 = y5 + ((y5.toUInt32 >>> ((8 : Int32).toUInt32 &&& Int32.toUInt32 31)).toInt32) → y9 = y7 + ((y7.toUInt32 >>> ((16 : Int32).toUInt32 &&& Int32.toUInt32 31)).toInt32) → fJ6_bitCount_0f7a4 x = some (y9 &&& (63 : Int32)) := by
    intro y1 y3 y5 y7 y9 h1 h3 h5 h7 h9
    rw [h9, h7, h5, h3, h1]
    rfl
  obtain ⟨y1, h1⟩ : ∃ y1 : Int32, y1 = x - (((x.toUInt32 >>> ((1 : Int32).toUInt32 &&& Int32.toUInt32 31)).toInt32) &&& (1431655765 : Int32)) := ⟨_, rfl⟩
  obtain ⟨y3, h3⟩ : ∃ y3 : Int32, y3 = (y1 &&& (858993459 : Int32)) + (((y1.toUInt32 >>> ((2 : Int32).toUInt32 &&& Int32.toUInt32 31)).toInt32) &&& (858993459 : Int32)) := ⟨_, rfl⟩
  obtain ⟨y5, h5⟩ : ∃ y5 : Int32, y5 = ((y3 + ((y3.toUInt32 >>> ((4 : Int32).toUInt32 &&& Int32.toUInt32 31)).toInt32)) &&& (252645135 : Int32)) := ⟨_, rfl⟩
  obtain ⟨y7, h7⟩ : ∃ y7 : Int32, y7 = y5 + ((y5.toUInt32 >>> ((8 : Int32).toUInt32 &&& Int32.toUInt32 31)).toInt32) := ⟨_, rfl⟩
  obtain ⟨y9, h9⟩ : ∃ y9 : Int32, y9 = y7 + ((y7.toUInt32 >>> ((16 : Int32).toUInt32 &&& Int32.toUInt32 31)).toInt32) := ⟨_, rfl⟩
  rw [hF y1 y3 y5 y7 y9 h1 h3 h5 h7 h9]
  have n1 : yb_n y1 = yb_n x - ((yb_n x / 2) &&& 1431655765) := by
    have e : yb_n (((x.toUInt32 >>> ((1 : Int32).toUInt32 &&& Int32.toUInt32 31)).toInt32) &&& (1431655765 : Int32)) = (yb_n x / 2) &&& 1431655765 := by
      rw [yb_nand, yb_nshr x _ 1 (by decide)]
      rfl
    rw [h1, yb_nsub (by rw [e]; omega), e]
  have l1 : yb_n y1 &&& 858993459 ≤ 858993459 := Nat.and_le_right
  have l2 : (yb_n y1 / 4) &&& 858993459 ≤ 858993459 := Nat.and_le_right
  have n3 : yb_n y3 = (yb_n y1 &&& 858993459) + ((yb_n y1 / 4) &&& 858993459) := by
    have a1 : yb_n (y1 &&& (858993459 : Int32)) = yb_n y1 &&& 858993459 := yb_nand _ _
    have a2 : yb_n (((y1.toUInt32 >>> ((2 : Int32).toUInt32 &&& Int32.toUInt32 31)).toInt32) &&& (858993459 : Int32)) = (yb_n y1 / 4) &&& 858993459 := by
      rw [yb_nand, yb_nshr y1 _ 2 (by decide)]
      rfl
    rw [h3, yb_nadd (by rw [a1, a2]; omega), a1, a2]
  have s4 : yb_n ((y3.toUInt32 >>> ((4 : Int32).toUInt32 &&& Int32.toUInt32 31)).toInt32) = yb_n y3 / 16 := yb_nshr y3 _ 4 (by decide)
  have n5 : yb_n y5 = (yb_n y3 + yb_n y3 / 16) &&& 252645135 := by
    rw [h5, yb_nand, yb_nadd (by rw [s4]; omega), s4]
    rfl
  have l5 : yb_n y5 ≤ 252645135 := by
    rw [n5]
    exact Nat.and_le_right
  have s8 : yb_n ((y5.toUInt32 >>> ((8 : Int32).toUInt32 &&& Int32.toUInt32 31)).toInt32) = yb_n y5 / 256 := yb_nshr y5 _ 8 (by decide)
  have n7 : yb_n y7 = yb_n y5 + yb_n y5 / 256 := by
    rw [h7, yb_nadd (by rw [s8]; omega), s8]
  have s16 : yb_n ((y7.toUInt32 >>> ((16 : Int32).toUInt32 &&& Int32.toUInt32 31)).toInt32) = yb_n y7 / 65536 := yb_nshr y7 _ 16 (by decide)
  have n9 : yb_n y9 = yb_n y7 + yb_n y7 / 65536 := by
    rw [h9, yb_nadd (by rw [s16]; omega), s16]
  have fin : yb_n (y9 &&& (63 : Int32)) = yn_cnt (yb_n x) := by
    rw [yb_nand, show yb_n (63 : Int32) = 63 from rfl, yn_63, n9, n7, n5, n3, n1]
    rfl
  have lt : yn_cnt (yb_n x) < 4294967296 := by
    have : yb_n (y9 &&& (63 : Int32)) < 4294967296 := yb_nlt _
    omega
  rw [yb_nI fin lt]
theorem yb_bitn (x : Int32) {k : Nat} (hk : k < 32) : (if sp_bit x k = true then 1 else 0) = yb_n x / 2 ^ k % 2 := by
  rw [yb_tb x hk, show x.toBitVec.getLsbD k = (yb_n x).testBit k from rfl, Nat.testBit_eq_decide_div_mod_eq]
  have h : yb_n x / 2 ^ k % 2 = 0 ∨ yb_n x / 2 ^ k % 2 = 1 := by omega
  rcases h with h | h
  · rw [h]
    rfl
  · rw [h]
    rfl
theorem yb_pop4 (x : Int32) {k : Nat} (hk : k + 4 ≤ 32) : yb_pop x (k + 4) = yb_pop x k + yn_p (yb_n x / 2 ^ k % 16) := by
  show yb_pop x k + (if sp_bit x k = true then 1 else 0) + (if sp_bit x (k + 1) = true then 1 else 0) + (if sp_bit x (k + 2) = true then 1 else 0) + (if sp_bit x (k + 3) = true then 1 else 0) = _
  rw [yb_bitn x (show k < 32 by omega), yb_bitn x (show k + 1 < 32 by omega), yb_bitn x (show k + 2 < 32 by omega), yb_bitn x (show k + 3 < 32 by omega), Nat.pow_add, Nat.pow_add, Nat.pow_add, ← Nat.div_div_eq_div_mul, ← Nat.div_div_eq_div_mul, ← Nat.div_div_eq_div_mul]
  generalize yb_n x / 2 ^ k = M
  unfold yn_p
  rw [show (2 : Nat) ^ 1 = 2 by decide, show (2 : Nat) ^ 2 = 4 by decide, show (2 : Nat) ^ 3 = 8 by decide]
  omega
theorem yb_count (x : Int32) : fJ6_bitCount_0f7a4 x = some (nI (yb_pop x 32)) := by
  have e : yn_cnt (yb_n x) = yb_pop x 32 := by
    have hx := yb_nlt x
    have h0 : yb_pop x 4 = yb_pop x 0 + yn_p (yb_n x / 2 ^ 0 % 16) := yb_pop4 x (k := 0) (by decide)
    have h1 : yb_pop x 8 = yb_pop x 4 + yn_p (yb_n x / 2 ^ 4 % 16) := yb_pop4 x (k := 4) (by decide)
    have h2 : yb_pop x 12 = yb_pop x 8 + yn_p (yb_n x / 2 ^ 8 % 16) := yb_pop4 x (k := 8) (by decide)
    have h3 : yb_pop x 16 = yb_pop x 12 + yn_p (yb_n x / 2 ^ 12 % 16) := yb_pop4 x (k := 12) (by decide)
    have h4 : yb_pop x 20 = yb_pop x 16 + yn_p (yb_n x / 2 ^ 16 % 16) := yb_pop4 x (k := 16) (by decide)
    have h5 : yb_pop x 24 = yb_pop x 20 + yn_p (yb_n x / 2 ^ 20 % 16) := yb_pop4 x (k := 20) (by decide)
    have h6 : yb_pop x 28 = yb_pop x 24 + yn_p (yb_n x / 2 ^ 24 % 16) := yb_pop4 x (k := 24) (by decide)
    have h7 : yb_pop x 32 = yb_pop x 28 + yn_p (yb_n x / 2 ^ 28 % 16) := yb_pop4 x (k := 28) (by decide)
    have hz : yb_pop x 0 = 0 := rfl
    rw [show (2 : Nat) ^ 0 = 1 by decide] at h0
    rw [show (2 : Nat) ^ 4 = 16 by decide] at h1
    rw [show (2 : Nat) ^ 8 = 256 by decide] at h2
    rw [show (2 : Nat) ^ 12 = 4096 by decide] at h3
    rw [show (2 : Nat) ^ 16 = 65536 by decide] at h4
    rw [show (2 : Nat) ^ 20 = 1048576 by decide] at h5
    rw [show (2 : Nat) ^ 24 = 16777216 by decide] at h6
    rw [show (2 : Nat) ^ 28 = 268435456 by decide] at h7
    have hs := yn_split (yb_n x) hx
    have h8 : yb_n x / 268435456 % 16 = yb_n x / 268435456 := by omega
    rw [Nat.div_one] at h0
    rw [h8] at h7
    generalize hN : yb_n x = N at *
    have key := yn_cnt8 (a := N % 16) (b := N / 16 % 16) (c := N / 256 % 16) (d := N / 4096 % 16) (e := N / 65536 % 16) (f := N / 1048576 % 16) (g := N / 16777216 % 16) (h := N / 268435456) (by omega) (by omega) (by omega) (by omega) (by omega) (by omega) (by omega) (by omega)
    rw [← hs] at key
    rw [key]
    omega
  rw [yb_fcnt, e]
theorem yb_pop30 {x : Int32} (h : ∀ k, 30 ≤ k → k < 32 → sp_bit x k = false) : yb_pop x 32 = yb_pop x 30 := by
  show yb_pop x 30 + (if sp_bit x 30 = true then 1 else 0) + (if sp_bit x 31 = true then 1 else 0) = _
  rw [h 30 (by decide) (by decide), h 31 (by decide) (by decide)]
  rfl
/-! the first bit -/
/-- r is the first bit of x from a on, below 30; -1: there is none -/
def yb_F (x : Int32) (a : Nat) (r : Int32) : Prop := (r = -1 ∧ ∀ k, a ≤ k → k < 30 → sp_bit x k = false) ∨ ∃ k, a ≤ k ∧ k < 30 ∧ sp_bit x k = true ∧ (∀ j, a ≤ j → j < k → sp_bit x j = false) ∧ r = nI k
theorem yb_F1 {x : Int32} {a : Nat} {r s : Int32} (h : yb_F x a r) (g : yb_F x a s) : r = s := by
  rcases h with ⟨e, h⟩ | ⟨k, h1, h2, h3, h4, e⟩
  · rcases g with ⟨e2, _⟩ | ⟨j, g1, g2, g3, _, _⟩
    · rw [e, e2]
    · rw [h j g1 g2] at g3
      cases g3
  · rcases g with ⟨_, g⟩ | ⟨j, g1, g2, g3, g4, e2⟩
    · rw [g k h1 h2] at h3
      cases h3
    · have : k = j := by
        rcases Nat.lt_trichotomy k j with c | c | c
        · rw [g4 k h1 c] at h3
          cases h3
        · exact c
        · rw [h4 j g1 c] at g3
          cases g3
      rw [e, e2, this]
theorem yb_Fx {x y : Int32} {a b : Nat} {r : Int32} (e : ∀ k, k < 30 → (a ≤ k ∧ sp_bit x k = true ↔ b ≤ k ∧ sp_bit y k = true)) (h : yb_F x a r) : yb_F y b r := by
  rcases h with ⟨e1, h⟩ | ⟨k, h1, h2, h3, h4, e1⟩
  · refine Or.inl ⟨e1, fun k hk1 hk2 => ?_⟩
    cases c : sp_bit y k with
    | false => rfl
    | true =>
      have := (e k hk2).mpr ⟨hk1, c⟩
      rw [h k this.1 hk2] at this
      exact absurd this.2 (by decide)
  · have hk := (e k h2).mp ⟨h1, h3⟩
    refine Or.inr ⟨k, hk.1, h2, hk.2, fun j hj1 hj2 => ?_, e1⟩
    cases c : sp_bit y j with
    | false => rfl
    | true =>
      have := (e j (by omega)).mpr ⟨hj1, c⟩
      rw [h4 j this.1 hj2] at this
      exact absurd this.2 (by decide)
theorem yb_popz {x : Int32} : ∀ n, (∀ k, k < n → sp_bit x k = false) → yb_pop x n = 0 := by
  intro n
  induction n with
  | zero => intro _; rfl
  | succ n ih =>
    intro h
    show yb_pop x n + (if _ then 1 else 0) = 0
    rw [ih (fun k hk => h k (by omega)), h n (by omega)]
    rfl
theorem yb_popm {x : Int32} {m : Nat} (hm : m ≤ 32) (h : ∀ j, j < 32 → sp_bit x j = decide (j < m)) : ∀ n, n ≤ 32 → yb_pop x n = min n m := by
  intro n
  induction n with
  | zero => intro _; rw [Nat.zero_min]; rfl
  | succ n ih =>
    intro hn
    show yb_pop x n + (if sp_bit x n = true then 1 else 0) = _
    rw [ih (by omega), h n (by omega)]
    by_cases c : n < m
    · rw [decide_eq_true c, if_pos rfl]
      omega
    · rw [decide_eq_false c, if_neg (by decide)]
      omega
theorem yb_least {x : Int32} {k : Nat} (hk : k < 32) (h1 : sp_bit x k = true) (h2 : ∀ j, j < k → sp_bit x j = false) : fJ6_bitCount_0f7a4 ((x &&& (-x)) - (1 : Int32)) = some (nI k) := by
  have e : (x &&& (-x)).toBitVec = BitVec.twoPow 32 k := by
    have e0 : (x &&& (-x)).toBitVec = x.toBitVec &&& (-x.toBitVec) := rfl
    rw [e0]
    apply BitVec.eq_of_getLsbD_eq
    intro i hi
    rw [BitVec.getLsbD_and, BitVec.getLsbD_neg, BitVec.getLsbD_twoPow, ← yb_tb x hi]
    rcases Nat.lt_trichotomy i k with c | c | c
    · rw [h2 i c]
      simp [hk]
      omega
    · subst c
      have : ¬ ∃ j, j < i ∧ x.toBitVec.getLsbD j = true := by
        rintro ⟨j, j1, j2⟩
        rw [← yb_tb x (by omega), h2 j j1] at j2
        cases j2
      rw [h1, decide_eq_false this]
      simp [hk]
    · have : ∃ j, j < i ∧ x.toBitVec.getLsbD j = true := ⟨k, c, by rw [← yb_tb x hk]; exact h1⟩
      rw [decide_eq_true this]
      cases sp_bit x i with
      | false => simp [hk]; omega
      | true => simp [hk, hi]; omega
  have n : yb_n ((x &&& (-x)) - (1 : Int32)) = 2 ^ k - 1 := by
    have h3 : yb_n (x &&& (-x)) = 2 ^ k := by
      unfold yb_n
      rw [e, BitVec.toNat_twoPow]
      exact Nat.mod_eq_of_lt (Nat.pow_lt_pow_right (by decide) hk)
    have h4 : 0 < 2 ^ k := Nat.two_pow_pos k
    rw [yb_nsub (by rw [h3]; show 1 ≤ 2 ^ k; omega), h3]
    rfl
  have b : ∀ j, j < 32 → sp_bit ((x &&& (-x)) - (1 : Int32)) j = decide (j < k) := fun j hj => by
    rw [yb_tb _ hj, show ((x &&& (-x)) - (1 : Int32)).toBitVec.getLsbD j = (yb_n ((x &&& (-x)) - (1 : Int32))).testBit j from rfl, n, Nat.testBit_two_pow_sub_one]
  rw [yb_count, yb_popm (by omega) b 32 (Nat.le_refl _), Nat.min_eq_right (by omega)]
theorem yb_ex {x : Int32} (h : x ≠ 0) : ∃ k, k < 32 ∧ sp_bit x k = true ∧ ∀ j, j < k → sp_bit x j = false := by
  have key : ∀ n, n ≤ 32 → (∃ k, k < n ∧ sp_bit x k = true ∧ ∀ j, j < k → sp_bit x j = false) ∨ ∀ j, j < n → sp_bit x j = false := by
    intro n
    induction n with
    | zero => intro _; exact Or.inr (fun j hj => absurd hj (by omega))
    | succ n ih =>
      intro hn
      rcases ih (by omega) with ⟨k, k1, k2⟩ | g
      · exact Or.inl ⟨k, by omega, k2⟩
      · cases c : sp_bit x n with
        | true => exact Or.inl ⟨n, by omega, c, g⟩
        | false =>
          refine Or.inr (fun j hj => ?_)
          by_cases e : j = n
          · rw [e]; exact c
          · exact g j (by omega)
  rcases key 32 (Nat.le_refl _) with g | g
  · exact g
  · exact absurd (yb_ext (fun k hk => by rw [g k hk, yb_z k hk])) h
/-- the class's lowest bit, of a number below 2^30 -/
theorem yb_lowest {x : Int32} (h : ∀ k, 30 ≤ k → k < 32 → sp_bit x k = false) : yp (fX8_lowestBit x) (fun r => yb_F x 0 r) := by
  unfold fX8_lowestBit
  refine yp_ite (fun c => yp_some (Or.inl ⟨rfl, fun k _ hk => ?_⟩)) (fun c => ?_)
  · rw [c, yb_z k (by omega)]
  · obtain ⟨k, k1, k2, k3⟩ := yb_ex c
    have k4 : k < 30 := by
      rcases Nat.lt_or_ge k 30 with g | g
      · exact g
      · rw [h k g k1] at k2
        cases k2
    rw [yb_least k1 k2 k3]
    exact yp_bd _ (yp_eq rfl) (fun v hv => yp_some (Or.inr ⟨k, Nat.zero_le _, k4, k2, fun j _ hj => k3 j hj, hv⟩))
/-- the reference's -/
theorem yb_firstOf (x : Int32) : yp (fX9_firstOf x) (fun r => yb_F x 0 r) := by
  unfold fX9_firstOf
  refine yp_bd (fun t => (t = Sum.inl () ∧ ∀ k, k < 30 → sp_bit x k = false) ∨ ∃ k, k < 30 ∧ sp_bit x k = true ∧ (∀ j, j < k → sp_bit x j = false) ∧ t = Sum.inr (nI k)) (yp_it (fun s => ∃ k, k ≤ 30 ∧ s = nI k ∧ ∀ j, j < k → sp_bit x j = false) (fun s hs => ?_) _ _ ⟨0, by decide, nI_0.symm, fun j hj => absurd hj (by omega)⟩) (fun t ht => ?_)
  · obtain ⟨k, hk, e, h⟩ := hs
    subst e
    show yp (BX9_firstOf_2 x (nI k)) _
    unfold BX9_firstOf_2
    refine yp_ite (fun c => yp_some (Or.inl ⟨rfl, ?_⟩)) (fun c => ?_)
    · have : k = 30 := by
        rcases Nat.lt_or_ge k 30 with g | g
        · exact absurd c (nI_ge (b := 30) g (by decide))
        · omega
      subst this
      exact h
    · have k30 : k < 30 := by
        rcases Nat.lt_or_ge k 30 with g | g
        · exact g
        · exact absurd (nI_le (a := 30) g (by omega)) c
      rw [yb_m]
      refine yp_bit (fun b => ?_) (fun b => ?_)
      · rw [if_pos rfl]
        exact yp_some (Or.inr ⟨k, k30, b, h, rfl⟩)
      · rw [if_neg (by decide)]
        refine yp_lt (yp_some ⟨k + 1, k30, nI_1 k, fun j hj => ?_⟩)
        by_cases e : j = k
        · rw [e]; exact b
        · exact h j (by omega)
  · rcases ht with ⟨e, h⟩ | ⟨k, k1, k2, k3, e⟩
    · subst e
      show yp (BX9_firstOf_25) _
      unfold BX9_firstOf_25
      exact yp_some (Or.inl ⟨rfl, fun k _ hk => h k hk⟩)
    · subst e
      exact yp_some (Or.inr ⟨k, Nat.zero_le _, k1, k2, fun j _ hj => k3 j hj, rfl⟩)
