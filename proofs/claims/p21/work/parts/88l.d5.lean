/-! what is read without a fault lies within the bounds of a house -/
def yq (σ z : sn_S) : Prop := (∀ q, q ≠ 17 → z.1 q = σ.1 q) ∧ (z.1 17 2 = 0 → σ.1 17 2 = 0)
theorem yq_rf {σ : sn_S} : yq σ σ := ⟨fun _ _ => rfl, fun h => h⟩
theorem yq_tr {a b c : sn_S} (h : yq a b) (g : yq b c) : yq a c := ⟨fun q hq => (g.1 q hq).trans (h.1 q hq), fun x => h.2 (g.2 x)⟩
theorem yq_17 {σ z : sn_S} {k : Nat} {v : Int32} (hk : k ≠ 2) (h : yq σ z) : yq σ (sn_pI z 17 k v) := ⟨fun q hq => (pI_ne hq).trans (h.1 q hq), fun x => h.2 (by
  rw [pI_slot (fun e => hk e.symm)] at x
  exact x)⟩
theorem yq_blame {σ : sn_S} {x : Int32} (hx : x ≠ 0) : yp (fX5_blame σ x) (fun z => yq σ z ∧ z.1 17 2 ≠ 0) := by
  unfold fX5_blame
  refine yp_ite (fun c => yp_lt (yp_lt (yp_some ⟨⟨fun q hq => (pI_ne hq).trans (pI_ne hq), fun _ => c⟩, ?_⟩))) (fun c => yp_some ⟨yq_rf, c⟩)
  rw [pI_slot (by decide), pI_self]
  exact hx
theorem yq_step {σ : sn_S} : yp (fX5_step σ) (fun z => yq σ z) := by
  unfold fX5_step
  refine yp_lt (yp_bd (fun z => yq σ z) (yp_it (fun z => yq σ z) (fun z hz => ?_) _ _ (yq_17 (by decide) yq_rf)) (fun z hz => ?_))
  · show yp (BX5_step_8 z) _
    unfold BX5_step_8
    exact yp_ite (fun _ => yp_some hz) (fun _ => yp_bd (fun _ => True) (fun _ _ => trivial) (fun t _ => yp_ite (fun _ => yp_lt (yp_some (yq_17 (by decide) hz))) (fun _ => yp_some hz)))
  · unfold BX5_step_44
    refine yp_bd (fun _ => True) (fun _ _ => trivial) (fun t _ => yp_lt (yp_lt (yp_lt ?_)))
    refine yp_bd (fun z => yq σ z) (yp_it (fun z => yq σ z) (fun u hu => ?_) _ _ (yq_17 (by decide) (yq_17 (by decide) hz))) (fun u hu => ?_)
    · have k89 : yp (BX5_step_89 u) (yp_sum (fun z => yq σ z) (fun z => yq σ z)) := by
        unfold BX5_step_89
        exact yp_ite (fun _ => yp_some hu) (fun _ => yp_bd (fun _ => True) (fun _ _ => trivial) (fun t _ => yp_ite (fun _ => yp_lt (yp_some (yq_17 (by decide) hu))) (fun _ => yp_some hu)))
      show yp (BX5_step_73 u) _
      unfold BX5_step_73
      exact yp_ite (fun _ => k89) (fun _ => yp_ite (fun _ => k89) (fun _ => yp_some hu))
    · unfold BX5_step_128
      exact yp_some hu
theorem yq_word {σ : sn_S} {k : Nat} : yp (fX5_word σ k) (fun z => yq σ z) := by
  unfold fX5_word
  exact yp_bd (fun _ => True) (fun _ _ => trivial) (fun t _ => yp_ite (fun _ => yp_bd _ (yq_blame (by decide)) (fun z hz => yp_some hz.1)) (fun _ => yp_bd _ yq_step (fun z hz => yp_some hz)))
theorem yq_sign {σ : sn_S} : yp (fX5_sign σ) (fun z => yq σ z) := by
  unfold fX5_sign
  exact yp_ite (fun _ => yp_bd _ yq_step (fun z hz => yp_some hz)) (fun _ => yp_bd _ (yq_blame (by decide)) (fun z hz => yp_some hz.1))
theorem yq_num {σ : sn_S} {lo hi but : Int32} : yp (fX5_number σ lo hi but) (fun r => yq σ r.2 ∧ (r.2.1 17 2 = 0 → lo ≤ r.1 ∧ r.1 ≤ hi ∧ r.1 ≠ but)) := by
  have l44 : ∀ (z : sn_S) (v : Int32), yp (BX5_number_44 z v) (fun r => yq z r.2 ∧ r.1 = v) := fun z v => by
    unfold BX5_number_44
    exact yp_bd _ yq_step (fun u hu => yp_some ⟨hu, rfl⟩)
  have l39 : ∀ v : Int32, yp (BX5_number_39 σ v) (fun r => yq σ r.2 ∧ (r.2.1 17 2 = 0 → lo ≤ r.1 ∧ r.1 ≤ hi ∧ r.1 ≠ but)) := fun v => by
    unfold BX5_number_39
    exact yp_bd _ (yq_blame (by decide)) (fun u hu => yp_w (l44 u v) (fun r hr => ⟨yq_tr hu.1 hr.1, fun x => absurd (hr.1.2 x) hu.2⟩))
  unfold fX5_number
  refine yp_ite (fun _ => yp_bd (fun _ => True) (fun _ _ => trivial) (fun t _ => ?_)) (fun _ => yp_bd _ (yq_blame (by decide)) (fun u hu => yp_some ⟨hu.1, fun x => absurd x hu.2⟩))
  exact yp_ite (fun _ => l39 t) (fun c1 => yp_ite (fun _ => l39 t) (fun c2 => yp_ite (fun _ => l39 t) (fun c3 => yp_w (l44 σ t) (fun r hr => ⟨hr.1, fun _ => by
    rw [hr.2]
    exact ⟨Int32.not_lt.mp c1, Int32.not_lt.mp c2, c3⟩⟩))))
/-- rows but the reader's own -/
def yq_r (u z : sn_S) : Prop := ∀ q, q ≠ 17 → z.1 q = u.1 q
theorem yq_rw {u z : sn_S} {q k : Nat} {v : Int32} (h : yq_r u z) : yq_r (sn_pI u q k v) (sn_pI z q k v) := fun a ha => by
  funext b
  show (if a = q ∧ b = k then v else z.1 a b) = if a = q ∧ b = k then v else u.1 a b
  rw [h a ha]
theorem yq_rq {u z y : sn_S} (h : yq_r u z) (g : yq z y) : yq_r u y := fun q hq => (g.1 q hq).trans (h q hq)
theorem yq_f {z : sn_S} {q k : Nat} {v : Int32} (hq : q ≠ 17) (x : (sn_pI z q k v).1 17 2 = 0) : z.1 17 2 = 0 := by
  rw [pI_ne (fun e => hq e.symm)] at x
  exact x
section
variable {σ : sn_S} {n : Nat}
theorem yq_nose (hb : n < 100) : yp (fX5_readNose σ (nI n)) (fun z => z.1 17 2 = 0 → σ.1 17 2 = 0 ∧ n < 6 ∧ ∃ a b : Int32, ((0 ≤ a ∧ a ≤ 9) ∧ 1 ≤ b ∧ b ≤ 99) ∧ yq_r (sn_pI (sn_pI (sn_pI σ 10 (2 * n) a) 10 (2 * n + 1) b) 9 5 (nI (n + 1))) z) := by
  unfold fX5_readNose
  refine yp_ite (fun c => ?_) (fun _ => yp_bd _ (yq_blame (by decide)) (fun u hu => yp_some (fun x => absurd x hu.2)))
  have c1 : n < 6 := (nI_ltI (b := 6) (by omega) (by decide)).mp c
  rw [yi_2, show nI (2 * n) + (1 : Int32) = nI (2 * n + 1) from nI_1 _, show nI n + (1 : Int32) = nI (n + 1) from nI_1 _, nI_clamp (show 2 * n < 2 ^ 31 by omega), nI_clamp (show 2 * n + 1 < 2 ^ 31 by omega)]
  refine yp_bd _ yq_word (fun t2 h2 => yp_gd (fun _ => yp_bd _ yq_num (fun r5 h5 => yp_gd (fun _ => yp_lt ?_))))
  refine yp_bd _ yq_word (fun t10 h10 => yp_gd (fun _ => yp_bd _ yq_num (fun r13 h13 => yp_gd (fun _ => yp_lt ?_))))
  refine yp_bd _ yq_sign (fun t18 h18 => yp_gd (fun _ => yp_gd (fun _ => yp_lt (yp_some (fun x => ?_)))))
  have x18 := yq_f (by decide) x
  have x13 := yq_f (by decide) (h18.2 x18)
  have x10 := h13.1.2 x13
  have x5 := yq_f (by decide) (h10.2 x10)
  refine ⟨h2.2 (h5.1.2 x5), c1, r5.1, r13.1, ⟨⟨(h5.2 x5).1, (h5.2 x5).2.1⟩, (h13.2 x13).1, (h13.2 x13).2.1⟩, ?_⟩
  exact yq_rw (yq_rq (yq_rw (yq_rq (yq_rq (yq_rw (yq_rq h2.1 h5.1)) h10) h13.1)) h18)
theorem yq_gust (hb : n < 100) : yp (fX5_readGust σ (nI n)) (fun z => z.1 17 2 = 0 → σ.1 17 2 = 0 ∧ n < 5 ∧ ∃ a b : Int32, ((1 ≤ a ∧ a ≤ 9) ∧ 0 ≤ b ∧ b ≤ 29) ∧ yq_r (sn_pI (sn_pI (sn_pI σ 11 (2 * n) a) 11 (2 * n + 1) b) 9 6 (nI (n + 1))) z) := by
  unfold fX5_readGust
  refine yp_ite (fun c => ?_) (fun _ => yp_bd _ (yq_blame (by decide)) (fun u hu => yp_some (fun x => absurd x hu.2)))
  have c1 : n < 5 := (nI_ltI (b := 5) (by omega) (by decide)).mp c
  rw [yi_2, show nI (2 * n) + (1 : Int32) = nI (2 * n + 1) from nI_1 _, show nI n + (1 : Int32) = nI (n + 1) from nI_1 _, nI_clamp (show 2 * n < 2 ^ 31 by omega), nI_clamp (show 2 * n + 1 < 2 ^ 31 by omega)]
  refine yp_bd _ yq_word (fun t2 h2 => yp_gd (fun _ => yp_bd _ yq_num (fun r5 h5 => yp_gd (fun _ => yp_lt ?_))))
  refine yp_bd _ yq_word (fun t10 h10 => yp_gd (fun _ => yp_bd _ yq_num (fun r13 h13 => yp_gd (fun _ => yp_lt ?_))))
  refine yp_bd _ yq_sign (fun t18 h18 => yp_gd (fun _ => yp_gd (fun _ => yp_lt (yp_some (fun x => ?_)))))
  have x18 := yq_f (by decide) x
  have x13 := yq_f (by decide) (h18.2 x18)
  have x10 := h13.1.2 x13
  have x5 := yq_f (by decide) (h10.2 x10)
  refine ⟨h2.2 (h5.1.2 x5), c1, r5.1, r13.1, ⟨⟨(h5.2 x5).1, (h5.2 x5).2.1⟩, (h13.2 x13).1, (h13.2 x13).2.1⟩, ?_⟩
  exact yq_rw (yq_rq (yq_rw (yq_rq (yq_rq (yq_rw (yq_rq h2.1 h5.1)) h10) h13.1)) h18)
theorem yq_net (hb : n < 100) : yp (fX5_readNet σ (nI n)) (fun z => z.1 17 2 = 0 → σ.1 17 2 = 0 ∧ n < 8 ∧ ∃ a b : Int32, ((0 ≤ a ∧ a ≤ σ.1 9 5 - 1) ∧ (0 ≤ b ∧ b ≤ σ.1 9 5 - 1) ∧ b ≠ a) ∧ yq_r (sn_pI (sn_pI (sn_pI σ 12 (2 * n) a) 12 (2 * n + 1) b) 9 7 (nI (n + 1))) z) := by
  unfold fX5_readNet
  refine yp_ite (fun c => ?_) (fun _ => yp_bd _ (yq_blame (by decide)) (fun u hu => yp_some (fun x => absurd x hu.2)))
  have c1 : n < 8 := (nI_ltI (b := 8) (by omega) (by decide)).mp c
  rw [yi_2, show nI (2 * n) + (1 : Int32) = nI (2 * n + 1) from nI_1 _, show nI n + (1 : Int32) = nI (n + 1) from nI_1 _, nI_clamp (show 2 * n < 2 ^ 31 by omega), nI_clamp (show 2 * n + 1 < 2 ^ 31 by omega)]
  refine yp_bd _ yq_word (fun t2 h2 => yp_gd (fun _ => yp_gd (fun _ => yp_bd _ yq_num (fun r6 h6 => yp_gd (fun _ => yp_gd (fun _ => yp_lt ?_))))))
  refine yp_gd (fun _ => yp_gd (fun _ => yp_gd (fun _ => yp_bd _ yq_num (fun r15 h15 => yp_gd (fun _ => yp_lt ?_)))))
  refine yp_bd _ yq_sign (fun t20 h20 => yp_gd (fun _ => yp_gd (fun _ => yp_lt (yp_some (fun x => ?_)))))
  have x20 := yq_f (by decide) x
  have x15 := yq_f (by decide) (h20.2 x20)
  have x6 := yq_f (by decide) (h15.1.2 x15)
  have e1 : sn_I t2 (8 + 1) (5 : Int32).toNatClampNeg = σ.1 9 5 := congrFun (h2.1 9 (by decide)) 5
  have e2 : sn_I (sn_pI r6.2 (8 + 4) (2 * n) r6.1) (8 + 1) (5 : Int32).toNatClampNeg = σ.1 9 5 := (congrFun (pI_ne (show 9 ≠ 12 by decide)) 5).trans ((congrFun (h6.1.1 9 (by decide)) 5).trans (congrFun (h2.1 9 (by decide)) 5))
  have b6 := h6.2 x6
  have b15 := h15.2 x15
  rw [e1] at b6
  rw [e2] at b15
  refine ⟨h2.2 (h6.1.2 x6), c1, r6.1, r15.1, ⟨⟨b6.1, b6.2.1⟩, ⟨b15.1, b15.2.1⟩, b15.2.2⟩, ?_⟩
  exact yq_rw (yq_rq (yq_rw (yq_rq (yq_rw (yq_rq h2.1 h6.1)) h15.1)) h20)
theorem yq_policy (hb : n < 100) : yp (fX5_readPolicy σ (nI n)) (fun z => z.1 17 2 = 0 → σ.1 17 2 = 0 ∧ n < 6 ∧ ∃ a b c d e : Int32, ((0 ≤ a ∧ a ≤ σ.1 9 5 - 1) ∧ (0 ≤ b ∧ b ≤ 29) ∧ (b ≤ c ∧ c ≤ 29) ∧ (1 ≤ d ∧ d ≤ 99) ∧ 0 ≤ e ∧ e ≤ 99) ∧ yq_r (sn_pI (sn_pI (sn_pI (sn_pI (sn_pI (sn_pI σ 13 (5 * n) a) 13 (5 * n + 1) b) 13 (5 * n + 2) c) 13 (5 * n + 3) d) 13 (5 * n + 4) e) 9 8 (nI (n + 1))) z) := by
  unfold fX5_readPolicy
  refine yp_ite (fun c => yp_lt ?_) (fun _ => yp_bd _ (yq_blame (by decide)) (fun u hu => yp_some (fun x => absurd x hu.2)))
  have c1 : n < 6 := (nI_ltI (b := 6) (by omega) (by decide)).mp c
  rw [yi_5, show nI (5 * n) + (0 : Int32) = nI (5 * n) from Int32.add_zero _, show nI (5 * n) + (1 : Int32) = nI (5 * n + 1) from nI_1 _, show nI (5 * n) + (2 : Int32) = nI (5 * n + 2) from nI_add _ 2, show nI (5 * n) + (3 : Int32) = nI (5 * n + 3) from nI_add _ 3, show nI (5 * n) + (4 : Int32) = nI (5 * n + 4) from nI_add _ 4, show nI n + (1 : Int32) = nI (n + 1) from nI_1 _, nI_clamp (show 5 * n < 2 ^ 31 by omega), nI_clamp (show 5 * n + 1 < 2 ^ 31 by omega), nI_clamp (show 5 * n + 2 < 2 ^ 31 by omega), nI_clamp (show 5 * n + 3 < 2 ^ 31 by omega), nI_clamp (show 5 * n + 4 < 2 ^ 31 by omega)]
  refine yp_bd _ yq_word (fun t4 h4 => yp_gd (fun _ => yp_gd (fun _ => yp_gd (fun _ => yp_bd _ yq_num (fun r9 h9 => yp_gd (fun _ => yp_lt ?_))))))
  refine yp_bd _ yq_word (fun t14 h14 => yp_bd _ yq_num (fun r16 h16 => yp_gd (fun _ => yp_gd (fun _ => yp_lt ?_))))
  refine yp_bd _ yq_word (fun t22 h22 => yp_gd (fun _ => yp_bd _ yq_num (fun r25 h25 => yp_gd (fun _ => yp_lt ?_))))
  refine yp_bd _ yq_word (fun t30 h30 => yp_gd (fun _ => yp_bd _ yq_num (fun r33 h33 => yp_gd (fun _ => yp_lt ?_))))
  refine yp_bd _ yq_word (fun t38 h38 => yp_gd (fun _ => yp_bd _ yq_num (fun r41 h41 => yp_gd (fun _ => yp_lt ?_))))
  refine yp_bd _ yq_sign (fun t46 h46 => yp_gd (fun _ => yp_gd (fun _ => yp_lt (yp_some (fun x => ?_)))))
  have x46 := yq_f (by decide) x
  have x41 := yq_f (by decide) (h46.2 x46)
  have x33 := yq_f (by decide) (h38.2 (h41.1.2 x41))
  have x25 := yq_f (by decide) (h30.2 (h33.1.2 x33))
  have x16 := yq_f (by decide) (h22.2 (h25.1.2 x25))
  have x9 := yq_f (by decide) (h14.2 (h16.1.2 x16))
  have e1 : sn_I t4 (8 + 1) (5 : Int32).toNatClampNeg = σ.1 9 5 := congrFun (h4.1 9 (by decide)) 5
  have b9 := h9.2 x9
  rw [e1] at b9
  refine ⟨h4.2 (h9.1.2 x9), c1, r9.1, r16.1, r25.1, r33.1, r41.1, ⟨⟨b9.1, b9.2.1⟩, ⟨(h16.2 x16).1, (h16.2 x16).2.1⟩, ⟨(h25.2 x25).1, (h25.2 x25).2.1⟩, ⟨(h33.2 x33).1, (h33.2 x33).2.1⟩, (h41.2 x41).1, (h41.2 x41).2.1⟩, ?_⟩
  exact yq_rw (yq_rq (yq_rw (yq_rq (yq_rq (yq_rw (yq_rq (yq_rq (yq_rw (yq_rq (yq_rq (yq_rw (yq_rq (yq_rq (yq_rw (yq_rq h4.1 h9.1)) h14) h16.1)) h22) h25.1)) h30) h33.1)) h38) h41.1)) h46)
theorem yq_house : yp (fX5_readHouse σ) (fun z => z.1 17 2 = 0 → σ.1 17 2 = 0 ∧ ∃ a b c d e : Int32, ((1 ≤ a ∧ a ≤ 30) ∧ (0 ≤ b ∧ b ≤ 9) ∧ (0 ≤ c ∧ c ≤ 3) ∧ (0 ≤ d ∧ d ≤ 999) ∧ 0 ≤ e ∧ e ≤ 10) ∧ yq_r (sn_pI (sn_pI (sn_pI (sn_pI (sn_pI σ 9 0 a) 9 1 b) 9 2 c) 9 3 d) 9 4 e) z) := by
  unfold fX5_readHouse
  refine yp_bd _ yq_word (fun t1 h1 => yp_bd _ yq_word (fun t3 h3 => yp_gd (fun _ => yp_bd _ yq_num (fun r6 h6 => yp_gd (fun _ => yp_lt ?_)))))
  refine yp_bd _ yq_word (fun t11 h11 => yp_gd (fun _ => yp_bd _ yq_num (fun r14 h14 => yp_gd (fun _ => yp_lt ?_))))
  refine yp_bd _ yq_word (fun t19 h19 => yp_gd (fun _ => yp_bd _ yq_num (fun r22 h22 => yp_gd (fun _ => yp_lt ?_))))
  refine yp_bd _ yq_word (fun t27 h27 => yp_gd (fun _ => yp_bd _ yq_num (fun r30 h30 => yp_gd (fun _ => yp_lt ?_))))
  refine yp_bd _ yq_word (fun t35 h35 => yp_gd (fun _ => yp_bd _ yq_num (fun r38 h38 => yp_gd (fun _ => yp_lt ?_))))
  refine yp_bd _ yq_sign (fun t43 h43 => yp_some (fun x => ?_))
  have x38 := yq_f (by decide) (h43.2 x)
  have x30 := yq_f (by decide) (h35.2 (h38.1.2 x38))
  have x22 := yq_f (by decide) (h27.2 (h30.1.2 x30))
  have x14 := yq_f (by decide) (h19.2 (h22.1.2 x22))
  have x6 := yq_f (by decide) (h11.2 (h14.1.2 x14))
  refine ⟨h1.2 (h3.2 (h6.1.2 x6)), r6.1, r14.1, r22.1, r30.1, r38.1, ⟨⟨(h6.2 x6).1, (h6.2 x6).2.1⟩, ⟨(h14.2 x14).1, (h14.2 x14).2.1⟩, ⟨(h22.2 x22).1, (h22.2 x22).2.1⟩, ⟨(h30.2 x30).1, (h30.2 x30).2.1⟩, (h38.2 x38).1, (h38.2 x38).2.1⟩, ?_⟩
  exact yq_rq (yq_rw (yq_rq (yq_rq (yq_rw (yq_rq (yq_rq (yq_rw (yq_rq (yq_rq (yq_rw (yq_rq (yq_rq (yq_rw (yq_rq (yq_rq h1.1 h3) h6.1)) h11) h14.1)) h19) h22.1)) h27) h30.1)) h35) h38.1)) h43
end
/-! the draft, line by line -/
theorem yv {v : Int32} {b : Nat} (h : 0 ≤ v) (h2 : v ≤ nI b) (hb : b < 2 ^ 31) : v = nI v.toNatClampNeg ∧ v.toNatClampNeg ≤ b := by
  have e := nI_ofc h
  refine ⟨e, ?_⟩
  have h3 : v.toNatClampNeg < 2 ^ 31 := by
    have h4 : v.toInt < 2 ^ 31 := Int32.toInt_lt v
    have h5 : v.toNatClampNeg = v.toInt.toNat := rfl
    omega
  rw [e] at h2
  exact (nI_leI h3 hb).mp h2
theorem yv1 {v : Int32} {b : Nat} (h : 1 ≤ v) (h2 : v ≤ nI b) (hb : b < 2 ^ 31) : v = nI v.toNatClampNeg ∧ v.toNatClampNeg ≤ b ∧ 1 ≤ v.toNatClampNeg := by
  obtain ⟨e1, e2⟩ := yv (Int32.le_trans (by decide) h) h2 hb
  refine ⟨e1, e2, ?_⟩
  rw [e1] at h
  exact (nI_leI (a := 1) (by decide) (by omega)).mp h
def yB (h : Nat) (σ : sn_S) : Prop :=
  (yh_n (σ.1 (h + 1)) 5 6 ∧ yh_n (σ.1 (h + 1)) 6 5 ∧ yh_n (σ.1 (h + 1)) 7 8 ∧ yh_n (σ.1 (h + 1)) 8 6 ∧ σ.1 (h + 1) 9 = 0) ∧
  (∀ p, p < sp_n (σ.1 (h + 1)) 5 → yh_n (σ.1 (h + 2)) (2 * p) 9 ∧ yh_n (σ.1 (h + 2)) (2 * p + 1) 99 ∧ 1 ≤ sp_n (σ.1 (h + 2)) (2 * p + 1)) ∧
  (∀ g, g < sp_n (σ.1 (h + 1)) 6 → yh_n (σ.1 (h + 3)) (2 * g) 9 ∧ yh_n (σ.1 (h + 3)) (2 * g + 1) 29) ∧
  (∀ k, k < sp_n (σ.1 (h + 1)) 7 → σ.1 (h + 4) (2 * k) = nI (sp_n (σ.1 (h + 4)) (2 * k)) ∧ sp_n (σ.1 (h + 4)) (2 * k) < sp_n (σ.1 (h + 1)) 5 ∧ σ.1 (h + 4) (2 * k + 1) = nI (sp_n (σ.1 (h + 4)) (2 * k + 1)) ∧ sp_n (σ.1 (h + 4)) (2 * k + 1) < sp_n (σ.1 (h + 1)) 5 ∧ sp_n (σ.1 (h + 4)) (2 * k) ≠ sp_n (σ.1 (h + 4)) (2 * k + 1)) ∧
  ∀ k, k < sp_n (σ.1 (h + 1)) 8 → (σ.1 (h + 5) (5 * k) = nI (sp_n (σ.1 (h + 5)) (5 * k)) ∧ sp_n (σ.1 (h + 5)) (5 * k) < sp_n (σ.1 (h + 1)) 5) ∧ yh_n (σ.1 (h + 5)) (5 * k + 1) 29 ∧ yh_n (σ.1 (h + 5)) (5 * k + 2) 29 ∧ sp_n (σ.1 (h + 5)) (5 * k + 1) ≤ sp_n (σ.1 (h + 5)) (5 * k + 2) ∧ yh_n (σ.1 (h + 5)) (5 * k + 3) 99 ∧ 1 ≤ sp_n (σ.1 (h + 5)) (5 * k + 3) ∧ yh_n (σ.1 (h + 5)) (5 * k + 4) 99
theorem yh_of {w : Nat → Int32} {k b : Nat} {v : Int32} (e : w k = v) (h : 0 ≤ v) (h2 : v ≤ nI b) (hb : b < 2 ^ 31) : yh_n w k b := by
  unfold yh_n sp_n
  rw [e]
  exact yv h h2 hb
theorem yh_mv {w w' : Nat → Int32} {k k' b : Nat} (e : w' k' = w k) (h : yh_n w k b) : yh_n w' k' b := by
  unfold yh_n sp_n
  rw [e]
  exact h
theorem sp_mv {w w' : Nat → Int32} {k k' : Nat} (e : w' k' = w k) : sp_n w' k' = sp_n w k := by
  unfold sp_n
  rw [e]
theorem sp_nI {w : Nat → Int32} {k n : Nat} (e : w k = nI n) (hn : n < 2 ^ 31) : sp_n w k = n := by
  unfold sp_n
  rw [e, nI_clamp hn]
/-- a last person, below one less than the count -/
theorem yv_p {v c : Int32} {P : Nat} (hc : c = nI P) (hP : P < 100) (h : 0 ≤ v) (h2 : v ≤ c - 1) : v = nI v.toNatClampNeg ∧ v.toNatClampNeg < P := by
  subst hc
  have e := nI_ofc h
  refine ⟨e, ?_⟩
  have h3 := (i32_le_sub1 (nI_pos' (by omega))).mp h2
  rw [e] at h3
  have h4 : v.toNatClampNeg < 2 ^ 31 := by
    have h4 : v.toInt < 2 ^ 31 := Int32.toInt_lt v
    have h5 : v.toNatClampNeg = v.toInt.toNat := rfl
    omega
  exact (nI_ltI h4 (by omega)).mp h3
section
variable {σ z : sn_S} {n : Nat}
theorem yB_nose (hB : yB 8 σ) (hc : σ.1 9 5 = nI n) (hn : n < 6) {a b : Int32} (hb : (0 ≤ a ∧ a ≤ 9) ∧ 1 ≤ b ∧ b ≤ 99) (hz : yq_r (sn_pI (sn_pI (sn_pI σ 10 (2 * n) a) 10 (2 * n + 1) b) 9 5 (nI (n + 1))) z) : yB 8 z := by
  obtain ⟨⟨c5, c6, c7, c8, c9⟩, hn5, hg, hnt, hp⟩ := hB
  have en : sp_n (σ.1 9) 5 = n := sp_nI hc (by omega)
  have z9 : ∀ k, k ≠ 5 → z.1 9 k = σ.1 9 k := fun k hk => by rw [hz 9 (by decide), pI_slot hk, pI_ne (by decide), pI_ne (by decide)]
  have z95 : z.1 9 5 = nI (n + 1) := by rw [hz 9 (by decide), pI_self]
  have z10 : ∀ k, k ≠ 2 * n → k ≠ 2 * n + 1 → z.1 10 k = σ.1 10 k := fun k h1 h2 => by rw [hz 10 (by decide), pI_ne (by decide), pI_slot h2, pI_slot h1]
  have za : z.1 10 (2 * n) = a := by rw [hz 10 (by decide), pI_ne (by decide), pI_slot (by omega), pI_self]
  have zb : z.1 10 (2 * n + 1) = b := by rw [hz 10 (by decide), pI_ne (by decide), pI_self]
  have zo : ∀ q, q = 11 ∨ q = 12 ∨ q = 13 → z.1 q = σ.1 q := fun q hq => by rw [hz q (by omega), pI_ne (by omega), pI_ne (by omega), pI_ne (by omega)]
  have e5 : sp_n (z.1 9) 5 = n + 1 := sp_nI z95 (by omega)
  have e6 : sp_n (z.1 9) 6 = sp_n (σ.1 9) 6 := sp_mv (z9 6 (by decide))
  have e7 : sp_n (z.1 9) 7 = sp_n (σ.1 9) 7 := sp_mv (z9 7 (by decide))
  have e8 : sp_n (z.1 9) 8 = sp_n (σ.1 9) 8 := sp_mv (z9 8 (by decide))
  refine ⟨⟨⟨by show z.1 9 5 = nI (sp_n (z.1 9) 5); rw [e5]; exact z95, by show sp_n (z.1 9) 5 ≤ 6; omega⟩, yh_mv (z9 6 (by decide)) c6, yh_mv (z9 7 (by decide)) c7, yh_mv (z9 8 (by decide)) c8, (z9 9 (by decide)).trans c9⟩, fun p hp2 => ?_, ?_, ?_, ?_⟩
  · have hp2 : p < sp_n (z.1 9) 5 := hp2
    show yh_n (z.1 10) (2 * p) 9 ∧ yh_n (z.1 10) (2 * p + 1) 99 ∧ 1 ≤ sp_n (z.1 10) (2 * p + 1)
    by_cases c : p = n
    · subst c
      obtain ⟨b1, b2, b3⟩ := yv1 (b := 99) hb.2.1 hb.2.2 (by decide)
      have s : sp_n (z.1 10) (2 * p + 1) = b.toNatClampNeg := by unfold sp_n; rw [zb]
      exact ⟨yh_of za hb.1.1 hb.1.2 (by decide), yh_of zb (Int32.le_trans (by decide) hb.2.1) hb.2.2 (by decide), by rw [s]; exact b3⟩
    · have g := hn5 p (by show p < sp_n (σ.1 9) 5; omega)
      exact ⟨yh_mv (z10 _ (by omega) (by omega)) g.1, yh_mv (z10 _ (by omega) (by omega)) g.2.1, by rw [sp_mv (z10 (2 * p + 1) (by omega) (by omega))]; exact g.2.2⟩
  · show ∀ g, g < sp_n (z.1 9) 6 → yh_n (z.1 11) (2 * g) 9 ∧ yh_n (z.1 11) (2 * g + 1) 29
    rw [e6, zo 11 (by omega)]
    exact hg
  · show ∀ k, k < sp_n (z.1 9) 7 → z.1 12 (2 * k) = nI (sp_n (z.1 12) (2 * k)) ∧ sp_n (z.1 12) (2 * k) < sp_n (z.1 9) 5 ∧ z.1 12 (2 * k + 1) = nI (sp_n (z.1 12) (2 * k + 1)) ∧ sp_n (z.1 12) (2 * k + 1) < sp_n (z.1 9) 5 ∧ sp_n (z.1 12) (2 * k) ≠ sp_n (z.1 12) (2 * k + 1)
    rw [e7, e5, zo 12 (by omega)]
    intro k hk
    obtain ⟨g1, g2, g3, g4, g5⟩ := hnt k hk
    have g2 : sp_n (σ.1 12) (2 * k) < sp_n (σ.1 9) 5 := g2
    have g4 : sp_n (σ.1 12) (2 * k + 1) < sp_n (σ.1 9) 5 := g4
    exact ⟨g1, by omega, g3, by omega, g5⟩
  · show ∀ k, k < sp_n (z.1 9) 8 → (z.1 13 (5 * k) = nI (sp_n (z.1 13) (5 * k)) ∧ sp_n (z.1 13) (5 * k) < sp_n (z.1 9) 5) ∧ _
    rw [e8, e5, show z.1 (8 + 5) = σ.1 13 from zo 13 (by omega)]
    intro k hk
    obtain ⟨⟨g1, g2⟩, g3⟩ := hp k hk
    have g2 : sp_n (σ.1 13) (5 * k) < sp_n (σ.1 9) 5 := g2
    exact ⟨⟨g1, by omega⟩, g3⟩
theorem yB_gust (hB : yB 8 σ) (hc : σ.1 9 6 = nI n) (hn : n < 5) {a b : Int32} (hb : (1 ≤ a ∧ a ≤ 9) ∧ 0 ≤ b ∧ b ≤ 29) (hz : yq_r (sn_pI (sn_pI (sn_pI σ 11 (2 * n) a) 11 (2 * n + 1) b) 9 6 (nI (n + 1))) z) : yB 8 z := by
  obtain ⟨⟨c5, c6, c7, c8, c9⟩, hn5, hg, hnt, hp⟩ := hB
  have en : sp_n (σ.1 9) 6 = n := sp_nI hc (by omega)
  have z9 : ∀ k, k ≠ 6 → z.1 9 k = σ.1 9 k := fun k hk => by rw [hz 9 (by decide), pI_slot hk, pI_ne (by decide), pI_ne (by decide)]
  have z96 : z.1 9 6 = nI (n + 1) := by rw [hz 9 (by decide), pI_self]
  have z11 : ∀ k, k ≠ 2 * n → k ≠ 2 * n + 1 → z.1 11 k = σ.1 11 k := fun k h1 h2 => by rw [hz 11 (by decide), pI_ne (by decide), pI_slot h2, pI_slot h1]
  have za : z.1 11 (2 * n) = a := by rw [hz 11 (by decide), pI_ne (by decide), pI_slot (by omega), pI_self]
  have zb : z.1 11 (2 * n + 1) = b := by rw [hz 11 (by decide), pI_ne (by decide), pI_self]
  have zo : ∀ q, q = 10 ∨ q = 12 ∨ q = 13 → z.1 q = σ.1 q := fun q hq => by rw [hz q (by omega), pI_ne (by omega), pI_ne (by omega), pI_ne (by omega)]
  have e5 : sp_n (z.1 9) 5 = sp_n (σ.1 9) 5 := sp_mv (z9 5 (by decide))
  have e6 : sp_n (z.1 9) 6 = n + 1 := sp_nI z96 (by omega)
  have e7 : sp_n (z.1 9) 7 = sp_n (σ.1 9) 7 := sp_mv (z9 7 (by decide))
  have e8 : sp_n (z.1 9) 8 = sp_n (σ.1 9) 8 := sp_mv (z9 8 (by decide))
  refine ⟨⟨yh_mv (z9 5 (by decide)) c5, ⟨by show z.1 9 6 = nI (sp_n (z.1 9) 6); rw [e6]; exact z96, by show sp_n (z.1 9) 6 ≤ 5; omega⟩, yh_mv (z9 7 (by decide)) c7, yh_mv (z9 8 (by decide)) c8, (z9 9 (by decide)).trans c9⟩, ?_, fun p hp2 => ?_, ?_, ?_⟩
  · show ∀ p, p < sp_n (z.1 9) 5 → yh_n (z.1 10) (2 * p) 9 ∧ yh_n (z.1 10) (2 * p + 1) 99 ∧ 1 ≤ sp_n (z.1 10) (2 * p + 1)
    rw [e5, zo 10 (by omega)]
    exact hn5
  · have hp2 : p < sp_n (z.1 9) 6 := hp2
    show yh_n (z.1 11) (2 * p) 9 ∧ yh_n (z.1 11) (2 * p + 1) 29
    by_cases c : p = n
    · subst c
      exact ⟨yh_of za (Int32.le_trans (by decide) hb.1.1) hb.1.2 (by decide), yh_of zb hb.2.1 hb.2.2 (by decide)⟩
    · have g := hg p (by show p < sp_n (σ.1 9) 6; omega)
      exact ⟨yh_mv (z11 _ (by omega) (by omega)) g.1, yh_mv (z11 _ (by omega) (by omega)) g.2⟩
  · show ∀ k, k < sp_n (z.1 9) 7 → z.1 12 (2 * k) = nI (sp_n (z.1 12) (2 * k)) ∧ sp_n (z.1 12) (2 * k) < sp_n (z.1 9) 5 ∧ z.1 12 (2 * k + 1) = nI (sp_n (z.1 12) (2 * k + 1)) ∧ sp_n (z.1 12) (2 * k + 1) < sp_n (z.1 9) 5 ∧ sp_n (z.1 12) (2 * k) ≠ sp_n (z.1 12) (2 * k + 1)
    rw [e7, e5, zo 12 (by omega)]
    exact hnt
  · show ∀ k, k < sp_n (z.1 9) 8 → (z.1 13 (5 * k) = nI (sp_n (z.1 13) (5 * k)) ∧ sp_n (z.1 13) (5 * k) < sp_n (z.1 9) 5) ∧ _
    rw [e8, e5, show z.1 (8 + 5) = σ.1 13 from zo 13 (by omega)]
    exact hp
theorem yB_net (hB : yB 8 σ) (hc : σ.1 9 7 = nI n) (hn : n < 8) {a b : Int32} (hb : (0 ≤ a ∧ a ≤ σ.1 9 5 - 1) ∧ (0 ≤ b ∧ b ≤ σ.1 9 5 - 1) ∧ b ≠ a) (hz : yq_r (sn_pI (sn_pI (sn_pI σ 12 (2 * n) a) 12 (2 * n + 1) b) 9 7 (nI (n + 1))) z) : yB 8 z := by
  obtain ⟨⟨c5, c6, c7, c8, c9⟩, hn5, hg, hnt, hp⟩ := hB
  have en : sp_n (σ.1 9) 7 = n := sp_nI hc (by omega)
  have z9 : ∀ k, k ≠ 7 → z.1 9 k = σ.1 9 k := fun k hk => by rw [hz 9 (by decide), pI_slot hk, pI_ne (by decide), pI_ne (by decide)]
  have z97 : z.1 9 7 = nI (n + 1) := by rw [hz 9 (by decide), pI_self]
  have z12 : ∀ k, k ≠ 2 * n → k ≠ 2 * n + 1 → z.1 12 k = σ.1 12 k := fun k h1 h2 => by rw [hz 12 (by decide), pI_ne (by decide), pI_slot h2, pI_slot h1]
  have za : z.1 12 (2 * n) = a := by rw [hz 12 (by decide), pI_ne (by decide), pI_slot (by omega), pI_self]
  have zb : z.1 12 (2 * n + 1) = b := by rw [hz 12 (by decide), pI_ne (by decide), pI_self]
  have zo : ∀ q, q = 10 ∨ q = 11 ∨ q = 13 → z.1 q = σ.1 q := fun q hq => by rw [hz q (by omega), pI_ne (by omega), pI_ne (by omega), pI_ne (by omega)]
  have e5 : sp_n (z.1 9) 5 = sp_n (σ.1 9) 5 := sp_mv (z9 5 (by decide))
  have e6 : sp_n (z.1 9) 6 = sp_n (σ.1 9) 6 := sp_mv (z9 6 (by decide))
  have e7 : sp_n (z.1 9) 7 = n + 1 := sp_nI z97 (by omega)
  have e8 : sp_n (z.1 9) 8 = sp_n (σ.1 9) 8 := sp_mv (z9 8 (by decide))
  have b5 : sp_n (σ.1 9) 5 ≤ 6 := c5.2
  refine ⟨⟨yh_mv (z9 5 (by decide)) c5, yh_mv (z9 6 (by decide)) c6, ⟨by show z.1 9 7 = nI (sp_n (z.1 9) 7); rw [e7]; exact z97, by show sp_n (z.1 9) 7 ≤ 8; omega⟩, yh_mv (z9 8 (by decide)) c8, (z9 9 (by decide)).trans c9⟩, ?_, ?_, fun k hk => ?_, ?_⟩
  · show ∀ p, p < sp_n (z.1 9) 5 → yh_n (z.1 10) (2 * p) 9 ∧ yh_n (z.1 10) (2 * p + 1) 99 ∧ 1 ≤ sp_n (z.1 10) (2 * p + 1)
    rw [e5, zo 10 (by omega)]
    exact hn5
  · show ∀ g, g < sp_n (z.1 9) 6 → yh_n (z.1 11) (2 * g) 9 ∧ yh_n (z.1 11) (2 * g + 1) 29
    rw [e6, zo 11 (by omega)]
    exact hg
  · have hk : k < sp_n (z.1 9) 7 := hk
    show z.1 12 (2 * k) = nI (sp_n (z.1 12) (2 * k)) ∧ sp_n (z.1 12) (2 * k) < sp_n (z.1 9) 5 ∧ z.1 12 (2 * k + 1) = nI (sp_n (z.1 12) (2 * k + 1)) ∧ sp_n (z.1 12) (2 * k + 1) < sp_n (z.1 9) 5 ∧ sp_n (z.1 12) (2 * k) ≠ sp_n (z.1 12) (2 * k + 1)
    rw [e5]
    by_cases c : k = n
    · subst c
      obtain ⟨a1, a2⟩ := yv_p c5.1 (show sp_n (σ.1 9) 5 < 100 by omega) hb.1.1 hb.1.2
      obtain ⟨b1, b2⟩ := yv_p c5.1 (show sp_n (σ.1 9) 5 < 100 by omega) hb.2.1.1 hb.2.1.2
      have sa : sp_n (z.1 12) (2 * k) = a.toNatClampNeg := by unfold sp_n; rw [za]
      have sb : sp_n (z.1 12) (2 * k + 1) = b.toNatClampNeg := by unfold sp_n; rw [zb]
      rw [sa, sb, za, zb]
      exact ⟨a1, a2, b1, b2, fun e => hb.2.2 (by rw [a1, b1, e])⟩
    · have g := hnt k (by show k < sp_n (σ.1 9) 7; omega)
      rw [sp_mv (z12 (2 * k) (by omega) (by omega)), sp_mv (z12 (2 * k + 1) (by omega) (by omega)), z12 (2 * k) (by omega) (by omega), z12 (2 * k + 1) (by omega) (by omega)]
      exact g
  · show ∀ k, k < sp_n (z.1 9) 8 → (z.1 13 (5 * k) = nI (sp_n (z.1 13) (5 * k)) ∧ sp_n (z.1 13) (5 * k) < sp_n (z.1 9) 5) ∧ _
    rw [e8, e5, show z.1 (8 + 5) = σ.1 13 from zo 13 (by omega)]
    exact hp
theorem yB_policy (hB : yB 8 σ) (hc : σ.1 9 8 = nI n) (hn : n < 6) {a b c d e : Int32} (hb : (0 ≤ a ∧ a ≤ σ.1 9 5 - 1) ∧ (0 ≤ b ∧ b ≤ 29) ∧ (b ≤ c ∧ c ≤ 29) ∧ (1 ≤ d ∧ d ≤ 99) ∧ 0 ≤ e ∧ e ≤ 99) (hz : yq_r (sn_pI (sn_pI (sn_pI (sn_pI (sn_pI (sn_pI σ 13 (5 * n) a) 13 (5 * n + 1) b) 13 (5 * n + 2) c) 13 (5 * n + 3) d) 13 (5 * n + 4) e) 9 8 (nI (n + 1))) z) : yB 8 z := by
  obtain ⟨⟨c5, c6, c7, c8, c9⟩, hn5, hg, hnt, hp⟩ := hB
  have en : sp_n (σ.1 9) 8 = n := sp_nI hc (by omega)
  have z9 : ∀ k, k ≠ 8 → z.1 9 k = σ.1 9 k := fun k hk => by rw [hz 9 (by decide), pI_slot hk, pI_ne (by decide), pI_ne (by decide), pI_ne (by decide), pI_ne (by decide), pI_ne (by decide)]
  have z98 : z.1 9 8 = nI (n + 1) := by rw [hz 9 (by decide), pI_self]
  have z13 : ∀ k, k < 5 * n → z.1 13 k = σ.1 13 k := fun k h1 => by rw [hz 13 (by decide), pI_ne (by decide), pI_slot (by omega), pI_slot (by omega), pI_slot (by omega), pI_slot (by omega), pI_slot (by omega)]
  have za : z.1 13 (5 * n) = a := by rw [hz 13 (by decide), pI_ne (by decide), pI_slot (by omega), pI_slot (by omega), pI_slot (by omega), pI_slot (by omega), pI_self]
  have zb : z.1 13 (5 * n + 1) = b := by rw [hz 13 (by decide), pI_ne (by decide), pI_slot (by omega), pI_slot (by omega), pI_slot (by omega), pI_self]
  have zc : z.1 13 (5 * n + 2) = c := by rw [hz 13 (by decide), pI_ne (by decide), pI_slot (by omega), pI_slot (by omega), pI_self]
  have zd : z.1 13 (5 * n + 3) = d := by rw [hz 13 (by decide), pI_ne (by decide), pI_slot (by omega), pI_self]
  have ze : z.1 13 (5 * n + 4) = e := by rw [hz 13 (by decide), pI_ne (by decide), pI_self]
  have zo : ∀ q, q = 10 ∨ q = 11 ∨ q = 12 → z.1 q = σ.1 q := fun q hq => by rw [hz q (by omega), pI_ne (by omega), pI_ne (by omega), pI_ne (by omega), pI_ne (by omega), pI_ne (by omega), pI_ne (by omega)]
  have e5 : sp_n (z.1 9) 5 = sp_n (σ.1 9) 5 := sp_mv (z9 5 (by decide))
  have e6 : sp_n (z.1 9) 6 = sp_n (σ.1 9) 6 := sp_mv (z9 6 (by decide))
  have e7 : sp_n (z.1 9) 7 = sp_n (σ.1 9) 7 := sp_mv (z9 7 (by decide))
  have e8 : sp_n (z.1 9) 8 = n + 1 := sp_nI z98 (by omega)
  have b5 : sp_n (σ.1 9) 5 ≤ 6 := c5.2
  refine ⟨⟨yh_mv (z9 5 (by decide)) c5, yh_mv (z9 6 (by decide)) c6, yh_mv (z9 7 (by decide)) c7, ⟨by show z.1 9 8 = nI (sp_n (z.1 9) 8); rw [e8]; exact z98, by show sp_n (z.1 9) 8 ≤ 6; omega⟩, (z9 9 (by decide)).trans c9⟩, ?_, ?_, ?_, fun k hk => ?_⟩
  · show ∀ p, p < sp_n (z.1 9) 5 → yh_n (z.1 10) (2 * p) 9 ∧ yh_n (z.1 10) (2 * p + 1) 99 ∧ 1 ≤ sp_n (z.1 10) (2 * p + 1)
    rw [e5, zo 10 (by omega)]
    exact hn5
  · show ∀ g, g < sp_n (z.1 9) 6 → yh_n (z.1 11) (2 * g) 9 ∧ yh_n (z.1 11) (2 * g + 1) 29
    rw [e6, zo 11 (by omega)]
    exact hg
  · show ∀ k, k < sp_n (z.1 9) 7 → z.1 12 (2 * k) = nI (sp_n (z.1 12) (2 * k)) ∧ sp_n (z.1 12) (2 * k) < sp_n (z.1 9) 5 ∧ z.1 12 (2 * k + 1) = nI (sp_n (z.1 12) (2 * k + 1)) ∧ sp_n (z.1 12) (2 * k + 1) < sp_n (z.1 9) 5 ∧ sp_n (z.1 12) (2 * k) ≠ sp_n (z.1 12) (2 * k + 1)
    rw [e7, e5, zo 12 (by omega)]
    exact hnt
  · have hk : k < sp_n (z.1 9) 8 := hk
    show (z.1 13 (5 * k) = nI (sp_n (z.1 13) (5 * k)) ∧ sp_n (z.1 13) (5 * k) < sp_n (z.1 9) 5) ∧ yh_n (z.1 13) (5 * k + 1) 29 ∧ yh_n (z.1 13) (5 * k + 2) 29 ∧ sp_n (z.1 13) (5 * k + 1) ≤ sp_n (z.1 13) (5 * k + 2) ∧ yh_n (z.1 13) (5 * k + 3) 99 ∧ 1 ≤ sp_n (z.1 13) (5 * k + 3) ∧ yh_n (z.1 13) (5 * k + 4) 99
    rw [e5]
    by_cases cc : k = n
    · subst cc
      obtain ⟨a1, a2⟩ := yv_p c5.1 (show sp_n (σ.1 9) 5 < 100 by omega) hb.1.1 hb.1.2
      obtain ⟨d1, d2, d3⟩ := yv1 (b := 99) hb.2.2.2.1.1 hb.2.2.2.1.2 (by decide)
      have c0 : (0 : Int32) ≤ c := Int32.le_trans hb.2.1.1 hb.2.2.1.1
      obtain ⟨f1, f2⟩ := yv (b := 29) hb.2.1.1 hb.2.1.2 (by decide)
      obtain ⟨g1, g2⟩ := yv (b := 29) c0 hb.2.2.1.2 (by decide)
      have sa : sp_n (z.1 13) (5 * k) = a.toNatClampNeg := by unfold sp_n; rw [za]
      have sb : sp_n (z.1 13) (5 * k + 1) = b.toNatClampNeg := by unfold sp_n; rw [zb]
      have sc : sp_n (z.1 13) (5 * k + 2) = c.toNatClampNeg := by unfold sp_n; rw [zc]
      have sd : sp_n (z.1 13) (5 * k + 3) = d.toNatClampNeg := by unfold sp_n; rw [zd]
      have hbc := hb.2.2.1.1
      rw [f1, g1] at hbc
      refine ⟨⟨by rw [sa, za]; exact a1, by rw [sa]; exact a2⟩, yh_of zb hb.2.1.1 hb.2.1.2 (by decide), yh_of zc c0 hb.2.2.1.2 (by decide), ?_, yh_of zd (Int32.le_trans (by decide) hb.2.2.2.1.1) hb.2.2.2.1.2 (by decide), by rw [sd]; exact d3, yh_of ze hb.2.2.2.2.1 hb.2.2.2.2.2 (by decide)⟩
      rw [sb, sc]
      exact (nI_leI (by omega) (by omega)).mp hbc
    · obtain ⟨⟨g1, g2⟩, g3, g4, g5, g6, g7, g8⟩ := hp k (by show k < sp_n (σ.1 9) 8; omega)
      have m : ∀ j, j < 5 → z.1 13 (5 * k + j) = σ.1 13 (5 * k + j) := fun j hj => z13 _ (by omega)
      exact ⟨⟨by rw [sp_mv (z13 (5 * k) (by omega)), z13 (5 * k) (by omega)]; exact g1, by rw [sp_mv (z13 (5 * k) (by omega))]; exact g2⟩, yh_mv (m 1 (by decide)) g3, yh_mv (m 2 (by decide)) g4, by rw [sp_mv (m 1 (by decide)), sp_mv (m 2 (by decide))]; exact g5, yh_mv (m 3 (by decide)) g6, by rw [sp_mv (m 3 (by decide))]; exact g7, yh_mv (m 4 (by decide)) g8⟩
/-- the first row of the counts -/
def yF (c : Nat → Int32) (x : Nat) : Prop := (x = 0 → ∀ k, k < 11 → c k = 0) ∧ (0 < x → yh_n c 0 30 ∧ 1 ≤ sp_n c 0 ∧ yh_n c 1 9 ∧ yh_n c 2 3 ∧ yh_n c 3 999 ∧ yh_n c 4 10) ∧ c 10 = nI x
theorem yF_z {c : Nat → Int32} (h : ∀ k, k < 11 → c k = 0) : yF c 0 := ⟨fun _ => h, fun x => absurd x (by decide), (h 10 (by decide)).trans nI_0.symm⟩
theorem yF_c {c c' : Nat → Int32} {x : Nat} (hx : 0 < x) (h : ∀ k, k < 5 ∨ k = 10 → c' k = c k) (hF : yF c x) : yF c' x := by
  obtain ⟨g0, g1, g2, g3, g4, g5⟩ := hF.2.1 hx
  exact ⟨fun e => absurd e (by omega), fun _ => ⟨yh_mv (h 0 (by decide)) g0, by rw [sp_mv (h 0 (by decide))]; exact g1, yh_mv (h 1 (by decide)) g2, yh_mv (h 2 (by decide)) g3, yh_mv (h 3 (by decide)) g4, yh_mv (h 4 (by decide)) g5⟩, (h 10 (by decide)).trans hF.2.2⟩
theorem yB_0 {h : Nat} (e : ∀ k, k < 11 → σ.1 (h + 1) k = 0) : yB h σ := by
  have z : ∀ k, k < 11 → sp_n (σ.1 (h + 1)) k = 0 := fun k hk => by unfold sp_n; rw [e k hk]; rfl
  have y : ∀ k b, k < 11 → yh_n (σ.1 (h + 1)) k b := fun k b hk => ⟨by rw [z k hk, e k hk, nI_0], by rw [z k hk]; omega⟩
  refine ⟨⟨y 5 6 (by decide), y 6 5 (by decide), y 7 8 (by decide), y 8 6 (by decide), e 9 (by decide)⟩, fun p hp => ?_, fun p hp => ?_, fun p hp => ?_, fun p hp => ?_⟩
  · rw [z 5 (by decide)] at hp; exact absurd hp (by omega)
  · rw [z 6 (by decide)] at hp; exact absurd hp (by omega)
  · rw [z 7 (by decide)] at hp; exact absurd hp (by omega)
  · rw [z 8 (by decide)] at hp; exact absurd hp (by omega)
/-- a row of the house that leaves the draft within its bounds -/
def yI (z : sn_S) (x : Nat) : Prop := z.1 17 2 = 0 → yB 8 z ∧ yF (z.1 9) x
theorem yI_first (h : yI σ 0) : yp (fX5_readHouse σ) (fun z => z.1 17 2 = 0 → yB 8 z ∧ yh_n (z.1 9) 0 30 ∧ 1 ≤ sp_n (z.1 9) 0 ∧ yh_n (z.1 9) 1 9 ∧ yh_n (z.1 9) 2 3 ∧ yh_n (z.1 9) 3 999 ∧ yh_n (z.1 9) 4 10) := by
  refine yp_w yq_house (fun z hz x => ?_)
  obtain ⟨x0, a, b, c, d, e, ⟨ba, bb, bc, bd, be⟩, hr⟩ := hz x
  obtain ⟨dB, dF⟩ := h x0
  have z0 : ∀ k, 5 ≤ k → z.1 9 k = σ.1 9 k := fun k hk => by rw [hr 9 (by decide), pI_slot (by omega), pI_slot (by omega), pI_slot (by omega), pI_slot (by omega), pI_slot (by omega)]
  have zo : ∀ q, q ≠ 9 → q ≠ 17 → z.1 q = σ.1 q := fun q h1 h2 => by rw [hr q h2, pI_ne h1, pI_ne h1, pI_ne h1, pI_ne h1, pI_ne h1]
  have za : z.1 9 0 = a := by rw [hr 9 (by decide), pI_slot (by decide), pI_slot (by decide), pI_slot (by decide), pI_slot (by decide), pI_self]
  have zb : z.1 9 1 = b := by rw [hr 9 (by decide), pI_slot (by decide), pI_slot (by decide), pI_slot (by decide), pI_self]
  have zc : z.1 9 2 = c := by rw [hr 9 (by decide), pI_slot (by decide), pI_slot (by decide), pI_self]
  have zd : z.1 9 3 = d := by rw [hr 9 (by decide), pI_slot (by decide), pI_self]
  have ze : z.1 9 4 = e := by rw [hr 9 (by decide), pI_self]
  obtain ⟨a1, a2, a3⟩ := yv1 (b := 30) ba.1 ba.2 (by decide)
  have sa : sp_n (z.1 9) 0 = a.toNatClampNeg := by unfold sp_n; rw [za]
  refine ⟨?_, yh_of za (Int32.le_trans (by decide) ba.1) ba.2 (by decide), by rw [sa]; exact a3, yh_of zb bb.1 bb.2 (by decide), yh_of zc bc.1 bc.2 (by decide), yh_of zd bd.1 bd.2 (by decide), yh_of ze be.1 be.2 (by decide)⟩
  obtain ⟨⟨c5, c6, c7, c8, c9⟩, hn5, hg, hnt, hp⟩ := dB
  have e5 : sp_n (z.1 9) 5 = sp_n (σ.1 9) 5 := sp_mv (z0 5 (by decide))
  have e6 : sp_n (z.1 9) 6 = sp_n (σ.1 9) 6 := sp_mv (z0 6 (by decide))
  have e7 : sp_n (z.1 9) 7 = sp_n (σ.1 9) 7 := sp_mv (z0 7 (by decide))
  have e8 : sp_n (z.1 9) 8 = sp_n (σ.1 9) 8 := sp_mv (z0 8 (by decide))
  unfold yB
  rw [show sp_n (z.1 (8 + 1)) 5 = sp_n (σ.1 (8 + 1)) 5 from e5, show sp_n (z.1 (8 + 1)) 6 = sp_n (σ.1 (8 + 1)) 6 from e6, show sp_n (z.1 (8 + 1)) 7 = sp_n (σ.1 (8 + 1)) 7 from e7, show sp_n (z.1 (8 + 1)) 8 = sp_n (σ.1 (8 + 1)) 8 from e8, zo (8 + 2) (by decide) (by decide), zo (8 + 3) (by decide) (by decide), zo (8 + 4) (by decide) (by decide), zo (8 + 5) (by decide) (by decide)]
  exact ⟨⟨yh_mv (z0 5 (by decide)) c5, yh_mv (z0 6 (by decide)) c6, yh_mv (z0 7 (by decide)) c7, yh_mv (z0 8 (by decide)) c8, (z0 9 (by decide)).trans c9⟩, hn5, hg, hnt, hp⟩
theorem yI_cnt {k b : Nat} (h : yh_n (σ.1 9) k b) (hb : b < 100) : ∃ n, n < 100 ∧ σ.1 9 k = nI n := ⟨sp_n (σ.1 9) k, by have := h.2; omega, h.1⟩
theorem yI_line {x : Nat} (hx : 0 < x) (h0 : σ.1 17 2 = 0) (h : yI σ x) : yp (fX5_readLine σ) (fun z => yI z x) := by
  obtain ⟨dB, dF⟩ := h h0
  obtain ⟨n5, l5, c5⟩ := yI_cnt dB.1.1 (by decide)
  obtain ⟨n6, l6, c6⟩ := yI_cnt dB.1.2.1 (by decide)
  obtain ⟨n7, l7, c7⟩ := yI_cnt dB.1.2.2.1 (by decide)
  obtain ⟨n8, l8, c8⟩ := yI_cnt dB.1.2.2.2.1 (by decide)
  have f5 : sn_I σ (8 + 1) (5 : Int32).toNatClampNeg = nI n5 := c5
  have f6 : sn_I σ (8 + 1) (6 : Int32).toNatClampNeg = nI n6 := c6
  have f7 : sn_I σ (8 + 1) (7 : Int32).toNatClampNeg = nI n7 := c7
  have f8 : sn_I σ (8 + 1) (8 : Int32).toNatClampNeg = nI n8 := c8
  unfold fX5_readLine
  rw [f5, f6, f7, f8]
  refine yp_bd (fun _ => True) (fun _ _ => trivial) (fun _ _ => yp_ite (fun _ => ?_) (fun _ => yp_gd (fun _ => yp_gd (fun _ => yp_bd _ (yq_nose l5) (fun z hz => yp_some (fun e => ?_))))))
  · refine yp_bd (fun _ => True) (fun _ _ => trivial) (fun _ _ => yp_ite (fun _ => ?_) (fun _ => yp_gd (fun _ => yp_gd (fun _ => yp_bd _ (yq_gust l6) (fun z hz => yp_some (fun e => ?_))))))
    · refine yp_bd (fun _ => True) (fun _ _ => trivial) (fun _ _ => yp_ite (fun _ => ?_) (fun _ => yp_gd (fun _ => yp_gd (fun _ => yp_bd _ (yq_net l7) (fun z hz => yp_some (fun e => ?_))))))
      · refine yp_bd (fun _ => True) (fun _ _ => trivial) (fun _ _ => yp_ite (fun _ => yp_bd _ (yq_blame (by decide)) (fun z hz => yp_some (fun e => absurd e hz.2))) (fun _ => yp_gd (fun _ => yp_gd (fun _ => yp_bd _ (yq_policy l8) (fun z hz => yp_some (fun e => ?_))))))
        obtain ⟨_, hn, a, b, c, d, e, hb, hr⟩ := hz e
        refine ⟨yB_policy dB c8 hn hb hr, yF_c hx (fun k hk => ?_) dF⟩
        rw [hr 9 (by decide), pI_slot (by omega), pI_ne (by decide), pI_ne (by decide), pI_ne (by decide), pI_ne (by decide), pI_ne (by decide)]
      · obtain ⟨_, hn, a, b, hb, hr⟩ := hz e
        refine ⟨yB_net dB c7 hn hb hr, yF_c hx (fun k hk => ?_) dF⟩
        rw [hr 9 (by decide), pI_slot (by omega), pI_ne (by decide), pI_ne (by decide)]
    · obtain ⟨_, hn, a, b, hb, hr⟩ := hz e
      refine ⟨yB_gust dB c6 hn hb hr, yF_c hx (fun k hk => ?_) dF⟩
      rw [hr 9 (by decide), pI_slot (by omega), pI_ne (by decide), pI_ne (by decide)]
  · obtain ⟨_, hn, a, b, hb, hr⟩ := hz e
    refine ⟨yB_nose dB c5 hn hb hr, yF_c hx (fun k hk => ?_) dF⟩
    rw [hr 9 (by decide), pI_slot (by omega), pI_ne (by decide), pI_ne (by decide)]
theorem yI_read : yp (fX5_read σ 8) (fun z => z.1 17 2 = 0 → yB 8 z ∧ ∃ x, x ≤ 900 ∧ yF (z.1 9) x) := by
  unfold fX5_read fX2_clear
  refine yp_lt (yp_gd (fun _ => yp_bd (fun z : sn_S => ∀ k, k < 11 → z.1 9 k = 0) (yp_bd _ (yc_fill _ _ _ _ (by decide)) (fun z hz => yp_some hz.2.2)) (fun z hz => yp_lt (yp_lt (yp_lt ?_)))))
  refine yp_bd _ yq_step (fun t ht => ?_)
  have t9 : ∀ k, k < 11 → t.1 9 k = 0 := fun k hk => by
    rw [ht.1 9 (by decide), pI_ne (by decide), pI_ne (by decide), pI_ne (by decide)]
    exact hz k hk
  refine yp_bd (fun z => z.1 17 2 = 0 → yB 8 z ∧ ∃ x, x ≤ 900 ∧ yF (z.1 9) x) (yp_it (fun s : sn_S × Int32 => ∃ x, x ≤ 900 ∧ s.2 = nI x ∧ yI s.1 x) (fun s hs => ?_) _ _ ⟨0, by decide, nI_0.symm, fun _ => ⟨yB_0 t9, yF_z t9⟩⟩) (fun u hu => ?_)
  · obtain ⟨u, y⟩ := s
    obtain ⟨x, hx, ey, hI⟩ := hs
    have ey : y = nI x := ey
    subst ey
    have hI : yI u x := hI
    have out : yp (some (Sum.inr u : (sn_S × Int32) ⊕ sn_S)) (yp_sum (fun s : sn_S × Int32 => ∃ x, x ≤ 900 ∧ s.2 = nI x ∧ yI s.1 x) (fun z => z.1 17 2 = 0 → yB 8 z ∧ ∃ x, x ≤ 900 ∧ yF (z.1 9) x)) := yp_some (fun e => ⟨(hI e).1, x, hx, (hI e).2⟩)
    show yp (BX5_read_33 u 8 (nI x)) _
    unfold BX5_read_33
    refine yp_ite (fun _ => out) (fun c => yp_ite (fun c0 => yp_ite (fun _ => out) (fun _ => ?_)) (fun _ => out))
    have hlt : x < 900 := by
      rcases Nat.lt_or_ge x 900 with g | g
      · exact g
      · exact absurd (nI_le (a := 900) g (by omega)) c
    have l69 : ∀ v : sn_S, (v.1 17 2 = 0 → yB 8 v ∧ yh_n (v.1 9) 0 30 ∧ 1 ≤ sp_n (v.1 9) 0 ∧ yh_n (v.1 9) 1 9 ∧ yh_n (v.1 9) 2 3 ∧ yh_n (v.1 9) 3 999 ∧ yh_n (v.1 9) 4 10) → yp (BX5_read_69 v 8 (nI x)) (yp_sum (fun s : sn_S × Int32 => ∃ x, x ≤ 900 ∧ s.2 = nI x ∧ yI s.1 x) (fun z => z.1 17 2 = 0 → yB 8 z ∧ ∃ x, x ≤ 900 ∧ yF (z.1 9) x)) := fun v hv => by
      unfold BX5_read_69
      refine yp_gd (fun _ => yp_gd (fun _ => yp_lt (yp_lt (yp_some ⟨x + 1, hlt, nI_1 x, fun e => ?_⟩))))
      obtain ⟨d1, d2, d3, d4, d5, d6, d7⟩ := hv (yq_f (by decide) e)
      have k9 : ∀ k, k ≠ 10 → (sn_pI v (8 + 1) (10 : Int32).toNatClampNeg (nI x + (1 : Int32))).1 9 k = v.1 9 k := fun k hk => pI_slot hk
      have ko : ∀ q, q ≠ 9 → (sn_pI v (8 + 1) (10 : Int32).toNatClampNeg (nI x + (1 : Int32))).1 q = v.1 q := fun q hq => pI_ne hq
      refine ⟨?_, fun z => absurd z (by omega), fun _ => ⟨yh_mv (k9 0 (by decide)) d2, by rw [sp_mv (k9 0 (by decide))]; exact d3, yh_mv (k9 1 (by decide)) d4, yh_mv (k9 2 (by decide)) d5, yh_mv (k9 3 (by decide)) d6, yh_mv (k9 4 (by decide)) d7⟩, ?_⟩
      · obtain ⟨⟨c5, c6, c7, c8, c9⟩, hn5, hg, hnt, hp⟩ := d1
        show yB 8 (sn_pI v (8 + 1) (10 : Int32).toNatClampNeg (nI x + (1 : Int32)))
        unfold yB
        rw [show sp_n ((sn_pI v (8 + 1) (10 : Int32).toNatClampNeg (nI x + (1 : Int32))).1 (8 + 1)) 5 = sp_n (v.1 (8 + 1)) 5 from sp_mv (k9 5 (by decide)), show sp_n ((sn_pI v (8 + 1) (10 : Int32).toNatClampNeg (nI x + (1 : Int32))).1 (8 + 1)) 6 = sp_n (v.1 (8 + 1)) 6 from sp_mv (k9 6 (by decide)), show sp_n ((sn_pI v (8 + 1) (10 : Int32).toNatClampNeg (nI x + (1 : Int32))).1 (8 + 1)) 7 = sp_n (v.1 (8 + 1)) 7 from sp_mv (k9 7 (by decide)), show sp_n ((sn_pI v (8 + 1) (10 : Int32).toNatClampNeg (nI x + (1 : Int32))).1 (8 + 1)) 8 = sp_n (v.1 (8 + 1)) 8 from sp_mv (k9 8 (by decide)), ko (8 + 2) (by decide), ko (8 + 3) (by decide), ko (8 + 4) (by decide), ko (8 + 5) (by decide)]
        exact ⟨⟨yh_mv (k9 5 (by decide)) c5, yh_mv (k9 6 (by decide)) c6, yh_mv (k9 7 (by decide)) c7, yh_mv (k9 8 (by decide)) c8, (k9 9 (by decide)).trans c9⟩, hn5, hg, hnt, hp⟩
      · show (sn_pI v 9 10 (nI x + (1 : Int32))).1 9 10 = nI (x + 1)
        rw [pI_self]
        exact nI_1 x
    refine yp_ite (fun c2 => ?_) (fun c2 => ?_)
    · have x0 : x = 0 := (yi_0 (by omega)).mp c2
      subst x0
      exact yp_bd _ (yI_first hI) (fun v hv => l69 v hv)
    · have x0 : 0 < x := by
        have : x ≠ 0 := fun z => c2 ((yi_0 (by omega)).mpr z)
        omega
      exact yp_bd _ (yI_line x0 c0 hI) (fun v hv => l69 v (fun e => ⟨(hv e).1, (hv e).2.2.1 x0⟩))
  · unfold BX5_read_88
    exact yp_some hu
end
