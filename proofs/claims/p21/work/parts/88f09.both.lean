/-! a row of either kind -/
section
variable {σ τ : sn_S} {n : Nat} {l : Int32}
theorem rr_Nw9 {k : Nat} {v w : Int32} (h : rr_N l σ τ n) (hk : k < 5) (hv : σ.1 17 2 = 0 → v = w) : rr_N l (sn_pI σ 9 k v) (sn_pI τ 6 k w) n := by
  refine ⟨rr_Lw (by decide) (by decide) h.1, by rw [pI_slot (by omega)]; exact h.2.1, fun x => ?_⟩
  rw [pI_ne (by decide)] at x
  obtain ⟨hb, h9, h0, h1, h2, h3⟩ := h.2.2 x
  have e5 : ∀ c, 5 ≤ c → (sn_pI σ 9 k v).1 9 c = σ.1 9 c := fun c hc => pI_slot (by omega)
  have e6 : ∀ c, 5 ≤ c → (sn_pI τ 6 k w).1 6 c = τ.1 6 c := fun c hc => pI_slot (by omega)
  have eo : ∀ q, q ≠ 9 → (sn_pI σ 9 k v).1 q = σ.1 q := fun q hq => pI_ne hq
  unfold rr_c
  rw [e5 5 (by decide), e5 6 (by decide), e5 7 (by decide), e5 8 (by decide), e5 9 (by decide), eo 10 (by decide), eo 11 (by decide), eo 12 (by decide), eo 13 (by decide)]
  refine ⟨hb, fun c hc => ?_, fun i hi => by rw [e6 _ (by omega)]; exact h0 i hi, fun i hi => by rw [e6 _ (by omega)]; exact h1 i hi, fun i hi => by rw [e6 _ (by omega)]; exact h2 i hi, fun i hi => by rw [e6 _ (by omega)]; exact h3 i hi⟩
  by_cases e : c = k
  · subst e
    rw [pI_self, pI_self]
    exact hv x
  · rw [pI_slot e, pI_slot e]
    exact h9 c hc
theorem rr_first (h : rr_N l σ τ n) : rr_ok (fX5_readHouse σ) ((fX9_readFirst τ).bind fun t => BX9_readLine_21 t) (fun σ' τ' => rr_N (l + 1) σ' τ' n) := by
  unfold fX5_readHouse fX9_readFirst
  refine rr_Bb (rr_bd (rr_word (by decide) h.1) (fun s t q => ?_))
  have N0 := rr_NF h q.1 q.2
  refine rr_Bb (rr_tell (by decide) N0.1 (by decide) (by decide) (fun a b p1 p2 p3 => ?_))
  have N1 := rr_NF N0 p1 p2
  refine rr_gl (by decide) (rr_ll (fun z => z = sn_pI a.2 9 0 a.1) rfl (fun z hz => rr_Bg (by decide) (rr_Bl (fun w => w = sn_pI b.2 6 0 b.1) rfl (fun w hw => ?_))))
  have N2 : rr_N l z w n := by
    rw [hz, hw]
    exact rr_Nw9 N1 (by decide) (fun x => (p3 x).1)
  refine rr_Bb (rr_tell (by decide) N2.1 (by decide) (by decide) (fun a b p1 p2 p3 => ?_))
  have N3 := rr_NF N2 p1 p2
  refine rr_gl (by decide) (rr_ll (fun z => z = sn_pI a.2 9 1 a.1) rfl (fun z hz => rr_Bg (by decide) (rr_Bl (fun w => w = sn_pI b.2 6 1 b.1) rfl (fun w hw => ?_))))
  have N4 : rr_N l z w n := by
    rw [hz, hw]
    exact rr_Nw9 N3 (by decide) (fun x => (p3 x).1)
  refine rr_Bb (rr_tell (by decide) N4.1 (by decide) (by decide) (fun a b p1 p2 p3 => ?_))
  have N5 := rr_NF N4 p1 p2
  refine rr_gl (by decide) (rr_ll (fun z => z = sn_pI a.2 9 2 a.1) rfl (fun z hz => rr_Bg (by decide) (rr_Bl (fun w => w = sn_pI b.2 6 2 b.1) rfl (fun w hw => ?_))))
  have N6 : rr_N l z w n := by
    rw [hz, hw]
    exact rr_Nw9 N5 (by decide) (fun x => (p3 x).1)
  refine rr_Bb (rr_tell (by decide) N6.1 (by decide) (by decide) (fun a b p1 p2 p3 => ?_))
  have N7 := rr_NF N6 p1 p2
  refine rr_gl (by decide) (rr_ll (fun z => z = sn_pI a.2 9 3 a.1) rfl (fun z hz => rr_Bg (by decide) (rr_Bl (fun w => w = sn_pI b.2 6 3 b.1) rfl (fun w hw => ?_))))
  have N8 : rr_N l z w n := by
    rw [hz, hw]
    exact rr_Nw9 N7 (by decide) (fun x => (p3 x).1)
  refine rr_Bb (rr_tell (by decide) N8.1 (by decide) (by decide) (fun a b p1 p2 p3 => ?_))
  have N9 := rr_NF N8 p1 p2
  refine rr_gl (by decide) (rr_ll (fun z => z = sn_pI a.2 9 4 a.1) rfl (fun z hz => rr_Bg (by decide) (rr_Bl (fun w => w = sn_pI b.2 6 4 b.1) rfl (fun w hw => ?_))))
  have N10 : rr_N l z w n := by
    rw [hz, hw]
    exact rr_Nw9 N9 (by decide) (fun x => (p3 x).1)
  obtain ⟨s2, w2, e1, e2, t2, ew, qL, qF⟩ := rr_sign N10.1
  rw [e1]
  show rr_ok (some s2) (BX9_readLine_21 w) _
  rw [e2, ew]
  have N11 := rr_NF N10 qL qF
  refine rr_some ⟨rr_Lw6 N11.1, by rw [pI_self, N11.2.1], fun x => ?_⟩
  have c := N11.2.2 x
  obtain ⟨hb, h9, h0, h1, h2, h3⟩ := c
  have e6 : ∀ k, k ≠ 10 → (sn_pI t2 6 10 (t2.1 6 10 + (1 : Int32))).1 6 k = t2.1 6 k := fun k hk => pI_slot hk
  exact ⟨hb, fun k hk => by rw [e6 k (by omega)]; exact h9 k hk, fun i hi => by rw [e6 _ (by omega)]; exact h0 i hi, fun i hi => by rw [e6 _ (by omega)]; exact h1 i hi, fun i hi => by rw [e6 _ (by omega)]; exact h2 i hi, fun i hi => by rw [e6 _ (by omega)]; exact h3 i hi⟩
theorem rr_91 (h : rr_N l σ τ n) {f : sn_S → Option sn_S} (hf : ∀ z : sn_S, z.1 0 12 ≠ 0 → f z = some z) {x : Int32} (hx : x ≠ 0) : rr_ok ((fX5_blame σ x).bind fun t => some t) (((fX9_errs τ x).bind fun t => f t).bind fun t => BX9_readLine_21 t) (fun σ' τ' => rr_N (l + 1) σ' τ' n) := by
  obtain ⟨s, t, e1, e2, q1, q2, q3⟩ := rr_blame h.1 hx
  rw [e1, e2]
  show rr_ok (some s) ((f t).bind fun t => BX9_readLine_21 t) _
  rw [hf t (by rw [q1.2.2.2.1]; exact q3)]
  exact rr_bad q1 q3 (by rw [q2.2.1 6 (by decide)]; exact h.2.1)
theorem rr_cnt {x : Int32} {b : Nat} (h : 0 ≤ x.toInt ∧ x.toInt ≤ (b : Int)) (hb : b < 100) : ∃ m, m ≤ b ∧ x = nI m := by
  obtain ⟨j, j1, j2⟩ := zs_val (x := x) (a := 0) (b := (b : Int)) h ⟨by decide, by omega⟩
  exact ⟨j, by omega, j2⟩
theorem rr_l0 (h : rr_N l σ τ n) (hg : σ.1 17 2 = 0) (c6 : fX5_isWord σ 6 = some 0) (m6 : fX9_is τ 6 = some 0) (c7 : fX5_isWord σ 7 = some 0) (m7 : fX9_is τ 7 = some 0) (c8 : fX5_isWord σ 8 = some 0) (m8 : fX9_is τ 8 = some 0) (c9 : fX5_isWord σ 9 = some 0) (m9 : fX9_is τ 9 = some 0) : rr_ok (fX5_readLine σ) ((fX9_readNext τ).bind fun t => BX9_readLine_21 t) (fun σ' τ' => rr_N (l + 1) σ' τ' n) := by
  have eL : fX5_readLine σ = (fX5_blame σ 1).bind fun t => some t := by
    unfold fX5_readLine
    rw [c6, bd_t0]
    rw [c7, bd_t0]
    rw [c8, bd_t0]
    rw [c9, bd_t0]
  have eR : fX9_readNext τ = (fX9_errs τ 1).bind fun t => BX9_readNext_51 t := by
    unfold fX9_readNext
    rw [m6, bd_t0]
    rw [m7, bd_t0]
    rw [m8, bd_t0]
    rw [m9]
    rfl
  rw [eL, eR]
  exact rr_91 h (fun z hz => rm_51bad hz) (by decide)
theorem rr_l9 (h : rr_N l σ τ n) (hg : σ.1 17 2 = 0) (c6 : fX5_isWord σ 6 = some 0) (m6 : fX9_is τ 6 = some 0) (c7 : fX5_isWord σ 7 = some 0) (m7 : fX9_is τ 7 = some 0) (c8 : fX5_isWord σ 8 = some 0) (m8 : fX9_is τ 8 = some 0) (c9 : fX5_isWord σ 9 = some 1) (m9 : fX9_is τ 9 = some 1) : rr_ok (fX5_readLine σ) ((fX9_readNext τ).bind fun t => BX9_readLine_21 t) (fun σ' τ' => rr_N (l + 1) σ' τ' n) := by
  have hc := h.2.2 hg
  obtain ⟨n8, b8, f8⟩ := rr_cnt (b := 6) hc.1.2.2.2.1 (by decide)
  have g8 : sn_I τ 6 (8 : Int32).toNatClampNeg = nI n8 := (hc.2.1 8 (by decide)).symm.trans f8
  have hR : (sn_R σ 17 7 == some 8) = true := by rw [h.1.2.2.1]; rfl
  have full : ∀ {m b : Nat}, m ≤ b → b < 100 → ¬ m < b → nI m = nI b := fun h1 h2 h3 => by rw [show _ = _ from Nat.le_antisymm h1 (by omega)]
  have eL : fX5_readLine σ = (fX5_readPolicy σ (nI n8)).bind fun t => some t := by
    unfold fX5_readLine
    rw [c6, bd_t0]
    rw [c7, bd_t0]
    rw [c8, bd_t0]
    rw [c9, bd_t1, show sn_I σ (8 + 1) (8 : Int32).toNatClampNeg = σ.1 9 8 from rfl]
    rw [hR, gd_T, f8]
    rfl
  have eR : fX9_readNext τ = if nI n8 = 6 then BX9_readNext_138 τ else BX9_readNext_143 τ := by
    have x1 : fX9_readNext τ = BX9_readNext_51 τ := by
      unfold fX9_readNext
      rw [m6, bd_t0]
      rw [m7, bd_t0]
      rw [m8, bd_t0]
      rw [m9]
      rfl
    rw [x1]
    unfold BX9_readNext_51
    rw [m6, bd_t0]
    unfold BX9_readNext_71
    rw [m7, bd_t0]
    unfold BX9_readNext_96
    rw [m8, bd_t0]
    unfold BX9_readNext_117
    rw [m9, g8]
    rfl
  rw [eL, eR]
  by_cases c : n8 < 6
  · rw [if_neg (fun x => by have := (nI_eq (b := 6) (by omega) (by decide)).mp x; omega)]
    have := rr_policy h hg f8 c m6 m7 m8 c9 m9
    obtain ⟨s, t, e1, e2, q⟩ := this
    rw [e1, e2]
    exact rr_some q
  · rw [if_pos (show nI n8 = (6 : Int32) from full b8 (by decide) c)]
    have eb : fX5_readPolicy σ (nI n8) = (fX5_blame σ 3).bind fun t => some t := by
      unfold fX5_readPolicy
      rw [if_neg (show ¬ nI n8 < (6 : Int32) from fun x => c ((nI_ltI (b := 6) (by omega) (by decide)).mp x))]
    rw [eb]
    have := rr_91 h (f := fun t => BX9_readNext_143 t) (fun z hz => rm_143bad hz) (x := 3) (by decide)
    obtain ⟨s, t, e1, e2, q⟩ := this
    rw [e1]
    show rr_ok (some s) _ _
    rw [show BX9_readNext_138 τ = (fX9_errs τ 3).bind fun t => BX9_readNext_143 t from rfl, e2]
    exact rr_some q
theorem rr_l8 (h : rr_N l σ τ n) (hg : σ.1 17 2 = 0) (c6 : fX5_isWord σ 6 = some 0) (m6 : fX9_is τ 6 = some 0) (c7 : fX5_isWord σ 7 = some 0) (m7 : fX9_is τ 7 = some 0) (c8 : fX5_isWord σ 8 = some 1) (m8 : fX9_is τ 8 = some 1) (c9 : fX5_isWord σ 9 = some 0) (m9 : fX9_is τ 9 = some 0) : rr_ok (fX5_readLine σ) ((fX9_readNext τ).bind fun t => BX9_readLine_21 t) (fun σ' τ' => rr_N (l + 1) σ' τ' n) := by
  have hc := h.2.2 hg
  obtain ⟨n7, b7, f7⟩ := rr_cnt (b := 8) hc.1.2.2.1 (by decide)
  have g7 : sn_I τ 6 (7 : Int32).toNatClampNeg = nI n7 := (hc.2.1 7 (by decide)).symm.trans f7
  have hR : (sn_R σ 17 7 == some 8) = true := by rw [h.1.2.2.1]; rfl
  have full : ∀ {m b : Nat}, m ≤ b → b < 100 → ¬ m < b → nI m = nI b := fun h1 h2 h3 => by rw [show _ = _ from Nat.le_antisymm h1 (by omega)]
  have eL : fX5_readLine σ = (fX5_readNet σ (nI n7)).bind fun t => some t := by
    unfold fX5_readLine
    rw [c6, bd_t0]
    rw [c7, bd_t0]
    rw [c8, bd_t1, show sn_I σ (8 + 1) (7 : Int32).toNatClampNeg = σ.1 9 7 from rfl]
    rw [hR, gd_T, f7]
    rfl
  have eR : fX9_readNext τ = if nI n7 = 8 then BX9_readNext_138 τ else BX9_readNext_143 τ := by
    have x1 : fX9_readNext τ = BX9_readNext_51 τ := by
      unfold fX9_readNext
      rw [m6, bd_t0]
      rw [m7, bd_t0]
      rw [m8]
      rfl
    have x2 : BX9_readNext_117 τ = BX9_readNext_143 τ := by
      unfold BX9_readNext_117
      rw [m9]
      rfl
    rw [x1]
    unfold BX9_readNext_51
    rw [m6, bd_t0]
    unfold BX9_readNext_71
    rw [m7, bd_t0]
    unfold BX9_readNext_96
    rw [m8, g7, x2]
    rfl
  rw [eL, eR]
  by_cases c : n7 < 8
  · rw [if_neg (fun x => by have := (nI_eq (b := 8) (by omega) (by decide)).mp x; omega)]
    have := rr_net h hg f7 c m6 m7 c8 m8
    obtain ⟨s, t, e1, e2, q⟩ := this
    rw [e1, e2]
    exact rr_some q
  · rw [if_pos (show nI n7 = (8 : Int32) from full b7 (by decide) c)]
    have eb : fX5_readNet σ (nI n7) = (fX5_blame σ 3).bind fun t => some t := by
      unfold fX5_readNet
      rw [if_neg (show ¬ nI n7 < (8 : Int32) from fun x => c ((nI_ltI (b := 8) (by omega) (by decide)).mp x))]
    rw [eb]
    have := rr_91 h (f := fun t => BX9_readNext_143 t) (fun z hz => rm_143bad hz) (x := 3) (by decide)
    obtain ⟨s, t, e1, e2, q⟩ := this
    rw [e1]
    show rr_ok (some s) _ _
    rw [show BX9_readNext_138 τ = (fX9_errs τ 3).bind fun t => BX9_readNext_143 t from rfl, e2]
    exact rr_some q
theorem rr_l7 (h : rr_N l σ τ n) (hg : σ.1 17 2 = 0) (c6 : fX5_isWord σ 6 = some 0) (m6 : fX9_is τ 6 = some 0) (c7 : fX5_isWord σ 7 = some 1) (m7 : fX9_is τ 7 = some 1) (c8 : fX5_isWord σ 8 = some 0) (m8 : fX9_is τ 8 = some 0) (c9 : fX5_isWord σ 9 = some 0) (m9 : fX9_is τ 9 = some 0) : rr_ok (fX5_readLine σ) ((fX9_readNext τ).bind fun t => BX9_readLine_21 t) (fun σ' τ' => rr_N (l + 1) σ' τ' n) := by
  have hc := h.2.2 hg
  obtain ⟨n6, b6, f6⟩ := rr_cnt (b := 5) hc.1.2.1 (by decide)
  have g6 : sn_I τ 6 (6 : Int32).toNatClampNeg = nI n6 := (hc.2.1 6 (by decide)).symm.trans f6
  have hR : (sn_R σ 17 7 == some 8) = true := by rw [h.1.2.2.1]; rfl
  have full : ∀ {m b : Nat}, m ≤ b → b < 100 → ¬ m < b → nI m = nI b := fun h1 h2 h3 => by rw [show _ = _ from Nat.le_antisymm h1 (by omega)]
  have eL : fX5_readLine σ = (fX5_readGust σ (nI n6)).bind fun t => some t := by
    unfold fX5_readLine
    rw [c6, bd_t0]
    rw [c7, bd_t1, show sn_I σ (8 + 1) (6 : Int32).toNatClampNeg = σ.1 9 6 from rfl]
    rw [hR, gd_T, f6]
    rfl
  have eR : fX9_readNext τ = if nI n6 = 5 then BX9_readNext_91 τ else BX9_readNext_143 τ := by
    have x1 : fX9_readNext τ = BX9_readNext_51 τ := by
      unfold fX9_readNext
      rw [m6, bd_t0]
      rw [m7]
      rfl
    have x2 : BX9_readNext_96 τ = BX9_readNext_143 τ := by
      unfold BX9_readNext_96
      rw [m8, bd_t0]
      unfold BX9_readNext_117
      rw [m9]
      rfl
    rw [x1]
    unfold BX9_readNext_51
    rw [m6, bd_t0]
    unfold BX9_readNext_71
    rw [m7, g6, x2]
    rfl
  rw [eL, eR]
  by_cases c : n6 < 5
  · rw [if_neg (fun x => by have := (nI_eq (b := 5) (by omega) (by decide)).mp x; omega)]
    have := rr_gust h hg f6 c m6 c7 m7
    obtain ⟨s, t, e1, e2, q⟩ := this
    rw [e1, e2]
    exact rr_some q
  · rw [if_pos (show nI n6 = (5 : Int32) from full b6 (by decide) c)]
    have eb : fX5_readGust σ (nI n6) = (fX5_blame σ 3).bind fun t => some t := by
      unfold fX5_readGust
      rw [if_neg (show ¬ nI n6 < (5 : Int32) from fun x => c ((nI_ltI (b := 5) (by omega) (by decide)).mp x))]
    rw [eb]
    have := rr_91 h (f := fun t => BX9_readNext_96 t) (fun z hz => rm_96bad hz) (x := 3) (by decide)
    obtain ⟨s, t, e1, e2, q⟩ := this
    rw [e1]
    show rr_ok (some s) _ _
    rw [show BX9_readNext_91 τ = (fX9_errs τ 3).bind fun t => BX9_readNext_96 t from rfl, e2]
    exact rr_some q
theorem rr_l6 (h : rr_N l σ τ n) (hg : σ.1 17 2 = 0) (c6 : fX5_isWord σ 6 = some 1) (m6 : fX9_is τ 6 = some 1) (c7 : fX5_isWord σ 7 = some 0) (m7 : fX9_is τ 7 = some 0) (c8 : fX5_isWord σ 8 = some 0) (m8 : fX9_is τ 8 = some 0) (c9 : fX5_isWord σ 9 = some 0) (m9 : fX9_is τ 9 = some 0) : rr_ok (fX5_readLine σ) ((fX9_readNext τ).bind fun t => BX9_readLine_21 t) (fun σ' τ' => rr_N (l + 1) σ' τ' n) := by
  have hc := h.2.2 hg
  obtain ⟨n5, b5, f5⟩ := rr_cnt (b := 6) hc.1.1 (by decide)
  have g5 : sn_I τ 6 (5 : Int32).toNatClampNeg = nI n5 := (hc.2.1 5 (by decide)).symm.trans f5
  have hR : (sn_R σ 17 7 == some 8) = true := by rw [h.1.2.2.1]; rfl
  have full : ∀ {m b : Nat}, m ≤ b → b < 100 → ¬ m < b → nI m = nI b := fun h1 h2 h3 => by rw [show _ = _ from Nat.le_antisymm h1 (by omega)]
  have eL : fX5_readLine σ = (fX5_readNose σ (nI n5)).bind fun t => some t := by
    unfold fX5_readLine
    rw [c6, bd_t1, show sn_I σ (8 + 1) (5 : Int32).toNatClampNeg = σ.1 9 5 from rfl]
    rw [hR, gd_T, f5]
    rfl
  have eR : fX9_readNext τ = if nI n5 = 6 then BX9_readNext_91 τ else BX9_readNext_143 τ := by
    have x1 : fX9_readNext τ = BX9_readNext_51 τ := by
      unfold fX9_readNext
      rw [m6]
      rfl
    have x2 : BX9_readNext_71 τ = BX9_readNext_143 τ := by
      unfold BX9_readNext_71
      rw [m7, bd_t0]
      unfold BX9_readNext_96
      rw [m8, bd_t0]
      unfold BX9_readNext_117
      rw [m9]
      rfl
    rw [x1]
    unfold BX9_readNext_51
    rw [m6, g5, x2]
    rfl
  rw [eL, eR]
  by_cases c : n5 < 6
  · rw [if_neg (fun x => by have := (nI_eq (b := 6) (by omega) (by decide)).mp x; omega)]
    have := rr_nose h hg f5 c c6 m6
    obtain ⟨s, t, e1, e2, q⟩ := this
    rw [e1, e2]
    exact rr_some q
  · rw [if_pos (show nI n5 = (6 : Int32) from full b5 (by decide) c)]
    have eb : fX5_readNose σ (nI n5) = (fX5_blame σ 3).bind fun t => some t := by
      unfold fX5_readNose
      rw [if_neg (show ¬ nI n5 < (6 : Int32) from fun x => c ((nI_ltI (b := 6) (by omega) (by decide)).mp x))]
    rw [eb]
    have := rr_91 h (f := fun t => BX9_readNext_96 t) (fun z hz => rm_96bad hz) (x := 3) (by decide)
    obtain ⟨s, t, e1, e2, q⟩ := this
    rw [e1]
    show rr_ok (some s) _ _
    rw [show BX9_readNext_91 τ = (fX9_errs τ 3).bind fun t => BX9_readNext_96 t from rfl, e2]
    exact rr_some q
theorem rr_line (h : rr_N l σ τ n) (hg : σ.1 17 2 = 0) : rr_ok (fX5_readLine σ) ((fX9_readNext τ).bind fun t => BX9_readLine_21 t) (fun σ' τ' => rr_N (l + 1) σ' τ' n) := by
  obtain ⟨a, e, W⟩ := rr_words h.1 hg
  obtain ⟨v6, w6, c6, m6⟩ := W 6 (by decide)
  obtain ⟨v7, w7, c7, m7⟩ := W 7 (by decide)
  obtain ⟨v8, w8, c8, m8⟩ := W 8 (by decide)
  obtain ⟨v9, w9, c9, m9⟩ := W 9 (by decide)
  rcases w6 with z6 | ⟨z6, W6⟩
  · rcases w7 with z7 | ⟨z7, W7⟩
    · rcases w8 with z8 | ⟨z8, W8⟩
      · rcases w9 with z9 | ⟨z9, W9⟩
        · exact rr_l0 h hg (c6.trans (by rw [z6])) (m6.trans (by rw [z6])) (c7.trans (by rw [z7])) (m7.trans (by rw [z7])) (c8.trans (by rw [z8])) (m8.trans (by rw [z8])) (c9.trans (by rw [z9])) (m9.trans (by rw [z9]))
        · exact rr_l9 h hg (c6.trans (by rw [z6])) (m6.trans (by rw [z6])) (c7.trans (by rw [z7])) (m7.trans (by rw [z7])) (c8.trans (by rw [z8])) (m8.trans (by rw [z8])) (c9.trans (by rw [z9])) (m9.trans (by rw [z9]))
      · have z9 : v9 = 0 := w9.elim id (fun x => absurd (rd_W1 (by decide) (by decide) W8 x.2) (by decide))
        exact rr_l8 h hg (c6.trans (by rw [z6])) (m6.trans (by rw [z6])) (c7.trans (by rw [z7])) (m7.trans (by rw [z7])) (c8.trans (by rw [z8])) (m8.trans (by rw [z8])) (c9.trans (by rw [z9])) (m9.trans (by rw [z9]))
    · have z8 : v8 = 0 := w8.elim id (fun x => absurd (rd_W1 (by decide) (by decide) W7 x.2) (by decide))
      have z9 : v9 = 0 := w9.elim id (fun x => absurd (rd_W1 (by decide) (by decide) W7 x.2) (by decide))
      exact rr_l7 h hg (c6.trans (by rw [z6])) (m6.trans (by rw [z6])) (c7.trans (by rw [z7])) (m7.trans (by rw [z7])) (c8.trans (by rw [z8])) (m8.trans (by rw [z8])) (c9.trans (by rw [z9])) (m9.trans (by rw [z9]))
  · have z7 : v7 = 0 := w7.elim id (fun x => absurd (rd_W1 (by decide) (by decide) W6 x.2) (by decide))
    have z8 : v8 = 0 := w8.elim id (fun x => absurd (rd_W1 (by decide) (by decide) W6 x.2) (by decide))
    have z9 : v9 = 0 := w9.elim id (fun x => absurd (rd_W1 (by decide) (by decide) W6 x.2) (by decide))
    exact rr_l6 h hg (c6.trans (by rw [z6])) (m6.trans (by rw [z6])) (c7.trans (by rw [z7])) (m7.trans (by rw [z7])) (c8.trans (by rw [z8])) (m8.trans (by rw [z8])) (c9.trans (by rw [z9])) (m9.trans (by rw [z9]))
end
