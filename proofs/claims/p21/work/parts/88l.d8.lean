/-! what is alike between two calls, the day too -/
theorem zs_kCd {q k : Nat} (h1 : 27 ≤ q) (h2 : q ≤ 37) : zs_kC q k = true := by
  unfold zs_kC
  rw [show Nat.ble 27 q = true from Nat.ble_eq.mpr h1, show Nat.ble q 37 = true from Nat.ble_eq.mpr h2]
  rfl
def yw (τ : sn_S) (j : Nat) : Nat → Int32 := fun k => τ.1 2 (119 * j + k)
def zK (σ τ : sn_S) : Prop := zJ σ τ ∧ (jW (τ.1 1) ∧ yH 1 σ (τ.1 1)) ∧ (∀ j, j < 3 → jW (yw τ j) ∧ yH (73 + 7 * j) σ (yw τ j)) ∧ yD σ (τ.1 1)
theorem yD_c {σ σ' : sn_S} {w : Nat → Int32} (h : ∀ q, 27 ≤ q → q ≤ 37 → σ'.1 q = σ.1 q) (hD : yD σ w) : yD σ' w := by
  unfold yD yd_T yd_L yd_L0
  rw [h 27 (by omega) (by omega), h (27 + 1) (by omega) (by omega), h (27 + 2) (by omega) (by omega), h (27 + 3) (by omega) (by omega), h (27 + 4) (by omega) (by omega), h (27 + 5) (by omega) (by omega), h (27 + 6) (by omega) (by omega), h (27 + 7) (by omega) (by omega), h (27 + 8) (by omega) (by omega), h (27 + 9) (by omega) (by omega), h (27 + 10) (by omega) (by omega)]
  exact hD
theorem yw_c {τ τ' : sn_S} (m2 : τ'.1 2 = τ.1 2) (j : Nat) : yw τ' j = yw τ j := by
  unfold yw
  rw [m2]
theorem zK_c {σ σ' τ τ' : sn_S} (hJ : zJ σ' τ') (hc : ∀ q, (2 ≤ q ∧ q ≤ 7) ∨ (27 ≤ q ∧ q ≤ 37) ∨ (73 ≤ q ∧ q ≤ 93) → σ'.1 q = σ.1 q) (m1 : τ'.1 1 = τ.1 1) (m2 : τ'.1 2 = τ.1 2) (h : zK σ τ) : zK σ' τ' := by
  obtain ⟨_, ⟨w1, w2⟩, hi, hD⟩ := h
  refine ⟨hJ, ⟨by rw [m1]; exact w1, by rw [m1]; exact yH_c (fun a a1 a2 => hc a (by omega)) w2⟩, fun j hj => ?_, ?_⟩
  · rw [yw_c m2 j]
    exact ⟨(hi j hj).1, yH_c (fun a a1 a2 => hc a (by omega)) (hi j hj).2⟩
  · rw [m1]
    exact yD_c (fun q a b => hc q (by omega)) hD
theorem zK_keep {σ σ' τ τ' : sn_S} (hC : zs_C σ σ') (hM : zs_M τ τ') (h : zK σ τ) : zK σ' τ' :=
  zK_c (zJ_keep (zs_bC hC) hM h.1) (fun q hq => funext fun k => hC.2.1 q k (by
    rcases hq with e | e | e
    · exact zs_kCB (zs_kCh (Or.inl e))
    · exact zs_kCd e.1 e.2
    · exact zs_kCB (zs_kCh (Or.inr e)))) (funext fun k => hM.2.1 1 k rfl) (funext fun k => hM.2.1 2 k rfl) h
theorem zK_keep0 {σ σ' τ τ' : sn_S} (hC : zs_C σ σ') (hM : zs_M0 τ τ') (m : τ'.1 1 = τ.1 1 ∧ τ'.1 2 = τ.1 2) (h : zK σ τ) : zK σ' τ' :=
  zK_c (zJ_keep0 (zs_bC hC) hM m h.1) (fun q hq => funext fun k => hC.2.1 q k (by
    rcases hq with e | e | e
    · exact zs_kCB (zs_kCh (Or.inl e))
    · exact zs_kCd e.1 e.2
    · exact zs_kCB (zs_kCh (Or.inr e)))) m.1 m.2 h
theorem sp_0 {w : Nat → Int32} (z : ∀ k, w k = 0) (k : Nat) : sp_n w k = 0 := by
  unfold sp_n
  rw [z k]
  rfl
theorem jW_0 {w : Nat → Int32} (z : ∀ k, w k = 0) : jW w := by
  have y : ∀ k b, yh_n w k b := fun k b => ⟨by rw [sp_0 z k, z k, nI_0], by rw [sp_0 z k]; omega⟩
  refine ⟨⟨y _ _, y _ _, y _ _, y _ _, y _ _, y _ _, y _ _, y _ _, y _ _, y _ _, y _ _⟩, fun _ => ⟨sp_0 z _, sp_0 z _, sp_0 z _, sp_0 z _⟩, fun h => ?_, fun p hp => ?_, fun p hp => ?_, fun p hp => ?_, fun p hp => ?_, fun p hp => ?_⟩
  · rw [sp_0 z] at h; exact absurd h (by omega)
  · rw [sp_0 z] at hp; exact absurd hp (by omega)
  · rw [sp_0 z] at hp; exact absurd hp (by omega)
  · rw [sp_0 z] at hp; exact absurd hp (by omega)
  · rw [sp_0 z] at hp; exact absurd hp (by omega)
  · rw [sp_0 z] at hp; exact absurd hp (by omega)
theorem yH_0 {h : Nat} {σ : sn_S} {w : Nat → Int32} (z : ∀ k, w k = 0) (c : ∀ k, σ.1 (h + 1) k = 0) : yH h σ w := by
  refine ⟨fun k _ => by rw [c k, z k], fun p hp => ?_, fun p hp => ?_, fun p hp => ?_, fun p hp => ?_, fun p hp => ?_⟩
  · rw [sp_0 z] at hp; exact absurd hp (by omega)
  · rw [sp_0 z] at hp; exact absurd hp (by omega)
  · rw [sp_0 z] at hp; exact absurd hp (by omega)
  · rw [sp_0 z] at hp; exact absurd hp (by omega)
  · rw [sp_0 z] at hp; exact absurd hp (by omega)
theorem yD_0 {σ : sn_S} {w : Nat → Int32} (z : ∀ k, w k = 0) (c0 : σ.1 27 0 = 0) (c1 : σ.1 27 1 = 0) (c2 : σ.1 27 2 = 0) (c3 : σ.1 27 3 = -1) (c4 : ∀ m, σ.1 28 m = 0) : yD σ w := by
  have P : dy_P (hs_day w) = 0 := sp_0 z 5
  have N : dy_nN (hs_day w) = 0 := sp_0 z 7
  refine ⟨by rw [sp_0 z, c0, nI_0], ⟨by rw [P, c1, nI_0], by rw [N, c2, nI_0], c3, fun m _ => ?_, fun p hp => ?_, fun k hk => ?_⟩, fun m hm => ?_, fun p hp => ?_⟩
  · show σ.1 28 m = hs_dust w m (sp_n w 6)
    rw [sp_0 z, c4 m]
    exact (z 1).symm
  · rw [P] at hp; exact absurd hp (by omega)
  · rw [N] at hk; exact absurd hk (by omega)
  · rw [sp_0 z] at hm; exact absurd hm (by omega)
  · rw [P] at hp; exact absurd hp (by omega)
/-! which rows a day writes -/
section
variable {σ : sn_S} {q : Nat}
def yf (q : Nat) (σ z : sn_S) : Prop := ∀ a, a < q ∨ q + 10 < a → z.1 a = σ.1 a
theorem yf_w {z : sn_S} {i k : Nat} {v : Int32} (hi : i ≤ 10) (h : yf q σ z) : yf q σ (sn_pI z (q + i) k v) := fun a ha => (pI_ne (by omega)).trans (h a ha)
theorem yf_0 {z : sn_S} {k : Nat} {v : Int32} (h : yf q σ z) : yf q σ (sn_pI z q k v) := fun a ha => (pI_ne (by omega)).trans (h a ha)
theorem yf_nets {x : Int32} : yp (fX0_tickleByNets σ q x) (fun z => yf q σ z) := by
  unfold fX0_tickleByNets
  refine yp_lt (yp_bd (fun z => yf q σ z) (yp_it (fun s : sn_S × Int32 => yf q σ s.1) (fun s hs => ?_) _ _ (fun _ _ => rfl)) (fun z hz => ?_))
  · unfold LX0_tickleByNets_7 BX0_tickleByNets_7
    exact yp_ite (fun _ => yp_some hs) (fun _ => yp_gd (fun _ => yp_lt (yp_lt (yp_some (yf_w (by decide) hs)))))
  · have k46 : ∀ t, yp (BX0_tickleByNets_46 z q ((6 : Int32) * x) t) (fun z => yf q σ z) := fun t => by
      unfold BX0_tickleByNets_46
      refine yp_ite (fun _ => yp_some hz) (fun _ => yp_bd (fun z => yf q σ z) (yp_it (fun s : sn_S × Int32 => yf q σ s.1) (fun s hs => ?_) _ _ hz) (fun u hu => ?_))
      · have k149 : ∀ (u : sn_S) (a b c : Int32), yf q σ u → yp (BX0_tickleByNets_149 u q a b c) (yp_sum (fun s : sn_S × Int32 => yf q σ s.1) (fun z => yf q σ z)) := fun u a b c hu => by
          unfold BX0_tickleByNets_149
          exact yp_lt (yp_some hu)
        have k147 : ∀ (u : sn_S) (a b c d e f : Int32), yf q σ u → yp (BX0_tickleByNets_147 u q a b c d e f) (yp_sum (fun s : sn_S × Int32 => yf q σ s.1) (fun z => yf q σ z)) := fun u a b c d e f hu => by
          unfold BX0_tickleByNets_147
          exact yp_gd (fun _ => yp_lt (k149 _ _ _ _ (yf_w (by decide) hu)))
        have k121 : ∀ (u : sn_S) (a b c d e f g h : Int32), yf q σ u → yp (BX0_tickleByNets_121 u q a b c d e f g h) (yp_sum (fun s : sn_S × Int32 => yf q σ s.1) (fun z => yf q σ z)) := fun u a b c d e f g h hu => by
          unfold BX0_tickleByNets_121
          exact yp_gd (fun _ => yp_lt (yp_gd (fun _ => yp_bd (fun _ => True) (fun _ _ => trivial) (fun t _ => yp_ite (fun _ => k147 _ _ _ _ _ _ _ (yf_w (by decide) hu)) (fun _ => k147 _ _ _ _ _ _ _ (yf_w (by decide) hu))))))
        unfold LX0_tickleByNets_55 BX0_tickleByNets_55
        exact yp_ite (fun _ => yp_some hs) (fun _ => yp_ite (fun _ => k149 _ _ _ _ hs) (fun _ => yp_gd (fun _ => yp_lt (yp_gd (fun _ => yp_lt (yp_gd (fun _ => yp_bd (fun _ => True) (fun _ _ => trivial) (fun t _ => yp_ite (fun _ => k121 _ _ _ _ _ _ _ _ _ hs) (fun _ => k121 _ _ _ _ _ _ _ _ _ hs)))))))))
      · unfold BX0_tickleByNets_155
        exact yp_some hu
    unfold BX0_tickleByNets_30
    exact yp_ite (fun _ => k46 _) (fun _ => yp_gd (fun _ => k46 _))
theorem yf_min {x : Int32} : yp (fX0_liveMinute σ q x) (fun z => yf q σ z) := by
  unfold fX0_liveMinute
  refine yp_lt (yp_bd (fun s : sn_S × Int32 => yf q σ s.1) (yp_it (fun s : sn_S × Int32 × Int32 => yf q σ s.1) (fun s hs => ?_) _ _ (fun _ _ => rfl)) (fun z hz => ?_))
  · have k98 : ∀ (u : sn_S) (a b c d e : Int32), yf q σ u → yp (BX0_liveMinute_98 u q a b c d e) (yp_sum (fun s : sn_S × Int32 × Int32 => yf q σ s.1) (fun s : sn_S × Int32 => yf q σ s.1)) := fun u a b c d e hu => by
      unfold BX0_liveMinute_98
      exact yp_gd (fun _ => yp_lt (yp_lt (yp_some (yf_w (by decide) hu))))
    have k46 : ∀ (a b c d e f : Int32), yp (BX0_liveMinute_46 s.1 q a b c d e f) (yp_sum (fun s : sn_S × Int32 × Int32 => yf q σ s.1) (fun s : sn_S × Int32 => yf q σ s.1)) := fun a b c d e f => by
      unfold BX0_liveMinute_46
      exact yp_lt (yp_gd (fun _ => yp_ite (fun _ => k98 _ _ _ _ _ _ hs) (fun _ => yp_gd (fun _ => yp_bd (fun _ => True) (fun _ _ => trivial) (fun t _ => yp_ite (fun _ => yp_lt (yp_gd (fun _ => yp_gd (fun _ => yp_lt (k98 _ _ _ _ _ _ (yf_w (by decide) hs)))))) (fun _ => k98 _ _ _ _ _ _ hs))))))
    unfold LX0_liveMinute_10 BX0_liveMinute_10
    exact yp_ite (fun _ => yp_some hs) (fun _ => yp_bd (fun _ => True) (fun _ _ => trivial) (fun t _ => yp_ite (fun _ => k46 _ _ _ _ _ _) (fun _ => yp_gd (fun _ => k46 _ _ _ _ _ _))))
  · unfold BX0_liveMinute_115
    exact yp_gd (fun _ => yp_lt (yp_some (yf_w (by decide) hz)))
theorem yf_live {x y : Int32} : yp (fX0_live σ q x y) (fun z => yf q σ z) := by
  unfold fX0_live
  refine yp_bd (fun z => yf q σ z) (yp_it (fun s : sn_S × Int32 => yf q σ s.1) (fun s hs => ?_) _ _ (fun _ _ => rfl)) (fun z hz => ?_)
  · unfold LX0_live_2 BX0_live_2
    exact yp_ite (fun _ => yp_some hs) (fun _ => yp_gd (fun _ => yp_bd (fun _ => True) (fun _ _ => trivial) (fun t _ => yp_gd (fun _ => yp_lt (yp_lt (yp_some (yf_w (by decide) hs)))))))
  · unfold BX0_live_29
    refine yp_bd (fun z => yf q σ z) (yp_it (fun s : sn_S × Int32 => yf q σ s.1) (fun s hs => ?_) _ _ hz) (fun u hu => ?_)
    · unfold LX0_live_31 BX0_live_31
      refine yp_ite (fun _ => yp_some hs) (fun _ => yp_ite (fun _ => yp_some hs) (fun _ => yp_bd _ yf_nets (fun v hv => yp_bd _ yf_min (fun w hw => yp_lt (yp_some ?_)))))
      exact fun a ha => (hw a ha).trans ((hv a ha).trans (hs a ha))
    · unfold BX0_live_60
      exact yp_some hu
theorem yf_whole : yp (fX0_liveWhole σ q) (fun z => yf q σ z) := by
  unfold fX0_liveWhole
  exact yp_bd _ yf_live (fun z hz => yp_some hz)
theorem yf_tell : yp (fX0_tellFrom σ q 1) (fun z => yf q σ z) := by
  unfold fX0_tellFrom
  refine yp_gd (fun _ => yp_lt (yp_gd (fun _ => yp_lt (yp_gd (fun _ => yp_lt (yp_lt (yp_gd (fun _ => yp_lt ?_))))))))
  refine yp_bd (fun z => yf q σ z) (yp_it (fun s : sn_S × Int32 => yf q σ s.1) (fun s hs => ?_) _ _ (fun a ha => ?_)) (fun z hz => ?_)
  · unfold LX0_tellFrom_56 BX0_tellFrom_56
    exact yp_ite (fun _ => yp_some hs) (fun _ => yp_gd (fun _ => yp_gd (fun _ => yp_lt (yp_gd (fun _ => yp_gd (fun _ => yp_lt (yp_bd (fun _ => True) (fun _ _ => trivial) (fun t _ => yp_gd (fun _ => yp_lt (yp_bd (fun _ => True) (fun _ _ => trivial) (fun t2 _ => yp_gd (fun _ => yp_lt (yp_lt (yp_some (yf_w (by decide) (yf_w (by decide) (yf_w (by decide) (yf_w (by decide) hs))))))))))))))))))
  · exact ((yc_cpy (L := 16) (by decide)).1 a (by omega)).trans (yf_0 (yf_0 (yf_0 (yf_0 (fun _ _ => rfl)))) a ha)
  · unfold BX0_tellFrom_124
    refine yp_gd (fun _ => yp_bd _ (yc_fill _ _ _ _ (by decide)) (fun u hu => ?_))
    refine yp_bd (fun z => yf q σ z) (yp_it (fun s : sn_S × Int32 => yf q σ s.1) (fun s hs => ?_) _ _ (fun a ha => (hu.1 a (by omega)).trans (hz a ha))) (fun v hv => ?_)
    · unfold LX0_tellFrom_139 BX0_tellFrom_139
      exact yp_gd (fun _ => yp_ite (fun _ => yp_some hs) (fun _ => yp_gd (fun _ => yp_gd (fun _ => yp_gd (fun _ => yp_gd (fun _ => yp_lt (yp_lt (yp_some (yf_w (by decide) hs)))))))))
    · unfold BX0_tellFrom_182
      exact yp_some hv
theorem yf_anew : yp (fX8_liveAnew σ) (fun z => yf 27 σ z) := by
  unfold fX8_liveAnew
  exact yp_bd _ yf_tell (fun z hz => yp_bd _ yf_whole (fun u hu => yp_some (fun a ha => (hu a ha).trans (hz a ha))))
end
/-! calls that leave houses and day as they are -/
section
variable {σ τ : sn_S}
theorem yk_feed {a b c d e : Int32} : yp (fX8_feed σ a b c d e) (fun r => ∀ q, q ≠ 17 → q ≠ 18 → r.2.1 q = σ.1 q) := by
  have put : ∀ (u : sn_S) (x : Int32), yp (fX5_put u x) (fun z => ∀ q, q ≠ 17 → q ≠ 18 → z.1 q = u.1 q) := fun u x => by
    unfold fX5_put
    refine yp_bd (fun z : sn_S => ∀ q, q ≠ 17 → q ≠ 18 → z.1 q = u.1 q) (yp_it (fun s : sn_S × Int32 => ∀ q, q ≠ 17 → q ≠ 18 → s.1.1 q = u.1 q) (fun s hs => ?_) _ _ (fun _ _ _ => rfl)) (fun z hz => ?_)
    · unfold LX5_put_3 BX5_put_3
      exact yp_ite (fun _ => yp_some hs) (fun _ => yp_ite (fun _ => yp_some hs) (fun _ => yp_gd (fun _ => yp_lt (yp_lt (yp_lt (yp_some (fun q h1 h2 => (pI_ne h1).trans ((pI_ne h2).trans (hs q h1 h2)))))))))
    · unfold BX5_put_49
      exact yp_some hz
  unfold fX8_feed
  refine yp_ite (fun _ => ?_) (fun _ => yp_some (fun _ _ _ => rfl))
  refine yp_bd _ (put _ _) (fun z1 h1 => yp_bd _ (put _ _) (fun z2 h2 => yp_bd _ (put _ _) (fun z3 h3 => yp_bd _ (put _ _) (fun z4 h4 => yp_bd _ (put _ _) (fun z5 h5 => yp_some (fun q a b => ?_))))))
  rw [show z5.1 q = z4.1 q from h5 q a b, h4 q a b, h3 q a b, h2 q a b, h1 q a b]
theorem yk_mfeed {a b c d e : Int32} : yp (fX9_feed τ a b c d e) (fun r => ∀ q, q ≠ 0 → q ≠ 4 → q ≠ 5 → r.2.1 q = τ.1 q) := by
  unfold fX9_feed
  refine yp_ite (fun _ => ?_) (fun _ => yp_some (fun _ _ _ _ => rfl))
  refine yp_gd (fun _ => yp_lt (yp_gd (fun _ => yp_lt (yp_gd (fun _ => yp_lt (yp_gd (fun _ => yp_lt (yp_gd (fun _ => yp_lt ?_)))))))))
  refine yp_bd (fun z : sn_S => ∀ q, q ≠ 0 → q ≠ 4 → q ≠ 5 → z.1 q = τ.1 q) (yp_it (fun s : sn_S × Int32 => ∀ q, q ≠ 0 → q ≠ 4 → q ≠ 5 → s.1.1 q = τ.1 q) (fun s hs => ?_) _ _ (fun q h0 h4 h5 => ?_)) (fun z hz => ?_)
  · unfold LX9_feed_55 BX9_feed_55
    exact yp_ite (fun _ => yp_some hs) (fun _ => yp_gd (fun _ => yp_gd (fun _ => yp_lt (yp_lt (yp_some (fun q h0 h4 h5 => (pI_ne h4).trans (hs q h0 h4 h5)))))))
  · exact (pI_ne h5).trans ((pI_ne h5).trans ((pI_ne h5).trans ((pI_ne h5).trans (pI_ne h5))))
  · unfold BX9_feed_101
    exact yp_lt (yp_some (fun q h0 h4 h5 => (pI_ne h0).trans (hz q h0 h4 h5)))
theorem yk_end {a : Int32} : yp (fX8_end σ a) (fun r => ∀ q, q ≠ 17 → r.2.1 q = σ.1 q) := by
  unfold fX8_end
  exact yp_ite (fun _ => yp_some (fun _ _ => rfl)) (fun _ => yp_ite (fun _ => yp_lt (yp_some (fun q h => pI_ne h))) (fun _ => yp_some (fun _ _ => rfl)))
theorem yk_mend {a : Int32} : yp (fX9_end τ a) (fun r => ∀ q, q ≠ 0 → r.2.1 q = τ.1 q) := by
  unfold fX9_end
  exact yp_bd (fun _ => True) (fun _ _ => trivial) (fun t _ => yp_ite (fun _ => yp_some (fun _ _ => rfl)) (fun _ => yp_lt (yp_some (fun q h => pI_ne h))))
theorem yk_row {a b c : Int32} : yp (fX8_row σ a b c) (fun r => ∀ q, q ≠ 25 → q ≠ 26 → r.2.1 q = σ.1 q) := by
  unfold fX8_row fX6_make
  refine yp_bd (fun _ => True) (fun _ _ => trivial) (fun t _ => yp_ite (fun _ => yp_some (fun _ _ _ => rfl)) (fun _ => yp_ite (fun _ => yp_some (fun _ _ _ => rfl)) (fun _ => yp_ite (fun _ => yp_some (fun _ _ _ => rfl)) (fun _ => yp_ite (fun _ => yp_ite (fun _ => ?_) (fun _ => yp_some (fun _ _ _ => rfl))) (fun _ => yp_some (fun _ _ _ => rfl))))))
  refine yp_bd (fun z : sn_S => ∀ q, q ≠ 25 → q ≠ 26 → z.1 q = σ.1 q) (yp_gd (fun _ => yp_lt (yp_gd (fun _ => yp_lt (yp_gd (fun _ => ?_)))))) (fun z hz => yp_some hz)
  rw [fillL _ _ _ _ (by decide)]
  exact yp_bs rfl (yp_some (fun q h1 h2 => (pI_ne h2).trans (pI_ne h1)))
theorem yk_mrow {a b c : Int32} : yp (fX9_row τ a b c) (fun r => ∀ q, q ≠ 21 → q ≠ 22 → r.2.1 q = τ.1 q) := by
  unfold fX9_row
  refine yp_bd (fun _ => True) (fun _ _ => trivial) (fun t _ => yp_ite (fun _ => yp_some (fun _ _ _ => rfl)) (fun _ => yp_bd (fun _ => True) (fun _ _ => trivial) (fun t2 _ => yp_ite (fun _ => yp_some (fun _ _ _ => rfl)) (fun _ => yp_ite (fun _ => yp_ite (fun _ => ?_) (fun _ => yp_some (fun _ _ _ => rfl))) (fun _ => yp_some (fun _ _ _ => rfl))))))
  refine yp_gd (fun _ => yp_lt (yp_gd (fun _ => yp_lt ?_)))
  refine yp_bd (fun z : sn_S => ∀ q, q ≠ 21 → q ≠ 22 → z.1 q = τ.1 q) (yp_it (fun s : sn_S × Int32 => ∀ q, q ≠ 21 → q ≠ 22 → s.1.1 q = τ.1 q) (fun s hs => ?_) _ _ (fun q h1 h2 => (pI_ne h2).trans (pI_ne h1))) (fun z hz => ?_)
  · unfold LX9_row_52 BX9_row_52
    exact yp_ite (fun _ => yp_some hs) (fun _ => yp_gd (fun _ => yp_lt (yp_lt (yp_some hs))))
  · unfold BX9_row_78
    exact yp_some hz
theorem yk_write {a b : Int32} {c : Int64} : yp (fX8_write σ a b c) (fun r => r.2.1 = σ.1) := by
  unfold fX8_write fX6_put
  refine yp_bd (fun _ => True) (fun _ _ => trivial) (fun t _ => yp_ite (fun _ => yp_some rfl) (fun _ => yp_bd (fun _ => True) (fun _ _ => trivial) (fun t2 _ => yp_ite (fun _ => yp_some rfl) (fun _ => yp_ite (fun _ => yp_some rfl) (fun _ => yp_gd (fun _ => yp_ite (fun _ => ?_) (fun _ => yp_some rfl)))))))
  refine yp_bd (fun z : sn_S => z.1 = σ.1) (yp_gd (fun _ => yp_ite (fun _ => yp_gd (fun _ => yp_gd (fun _ => yp_lt (yp_some rfl)))) (fun _ => yp_ite (fun _ => yp_gd (fun _ => yp_gd (fun _ => yp_lt (yp_some rfl)))) (fun _ => yp_ite (fun _ => yp_gd (fun _ => yp_gd (fun _ => yp_lt (yp_some rfl)))) (fun _ => yp_gd (fun _ => yp_gd (fun _ => yp_lt (yp_some rfl)))))))) (fun z hz => yp_some hz)
theorem yk_mwrite {a b : Int32} {c : Int64} : yp (fX9_write τ a b c) (fun r => r.2.1 = τ.1) := by
  unfold fX9_write
  exact yp_bd (fun _ => True) (fun _ _ => trivial) (fun t _ => yp_ite (fun _ => yp_some rfl) (fun _ => yp_gd (fun _ => yp_ite (fun _ => yp_some rfl) (fun _ => yp_gd (fun _ => yp_bd (fun _ => True) (fun _ _ => trivial) (fun t2 _ => yp_ite (fun _ => yp_some rfl) (fun _ => yp_gd (fun _ => yp_bd (fun _ => True) (fun _ _ => trivial) (fun t3 _ => yp_gd (fun _ => yp_lt (yp_some rfl)))))))))))
theorem yk_paste {a b c d e : Int32} : yp (fX8_paste σ a b c d e) (fun r => r.2.1 = σ.1) := by
  unfold fX8_paste
  refine yp_bd (fun _ => True) (fun _ _ => trivial) (fun t _ => yp_ite (fun _ => yp_some rfl) (fun _ => yp_bd (fun _ => True) (fun _ _ => trivial) (fun t _ => yp_ite (fun _ => yp_some rfl) (fun _ => yp_bd (fun _ => True) (fun _ _ => trivial) (fun t _ => yp_ite (fun _ => yp_some rfl) (fun _ => yp_bd (fun _ => True) (fun _ _ => trivial) (fun t _ => yp_ite (fun _ => yp_some rfl) (fun _ => ?_))))))))
  refine yp_gd (fun _ => yp_gd (fun _ => yp_ite (fun _ => yp_bd (fun _ => True) (fun _ _ => trivial) (fun t _ => yp_ite (fun _ => yp_some rfl) (fun _ => yp_bd (fun _ => True) (fun _ _ => trivial) (fun t _ => yp_ite (fun _ => yp_some rfl) (fun _ => ?_))))) (fun _ => yp_some rfl)))
  exact yp_gd (fun _ => yp_gd (fun _ => yp_gd (fun _ => yp_lt (yp_some rfl))))
theorem yk_mpaste {a b c d e : Int32} : yp (fX9_paste τ a b c d e) (fun r => r.2.1 = τ.1) := by
  unfold fX9_paste
  refine yp_bd (fun _ => True) (fun _ _ => trivial) (fun t _ => yp_ite (fun _ => yp_some rfl) (fun _ => yp_bd (fun _ => True) (fun _ _ => trivial) (fun t _ => yp_ite (fun _ => yp_some rfl) (fun _ => yp_gd (fun _ => yp_ite (fun _ => yp_some rfl) (fun _ => yp_gd (fun _ => yp_ite (fun _ => yp_some rfl) (fun _ => ?_))))))))
  refine yp_gd (fun _ => yp_gd (fun _ => yp_ite (fun _ => yp_ite (fun _ => yp_some rfl) (fun _ => yp_ite (fun _ => yp_some rfl) (fun _ => yp_ite (fun _ => yp_some rfl) (fun _ => yp_gd (fun _ => yp_ite (fun _ => yp_some rfl) (fun _ => yp_gd (fun _ => yp_ite (fun _ => ?_) (fun _ => yp_some rfl)))))))) (fun _ => yp_some rfl)))
  refine yp_bd (fun z : sn_S => z.1 = τ.1) (yp_it (fun s : sn_S × Int32 => s.1.1 = τ.1) (fun s hs => ?_) _ _ rfl) (fun z hz => ?_)
  · unfold LX9_paste_113 BX9_paste_113
    exact yp_ite (fun _ => yp_some hs) (fun _ => yp_gd (fun _ => yp_gd (fun _ => yp_lt (yp_lt (yp_some hs)))))
  · unfold BX9_paste_147
    refine yp_bd (fun z : sn_S => z.1 = τ.1) (yp_it (fun s : sn_S × Int32 => s.1.1 = τ.1) (fun s hs => ?_) _ _ hz) (fun u hu => ?_)
    · unfold LX9_paste_150 BX9_paste_150
      exact yp_ite (fun _ => yp_some hs) (fun _ => yp_gd (fun _ => yp_gd (fun _ => yp_lt (yp_lt (yp_some hs)))))
    · unfold BX9_paste_185
      exact yp_some hu
end
theorem zK_0 : ∀ (σ τ : sn_S) (a b c d e : Int32), zK σ τ → ∃ r σ1 τ1, fX8_feed σ a b c d e = some (r, σ1) ∧ fX9_feed τ a b c d e = some (r, τ1) ∧ zK σ1 τ1 := by
  intro σ τ a b c d e h
  obtain ⟨r, σ1, τ1, e1, e2, hJ⟩ := zJ_0 σ τ a b c d e h.1
  have f := yk_feed _ e1
  have g := yk_mfeed _ e2
  exact ⟨r, σ1, τ1, e1, e2, zK_c hJ (fun q hq => f q (by omega) (by omega)) (g 1 (by decide) (by decide) (by decide)) (g 2 (by decide) (by decide) (by decide)) h⟩
theorem zK_1 : ∀ (σ τ : sn_S) (a : Int32), zK σ τ → ∃ r σ1 τ1, fX8_end σ a = some (r, σ1) ∧ fX9_end τ a = some (r, τ1) ∧ zK σ1 τ1 := by
  intro σ τ a h
  obtain ⟨r, σ1, τ1, e1, e2, hJ⟩ := zJ_1 σ τ a h.1
  have f := yk_end _ e1
  have g := yk_mend _ e2
  exact ⟨r, σ1, τ1, e1, e2, zK_c hJ (fun q hq => f q (by omega)) (g 1 (by decide)) (g 2 (by decide)) h⟩
theorem zK_69 : ∀ (σ τ : sn_S) (a b c : Int32), zK σ τ → ∃ r σ1 τ1, fX8_row σ a b c = some (r, σ1) ∧ fX9_row τ a b c = some (r, τ1) ∧ zK σ1 τ1 := by
  intro σ τ a b c h
  obtain ⟨r, σ1, τ1, e1, e2, hJ⟩ := zJ_69 σ τ a b c h.1
  have f := yk_row _ e1
  have g := yk_mrow _ e2
  exact ⟨r, σ1, τ1, e1, e2, zK_c hJ (fun q hq => f q (by omega) (by omega)) (g 1 (by decide) (by decide)) (g 2 (by decide) (by decide)) h⟩
theorem zK_70 : ∀ (σ τ : sn_S) (a b : Int32) (c : Int64), zK σ τ → ∃ r σ1 τ1, fX8_write σ a b c = some (r, σ1) ∧ fX9_write τ a b c = some (r, τ1) ∧ zK σ1 τ1 := by
  intro σ τ a b c h
  obtain ⟨r, σ1, τ1, e1, e2, hJ⟩ := zJ_70 σ τ a b c h.1
  have f : σ1.1 = σ.1 := yk_write _ e1
  have g : τ1.1 = τ.1 := yk_mwrite _ e2
  exact ⟨r, σ1, τ1, e1, e2, zK_c hJ (fun q hq => by rw [f]) (by rw [g]) (by rw [g]) h⟩
theorem zK_71 : ∀ (σ τ : sn_S) (a b c d e : Int32), zK σ τ → ∃ r σ1 τ1, fX8_paste σ a b c d e = some (r, σ1) ∧ fX9_paste τ a b c d e = some (r, τ1) ∧ zK σ1 τ1 := by
  intro σ τ a b c d e h
  obtain ⟨r, σ1, τ1, e1, e2, hJ⟩ := zJ_71 σ τ a b c d e h.1
  have f : σ1.1 = σ.1 := yk_paste _ e1
  have g : τ1.1 = τ.1 := yk_mpaste _ e2
  exact ⟨r, σ1, τ1, e1, e2, zK_c hJ (fun q hq => by rw [f]) (by rw [g]) (by rw [g]) h⟩
