/-! new long[4][60] over a world that grows -/
def sn_rw4 (σ : sn_S) (n : Nat) : sn_S := sn_pR (sn_pR (sn_pR (sn_pR σ n 0 (some (n + 1))) n 1 (some (n + 2))) n 2 (some (n + 3))) n 3 (some (n + 4))
theorem sn_zr_rw {σ : sn_S} {a q : Nat} (hn : a ≠ q) (h : sn_zr σ a) : sn_zr (sn_rw4 σ q) a := sn_zr_pR hn (sn_zr_pR hn (sn_zr_pR hn (sn_zr_pR hn h)))
theorem sn_W_agB {ct : Nat → ClassId} {ad : Nat → Nat} {σ τ : sn_S} (lay : List sn_E) : ∀ k, (∀ a, k ≤ a → a < k + lay.length → sn_ag σ τ a) → sn_W ct ad σ k lay = sn_W ct ad τ k lay := by
  induction lay with
  | nil => intro k _; rfl
  | cons x r ih =>
    intro k h
    show (ad k, sn_ev ct ad σ k x) :: _ = (ad k, sn_ev ct ad τ k x) :: _
    rw [ih (k + 1) (fun a ha hb => h a (by omega) (by simp; omega)), sn_ev_ag (h k (Nat.le_refl k) (by simp))]
theorem sn_rw4_ag {σ : sn_S} {n a : Nat} (h : a ≠ n) : sn_ag σ (sn_rw4 σ n) a := by
  refine ⟨rfl, rfl, funext fun b => ?_⟩
  simp [sn_rw4, sn_pR, h]
theorem sn_outer (c : ClassId) (N h0 : Nat) : ∀ i : Nat, Jvm.Free.Multi.outerC c N h0 i = arrV c N (fun j => va_rf (if j < i then some (h0 + 1 + j) else none))
  | 0 => by
    show ({ cls := c, slots := Array.replicate N .null, vm := .none } : Cell) = _
    rw [arrV_new]
    refine congrArg (arrV c N) (funext fun j => ?_)
    simp [va_rf]
  | i + 1 => by
    show (Jvm.Free.Multi.outerC c N h0 i).setSlot i (.ref (h0 + 1 + i)) = _
    rw [sn_outer c N h0 i, arrV_store]
    refine congrArg (arrV c N) (funext fun j => ?_)
    by_cases e : j = i
    · subst e
      simp [updV, va_rf]
    · by_cases h : j < i
      · simp [updV, e, h, Nat.lt_succ_of_lt h]
      · simp [updV, e, h, show ¬ j < i + 1 by omega]
section AL3
variable {p : Program} {l : Launch} {e : Env} {R : Room} {s : State} {m : MethodId} {args : Array Value} {below : List Frame} {meth : Method} {c : Code} {H : Heap} {locs : List Loc} {cells slots : Nat} {Q : State → Prop}
variable {cc : ByteArray} {pc nL N0 : Nat} {ls : Array Slot} {rest : List Value} {own : String} {ret : Option FieldType} {D : va_G} {ct : Nat → ClassId} {ad : Nat → Nat} {lay : List sn_E} {A : Nat → Prop} {σ : sn_S}
theorem sn_newaa {index N' K' : Nat} {n k : Int32} {lay3 : List sn_E} {nn : Nat} (C : sn_C p s m args meth c own cc nL ret D ct ad lay A) (hE : sn_E0 ad A N0) (h : sn_H s D ct ad lay A σ H locs) (hnn : lay.length = nn) (hl3 : lay ++ [.inl (5, 4, 3, []), .inl (3, 60, 1, []), .inl (3, 60, 1, []), .inl (3, 60, 1, []), .inl (3, 60, 1, [])] = lay3) (hl : 0 < nn ∧ nn < 195) (hs : s.heap.size + cells = N0 + nn)
    (w1 : Cond.classLink own index "[[J" ∈ sn_gw) (hO : (Cond.arrayOver (.array .long)).before #[] s = true) (w2 : Cond.arrayClass .long ∈ sn_gw) (hz : ∀ j, j < 5 → sn_zr σ (nn + j)) (hn : n = 4) (hk : k = 60) (hN : N' = 4) (hK' : K' = 60) (hce : cells + 5 ≤ R.cells) (hsl : slots + 244 ≤ R.slots) (hd : decode cc pc = .ok (.multianewarray index 2, 4))
    (kk : ∀ (H : Heap), sn_C p s m args meth c own cc nL ret D ct ad lay3 A → sn_H s D ct ad lay3 A (sn_rw4 σ nn) H locs → W p l e R s m args below meth c H locs (cells + 5) (slots + 244) Q (F0 m (pc + 4) ls (.ref (ad nn) :: rest))) :
    W p l e R s m args below meth c H locs cells slots Q (F0 m pc ls (.int k :: .int n :: rest)) := by
  subst hnn
  subst hl3
  subst hn
  subst hk
  refine sn_heap hE hl.1 (by omega) hs h (fun hze => ?_)
  have C2 := sn_C_lay (lay2 := lay ++ [.inl (5, 4, 3, []), .inl (3, 60, 1, []), .inl (3, 60, 1, []), .inl (3, 60, 1, []), .inl (3, 60, 1, [])]) C hE (by have := hl.2; simp; omega)
  obtain ⟨hx, hb, hml, hown, hts, hr, hlk, hK, hD, hG⟩ := C
  intro T hT Xs
  obtain ⟨vm₁, cA, comp, -, fA, fC, -, -, X', step⟩ := Xs.multianewarray2F (ty := .long) (n := 4) (k := 60) hx hown (hts _ w1) hO (hts _ w2) (g := F0 m pc ls (.int 60 :: .int 4 :: rest)) rfl (by rw [hb]; exact hd) rfl (by decide) (by decide) (by decide) (by decide) (by decide) rfl rfl hce hsl
  have eA : cA = ct 5 := Option.some.inj (fA.symm.trans (hK.2 5 _ rfl).2)
  have eJ : comp = ct 3 := Option.some.inj (fC.symm.trans (hK.2 3 _ rfl).2)
  subst eA
  subst eJ
  generalize hF : Jvm.Free.Multi.fill (T.setVm vm₁) (ct 5) (ct 3) (4 : Int32).toNatClampNeg (60 : Int32).toNatClampNeg (defaultValue .long) (4 : Int32).toNatClampNeg = F at X' step
  have hTh : (T.setVm vm₁).heap = H := hT
  obtain ⟨f1, f2, -, -⟩ := Jvm.Free.Multi.fill_facts (T.setVm vm₁) (ct 5) (ct 3) (4 : Int32).toNatClampNeg (60 : Int32).toNatClampNeg (defaultValue .long) (4 : Int32).toNatClampNeg
  rw [hF, hTh] at f1 f2
  have hold : ∀ x : Nat, x < H.size → F.heap[x]? = H[x]? := fun x hx1 => by
    have := Jvm.Free.Multi.fill_old (T.setVm vm₁) (ct 5) (ct 3) (4 : Int32).toNatClampNeg (60 : Int32).toNatClampNeg (defaultValue .long) (a := x) (by rw [hTh]; exact hx1) (4 : Int32).toNatClampNeg
    rw [hF, hTh] at this
    exact this
  have hrow : ∀ j : Nat, j < 4 → F.heap[H.size + 1 + j]? = some (Jvm.Free.Multi.innerC (ct 3) 60 (.long 0)) := fun j hj => by
    have := Jvm.Free.Multi.fill_inner (T.setVm vm₁) (ct 5) (ct 3) (4 : Int32).toNatClampNeg (60 : Int32).toNatClampNeg (defaultValue .long) (4 : Int32).toNatClampNeg j hj
    rw [hF, hTh] at this
    exact this
  have f2' : F.heap[H.size]? = some (arrV (ct 5) 4 (fun j => va_rf (if j < 4 then some (H.size + 1 + j) else none))) := by
    rw [f2]
    exact congrArg some (sn_outer (ct 5) 4 H.size 4)
  have f1' : F.heap.size = H.size + 1 + 4 := f1
  have hw : sn_H s D ct ad (lay ++ [.inl (5, 4, 3, []), .inl (3, 60, 1, []), .inl (3, 60, 1, []), .inl (3, 60, 1, []), .inl (3, 60, 1, [])]) A (sn_rw4 σ lay.length) F.heap locs := by
    refine ⟨?_, Nat.le_trans h.2.1 (by omega), fun q h1 h2 => ?_, h.2.2.2⟩
    · rw [sn_W_app, ← sn_W_agB lay 0 (fun a _ hb2 => sn_rw4_ag (by omega))]
      refine (h.1.kept (fun k q hq => hold _ ((h.1 k q hq).lt))).app (fun k q hq => ?_)
      have e0 : ∀ j, j < 5 → ad (lay.length + j) = H.size + j := fun j hj => by rw [hE.1 _ (by omega), hze]; omega
      have inner : ∀ j, j < 4 → F.heap[ad (lay.length + (1 + j))]? = some (vp_cell (ct 3) (60, .inr (.inl (sn_L (sn_rw4 σ lay.length) (lay.length + (1 + j)))))) := fun j hj => by
        rw [e0 _ (by omega), show H.size + (1 + j) = H.size + 1 + j by omega, hrow j hj]
        show some ({ cls := ct 3, slots := Array.replicate 60 (.long 0), vm := .none } : Cell) = some (arrV (ct 3) 60 (fun b => .long (σ.2.1 (lay.length + (1 + j)) b)))
        rw [(hz (1 + j) (by omega)).2.1, arrV_new]
      match k, hq with
      | 0, hq =>
        cases hq
        show F.heap[ad (0 + lay.length)]? = some (arrV (ct 5) 4 (fun j => va_rf ((sn_R (sn_rw4 σ lay.length) (0 + lay.length) j).map ad)))
        have e00 : ad lay.length = H.size := by have := e0 0 (by decide); simpa using this
        rw [Nat.zero_add, e00, f2']
        refine congrArg (fun z => some (arrV (ct 5) 4 z)) (funext fun j => congrArg va_rf ?_)
        have hn2 : σ.2.2 lay.length j = none := by have := (hz 0 (by decide)).2.2; rw [Nat.add_zero] at this; rw [this]
        match j with
        | 0 => simp [sn_R, sn_rw4, sn_pR]; exact (e0 1 (by decide)).symm
        | 1 => simp [sn_R, sn_rw4, sn_pR]; exact (e0 2 (by decide)).symm
        | 2 => simp [sn_R, sn_rw4, sn_pR]; exact (e0 3 (by decide)).symm
        | 3 => simp [sn_R, sn_rw4, sn_pR]; exact (e0 4 (by decide)).symm
        | j + 4 => simp [sn_R, sn_rw4, sn_pR, hn2]
      | 1, hq => cases hq; have := inner 0 (by decide); rw [show 0 + lay.length + 1 = lay.length + (1 + 0) by omega]; exact this
      | 2, hq => cases hq; have := inner 1 (by decide); rw [show 0 + lay.length + 1 + 1 = lay.length + (1 + 1) by omega]; exact this
      | 3, hq => cases hq; have := inner 2 (by decide); rw [show 0 + lay.length + 1 + 1 + 1 = lay.length + (1 + 2) by omega]; exact this
      | 4, hq => cases hq; have := inner 3 (by decide); rw [show 0 + lay.length + 1 + 1 + 1 + 1 = lay.length + (1 + 3) by omega]; exact this
      | k + 5, hq => simp [sn_W] at hq
    · rw [hold q (Nat.lt_of_lt_of_le h1 h.2.1)]
      exact h.2.2.1 q h1 h2
  obtain ⟨t, a1, b1⟩ := kk F.heap C2 hw F rfl X'
  have ea : ad lay.length = T.heap.size := by rw [hT, hE.1 _ (by omega), hze]
  refine ⟨t, step t ?_, b1⟩
  rw [ea] at a1
  exact a1
end AL3
