/-! links of calls, by words -/
theorem sn_cg {w : Cond} (h : w ∈ sn_gw) : ∀ x ∈ w :: sn_gw, x ∈ sn_gw := fun x hx => (List.mem_cons.mp hx).elim (fun e => e ▸ h) id
theorem sn_lv5 {own C : String} {idx : Nat} {y : MethodName} {w : Cond} (h1 : Cond.methodLink own idx y ∈ sn_gw) (h2 : Cond.instanceMethod y ∈ sn_gw) (h3 : Cond.selects C y y ∈ sn_gw) (h4 : Cond.initialized C ∈ sn_gw) (h5 : w ∈ sn_gw) : ∀ x ∈ wsV own idx C y (w :: sn_gw), x ∈ sn_gw := by
  intro x hx
  rcases List.mem_append.mp hx with hx | hx
  · simp only [List.mem_cons, List.not_mem_nil, or_false] at hx
    rcases hx with rfl | rfl | rfl | rfl <;> assumption
  · exact sn_cg h5 x hx
theorem sn_ls4 {own : String} {idx : Nat} {y : MethodName} {w : Cond} (h1 : Cond.methodLink own idx y ∈ sn_gw) (h2 : Cond.static y ∈ sn_gw) (h4 : Cond.initialized y.cls ∈ sn_gw) (h5 : w ∈ sn_gw) : ∀ x ∈ va_wsS own idx y (w :: sn_gw), x ∈ sn_gw := by
  intro x hx
  rcases List.mem_append.mp hx with hx | hx
  · simp only [List.mem_cons, List.not_mem_nil, or_false] at hx
    rcases hx with rfl | rfl | rfl <;> assumption
  · exact sn_cg h5 x hx
theorem sn_look {lay t : List sn_E} {q n k : Nat} {x : sn_E} (h : (lay.drop q).take n = t) (hk : t[k]? = some x) : lay[q + k]? = some x := by
  rw [← h, List.getElem?_take] at hk
  split at hk
  · rw [List.getElem?_drop] at hk
    exact hk
  · cases hk
section RW2
variable {p : Program} {l : Launch} {e : Env} {R : Room} {s : State} {m : MethodId} {args : Array Value} {below : List Frame} {meth : Method} {c : Code} {H : Heap} {locs : List Loc} {Q : State → Prop}
variable {cc : ByteArray} {pc nL : Nat} {ls : Array Slot} {own : String} {ret : Option FieldType} {D : va_G} {ct : Nat → ClassId} {ad : Nat → Nat} {lay : List sn_E} {σ : sn_S}
theorem sn_callVi {index mL n q ci : Nat} {fs : List Nat} {kT : u_T} {kN : Nat} {y : MethodName} {cy : ByteArray} {ry : Option FieldType} {rm : Room} {As : (Nat → Nat) → List Value} {τ : sn_S} {st0 : List Value} {x : Int32} (rest : List Value)
    (C : sn_C p s m args meth c own cc nL ret D ct ad lay) (h : sn_H s D ct ad lay σ H locs) (hM : sn_M l y cy mL ry rm lay (fun ad => .ref (ad q) :: As ad) σ (some (fun _ => .int x)) τ) (L : sn_LV own index y cy mL ry n) (hq : lay[q]? = some (.inr (ci, fs))) (hc : vwCl[ci]? = some (y.cls, kT, kN)) (hR : sn_fit rm R mL = true) (hn : (As ad).length = n)
    (hst : st0 = (As ad).reverse ++ .ref (ad q) :: rest) (hsum : sn_sum rest ≤ 8) (hd : decode cc pc = .ok (.invokevirtual index, 3)) (hls : ls.size = nL)
    (kk : ∀ (H : Heap) (locs : List Loc), sn_H s D ct ad lay τ H locs → W p l e R s m args below meth c H locs 0 0 Q (F0 m (pc + 3) ls (.int x :: rest))) : W p l e R s m args below meth c H locs 0 0 Q (F0 m pc ls st0) :=
  sn_callV C h hM L hq hc hR hn hst hsum hd hls kk
theorem sn_callVl {index mL n q ci : Nat} {fs : List Nat} {kT : u_T} {kN : Nat} {y : MethodName} {cy : ByteArray} {ry : Option FieldType} {rm : Room} {As : (Nat → Nat) → List Value} {τ : sn_S} {st0 : List Value} {x : Int64} (rest : List Value)
    (C : sn_C p s m args meth c own cc nL ret D ct ad lay) (h : sn_H s D ct ad lay σ H locs) (hM : sn_M l y cy mL ry rm lay (fun ad => .ref (ad q) :: As ad) σ (some (fun _ => .long x)) τ) (L : sn_LV own index y cy mL ry n) (hq : lay[q]? = some (.inr (ci, fs))) (hc : vwCl[ci]? = some (y.cls, kT, kN)) (hR : sn_fit rm R mL = true) (hn : (As ad).length = n)
    (hst : st0 = (As ad).reverse ++ .ref (ad q) :: rest) (hsum : sn_sum rest ≤ 8) (hd : decode cc pc = .ok (.invokevirtual index, 3)) (hls : ls.size = nL)
    (kk : ∀ (H : Heap) (locs : List Loc), sn_H s D ct ad lay τ H locs → W p l e R s m args below meth c H locs 0 0 Q (F0 m (pc + 3) ls (.long x :: rest))) : W p l e R s m args below meth c H locs 0 0 Q (F0 m pc ls st0) :=
  sn_callV C h hM L hq hc hR hn hst hsum hd hls kk
theorem sn_callVv {index mL n q ci : Nat} {fs : List Nat} {kT : u_T} {kN : Nat} {y : MethodName} {cy : ByteArray} {ry : Option FieldType} {rm : Room} {As : (Nat → Nat) → List Value} {τ : sn_S} {st0 : List Value}  (rest : List Value)
    (C : sn_C p s m args meth c own cc nL ret D ct ad lay) (h : sn_H s D ct ad lay σ H locs) (hM : sn_M l y cy mL ry rm lay (fun ad => .ref (ad q) :: As ad) σ none τ) (L : sn_LV own index y cy mL ry n) (hq : lay[q]? = some (.inr (ci, fs))) (hc : vwCl[ci]? = some (y.cls, kT, kN)) (hR : sn_fit rm R mL = true) (hn : (As ad).length = n)
    (hst : st0 = (As ad).reverse ++ .ref (ad q) :: rest) (hsum : sn_sum rest ≤ 8) (hd : decode cc pc = .ok (.invokevirtual index, 3)) (hls : ls.size = nL)
    (kk : ∀ (H : Heap) (locs : List Loc), sn_H s D ct ad lay τ H locs → W p l e R s m args below meth c H locs 0 0 Q (F0 m (pc + 3) ls (rest))) : W p l e R s m args below meth c H locs 0 0 Q (F0 m pc ls st0) :=
  sn_callV C h hM L hq hc hR hn hst hsum hd hls kk
theorem sn_callVr {index mL n q ci : Nat} {fs : List Nat} {kT : u_T} {kN : Nat} {y : MethodName} {cy : ByteArray} {ry : Option FieldType} {rm : Room} {As : (Nat → Nat) → List Value} {τ : sn_S} {st0 : List Value} {x : Nat} (rest : List Value)
    (C : sn_C p s m args meth c own cc nL ret D ct ad lay) (h : sn_H s D ct ad lay σ H locs) (hM : sn_M l y cy mL ry rm lay (fun ad => .ref (ad q) :: As ad) σ (some (fun ad => .ref (ad x))) τ) (L : sn_LV own index y cy mL ry n) (hq : lay[q]? = some (.inr (ci, fs))) (hc : vwCl[ci]? = some (y.cls, kT, kN)) (hR : sn_fit rm R mL = true) (hn : (As ad).length = n)
    (hst : st0 = (As ad).reverse ++ .ref (ad q) :: rest) (hsum : sn_sum rest ≤ 8) (hd : decode cc pc = .ok (.invokevirtual index, 3)) (hls : ls.size = nL)
    (kk : ∀ (H : Heap) (locs : List Loc), sn_H s D ct ad lay τ H locs → W p l e R s m args below meth c H locs 0 0 Q (F0 m (pc + 3) ls (.ref (ad x) :: rest))) : W p l e R s m args below meth c H locs 0 0 Q (F0 m pc ls st0) :=
  sn_callV C h hM L hq hc hR hn hst hsum hd hls kk
theorem sn_callSi {index mL n : Nat} {y : MethodName} {cy : ByteArray} {ry : Option FieldType} {rm : Room} {As : (Nat → Nat) → List Value} {τ : sn_S} {st0 : List Value} {x : Int32} (rest : List Value)
    (C : sn_C p s m args meth c own cc nL ret D ct ad lay) (h : sn_H s D ct ad lay σ H locs) (hM : sn_M l y cy mL ry rm lay As σ (some (fun _ => .int x)) τ) (L : sn_LS own index y cy mL ry n) (hR : sn_fit rm R mL = true) (hn : (As ad).length = n)
    (hst : st0 = (As ad).reverse ++ rest) (hsum : sn_sum rest ≤ 8) (hd : decode cc pc = .ok (.invokestatic index, 3)) (hls : ls.size = nL)
    (kk : ∀ (H : Heap) (locs : List Loc), sn_H s D ct ad lay τ H locs → W p l e R s m args below meth c H locs 0 0 Q (F0 m (pc + 3) ls (.int x :: rest))) : W p l e R s m args below meth c H locs 0 0 Q (F0 m pc ls st0) :=
  sn_callS C h hM L hR hn hst hsum hd hls kk
theorem sn_callSl {index mL n : Nat} {y : MethodName} {cy : ByteArray} {ry : Option FieldType} {rm : Room} {As : (Nat → Nat) → List Value} {τ : sn_S} {st0 : List Value} {x : Int64} (rest : List Value)
    (C : sn_C p s m args meth c own cc nL ret D ct ad lay) (h : sn_H s D ct ad lay σ H locs) (hM : sn_M l y cy mL ry rm lay As σ (some (fun _ => .long x)) τ) (L : sn_LS own index y cy mL ry n) (hR : sn_fit rm R mL = true) (hn : (As ad).length = n)
    (hst : st0 = (As ad).reverse ++ rest) (hsum : sn_sum rest ≤ 8) (hd : decode cc pc = .ok (.invokestatic index, 3)) (hls : ls.size = nL)
    (kk : ∀ (H : Heap) (locs : List Loc), sn_H s D ct ad lay τ H locs → W p l e R s m args below meth c H locs 0 0 Q (F0 m (pc + 3) ls (.long x :: rest))) : W p l e R s m args below meth c H locs 0 0 Q (F0 m pc ls st0) :=
  sn_callS C h hM L hR hn hst hsum hd hls kk
theorem sn_callSv {index mL n : Nat} {y : MethodName} {cy : ByteArray} {ry : Option FieldType} {rm : Room} {As : (Nat → Nat) → List Value} {τ : sn_S} {st0 : List Value}  (rest : List Value)
    (C : sn_C p s m args meth c own cc nL ret D ct ad lay) (h : sn_H s D ct ad lay σ H locs) (hM : sn_M l y cy mL ry rm lay As σ none τ) (L : sn_LS own index y cy mL ry n) (hR : sn_fit rm R mL = true) (hn : (As ad).length = n)
    (hst : st0 = (As ad).reverse ++ rest) (hsum : sn_sum rest ≤ 8) (hd : decode cc pc = .ok (.invokestatic index, 3)) (hls : ls.size = nL)
    (kk : ∀ (H : Heap) (locs : List Loc), sn_H s D ct ad lay τ H locs → W p l e R s m args below meth c H locs 0 0 Q (F0 m (pc + 3) ls (rest))) : W p l e R s m args below meth c H locs 0 0 Q (F0 m pc ls st0) :=
  sn_callS C h hM L hR hn hst hsum hd hls kk
theorem sn_callNi {index mL n : Nat} {host : String} {y : MethodName} {cy : ByteArray} {ry : Option FieldType} {rm : Room} {As : (Nat → Nat) → List Value} {τ : sn_S} {st0 : List Value} {x : Int32} (rest : List Value)
    (C : sn_C p s m args meth c own cc nL ret D ct ad lay) (h : sn_H s D ct ad lay σ H locs) (hM : sn_M l y cy mL ry rm lay As σ (some (fun _ => .int x)) τ) (L : sn_LN own index y host cy mL ry n) (hR : sn_fit rm R mL = true) (hn : (As ad).length = n)
    (hst : st0 = (As ad).reverse ++ rest) (hsum : sn_sum rest ≤ 8) (hd : decode cc pc = .ok (.invokestatic index, 3)) (hls : ls.size = nL)
    (kk : ∀ (H : Heap) (locs : List Loc), sn_H s D ct ad lay τ H locs → W p l e R s m args below meth c H locs 0 0 Q (F0 m (pc + 3) ls (.int x :: rest))) : W p l e R s m args below meth c H locs 0 0 Q (F0 m pc ls st0) :=
  sn_callN C h hM L hR hn hst hsum hd hls kk
theorem sn_callNl {index mL n : Nat} {host : String} {y : MethodName} {cy : ByteArray} {ry : Option FieldType} {rm : Room} {As : (Nat → Nat) → List Value} {τ : sn_S} {st0 : List Value} {x : Int64} (rest : List Value)
    (C : sn_C p s m args meth c own cc nL ret D ct ad lay) (h : sn_H s D ct ad lay σ H locs) (hM : sn_M l y cy mL ry rm lay As σ (some (fun _ => .long x)) τ) (L : sn_LN own index y host cy mL ry n) (hR : sn_fit rm R mL = true) (hn : (As ad).length = n)
    (hst : st0 = (As ad).reverse ++ rest) (hsum : sn_sum rest ≤ 8) (hd : decode cc pc = .ok (.invokestatic index, 3)) (hls : ls.size = nL)
    (kk : ∀ (H : Heap) (locs : List Loc), sn_H s D ct ad lay τ H locs → W p l e R s m args below meth c H locs 0 0 Q (F0 m (pc + 3) ls (.long x :: rest))) : W p l e R s m args below meth c H locs 0 0 Q (F0 m pc ls st0) :=
  sn_callN C h hM L hR hn hst hsum hd hls kk
theorem sn_callNv {index mL n : Nat} {host : String} {y : MethodName} {cy : ByteArray} {ry : Option FieldType} {rm : Room} {As : (Nat → Nat) → List Value} {τ : sn_S} {st0 : List Value}  (rest : List Value)
    (C : sn_C p s m args meth c own cc nL ret D ct ad lay) (h : sn_H s D ct ad lay σ H locs) (hM : sn_M l y cy mL ry rm lay As σ none τ) (L : sn_LN own index y host cy mL ry n) (hR : sn_fit rm R mL = true) (hn : (As ad).length = n)
    (hst : st0 = (As ad).reverse ++ rest) (hsum : sn_sum rest ≤ 8) (hd : decode cc pc = .ok (.invokestatic index, 3)) (hls : ls.size = nL)
    (kk : ∀ (H : Heap) (locs : List Loc), sn_H s D ct ad lay τ H locs → W p l e R s m args below meth c H locs 0 0 Q (F0 m (pc + 3) ls (rest))) : W p l e R s m args below meth c H locs 0 0 Q (F0 m pc ls st0) :=
  sn_callN C h hM L hR hn hst hsum hd hls kk
/-- a copy within bounds -/
def sn_cpok (sp dp n : Int32) (n0 n1 : Nat) : Bool := decide (0 ≤ sp) && decide (0 ≤ dp) && decide (0 ≤ n) && decide (sp.toNatClampNeg + n.toNatClampNeg ≤ n0) && decide (dp.toNatClampNeg + n.toNatClampNeg ≤ n1)
theorem sn_cpok_spec {sp dp n : Int32} {n0 n1 : Nat} (h : sn_cpok sp dp n n0 n1 = true) : ¬ sp < 0 ∧ ¬ dp < 0 ∧ ¬ n < 0 ∧ sp.toNatClampNeg + n.toNatClampNeg ≤ n0 ∧ dp.toNatClampNeg + n.toNatClampNeg ≤ n1 := by
  unfold sn_cpok at h
  simp only [Bool.and_eq_true, decide_eq_true_eq] at h
  exact ⟨Int32.not_lt.mpr h.1.1.1.1, Int32.not_lt.mpr h.1.1.1.2, Int32.not_lt.mpr h.1.1.2, h.1.2, h.2⟩
theorem sn_cpyI {index q0 q1 n0 n1 : Nat} {r0 r1 : List Nat} {sp dp n : Int32} (rest : List Value) (C : sn_C p s m args meth c own cc nL ret D ct ad lay) (h : sn_H s D ct ad lay σ H locs) (w1 : Cond.methodLink own index arraycopyName ∈ sn_gw) (w2 : Cond.native arraycopyName ∈ sn_gw) (w3 : Cond.static arraycopyName ∈ sn_gw) (w4 : Cond.initialized "java/lang/System" ∈ sn_gw)
    (hq0 : lay[q0]? = some (.inl (0, n0, 0, r0))) (hq1 : lay[q1]? = some (.inl (0, n1, 0, r1))) (hok : sn_cpok sp dp n n0 n1 = true) (hfr : 1 ≤ R.frames) (hlo : sn_sum rest + (nativeFrameWords "java/lang/System" "arraycopy" 5 + 11) ≤ R.locals) (hd : decode cc pc = .ok (.invokestatic index, 3)) (hls : ls.size = nL)
    (kk : ∀ (H : Heap) (locs : List Loc), sn_H s D ct ad lay (sn_wI σ q1 (va_cpy (sn_I σ q0) (sn_I σ q1) sp.toNatClampNeg dp.toNatClampNeg n.toNatClampNeg)) H locs → W p l e R s m args below meth c H locs 0 0 Q (F0 m (pc + 3) ls rest)) :
    W p l e R s m args below meth c H locs 0 0 Q (F0 m pc ls (.int n :: .int dp :: .ref (ad q1) :: .int sp :: .ref (ad q0) :: rest)) := by
  obtain ⟨hx, hb, hml, hown, hts, hr, hlk, hK, hD, hG⟩ := C
  obtain ⟨h1, h2, h3, h4, h5⟩ := sn_cpok_spec hok
  have g0 := sn_W_get (ct := ct) (ad := ad) (σ := σ) 0 hq0
  have g1 := sn_W_get (ct := ct) (ad := ad) (σ := σ) 0 hq1
  rw [Nat.zero_add] at g0 g1
  refine va_copyi (f := sn_I σ q0) (g := sn_I σ q1) (ty := .int) hx hb (hml.trans hls.symm) hown (hts _ w1) (hts _ w2) (hts _ w3) (hts _ w4) hK h.1 (hD σ) h.2 q0 q1 0 0 g0 g1 rfl rfl rfl h1 h2 h3 h4 h5 (fun _ _ => rfl) hfr hlo hd (fun H1 locs1 hP1 _ hS1 => kk H1 locs1 ⟨?_, hS1⟩)
  generalize hf : va_cpy (sn_I σ q0) (sn_I σ q1) sp.toNatClampNeg dp.toNatClampNeg n.toNatClampNeg = f at hP1 ⊢
  have e2 := sn_W_set (ct := ct) (ad := ad) (σ := σ) (τ := sn_wI σ q1 f) 0 hq1 (fun a ha => by
    rw [Nat.zero_add] at ha
    refine ⟨?_, rfl, rfl⟩
    show σ.1 a = if a = q1 then f else σ.1 a
    rw [if_neg ha])
  rw [Nat.zero_add] at e2
  have e3 : sn_I (sn_wI σ q1 f) q1 = f := by
    funext b
    show (if q1 = q1 then f else σ.1 q1) b = f b
    rw [if_pos rfl]
  rw [← e2]
  show va_P D vwCl ((sn_W ct ad σ 0 lay).set q1 (ad q1, .inl (ct 0, n1, .inl (sn_I (sn_wI σ q1 f) q1)))) H1
  rw [e3]
  exact hP1
theorem sn_cpyL {index q0 q1 n0 n1 : Nat} {r0 r1 : List Nat} {sp dp n : Int32} (rest : List Value) (C : sn_C p s m args meth c own cc nL ret D ct ad lay) (h : sn_H s D ct ad lay σ H locs) (w1 : Cond.methodLink own index arraycopyName ∈ sn_gw) (w2 : Cond.native arraycopyName ∈ sn_gw) (w3 : Cond.static arraycopyName ∈ sn_gw) (w4 : Cond.initialized "java/lang/System" ∈ sn_gw)
    (hq0 : lay[q0]? = some (.inl (3, n0, 1, r0))) (hq1 : lay[q1]? = some (.inl (3, n1, 1, r1))) (hok : sn_cpok sp dp n n0 n1 = true) (hfr : 1 ≤ R.frames) (hlo : sn_sum rest + (nativeFrameWords "java/lang/System" "arraycopy" 5 + 11) ≤ R.locals) (hd : decode cc pc = .ok (.invokestatic index, 3)) (hls : ls.size = nL)
    (kk : ∀ (H : Heap) (locs : List Loc), sn_H s D ct ad lay (sn_wL σ q1 (va_cpy (sn_L σ q0) (sn_L σ q1) sp.toNatClampNeg dp.toNatClampNeg n.toNatClampNeg)) H locs → W p l e R s m args below meth c H locs 0 0 Q (F0 m (pc + 3) ls rest)) :
    W p l e R s m args below meth c H locs 0 0 Q (F0 m pc ls (.int n :: .int dp :: .ref (ad q1) :: .int sp :: .ref (ad q0) :: rest)) := by
  obtain ⟨hx, hb, hml, hown, hts, hr, hlk, hK, hD, hG⟩ := C
  obtain ⟨h1, h2, h3, h4, h5⟩ := sn_cpok_spec hok
  have g0 := sn_W_get (ct := ct) (ad := ad) (σ := σ) 0 hq0
  have g1 := sn_W_get (ct := ct) (ad := ad) (σ := σ) 0 hq1
  rw [Nat.zero_add] at g0 g1
  refine va_copyl (f := sn_L σ q0) (g := sn_L σ q1) (ty := .long) hx hb (hml.trans hls.symm) hown (hts _ w1) (hts _ w2) (hts _ w3) (hts _ w4) hK h.1 (hD σ) h.2 q0 q1 3 3 g0 g1 rfl rfl rfl h1 h2 h3 h4 h5 (fun _ _ => rfl) hfr hlo hd (fun H1 locs1 hP1 _ hS1 => kk H1 locs1 ⟨?_, hS1⟩)
  generalize hf : va_cpy (sn_L σ q0) (sn_L σ q1) sp.toNatClampNeg dp.toNatClampNeg n.toNatClampNeg = f at hP1 ⊢
  have e2 := sn_W_set (ct := ct) (ad := ad) (σ := σ) (τ := sn_wL σ q1 f) 0 hq1 (fun a ha => by
    rw [Nat.zero_add] at ha
    refine ⟨rfl, ?_, rfl⟩
    show σ.2.1 a = if a = q1 then f else σ.2.1 a
    rw [if_neg ha])
  rw [Nat.zero_add] at e2
  have e3 : sn_L (sn_wL σ q1 f) q1 = f := by
    funext b
    show (if q1 = q1 then f else σ.2.1 q1) b = f b
    rw [if_pos rfl]
  rw [← e2]
  show va_P D vwCl ((sn_W ct ad σ 0 lay).set q1 (ad q1, .inl (ct 3, n1, .inr (.inl (sn_L (sn_wL σ q1 f) q1))))) H1
  rw [e3]
  exact hP1
end RW2
def layM : List sn_E := [.inr (9, [0, 4, 5, 6, 7, 0, 8, 0, 0, 0, 0, 0, 0, 0, 9, 10, 11, 12, 0, 0, 0, 0, 0, 13, 14, 15, 16, 17, 18, 19, 0, 0, 20, 21, 22, 23, 0, 0, 1, 1, 1, 1, 24, 25, 26, 27]), .inl (0, 119, 0, []), .inl (0, 357, 0, []), .inl (1, 3, 0, []), .inl (2, 900, 0, []), .inl (0, 5, 0, []), .inl (0, 119, 0, []), .inl (0, 30, 0, []), .inl (0, 6, 0, []), .inl (0, 6, 0, []), .inl (0, 6, 0, []), .inl (0, 30, 0, []), .inl (0, 180, 0, []), .inl (0, 180, 0, []), .inl (0, 6, 0, []), .inl (0, 6, 0, []), .inl (0, 30, 0, []), .inl (0, 961, 0, []), .inl (0, 961, 0, []), .inl (0, 270, 0, []), .inl (0, 1620, 0, []), .inl (0, 4, 0, []), .inl (0, 4, 0, []), .inl (3, 240, 1, []), .inl (3, 60, 1, [])]
theorem layM_0 : layM[0]? = some (.inr (9, [0, 4, 5, 6, 7, 0, 8, 0, 0, 0, 0, 0, 0, 0, 9, 10, 11, 12, 0, 0, 0, 0, 0, 13, 14, 15, 16, 17, 18, 19, 0, 0, 20, 21, 22, 23, 0, 0, 1, 1, 1, 1, 24, 25, 26, 27])) := rfl
theorem layM_1 : layM[1]? = some (.inl (0, 119, 0, [])) := rfl
theorem layM_2 : layM[2]? = some (.inl (0, 357, 0, [])) := rfl
theorem layM_3 : layM[3]? = some (.inl (1, 3, 0, [])) := rfl
theorem layM_4 : layM[4]? = some (.inl (2, 900, 0, [])) := rfl
theorem layM_5 : layM[5]? = some (.inl (0, 5, 0, [])) := rfl
theorem layM_6 : layM[6]? = some (.inl (0, 119, 0, [])) := rfl
theorem layM_7 : layM[7]? = some (.inl (0, 30, 0, [])) := rfl
theorem layM_8 : layM[8]? = some (.inl (0, 6, 0, [])) := rfl
theorem layM_9 : layM[9]? = some (.inl (0, 6, 0, [])) := rfl
theorem layM_10 : layM[10]? = some (.inl (0, 6, 0, [])) := rfl
theorem layM_11 : layM[11]? = some (.inl (0, 30, 0, [])) := rfl
theorem layM_12 : layM[12]? = some (.inl (0, 180, 0, [])) := rfl
theorem layM_13 : layM[13]? = some (.inl (0, 180, 0, [])) := rfl
theorem layM_14 : layM[14]? = some (.inl (0, 6, 0, [])) := rfl
theorem layM_15 : layM[15]? = some (.inl (0, 6, 0, [])) := rfl
theorem layM_16 : layM[16]? = some (.inl (0, 30, 0, [])) := rfl
theorem layM_17 : layM[17]? = some (.inl (0, 961, 0, [])) := rfl
theorem layM_18 : layM[18]? = some (.inl (0, 961, 0, [])) := rfl
theorem layM_19 : layM[19]? = some (.inl (0, 270, 0, [])) := rfl
theorem layM_20 : layM[20]? = some (.inl (0, 1620, 0, [])) := rfl
theorem layM_21 : layM[21]? = some (.inl (0, 4, 0, [])) := rfl
theorem layM_22 : layM[22]? = some (.inl (0, 4, 0, [])) := rfl
theorem layM_23 : layM[23]? = some (.inl (3, 240, 1, [])) := rfl
theorem layM_24 : layM[24]? = some (.inl (3, 60, 1, [])) := rfl
def layC : List sn_E := [.inr (8, [6, 13, 4, 5, 41, 43, 51, 62, 73, 76, 78, 81]), .inl (4, 3, 2, [17, 24, 31]), .inl (1, 3, 0, []), .inr (2, [7, 8, 9, 10, 11, 12]), .inl (0, 11, 0, []), .inl (0, 12, 0, []), .inl (0, 10, 0, []), .inl (0, 16, 0, []), .inl (0, 30, 0, []), .inl (0, 120, 0, []), .inr (2, [14, 15, 16, 17, 18, 19]), .inl (0, 11, 0, []), .inl (0, 12, 0, []), .inl (0, 10, 0, []), .inl (0, 16, 0, []), .inl (0, 30, 0, []), .inl (0, 120, 0, []), .inr (2, [21, 22, 23, 24, 25, 26]), .inl (0, 11, 0, []), .inl (0, 12, 0, []), .inl (0, 10, 0, []), .inl (0, 16, 0, []), .inl (0, 30, 0, []), .inl (0, 120, 0, []), .inr (2, [28, 29, 30, 31, 32, 33]), .inl (0, 11, 0, []), .inl (0, 12, 0, []), .inl (0, 10, 0, []), .inl (0, 16, 0, []), .inl (0, 30, 0, []), .inl (0, 120, 0, []), .inr (2, [35, 36, 37, 38, 39, 40]), .inl (0, 11, 0, []), .inl (0, 12, 0, []), .inl (0, 10, 0, []), .inl (0, 16, 0, []), .inl (0, 30, 0, []), .inl (0, 120, 0, []), .inr (5, [42, 0, 0, 0, 0, 0, 0, 2]), .inl (0, 900, 0, []), .inr (6, [44, 49, 50]), .inl (5, 4, 2, [42, 43, 44, 45]), .inl (3, 60, 1, []), .inl (3, 60, 1, []), .inl (3, 60, 1, []), .inl (3, 60, 1, []), .inl (0, 4, 0, []), .inl (0, 4, 0, []), .inr (0, [0, 0, 0, 0, 52, 53, 54, 55, 56, 57, 58, 59, 60, 61]), .inl (0, 30, 0, []), .inl (0, 6, 0, []), .inl (0, 6, 0, []), .inl (0, 6, 0, []), .inl (0, 6, 0, []), .inl (0, 16, 0, []), .inl (0, 180, 0, []), .inl (0, 180, 0, []), .inl (0, 30, 0, []), .inl (0, 6, 0, []), .inr (0, [0, 0, 0, 0, 63, 64, 65, 66, 67, 68, 69, 70, 71, 72]), .inl (0, 30, 0, []), .inl (0, 6, 0, []), .inl (0, 6, 0, []), .inl (0, 6, 0, []), .inl (0, 6, 0, []), .inl (0, 16, 0, []), .inl (0, 180, 0, []), .inl (0, 180, 0, []), .inl (0, 30, 0, []), .inl (0, 6, 0, []), .inr (3, [74, 75, 0, 0]), .inl (0, 6, 0, []), .inl (0, 6, 0, []), .inr (1, [77, 1]), .inl (3, 31, 1, []), .inr (7, [79, 0, 0, 0, 80]), .inl (0, 6, 0, []), .inl (0, 186, 0, []), .inr (4, [1, 1, 82, 6, 51, 62, 73]), .inl (3, 9, 1, [])]
theorem layC_0 : layC[0]? = some (.inr (8, [6, 13, 4, 5, 41, 43, 51, 62, 73, 76, 78, 81])) := rfl
theorem layC_1 : layC[1]? = some (.inl (4, 3, 2, [17, 24, 31])) := rfl
theorem layC_2 : layC[2]? = some (.inl (1, 3, 0, [])) := rfl
theorem layC_3 : layC[3]? = some (.inr (2, [7, 8, 9, 10, 11, 12])) := rfl
theorem layC_4 : layC[4]? = some (.inl (0, 11, 0, [])) := rfl
theorem layC_5 : layC[5]? = some (.inl (0, 12, 0, [])) := rfl
theorem layC_6 : layC[6]? = some (.inl (0, 10, 0, [])) := rfl
theorem layC_7 : layC[7]? = some (.inl (0, 16, 0, [])) := rfl
theorem layC_8 : layC[8]? = some (.inl (0, 30, 0, [])) := rfl
theorem layC_9 : layC[9]? = some (.inl (0, 120, 0, [])) := rfl
theorem layC_10 : layC[10]? = some (.inr (2, [14, 15, 16, 17, 18, 19])) := rfl
theorem layC_11 : layC[11]? = some (.inl (0, 11, 0, [])) := rfl
theorem layC_12 : layC[12]? = some (.inl (0, 12, 0, [])) := rfl
theorem layC_13 : layC[13]? = some (.inl (0, 10, 0, [])) := rfl
theorem layC_14 : layC[14]? = some (.inl (0, 16, 0, [])) := rfl
theorem layC_15 : layC[15]? = some (.inl (0, 30, 0, [])) := rfl
theorem layC_16 : layC[16]? = some (.inl (0, 120, 0, [])) := rfl
theorem layC_17 : layC[17]? = some (.inr (2, [21, 22, 23, 24, 25, 26])) := rfl
theorem layC_18 : layC[18]? = some (.inl (0, 11, 0, [])) := rfl
theorem layC_19 : layC[19]? = some (.inl (0, 12, 0, [])) := rfl
theorem layC_20 : layC[20]? = some (.inl (0, 10, 0, [])) := rfl
theorem layC_21 : layC[21]? = some (.inl (0, 16, 0, [])) := rfl
theorem layC_22 : layC[22]? = some (.inl (0, 30, 0, [])) := rfl
theorem layC_23 : layC[23]? = some (.inl (0, 120, 0, [])) := rfl
theorem layC_24 : layC[24]? = some (.inr (2, [28, 29, 30, 31, 32, 33])) := rfl
theorem layC_25 : layC[25]? = some (.inl (0, 11, 0, [])) := rfl
theorem layC_26 : layC[26]? = some (.inl (0, 12, 0, [])) := rfl
theorem layC_27 : layC[27]? = some (.inl (0, 10, 0, [])) := rfl
theorem layC_28 : layC[28]? = some (.inl (0, 16, 0, [])) := rfl
theorem layC_29 : layC[29]? = some (.inl (0, 30, 0, [])) := rfl
theorem layC_30 : layC[30]? = some (.inl (0, 120, 0, [])) := rfl
theorem layC_31 : layC[31]? = some (.inr (2, [35, 36, 37, 38, 39, 40])) := rfl
theorem layC_32 : layC[32]? = some (.inl (0, 11, 0, [])) := rfl
theorem layC_33 : layC[33]? = some (.inl (0, 12, 0, [])) := rfl
theorem layC_34 : layC[34]? = some (.inl (0, 10, 0, [])) := rfl
theorem layC_35 : layC[35]? = some (.inl (0, 16, 0, [])) := rfl
theorem layC_36 : layC[36]? = some (.inl (0, 30, 0, [])) := rfl
theorem layC_37 : layC[37]? = some (.inl (0, 120, 0, [])) := rfl
theorem layC_38 : layC[38]? = some (.inr (5, [42, 0, 0, 0, 0, 0, 0, 2])) := rfl
theorem layC_39 : layC[39]? = some (.inl (0, 900, 0, [])) := rfl
theorem layC_40 : layC[40]? = some (.inr (6, [44, 49, 50])) := rfl
theorem layC_41 : layC[41]? = some (.inl (5, 4, 2, [42, 43, 44, 45])) := rfl
theorem layC_42 : layC[42]? = some (.inl (3, 60, 1, [])) := rfl
theorem layC_43 : layC[43]? = some (.inl (3, 60, 1, [])) := rfl
theorem layC_44 : layC[44]? = some (.inl (3, 60, 1, [])) := rfl
theorem layC_45 : layC[45]? = some (.inl (3, 60, 1, [])) := rfl
theorem layC_46 : layC[46]? = some (.inl (0, 4, 0, [])) := rfl
theorem layC_47 : layC[47]? = some (.inl (0, 4, 0, [])) := rfl
theorem layC_48 : layC[48]? = some (.inr (0, [0, 0, 0, 0, 52, 53, 54, 55, 56, 57, 58, 59, 60, 61])) := rfl
theorem layC_49 : layC[49]? = some (.inl (0, 30, 0, [])) := rfl
theorem layC_50 : layC[50]? = some (.inl (0, 6, 0, [])) := rfl
theorem layC_51 : layC[51]? = some (.inl (0, 6, 0, [])) := rfl
theorem layC_52 : layC[52]? = some (.inl (0, 6, 0, [])) := rfl
theorem layC_53 : layC[53]? = some (.inl (0, 6, 0, [])) := rfl
theorem layC_54 : layC[54]? = some (.inl (0, 16, 0, [])) := rfl
theorem layC_55 : layC[55]? = some (.inl (0, 180, 0, [])) := rfl
theorem layC_56 : layC[56]? = some (.inl (0, 180, 0, [])) := rfl
theorem layC_57 : layC[57]? = some (.inl (0, 30, 0, [])) := rfl
theorem layC_58 : layC[58]? = some (.inl (0, 6, 0, [])) := rfl
theorem layC_59 : layC[59]? = some (.inr (0, [0, 0, 0, 0, 63, 64, 65, 66, 67, 68, 69, 70, 71, 72])) := rfl
theorem layC_60 : layC[60]? = some (.inl (0, 30, 0, [])) := rfl
theorem layC_61 : layC[61]? = some (.inl (0, 6, 0, [])) := rfl
theorem layC_62 : layC[62]? = some (.inl (0, 6, 0, [])) := rfl
theorem layC_63 : layC[63]? = some (.inl (0, 6, 0, [])) := rfl
theorem layC_64 : layC[64]? = some (.inl (0, 6, 0, [])) := rfl
theorem layC_65 : layC[65]? = some (.inl (0, 16, 0, [])) := rfl
theorem layC_66 : layC[66]? = some (.inl (0, 180, 0, [])) := rfl
theorem layC_67 : layC[67]? = some (.inl (0, 180, 0, [])) := rfl
theorem layC_68 : layC[68]? = some (.inl (0, 30, 0, [])) := rfl
theorem layC_69 : layC[69]? = some (.inl (0, 6, 0, [])) := rfl
theorem layC_70 : layC[70]? = some (.inr (3, [74, 75, 0, 0])) := rfl
theorem layC_71 : layC[71]? = some (.inl (0, 6, 0, [])) := rfl
theorem layC_72 : layC[72]? = some (.inl (0, 6, 0, [])) := rfl
theorem layC_73 : layC[73]? = some (.inr (1, [77, 1])) := rfl
theorem layC_74 : layC[74]? = some (.inl (3, 31, 1, [])) := rfl
theorem layC_75 : layC[75]? = some (.inr (7, [79, 0, 0, 0, 80])) := rfl
theorem layC_76 : layC[76]? = some (.inl (0, 6, 0, [])) := rfl
theorem layC_77 : layC[77]? = some (.inl (0, 186, 0, [])) := rfl
theorem layC_78 : layC[78]? = some (.inr (4, [1, 1, 82, 6, 51, 62, 73])) := rfl
theorem layC_79 : layC[79]? = some (.inl (3, 9, 1, [])) := rfl
theorem ug_X0 : ∀ w ∈ u_ws RX0 TX0 14, w ∈ sn_gw := by decide +kernel
theorem ug_X1 : ∀ w ∈ u_ws RX1 TX1 2, w ∈ sn_gw := by decide +kernel
theorem ug_X2 : ∀ w ∈ u_ws RX2 TX2 6, w ∈ sn_gw := by decide +kernel
theorem ug_X3 : ∀ w ∈ u_ws RX3 TX3 4, w ∈ sn_gw := by decide +kernel
theorem ug_X4 : ∀ w ∈ u_ws RX4 TX4 7, w ∈ sn_gw := by decide +kernel
theorem ug_X5 : ∀ w ∈ u_ws RX5 TX5 8, w ∈ sn_gw := by decide +kernel
theorem ug_X6 : ∀ w ∈ u_ws RX6 TX6 3, w ∈ sn_gw := by decide +kernel
theorem ug_X7 : ∀ w ∈ u_ws RX7 TX7 5, w ∈ sn_gw := by decide +kernel
theorem ug_X8 : ∀ w ∈ u_ws RX8 TX8 12, w ∈ sn_gw := by decide +kernel
theorem ug_X9 : ∀ w ∈ u_ws RX9 TX9 46, w ∈ sn_gw := by decide +kernel
theorem kk_RX9_92 : Cond.constantLong RX9 92 (2) ∈ sn_gw := sn_gwI (List.mem_of_getElem? (i := 1224) (by decide +kernel)) (by decide +kernel)
theorem kf_RX9_13 : Cond.fieldLink RX9 13 (TX9 2).1 (TX9 2).2.1 (TX9 2).2.2.1 ∈ sn_gw := sn_gwI (List.mem_of_getElem? (i := 1083) (by decide +kernel)) (by decide +kernel)
theorem fd_RX9_13 : sn_Fd RX9 13 9 2 := ⟨RX9, TX9, 46, rfl, ug_X9, by decide, kf_RX9_13⟩
theorem kf_RX9_9 : Cond.fieldLink RX9 9 (TX9 1).1 (TX9 1).2.1 (TX9 1).2.2.1 ∈ sn_gw := sn_gwI (List.mem_of_getElem? (i := 1082) (by decide +kernel)) (by decide +kernel)
theorem fd_RX9_9 : sn_Fd RX9 9 9 1 := ⟨RX9, TX9, 46, rfl, ug_X9, by decide, kf_RX9_9⟩
theorem kf_RX9_16 : Cond.fieldLink RX9 16 (TX9 3).1 (TX9 3).2.1 (TX9 3).2.2.1 ∈ sn_gw := sn_gwI (List.mem_of_getElem? (i := 1084) (by decide +kernel)) (by decide +kernel)
theorem fd_RX9_16 : sn_Fd RX9 16 9 3 := ⟨RX9, TX9, 46, rfl, ug_X9, by decide, kf_RX9_16⟩
theorem kc_X9_in : Cond.code yX9_in cX9_in 6 (some .boolean) ∈ sn_gw := sn_gwI (List.mem_of_getElem? (i := 1227) (by decide +kernel)) (by decide +kernel)
theorem km_RX9_94 : Cond.methodLink RX9 94 yX9_in ∈ sn_gw := sn_gwI (List.mem_of_getElem? (i := 1225) (by decide +kernel)) (by decide +kernel)
theorem kst_X9_in : Cond.static yX9_in ∈ sn_gw := sn_gwI (List.mem_of_getElem? (i := 1226) (by decide +kernel)) (by decide +kernel)
theorem ki_RX9 : Cond.initialized RX9 ∈ sn_gw := sn_gwI (List.mem_of_getElem? (i := 11) (by decide +kernel)) (by decide +kernel)
theorem kl_RX9_94 : sn_LS RX9 94 yX9_in cX9_in 6 (some .boolean) 3 := ⟨sn_ls4 km_RX9_94 kst_X9_in ki_RX9 kc_X9_in, by decide +kernel⟩
theorem kk_RX9_98 : Cond.constantLong RX9 98 (3) ∈ sn_gw := sn_gwI (List.mem_of_getElem? (i := 1583) (by decide +kernel)) (by decide +kernel)
theorem kf_RX9_100 : Cond.fieldLink RX9 100 (TX9 5).1 (TX9 5).2.1 (TX9 5).2.2.1 ∈ sn_gw := sn_gwI (List.mem_of_getElem? (i := 1086) (by decide +kernel)) (by decide +kernel)
theorem fd_RX9_100 : sn_Fd RX9 100 9 5 := ⟨RX9, TX9, 46, rfl, ug_X9, by decide, kf_RX9_100⟩
theorem kf_RX9_24 : Cond.fieldLink RX9 24 (TX9 6).1 (TX9 6).2.1 (TX9 6).2.2.1 ∈ sn_gw := sn_gwI (List.mem_of_getElem? (i := 1087) (by decide +kernel)) (by decide +kernel)
theorem fd_RX9_24 : sn_Fd RX9 24 9 6 := ⟨RX9, TX9, 46, rfl, ug_X9, by decide, kf_RX9_24⟩
theorem kf_RX9_20 : Cond.fieldLink RX9 20 (TX9 4).1 (TX9 4).2.1 (TX9 4).2.2.1 ∈ sn_gw := sn_gwI (List.mem_of_getElem? (i := 1085) (by decide +kernel)) (by decide +kernel)
theorem fd_RX9_20 : sn_Fd RX9 20 9 4 := ⟨RX9, TX9, 46, rfl, ug_X9, by decide, kf_RX9_20⟩
theorem fp_RX9_100 : sn_Fp RX9 100 9 5 .int := ⟨RX9, TX9, 46, tyX9, rfl, ug_X9, by decide, kf_RX9_100, tyX9_ok, nmX9, rfl, by decide +kernel⟩
theorem kf_RX9_103 : Cond.fieldLink RX9 103 (TX9 7).1 (TX9 7).2.1 (TX9 7).2.2.1 ∈ sn_gw := sn_gwI (List.mem_of_getElem? (i := 1088) (by decide +kernel)) (by decide +kernel)
theorem fd_RX9_103 : sn_Fd RX9 103 9 7 := ⟨RX9, TX9, 46, rfl, ug_X9, by decide, kf_RX9_103⟩
theorem kf_RX9_106 : Cond.fieldLink RX9 106 (TX9 8).1 (TX9 8).2.1 (TX9 8).2.2.1 ∈ sn_gw := sn_gwI (List.mem_of_getElem? (i := 1089) (by decide +kernel)) (by decide +kernel)
theorem fd_RX9_106 : sn_Fd RX9 106 9 8 := ⟨RX9, TX9, 46, rfl, ug_X9, by decide, kf_RX9_106⟩
theorem kk_RX9_119 : Cond.constantLong RX9 119 (97) ∈ sn_gw := sn_gwI (List.mem_of_getElem? (i := 1256) (by decide +kernel)) (by decide +kernel)
theorem kk_RX9_121 : Cond.constantLong RX9 121 (122) ∈ sn_gw := sn_gwI (List.mem_of_getElem? (i := 1257) (by decide +kernel)) (by decide +kernel)
theorem kk_RX9_123 : Cond.constantLong RX9 123 (48) ∈ sn_gw := sn_gwI (List.mem_of_getElem? (i := 1258) (by decide +kernel)) (by decide +kernel)
theorem kk_RX9_125 : Cond.constantLong RX9 125 (57) ∈ sn_gw := sn_gwI (List.mem_of_getElem? (i := 1259) (by decide +kernel)) (by decide +kernel)
theorem kk_RX9_130 : Cond.constant RX9 130 (99999) ∈ sn_gw := sn_gwI (List.mem_of_getElem? (i := 1260) (by decide +kernel)) (by decide +kernel)
theorem kf_RX9_127 : Cond.fieldLink RX9 127 (TX9 11).1 (TX9 11).2.1 (TX9 11).2.2.1 ∈ sn_gw := sn_gwI (List.mem_of_getElem? (i := 1092) (by decide +kernel)) (by decide +kernel)
theorem fd_RX9_127 : sn_Fd RX9 127 9 11 := ⟨RX9, TX9, 46, rfl, ug_X9, by decide, kf_RX9_127⟩
theorem kf_RX9_116 : Cond.fieldLink RX9 116 (TX9 10).1 (TX9 10).2.1 (TX9 10).2.2.1 ∈ sn_gw := sn_gwI (List.mem_of_getElem? (i := 1091) (by decide +kernel)) (by decide +kernel)
theorem fp_RX9_116 : sn_Fp RX9 116 9 10 .int := ⟨RX9, TX9, 46, tyX9, rfl, ug_X9, by decide, kf_RX9_116, tyX9_ok, nmX9, rfl, by decide +kernel⟩
theorem fp_RX9_106 : sn_Fp RX9 106 9 8 .int := ⟨RX9, TX9, 46, tyX9, rfl, ug_X9, by decide, kf_RX9_106, tyX9_ok, nmX9, rfl, by decide +kernel⟩
theorem kc_X9_see : Cond.code yX9_see cX9_see 2 (some .int) ∈ sn_gw := sn_gwI (List.mem_of_getElem? (i := 1255) (by decide +kernel)) (by decide +kernel)
theorem km_RX9_109 : Cond.methodLink RX9 109 yX9_see ∈ sn_gw := sn_gwI (List.mem_of_getElem? (i := 1252) (by decide +kernel)) (by decide +kernel)
theorem kin_X9_see : Cond.instanceMethod yX9_see ∈ sn_gw := sn_gwI (List.mem_of_getElem? (i := 1254) (by decide +kernel)) (by decide +kernel)
theorem ks_X9_see : Cond.selects RX9 yX9_see yX9_see ∈ sn_gw := sn_gwS (q := (yX9_see, 46)) (List.mem_of_getElem? (i := 42) (by decide +kernel)) (by decide +kernel)
theorem kl_RX9_109 : sn_LV RX9 109 yX9_see cX9_see 2 (some .int) 1 := ⟨sn_lv5 km_RX9_109 kin_X9_see ks_X9_see ki_RX9 kc_X9_see, by decide +kernel⟩
theorem km_RX9_131 : Cond.methodLink RX9 131 Lib.Math.min.name ∈ sn_gw := sn_gwI (List.mem_of_getElem? (i := 1261) (by decide +kernel)) (by decide +kernel)
theorem kst_minI : Cond.static Lib.Math.min.name ∈ sn_gw := sn_gwI (List.mem_of_getElem? (i := 360) (by decide +kernel)) (by decide +kernel)
theorem ki_Math : Cond.initialized "java/lang/Math" ∈ sn_gw := sn_gwI (List.mem_of_getElem? (i := 12) (by decide +kernel)) (by decide +kernel)
theorem kc_minI : Cond.code Lib.Math.min.name Lib.Math.min.code 2 (some .int) ∈ sn_gw := sn_gwI (List.mem_of_getElem? (i := 361) (by decide +kernel)) (by decide +kernel)
theorem fp_RX9_127 : sn_Fp RX9 127 9 11 .int := ⟨RX9, TX9, 46, tyX9, rfl, ug_X9, by decide, kf_RX9_127, tyX9_ok, nmX9, rfl, by decide +kernel⟩
theorem kf_RX9_113 : Cond.fieldLink RX9 113 (TX9 9).1 (TX9 9).2.1 (TX9 9).2.2.1 ∈ sn_gw := sn_gwI (List.mem_of_getElem? (i := 1090) (by decide +kernel)) (by decide +kernel)
theorem fp_RX9_113 : sn_Fp RX9 113 9 9 .int := ⟨RX9, TX9, 46, tyX9, rfl, ug_X9, by decide, kf_RX9_113, tyX9_ok, nmX9, rfl, by decide +kernel⟩
theorem kf_RX9_137 : Cond.fieldLink RX9 137 (TX9 12).1 (TX9 12).2.1 (TX9 12).2.2.1 ∈ sn_gw := sn_gwI (List.mem_of_getElem? (i := 1093) (by decide +kernel)) (by decide +kernel)
theorem fd_RX9_137 : sn_Fd RX9 137 9 12 := ⟨RX9, TX9, 46, rfl, ug_X9, by decide, kf_RX9_137⟩
theorem fd_RX9_113 : sn_Fd RX9 113 9 9 := ⟨RX9, TX9, 46, rfl, ug_X9, by decide, kf_RX9_113⟩
theorem kc_X9_good : Cond.code yX9_good cX9_good 1 (some .boolean) ∈ sn_gw := sn_gwI (List.mem_of_getElem? (i := 1265) (by decide +kernel)) (by decide +kernel)
theorem km_RX9_140 : Cond.methodLink RX9 140 yX9_good ∈ sn_gw := sn_gwI (List.mem_of_getElem? (i := 1262) (by decide +kernel)) (by decide +kernel)
theorem kin_X9_good : Cond.instanceMethod yX9_good ∈ sn_gw := sn_gwI (List.mem_of_getElem? (i := 1264) (by decide +kernel)) (by decide +kernel)
theorem ks_X9_good : Cond.selects RX9 yX9_good yX9_good ∈ sn_gw := sn_gwS (q := (yX9_good, 46)) (List.mem_of_getElem? (i := 43) (by decide +kernel)) (by decide +kernel)
theorem kl_RX9_140 : sn_LV RX9 140 yX9_good cX9_good 1 (some .boolean) 0 := ⟨sn_lv5 km_RX9_140 kin_X9_good ks_X9_good ki_RX9 kc_X9_good, by decide +kernel⟩
theorem fp_RX9_137 : sn_Fp RX9 137 9 12 .int := ⟨RX9, TX9, 46, tyX9, rfl, ug_X9, by decide, kf_RX9_137, tyX9_ok, nmX9, rfl, by decide +kernel⟩
theorem kf_RX9_27 : Cond.fieldLink RX9 27 (TX9 13).1 (TX9 13).2.1 (TX9 13).2.2.1 ∈ sn_gw := sn_gwI (List.mem_of_getElem? (i := 1094) (by decide +kernel)) (by decide +kernel)
theorem fp_RX9_27 : sn_Fp RX9 27 9 13 .int := ⟨RX9, TX9, 46, tyX9, rfl, ug_X9, by decide, kf_RX9_27, tyX9_ok, nmX9, rfl, by decide +kernel⟩
theorem fd_RX9_116 : sn_Fd RX9 116 9 10 := ⟨RX9, TX9, 46, rfl, ug_X9, by decide, kf_RX9_116⟩
theorem kc_X9_advance : Cond.code yX9_advance cX9_advance 2 none ∈ sn_gw := sn_gwI (List.mem_of_getElem? (i := 1251) (by decide +kernel)) (by decide +kernel)
theorem km_RX9_158 : Cond.methodLink RX9 158 yX9_advance ∈ sn_gw := sn_gwI (List.mem_of_getElem? (i := 1248) (by decide +kernel)) (by decide +kernel)
theorem kin_X9_advance : Cond.instanceMethod yX9_advance ∈ sn_gw := sn_gwI (List.mem_of_getElem? (i := 1250) (by decide +kernel)) (by decide +kernel)
theorem ks_X9_advance : Cond.selects RX9 yX9_advance yX9_advance ∈ sn_gw := sn_gwS (q := (yX9_advance, 46)) (List.mem_of_getElem? (i := 41) (by decide +kernel)) (by decide +kernel)
theorem kl_RX9_158 : sn_LV RX9 158 yX9_advance cX9_advance 2 none 0 := ⟨sn_lv5 km_RX9_158 kin_X9_advance ks_X9_advance ki_RX9 kc_X9_advance, by decide +kernel⟩
theorem kc_X9_errs : Cond.code yX9_errs cX9_errs 2 none ∈ sn_gw := sn_gwI (List.mem_of_getElem? (i := 1292) (by decide +kernel)) (by decide +kernel)
theorem km_RX9_164 : Cond.methodLink RX9 164 yX9_errs ∈ sn_gw := sn_gwI (List.mem_of_getElem? (i := 1289) (by decide +kernel)) (by decide +kernel)
theorem kin_X9_errs : Cond.instanceMethod yX9_errs ∈ sn_gw := sn_gwI (List.mem_of_getElem? (i := 1291) (by decide +kernel)) (by decide +kernel)
theorem ks_X9_errs : Cond.selects RX9 yX9_errs yX9_errs ∈ sn_gw := sn_gwS (q := (yX9_errs, 46)) (List.mem_of_getElem? (i := 49) (by decide +kernel)) (by decide +kernel)
theorem kl_RX9_164 : sn_LV RX9 164 yX9_errs cX9_errs 2 none 1 := ⟨sn_lv5 km_RX9_164 kin_X9_errs ks_X9_errs ki_RX9 kc_X9_errs, by decide +kernel⟩
theorem fd_RX9_27 : sn_Fd RX9 27 9 13 := ⟨RX9, TX9, 46, rfl, ug_X9, by decide, kf_RX9_27⟩
theorem kf_RX9_31 : Cond.fieldLink RX9 31 (TX9 14).1 (TX9 14).2.1 (TX9 14).2.2.1 ∈ sn_gw := sn_gwI (List.mem_of_getElem? (i := 1095) (by decide +kernel)) (by decide +kernel)
theorem fd_RX9_31 : sn_Fd RX9 31 9 14 := ⟨RX9, TX9, 46, rfl, ug_X9, by decide, kf_RX9_31⟩
theorem kc_X9_number : Cond.code yX9_number cX9_number 4 (some .int) ∈ sn_gw := sn_gwI (List.mem_of_getElem? (i := 1301) (by decide +kernel)) (by decide +kernel)
theorem km_RX9_172 : Cond.methodLink RX9 172 yX9_number ∈ sn_gw := sn_gwI (List.mem_of_getElem? (i := 1298) (by decide +kernel)) (by decide +kernel)
theorem kin_X9_number : Cond.instanceMethod yX9_number ∈ sn_gw := sn_gwI (List.mem_of_getElem? (i := 1300) (by decide +kernel)) (by decide +kernel)
theorem ks_X9_number : Cond.selects RX9 yX9_number yX9_number ∈ sn_gw := sn_gwS (q := (yX9_number, 46)) (List.mem_of_getElem? (i := 51) (by decide +kernel)) (by decide +kernel)
theorem kl_RX9_172 : sn_LV RX9 172 yX9_number cX9_number 4 (some .int) 2 := ⟨sn_lv5 km_RX9_172 kin_X9_number ks_X9_number ki_RX9 kc_X9_number, by decide +kernel⟩
theorem kc_X9_isPerson : Cond.code yX9_isPerson cX9_isPerson 3 (some .boolean) ∈ sn_gw := sn_gwI (List.mem_of_getElem? (i := 1335) (by decide +kernel)) (by decide +kernel)
theorem km_RX9_224 : Cond.methodLink RX9 224 yX9_isPerson ∈ sn_gw := sn_gwI (List.mem_of_getElem? (i := 1332) (by decide +kernel)) (by decide +kernel)
theorem kin_X9_isPerson : Cond.instanceMethod yX9_isPerson ∈ sn_gw := sn_gwI (List.mem_of_getElem? (i := 1334) (by decide +kernel)) (by decide +kernel)
theorem ks_X9_isPerson : Cond.selects RX9 yX9_isPerson yX9_isPerson ∈ sn_gw := sn_gwS (q := (yX9_isPerson, 46)) (List.mem_of_getElem? (i := 55) (by decide +kernel)) (by decide +kernel)
theorem kl_RX9_224 : sn_LV RX9 224 yX9_isPerson cX9_isPerson 3 (some .boolean) 1 := ⟨sn_lv5 km_RX9_224 kin_X9_isPerson ks_X9_isPerson ki_RX9 kc_X9_isPerson, by decide +kernel⟩
theorem kk_RX9_232 : Cond.constantLong RX9 232 (4) ∈ sn_gw := sn_gwI (List.mem_of_getElem? (i := 1344) (by decide +kernel)) (by decide +kernel)
theorem kc_X9_isPolicy : Cond.code yX9_isPolicy cX9_isPolicy 2 (some .boolean) ∈ sn_gw := sn_gwI (List.mem_of_getElem? (i := 1343) (by decide +kernel)) (by decide +kernel)
theorem km_RX9_228 : Cond.methodLink RX9 228 yX9_isPolicy ∈ sn_gw := sn_gwI (List.mem_of_getElem? (i := 1340) (by decide +kernel)) (by decide +kernel)
theorem kin_X9_isPolicy : Cond.instanceMethod yX9_isPolicy ∈ sn_gw := sn_gwI (List.mem_of_getElem? (i := 1342) (by decide +kernel)) (by decide +kernel)
theorem ks_X9_isPolicy : Cond.selects RX9 yX9_isPolicy yX9_isPolicy ∈ sn_gw := sn_gwS (q := (yX9_isPolicy, 46)) (List.mem_of_getElem? (i := 56) (by decide +kernel)) (by decide +kernel)
theorem kl_RX9_228 : sn_LV RX9 228 yX9_isPolicy cX9_isPolicy 2 (some .boolean) 1 := ⟨sn_lv5 km_RX9_228 kin_X9_isPolicy ks_X9_isPolicy ki_RX9 kc_X9_isPolicy, by decide +kernel⟩
theorem kc_X9_of : Cond.code yX9_of cX9_of 3 (some .int) ∈ sn_gw := sn_gwI (List.mem_of_getElem? (i := 1348) (by decide +kernel)) (by decide +kernel)
theorem km_RX9_234 : Cond.methodLink RX9 234 yX9_of ∈ sn_gw := sn_gwI (List.mem_of_getElem? (i := 1345) (by decide +kernel)) (by decide +kernel)
theorem kin_X9_of : Cond.instanceMethod yX9_of ∈ sn_gw := sn_gwI (List.mem_of_getElem? (i := 1347) (by decide +kernel)) (by decide +kernel)
theorem ks_X9_of : Cond.selects RX9 yX9_of yX9_of ∈ sn_gw := sn_gwS (q := (yX9_of, 46)) (List.mem_of_getElem? (i := 57) (by decide +kernel)) (by decide +kernel)
theorem kl_RX9_234 : sn_LV RX9 234 yX9_of cX9_of 3 (some .int) 2 := ⟨sn_lv5 km_RX9_234 kin_X9_of ks_X9_of ki_RX9 kc_X9_of, by decide +kernel⟩
theorem kf_RX9_34 : Cond.fieldLink RX9 34 (TX9 15).1 (TX9 15).2.1 (TX9 15).2.2.1 ∈ sn_gw := sn_gwI (List.mem_of_getElem? (i := 1096) (by decide +kernel)) (by decide +kernel)
theorem fd_RX9_34 : sn_Fd RX9 34 9 15 := ⟨RX9, TX9, 46, rfl, ug_X9, by decide, kf_RX9_34⟩
theorem kf_RX9_237 : Cond.fieldLink RX9 237 (TX9 18).1 (TX9 18).2.1 (TX9 18).2.2.1 ∈ sn_gw := sn_gwI (List.mem_of_getElem? (i := 1099) (by decide +kernel)) (by decide +kernel)
theorem fd_RX9_237 : sn_Fd RX9 237 9 18 := ⟨RX9, TX9, 46, rfl, ug_X9, by decide, kf_RX9_237⟩
theorem kf_RX9_37 : Cond.fieldLink RX9 37 (TX9 16).1 (TX9 16).2.1 (TX9 16).2.2.1 ∈ sn_gw := sn_gwI (List.mem_of_getElem? (i := 1097) (by decide +kernel)) (by decide +kernel)
theorem fd_RX9_37 : sn_Fd RX9 37 9 16 := ⟨RX9, TX9, 46, rfl, ug_X9, by decide, kf_RX9_37⟩
theorem kf_RX9_40 : Cond.fieldLink RX9 40 (TX9 17).1 (TX9 17).2.1 (TX9 17).2.2.1 ∈ sn_gw := sn_gwI (List.mem_of_getElem? (i := 1098) (by decide +kernel)) (by decide +kernel)
theorem fd_RX9_40 : sn_Fd RX9 40 9 17 := ⟨RX9, TX9, 46, rfl, ug_X9, by decide, kf_RX9_40⟩
theorem fp_RX9_237 : sn_Fp RX9 237 9 18 .int := ⟨RX9, TX9, 46, tyX9, rfl, ug_X9, by decide, kf_RX9_237, tyX9_ok, nmX9, rfl, by decide +kernel⟩
theorem kf_RX9_240 : Cond.fieldLink RX9 240 (TX9 19).1 (TX9 19).2.1 (TX9 19).2.2.1 ∈ sn_gw := sn_gwI (List.mem_of_getElem? (i := 1100) (by decide +kernel)) (by decide +kernel)
theorem fp_RX9_240 : sn_Fp RX9 240 9 19 .int := ⟨RX9, TX9, 46, tyX9, rfl, ug_X9, by decide, kf_RX9_240, tyX9_ok, nmX9, rfl, by decide +kernel⟩
theorem kf_RX9_243 : Cond.fieldLink RX9 243 (TX9 20).1 (TX9 20).2.1 (TX9 20).2.2.1 ∈ sn_gw := sn_gwI (List.mem_of_getElem? (i := 1101) (by decide +kernel)) (by decide +kernel)
theorem fp_RX9_243 : sn_Fp RX9 243 9 20 .int := ⟨RX9, TX9, 46, tyX9, rfl, ug_X9, by decide, kf_RX9_243, tyX9_ok, nmX9, rfl, by decide +kernel⟩
theorem kf_RX9_246 : Cond.fieldLink RX9 246 (TX9 21).1 (TX9 21).2.1 (TX9 21).2.2.1 ∈ sn_gw := sn_gwI (List.mem_of_getElem? (i := 1102) (by decide +kernel)) (by decide +kernel)
theorem fp_RX9_246 : sn_Fp RX9 246 9 21 .int := ⟨RX9, TX9, 46, tyX9, rfl, ug_X9, by decide, kf_RX9_246, tyX9_ok, nmX9, rfl, by decide +kernel⟩
theorem kc_X9_minutes : Cond.code yX9_minutes cX9_minutes 1 (some .int) ∈ sn_gw := sn_gwI (List.mem_of_getElem? (i := 1360) (by decide +kernel)) (by decide +kernel)
theorem km_RX9_249 : Cond.methodLink RX9 249 yX9_minutes ∈ sn_gw := sn_gwI (List.mem_of_getElem? (i := 1357) (by decide +kernel)) (by decide +kernel)
theorem kin_X9_minutes : Cond.instanceMethod yX9_minutes ∈ sn_gw := sn_gwI (List.mem_of_getElem? (i := 1359) (by decide +kernel)) (by decide +kernel)
theorem ks_X9_minutes : Cond.selects RX9 yX9_minutes yX9_minutes ∈ sn_gw := sn_gwS (q := (yX9_minutes, 46)) (List.mem_of_getElem? (i := 59) (by decide +kernel)) (by decide +kernel)
theorem kl_RX9_249 : sn_LV RX9 249 yX9_minutes cX9_minutes 1 (some .int) 0 := ⟨sn_lv5 km_RX9_249 kin_X9_minutes ks_X9_minutes ki_RX9 kc_X9_minutes, by decide +kernel⟩
theorem kf_RX9_251 : Cond.fieldLink RX9 251 (TX9 22).1 (TX9 22).2.1 (TX9 22).2.2.1 ∈ sn_gw := sn_gwI (List.mem_of_getElem? (i := 1103) (by decide +kernel)) (by decide +kernel)
theorem fp_RX9_251 : sn_Fp RX9 251 9 22 .int := ⟨RX9, TX9, 46, tyX9, rfl, ug_X9, by decide, kf_RX9_251, tyX9_ok, nmX9, rfl, by decide +kernel⟩
theorem fd_RX9_240 : sn_Fd RX9 240 9 19 := ⟨RX9, TX9, 46, rfl, ug_X9, by decide, kf_RX9_240⟩
theorem kc_X9_bit : Cond.code yX9_bit cX9_bit 2 (some .int) ∈ sn_gw := sn_gwI (List.mem_of_getElem? (i := 1367) (by decide +kernel)) (by decide +kernel)
theorem km_RX9_254 : Cond.methodLink RX9 254 yX9_bit ∈ sn_gw := sn_gwI (List.mem_of_getElem? (i := 1365) (by decide +kernel)) (by decide +kernel)
theorem kst_X9_bit : Cond.static yX9_bit ∈ sn_gw := sn_gwI (List.mem_of_getElem? (i := 1366) (by decide +kernel)) (by decide +kernel)
theorem kl_RX9_254 : sn_LS RX9 254 yX9_bit cX9_bit 2 (some .int) 2 := ⟨sn_ls4 km_RX9_254 kst_X9_bit ki_RX9 kc_X9_bit, by decide +kernel⟩
theorem kf_RX9_46 : Cond.fieldLink RX9 46 (TX9 24).1 (TX9 24).2.1 (TX9 24).2.2.1 ∈ sn_gw := sn_gwI (List.mem_of_getElem? (i := 1105) (by decide +kernel)) (by decide +kernel)
theorem fd_RX9_46 : sn_Fd RX9 46 9 24 := ⟨RX9, TX9, 46, rfl, ug_X9, by decide, kf_RX9_46⟩
theorem kf_RX9_49 : Cond.fieldLink RX9 49 (TX9 25).1 (TX9 25).2.1 (TX9 25).2.2.1 ∈ sn_gw := sn_gwI (List.mem_of_getElem? (i := 1106) (by decide +kernel)) (by decide +kernel)
theorem fd_RX9_49 : sn_Fd RX9 49 9 25 := ⟨RX9, TX9, 46, rfl, ug_X9, by decide, kf_RX9_49⟩
theorem kf_RX9_55 : Cond.fieldLink RX9 55 (TX9 27).1 (TX9 27).2.1 (TX9 27).2.2.1 ∈ sn_gw := sn_gwI (List.mem_of_getElem? (i := 1108) (by decide +kernel)) (by decide +kernel)
theorem fd_RX9_55 : sn_Fd RX9 55 9 27 := ⟨RX9, TX9, 46, rfl, ug_X9, by decide, kf_RX9_55⟩
theorem kf_RX9_52 : Cond.fieldLink RX9 52 (TX9 26).1 (TX9 26).2.1 (TX9 26).2.2.1 ∈ sn_gw := sn_gwI (List.mem_of_getElem? (i := 1107) (by decide +kernel)) (by decide +kernel)
theorem fd_RX9_52 : sn_Fd RX9 52 9 26 := ⟨RX9, TX9, 46, rfl, ug_X9, by decide, kf_RX9_52⟩
theorem kf_RX9_43 : Cond.fieldLink RX9 43 (TX9 23).1 (TX9 23).2.1 (TX9 23).2.2.1 ∈ sn_gw := sn_gwI (List.mem_of_getElem? (i := 1104) (by decide +kernel)) (by decide +kernel)
theorem fd_RX9_43 : sn_Fd RX9 43 9 23 := ⟨RX9, TX9, 46, rfl, ug_X9, by decide, kf_RX9_43⟩
theorem kc_X9_netsTo : Cond.code yX9_netsTo cX9_netsTo 7 (some .int) ∈ sn_gw := sn_gwI (List.mem_of_getElem? (i := 1364) (by decide +kernel)) (by decide +kernel)
theorem km_RX9_257 : Cond.methodLink RX9 257 yX9_netsTo ∈ sn_gw := sn_gwI (List.mem_of_getElem? (i := 1361) (by decide +kernel)) (by decide +kernel)
theorem kin_X9_netsTo : Cond.instanceMethod yX9_netsTo ∈ sn_gw := sn_gwI (List.mem_of_getElem? (i := 1363) (by decide +kernel)) (by decide +kernel)
theorem ks_X9_netsTo : Cond.selects RX9 yX9_netsTo yX9_netsTo ∈ sn_gw := sn_gwS (q := (yX9_netsTo, 46)) (List.mem_of_getElem? (i := 60) (by decide +kernel)) (by decide +kernel)
theorem kl_RX9_257 : sn_LV RX9 257 yX9_netsTo cX9_netsTo 7 (some .int) 2 := ⟨sn_lv5 km_RX9_257 kin_X9_netsTo ks_X9_netsTo ki_RX9 kc_X9_netsTo, by decide +kernel⟩
theorem fd_RX9_251 : sn_Fd RX9 251 9 22 := ⟨RX9, TX9, 46, rfl, ug_X9, by decide, kf_RX9_251⟩
theorem kc_X9_goMinute : Cond.code yX9_goMinute cX9_goMinute 8 none ∈ sn_gw := sn_gwI (List.mem_of_getElem? (i := 1387) (by decide +kernel)) (by decide +kernel)
theorem km_RX9_260 : Cond.methodLink RX9 260 yX9_goMinute ∈ sn_gw := sn_gwI (List.mem_of_getElem? (i := 1384) (by decide +kernel)) (by decide +kernel)
theorem kin_X9_goMinute : Cond.instanceMethod yX9_goMinute ∈ sn_gw := sn_gwI (List.mem_of_getElem? (i := 1386) (by decide +kernel)) (by decide +kernel)
theorem ks_X9_goMinute : Cond.selects RX9 yX9_goMinute yX9_goMinute ∈ sn_gw := sn_gwS (q := (yX9_goMinute, 46)) (List.mem_of_getElem? (i := 64) (by decide +kernel)) (by decide +kernel)
theorem kl_RX9_260 : sn_LV RX9 260 yX9_goMinute cX9_goMinute 8 none 1 := ⟨sn_lv5 km_RX9_260 kin_X9_goMinute ks_X9_goMinute ki_RX9 kc_X9_goMinute, by decide +kernel⟩
theorem kc_X9_asItIs : Cond.code yX9_asItIs cX9_asItIs 5 none ∈ sn_gw := sn_gwI (List.mem_of_getElem? (i := 1356) (by decide +kernel)) (by decide +kernel)
theorem km_RX9_263 : Cond.methodLink RX9 263 yX9_asItIs ∈ sn_gw := sn_gwI (List.mem_of_getElem? (i := 1353) (by decide +kernel)) (by decide +kernel)
theorem kin_X9_asItIs : Cond.instanceMethod yX9_asItIs ∈ sn_gw := sn_gwI (List.mem_of_getElem? (i := 1355) (by decide +kernel)) (by decide +kernel)
theorem ks_X9_asItIs : Cond.selects RX9 yX9_asItIs yX9_asItIs ∈ sn_gw := sn_gwS (q := (yX9_asItIs, 46)) (List.mem_of_getElem? (i := 58) (by decide +kernel)) (by decide +kernel)
theorem kl_RX9_263 : sn_LV RX9 263 yX9_asItIs cX9_asItIs 5 none 0 := ⟨sn_lv5 km_RX9_263 kin_X9_asItIs ks_X9_asItIs ki_RX9 kc_X9_asItIs, by decide +kernel⟩
theorem kc_X9_goAll : Cond.code yX9_goAll cX9_goAll 2 none ∈ sn_gw := sn_gwI (List.mem_of_getElem? (i := 1383) (by decide +kernel)) (by decide +kernel)
theorem km_RX9_266 : Cond.methodLink RX9 266 yX9_goAll ∈ sn_gw := sn_gwI (List.mem_of_getElem? (i := 1380) (by decide +kernel)) (by decide +kernel)
theorem kin_X9_goAll : Cond.instanceMethod yX9_goAll ∈ sn_gw := sn_gwI (List.mem_of_getElem? (i := 1382) (by decide +kernel)) (by decide +kernel)
theorem ks_X9_goAll : Cond.selects RX9 yX9_goAll yX9_goAll ∈ sn_gw := sn_gwS (q := (yX9_goAll, 46)) (List.mem_of_getElem? (i := 63) (by decide +kernel)) (by decide +kernel)
theorem kl_RX9_266 : sn_LV RX9 266 yX9_goAll cX9_goAll 2 none 0 := ⟨sn_lv5 km_RX9_266 kin_X9_goAll ks_X9_goAll ki_RX9 kc_X9_goAll, by decide +kernel⟩
theorem kc_X9_isHouse : Cond.code yX9_isHouse cX9_isHouse 1 (some .boolean) ∈ sn_gw := sn_gwI (List.mem_of_getElem? (i := 1391) (by decide +kernel)) (by decide +kernel)
theorem km_RX9_269 : Cond.methodLink RX9 269 yX9_isHouse ∈ sn_gw := sn_gwI (List.mem_of_getElem? (i := 1388) (by decide +kernel)) (by decide +kernel)
theorem kin_X9_isHouse : Cond.instanceMethod yX9_isHouse ∈ sn_gw := sn_gwI (List.mem_of_getElem? (i := 1390) (by decide +kernel)) (by decide +kernel)
theorem ks_X9_isHouse : Cond.selects RX9 yX9_isHouse yX9_isHouse ∈ sn_gw := sn_gwS (q := (yX9_isHouse, 46)) (List.mem_of_getElem? (i := 65) (by decide +kernel)) (by decide +kernel)
theorem kl_RX9_269 : sn_LV RX9 269 yX9_isHouse cX9_isHouse 1 (some .boolean) 0 := ⟨sn_lv5 km_RX9_269 kin_X9_isHouse ks_X9_isHouse ki_RX9 kc_X9_isHouse, by decide +kernel⟩
theorem kc_X9_asksHouse : Cond.code yX9_asksHouse cX9_asksHouse 1 (some .boolean) ∈ sn_gw := sn_gwI (List.mem_of_getElem? (i := 1379) (by decide +kernel)) (by decide +kernel)
theorem km_RX9_272 : Cond.methodLink RX9 272 yX9_asksHouse ∈ sn_gw := sn_gwI (List.mem_of_getElem? (i := 1376) (by decide +kernel)) (by decide +kernel)
theorem kin_X9_asksHouse : Cond.instanceMethod yX9_asksHouse ∈ sn_gw := sn_gwI (List.mem_of_getElem? (i := 1378) (by decide +kernel)) (by decide +kernel)
theorem ks_X9_asksHouse : Cond.selects RX9 yX9_asksHouse yX9_asksHouse ∈ sn_gw := sn_gwS (q := (yX9_asksHouse, 46)) (List.mem_of_getElem? (i := 62) (by decide +kernel)) (by decide +kernel)
theorem kl_RX9_272 : sn_LV RX9 272 yX9_asksHouse cX9_asksHouse 1 (some .boolean) 0 := ⟨sn_lv5 km_RX9_272 kin_X9_asksHouse ks_X9_asksHouse ki_RX9 kc_X9_asksHouse, by decide +kernel⟩
theorem kc_X9_isMinute : Cond.code yX9_isMinute cX9_isMinute 3 (some .boolean) ∈ sn_gw := sn_gwI (List.mem_of_getElem? (i := 1395) (by decide +kernel)) (by decide +kernel)
theorem km_RX9_275 : Cond.methodLink RX9 275 yX9_isMinute ∈ sn_gw := sn_gwI (List.mem_of_getElem? (i := 1392) (by decide +kernel)) (by decide +kernel)
theorem kin_X9_isMinute : Cond.instanceMethod yX9_isMinute ∈ sn_gw := sn_gwI (List.mem_of_getElem? (i := 1394) (by decide +kernel)) (by decide +kernel)
theorem ks_X9_isMinute : Cond.selects RX9 yX9_isMinute yX9_isMinute ∈ sn_gw := sn_gwS (q := (yX9_isMinute, 46)) (List.mem_of_getElem? (i := 66) (by decide +kernel)) (by decide +kernel)
theorem kl_RX9_275 : sn_LV RX9 275 yX9_isMinute cX9_isMinute 3 (some .boolean) 1 := ⟨sn_lv5 km_RX9_275 kin_X9_isMinute ks_X9_isMinute ki_RX9 kc_X9_isMinute, by decide +kernel⟩
theorem kc_X9_bits : Cond.code yX9_bits cX9_bits 3 (some .int) ∈ sn_gw := sn_gwI (List.mem_of_getElem? (i := 1421) (by decide +kernel)) (by decide +kernel)
theorem km_RX9_278 : Cond.methodLink RX9 278 yX9_bits ∈ sn_gw := sn_gwI (List.mem_of_getElem? (i := 1419) (by decide +kernel)) (by decide +kernel)
theorem kst_X9_bits : Cond.static yX9_bits ∈ sn_gw := sn_gwI (List.mem_of_getElem? (i := 1420) (by decide +kernel)) (by decide +kernel)
theorem kl_RX9_278 : sn_LS RX9 278 yX9_bits cX9_bits 3 (some .int) 1 := ⟨sn_ls4 km_RX9_278 kst_X9_bits ki_RX9 kc_X9_bits, by decide +kernel⟩
theorem kc_X9_asksMinute : Cond.code yX9_asksMinute cX9_asksMinute 2 (some .boolean) ∈ sn_gw := sn_gwI (List.mem_of_getElem? (i := 1375) (by decide +kernel)) (by decide +kernel)
theorem km_RX9_281 : Cond.methodLink RX9 281 yX9_asksMinute ∈ sn_gw := sn_gwI (List.mem_of_getElem? (i := 1372) (by decide +kernel)) (by decide +kernel)
theorem kin_X9_asksMinute : Cond.instanceMethod yX9_asksMinute ∈ sn_gw := sn_gwI (List.mem_of_getElem? (i := 1374) (by decide +kernel)) (by decide +kernel)
theorem ks_X9_asksMinute : Cond.selects RX9 yX9_asksMinute yX9_asksMinute ∈ sn_gw := sn_gwS (q := (yX9_asksMinute, 46)) (List.mem_of_getElem? (i := 61) (by decide +kernel)) (by decide +kernel)
theorem kl_RX9_281 : sn_LV RX9 281 yX9_asksMinute cX9_asksMinute 2 (some .boolean) 1 := ⟨sn_lv5 km_RX9_281 kin_X9_asksMinute ks_X9_asksMinute ki_RX9 kc_X9_asksMinute, by decide +kernel⟩
theorem kc_X9_asksPerson : Cond.code yX9_asksPerson cX9_asksPerson 2 (some .boolean) ∈ sn_gw := sn_gwI (List.mem_of_getElem? (i := 1403) (by decide +kernel)) (by decide +kernel)
theorem km_RX9_284 : Cond.methodLink RX9 284 yX9_asksPerson ∈ sn_gw := sn_gwI (List.mem_of_getElem? (i := 1400) (by decide +kernel)) (by decide +kernel)
theorem kin_X9_asksPerson : Cond.instanceMethod yX9_asksPerson ∈ sn_gw := sn_gwI (List.mem_of_getElem? (i := 1402) (by decide +kernel)) (by decide +kernel)
theorem ks_X9_asksPerson : Cond.selects RX9 yX9_asksPerson yX9_asksPerson ∈ sn_gw := sn_gwS (q := (yX9_asksPerson, 46)) (List.mem_of_getElem? (i := 67) (by decide +kernel)) (by decide +kernel)
theorem kl_RX9_284 : sn_LV RX9 284 yX9_asksPerson cX9_asksPerson 2 (some .boolean) 1 := ⟨sn_lv5 km_RX9_284 kin_X9_asksPerson ks_X9_asksPerson ki_RX9 kc_X9_asksPerson, by decide +kernel⟩
theorem kc_X9_firstOf : Cond.code yX9_firstOf cX9_firstOf 2 (some .int) ∈ sn_gw := sn_gwI (List.mem_of_getElem? (i := 1410) (by decide +kernel)) (by decide +kernel)
theorem km_RX9_287 : Cond.methodLink RX9 287 yX9_firstOf ∈ sn_gw := sn_gwI (List.mem_of_getElem? (i := 1408) (by decide +kernel)) (by decide +kernel)
theorem kst_X9_firstOf : Cond.static yX9_firstOf ∈ sn_gw := sn_gwI (List.mem_of_getElem? (i := 1409) (by decide +kernel)) (by decide +kernel)
theorem kl_RX9_287 : sn_LS RX9 287 yX9_firstOf cX9_firstOf 2 (some .int) 1 := ⟨sn_ls4 km_RX9_287 kst_X9_firstOf ki_RX9 kc_X9_firstOf, by decide +kernel⟩
theorem kc_X9_allSneezes : Cond.code yX9_allSneezes cX9_allSneezes 3 (some .int) ∈ sn_gw := sn_gwI (List.mem_of_getElem? (i := 1418) (by decide +kernel)) (by decide +kernel)
theorem km_RX9_290 : Cond.methodLink RX9 290 yX9_allSneezes ∈ sn_gw := sn_gwI (List.mem_of_getElem? (i := 1415) (by decide +kernel)) (by decide +kernel)
theorem kin_X9_allSneezes : Cond.instanceMethod yX9_allSneezes ∈ sn_gw := sn_gwI (List.mem_of_getElem? (i := 1417) (by decide +kernel)) (by decide +kernel)
theorem ks_X9_allSneezes : Cond.selects RX9 yX9_allSneezes yX9_allSneezes ∈ sn_gw := sn_gwS (q := (yX9_allSneezes, 46)) (List.mem_of_getElem? (i := 68) (by decide +kernel)) (by decide +kernel)
theorem kl_RX9_290 : sn_LV RX9 290 yX9_allSneezes cX9_allSneezes 3 (some .int) 0 := ⟨sn_lv5 km_RX9_290 kin_X9_allSneezes ks_X9_allSneezes ki_RX9 kc_X9_allSneezes, by decide +kernel⟩
theorem km_RX9_293 : Cond.methodLink RX9 293 Lib.Math.max.name ∈ sn_gw := sn_gwI (List.mem_of_getElem? (i := 1434) (by decide +kernel)) (by decide +kernel)
theorem kst_maxI : Cond.static Lib.Math.max.name ∈ sn_gw := sn_gwI (List.mem_of_getElem? (i := 614) (by decide +kernel)) (by decide +kernel)
theorem kc_maxI : Cond.code Lib.Math.max.name Lib.Math.max.code 2 (some .int) ∈ sn_gw := sn_gwI (List.mem_of_getElem? (i := 615) (by decide +kernel)) (by decide +kernel)
theorem kk_RX9_296 : Cond.constant RX9 296 (1000000000) ∈ sn_gw := sn_gwI (List.mem_of_getElem? (i := 1459) (by decide +kernel)) (by decide +kernel)
theorem kc_X9_firstFrom : Cond.code yX9_firstFrom cX9_firstFrom 3 (some .int) ∈ sn_gw := sn_gwI (List.mem_of_getElem? (i := 1462) (by decide +kernel)) (by decide +kernel)
theorem km_RX9_297 : Cond.methodLink RX9 297 yX9_firstFrom ∈ sn_gw := sn_gwI (List.mem_of_getElem? (i := 1460) (by decide +kernel)) (by decide +kernel)
theorem kst_X9_firstFrom : Cond.static yX9_firstFrom ∈ sn_gw := sn_gwI (List.mem_of_getElem? (i := 1461) (by decide +kernel)) (by decide +kernel)
theorem kl_RX9_297 : sn_LS RX9 297 yX9_firstFrom cX9_firstFrom 3 (some .int) 2 := ⟨sn_ls4 km_RX9_297 kst_X9_firstFrom ki_RX9 kc_X9_firstFrom, by decide +kernel⟩
theorem kf_RX9_58 : Cond.fieldLink RX9 58 (TX9 28).1 (TX9 28).2.1 (TX9 28).2.2.1 ∈ sn_gw := sn_gwI (List.mem_of_getElem? (i := 1109) (by decide +kernel)) (by decide +kernel)
theorem fd_RX9_58 : sn_Fd RX9 58 9 28 := ⟨RX9, TX9, 46, rfl, ug_X9, by decide, kf_RX9_58⟩
theorem kc_X9_quietBy : Cond.code yX9_quietBy cX9_quietBy 10 (some .int) ∈ sn_gw := sn_gwI (List.mem_of_getElem? (i := 1482) (by decide +kernel)) (by decide +kernel)
theorem km_RX9_300 : Cond.methodLink RX9 300 yX9_quietBy ∈ sn_gw := sn_gwI (List.mem_of_getElem? (i := 1479) (by decide +kernel)) (by decide +kernel)
theorem kin_X9_quietBy : Cond.instanceMethod yX9_quietBy ∈ sn_gw := sn_gwI (List.mem_of_getElem? (i := 1481) (by decide +kernel)) (by decide +kernel)
theorem ks_X9_quietBy : Cond.selects RX9 yX9_quietBy yX9_quietBy ∈ sn_gw := sn_gwS (q := (yX9_quietBy, 46)) (List.mem_of_getElem? (i := 69) (by decide +kernel)) (by decide +kernel)
theorem kl_RX9_300 : sn_LV RX9 300 yX9_quietBy cX9_quietBy 10 (some .int) 4 := ⟨sn_lv5 km_RX9_300 kin_X9_quietBy ks_X9_quietBy ki_RX9 kc_X9_quietBy, by decide +kernel⟩
theorem fd_RX9_243 : sn_Fd RX9 243 9 20 := ⟨RX9, TX9, 46, rfl, ug_X9, by decide, kf_RX9_243⟩
theorem kf_RX9_61 : Cond.fieldLink RX9 61 (TX9 29).1 (TX9 29).2.1 (TX9 29).2.2.1 ∈ sn_gw := sn_gwI (List.mem_of_getElem? (i := 1110) (by decide +kernel)) (by decide +kernel)
theorem fd_RX9_61 : sn_Fd RX9 61 9 29 := ⟨RX9, TX9, 46, rfl, ug_X9, by decide, kf_RX9_61⟩
theorem kc_X9_windowOf : Cond.code yX9_windowOf cX9_windowOf 4 (some .int) ∈ sn_gw := sn_gwI (List.mem_of_getElem? (i := 1510) (by decide +kernel)) (by decide +kernel)
theorem km_RX9_304 : Cond.methodLink RX9 304 yX9_windowOf ∈ sn_gw := sn_gwI (List.mem_of_getElem? (i := 1507) (by decide +kernel)) (by decide +kernel)
theorem kin_X9_windowOf : Cond.instanceMethod yX9_windowOf ∈ sn_gw := sn_gwI (List.mem_of_getElem? (i := 1509) (by decide +kernel)) (by decide +kernel)
theorem ks_X9_windowOf : Cond.selects RX9 yX9_windowOf yX9_windowOf ∈ sn_gw := sn_gwS (q := (yX9_windowOf, 46)) (List.mem_of_getElem? (i := 73) (by decide +kernel)) (by decide +kernel)
theorem kl_RX9_304 : sn_LV RX9 304 yX9_windowOf cX9_windowOf 4 (some .int) 1 := ⟨sn_lv5 km_RX9_304 kin_X9_windowOf ks_X9_windowOf ki_RX9 kc_X9_windowOf, by decide +kernel⟩
theorem kc_X9_ahead : Cond.code yX9_ahead cX9_ahead 2 (some .int) ∈ sn_gw := sn_gwI (List.mem_of_getElem? (i := 1514) (by decide +kernel)) (by decide +kernel)
theorem km_RX9_310 : Cond.methodLink RX9 310 yX9_ahead ∈ sn_gw := sn_gwI (List.mem_of_getElem? (i := 1511) (by decide +kernel)) (by decide +kernel)
theorem kin_X9_ahead : Cond.instanceMethod yX9_ahead ∈ sn_gw := sn_gwI (List.mem_of_getElem? (i := 1513) (by decide +kernel)) (by decide +kernel)
theorem ks_X9_ahead : Cond.selects RX9 yX9_ahead yX9_ahead ∈ sn_gw := sn_gwS (q := (yX9_ahead, 46)) (List.mem_of_getElem? (i := 74) (by decide +kernel)) (by decide +kernel)
theorem kl_RX9_310 : sn_LV RX9 310 yX9_ahead cX9_ahead 2 (some .int) 1 := ⟨sn_lv5 km_RX9_310 kin_X9_ahead ks_X9_ahead ki_RX9 kc_X9_ahead, by decide +kernel⟩
theorem kf_RX9_307 : Cond.fieldLink RX9 307 (TX9 30).1 (TX9 30).2.1 (TX9 30).2.2.1 ∈ sn_gw := sn_gwI (List.mem_of_getElem? (i := 1111) (by decide +kernel)) (by decide +kernel)
theorem fp_RX9_307 : sn_Fp RX9 307 9 30 .int := ⟨RX9, TX9, 46, tyX9, rfl, ug_X9, by decide, kf_RX9_307, tyX9_ok, nmX9, rfl, by decide +kernel⟩
theorem kc_X9_claimOf : Cond.code yX9_claimOf cX9_claimOf 11 (some .int) ∈ sn_gw := sn_gwI (List.mem_of_getElem? (i := 1506) (by decide +kernel)) (by decide +kernel)
theorem km_RX9_313 : Cond.methodLink RX9 313 yX9_claimOf ∈ sn_gw := sn_gwI (List.mem_of_getElem? (i := 1503) (by decide +kernel)) (by decide +kernel)
theorem kin_X9_claimOf : Cond.instanceMethod yX9_claimOf ∈ sn_gw := sn_gwI (List.mem_of_getElem? (i := 1505) (by decide +kernel)) (by decide +kernel)
theorem ks_X9_claimOf : Cond.selects RX9 yX9_claimOf yX9_claimOf ∈ sn_gw := sn_gwS (q := (yX9_claimOf, 46)) (List.mem_of_getElem? (i := 72) (by decide +kernel)) (by decide +kernel)
theorem kl_RX9_313 : sn_LV RX9 313 yX9_claimOf cX9_claimOf 11 (some .int) 3 := ⟨sn_lv5 km_RX9_313 kin_X9_claimOf ks_X9_claimOf ki_RX9 kc_X9_claimOf, by decide +kernel⟩
theorem fd_RX9_246 : sn_Fd RX9 246 9 21 := ⟨RX9, TX9, 46, rfl, ug_X9, by decide, kf_RX9_246⟩
theorem kc_X9_moneyAt : Cond.code yX9_moneyAt cX9_moneyAt 4 (some .int) ∈ sn_gw := sn_gwI (List.mem_of_getElem? (i := 1535) (by decide +kernel)) (by decide +kernel)
theorem km_RX9_320 : Cond.methodLink RX9 320 yX9_moneyAt ∈ sn_gw := sn_gwI (List.mem_of_getElem? (i := 1532) (by decide +kernel)) (by decide +kernel)
theorem kin_X9_moneyAt : Cond.instanceMethod yX9_moneyAt ∈ sn_gw := sn_gwI (List.mem_of_getElem? (i := 1534) (by decide +kernel)) (by decide +kernel)
theorem ks_X9_moneyAt : Cond.selects RX9 yX9_moneyAt yX9_moneyAt ∈ sn_gw := sn_gwS (q := (yX9_moneyAt, 46)) (List.mem_of_getElem? (i := 76) (by decide +kernel)) (by decide +kernel)
theorem kl_RX9_320 : sn_LV RX9 320 yX9_moneyAt cX9_moneyAt 4 (some .int) 1 := ⟨sn_lv5 km_RX9_320 kin_X9_moneyAt ks_X9_moneyAt ki_RX9 kc_X9_moneyAt, by decide +kernel⟩
theorem kc_X9_layPaid : Cond.code yX9_layPaid cX9_layPaid 2 none ∈ sn_gw := sn_gwI (List.mem_of_getElem? (i := 1531) (by decide +kernel)) (by decide +kernel)
theorem km_RX9_317 : Cond.methodLink RX9 317 yX9_layPaid ∈ sn_gw := sn_gwI (List.mem_of_getElem? (i := 1528) (by decide +kernel)) (by decide +kernel)
theorem kin_X9_layPaid : Cond.instanceMethod yX9_layPaid ∈ sn_gw := sn_gwI (List.mem_of_getElem? (i := 1530) (by decide +kernel)) (by decide +kernel)
theorem ks_X9_layPaid : Cond.selects RX9 yX9_layPaid yX9_layPaid ∈ sn_gw := sn_gwS (q := (yX9_layPaid, 46)) (List.mem_of_getElem? (i := 75) (by decide +kernel)) (by decide +kernel)
theorem kl_RX9_317 : sn_LV RX9 317 yX9_layPaid cX9_layPaid 2 none 0 := ⟨sn_lv5 km_RX9_317 kin_X9_layPaid ks_X9_layPaid ki_RX9 kc_X9_layPaid, by decide +kernel⟩
theorem kc_X9_asksPolicy : Cond.code yX9_asksPolicy cX9_asksPolicy 2 (some .boolean) ∈ sn_gw := sn_gwI (List.mem_of_getElem? (i := 1498) (by decide +kernel)) (by decide +kernel)
theorem km_RX9_323 : Cond.methodLink RX9 323 yX9_asksPolicy ∈ sn_gw := sn_gwI (List.mem_of_getElem? (i := 1495) (by decide +kernel)) (by decide +kernel)
theorem kin_X9_asksPolicy : Cond.instanceMethod yX9_asksPolicy ∈ sn_gw := sn_gwI (List.mem_of_getElem? (i := 1497) (by decide +kernel)) (by decide +kernel)
theorem ks_X9_asksPolicy : Cond.selects RX9 yX9_asksPolicy yX9_asksPolicy ∈ sn_gw := sn_gwS (q := (yX9_asksPolicy, 46)) (List.mem_of_getElem? (i := 70) (by decide +kernel)) (by decide +kernel)
theorem kl_RX9_323 : sn_LV RX9 323 yX9_asksPolicy cX9_asksPolicy 2 (some .boolean) 1 := ⟨sn_lv5 km_RX9_323 kin_X9_asksPolicy ks_X9_asksPolicy ki_RX9 kc_X9_asksPolicy, by decide +kernel⟩
theorem kc_X9_claimOf_ : Cond.code yX9_claimOf_ cX9_claimOf_ 2 (some .int) ∈ sn_gw := sn_gwI (List.mem_of_getElem? (i := 1502) (by decide +kernel)) (by decide +kernel)
theorem km_RX9_326 : Cond.methodLink RX9 326 yX9_claimOf_ ∈ sn_gw := sn_gwI (List.mem_of_getElem? (i := 1499) (by decide +kernel)) (by decide +kernel)
theorem kin_X9_claimOf_ : Cond.instanceMethod yX9_claimOf_ ∈ sn_gw := sn_gwI (List.mem_of_getElem? (i := 1501) (by decide +kernel)) (by decide +kernel)
theorem ks_X9_claimOf_ : Cond.selects RX9 yX9_claimOf_ yX9_claimOf_ ∈ sn_gw := sn_gwS (q := (yX9_claimOf_, 46)) (List.mem_of_getElem? (i := 71) (by decide +kernel)) (by decide +kernel)
theorem kl_RX9_326 : sn_LV RX9 326 yX9_claimOf_ cX9_claimOf_ 2 (some .int) 1 := ⟨sn_lv5 km_RX9_326 kin_X9_claimOf_ ks_X9_claimOf_ ki_RX9 kc_X9_claimOf_, by decide +kernel⟩
theorem fd_RX9_307 : sn_Fd RX9 307 9 30 := ⟨RX9, TX9, 46, rfl, ug_X9, by decide, kf_RX9_307⟩
theorem kk_RX9_328 : Cond.constant RX9 328 (-100000) ∈ sn_gw := sn_gwI (List.mem_of_getElem? (i := 1527) (by decide +kernel)) (by decide +kernel)
theorem kc_X9_ruinOf : Cond.code yX9_ruinOf cX9_ruinOf 2 (some .int) ∈ sn_gw := sn_gwI (List.mem_of_getElem? (i := 1543) (by decide +kernel)) (by decide +kernel)
theorem km_RX9_329 : Cond.methodLink RX9 329 yX9_ruinOf ∈ sn_gw := sn_gwI (List.mem_of_getElem? (i := 1540) (by decide +kernel)) (by decide +kernel)
theorem kin_X9_ruinOf : Cond.instanceMethod yX9_ruinOf ∈ sn_gw := sn_gwI (List.mem_of_getElem? (i := 1542) (by decide +kernel)) (by decide +kernel)
theorem ks_X9_ruinOf : Cond.selects RX9 yX9_ruinOf yX9_ruinOf ∈ sn_gw := sn_gwS (q := (yX9_ruinOf, 46)) (List.mem_of_getElem? (i := 77) (by decide +kernel)) (by decide +kernel)
theorem kl_RX9_329 : sn_LV RX9 329 yX9_ruinOf cX9_ruinOf 2 (some .int) 0 := ⟨sn_lv5 km_RX9_329 kin_X9_ruinOf ks_X9_ruinOf ki_RX9 kc_X9_ruinOf, by decide +kernel⟩
theorem kc_X9_coveredOf : Cond.code yX9_coveredOf cX9_coveredOf 4 (some .int) ∈ sn_gw := sn_gwI (List.mem_of_getElem? (i := 1551) (by decide +kernel)) (by decide +kernel)
theorem km_RX9_332 : Cond.methodLink RX9 332 yX9_coveredOf ∈ sn_gw := sn_gwI (List.mem_of_getElem? (i := 1548) (by decide +kernel)) (by decide +kernel)
theorem kin_X9_coveredOf : Cond.instanceMethod yX9_coveredOf ∈ sn_gw := sn_gwI (List.mem_of_getElem? (i := 1550) (by decide +kernel)) (by decide +kernel)
theorem ks_X9_coveredOf : Cond.selects RX9 yX9_coveredOf yX9_coveredOf ∈ sn_gw := sn_gwS (q := (yX9_coveredOf, 46)) (List.mem_of_getElem? (i := 78) (by decide +kernel)) (by decide +kernel)
theorem kl_RX9_332 : sn_LV RX9 332 yX9_coveredOf cX9_coveredOf 4 (some .int) 1 := ⟨sn_lv5 km_RX9_332 kin_X9_coveredOf ks_X9_coveredOf ki_RX9 kc_X9_coveredOf, by decide +kernel⟩
theorem kc_X9_isLaw : Cond.code yX9_isLaw cX9_isLaw 1 (some .boolean) ∈ sn_gw := sn_gwI (List.mem_of_getElem? (i := 1582) (by decide +kernel)) (by decide +kernel)
theorem km_RX9_335 : Cond.methodLink RX9 335 yX9_isLaw ∈ sn_gw := sn_gwI (List.mem_of_getElem? (i := 1580) (by decide +kernel)) (by decide +kernel)
theorem kst_X9_isLaw : Cond.static yX9_isLaw ∈ sn_gw := sn_gwI (List.mem_of_getElem? (i := 1581) (by decide +kernel)) (by decide +kernel)
theorem kl_RX9_335 : sn_LS RX9 335 yX9_isLaw cX9_isLaw 1 (some .boolean) 1 := ⟨sn_ls4 km_RX9_335 kst_X9_isLaw ki_RX9 kc_X9_isLaw, by decide +kernel⟩
theorem kc_X9_byLaw : Cond.code yX9_byLaw cX9_byLaw 2 (some .int) ∈ sn_gw := sn_gwI (List.mem_of_getElem? (i := 1587) (by decide +kernel)) (by decide +kernel)
theorem km_RX9_338 : Cond.methodLink RX9 338 yX9_byLaw ∈ sn_gw := sn_gwI (List.mem_of_getElem? (i := 1584) (by decide +kernel)) (by decide +kernel)
theorem kin_X9_byLaw : Cond.instanceMethod yX9_byLaw ∈ sn_gw := sn_gwI (List.mem_of_getElem? (i := 1586) (by decide +kernel)) (by decide +kernel)
theorem ks_X9_byLaw : Cond.selects RX9 yX9_byLaw yX9_byLaw ∈ sn_gw := sn_gwS (q := (yX9_byLaw, 46)) (List.mem_of_getElem? (i := 79) (by decide +kernel)) (by decide +kernel)
theorem kl_RX9_338 : sn_LV RX9 338 yX9_byLaw cX9_byLaw 2 (some .int) 1 := ⟨sn_lv5 km_RX9_338 kin_X9_byLaw ks_X9_byLaw ki_RX9 kc_X9_byLaw, by decide +kernel⟩
theorem kf_RX9_341 : Cond.fieldLink RX9 341 (TX9 31).1 (TX9 31).2.1 (TX9 31).2.2.1 ∈ sn_gw := sn_gwI (List.mem_of_getElem? (i := 1112) (by decide +kernel)) (by decide +kernel)
theorem fd_RX9_341 : sn_Fd RX9 341 9 31 := ⟨RX9, TX9, 46, rfl, ug_X9, by decide, kf_RX9_341⟩
theorem fp_RX9_341 : sn_Fp RX9 341 9 31 .int := ⟨RX9, TX9, 46, tyX9, rfl, ug_X9, by decide, kf_RX9_341, tyX9_ok, nmX9, rfl, by decide +kernel⟩
theorem kc_X9_takesBy : Cond.code yX9_takesBy cX9_takesBy 7 (some .int) ∈ sn_gw := sn_gwI (List.mem_of_getElem? (i := 1599) (by decide +kernel)) (by decide +kernel)
theorem km_RX9_344 : Cond.methodLink RX9 344 yX9_takesBy ∈ sn_gw := sn_gwI (List.mem_of_getElem? (i := 1596) (by decide +kernel)) (by decide +kernel)
theorem kin_X9_takesBy : Cond.instanceMethod yX9_takesBy ∈ sn_gw := sn_gwI (List.mem_of_getElem? (i := 1598) (by decide +kernel)) (by decide +kernel)
theorem ks_X9_takesBy : Cond.selects RX9 yX9_takesBy yX9_takesBy ∈ sn_gw := sn_gwS (q := (yX9_takesBy, 46)) (List.mem_of_getElem? (i := 80) (by decide +kernel)) (by decide +kernel)
theorem kl_RX9_344 : sn_LV RX9 344 yX9_takesBy cX9_takesBy 7 (some .int) 3 := ⟨sn_lv5 km_RX9_344 kin_X9_takesBy ks_X9_takesBy ki_RX9 kc_X9_takesBy, by decide +kernel⟩
theorem kc_X9_isTaken : Cond.code yX9_isTaken cX9_isTaken 4 (some .boolean) ∈ sn_gw := sn_gwI (List.mem_of_getElem? (i := 1611) (by decide +kernel)) (by decide +kernel)
theorem km_RX9_348 : Cond.methodLink RX9 348 yX9_isTaken ∈ sn_gw := sn_gwI (List.mem_of_getElem? (i := 1608) (by decide +kernel)) (by decide +kernel)
theorem kin_X9_isTaken : Cond.instanceMethod yX9_isTaken ∈ sn_gw := sn_gwI (List.mem_of_getElem? (i := 1610) (by decide +kernel)) (by decide +kernel)
theorem ks_X9_isTaken : Cond.selects RX9 yX9_isTaken yX9_isTaken ∈ sn_gw := sn_gwS (q := (yX9_isTaken, 46)) (List.mem_of_getElem? (i := 81) (by decide +kernel)) (by decide +kernel)
theorem kl_RX9_348 : sn_LV RX9 348 yX9_isTaken cX9_isTaken 4 (some .boolean) 2 := ⟨sn_lv5 km_RX9_348 kin_X9_isTaken ks_X9_isTaken ki_RX9 kc_X9_isTaken, by decide +kernel⟩
theorem kf_RX9_64 : Cond.fieldLink RX9 64 (TX9 32).1 (TX9 32).2.1 (TX9 32).2.2.1 ∈ sn_gw := sn_gwI (List.mem_of_getElem? (i := 1113) (by decide +kernel)) (by decide +kernel)
theorem fd_RX9_64 : sn_Fd RX9 64 9 32 := ⟨RX9, TX9, 46, rfl, ug_X9, by decide, kf_RX9_64⟩
theorem kf_RX9_67 : Cond.fieldLink RX9 67 (TX9 33).1 (TX9 33).2.1 (TX9 33).2.2.1 ∈ sn_gw := sn_gwI (List.mem_of_getElem? (i := 1114) (by decide +kernel)) (by decide +kernel)
theorem fd_RX9_67 : sn_Fd RX9 67 9 33 := ⟨RX9, TX9, 46, rfl, ug_X9, by decide, kf_RX9_67⟩
theorem kc_X9_tickleSince : Cond.code yX9_tickleSince cX9_tickleSince 6 (some .int) ∈ sn_gw := sn_gwI (List.mem_of_getElem? (i := 1627) (by decide +kernel)) (by decide +kernel)
theorem km_RX9_352 : Cond.methodLink RX9 352 yX9_tickleSince ∈ sn_gw := sn_gwI (List.mem_of_getElem? (i := 1624) (by decide +kernel)) (by decide +kernel)
theorem kin_X9_tickleSince : Cond.instanceMethod yX9_tickleSince ∈ sn_gw := sn_gwI (List.mem_of_getElem? (i := 1626) (by decide +kernel)) (by decide +kernel)
theorem ks_X9_tickleSince : Cond.selects RX9 yX9_tickleSince yX9_tickleSince ∈ sn_gw := sn_gwS (q := (yX9_tickleSince, 46)) (List.mem_of_getElem? (i := 84) (by decide +kernel)) (by decide +kernel)
theorem kl_RX9_352 : sn_LV RX9 352 yX9_tickleSince cX9_tickleSince 6 (some .int) 3 := ⟨sn_lv5 km_RX9_352 kin_X9_tickleSince ks_X9_tickleSince ki_RX9 kc_X9_tickleSince, by decide +kernel⟩
theorem kc_X9_layHold : Cond.code yX9_layHold cX9_layHold 9 none ∈ sn_gw := sn_gwI (List.mem_of_getElem? (i := 1623) (by decide +kernel)) (by decide +kernel)
theorem km_RX9_355 : Cond.methodLink RX9 355 yX9_layHold ∈ sn_gw := sn_gwI (List.mem_of_getElem? (i := 1620) (by decide +kernel)) (by decide +kernel)
theorem kin_X9_layHold : Cond.instanceMethod yX9_layHold ∈ sn_gw := sn_gwI (List.mem_of_getElem? (i := 1622) (by decide +kernel)) (by decide +kernel)
theorem ks_X9_layHold : Cond.selects RX9 yX9_layHold yX9_layHold ∈ sn_gw := sn_gwS (q := (yX9_layHold, 46)) (List.mem_of_getElem? (i := 83) (by decide +kernel)) (by decide +kernel)
theorem kl_RX9_355 : sn_LV RX9 355 yX9_layHold cX9_layHold 9 none 4 := ⟨sn_lv5 km_RX9_355 kin_X9_layHold ks_X9_layHold ki_RX9 kc_X9_layHold, by decide +kernel⟩
theorem kc_X9_layHolds : Cond.code yX9_layHolds cX9_layHolds 4 (some .boolean) ∈ sn_gw := sn_gwI (List.mem_of_getElem? (i := 1619) (by decide +kernel)) (by decide +kernel)
theorem km_RX9_359 : Cond.methodLink RX9 359 yX9_layHolds ∈ sn_gw := sn_gwI (List.mem_of_getElem? (i := 1616) (by decide +kernel)) (by decide +kernel)
theorem kin_X9_layHolds : Cond.instanceMethod yX9_layHolds ∈ sn_gw := sn_gwI (List.mem_of_getElem? (i := 1618) (by decide +kernel)) (by decide +kernel)
theorem ks_X9_layHolds : Cond.selects RX9 yX9_layHolds yX9_layHolds ∈ sn_gw := sn_gwS (q := (yX9_layHolds, 46)) (List.mem_of_getElem? (i := 82) (by decide +kernel)) (by decide +kernel)
theorem kl_RX9_359 : sn_LV RX9 359 yX9_layHolds cX9_layHolds 4 (some .boolean) 1 := ⟨sn_lv5 km_RX9_359 kin_X9_layHolds ks_X9_layHolds ki_RX9 kc_X9_layHolds, by decide +kernel⟩
theorem kc_X9_fraudsOf : Cond.code yX9_fraudsOf cX9_fraudsOf 7 (some .int) ∈ sn_gw := sn_gwI (List.mem_of_getElem? (i := 1639) (by decide +kernel)) (by decide +kernel)
theorem km_RX9_362 : Cond.methodLink RX9 362 yX9_fraudsOf ∈ sn_gw := sn_gwI (List.mem_of_getElem? (i := 1636) (by decide +kernel)) (by decide +kernel)
theorem kin_X9_fraudsOf : Cond.instanceMethod yX9_fraudsOf ∈ sn_gw := sn_gwI (List.mem_of_getElem? (i := 1638) (by decide +kernel)) (by decide +kernel)
theorem ks_X9_fraudsOf : Cond.selects RX9 yX9_fraudsOf yX9_fraudsOf ∈ sn_gw := sn_gwS (q := (yX9_fraudsOf, 46)) (List.mem_of_getElem? (i := 85) (by decide +kernel)) (by decide +kernel)
theorem kl_RX9_362 : sn_LV RX9 362 yX9_fraudsOf cX9_fraudsOf 7 (some .int) 1 := ⟨sn_lv5 km_RX9_362 kin_X9_fraudsOf ks_X9_fraudsOf ki_RX9 kc_X9_fraudsOf, by decide +kernel⟩
theorem kf_RX9_82 : Cond.fieldLink RX9 82 (TX9 44).1 (TX9 44).2.1 (TX9 44).2.2.1 ∈ sn_gw := sn_gwI (List.mem_of_getElem? (i := 1125) (by decide +kernel)) (by decide +kernel)
theorem fd_RX9_82 : sn_Fd RX9 82 9 44 := ⟨RX9, TX9, 46, rfl, ug_X9, by decide, kf_RX9_82⟩
theorem kf_RX9_76 : Cond.fieldLink RX9 76 (TX9 42).1 (TX9 42).2.1 (TX9 42).2.2.1 ∈ sn_gw := sn_gwI (List.mem_of_getElem? (i := 1123) (by decide +kernel)) (by decide +kernel)
theorem fd_RX9_76 : sn_Fd RX9 76 9 42 := ⟨RX9, TX9, 46, rfl, ug_X9, by decide, kf_RX9_76⟩
theorem kf_RX9_70 : Cond.fieldLink RX9 70 (TX9 34).1 (TX9 34).2.1 (TX9 34).2.2.1 ∈ sn_gw := sn_gwI (List.mem_of_getElem? (i := 1115) (by decide +kernel)) (by decide +kernel)
theorem fd_RX9_70 : sn_Fd RX9 70 9 34 := ⟨RX9, TX9, 46, rfl, ug_X9, by decide, kf_RX9_70⟩
theorem kf_RX9_372 : Cond.fieldLink RX9 372 (TX9 36).1 (TX9 36).2.1 (TX9 36).2.2.1 ∈ sn_gw := sn_gwI (List.mem_of_getElem? (i := 1117) (by decide +kernel)) (by decide +kernel)
theorem fd_RX9_372 : sn_Fd RX9 372 9 36 := ⟨RX9, TX9, 46, rfl, ug_X9, by decide, kf_RX9_372⟩
theorem kf_RX9_73 : Cond.fieldLink RX9 73 (TX9 35).1 (TX9 35).2.1 (TX9 35).2.2.1 ∈ sn_gw := sn_gwI (List.mem_of_getElem? (i := 1116) (by decide +kernel)) (by decide +kernel)
theorem fd_RX9_73 : sn_Fd RX9 73 9 35 := ⟨RX9, TX9, 46, rfl, ug_X9, by decide, kf_RX9_73⟩
theorem fp_RX9_372 : sn_Fp RX9 372 9 36 .int := ⟨RX9, TX9, 46, tyX9, rfl, ug_X9, by decide, kf_RX9_372, tyX9_ok, nmX9, rfl, by decide +kernel⟩
theorem kc_X9_numberAt : Cond.code yX9_numberAt cX9_numberAt 3 (some .long) ∈ sn_gw := sn_gwI (List.mem_of_getElem? (i := 1658) (by decide +kernel)) (by decide +kernel)
theorem km_RX9_368 : Cond.methodLink RX9 368 yX9_numberAt ∈ sn_gw := sn_gwI (List.mem_of_getElem? (i := 1655) (by decide +kernel)) (by decide +kernel)
theorem kin_X9_numberAt : Cond.instanceMethod yX9_numberAt ∈ sn_gw := sn_gwI (List.mem_of_getElem? (i := 1657) (by decide +kernel)) (by decide +kernel)
theorem ks_X9_numberAt : Cond.selects RX9 yX9_numberAt yX9_numberAt ∈ sn_gw := sn_gwS (q := (yX9_numberAt, 46)) (List.mem_of_getElem? (i := 87) (by decide +kernel)) (by decide +kernel)
theorem kl_RX9_368 : sn_LV RX9 368 yX9_numberAt cX9_numberAt 3 (some .long) 2 := ⟨sn_lv5 km_RX9_368 kin_X9_numberAt ks_X9_numberAt ki_RX9 kc_X9_numberAt, by decide +kernel⟩
theorem kc_X9_isSlot : Cond.code yX9_isSlot cX9_isSlot 1 (some .boolean) ∈ sn_gw := sn_gwI (List.mem_of_getElem? (i := 1654) (by decide +kernel)) (by decide +kernel)
theorem km_RX9_365 : Cond.methodLink RX9 365 yX9_isSlot ∈ sn_gw := sn_gwI (List.mem_of_getElem? (i := 1652) (by decide +kernel)) (by decide +kernel)
theorem kst_X9_isSlot : Cond.static yX9_isSlot ∈ sn_gw := sn_gwI (List.mem_of_getElem? (i := 1653) (by decide +kernel)) (by decide +kernel)
theorem kl_RX9_365 : sn_LS RX9 365 yX9_isSlot cX9_isSlot 1 (some .boolean) 1 := ⟨sn_ls4 km_RX9_365 kst_X9_isSlot ki_RX9 kc_X9_isSlot, by decide +kernel⟩
theorem kc_X9_layPairs : Cond.code yX9_layPairs cX9_layPairs 6 (some .int) ∈ sn_gw := sn_gwI (List.mem_of_getElem? (i := 1651) (by decide +kernel)) (by decide +kernel)
theorem km_RX9_375 : Cond.methodLink RX9 375 yX9_layPairs ∈ sn_gw := sn_gwI (List.mem_of_getElem? (i := 1648) (by decide +kernel)) (by decide +kernel)
theorem kin_X9_layPairs : Cond.instanceMethod yX9_layPairs ∈ sn_gw := sn_gwI (List.mem_of_getElem? (i := 1650) (by decide +kernel)) (by decide +kernel)
theorem ks_X9_layPairs : Cond.selects RX9 yX9_layPairs yX9_layPairs ∈ sn_gw := sn_gwS (q := (yX9_layPairs, 46)) (List.mem_of_getElem? (i := 86) (by decide +kernel)) (by decide +kernel)
theorem kl_RX9_375 : sn_LV RX9 375 yX9_layPairs cX9_layPairs 6 (some .int) 1 := ⟨sn_lv5 km_RX9_375 kin_X9_layPairs ks_X9_layPairs ki_RX9 kc_X9_layPairs, by decide +kernel⟩
theorem kf_RX9_378 : Cond.fieldLink RX9 378 (TX9 37).1 (TX9 37).2.1 (TX9 37).2.2.1 ∈ sn_gw := sn_gwI (List.mem_of_getElem? (i := 1118) (by decide +kernel)) (by decide +kernel)
theorem fd_RX9_378 : sn_Fd RX9 378 9 37 := ⟨RX9, TX9, 46, rfl, ug_X9, by decide, kf_RX9_378⟩
theorem fp_RX9_378 : sn_Fp RX9 378 9 37 .int := ⟨RX9, TX9, 46, tyX9, rfl, ug_X9, by decide, kf_RX9_378, tyX9_ok, nmX9, rfl, by decide +kernel⟩
theorem kc_X9_askOf : Cond.code yX9_askOf cX9_askOf 7 (some .int) ∈ sn_gw := sn_gwI (List.mem_of_getElem? (i := 1674) (by decide +kernel)) (by decide +kernel)
theorem km_RX9_381 : Cond.methodLink RX9 381 yX9_askOf ∈ sn_gw := sn_gwI (List.mem_of_getElem? (i := 1671) (by decide +kernel)) (by decide +kernel)
theorem kin_X9_askOf : Cond.instanceMethod yX9_askOf ∈ sn_gw := sn_gwI (List.mem_of_getElem? (i := 1673) (by decide +kernel)) (by decide +kernel)
theorem ks_X9_askOf : Cond.selects RX9 yX9_askOf yX9_askOf ∈ sn_gw := sn_gwS (q := (yX9_askOf, 46)) (List.mem_of_getElem? (i := 88) (by decide +kernel)) (by decide +kernel)
theorem kl_RX9_381 : sn_LV RX9 381 yX9_askOf cX9_askOf 7 (some .int) 0 := ⟨sn_lv5 km_RX9_381 kin_X9_askOf ks_X9_askOf ki_RX9 kc_X9_askOf, by decide +kernel⟩
theorem kc_X9_losesBy : Cond.code yX9_losesBy cX9_losesBy 8 (some .int) ∈ sn_gw := sn_gwI (List.mem_of_getElem? (i := 1690) (by decide +kernel)) (by decide +kernel)
theorem km_RX9_387 : Cond.methodLink RX9 387 yX9_losesBy ∈ sn_gw := sn_gwI (List.mem_of_getElem? (i := 1687) (by decide +kernel)) (by decide +kernel)
theorem kin_X9_losesBy : Cond.instanceMethod yX9_losesBy ∈ sn_gw := sn_gwI (List.mem_of_getElem? (i := 1689) (by decide +kernel)) (by decide +kernel)
theorem ks_X9_losesBy : Cond.selects RX9 yX9_losesBy yX9_losesBy ∈ sn_gw := sn_gwS (q := (yX9_losesBy, 46)) (List.mem_of_getElem? (i := 90) (by decide +kernel)) (by decide +kernel)
theorem kl_RX9_387 : sn_LV RX9 387 yX9_losesBy cX9_losesBy 8 (some .int) 5 := ⟨sn_lv5 km_RX9_387 kin_X9_losesBy ks_X9_losesBy ki_RX9 kc_X9_losesBy, by decide +kernel⟩
theorem kc_X9_areTwo : Cond.code yX9_areTwo cX9_areTwo 3 (some .boolean) ∈ sn_gw := sn_gwI (List.mem_of_getElem? (i := 1686) (by decide +kernel)) (by decide +kernel)
theorem km_RX9_384 : Cond.methodLink RX9 384 yX9_areTwo ∈ sn_gw := sn_gwI (List.mem_of_getElem? (i := 1683) (by decide +kernel)) (by decide +kernel)
theorem kin_X9_areTwo : Cond.instanceMethod yX9_areTwo ∈ sn_gw := sn_gwI (List.mem_of_getElem? (i := 1685) (by decide +kernel)) (by decide +kernel)
theorem ks_X9_areTwo : Cond.selects RX9 yX9_areTwo yX9_areTwo ∈ sn_gw := sn_gwS (q := (yX9_areTwo, 46)) (List.mem_of_getElem? (i := 89) (by decide +kernel)) (by decide +kernel)
theorem kl_RX9_384 : sn_LV RX9 384 yX9_areTwo cX9_areTwo 3 (some .boolean) 2 := ⟨sn_lv5 km_RX9_384 kin_X9_areTwo ks_X9_areTwo ki_RX9 kc_X9_areTwo, by decide +kernel⟩
theorem kc_X9_allWithout : Cond.code yX9_allWithout cX9_allWithout 2 (some .int) ∈ sn_gw := sn_gwI (List.mem_of_getElem? (i := 1702) (by decide +kernel)) (by decide +kernel)
theorem km_RX9_391 : Cond.methodLink RX9 391 yX9_allWithout ∈ sn_gw := sn_gwI (List.mem_of_getElem? (i := 1699) (by decide +kernel)) (by decide +kernel)
theorem kin_X9_allWithout : Cond.instanceMethod yX9_allWithout ∈ sn_gw := sn_gwI (List.mem_of_getElem? (i := 1701) (by decide +kernel)) (by decide +kernel)
theorem ks_X9_allWithout : Cond.selects RX9 yX9_allWithout yX9_allWithout ∈ sn_gw := sn_gwS (q := (yX9_allWithout, 46)) (List.mem_of_getElem? (i := 91) (by decide +kernel)) (by decide +kernel)
theorem kl_RX9_391 : sn_LV RX9 391 yX9_allWithout cX9_allWithout 2 (some .int) 1 := ⟨sn_lv5 km_RX9_391 kin_X9_allWithout ks_X9_allWithout ki_RX9 kc_X9_allWithout, by decide +kernel⟩
theorem kc_X9_divisor : Cond.code yX9_divisor cX9_divisor 10 (some .long) ∈ sn_gw := sn_gwI (List.mem_of_getElem? (i := 1726) (by decide +kernel)) (by decide +kernel)
theorem km_RX9_394 : Cond.methodLink RX9 394 yX9_divisor ∈ sn_gw := sn_gwI (List.mem_of_getElem? (i := 1724) (by decide +kernel)) (by decide +kernel)
theorem kst_X9_divisor : Cond.static yX9_divisor ∈ sn_gw := sn_gwI (List.mem_of_getElem? (i := 1725) (by decide +kernel)) (by decide +kernel)
theorem kl_RX9_394 : sn_LS RX9 394 yX9_divisor cX9_divisor 10 (some .long) 2 := ⟨sn_ls4 km_RX9_394 kst_X9_divisor ki_RX9 kc_X9_divisor, by decide +kernel⟩
theorem kf_RX9_398 : Cond.fieldLink RX9 398 (TX9 38).1 (TX9 38).2.1 (TX9 38).2.2.1 ∈ sn_gw := sn_gwI (List.mem_of_getElem? (i := 1119) (by decide +kernel)) (by decide +kernel)
theorem fd_RX9_398 : sn_Fd RX9 398 9 38 := ⟨RX9, TX9, 46, rfl, ug_X9, by decide, kf_RX9_398⟩
theorem kf_RX9_402 : Cond.fieldLink RX9 402 (TX9 39).1 (TX9 39).2.1 (TX9 39).2.2.1 ∈ sn_gw := sn_gwI (List.mem_of_getElem? (i := 1120) (by decide +kernel)) (by decide +kernel)
theorem fd_RX9_402 : sn_Fd RX9 402 9 39 := ⟨RX9, TX9, 46, rfl, ug_X9, by decide, kf_RX9_402⟩
theorem kf_RX9_405 : Cond.fieldLink RX9 405 (TX9 40).1 (TX9 40).2.1 (TX9 40).2.2.1 ∈ sn_gw := sn_gwI (List.mem_of_getElem? (i := 1121) (by decide +kernel)) (by decide +kernel)
theorem fd_RX9_405 : sn_Fd RX9 405 9 40 := ⟨RX9, TX9, 46, rfl, ug_X9, by decide, kf_RX9_405⟩
theorem kf_RX9_408 : Cond.fieldLink RX9 408 (TX9 41).1 (TX9 41).2.1 (TX9 41).2.2.1 ∈ sn_gw := sn_gwI (List.mem_of_getElem? (i := 1122) (by decide +kernel)) (by decide +kernel)
theorem fd_RX9_408 : sn_Fd RX9 408 9 41 := ⟨RX9, TX9, 46, rfl, ug_X9, by decide, kf_RX9_408⟩
theorem fp_RX9_408 : sn_Fp RX9 408 9 41 .long := ⟨RX9, TX9, 46, tyX9, rfl, ug_X9, by decide, kf_RX9_408, tyX9_ok, nmX9, rfl, by decide +kernel⟩
theorem fp_RX9_405 : sn_Fp RX9 405 9 40 .long := ⟨RX9, TX9, 46, tyX9, rfl, ug_X9, by decide, kf_RX9_405, tyX9_ok, nmX9, rfl, by decide +kernel⟩
theorem fp_RX9_402 : sn_Fp RX9 402 9 39 .long := ⟨RX9, TX9, 46, tyX9, rfl, ug_X9, by decide, kf_RX9_402, tyX9_ok, nmX9, rfl, by decide +kernel⟩
theorem fp_RX9_398 : sn_Fp RX9 398 9 38 .long := ⟨RX9, TX9, 46, tyX9, rfl, ug_X9, by decide, kf_RX9_398, tyX9_ok, nmX9, rfl, by decide +kernel⟩
theorem kk_RX9_411 : Cond.constantLong RX9 411 (7) ∈ sn_gw := sn_gwI (List.mem_of_getElem? (i := 1715) (by decide +kernel)) (by decide +kernel)
theorem kk_RX9_416 : Cond.constantLong RX9 416 (-2) ∈ sn_gw := sn_gwI (List.mem_of_getElem? (i := 1716) (by decide +kernel)) (by decide +kernel)
theorem kc_X9_isPuffs : Cond.code yX9_isPuffs cX9_isPuffs 3 (some .boolean) ∈ sn_gw := sn_gwI (List.mem_of_getElem? (i := 1714) (by decide +kernel)) (by decide +kernel)
theorem km_RX9_413 : Cond.methodLink RX9 413 yX9_isPuffs ∈ sn_gw := sn_gwI (List.mem_of_getElem? (i := 1711) (by decide +kernel)) (by decide +kernel)
theorem kin_X9_isPuffs : Cond.instanceMethod yX9_isPuffs ∈ sn_gw := sn_gwI (List.mem_of_getElem? (i := 1713) (by decide +kernel)) (by decide +kernel)
theorem ks_X9_isPuffs : Cond.selects RX9 yX9_isPuffs yX9_isPuffs ∈ sn_gw := sn_gwS (q := (yX9_isPuffs, 46)) (List.mem_of_getElem? (i := 92) (by decide +kernel)) (by decide +kernel)
theorem kl_RX9_413 : sn_LV RX9 413 yX9_isPuffs cX9_isPuffs 3 (some .boolean) 2 := ⟨sn_lv5 km_RX9_413 kin_X9_isPuffs ks_X9_isPuffs ki_RX9 kc_X9_isPuffs, by decide +kernel⟩
theorem kc_X9_layPuffs : Cond.code yX9_layPuffs cX9_layPuffs 8 none ∈ sn_gw := sn_gwI (List.mem_of_getElem? (i := 1720) (by decide +kernel)) (by decide +kernel)
theorem km_RX9_418 : Cond.methodLink RX9 418 yX9_layPuffs ∈ sn_gw := sn_gwI (List.mem_of_getElem? (i := 1717) (by decide +kernel)) (by decide +kernel)
theorem kin_X9_layPuffs : Cond.instanceMethod yX9_layPuffs ∈ sn_gw := sn_gwI (List.mem_of_getElem? (i := 1719) (by decide +kernel)) (by decide +kernel)
theorem ks_X9_layPuffs : Cond.selects RX9 yX9_layPuffs yX9_layPuffs ∈ sn_gw := sn_gwS (q := (yX9_layPuffs, 46)) (List.mem_of_getElem? (i := 93) (by decide +kernel)) (by decide +kernel)
theorem kl_RX9_418 : sn_LV RX9 418 yX9_layPuffs cX9_layPuffs 8 none 3 := ⟨sn_lv5 km_RX9_418 kin_X9_layPuffs ks_X9_layPuffs ki_RX9 kc_X9_layPuffs, by decide +kernel⟩
theorem kc_X9_part : Cond.code yX9_part cX9_part 5 (some .long) ∈ sn_gw := sn_gwI (List.mem_of_getElem? (i := 1723) (by decide +kernel)) (by decide +kernel)
theorem km_RX9_422 : Cond.methodLink RX9 422 yX9_part ∈ sn_gw := sn_gwI (List.mem_of_getElem? (i := 1721) (by decide +kernel)) (by decide +kernel)
theorem kst_X9_part : Cond.static yX9_part ∈ sn_gw := sn_gwI (List.mem_of_getElem? (i := 1722) (by decide +kernel)) (by decide +kernel)
theorem kl_RX9_422 : sn_LS RX9 422 yX9_part cX9_part 5 (some .long) 3 := ⟨sn_ls4 km_RX9_422 kst_X9_part ki_RX9 kc_X9_part, by decide +kernel⟩
theorem kc_X9_keepAct : Cond.code yX9_keepAct cX9_keepAct 2 (some .int) ∈ sn_gw := sn_gwI (List.mem_of_getElem? (i := 1742) (by decide +kernel)) (by decide +kernel)
theorem km_RX9_426 : Cond.methodLink RX9 426 yX9_keepAct ∈ sn_gw := sn_gwI (List.mem_of_getElem? (i := 1739) (by decide +kernel)) (by decide +kernel)
theorem kin_X9_keepAct : Cond.instanceMethod yX9_keepAct ∈ sn_gw := sn_gwI (List.mem_of_getElem? (i := 1741) (by decide +kernel)) (by decide +kernel)
theorem ks_X9_keepAct : Cond.selects RX9 yX9_keepAct yX9_keepAct ∈ sn_gw := sn_gwS (q := (yX9_keepAct, 46)) (List.mem_of_getElem? (i := 94) (by decide +kernel)) (by decide +kernel)
theorem kl_RX9_426 : sn_LV RX9 426 yX9_keepAct cX9_keepAct 2 (some .int) 1 := ⟨sn_lv5 km_RX9_426 kin_X9_keepAct ks_X9_keepAct ki_RX9 kc_X9_keepAct, by decide +kernel⟩
theorem kk_RX9_429 : Cond.constantLong RX9 429 (1103515245) ∈ sn_gw := sn_gwI (List.mem_of_getElem? (i := 1767) (by decide +kernel)) (by decide +kernel)
theorem kk_RX9_431 : Cond.constantLong RX9 431 (12345) ∈ sn_gw := sn_gwI (List.mem_of_getElem? (i := 1768) (by decide +kernel)) (by decide +kernel)
theorem kk_RX9_433 : Cond.constantLong RX9 433 (2147483648) ∈ sn_gw := sn_gwI (List.mem_of_getElem? (i := 1769) (by decide +kernel)) (by decide +kernel)
theorem kk_RX9_435 : Cond.constantLong RX9 435 (65536) ∈ sn_gw := sn_gwI (List.mem_of_getElem? (i := 1770) (by decide +kernel)) (by decide +kernel)
theorem kk_RX9_437 : Cond.constantLong RX9 437 (10) ∈ sn_gw := sn_gwI (List.mem_of_getElem? (i := 1771) (by decide +kernel)) (by decide +kernel)
theorem kk_RX9_439 : Cond.constantLong RX9 439 (2000000000) ∈ sn_gw := sn_gwI (List.mem_of_getElem? (i := 1762) (by decide +kernel)) (by decide +kernel)
theorem kc_X9_isSeed : Cond.code yX9_isSeed cX9_isSeed 1 (some .boolean) ∈ sn_gw := sn_gwI (List.mem_of_getElem? (i := 1761) (by decide +kernel)) (by decide +kernel)
theorem km_RX9_441 : Cond.methodLink RX9 441 yX9_isSeed ∈ sn_gw := sn_gwI (List.mem_of_getElem? (i := 1759) (by decide +kernel)) (by decide +kernel)
theorem kst_X9_isSeed : Cond.static yX9_isSeed ∈ sn_gw := sn_gwI (List.mem_of_getElem? (i := 1760) (by decide +kernel)) (by decide +kernel)
theorem kl_RX9_441 : sn_LS RX9 441 yX9_isSeed cX9_isSeed 1 (some .boolean) 1 := ⟨sn_ls4 km_RX9_441 kst_X9_isSeed ki_RX9 kc_X9_isSeed, by decide +kernel⟩
theorem kc_X9_goDrawn : Cond.code yX9_goDrawn cX9_goDrawn 7 (some .int) ∈ sn_gw := sn_gwI (List.mem_of_getElem? (i := 1766) (by decide +kernel)) (by decide +kernel)
theorem km_RX9_444 : Cond.methodLink RX9 444 yX9_goDrawn ∈ sn_gw := sn_gwI (List.mem_of_getElem? (i := 1763) (by decide +kernel)) (by decide +kernel)
theorem kin_X9_goDrawn : Cond.instanceMethod yX9_goDrawn ∈ sn_gw := sn_gwI (List.mem_of_getElem? (i := 1765) (by decide +kernel)) (by decide +kernel)
theorem ks_X9_goDrawn : Cond.selects RX9 yX9_goDrawn yX9_goDrawn ∈ sn_gw := sn_gwS (q := (yX9_goDrawn, 46)) (List.mem_of_getElem? (i := 95) (by decide +kernel)) (by decide +kernel)
theorem kl_RX9_444 : sn_LV RX9 444 yX9_goDrawn cX9_goDrawn 7 (some .int) 1 := ⟨sn_lv5 km_RX9_444 kin_X9_goDrawn ks_X9_goDrawn ki_RX9 kc_X9_goDrawn, by decide +kernel⟩
theorem kk_RX9_448 : Cond.constantLong RX9 448 (20) ∈ sn_gw := sn_gwI (List.mem_of_getElem? (i := 1776) (by decide +kernel)) (by decide +kernel)
theorem kk_RX9_450 : Cond.constantLong RX9 450 (99) ∈ sn_gw := sn_gwI (List.mem_of_getElem? (i := 1781) (by decide +kernel)) (by decide +kernel)
theorem kf_RX9_79 : Cond.fieldLink RX9 79 (TX9 43).1 (TX9 43).2.1 (TX9 43).2.2.1 ∈ sn_gw := sn_gwI (List.mem_of_getElem? (i := 1124) (by decide +kernel)) (by decide +kernel)
theorem fd_RX9_79 : sn_Fd RX9 79 9 43 := ⟨RX9, TX9, 46, rfl, ug_X9, by decide, kf_RX9_79⟩
theorem kc_X9_cut_ : Cond.code yX9_cut_ cX9_cut_ 4 (some .long) ∈ sn_gw := sn_gwI (List.mem_of_getElem? (i := 1796) (by decide +kernel)) (by decide +kernel)
theorem km_RX9_452 : Cond.methodLink RX9 452 yX9_cut_ ∈ sn_gw := sn_gwI (List.mem_of_getElem? (i := 1794) (by decide +kernel)) (by decide +kernel)
theorem kst_X9_cut_ : Cond.static yX9_cut_ ∈ sn_gw := sn_gwI (List.mem_of_getElem? (i := 1795) (by decide +kernel)) (by decide +kernel)
theorem kl_RX9_452 : sn_LS RX9 452 yX9_cut_ cX9_cut_ 4 (some .long) 2 := ⟨sn_ls4 km_RX9_452 kst_X9_cut_ ki_RX9 kc_X9_cut_, by decide +kernel⟩
theorem kf_RX9_86 : Cond.fieldLink RX9 86 (TX9 45).1 (TX9 45).2.1 (TX9 45).2.2.1 ∈ sn_gw := sn_gwI (List.mem_of_getElem? (i := 1126) (by decide +kernel)) (by decide +kernel)
theorem fd_RX9_86 : sn_Fd RX9 86 9 45 := ⟨RX9, TX9, 46, rfl, ug_X9, by decide, kf_RX9_86⟩
