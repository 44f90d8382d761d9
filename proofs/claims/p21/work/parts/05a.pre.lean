/-! links of calls, by words -/
theorem sn_cg {w : Cond} (h : w ∈ sn_gw) : ∀ x ∈ w :: sn_gw, x ∈ sn_gw := fun x hx => (List.mem_cons.mp hx).elim (fun e => e ▸ h) id
theorem sn_lv5 {own C : String} {idx : Nat} {y : MethodName} {w : Cond} (h1 : Cond.methodLink own idx y ∈ sn_gw) (h2 : Cond.instanceMethod y ∈ sn_gw) (h3 : Cond.selects C y y ∈ sn_gw) (h4 : Cond.initialized C ∈ sn_gw) (h5 : w ∈ sn_gw) : ∀ x ∈ wsV own idx C y (w :: sn_gw), x ∈ sn_gw := by
  intro x hx
  rcases List.mem_append.mp hx with hx | hx
  · simp only [List.mem_cons, List.not_mem_nil, or_false] at hx
    rcases hx with rfl | rfl | rfl | rfl <;> assumption
  · exact sn_cg h5 x hx
theorem sn_ls4 {own : String} {idx : Nat} {y : MethodName} {w : Cond} (h1 : Cond.methodLink own idx y ∈ sn_gw) (h2 : Cond.static y ∈ sn_gw) (h4 : Cond.initialized y.cls ∈ sn_gw) (h5 : w ∈ sn_gw) : ∀ x ∈ va_wsS own idx y (w :: sn_gw), x ∈ sn_gw := by
  intro x hx
  rcases List.mem_append.mp hx with hx | hx
  · simp only [List.mem_cons, List.not_mem_nil, or_false] at hx
    rcases hx with rfl | rfl | rfl <;> assumption
  · exact sn_cg h5 x hx
theorem sn_look {lay t : List sn_E} {q n k : Nat} {x : sn_E} (h : (lay.drop q).take n = t) (hk : t[k]? = some x) : lay[q + k]? = some x := by
  rw [← h, List.getElem?_take] at hk
  split at hk
  · rw [List.getElem?_drop] at hk
    exact hk
  · cases hk
section RW2
variable {p : Program} {l : Launch} {e : Env} {R : Room} {s : State} {m : MethodId} {args : Array Value} {below : List Frame} {meth : Method} {c : Code} {H : Heap} {locs : List Loc} {Q : State → Prop}
variable {cc : ByteArray} {pc nL : Nat} {ls : Array Slot} {own : String} {ret : Option FieldType} {D : va_G} {ct : Nat → ClassId} {ad : Nat → Nat} {lay : List sn_E} {A : Nat → Prop} {σ : sn_S}
theorem sn_callVi {index mL n q ci : Nat} {fs : List Nat} {kT : u_T} {kN : Nat} {y : MethodName} {cy : ByteArray} {ry : Option FieldType} {rm : Room} {As : (Nat → Nat) → List Value} {τ : sn_S} {st0 : List Value} {x : Int32} (rest : List Value)
    (C : sn_C p s m args meth c own cc nL ret D ct ad lay A) (h : sn_H s D ct ad lay A σ H locs) (hM : sn_M l y cy mL ry rm lay (fun ad => .ref (ad q) :: As ad) σ (some (fun _ => .int x)) τ) (L : sn_LV own index y cy mL ry n) (hq : lay[q]? = some (.inr (ci, fs))) (hc : vwCl[ci]? = some (y.cls, kT, kN)) (hR : sn_fit rm R mL = true) (hn : (As ad).length = n)
    (hst : st0 = (As ad).reverse ++ .ref (ad q) :: rest) (hsum : sn_sum rest ≤ 8) (hd : decode cc pc = .ok (.invokevirtual index, 3)) (hls : ls.size = nL)
    (kk : ∀ (H : Heap) (locs : List Loc), sn_H s D ct ad lay A τ H locs → W p l e R s m args below meth c H locs 0 0 Q (F0 m (pc + 3) ls (.int x :: rest))) : W p l e R s m args below meth c H locs 0 0 Q (F0 m pc ls st0) :=
  sn_callV C h hM L hq hc hR hn hst hsum hd hls kk
theorem sn_callVl {index mL n q ci : Nat} {fs : List Nat} {kT : u_T} {kN : Nat} {y : MethodName} {cy : ByteArray} {ry : Option FieldType} {rm : Room} {As : (Nat → Nat) → List Value} {τ : sn_S} {st0 : List Value} {x : Int64} (rest : List Value)
    (C : sn_C p s m args meth c own cc nL ret D ct ad lay A) (h : sn_H s D ct ad lay A σ H locs) (hM : sn_M l y cy mL ry rm lay (fun ad => .ref (ad q) :: As ad) σ (some (fun _ => .long x)) τ) (L : sn_LV own index y cy mL ry n) (hq : lay[q]? = some (.inr (ci, fs))) (hc : vwCl[ci]? = some (y.cls, kT, kN)) (hR : sn_fit rm R mL = true) (hn : (As ad).length = n)
    (hst : st0 = (As ad).reverse ++ .ref (ad q) :: rest) (hsum : sn_sum rest ≤ 8) (hd : decode cc pc = .ok (.invokevirtual index, 3)) (hls : ls.size = nL)
    (kk : ∀ (H : Heap) (locs : List Loc), sn_H s D ct ad lay A τ H locs → W p l e R s m args below meth c H locs 0 0 Q (F0 m (pc + 3) ls (.long x :: rest))) : W p l e R s m args below meth c H locs 0 0 Q (F0 m pc ls st0) :=
  sn_callV C h hM L hq hc hR hn hst hsum hd hls kk
theorem sn_callVv {index mL n q ci : Nat} {fs : List Nat} {kT : u_T} {kN : Nat} {y : MethodName} {cy : ByteArray} {ry : Option FieldType} {rm : Room} {As : (Nat → Nat) → List Value} {τ : sn_S} {st0 : List Value}  (rest : List Value)
    (C : sn_C p s m args meth c own cc nL ret D ct ad lay A) (h : sn_H s D ct ad lay A σ H locs) (hM : sn_M l y cy mL ry rm lay (fun ad => .ref (ad q) :: As ad) σ none τ) (L : sn_LV own index y cy mL ry n) (hq : lay[q]? = some (.inr (ci, fs))) (hc : vwCl[ci]? = some (y.cls, kT, kN)) (hR : sn_fit rm R mL = true) (hn : (As ad).length = n)
    (hst : st0 = (As ad).reverse ++ .ref (ad q) :: rest) (hsum : sn_sum rest ≤ 8) (hd : decode cc pc = .ok (.invokevirtual index, 3)) (hls : ls.size = nL)
    (kk : ∀ (H : Heap) (locs : List Loc), sn_H s D ct ad lay A τ H locs → W p l e R s m args below meth c H locs 0 0 Q (F0 m (pc + 3) ls (rest))) : W p l e R s m args below meth c H locs 0 0 Q (F0 m pc ls st0) :=
  sn_callV C h hM L hq hc hR hn hst hsum hd hls kk
theorem sn_callVr {index mL n q ci : Nat} {fs : List Nat} {kT : u_T} {kN : Nat} {y : MethodName} {cy : ByteArray} {ry : Option FieldType} {rm : Room} {As : (Nat → Nat) → List Value} {τ : sn_S} {st0 : List Value} {x : Nat} (rest : List Value)
    (C : sn_C p s m args meth c own cc nL ret D ct ad lay A) (h : sn_H s D ct ad lay A σ H locs) (hM : sn_M l y cy mL ry rm lay (fun ad => .ref (ad q) :: As ad) σ (some (fun ad => .ref (ad x))) τ) (L : sn_LV own index y cy mL ry n) (hq : lay[q]? = some (.inr (ci, fs))) (hc : vwCl[ci]? = some (y.cls, kT, kN)) (hR : sn_fit rm R mL = true) (hn : (As ad).length = n)
    (hst : st0 = (As ad).reverse ++ .ref (ad q) :: rest) (hsum : sn_sum rest ≤ 8) (hd : decode cc pc = .ok (.invokevirtual index, 3)) (hls : ls.size = nL)
    (kk : ∀ (H : Heap) (locs : List Loc), sn_H s D ct ad lay A τ H locs → W p l e R s m args below meth c H locs 0 0 Q (F0 m (pc + 3) ls (.ref (ad x) :: rest))) : W p l e R s m args below meth c H locs 0 0 Q (F0 m pc ls st0) :=
  sn_callV C h hM L hq hc hR hn hst hsum hd hls kk
theorem sn_callSi {index mL n : Nat} {y : MethodName} {cy : ByteArray} {ry : Option FieldType} {rm : Room} {As : (Nat → Nat) → List Value} {τ : sn_S} {st0 : List Value} {x : Int32} (rest : List Value)
    (C : sn_C p s m args meth c own cc nL ret D ct ad lay A) (h : sn_H s D ct ad lay A σ H locs) (hM : sn_M l y cy mL ry rm lay As σ (some (fun _ => .int x)) τ) (L : sn_LS own index y cy mL ry n) (hR : sn_fit rm R mL = true) (hn : (As ad).length = n)
    (hst : st0 = (As ad).reverse ++ rest) (hsum : sn_sum rest ≤ 8) (hd : decode cc pc = .ok (.invokestatic index, 3)) (hls : ls.size = nL)
    (kk : ∀ (H : Heap) (locs : List Loc), sn_H s D ct ad lay A τ H locs → W p l e R s m args below meth c H locs 0 0 Q (F0 m (pc + 3) ls (.int x :: rest))) : W p l e R s m args below meth c H locs 0 0 Q (F0 m pc ls st0) :=
  sn_callS C h hM L hR hn hst hsum hd hls kk
theorem sn_callSl {index mL n : Nat} {y : MethodName} {cy : ByteArray} {ry : Option FieldType} {rm : Room} {As : (Nat → Nat) → List Value} {τ : sn_S} {st0 : List Value} {x : Int64} (rest : List Value)
    (C : sn_C p s m args meth c own cc nL ret D ct ad lay A) (h : sn_H s D ct ad lay A σ H locs) (hM : sn_M l y cy mL ry rm lay As σ (some (fun _ => .long x)) τ) (L : sn_LS own index y cy mL ry n) (hR : sn_fit rm R mL = true) (hn : (As ad).length = n)
    (hst : st0 = (As ad).reverse ++ rest) (hsum : sn_sum rest ≤ 8) (hd : decode cc pc = .ok (.invokestatic index, 3)) (hls : ls.size = nL)
    (kk : ∀ (H : Heap) (locs : List Loc), sn_H s D ct ad lay A τ H locs → W p l e R s m args below meth c H locs 0 0 Q (F0 m (pc + 3) ls (.long x :: rest))) : W p l e R s m args below meth c H locs 0 0 Q (F0 m pc ls st0) :=
  sn_callS C h hM L hR hn hst hsum hd hls kk
theorem sn_callSv {index mL n : Nat} {y : MethodName} {cy : ByteArray} {ry : Option FieldType} {rm : Room} {As : (Nat → Nat) → List Value} {τ : sn_S} {st0 : List Value}  (rest : List Value)
    (C : sn_C p s m args meth c own cc nL ret D ct ad lay A) (h : sn_H s D ct ad lay A σ H locs) (hM : sn_M l y cy mL ry rm lay As σ none τ) (L : sn_LS own index y cy mL ry n) (hR : sn_fit rm R mL = true) (hn : (As ad).length = n)
    (hst : st0 = (As ad).reverse ++ rest) (hsum : sn_sum rest ≤ 8) (hd : decode cc pc = .ok (.invokestatic index, 3)) (hls : ls.size = nL)
    (kk : ∀ (H : Heap) (locs : List Loc), sn_H s D ct ad lay A τ H locs → W p l e R s m args below meth c H locs 0 0 Q (F0 m (pc + 3) ls (rest))) : W p l e R s m args below meth c H locs 0 0 Q (F0 m pc ls st0) :=
  sn_callS C h hM L hR hn hst hsum hd hls kk
theorem sn_callNi {index mL n : Nat} {host : String} {y : MethodName} {cy : ByteArray} {ry : Option FieldType} {rm : Room} {As : (Nat → Nat) → List Value} {τ : sn_S} {st0 : List Value} {x : Int32} (rest : List Value)
    (C : sn_C p s m args meth c own cc nL ret D ct ad lay A) (h : sn_H s D ct ad lay A σ H locs) (hM : sn_M l y cy mL ry rm lay As σ (some (fun _ => .int x)) τ) (L : sn_LN own index y host cy mL ry n) (hR : sn_fit rm R mL = true) (hn : (As ad).length = n)
    (hst : st0 = (As ad).reverse ++ rest) (hsum : sn_sum rest ≤ 8) (hd : decode cc pc = .ok (.invokestatic index, 3)) (hls : ls.size = nL)
    (kk : ∀ (H : Heap) (locs : List Loc), sn_H s D ct ad lay A τ H locs → W p l e R s m args below meth c H locs 0 0 Q (F0 m (pc + 3) ls (.int x :: rest))) : W p l e R s m args below meth c H locs 0 0 Q (F0 m pc ls st0) :=
  sn_callN C h hM L hR hn hst hsum hd hls kk
theorem sn_callNl {index mL n : Nat} {host : String} {y : MethodName} {cy : ByteArray} {ry : Option FieldType} {rm : Room} {As : (Nat → Nat) → List Value} {τ : sn_S} {st0 : List Value} {x : Int64} (rest : List Value)
    (C : sn_C p s m args meth c own cc nL ret D ct ad lay A) (h : sn_H s D ct ad lay A σ H locs) (hM : sn_M l y cy mL ry rm lay As σ (some (fun _ => .long x)) τ) (L : sn_LN own index y host cy mL ry n) (hR : sn_fit rm R mL = true) (hn : (As ad).length = n)
    (hst : st0 = (As ad).reverse ++ rest) (hsum : sn_sum rest ≤ 8) (hd : decode cc pc = .ok (.invokestatic index, 3)) (hls : ls.size = nL)
    (kk : ∀ (H : Heap) (locs : List Loc), sn_H s D ct ad lay A τ H locs → W p l e R s m args below meth c H locs 0 0 Q (F0 m (pc + 3) ls (.long x :: rest))) : W p l e R s m args below meth c H locs 0 0 Q (F0 m pc ls st0) :=
  sn_callN C h hM L hR hn hst hsum hd hls kk
theorem sn_callNv {index mL n : Nat} {host : String} {y : MethodName} {cy : ByteArray} {ry : Option FieldType} {rm : Room} {As : (Nat → Nat) → List Value} {τ : sn_S} {st0 : List Value}  (rest : List Value)
    (C : sn_C p s m args meth c own cc nL ret D ct ad lay A) (h : sn_H s D ct ad lay A σ H locs) (hM : sn_M l y cy mL ry rm lay As σ none τ) (L : sn_LN own index y host cy mL ry n) (hR : sn_fit rm R mL = true) (hn : (As ad).length = n)
    (hst : st0 = (As ad).reverse ++ rest) (hsum : sn_sum rest ≤ 8) (hd : decode cc pc = .ok (.invokestatic index, 3)) (hls : ls.size = nL)
    (kk : ∀ (H : Heap) (locs : List Loc), sn_H s D ct ad lay A τ H locs → W p l e R s m args below meth c H locs 0 0 Q (F0 m (pc + 3) ls (rest))) : W p l e R s m args below meth c H locs 0 0 Q (F0 m pc ls st0) :=
  sn_callN C h hM L hR hn hst hsum hd hls kk
/-- a copy within bounds -/
def sn_cpok (sp dp n : Int32) (n0 n1 : Nat) : Bool := decide (0 ≤ sp) && decide (0 ≤ dp) && decide (0 ≤ n) && decide (sp.toNatClampNeg + n.toNatClampNeg ≤ n0) && decide (dp.toNatClampNeg + n.toNatClampNeg ≤ n1)
theorem sn_cpok_spec {sp dp n : Int32} {n0 n1 : Nat} (h : sn_cpok sp dp n n0 n1 = true) : ¬ sp < 0 ∧ ¬ dp < 0 ∧ ¬ n < 0 ∧ sp.toNatClampNeg + n.toNatClampNeg ≤ n0 ∧ dp.toNatClampNeg + n.toNatClampNeg ≤ n1 := by
  unfold sn_cpok at h
  simp only [Bool.and_eq_true, decide_eq_true_eq] at h
  exact ⟨Int32.not_lt.mpr h.1.1.1.1, Int32.not_lt.mpr h.1.1.1.2, Int32.not_lt.mpr h.1.1.2, h.1.2, h.2⟩
theorem sn_cpyI {index q0 q1 n0 n1 : Nat} {r0 r1 : List Nat} {sp dp n : Int32} (rest : List Value) (C : sn_C p s m args meth c own cc nL ret D ct ad lay A) (h : sn_H s D ct ad lay A σ H locs) (w1 : Cond.methodLink own index arraycopyName ∈ sn_gw) (w2 : Cond.native arraycopyName ∈ sn_gw) (w3 : Cond.static arraycopyName ∈ sn_gw) (w4 : Cond.initialized "java/lang/System" ∈ sn_gw)
    (hq0 : lay[q0]? = some (.inl (0, n0, 0, r0))) (hq1 : lay[q1]? = some (.inl (0, n1, 0, r1))) (hok : sn_cpok sp dp n n0 n1 = true) (hfr : 1 ≤ R.frames) (hlo : sn_sum rest + (nativeFrameWords "java/lang/System" "arraycopy" 5 + 11) ≤ R.locals) (hd : decode cc pc = .ok (.invokestatic index, 3)) (hls : ls.size = nL)
    (kk : ∀ (H : Heap) (locs : List Loc), sn_H s D ct ad lay A (sn_wI σ q1 (va_cpy (sn_I σ q0) (sn_I σ q1) sp.toNatClampNeg dp.toNatClampNeg n.toNatClampNeg)) H locs → W p l e R s m args below meth c H locs 0 0 Q (F0 m (pc + 3) ls rest)) :
    W p l e R s m args below meth c H locs 0 0 Q (F0 m pc ls (.int n :: .int dp :: .ref (ad q1) :: .int sp :: .ref (ad q0) :: rest)) := by
  obtain ⟨hx, hb, hml, hown, hts, hr, hlk, hK, hD, hG⟩ := C
  obtain ⟨h1, h2, h3, h4, h5⟩ := sn_cpok_spec hok
  have g0 := sn_W_get (ct := ct) (ad := ad) (σ := σ) 0 hq0
  have g1 := sn_W_get (ct := ct) (ad := ad) (σ := σ) 0 hq1
  rw [Nat.zero_add] at g0 g1
  refine va_copyi (f := sn_I σ q0) (g := sn_I σ q1) (ty := .int) hx hb (hml.trans hls.symm) hown (hts _ w1) (hts _ w2) (hts _ w3) (hts _ w4) hK h.1 (hD σ) h.2 q0 q1 0 0 g0 g1 rfl rfl rfl h1 h2 h3 h4 h5 (fun _ _ => rfl) hfr hlo hd (fun H1 locs1 hP1 _ hS1 => kk H1 locs1 ⟨?_, hS1⟩)
  generalize hf : va_cpy (sn_I σ q0) (sn_I σ q1) sp.toNatClampNeg dp.toNatClampNeg n.toNatClampNeg = f at hP1 ⊢
  have e2 := sn_W_set (ct := ct) (ad := ad) (σ := σ) (τ := sn_wI σ q1 f) 0 hq1 (fun a ha => by
    rw [Nat.zero_add] at ha
    refine ⟨?_, rfl, rfl⟩
    show σ.1 a = if a = q1 then f else σ.1 a
    rw [if_neg ha])
  rw [Nat.zero_add] at e2
  have e3 : sn_I (sn_wI σ q1 f) q1 = f := by
    funext b
    show (if q1 = q1 then f else σ.1 q1) b = f b
    rw [if_pos rfl]
  rw [← e2]
  show va_P D vwCl ((sn_W ct ad σ 0 lay).set q1 (ad q1, .inl (ct 0, n1, .inl (sn_I (sn_wI σ q1 f) q1)))) H1
  rw [e3]
  exact hP1
theorem sn_cpyL {index q0 q1 n0 n1 : Nat} {r0 r1 : List Nat} {sp dp n : Int32} (rest : List Value) (C : sn_C p s m args meth c own cc nL ret D ct ad lay A) (h : sn_H s D ct ad lay A σ H locs) (w1 : Cond.methodLink own index arraycopyName ∈ sn_gw) (w2 : Cond.native arraycopyName ∈ sn_gw) (w3 : Cond.static arraycopyName ∈ sn_gw) (w4 : Cond.initialized "java/lang/System" ∈ sn_gw)
    (hq0 : lay[q0]? = some (.inl (3, n0, 1, r0))) (hq1 : lay[q1]? = some (.inl (3, n1, 1, r1))) (hok : sn_cpok sp dp n n0 n1 = true) (hfr : 1 ≤ R.frames) (hlo : sn_sum rest + (nativeFrameWords "java/lang/System" "arraycopy" 5 + 11) ≤ R.locals) (hd : decode cc pc = .ok (.invokestatic index, 3)) (hls : ls.size = nL)
    (kk : ∀ (H : Heap) (locs : List Loc), sn_H s D ct ad lay A (sn_wL σ q1 (va_cpy (sn_L σ q0) (sn_L σ q1) sp.toNatClampNeg dp.toNatClampNeg n.toNatClampNeg)) H locs → W p l e R s m args below meth c H locs 0 0 Q (F0 m (pc + 3) ls rest)) :
    W p l e R s m args below meth c H locs 0 0 Q (F0 m pc ls (.int n :: .int dp :: .ref (ad q1) :: .int sp :: .ref (ad q0) :: rest)) := by
  obtain ⟨hx, hb, hml, hown, hts, hr, hlk, hK, hD, hG⟩ := C
  obtain ⟨h1, h2, h3, h4, h5⟩ := sn_cpok_spec hok
  have g0 := sn_W_get (ct := ct) (ad := ad) (σ := σ) 0 hq0
  have g1 := sn_W_get (ct := ct) (ad := ad) (σ := σ) 0 hq1
  rw [Nat.zero_add] at g0 g1
  refine va_copyl (f := sn_L σ q0) (g := sn_L σ q1) (ty := .long) hx hb (hml.trans hls.symm) hown (hts _ w1) (hts _ w2) (hts _ w3) (hts _ w4) hK h.1 (hD σ) h.2 q0 q1 3 3 g0 g1 rfl rfl rfl h1 h2 h3 h4 h5 (fun _ _ => rfl) hfr hlo hd (fun H1 locs1 hP1 _ hS1 => kk H1 locs1 ⟨?_, hS1⟩)
  generalize hf : va_cpy (sn_L σ q0) (sn_L σ q1) sp.toNatClampNeg dp.toNatClampNeg n.toNatClampNeg = f at hP1 ⊢
  have e2 := sn_W_set (ct := ct) (ad := ad) (σ := σ) (τ := sn_wL σ q1 f) 0 hq1 (fun a ha => by
    rw [Nat.zero_add] at ha
    refine ⟨rfl, ?_, rfl⟩
    show σ.2.1 a = if a = q1 then f else σ.2.1 a
    rw [if_neg ha])
  rw [Nat.zero_add] at e2
  have e3 : sn_L (sn_wL σ q1 f) q1 = f := by
    funext b
    show (if q1 = q1 then f else σ.2.1 q1) b = f b
    rw [if_pos rfl]
  rw [← e2]
  show va_P D vwCl ((sn_W ct ad σ 0 lay).set q1 (ad q1, .inl (ct 3, n1, .inr (.inl (sn_L (sn_wL σ q1 f) q1))))) H1
  rw [e3]
  exact hP1
end RW2
