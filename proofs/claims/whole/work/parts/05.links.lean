/-! links of calls, by words -/
theorem sn_cg {w : Cond} (h : w ∈ sn_gw) : ∀ x ∈ w :: sn_gw, x ∈ sn_gw := fun x hx => (List.mem_cons.mp hx).elim (fun e => e ▸ h) id
theorem sn_lv5 {own C : String} {idx : Nat} {y : MethodName} {w : Cond} (h1 : Cond.methodLink own idx y ∈ sn_gw) (h2 : Cond.instanceMethod y ∈ sn_gw) (h3 : Cond.selects C y y ∈ sn_gw) (h4 : Cond.initialized C ∈ sn_gw) (h5 : w ∈ sn_gw) : ∀ x ∈ wsV own idx C y (w :: sn_gw), x ∈ sn_gw := by
  intro x hx
  rcases List.mem_append.mp hx with hx | hx
  · simp only [List.mem_cons, List.not_mem_nil, or_false] at hx
    rcases hx with rfl | rfl | rfl | rfl <;> assumption
  · exact sn_cg h5 x hx
theorem sn_ls4 {own : String} {idx : Nat} {y : MethodName} {w : Cond} (h1 : Cond.methodLink own idx y ∈ sn_gw) (h2 : Cond.static y ∈ sn_gw) (h4 : Cond.initialized y.cls ∈ sn_gw) (h5 : w ∈ sn_gw) : ∀ x ∈ va_wsS own idx y (w :: sn_gw), x ∈ sn_gw := by
  intro x hx
  rcases List.mem_append.mp hx with hx | hx
  · simp only [List.mem_cons, List.not_mem_nil, or_false] at hx
    rcases hx with rfl | rfl | rfl <;> assumption
  · exact sn_cg h5 x hx
theorem sn_look {lay t : List sn_E} {q n k : Nat} {x : sn_E} (h : (lay.drop q).take n = t) (hk : t[k]? = some x) : lay[q + k]? = some x := by
  rw [← h, List.getElem?_take] at hk
  split at hk
  · rw [List.getElem?_drop] at hk
    exact hk
  · cases hk
section RW2
variable {p : Program} {l : Launch} {e : Env} {R : Room} {s : State} {m : MethodId} {args : Array Value} {below : List Frame} {meth : Method} {c : Code} {H : Heap} {locs : List Loc} {Q : State → Prop}
variable {cc : ByteArray} {pc nL : Nat} {ls : Array Slot} {own : String} {ret : Option FieldType} {D : va_G} {ct : Nat → ClassId} {ad : Nat → Nat} {lay : List sn_E} {σ : sn_S}
theorem sn_callVi {index mL n q ci : Nat} {fs : List Nat} {kT : u_T} {kN : Nat} {y : MethodName} {cy : ByteArray} {ry : Option FieldType} {rm : Room} {As : (Nat → Nat) → List Value} {τ : sn_S} {st0 : List Value} {x : Int32} (rest : List Value)
    (C : sn_C p s m args meth c own cc nL ret D ct ad lay) (h : sn_H s D ct ad lay σ H locs) (hM : sn_M l y cy mL ry rm lay (fun ad => .ref (ad q) :: As ad) σ (some (fun _ => .int x)) τ) (L : sn_LV own index y cy mL ry n) (hq : lay[q]? = some (.inr (ci, fs))) (hc : vwCl[ci]? = some (y.cls, kT, kN)) (hR : sn_fit rm R mL = true) (hn : (As ad).length = n)
    (hst : st0 = (As ad).reverse ++ .ref (ad q) :: rest) (hsum : sn_sum rest ≤ 8) (hd : decode cc pc = .ok (.invokevirtual index, 3)) (hls : ls.size = nL)
    (kk : ∀ (H : Heap) (locs : List Loc), sn_H s D ct ad lay τ H locs → W p l e R s m args below meth c H locs 0 0 Q (F0 m (pc + 3) ls (.int x :: rest))) : W p l e R s m args below meth c H locs 0 0 Q (F0 m pc ls st0) :=
  sn_callV C h hM L hq hc hR hn hst hsum hd hls kk
theorem sn_callVl {index mL n q ci : Nat} {fs : List Nat} {kT : u_T} {kN : Nat} {y : MethodName} {cy : ByteArray} {ry : Option FieldType} {rm : Room} {As : (Nat → Nat) → List Value} {τ : sn_S} {st0 : List Value} {x : Int64} (rest : List Value)
    (C : sn_C p s m args meth c own cc nL ret D ct ad lay) (h : sn_H s D ct ad lay σ H locs) (hM : sn_M l y cy mL ry rm lay (fun ad => .ref (ad q) :: As ad) σ (some (fun _ => .long x)) τ) (L : sn_LV own index y cy mL ry n) (hq : lay[q]? = some (.inr (ci, fs))) (hc : vwCl[ci]? = some (y.cls, kT, kN)) (hR : sn_fit rm R mL = true) (hn : (As ad).length = n)
    (hst : st0 = (As ad).reverse ++ .ref (ad q) :: rest) (hsum : sn_sum rest ≤ 8) (hd : decode cc pc = .ok (.invokevirtual index, 3)) (hls : ls.size = nL)
    (kk : ∀ (H : Heap) (locs : List Loc), sn_H s D ct ad lay τ H locs → W p l e R s m args below meth c H locs 0 0 Q (F0 m (pc + 3) ls (.long x :: rest))) : W p l e R s m args below meth c H locs 0 0 Q (F0 m pc ls st0) :=
  sn_callV C h hM L hq hc hR hn hst hsum hd hls kk
theorem sn_callVv {index mL n q ci : Nat} {fs : List Nat} {kT : u_T} {kN : Nat} {y : MethodName} {cy : ByteArray} {ry : Option FieldType} {rm : Room} {As : (Nat → Nat) → List Value} {τ : sn_S} {st0 : List Value}  (rest : List Value)
    (C : sn_C p s m args meth c own cc nL ret D ct ad lay) (h : sn_H s D ct ad lay σ H locs) (hM : sn_M l y cy mL ry rm lay (fun ad => .ref (ad q) :: As ad) σ none τ) (L : sn_LV own index y cy mL ry n) (hq : lay[q]? = some (.inr (ci, fs))) (hc : vwCl[ci]? = some (y.cls, kT, kN)) (hR : sn_fit rm R mL = true) (hn : (As ad).length = n)
    (hst : st0 = (As ad).reverse ++ .ref (ad q) :: rest) (hsum : sn_sum rest ≤ 8) (hd : decode cc pc = .ok (.invokevirtual index, 3)) (hls : ls.size = nL)
    (kk : ∀ (H : Heap) (locs : List Loc), sn_H s D ct ad lay τ H locs → W p l e R s m args below meth c H locs 0 0 Q (F0 m (pc + 3) ls (rest))) : W p l e R s m args below meth c H locs 0 0 Q (F0 m pc ls st0) :=
  sn_callV C h hM L hq hc hR hn hst hsum hd hls kk
theorem sn_callVr {index mL n q ci : Nat} {fs : List Nat} {kT : u_T} {kN : Nat} {y : MethodName} {cy : ByteArray} {ry : Option FieldType} {rm : Room} {As : (Nat → Nat) → List Value} {τ : sn_S} {st0 : List Value} {x : Nat} (rest : List Value)
    (C : sn_C p s m args meth c own cc nL ret D ct ad lay) (h : sn_H s D ct ad lay σ H locs) (hM : sn_M l y cy mL ry rm lay (fun ad => .ref (ad q) :: As ad) σ (some (fun ad => .ref (ad x))) τ) (L : sn_LV own index y cy mL ry n) (hq : lay[q]? = some (.inr (ci, fs))) (hc : vwCl[ci]? = some (y.cls, kT, kN)) (hR : sn_fit rm R mL = true) (hn : (As ad).length = n)
    (hst : st0 = (As ad).reverse ++ .ref (ad q) :: rest) (hsum : sn_sum rest ≤ 8) (hd : decode cc pc = .ok (.invokevirtual index, 3)) (hls : ls.size = nL)
    (kk : ∀ (H : Heap) (locs : List Loc), sn_H s D ct ad lay τ H locs → W p l e R s m args below meth c H locs 0 0 Q (F0 m (pc + 3) ls (.ref (ad x) :: rest))) : W p l e R s m args below meth c H locs 0 0 Q (F0 m pc ls st0) :=
  sn_callV C h hM L hq hc hR hn hst hsum hd hls kk
theorem sn_callSi {index mL n : Nat} {y : MethodName} {cy : ByteArray} {ry : Option FieldType} {rm : Room} {As : (Nat → Nat) → List Value} {τ : sn_S} {st0 : List Value} {x : Int32} (rest : List Value)
    (C : sn_C p s m args meth c own cc nL ret D ct ad lay) (h : sn_H s D ct ad lay σ H locs) (hM : sn_M l y cy mL ry rm lay As σ (some (fun _ => .int x)) τ) (L : sn_LS own index y cy mL ry n) (hR : sn_fit rm R mL = true) (hn : (As ad).length = n)
    (hst : st0 = (As ad).reverse ++ rest) (hsum : sn_sum rest ≤ 8) (hd : decode cc pc = .ok (.invokestatic index, 3)) (hls : ls.size = nL)
    (kk : ∀ (H : Heap) (locs : List Loc), sn_H s D ct ad lay τ H locs → W p l e R s m args below meth c H locs 0 0 Q (F0 m (pc + 3) ls (.int x :: rest))) : W p l e R s m args below meth c H locs 0 0 Q (F0 m pc ls st0) :=
  sn_callS C h hM L hR hn hst hsum hd hls kk
theorem sn_callSl {index mL n : Nat} {y : MethodName} {cy : ByteArray} {ry : Option FieldType} {rm : Room} {As : (Nat → Nat) → List Value} {τ : sn_S} {st0 : List Value} {x : Int64} (rest : List Value)
    (C : sn_C p s m args meth c own cc nL ret D ct ad lay) (h : sn_H s D ct ad lay σ H locs) (hM : sn_M l y cy mL ry rm lay As σ (some (fun _ => .long x)) τ) (L : sn_LS own index y cy mL ry n) (hR : sn_fit rm R mL = true) (hn : (As ad).length = n)
    (hst : st0 = (As ad).reverse ++ rest) (hsum : sn_sum rest ≤ 8) (hd : decode cc pc = .ok (.invokestatic index, 3)) (hls : ls.size = nL)
    (kk : ∀ (H : Heap) (locs : List Loc), sn_H s D ct ad lay τ H locs → W p l e R s m args below meth c H locs 0 0 Q (F0 m (pc + 3) ls (.long x :: rest))) : W p l e R s m args below meth c H locs 0 0 Q (F0 m pc ls st0) :=
  sn_callS C h hM L hR hn hst hsum hd hls kk
theorem sn_callSv {index mL n : Nat} {y : MethodName} {cy : ByteArray} {ry : Option FieldType} {rm : Room} {As : (Nat → Nat) → List Value} {τ : sn_S} {st0 : List Value}  (rest : List Value)
    (C : sn_C p s m args meth c own cc nL ret D ct ad lay) (h : sn_H s D ct ad lay σ H locs) (hM : sn_M l y cy mL ry rm lay As σ none τ) (L : sn_LS own index y cy mL ry n) (hR : sn_fit rm R mL = true) (hn : (As ad).length = n)
    (hst : st0 = (As ad).reverse ++ rest) (hsum : sn_sum rest ≤ 8) (hd : decode cc pc = .ok (.invokestatic index, 3)) (hls : ls.size = nL)
    (kk : ∀ (H : Heap) (locs : List Loc), sn_H s D ct ad lay τ H locs → W p l e R s m args below meth c H locs 0 0 Q (F0 m (pc + 3) ls (rest))) : W p l e R s m args below meth c H locs 0 0 Q (F0 m pc ls st0) :=
  sn_callS C h hM L hR hn hst hsum hd hls kk
theorem sn_callNi {index mL n : Nat} {host : String} {y : MethodName} {cy : ByteArray} {ry : Option FieldType} {rm : Room} {As : (Nat → Nat) → List Value} {τ : sn_S} {st0 : List Value} {x : Int32} (rest : List Value)
    (C : sn_C p s m args meth c own cc nL ret D ct ad lay) (h : sn_H s D ct ad lay σ H locs) (hM : sn_M l y cy mL ry rm lay As σ (some (fun _ => .int x)) τ) (L : sn_LN own index y host cy mL ry n) (hR : sn_fit rm R mL = true) (hn : (As ad).length = n)
    (hst : st0 = (As ad).reverse ++ rest) (hsum : sn_sum rest ≤ 8) (hd : decode cc pc = .ok (.invokestatic index, 3)) (hls : ls.size = nL)
    (kk : ∀ (H : Heap) (locs : List Loc), sn_H s D ct ad lay τ H locs → W p l e R s m args below meth c H locs 0 0 Q (F0 m (pc + 3) ls (.int x :: rest))) : W p l e R s m args below meth c H locs 0 0 Q (F0 m pc ls st0) :=
  sn_callN C h hM L hR hn hst hsum hd hls kk
theorem sn_callNl {index mL n : Nat} {host : String} {y : MethodName} {cy : ByteArray} {ry : Option FieldType} {rm : Room} {As : (Nat → Nat) → List Value} {τ : sn_S} {st0 : List Value} {x : Int64} (rest : List Value)
    (C : sn_C p s m args meth c own cc nL ret D ct ad lay) (h : sn_H s D ct ad lay σ H locs) (hM : sn_M l y cy mL ry rm lay As σ (some (fun _ => .long x)) τ) (L : sn_LN own index y host cy mL ry n) (hR : sn_fit rm R mL = true) (hn : (As ad).length = n)
    (hst : st0 = (As ad).reverse ++ rest) (hsum : sn_sum rest ≤ 8) (hd : decode cc pc = .ok (.invokestatic index, 3)) (hls : ls.size = nL)
    (kk : ∀ (H : Heap) (locs : List Loc), sn_H s D ct ad lay τ H locs → W p l e R s m args below meth c H locs 0 0 Q (F0 m (pc + 3) ls (.long x :: rest))) : W p l e R s m args below meth c H locs 0 0 Q (F0 m pc ls st0) :=
  sn_callN C h hM L hR hn hst hsum hd hls kk
theorem sn_callNv {index mL n : Nat} {host : String} {y : MethodName} {cy : ByteArray} {ry : Option FieldType} {rm : Room} {As : (Nat → Nat) → List Value} {τ : sn_S} {st0 : List Value}  (rest : List Value)
    (C : sn_C p s m args meth c own cc nL ret D ct ad lay) (h : sn_H s D ct ad lay σ H locs) (hM : sn_M l y cy mL ry rm lay As σ none τ) (L : sn_LN own index y host cy mL ry n) (hR : sn_fit rm R mL = true) (hn : (As ad).length = n)
    (hst : st0 = (As ad).reverse ++ rest) (hsum : sn_sum rest ≤ 8) (hd : decode cc pc = .ok (.invokestatic index, 3)) (hls : ls.size = nL)
    (kk : ∀ (H : Heap) (locs : List Loc), sn_H s D ct ad lay τ H locs → W p l e R s m args below meth c H locs 0 0 Q (F0 m (pc + 3) ls (rest))) : W p l e R s m args below meth c H locs 0 0 Q (F0 m pc ls st0) :=
  sn_callN C h hM L hR hn hst hsum hd hls kk
/-- a copy within bounds -/
def sn_cpok (sp dp n : Int32) (n0 n1 : Nat) : Bool := decide (0 ≤ sp) && decide (0 ≤ dp) && decide (0 ≤ n) && decide (sp.toNatClampNeg + n.toNatClampNeg ≤ n0) && decide (dp.toNatClampNeg + n.toNatClampNeg ≤ n1)
theorem sn_cpok_spec {sp dp n : Int32} {n0 n1 : Nat} (h : sn_cpok sp dp n n0 n1 = true) : ¬ sp < 0 ∧ ¬ dp < 0 ∧ ¬ n < 0 ∧ sp.toNatClampNeg + n.toNatClampNeg ≤ n0 ∧ dp.toNatClampNeg + n.toNatClampNeg ≤ n1 := by
  unfold sn_cpok at h
  simp only [Bool.and_eq_true, decide_eq_true_eq] at h
  exact ⟨Int32.not_lt.mpr h.1.1.1.1, Int32.not_lt.mpr h.1.1.1.2, Int32.not_lt.mpr h.1.1.2, h.1.2, h.2⟩
theorem sn_cpyI {index q0 q1 n0 n1 : Nat} {r0 r1 : List Nat} {sp dp n : Int32} (rest : List Value) (C : sn_C p s m args meth c own cc nL ret D ct ad lay) (h : sn_H s D ct ad lay σ H locs) (w1 : Cond.methodLink own index arraycopyName ∈ sn_gw) (w2 : Cond.native arraycopyName ∈ sn_gw) (w3 : Cond.static arraycopyName ∈ sn_gw) (w4 : Cond.initialized "java/lang/System" ∈ sn_gw)
    (hq0 : lay[q0]? = some (.inl (0, n0, 0, r0))) (hq1 : lay[q1]? = some (.inl (0, n1, 0, r1))) (hok : sn_cpok sp dp n n0 n1 = true) (hfr : 1 ≤ R.frames) (hlo : sn_sum rest + (nativeFrameWords "java/lang/System" "arraycopy" 5 + 11) ≤ R.locals) (hd : decode cc pc = .ok (.invokestatic index, 3)) (hls : ls.size = nL)
    (kk : ∀ (H : Heap) (locs : List Loc), sn_H s D ct ad lay (sn_wI σ q1 (va_cpy (sn_I σ q0) (sn_I σ q1) sp.toNatClampNeg dp.toNatClampNeg n.toNatClampNeg)) H locs → W p l e R s m args below meth c H locs 0 0 Q (F0 m (pc + 3) ls rest)) :
    W p l e R s m args below meth c H locs 0 0 Q (F0 m pc ls (.int n :: .int dp :: .ref (ad q1) :: .int sp :: .ref (ad q0) :: rest)) := by
  obtain ⟨hx, hb, hml, hown, hts, hr, hlk, hK, hD, hG⟩ := C
  obtain ⟨h1, h2, h3, h4, h5⟩ := sn_cpok_spec hok
  have g0 := sn_W_get (ct := ct) (ad := ad) (σ := σ) 0 hq0
  have g1 := sn_W_get (ct := ct) (ad := ad) (σ := σ) 0 hq1
  rw [Nat.zero_add] at g0 g1
  refine va_copyi (f := sn_I σ q0) (g := sn_I σ q1) (ty := .int) hx hb (hml.trans hls.symm) hown (hts _ w1) (hts _ w2) (hts _ w3) (hts _ w4) hK h.1 (hD σ) h.2 q0 q1 0 0 g0 g1 rfl rfl rfl h1 h2 h3 h4 h5 (fun _ _ => rfl) hfr hlo hd (fun H1 locs1 hP1 _ hS1 => kk H1 locs1 ⟨?_, hS1⟩)
  generalize hf : va_cpy (sn_I σ q0) (sn_I σ q1) sp.toNatClampNeg dp.toNatClampNeg n.toNatClampNeg = f at hP1 ⊢
  have e2 := sn_W_set (ct := ct) (ad := ad) (σ := σ) (τ := sn_wI σ q1 f) 0 hq1 (fun a ha => by
    rw [Nat.zero_add] at ha
    refine ⟨?_, rfl, rfl⟩
    show σ.1 a = if a = q1 then f else σ.1 a
    rw [if_neg ha])
  rw [Nat.zero_add] at e2
  have e3 : sn_I (sn_wI σ q1 f) q1 = f := by
    funext b
    show (if q1 = q1 then f else σ.1 q1) b = f b
    rw [if_pos rfl]
  rw [← e2]
  show va_P D vwCl ((sn_W ct ad σ 0 lay).set q1 (ad q1, .inl (ct 0, n1, .inl (sn_I (sn_wI σ q1 f) q1)))) H1
  rw [e3]
  exact hP1
theorem sn_cpyL {index q0 q1 n0 n1 : Nat} {r0 r1 : List Nat} {sp dp n : Int32} (rest : List Value) (C : sn_C p s m args meth c own cc nL ret D ct ad lay) (h : sn_H s D ct ad lay σ H locs) (w1 : Cond.methodLink own index arraycopyName ∈ sn_gw) (w2 : Cond.native arraycopyName ∈ sn_gw) (w3 : Cond.static arraycopyName ∈ sn_gw) (w4 : Cond.initialized "java/lang/System" ∈ sn_gw)
    (hq0 : lay[q0]? = some (.inl (3, n0, 1, r0))) (hq1 : lay[q1]? = some (.inl (3, n1, 1, r1))) (hok : sn_cpok sp dp n n0 n1 = true) (hfr : 1 ≤ R.frames) (hlo : sn_sum rest + (nativeFrameWords "java/lang/System" "arraycopy" 5 + 11) ≤ R.locals) (hd : decode cc pc = .ok (.invokestatic index, 3)) (hls : ls.size = nL)
    (kk : ∀ (H : Heap) (locs : List Loc), sn_H s D ct ad lay (sn_wL σ q1 (va_cpy (sn_L σ q0) (sn_L σ q1) sp.toNatClampNeg dp.toNatClampNeg n.toNatClampNeg)) H locs → W p l e R s m args below meth c H locs 0 0 Q (F0 m (pc + 3) ls rest)) :
    W p l e R s m args below meth c H locs 0 0 Q (F0 m pc ls (.int n :: .int dp :: .ref (ad q1) :: .int sp :: .ref (ad q0) :: rest)) := by
  obtain ⟨hx, hb, hml, hown, hts, hr, hlk, hK, hD, hG⟩ := C
  obtain ⟨h1, h2, h3, h4, h5⟩ := sn_cpok_spec hok
  have g0 := sn_W_get (ct := ct) (ad := ad) (σ := σ) 0 hq0
  have g1 := sn_W_get (ct := ct) (ad := ad) (σ := σ) 0 hq1
  rw [Nat.zero_add] at g0 g1
  refine va_copyl (f := sn_L σ q0) (g := sn_L σ q1) (ty := .long) hx hb (hml.trans hls.symm) hown (hts _ w1) (hts _ w2) (hts _ w3) (hts _ w4) hK h.1 (hD σ) h.2 q0 q1 3 3 g0 g1 rfl rfl rfl h1 h2 h3 h4 h5 (fun _ _ => rfl) hfr hlo hd (fun H1 locs1 hP1 _ hS1 => kk H1 locs1 ⟨?_, hS1⟩)
  generalize hf : va_cpy (sn_L σ q0) (sn_L σ q1) sp.toNatClampNeg dp.toNatClampNeg n.toNatClampNeg = f at hP1 ⊢
  have e2 := sn_W_set (ct := ct) (ad := ad) (σ := σ) (τ := sn_wL σ q1 f) 0 hq1 (fun a ha => by
    rw [Nat.zero_add] at ha
    refine ⟨rfl, ?_, rfl⟩
    show σ.2.1 a = if a = q1 then f else σ.2.1 a
    rw [if_neg ha])
  rw [Nat.zero_add] at e2
  have e3 : sn_L (sn_wL σ q1 f) q1 = f := by
    funext b
    show (if q1 = q1 then f else σ.2.1 q1) b = f b
    rw [if_pos rfl]
  rw [← e2]
  show va_P D vwCl ((sn_W ct ad σ 0 lay).set q1 (ad q1, .inl (ct 3, n1, .inr (.inl (sn_L (sn_wL σ q1 f) q1))))) H1
  rw [e3]
  exact hP1
end RW2
def layM : List sn_E := [.inr (9, [0, 4, 5, 6, 7, 0, 8, 0, 0, 0, 0, 0, 0, 0, 9, 10, 11, 12, 0, 0, 0, 0, 0, 13, 14, 15, 16, 17, 18, 19, 0, 0, 20, 21, 22, 23, 0, 0, 1, 1, 1, 1, 24, 25, 26, 27]), .inl (0, 119, 0, []), .inl (0, 357, 0, []), .inl (1, 3, 0, []), .inl (2, 900, 0, []), .inl (0, 5, 0, []), .inl (0, 119, 0, []), .inl (0, 30, 0, []), .inl (0, 6, 0, []), .inl (0, 6, 0, []), .inl (0, 6, 0, []), .inl (0, 30, 0, []), .inl (0, 180, 0, []), .inl (0, 180, 0, []), .inl (0, 6, 0, []), .inl (0, 6, 0, []), .inl (0, 30, 0, []), .inl (0, 961, 0, []), .inl (0, 961, 0, []), .inl (0, 270, 0, []), .inl (0, 1620, 0, []), .inl (0, 4, 0, []), .inl (0, 4, 0, []), .inl (3, 240, 1, []), .inl (3, 60, 1, [])]
theorem layM_0 : layM[0]? = some (.inr (9, [0, 4, 5, 6, 7, 0, 8, 0, 0, 0, 0, 0, 0, 0, 9, 10, 11, 12, 0, 0, 0, 0, 0, 13, 14, 15, 16, 17, 18, 19, 0, 0, 20, 21, 22, 23, 0, 0, 1, 1, 1, 1, 24, 25, 26, 27])) := rfl
theorem layM_1 : layM[1]? = some (.inl (0, 119, 0, [])) := rfl
theorem layM_2 : layM[2]? = some (.inl (0, 357, 0, [])) := rfl
theorem layM_3 : layM[3]? = some (.inl (1, 3, 0, [])) := rfl
theorem layM_4 : layM[4]? = some (.inl (2, 900, 0, [])) := rfl
theorem layM_5 : layM[5]? = some (.inl (0, 5, 0, [])) := rfl
theorem layM_6 : layM[6]? = some (.inl (0, 119, 0, [])) := rfl
theorem layM_7 : layM[7]? = some (.inl (0, 30, 0, [])) := rfl
theorem layM_8 : layM[8]? = some (.inl (0, 6, 0, [])) := rfl
theorem layM_9 : layM[9]? = some (.inl (0, 6, 0, [])) := rfl
theorem layM_10 : layM[10]? = some (.inl (0, 6, 0, [])) := rfl
theorem layM_11 : layM[11]? = some (.inl (0, 30, 0, [])) := rfl
theorem layM_12 : layM[12]? = some (.inl (0, 180, 0, [])) := rfl
theorem layM_13 : layM[13]? = some (.inl (0, 180, 0, [])) := rfl
theorem layM_14 : layM[14]? = some (.inl (0, 6, 0, [])) := rfl
theorem layM_15 : layM[15]? = some (.inl (0, 6, 0, [])) := rfl
theorem layM_16 : layM[16]? = some (.inl (0, 30, 0, [])) := rfl
theorem layM_17 : layM[17]? = some (.inl (0, 961, 0, [])) := rfl
theorem layM_18 : layM[18]? = some (.inl (0, 961, 0, [])) := rfl
theorem layM_19 : layM[19]? = some (.inl (0, 270, 0, [])) := rfl
theorem layM_20 : layM[20]? = some (.inl (0, 1620, 0, [])) := rfl
theorem layM_21 : layM[21]? = some (.inl (0, 4, 0, [])) := rfl
theorem layM_22 : layM[22]? = some (.inl (0, 4, 0, [])) := rfl
theorem layM_23 : layM[23]? = some (.inl (3, 240, 1, [])) := rfl
theorem layM_24 : layM[24]? = some (.inl (3, 60, 1, [])) := rfl
def layC : List sn_E := [.inr (8, [6, 13, 4, 5, 41, 43, 51, 62, 73, 76, 78, 81]), .inl (4, 3, 2, [17, 24, 31]), .inl (1, 3, 0, []), .inr (2, [7, 8, 9, 10, 11, 12]), .inl (0, 11, 0, []), .inl (0, 12, 0, []), .inl (0, 10, 0, []), .inl (0, 16, 0, []), .inl (0, 30, 0, []), .inl (0, 120, 0, []), .inr (2, [14, 15, 16, 17, 18, 19]), .inl (0, 11, 0, []), .inl (0, 12, 0, []), .inl (0, 10, 0, []), .inl (0, 16, 0, []), .inl (0, 30, 0, []), .inl (0, 120, 0, []), .inr (2, [21, 22, 23, 24, 25, 26]), .inl (0, 11, 0, []), .inl (0, 12, 0, []), .inl (0, 10, 0, []), .inl (0, 16, 0, []), .inl (0, 30, 0, []), .inl (0, 120, 0, []), .inr (2, [28, 29, 30, 31, 32, 33]), .inl (0, 11, 0, []), .inl (0, 12, 0, []), .inl (0, 10, 0, []), .inl (0, 16, 0, []), .inl (0, 30, 0, []), .inl (0, 120, 0, []), .inr (2, [35, 36, 37, 38, 39, 40]), .inl (0, 11, 0, []), .inl (0, 12, 0, []), .inl (0, 10, 0, []), .inl (0, 16, 0, []), .inl (0, 30, 0, []), .inl (0, 120, 0, []), .inr (5, [42, 0, 0, 0, 0, 0, 0, 2]), .inl (0, 900, 0, []), .inr (6, [44, 49, 50]), .inl (5, 4, 2, [42, 43, 44, 45]), .inl (3, 60, 1, []), .inl (3, 60, 1, []), .inl (3, 60, 1, []), .inl (3, 60, 1, []), .inl (0, 4, 0, []), .inl (0, 4, 0, []), .inr (0, [0, 0, 0, 0, 52, 53, 54, 55, 56, 57, 58, 59, 60, 61]), .inl (0, 30, 0, []), .inl (0, 6, 0, []), .inl (0, 6, 0, []), .inl (0, 6, 0, []), .inl (0, 6, 0, []), .inl (0, 16, 0, []), .inl (0, 180, 0, []), .inl (0, 180, 0, []), .inl (0, 30, 0, []), .inl (0, 6, 0, []), .inr (0, [0, 0, 0, 0, 63, 64, 65, 66, 67, 68, 69, 70, 71, 72]), .inl (0, 30, 0, []), .inl (0, 6, 0, []), .inl (0, 6, 0, []), .inl (0, 6, 0, []), .inl (0, 6, 0, []), .inl (0, 16, 0, []), .inl (0, 180, 0, []), .inl (0, 180, 0, []), .inl (0, 30, 0, []), .inl (0, 6, 0, []), .inr (3, [74, 75, 0, 0]), .inl (0, 6, 0, []), .inl (0, 6, 0, []), .inr (1, [77, 1]), .inl (3, 31, 1, []), .inr (7, [79, 0, 0, 0, 80]), .inl (0, 6, 0, []), .inl (0, 186, 0, []), .inr (4, [1, 1, 82, 6, 51, 62, 73]), .inl (3, 9, 1, [])]
theorem layC_0 : layC[0]? = some (.inr (8, [6, 13, 4, 5, 41, 43, 51, 62, 73, 76, 78, 81])) := rfl
theorem layC_1 : layC[1]? = some (.inl (4, 3, 2, [17, 24, 31])) := rfl
theorem layC_2 : layC[2]? = some (.inl (1, 3, 0, [])) := rfl
theorem layC_3 : layC[3]? = some (.inr (2, [7, 8, 9, 10, 11, 12])) := rfl
theorem layC_4 : layC[4]? = some (.inl (0, 11, 0, [])) := rfl
theorem layC_5 : layC[5]? = some (.inl (0, 12, 0, [])) := rfl
theorem layC_6 : layC[6]? = some (.inl (0, 10, 0, [])) := rfl
theorem layC_7 : layC[7]? = some (.inl (0, 16, 0, [])) := rfl
theorem layC_8 : layC[8]? = some (.inl (0, 30, 0, [])) := rfl
theorem layC_9 : layC[9]? = some (.inl (0, 120, 0, [])) := rfl
theorem layC_10 : layC[10]? = some (.inr (2, [14, 15, 16, 17, 18, 19])) := rfl
theorem layC_11 : layC[11]? = some (.inl (0, 11, 0, [])) := rfl
theorem layC_12 : layC[12]? = some (.inl (0, 12, 0, [])) := rfl
theorem layC_13 : layC[13]? = some (.inl (0, 10, 0, [])) := rfl
theorem layC_14 : layC[14]? = some (.inl (0, 16, 0, [])) := rfl
theorem layC_15 : layC[15]? = some (.inl (0, 30, 0, [])) := rfl
theorem layC_16 : layC[16]? = some (.inl (0, 120, 0, [])) := rfl
theorem layC_17 : layC[17]? = some (.inr (2, [21, 22, 23, 24, 25, 26])) := rfl
theorem layC_18 : layC[18]? = some (.inl (0, 11, 0, [])) := rfl
theorem layC_19 : layC[19]? = some (.inl (0, 12, 0, [])) := rfl
theorem layC_20 : layC[20]? = some (.inl (0, 10, 0, [])) := rfl
theorem layC_21 : layC[21]? = some (.inl (0, 16, 0, [])) := rfl
theorem layC_22 : layC[22]? = some (.inl (0, 30, 0, [])) := rfl
theorem layC_23 : layC[23]? = some (.inl (0, 120, 0, [])) := rfl
theorem layC_24 : layC[24]? = some (.inr (2, [28, 29, 30, 31, 32, 33])) := rfl
theorem layC_25 : layC[25]? = some (.inl (0, 11, 0, [])) := rfl
theorem layC_26 : layC[26]? = some (.inl (0, 12, 0, [])) := rfl
theorem layC_27 : layC[27]? = some (.inl (0, 10, 0, [])) := rfl
theorem layC_28 : layC[28]? = some (.inl (0, 16, 0, [])) := rfl
theorem layC_29 : layC[29]? = some (.inl (0, 30, 0, [])) := rfl
theorem layC_30 : layC[30]? = some (.inl (0, 120, 0, [])) := rfl
theorem layC_31 : layC[31]? = some (.inr (2, [35, 36, 37, 38, 39, 40])) := rfl
theorem layC_32 : layC[32]? = some (.inl (0, 11, 0, [])) := rfl
theorem layC_33 : layC[33]? = some (.inl (0, 12, 0, [])) := rfl
theorem layC_34 : layC[34]? = some (.inl (0, 10, 0, [])) := rfl
theorem layC_35 : layC[35]? = some (.inl (0, 16, 0, [])) := rfl
theorem layC_36 : layC[36]? = some (.inl (0, 30, 0, [])) := rfl
theorem layC_37 : layC[37]? = some (.inl (0, 120, 0, [])) := rfl
theorem layC_38 : layC[38]? = some (.inr (5, [42, 0, 0, 0, 0, 0, 0, 2])) := rfl
theorem layC_39 : layC[39]? = some (.inl (0, 900, 0, [])) := rfl
theorem layC_40 : layC[40]? = some (.inr (6, [44, 49, 50])) := rfl
theorem layC_41 : layC[41]? = some (.inl (5, 4, 2, [42, 43, 44, 45])) := rfl
theorem layC_42 : layC[42]? = some (.inl (3, 60, 1, [])) := rfl
theorem layC_43 : layC[43]? = some (.inl (3, 60, 1, [])) := rfl
theorem layC_44 : layC[44]? = some (.inl (3, 60, 1, [])) := rfl
theorem layC_45 : layC[45]? = some (.inl (3, 60, 1, [])) := rfl
theorem layC_46 : layC[46]? = some (.inl (0, 4, 0, [])) := rfl
theorem layC_47 : layC[47]? = some (.inl (0, 4, 0, [])) := rfl
theorem layC_48 : layC[48]? = some (.inr (0, [0, 0, 0, 0, 52, 53, 54, 55, 56, 57, 58, 59, 60, 61])) := rfl
theorem layC_49 : layC[49]? = some (.inl (0, 30, 0, [])) := rfl
theorem layC_50 : layC[50]? = some (.inl (0, 6, 0, [])) := rfl
theorem layC_51 : layC[51]? = some (.inl (0, 6, 0, [])) := rfl
theorem layC_52 : layC[52]? = some (.inl (0, 6, 0, [])) := rfl
theorem layC_53 : layC[53]? = some (.inl (0, 6, 0, [])) := rfl
theorem layC_54 : layC[54]? = some (.inl (0, 16, 0, [])) := rfl
theorem layC_55 : layC[55]? = some (.inl (0, 180, 0, [])) := rfl
theorem layC_56 : layC[56]? = some (.inl (0, 180, 0, [])) := rfl
theorem layC_57 : layC[57]? = some (.inl (0, 30, 0, [])) := rfl
theorem layC_58 : layC[58]? = some (.inl (0, 6, 0, [])) := rfl
theorem layC_59 : layC[59]? = some (.inr (0, [0, 0, 0, 0, 63, 64, 65, 66, 67, 68, 69, 70, 71, 72])) := rfl
theorem layC_60 : layC[60]? = some (.inl (0, 30, 0, [])) := rfl
theorem layC_61 : layC[61]? = some (.inl (0, 6, 0, [])) := rfl
theorem layC_62 : layC[62]? = some (.inl (0, 6, 0, [])) := rfl
theorem layC_63 : layC[63]? = some (.inl (0, 6, 0, [])) := rfl
theorem layC_64 : layC[64]? = some (.inl (0, 6, 0, [])) := rfl
theorem layC_65 : layC[65]? = some (.inl (0, 16, 0, [])) := rfl
theorem layC_66 : layC[66]? = some (.inl (0, 180, 0, [])) := rfl
theorem layC_67 : layC[67]? = some (.inl (0, 180, 0, [])) := rfl
theorem layC_68 : layC[68]? = some (.inl (0, 30, 0, [])) := rfl
theorem layC_69 : layC[69]? = some (.inl (0, 6, 0, [])) := rfl
theorem layC_70 : layC[70]? = some (.inr (3, [74, 75, 0, 0])) := rfl
theorem layC_71 : layC[71]? = some (.inl (0, 6, 0, [])) := rfl
theorem layC_72 : layC[72]? = some (.inl (0, 6, 0, [])) := rfl
theorem layC_73 : layC[73]? = some (.inr (1, [77, 1])) := rfl
theorem layC_74 : layC[74]? = some (.inl (3, 31, 1, [])) := rfl
theorem layC_75 : layC[75]? = some (.inr (7, [79, 0, 0, 0, 80])) := rfl
theorem layC_76 : layC[76]? = some (.inl (0, 6, 0, [])) := rfl
theorem layC_77 : layC[77]? = some (.inl (0, 186, 0, [])) := rfl
theorem layC_78 : layC[78]? = some (.inr (4, [1, 1, 82, 6, 51, 62, 73])) := rfl
theorem layC_79 : layC[79]? = some (.inl (3, 9, 1, [])) := rfl
theorem ug_X0 : ∀ w ∈ u_ws RX0 TX0 14, w ∈ sn_gw := by decide +kernel
theorem ug_X1 : ∀ w ∈ u_ws RX1 TX1 2, w ∈ sn_gw := by decide +kernel
theorem ug_X2 : ∀ w ∈ u_ws RX2 TX2 6, w ∈ sn_gw := by decide +kernel
theorem ug_X3 : ∀ w ∈ u_ws RX3 TX3 4, w ∈ sn_gw := by decide +kernel
theorem ug_X4 : ∀ w ∈ u_ws RX4 TX4 7, w ∈ sn_gw := by decide +kernel
theorem ug_X5 : ∀ w ∈ u_ws RX5 TX5 8, w ∈ sn_gw := by decide +kernel
theorem ug_X6 : ∀ w ∈ u_ws RX6 TX6 3, w ∈ sn_gw := by decide +kernel
theorem ug_X7 : ∀ w ∈ u_ws RX7 TX7 5, w ∈ sn_gw := by decide +kernel
theorem ug_X8 : ∀ w ∈ u_ws RX8 TX8 12, w ∈ sn_gw := by decide +kernel
theorem ug_X9 : ∀ w ∈ u_ws RX9 TX9 46, w ∈ sn_gw := by decide +kernel
theorem kf_RX9_9 : Cond.fieldLink RX9 9 (TX9 1).1 (TX9 1).2.1 (TX9 1).2.2.1 ∈ sn_gw := sn_gwI (List.mem_of_getElem? (i := 1082) (by decide +kernel)) (by decide +kernel)
theorem fd_RX9_9 : sn_Fd RX9 9 9 1 := ⟨RX9, TX9, 46, rfl, ug_X9, by decide, kf_RX9_9⟩
theorem kc_X9_in : Cond.code yX9_in cX9_in 6 (some .boolean) ∈ sn_gw := sn_gwI (List.mem_of_getElem? (i := 1227) (by decide +kernel)) (by decide +kernel)
theorem km_RX9_94 : Cond.methodLink RX9 94 yX9_in ∈ sn_gw := sn_gwI (List.mem_of_getElem? (i := 1225) (by decide +kernel)) (by decide +kernel)
theorem kst_X9_in : Cond.static yX9_in ∈ sn_gw := sn_gwI (List.mem_of_getElem? (i := 1226) (by decide +kernel)) (by decide +kernel)
theorem ki_RX9 : Cond.initialized RX9 ∈ sn_gw := sn_gwI (List.mem_of_getElem? (i := 11) (by decide +kernel)) (by decide +kernel)
theorem kl_RX9_94 : sn_LS RX9 94 yX9_in cX9_in 6 (some .boolean) 3 := ⟨sn_ls4 km_RX9_94 kst_X9_in ki_RX9 kc_X9_in, by decide +kernel⟩
theorem kf_RX9_240 : Cond.fieldLink RX9 240 (TX9 19).1 (TX9 19).2.1 (TX9 19).2.2.1 ∈ sn_gw := sn_gwI (List.mem_of_getElem? (i := 1100) (by decide +kernel)) (by decide +kernel)
theorem fd_RX9_240 : sn_Fd RX9 240 9 19 := ⟨RX9, TX9, 46, rfl, ug_X9, by decide, kf_RX9_240⟩
theorem kc_X9_bit : Cond.code yX9_bit cX9_bit 2 (some .int) ∈ sn_gw := sn_gwI (List.mem_of_getElem? (i := 1367) (by decide +kernel)) (by decide +kernel)
theorem km_RX9_254 : Cond.methodLink RX9 254 yX9_bit ∈ sn_gw := sn_gwI (List.mem_of_getElem? (i := 1365) (by decide +kernel)) (by decide +kernel)
theorem kst_X9_bit : Cond.static yX9_bit ∈ sn_gw := sn_gwI (List.mem_of_getElem? (i := 1366) (by decide +kernel)) (by decide +kernel)
theorem kl_RX9_254 : sn_LS RX9 254 yX9_bit cX9_bit 2 (some .int) 2 := ⟨sn_ls4 km_RX9_254 kst_X9_bit ki_RX9 kc_X9_bit, by decide +kernel⟩
