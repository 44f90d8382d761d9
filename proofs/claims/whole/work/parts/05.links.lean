/-! links of calls, by words -/
theorem sn_cg {w : Cond} (h : w ∈ sn_gw) : ∀ x ∈ w :: sn_gw, x ∈ sn_gw := fun x hx => (List.mem_cons.mp hx).elim (fun e => e ▸ h) id
theorem sn_lv5 {own C : String} {idx : Nat} {y : MethodName} {w : Cond} (h1 : Cond.methodLink own idx y ∈ sn_gw) (h2 : Cond.instanceMethod y ∈ sn_gw) (h3 : Cond.selects C y y ∈ sn_gw) (h4 : Cond.initialized C ∈ sn_gw) (h5 : w ∈ sn_gw) : ∀ x ∈ wsV own idx C y (w :: sn_gw), x ∈ sn_gw := by
  intro x hx
  rcases List.mem_append.mp hx with hx | hx
  · simp only [List.mem_cons, List.not_mem_nil, or_false] at hx
    rcases hx with rfl | rfl | rfl | rfl <;> assumption
  · exact sn_cg h5 x hx
theorem sn_ls4 {own : String} {idx : Nat} {y : MethodName} {w : Cond} (h1 : Cond.methodLink own idx y ∈ sn_gw) (h2 : Cond.static y ∈ sn_gw) (h4 : Cond.initialized y.cls ∈ sn_gw) (h5 : w ∈ sn_gw) : ∀ x ∈ va_wsS own idx y (w :: sn_gw), x ∈ sn_gw := by
  intro x hx
  rcases List.mem_append.mp hx with hx | hx
  · simp only [List.mem_cons, List.not_mem_nil, or_false] at hx
    rcases hx with rfl | rfl | rfl <;> assumption
  · exact sn_cg h5 x hx
theorem sn_look {lay t : List sn_E} {q n k : Nat} {x : sn_E} (h : (lay.drop q).take n = t) (hk : t[k]? = some x) : lay[q + k]? = some x := by
  rw [← h, List.getElem?_take] at hk
  split at hk
  · rw [List.getElem?_drop] at hk
    exact hk
  · cases hk
section RW2
variable {p : Program} {l : Launch} {e : Env} {R : Room} {s : State} {m : MethodId} {args : Array Value} {below : List Frame} {meth : Method} {c : Code} {H : Heap} {locs : List Loc} {Q : State → Prop}
variable {cc : ByteArray} {pc nL : Nat} {ls : Array Slot} {own : String} {ret : Option FieldType} {D : va_G} {ct : Nat → ClassId} {ad : Nat → Nat} {lay : List sn_E} {σ : sn_S}
theorem sn_callVi {index mL n q ci : Nat} {fs : List Nat} {kT : u_T} {kN : Nat} {y : MethodName} {cy : ByteArray} {ry : Option FieldType} {rm : Room} {As : (Nat → Nat) → List Value} {τ : sn_S} {st0 : List Value} {x : Int32} (rest : List Value)
    (C : sn_C p s m args meth c own cc nL ret D ct ad lay) (h : sn_H s D ct ad lay σ H locs) (hM : sn_M l y cy mL ry rm lay (fun ad => .ref (ad q) :: As ad) σ (some (fun _ => .int x)) τ) (L : sn_LV own index y cy mL ry n) (hq : lay[q]? = some (.inr (ci, fs))) (hc : vwCl[ci]? = some (y.cls, kT, kN)) (hR : sn_fit rm R mL = true) (hn : (As ad).length = n)
    (hst : st0 = (As ad).reverse ++ .ref (ad q) :: rest) (hsum : sn_sum rest ≤ 8) (hd : decode cc pc = .ok (.invokevirtual index, 3)) (hls : ls.size = nL)
    (kk : ∀ (H : Heap) (locs : List Loc), sn_H s D ct ad lay τ H locs → W p l e R s m args below meth c H locs 0 0 Q (F0 m (pc + 3) ls (.int x :: rest))) : W p l e R s m args below meth c H locs 0 0 Q (F0 m pc ls st0) :=
  sn_callV C h hM L hq hc hR hn hst hsum hd hls kk
theorem sn_callVl {index mL n q ci : Nat} {fs : List Nat} {kT : u_T} {kN : Nat} {y : MethodName} {cy : ByteArray} {ry : Option FieldType} {rm : Room} {As : (Nat → Nat) → List Value} {τ : sn_S} {st0 : List Value} {x : Int64} (rest : List Value)
    (C : sn_C p s m args meth c own cc nL ret D ct ad lay) (h : sn_H s D ct ad lay σ H locs) (hM : sn_M l y cy mL ry rm lay (fun ad => .ref (ad q) :: As ad) σ (some (fun _ => .long x)) τ) (L : sn_LV own index y cy mL ry n) (hq : lay[q]? = some (.inr (ci, fs))) (hc : vwCl[ci]? = some (y.cls, kT, kN)) (hR : sn_fit rm R mL = true) (hn : (As ad).length = n)
    (hst : st0 = (As ad).reverse ++ .ref (ad q) :: rest) (hsum : sn_sum rest ≤ 8) (hd : decode cc pc = .ok (.invokevirtual index, 3)) (hls : ls.size = nL)
    (kk : ∀ (H : Heap) (locs : List Loc), sn_H s D ct ad lay τ H locs → W p l e R s m args below meth c H locs 0 0 Q (F0 m (pc + 3) ls (.long x :: rest))) : W p l e R s m args below meth c H locs 0 0 Q (F0 m pc ls st0) :=
  sn_callV C h hM L hq hc hR hn hst hsum hd hls kk
theorem sn_callVv {index mL n q ci : Nat} {fs : List Nat} {kT : u_T} {kN : Nat} {y : MethodName} {cy : ByteArray} {ry : Option FieldType} {rm : Room} {As : (Nat → Nat) → List Value} {τ : sn_S} {st0 : List Value}  (rest : List Value)
    (C : sn_C p s m args meth c own cc nL ret D ct ad lay) (h : sn_H s D ct ad lay σ H locs) (hM : sn_M l y cy mL ry rm lay (fun ad => .ref (ad q) :: As ad) σ none τ) (L : sn_LV own index y cy mL ry n) (hq : lay[q]? = some (.inr (ci, fs))) (hc : vwCl[ci]? = some (y.cls, kT, kN)) (hR : sn_fit rm R mL = true) (hn : (As ad).length = n)
    (hst : st0 = (As ad).reverse ++ .ref (ad q) :: rest) (hsum : sn_sum rest ≤ 8) (hd : decode cc pc = .ok (.invokevirtual index, 3)) (hls : ls.size = nL)
    (kk : ∀ (H : Heap) (locs : List Loc), sn_H s D ct ad lay τ H locs → W p l e R s m args below meth c H locs 0 0 Q (F0 m (pc + 3) ls (rest))) : W p l e R s m args below meth c H locs 0 0 Q (F0 m pc ls st0) :=
  sn_callV C h hM L hq hc hR hn hst hsum hd hls kk
theorem sn_callVr {index mL n q ci : Nat} {fs : List Nat} {kT : u_T} {kN : Nat} {y : MethodName} {cy : ByteArray} {ry : Option FieldType} {rm : Room} {As : (Nat → Nat) → List Value} {τ : sn_S} {st0 : List Value} {x : Nat} (rest : List Value)
    (C : sn_C p s m args meth c own cc nL ret D ct ad lay) (h : sn_H s D ct ad lay σ H locs) (hM : sn_M l y cy mL ry rm lay (fun ad => .ref (ad q) :: As ad) σ (some (fun ad => .ref (ad x))) τ) (L : sn_LV own index y cy mL ry n) (hq : lay[q]? = some (.inr (ci, fs))) (hc : vwCl[ci]? = some (y.cls, kT, kN)) (hR : sn_fit rm R mL = true) (hn : (As ad).length = n)
    (hst : st0 = (As ad).reverse ++ .ref (ad q) :: rest) (hsum : sn_sum rest ≤ 8) (hd : decode cc pc = .ok (.invokevirtual index, 3)) (hls : ls.size = nL)
    (kk : ∀ (H : Heap) (locs : List Loc), sn_H s D ct ad lay τ H locs → W p l e R s m args below meth c H locs 0 0 Q (F0 m (pc + 3) ls (.ref (ad x) :: rest))) : W p l e R s m args below meth c H locs 0 0 Q (F0 m pc ls st0) :=
  sn_callV C h hM L hq hc hR hn hst hsum hd hls kk
theorem sn_callSi {index mL n : Nat} {y : MethodName} {cy : ByteArray} {ry : Option FieldType} {rm : Room} {As : (Nat → Nat) → List Value} {τ : sn_S} {st0 : List Value} {x : Int32} (rest : List Value)
    (C : sn_C p s m args meth c own cc nL ret D ct ad lay) (h : sn_H s D ct ad lay σ H locs) (hM : sn_M l y cy mL ry rm lay As σ (some (fun _ => .int x)) τ) (L : sn_LS own index y cy mL ry n) (hR : sn_fit rm R mL = true) (hn : (As ad).length = n)
    (hst : st0 = (As ad).reverse ++ rest) (hsum : sn_sum rest ≤ 8) (hd : decode cc pc = .ok (.invokestatic index, 3)) (hls : ls.size = nL)
    (kk : ∀ (H : Heap) (locs : List Loc), sn_H s D ct ad lay τ H locs → W p l e R s m args below meth c H locs 0 0 Q (F0 m (pc + 3) ls (.int x :: rest))) : W p l e R s m args below meth c H locs 0 0 Q (F0 m pc ls st0) :=
  sn_callS C h hM L hR hn hst hsum hd hls kk
theorem sn_callSl {index mL n : Nat} {y : MethodName} {cy : ByteArray} {ry : Option FieldType} {rm : Room} {As : (Nat → Nat) → List Value} {τ : sn_S} {st0 : List Value} {x : Int64} (rest : List Value)
    (C : sn_C p s m args meth c own cc nL ret D ct ad lay) (h : sn_H s D ct ad lay σ H locs) (hM : sn_M l y cy mL ry rm lay As σ (some (fun _ => .long x)) τ) (L : sn_LS own index y cy mL ry n) (hR : sn_fit rm R mL = true) (hn : (As ad).length = n)
    (hst : st0 = (As ad).reverse ++ rest) (hsum : sn_sum rest ≤ 8) (hd : decode cc pc = .ok (.invokestatic index, 3)) (hls : ls.size = nL)
    (kk : ∀ (H : Heap) (locs : List Loc), sn_H s D ct ad lay τ H locs → W p l e R s m args below meth c H locs 0 0 Q (F0 m (pc + 3) ls (.long x :: rest))) : W p l e R s m args below meth c H locs 0 0 Q (F0 m pc ls st0) :=
  sn_callS C h hM L hR hn hst hsum hd hls kk
theorem sn_callSv {index mL n : Nat} {y : MethodName} {cy : ByteArray} {ry : Option FieldType} {rm : Room} {As : (Nat → Nat) → List Value} {τ : sn_S} {st0 : List Value}  (rest : List Value)
    (C : sn_C p s m args meth c own cc nL ret D ct ad lay) (h : sn_H s D ct ad lay σ H locs) (hM : sn_M l y cy mL ry rm lay As σ none τ) (L : sn_LS own index y cy mL ry n) (hR : sn_fit rm R mL = true) (hn : (As ad).length = n)
    (hst : st0 = (As ad).reverse ++ rest) (hsum : sn_sum rest ≤ 8) (hd : decode cc pc = .ok (.invokestatic index, 3)) (hls : ls.size = nL)
    (kk : ∀ (H : Heap) (locs : List Loc), sn_H s D ct ad lay τ H locs → W p l e R s m args below meth c H locs 0 0 Q (F0 m (pc + 3) ls (rest))) : W p l e R s m args below meth c H locs 0 0 Q (F0 m pc ls st0) :=
  sn_callS C h hM L hR hn hst hsum hd hls kk
theorem sn_callNi {index mL n : Nat} {host : String} {y : MethodName} {cy : ByteArray} {ry : Option FieldType} {rm : Room} {As : (Nat → Nat) → List Value} {τ : sn_S} {st0 : List Value} {x : Int32} (rest : List Value)
    (C : sn_C p s m args meth c own cc nL ret D ct ad lay) (h : sn_H s D ct ad lay σ H locs) (hM : sn_M l y cy mL ry rm lay As σ (some (fun _ => .int x)) τ) (L : sn_LN own index y host cy mL ry n) (hR : sn_fit rm R mL = true) (hn : (As ad).length = n)
    (hst : st0 = (As ad).reverse ++ rest) (hsum : sn_sum rest ≤ 8) (hd : decode cc pc = .ok (.invokestatic index, 3)) (hls : ls.size = nL)
    (kk : ∀ (H : Heap) (locs : List Loc), sn_H s D ct ad lay τ H locs → W p l e R s m args below meth c H locs 0 0 Q (F0 m (pc + 3) ls (.int x :: rest))) : W p l e R s m args below meth c H locs 0 0 Q (F0 m pc ls st0) :=
  sn_callN C h hM L hR hn hst hsum hd hls kk
theorem sn_callNl {index mL n : Nat} {host : String} {y : MethodName} {cy : ByteArray} {ry : Option FieldType} {rm : Room} {As : (Nat → Nat) → List Value} {τ : sn_S} {st0 : List Value} {x : Int64} (rest : List Value)
    (C : sn_C p s m args meth c own cc nL ret D ct ad lay) (h : sn_H s D ct ad lay σ H locs) (hM : sn_M l y cy mL ry rm lay As σ (some (fun _ => .long x)) τ) (L : sn_LN own index y host cy mL ry n) (hR : sn_fit rm R mL = true) (hn : (As ad).length = n)
    (hst : st0 = (As ad).reverse ++ rest) (hsum : sn_sum rest ≤ 8) (hd : decode cc pc = .ok (.invokestatic index, 3)) (hls : ls.size = nL)
    (kk : ∀ (H : Heap) (locs : List Loc), sn_H s D ct ad lay τ H locs → W p l e R s m args below meth c H locs 0 0 Q (F0 m (pc + 3) ls (.long x :: rest))) : W p l e R s m args below meth c H locs 0 0 Q (F0 m pc ls st0) :=
  sn_callN C h hM L hR hn hst hsum hd hls kk
theorem sn_callNv {index mL n : Nat} {host : String} {y : MethodName} {cy : ByteArray} {ry : Option FieldType} {rm : Room} {As : (Nat → Nat) → List Value} {τ : sn_S} {st0 : List Value}  (rest : List Value)
    (C : sn_C p s m args meth c own cc nL ret D ct ad lay) (h : sn_H s D ct ad lay σ H locs) (hM : sn_M l y cy mL ry rm lay As σ none τ) (L : sn_LN own index y host cy mL ry n) (hR : sn_fit rm R mL = true) (hn : (As ad).length = n)
    (hst : st0 = (As ad).reverse ++ rest) (hsum : sn_sum rest ≤ 8) (hd : decode cc pc = .ok (.invokestatic index, 3)) (hls : ls.size = nL)
    (kk : ∀ (H : Heap) (locs : List Loc), sn_H s D ct ad lay τ H locs → W p l e R s m args below meth c H locs 0 0 Q (F0 m (pc + 3) ls (rest))) : W p l e R s m args below meth c H locs 0 0 Q (F0 m pc ls st0) :=
  sn_callN C h hM L hR hn hst hsum hd hls kk
/-- a copy within bounds -/
def sn_cpok (sp dp n : Int32) (n0 n1 : Nat) : Bool := decide (0 ≤ sp) && decide (0 ≤ dp) && decide (0 ≤ n) && decide (sp.toNatClampNeg + n.toNatClampNeg ≤ n0) && decide (dp.toNatClampNeg + n.toNatClampNeg ≤ n1)
theorem sn_cpok_spec {sp dp n : Int32} {n0 n1 : Nat} (h : sn_cpok sp dp n n0 n1 = true) : ¬ sp < 0 ∧ ¬ dp < 0 ∧ ¬ n < 0 ∧ sp.toNatClampNeg + n.toNatClampNeg ≤ n0 ∧ dp.toNatClampNeg + n.toNatClampNeg ≤ n1 := by
  unfold sn_cpok at h
  simp only [Bool.and_eq_true, decide_eq_true_eq] at h
  exact ⟨Int32.not_lt.mpr h.1.1.1.1, Int32.not_lt.mpr h.1.1.1.2, Int32.not_lt.mpr h.1.1.2, h.1.2, h.2⟩
theorem sn_cpyI {index q0 q1 n0 n1 : Nat} {r0 r1 : List Nat} {sp dp n : Int32} (rest : List Value) (C : sn_C p s m args meth c own cc nL ret D ct ad lay) (h : sn_H s D ct ad lay σ H locs) (w1 : Cond.methodLink own index arraycopyName ∈ sn_gw) (w2 : Cond.native arraycopyName ∈ sn_gw) (w3 : Cond.static arraycopyName ∈ sn_gw) (w4 : Cond.initialized "java/lang/System" ∈ sn_gw)
    (hq0 : lay[q0]? = some (.inl (0, n0, 0, r0))) (hq1 : lay[q1]? = some (.inl (0, n1, 0, r1))) (hok : sn_cpok sp dp n n0 n1 = true) (hfr : 1 ≤ R.frames) (hlo : sn_sum rest + (nativeFrameWords "java/lang/System" "arraycopy" 5 + 11) ≤ R.locals) (hd : decode cc pc = .ok (.invokestatic index, 3)) (hls : ls.size = nL)
    (kk : ∀ (H : Heap) (locs : List Loc), sn_H s D ct ad lay (sn_wI σ q1 (va_cpy (sn_I σ q0) (sn_I σ q1) sp.toNatClampNeg dp.toNatClampNeg n.toNatClampNeg)) H locs → W p l e R s m args below meth c H locs 0 0 Q (F0 m (pc + 3) ls rest)) :
    W p l e R s m args below meth c H locs 0 0 Q (F0 m pc ls (.int n :: .int dp :: .ref (ad q1) :: .int sp :: .ref (ad q0) :: rest)) := by
  obtain ⟨hx, hb, hml, hown, hts, hr, hlk, hK, hD, hG⟩ := C
  obtain ⟨h1, h2, h3, h4, h5⟩ := sn_cpok_spec hok
  have g0 := sn_W_get (ct := ct) (ad := ad) (σ := σ) 0 hq0
  have g1 := sn_W_get (ct := ct) (ad := ad) (σ := σ) 0 hq1
  rw [Nat.zero_add] at g0 g1
  refine va_copyi (f := sn_I σ q0) (g := sn_I σ q1) (ty := .int) hx hb (hml.trans hls.symm) hown (hts _ w1) (hts _ w2) (hts _ w3) (hts _ w4) hK h.1 (hD σ) h.2 q0 q1 0 0 g0 g1 rfl rfl rfl h1 h2 h3 h4 h5 (fun _ _ => rfl) hfr hlo hd (fun H1 locs1 hP1 _ hS1 => kk H1 locs1 ⟨?_, hS1⟩)
  generalize hf : va_cpy (sn_I σ q0) (sn_I σ q1) sp.toNatClampNeg dp.toNatClampNeg n.toNatClampNeg = f at hP1 ⊢
  have e2 := sn_W_set (ct := ct) (ad := ad) (σ := σ) (τ := sn_wI σ q1 f) 0 hq1 (fun a ha => by
    rw [Nat.zero_add] at ha
    refine ⟨?_, rfl, rfl⟩
    show σ.1 a = if a = q1 then f else σ.1 a
    rw [if_neg ha])
  rw [Nat.zero_add] at e2
  have e3 : sn_I (sn_wI σ q1 f) q1 = f := by
    funext b
    show (if q1 = q1 then f else σ.1 q1) b = f b
    rw [if_pos rfl]
  rw [← e2]
  show va_P D vwCl ((sn_W ct ad σ 0 lay).set q1 (ad q1, .inl (ct 0, n1, .inl (sn_I (sn_wI σ q1 f) q1)))) H1
  rw [e3]
  exact hP1
theorem sn_cpyL {index q0 q1 n0 n1 : Nat} {r0 r1 : List Nat} {sp dp n : Int32} (rest : List Value) (C : sn_C p s m args meth c own cc nL ret D ct ad lay) (h : sn_H s D ct ad lay σ H locs) (w1 : Cond.methodLink own index arraycopyName ∈ sn_gw) (w2 : Cond.native arraycopyName ∈ sn_gw) (w3 : Cond.static arraycopyName ∈ sn_gw) (w4 : Cond.initialized "java/lang/System" ∈ sn_gw)
    (hq0 : lay[q0]? = some (.inl (3, n0, 1, r0))) (hq1 : lay[q1]? = some (.inl (3, n1, 1, r1))) (hok : sn_cpok sp dp n n0 n1 = true) (hfr : 1 ≤ R.frames) (hlo : sn_sum rest + (nativeFrameWords "java/lang/System" "arraycopy" 5 + 11) ≤ R.locals) (hd : decode cc pc = .ok (.invokestatic index, 3)) (hls : ls.size = nL)
    (kk : ∀ (H : Heap) (locs : List Loc), sn_H s D ct ad lay (sn_wL σ q1 (va_cpy (sn_L σ q0) (sn_L σ q1) sp.toNatClampNeg dp.toNatClampNeg n.toNatClampNeg)) H locs → W p l e R s m args below meth c H locs 0 0 Q (F0 m (pc + 3) ls rest)) :
    W p l e R s m args below meth c H locs 0 0 Q (F0 m pc ls (.int n :: .int dp :: .ref (ad q1) :: .int sp :: .ref (ad q0) :: rest)) := by
  obtain ⟨hx, hb, hml, hown, hts, hr, hlk, hK, hD, hG⟩ := C
  obtain ⟨h1, h2, h3, h4, h5⟩ := sn_cpok_spec hok
  have g0 := sn_W_get (ct := ct) (ad := ad) (σ := σ) 0 hq0
  have g1 := sn_W_get (ct := ct) (ad := ad) (σ := σ) 0 hq1
  rw [Nat.zero_add] at g0 g1
  refine va_copyl (f := sn_L σ q0) (g := sn_L σ q1) (ty := .long) hx hb (hml.trans hls.symm) hown (hts _ w1) (hts _ w2) (hts _ w3) (hts _ w4) hK h.1 (hD σ) h.2 q0 q1 3 3 g0 g1 rfl rfl rfl h1 h2 h3 h4 h5 (fun _ _ => rfl) hfr hlo hd (fun H1 locs1 hP1 _ hS1 => kk H1 locs1 ⟨?_, hS1⟩)
  generalize hf : va_cpy (sn_L σ q0) (sn_L σ q1) sp.toNatClampNeg dp.toNatClampNeg n.toNatClampNeg = f at hP1 ⊢
  have e2 := sn_W_set (ct := ct) (ad := ad) (σ := σ) (τ := sn_wL σ q1 f) 0 hq1 (fun a ha => by
    rw [Nat.zero_add] at ha
    refine ⟨rfl, ?_, rfl⟩
    show σ.2.1 a = if a = q1 then f else σ.2.1 a
    rw [if_neg ha])
  rw [Nat.zero_add] at e2
  have e3 : sn_L (sn_wL σ q1 f) q1 = f := by
    funext b
    show (if q1 = q1 then f else σ.2.1 q1) b = f b
    rw [if_pos rfl]
  rw [← e2]
  show va_P D vwCl ((sn_W ct ad σ 0 lay).set q1 (ad q1, .inl (ct 3, n1, .inr (.inl (sn_L (sn_wL σ q1 f) q1))))) H1
  rw [e3]
  exact hP1
end RW2
def layM : List sn_E := [.inr (9, [0, 4, 5, 6, 7, 0, 8, 0, 0, 0, 0, 0, 0, 0, 9, 10, 11, 12, 0, 0, 0, 0, 0, 13, 14, 15, 16, 17, 18, 19, 0, 0, 20, 21, 22, 23, 0, 0, 1, 1, 1, 1, 24, 25, 26, 27]), .inl (0, 119, 0, []), .inl (0, 357, 0, []), .inl (1, 3, 0, []), .inl (2, 900, 0, []), .inl (0, 5, 0, []), .inl (0, 119, 0, []), .inl (0, 30, 0, []), .inl (0, 6, 0, []), .inl (0, 6, 0, []), .inl (0, 6, 0, []), .inl (0, 30, 0, []), .inl (0, 180, 0, []), .inl (0, 180, 0, []), .inl (0, 6, 0, []), .inl (0, 6, 0, []), .inl (0, 30, 0, []), .inl (0, 961, 0, []), .inl (0, 961, 0, []), .inl (0, 270, 0, []), .inl (0, 1620, 0, []), .inl (0, 4, 0, []), .inl (0, 4, 0, []), .inl (3, 240, 1, []), .inl (3, 60, 1, [])]
theorem layM_0 : layM[0]? = some (.inr (9, [0, 4, 5, 6, 7, 0, 8, 0, 0, 0, 0, 0, 0, 0, 9, 10, 11, 12, 0, 0, 0, 0, 0, 13, 14, 15, 16, 17, 18, 19, 0, 0, 20, 21, 22, 23, 0, 0, 1, 1, 1, 1, 24, 25, 26, 27])) := rfl
theorem layM_1 : layM[1]? = some (.inl (0, 119, 0, [])) := rfl
theorem layM_2 : layM[2]? = some (.inl (0, 357, 0, [])) := rfl
theorem layM_3 : layM[3]? = some (.inl (1, 3, 0, [])) := rfl
theorem layM_4 : layM[4]? = some (.inl (2, 900, 0, [])) := rfl
theorem layM_5 : layM[5]? = some (.inl (0, 5, 0, [])) := rfl
theorem layM_6 : layM[6]? = some (.inl (0, 119, 0, [])) := rfl
theorem layM_7 : layM[7]? = some (.inl (0, 30, 0, [])) := rfl
theorem layM_8 : layM[8]? = some (.inl (0, 6, 0, [])) := rfl
theorem layM_9 : layM[9]? = some (.inl (0, 6, 0, [])) := rfl
theorem layM_10 : layM[10]? = some (.inl (0, 6, 0, [])) := rfl
theorem layM_11 : layM[11]? = some (.inl (0, 30, 0, [])) := rfl
theorem layM_12 : layM[12]? = some (.inl (0, 180, 0, [])) := rfl
theorem layM_13 : layM[13]? = some (.inl (0, 180, 0, [])) := rfl
theorem layM_14 : layM[14]? = some (.inl (0, 6, 0, [])) := rfl
theorem layM_15 : layM[15]? = some (.inl (0, 6, 0, [])) := rfl
theorem layM_16 : layM[16]? = some (.inl (0, 30, 0, [])) := rfl
theorem layM_17 : layM[17]? = some (.inl (0, 961, 0, [])) := rfl
theorem layM_18 : layM[18]? = some (.inl (0, 961, 0, [])) := rfl
theorem layM_19 : layM[19]? = some (.inl (0, 270, 0, [])) := rfl
theorem layM_20 : layM[20]? = some (.inl (0, 1620, 0, [])) := rfl
theorem layM_21 : layM[21]? = some (.inl (0, 4, 0, [])) := rfl
theorem layM_22 : layM[22]? = some (.inl (0, 4, 0, [])) := rfl
theorem layM_23 : layM[23]? = some (.inl (3, 240, 1, [])) := rfl
theorem layM_24 : layM[24]? = some (.inl (3, 60, 1, [])) := rfl
def layC : List sn_E := [.inr (8, [6, 13, 4, 5, 41, 43, 51, 62, 73, 76, 78, 81]), .inl (4, 3, 2, [17, 24, 31]), .inl (1, 3, 0, []), .inr (2, [7, 8, 9, 10, 11, 12]), .inl (0, 11, 0, []), .inl (0, 12, 0, []), .inl (0, 10, 0, []), .inl (0, 16, 0, []), .inl (0, 30, 0, []), .inl (0, 120, 0, []), .inr (2, [14, 15, 16, 17, 18, 19]), .inl (0, 11, 0, []), .inl (0, 12, 0, []), .inl (0, 10, 0, []), .inl (0, 16, 0, []), .inl (0, 30, 0, []), .inl (0, 120, 0, []), .inr (2, [21, 22, 23, 24, 25, 26]), .inl (0, 11, 0, []), .inl (0, 12, 0, []), .inl (0, 10, 0, []), .inl (0, 16, 0, []), .inl (0, 30, 0, []), .inl (0, 120, 0, []), .inr (2, [28, 29, 30, 31, 32, 33]), .inl (0, 11, 0, []), .inl (0, 12, 0, []), .inl (0, 10, 0, []), .inl (0, 16, 0, []), .inl (0, 30, 0, []), .inl (0, 120, 0, []), .inr (2, [35, 36, 37, 38, 39, 40]), .inl (0, 11, 0, []), .inl (0, 12, 0, []), .inl (0, 10, 0, []), .inl (0, 16, 0, []), .inl (0, 30, 0, []), .inl (0, 120, 0, []), .inr (5, [42, 0, 0, 0, 0, 0, 0, 2]), .inl (0, 900, 0, []), .inr (6, [44, 49, 50]), .inl (5, 4, 2, [42, 43, 44, 45]), .inl (3, 60, 1, []), .inl (3, 60, 1, []), .inl (3, 60, 1, []), .inl (3, 60, 1, []), .inl (0, 4, 0, []), .inl (0, 4, 0, []), .inr (0, [0, 0, 0, 0, 52, 53, 54, 55, 56, 57, 58, 59, 60, 61]), .inl (0, 30, 0, []), .inl (0, 6, 0, []), .inl (0, 6, 0, []), .inl (0, 6, 0, []), .inl (0, 6, 0, []), .inl (0, 16, 0, []), .inl (0, 180, 0, []), .inl (0, 180, 0, []), .inl (0, 30, 0, []), .inl (0, 6, 0, []), .inr (0, [0, 0, 0, 0, 63, 64, 65, 66, 67, 68, 69, 70, 71, 72]), .inl (0, 30, 0, []), .inl (0, 6, 0, []), .inl (0, 6, 0, []), .inl (0, 6, 0, []), .inl (0, 6, 0, []), .inl (0, 16, 0, []), .inl (0, 180, 0, []), .inl (0, 180, 0, []), .inl (0, 30, 0, []), .inl (0, 6, 0, []), .inr (3, [74, 75, 0, 0]), .inl (0, 6, 0, []), .inl (0, 6, 0, []), .inr (1, [77, 1]), .inl (3, 31, 1, []), .inr (7, [79, 0, 0, 0, 80]), .inl (0, 6, 0, []), .inl (0, 186, 0, []), .inr (4, [1, 1, 82, 6, 51, 62, 73]), .inl (3, 9, 1, [])]
theorem layC_0 : layC[0]? = some (.inr (8, [6, 13, 4, 5, 41, 43, 51, 62, 73, 76, 78, 81])) := rfl
theorem layC_1 : layC[1]? = some (.inl (4, 3, 2, [17, 24, 31])) := rfl
theorem layC_2 : layC[2]? = some (.inl (1, 3, 0, [])) := rfl
theorem layC_3 : layC[3]? = some (.inr (2, [7, 8, 9, 10, 11, 12])) := rfl
theorem layC_4 : layC[4]? = some (.inl (0, 11, 0, [])) := rfl
theorem layC_5 : layC[5]? = some (.inl (0, 12, 0, [])) := rfl
theorem layC_6 : layC[6]? = some (.inl (0, 10, 0, [])) := rfl
theorem layC_7 : layC[7]? = some (.inl (0, 16, 0, [])) := rfl
theorem layC_8 : layC[8]? = some (.inl (0, 30, 0, [])) := rfl
theorem layC_9 : layC[9]? = some (.inl (0, 120, 0, [])) := rfl
theorem layC_10 : layC[10]? = some (.inr (2, [14, 15, 16, 17, 18, 19])) := rfl
theorem layC_11 : layC[11]? = some (.inl (0, 11, 0, [])) := rfl
theorem layC_12 : layC[12]? = some (.inl (0, 12, 0, [])) := rfl
theorem layC_13 : layC[13]? = some (.inl (0, 10, 0, [])) := rfl
theorem layC_14 : layC[14]? = some (.inl (0, 16, 0, [])) := rfl
theorem layC_15 : layC[15]? = some (.inl (0, 30, 0, [])) := rfl
theorem layC_16 : layC[16]? = some (.inl (0, 120, 0, [])) := rfl
theorem layC_17 : layC[17]? = some (.inr (2, [21, 22, 23, 24, 25, 26])) := rfl
theorem layC_18 : layC[18]? = some (.inl (0, 11, 0, [])) := rfl
theorem layC_19 : layC[19]? = some (.inl (0, 12, 0, [])) := rfl
theorem layC_20 : layC[20]? = some (.inl (0, 10, 0, [])) := rfl
theorem layC_21 : layC[21]? = some (.inl (0, 16, 0, [])) := rfl
theorem layC_22 : layC[22]? = some (.inl (0, 30, 0, [])) := rfl
theorem layC_23 : layC[23]? = some (.inl (0, 120, 0, [])) := rfl
theorem layC_24 : layC[24]? = some (.inr (2, [28, 29, 30, 31, 32, 33])) := rfl
theorem layC_25 : layC[25]? = some (.inl (0, 11, 0, [])) := rfl
theorem layC_26 : layC[26]? = some (.inl (0, 12, 0, [])) := rfl
theorem layC_27 : layC[27]? = some (.inl (0, 10, 0, [])) := rfl
theorem layC_28 : layC[28]? = some (.inl (0, 16, 0, [])) := rfl
theorem layC_29 : layC[29]? = some (.inl (0, 30, 0, [])) := rfl
theorem layC_30 : layC[30]? = some (.inl (0, 120, 0, [])) := rfl
theorem layC_31 : layC[31]? = some (.inr (2, [35, 36, 37, 38, 39, 40])) := rfl
theorem layC_32 : layC[32]? = some (.inl (0, 11, 0, [])) := rfl
theorem layC_33 : layC[33]? = some (.inl (0, 12, 0, [])) := rfl
theorem layC_34 : layC[34]? = some (.inl (0, 10, 0, [])) := rfl
theorem layC_35 : layC[35]? = some (.inl (0, 16, 0, [])) := rfl
theorem layC_36 : layC[36]? = some (.inl (0, 30, 0, [])) := rfl
theorem layC_37 : layC[37]? = some (.inl (0, 120, 0, [])) := rfl
theorem layC_38 : layC[38]? = some (.inr (5, [42, 0, 0, 0, 0, 0, 0, 2])) := rfl
theorem layC_39 : layC[39]? = some (.inl (0, 900, 0, [])) := rfl
theorem layC_40 : layC[40]? = some (.inr (6, [44, 49, 50])) := rfl
theorem layC_41 : layC[41]? = some (.inl (5, 4, 2, [42, 43, 44, 45])) := rfl
theorem layC_42 : layC[42]? = some (.inl (3, 60, 1, [])) := rfl
theorem layC_43 : layC[43]? = some (.inl (3, 60, 1, [])) := rfl
theorem layC_44 : layC[44]? = some (.inl (3, 60, 1, [])) := rfl
theorem layC_45 : layC[45]? = some (.inl (3, 60, 1, [])) := rfl
theorem layC_46 : layC[46]? = some (.inl (0, 4, 0, [])) := rfl
theorem layC_47 : layC[47]? = some (.inl (0, 4, 0, [])) := rfl
theorem layC_48 : layC[48]? = some (.inr (0, [0, 0, 0, 0, 52, 53, 54, 55, 56, 57, 58, 59, 60, 61])) := rfl
theorem layC_49 : layC[49]? = some (.inl (0, 30, 0, [])) := rfl
theorem layC_50 : layC[50]? = some (.inl (0, 6, 0, [])) := rfl
theorem layC_51 : layC[51]? = some (.inl (0, 6, 0, [])) := rfl
theorem layC_52 : layC[52]? = some (.inl (0, 6, 0, [])) := rfl
theorem layC_53 : layC[53]? = some (.inl (0, 6, 0, [])) := rfl
theorem layC_54 : layC[54]? = some (.inl (0, 16, 0, [])) := rfl
theorem layC_55 : layC[55]? = some (.inl (0, 180, 0, [])) := rfl
theorem layC_56 : layC[56]? = some (.inl (0, 180, 0, [])) := rfl
theorem layC_57 : layC[57]? = some (.inl (0, 30, 0, [])) := rfl
theorem layC_58 : layC[58]? = some (.inl (0, 6, 0, [])) := rfl
theorem layC_59 : layC[59]? = some (.inr (0, [0, 0, 0, 0, 63, 64, 65, 66, 67, 68, 69, 70, 71, 72])) := rfl
theorem layC_60 : layC[60]? = some (.inl (0, 30, 0, [])) := rfl
theorem layC_61 : layC[61]? = some (.inl (0, 6, 0, [])) := rfl
theorem layC_62 : layC[62]? = some (.inl (0, 6, 0, [])) := rfl
theorem layC_63 : layC[63]? = some (.inl (0, 6, 0, [])) := rfl
theorem layC_64 : layC[64]? = some (.inl (0, 6, 0, [])) := rfl
theorem layC_65 : layC[65]? = some (.inl (0, 16, 0, [])) := rfl
theorem layC_66 : layC[66]? = some (.inl (0, 180, 0, [])) := rfl
theorem layC_67 : layC[67]? = some (.inl (0, 180, 0, [])) := rfl
theorem layC_68 : layC[68]? = some (.inl (0, 30, 0, [])) := rfl
theorem layC_69 : layC[69]? = some (.inl (0, 6, 0, [])) := rfl
theorem layC_70 : layC[70]? = some (.inr (3, [74, 75, 0, 0])) := rfl
theorem layC_71 : layC[71]? = some (.inl (0, 6, 0, [])) := rfl
theorem layC_72 : layC[72]? = some (.inl (0, 6, 0, [])) := rfl
theorem layC_73 : layC[73]? = some (.inr (1, [77, 1])) := rfl
theorem layC_74 : layC[74]? = some (.inl (3, 31, 1, [])) := rfl
theorem layC_75 : layC[75]? = some (.inr (7, [79, 0, 0, 0, 80])) := rfl
theorem layC_76 : layC[76]? = some (.inl (0, 6, 0, [])) := rfl
theorem layC_77 : layC[77]? = some (.inl (0, 186, 0, [])) := rfl
theorem layC_78 : layC[78]? = some (.inr (4, [1, 1, 82, 6, 51, 62, 73])) := rfl
theorem layC_79 : layC[79]? = some (.inl (3, 9, 1, [])) := rfl
def sn_tX2 (q : Nat) : List sn_E := [.inr (2, [(q + 1) + 3, (q + 2) + 3, (q + 3) + 3, (q + 4) + 3, (q + 5) + 3, (q + 6) + 3]), .inl (0, 11, 0, []), .inl (0, 12, 0, []), .inl (0, 10, 0, []), .inl (0, 16, 0, []), .inl (0, 30, 0, []), .inl (0, 120, 0, [])]
def sn_isX2 (q : Nat) : Prop := (layC.drop q).take 7 = sn_tX2 q
def sn_tX0 (q : Nat) : List sn_E := [.inr (0, [0, 0, 0, 0, (q + 1) + 3, (q + 2) + 3, (q + 3) + 3, (q + 4) + 3, (q + 5) + 3, (q + 6) + 3, (q + 7) + 3, (q + 8) + 3, (q + 9) + 3, (q + 10) + 3]), .inl (0, 30, 0, []), .inl (0, 6, 0, []), .inl (0, 6, 0, []), .inl (0, 6, 0, []), .inl (0, 6, 0, []), .inl (0, 16, 0, []), .inl (0, 180, 0, []), .inl (0, 180, 0, []), .inl (0, 30, 0, []), .inl (0, 6, 0, [])]
def sn_isX0 (q : Nat) : Prop := (layC.drop q).take 11 = sn_tX0 q
theorem sn_isX2_3 : sn_isX2 3 := rfl
theorem sn_isX2_10 : sn_isX2 10 := rfl
theorem sn_isX2_17 : sn_isX2 17 := rfl
theorem sn_isX2_24 : sn_isX2 24 := rfl
theorem sn_isX2_31 : sn_isX2 31 := rfl
theorem sn_isX0_48 : sn_isX0 48 := rfl
theorem sn_isX0_59 : sn_isX0 59 := rfl
abbrev sn_rs1 : List Nat := [17, 24, 31]
abbrev sn_rs41 : List Nat := [42, 43, 44, 45]
theorem sn_in_nat {i : Int32} {n : Nat} (h : sn_in i n = true) : i.toNatClampNeg < n := by
  unfold sn_in at h
  simp only [Bool.and_eq_true, decide_eq_true_eq] at h
  exact h.2
theorem sn_rs_house {i : Int32} (h : sn_in i 3 = true) : sn_isX2 (sn_at sn_rs1 i) := by
  have h1 := sn_in_nat h
  unfold sn_at
  generalize i.toNatClampNeg = j at h1
  match j, h1 with
  | 0, _ => exact sn_isX2_17
  | 1, _ => exact sn_isX2_24
  | 2, _ => exact sn_isX2_31
theorem sn_rs_row {i : Int32} (h : sn_in i 4 = true) : layC[sn_at sn_rs41 i]? = some (.inl (3, 60, 1, [])) := by
  have h1 := sn_in_nat h
  unfold sn_at
  generalize i.toNatClampNeg = j at h1
  match j, h1 with
  | 0, _ => rfl
  | 1, _ => rfl
  | 2, _ => rfl
  | 3, _ => rfl
theorem sn_swout3 {x : Int32} (h0 : ¬ x = 0) (h1 : ¬ x = 1) (h2 : ¬ x = 2) : x.toInt < 0 ∨ 2 < x.toInt := by
  have a0 : x.toInt ≠ 0 := fun q => h0 (Int32.toInt_inj.mp q)
  have a1 : x.toInt ≠ 1 := fun q => h1 (Int32.toInt_inj.mp q)
  have a2 : x.toInt ≠ 2 := fun q => h2 (Int32.toInt_inj.mp q)
  omega
theorem ug_X0 : ∀ w ∈ u_ws RX0 TX0 14, w ∈ sn_gw := by decide +kernel
theorem ug_X1 : ∀ w ∈ u_ws RX1 TX1 2, w ∈ sn_gw := by decide +kernel
theorem ug_X2 : ∀ w ∈ u_ws RX2 TX2 6, w ∈ sn_gw := by decide +kernel
theorem ug_X3 : ∀ w ∈ u_ws RX3 TX3 4, w ∈ sn_gw := by decide +kernel
theorem ug_X4 : ∀ w ∈ u_ws RX4 TX4 7, w ∈ sn_gw := by decide +kernel
theorem ug_X5 : ∀ w ∈ u_ws RX5 TX5 8, w ∈ sn_gw := by decide +kernel
theorem ug_X6 : ∀ w ∈ u_ws RX6 TX6 3, w ∈ sn_gw := by decide +kernel
theorem ug_X7 : ∀ w ∈ u_ws RX7 TX7 5, w ∈ sn_gw := by decide +kernel
theorem ug_X8 : ∀ w ∈ u_ws RX8 TX8 12, w ∈ sn_gw := by decide +kernel
theorem ug_X9 : ∀ w ∈ u_ws RX9 TX9 46, w ∈ sn_gw := by decide +kernel
theorem kf_RX2_9 : Cond.fieldLink RX2 9 (TX2 0).1 (TX2 0).2.1 (TX2 0).2.2.1 ∈ sn_gw := sn_gwI (List.mem_of_getElem? (i := 33) (by decide +kernel)) (by decide +kernel)
theorem fd_RX2_9 : sn_Fd RX2 9 2 0 := ⟨RX2, TX2, 6, rfl, ug_X2, by decide, kf_RX2_9⟩
theorem kf_RX2_27 : Cond.fieldLink RX2 27 (TX2 5).1 (TX2 5).2.1 (TX2 5).2.2.1 ∈ sn_gw := sn_gwI (List.mem_of_getElem? (i := 52) (by decide +kernel)) (by decide +kernel)
theorem fd_RX2_27 : sn_Fd RX2 27 2 5 := ⟨RX2, TX2, 6, rfl, ug_X2, by decide, kf_RX2_27⟩
theorem kf_RX0_46 : Cond.fieldLink RX0 46 (TX2 0).1 (TX2 0).2.1 (TX2 0).2.2.1 ∈ sn_gw := sn_gwI (List.mem_of_getElem? (i := 34) (by decide +kernel)) (by decide +kernel)
theorem fd_RX0_46 : sn_Fd RX0 46 2 0 := ⟨RX2, TX2, 6, rfl, ug_X2, by decide, kf_RX0_46⟩
theorem kf_RX0_60 : Cond.fieldLink RX0 60 (TX2 3).1 (TX2 3).2.1 (TX2 3).2.2.1 ∈ sn_gw := sn_gwI (List.mem_of_getElem? (i := 47) (by decide +kernel)) (by decide +kernel)
theorem fd_RX0_60 : sn_Fd RX0 60 2 3 := ⟨RX2, TX2, 6, rfl, ug_X2, by decide, kf_RX0_60⟩
theorem kf_RX0_31 : Cond.fieldLink RX0 31 (TX0 9).1 (TX0 9).2.1 (TX0 9).2.2.1 ∈ sn_gw := sn_gwI (List.mem_of_getElem? (i := 158) (by decide +kernel)) (by decide +kernel)
theorem fd_RX0_31 : sn_Fd RX0 31 0 9 := ⟨RX0, TX0, 14, rfl, ug_X0, by decide, kf_RX0_31⟩
theorem kf_RX0_54 : Cond.fieldLink RX0 54 (TX0 1).1 (TX0 1).2.1 (TX0 1).2.2.1 ∈ sn_gw := sn_gwI (List.mem_of_getElem? (i := 138) (by decide +kernel)) (by decide +kernel)
theorem fd_RX0_54 : sn_Fd RX0 54 0 1 := ⟨RX0, TX0, 14, rfl, ug_X0, by decide, kf_RX0_54⟩
theorem kf_RX0_19 : Cond.fieldLink RX0 19 (TX0 5).1 (TX0 5).2.1 (TX0 5).2.2.1 ∈ sn_gw := sn_gwI (List.mem_of_getElem? (i := 148) (by decide +kernel)) (by decide +kernel)
theorem fd_RX0_19 : sn_Fd RX0 19 0 5 := ⟨RX0, TX0, 14, rfl, ug_X0, by decide, kf_RX0_19⟩
theorem kf_RX0_67 : Cond.fieldLink RX0 67 (TX2 1).1 (TX2 1).2.1 (TX2 1).2.2.1 ∈ sn_gw := sn_gwI (List.mem_of_getElem? (i := 40) (by decide +kernel)) (by decide +kernel)
theorem fd_RX0_67 : sn_Fd RX0 67 2 1 := ⟨RX2, TX2, 6, rfl, ug_X2, by decide, kf_RX0_67⟩
theorem kf_RX0_22 : Cond.fieldLink RX0 22 (TX0 6).1 (TX0 6).2.1 (TX0 6).2.2.1 ∈ sn_gw := sn_gwI (List.mem_of_getElem? (i := 150) (by decide +kernel)) (by decide +kernel)
theorem fd_RX0_22 : sn_Fd RX0 22 0 6 := ⟨RX0, TX0, 14, rfl, ug_X0, by decide, kf_RX0_22⟩
theorem kf_RX0_25 : Cond.fieldLink RX0 25 (TX0 7).1 (TX0 7).2.1 (TX0 7).2.2.1 ∈ sn_gw := sn_gwI (List.mem_of_getElem? (i := 153) (by decide +kernel)) (by decide +kernel)
theorem fd_RX0_25 : sn_Fd RX0 25 0 7 := ⟨RX0, TX0, 14, rfl, ug_X0, by decide, kf_RX0_25⟩
theorem kf_RX0_28 : Cond.fieldLink RX0 28 (TX0 8).1 (TX0 8).2.1 (TX0 8).2.2.1 ∈ sn_gw := sn_gwI (List.mem_of_getElem? (i := 156) (by decide +kernel)) (by decide +kernel)
theorem fd_RX0_28 : sn_Fd RX0 28 0 8 := ⟨RX0, TX0, 14, rfl, ug_X0, by decide, kf_RX0_28⟩
theorem kf_RX0_15 : Cond.fieldLink RX0 15 (TX0 4).1 (TX0 4).2.1 (TX0 4).2.2.1 ∈ sn_gw := sn_gwI (List.mem_of_getElem? (i := 144) (by decide +kernel)) (by decide +kernel)
theorem fd_RX0_15 : sn_Fd RX0 15 0 4 := ⟨RX0, TX0, 14, rfl, ug_X0, by decide, kf_RX0_15⟩
theorem kf_RX0_80 : Cond.fieldLink RX0 80 (TX2 2).1 (TX2 2).2.1 (TX2 2).2.2.1 ∈ sn_gw := sn_gwI (List.mem_of_getElem? (i := 44) (by decide +kernel)) (by decide +kernel)
theorem fd_RX0_80 : sn_Fd RX0 80 2 2 := ⟨RX2, TX2, 6, rfl, ug_X2, by decide, kf_RX0_80⟩
theorem kc_J7_fill_53178 : Cond.code yJ7_fill_53178 cJ7_fill_53178 4 none ∈ sn_gw := sn_gwI (List.mem_of_getElem? (i := 113) (by decide +kernel)) (by decide +kernel)
theorem km_RX0_74 : Cond.methodLink RX0 74 yJ7_fill_53178 ∈ sn_gw := sn_gwI (List.mem_of_getElem? (i := 495) (by decide +kernel)) (by decide +kernel)
theorem kst_J7_fill_53178 : Cond.static yJ7_fill_53178 ∈ sn_gw := sn_gwI (List.mem_of_getElem? (i := 112) (by decide +kernel)) (by decide +kernel)
theorem ki_RJ7 : Cond.initialized RJ7 ∈ sn_gw := sn_gwI (List.mem_of_getElem? (i := 5) (by decide +kernel)) (by decide +kernel)
theorem kl_RX0_74 : sn_LS RX0 74 yJ7_fill_53178 cJ7_fill_53178 4 none 2 := ⟨sn_ls4 km_RX0_74 kst_J7_fill_53178 ki_RJ7 kc_J7_fill_53178, by decide +kernel⟩
theorem kc_X2_minutesOfActs : Cond.code yX2_minutesOfActs cX2_minutesOfActs 5 (some .int) ∈ sn_gw := sn_gwI (List.mem_of_getElem? (i := 494) (by decide +kernel)) (by decide +kernel)
theorem km_RX0_70 : Cond.methodLink RX0 70 yX2_minutesOfActs ∈ sn_gw := sn_gwI (List.mem_of_getElem? (i := 491) (by decide +kernel)) (by decide +kernel)
theorem kin_X2_minutesOfActs : Cond.instanceMethod yX2_minutesOfActs ∈ sn_gw := sn_gwI (List.mem_of_getElem? (i := 492) (by decide +kernel)) (by decide +kernel)
theorem ks_X2_minutesOfActs : Cond.selects RX2 yX2_minutesOfActs yX2_minutesOfActs ∈ sn_gw := sn_gwI (List.mem_of_getElem? (i := 493) (by decide +kernel)) (by decide +kernel)
theorem ki_RX2 : Cond.initialized RX2 ∈ sn_gw := sn_gwI (List.mem_of_getElem? (i := 2) (by decide +kernel)) (by decide +kernel)
theorem kl_RX0_70 : sn_LV RX0 70 yX2_minutesOfActs cX2_minutesOfActs 5 (some .int) 2 := ⟨sn_lv5 km_RX0_70 kin_X2_minutesOfActs ks_X2_minutesOfActs ki_RX2 kc_X2_minutesOfActs, by decide +kernel⟩
theorem kf_RX0_51 : Cond.fieldLink RX0 51 (TX0 0).1 (TX0 0).2.1 (TX0 0).2.2.1 ∈ sn_gw := sn_gwI (List.mem_of_getElem? (i := 134) (by decide +kernel)) (by decide +kernel)
theorem fp_RX0_51 : sn_Fp RX0 51 0 0 .int := ⟨RX0, TX0, 14, tyX0, rfl, ug_X0, by decide, kf_RX0_51, tyX0_ok, nmX0, rfl, by decide +kernel⟩
theorem fp_RX0_54 : sn_Fp RX0 54 0 1 .int := ⟨RX0, TX0, 14, tyX0, rfl, ug_X0, by decide, kf_RX0_54, tyX0_ok, nmX0, rfl, by decide +kernel⟩
theorem kf_RX0_57 : Cond.fieldLink RX0 57 (TX0 2).1 (TX0 2).2.1 (TX0 2).2.2.1 ∈ sn_gw := sn_gwI (List.mem_of_getElem? (i := 141) (by decide +kernel)) (by decide +kernel)
theorem fp_RX0_57 : sn_Fp RX0 57 0 2 .int := ⟨RX0, TX0, 14, tyX0, rfl, ug_X0, by decide, kf_RX0_57, tyX0_ok, nmX0, rfl, by decide +kernel⟩
theorem kf_RX0_9 : Cond.fieldLink RX0 9 (TX0 3).1 (TX0 3).2.1 (TX0 3).2.2.1 ∈ sn_gw := sn_gwI (List.mem_of_getElem? (i := 142) (by decide +kernel)) (by decide +kernel)
theorem fp_RX0_9 : sn_Fp RX0 9 0 3 .int := ⟨RX0, TX0, 14, tyX0, rfl, ug_X0, by decide, kf_RX0_9, tyX0_ok, nmX0, rfl, by decide +kernel⟩
theorem km_RX0_61 : Cond.methodLink RX0 61 arraycopyName ∈ sn_gw := sn_gwI (List.mem_of_getElem? (i := 490) (by decide +kernel)) (by decide +kernel)
theorem kst_copy : Cond.static arraycopyName ∈ sn_gw := sn_gwI (List.mem_of_getElem? (i := 480) (by decide +kernel)) (by decide +kernel)
theorem ki_System : Cond.initialized "java/lang/System" ∈ sn_gw := sn_gwI (List.mem_of_getElem? (i := 17) (by decide +kernel)) (by decide +kernel)
theorem kna_copy : Cond.native arraycopyName ∈ sn_gw := sn_gwI (List.mem_of_getElem? (i := 481) (by decide +kernel)) (by decide +kernel)
theorem fd_RX0_51 : sn_Fd RX0 51 0 0 := ⟨RX0, TX0, 14, rfl, ug_X0, by decide, kf_RX0_51⟩
theorem fd_RX0_57 : sn_Fd RX0 57 0 2 := ⟨RX0, TX0, 14, rfl, ug_X0, by decide, kf_RX0_57⟩
theorem fd_RX0_9 : sn_Fd RX0 9 0 3 := ⟨RX0, TX0, 14, rfl, ug_X0, by decide, kf_RX0_9⟩
theorem kf_RX0_34 : Cond.fieldLink RX0 34 (TX0 10).1 (TX0 10).2.1 (TX0 10).2.2.1 ∈ sn_gw := sn_gwI (List.mem_of_getElem? (i := 159) (by decide +kernel)) (by decide +kernel)
theorem fd_RX0_34 : sn_Fd RX0 34 0 10 := ⟨RX0, TX0, 14, rfl, ug_X0, by decide, kf_RX0_34⟩
theorem kf_RX0_37 : Cond.fieldLink RX0 37 (TX0 11).1 (TX0 11).2.1 (TX0 11).2.2.1 ∈ sn_gw := sn_gwI (List.mem_of_getElem? (i := 160) (by decide +kernel)) (by decide +kernel)
theorem fd_RX0_37 : sn_Fd RX0 37 0 11 := ⟨RX0, TX0, 14, rfl, ug_X0, by decide, kf_RX0_37⟩
theorem kf_RX0_40 : Cond.fieldLink RX0 40 (TX0 12).1 (TX0 12).2.1 (TX0 12).2.2.1 ∈ sn_gw := sn_gwI (List.mem_of_getElem? (i := 161) (by decide +kernel)) (by decide +kernel)
theorem fd_RX0_40 : sn_Fd RX0 40 0 12 := ⟨RX0, TX0, 14, rfl, ug_X0, by decide, kf_RX0_40⟩
theorem kf_RX0_43 : Cond.fieldLink RX0 43 (TX0 13).1 (TX0 13).2.1 (TX0 13).2.2.1 ∈ sn_gw := sn_gwI (List.mem_of_getElem? (i := 163) (by decide +kernel)) (by decide +kernel)
theorem fd_RX0_43 : sn_Fd RX0 43 0 13 := ⟨RX0, TX0, 14, rfl, ug_X0, by decide, kf_RX0_43⟩
theorem kc_X8_hasBit : Cond.code yX8_hasBit cX8_hasBit 2 (some .boolean) ∈ sn_gw := sn_gwI (List.mem_of_getElem? (i := 513) (by decide +kernel)) (by decide +kernel)
theorem kst_X8_hasBit : Cond.static yX8_hasBit ∈ sn_gw := sn_gwI (List.mem_of_getElem? (i := 512) (by decide +kernel)) (by decide +kernel)
theorem ki_RX8 : Cond.initialized RX8 ∈ sn_gw := sn_gwI (List.mem_of_getElem? (i := 1) (by decide +kernel)) (by decide +kernel)
theorem kl_RX0_98 : sn_LN RX0 98 yX8_hasBit RX8 cX8_hasBit 2 (some .boolean) 2 := ⟨sn_cg kc_X8_hasBit, (List.mem_of_getElem? (i := 7) rfl), kst_X8_hasBit, ki_RX8, by decide +kernel⟩
theorem kc_X0_cameAt : Cond.code yX0_cameAt cX0_cameAt 3 (some .int) ∈ sn_gw := sn_gwI (List.mem_of_getElem? (i := 525) (by decide +kernel)) (by decide +kernel)
theorem km_RX0_105 : Cond.methodLink RX0 105 yX0_cameAt ∈ sn_gw := sn_gwI (List.mem_of_getElem? (i := 522) (by decide +kernel)) (by decide +kernel)
theorem kin_X0_cameAt : Cond.instanceMethod yX0_cameAt ∈ sn_gw := sn_gwI (List.mem_of_getElem? (i := 523) (by decide +kernel)) (by decide +kernel)
theorem ks_X0_cameAt : Cond.selects RX0 yX0_cameAt yX0_cameAt ∈ sn_gw := sn_gwI (List.mem_of_getElem? (i := 524) (by decide +kernel)) (by decide +kernel)
theorem ki_RX0 : Cond.initialized RX0 ∈ sn_gw := sn_gwI (List.mem_of_getElem? (i := 6) (by decide +kernel)) (by decide +kernel)
theorem kl_RX0_105 : sn_LV RX0 105 yX0_cameAt cX0_cameAt 3 (some .int) 2 := ⟨sn_lv5 km_RX0_105 kin_X0_cameAt ks_X0_cameAt ki_RX0 kc_X0_cameAt, by decide +kernel⟩
theorem kc_X0_comesTo : Cond.code yX0_comesTo cX0_comesTo 4 (some .int) ∈ sn_gw := sn_gwI (List.mem_of_getElem? (i := 521) (by decide +kernel)) (by decide +kernel)
theorem km_RX0_102 : Cond.methodLink RX0 102 yX0_comesTo ∈ sn_gw := sn_gwI (List.mem_of_getElem? (i := 518) (by decide +kernel)) (by decide +kernel)
theorem kin_X0_comesTo : Cond.instanceMethod yX0_comesTo ∈ sn_gw := sn_gwI (List.mem_of_getElem? (i := 519) (by decide +kernel)) (by decide +kernel)
theorem ks_X0_comesTo : Cond.selects RX0 yX0_comesTo yX0_comesTo ∈ sn_gw := sn_gwI (List.mem_of_getElem? (i := 520) (by decide +kernel)) (by decide +kernel)
theorem kl_RX0_102 : sn_LV RX0 102 yX0_comesTo cX0_comesTo 4 (some .int) 2 := ⟨sn_lv5 km_RX0_102 kin_X0_comesTo ks_X0_comesTo ki_RX0 kc_X0_comesTo, by decide +kernel⟩
theorem kc_X0_tickleByNets : Cond.code yX0_tickleByNets cX0_tickleByNets 7 none ∈ sn_gw := sn_gwI (List.mem_of_getElem? (i := 510) (by decide +kernel)) (by decide +kernel)
theorem km_RX0_91 : Cond.methodLink RX0 91 yX0_tickleByNets ∈ sn_gw := sn_gwI (List.mem_of_getElem? (i := 507) (by decide +kernel)) (by decide +kernel)
theorem kin_X0_tickleByNets : Cond.instanceMethod yX0_tickleByNets ∈ sn_gw := sn_gwI (List.mem_of_getElem? (i := 509) (by decide +kernel)) (by decide +kernel)
theorem ks_X0_tickleByNets : Cond.selects RX0 yX0_tickleByNets yX0_tickleByNets ∈ sn_gw := sn_gwS (q := (yX0_tickleByNets, 14)) (List.mem_of_getElem? (i := 15) (by decide +kernel)) (by decide +kernel)
theorem kl_RX0_91 : sn_LV RX0 91 yX0_tickleByNets cX0_tickleByNets 7 none 1 := ⟨sn_lv5 km_RX0_91 kin_X0_tickleByNets ks_X0_tickleByNets ki_RX0 kc_X0_tickleByNets, by decide +kernel⟩
theorem kc_X0_liveMinute : Cond.code yX0_liveMinute cX0_liveMinute 6 none ∈ sn_gw := sn_gwI (List.mem_of_getElem? (i := 517) (by decide +kernel)) (by decide +kernel)
theorem km_RX0_95 : Cond.methodLink RX0 95 yX0_liveMinute ∈ sn_gw := sn_gwI (List.mem_of_getElem? (i := 514) (by decide +kernel)) (by decide +kernel)
theorem kin_X0_liveMinute : Cond.instanceMethod yX0_liveMinute ∈ sn_gw := sn_gwI (List.mem_of_getElem? (i := 516) (by decide +kernel)) (by decide +kernel)
theorem ks_X0_liveMinute : Cond.selects RX0 yX0_liveMinute yX0_liveMinute ∈ sn_gw := sn_gwS (q := (yX0_liveMinute, 14)) (List.mem_of_getElem? (i := 16) (by decide +kernel)) (by decide +kernel)
theorem kl_RX0_95 : sn_LV RX0 95 yX0_liveMinute cX0_liveMinute 6 none 1 := ⟨sn_lv5 km_RX0_95 kin_X0_liveMinute ks_X0_liveMinute ki_RX0 kc_X0_liveMinute, by decide +kernel⟩
theorem kc_X8_firstMinutes : Cond.code yX8_firstMinutes cX8_firstMinutes 1 (some .int) ∈ sn_gw := sn_gwI (List.mem_of_getElem? (i := 506) (by decide +kernel)) (by decide +kernel)
theorem kst_X8_firstMinutes : Cond.static yX8_firstMinutes ∈ sn_gw := sn_gwI (List.mem_of_getElem? (i := 505) (by decide +kernel)) (by decide +kernel)
theorem kl_RX0_87 : sn_LN RX0 87 yX8_firstMinutes RX8 cX8_firstMinutes 1 (some .int) 1 := ⟨sn_cg kc_X8_firstMinutes, (List.mem_of_getElem? (i := 6) rfl), kst_X8_firstMinutes, ki_RX8, by decide +kernel⟩
theorem kc_X0_live : Cond.code yX0_live cX0_live 4 none ∈ sn_gw := sn_gwI (List.mem_of_getElem? (i := 503) (by decide +kernel)) (by decide +kernel)
theorem km_RX0_83 : Cond.methodLink RX0 83 yX0_live ∈ sn_gw := sn_gwI (List.mem_of_getElem? (i := 500) (by decide +kernel)) (by decide +kernel)
theorem kin_X0_live : Cond.instanceMethod yX0_live ∈ sn_gw := sn_gwI (List.mem_of_getElem? (i := 501) (by decide +kernel)) (by decide +kernel)
theorem ks_X0_live : Cond.selects RX0 yX0_live yX0_live ∈ sn_gw := sn_gwI (List.mem_of_getElem? (i := 502) (by decide +kernel)) (by decide +kernel)
theorem kl_RX0_83 : sn_LV RX0 83 yX0_live cX0_live 4 none 2 := ⟨sn_lv5 km_RX0_83 kin_X0_live ks_X0_live ki_RX0 kc_X0_live, by decide +kernel⟩
theorem kk_RJ6_265 : Cond.constant RJ6 265 (1431655765) ∈ sn_gw := sn_gwI (List.mem_of_getElem? (i := 581) (by decide +kernel)) (by decide +kernel)
theorem kk_RJ6_266 : Cond.constant RJ6 266 (858993459) ∈ sn_gw := sn_gwI (List.mem_of_getElem? (i := 582) (by decide +kernel)) (by decide +kernel)
theorem kk_RJ6_267 : Cond.constant RJ6 267 (252645135) ∈ sn_gw := sn_gwI (List.mem_of_getElem? (i := 583) (by decide +kernel)) (by decide +kernel)
theorem kc_J6_bitCount_0f7a4 : Cond.code yJ6_bitCount_0f7a4 cJ6_bitCount_0f7a4 1 (some .int) ∈ sn_gw := sn_gwI (List.mem_of_getElem? (i := 580) (by decide +kernel)) (by decide +kernel)
theorem km_RX0_108 : Cond.methodLink RX0 108 yJ6_bitCount_0f7a4 ∈ sn_gw := sn_gwI (List.mem_of_getElem? (i := 596) (by decide +kernel)) (by decide +kernel)
theorem kst_J6_bitCount_0f7a4 : Cond.static yJ6_bitCount_0f7a4 ∈ sn_gw := sn_gwI (List.mem_of_getElem? (i := 579) (by decide +kernel)) (by decide +kernel)
theorem ki_RJ6 : Cond.initialized RJ6 ∈ sn_gw := sn_gwI (List.mem_of_getElem? (i := 18) (by decide +kernel)) (by decide +kernel)
theorem kl_RX0_108 : sn_LS RX0 108 yJ6_bitCount_0f7a4 cJ6_bitCount_0f7a4 1 (some .int) 1 := ⟨sn_ls4 km_RX0_108 kst_J6_bitCount_0f7a4 ki_RJ6 kc_J6_bitCount_0f7a4, by decide +kernel⟩
theorem kf_RX2_24 : Cond.fieldLink RX2 24 (TX2 4).1 (TX2 4).2.1 (TX2 4).2.2.1 ∈ sn_gw := sn_gwI (List.mem_of_getElem? (i := 49) (by decide +kernel)) (by decide +kernel)
theorem fd_RX2_24 : sn_Fd RX2 24 2 4 := ⟨RX2, TX2, 6, rfl, ug_X2, by decide, kf_RX2_24⟩
theorem kf_RX1_9 : Cond.fieldLink RX1 9 (TX1 0).1 (TX1 0).2.1 (TX1 0).2.2.1 ∈ sn_gw := sn_gwI (List.mem_of_getElem? (i := 226) (by decide +kernel)) (by decide +kernel)
theorem fd_RX1_9 : sn_Fd RX1 9 1 0 := ⟨RX1, TX1, 2, rfl, ug_X1, by decide, kf_RX1_9⟩
theorem kf_RX1_51 : Cond.fieldLink RX1 51 (TX0 6).1 (TX0 6).2.1 (TX0 6).2.2.1 ∈ sn_gw := sn_gwI (List.mem_of_getElem? (i := 151) (by decide +kernel)) (by decide +kernel)
theorem fd_RX1_51 : sn_Fd RX1 51 0 6 := ⟨RX0, TX0, 14, rfl, ug_X0, by decide, kf_RX1_51⟩
theorem kk_RX1_58 : Cond.constantLong RX1 58 (1073741824) ∈ sn_gw := sn_gwI (List.mem_of_getElem? (i := 847) (by decide +kernel)) (by decide +kernel)
theorem kf_RX1_32 : Cond.fieldLink RX1 32 (TX1 1).1 (TX1 1).2.1 (TX1 1).2.2.1 ∈ sn_gw := sn_gwI (List.mem_of_getElem? (i := 227) (by decide +kernel)) (by decide +kernel)
theorem fd_RX1_32 : sn_Fd RX1 32 1 1 := ⟨RX1, TX1, 2, rfl, ug_X1, by decide, kf_RX1_32⟩
theorem km_RX1_55 : Cond.methodLink RX1 55 Lib.MathLoose.min_long.x ∈ sn_gw := sn_gwI (List.mem_of_getElem? (i := 844) (by decide +kernel)) (by decide +kernel)
theorem kst_minL : Cond.static Lib.MathLoose.min_long.x ∈ sn_gw := sn_gwI (List.mem_of_getElem? (i := 845) (by decide +kernel)) (by decide +kernel)
theorem ki_Math : Cond.initialized "java/lang/Math" ∈ sn_gw := sn_gwI (List.mem_of_getElem? (i := 12) (by decide +kernel)) (by decide +kernel)
theorem kc_minL : Cond.code Lib.MathLoose.min_long.x Lib.MathLoose.min_long.code 4 (some .long) ∈ sn_gw := sn_gwI (List.mem_of_getElem? (i := 846) (by decide +kernel)) (by decide +kernel)
theorem fp_RX1_32 : sn_Fp RX1 32 1 1 .long := ⟨RX1, TX1, 2, tyX1, rfl, ug_X1, by decide, kf_RX1_32, tyX1_ok, nmX1, rfl, by decide +kernel⟩
theorem km_RX1_48 : Cond.methodLink RX1 48 yX0_comesTo ∈ sn_gw := sn_gwI (List.mem_of_getElem? (i := 843) (by decide +kernel)) (by decide +kernel)
theorem kl_RX1_48 : sn_LV RX1 48 yX0_comesTo cX0_comesTo 4 (some .int) 2 := ⟨sn_lv5 km_RX1_48 kin_X0_comesTo ks_X0_comesTo ki_RX0 kc_X0_comesTo, by decide +kernel⟩
theorem kf_RX1_21 : Cond.fieldLink RX1 21 (TX0 0).1 (TX0 0).2.1 (TX0 0).2.2.1 ∈ sn_gw := sn_gwI (List.mem_of_getElem? (i := 135) (by decide +kernel)) (by decide +kernel)
theorem fd_RX1_21 : sn_Fd RX1 21 0 0 := ⟨RX0, TX0, 14, rfl, ug_X0, by decide, kf_RX1_21⟩
theorem kk_RX1_36 : Cond.constantLong RX1 36 (4611686018427387904) ∈ sn_gw := sn_gwI (List.mem_of_getElem? (i := 835) (by decide +kernel)) (by decide +kernel)
theorem kc_X2_ofPolicy : Cond.code yX2_ofPolicy cX2_ofPolicy 3 (some .int) ∈ sn_gw := sn_gwI (List.mem_of_getElem? (i := 550) (by decide +kernel)) (by decide +kernel)
theorem km_RX1_15 : Cond.methodLink RX1 15 yX2_ofPolicy ∈ sn_gw := sn_gwI (List.mem_of_getElem? (i := 833) (by decide +kernel)) (by decide +kernel)
theorem kin_X2_ofPolicy : Cond.instanceMethod yX2_ofPolicy ∈ sn_gw := sn_gwI (List.mem_of_getElem? (i := 548) (by decide +kernel)) (by decide +kernel)
theorem ks_X2_ofPolicy : Cond.selects RX2 yX2_ofPolicy yX2_ofPolicy ∈ sn_gw := sn_gwI (List.mem_of_getElem? (i := 549) (by decide +kernel)) (by decide +kernel)
theorem kl_RX1_15 : sn_LV RX1 15 yX2_ofPolicy cX2_ofPolicy 3 (some .int) 2 := ⟨sn_lv5 km_RX1_15 kin_X2_ofPolicy ks_X2_ofPolicy ki_RX2 kc_X2_ofPolicy, by decide +kernel⟩
theorem kc_X1_goOn : Cond.code yX1_goOn cX1_goOn 10 none ∈ sn_gw := sn_gwI (List.mem_of_getElem? (i := 842) (by decide +kernel)) (by decide +kernel)
theorem km_RX1_44 : Cond.methodLink RX1 44 yX1_goOn ∈ sn_gw := sn_gwI (List.mem_of_getElem? (i := 839) (by decide +kernel)) (by decide +kernel)
theorem kin_X1_goOn : Cond.instanceMethod yX1_goOn ∈ sn_gw := sn_gwI (List.mem_of_getElem? (i := 841) (by decide +kernel)) (by decide +kernel)
theorem ks_X1_goOn : Cond.selects RX1 yX1_goOn yX1_goOn ∈ sn_gw := sn_gwS (q := (yX1_goOn, 2)) (List.mem_of_getElem? (i := 30) (by decide +kernel)) (by decide +kernel)
theorem ki_RX1 : Cond.initialized RX1 ∈ sn_gw := sn_gwI (List.mem_of_getElem? (i := 8) (by decide +kernel)) (by decide +kernel)
theorem kl_RX1_44 : sn_LV RX1 44 yX1_goOn cX1_goOn 10 none 5 := ⟨sn_lv5 km_RX1_44 kin_X1_goOn ks_X1_goOn ki_RX1 kc_X1_goOn, by decide +kernel⟩
theorem km_RX1_27 : Cond.methodLink RX1 27 Lib.Math.min.name ∈ sn_gw := sn_gwI (List.mem_of_getElem? (i := 834) (by decide +kernel)) (by decide +kernel)
theorem kst_minI : Cond.static Lib.Math.min.name ∈ sn_gw := sn_gwI (List.mem_of_getElem? (i := 360) (by decide +kernel)) (by decide +kernel)
theorem kc_minI : Cond.code Lib.Math.min.name Lib.Math.min.code 2 (some .int) ∈ sn_gw := sn_gwI (List.mem_of_getElem? (i := 361) (by decide +kernel)) (by decide +kernel)
theorem kc_J7_fill_d0a16 : Cond.code yJ7_fill_d0a16 cJ7_fill_d0a16 5 none ∈ sn_gw := sn_gwI (List.mem_of_getElem? (i := 838) (by decide +kernel)) (by decide +kernel)
theorem km_RX1_38 : Cond.methodLink RX1 38 yJ7_fill_d0a16 ∈ sn_gw := sn_gwI (List.mem_of_getElem? (i := 836) (by decide +kernel)) (by decide +kernel)
theorem kst_J7_fill_d0a16 : Cond.static yJ7_fill_d0a16 ∈ sn_gw := sn_gwI (List.mem_of_getElem? (i := 837) (by decide +kernel)) (by decide +kernel)
theorem kl_RX1_38 : sn_LS RX1 38 yJ7_fill_d0a16 cJ7_fill_d0a16 5 none 2 := ⟨sn_ls4 km_RX1_38 kst_J7_fill_d0a16 ki_RJ7 kc_J7_fill_d0a16, by decide +kernel⟩
theorem km_RX2_30 : Cond.methodLink RX2 30 yJ7_fill_53178 ∈ sn_gw := sn_gwI (List.mem_of_getElem? (i := 350) (by decide +kernel)) (by decide +kernel)
theorem kl_RX2_30 : sn_LS RX2 30 yJ7_fill_53178 cJ7_fill_53178 4 none 2 := ⟨sn_ls4 km_RX2_30 kst_J7_fill_53178 ki_RJ7 kc_J7_fill_53178, by decide +kernel⟩
theorem kf_RX2_15 : Cond.fieldLink RX2 15 (TX2 1).1 (TX2 1).2.1 (TX2 1).2.2.1 ∈ sn_gw := sn_gwI (List.mem_of_getElem? (i := 39) (by decide +kernel)) (by decide +kernel)
theorem fd_RX2_15 : sn_Fd RX2 15 2 1 := ⟨RX2, TX2, 6, rfl, ug_X2, by decide, kf_RX2_15⟩
theorem kf_RX2_18 : Cond.fieldLink RX2 18 (TX2 2).1 (TX2 2).2.1 (TX2 2).2.2.1 ∈ sn_gw := sn_gwI (List.mem_of_getElem? (i := 43) (by decide +kernel)) (by decide +kernel)
theorem fd_RX2_18 : sn_Fd RX2 18 2 2 := ⟨RX2, TX2, 6, rfl, ug_X2, by decide, kf_RX2_18⟩
theorem kf_RX2_21 : Cond.fieldLink RX2 21 (TX2 3).1 (TX2 3).2.1 (TX2 3).2.2.1 ∈ sn_gw := sn_gwI (List.mem_of_getElem? (i := 46) (by decide +kernel)) (by decide +kernel)
theorem fd_RX2_21 : sn_Fd RX2 21 2 3 := ⟨RX2, TX2, 6, rfl, ug_X2, by decide, kf_RX2_21⟩
theorem km_RX2_36 : Cond.methodLink RX2 36 arraycopyName ∈ sn_gw := sn_gwI (List.mem_of_getElem? (i := 479) (by decide +kernel)) (by decide +kernel)
theorem km_RX2_42 : Cond.methodLink RX2 42 yX2_ofPolicy ∈ sn_gw := sn_gwI (List.mem_of_getElem? (i := 659) (by decide +kernel)) (by decide +kernel)
theorem kl_RX2_42 : sn_LV RX2 42 yX2_ofPolicy cX2_ofPolicy 3 (some .int) 2 := ⟨sn_lv5 km_RX2_42 kin_X2_ofPolicy ks_X2_ofPolicy ki_RX2 kc_X2_ofPolicy, by decide +kernel⟩
theorem kl_RX2_46 : sn_LN RX2 46 yX8_firstMinutes RX8 cX8_firstMinutes 1 (some .int) 1 := ⟨sn_cg kc_X8_firstMinutes, (List.mem_of_getElem? (i := 8) rfl), kst_X8_firstMinutes, ki_RX8, by decide +kernel⟩
theorem kc_X2_window : Cond.code yX2_window cX2_window 2 (some .int) ∈ sn_gw := sn_gwI (List.mem_of_getElem? (i := 658) (by decide +kernel)) (by decide +kernel)
theorem km_RX3_54 : Cond.methodLink RX3 54 yX2_window ∈ sn_gw := sn_gwI (List.mem_of_getElem? (i := 729) (by decide +kernel)) (by decide +kernel)
theorem kin_X2_window : Cond.instanceMethod yX2_window ∈ sn_gw := sn_gwI (List.mem_of_getElem? (i := 656) (by decide +kernel)) (by decide +kernel)
theorem ks_X2_window : Cond.selects RX2 yX2_window yX2_window ∈ sn_gw := sn_gwI (List.mem_of_getElem? (i := 657) (by decide +kernel)) (by decide +kernel)
theorem kl_RX3_54 : sn_LV RX3 54 yX2_window cX2_window 2 (some .int) 1 := ⟨sn_lv5 km_RX3_54 kin_X2_window ks_X2_window ki_RX2 kc_X2_window, by decide +kernel⟩
theorem kc_X2_gustMinutes : Cond.code yX2_gustMinutes cX2_gustMinutes 3 (some .int) ∈ sn_gw := sn_gwI (List.mem_of_getElem? (i := 733) (by decide +kernel)) (by decide +kernel)
theorem km_RX3_57 : Cond.methodLink RX3 57 yX2_gustMinutes ∈ sn_gw := sn_gwI (List.mem_of_getElem? (i := 730) (by decide +kernel)) (by decide +kernel)
theorem kin_X2_gustMinutes : Cond.instanceMethod yX2_gustMinutes ∈ sn_gw := sn_gwI (List.mem_of_getElem? (i := 731) (by decide +kernel)) (by decide +kernel)
theorem ks_X2_gustMinutes : Cond.selects RX2 yX2_gustMinutes yX2_gustMinutes ∈ sn_gw := sn_gwI (List.mem_of_getElem? (i := 732) (by decide +kernel)) (by decide +kernel)
theorem kl_RX3_57 : sn_LV RX3 57 yX2_gustMinutes cX2_gustMinutes 3 (some .int) 0 := ⟨sn_lv5 km_RX3_57 kin_X2_gustMinutes ks_X2_gustMinutes ki_RX2 kc_X2_gustMinutes, by decide +kernel⟩
theorem km_RX8_167 : Cond.methodLink RX8 167 yJ6_bitCount_0f7a4 ∈ sn_gw := sn_gwI (List.mem_of_getElem? (i := 578) (by decide +kernel)) (by decide +kernel)
theorem kl_RX8_167 : sn_LS RX8 167 yJ6_bitCount_0f7a4 cJ6_bitCount_0f7a4 1 (some .int) 1 := ⟨sn_ls4 km_RX8_167 kst_J6_bitCount_0f7a4 ki_RJ6 kc_J6_bitCount_0f7a4, by decide +kernel⟩
theorem kc_X3_counting : Cond.code yX3_counting cX3_counting 5 (some .int) ∈ sn_gw := sn_gwI (List.mem_of_getElem? (i := 728) (by decide +kernel)) (by decide +kernel)
theorem km_RX3_46 : Cond.methodLink RX3 46 yX3_counting ∈ sn_gw := sn_gwI (List.mem_of_getElem? (i := 726) (by decide +kernel)) (by decide +kernel)
theorem kst_X3_counting : Cond.static yX3_counting ∈ sn_gw := sn_gwI (List.mem_of_getElem? (i := 727) (by decide +kernel)) (by decide +kernel)
theorem ki_RX3 : Cond.initialized RX3 ∈ sn_gw := sn_gwI (List.mem_of_getElem? (i := 7) (by decide +kernel)) (by decide +kernel)
theorem kl_RX3_46 : sn_LS RX3 46 yX3_counting cX3_counting 5 (some .int) 4 := ⟨sn_ls4 km_RX3_46 kst_X3_counting ki_RX3 kc_X3_counting, by decide +kernel⟩
theorem km_RX3_30 : Cond.methodLink RX3 30 yX2_ofPolicy ∈ sn_gw := sn_gwI (List.mem_of_getElem? (i := 722) (by decide +kernel)) (by decide +kernel)
theorem kl_RX3_30 : sn_LV RX3 30 yX2_ofPolicy cX2_ofPolicy 3 (some .int) 2 := ⟨sn_lv5 km_RX3_30 kin_X2_ofPolicy ks_X2_ofPolicy ki_RX2 kc_X2_ofPolicy, by decide +kernel⟩
theorem kc_X8_lowestBit : Cond.code yX8_lowestBit cX8_lowestBit 1 (some .int) ∈ sn_gw := sn_gwI (List.mem_of_getElem? (i := 577) (by decide +kernel)) (by decide +kernel)
theorem kst_X8_lowestBit : Cond.static yX8_lowestBit ∈ sn_gw := sn_gwI (List.mem_of_getElem? (i := 576) (by decide +kernel)) (by decide +kernel)
theorem kl_RX3_50 : sn_LN RX3 50 yX8_lowestBit RX8 cX8_lowestBit 1 (some .int) 1 := ⟨sn_cg kc_X8_lowestBit, (List.mem_of_getElem? (i := 9) rfl), kst_X8_lowestBit, ki_RX8, by decide +kernel⟩
theorem kl_RX3_71 : sn_LN RX3 71 yX8_firstMinutes RX8 cX8_firstMinutes 1 (some .int) 1 := ⟨sn_cg kc_X8_firstMinutes, (List.mem_of_getElem? (i := 10) rfl), kst_X8_firstMinutes, ki_RX8, by decide +kernel⟩
theorem km_RX3_61 : Cond.methodLink RX3 61 yJ6_bitCount_0f7a4 ∈ sn_gw := sn_gwI (List.mem_of_getElem? (i := 734) (by decide +kernel)) (by decide +kernel)
theorem kl_RX3_61 : sn_LS RX3 61 yJ6_bitCount_0f7a4 cJ6_bitCount_0f7a4 1 (some .int) 1 := ⟨sn_ls4 km_RX3_61 kst_J6_bitCount_0f7a4 ki_RJ6 kc_J6_bitCount_0f7a4, by decide +kernel⟩
theorem km_RX3_66 : Cond.methodLink RX3 66 Lib.Math.min.name ∈ sn_gw := sn_gwI (List.mem_of_getElem? (i := 735) (by decide +kernel)) (by decide +kernel)
theorem kf_RX3_18 : Cond.fieldLink RX3 18 (TX2 0).1 (TX2 0).2.1 (TX2 0).2.2.1 ∈ sn_gw := sn_gwI (List.mem_of_getElem? (i := 35) (by decide +kernel)) (by decide +kernel)
theorem fd_RX3_18 : sn_Fd RX3 18 2 0 := ⟨RX2, TX2, 6, rfl, ug_X2, by decide, kf_RX3_18⟩
theorem kf_RX3_23 : Cond.fieldLink RX3 23 (TX3 2).1 (TX3 2).2.1 (TX3 2).2.2.1 ∈ sn_gw := sn_gwI (List.mem_of_getElem? (i := 208) (by decide +kernel)) (by decide +kernel)
theorem fd_RX3_23 : sn_Fd RX3 23 3 2 := ⟨RX3, TX3, 4, rfl, ug_X3, by decide, kf_RX3_23⟩
theorem kf_RX3_34 : Cond.fieldLink RX3 34 (TX0 13).1 (TX0 13).2.1 (TX0 13).2.2.1 ∈ sn_gw := sn_gwI (List.mem_of_getElem? (i := 164) (by decide +kernel)) (by decide +kernel)
theorem fd_RX3_34 : sn_Fd RX3 34 0 13 := ⟨RX0, TX0, 14, rfl, ug_X0, by decide, kf_RX3_34⟩
theorem kf_RX3_27 : Cond.fieldLink RX3 27 (TX3 3).1 (TX3 3).2.1 (TX3 3).2.2.1 ∈ sn_gw := sn_gwI (List.mem_of_getElem? (i := 210) (by decide +kernel)) (by decide +kernel)
theorem fd_RX3_27 : sn_Fd RX3 27 3 3 := ⟨RX3, TX3, 4, rfl, ug_X3, by decide, kf_RX3_27⟩
theorem kf_RX3_9 : Cond.fieldLink RX3 9 (TX3 0).1 (TX3 0).2.1 (TX3 0).2.2.1 ∈ sn_gw := sn_gwI (List.mem_of_getElem? (i := 203) (by decide +kernel)) (by decide +kernel)
theorem fd_RX3_9 : sn_Fd RX3 9 3 0 := ⟨RX3, TX3, 4, rfl, ug_X3, by decide, kf_RX3_9⟩
theorem kf_RX3_39 : Cond.fieldLink RX3 39 (TX0 7).1 (TX0 7).2.1 (TX0 7).2.2.1 ∈ sn_gw := sn_gwI (List.mem_of_getElem? (i := 154) (by decide +kernel)) (by decide +kernel)
theorem fd_RX3_39 : sn_Fd RX3 39 0 7 := ⟨RX0, TX0, 14, rfl, ug_X0, by decide, kf_RX3_39⟩
theorem kf_RX3_15 : Cond.fieldLink RX3 15 (TX3 1).1 (TX3 1).2.1 (TX3 1).2.2.1 ∈ sn_gw := sn_gwI (List.mem_of_getElem? (i := 206) (by decide +kernel)) (by decide +kernel)
theorem fd_RX3_15 : sn_Fd RX3 15 3 1 := ⟨RX3, TX3, 4, rfl, ug_X3, by decide, kf_RX3_15⟩
theorem fp_RX3_27 : sn_Fp RX3 27 3 3 .int := ⟨RX3, TX3, 4, tyX3, rfl, ug_X3, by decide, kf_RX3_27, tyX3_ok, nmX3, rfl, by decide +kernel⟩
theorem kc_X3_claimBy : Cond.code yX3_claimBy cX3_claimBy 8 (some .int) ∈ sn_gw := sn_gwI (List.mem_of_getElem? (i := 725) (by decide +kernel)) (by decide +kernel)
theorem km_RX3_42 : Cond.methodLink RX3 42 yX3_claimBy ∈ sn_gw := sn_gwI (List.mem_of_getElem? (i := 723) (by decide +kernel)) (by decide +kernel)
theorem kst_X3_claimBy : Cond.static yX3_claimBy ∈ sn_gw := sn_gwI (List.mem_of_getElem? (i := 724) (by decide +kernel)) (by decide +kernel)
theorem kl_RX3_42 : sn_LS RX3 42 yX3_claimBy cX3_claimBy 8 (some .int) 5 := ⟨sn_ls4 km_RX3_42 kst_X3_claimBy ki_RX3 kc_X3_claimBy, by decide +kernel⟩
theorem fp_RX3_23 : sn_Fp RX3 23 3 2 .int := ⟨RX3, TX3, 4, tyX3, rfl, ug_X3, by decide, kf_RX3_23, tyX3_ok, nmX3, rfl, by decide +kernel⟩
theorem kc_X3_moneyAt : Cond.code yX3_moneyAt cX3_moneyAt 4 (some .int) ∈ sn_gw := sn_gwI (List.mem_of_getElem? (i := 758) (by decide +kernel)) (by decide +kernel)
theorem km_RX3_74 : Cond.methodLink RX3 74 yX3_moneyAt ∈ sn_gw := sn_gwI (List.mem_of_getElem? (i := 767) (by decide +kernel)) (by decide +kernel)
theorem kin_X3_moneyAt : Cond.instanceMethod yX3_moneyAt ∈ sn_gw := sn_gwI (List.mem_of_getElem? (i := 756) (by decide +kernel)) (by decide +kernel)
theorem ks_X3_moneyAt : Cond.selects RX3 yX3_moneyAt yX3_moneyAt ∈ sn_gw := sn_gwI (List.mem_of_getElem? (i := 757) (by decide +kernel)) (by decide +kernel)
theorem kl_RX3_74 : sn_LV RX3 74 yX3_moneyAt cX3_moneyAt 4 (some .int) 1 := ⟨sn_lv5 km_RX3_74 kin_X3_moneyAt ks_X3_moneyAt ki_RX3 kc_X3_moneyAt, by decide +kernel⟩
theorem kf_RX4_9 : Cond.fieldLink RX4 9 (TX4 2).1 (TX4 2).2.1 (TX4 2).2.2.1 ∈ sn_gw := sn_gwI (List.mem_of_getElem? (i := 269) (by decide +kernel)) (by decide +kernel)
theorem fd_RX4_9 : sn_Fd RX4 9 4 2 := ⟨RX4, TX4, 7, rfl, ug_X4, by decide, kf_RX4_9⟩
theorem kf_RX4_26 : Cond.fieldLink RX4 26 (TX4 6).1 (TX4 6).2.1 (TX4 6).2.2.1 ∈ sn_gw := sn_gwI (List.mem_of_getElem? (i := 273) (by decide +kernel)) (by decide +kernel)
theorem fd_RX4_26 : sn_Fd RX4 26 4 6 := ⟨RX4, TX4, 7, rfl, ug_X4, by decide, kf_RX4_26⟩
theorem kf_RX4_15 : Cond.fieldLink RX4 15 (TX4 3).1 (TX4 3).2.1 (TX4 3).2.2.1 ∈ sn_gw := sn_gwI (List.mem_of_getElem? (i := 270) (by decide +kernel)) (by decide +kernel)
theorem fd_RX4_15 : sn_Fd RX4 15 4 3 := ⟨RX4, TX4, 7, rfl, ug_X4, by decide, kf_RX4_15⟩
theorem kf_RX4_23 : Cond.fieldLink RX4 23 (TX4 5).1 (TX4 5).2.1 (TX4 5).2.2.1 ∈ sn_gw := sn_gwI (List.mem_of_getElem? (i := 272) (by decide +kernel)) (by decide +kernel)
theorem fd_RX4_23 : sn_Fd RX4 23 4 5 := ⟨RX4, TX4, 7, rfl, ug_X4, by decide, kf_RX4_23⟩
theorem kf_RX4_30 : Cond.fieldLink RX4 30 (TX2 0).1 (TX2 0).2.1 (TX2 0).2.2.1 ∈ sn_gw := sn_gwI (List.mem_of_getElem? (i := 36) (by decide +kernel)) (by decide +kernel)
theorem fd_RX4_30 : sn_Fd RX4 30 2 0 := ⟨RX2, TX2, 6, rfl, ug_X2, by decide, kf_RX4_30⟩
theorem kf_RX4_90 : Cond.fieldLink RX4 90 (TX3 0).1 (TX3 0).2.1 (TX3 0).2.2.1 ∈ sn_gw := sn_gwI (List.mem_of_getElem? (i := 204) (by decide +kernel)) (by decide +kernel)
theorem fd_RX4_90 : sn_Fd RX4 90 3 0 := ⟨RX3, TX3, 4, rfl, ug_X3, by decide, kf_RX4_90⟩
theorem kf_RX4_81 : Cond.fieldLink RX4 81 (TX0 13).1 (TX0 13).2.1 (TX0 13).2.2.1 ∈ sn_gw := sn_gwI (List.mem_of_getElem? (i := 165) (by decide +kernel)) (by decide +kernel)
theorem fd_RX4_81 : sn_Fd RX4 81 0 13 := ⟨RX0, TX0, 14, rfl, ug_X0, by decide, kf_RX4_81⟩
theorem kc_X3_reckon : Cond.code yX3_reckon cX3_reckon 7 none ∈ sn_gw := sn_gwI (List.mem_of_getElem? (i := 721) (by decide +kernel)) (by decide +kernel)
theorem km_RX4_84 : Cond.methodLink RX4 84 yX3_reckon ∈ sn_gw := sn_gwI (List.mem_of_getElem? (i := 973) (by decide +kernel)) (by decide +kernel)
theorem kin_X3_reckon : Cond.instanceMethod yX3_reckon ∈ sn_gw := sn_gwI (List.mem_of_getElem? (i := 719) (by decide +kernel)) (by decide +kernel)
theorem ks_X3_reckon : Cond.selects RX3 yX3_reckon yX3_reckon ∈ sn_gw := sn_gwI (List.mem_of_getElem? (i := 720) (by decide +kernel)) (by decide +kernel)
theorem kl_RX4_84 : sn_LV RX4 84 yX3_reckon cX3_reckon 7 none 3 := ⟨sn_lv5 km_RX4_84 kin_X3_reckon ks_X3_reckon ki_RX3 kc_X3_reckon, by decide +kernel⟩
theorem kc_X3_firstBelow : Cond.code yX3_firstBelow cX3_firstBelow 3 (some .int) ∈ sn_gw := sn_gwI (List.mem_of_getElem? (i := 775) (by decide +kernel)) (by decide +kernel)
theorem km_RX4_93 : Cond.methodLink RX4 93 yX3_firstBelow ∈ sn_gw := sn_gwI (List.mem_of_getElem? (i := 974) (by decide +kernel)) (by decide +kernel)
theorem kin_X3_firstBelow : Cond.instanceMethod yX3_firstBelow ∈ sn_gw := sn_gwI (List.mem_of_getElem? (i := 773) (by decide +kernel)) (by decide +kernel)
theorem ks_X3_firstBelow : Cond.selects RX3 yX3_firstBelow yX3_firstBelow ∈ sn_gw := sn_gwI (List.mem_of_getElem? (i := 774) (by decide +kernel)) (by decide +kernel)
theorem kl_RX4_93 : sn_LV RX4 93 yX3_firstBelow cX3_firstBelow 3 (some .int) 1 := ⟨sn_lv5 km_RX4_93 kin_X3_firstBelow ks_X3_firstBelow ki_RX3 kc_X3_firstBelow, by decide +kernel⟩
theorem kf_RX4_46 : Cond.fieldLink RX4 46 (TX4 0).1 (TX4 0).2.1 (TX4 0).2.2.1 ∈ sn_gw := sn_gwI (List.mem_of_getElem? (i := 265) (by decide +kernel)) (by decide +kernel)
theorem fd_RX4_46 : sn_Fd RX4 46 4 0 := ⟨RX4, TX4, 7, rfl, ug_X4, by decide, kf_RX4_46⟩
theorem kf_RX4_73 : Cond.fieldLink RX4 73 (TX4 1).1 (TX4 1).2.1 (TX4 1).2.2.1 ∈ sn_gw := sn_gwI (List.mem_of_getElem? (i := 267) (by decide +kernel)) (by decide +kernel)
theorem fd_RX4_73 : sn_Fd RX4 73 4 1 := ⟨RX4, TX4, 7, rfl, ug_X4, by decide, kf_RX4_73⟩
theorem fp_RX4_46 : sn_Fp RX4 46 4 0 .long := ⟨RX4, TX4, 7, tyX4, rfl, ug_X4, by decide, kf_RX4_46, tyX4_ok, nmX4, rfl, by decide +kernel⟩
theorem fp_RX4_73 : sn_Fp RX4 73 4 1 .long := ⟨RX4, TX4, 7, tyX4, rfl, ug_X4, by decide, kf_RX4_73, tyX4_ok, nmX4, rfl, by decide +kernel⟩
theorem kf_RX4_19 : Cond.fieldLink RX4 19 (TX4 4).1 (TX4 4).2.1 (TX4 4).2.2.1 ∈ sn_gw := sn_gwI (List.mem_of_getElem? (i := 271) (by decide +kernel)) (by decide +kernel)
theorem fd_RX4_19 : sn_Fd RX4 19 4 4 := ⟨RX4, TX4, 7, rfl, ug_X4, by decide, kf_RX4_19⟩
theorem kf_RX4_54 : Cond.fieldLink RX4 54 (TX0 4).1 (TX0 4).2.1 (TX0 4).2.2.1 ∈ sn_gw := sn_gwI (List.mem_of_getElem? (i := 145) (by decide +kernel)) (by decide +kernel)
theorem fd_RX4_54 : sn_Fd RX4 54 0 4 := ⟨RX0, TX0, 14, rfl, ug_X0, by decide, kf_RX4_54⟩
theorem kk_RX4_76 : Cond.constantLong RX4 76 (10) ∈ sn_gw := sn_gwI (List.mem_of_getElem? (i := 975) (by decide +kernel)) (by decide +kernel)
theorem kc_X4_lower : Cond.code yX4_lower cX4_lower 8 none ∈ sn_gw := sn_gwI (List.mem_of_getElem? (i := 979) (by decide +kernel)) (by decide +kernel)
theorem km_RX4_78 : Cond.methodLink RX4 78 yX4_lower ∈ sn_gw := sn_gwI (List.mem_of_getElem? (i := 976) (by decide +kernel)) (by decide +kernel)
theorem kin_X4_lower : Cond.instanceMethod yX4_lower ∈ sn_gw := sn_gwI (List.mem_of_getElem? (i := 978) (by decide +kernel)) (by decide +kernel)
theorem ks_X4_lower : Cond.selects RX4 yX4_lower yX4_lower ∈ sn_gw := sn_gwS (q := (yX4_lower, 7)) (List.mem_of_getElem? (i := 39) (by decide +kernel)) (by decide +kernel)
theorem ki_RX4 : Cond.initialized RX4 ∈ sn_gw := sn_gwI (List.mem_of_getElem? (i := 10) (by decide +kernel)) (by decide +kernel)
theorem kl_RX4_78 : sn_LV RX4 78 yX4_lower cX4_lower 8 none 0 := ⟨sn_lv5 km_RX4_78 kin_X4_lower ks_X4_lower ki_RX4 kc_X4_lower, by decide +kernel⟩
theorem km_RX4_61 : Cond.methodLink RX4 61 yX0_live ∈ sn_gw := sn_gwI (List.mem_of_getElem? (i := 967) (by decide +kernel)) (by decide +kernel)
theorem kl_RX4_61 : sn_LV RX4 61 yX0_live cX0_live 4 none 2 := ⟨sn_lv5 km_RX4_61 kin_X0_live ks_X0_live ki_RX0 kc_X0_live, by decide +kernel⟩
theorem km_RX4_64 : Cond.methodLink RX4 64 yJ6_bitCount_0f7a4 ∈ sn_gw := sn_gwI (List.mem_of_getElem? (i := 968) (by decide +kernel)) (by decide +kernel)
theorem kl_RX4_64 : sn_LS RX4 64 yJ6_bitCount_0f7a4 cJ6_bitCount_0f7a4 1 (some .int) 1 := ⟨sn_ls4 km_RX4_64 kst_J6_bitCount_0f7a4 ki_RJ6 kc_J6_bitCount_0f7a4, by decide +kernel⟩
theorem kc_X4_worth : Cond.code yX4_worth cX4_worth 4 (some .long) ∈ sn_gw := sn_gwI (List.mem_of_getElem? (i := 972) (by decide +kernel)) (by decide +kernel)
theorem km_RX4_69 : Cond.methodLink RX4 69 yX4_worth ∈ sn_gw := sn_gwI (List.mem_of_getElem? (i := 969) (by decide +kernel)) (by decide +kernel)
theorem kin_X4_worth : Cond.instanceMethod yX4_worth ∈ sn_gw := sn_gwI (List.mem_of_getElem? (i := 971) (by decide +kernel)) (by decide +kernel)
theorem ks_X4_worth : Cond.selects RX4 yX4_worth yX4_worth ∈ sn_gw := sn_gwS (q := (yX4_worth, 7)) (List.mem_of_getElem? (i := 38) (by decide +kernel)) (by decide +kernel)
theorem kl_RX4_69 : sn_LV RX4 69 yX4_worth cX4_worth 4 (some .long) 3 := ⟨sn_lv5 km_RX4_69 kin_X4_worth ks_X4_worth ki_RX4 kc_X4_worth, by decide +kernel⟩
theorem kl_RX4_57 : sn_LN RX4 57 yX8_hasBit RX8 cX8_hasBit 2 (some .boolean) 2 := ⟨sn_cg kc_X8_hasBit, (List.mem_of_getElem? (i := 13) rfl), kst_X8_hasBit, ki_RX8, by decide +kernel⟩
theorem kl_RX4_50 : sn_LN RX4 50 yX8_lowestBit RX8 cX8_lowestBit 1 (some .int) 1 := ⟨sn_cg kc_X8_lowestBit, (List.mem_of_getElem? (i := 12) rfl), kst_X8_lowestBit, ki_RX8, by decide +kernel⟩
theorem kc_X4_weigh : Cond.code yX4_weigh cX4_weigh 7 none ∈ sn_gw := sn_gwI (List.mem_of_getElem? (i := 963) (by decide +kernel)) (by decide +kernel)
theorem km_RX4_36 : Cond.methodLink RX4 36 yX4_weigh ∈ sn_gw := sn_gwI (List.mem_of_getElem? (i := 960) (by decide +kernel)) (by decide +kernel)
theorem kin_X4_weigh : Cond.instanceMethod yX4_weigh ∈ sn_gw := sn_gwI (List.mem_of_getElem? (i := 962) (by decide +kernel)) (by decide +kernel)
theorem ks_X4_weigh : Cond.selects RX4 yX4_weigh yX4_weigh ∈ sn_gw := sn_gwS (q := (yX4_weigh, 7)) (List.mem_of_getElem? (i := 37) (by decide +kernel)) (by decide +kernel)
theorem kl_RX4_36 : sn_LV RX4 36 yX4_weigh cX4_weigh 7 none 2 := ⟨sn_lv5 km_RX4_36 kin_X4_weigh ks_X4_weigh ki_RX4 kc_X4_weigh, by decide +kernel⟩
theorem kc_X0_copyFrom : Cond.code yX0_copyFrom cX0_copyFrom 2 none ∈ sn_gw := sn_gwI (List.mem_of_getElem? (i := 676) (by decide +kernel)) (by decide +kernel)
theorem km_RX4_40 : Cond.methodLink RX4 40 yX0_copyFrom ∈ sn_gw := sn_gwI (List.mem_of_getElem? (i := 964) (by decide +kernel)) (by decide +kernel)
theorem kin_X0_copyFrom : Cond.instanceMethod yX0_copyFrom ∈ sn_gw := sn_gwI (List.mem_of_getElem? (i := 674) (by decide +kernel)) (by decide +kernel)
theorem ks_X0_copyFrom : Cond.selects RX0 yX0_copyFrom yX0_copyFrom ∈ sn_gw := sn_gwI (List.mem_of_getElem? (i := 675) (by decide +kernel)) (by decide +kernel)
theorem kl_RX4_40 : sn_LV RX4 40 yX0_copyFrom cX0_copyFrom 2 none 1 := ⟨sn_lv5 km_RX4_40 kin_X0_copyFrom ks_X0_copyFrom ki_RX0 kc_X0_copyFrom, by decide +kernel⟩
theorem kf_RX5_19 : Cond.fieldLink RX5 19 (TX5 1).1 (TX5 1).2.1 (TX5 1).2.2.1 ∈ sn_gw := sn_gwI (List.mem_of_getElem? (i := 76) (by decide +kernel)) (by decide +kernel)
theorem fd_RX5_19 : sn_Fd RX5 19 5 1 := ⟨RX5, TX5, 8, rfl, ug_X5, by decide, kf_RX5_19⟩
theorem kf_RX5_9 : Cond.fieldLink RX5 9 (TX5 0).1 (TX5 0).2.1 (TX5 0).2.2.1 ∈ sn_gw := sn_gwI (List.mem_of_getElem? (i := 74) (by decide +kernel)) (by decide +kernel)
theorem fd_RX5_9 : sn_Fd RX5 9 5 0 := ⟨RX5, TX5, 8, rfl, ug_X5, by decide, kf_RX5_9⟩
theorem fp_RX5_19 : sn_Fp RX5 19 5 1 .int := ⟨RX5, TX5, 8, tyX5, rfl, ug_X5, by decide, kf_RX5_19, tyX5_ok, nmX5, rfl, by decide +kernel⟩
theorem kf_RX5_34 : Cond.fieldLink RX5 34 (TX5 5).1 (TX5 5).2.1 (TX5 5).2.2.1 ∈ sn_gw := sn_gwI (List.mem_of_getElem? (i := 82) (by decide +kernel)) (by decide +kernel)
theorem fd_RX5_34 : sn_Fd RX5 34 5 5 := ⟨RX5, TX5, 8, rfl, ug_X5, by decide, kf_RX5_34⟩
theorem kf_RX5_131 : Cond.fieldLink RX5 131 (TX5 4).1 (TX5 4).2.1 (TX5 4).2.2.1 ∈ sn_gw := sn_gwI (List.mem_of_getElem? (i := 81) (by decide +kernel)) (by decide +kernel)
theorem fd_RX5_131 : sn_Fd RX5 131 5 4 := ⟨RX5, TX5, 8, rfl, ug_X5, by decide, kf_RX5_131⟩
theorem kf_RX5_40 : Cond.fieldLink RX5 40 (TX5 6).1 (TX5 6).2.1 (TX5 6).2.2.1 ∈ sn_gw := sn_gwI (List.mem_of_getElem? (i := 83) (by decide +kernel)) (by decide +kernel)
theorem fd_RX5_40 : sn_Fd RX5 40 5 6 := ⟨RX5, TX5, 8, rfl, ug_X5, by decide, kf_RX5_40⟩
theorem kc_X5_kindAt : Cond.code yX5_kindAt cX5_kindAt 3 (some .int) ∈ sn_gw := sn_gwI (List.mem_of_getElem? (i := 358) (by decide +kernel)) (by decide +kernel)
theorem km_RX5_148 : Cond.methodLink RX5 148 yX5_kindAt ∈ sn_gw := sn_gwI (List.mem_of_getElem? (i := 355) (by decide +kernel)) (by decide +kernel)
theorem kin_X5_kindAt : Cond.instanceMethod yX5_kindAt ∈ sn_gw := sn_gwI (List.mem_of_getElem? (i := 357) (by decide +kernel)) (by decide +kernel)
theorem ks_X5_kindAt : Cond.selects RX5 yX5_kindAt yX5_kindAt ∈ sn_gw := sn_gwS (q := (yX5_kindAt, 8)) (List.mem_of_getElem? (i := 1) (by decide +kernel)) (by decide +kernel)
theorem ki_RX5 : Cond.initialized RX5 ∈ sn_gw := sn_gwI (List.mem_of_getElem? (i := 3) (by decide +kernel)) (by decide +kernel)
theorem kl_RX5_148 : sn_LV RX5 148 yX5_kindAt cX5_kindAt 3 (some .int) 1 := ⟨sn_lv5 km_RX5_148 kin_X5_kindAt ks_X5_kindAt ki_RX5 kc_X5_kindAt, by decide +kernel⟩
theorem fp_RX5_34 : sn_Fp RX5 34 5 5 .int := ⟨RX5, TX5, 8, tyX5, rfl, ug_X5, by decide, kf_RX5_34, tyX5_ok, nmX5, rfl, by decide +kernel⟩
theorem fp_RX5_40 : sn_Fp RX5 40 5 6 .int := ⟨RX5, TX5, 8, tyX5, rfl, ug_X5, by decide, kf_RX5_40, tyX5_ok, nmX5, rfl, by decide +kernel⟩
theorem km_RX5_134 : Cond.methodLink RX5 134 Lib.Math.min.name ∈ sn_gw := sn_gwI (List.mem_of_getElem? (i := 359) (by decide +kernel)) (by decide +kernel)
theorem fp_RX5_131 : sn_Fp RX5 131 5 4 .int := ⟨RX5, TX5, 8, tyX5, rfl, ug_X5, by decide, kf_RX5_131, tyX5_ok, nmX5, rfl, by decide +kernel⟩
theorem kf_RX5_31 : Cond.fieldLink RX5 31 (TX5 2).1 (TX5 2).2.1 (TX5 2).2.2.1 ∈ sn_gw := sn_gwI (List.mem_of_getElem? (i := 77) (by decide +kernel)) (by decide +kernel)
theorem fd_RX5_31 : sn_Fd RX5 31 5 2 := ⟨RX5, TX5, 8, rfl, ug_X5, by decide, kf_RX5_31⟩
theorem fp_RX5_31 : sn_Fp RX5 31 5 2 .int := ⟨RX5, TX5, 8, tyX5, rfl, ug_X5, by decide, kf_RX5_31, tyX5_ok, nmX5, rfl, by decide +kernel⟩
theorem kf_RX5_15 : Cond.fieldLink RX5 15 (TX5 3).1 (TX5 3).2.1 (TX5 3).2.2.1 ∈ sn_gw := sn_gwI (List.mem_of_getElem? (i := 79) (by decide +kernel)) (by decide +kernel)
theorem fp_RX5_15 : sn_Fp RX5 15 5 3 .int := ⟨RX5, TX5, 8, tyX5, rfl, ug_X5, by decide, kf_RX5_15, tyX5_ok, nmX5, rfl, by decide +kernel⟩
theorem kk_RX5_133 : Cond.constant RX5 133 (1000000) ∈ sn_gw := sn_gwI (List.mem_of_getElem? (i := 436) (by decide +kernel)) (by decide +kernel)
theorem kc_X5_step : Cond.code yX5_step cX5_step 1 none ∈ sn_gw := sn_gwI (List.mem_of_getElem? (i := 354) (by decide +kernel)) (by decide +kernel)
theorem km_RX5_37 : Cond.methodLink RX5 37 yX5_step ∈ sn_gw := sn_gwI (List.mem_of_getElem? (i := 351) (by decide +kernel)) (by decide +kernel)
theorem kin_X5_step : Cond.instanceMethod yX5_step ∈ sn_gw := sn_gwI (List.mem_of_getElem? (i := 353) (by decide +kernel)) (by decide +kernel)
theorem ks_X5_step : Cond.selects RX5 yX5_step yX5_step ∈ sn_gw := sn_gwS (q := (yX5_step, 8)) (List.mem_of_getElem? (i := 0) (by decide +kernel)) (by decide +kernel)
theorem kl_RX5_37 : sn_LV RX5 37 yX5_step cX5_step 1 none 0 := ⟨sn_lv5 km_RX5_37 kin_X5_step ks_X5_step ki_RX5 kc_X5_step, by decide +kernel⟩
theorem kc_X5_blame : Cond.code yX5_blame cX5_blame 2 none ∈ sn_gw := sn_gwI (List.mem_of_getElem? (i := 426) (by decide +kernel)) (by decide +kernel)
theorem km_RX5_100 : Cond.methodLink RX5 100 yX5_blame ∈ sn_gw := sn_gwI (List.mem_of_getElem? (i := 423) (by decide +kernel)) (by decide +kernel)
theorem kin_X5_blame : Cond.instanceMethod yX5_blame ∈ sn_gw := sn_gwI (List.mem_of_getElem? (i := 425) (by decide +kernel)) (by decide +kernel)
theorem ks_X5_blame : Cond.selects RX5 yX5_blame yX5_blame ∈ sn_gw := sn_gwS (q := (yX5_blame, 8)) (List.mem_of_getElem? (i := 5) (by decide +kernel)) (by decide +kernel)
theorem kl_RX5_100 : sn_LV RX5 100 yX5_blame cX5_blame 2 none 1 := ⟨sn_lv5 km_RX5_100 kin_X5_blame ks_X5_blame ki_RX5 kc_X5_blame, by decide +kernel⟩
theorem kc_X5_value : Cond.code yX5_value cX5_value 3 (some .int) ∈ sn_gw := sn_gwI (List.mem_of_getElem? (i := 435) (by decide +kernel)) (by decide +kernel)
theorem km_RX5_127 : Cond.methodLink RX5 127 yX5_value ∈ sn_gw := sn_gwI (List.mem_of_getElem? (i := 432) (by decide +kernel)) (by decide +kernel)
theorem kin_X5_value : Cond.instanceMethod yX5_value ∈ sn_gw := sn_gwI (List.mem_of_getElem? (i := 434) (by decide +kernel)) (by decide +kernel)
theorem ks_X5_value : Cond.selects RX5 yX5_value yX5_value ∈ sn_gw := sn_gwS (q := (yX5_value, 8)) (List.mem_of_getElem? (i := 7) (by decide +kernel)) (by decide +kernel)
theorem kl_RX5_127 : sn_LV RX5 127 yX5_value cX5_value 3 (some .int) 0 := ⟨sn_lv5 km_RX5_127 kin_X5_value ks_X5_value ki_RX5 kc_X5_value, by decide +kernel⟩
theorem kf_RX6_20 : Cond.fieldLink RX6 20 (TX6 2).1 (TX6 2).2.1 (TX6 2).2.2.1 ∈ sn_gw := sn_gwI (List.mem_of_getElem? (i := 118) (by decide +kernel)) (by decide +kernel)
theorem fd_RX6_20 : sn_Fd RX6 20 6 2 := ⟨RX6, TX6, 3, rfl, ug_X6, by decide, kf_RX6_20⟩
theorem kc_X6_has : Cond.code yX6_has cX6_has 2 (some .boolean) ∈ sn_gw := sn_gwI (List.mem_of_getElem? (i := 887) (by decide +kernel)) (by decide +kernel)
theorem km_RX6_29 : Cond.methodLink RX6 29 yX6_has ∈ sn_gw := sn_gwI (List.mem_of_getElem? (i := 1041) (by decide +kernel)) (by decide +kernel)
theorem kin_X6_has : Cond.instanceMethod yX6_has ∈ sn_gw := sn_gwI (List.mem_of_getElem? (i := 885) (by decide +kernel)) (by decide +kernel)
theorem ks_X6_has : Cond.selects RX6 yX6_has yX6_has ∈ sn_gw := sn_gwI (List.mem_of_getElem? (i := 886) (by decide +kernel)) (by decide +kernel)
theorem ki_RX6 : Cond.initialized RX6 ∈ sn_gw := sn_gwI (List.mem_of_getElem? (i := 4) (by decide +kernel)) (by decide +kernel)
theorem kl_RX6_29 : sn_LV RX6 29 yX6_has cX6_has 2 (some .boolean) 1 := ⟨sn_lv5 km_RX6_29 kin_X6_has ks_X6_has ki_RX6 kc_X6_has, by decide +kernel⟩
theorem kf_RX6_16 : Cond.fieldLink RX6 16 (TX6 1).1 (TX6 1).2.1 (TX6 1).2.2.1 ∈ sn_gw := sn_gwI (List.mem_of_getElem? (i := 116) (by decide +kernel)) (by decide +kernel)
theorem fd_RX6_16 : sn_Fd RX6 16 6 1 := ⟨RX6, TX6, 3, rfl, ug_X6, by decide, kf_RX6_16⟩
theorem kf_RX6_11 : Cond.fieldLink RX6 11 (TX6 0).1 (TX6 0).2.1 (TX6 0).2.2.1 ∈ sn_gw := sn_gwI (List.mem_of_getElem? (i := 114) (by decide +kernel)) (by decide +kernel)
theorem fd_RX6_11 : sn_Fd RX6 11 6 0 := ⟨RX6, TX6, 3, rfl, ug_X6, by decide, kf_RX6_11⟩
theorem km_RX6_33 : Cond.methodLink RX6 33 yJ7_fill_d0a16 ∈ sn_gw := sn_gwI (List.mem_of_getElem? (i := 1058) (by decide +kernel)) (by decide +kernel)
theorem kl_RX6_33 : sn_LS RX6 33 yJ7_fill_d0a16 cJ7_fill_d0a16 5 none 2 := ⟨sn_ls4 km_RX6_33 kst_J7_fill_d0a16 ki_RJ7 kc_J7_fill_d0a16, by decide +kernel⟩
theorem kf_RX7_9 : Cond.fieldLink RX7 9 (TX7 0).1 (TX7 0).2.1 (TX7 0).2.2.1 ∈ sn_gw := sn_gwI (List.mem_of_getElem? (i := 239) (by decide +kernel)) (by decide +kernel)
theorem fd_RX7_9 : sn_Fd RX7 9 7 0 := ⟨RX7, TX7, 5, rfl, ug_X7, by decide, kf_RX7_9⟩
theorem kf_RX7_15 : Cond.fieldLink RX7 15 (TX7 4).1 (TX7 4).2.1 (TX7 4).2.2.1 ∈ sn_gw := sn_gwI (List.mem_of_getElem? (i := 247) (by decide +kernel)) (by decide +kernel)
theorem fd_RX7_15 : sn_Fd RX7 15 7 4 := ⟨RX7, TX7, 5, rfl, ug_X7, by decide, kf_RX7_15⟩
theorem km_RX7_18 : Cond.methodLink RX7 18 yJ7_fill_53178 ∈ sn_gw := sn_gwI (List.mem_of_getElem? (i := 892) (by decide +kernel)) (by decide +kernel)
theorem kl_RX7_18 : sn_LS RX7 18 yJ7_fill_53178 cJ7_fill_53178 4 none 2 := ⟨sn_ls4 km_RX7_18 kst_J7_fill_53178 ki_RJ7 kc_J7_fill_53178, by decide +kernel⟩
theorem kf_RX7_24 : Cond.fieldLink RX7 24 (TX7 1).1 (TX7 1).2.1 (TX7 1).2.2.1 ∈ sn_gw := sn_gwI (List.mem_of_getElem? (i := 241) (by decide +kernel)) (by decide +kernel)
theorem fp_RX7_24 : sn_Fp RX7 24 7 1 .int := ⟨RX7, TX7, 5, tyX7, rfl, ug_X7, by decide, kf_RX7_24, tyX7_ok, nmX7, rfl, by decide +kernel⟩
theorem kf_RX7_28 : Cond.fieldLink RX7 28 (TX7 2).1 (TX7 2).2.1 (TX7 2).2.2.1 ∈ sn_gw := sn_gwI (List.mem_of_getElem? (i := 243) (by decide +kernel)) (by decide +kernel)
theorem fp_RX7_28 : sn_Fp RX7 28 7 2 .int := ⟨RX7, TX7, 5, tyX7, rfl, ug_X7, by decide, kf_RX7_28, tyX7_ok, nmX7, rfl, by decide +kernel⟩
theorem kf_RX7_31 : Cond.fieldLink RX7 31 (TX7 3).1 (TX7 3).2.1 (TX7 3).2.2.1 ∈ sn_gw := sn_gwI (List.mem_of_getElem? (i := 245) (by decide +kernel)) (by decide +kernel)
theorem fp_RX7_31 : sn_Fp RX7 31 7 3 .int := ⟨RX7, TX7, 5, tyX7, rfl, ug_X7, by decide, kf_RX7_31, tyX7_ok, nmX7, rfl, by decide +kernel⟩
theorem kf_RX7_60 : Cond.fieldLink RX7 60 (TX0 1).1 (TX0 1).2.1 (TX0 1).2.2.1 ∈ sn_gw := sn_gwI (List.mem_of_getElem? (i := 139) (by decide +kernel)) (by decide +kernel)
theorem fd_RX7_60 : sn_Fd RX7 60 0 1 := ⟨RX0, TX0, 14, rfl, ug_X0, by decide, kf_RX7_60⟩
theorem kf_RX7_63 : Cond.fieldLink RX7 63 (TX0 13).1 (TX0 13).2.1 (TX0 13).2.2.1 ∈ sn_gw := sn_gwI (List.mem_of_getElem? (i := 166) (by decide +kernel)) (by decide +kernel)
theorem fd_RX7_63 : sn_Fd RX7 63 0 13 := ⟨RX0, TX0, 14, rfl, ug_X0, by decide, kf_RX7_63⟩
theorem fd_RX7_24 : sn_Fd RX7 24 7 1 := ⟨RX7, TX7, 5, rfl, ug_X7, by decide, kf_RX7_24⟩
theorem fd_RX7_28 : sn_Fd RX7 28 7 2 := ⟨RX7, TX7, 5, rfl, ug_X7, by decide, kf_RX7_28⟩
theorem km_RX7_66 : Cond.methodLink RX7 66 yJ6_bitCount_0f7a4 ∈ sn_gw := sn_gwI (List.mem_of_getElem? (i := 908) (by decide +kernel)) (by decide +kernel)
theorem kl_RX7_66 : sn_LS RX7 66 yJ6_bitCount_0f7a4 cJ6_bitCount_0f7a4 1 (some .int) 1 := ⟨sn_ls4 km_RX7_66 kst_J6_bitCount_0f7a4 ki_RJ6 kc_J6_bitCount_0f7a4, by decide +kernel⟩
theorem kf_RX7_40 : Cond.fieldLink RX7 40 (TX0 0).1 (TX0 0).2.1 (TX0 0).2.2.1 ∈ sn_gw := sn_gwI (List.mem_of_getElem? (i := 136) (by decide +kernel)) (by decide +kernel)
theorem fd_RX7_40 : sn_Fd RX7 40 0 0 := ⟨RX0, TX0, 14, rfl, ug_X0, by decide, kf_RX7_40⟩
theorem kf_RX7_49 : Cond.fieldLink RX7 49 (TX0 4).1 (TX0 4).2.1 (TX0 4).2.2.1 ∈ sn_gw := sn_gwI (List.mem_of_getElem? (i := 146) (by decide +kernel)) (by decide +kernel)
theorem fd_RX7_49 : sn_Fd RX7 49 0 4 := ⟨RX0, TX0, 14, rfl, ug_X0, by decide, kf_RX7_49⟩
theorem km_RX7_52 : Cond.methodLink RX7 52 yX0_live ∈ sn_gw := sn_gwI (List.mem_of_getElem? (i := 903) (by decide +kernel)) (by decide +kernel)
theorem kl_RX7_52 : sn_LV RX7 52 yX0_live cX0_live 4 none 2 := ⟨sn_lv5 km_RX7_52 kin_X0_live ks_X0_live ki_RX0 kc_X0_live, by decide +kernel⟩
theorem kl_RX7_41 : sn_LN RX7 41 yX8_firstMinutes RX8 cX8_firstMinutes 1 (some .int) 1 := ⟨sn_cg kc_X8_firstMinutes, (List.mem_of_getElem? (i := 11) rfl), kst_X8_firstMinutes, ki_RX8, by decide +kernel⟩
theorem kc_X7_meets : Cond.code yX7_meets cX7_meets 4 (some .boolean) ∈ sn_gw := sn_gwI (List.mem_of_getElem? (i := 902) (by decide +kernel)) (by decide +kernel)
theorem km_RX7_45 : Cond.methodLink RX7 45 yX7_meets ∈ sn_gw := sn_gwI (List.mem_of_getElem? (i := 899) (by decide +kernel)) (by decide +kernel)
theorem kin_X7_meets : Cond.instanceMethod yX7_meets ∈ sn_gw := sn_gwI (List.mem_of_getElem? (i := 901) (by decide +kernel)) (by decide +kernel)
theorem ks_X7_meets : Cond.selects RX7 yX7_meets yX7_meets ∈ sn_gw := sn_gwS (q := (yX7_meets, 5)) (List.mem_of_getElem? (i := 33) (by decide +kernel)) (by decide +kernel)
theorem ki_RX7 : Cond.initialized RX7 ∈ sn_gw := sn_gwI (List.mem_of_getElem? (i := 9) (by decide +kernel)) (by decide +kernel)
theorem kl_RX7_45 : sn_LV RX7 45 yX7_meets cX7_meets 4 (some .boolean) 2 := ⟨sn_lv5 km_RX7_45 kin_X7_meets ks_X7_meets ki_RX7 kc_X7_meets, by decide +kernel⟩
theorem kc_X7_note : Cond.code yX7_note cX7_note 5 none ∈ sn_gw := sn_gwI (List.mem_of_getElem? (i := 907) (by decide +kernel)) (by decide +kernel)
theorem km_RX7_56 : Cond.methodLink RX7 56 yX7_note ∈ sn_gw := sn_gwI (List.mem_of_getElem? (i := 904) (by decide +kernel)) (by decide +kernel)
theorem kin_X7_note : Cond.instanceMethod yX7_note ∈ sn_gw := sn_gwI (List.mem_of_getElem? (i := 906) (by decide +kernel)) (by decide +kernel)
theorem ks_X7_note : Cond.selects RX7 yX7_note yX7_note ∈ sn_gw := sn_gwS (q := (yX7_note, 5)) (List.mem_of_getElem? (i := 34) (by decide +kernel)) (by decide +kernel)
theorem kl_RX7_56 : sn_LV RX7 56 yX7_note cX7_note 5 none 3 := ⟨sn_lv5 km_RX7_56 kin_X7_note ks_X7_note ki_RX7 kc_X7_note, by decide +kernel⟩
theorem km_RX7_34 : Cond.methodLink RX7 34 yX0_copyFrom ∈ sn_gw := sn_gwI (List.mem_of_getElem? (i := 897) (by decide +kernel)) (by decide +kernel)
theorem kl_RX7_34 : sn_LV RX7 34 yX0_copyFrom cX0_copyFrom 2 none 1 := ⟨sn_lv5 km_RX7_34 kin_X0_copyFrom ks_X0_copyFrom ki_RX0 kc_X0_copyFrom, by decide +kernel⟩
theorem km_RX7_71 : Cond.methodLink RX7 71 Lib.Math.max.name ∈ sn_gw := sn_gwI (List.mem_of_getElem? (i := 929) (by decide +kernel)) (by decide +kernel)
theorem kst_maxI : Cond.static Lib.Math.max.name ∈ sn_gw := sn_gwI (List.mem_of_getElem? (i := 614) (by decide +kernel)) (by decide +kernel)
theorem kc_maxI : Cond.code Lib.Math.max.name Lib.Math.max.code 2 (some .int) ∈ sn_gw := sn_gwI (List.mem_of_getElem? (i := 615) (by decide +kernel)) (by decide +kernel)
theorem kc_X7_atWorst : Cond.code yX7_atWorst cX7_atWorst 4 (some .int) ∈ sn_gw := sn_gwI (List.mem_of_getElem? (i := 928) (by decide +kernel)) (by decide +kernel)
theorem km_RX7_77 : Cond.methodLink RX7 77 yX7_atWorst ∈ sn_gw := sn_gwI (List.mem_of_getElem? (i := 925) (by decide +kernel)) (by decide +kernel)
theorem kin_X7_atWorst : Cond.instanceMethod yX7_atWorst ∈ sn_gw := sn_gwI (List.mem_of_getElem? (i := 926) (by decide +kernel)) (by decide +kernel)
theorem ks_X7_atWorst : Cond.selects RX7 yX7_atWorst yX7_atWorst ∈ sn_gw := sn_gwI (List.mem_of_getElem? (i := 927) (by decide +kernel)) (by decide +kernel)
theorem kl_RX7_77 : sn_LV RX7 77 yX7_atWorst cX7_atWorst 4 (some .int) 1 := ⟨sn_lv5 km_RX7_77 kin_X7_atWorst ks_X7_atWorst ki_RX7 kc_X7_atWorst, by decide +kernel⟩
theorem kf_RX8_30 : Cond.fieldLink RX8 30 (TX8 4).1 (TX8 4).2.1 (TX8 4).2.2.1 ∈ sn_gw := sn_gwI (List.mem_of_getElem? (i := 293) (by decide +kernel)) (by decide +kernel)
theorem fd_RX8_30 : sn_Fd RX8 30 8 4 := ⟨RX8, TX8, 12, rfl, ug_X8, by decide, kf_RX8_30⟩
theorem kf_RX8_81 : Cond.fieldLink RX8 81 (TX5 1).1 (TX5 1).2.1 (TX5 1).2.2.1 ∈ sn_gw := sn_gwI (List.mem_of_getElem? (i := 75) (by decide +kernel)) (by decide +kernel)
theorem fd_RX8_81 : sn_Fd RX8 81 5 1 := ⟨RX5, TX5, 8, rfl, ug_X5, by decide, kf_RX8_81⟩
theorem kc_X5_put : Cond.code yX5_put cX5_put 3 none ∈ sn_gw := sn_gwI (List.mem_of_getElem? (i := 333) (by decide +kernel)) (by decide +kernel)
theorem km_RX8_85 : Cond.methodLink RX8 85 yX5_put ∈ sn_gw := sn_gwI (List.mem_of_getElem? (i := 330) (by decide +kernel)) (by decide +kernel)
theorem kin_X5_put : Cond.instanceMethod yX5_put ∈ sn_gw := sn_gwI (List.mem_of_getElem? (i := 331) (by decide +kernel)) (by decide +kernel)
theorem ks_X5_put : Cond.selects RX5 yX5_put yX5_put ∈ sn_gw := sn_gwI (List.mem_of_getElem? (i := 332) (by decide +kernel)) (by decide +kernel)
theorem kl_RX8_85 : sn_LV RX8 85 yX5_put cX5_put 3 none 1 := ⟨sn_lv5 km_RX8_85 kin_X5_put ks_X5_put ki_RX5 kc_X5_put, by decide +kernel⟩
theorem fp_RX8_81 : sn_Fp RX8 81 5 1 .int := ⟨RX5, TX5, 8, tyX5, rfl, ug_X5, by decide, kf_RX8_81, tyX5_ok, nmX5, rfl, by decide +kernel⟩
theorem kf_RX8_44 : Cond.fieldLink RX8 44 (TX8 6).1 (TX8 6).2.1 (TX8 6).2.2.1 ∈ sn_gw := sn_gwI (List.mem_of_getElem? (i := 295) (by decide +kernel)) (by decide +kernel)
theorem fd_RX8_44 : sn_Fd RX8 44 8 6 := ⟨RX8, TX8, 12, rfl, ug_X8, by decide, kf_RX8_44⟩
theorem kf_RX8_10 : Cond.fieldLink RX8 10 (TX8 0).1 (TX8 0).2.1 (TX8 0).2.2.1 ∈ sn_gw := sn_gwI (List.mem_of_getElem? (i := 289) (by decide +kernel)) (by decide +kernel)
theorem fd_RX8_10 : sn_Fd RX8 10 8 0 := ⟨RX8, TX8, 12, rfl, ug_X8, by decide, kf_RX8_10⟩
theorem kc_X0_tellFrom : Cond.code yX0_tellFrom cX0_tellFrom 3 none ∈ sn_gw := sn_gwI (List.mem_of_getElem? (i := 489) (by decide +kernel)) (by decide +kernel)
theorem km_RX8_374 : Cond.methodLink RX8 374 yX0_tellFrom ∈ sn_gw := sn_gwI (List.mem_of_getElem? (i := 486) (by decide +kernel)) (by decide +kernel)
theorem kin_X0_tellFrom : Cond.instanceMethod yX0_tellFrom ∈ sn_gw := sn_gwI (List.mem_of_getElem? (i := 487) (by decide +kernel)) (by decide +kernel)
theorem ks_X0_tellFrom : Cond.selects RX0 yX0_tellFrom yX0_tellFrom ∈ sn_gw := sn_gwI (List.mem_of_getElem? (i := 488) (by decide +kernel)) (by decide +kernel)
theorem kl_RX8_374 : sn_LV RX8 374 yX0_tellFrom cX0_tellFrom 3 none 1 := ⟨sn_lv5 km_RX8_374 kin_X0_tellFrom ks_X0_tellFrom ki_RX0 kc_X0_tellFrom, by decide +kernel⟩
theorem kc_X0_liveWhole : Cond.code yX0_liveWhole cX0_liveWhole 1 none ∈ sn_gw := sn_gwI (List.mem_of_getElem? (i := 499) (by decide +kernel)) (by decide +kernel)
theorem km_RX8_191 : Cond.methodLink RX8 191 yX0_liveWhole ∈ sn_gw := sn_gwI (List.mem_of_getElem? (i := 496) (by decide +kernel)) (by decide +kernel)
theorem kin_X0_liveWhole : Cond.instanceMethod yX0_liveWhole ∈ sn_gw := sn_gwI (List.mem_of_getElem? (i := 497) (by decide +kernel)) (by decide +kernel)
theorem ks_X0_liveWhole : Cond.selects RX0 yX0_liveWhole yX0_liveWhole ∈ sn_gw := sn_gwI (List.mem_of_getElem? (i := 498) (by decide +kernel)) (by decide +kernel)
theorem kl_RX8_191 : sn_LV RX8 191 yX0_liveWhole cX0_liveWhole 1 none 0 := ⟨sn_lv5 km_RX8_191 kin_X0_liveWhole ks_X0_liveWhole ki_RX0 kc_X0_liveWhole, by decide +kernel⟩
theorem kf_RX8_106 : Cond.fieldLink RX8 106 (TX5 3).1 (TX5 3).2.1 (TX5 3).2.2.1 ∈ sn_gw := sn_gwI (List.mem_of_getElem? (i := 80) (by decide +kernel)) (by decide +kernel)
theorem fd_RX8_106 : sn_Fd RX8 106 5 3 := ⟨RX5, TX5, 8, rfl, ug_X5, by decide, kf_RX8_106⟩
theorem kf_RX8_93 : Cond.fieldLink RX8 93 (TX5 2).1 (TX5 2).2.1 (TX5 2).2.2.1 ∈ sn_gw := sn_gwI (List.mem_of_getElem? (i := 78) (by decide +kernel)) (by decide +kernel)
theorem fd_RX8_93 : sn_Fd RX8 93 5 2 := ⟨RX5, TX5, 8, rfl, ug_X5, by decide, kf_RX8_93⟩
theorem kf_RX8_102 : Cond.fieldLink RX8 102 (TX2 0).1 (TX2 0).2.1 (TX2 0).2.2.1 ∈ sn_gw := sn_gwI (List.mem_of_getElem? (i := 38) (by decide +kernel)) (by decide +kernel)
theorem fd_RX8_102 : sn_Fd RX8 102 2 0 := ⟨RX2, TX2, 6, rfl, ug_X2, by decide, kf_RX8_102⟩
theorem kf_RX8_113 : Cond.fieldLink RX8 113 (TX2 1).1 (TX2 1).2.1 (TX2 1).2.2.1 ∈ sn_gw := sn_gwI (List.mem_of_getElem? (i := 42) (by decide +kernel)) (by decide +kernel)
theorem fd_RX8_113 : sn_Fd RX8 113 2 1 := ⟨RX2, TX2, 6, rfl, ug_X2, by decide, kf_RX8_113⟩
theorem kc_X8_isPerson : Cond.code yX8_isPerson cX8_isPerson 2 (some .boolean) ∈ sn_gw := sn_gwI (List.mem_of_getElem? (i := 538) (by decide +kernel)) (by decide +kernel)
theorem km_RX8_109 : Cond.methodLink RX8 109 yX8_isPerson ∈ sn_gw := sn_gwI (List.mem_of_getElem? (i := 535) (by decide +kernel)) (by decide +kernel)
theorem kin_X8_isPerson : Cond.instanceMethod yX8_isPerson ∈ sn_gw := sn_gwI (List.mem_of_getElem? (i := 537) (by decide +kernel)) (by decide +kernel)
theorem ks_X8_isPerson : Cond.selects RX8 yX8_isPerson yX8_isPerson ∈ sn_gw := sn_gwS (q := (yX8_isPerson, 12)) (List.mem_of_getElem? (i := 17) (by decide +kernel)) (by decide +kernel)
theorem kl_RX8_109 : sn_LV RX8 109 yX8_isPerson cX8_isPerson 2 (some .boolean) 1 := ⟨sn_lv5 km_RX8_109 kin_X8_isPerson ks_X8_isPerson ki_RX8 kc_X8_isPerson, by decide +kernel⟩
theorem kc_X8_isPolicy : Cond.code yX8_isPolicy cX8_isPolicy 2 (some .boolean) ∈ sn_gw := sn_gwI (List.mem_of_getElem? (i := 546) (by decide +kernel)) (by decide +kernel)
theorem km_RX8_116 : Cond.methodLink RX8 116 yX8_isPolicy ∈ sn_gw := sn_gwI (List.mem_of_getElem? (i := 543) (by decide +kernel)) (by decide +kernel)
theorem kin_X8_isPolicy : Cond.instanceMethod yX8_isPolicy ∈ sn_gw := sn_gwI (List.mem_of_getElem? (i := 545) (by decide +kernel)) (by decide +kernel)
theorem ks_X8_isPolicy : Cond.selects RX8 yX8_isPolicy yX8_isPolicy ∈ sn_gw := sn_gwS (q := (yX8_isPolicy, 12)) (List.mem_of_getElem? (i := 18) (by decide +kernel)) (by decide +kernel)
theorem kl_RX8_116 : sn_LV RX8 116 yX8_isPolicy cX8_isPolicy 2 (some .boolean) 1 := ⟨sn_lv5 km_RX8_116 kin_X8_isPolicy ks_X8_isPolicy ki_RX8 kc_X8_isPolicy, by decide +kernel⟩
theorem km_RX8_119 : Cond.methodLink RX8 119 yX2_ofPolicy ∈ sn_gw := sn_gwI (List.mem_of_getElem? (i := 547) (by decide +kernel)) (by decide +kernel)
theorem kl_RX8_119 : sn_LV RX8 119 yX2_ofPolicy cX2_ofPolicy 3 (some .int) 2 := ⟨sn_lv5 km_RX8_119 kin_X2_ofPolicy ks_X2_ofPolicy ki_RX2 kc_X2_ofPolicy, by decide +kernel⟩
theorem kc_X2_neighbours : Cond.code yX2_neighbours cX2_neighbours 4 (some .int) ∈ sn_gw := sn_gwI (List.mem_of_getElem? (i := 558) (by decide +kernel)) (by decide +kernel)
theorem km_RX8_123 : Cond.methodLink RX8 123 yX2_neighbours ∈ sn_gw := sn_gwI (List.mem_of_getElem? (i := 555) (by decide +kernel)) (by decide +kernel)
theorem kin_X2_neighbours : Cond.instanceMethod yX2_neighbours ∈ sn_gw := sn_gwI (List.mem_of_getElem? (i := 556) (by decide +kernel)) (by decide +kernel)
theorem ks_X2_neighbours : Cond.selects RX2 yX2_neighbours yX2_neighbours ∈ sn_gw := sn_gwI (List.mem_of_getElem? (i := 557) (by decide +kernel)) (by decide +kernel)
theorem kl_RX8_123 : sn_LV RX8 123 yX2_neighbours cX2_neighbours 4 (some .int) 1 := ⟨sn_lv5 km_RX8_123 kin_X2_neighbours ks_X2_neighbours ki_RX2 kc_X2_neighbours, by decide +kernel⟩
theorem kf_RX8_130 : Cond.fieldLink RX8 130 (TX0 4).1 (TX0 4).2.1 (TX0 4).2.2.1 ∈ sn_gw := sn_gwI (List.mem_of_getElem? (i := 147) (by decide +kernel)) (by decide +kernel)
theorem fd_RX8_130 : sn_Fd RX8 130 0 4 := ⟨RX0, TX0, 14, rfl, ug_X0, by decide, kf_RX8_130⟩
theorem kc_X8_isMinute : Cond.code yX8_isMinute cX8_isMinute 2 (some .boolean) ∈ sn_gw := sn_gwI (List.mem_of_getElem? (i := 566) (by decide +kernel)) (by decide +kernel)
theorem km_RX8_127 : Cond.methodLink RX8 127 yX8_isMinute ∈ sn_gw := sn_gwI (List.mem_of_getElem? (i := 563) (by decide +kernel)) (by decide +kernel)
theorem kin_X8_isMinute : Cond.instanceMethod yX8_isMinute ∈ sn_gw := sn_gwI (List.mem_of_getElem? (i := 565) (by decide +kernel)) (by decide +kernel)
theorem ks_X8_isMinute : Cond.selects RX8 yX8_isMinute yX8_isMinute ∈ sn_gw := sn_gwS (q := (yX8_isMinute, 12)) (List.mem_of_getElem? (i := 19) (by decide +kernel)) (by decide +kernel)
theorem kl_RX8_127 : sn_LV RX8 127 yX8_isMinute cX8_isMinute 2 (some .boolean) 1 := ⟨sn_lv5 km_RX8_127 kin_X8_isMinute ks_X8_isMinute ki_RX8 kc_X8_isMinute, by decide +kernel⟩
theorem kf_RX8_133 : Cond.fieldLink RX8 133 (TX0 13).1 (TX0 13).2.1 (TX0 13).2.2.1 ∈ sn_gw := sn_gwI (List.mem_of_getElem? (i := 167) (by decide +kernel)) (by decide +kernel)
theorem fd_RX8_133 : sn_Fd RX8 133 0 13 := ⟨RX0, TX0, 14, rfl, ug_X0, by decide, kf_RX8_133⟩
theorem km_RX8_136 : Cond.methodLink RX8 136 yX8_lowestBit ∈ sn_gw := sn_gwI (List.mem_of_getElem? (i := 575) (by decide +kernel)) (by decide +kernel)
theorem kl_RX8_136 : sn_LS RX8 136 yX8_lowestBit cX8_lowestBit 1 (some .int) 1 := ⟨sn_ls4 km_RX8_136 kst_X8_lowestBit ki_RX8 kc_X8_lowestBit, by decide +kernel⟩
theorem kc_X8_isHouse : Cond.code yX8_isHouse cX8_isHouse 1 (some .boolean) ∈ sn_gw := sn_gwI (List.mem_of_getElem? (i := 591) (by decide +kernel)) (by decide +kernel)
theorem km_RX8_139 : Cond.methodLink RX8 139 yX8_isHouse ∈ sn_gw := sn_gwI (List.mem_of_getElem? (i := 588) (by decide +kernel)) (by decide +kernel)
theorem kin_X8_isHouse : Cond.instanceMethod yX8_isHouse ∈ sn_gw := sn_gwI (List.mem_of_getElem? (i := 590) (by decide +kernel)) (by decide +kernel)
theorem ks_X8_isHouse : Cond.selects RX8 yX8_isHouse yX8_isHouse ∈ sn_gw := sn_gwS (q := (yX8_isHouse, 12)) (List.mem_of_getElem? (i := 20) (by decide +kernel)) (by decide +kernel)
theorem kl_RX8_139 : sn_LV RX8 139 yX8_isHouse cX8_isHouse 1 (some .boolean) 0 := ⟨sn_lv5 km_RX8_139 kin_X8_isHouse ks_X8_isHouse ki_RX8 kc_X8_isHouse, by decide +kernel⟩
theorem kc_X0_total : Cond.code yX0_total cX0_total 3 (some .int) ∈ sn_gw := sn_gwI (List.mem_of_getElem? (i := 595) (by decide +kernel)) (by decide +kernel)
theorem km_RX8_143 : Cond.methodLink RX8 143 yX0_total ∈ sn_gw := sn_gwI (List.mem_of_getElem? (i := 592) (by decide +kernel)) (by decide +kernel)
theorem kin_X0_total : Cond.instanceMethod yX0_total ∈ sn_gw := sn_gwI (List.mem_of_getElem? (i := 593) (by decide +kernel)) (by decide +kernel)
theorem ks_X0_total : Cond.selects RX0 yX0_total yX0_total ∈ sn_gw := sn_gwI (List.mem_of_getElem? (i := 594) (by decide +kernel)) (by decide +kernel)
theorem kl_RX8_143 : sn_LV RX8 143 yX0_total cX0_total 3 (some .int) 0 := ⟨sn_lv5 km_RX8_143 kin_X0_total ks_X0_total ki_RX0 kc_X0_total, by decide +kernel⟩
theorem kf_RX8_147 : Cond.fieldLink RX8 147 (TX0 12).1 (TX0 12).2.1 (TX0 12).2.2.1 ∈ sn_gw := sn_gwI (List.mem_of_getElem? (i := 162) (by decide +kernel)) (by decide +kernel)
theorem fd_RX8_147 : sn_Fd RX8 147 0 12 := ⟨RX0, TX0, 14, rfl, ug_X0, by decide, kf_RX8_147⟩
theorem kc_X0_tickleAt : Cond.code yX0_tickleAt cX0_tickleAt 3 (some .int) ∈ sn_gw := sn_gwI (List.mem_of_getElem? (i := 608) (by decide +kernel)) (by decide +kernel)
theorem km_RX8_150 : Cond.methodLink RX8 150 yX0_tickleAt ∈ sn_gw := sn_gwI (List.mem_of_getElem? (i := 605) (by decide +kernel)) (by decide +kernel)
theorem kin_X0_tickleAt : Cond.instanceMethod yX0_tickleAt ∈ sn_gw := sn_gwI (List.mem_of_getElem? (i := 606) (by decide +kernel)) (by decide +kernel)
theorem ks_X0_tickleAt : Cond.selects RX0 yX0_tickleAt yX0_tickleAt ∈ sn_gw := sn_gwI (List.mem_of_getElem? (i := 607) (by decide +kernel)) (by decide +kernel)
theorem kl_RX8_150 : sn_LV RX8 150 yX0_tickleAt cX0_tickleAt 3 (some .int) 2 := ⟨sn_lv5 km_RX8_150 kin_X0_tickleAt ks_X0_tickleAt ki_RX0 kc_X0_tickleAt, by decide +kernel⟩
theorem kf_RX8_153 : Cond.fieldLink RX8 153 (TX0 0).1 (TX0 0).2.1 (TX0 0).2.2.1 ∈ sn_gw := sn_gwI (List.mem_of_getElem? (i := 137) (by decide +kernel)) (by decide +kernel)
theorem fd_RX8_153 : sn_Fd RX8 153 0 0 := ⟨RX0, TX0, 14, rfl, ug_X0, by decide, kf_RX8_153⟩
theorem km_RX8_156 : Cond.methodLink RX8 156 Lib.Math.max.name ∈ sn_gw := sn_gwI (List.mem_of_getElem? (i := 613) (by decide +kernel)) (by decide +kernel)
theorem km_RX8_161 : Cond.methodLink RX8 161 yX0_cameAt ∈ sn_gw := sn_gwI (List.mem_of_getElem? (i := 620) (by decide +kernel)) (by decide +kernel)
theorem kl_RX8_161 : sn_LV RX8 161 yX0_cameAt cX0_cameAt 3 (some .int) 2 := ⟨sn_lv5 km_RX8_161 kin_X0_cameAt ks_X0_cameAt ki_RX0 kc_X0_cameAt, by decide +kernel⟩
theorem kf_RX8_164 : Cond.fieldLink RX8 164 (TX0 1).1 (TX0 1).2.1 (TX0 1).2.2.1 ∈ sn_gw := sn_gwI (List.mem_of_getElem? (i := 140) (by decide +kernel)) (by decide +kernel)
theorem fd_RX8_164 : sn_Fd RX8 164 0 1 := ⟨RX0, TX0, 14, rfl, ug_X0, by decide, kf_RX8_164⟩
theorem km_RX8_172 : Cond.methodLink RX8 172 yX8_hasBit ∈ sn_gw := sn_gwI (List.mem_of_getElem? (i := 641) (by decide +kernel)) (by decide +kernel)
theorem kl_RX8_172 : sn_LS RX8 172 yX8_hasBit cX8_hasBit 2 (some .boolean) 2 := ⟨sn_ls4 km_RX8_172 kst_X8_hasBit ki_RX8 kc_X8_hasBit, by decide +kernel⟩
theorem km_RX8_176 : Cond.methodLink RX8 176 yX8_firstMinutes ∈ sn_gw := sn_gwI (List.mem_of_getElem? (i := 646) (by decide +kernel)) (by decide +kernel)
theorem kl_RX8_176 : sn_LS RX8 176 yX8_firstMinutes cX8_firstMinutes 1 (some .int) 1 := ⟨sn_ls4 km_RX8_176 kst_X8_firstMinutes ki_RX8 kc_X8_firstMinutes, by decide +kernel⟩
theorem km_RX8_182 : Cond.methodLink RX8 182 yX2_window ∈ sn_gw := sn_gwI (List.mem_of_getElem? (i := 655) (by decide +kernel)) (by decide +kernel)
theorem kl_RX8_182 : sn_LV RX8 182 yX2_window cX2_window 2 (some .int) 1 := ⟨sn_lv5 km_RX8_182 kin_X2_window ks_X2_window ki_RX2 kc_X2_window, by decide +kernel⟩
theorem kc_X8_minutesCovered : Cond.code yX8_minutesCovered cX8_minutesCovered 4 (some .int) ∈ sn_gw := sn_gwI (List.mem_of_getElem? (i := 654) (by decide +kernel)) (by decide +kernel)
theorem km_RX8_179 : Cond.methodLink RX8 179 yX8_minutesCovered ∈ sn_gw := sn_gwI (List.mem_of_getElem? (i := 651) (by decide +kernel)) (by decide +kernel)
theorem kin_X8_minutesCovered : Cond.instanceMethod yX8_minutesCovered ∈ sn_gw := sn_gwI (List.mem_of_getElem? (i := 653) (by decide +kernel)) (by decide +kernel)
theorem ks_X8_minutesCovered : Cond.selects RX8 yX8_minutesCovered yX8_minutesCovered ∈ sn_gw := sn_gwS (q := (yX8_minutesCovered, 12)) (List.mem_of_getElem? (i := 21) (by decide +kernel)) (by decide +kernel)
theorem kl_RX8_179 : sn_LV RX8 179 yX8_minutesCovered cX8_minutesCovered 4 (some .int) 1 := ⟨sn_lv5 km_RX8_179 kin_X8_minutesCovered ks_X8_minutesCovered ki_RX8 kc_X8_minutesCovered, by decide +kernel⟩
theorem kf_RX8_48 : Cond.fieldLink RX8 48 (TX8 7).1 (TX8 7).2.1 (TX8 7).2.2.1 ∈ sn_gw := sn_gwI (List.mem_of_getElem? (i := 296) (by decide +kernel)) (by decide +kernel)
theorem fd_RX8_48 : sn_Fd RX8 48 8 7 := ⟨RX8, TX8, 12, rfl, ug_X8, by decide, kf_RX8_48⟩
theorem kf_RX8_188 : Cond.fieldLink RX8 188 (TX0 5).1 (TX0 5).2.1 (TX0 5).2.2.1 ∈ sn_gw := sn_gwI (List.mem_of_getElem? (i := 149) (by decide +kernel)) (by decide +kernel)
theorem fd_RX8_188 : sn_Fd RX8 188 0 5 := ⟨RX0, TX0, 14, rfl, ug_X0, by decide, kf_RX8_188⟩
theorem km_RX8_185 : Cond.methodLink RX8 185 yX0_copyFrom ∈ sn_gw := sn_gwI (List.mem_of_getElem? (i := 673) (by decide +kernel)) (by decide +kernel)
theorem kl_RX8_185 : sn_LV RX8 185 yX0_copyFrom cX0_copyFrom 2 none 1 := ⟨sn_lv5 km_RX8_185 kin_X0_copyFrom ks_X0_copyFrom ki_RX0 kc_X0_copyFrom, by decide +kernel⟩
theorem kf_RX8_194 : Cond.fieldLink RX8 194 (TX0 6).1 (TX0 6).2.1 (TX0 6).2.2.1 ∈ sn_gw := sn_gwI (List.mem_of_getElem? (i := 152) (by decide +kernel)) (by decide +kernel)
theorem fd_RX8_194 : sn_Fd RX8 194 0 6 := ⟨RX0, TX0, 14, rfl, ug_X0, by decide, kf_RX8_194⟩
theorem kk_RX8_197 : Cond.constant RX8 197 (1000000) ∈ sn_gw := sn_gwI (List.mem_of_getElem? (i := 681) (by decide +kernel)) (by decide +kernel)
theorem kf_RX8_198 : Cond.fieldLink RX8 198 (TX0 7).1 (TX0 7).2.1 (TX0 7).2.2.1 ∈ sn_gw := sn_gwI (List.mem_of_getElem? (i := 155) (by decide +kernel)) (by decide +kernel)
theorem fd_RX8_198 : sn_Fd RX8 198 0 7 := ⟨RX0, TX0, 14, rfl, ug_X0, by decide, kf_RX8_198⟩
theorem kf_RX8_207 : Cond.fieldLink RX8 207 (TX0 3).1 (TX0 3).2.1 (TX0 3).2.2.1 ∈ sn_gw := sn_gwI (List.mem_of_getElem? (i := 143) (by decide +kernel)) (by decide +kernel)
theorem fp_RX8_207 : sn_Fp RX8 207 0 3 .int := ⟨RX0, TX0, 14, tyX0, rfl, ug_X0, by decide, kf_RX8_207, tyX0_ok, nmX0, rfl, by decide +kernel⟩
theorem kc_X8_isNet : Cond.code yX8_isNet cX8_isNet 2 (some .boolean) ∈ sn_gw := sn_gwI (List.mem_of_getElem? (i := 701) (by decide +kernel)) (by decide +kernel)
theorem km_RX8_201 : Cond.methodLink RX8 201 yX8_isNet ∈ sn_gw := sn_gwI (List.mem_of_getElem? (i := 698) (by decide +kernel)) (by decide +kernel)
theorem kin_X8_isNet : Cond.instanceMethod yX8_isNet ∈ sn_gw := sn_gwI (List.mem_of_getElem? (i := 700) (by decide +kernel)) (by decide +kernel)
theorem ks_X8_isNet : Cond.selects RX8 yX8_isNet yX8_isNet ∈ sn_gw := sn_gwS (q := (yX8_isNet, 12)) (List.mem_of_getElem? (i := 22) (by decide +kernel)) (by decide +kernel)
theorem kl_RX8_201 : sn_LV RX8 201 yX8_isNet cX8_isNet 2 (some .boolean) 1 := ⟨sn_lv5 km_RX8_201 kin_X8_isNet ks_X8_isNet ki_RX8 kc_X8_isNet, by decide +kernel⟩
theorem kc_X8_totalWithout : Cond.code yX8_totalWithout cX8_totalWithout 2 (some .int) ∈ sn_gw := sn_gwI (List.mem_of_getElem? (i := 705) (by decide +kernel)) (by decide +kernel)
theorem km_RX8_204 : Cond.methodLink RX8 204 yX8_totalWithout ∈ sn_gw := sn_gwI (List.mem_of_getElem? (i := 702) (by decide +kernel)) (by decide +kernel)
theorem kin_X8_totalWithout : Cond.instanceMethod yX8_totalWithout ∈ sn_gw := sn_gwI (List.mem_of_getElem? (i := 704) (by decide +kernel)) (by decide +kernel)
theorem ks_X8_totalWithout : Cond.selects RX8 yX8_totalWithout yX8_totalWithout ∈ sn_gw := sn_gwS (q := (yX8_totalWithout, 12)) (List.mem_of_getElem? (i := 23) (by decide +kernel)) (by decide +kernel)
theorem kl_RX8_204 : sn_LV RX8 204 yX8_totalWithout cX8_totalWithout 2 (some .int) 1 := ⟨sn_lv5 km_RX8_204 kin_X8_totalWithout ks_X8_totalWithout ki_RX8 kc_X8_totalWithout, by decide +kernel⟩
theorem kf_RX8_54 : Cond.fieldLink RX8 54 (TX8 8).1 (TX8 8).2.1 (TX8 8).2.2.1 ∈ sn_gw := sn_gwI (List.mem_of_getElem? (i := 297) (by decide +kernel)) (by decide +kernel)
theorem fd_RX8_54 : sn_Fd RX8 54 8 8 := ⟨RX8, TX8, 12, rfl, ug_X8, by decide, kf_RX8_54⟩
theorem km_RX8_236 : Cond.methodLink RX8 236 yX3_reckon ∈ sn_gw := sn_gwI (List.mem_of_getElem? (i := 718) (by decide +kernel)) (by decide +kernel)
theorem kl_RX8_236 : sn_LV RX8 236 yX3_reckon cX3_reckon 7 none 3 := ⟨sn_lv5 km_RX8_236 kin_X3_reckon ks_X3_reckon ki_RX3 kc_X3_reckon, by decide +kernel⟩
theorem kf_RX8_214 : Cond.fieldLink RX8 214 (TX3 0).1 (TX3 0).2.1 (TX3 0).2.2.1 ∈ sn_gw := sn_gwI (List.mem_of_getElem? (i := 205) (by decide +kernel)) (by decide +kernel)
theorem fd_RX8_214 : sn_Fd RX8 214 3 0 := ⟨RX3, TX3, 4, rfl, ug_X3, by decide, kf_RX8_214⟩
theorem kc_X8_ledgerNow : Cond.code yX8_ledgerNow cX8_ledgerNow 1 (some (.object "PepperPolicy$Ledger")) ∈ sn_gw := sn_gwI (List.mem_of_getElem? (i := 717) (by decide +kernel)) (by decide +kernel)
theorem km_RX8_210 : Cond.methodLink RX8 210 yX8_ledgerNow ∈ sn_gw := sn_gwI (List.mem_of_getElem? (i := 714) (by decide +kernel)) (by decide +kernel)
theorem kin_X8_ledgerNow : Cond.instanceMethod yX8_ledgerNow ∈ sn_gw := sn_gwI (List.mem_of_getElem? (i := 716) (by decide +kernel)) (by decide +kernel)
theorem ks_X8_ledgerNow : Cond.selects RX8 yX8_ledgerNow yX8_ledgerNow ∈ sn_gw := sn_gwS (q := (yX8_ledgerNow, 12)) (List.mem_of_getElem? (i := 24) (by decide +kernel)) (by decide +kernel)
theorem kl_RX8_210 : sn_LV RX8 210 yX8_ledgerNow cX8_ledgerNow 1 (some (.object "PepperPolicy$Ledger")) 0 := ⟨sn_lv5 km_RX8_210 kin_X8_ledgerNow ks_X8_ledgerNow ki_RX8 kc_X8_ledgerNow, by decide +kernel⟩
theorem kf_RX8_217 : Cond.fieldLink RX8 217 (TX3 1).1 (TX3 1).2.1 (TX3 1).2.2.1 ∈ sn_gw := sn_gwI (List.mem_of_getElem? (i := 207) (by decide +kernel)) (by decide +kernel)
theorem fd_RX8_217 : sn_Fd RX8 217 3 1 := ⟨RX3, TX3, 4, rfl, ug_X3, by decide, kf_RX8_217⟩
theorem kf_RX8_220 : Cond.fieldLink RX8 220 (TX3 2).1 (TX3 2).2.1 (TX3 2).2.2.1 ∈ sn_gw := sn_gwI (List.mem_of_getElem? (i := 209) (by decide +kernel)) (by decide +kernel)
theorem fd_RX8_220 : sn_Fd RX8 220 3 2 := ⟨RX3, TX3, 4, rfl, ug_X3, by decide, kf_RX8_220⟩
theorem kk_RX8_223 : Cond.constant RX8 223 (-100000) ∈ sn_gw := sn_gwI (List.mem_of_getElem? (i := 750) (by decide +kernel)) (by decide +kernel)
theorem km_RX8_224 : Cond.methodLink RX8 224 yX3_moneyAt ∈ sn_gw := sn_gwI (List.mem_of_getElem? (i := 755) (by decide +kernel)) (by decide +kernel)
theorem kl_RX8_224 : sn_LV RX8 224 yX3_moneyAt cX3_moneyAt 4 (some .int) 1 := ⟨sn_lv5 km_RX8_224 kin_X3_moneyAt ks_X3_moneyAt ki_RX3 kc_X3_moneyAt, by decide +kernel⟩
theorem kc_X3_poorestMinute : Cond.code yX3_poorestMinute cX3_poorestMinute 4 (some .int) ∈ sn_gw := sn_gwI (List.mem_of_getElem? (i := 766) (by decide +kernel)) (by decide +kernel)
theorem km_RX8_227 : Cond.methodLink RX8 227 yX3_poorestMinute ∈ sn_gw := sn_gwI (List.mem_of_getElem? (i := 763) (by decide +kernel)) (by decide +kernel)
theorem kin_X3_poorestMinute : Cond.instanceMethod yX3_poorestMinute ∈ sn_gw := sn_gwI (List.mem_of_getElem? (i := 764) (by decide +kernel)) (by decide +kernel)
theorem ks_X3_poorestMinute : Cond.selects RX3 yX3_poorestMinute yX3_poorestMinute ∈ sn_gw := sn_gwI (List.mem_of_getElem? (i := 765) (by decide +kernel)) (by decide +kernel)
theorem kl_RX8_227 : sn_LV RX8 227 yX3_poorestMinute cX3_poorestMinute 4 (some .int) 1 := ⟨sn_lv5 km_RX8_227 kin_X3_poorestMinute ks_X3_poorestMinute ki_RX3 kc_X3_poorestMinute, by decide +kernel⟩
theorem km_RX8_230 : Cond.methodLink RX8 230 yX3_firstBelow ∈ sn_gw := sn_gwI (List.mem_of_getElem? (i := 772) (by decide +kernel)) (by decide +kernel)
theorem kl_RX8_230 : sn_LV RX8 230 yX3_firstBelow cX3_firstBelow 3 (some .int) 1 := ⟨sn_lv5 km_RX8_230 kin_X3_firstBelow ks_X3_firstBelow ki_RX3 kc_X3_firstBelow, by decide +kernel⟩
theorem kc_X8_moneyInTheEnd : Cond.code yX8_moneyInTheEnd cX8_moneyInTheEnd 2 (some .int) ∈ sn_gw := sn_gwI (List.mem_of_getElem? (i := 791) (by decide +kernel)) (by decide +kernel)
theorem km_RX8_233 : Cond.methodLink RX8 233 yX8_moneyInTheEnd ∈ sn_gw := sn_gwI (List.mem_of_getElem? (i := 788) (by decide +kernel)) (by decide +kernel)
theorem kin_X8_moneyInTheEnd : Cond.instanceMethod yX8_moneyInTheEnd ∈ sn_gw := sn_gwI (List.mem_of_getElem? (i := 790) (by decide +kernel)) (by decide +kernel)
theorem ks_X8_moneyInTheEnd : Cond.selects RX8 yX8_moneyInTheEnd yX8_moneyInTheEnd ∈ sn_gw := sn_gwS (q := (yX8_moneyInTheEnd, 12)) (List.mem_of_getElem? (i := 25) (by decide +kernel)) (by decide +kernel)
theorem kl_RX8_233 : sn_LV RX8 233 yX8_moneyInTheEnd cX8_moneyInTheEnd 2 (some .int) 1 := ⟨sn_lv5 km_RX8_233 kin_X8_moneyInTheEnd ks_X8_moneyInTheEnd ki_RX8 kc_X8_moneyInTheEnd, by decide +kernel⟩
theorem km_RX8_252 : Cond.methodLink RX8 252 yX3_claimBy ∈ sn_gw := sn_gwI (List.mem_of_getElem? (i := 812) (by decide +kernel)) (by decide +kernel)
theorem kl_RX8_252 : sn_LS RX8 252 yX3_claimBy cX3_claimBy 8 (some .int) 5 := ⟨sn_ls4 km_RX8_252 kst_X3_claimBy ki_RX3 kc_X3_claimBy, by decide +kernel⟩
theorem kc_X8_claimAsIfOf : Cond.code yX8_claimAsIfOf cX8_claimAsIfOf 3 (some .int) ∈ sn_gw := sn_gwI (List.mem_of_getElem? (i := 811) (by decide +kernel)) (by decide +kernel)
theorem km_RX8_249 : Cond.methodLink RX8 249 yX8_claimAsIfOf ∈ sn_gw := sn_gwI (List.mem_of_getElem? (i := 808) (by decide +kernel)) (by decide +kernel)
theorem kin_X8_claimAsIfOf : Cond.instanceMethod yX8_claimAsIfOf ∈ sn_gw := sn_gwI (List.mem_of_getElem? (i := 810) (by decide +kernel)) (by decide +kernel)
theorem ks_X8_claimAsIfOf : Cond.selects RX8 yX8_claimAsIfOf yX8_claimAsIfOf ∈ sn_gw := sn_gwS (q := (yX8_claimAsIfOf, 12)) (List.mem_of_getElem? (i := 28) (by decide +kernel)) (by decide +kernel)
theorem kl_RX8_249 : sn_LV RX8 249 yX8_claimAsIfOf cX8_claimAsIfOf 3 (some .int) 2 := ⟨sn_lv5 km_RX8_249 kin_X8_claimAsIfOf ks_X8_claimAsIfOf ki_RX8 kc_X8_claimAsIfOf, by decide +kernel⟩
theorem kc_X8_gainBy : Cond.code yX8_gainBy cX8_gainBy 3 (some .int) ∈ sn_gw := sn_gwI (List.mem_of_getElem? (i := 807) (by decide +kernel)) (by decide +kernel)
theorem km_RX8_243 : Cond.methodLink RX8 243 yX8_gainBy ∈ sn_gw := sn_gwI (List.mem_of_getElem? (i := 804) (by decide +kernel)) (by decide +kernel)
theorem kin_X8_gainBy : Cond.instanceMethod yX8_gainBy ∈ sn_gw := sn_gwI (List.mem_of_getElem? (i := 806) (by decide +kernel)) (by decide +kernel)
theorem ks_X8_gainBy : Cond.selects RX8 yX8_gainBy yX8_gainBy ∈ sn_gw := sn_gwS (q := (yX8_gainBy, 12)) (List.mem_of_getElem? (i := 27) (by decide +kernel)) (by decide +kernel)
theorem kl_RX8_243 : sn_LV RX8 243 yX8_gainBy cX8_gainBy 3 (some .int) 2 := ⟨sn_lv5 km_RX8_243 kin_X8_gainBy ks_X8_gainBy ki_RX8 kc_X8_gainBy, by decide +kernel⟩
theorem kc_X8_bestOfMenu : Cond.code yX8_bestOfMenu cX8_bestOfMenu 6 (some .int) ∈ sn_gw := sn_gwI (List.mem_of_getElem? (i := 803) (by decide +kernel)) (by decide +kernel)
theorem km_RX8_240 : Cond.methodLink RX8 240 yX8_bestOfMenu ∈ sn_gw := sn_gwI (List.mem_of_getElem? (i := 800) (by decide +kernel)) (by decide +kernel)
theorem kin_X8_bestOfMenu : Cond.instanceMethod yX8_bestOfMenu ∈ sn_gw := sn_gwI (List.mem_of_getElem? (i := 802) (by decide +kernel)) (by decide +kernel)
theorem ks_X8_bestOfMenu : Cond.selects RX8 yX8_bestOfMenu yX8_bestOfMenu ∈ sn_gw := sn_gwS (q := (yX8_bestOfMenu, 12)) (List.mem_of_getElem? (i := 26) (by decide +kernel)) (by decide +kernel)
theorem kl_RX8_240 : sn_LV RX8 240 yX8_bestOfMenu cX8_bestOfMenu 6 (some .int) 1 := ⟨sn_lv5 km_RX8_240 kin_X8_bestOfMenu ks_X8_bestOfMenu ki_RX8 kc_X8_bestOfMenu, by decide +kernel⟩
theorem kc_X8_priceFor : Cond.code yX8_priceFor cX8_priceFor 6 (some .int) ∈ sn_gw := sn_gwI (List.mem_of_getElem? (i := 824) (by decide +kernel)) (by decide +kernel)
theorem km_RX8_246 : Cond.methodLink RX8 246 yX8_priceFor ∈ sn_gw := sn_gwI (List.mem_of_getElem? (i := 821) (by decide +kernel)) (by decide +kernel)
theorem kin_X8_priceFor : Cond.instanceMethod yX8_priceFor ∈ sn_gw := sn_gwI (List.mem_of_getElem? (i := 823) (by decide +kernel)) (by decide +kernel)
theorem ks_X8_priceFor : Cond.selects RX8 yX8_priceFor yX8_priceFor ∈ sn_gw := sn_gwS (q := (yX8_priceFor, 12)) (List.mem_of_getElem? (i := 29) (by decide +kernel)) (by decide +kernel)
theorem kl_RX8_246 : sn_LV RX8 246 yX8_priceFor cX8_priceFor 6 (some .int) 2 := ⟨sn_lv5 km_RX8_246 kin_X8_priceFor ks_X8_priceFor ki_RX8 kc_X8_priceFor, by decide +kernel⟩
theorem kf_RX8_61 : Cond.fieldLink RX8 61 (TX8 9).1 (TX8 9).2.1 (TX8 9).2.2.1 ∈ sn_gw := sn_gwI (List.mem_of_getElem? (i := 298) (by decide +kernel)) (by decide +kernel)
theorem fd_RX8_61 : sn_Fd RX8 61 8 9 := ⟨RX8, TX8, 12, rfl, ug_X8, by decide, kf_RX8_61⟩
theorem kc_X1_reckon : Cond.code yX1_reckon cX1_reckon 7 none ∈ sn_gw := sn_gwI (List.mem_of_getElem? (i := 832) (by decide +kernel)) (by decide +kernel)
theorem km_RX8_256 : Cond.methodLink RX8 256 yX1_reckon ∈ sn_gw := sn_gwI (List.mem_of_getElem? (i := 829) (by decide +kernel)) (by decide +kernel)
theorem kin_X1_reckon : Cond.instanceMethod yX1_reckon ∈ sn_gw := sn_gwI (List.mem_of_getElem? (i := 830) (by decide +kernel)) (by decide +kernel)
theorem ks_X1_reckon : Cond.selects RX1 yX1_reckon yX1_reckon ∈ sn_gw := sn_gwI (List.mem_of_getElem? (i := 831) (by decide +kernel)) (by decide +kernel)
theorem kl_RX8_256 : sn_LV RX8 256 yX1_reckon cX1_reckon 7 none 3 := ⟨sn_lv5 km_RX8_256 kin_X1_reckon ks_X1_reckon ki_RX1 kc_X1_reckon, by decide +kernel⟩
theorem kc_X1_fewest : Cond.code yX1_fewest cX1_fewest 1 (some .int) ∈ sn_gw := sn_gwI (List.mem_of_getElem? (i := 851) (by decide +kernel)) (by decide +kernel)
theorem km_RX8_257 : Cond.methodLink RX8 257 yX1_fewest ∈ sn_gw := sn_gwI (List.mem_of_getElem? (i := 848) (by decide +kernel)) (by decide +kernel)
theorem kin_X1_fewest : Cond.instanceMethod yX1_fewest ∈ sn_gw := sn_gwI (List.mem_of_getElem? (i := 849) (by decide +kernel)) (by decide +kernel)
theorem ks_X1_fewest : Cond.selects RX1 yX1_fewest yX1_fewest ∈ sn_gw := sn_gwI (List.mem_of_getElem? (i := 850) (by decide +kernel)) (by decide +kernel)
theorem kl_RX8_257 : sn_LV RX8 257 yX1_fewest cX1_fewest 1 (some .int) 0 := ⟨sn_lv5 km_RX8_257 kin_X1_fewest ks_X1_fewest ki_RX1 kc_X1_fewest, by decide +kernel⟩
theorem kc_X1_minutesHeld : Cond.code yX1_minutesHeld cX1_minutesHeld 1 (some .int) ∈ sn_gw := sn_gwI (List.mem_of_getElem? (i := 859) (by decide +kernel)) (by decide +kernel)
theorem km_RX8_260 : Cond.methodLink RX8 260 yX1_minutesHeld ∈ sn_gw := sn_gwI (List.mem_of_getElem? (i := 856) (by decide +kernel)) (by decide +kernel)
theorem kin_X1_minutesHeld : Cond.instanceMethod yX1_minutesHeld ∈ sn_gw := sn_gwI (List.mem_of_getElem? (i := 857) (by decide +kernel)) (by decide +kernel)
theorem ks_X1_minutesHeld : Cond.selects RX1 yX1_minutesHeld yX1_minutesHeld ∈ sn_gw := sn_gwI (List.mem_of_getElem? (i := 858) (by decide +kernel)) (by decide +kernel)
theorem kl_RX8_260 : sn_LV RX8 260 yX1_minutesHeld cX1_minutesHeld 1 (some .int) 0 := ⟨sn_lv5 km_RX8_260 kin_X1_minutesHeld ks_X1_minutesHeld ki_RX1 kc_X1_minutesHeld, by decide +kernel⟩
theorem kf_RX8_266 : Cond.fieldLink RX8 266 (TX0 8).1 (TX0 8).2.1 (TX0 8).2.2.1 ∈ sn_gw := sn_gwI (List.mem_of_getElem? (i := 157) (by decide +kernel)) (by decide +kernel)
theorem fd_RX8_266 : sn_Fd RX8 266 0 8 := ⟨RX0, TX0, 14, rfl, ug_X0, by decide, kf_RX8_266⟩
theorem km_RX8_269 : Cond.methodLink RX8 269 yX0_live ∈ sn_gw := sn_gwI (List.mem_of_getElem? (i := 868) (by decide +kernel)) (by decide +kernel)
theorem kl_RX8_269 : sn_LV RX8 269 yX0_live cX0_live 4 none 2 := ⟨sn_lv5 km_RX8_269 kin_X0_live ks_X0_live ki_RX0 kc_X0_live, by decide +kernel⟩
theorem kc_X8_minutesOfFraud : Cond.code yX8_minutesOfFraud cX8_minutesOfFraud 6 (some .int) ∈ sn_gw := sn_gwI (List.mem_of_getElem? (i := 867) (by decide +kernel)) (by decide +kernel)
theorem km_RX8_263 : Cond.methodLink RX8 263 yX8_minutesOfFraud ∈ sn_gw := sn_gwI (List.mem_of_getElem? (i := 864) (by decide +kernel)) (by decide +kernel)
theorem kin_X8_minutesOfFraud : Cond.instanceMethod yX8_minutesOfFraud ∈ sn_gw := sn_gwI (List.mem_of_getElem? (i := 866) (by decide +kernel)) (by decide +kernel)
theorem ks_X8_minutesOfFraud : Cond.selects RX8 yX8_minutesOfFraud yX8_minutesOfFraud ∈ sn_gw := sn_gwS (q := (yX8_minutesOfFraud, 12)) (List.mem_of_getElem? (i := 31) (by decide +kernel)) (by decide +kernel)
theorem kl_RX8_263 : sn_LV RX8 263 yX8_minutesOfFraud cX8_minutesOfFraud 6 (some .int) 1 := ⟨sn_lv5 km_RX8_263 kin_X8_minutesOfFraud ks_X8_minutesOfFraud ki_RX8 kc_X8_minutesOfFraud, by decide +kernel⟩
theorem kf_RX8_37 : Cond.fieldLink RX8 37 (TX8 5).1 (TX8 5).2.1 (TX8 5).2.2.1 ∈ sn_gw := sn_gwI (List.mem_of_getElem? (i := 294) (by decide +kernel)) (by decide +kernel)
theorem fd_RX8_37 : sn_Fd RX8 37 8 5 := ⟨RX8, TX8, 12, rfl, ug_X8, by decide, kf_RX8_37⟩
theorem kf_RX8_295 : Cond.fieldLink RX8 295 (TX6 2).1 (TX6 2).2.1 (TX6 2).2.2.1 ∈ sn_gw := sn_gwI (List.mem_of_getElem? (i := 119) (by decide +kernel)) (by decide +kernel)
theorem fd_RX8_295 : sn_Fd RX8 295 6 2 := ⟨RX6, TX6, 3, rfl, ug_X6, by decide, kf_RX8_295⟩
theorem kf_RX8_68 : Cond.fieldLink RX8 68 (TX8 10).1 (TX8 10).2.1 (TX8 10).2.2.1 ∈ sn_gw := sn_gwI (List.mem_of_getElem? (i := 299) (by decide +kernel)) (by decide +kernel)
theorem fd_RX8_68 : sn_Fd RX8 68 8 10 := ⟨RX8, TX8, 12, rfl, ug_X8, by decide, kf_RX8_68⟩
theorem kf_RX8_301 : Cond.fieldLink RX8 301 (TX6 0).1 (TX6 0).2.1 (TX6 0).2.2.1 ∈ sn_gw := sn_gwI (List.mem_of_getElem? (i := 115) (by decide +kernel)) (by decide +kernel)
theorem fd_RX8_301 : sn_Fd RX8 301 6 0 := ⟨RX6, TX6, 3, rfl, ug_X6, by decide, kf_RX8_301⟩
theorem kf_RX8_305 : Cond.fieldLink RX8 305 (TX7 0).1 (TX7 0).2.1 (TX7 0).2.2.1 ∈ sn_gw := sn_gwI (List.mem_of_getElem? (i := 240) (by decide +kernel)) (by decide +kernel)
theorem fd_RX8_305 : sn_Fd RX8 305 7 0 := ⟨RX7, TX7, 5, rfl, ug_X7, by decide, kf_RX8_305⟩
theorem kc_X7_seekIn : Cond.code yX7_seekIn cX7_seekIn 5 none ∈ sn_gw := sn_gwI (List.mem_of_getElem? (i := 896) (by decide +kernel)) (by decide +kernel)
theorem km_RX8_308 : Cond.methodLink RX8 308 yX7_seekIn ∈ sn_gw := sn_gwI (List.mem_of_getElem? (i := 893) (by decide +kernel)) (by decide +kernel)
theorem kin_X7_seekIn : Cond.instanceMethod yX7_seekIn ∈ sn_gw := sn_gwI (List.mem_of_getElem? (i := 894) (by decide +kernel)) (by decide +kernel)
theorem ks_X7_seekIn : Cond.selects RX7 yX7_seekIn yX7_seekIn ∈ sn_gw := sn_gwI (List.mem_of_getElem? (i := 895) (by decide +kernel)) (by decide +kernel)
theorem kl_RX8_308 : sn_LV RX8 308 yX7_seekIn cX7_seekIn 5 none 2 := ⟨sn_lv5 km_RX8_308 kin_X7_seekIn ks_X7_seekIn ki_RX7 kc_X7_seekIn, by decide +kernel⟩
theorem kc_X6_isSlot : Cond.code yX6_isSlot cX6_isSlot 1 (some .boolean) ∈ sn_gw := sn_gwI (List.mem_of_getElem? (i := 883) (by decide +kernel)) (by decide +kernel)
theorem km_RX8_289 : Cond.methodLink RX8 289 yX6_isSlot ∈ sn_gw := sn_gwI (List.mem_of_getElem? (i := 881) (by decide +kernel)) (by decide +kernel)
theorem kst_X6_isSlot : Cond.static yX6_isSlot ∈ sn_gw := sn_gwI (List.mem_of_getElem? (i := 882) (by decide +kernel)) (by decide +kernel)
theorem kl_RX8_289 : sn_LS RX8 289 yX6_isSlot cX6_isSlot 1 (some .boolean) 1 := ⟨sn_ls4 km_RX8_289 kst_X6_isSlot ki_RX6 kc_X6_isSlot, by decide +kernel⟩
theorem km_RX8_292 : Cond.methodLink RX8 292 yX6_has ∈ sn_gw := sn_gwI (List.mem_of_getElem? (i := 884) (by decide +kernel)) (by decide +kernel)
theorem kl_RX8_292 : sn_LV RX8 292 yX6_has cX6_has 2 (some .boolean) 1 := ⟨sn_lv5 km_RX8_292 kin_X6_has ks_X6_has ki_RX6 kc_X6_has, by decide +kernel⟩
theorem kc_X7_forget : Cond.code yX7_forget cX7_forget 1 none ∈ sn_gw := sn_gwI (List.mem_of_getElem? (i := 891) (by decide +kernel)) (by decide +kernel)
theorem km_RX8_298 : Cond.methodLink RX8 298 yX7_forget ∈ sn_gw := sn_gwI (List.mem_of_getElem? (i := 888) (by decide +kernel)) (by decide +kernel)
theorem kin_X7_forget : Cond.instanceMethod yX7_forget ∈ sn_gw := sn_gwI (List.mem_of_getElem? (i := 889) (by decide +kernel)) (by decide +kernel)
theorem ks_X7_forget : Cond.selects RX7 yX7_forget yX7_forget ∈ sn_gw := sn_gwI (List.mem_of_getElem? (i := 890) (by decide +kernel)) (by decide +kernel)
theorem kl_RX8_298 : sn_LV RX8 298 yX7_forget cX7_forget 1 none 0 := ⟨sn_lv5 km_RX8_298 kin_X7_forget ks_X7_forget ki_RX7 kc_X7_forget, by decide +kernel⟩
theorem kf_RX8_276 : Cond.fieldLink RX8 276 (TX7 1).1 (TX7 1).2.1 (TX7 1).2.2.1 ∈ sn_gw := sn_gwI (List.mem_of_getElem? (i := 242) (by decide +kernel)) (by decide +kernel)
theorem fd_RX8_276 : sn_Fd RX8 276 7 1 := ⟨RX7, TX7, 5, rfl, ug_X7, by decide, kf_RX8_276⟩
theorem kc_X8_seek : Cond.code yX8_seek cX8_seek 7 (some .int) ∈ sn_gw := sn_gwI (List.mem_of_getElem? (i := 880) (by decide +kernel)) (by decide +kernel)
theorem km_RX8_273 : Cond.methodLink RX8 273 yX8_seek ∈ sn_gw := sn_gwI (List.mem_of_getElem? (i := 877) (by decide +kernel)) (by decide +kernel)
theorem kin_X8_seek : Cond.instanceMethod yX8_seek ∈ sn_gw := sn_gwI (List.mem_of_getElem? (i := 879) (by decide +kernel)) (by decide +kernel)
theorem ks_X8_seek : Cond.selects RX8 yX8_seek yX8_seek ∈ sn_gw := sn_gwS (q := (yX8_seek, 12)) (List.mem_of_getElem? (i := 32) (by decide +kernel)) (by decide +kernel)
theorem kl_RX8_273 : sn_LV RX8 273 yX8_seek cX8_seek 7 (some .int) 1 := ⟨sn_lv5 km_RX8_273 kin_X8_seek ks_X8_seek ki_RX8 kc_X8_seek, by decide +kernel⟩
theorem kf_RX8_279 : Cond.fieldLink RX8 279 (TX7 2).1 (TX7 2).2.1 (TX7 2).2.2.1 ∈ sn_gw := sn_gwI (List.mem_of_getElem? (i := 244) (by decide +kernel)) (by decide +kernel)
theorem fd_RX8_279 : sn_Fd RX8 279 7 2 := ⟨RX7, TX7, 5, rfl, ug_X7, by decide, kf_RX8_279⟩
theorem kf_RX8_280 : Cond.fieldLink RX8 280 (TX7 3).1 (TX7 3).2.1 (TX7 3).2.2.1 ∈ sn_gw := sn_gwI (List.mem_of_getElem? (i := 246) (by decide +kernel)) (by decide +kernel)
theorem fd_RX8_280 : sn_Fd RX8 280 7 3 := ⟨RX7, TX7, 5, rfl, ug_X7, by decide, kf_RX8_280⟩
theorem kc_X7_whomToAsk : Cond.code yX7_whomToAsk cX7_whomToAsk 6 (some .int) ∈ sn_gw := sn_gwI (List.mem_of_getElem? (i := 924) (by decide +kernel)) (by decide +kernel)
theorem km_RX8_283 : Cond.methodLink RX8 283 yX7_whomToAsk ∈ sn_gw := sn_gwI (List.mem_of_getElem? (i := 921) (by decide +kernel)) (by decide +kernel)
theorem kin_X7_whomToAsk : Cond.instanceMethod yX7_whomToAsk ∈ sn_gw := sn_gwI (List.mem_of_getElem? (i := 922) (by decide +kernel)) (by decide +kernel)
theorem ks_X7_whomToAsk : Cond.selects RX7 yX7_whomToAsk yX7_whomToAsk ∈ sn_gw := sn_gwI (List.mem_of_getElem? (i := 923) (by decide +kernel)) (by decide +kernel)
theorem kl_RX8_283 : sn_LV RX8 283 yX7_whomToAsk cX7_whomToAsk 6 (some .int) 1 := ⟨sn_lv5 km_RX8_283 kin_X7_whomToAsk ks_X7_whomToAsk ki_RX7 kc_X7_whomToAsk, by decide +kernel⟩
theorem km_RX8_286 : Cond.methodLink RX8 286 yX7_atWorst ∈ sn_gw := sn_gwI (List.mem_of_getElem? (i := 934) (by decide +kernel)) (by decide +kernel)
theorem kl_RX8_286 : sn_LV RX8 286 yX7_atWorst cX7_atWorst 4 (some .int) 1 := ⟨sn_lv5 km_RX8_286 kin_X7_atWorst ks_X7_atWorst ki_RX7 kc_X7_atWorst, by decide +kernel⟩
theorem kc_X8_lossOf : Cond.code yX8_lossOf cX8_lossOf 6 (some .int) ∈ sn_gw := sn_gwI (List.mem_of_getElem? (i := 942) (by decide +kernel)) (by decide +kernel)
theorem km_RX8_312 : Cond.methodLink RX8 312 yX8_lossOf ∈ sn_gw := sn_gwI (List.mem_of_getElem? (i := 939) (by decide +kernel)) (by decide +kernel)
theorem kin_X8_lossOf : Cond.instanceMethod yX8_lossOf ∈ sn_gw := sn_gwI (List.mem_of_getElem? (i := 941) (by decide +kernel)) (by decide +kernel)
theorem ks_X8_lossOf : Cond.selects RX8 yX8_lossOf yX8_lossOf ∈ sn_gw := sn_gwS (q := (yX8_lossOf, 12)) (List.mem_of_getElem? (i := 35) (by decide +kernel)) (by decide +kernel)
theorem kl_RX8_312 : sn_LV RX8 312 yX8_lossOf cX8_lossOf 6 (some .int) 4 := ⟨sn_lv5 km_RX8_312 kin_X8_lossOf ks_X8_lossOf ki_RX8 kc_X8_lossOf, by decide +kernel⟩
theorem kk_RX8_319 : Cond.constantLong RX8 319 (-2) ∈ sn_gw := sn_gwI (List.mem_of_getElem? (i := 955) (by decide +kernel)) (by decide +kernel)
theorem kf_RX8_77 : Cond.fieldLink RX8 77 (TX8 11).1 (TX8 11).2.1 (TX8 11).2.2.1 ∈ sn_gw := sn_gwI (List.mem_of_getElem? (i := 300) (by decide +kernel)) (by decide +kernel)
theorem fd_RX8_77 : sn_Fd RX8 77 8 11 := ⟨RX8, TX8, 12, rfl, ug_X8, by decide, kf_RX8_77⟩
theorem kf_RX8_328 : Cond.fieldLink RX8 328 (TX4 1).1 (TX4 1).2.1 (TX4 1).2.2.1 ∈ sn_gw := sn_gwI (List.mem_of_getElem? (i := 268) (by decide +kernel)) (by decide +kernel)
theorem fd_RX8_328 : sn_Fd RX8 328 4 1 := ⟨RX4, TX4, 7, rfl, ug_X4, by decide, kf_RX8_328⟩
theorem kf_RX8_324 : Cond.fieldLink RX8 324 (TX4 0).1 (TX4 0).2.1 (TX4 0).2.2.1 ∈ sn_gw := sn_gwI (List.mem_of_getElem? (i := 266) (by decide +kernel)) (by decide +kernel)
theorem fd_RX8_324 : sn_Fd RX8 324 4 0 := ⟨RX4, TX4, 7, rfl, ug_X4, by decide, kf_RX8_324⟩
theorem kc_X8_isPuffMinute : Cond.code yX8_isPuffMinute cX8_isPuffMinute 2 (some .boolean) ∈ sn_gw := sn_gwI (List.mem_of_getElem? (i := 954) (by decide +kernel)) (by decide +kernel)
theorem km_RX8_316 : Cond.methodLink RX8 316 yX8_isPuffMinute ∈ sn_gw := sn_gwI (List.mem_of_getElem? (i := 951) (by decide +kernel)) (by decide +kernel)
theorem kin_X8_isPuffMinute : Cond.instanceMethod yX8_isPuffMinute ∈ sn_gw := sn_gwI (List.mem_of_getElem? (i := 953) (by decide +kernel)) (by decide +kernel)
theorem ks_X8_isPuffMinute : Cond.selects RX8 yX8_isPuffMinute yX8_isPuffMinute ∈ sn_gw := sn_gwS (q := (yX8_isPuffMinute, 12)) (List.mem_of_getElem? (i := 36) (by decide +kernel)) (by decide +kernel)
theorem kl_RX8_316 : sn_LV RX8 316 yX8_isPuffMinute cX8_isPuffMinute 2 (some .boolean) 1 := ⟨sn_lv5 km_RX8_316 kin_X8_isPuffMinute ks_X8_isPuffMinute ki_RX8 kc_X8_isPuffMinute, by decide +kernel⟩
theorem kc_X4_reckon : Cond.code yX4_reckon cX4_reckon 8 none ∈ sn_gw := sn_gwI (List.mem_of_getElem? (i := 959) (by decide +kernel)) (by decide +kernel)
theorem km_RX8_321 : Cond.methodLink RX8 321 yX4_reckon ∈ sn_gw := sn_gwI (List.mem_of_getElem? (i := 956) (by decide +kernel)) (by decide +kernel)
theorem kin_X4_reckon : Cond.instanceMethod yX4_reckon ∈ sn_gw := sn_gwI (List.mem_of_getElem? (i := 957) (by decide +kernel)) (by decide +kernel)
theorem ks_X4_reckon : Cond.selects RX4 yX4_reckon yX4_reckon ∈ sn_gw := sn_gwI (List.mem_of_getElem? (i := 958) (by decide +kernel)) (by decide +kernel)
theorem kl_RX8_321 : sn_LV RX8 321 yX4_reckon cX4_reckon 8 none 3 := ⟨sn_lv5 km_RX8_321 kin_X4_reckon ks_X4_reckon ki_RX4 kc_X4_reckon, by decide +kernel⟩
theorem kk_RX8_377 : Cond.constant RX8 377 (2000000000) ∈ sn_gw := sn_gwI (List.mem_of_getElem? (i := 995) (by decide +kernel)) (by decide +kernel)
theorem kk_RX8_337 : Cond.constantLong RX8 337 (1103515245) ∈ sn_gw := sn_gwI (List.mem_of_getElem? (i := 1000) (by decide +kernel)) (by decide +kernel)
theorem kk_RX8_339 : Cond.constantLong RX8 339 (12345) ∈ sn_gw := sn_gwI (List.mem_of_getElem? (i := 1001) (by decide +kernel)) (by decide +kernel)
theorem kk_RX8_341 : Cond.constantLong RX8 341 (2147483648) ∈ sn_gw := sn_gwI (List.mem_of_getElem? (i := 1002) (by decide +kernel)) (by decide +kernel)
theorem kk_RX8_343 : Cond.constantLong RX8 343 (65536) ∈ sn_gw := sn_gwI (List.mem_of_getElem? (i := 1003) (by decide +kernel)) (by decide +kernel)
theorem kk_RX8_345 : Cond.constantLong RX8 345 (10) ∈ sn_gw := sn_gwI (List.mem_of_getElem? (i := 1004) (by decide +kernel)) (by decide +kernel)
theorem kc_X8_isSeed : Cond.code yX8_isSeed cX8_isSeed 1 (some .boolean) ∈ sn_gw := sn_gwI (List.mem_of_getElem? (i := 994) (by decide +kernel)) (by decide +kernel)
theorem km_RX8_331 : Cond.methodLink RX8 331 yX8_isSeed ∈ sn_gw := sn_gwI (List.mem_of_getElem? (i := 992) (by decide +kernel)) (by decide +kernel)
theorem kst_X8_isSeed : Cond.static yX8_isSeed ∈ sn_gw := sn_gwI (List.mem_of_getElem? (i := 993) (by decide +kernel)) (by decide +kernel)
theorem kl_RX8_331 : sn_LS RX8 331 yX8_isSeed cX8_isSeed 1 (some .boolean) 1 := ⟨sn_ls4 km_RX8_331 kst_X8_isSeed ki_RX8 kc_X8_isSeed, by decide +kernel⟩
theorem kc_X8_liveDrawn : Cond.code yX8_liveDrawn cX8_liveDrawn 6 (some .int) ∈ sn_gw := sn_gwI (List.mem_of_getElem? (i := 999) (by decide +kernel)) (by decide +kernel)
theorem km_RX8_334 : Cond.methodLink RX8 334 yX8_liveDrawn ∈ sn_gw := sn_gwI (List.mem_of_getElem? (i := 996) (by decide +kernel)) (by decide +kernel)
theorem kin_X8_liveDrawn : Cond.instanceMethod yX8_liveDrawn ∈ sn_gw := sn_gwI (List.mem_of_getElem? (i := 998) (by decide +kernel)) (by decide +kernel)
theorem ks_X8_liveDrawn : Cond.selects RX8 yX8_liveDrawn yX8_liveDrawn ∈ sn_gw := sn_gwS (q := (yX8_liveDrawn, 12)) (List.mem_of_getElem? (i := 40) (by decide +kernel)) (by decide +kernel)
theorem kl_RX8_334 : sn_LV RX8 334 yX8_liveDrawn cX8_liveDrawn 6 (some .int) 1 := ⟨sn_lv5 km_RX8_334 kin_X8_liveDrawn ks_X8_liveDrawn ki_RX8 kc_X8_liveDrawn, by decide +kernel⟩
theorem kc_X2_act : Cond.code yX2_act cX2_act 5 (some .boolean) ∈ sn_gw := sn_gwI (List.mem_of_getElem? (i := 1016) (by decide +kernel)) (by decide +kernel)
theorem km_RX8_347 : Cond.methodLink RX8 347 yX2_act ∈ sn_gw := sn_gwI (List.mem_of_getElem? (i := 1013) (by decide +kernel)) (by decide +kernel)
theorem kin_X2_act : Cond.instanceMethod yX2_act ∈ sn_gw := sn_gwI (List.mem_of_getElem? (i := 1014) (by decide +kernel)) (by decide +kernel)
theorem ks_X2_act : Cond.selects RX2 yX2_act yX2_act ∈ sn_gw := sn_gwI (List.mem_of_getElem? (i := 1015) (by decide +kernel)) (by decide +kernel)
theorem kl_RX8_347 : sn_LV RX8 347 yX2_act cX2_act 5 (some .boolean) 3 := ⟨sn_lv5 km_RX8_347 kin_X2_act ks_X2_act ki_RX2 kc_X2_act, by decide +kernel⟩
theorem kc_X8_liveAnew : Cond.code yX8_liveAnew cX8_liveAnew 1 none ∈ sn_gw := sn_gwI (List.mem_of_getElem? (i := 485) (by decide +kernel)) (by decide +kernel)
theorem km_RX8_99 : Cond.methodLink RX8 99 yX8_liveAnew ∈ sn_gw := sn_gwI (List.mem_of_getElem? (i := 482) (by decide +kernel)) (by decide +kernel)
theorem kin_X8_liveAnew : Cond.instanceMethod yX8_liveAnew ∈ sn_gw := sn_gwI (List.mem_of_getElem? (i := 484) (by decide +kernel)) (by decide +kernel)
theorem ks_X8_liveAnew : Cond.selects RX8 yX8_liveAnew yX8_liveAnew ∈ sn_gw := sn_gwS (q := (yX8_liveAnew, 12)) (List.mem_of_getElem? (i := 14) (by decide +kernel)) (by decide +kernel)
theorem kl_RX8_99 : sn_LV RX8 99 yX8_liveAnew cX8_liveAnew 1 none 0 := ⟨sn_lv5 km_RX8_99 kin_X8_liveAnew ks_X8_liveAnew ki_RX8 kc_X8_liveAnew, by decide +kernel⟩
theorem kf_RX8_351 : Cond.fieldLink RX8 351 (TX2 4).1 (TX2 4).2.1 (TX2 4).2.2.1 ∈ sn_gw := sn_gwI (List.mem_of_getElem? (i := 51) (by decide +kernel)) (by decide +kernel)
theorem fd_RX8_351 : sn_Fd RX8 351 2 4 := ⟨RX2, TX2, 6, rfl, ug_X2, by decide, kf_RX8_351⟩
theorem kc_X6_howMany : Cond.code yX6_howMany cX6_howMany 3 (some .int) ∈ sn_gw := sn_gwI (List.mem_of_getElem? (i := 1040) (by decide +kernel)) (by decide +kernel)
theorem km_RX8_353 : Cond.methodLink RX8 353 yX6_howMany ∈ sn_gw := sn_gwI (List.mem_of_getElem? (i := 1037) (by decide +kernel)) (by decide +kernel)
theorem kin_X6_howMany : Cond.instanceMethod yX6_howMany ∈ sn_gw := sn_gwI (List.mem_of_getElem? (i := 1038) (by decide +kernel)) (by decide +kernel)
theorem ks_X6_howMany : Cond.selects RX6 yX6_howMany yX6_howMany ∈ sn_gw := sn_gwI (List.mem_of_getElem? (i := 1039) (by decide +kernel)) (by decide +kernel)
theorem kl_RX8_353 : sn_LV RX8 353 yX6_howMany cX6_howMany 3 (some .int) 0 := ⟨sn_lv5 km_RX8_353 kin_X6_howMany ks_X6_howMany ki_RX6 kc_X6_howMany, by decide +kernel⟩
theorem kf_RX8_19 : Cond.fieldLink RX8 19 (TX8 2).1 (TX8 2).2.1 (TX8 2).2.2.1 ∈ sn_gw := sn_gwI (List.mem_of_getElem? (i := 291) (by decide +kernel)) (by decide +kernel)
theorem fd_RX8_19 : sn_Fd RX8 19 8 2 := ⟨RX8, TX8, 12, rfl, ug_X8, by decide, kf_RX8_19⟩
theorem kf_RX8_23 : Cond.fieldLink RX8 23 (TX8 3).1 (TX8 3).2.1 (TX8 3).2.2.1 ∈ sn_gw := sn_gwI (List.mem_of_getElem? (i := 292) (by decide +kernel)) (by decide +kernel)
theorem fd_RX8_23 : sn_Fd RX8 23 8 3 := ⟨RX8, TX8, 12, rfl, ug_X8, by decide, kf_RX8_23⟩
theorem kc_X2_copyFrom : Cond.code yX2_copyFrom cX2_copyFrom 2 none ∈ sn_gw := sn_gwI (List.mem_of_getElem? (i := 478) (by decide +kernel)) (by decide +kernel)
theorem km_RX8_96 : Cond.methodLink RX8 96 yX2_copyFrom ∈ sn_gw := sn_gwI (List.mem_of_getElem? (i := 475) (by decide +kernel)) (by decide +kernel)
theorem kin_X2_copyFrom : Cond.instanceMethod yX2_copyFrom ∈ sn_gw := sn_gwI (List.mem_of_getElem? (i := 476) (by decide +kernel)) (by decide +kernel)
theorem ks_X2_copyFrom : Cond.selects RX2 yX2_copyFrom yX2_copyFrom ∈ sn_gw := sn_gwI (List.mem_of_getElem? (i := 477) (by decide +kernel)) (by decide +kernel)
theorem kl_RX8_96 : sn_LV RX8 96 yX2_copyFrom cX2_copyFrom 2 none 1 := ⟨sn_lv5 km_RX8_96 kin_X2_copyFrom ks_X2_copyFrom ki_RX2 kc_X2_copyFrom, by decide +kernel⟩
theorem kc_X6_make : Cond.code yX6_make cX6_make 4 none ∈ sn_gw := sn_gwI (List.mem_of_getElem? (i := 1057) (by decide +kernel)) (by decide +kernel)
theorem km_RX8_356 : Cond.methodLink RX8 356 yX6_make ∈ sn_gw := sn_gwI (List.mem_of_getElem? (i := 1054) (by decide +kernel)) (by decide +kernel)
theorem kin_X6_make : Cond.instanceMethod yX6_make ∈ sn_gw := sn_gwI (List.mem_of_getElem? (i := 1055) (by decide +kernel)) (by decide +kernel)
theorem ks_X6_make : Cond.selects RX6 yX6_make yX6_make ∈ sn_gw := sn_gwI (List.mem_of_getElem? (i := 1056) (by decide +kernel)) (by decide +kernel)
theorem kl_RX8_356 : sn_LV RX8 356 yX6_make cX6_make 4 none 3 := ⟨sn_lv5 km_RX8_356 kin_X6_make ks_X6_make ki_RX6 kc_X6_make, by decide +kernel⟩
theorem kc_X6_put : Cond.code yX6_put cX6_put 5 none ∈ sn_gw := sn_gwI (List.mem_of_getElem? (i := 1066) (by decide +kernel)) (by decide +kernel)
theorem km_RX8_359 : Cond.methodLink RX8 359 yX6_put ∈ sn_gw := sn_gwI (List.mem_of_getElem? (i := 1063) (by decide +kernel)) (by decide +kernel)
theorem kin_X6_put : Cond.instanceMethod yX6_put ∈ sn_gw := sn_gwI (List.mem_of_getElem? (i := 1064) (by decide +kernel)) (by decide +kernel)
theorem ks_X6_put : Cond.selects RX6 yX6_put yX6_put ∈ sn_gw := sn_gwI (List.mem_of_getElem? (i := 1065) (by decide +kernel)) (by decide +kernel)
theorem kl_RX8_359 : sn_LV RX8 359 yX6_put cX6_put 5 none 3 := ⟨sn_lv5 km_RX8_359 kin_X6_put ks_X6_put ki_RX6 kc_X6_put, by decide +kernel⟩
theorem kf_RX8_362 : Cond.fieldLink RX8 362 (TX6 1).1 (TX6 1).2.1 (TX6 1).2.2.1 ∈ sn_gw := sn_gwI (List.mem_of_getElem? (i := 117) (by decide +kernel)) (by decide +kernel)
theorem fd_RX8_362 : sn_Fd RX8 362 6 1 := ⟨RX6, TX6, 3, rfl, ug_X6, by decide, kf_RX8_362⟩
theorem kc_X6_spans : Cond.code yX6_spans cX6_spans 4 (some .boolean) ∈ sn_gw := sn_gwI (List.mem_of_getElem? (i := 1074) (by decide +kernel)) (by decide +kernel)
theorem km_RX8_365 : Cond.methodLink RX8 365 yX6_spans ∈ sn_gw := sn_gwI (List.mem_of_getElem? (i := 1071) (by decide +kernel)) (by decide +kernel)
theorem kin_X6_spans : Cond.instanceMethod yX6_spans ∈ sn_gw := sn_gwI (List.mem_of_getElem? (i := 1072) (by decide +kernel)) (by decide +kernel)
theorem ks_X6_spans : Cond.selects RX6 yX6_spans yX6_spans ∈ sn_gw := sn_gwI (List.mem_of_getElem? (i := 1073) (by decide +kernel)) (by decide +kernel)
theorem kl_RX8_365 : sn_LV RX8 365 yX6_spans cX6_spans 4 (some .boolean) 3 := ⟨sn_lv5 km_RX8_365 kin_X6_spans ks_X6_spans ki_RX6 kc_X6_spans, by decide +kernel⟩
theorem km_RX8_368 : Cond.methodLink RX8 368 arraycopyName ∈ sn_gw := sn_gwI (List.mem_of_getElem? (i := 1075) (by decide +kernel)) (by decide +kernel)
