/-! the rows of the machine over a world of fixed places -/
section RW
variable {p : Program} {l : Launch} {e : Env} {R : Room} {s : State} {m : MethodId} {args : Array Value} {below : List Frame} {meth : Method} {c : Code} {H : Heap} {locs : List Loc} {cells slots : Nat} {Q : State → Prop}
variable {cc : ByteArray} {pc nL : Nat} {ls : Array Slot} {rest : List Value} {own : String} {ret : Option FieldType} {D : va_G} {ct : Nat → ClassId} {ad : Nat → Nat} {lay : List sn_E} {A : Nat → Prop} {σ : sn_S}
theorem sn_getI {index ci k q : Nat} {fs : List Nat} (C : sn_C p s m args meth c own cc nL ret D ct ad lay A) (h : sn_H s D ct ad lay A σ H locs) (F : sn_Fd own index ci k) (hq : lay[q]? = some (.inr (ci, fs))) (hk : fs[k]? = some 0) (hd : decode cc pc = .ok (.getfield index, 3))
    (kk : W p l e R s m args below meth c H locs cells slots Q (F0 m (pc + 3) ls (.int (sn_I σ q k) :: rest))) : W p l e R s m args below meth c H locs cells slots Q (F0 m pc ls (.ref (ad q) :: rest)) := by
  obtain ⟨hx, hb, hml, hown, hts, hr, hlk, hK, hD, hG⟩ := C
  obtain ⟨K, T, N, hc, hin, hkN, hl⟩ := F
  have hg := sn_W_get (ct := ct) (ad := ad) (σ := σ) 0 hq
  rw [Nat.zero_add] at hg
  refine va_get (v := .int (sn_I σ q k)) hx hb hts hin hown hK h.1 q hg hc k hkN (hts _ hl) (fun _ z => z) ?_ hd kk
  have := sn_fs_get (ad := ad) (σ := σ) (q := q) 0 hk
  rw [Nat.zero_add] at this
  exact this
theorem sn_getL {index ci k q : Nat} {fs : List Nat} (C : sn_C p s m args meth c own cc nL ret D ct ad lay A) (h : sn_H s D ct ad lay A σ H locs) (F : sn_Fd own index ci k) (hq : lay[q]? = some (.inr (ci, fs))) (hk : fs[k]? = some 1) (hd : decode cc pc = .ok (.getfield index, 3))
    (kk : W p l e R s m args below meth c H locs cells slots Q (F0 m (pc + 3) ls (.long (sn_L σ q k) :: rest))) : W p l e R s m args below meth c H locs cells slots Q (F0 m pc ls (.ref (ad q) :: rest)) := by
  obtain ⟨hx, hb, hml, hown, hts, hr, hlk, hK, hD, hG⟩ := C
  obtain ⟨K, T, N, hc, hin, hkN, hl⟩ := F
  have hg := sn_W_get (ct := ct) (ad := ad) (σ := σ) 0 hq
  rw [Nat.zero_add] at hg
  refine va_get (v := .long (sn_L σ q k)) hx hb hts hin hown hK h.1 q hg hc k hkN (hts _ hl) (fun _ z => z) ?_ hd kk
  have := sn_fs_get (ad := ad) (σ := σ) (q := q) 0 hk
  rw [Nat.zero_add] at this
  exact this
theorem sn_getC {index ci k q r : Nat} {fs : List Nat} (C : sn_C p s m args meth c own cc nL ret D ct ad lay A) (h : sn_H s D ct ad lay A σ H locs) (F : sn_Fd own index ci k) (hq : lay[q]? = some (.inr (ci, fs))) (hk : fs[k]? = some (r + 3)) (hd : decode cc pc = .ok (.getfield index, 3))
    (kk : W p l e R s m args below meth c H locs cells slots Q (F0 m (pc + 3) ls (.ref (ad r) :: rest))) : W p l e R s m args below meth c H locs cells slots Q (F0 m pc ls (.ref (ad q) :: rest)) := by
  obtain ⟨hx, hb, hml, hown, hts, hr, hlk, hK, hD, hG⟩ := C
  obtain ⟨K, T, N, hc, hin, hkN, hl⟩ := F
  have hg := sn_W_get (ct := ct) (ad := ad) (σ := σ) 0 hq
  rw [Nat.zero_add] at hg
  refine va_get (v := .ref (ad r)) hx hb hts hin hown hK h.1 q hg hc k hkN (hts _ hl) (fun _ z => z) ?_ hd kk
  have := sn_fs_get (ad := ad) (σ := σ) (q := q) 0 hk
  rw [Nat.zero_add] at this
  exact this
/-- a field that holds a reference which changes: where it holds the place r now -/
theorem sn_getR {index ci k q r : Nat} {fs : List Nat} (C : sn_C p s m args meth c own cc nL ret D ct ad lay A) (h : sn_H s D ct ad lay A σ H locs) (F : sn_Fd own index ci k) (hq : lay[q]? = some (.inr (ci, fs))) (hk : fs[k]? = some 2) (hr0 : sn_R σ q k = some r) (hd : decode cc pc = .ok (.getfield index, 3))
    (kk : W p l e R s m args below meth c H locs cells slots Q (F0 m (pc + 3) ls (.ref (ad r) :: rest))) : W p l e R s m args below meth c H locs cells slots Q (F0 m pc ls (.ref (ad q) :: rest)) := by
  obtain ⟨hx, hb, hml, hown, hts, hr, hlk, hK, hD, hG⟩ := C
  obtain ⟨K, T, N, hc, hin, hkN, hl⟩ := F
  have hg := sn_W_get (ct := ct) (ad := ad) (σ := σ) 0 hq
  rw [Nat.zero_add] at hg
  refine va_get (v := .ref (ad r)) hx hb hts hin hown hK h.1 q hg hc k hkN (hts _ hl) (fun _ z => z) ?_ hd kk
  have := sn_fs_get (ad := ad) (σ := σ) (q := q) 0 hk
  rw [Nat.zero_add] at this
  rw [this]
  show some (va_rf ((sn_R σ q k).map ad)) = _
  rw [hr0]
  rfl
theorem sn_put {τ : sn_S} {index ci k q x : Nat} {fs : List Nat} {ty : FieldType} {v : Value} (C : sn_C p s m args meth c own cc nL ret D ct ad lay A) (h : sn_H s D ct ad lay A σ H locs) (F : sn_Fp own index ci k ty) (hq : lay[q]? = some (.inr (ci, fs))) (hk : fs[k]? = some x)
    (hv : sn_fv ad τ q k x = v) (ho : ∀ a, a ≠ q → sn_ag σ τ a) (hs : sn_ags σ τ q k) (hn : narrow ty v = v) (hfit : fits ty v = true) (hd : decode cc pc = .ok (.putfield index, 3))
    (kk : ∀ (H : Heap) (locs : List Loc), sn_H s D ct ad lay A τ H locs → W p l e R s m args below meth c H locs cells slots Q (F0 m (pc + 3) ls rest)) : W p l e R s m args below meth c H locs cells slots Q (F0 m pc ls (v :: .ref (ad q) :: rest)) := by
  obtain ⟨hx, hb, hml, hown, hts, hr, hlk, hK, hD, hG⟩ := C
  obtain ⟨K, T, N, ty0, hc, hin, hkN, hl, hty, hnm, hfin, hpd⟩ := F
  have hg := sn_W_get (ct := ct) (ad := ad) (σ := σ) 0 hq
  rw [Nat.zero_add] at hg
  have hkl : k < (sn_fs ad σ q 0 fs).length := by rw [sn_fs_len]; exact (List.getElem?_eq_some_iff.mp hk).1
  refine va_put (v := v) (ty := ty) hx hb hts hin ty0 hty hnm hown hK h.1 (hD σ) h.2 q hg hc k hkN (hts _ hl) (fun _ z => z) hfin hpd hn hfit hkl hd (fun H1 locs1 hP1 hD1 hS1 => ?_)
  refine kk H1 locs1 ⟨?_, hS1⟩
  have e1 := sn_fs_set (ad := ad) (σ := σ) (τ := τ) (q := q) 0 hk (by rw [Nat.zero_add]; exact hs)
  rw [Nat.zero_add, hv] at e1
  rw [e1] at hP1
  have e2 := sn_W_set (ct := ct) (ad := ad) (σ := σ) (τ := τ) 0 hq (by rw [Nat.zero_add]; exact ho)
  rw [Nat.zero_add] at e2
  rw [← e2]
  exact hP1
theorem sn_putI {index ci k q : Nat} {fs : List Nat} {v : Int32} (C : sn_C p s m args meth c own cc nL ret D ct ad lay A) (h : sn_H s D ct ad lay A σ H locs) (F : sn_Fp own index ci k .int) (hq : lay[q]? = some (.inr (ci, fs))) (hk : fs[k]? = some 0) (hd : decode cc pc = .ok (.putfield index, 3))
    (kk : ∀ (H : Heap) (locs : List Loc), sn_H s D ct ad lay A (sn_pI σ q k v) H locs → W p l e R s m args below meth c H locs cells slots Q (F0 m (pc + 3) ls rest)) : W p l e R s m args below meth c H locs cells slots Q (F0 m pc ls (.int v :: .ref (ad q) :: rest)) := by
  refine sn_put (τ := sn_pI σ q k v) C h F hq hk ?_ ?_ ?_ rfl rfl hd kk
  · show Value.int (if q = q ∧ k = k then v else σ.1 q k) = _
    rw [if_pos ⟨rfl, rfl⟩]
  · intro a ha
    refine ⟨funext fun b => ?_, rfl, rfl⟩
    show σ.1 a b = if a = q ∧ b = k then v else σ.1 a b
    rw [if_neg (fun z => ha z.1)]
  · intro b hb
    refine ⟨?_, rfl, rfl⟩
    show σ.1 q b = if q = q ∧ b = k then v else σ.1 q b
    rw [if_neg (fun z => hb z.2)]
theorem sn_putL {index ci k q : Nat} {fs : List Nat} {v : Int64} (C : sn_C p s m args meth c own cc nL ret D ct ad lay A) (h : sn_H s D ct ad lay A σ H locs) (F : sn_Fp own index ci k .long) (hq : lay[q]? = some (.inr (ci, fs))) (hk : fs[k]? = some 1) (hd : decode cc pc = .ok (.putfield index, 3))
    (kk : ∀ (H : Heap) (locs : List Loc), sn_H s D ct ad lay A (sn_pL σ q k v) H locs → W p l e R s m args below meth c H locs cells slots Q (F0 m (pc + 3) ls rest)) : W p l e R s m args below meth c H locs cells slots Q (F0 m pc ls (.long v :: .ref (ad q) :: rest)) := by
  refine sn_put (τ := sn_pL σ q k v) C h F hq hk ?_ ?_ ?_ rfl rfl hd kk
  · show Value.long (if q = q ∧ k = k then v else σ.2.1 q k) = _
    rw [if_pos ⟨rfl, rfl⟩]
  · intro a ha
    refine ⟨rfl, funext fun b => ?_, rfl⟩
    show σ.2.1 a b = if a = q ∧ b = k then v else σ.2.1 a b
    rw [if_neg (fun z => ha z.1)]
  · intro b hb
    refine ⟨rfl, ?_, rfl⟩
    show σ.2.1 q b = if q = q ∧ b = k then v else σ.2.1 q b
    rw [if_neg (fun z => hb z.2)]
theorem sn_putR {index ci k q r : Nat} {fs : List Nat} {K : String} (C : sn_C p s m args meth c own cc nL ret D ct ad lay A) (h : sn_H s D ct ad lay A σ H locs) (F : sn_Fp own index ci k (.object K)) (hq : lay[q]? = some (.inr (ci, fs))) (hk : fs[k]? = some 2) (hd : decode cc pc = .ok (.putfield index, 3))
    (kk : ∀ (H : Heap) (locs : List Loc), sn_H s D ct ad lay A (sn_pR σ q k (some r)) H locs → W p l e R s m args below meth c H locs cells slots Q (F0 m (pc + 3) ls rest)) : W p l e R s m args below meth c H locs cells slots Q (F0 m pc ls (.ref (ad r) :: .ref (ad q) :: rest)) := by
  refine sn_put (τ := sn_pR σ q k (some r)) C h F hq hk ?_ ?_ ?_ rfl rfl hd kk
  · show va_rf ((if q = q ∧ k = k then some r else σ.2.2 q k).map ad) = _
    rw [if_pos ⟨rfl, rfl⟩]
    rfl
  · intro a ha
    refine ⟨rfl, rfl, funext fun b => ?_⟩
    show σ.2.2 a b = if a = q ∧ b = k then some r else σ.2.2 a b
    rw [if_neg (fun z => ha z.1)]
  · intro b hb
    refine ⟨rfl, rfl, ?_⟩
    show σ.2.2 q b = if q = q ∧ b = k then some r else σ.2.2 q b
    rw [if_neg (fun z => hb z.2)]
/-! arrays -/
theorem sn_tys_at {ct : Nat → ClassId} : (sn_tys ct)[0]? = some (ct 0, .int) ∧ (sn_tys ct)[1]? = some (ct 1, .boolean) ∧ (sn_tys ct)[2]? = some (ct 2, .byte) ∧ (sn_tys ct)[3]? = some (ct 3, .long) := ⟨rfl, rfl, rfl, rfl⟩
theorem sn_iald {q n : Nat} {rs : List Nat} {i : Int32} (C : sn_C p s m args meth c own cc nL ret D ct ad lay A) (h : sn_H s D ct ad lay A σ H locs) (hq : lay[q]? = some (.inl (0, n, 0, rs))) (hin : sn_in i n = true) (hd : decode cc pc = .ok (.iaload, 1))
    (kk : W p l e R s m args below meth c H locs cells slots Q (F0 m (pc + 1) ls (.int (sn_I σ q i.toNatClampNeg) :: rest))) : W p l e R s m args below meth c H locs cells slots Q (F0 m pc ls (.int i :: .ref (ad q) :: rest)) := by
  obtain ⟨hx, hb, hml, hown, hts, hr, hlk, hK, hD, hG⟩ := C
  have hg := sn_W_get (ct := ct) (ad := ad) (σ := σ) 0 hq
  rw [Nat.zero_add] at hg
  exact va_iald (f := sn_I σ q) hx hb hK h.1 q 0 hg rfl (sn_in_spec hin) hd kk
theorem sn_zald {q n : Nat} {rs : List Nat} {i : Int32} (C : sn_C p s m args meth c own cc nL ret D ct ad lay A) (h : sn_H s D ct ad lay A σ H locs) (hq : lay[q]? = some (.inl (1, n, 0, rs))) (hin : sn_in i n = true) (hd : decode cc pc = .ok (.baload, 1))
    (kk : W p l e R s m args below meth c H locs cells slots Q (F0 m (pc + 1) ls (.int (sn_I σ q i.toNatClampNeg) :: rest))) : W p l e R s m args below meth c H locs cells slots Q (F0 m pc ls (.int i :: .ref (ad q) :: rest)) := by
  obtain ⟨hx, hb, hml, hown, hts, hr, hlk, hK, hD, hG⟩ := C
  have hg := sn_W_get (ct := ct) (ad := ad) (σ := σ) 0 hq
  rw [Nat.zero_add] at hg
  exact va_zald (f := sn_I σ q) hx hb hK h.1 q 1 hg rfl (sn_in_spec hin) hd kk
theorem sn_bald {q n : Nat} {rs : List Nat} {i : Int32} (C : sn_C p s m args meth c own cc nL ret D ct ad lay A) (h : sn_H s D ct ad lay A σ H locs) (hq : lay[q]? = some (.inl (2, n, 0, rs))) (hin : sn_in i n = true) (hd : decode cc pc = .ok (.baload, 1))
    (kk : W p l e R s m args below meth c H locs cells slots Q (F0 m (pc + 1) ls (.int (sn_I σ q i.toNatClampNeg) :: rest))) : W p l e R s m args below meth c H locs cells slots Q (F0 m pc ls (.int i :: .ref (ad q) :: rest)) := by
  obtain ⟨hx, hb, hml, hown, hts, hr, hlk, hK, hD, hG⟩ := C
  have hg := sn_W_get (ct := ct) (ad := ad) (σ := σ) 0 hq
  rw [Nat.zero_add] at hg
  exact va_bald (f := sn_I σ q) hx hb hK h.1 q 2 hg rfl (sn_in_spec hin) hd kk
theorem sn_lald {q n : Nat} {rs : List Nat} {i : Int32} (C : sn_C p s m args meth c own cc nL ret D ct ad lay A) (h : sn_H s D ct ad lay A σ H locs) (hq : lay[q]? = some (.inl (3, n, 1, rs))) (hin : sn_in i n = true) (hd : decode cc pc = .ok (.laload, 1))
    (kk : W p l e R s m args below meth c H locs cells slots Q (F0 m (pc + 1) ls (.long (sn_L σ q i.toNatClampNeg) :: rest))) : W p l e R s m args below meth c H locs cells slots Q (F0 m pc ls (.int i :: .ref (ad q) :: rest)) := by
  obtain ⟨hx, hb, hml, hown, hts, hr, hlk, hK, hD, hG⟩ := C
  have hg := sn_W_get (ct := ct) (ad := ad) (σ := σ) 0 hq
  rw [Nat.zero_add] at hg
  exact va_lald (f := sn_L σ q) hx hb hK h.1 q 3 hg rfl (sn_in_spec hin) hd kk
/-- the place that an array of references names at an index -/
def sn_at (rs : List Nat) (i : Int32) : Nat := rs.getD i.toNatClampNeg 0
theorem sn_at_some {rs : List Nat} {i : Int32} (h : sn_in i rs.length = true) : rs[i.toNatClampNeg]? = some (sn_at rs i) := by
  unfold sn_in at h
  simp only [Bool.and_eq_true, decide_eq_true_eq] at h
  unfold sn_at
  rw [List.getD_eq_getElem?_getD, List.getElem?_eq_getElem h.2]
  rfl
theorem sn_aldO {q n : Nat} {rs : List Nat} {i : Int32} (C : sn_C p s m args meth c own cc nL ret D ct ad lay A) (h : sn_H s D ct ad lay A σ H locs) (hq : lay[q]? = some (.inl (4, n, 2, rs))) (hn : rs.length = n) (hin : sn_in i n = true) (hd : decode cc pc = .ok (.aaload, 1))
    (kk : W p l e R s m args below meth c H locs cells slots Q (F0 m (pc + 1) ls (.ref (ad (sn_at rs i)) :: rest))) : W p l e R s m args below meth c H locs cells slots Q (F0 m pc ls (.int i :: .ref (ad q) :: rest)) := by
  obtain ⟨hx, hb, hml, hown, hts, hr, hlk, hK, hD, hG⟩ := C
  have hg := sn_W_get (ct := ct) (ad := ad) (σ := σ) 0 hq
  rw [Nat.zero_add] at hg
  refine va_aldq (f := fun j => (rs[j]?).map ad) hx hb hK h.1 q 4 hg rfl (sn_in_spec hin) hd ?_
  rw [sn_at_some (by rw [hn]; exact hin)]
  exact kk
theorem sn_aldA {q n : Nat} {rs : List Nat} {i : Int32} (C : sn_C p s m args meth c own cc nL ret D ct ad lay A) (h : sn_H s D ct ad lay A σ H locs) (hq : lay[q]? = some (.inl (5, n, 2, rs))) (hn : rs.length = n) (hin : sn_in i n = true) (hd : decode cc pc = .ok (.aaload, 1))
    (kk : W p l e R s m args below meth c H locs cells slots Q (F0 m (pc + 1) ls (.ref (ad (sn_at rs i)) :: rest))) : W p l e R s m args below meth c H locs cells slots Q (F0 m pc ls (.int i :: .ref (ad q) :: rest)) := by
  obtain ⟨hx, hb, hml, hown, hts, hr, hlk, hK, hD, hG⟩ := C
  have hg := sn_W_get (ct := ct) (ad := ad) (σ := σ) 0 hq
  rw [Nat.zero_add] at hg
  have hin2 := sn_in_spec hin
  have hlt : i.toNatClampNeg < n := Nat.not_le.mp fun z => hin2 (Or.inr z)
  have hv : va_rf ((rs[i.toNatClampNeg]?).map ad) = .ref (ad (sn_at rs i)) := by rw [sn_at_some (by rw [hn]; exact hin)]; rfl
  refine W.aald (v := .ref (ad (sn_at rs i))) (ty := .array .long) hx hb (h.1 q _ hg) ((hK.2 5 _ rfl).1 n (fun j => va_rf ((rs[j]?).map ad))) rfl (fun z => by cases z) (by show ¬ (i < 0 ∨ (arrV _ _ _).slots.size ≤ _); rw [arrV_size]; exact hin2) (by rw [← hv]; show (arrV (ct 5) n (fun j => va_rf ((rs[j]?).map ad))).slots[i.toNatClampNeg]? = _; rw [arrV_read _ _ hlt]) rfl rfl hd kk
/-- a store into an array of ints, whatever its type keeps -/
theorem sn_astI {q n t : Nat} {rs : List Nat} {i y : Int32} (hq : lay[q]? = some (.inl (t, n, 0, rs))) (hD : ∀ σ, va_D A (sn_W ct ad σ 0 lay)) {H1 : Heap} {locs1 : List Loc}
    (hP1 : va_P D vwCl ((sn_W ct ad σ 0 lay).set q (ad q, .inl (ct t, n, .inl (upd (sn_I σ q) i.toNatClampNeg y)))) H1) (hS1 : va_S A s.heap H1 locs1) : sn_H s D ct ad lay A (sn_pI σ q i.toNatClampNeg y) H1 locs1 := by
  refine ⟨?_, hS1⟩
  have e2 := sn_W_set (ct := ct) (ad := ad) (σ := σ) (τ := sn_pI σ q i.toNatClampNeg y) 0 hq (fun a ha => by
    rw [Nat.zero_add] at ha
    refine ⟨funext fun b => ?_, rfl, rfl⟩
    show σ.1 a b = if a = q ∧ b = i.toNatClampNeg then y else σ.1 a b
    rw [if_neg (fun z => ha z.1)])
  rw [Nat.zero_add] at e2
  have e3 : sn_I (sn_pI σ q i.toNatClampNeg y) q = upd (sn_I σ q) i.toNatClampNeg y := by
    funext b
    show (if q = q ∧ b = i.toNatClampNeg then y else σ.1 q b) = if b = i.toNatClampNeg then y else σ.1 q b
    by_cases hb : b = i.toNatClampNeg
    · rw [if_pos ⟨rfl, hb⟩, if_pos hb]
    · rw [if_neg (fun z => hb z.2), if_neg hb]
  rw [← e2]
  show va_P D vwCl ((sn_W ct ad σ 0 lay).set q (ad q, .inl (ct t, n, .inl (sn_I (sn_pI σ q i.toNatClampNeg y) q)))) H1
  rw [e3]
  exact hP1
theorem sn_iast {q n : Nat} {rs : List Nat} {i x : Int32} (C : sn_C p s m args meth c own cc nL ret D ct ad lay A) (h : sn_H s D ct ad lay A σ H locs) (hq : lay[q]? = some (.inl (0, n, 0, rs))) (hin : sn_in i n = true) (hd : decode cc pc = .ok (.iastore, 1))
    (kk : ∀ (H : Heap) (locs : List Loc), sn_H s D ct ad lay A (sn_pI σ q i.toNatClampNeg x) H locs → W p l e R s m args below meth c H locs cells slots Q (F0 m (pc + 1) ls rest)) : W p l e R s m args below meth c H locs cells slots Q (F0 m pc ls (.int x :: .int i :: .ref (ad q) :: rest)) := by
  obtain ⟨hx, hb, hml, hown, hts, hr, hlk, hK, hD, hG⟩ := C
  have hg := sn_W_get (ct := ct) (ad := ad) (σ := σ) 0 hq
  rw [Nat.zero_add] at hg
  exact va_iast (f := sn_I σ q) hx hb hK h.1 (hD σ) h.2 q 0 hg rfl (sn_in_spec hin) hd (fun H1 locs1 hP1 _ hS1 => kk H1 locs1 (sn_astI hq hD hP1 hS1))
theorem sn_bast {q n : Nat} {rs : List Nat} {i x : Int32} (C : sn_C p s m args meth c own cc nL ret D ct ad lay A) (h : sn_H s D ct ad lay A σ H locs) (hq : lay[q]? = some (.inl (2, n, 0, rs))) (hin : sn_in i n = true) (hd : decode cc pc = .ok (.bastore, 1))
    (kk : ∀ (H : Heap) (locs : List Loc), sn_H s D ct ad lay A (sn_pI σ q i.toNatClampNeg (vp_nar .byte x)) H locs → W p l e R s m args below meth c H locs cells slots Q (F0 m (pc + 1) ls rest)) : W p l e R s m args below meth c H locs cells slots Q (F0 m pc ls (.int x :: .int i :: .ref (ad q) :: rest)) := by
  obtain ⟨hx, hb, hml, hown, hts, hr, hlk, hK, hD, hG⟩ := C
  have hg := sn_W_get (ct := ct) (ad := ad) (σ := σ) 0 hq
  rw [Nat.zero_add] at hg
  exact va_bast (f := sn_I σ q) hx hb hK h.1 (hD σ) h.2 q 2 hg rfl (sn_in_spec hin) hd (fun H1 locs1 hP1 _ hS1 => kk H1 locs1 (sn_astI hq hD hP1 hS1))
theorem sn_zast {q n : Nat} {rs : List Nat} {i x : Int32} (C : sn_C p s m args meth c own cc nL ret D ct ad lay A) (h : sn_H s D ct ad lay A σ H locs) (hq : lay[q]? = some (.inl (1, n, 0, rs))) (hin : sn_in i n = true) (hd : decode cc pc = .ok (.bastore, 1))
    (kk : ∀ (H : Heap) (locs : List Loc), sn_H s D ct ad lay A (sn_pI σ q i.toNatClampNeg (vp_nar .boolean x)) H locs → W p l e R s m args below meth c H locs cells slots Q (F0 m (pc + 1) ls rest)) : W p l e R s m args below meth c H locs cells slots Q (F0 m pc ls (.int x :: .int i :: .ref (ad q) :: rest)) := by
  obtain ⟨hx, hb, hml, hown, hts, hr, hlk, hK, hD, hG⟩ := C
  have hg := sn_W_get (ct := ct) (ad := ad) (σ := σ) 0 hq
  rw [Nat.zero_add] at hg
  exact va_zast (f := sn_I σ q) hx hb hK h.1 (hD σ) h.2 q 1 hg rfl (sn_in_spec hin) hd (fun H1 locs1 hP1 _ hS1 => kk H1 locs1 (sn_astI hq hD hP1 hS1))
theorem sn_last {q n : Nat} {rs : List Nat} {i : Int32} {x : Int64} (C : sn_C p s m args meth c own cc nL ret D ct ad lay A) (h : sn_H s D ct ad lay A σ H locs) (hq : lay[q]? = some (.inl (3, n, 1, rs))) (hin : sn_in i n = true) (hd : decode cc pc = .ok (.lastore, 1))
    (kk : ∀ (H : Heap) (locs : List Loc), sn_H s D ct ad lay A (sn_pL σ q i.toNatClampNeg x) H locs → W p l e R s m args below meth c H locs cells slots Q (F0 m (pc + 1) ls rest)) : W p l e R s m args below meth c H locs cells slots Q (F0 m pc ls (.long x :: .int i :: .ref (ad q) :: rest)) := by
  obtain ⟨hx, hb, hml, hown, hts, hr, hlk, hK, hD, hG⟩ := C
  have hg := sn_W_get (ct := ct) (ad := ad) (σ := σ) 0 hq
  rw [Nat.zero_add] at hg
  refine va_last (f := sn_L σ q) hx hb hK h.1 (hD σ) h.2 q 3 hg rfl (sn_in_spec hin) hd (fun H1 locs1 hP1 _ hS1 => kk H1 locs1 ⟨?_, hS1⟩)
  have e2 := sn_W_set (ct := ct) (ad := ad) (σ := σ) (τ := sn_pL σ q i.toNatClampNeg x) 0 hq (fun a ha => by
    rw [Nat.zero_add] at ha
    refine ⟨rfl, funext fun b => ?_, rfl⟩
    show σ.2.1 a b = if a = q ∧ b = i.toNatClampNeg then x else σ.2.1 a b
    rw [if_neg (fun z => ha z.1)])
  rw [Nat.zero_add] at e2
  rw [← e2]
  refine Eq.mp (congrArg (fun z => va_P D vwCl ((sn_W ct ad σ 0 lay).set q (ad q, .inl (ct 3, n, .inr (.inl z)))) H1) ?_) hP1
  funext b
  show _ = (if q = q ∧ b = i.toNatClampNeg then x else σ.2.1 q b)
  by_cases hb : b = i.toNatClampNeg
  · subst hb
    rw [if_pos ⟨rfl, rfl⟩]
    simp [vp_updL]
  · rw [if_neg (fun z => hb z.2)]
    simp [vp_updL, hb, sn_L]
theorem sn_alen {q t n kd : Nat} {rs : List Nat} {v : Int32} {ty : FieldType} (C : sn_C p s m args meth c own cc nL ret D ct ad lay A) (h : sn_H s D ct ad lay A σ H locs) (hq : lay[q]? = some (.inl (t, n, kd, rs))) (ht : (sn_tys ct)[t]? = some (ct t, ty)) (hv : Int32.ofNat n = v) (hd : decode cc pc = .ok (.arraylength, 1))
    (kk : W p l e R s m args below meth c H locs cells slots Q (F0 m (pc + 1) ls (.int v :: rest))) : W p l e R s m args below meth c H locs cells slots Q (F0 m pc ls (.ref (ad q) :: rest)) := by
  obtain ⟨hx, hb, hml, hown, hts, hr, hlk, hK, hD, hG⟩ := C
  have hg := sn_W_get (ct := ct) (ad := ad) (σ := σ) 0 hq
  rw [Nat.zero_add] at hg
  refine va_alen (x := sn_av ad σ q n rs kd) hx hb hK h.1 q t hg ht ?_ hd kk
  rw [← hv]
  match kd with
  | 0 => rfl
  | 1 => rfl
  | 2 => rfl
  | kd + 3 => rfl
/-! calls -/
def sn_Pc (D : va_G) (ct : Nat → ClassId) (ad : Nat → Nat) (lay : List sn_E) (A : Nat → Prop) (σ : sn_S) (As : List Value) : Array Value → State → Prop :=
  va_Pc As (fun U => va_P D vwCl (sn_W ct ad σ 0 lay) U.heap ∧ va_K D vwCl (sn_tys ct) U ∧ (∀ τ, va_D A (sn_W ct ad τ 0 lay)) ∧ sn_bg ad A U U.heap)
def sn_Q (D : va_G) (ct : Nat → ClassId) (ad : Nat → Nat) (lay : List sn_E) (A : Nat → Prop) (v : Option Value) (σ : sn_S) : Array Value → State → Outcome → State → Prop :=
  fun _ st oc t => oc = .returned v ∧ va_P D vwCl (sn_W ct ad σ 0 lay) t.heap ∧ va_F A st t
/-- the contract of a method over the world -/
def sn_M (l : Launch) (y : MethodName) (cc : ByteArray) (nL : Nat) (ret : Option FieldType) (rm : Room) (lay : List sn_E) (As : (Nat → Nat) → List Value) (σ : sn_S) (v : Option ((Nat → Nat) → Value)) (τ : sn_S) : Prop :=
  ∀ (D : va_G) (ct : Nat → ClassId) (ad : Nat → Nat) (A : Nat → Prop), Met l y (Cond.code y cc nL ret :: sn_gw) rm (sn_Pc D ct ad lay A σ (As ad)) (sn_Q D ct ad lay A (v.map fun f => f ad) τ) 0 0 A
theorem sn_blind {D : va_G} {ct : Nat → ClassId} {ad : Nat → Nat} {lay : List sn_E} {A : Nat → Prop} {σ : sn_S} {As : List Value} : FrameBlind (sn_Pc D ct ad lay A σ As) := by
  intro a U g mk h
  obtain ⟨h1, h2, h3, h4, h5⟩ := h
  exact ⟨h1, h2, va_K.moved (u := U) (U := U.calling g mk a) (Vm.Alike.refl U.vm) h3, h4, sn_bg_same (s := U) rfl h5⟩
theorem sn_pre (C : sn_C p s m args meth c own cc nL ret D ct ad lay A) (h : sn_H s D ct ad lay A σ H locs) (As : List Value) : PreS s H (sn_Pc D ct ad lay A σ As) As := by
  refine ⟨sn_blind, fun U hU hW => ⟨rfl, by rw [hU]; exact h.1, va_K.moved hW.alike C.2.2.2.2.2.2.2.1, C.2.2.2.2.2.2.2.2.1, sn_bg_warm hW (by rw [hU]; exact sn_bg_kept C.2.2.2.2.2.2.2.2.2 h.2.2.1)⟩⟩
theorem sn_goon {v : Option Value} {τ : sn_S} {mc ms : Nat} {a : Array Value} {st0 : List Value} (C : sn_C p s m args meth c own cc nL ret D ct ad lay A) (h : sn_H s D ct ad lay A σ H locs)
    (hr : va_Run p l e R s m args below meth c H locs cells slots 0 0 (F0 m pc ls st0) rest (sn_Q D ct ad lay A v τ a) A)
    (kk : ∀ (H : Heap) (locs : List Loc), sn_H s D ct ad lay A τ H locs → W p l e R s m args below meth c H locs cells slots Q (F0 m (pc + 3) ls (v.toList ++ rest))) : W p l e R s m args below meth c H locs cells slots Q (F0 m pc ls st0) := by
  intro T hT X
  obtain ⟨v', st₀, t, T', L, h0, X', hL, e1, e2, ⟨hv, hP, hz, hk⟩, st⟩ := hr T hT X
  cases hv
  rw [h0] at hz hk
  obtain ⟨t2, a1, b1⟩ := kk T'.heap (locs ++ L) ⟨by rw [e1]; exact hP, Nat.le_trans h.2.1 (by rw [e1]; exact hz), fun q h1 h2 => by rw [e1, hk q (Nat.lt_of_lt_of_le h1 h.2.1) h2]; exact h.2.2.1 q h1 h2, fun q hq => by
      rcases List.mem_append.mp hq with z | z
      · exact h.2.2.2 q z
      · exact hL q z⟩ T' rfl X'
  exact ⟨t2, st t2 a1, b1⟩
/-- the room of a callee within the caller's -/
def sn_fit (rm R : Room) (maxL : Nat) : Bool := decide (rm.frames + 1 ≤ R.frames) && decide (8 + (maxL + 11) + rm.locals ≤ R.locals) && decide (rm.cells = 0) && decide (rm.slots = 0)
theorem sn_fit_spec {rm R : Room} {maxL : Nat} (h : sn_fit rm R maxL = true) : (rm.frames + 1 ≤ R.frames ∧ 8 + (maxL + 11) + rm.locals ≤ R.locals) ∧ rm.cells = 0 ∧ rm.slots = 0 := by
  unfold sn_fit at h
  simp only [Bool.and_eq_true, decide_eq_true_eq] at h
  exact ⟨⟨h.1.1.1, h.1.1.2⟩, h.1.2, h.2⟩
def sn_sum (rest : List Value) : Nat := (rest.map fun v => v.category).sum
/-- what links a call of an instance's method: the class's name, how many arguments -/
def sn_LV (own : String) (index : Nat) (y : MethodName) (cy : ByteArray) (mL : Nat) (ry : Option FieldType) (n : Nat) : Prop :=
  (∀ w ∈ wsV own index y.cls y (Cond.code y cy mL ry :: sn_gw), w ∈ sn_gw) ∧ (y.cls ≠ "java/lang/invoke/MethodHandle" ∧ y.cls ≠ "java/lang/invoke/VarHandle" ∧ (parseMethodDescriptor y.desc).map (fun d => d.parameters.length) = some n)
theorem sn_callV {index mL n q ci : Nat} {y : MethodName} {cy : ByteArray} {ry : Option FieldType} {rm : Room} {As : (Nat → Nat) → List Value} {v : Option ((Nat → Nat) → Value)} {τ : sn_S} {st0 : List Value} {fs : List Nat} {kT : u_T} {kN : Nat}
    (C : sn_C p s m args meth c own cc nL ret D ct ad lay A) (h : sn_H s D ct ad lay A σ H locs) (hM : sn_M l y cy mL ry rm lay (fun ad => .ref (ad q) :: As ad) σ v τ) (L : sn_LV own index y cy mL ry n) (hq : lay[q]? = some (.inr (ci, fs))) (hc : vwCl[ci]? = some (y.cls, kT, kN)) (hR : sn_fit rm R mL = true) (hn : (As ad).length = n)
    (hst : st0 = (As ad).reverse ++ .ref (ad q) :: rest) (hsum : sn_sum rest ≤ 8) (hd : decode cc pc = .ok (.invokevirtual index, 3)) (hls : ls.size = nL)
    (kk : ∀ (H : Heap) (locs : List Loc), sn_H s D ct ad lay A τ H locs → W p l e R s m args below meth c H locs cells slots Q (F0 m (pc + 3) ls ((v.map fun f => f ad).toList ++ rest)))
    (hce : cells ≤ R.cells := by first | exact Nat.zero_le _ | assumption) (hsl : slots ≤ R.slots := by first | exact Nat.zero_le _ | assumption) : W p l e R s m args below meth c H locs cells slots Q (F0 m pc ls st0) := by
  obtain ⟨hfit, hc0, hs0⟩ := sn_fit_spec hR
  have C' := C
  obtain ⟨hx, hb, hml, hown, hts, hr, hlk, hK, hD, hG⟩ := C
  have hg := sn_W_get (ct := ct) (ad := ad) (σ := σ) 0 hq
  rw [Nat.zero_add] at hg
  refine sn_goon (mc := 0) (ms := 0) C' h (va_runV (Ts := sn_gw) (As := As ad) (rest := rest) (n := n) ⟨hx, hb, hml, hown, hts⟩ (hM D ct ad A) (cwV n hts (sn_good L.1) rfl hc0 hs0 ⟨rfl, L.2⟩ hfit) ⟨(sn_pre C' h _).1, va_recv hK h.1 hc hg, (sn_pre C' h _).2⟩ rfl hn hls hst (lv_room hsum) hd ⟨hce, hsl⟩) kk
def sn_LS (own : String) (index : Nat) (y : MethodName) (cy : ByteArray) (mL : Nat) (ry : Option FieldType) (n : Nat) : Prop :=
  (∀ w ∈ va_wsS own index y (Cond.code y cy mL ry :: sn_gw), w ∈ sn_gw) ∧ (y.cls ≠ "java/lang/invoke/MethodHandle" ∧ y.cls ≠ "java/lang/invoke/VarHandle" ∧ (parseMethodDescriptor y.desc).map (fun d => d.parameters.length) = some n)
theorem sn_callS {index mL n : Nat} {y : MethodName} {cy : ByteArray} {ry : Option FieldType} {rm : Room} {As : (Nat → Nat) → List Value} {v : Option ((Nat → Nat) → Value)} {τ : sn_S} {st0 : List Value}
    (C : sn_C p s m args meth c own cc nL ret D ct ad lay A) (h : sn_H s D ct ad lay A σ H locs) (hM : sn_M l y cy mL ry rm lay As σ v τ) (L : sn_LS own index y cy mL ry n) (hR : sn_fit rm R mL = true) (hn : (As ad).length = n)
    (hst : st0 = (As ad).reverse ++ rest) (hsum : sn_sum rest ≤ 8) (hd : decode cc pc = .ok (.invokestatic index, 3)) (hls : ls.size = nL)
    (kk : ∀ (H : Heap) (locs : List Loc), sn_H s D ct ad lay A τ H locs → W p l e R s m args below meth c H locs cells slots Q (F0 m (pc + 3) ls ((v.map fun f => f ad).toList ++ rest)))
    (hce : cells ≤ R.cells := by first | exact Nat.zero_le _ | assumption) (hsl : slots ≤ R.slots := by first | exact Nat.zero_le _ | assumption) : W p l e R s m args below meth c H locs cells slots Q (F0 m pc ls st0) := by
  obtain ⟨hfit, hc0, hs0⟩ := sn_fit_spec hR
  have C' := C
  obtain ⟨hx, hb, hml, hown, hts, hr, hlk, hK, hD, hG⟩ := C
  have hw : ∀ w ∈ Cond.code y cy mL ry :: sn_gw, w ∈ sn_gw := fun w hw => L.1 w (List.mem_append_right _ hw)
  have a1 := hts _ (L.1 (Cond.methodLink own index y) (List.mem_append_left _ (by simp)))
  have a2 := hts _ (L.1 (Cond.static y) (List.mem_append_left _ (by simp)))
  have a3 := hts _ (L.1 (Cond.initialized y.cls) (List.mem_append_left _ (by simp)))
  refine sn_goon (mc := 0) (ms := 0) C' h (va_runS (Ts := sn_gw) (As := As ad) (rest := rest) (n := n) ⟨hx, hb, hml, hown, hts⟩ (hM D ct ad A) ⟨callB_of n hts (sn_good hw) rfl hc0 hs0 a3 a1 L.2 hfit, a2⟩ (sn_pre C' h _) rfl hn hls hst (lv_room hsum) hd ⟨hce, hsl⟩) kk
/-- a nest mate's private method -/
def sn_LN (own : String) (index : Nat) (y : MethodName) (host : String) (cy : ByteArray) (mL : Nat) (ry : Option FieldType) (n : Nat) : Prop :=
  (∀ w ∈ Cond.code y cy mL ry :: sn_gw, w ∈ sn_gw) ∧ (own, index, y, host) ∈ sn_nest ∧ Cond.static y ∈ sn_gw ∧ Cond.initialized y.cls ∈ sn_gw ∧ (y.cls ≠ "java/lang/invoke/MethodHandle" ∧ y.cls ≠ "java/lang/invoke/VarHandle" ∧ (parseMethodDescriptor y.desc).map (fun d => d.parameters.length) = some n)
theorem sn_callN {index mL n : Nat} {y : MethodName} {host : String} {cy : ByteArray} {ry : Option FieldType} {rm : Room} {As : (Nat → Nat) → List Value} {v : Option ((Nat → Nat) → Value)} {τ : sn_S} {st0 : List Value}
    (C : sn_C p s m args meth c own cc nL ret D ct ad lay A) (h : sn_H s D ct ad lay A σ H locs) (hM : sn_M l y cy mL ry rm lay As σ v τ) (L : sn_LN own index y host cy mL ry n) (hR : sn_fit rm R mL = true) (hn : (As ad).length = n)
    (hst : st0 = (As ad).reverse ++ rest) (hsum : sn_sum rest ≤ 8) (hd : decode cc pc = .ok (.invokestatic index, 3)) (hls : ls.size = nL)
    (kk : ∀ (H : Heap) (locs : List Loc), sn_H s D ct ad lay A τ H locs → W p l e R s m args below meth c H locs cells slots Q (F0 m (pc + 3) ls ((v.map fun f => f ad).toList ++ rest)))
    (hce : cells ≤ R.cells := by first | exact Nat.zero_le _ | assumption) (hsl : slots ≤ R.slots := by first | exact Nat.zero_le _ | assumption) : W p l e R s m args below meth c H locs cells slots Q (F0 m pc ls st0) := by
  obtain ⟨hfit, hc0, hs0⟩ := sn_fit_spec hR
  have C' := C
  obtain ⟨hx, hb, hml, hown, hts, hr, hlk, hK, hD, hG⟩ := C
  obtain ⟨L1, L2, L3, L4, L5⟩ := L
  refine sn_goon (mc := 0) (ms := 0) C' h (va_runSN (Ts := sn_gw) (As := As ad) (rest := rest) (n := n) (host := host) ⟨hx, hb, hml, hown, hts⟩ (hM D ct ad A) ⟨va_cnB n hts (sn_good L1) rfl hc0 hs0 (hG.2.2.2.2 _ L2) (hts _ L4) L5 hfit, hts _ L3, trivial⟩ (sn_pre C' h _) rfl hn hls hst (lv_room hsum) hd ⟨hce, hsl⟩) kk
/-! returns -/
/-- at a row of the method, whatever the heap, in this state of the world, with these locals -/
def sn_At (p : Program) (l : Launch) (e : Env) (R : Room) (s : State) (m : MethodId) (args : Array Value) (below : List Frame) (meth : Method) (c : Code) (Q : State → Prop) (D : va_G) (ct : Nat → ClassId) (ad : Nat → Nat) (lay : List sn_E) (A : Nat → Prop) (nL : Nat) (σ : sn_S) (pc : Nat) (lv : List (Nat × Value)) (st : List Value) : Prop :=
  ∀ (H : Heap) (locs : List Loc) (ls : Array Slot), sn_H s D ct ad lay A σ H locs → lv_has ls nL lv → W p l e R s m args below meth c H locs 0 0 Q (F0 m pc ls st)
/-- at a return of a value -/
def sn_Kr (p : Program) (l : Launch) (e : Env) (R : Room) (s : State) (m : MethodId) (args : Array Value) (below : List Frame) (meth : Method) (c : Code) (Q : State → Prop) (D : va_G) (ct : Nat → ClassId) (ad : Nat → Nat) (lay : List sn_E) (A : Nat → Prop) (cc : ByteArray) (ri : Instr) (ok : Bool) (σ : sn_S) (st : List Value) : Prop :=
  ∀ (H : Heap) (locs : List Loc) (ls : Array Slot) (pc : Nat), sn_H s D ct ad lay A σ H locs → ok = true → decode cc pc = .ok (ri, 1) → W p l e R s m args below meth c H locs 0 0 Q (F0 m pc ls st)
theorem sn_iret {v : Int32} (C : sn_C p s m args meth c own cc nL (some .int) D ct ad lay A) (h : sn_H s D ct ad lay A σ H locs) (hd : decode cc pc = .ok (.ireturn, 1)) : W p l e R s m args below meth c H locs 0 0 (MQ below (sn_Q D ct ad lay A (some (.int v)) σ) args s 0 0 A) (F0 m pc ls [.int v]) := by
  obtain ⟨hx, hb, hml, hown, hts, hr, hlk, hK, hD, hG⟩ := C
  exact W.iret hx hb hr (fun t ht hW => ⟨rfl, by rw [ht]; exact h.1, h.2.F ht⟩) h.2.2.2 hd hlk
theorem sn_zret {v : Int32} (C : sn_C p s m args meth c own cc nL (some .boolean) D ct ad lay A) (h : sn_H s D ct ad lay A σ H locs) (hv : sn_b01 v = true) (hd : decode cc pc = .ok (.ireturn, 1)) : W p l e R s m args below meth c H locs 0 0 (MQ below (sn_Q D ct ad lay A (some (.int v)) σ) args s 0 0 A) (F0 m pc ls [.int v]) := by
  obtain ⟨hx, hb, hml, hown, hts, hr, hlk, hK, hD, hG⟩ := C
  have hn : narrow .boolean (.int v) = .int v := by
    unfold sn_b01 at hv
    simp only [Bool.or_eq_true, beq_iff_eq] at hv
    rcases hv with rfl | rfl <;> rfl
  exact W.zret hx hb hr hn (fun t ht hW => ⟨rfl, by rw [ht]; exact h.1, h.2.F ht⟩) h.2.2.2 hd hlk
theorem sn_lret {v : Int64} (C : sn_C p s m args meth c own cc nL (some .long) D ct ad lay A) (h : sn_H s D ct ad lay A σ H locs) (hd : decode cc pc = .ok (.lreturn, 1)) : W p l e R s m args below meth c H locs 0 0 (MQ below (sn_Q D ct ad lay A (some (.long v)) σ) args s 0 0 A) (F0 m pc ls [.long v]) := by
  obtain ⟨hx, hb, hml, hown, hts, hr, hlk, hK, hD, hG⟩ := C
  exact W.lret hx hb hr (fun t ht hW => ⟨rfl, by rw [ht]; exact h.1, h.2.F ht⟩) h.2.2.2 hd hlk
theorem sn_vret (C : sn_C p s m args meth c own cc nL none D ct ad lay A) (h : sn_H s D ct ad lay A σ H locs) (hd : decode cc pc = .ok (.return_, 1)) : W p l e R s m args below meth c H locs 0 0 (MQ below (sn_Q D ct ad lay A none σ) args s 0 0 A) (F0 m pc ls []) := by
  obtain ⟨hx, hb, hml, hown, hts, hr, hlk, hK, hD, hG⟩ := C
  exact W.vret hx hb hr (fun t ht hW => ⟨rfl, by rw [ht]; exact h.1, h.2.F ht⟩) h.2.2.2 hd hlk
theorem sn_aret {q : Nat} {K : String} (C : sn_C p s m args meth c own cc nL (some (.object K)) D ct ad lay A) (h : sn_H s D ct ad lay A σ H locs) (hd : decode cc pc = .ok (.areturn, 1)) : W p l e R s m args below meth c H locs 0 0 (MQ below (sn_Q D ct ad lay A (some (.ref (ad q))) σ) args s 0 0 A) (F0 m pc ls [.ref (ad q)]) := by
  obtain ⟨hx, hb, hml, hown, hts, hr, hlk, hK, hD, hG⟩ := C
  exact W.aret hx hb hr (Or.inl ⟨_, rfl⟩) (Or.inr ⟨_, rfl⟩) (fun t ht hW => ⟨rfl, by rw [ht]; exact h.1, h.2.F ht⟩) h.2.2.2 hd hlk
end RW
/-- a contract, from the walk of the body -/
theorem sn_met {l : Launch} {y : MethodName} {cc : ByteArray} {nL : Nat} {ret : Option FieldType} {rm : Room} {lay : List sn_E} {As : (Nat → Nat) → List Value} {σ τ : sn_S} {v : Option ((Nat → Nat) → Value)} (hy : plainName y.cls = true) (hlen : ∀ ad, (lg_sl (As ad)).length ≤ nL)
    (body : ∀ (p : Program) (e : Env) (s : State) (m : MethodId) (args : Array Value) (below : List Frame) (meth : Method) (c : Code) (ls : Array Slot) (D : va_G) (ct : Nat → ClassId) (ad : Nat → Nat) (A : Nat → Prop), sn_C p s m args meth c y.cls cc nL ret D ct ad lay A → sn_H s D ct ad lay A σ s.heap [] → lv_has ls nL (lv_args 0 (As ad)) →
      W p l e rm s m args below meth c s.heap [] 0 0 (MQ below (sn_Q D ct ad lay A (v.map fun f => f ad) τ) args s 0 0 A) (F0 m 0 ls [])) : sn_M l y cc nL ret rm lay As σ v τ := by
  intro D ct ad A
  refine Met.ofW (cc := cc) (maxL := nL) (ret := ret) hy rfl ?_
  intro p e s m args below meth c s₁ B hml hv
  obtain ⟨rfl, hP, hK, hD0, hG0⟩ := hv
  have hts := atoms_spec (ws := Cond.code y cc nL ret :: sn_gw) B.pre
  have hl := lv_entry (As ad) (n := nL) (hlen ad)
  rw [lg_entry_eq]
  exact body p e s m _ below meth c _ D ct ad A ⟨B.exec, B.bytes, hml, findClass_of_methodNamed B.named, fun w hw => hts w (List.mem_cons_of_mem _ hw), B.returns, B.notSynchronized, hK, hD0, hG0⟩ ⟨hP, va_S.rf⟩ hl
