/-! rows that make cells: the world grows by a place at its end, addresses run on from a first one -/
def sn_zr (σ : sn_S) (a : Nat) : Prop := σ.1 a = (fun _ => 0) ∧ σ.2.1 a = (fun _ => 0) ∧ σ.2.2 a = (fun _ => none)
theorem sn_zr_pI {σ : sn_S} {q k a : Nat} {v : Int32} (hq : a ≠ q) (h : sn_zr σ a) : sn_zr (sn_pI σ q k v) a := by
  refine ⟨?_, h.2.1, h.2.2⟩
  funext b
  show (if a = q ∧ b = k then v else σ.1 a b) = 0
  rw [if_neg (fun z => hq z.1), h.1]
theorem sn_zr_pR {σ : sn_S} {q k a : Nat} {v : Option Nat} (hq : a ≠ q) (h : sn_zr σ a) : sn_zr (sn_pR σ q k v) a := by
  refine ⟨h.1, h.2.1, ?_⟩
  funext b
  show (if a = q ∧ b = k then v else σ.2.2 a b) = none
  rw [if_neg (fun z => hq z.1), h.2.2]
theorem sn_zr_wI {σ : sn_S} {q a : Nat} {f : Nat → Int32} (hq : a ≠ q) (h : sn_zr σ a) : sn_zr (sn_wI σ q f) a := by
  refine ⟨?_, h.2.1, h.2.2⟩
  show (if a = q then f else σ.1 a) = _
  rw [if_neg hq, h.1]
def sn_z : sn_S := (fun _ _ => 0, fun _ _ => 0, fun _ _ => none)
theorem sn_z_zr (a : Nat) : sn_zr sn_z a := ⟨rfl, rfl, rfl⟩
theorem sn_W_app {ct : Nat → ClassId} {ad : Nat → Nat} {σ : sn_S} {l2 : List sn_E} : ∀ (l1 : List sn_E) (k : Nat), sn_W ct ad σ k (l1 ++ l2) = sn_W ct ad σ k l1 ++ sn_W ct ad σ (k + l1.length) l2 := by
  intro l1
  induction l1 with
  | nil => intro k; rfl
  | cons x r ih =>
    intro k
    show (ad k, sn_ev ct ad σ k x) :: sn_W ct ad σ (k + 1) (r ++ l2) = (ad k, sn_ev ct ad σ k x) :: (sn_W ct ad σ (k + 1) r ++ sn_W ct ad σ (k + (r.length + 1)) l2)
    rw [ih (k + 1), show k + 1 + r.length = k + (r.length + 1) by omega]
theorem sn_W_at {ct : Nat → ClassId} {ad : Nat → Nat} {σ : sn_S} : ∀ (lay : List sn_E) (j k : Nat) (q : Nat × va_E), (sn_W ct ad σ j lay)[k]? = some q → k < lay.length ∧ q.1 = ad (j + k) := by
  intro lay
  induction lay with
  | nil => intro j k q h; simp [sn_W] at h
  | cons x r ih =>
    intro j k q h
    match k with
    | 0 =>
      simp [sn_W] at h
      subst h
      exact ⟨by simp, rfl⟩
    | k + 1 =>
      have h1 : (sn_W ct ad σ (j + 1) r)[k]? = some q := by simpa [sn_W] using h
      obtain ⟨h2, h3⟩ := ih (j + 1) k q h1
      exact ⟨by simpa using h2, by rw [h3, show j + 1 + k = j + (k + 1) by omega]⟩
/-- the addresses of the places -/
def sn_E0 (ad : Nat → Nat) (A : Nat → Prop) (N0 : Nat) : Prop := (∀ k, k < 200 → ad k = N0 + k) ∧ ∀ q, N0 ≤ q → A q
theorem sn_D_of {ct : Nat → ClassId} {ad : Nat → Nat} {A : Nat → Prop} {N0 : Nat} {lay : List sn_E} (hE : sn_E0 ad A N0) (hl : lay.length ≤ 200) : ∀ σ, va_D A (sn_W ct ad σ 0 lay) := by
  intro σ
  refine ⟨fun i j p q hi hj hpq => ?_, fun k q hk => ?_⟩
  · obtain ⟨a1, a2⟩ := sn_W_at lay 0 i p hi
    obtain ⟨b1, b2⟩ := sn_W_at lay 0 j q hj
    rw [Nat.zero_add, hE.1 i (by omega)] at a2
    rw [Nat.zero_add, hE.1 j (by omega)] at b2
    omega
  · obtain ⟨a1, a2⟩ := sn_W_at lay 0 k q hk
    rw [Nat.zero_add, hE.1 k (by omega)] at a2
    exact hE.2 _ (by omega)
section AL
variable {p : Program} {l : Launch} {e : Env} {R : Room} {s : State} {m : MethodId} {args : Array Value} {below : List Frame} {meth : Method} {c : Code} {H : Heap} {locs : List Loc} {cells slots : Nat} {Q : State → Prop}
variable {cc : ByteArray} {pc nL N0 : Nat} {ls : Array Slot} {rest : List Value} {own : String} {ret : Option FieldType} {D : va_G} {ct : Nat → ClassId} {ad : Nat → Nat} {lay : List sn_E} {A : Nat → Prop} {σ : sn_S}
theorem sn_C_lay {lay2 : List sn_E} (C : sn_C p s m args meth c own cc nL ret D ct ad lay A) (hE : sn_E0 ad A N0) (hl : lay2.length ≤ 200) : sn_C p s m args meth c own cc nL ret D ct ad lay2 A := by
  obtain ⟨hx, hb, hml, hown, hts, hr, hlk, hK, hD, hG⟩ := C
  exact ⟨hx, hb, hml, hown, hts, hr, hlk, hK, sn_D_of hE hl, hG⟩
theorem sn_size {g : JFrame} (kk : H.size ≤ s.heap.size + cells → W p l e R s m args below meth c H locs cells slots Q g) : W p l e R s m args below meth c H locs cells slots Q g := by
  intro T hT X
  have h := X.heapSize
  rw [hT] at h
  exact kk h T hT X
/-- how large the heap is, where all that was made lies in the world -/
theorem sn_heap {g : JFrame} (hE : sn_E0 ad A N0) (h0 : 0 < lay.length) (hl : lay.length ≤ 200) (hs : s.heap.size + cells = N0 + lay.length) (h : sn_H s D ct ad lay A σ H locs) (kk : H.size = N0 + lay.length → W p l e R s m args below meth c H locs cells slots Q g) : W p l e R s m args below meth c H locs cells slots Q g := by
  refine sn_size (fun h1 => kk ?_)
  have h2 := h.2.1
  obtain ⟨x, hx⟩ : ∃ x, lay[lay.length - 1]? = some x := ⟨lay[lay.length - 1], List.getElem?_eq_getElem (by omega)⟩
  have h3 := (h.1 _ _ (sn_W_get (ct := ct) (ad := ad) (σ := σ) 0 hx)).lt
  rw [Nat.zero_add] at h3
  have h4 : ad (lay.length - 1) < H.size := h3
  rw [hE.1 _ (by omega)] at h4
  omega
theorem sn_grow {x : sn_E} {H1 : Heap} (hE : sn_E0 ad A N0) (hl : lay.length < 200) (hz : H.size = N0 + lay.length) (h : sn_H s D ct ad lay A σ H locs) (hx : va_at D vwCl (ad lay.length, sn_ev ct ad σ lay.length x) H1) (hs : H1.size = H.size + 1) (ho : ∀ q, q < H.size → H1[q]? = H[q]?) : sn_H s D ct ad (lay ++ [x]) A σ H1 locs := by
  refine ⟨?_, Nat.le_trans h.2.1 (by omega), fun q h1 h2 => ?_, h.2.2.2⟩
  · rw [sn_W_app]
    refine (h.1.kept (fun k q hq => ?_)).app (fun k q hq => ?_)
    · obtain ⟨a1, a2⟩ := sn_W_at lay 0 k q hq
      rw [Nat.zero_add, hE.1 k (by omega)] at a2
      exact ho _ (by omega)
    · have h0 : k < 1 := (List.getElem?_eq_some_iff.mp hq).1
      rw [show k = 0 by omega] at hq
      have e1 : q = (ad (0 + lay.length), sn_ev ct ad σ (0 + lay.length) x) := (Option.some.inj hq).symm
      rw [e1, Nat.zero_add]
      exact hx
  · rw [ho q (Nat.lt_of_lt_of_le h1 h.2.1)]
    exact h.2.2.1 q h1 h2
theorem sn_newarr {atype : ArrayType} {t N kd : Nat} {ty : FieldType} {n : Int32} {lay3 : List sn_E} {nn : Nat} (C : sn_C p s m args meth c own cc nL ret D ct ad lay A) (hE : sn_E0 ad A N0) (h : sn_H s D ct ad lay A σ H locs) (hnn : lay.length = nn) (hl3 : lay ++ [.inl (t, N, kd, [])] = lay3) (hl : 0 < nn ∧ nn < 200) (hs : s.heap.size + cells = N0 + nn)
    (hty : newarray.typeOf atype = ty) (ht : (sn_tys ct)[t]? = some (ct t, ty)) (hprim : ∀ K, ty ≠ .object K) (harr : Cond.arrayClass ty ∈ sn_gw) (hcell : ∀ cA, vp_cell cA (sn_av ad σ nn N [] kd) = arrV cA N (fun _ => defaultValue ty))
    (hn : ¬ n < 0) (hN : n.toNatClampNeg = N) (hby : N * componentBytes ty ≤ 536870912) (hce : cells + 1 ≤ R.cells) (hsl : slots + N ≤ R.slots) (hd : decode cc pc = .ok (.newarray atype, 2))
    (kk : ∀ (H : Heap), sn_C p s m args meth c own cc nL ret D ct ad lay3 A → sn_H s D ct ad lay3 A σ H locs → W p l e R s m args below meth c H locs (cells + 1) (slots + N) Q (F0 m (pc + 2) ls (.ref (ad nn) :: rest))) :
    W p l e R s m args below meth c H locs cells slots Q (F0 m pc ls (.int n :: rest)) := by
  subst hty
  subst hnn
  subst hl3
  refine sn_heap hE hl.1 (Nat.le_of_lt hl.2) hs h (fun hz => ?_)
  have C2 := sn_C_lay (lay2 := lay ++ [.inl (t, N, kd, [])]) C hE (by have := hl.2; simp; omega)
  obtain ⟨hx, hb, hml, hown, hts, hr, hlk, hK, hD, hG⟩ := C
  refine va_newaK hx hb (hts _ harr) rfl hd rfl hn hN hby hce hsl rfl fun H1 cA e1 z1 o1 hAr hNm => ?_
  have ec : cA = ct t := by
    have h2 := (hK.2 t _ ht).2
    cases atype <;> exact Option.some.inj (hNm.symm.trans h2)
  subst ec
  rw [hz, ← hE.1 _ hl.2] at e1
  rw [hz, ← hE.1 _ hl.2]
  exact kk H1 C2 (sn_grow hE hl.2 hz h (by show H1[ad lay.length]? = some (vp_cell _ _); rw [hcell]; exact e1) z1 o1)
theorem sn_newobj {index ci N : Nat} {K : String} {T : u_T} {ty : Nat → FieldType} {ks : List Nat} {lay3 : List sn_E} {nn : Nat} (C : sn_C p s m args meth c own cc nL ret D ct ad lay A) (hE : sn_E0 ad A N0) (h : sn_H s D ct ad lay A σ H locs) (hnn : lay.length = nn) (hl3 : lay ++ [.inr (ci, ks)] = lay3) (hl : 0 < nn ∧ nn < 200) (hs : s.heap.size + cells = N0 + nn)
    (hc : vwCl[ci]? = some (K, T, N)) (hin : ∀ w ∈ u_ws K T N, w ∈ sn_gw) (hty : ∀ k, k < N → parseFieldDescriptor (T k).2.2.1 = some (ty k)) (w1 : Cond.classLink own index K ∈ sn_gw) (w2 : Cond.instantiable K N ∈ sn_gw) (w3 : Cond.initialized K ∈ sn_gw)
    (hz : sn_zr σ nn) (hfs : ∀ (ad : Nat → Nat) (q j : Nat), j < N → defaultValue (ty j) = vp_V (sn_fs ad sn_z q 0 ks) j) (hce : cells + 1 ≤ R.cells) (hsl : slots + N ≤ R.slots) (hd : decode cc pc = .ok (.new index, 3))
    (kk : ∀ (H : Heap), sn_C p s m args meth c own cc nL ret D ct ad lay3 A → sn_H s D ct ad lay3 A σ H locs → H.size = N0 + lay3.length → W p l e R s m args below meth c H locs (cells + 1) (slots + N) Q (F0 m (pc + 3) ls (.ref (ad nn) :: rest))) :
    W p l e R s m args below meth c H locs cells slots Q (F0 m pc ls rest) := by
  subst hnn
  subst hl3
  refine sn_heap hE hl.1 (Nat.le_of_lt hl.2) hs h (fun hze => ?_)
  have C2 := sn_C_lay (lay2 := lay ++ [.inr (ci, ks)]) C hE (by have := hl.2; simp; omega)
  obtain ⟨hx, hb, hml, hown, hts, hr, hlk, hK, hD, hG⟩ := C
  have hKn := hK.1 ci _ hc
  refine W.newcK hx hb hown (hts _ w1) (hts _ w2) (hts _ w3) rfl hd hce hsl hKn.2.1 rfl fun H1 kC hkC e1 z1 o1 => ?_
  have e2 : va_at D vwCl (ad lay.length, .inr (ci, sn_fs ad sn_z lay.length 0 ks)) H1 := by
    rw [hze, ← hE.1 _ hl.2] at e1
    exact ⟨_, hc, (u_born ty hts hin hKn hkC e1 hty).to (hfs ad lay.length)⟩
  have e3 : sn_fs ad sn_z lay.length 0 ks = sn_fs ad σ lay.length 0 ks := sn_fs_ag ⟨hz.1.symm, hz.2.1.symm, hz.2.2.symm⟩ ks 0
  rw [e3] at e2
  rw [hze, ← hE.1 _ hl.2]
  exact kk H1 C2 (sn_grow hE hl.2 hze h e2 z1 o1) (by rw [z1, hze, List.length_append]; show N0 + lay.length + 1 = N0 + (lay.length + 1); omega)
theorem sn_apg {lay t : List sn_E} {k : Nat} {x : sn_E} (h : t[k]? = some x) : (lay ++ t)[lay.length + k]? = some x := by
  rw [List.getElem?_append_right (by omega), Nat.add_sub_cancel_left]
  exact h
theorem sn_cI {N n : Nat} (h : sn_zr σ n) : ∀ cA, vp_cell cA (sn_av ad σ n N [] 0) = arrV cA N (fun _ => defaultValue .int) := by
  intro cA
  show arrV cA N (fun j => .int (σ.1 n j)) = _
  rw [h.1]
  rfl
theorem sn_cZ {N n : Nat} (h : sn_zr σ n) : ∀ cA, vp_cell cA (sn_av ad σ n N [] 0) = arrV cA N (fun _ => defaultValue .boolean) := by
  intro cA
  show arrV cA N (fun j => .int (σ.1 n j)) = _
  rw [h.1]
  rfl
theorem sn_cB {N n : Nat} (h : sn_zr σ n) : ∀ cA, vp_cell cA (sn_av ad σ n N [] 0) = arrV cA N (fun _ => defaultValue .byte) := by
  intro cA
  show arrV cA N (fun j => .int (σ.1 n j)) = _
  rw [h.1]
  rfl
theorem sn_cL {N n : Nat} (h : sn_zr σ n) : ∀ cA, vp_cell cA (sn_av ad σ n N [] 1) = arrV cA N (fun _ => defaultValue .long) := by
  intro cA
  show arrV cA N (fun j => .long (σ.2.1 n j)) = _
  rw [h.2.1]
  rfl
/-- a final field, in a constructor -/
def sn_Ff (own : String) (index ci k : Nat) (ty : FieldType) : Prop := ∃ (C : String) (T : u_T) (N : Nat) (ty0 : Nat → FieldType), vwCl[ci]? = some (C, T, N) ∧ (∀ w ∈ u_ws C T N, w ∈ sn_gw) ∧ k < N ∧ Cond.fieldLink own index (T k).1 (T k).2.1 (T k).2.2.1 ∈ sn_gw ∧ (∀ k, k < N → parseFieldDescriptor (T k).2.2.1 = some (ty0 k)) ∧ (∀ a, a < N → ∀ b, b < N → a ≠ b → (T a).2.1 ≠ (T b).2.1) ∧ (T k).2.2.2 = true ∧ (T k).1 = own ∧ parseFieldDescriptor (T k).2.2.1 = some ty
theorem sn_putF {index ci k q r : Nat} {fs : List Nat} {ty : FieldType} (C : sn_C p s m args meth c own cc nL ret D ct ad lay A) (hni : meth.name = "<init>") (h : sn_H s D ct ad lay A σ H locs) (F : sn_Ff own index ci k ty) (hq : lay[q]? = some (.inr (ci, fs))) (hk : fs[k]? = some 2)
    (hn : narrow ty (.ref (ad r)) = .ref (ad r)) (hfit : fits ty (.ref (ad r)) = true) (hd : decode cc pc = .ok (.putfield index, 3))
    (kk : ∀ (H : Heap) (locs : List Loc), sn_H s D ct ad lay A (sn_pR σ q k (some r)) H locs → W p l e R s m args below meth c H locs cells slots Q (F0 m (pc + 3) ls rest)) : W p l e R s m args below meth c H locs cells slots Q (F0 m pc ls (.ref (ad r) :: .ref (ad q) :: rest)) := by
  obtain ⟨hx, hb, hml, hown, hts, hr, hlk, hK, hD, hG⟩ := C
  obtain ⟨K, T, N, ty0, hc, hin, hkN, hl, hty, hnm, hfin, hdecl, hpd⟩ := F
  have hg := sn_W_get (ct := ct) (ad := ad) (σ := σ) 0 hq
  rw [Nat.zero_add] at hg
  have hkl : k < (sn_fs ad σ q 0 fs).length := by rw [sn_fs_len]; exact (List.getElem?_eq_some_iff.mp hk).1
  refine va_putF (v := .ref (ad r)) (ty := ty) hx hb hts hin ty0 hty hnm hown hK h.1 (hD σ) h.2 q hg hc k hkN (hts _ hl) (fun _ z => z) hfin hni hdecl hpd hn hfit hkl hd (fun H1 locs1 hP1 hD1 hS1 => ?_)
  refine kk H1 locs1 ⟨?_, hS1⟩
  have hv : sn_fv ad (sn_pR σ q k (some r)) q k 2 = .ref (ad r) := by
    show va_rf ((if q = q ∧ k = k then some r else σ.2.2 q k).map ad) = _
    rw [if_pos ⟨rfl, rfl⟩]
    rfl
  have e1 := sn_fs_set (ad := ad) (σ := σ) (τ := sn_pR σ q k (some r)) (q := q) 0 hk (by
    intro b hb
    rw [Nat.zero_add] at hb
    refine ⟨rfl, rfl, ?_⟩
    show σ.2.2 q b = if q = q ∧ b = k then some r else σ.2.2 q b
    rw [if_neg (fun z => hb z.2)])
  rw [Nat.zero_add, hv] at e1
  rw [e1] at hP1
  have e2 := sn_W_set (ct := ct) (ad := ad) (σ := σ) (τ := sn_pR σ q k (some r)) 0 hq (by
    intro a ha
    rw [Nat.zero_add] at ha
    refine ⟨rfl, rfl, funext fun b => ?_⟩
    show σ.2.2 a b = if a = q ∧ b = k then some r else σ.2.2 a b
    rw [if_neg (fun z => ha z.1)])
  rw [Nat.zero_add] at e2
  rw [← e2]
  exact hP1
/-- arrays of references can be made -/
def sn_AO (U : State) : Prop := (Cond.arrayOver (.object "PepperPolicy$House")).before #[] U = true ∧ (Cond.arrayOver (.array .long)).before #[] U = true
theorem sn_AO_same {u U : State} (hv : U.vm = u.vm) (h : sn_AO u) : sn_AO U := by
  obtain ⟨h1, h2⟩ := h
  refine ⟨?_, ?_⟩
  · unfold Cond.before Cond.holds at h1 ⊢
    simp only [Cond.value] at h1 ⊢
    rw [hv]
    exact h1
  · unfold Cond.before Cond.holds at h2 ⊢
    simp only [Cond.value] at h2 ⊢
    rw [hv]
    exact h2
theorem sn_AOA_spec {args : Array Value} {U : State} {ty : FieldType} (h : (Cond.arrayOver (.array ty)).before args U = true) :
    ∃ comp c k, U.vm.findClass (FieldType.array ty).toString = some comp ∧ (U.vm.classes.findIdx? fun x => match x.kind with | .array component _ => component == comp | _ => false) = some c ∧ U.vm.classes[c]? = some k ∧ k.kind = .array comp (.array ty) ∧ U.vm.findClass ("[" ++ (FieldType.array ty).toString) = some c := by
  simp only [Cond.before, Cond.holds, Cond.value, beq_iff_eq] at h
  cases hc : U.vm.findClass (FieldType.array ty).toString with
  | none => simp [hc] at h
  | some comp =>
    simp only [hc, Option.bind_some, Option.bind_eq_some_iff, Option.map_eq_some_iff] at h
    obtain ⟨c, hi, k, hk, hb⟩ := h
    obtain ⟨hlt, hp, -⟩ := Array.findIdx?_eq_some_iff_getElem.mp hi
    have hkk : U.vm.classes[c] = k := (Array.getElem?_eq_some_iff.mp hk).2
    rw [hkk] at hp
    cases hkind : k.kind with
    | array component t2 =>
      rw [hkind] at hb hp
      simp at hb hp
      exact ⟨comp, c, k, rfl, hi, hk, by rw [hkind, hp, hb.1], hb.2⟩
    | _ => rw [hkind] at hb; simp at hb
theorem sn_AOA_moved {t : FieldType} {u U : State} (hvm : u.vm.Alike U.vm) (h : (Cond.arrayOver (.array t)).before #[] u = true) : (Cond.arrayOver (.array t)).before #[] U = true := by
  obtain ⟨comp, c, k, h1, h2, h3, h4, h5⟩ := sn_AOA_spec h
  obtain ⟨k', hk', he⟩ := hvm.2.2 _ _ h3
  have hi : (U.vm.classes.findIdx? fun (x : Class) => match x.kind with | .array component _ => component == comp | _ => false) = some c := by
    refine Eq.trans (va_idx_bare U.vm comp).symm ?_
    first | rw [hvm.bare_eq] | rw [← hvm.bare_eq]
    exact (va_idx_bare u.vm comp).trans h2
  have hkind : k'.kind = .array comp (.array t) := by rw [he]; exact h4
  have f1 : U.vm.findClass (FieldType.array t).toString = some comp := by rw [hvm.findClass]; exact h1
  have f2 : U.vm.findClass ("[" ++ (FieldType.array t).toString) = some c := by rw [hvm.findClass]; exact h5
  unfold Cond.before Cond.holds
  simp only [Cond.value]
  rw [f1, Option.bind_some]
  refine (congrArg (fun o : Option Nat => (o.bind (fun c => (U.vm.classes[c]?).map fun (k : Class) => match k.kind with | .array _ ty => decide (ty = FieldType.array t) && decide (U.vm.findClass ("[" ++ (FieldType.array t).toString) = some c) | _ => false) == some true)) hi).trans ?_
  simp [hk', hkind, f2]
theorem sn_AO_warm {s U : State} (hW : s.WarmedH U.vm) (h : sn_AO s) : sn_AO U := ⟨(va_AO.of h.1).moved hW.alike, sn_AOA_moved hW.alike h.2⟩
/-! constructors' contracts: the world before, with the object; the world behind -/
def sn_MA (l : Launch) (y : MethodName) (cc : ByteArray) (nL : Nat) (rm : Room) (lay lay' : List sn_E) (As : (Nat → Nat) → List Value) (σ τ : sn_S) (mc ms : Nat) : Prop :=
  ∀ (D : va_G) (ct : Nat → ClassId) (ad : Nat → Nat) (A : Nat → Prop) (N0 : Nat), sn_E0 ad A N0 → Met l y (Cond.code y cc nL none :: sn_gw) rm (fun a U => sn_Pc D ct ad lay A σ (As ad) a U ∧ U.heap.size = N0 + lay.length ∧ sn_AO U) (sn_Q D ct ad lay' A none τ) mc ms A
theorem sn_vretA {mc ms : Nat} (C : sn_C p s m args meth c own cc nL none D ct ad lay A) (h : sn_H s D ct ad lay A σ H locs) (hc : cells = mc) (hs : slots = ms) (hd : decode cc pc = .ok (.return_, 1)) : W p l e R s m args below meth c H locs cells slots (MQ below (sn_Q D ct ad lay A none σ) args s mc ms A) (F0 m pc ls []) := by
  obtain ⟨hx, hb, hml, hown, hts, hr, hlk, hK, hD, hG⟩ := C
  subst hc
  subst hs
  exact W.vret hx hb hr (fun t ht hW => ⟨rfl, by rw [ht]; exact h.1, h.2.F ht⟩) h.2.2.2 hd hlk
/-- the room of a constructor within the caller's -/
def sn_fitA (rm R : Room) (maxL mc ms : Nat) : Bool := decide (rm.frames + 1 ≤ R.frames) && decide (8 + (maxL + 11) + rm.locals ≤ R.locals) && decide (rm.cells = mc) && decide (rm.slots = ms)
theorem sn_fitA_spec {rm R : Room} {maxL mc ms : Nat} (h : sn_fitA rm R maxL mc ms = true) : (rm.frames + 1 ≤ R.frames ∧ 8 + (maxL + 11) + rm.locals ≤ R.locals) ∧ rm.cells = mc ∧ rm.slots = ms := by
  unfold sn_fitA at h
  simp only [Bool.and_eq_true, decide_eq_true_eq] at h
  exact ⟨⟨h.1.1.1, h.1.1.2⟩, h.1.2, h.2⟩
theorem sn_goonA {lay' : List sn_E} {τ : sn_S} {mc ms : Nat} {a : Array Value} {st0 : List Value} (h : sn_H s D ct ad lay A σ H locs)
    (hr : va_Run p l e R s m args below meth c H locs cells slots mc ms (F0 m pc ls st0) rest (sn_Q D ct ad lay' A none τ a) A)
    (kk : ∀ (H : Heap) (locs : List Loc), sn_H s D ct ad lay' A τ H locs → W p l e R s m args below meth c H locs (cells + mc) (slots + ms) Q (F0 m (pc + 3) ls rest)) : W p l e R s m args below meth c H locs cells slots Q (F0 m pc ls st0) := by
  intro T hT X
  obtain ⟨v', st₀, t, T', L, h0, X', hL, e1, e2, ⟨hv, hP, hz, hk⟩, st⟩ := hr T hT X
  cases hv
  rw [h0] at hz hk
  obtain ⟨t2, a1, b1⟩ := kk T'.heap (locs ++ L) ⟨by rw [e1]; exact hP, Nat.le_trans h.2.1 (by rw [e1]; exact hz), fun q h1 h2 => by rw [e1, hk q (Nat.lt_of_lt_of_le h1 h.2.1) h2]; exact h.2.2.1 q h1 h2, fun q hq => by
      rcases List.mem_append.mp hq with z | z
      · exact h.2.2.2 q z
      · exact hL q z⟩ T' rfl X'
  exact ⟨t2, st t2 a1, b1⟩
theorem sn_blindA {k : Nat} {As : List Value} : FrameBlind (fun a U => sn_Pc D ct ad lay A σ As a U ∧ U.heap.size = k ∧ sn_AO U) := by
  intro a U g mk h
  exact ⟨sn_blind a U g mk h.1, h.2.1, sn_AO_same (u := U) rfl h.2.2⟩
theorem sn_preA (C : sn_C p s m args meth c own cc nL ret D ct ad lay A) (h : sn_H s D ct ad lay A σ H locs) {k : Nat} (hz : H.size = k) (hO : sn_AO s) (As : List Value) : PreS s H (fun a U => sn_Pc D ct ad lay A σ As a U ∧ U.heap.size = k ∧ sn_AO U) As :=
  ⟨sn_blindA, fun U hU hW => ⟨(sn_pre C h As).2 U hU hW, by rw [hU]; exact hz, sn_AO_warm hW hO⟩⟩
/-- a nest mate's private constructor -/
theorem sn_callA {index mL n q mc ms : Nat} {y : MethodName} {host : String} {cy : ByteArray} {rm : Room} {As : (Nat → Nat) → List Value} {lay' : List sn_E} {τ : sn_S} {st0 : List Value} (rest : List Value) (C : sn_C p s m args meth c own cc nL ret D ct ad lay A) (hE : sn_E0 ad A N0) (h : sn_H s D ct ad lay A σ H locs) (hz : H.size = N0 + lay.length) (hO : sn_AO s)
    (hM : sn_MA l y cy mL rm lay lay' (fun ad => .ref (ad q) :: As ad) σ τ mc ms) (L1 : Cond.code y cy mL none ∈ sn_gw) (L2 : (own, index, y, host) ∈ sn_nest) (L3 : Cond.instanceMethod y ∈ sn_gw) (L4 : Cond.initialized y.cls ∈ sn_gw) (hyn : y.name = "<init>") (L5 : y.cls ≠ "java/lang/invoke/MethodHandle" ∧ y.cls ≠ "java/lang/invoke/VarHandle" ∧ (parseMethodDescriptor y.desc).map (fun d => d.parameters.length) = some n)
    (hR : sn_fitA rm R mL mc ms = true) (hn : (As ad).length = n) (hst : st0 = (As ad).reverse ++ .ref (ad q) :: rest) (hsum : sn_sum rest ≤ 8) (hd : decode cc pc = .ok (.invokespecial index, 3)) (hls : ls.size = nL) (hce : cells + mc ≤ R.cells) (hsl : slots + ms ≤ R.slots)
    (kk : ∀ (H : Heap) (locs : List Loc), sn_H s D ct ad lay' A τ H locs → W p l e R s m args below meth c H locs (cells + mc) (slots + ms) Q (F0 m (pc + 3) ls rest)) : W p l e R s m args below meth c H locs cells slots Q (F0 m pc ls st0) := by
  obtain ⟨hfit, hc0, hs0⟩ := sn_fitA_spec hR
  have C' := C
  obtain ⟨hx, hb, hml, hown, hts, hr, hlk, hK, hD, hG⟩ := C
  exact sn_goonA h (va_runIN (Ts := sn_gw) (As := As ad) (rest := rest) (n := n) (host := host) ⟨hx, hb, hml, hown, hts⟩ (hM D ct ad A N0 hE) ⟨va_cnB n hts (sn_good (sn_cg L1)) rfl hc0 hs0 (hG.2.2.2.2 _ L2) (hts _ L4) L5 hfit, hyn, hts _ L3⟩ (sn_preA C' h hz hO _) rfl hn hls hst (lv_room hsum) hd ⟨hce, hsl⟩) kk
/-- a constructor that one may call from elsewhere -/
theorem sn_callI {index mL n q mc ms : Nat} {y : MethodName} {cy : ByteArray} {rm : Room} {As : (Nat → Nat) → List Value} {lay' : List sn_E} {τ : sn_S} {st0 : List Value} (rest : List Value) (C : sn_C p s m args meth c own cc nL ret D ct ad lay A) (hE : sn_E0 ad A N0) (h : sn_H s D ct ad lay A σ H locs) (hz : H.size = N0 + lay.length) (hO : sn_AO s)
    (hM : sn_MA l y cy mL rm lay lay' (fun ad => .ref (ad q) :: As ad) σ τ mc ms) (L1 : Cond.code y cy mL none ∈ sn_gw) (L2 : Cond.methodLink own index y ∈ sn_gw) (L3 : Cond.instanceMethod y ∈ sn_gw) (L4 : Cond.initialized y.cls ∈ sn_gw) (hyn : y.name = "<init>") (L5 : y.cls ≠ "java/lang/invoke/MethodHandle" ∧ y.cls ≠ "java/lang/invoke/VarHandle" ∧ (parseMethodDescriptor y.desc).map (fun d => d.parameters.length) = some n)
    (hR : sn_fitA rm R mL mc ms = true) (hn : (As ad).length = n) (hst : st0 = (As ad).reverse ++ .ref (ad q) :: rest) (hsum : sn_sum rest ≤ 8) (hd : decode cc pc = .ok (.invokespecial index, 3)) (hls : ls.size = nL) (hce : cells + mc ≤ R.cells) (hsl : slots + ms ≤ R.slots)
    (kk : ∀ (H : Heap) (locs : List Loc), sn_H s D ct ad lay' A τ H locs → W p l e R s m args below meth c H locs (cells + mc) (slots + ms) Q (F0 m (pc + 3) ls rest)) : W p l e R s m args below meth c H locs cells slots Q (F0 m pc ls st0) := by
  obtain ⟨hfit, hc0, hs0⟩ := sn_fitA_spec hR
  have C' := C
  obtain ⟨hx, hb, hml, hown, hts, hr, hlk, hK, hD, hG⟩ := C
  exact sn_goonA h (va_runI (Ts := sn_gw) (As := As ad) (rest := rest) (n := n) ⟨hx, hb, hml, hown, hts⟩ (hM D ct ad A N0 hE) (cwI n hts (sn_good (sn_cg L1)) rfl hc0 hs0 (hts _ L4) (hts _ L2) (hts _ L3) hyn L5 hfit) (sn_preA C' h hz hO _) rfl hn hls hst (lv_room hsum) hd ⟨hce, hsl⟩) kk
end AL
/-- a constructor's contract, from the walk of its body -/
theorem sn_metA {l : Launch} {y : MethodName} {cc : ByteArray} {nL : Nat} {rm : Room} {lay lay' : List sn_E} {As : (Nat → Nat) → List Value} {σ τ : sn_S} {mc ms : Nat} (hy : plainName y.cls = true) (hyn : y.name = "<init>") (hl : lay.length ≤ 200) (hlen : ∀ ad, (lg_sl (As ad)).length ≤ nL)
    (body : ∀ (p : Program) (e : Env) (s : State) (m : MethodId) (args : Array Value) (below : List Frame) (meth : Method) (c : Code) (ls : Array Slot) (D : va_G) (ct : Nat → ClassId) (ad : Nat → Nat) (A : Nat → Prop) (N0 : Nat), sn_C p s m args meth c y.cls cc nL none D ct ad lay A → sn_E0 ad A N0 → meth.name = "<init>" → sn_AO s → s.heap.size = N0 + lay.length → sn_H s D ct ad lay A σ s.heap [] → lv_has ls nL (lv_args 0 (As ad)) →
      W p l e rm s m args below meth c s.heap [] 0 0 (MQ below (sn_Q D ct ad lay' A none τ) args s mc ms A) (F0 m 0 ls [])) : sn_MA l y cc nL rm lay lay' As σ τ mc ms := by
  intro D ct ad A N0 hE
  refine Met.ofW (cc := cc) (maxL := nL) (ret := none) hy rfl ?_
  intro p e s m args below meth c s₁ B hml hv
  obtain ⟨⟨rfl, hP, hK, hD0, hG0⟩, hz, hO⟩ := hv
  have hts := atoms_spec (ws := Cond.code y cc nL none :: sn_gw) B.pre
  have hlv := lv_entry (As ad) (n := nL) (hlen ad)
  rw [lg_entry_eq]
  have hin : meth.name = y.name := (name_of_methodNamed B.named B.method).1
  exact body p e s m _ below meth c _ D ct ad A N0 ⟨B.exec, B.bytes, hml, findClass_of_methodNamed B.named, fun w hw => hts w (List.mem_cons_of_mem _ hw), B.returns, B.notSynchronized, hK, hD0, hG0⟩ hE (hin.trans hyn) hO hz ⟨hP, va_S.rf⟩ hlv
