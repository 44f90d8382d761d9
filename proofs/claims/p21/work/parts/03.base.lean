/-! the state of a world of cells in fixed places: by place and slot the ints, the longs, the references that change -/
abbrev sn_S : Type := (Nat → Nat → Int32) × (Nat → Nat → Int64) × (Nat → Nat → Option Nat)
def sn_I (σ : sn_S) (q k : Nat) : Int32 := σ.1 q k
def sn_L (σ : sn_S) (q k : Nat) : Int64 := σ.2.1 q k
def sn_R (σ : sn_S) (q k : Nat) : Option Nat := σ.2.2 q k
def sn_pI (σ : sn_S) (q k : Nat) (v : Int32) : sn_S := (fun a b => if a = q ∧ b = k then v else σ.1 a b, σ.2)
def sn_pL (σ : sn_S) (q k : Nat) (v : Int64) : sn_S := (σ.1, fun a b => if a = q ∧ b = k then v else σ.2.1 a b, σ.2.2)
def sn_pR (σ : sn_S) (q k : Nat) (v : Option Nat) : sn_S := (σ.1, σ.2.1, fun a b => if a = q ∧ b = k then v else σ.2.2 a b)
def sn_wI (σ : sn_S) (q : Nat) (f : Nat → Int32) : sn_S := (fun a => if a = q then f else σ.1 a, σ.2)
def sn_wL (σ : sn_S) (q : Nat) (f : Nat → Int64) : sn_S := (σ.1, fun a => if a = q then f else σ.2.1 a, σ.2.2)
/-- what lies in a place: an array (tag of its type, length, 0 ints, 1 longs, 2 references to the places of a list, 3 references that change), or an object (class, by field 0 int, 1 long, 2 a reference that changes, q + 3 the place q) -/
abbrev sn_E : Type := (Nat × Nat × Nat × List Nat) ⊕ (Nat × List Nat)
def sn_fv (ad : Nat → Nat) (σ : sn_S) (q k : Nat) : Nat → Value
  | 0 => .int (sn_I σ q k)
  | 1 => .long (sn_L σ q k)
  | 2 => va_rf ((sn_R σ q k).map ad)
  | r + 3 => .ref (ad r)
def sn_fs (ad : Nat → Nat) (σ : sn_S) (q : Nat) : Nat → List Nat → List Value
  | _, [] => []
  | k, x :: r => sn_fv ad σ q k x :: sn_fs ad σ q (k + 1) r
def sn_av (ad : Nat → Nat) (σ : sn_S) (q n : Nat) (rs : List Nat) : Nat → vp_A
  | 0 => (n, .inl (sn_I σ q))
  | 1 => (n, .inr (.inl (sn_L σ q)))
  | 2 => (n, .inr (.inr (.inr (.inr (fun j => (rs[j]?).map ad)))))
  | _ => (n, .inr (.inr (.inr (.inr (fun j => (sn_R σ q j).map ad)))))
def sn_ev (ct : Nat → ClassId) (ad : Nat → Nat) (σ : sn_S) (q : Nat) : sn_E → va_E
  | .inl (t, n, kd, rs) => .inl (ct t, sn_av ad σ q n rs kd)
  | .inr (ci, fs) => .inr (ci, sn_fs ad σ q 0 fs)
def sn_W (ct : Nat → ClassId) (ad : Nat → Nat) (σ : sn_S) : Nat → List sn_E → va_W
  | _, [] => []
  | k, x :: r => (ad k, sn_ev ct ad σ k x) :: sn_W ct ad σ (k + 1) r
/-- two states that agree in a place -/
def sn_ag (σ τ : sn_S) (q : Nat) : Prop := σ.1 q = τ.1 q ∧ σ.2.1 q = τ.2.1 q ∧ σ.2.2 q = τ.2.2 q
theorem sn_fs_ag {ad : Nat → Nat} {σ τ : sn_S} {q : Nat} (h : sn_ag σ τ q) (fs : List Nat) : ∀ k, sn_fs ad σ q k fs = sn_fs ad τ q k fs := by
  induction fs with
  | nil => intro k; rfl
  | cons x r ih =>
    intro k
    show sn_fv ad σ q k x :: _ = sn_fv ad τ q k x :: _
    rw [ih (k + 1)]
    congr 1
    match x with
    | 0 => show Value.int (σ.1 q k) = Value.int (τ.1 q k); rw [h.1]
    | 1 => show Value.long (σ.2.1 q k) = Value.long (τ.2.1 q k); rw [h.2.1]
    | 2 => show va_rf ((σ.2.2 q k).map ad) = va_rf ((τ.2.2 q k).map ad); rw [h.2.2]
    | x + 3 => rfl
theorem sn_ev_ag {ct : Nat → ClassId} {ad : Nat → Nat} {σ τ : sn_S} {q : Nat} (h : sn_ag σ τ q) (x : sn_E) : sn_ev ct ad σ q x = sn_ev ct ad τ q x := by
  match x with
  | .inl (t, n, kd, rs) =>
    show Sum.inl (ct t, sn_av ad σ q n rs kd) = Sum.inl (ct t, sn_av ad τ q n rs kd)
    congr 2
    match kd with
    | 0 => show (n, Sum.inl (σ.1 q)) = (n, Sum.inl (τ.1 q)); rw [h.1]
    | 1 => show (n, Sum.inr (Sum.inl (σ.2.1 q))) = (n, Sum.inr (Sum.inl (τ.2.1 q))); rw [h.2.1]
    | 2 => rfl
    | kd + 3 => show (n, Sum.inr (Sum.inr (Sum.inr (Sum.inr (fun j => (σ.2.2 q j).map ad))))) = (n, Sum.inr (Sum.inr (Sum.inr (Sum.inr (fun j => (τ.2.2 q j).map ad))))); rw [h.2.2]
  | .inr (ci, fs) =>
    show Sum.inr (ci, sn_fs ad σ q 0 fs) = Sum.inr (ci, sn_fs ad τ q 0 fs)
    rw [sn_fs_ag h]
theorem sn_W_ag {ct : Nat → ClassId} {ad : Nat → Nat} {σ τ : sn_S} (lay : List sn_E) : ∀ k, (∀ a, k ≤ a → sn_ag σ τ a) → sn_W ct ad σ k lay = sn_W ct ad τ k lay := by
  induction lay with
  | nil => intro k _; rfl
  | cons x r ih =>
    intro k h
    show (ad k, sn_ev ct ad σ k x) :: _ = (ad k, sn_ev ct ad τ k x) :: _
    rw [ih (k + 1) (fun a ha => h a (by omega)), sn_ev_ag (h k (Nat.le_refl k))]
theorem sn_W_get {ct : Nat → ClassId} {ad : Nat → Nat} {σ : sn_S} : ∀ {lay : List sn_E} (k : Nat) {q : Nat} {x : sn_E}, lay[q]? = some x → (sn_W ct ad σ k lay)[q]? = some (ad (k + q), sn_ev ct ad σ (k + q) x) := by
  intro lay
  induction lay with
  | nil => intro k q x h; simp at h
  | cons y r ih =>
    intro k q x h
    match q with
    | 0 =>
      simp at h
      subst h
      rfl
    | q + 1 =>
      have h1 : r[q]? = some x := by simpa using h
      have h2 := ih (k + 1) h1
      show (sn_W ct ad σ (k + 1) r)[q]? = _
      rw [h2, show k + 1 + q = k + (q + 1) by omega]
theorem sn_W_set {ct : Nat → ClassId} {ad : Nat → Nat} {σ τ : sn_S} : ∀ {lay : List sn_E} (k : Nat) {q : Nat} {x : sn_E}, lay[q]? = some x → (∀ a, a ≠ k + q → sn_ag σ τ a) → (sn_W ct ad σ k lay).set q (ad (k + q), sn_ev ct ad τ (k + q) x) = sn_W ct ad τ k lay := by
  intro lay
  induction lay with
  | nil => intro k q x h; simp at h
  | cons y r ih =>
    intro k q x h ha
    match q with
    | 0 =>
      simp at h
      subst h
      show (ad k, sn_ev ct ad τ k y) :: sn_W ct ad σ (k + 1) r = (ad k, sn_ev ct ad τ k y) :: sn_W ct ad τ (k + 1) r
      rw [sn_W_ag r (k + 1) (fun a h => ha a (by omega))]
    | q + 1 =>
      have h1 : r[q]? = some x := by simpa using h
      have h2 := ih (k + 1) h1 (fun a h => ha a (by omega))
      show (ad k, sn_ev ct ad σ k y) :: (sn_W ct ad σ (k + 1) r).set q _ = (ad k, sn_ev ct ad τ k y) :: sn_W ct ad τ (k + 1) r
      rw [show k + (q + 1) = k + 1 + q by omega, h2, sn_ev_ag (ha k (by omega))]
theorem sn_fs_get {ad : Nat → Nat} {σ : sn_S} {q : Nat} : ∀ {fs : List Nat} (j : Nat) {k x : Nat}, fs[k]? = some x → (sn_fs ad σ q j fs)[k]? = some (sn_fv ad σ q (j + k) x) := by
  intro fs
  induction fs with
  | nil => intro j k x h; simp at h
  | cons y r ih =>
    intro j k x h
    match k with
    | 0 =>
      simp at h
      subst h
      rfl
    | k + 1 =>
      have h1 : r[k]? = some x := by simpa using h
      have h2 := ih (j + 1) h1
      show (sn_fs ad σ q (j + 1) r)[k]? = _
      rw [h2, show j + 1 + k = j + (k + 1) by omega]
theorem sn_fs_len {ad : Nat → Nat} {σ : sn_S} {q : Nat} : ∀ (fs : List Nat) (j : Nat), (sn_fs ad σ q j fs).length = fs.length := by
  intro fs
  induction fs with
  | nil => intro j; rfl
  | cons y r ih => intro j; show (sn_fs ad σ q (j + 1) r).length + 1 = r.length + 1; rw [ih]
/-- two states that agree in a place but for a slot -/
def sn_ags (σ τ : sn_S) (q k : Nat) : Prop := ∀ b, b ≠ k → σ.1 q b = τ.1 q b ∧ σ.2.1 q b = τ.2.1 q b ∧ σ.2.2 q b = τ.2.2 q b
theorem sn_fs_ag2 {ad : Nat → Nat} {σ τ : sn_S} {q k : Nat} (h : sn_ags σ τ q k) : ∀ (fs : List Nat) (j : Nat), k < j → sn_fs ad σ q j fs = sn_fs ad τ q j fs := by
  intro fs
  induction fs with
  | nil => intro j _; rfl
  | cons x r ih =>
    intro j hj
    show sn_fv ad σ q j x :: _ = sn_fv ad τ q j x :: _
    rw [ih (j + 1) (by omega)]
    congr 1
    obtain ⟨h1, h2, h3⟩ := h j (by omega)
    match x with
    | 0 => show Value.int (σ.1 q j) = Value.int (τ.1 q j); rw [h1]
    | 1 => show Value.long (σ.2.1 q j) = Value.long (τ.2.1 q j); rw [h2]
    | 2 => show va_rf ((σ.2.2 q j).map ad) = va_rf ((τ.2.2 q j).map ad); rw [h3]
    | x + 3 => rfl
theorem sn_fs_set {ad : Nat → Nat} {σ τ : sn_S} {q : Nat} : ∀ {fs : List Nat} (j : Nat) {k x : Nat}, fs[k]? = some x → sn_ags σ τ q (j + k) → (sn_fs ad σ q j fs).set k (sn_fv ad τ q (j + k) x) = sn_fs ad τ q j fs := by
  intro fs
  induction fs with
  | nil => intro j k x h; simp at h
  | cons y r ih =>
    intro j k x h ha
    match k with
    | 0 =>
      simp at h
      subst h
      show sn_fv ad τ q j y :: sn_fs ad σ q (j + 1) r = sn_fv ad τ q j y :: sn_fs ad τ q (j + 1) r
      rw [sn_fs_ag2 ha r (j + 1) (by omega)]
    | k + 1 =>
      have h1 : r[k]? = some x := by simpa using h
      have h2 := ih (j + 1) h1 (by rw [show j + 1 + k = j + (k + 1) by omega]; exact ha)
      show sn_fv ad σ q j y :: (sn_fs ad σ q (j + 1) r).set k _ = sn_fv ad τ q j y :: sn_fs ad τ q (j + 1) r
      rw [show j + (k + 1) = j + 1 + k by omega, h2]
      congr 1
      obtain ⟨h3, h4, h5⟩ := ha j (by omega)
      match y with
      | 0 => show Value.int (σ.1 q j) = Value.int (τ.1 q j); rw [h3]
      | 1 => show Value.long (σ.2.1 q j) = Value.long (τ.2.1 q j); rw [h4]
      | 2 => show va_rf ((σ.2.2 q j).map ad) = va_rf ((τ.2.2 q j).map ad); rw [h5]
      | y + 3 => rfl
/-! the tables' words that every method may use -/
def sn_gw : List Cond := lw_tbl.filter goodWord
theorem sn_gwI {w : Cond} (h : w ∈ tables_1) (g : goodWord w = true) : w ∈ sn_gw := List.mem_filter.mpr ⟨List.mem_append_right _ h, g⟩
theorem sn_gwS {q : MethodName × Nat} (h : q ∈ lw_privs) (g : goodWord (Cond.selects q.1.cls q.1 q.1) = true) : Cond.selects q.1.cls q.1 q.1 ∈ sn_gw :=
  List.mem_filter.mpr ⟨List.mem_append_left _ (List.mem_map.mpr ⟨q, h, rfl⟩), g⟩
theorem sn_good {ws : List Cond} (h : ∀ w ∈ ws, w ∈ sn_gw) : GoodIn sn_gw ws := fun w hw => ⟨h w hw, good_of_word (List.mem_filter.mp (h w hw)).2⟩
abbrev sn_tys (ct : Nat → ClassId) : List (ClassId × FieldType) := [(ct 0, .int), (ct 1, .boolean), (ct 2, .byte), (ct 3, .long), (ct 4, .object "PepperPolicy$House"), (ct 5, .array .long)]
/-! what lies besides the world and stays: the words' texts, two statics of the JDK -/
def sn_len : List Nat := [5, 7, 4, 3, 5, 4, 4, 4, 3, 6, 5, 2, 4, 2, 3, 4]
def sn_byt : List (List Int32) := [[104, 111, 117, 115, 101], [109, 105, 110, 117, 116, 101, 115], [100, 117, 115, 116], [108, 97, 119], [109, 111, 110, 101, 121], [111, 100, 100, 115], [110, 111, 115, 101], [103, 117, 115, 116], [110, 101, 116], [112, 111, 108, 105, 99, 121], [104, 111, 108, 100, 115], [97, 116], [102, 114, 111, 109], [116, 111], [115, 117, 109], [112, 97, 121, 115]]
def sn_strs : List (String × Nat × String × Nat) := [(RX5, 52, "house", 0), (RX5, 58, "minutes", 1), (RX5, 64, "dust", 2), (RX5, 66, "law", 3), (RX5, 68, "money", 4), (RX5, 70, "odds", 5), (RX5, 75, "nose", 6), (RX5, 85, "gust", 7), (RX5, 90, "net", 8), (RX5, 95, "policy", 9), (RX5, 106, "holds", 10), (RX5, 111, "at", 11), (RX5, 119, "from", 12), (RX5, 121, "to", 13), (RX5, 123, "sum", 14), (RX5, 125, "pays", 15), (RX9, 175, "house", 0), (RX9, 177, "minutes", 1), (RX9, 183, "dust", 2), (RX9, 185, "law", 3), (RX9, 187, "money", 4), (RX9, 189, "odds", 5), (RX9, 198, "nose", 6), (RX9, 200, "gust", 7), (RX9, 202, "net", 8), (RX9, 204, "policy", 9), (RX9, 206, "holds", 10), (RX9, 208, "at", 11), (RX9, 191, "from", 12), (RX9, 192, "to", 13), (RX9, 194, "sum", 14), (RX9, 196, "pays", 15)]
def sn_nest : List (String × Nat × MethodName × String) := [(RX8, 9, yX2_init, RX8), (RX8, 29, yX5_init, RX8), (RX8, 43, yX0_init, RX8), (RX8, 53, yX3_init, RX8), (RX8, 60, yX1_init, RX8), (RX8, 67, yX7_init, RX8), (RX8, 74, yX4_init, RX8), (RX4, 17, yX0_init, RX8), (RX4, 24, yX3_init, RX8), (RX0, 87, yX8_firstMinutes, RX8), (RX0, 98, yX8_hasBit, RX8), (RX3, 50, yX8_lowestBit, RX8), (RX3, 71, yX8_firstMinutes, RX8), (RX7, 41, yX8_firstMinutes, RX8), (RX4, 47, yX8_lowestBit, RX8), (RX4, 54, yX8_hasBit, RX8)]
def sn_bg (ad : Nat → Nat) (A : Nat → Prop) (U : State) (H : Heap) : Prop := (∀ k, k < 16 → vk_S 1 [sn_len.getD k 0] [sn_byt.getD k []] (fun _ => ad (1000 + k)) (fun _ => ad (2000 + k)) A U H) ∧ (∀ z ∈ sn_strs, vk_R z.1 z.2.1 z.2.2.1 (ad (1000 + z.2.2.2)) U) ∧ va_Z "java/lang/String" "COMPACT_STRINGS" "Z" (.int 1) A U H ∧ va_Zq "jdk/internal/util/Preconditions" "SIOOBE_FORMATTER" "Ljava/util/function/BiFunction;" A U H ∧ ∀ z ∈ sn_nest, va_Nw (.methodLinkNest z.1 z.2.1 z.2.2.1 z.2.2.2) U
theorem sn_bg_warm {ad : Nat → Nat} {A : Nat → Prop} {s U : State} {H : Heap} (hW : s.WarmedH U.vm) (h : sn_bg ad A s H) : sn_bg ad A U H := ⟨fun k hk => (h.1 k hk).moved hW.alike, fun z hz => (h.2.1 z hz).warm hW, h.2.2.1.moved hW.alike, h.2.2.2.1.moved hW.alike, fun z hz => (h.2.2.2.2 z hz).warmM hW⟩
theorem sn_bg_same {ad : Nat → Nat} {A : Nat → Prop} {s U : State} {H : Heap} (hv : U.vm = s.vm) (h : sn_bg ad A s H) : sn_bg ad A U H := ⟨fun k hk => (h.1 k hk).moved (by rw [hv]; exact Vm.Alike.refl _), fun z hz => (h.2.1 z hz).same hv, h.2.2.1.moved (by rw [hv]; exact Vm.Alike.refl _), h.2.2.2.1.moved (by rw [hv]; exact Vm.Alike.refl _), fun z hz => (h.2.2.2.2 z hz).same rfl hv.symm⟩
theorem sn_bg_kept {ad : Nat → Nat} {A : Nat → Prop} {s : State} {H H1 : Heap} (h : sn_bg ad A s H) (hq : ∀ a : Nat, a < H.size → ¬ A a → H1[a]? = H[a]?) : sn_bg ad A s H1 := ⟨fun k hk => (h.1 k hk).kept hq, h.2.1, h.2.2.1.kept hq, h.2.2.2.1.kept hq, h.2.2.2.2⟩
/-- where a method stands: the machine, its own code, the tables' words, the classes -/
def sn_C (p : Program) (s : State) (m : MethodId) (args : Array Value) (meth : Method) (c : Code) (own : String) (cc : ByteArray) (nL : Nat) (ret : Option FieldType) (D : va_G) (ct : Nat → ClassId) (ad : Nat → Nat) (lay : List sn_E) (A : Nat → Prop) : Prop :=
  p.tables.exec = Jvm.exec ∧ c.code = cc ∧ c.maxLocals = nL ∧ s.vm.findClass own = some m.cls ∧ (∀ w ∈ sn_gw, w.before args s = true) ∧ meth.sig.returnType = ret ∧ meth.locks = false ∧ va_K D vwCl (sn_tys ct) s ∧ (∀ σ, va_D A (sn_W ct ad σ 0 lay)) ∧ sn_bg ad A s s.heap
/-- the heap holds the world, in this state -/
def sn_H (s : State) (D : va_G) (ct : Nat → ClassId) (ad : Nat → Nat) (lay : List sn_E) (A : Nat → Prop) (σ : sn_S) (H : Heap) (locs : List Loc) : Prop :=
  va_P D vwCl (sn_W ct ad σ 0 lay) H ∧ va_S A s.heap H locs
/-- a field by the class's pool -/
def sn_Fd (own : String) (index ci k : Nat) : Prop := ∃ (C : String) (T : u_T) (N : Nat), vwCl[ci]? = some (C, T, N) ∧ (∀ w ∈ u_ws C T N, w ∈ sn_gw) ∧ k < N ∧ Cond.fieldLink own index (T k).1 (T k).2.1 (T k).2.2.1 ∈ sn_gw
def sn_Fp (own : String) (index ci k : Nat) (ty : FieldType) : Prop := ∃ (C : String) (T : u_T) (N : Nat) (ty0 : Nat → FieldType), vwCl[ci]? = some (C, T, N) ∧ (∀ w ∈ u_ws C T N, w ∈ sn_gw) ∧ k < N ∧ Cond.fieldLink own index (T k).1 (T k).2.1 (T k).2.2.1 ∈ sn_gw ∧ (∀ k, k < N → parseFieldDescriptor (T k).2.2.1 = some (ty0 k)) ∧ (∀ a, a < N → ∀ b, b < N → a ≠ b → (T a).2.1 ≠ (T b).2.1) ∧ (T k).2.2.2 = false ∧ parseFieldDescriptor (T k).2.2.1 = some ty
def sn_in (i : Int32) (n : Nat) : Bool := decide (0 ≤ i) && decide (i.toNatClampNeg < n)
theorem sn_in_spec {i : Int32} {n : Nat} (h : sn_in i n = true) : vp_in i n := by
  unfold sn_in at h
  simp only [Bool.and_eq_true, decide_eq_true_eq] at h
  unfold vp_in
  intro q
  rcases q with q | q
  · exact absurd q (Int32.not_lt.mpr h.1)
  · omega
def sn_b01 (v : Int32) : Bool := v == 0 || v == 1
def sn_gd {α : Type} (b : Bool) (k : Option α) : Option α := if b = true then k else none
theorem sn_gdE {α : Type} {b : Bool} {k : Option α} {o : α} (h : sn_gd b k = some o) : b = true ∧ k = some o := by
  unfold sn_gd at h
  split at h
  · exact ⟨by assumption, h⟩
  · cases h
theorem sn_gdT {α : Type} {b : Bool} (k : Option α) (h : b = true) : sn_gd b k = k := if_pos h
theorem sn_bd {α β : Type} {x : Option α} {g : α → Option β} {o : β} (h : x.bind g = some o) : ∃ r, x = some r ∧ g r = some o := by
  cases x with
  | none => cases h
  | some r => exact ⟨r, rfl, h⟩
theorem sn_if {α : Type} {c : Prop} [Decidable c] {a b : Option α} {o : α} (hc : c) (h : (if c then a else b) = some o) : a = some o := by rw [if_pos hc] at h; exact h
theorem sn_el {α : Type} {c : Prop} [Decidable c] {a b : Option α} {o : α} (hc : ¬ c) (h : (if c then a else b) = some o) : b = some o := by rw [if_neg hc] at h; exact h
/-- a loop: its body goes on with a state, or ends with a result -/
def sn_it {S T : Type} (f : S → Option (S ⊕ T)) : Nat → S → Option T
  | 0, _ => none
  | n + 1, s => match f s with
    | none => none
    | some (.inl s') => sn_it f n s'
    | some (.inr t) => some t
theorem sn_loop {S T : Type} {f : S → Option (S ⊕ T)} {G : S → Prop} {E : T → Prop} (body : ∀ s o, f s = some o → (∀ s', o = .inl s' → G s') → (∀ t, o = .inr t → E t) → G s) : ∀ (n : Nat) (s : S) (t : T), sn_it f n s = some t → E t → G s := by
  intro n
  induction n with
  | zero => intro s t h _; cases h
  | succ n ih =>
    intro s t h he
    unfold sn_it at h
    cases hf : f s with
    | none => rw [hf] at h; cases h
    | some o =>
      rw [hf] at h
      match o, hf, h with
      | .inl s', hf, h => exact body s _ hf (fun s'' e => by cases e; exact ih s' t h he) (fun t' e => by cases e)
      | .inr t', hf, h =>
        have e1 : t' = t := Option.some.inj h
        subst e1
        exact body s _ hf (fun s'' e => by cases e) (fun t'' e => by cases e; exact he)
def sn_lt {α β : Type} (v : α) (g : α → Option β) : Option β := g v
theorem sn_ltE {α β : Type} {v : α} {g : α → Option β} {o : Option β} (h : sn_lt v g = o) : ∃ y, y = v ∧ g y = o := ⟨v, rfl, h⟩
theorem sn_nz {y : Int32} (h : (y != 0) = true) : ¬ y = 0 := by simpa using h
theorem sn_nzL {y : Int64} (h : (y != 0) = true) : ¬ y = 0 := by simpa using h
